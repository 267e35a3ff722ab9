/-! ===== the class on a fresh object ===== -/
/-- a machine of one state with no move -/
def x_M (g : tw_G) (y : Nat) (σ : tw_S) : Prop := tw_I σ y 1 = 1 ∧ ∀ j, j < 16 → tw_A σ (tw_R g y 0) j = -1
section X1
variable {g : tw_G} {τ σ σ2 : tw_S} {a0 y : Nat}
theorem x_isMachine {x : Int32} {Q : Int32 → tw_S → Prop} (h1 : inI x 0 1 → Q 1 σ) (h0 : ¬ inI x 0 1 → Q 0 σ) : wp_X8_isMachine g σ x Q := by
  unfold wp_X8_isMachine
  have e0 : (0 : Int32).toInt = 0 := rfl
  have e2 : (2 : Int32).toInt = 2 := rfl
  simp only [i_lt, i_le, e0, e2]
  exact ⟨fun c => h0 (fun z => by have := z.1; omega), fun c => ⟨fun c2 => h0 (fun z => by have := z.2; omega), fun c2 => h1 ⟨by omega, by omega⟩⟩⟩
theorem x_isSign {x : Int32} {Q : Int32 → tw_S → Prop} (h1 : inI x 0 3 → Q 1 σ) (h0 : ¬ inI x 0 3 → Q 0 σ) : wp_X8_isSign g σ x Q := by
  unfold wp_X8_isSign
  have e0 : (0 : Int32).toInt = 0 := rfl
  have e2 : (4 : Int32).toInt = 4 := rfl
  simp only [i_lt, i_le, e0, e2]
  exact ⟨fun c => h0 (fun z => by have := z.1; omega), fun c => ⟨fun c2 => h0 (fun z => by have := z.2; omega), fun c2 => h1 ⟨by omega, by omega⟩⟩⟩
theorem x_isSide {x : Int32} {Q : Int32 → tw_S → Prop} (h1 : inI x 0 1 → Q 1 σ) (h0 : ¬ inI x 0 1 → Q 0 σ) : wp_X8_isSide g σ x Q := by
  unfold wp_X8_isSide
  have e0 : (0 : Int32).toInt = 0 := rfl
  have e2 : (1 : Int32).toInt = 1 := rfl
  simp only [i_eq, e0, e2]
  exact ⟨fun c => h1 ⟨by omega, by omega⟩, fun c => ⟨fun c2 => h0 (fun z => by have := z.1; have := z.2; omega), fun c2 => h1 ⟨by omega, by omega⟩⟩⟩
theorem x_hasState (hs : tw_I σ y 1 = 1) {x : Int32} {Q : Int32 → tw_S → Prop} (h1 : inI x 0 0 → Q 1 σ) (h0 : ¬ inI x 0 0 → Q 0 σ) : wp_X3_hasState g σ y x Q := by
  unfold wp_X3_hasState
  rw [hs]
  have e0 : (0 : Int32).toInt = 0 := rfl
  have e2 : (1 : Int32).toInt = 1 := rfl
  simp only [i_lt, i_le, e0, e2]
  exact ⟨fun c => h0 (fun z => by have := z.1; omega), fun c => ⟨fun c2 => h0 (fun z => by have := z.2; omega), fun c2 => h1 ⟨by omega, by omega⟩⟩⟩
theorem x_at0 {b q : Nat} (hq : q < 2) {Q : Nat → tw_S → Prop} (h : Q (tw_R g b q) σ) : wp_X0_at g σ b (nI q) Q := by
  unfold wp_X0_at
  have h2 : q = 0 ∨ q = 1 := by omega
  rcases h2 with rfl | rfl
  · exact ⟨fun c => absurd rfl c, fun _ => h⟩
  · exact ⟨fun _ => h, fun c => absurd c (by decide)⟩
theorem x_c4 : ∀ i, i < 4 → ((4 : Int32) * nI 0) + nI i = nI i := by decide
theorem x_c40 : ∀ i, i < 4 → ((4 : Int32) * 0) + nI i = nI i := by decide
theorem x_at (hM : x_M g y σ) {s c : Int32} {Q : Int32 → tw_S → Prop} (hQ : Q (-1) σ) : wp_X3_at g σ y s c Q := by
  unfold wp_X3_at
  rw [hM.1]
  refine ⟨fun _ => hQ, fun c1 => ⟨fun _ => hQ, fun c2 => ?_⟩⟩
  have c1 : inI s 0 0 := by
    rw [i_lt] at c1
    rw [i_le] at c2
    have e0 : (0 : Int32).toInt = 0 := rfl
    have e2 : (1 : Int32).toInt = 1 := rfl
    exact ⟨by omega, by omega⟩
  obtain rfl := m_zero c1
  refine x_isSign (fun c3 => ⟨fun c => absurd c (by decide), fun _ => ?_⟩) (fun _ => ⟨fun _ => hQ, fun c => absurd rfl c⟩)
  obtain ⟨j, _, hj, rfl, _⟩ := inI_nI (lo := 0) (hi := 3) c3
  rw [x_c4 j (by omega), nI_clamp (by omega), hM.2 j (by omega)]
  exact ⟨vp_in_nI (by omega) (by decide), hQ⟩
theorem x_put (hs : tw_I σ y 1 = 1) {i : Nat} (hi : i < 4) {v : Int32} {Q : tw_S → Prop} (hQ : ∀ σ2, σ2 = tw_sA σ (tw_R g y 0) (upd (tw_A σ (tw_R g y 0)) i v) → Q σ2) : wp_X3_put g σ y 0 (nI i) v Q := by
  unfold wp_X3_put
  refine x_hasState hs (fun _ => ⟨fun c => absurd c (by decide), fun _ => ?_⟩) (fun c => absurd ⟨by decide, by decide⟩ c)
  refine x_isSign (fun c3 => ⟨fun c => absurd c (by decide), fun _ => ?_⟩) (fun c => absurd ⟨?_, ?_⟩ c)
  · rw [x_c40 i hi, nI_clamp (by omega)]
    exact ⟨vp_in_nI (by omega) (by decide), hQ⟩
  · rw [nI_toInt (by omega)]; omega
  · rw [nI_toInt (by omega)]; omega
theorem x_putAny (hs : tw_I σ y 1 = 1) {s c v : Int32} {Q : tw_S → Prop} (hQ : ∀ σ2, Q σ2) : wp_X3_put g σ y s c v Q := by
  unfold wp_X3_put
  refine x_hasState hs (fun c1 => ⟨fun c => absurd c (by decide), fun _ => ?_⟩) (fun _ => ⟨fun _ => hQ _, fun c => absurd rfl c⟩)
  refine x_isSign (fun c3 => ⟨fun c => absurd c (by decide), fun _ => ?_⟩) (fun _ => ⟨fun _ => hQ _, fun c => absurd rfl c⟩)
  obtain rfl := m_zero c1
  obtain ⟨j, _, hj, rfl, _⟩ := inI_nI (lo := 0) (hi := 3) c3
  rw [x_c4 j (by omega)]
  exact ⟨vp_in_nI (by omega) (by decide), fun _ _ => hQ _⟩
theorem x_cpy {f h : Nat → Int32} {j : Nat} (hj : j < 16) : va_cpy f h (0 : Int32).toNatClampNeg (0 : Int32).toNatClampNeg (16 : Int32).toNatClampNeg j = f j := by
  show (if 0 ≤ j ∧ j < 0 + 16 then f (0 + (j - 0)) else h j) = f j
  rw [if_pos (by omega)]
  congr 1
  omega
theorem x_become {a1 : Nat} (h1 : x_M g a1 σ) {Q : tw_S → Prop} (hQ : ∀ σ2, (∀ z, x_M g z σ → x_M g z σ2) → x_M g y σ2 → (∀ b k, k ≠ 1 → tw_I σ2 b k = tw_I σ b k) → (∀ b, tw_I σ b 1 = 1 → tw_I σ2 b 1 = 1) → (∀ r, r ≠ tw_R g y 0 → tw_A σ2 r = tw_A σ r) → Q σ2) : wp_X3_become g σ y a1 Q := by
  unfold wp_X3_become
  intro σ1 e1 σ3 e3
  have i3 : ∀ b k, tw_I σ3 b k = if b = y then (if k = 1 then 1 else tw_I σ b k) else tw_I σ b k := by
    intro b k
    rw [e3, tw_I_sA, e1, tw_I_sI, h1.1]
  have a3 : ∀ r, tw_A σ3 r = if r = tw_R g y 0 then va_cpy (tw_A σ (tw_R g a1 0)) (tw_A σ (tw_R g y 0)) (0 : Int32).toNatClampNeg (0 : Int32).toNatClampNeg (16 : Int32).toNatClampNeg else tw_A σ r := by
    intro r
    rw [e3, tw_A_sA, e1]
    rfl
  have p1 : ∀ b, tw_I σ b 1 = 1 → tw_I σ3 b 1 = 1 := by
    intro b hb
    rw [i3, if_pos rfl, hb]
    split <;> rfl
  refine hQ σ3 ?_ ⟨?_, ?_⟩ ?_ p1 ?_
  · intro z hz
    refine ⟨p1 z hz.1, fun j hj => ?_⟩
    rw [a3]
    split
    · rw [x_cpy hj]; exact h1.2 j hj
    · exact hz.2 j hj
  · rw [i3, if_pos rfl, if_pos rfl]
  · intro j hj
    rw [a3, if_pos rfl, x_cpy hj]
    exact h1.2 j hj
  · intro b k hk
    rw [i3, if_neg hk]
    split <;> rfl
  · intro r hr
    rw [a3, if_neg hr]
theorem x_becomeAny {a1 : Nat} {Q : tw_S → Prop} (hQ : ∀ σ2, Q σ2) : wp_X3_become g σ y a1 Q := fun _ _ _ _ => hQ _
theorem x_remember {h b : Nat} (hM0 : x_M g (tw_R g b 0) σ) (hM1 : x_M g (tw_R g b 1) σ) (h2 : tw_I σ h 2 = 0) {Q : tw_S → Prop} (hQ : ∀ σ2, (∀ z, z ≠ h → x_M g z σ → x_M g z σ2) → Q σ2) : wp_X2_remember g σ h b Q := by
  unfold wp_X2_remember wp_X2_slotAt
  rw [h2]
  refine ⟨fun c => absurd c (by decide), fun _ => ⟨fun c => absurd c (by decide), fun _ => ⟨by unfold vp_in; decide, ?_⟩⟩⟩
  refine ⟨fun c => (nomatch c), fun y2 _ => ?_⟩
  unfold wp_X0_become
  refine x_become hM0 fun σ3 k3 _ _ _ _ => ?_
  refine x_become (k3 _ hM1) fun σ4 k4 _ _ _ _ => ?_
  intro z9 _ σ10 e10 z11 _ σ12 e12
  refine hQ σ12 fun z hz hm => ?_
  have hm := k4 z (k3 z hm)
  refine ⟨?_, fun j hj => ?_⟩
  · rw [e12, tw_I_sI, if_neg hz, e10, tw_I_sI, if_neg hz]; exact hm.1
  · rw [e12, tw_A_sI, e10, tw_A_sI]; exact hm.2 j hj
theorem x_empty {Q : tw_S → Prop} (hQ : ∀ σ2, x_M g y σ2 → (∀ z, x_M g z σ → x_M g z σ2) → (∀ b k, b ≠ y → tw_I σ2 b k = tw_I σ b k) → Q σ2) : wp_X3_empty g σ y 1 Q := by
  unfold wp_X3_empty
  intro z1 e1 z2 e2 σ3 e3
  have e2 : z2 = 1 := by rw [e2, e1]; decide
  refine wf_fill g σ3 _ 16 _ _ (by decide) ?_
  refine hQ _ ⟨?_, fun j hj => ?_⟩ (fun z hz => ⟨?_, fun j hj => ?_⟩) (fun b k hb => ?_)
  · rw [tw_I_sA, e3, tw_I_sI, if_pos rfl, if_pos rfl, e2]
  · rw [tw_A_sA, if_pos rfl, if_pos hj]
  · rw [tw_I_sA, e3, tw_I_sI, if_pos rfl, e2, hz.1]; split <;> rfl
  · rw [tw_A_sA]
    split
    · exact if_pos hj
    · rw [e3]; exact hz.2 j hj
  · rw [tw_I_sA, e3, tw_I_sI, if_neg hb]
theorem x_emptyAny {n : Int32} {Q : tw_S → Prop} (hQ : ∀ σ2, Q σ2) : wp_X3_empty g σ y n Q := by
  unfold wp_X3_empty
  intro z1 e1 z2 e2 σ3 e3
  exact wf_fill g σ3 _ 16 _ _ (by decide) (hQ _)
end X1
section X2
variable {g : tw_G} {τ σ σ2 : tw_S} {a0 y : Nat}
theorem x1_feed (h4 : tw_I σ (tw_R g a0 4) 1 = 0) {x : Int32} {Q : Int32 → tw_S → Prop} (hQ : ∀ σ2, Q (f_feed x) σ2) : wp_X8_feed g σ a0 x Q := by
  unfold wp_X8_feed
  have e0 : (0 : Int32).toInt = 0 := rfl
  have e2 : (255 : Int32).toInt = 255 := rfl
  by_cases c1 : inI x 0 255
  · have e : f_feed x = 1 := if_pos c1
    rw [e] at hQ
    refine ⟨fun c => ?_, fun _ => ⟨fun _ => ?_, fun c => ?_⟩⟩
    · rw [i_lt] at c; have := c1.1; omega
    · unfold wp_X6_add
      rw [h4]
      refine ⟨fun c => absurd c (by decide), fun _ => ⟨fun _ => ⟨by unfold vp_in; decide, fun σ4 e4 σ5 e5 => ⟨fun c => absurd c (by decide), fun _ => ?_⟩⟩, fun c => absurd (by decide) c⟩⟩
      unfold wp_X6_length
      have : tw_I σ5 (tw_R g a0 4) 1 = 1 := by
        rw [e5, tw_I_sI, if_pos rfl, if_pos rfl, e4, tw_I_sA, h4]; rfl
      rw [this]
      exact hQ _
    · rw [i_le] at c; have := c1.2; omega
  · have e : f_feed x = (-1000000002) := if_neg c1
    rw [e] at hQ
    refine ⟨fun _ => hQ _, fun c => ⟨fun c2 => ?_, fun _ => hQ _⟩⟩
    rw [i_lt] at c
    rw [i_le] at c2
    exact absurd ⟨by omega, by omega⟩ c1
theorem x1_fault (h : tw_I σ a0 12 = -1) {Q : Int32 → tw_S → Prop} (hQ : ∀ σ2, Q (-1) σ2) : wp_X8_fault g σ a0 Q := by
  unfold wp_X8_fault
  rw [h]
  exact hQ _
theorem x_upcoming {t : Nat} (h1 : tw_I σ t 1 = 0) (h2 : tw_I σ t 2 = 0) {Q : Int32 → tw_S → Prop} (hQ : Q (-1) σ) : wp_X6_upcoming g σ t Q := by
  refine ⟨1, ?_⟩
  rw [wl_X6_upcoming_0, h1, h2]
  exact ⟨fun _ => ⟨fun _ => hQ, fun c => absurd (by decide) c⟩, fun c => absurd (by decide) c⟩
/-- what a call on the machines wants -/
def x_F (g : tw_G) (a0 : Nat) (σ : tw_S) : Prop := x_M g (tw_R g (tw_R g a0 0) 0) σ ∧ x_M g (tw_R g (tw_R g a0 0) 1) σ
def x_H (g : tw_G) (a0 : Nat) : Prop := tw_R g (tw_R g a0 0) 0 ≠ tw_R g a0 1 ∧ tw_R g (tw_R g a0 0) 1 ≠ tw_R g a0 1
theorem xF_q {q : Nat} (F : x_F g a0 σ) (hq : q < 2) : x_M g (tw_R g (tw_R g a0 0) q) σ := by
  have h2 : q = 0 ∨ q = 1 := by omega
  rcases h2 with rfl | rfl
  · exact F.1
  · exact F.2
theorem xH_q {q : Nat} (F : x_H g a0) (hq : q < 2) : tw_R g (tw_R g a0 0) q ≠ tw_R g a0 1 := by
  have h2 : q = 0 ∨ q = 1 := by omega
  rcases h2 with rfl | rfl
  · exact F.1
  · exact F.2
theorem x1_machine (F : x_F g a0 σ) (D : x_H g a0) (h4 : tw_I σ (tw_R g a0 4) 1 = 0) (hh : tw_I σ (tw_R g a0 1) 2 = 0) (d45 : tw_R g a0 4 ≠ tw_R g a0 5) (d15 : tw_R g a0 1 ≠ tw_R g a0 5) (d14 : tw_R g a0 1 ≠ tw_R g a0 4) (d1 : tw_R g a0 1 ≠ a0) (d4q : ∀ q, q < 2 → tw_R g (tw_R g a0 0) q ≠ tw_R g a0 4) (d54 : tw_R g a0 5 ≠ a0) (dq : ∀ q, q < 2 → tw_R g (tw_R g a0 0) q ≠ a0) {m : Int32} {Q : Int32 → tw_S → Prop} (hQ : ∀ σ2, Q (f_machine m) σ2) : wp_X8_machine g σ a0 m Q := by
  unfold wp_X8_machine
  refine x_isMachine (fun c1 => ?_) (fun c1 => ?_)
  · have e : f_machine m = 1 := if_pos c1
    rw [e] at hQ
    obtain ⟨q, hq, rfl⟩ := m_two c1
    refine ⟨fun _ => ?_, fun c => absurd c (by decide)⟩
    unfold wp_X6_readInto
    intro σ1 e1 σ2 e2
    have i2 : ∀ b k, b ≠ tw_R g a0 4 → tw_I σ2 b k = tw_I σ b k := fun b k hb => by rw [e2, tw_I_sI, if_neg hb, e1, tw_I_sI, if_neg hb]
    have s1 : tw_I σ2 (tw_R g a0 4) 1 = 0 := by rw [e2, tw_I_sI, if_pos rfl, if_neg (by decide), e1, tw_I_sI, if_pos rfl, if_neg (by decide), h4]
    have s2 : tw_I σ2 (tw_R g a0 4) 2 = 0 := by rw [e2, tw_I_sI, if_pos rfl, if_neg (by decide), e1, tw_I_sI, if_pos rfl, if_pos rfl]
    have s3 : tw_I σ2 (tw_R g a0 4) 3 = 0 := by rw [e2, tw_I_sI, if_pos rfl, if_pos rfl]
    have F2 : ∀ q, q < 2 → x_M g (tw_R g (tw_R g a0 0) q) σ2 := fun q hq => ⟨by rw [i2 _ _ (d4q q hq)]; exact (xF_q F hq).1, fun j hj => by rw [e2, tw_A_sI, e1, tw_A_sI]; exact (xF_q F hq).2 j hj⟩
    refine x_empty fun σ3 m3 k3 i3 => ?_
    rw [← i3 _ _ d45] at s1 s2 s3
    refine x_upcoming s1 s2 ⟨fun _ => ⟨1, ?_⟩, fun c => absurd rfl c⟩
    rw [wl_X6_readInto_30]
    refine ⟨fun c => absurd c (by decide), fun _ => ⟨fun c => absurd s3 c, fun _ => x_upcoming s1 s2 ⟨fun _ => ?_, fun c => absurd rfl c⟩⟩⟩
    rw [s3]
    refine ⟨fun c => absurd rfl c, fun _ σ18 e18 => ?_⟩
    unfold wp_X6_clear
    intro σ19 e19
    have k19 : ∀ z, z ≠ a0 → z ≠ tw_R g a0 4 → x_M g z σ3 → x_M g z σ19 := fun z hz hz4 hm => ⟨by rw [e19, tw_I_sI, if_neg hz4, e18, tw_I_sI, if_neg hz]; exact hm.1, fun j hj => by rw [e19, tw_A_sI, e18, tw_A_sI]; exact hm.2 j hj⟩
    have h19 : tw_I σ19 (tw_R g a0 1) 2 = 0 := by rw [e19, tw_I_sI, if_neg d14, e18, tw_I_sI, if_neg d1, i3 _ _ d15, i2 _ _ d14]; exact hh
    have G : ∀ q, q < 2 → x_M g (tw_R g (tw_R g a0 0) q) σ19 := fun q hq => k19 _ (dq q hq) (d4q q hq) (k3 _ (F2 q hq))
    have m19 := k19 _ d54 d45.symm m3
    refine x_remember (G 0 (by decide)) (G 1 (by decide)) h19 fun σ20 k20 => ⟨fun _ => ?_, fun c => absurd rfl c⟩
    have m20 := k20 _ d15.symm m19
    refine x_at0 hq ?_
    refine x_become m20 fun σ24 k24 _ _ _ _ => ?_
    unfold wp_X3_size
    rw [(k24 _ m20).1]
    exact hQ _
  · have e : f_machine m = (-1000000001) := if_neg c1
    rw [e] at hQ
    exact ⟨fun c => absurd rfl c, fun _ => hQ _⟩
theorem x_hasMoveOf (F : x_F g a0 σ) {m s c : Int32} {Q : Int32 → tw_S → Prop} (h1 : inI m 0 1 ∧ inI s 0 0 ∧ inI c 0 3 → Q 1 σ) (h0 : ¬ (inI m 0 1 ∧ inI s 0 0 ∧ inI c 0 3) → Q 0 σ) : wp_X8_hasMoveOf g σ a0 m s c Q := by
  unfold wp_X8_hasMoveOf
  refine x_isMachine (fun c1 => ⟨fun c => absurd c (by decide), fun _ => ?_⟩) (fun c1 => ⟨fun _ => h0 fun z => c1 z.1, fun c => absurd rfl c⟩)
  obtain ⟨q, hq, rfl⟩ := m_two c1
  refine x_at0 hq ?_
  refine x_hasState (xF_q F hq).1 (fun c2 => ⟨fun c => absurd c (by decide), fun _ => ?_⟩) (fun c2 => ⟨fun _ => h0 fun z => c2 z.2.1, fun c => absurd rfl c⟩)
  exact x_isSign (fun c3 => ⟨fun c => absurd c (by decide), fun _ => h1 ⟨c1, c2, c3⟩⟩) (fun c3 => ⟨fun _ => h0 fun z => c3 z.2.2, fun c => absurd rfl c⟩)
theorem x1_move (F : x_F g a0 σ) (D : x_H g a0) (hh : tw_I σ (tw_R g a0 1) 2 = 0) {m s c t d : Int32} {Q : Int32 → tw_S → Prop} (hQ : ∀ σ2, Q (f_move m s c t d) σ2) : wp_X8_move g σ a0 m s c t d Q := by
  unfold wp_X8_move
  refine x_hasMoveOf F (fun c1 => ⟨fun c => absurd c (by decide), fun _ => ?_⟩) (fun c1 => ⟨fun _ => ?_, fun c => absurd rfl c⟩)
  · obtain ⟨q, hq, rfl⟩ := m_two c1.1
    refine x_at0 hq ?_
    refine x_hasState (xF_q F hq).1 (fun c2 => ⟨fun _ => ?_, fun c => absurd c (by decide)⟩) (fun c2 => ⟨fun c => absurd rfl c, fun _ => ?_⟩)
    · refine x_isSide (fun c3 => ⟨fun _ => ?_, fun c => absurd c (by decide)⟩) (fun c3 => ⟨fun c => absurd rfl c, fun _ => ?_⟩)
      · have e : f_move (nI q) s c t d = -1 := by rw [f_move, if_pos ⟨c1.1, c1.2.1, c1.2.2, c2⟩, if_pos c3]
        rw [e] at hQ
        refine x_at0 hq ?_
        unfold wp_X8_change
        refine x_remember F.1 F.2 hh fun σ4 k4 => ?_
        have M4 := k4 _ (xH_q D hq) (xF_q F hq)
        exact x_at M4 (x_putAny M4.1 fun _ => hQ _)
      · have e : f_move (nI q) s c t d = (-1000000002) := by rw [f_move, if_pos ⟨c1.1, c1.2.1, c1.2.2, c2⟩, if_neg c3]
        rw [e] at hQ
        exact hQ _
    · have e : f_move (nI q) s c t d = (-1000000001) := if_neg fun z => c2 z.2.2.2
      rw [e] at hQ
      exact hQ _
  · have e : f_move m s c t d = (-1000000001) := if_neg fun z => c1 ⟨z.1, z.2.1, z.2.2.1⟩
    rw [e] at hQ
    exact hQ _
theorem x1_none (F : x_F g a0 σ) {m s c : Int32} {Q : Int32 → tw_S → Prop} (hQ : ∀ σ2, Q (f_none m s c) σ2) : wp_X8_none g σ a0 m s c Q := by
  unfold wp_X8_none
  refine x_hasMoveOf F (fun c1 => ⟨fun _ => ?_, fun c => absurd c (by decide)⟩) (fun c1 => ⟨fun c => absurd rfl c, fun _ => ?_⟩)
  · have e : f_none m s c = (-1000000003) := if_pos c1
    rw [e] at hQ
    obtain ⟨q, hq, rfl⟩ := m_two c1.1
    exact x_at0 hq (x_at (xF_q F hq) ⟨fun c => absurd rfl c, fun _ => hQ _⟩)
  · have e : f_none m s c = (-1000000001) := if_neg c1
    rw [e] at hQ
    exact hQ _
theorem x1_moveOf (F : x_F g a0 σ) {m s c : Int32} {Q : Int32 → tw_S → Prop} (hQ : ∀ σ2, Q (f_moveOf m s c) σ2) : wp_X8_moveOf g σ a0 m s c Q := by
  unfold wp_X8_moveOf
  refine x_hasMoveOf F (fun c1 => ⟨fun c => absurd c (by decide), fun _ => ?_⟩) (fun c1 => ⟨fun _ => ?_, fun c => absurd rfl c⟩)
  · have e : f_moveOf m s c = -1 := if_pos c1
    rw [e] at hQ
    obtain ⟨q, hq, rfl⟩ := m_two c1.1
    exact x_at0 hq (x_at (xF_q F hq) (hQ _))
  · have e : f_moveOf m s c = (-1000000001) := if_neg c1
    rw [e] at hQ
    exact hQ _
/-- two bounds as the class writes them -/
theorem x_bd {x lo hi : Int32} {a b : Int} {P1 P0 : Prop} (ha : lo.toInt = a) (hb : hi.toInt = b) (h1 : inI x a b → P1) (h0 : ¬ inI x a b → P0) : ((x < lo) → P0) ∧ (¬ (x < lo) → ((x ≤ hi) → P1) ∧ (¬ (x ≤ hi) → P0)) := by
  simp only [i_lt, i_le]
  refine ⟨fun c => h0 fun z => ?_, fun c => ⟨fun c2 => h1 ⟨by omega, by omega⟩, fun c2 => h0 fun z => ?_⟩⟩
  · have := z.1; omega
  · have := z.2; omega
theorem x1_states (F : x_F g a0 σ) (D : x_H g a0) (hh : tw_I σ (tw_R g a0 1) 2 = 0) {m n : Int32} {Q : Int32 → tw_S → Prop} (hQ : ∀ σ2, Q (f_states m n) σ2) : wp_X8_states g σ a0 m n Q := by
  unfold wp_X8_states
  refine x_isMachine (fun c1 => ⟨fun _ => ?_, fun c => absurd c (by decide)⟩) (fun c1 => ⟨fun c => absurd rfl c, fun _ => ?_⟩)
  · obtain ⟨q, hq, rfl⟩ := m_two c1
    refine x_bd (a := 1) (b := 4) rfl rfl (fun c2 => ?_) (fun c2 => ?_)
    · have e : f_states (nI q) n = 1 := by rw [f_states, if_pos c1, if_pos c2]
      rw [e] at hQ
      refine x_remember F.1 F.2 hh fun σ4 k4 => ?_
      have M4 := k4 _ (xH_q D hq) (xF_q F hq)
      refine x_at0 hq ?_
      unfold wp_X3_size
      rw [M4.1]
      exact x_at0 hq (x_emptyAny fun _ => hQ _)
    · have e : f_states (nI q) n = (-1000000002) := by rw [f_states, if_pos c1, if_neg c2]
      rw [e] at hQ
      exact hQ _
  · have e : f_states m n = (-1000000001) := if_neg c1
    rw [e] at hQ
    exact hQ _
theorem x1_swap (F : x_F g a0 σ) (D : x_H g a0) (hh : tw_I σ (tw_R g a0 1) 2 = 0) {Q : Int32 → tw_S → Prop} (hQ : ∀ σ2, Q 0 σ2) : wp_X8_swap g σ a0 Q := by
  unfold wp_X8_swap
  refine x_remember F.1 F.2 hh fun σ4 k4 => ?_
  have M0 := k4 _ D.1 F.1
  have M1 := k4 _ D.2 F.2
  refine x_at0 (q := 0) (by decide) (x_at0 (q := 1) (by decide) ?_)
  refine lp_up (I := fun _ σ => σ = σ4) 16 ?_ ?_ 0 (by decide) σ4 rfl
  · intro n i σ5 hi e5 ih
    subst e5
    rw [wl_X3_isLike_2, nI_1, nI_clamp (by omega), M0.2 i hi, M1.2 i hi]
    have v : vp_in (nI i) 16 := vp_in_nI hi (by decide)
    exact ⟨fun c => absurd c (nI_ge (b := 16) hi (by decide)), fun _ => ⟨v, v, fun _ => ih σ5 rfl, fun c => absurd rfl c⟩⟩
  · intro n σ5 e5
    subst e5
    rw [wl_X3_isLike_2]
    refine ⟨fun _ => ?_, fun c => absurd (nI_le (Nat.le_refl 16) (by decide)) c⟩
    rw [M0.1, M1.1]
    refine ⟨fun c => absurd rfl c, fun _ => ?_⟩
    unfold wp_X0_changePlaces
    exact x_becomeAny fun _ => x_becomeAny fun _ => x_becomeAny fun _ => ⟨fun c => absurd c (by decide), fun _ => hQ _⟩
theorem x1_undo (hh : tw_I σ (tw_R g a0 1) 1 = 0) {Q : Int32 → tw_S → Prop} (hQ : ∀ σ2, Q ((-1000000003)) σ2) : wp_X8_undo g σ a0 Q := by
  unfold wp_X8_undo wp_X2_stepBack
  exact ⟨fun c => absurd hh c, fun _ => ⟨fun _ => hQ _, fun c => absurd rfl c⟩⟩
theorem x1_letter (h6 : tw_I σ (tw_R g a0 6) 1 = 0) {x : Int32} {Q : Int32 → tw_S → Prop} (hQ : ∀ σ2, Q (f_letter x) σ2) : wp_X8_letter g σ a0 x Q := by
  have k : inI x 97 98 → ∀ v, wp_X7_add g σ (tw_R g a0 6) v (fun r3 σ2 => ((r3 = 0) → Q (-1000000004 : Int32) σ2) ∧ (¬ (r3 = 0) → wp_X7_length g σ2 (tw_R g a0 6) (fun r6 σ5 => Q r6 σ5))) := by
    intro c1 v
    have e : f_letter x = 1 := if_pos c1
    rw [e] at hQ
    unfold wp_X7_add
    rw [h6]
    refine ⟨fun c => absurd c (by decide), fun _ => ⟨fun _ => ⟨by unfold vp_in; decide, fun σ4 e4 σ5 e5 => ⟨fun c => absurd c (by decide), fun _ => ?_⟩⟩, fun c => absurd (by decide) c⟩⟩
    unfold wp_X7_length
    have : tw_I σ5 (tw_R g a0 6) 1 = 1 := by
      rw [e5, tw_I_sI, if_pos rfl, if_pos rfl, e4, tw_I_sA, h6]; rfl
    rw [this]
    exact hQ _
  unfold wp_X8_letter
  refine ⟨fun c => k ?_ _, fun c => ⟨fun c2 => k ?_ _, fun c2 => ?_⟩⟩
  · subst c; exact ⟨by decide, by decide⟩
  · subst c2; exact ⟨by decide, by decide⟩
  · have e : f_letter x = (-1000000002) := if_neg fun z => by
      rw [i_eq] at c c2
      have e1 : (97 : Int32).toInt = 97 := rfl
      have e2 : (98 : Int32).toInt = 98 := rfl
      have := z.1
      have := z.2
      omega
    rw [e] at hQ
    exact hQ _
theorem x1_table (F : x_F g a0 σ) (h6 : tw_I σ (tw_R g a0 6) 1 = 0) {m p r s d : Int32} {Q : Int32 → tw_S → Prop} (hQ : ∀ σ2, Q (f_table m s) σ2) : wp_X8_table g σ a0 m p r s d Q := by
  unfold wp_X8_table
  refine x_isMachine (fun c1 => ⟨fun c => absurd c (by decide), fun _ => ?_⟩) (fun c1 => ⟨fun _ => ?_, fun c => absurd rfl c⟩)
  · obtain ⟨q, hq, rfl⟩ := m_two c1
    refine x_at0 hq ?_
    refine x_hasState (xF_q F hq).1 (fun c2 => ⟨fun _ => ?_, fun c => absurd c (by decide)⟩) (fun c2 => ⟨fun c => absurd rfl c, fun _ => ?_⟩)
    · have e : f_table (nI q) s = (-1000000002) := if_pos ⟨c1, c2⟩
      rw [e] at hQ
      refine x_isSide (fun c3 => ⟨fun c => absurd c (by decide), fun _ => ?_⟩) (fun c3 => ⟨fun _ => hQ _, fun c => absurd rfl c⟩)
      unfold wp_X8_isPiece wp_X7_length
      rw [h6]
      have k : ((¬ (0 : Int32) = 0) → wp_X0_at g σ (tw_R g a0 0) (nI q) (fun y16 σ15 => wp_X8_goOffPiece g σ15 a0 y16 p r s d (fun r18 σ17 => Q r18 σ17))) ∧ (((0 : Int32) = 0) → Q (-1000000002 : Int32) σ) := ⟨fun c => absurd rfl c, fun _ => hQ _⟩
      refine ⟨fun _ => k, fun c4 => ⟨fun _ => k, fun c5 => ⟨fun _ => k, fun c6 => ?_⟩⟩⟩
      rw [i_lt] at c4 c6
      rw [i_le] at c5
      have e0 : (0 : Int32).toInt = 0 := rfl
      omega
    · have e : f_table (nI q) s = (-1000000001) := if_neg fun z => c2 z.2
      rw [e] at hQ
      exact hQ _
  · have e : f_table m s = (-1000000001) := if_neg fun z => c1 z.1
    rw [e] at hQ
    exact hQ _
theorem x1_alike (h6 : tw_I σ (tw_R g a0 6) 1 = 0) {m p r p2 r2 : Int32} {Q : Int32 → tw_S → Prop} (hQ : ∀ σ2, Q (f_alike m) σ2) : wp_X8_alike g σ a0 m p r p2 r2 Q := by
  unfold wp_X8_alike
  refine x_isMachine (fun c1 => ⟨fun _ => ?_, fun c => absurd c (by decide)⟩) (fun c1 => ⟨fun c => absurd rfl c, fun _ => ?_⟩)
  · have e : f_alike m = (-1000000002) := if_pos c1
    rw [e] at hQ
    unfold wp_X8_isPiece wp_X7_length
    rw [h6]
    refine ⟨fun _ => ⟨fun _ => hQ _, fun c => absurd rfl c⟩, fun c4 => ⟨fun _ => ⟨fun _ => hQ _, fun c => absurd rfl c⟩, fun c5 => ⟨fun _ => ⟨fun _ => hQ _, fun c => absurd rfl c⟩, fun c6 => ?_⟩⟩⟩
    rw [i_lt] at c4 c6
    rw [i_le] at c5
    have e0 : (0 : Int32).toInt = 0 := rfl
    omega
  · have e : f_alike m = (-1000000001) := if_neg c1
    rw [e] at hQ
    exact hQ _
theorem x_image {x : Int32} {Q : Option Nat → tw_S → Prop} (h1 : ∀ q, q < 2 → x = nI q → Q (some (tw_E g (tw_R g a0 2) q)) σ) (h0 : ¬ inI x 0 1 → Q none σ) : wp_X8_imageAt g σ a0 x Q := by
  unfold wp_X8_imageAt
  by_cases c1 : inI x 0 1
  · obtain ⟨q, hq, rfl⟩ := m_two c1
    have h := h1 q hq rfl
    have c1 := c1
    have e0 : (0 : Int32).toInt = 0 := rfl
    have e2 : (2 : Int32).toInt = 2 := rfl
    refine ⟨fun c => ?_, fun _ => ⟨fun c => ?_, fun _ => ⟨vp_in_nI hq (by decide), ?_⟩⟩⟩
    · rw [i_lt] at c; have := c1.1; omega
    · rw [i_le] at c; have := c1.2; omega
    · rw [nI_clamp (by omega)]; exact h
  · have h := h0 c1
    refine ⟨fun _ => h, fun c => ⟨fun _ => h, fun c2 => absurd ⟨?_, ?_⟩ c1⟩⟩
    · have e0 : (0 : Int32).toInt = 0 := rfl
      rw [i_lt] at c; omega
    · have e2 : (2 : Int32).toInt = 2 := rfl
      rw [i_le] at c2; omega
theorem x1_keep {x : Int32} {Q : Int32 → tw_S → Prop} (hQ : ∀ σ2, Q (f_keep x) σ2) : wp_X8_keep g σ a0 x Q := by
  unfold wp_X8_keep
  refine x_image (fun q hq e => ?_) (fun c1 => ?_)
  · refine ⟨fun c => (nomatch c), fun y2 _ => ?_⟩
    subst e
    have e : f_keep (nI q) = 1 := if_pos ⟨by rw [nI_toInt (by omega)]; omega, by rw [nI_toInt (by omega)]; omega⟩
    rw [e] at hQ
    unfold wp_X0_become
    exact x_becomeAny fun _ => x_becomeAny fun _ => ⟨vp_in_nI hq (by decide), fun _ _ _ _ => hQ _⟩
  · have e : f_keep x = (-1000000001) := if_neg c1
    rw [e] at hQ
    exact ⟨fun _ => hQ _, fun y2 c => (nomatch c)⟩
theorem x1_goBack (h3 : ∀ q, q < 2 → tw_A σ (tw_R g a0 3) q = 0) {x : Int32} {Q : Int32 → tw_S → Prop} (hQ : ∀ σ2, Q (f_goBack x) σ2) : wp_X8_goBack g σ a0 x Q := by
  unfold wp_X8_goBack
  refine x_image (fun q hq e => ?_) (fun c1 => ?_)
  · refine ⟨fun c => (nomatch c), fun y2 _ => ?_⟩
    subst e
    have e : f_goBack (nI q) = (-1000000003) := if_pos ⟨by rw [nI_toInt (by omega)]; omega, by rw [nI_toInt (by omega)]; omega⟩
    rw [e] at hQ
    rw [nI_clamp (by omega), h3 q hq]
    exact ⟨vp_in_nI hq (by decide), fun c => absurd rfl c, fun _ => hQ _⟩
  · have e : f_goBack x = (-1000000001) := if_neg c1
    rw [e] at hQ
    exact ⟨fun _ => hQ _, fun y2 c => (nomatch c)⟩
end X2
