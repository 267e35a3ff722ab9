/-! ===== the class on a fresh object: one way ===== -/
def o_r (g : tw_G) (a i : Nat) : Nat := if i = 0 then tw_R g (tw_R g a 0) 0 else tw_R g a i
def o_d (g : tw_G) (a : Nat) : Prop := ∀ i j, i < 12 → j < 12 → i ≠ j → o_r g a i ≠ o_r g a j
/-- what making keeps -/
def o_f (g : tw_G) (a : Nat) (σ σ2 : tw_S) : Prop := (∀ b k, b ≠ a → k ≠ 1 → tw_I σ2 b k = tw_I σ b k) ∧ (∀ b, tw_I σ b 1 = 1 → tw_I σ2 b 1 = 1) ∧ (∀ r, (∀ i, i < 12 → r ≠ o_r g a i) → tw_A σ2 r = tw_A σ r)
section X4
variable {g : tw_G} {σ0 σ σ2 : tw_S} {a y : Nat}
theorem o_ne (hd : o_d g a) {i j : Nat} (hi : i < 12) (hj : j < 12) (h : i ≠ j) (i0 : i ≠ 0) (j0 : j ≠ 0) : tw_R g a i ≠ tw_R g a j := by
  have := hd i j hi hj h
  unfold o_r at this
  rw [if_neg i0, if_neg j0] at this
  exact this
theorem o_n0 (hd : o_d g a) {j : Nat} (hj : j < 12) (j0 : j ≠ 0) : tw_R g (tw_R g a 0) 0 ≠ tw_R g a j := by
  have := hd 0 j (by decide) hj (Ne.symm j0)
  unfold o_r at this
  rw [if_pos rfl, if_neg j0] at this
  exact this
theorem of_sA (h : o_f g a σ0 σ) {i : Nat} (hi : i < 12) (i0 : i ≠ 0) {f : Nat → Int32} : o_f g a σ0 (tw_sA σ (tw_R g a i) f) := by
  refine ⟨h.1, h.2.1, fun r hr => ?_⟩
  have h2 := hr i hi
  unfold o_r at h2
  rw [if_neg i0] at h2
  rw [tw_A_sA, if_neg h2]
  exact h.2.2 r hr
theorem of_sI (h : o_f g a σ0 σ) {k : Nat} (hk : k ≠ 1) {v : Int32} : o_f g a σ0 (tw_sI σ a k v) := by
  refine ⟨fun b k2 hb h2 => ?_, fun b hb => ?_, h.2.2⟩
  · rw [tw_I_sI, if_neg hb]; exact h.1 b k2 hb h2
  · rw [tw_I_sI, if_neg (Ne.symm hk)]
    have := h.2.1 b hb
    simp [this]
theorem of_M (h : o_f g a σ σ2) (hM : x_M g y σ) (hr : ∀ i, i < 12 → tw_R g y 0 ≠ o_r g a i) : x_M g y σ2 := ⟨h.2.1 y hM.1, fun j hj => by rw [h.2.2 _ hr]; exact hM.2 j hj⟩
theorem x_ohas (h14 : tw_I σ a 14 = 1) {x : Int32} {Q : Int32 → tw_S → Prop} (h1 : inI x 0 0 → Q 1 σ) (h0 : ¬ inI x 0 0 → Q 0 σ) : wp_X5_hasState g σ a x Q := by
  unfold wp_X5_hasState
  rw [h14]
  have e0 : (0 : Int32).toInt = 0 := rfl
  have e2 : (1 : Int32).toInt = 1 := rfl
  have e3 : (150 : Int32).toInt = 150 := rfl
  simp only [i_lt, i_le, e0, e2, e3]
  exact ⟨fun c => h0 (fun z => by have := z.1; omega), fun c => ⟨fun c2 => h0 (fun z => by have := z.2; omega), fun c2 => ⟨fun c3 => absurd c3 (by omega), fun _ => h1 ⟨by omega, by omega⟩⟩⟩⟩
theorem x_ohas0 (h14 : tw_I σ a 14 = 1) {Q : Int32 → tw_S → Prop} (h1 : Q 1 σ) : wp_X5_hasState g σ a 0 Q := x_ohas h14 (fun _ => h1) (fun c => absurd ⟨by decide, by decide⟩ c)
theorem x_ohasAny {Q : Int32 → tw_S → Prop} (h1 : Q 1 σ) (h0 : Q 0 σ) : wp_X5_hasState g σ a 0 Q := by
  unfold wp_X5_hasState
  exact ⟨fun _ => h0, fun _ => ⟨fun _ => h0, fun _ => ⟨fun _ => h0, fun _ => h1⟩⟩⟩
theorem x_firstOff {Q : Int32 → tw_S → Prop} (hQ : ∀ r, Q r σ) : wp_X5_firstOff g σ a 0 Q := by
  unfold wp_X5_firstOff
  exact x_ohasAny ⟨fun h => absurd h (by decide), fun _ => ⟨by unfold vp_in; decide, hQ _⟩⟩ ⟨fun _ => hQ _, fun h => absurd rfl h⟩
theorem x_goOff (hM : x_M g (tw_R g a 0) σ) {x1 x2 x3 : Int32} {Q : Int32 → tw_S → Prop} (hQ : Q (-1) σ) : wp_X5_goOff g σ a x1 x2 x3 Q := by
  refine ⟨1, ?_⟩
  rw [wl_X5_goOff_6]
  exact ⟨fun h => absurd h (by decide), fun _ => ⟨fun _ => hQ, fun _ => x_at hM ⟨fun h => absurd rfl h, fun _ => hQ⟩⟩⟩
theorem x_lengthen {x1 x2 : Int32} {Q : Int32 → tw_S → Prop} (hQ : ∀ r, Q r σ) : wp_X8_lengthen g σ x1 x2 Q := by
  unfold wp_X8_lengthen
  exact fun z _ => ⟨fun _ => hQ _, fun _ => ⟨fun _ => hQ _, fun _ => hQ _⟩⟩
theorem x_fb {P : tw_S → Prop} (hPx : ∀ σ, P σ → x_M g (tw_R g a 0) σ) (hPc : ∀ σ f, P σ → P (tw_sA σ (tw_R g a 2) f)) {x1 x2 : Int32} (h : x1 = -1 ∨ x1 = 0) (hP : P σ) {Q : tw_S → Prop} (hQ : ∀ σ2, P σ2 → (∀ k, k < 5 → tw_A σ2 (tw_R g a 2) k = -1) → Q σ2) : wp_X5_findBehind g σ a x1 x2 Q := by
  have key : ∀ σ6, σ6 = tw_sA σ (tw_R g a 2) (upd (tw_A σ (tw_R g a 2)) (0 : Int32).toNatClampNeg (-1)) → ∃ n28, wl_X5_findBehind_28 g a x1 x2 Q (fun σ12 => Q σ12) n28 1 σ6 := by
    intro σ6 e6
    refine lp_up (I := fun i σ => P σ ∧ ∀ k, k < i → tw_A σ (tw_R g a 2) k = -1) 5 ?_ ?_ 1 (by decide) σ6 ⟨by rw [e6]; exact hPc _ _ hP, fun k hk => ?_⟩
    · intro n i σ3 hi ⟨p3, r3⟩ ih
      rw [wl_X5_findBehind_28, nI_1]
      refine ⟨fun c => absurd c (nI_ge (b := 5) hi (by decide)), fun _ => x_goOff (hPx _ p3) ⟨vp_in_nI hi (by decide), fun σ11 e11 => ih σ11 ⟨by rw [e11]; exact hPc _ _ p3, fun k hk => ?_⟩⟩⟩
      rw [e11, tw_A_sA, if_pos rfl, nI_clamp (by omega)]
      by_cases hki : k = i
      · subst hki; rw [pk_us]
      · rw [pk_un (by omega)]; exact r3 k (by omega)
    · intro n σ3 ⟨p3, r3⟩
      rw [wl_X5_findBehind_28]
      exact ⟨fun _ => hQ σ3 p3 r3, fun c => absurd (nI_le (Nat.le_refl 5) (by decide)) c⟩
    · have : k = 0 := by omega
      subst this
      rw [e6, tw_A_sA, if_pos rfl]
      exact pk_us
  unfold wp_X5_findBehind
  rcases h with rfl | rfl
  · exact ⟨fun c => absurd rfl c, fun _ => x_goOff (hPx _ hP) key⟩
  · exact ⟨fun _ => x_firstOff fun r => x_goOff (hPx _ hP) key, fun c => absurd c (by decide)⟩
theorem x_code (h : ∀ k, k < 5 → tw_A σ (tw_R g a 2) k = -1) {Q : Int32 → tw_S → Prop} (hQ : Q 0 σ) : wp_X5_codeOfFound g σ a Q := by
  refine lp_up (W := fun n i σ => wl_X5_codeOfFound_4 g a Q _ n 0 i σ) (I := fun _ σ3 => σ3 = σ) 5 ?_ ?_ 0 (by decide) σ rfl
  · intro n2 i σ3 hi e3 ih
    subst e3
    show wl_X5_codeOfFound_4 g a Q _ (n2 + 1) 0 (nI i) σ3
    have ih := ih σ3 rfl
    rw [wl_X5_codeOfFound_4, nI_1, nI_clamp (by omega), h i hi]
    refine ⟨fun c => absurd c (nI_ge (b := 5) hi (by decide)), fun _ => ⟨vp_in_nI (by omega) (by decide), fun z3 e3 => ?_⟩⟩
    have e3 : z3 = 0 := by rw [e3]; decide
    subst e3
    exact ih
  · intro n2 σ3 e3
    subst e3
    show wl_X5_codeOfFound_4 g a Q _ (n2 + 1) 0 (nI 5) σ3
    rw [wl_X5_codeOfFound_4]
    exact ⟨fun _ => hQ, fun c => absurd (nI_le (Nat.le_refl 5) (by decide)) c⟩
/-- while making: before the first number, and behind it -/
def o_0 (g : tw_G) (a : Nat) (σ0 σ : tw_S) : Prop := o_f g a σ0 σ ∧ x_M g (tw_R g a 0) σ ∧ tw_I σ a 13 = 0 ∧ tw_I σ a 14 = 0 ∧ tw_I σ a 15 = 0 ∧ tw_A σ (tw_R g a 3) 0 = -1
def o_P (g : tw_G) (a : Nat) (σ0 σ : tw_S) : Prop := o_f g a σ0 σ ∧ x_M g (tw_R g a 0) σ ∧ tw_I σ a 13 = 0 ∧ tw_I σ a 14 = 1 ∧ tw_I σ a 15 = 0 ∧ tw_A σ (tw_R g a 3) 0 = 0 ∧ (∀ k, k < 5 → tw_A σ (tw_R g a 1) k = -1) ∧ tw_A σ (tw_R g a 6) 0 = 1
theorem xM_sA (hM : x_M g y σ) {r : Nat} (h : tw_R g y 0 ≠ r) {f : Nat → Int32} : x_M g y (tw_sA σ r f) := ⟨hM.1, fun j hj => by rw [tw_A_sA, if_neg h]; exact hM.2 j hj⟩
theorem o0_c (hd : o_d g a) (h : o_0 g a σ0 σ) (f : Nat → Int32) : o_0 g a σ0 (tw_sA σ (tw_R g a 2) f) := by
  obtain ⟨h1, h2, h3, h4, h5, h6⟩ := h
  refine ⟨of_sA h1 (by decide) (by decide), xM_sA h2 (o_n0 hd (by decide) (by decide)), h3, h4, h5, ?_⟩
  rw [tw_A_sA, if_neg (o_ne hd (by decide) (by decide) (by decide) (by decide) (by decide))]; exact h6
theorem oP_c (hd : o_d g a) (h : o_P g a σ0 σ) {i : Nat} (hi : i < 12) (i0 : i ≠ 0) (i1 : i ≠ 1) (i3 : i ≠ 3) (i6 : i ≠ 6) (f : Nat → Int32) : o_P g a σ0 (tw_sA σ (tw_R g a i) f) := by
  obtain ⟨h1, h2, h3, h4, h5, h6, h7, h8⟩ := h
  refine ⟨of_sA h1 hi i0, xM_sA h2 (o_n0 hd hi i0), h3, h4, h5, ?_, fun k hk => ?_, ?_⟩
  · rw [tw_A_sA, if_neg (o_ne hd (by decide) hi i3.symm (by decide) i0)]; exact h6
  · rw [tw_A_sA, if_neg (o_ne hd (by decide) hi i1.symm (by decide) i0)]; exact h7 k hk
  · rw [tw_A_sA, if_neg (o_ne hd (by decide) hi i6.symm (by decide) i0)]; exact h8
theorem x_num1 (hd : o_d g a) (h : o_0 g a σ0 σ) (h2 : ∀ k, k < 5 → tw_A σ (tw_R g a 2) k = -1) {Q : Int32 → tw_S → Prop} (hQ : ∀ σ2, o_P g a σ0 σ2 → Q 0 σ2) : wp_X5_numberOfFound g σ a 1 Q := by
  obtain ⟨p1, p2, p3, p4, p5, p6⟩ := h
  unfold wp_X5_numberOfFound
  have p6 : tw_A σ (tw_R g a 3) (0 : Int32).toNatClampNeg = -1 := p6
  refine x_code h2 ?_
  rw [p6, p4]
  refine ⟨fun c => absurd c (by decide), fun _ => ⟨fun _ => ⟨by unfold vp_in; decide, fun c => absurd rfl c, fun _ => ⟨fun c => absurd c (by decide), fun _ => ⟨fun _ => ⟨by unfold vp_in; decide, fun σ12 e12 => ?_⟩, fun c => absurd (by decide) c⟩⟩⟩, fun c => absurd (by decide) c⟩⟩
  unfold wp_X5_addFound
  have i12 : tw_I σ12 a 14 = 0 := by rw [e12, tw_I_sA]; exact p4
  rw [i12]
  intro σ1 e1
  have i1 : tw_I σ1 a 14 = 1 := by rw [e1, tw_I_sI, if_pos rfl, if_pos rfl]; rfl
  refine x_ohas0 i1 ⟨fun c => absurd c (by decide), fun _ => ⟨by decide, by decide, fun σ7 e7 => ⟨by unfold vp_in; decide, fun σ9 e9 => ⟨by unfold vp_in; decide, ?_⟩⟩⟩⟩
  have q3 : tw_A σ9 (tw_R g a 3) 0 = 0 := by
    rw [e9, tw_A_sA, if_neg (o_ne hd (by decide) (by decide) (by decide) (by decide) (by decide)), e7, tw_A_sA, if_neg (o_ne hd (by decide) (by decide) (by decide) (by decide) (by decide)), e1, tw_A_sI, e12, tw_A_sA, if_pos rfl]
    exact pk_us
  have q : tw_A σ9 (tw_R g a 3) (0 : Int32).toNatClampNeg = 0 := q3
  rw [q]
  refine hQ σ9 ⟨?_, ?_, ?_, ?_, ?_, q3, fun k hk => ?_, ?_⟩
  · rw [e9, e7, e1, e12]
    exact of_sA (of_sA (of_sI (of_sA p1 (by decide) (by decide)) (by decide)) (by decide) (by decide)) (by decide) (by decide)
  · have m12 : x_M g (tw_R g a 0) σ12 := by rw [e12]; exact xM_sA p2 (o_n0 hd (by decide) (by decide))
    have m1 : x_M g (tw_R g a 0) σ1 := ⟨by rw [e1, tw_I_sI, if_neg (show ¬ (1 : Nat) = 14 by decide)]; have := m12.1; simp [this], fun j hj => by rw [e1, tw_A_sI]; exact m12.2 j hj⟩
    rw [e9, e7]
    exact xM_sA (xM_sA m1 (o_n0 hd (by decide) (by decide))) (o_n0 hd (by decide) (by decide))
  · rw [e9, tw_I_sA, e7, tw_I_sA, e1, tw_I_sI, if_pos rfl, if_neg (by decide), e12, tw_I_sA]; exact p3
  · rw [e9, tw_I_sA, e7, tw_I_sA]; exact i1
  · rw [e9, tw_I_sA, e7, tw_I_sA, e1, tw_I_sI, if_pos rfl, if_neg (by decide), e12, tw_I_sA]; exact p5
  · rw [e9, tw_A_sA, if_neg (o_ne hd (by decide) (by decide) (by decide) (by decide) (by decide)), e7, tw_A_sA, if_pos rfl]
    show (if 0 ≤ k ∧ k < 0 + 5 then tw_A σ1 (tw_R g a 2) (0 + (k - 0)) else _) = _
    rw [if_pos (by omega), e1, tw_A_sI, e12, tw_A_sA, if_neg (o_ne hd (by decide) (by decide) (by decide) (by decide) (by decide))]
    exact h2 _ (by omega)
  · rw [e9, tw_A_sA, if_pos rfl]
    exact pk_us
theorem x_num2 (h : o_P g a σ0 σ) (h2 : ∀ k, k < 5 → tw_A σ (tw_R g a 2) k = -1) {x : Int32} {Q : Int32 → tw_S → Prop} (hQ : Q 0 σ) : wp_X5_numberOfFound g σ a x Q := by
  unfold wp_X5_numberOfFound
  have p6 : tw_A σ (tw_R g a 3) (0 : Int32).toNatClampNeg = 0 := h.2.2.2.2.2.1
  refine x_code h2 ?_
  rw [p6]
  exact ⟨fun c => absurd c (by decide), fun _ => ⟨fun _ => ⟨by unfold vp_in; decide, fun _ => ⟨by unfold vp_in; decide, hQ⟩, fun c => absurd c (by decide)⟩, fun c => absurd (by decide) c⟩⟩
/-- what is made of a machine with no move -/
def o_S (g : tw_G) (a : Nat) (σ : tw_S) : Prop := tw_I σ a 13 = 0 ∧ tw_I σ a 14 = 1 ∧ tw_I σ a 15 = 0 ∧ tw_A σ (tw_R g a 4) 0 = 0 ∧ tw_A σ (tw_R g a 4) 1 = 0 ∧ tw_A σ (tw_R g a 5) 0 = 0 ∧ tw_A σ (tw_R g a 6) 0 = 1 ∧ ∀ k, k < 5 → tw_A σ (tw_R g a 1) k = -1
theorem x_c2 : ∀ i, i < 2 → ((2 : Int32) * 0) + nI i = nI i := by decide
theorem x_make (hd : o_d g a) (h12 : tw_I σ a 12 = 0) (hM : x_M g y σ) {Q : tw_S → Prop} (hQ : ∀ σ2, o_f g a σ σ2 → o_S g a σ2 → Q σ2) : wp_X5_make g σ a y Q := by
  unfold wp_X5_make
  refine ⟨fun _ => ?_, fun c => absurd h12 c⟩
  refine x_become hM fun σ2 _ m2 f1 f2 f3 => ?_
  intro σ3 e3 σ4 e4 σ5 e5 σ6 e6
  have F2 : o_f g a σ σ2 := ⟨fun b k _ hk => f1 b k hk, f2, fun r hr => f3 r (by have := hr 0 (by decide); unfold o_r at this; rw [if_pos rfl] at this; exact this)⟩
  have F6 : o_f g a σ σ6 := by rw [e6, e5, e4, e3]; exact of_sI (of_sI (of_sI (of_sI F2 (by decide)) (by decide)) (by decide)) (by decide)
  have M6 : x_M g (tw_R g a 0) σ6 := by
    refine ⟨?_, fun j hj => ?_⟩
    · have := m2.1
      simp [e6, e5, e4, e3, tw_I_sI, this]
    · rw [e6, e5, e4, e3]; exact m2.2 j hj
  have i13 : tw_I σ6 a 13 = 0 := by simp [e6, e5, e4, tw_I_sI]
  have i14 : tw_I σ6 a 14 = 0 := by simp [e6, e5, tw_I_sI]
  have i15 : tw_I σ6 a 15 = 0 := by simp [e6, tw_I_sI]
  clear e3 e4 e5 e6
  refine wf_fill g σ6 _ 3125 _ _ (by decide) ?_
  have Z : o_0 g a σ (tw_sA σ6 (tw_R g a 3) (fun j => if j < 3125 then -1 else tw_A σ6 (tw_R g a 3) j)) := ⟨of_sA F6 (by decide) (by decide), xM_sA M6 (o_n0 hd (by decide) (by decide)), i13, i14, i15, by rw [tw_A_sA, if_pos rfl]; rfl⟩
  refine x_fb (P := o_0 g a σ) (fun _ h => h.2.1) (fun _ f h => o0_c hd h f) (Or.inl rfl) Z fun σ8 Z8 r8 => ?_
  refine x_num1 hd Z8 r8 fun σ9 P9 => ⟨2, ?_⟩
  rw [wl_X5_make_69, P9.2.2.2.1, P9.2.2.1]
  refine ⟨fun c => absurd c (by decide), fun _ => ⟨fun c => absurd c (by decide), fun _ => ⟨fun c => absurd rfl c, fun _ => ?_⟩⟩⟩
  refine lp_up (I := fun i σ3 => o_P g a σ σ3 ∧ ∀ k, k < i → tw_A σ3 (tw_R g a 4) k = 0) 2 ?_ ?_ 0 (by decide) σ9 ⟨P9, fun k hk => absurd hk (Nat.not_lt_zero _)⟩
  · intro n i σ3 hi ⟨p3, r3⟩ ih
    rw [wl_X5_make_93, nI_1, x_c2 i hi, nI_clamp (by omega)]
    refine ⟨fun c => absurd c (nI_ge (b := 2) hi (by decide)), fun _ => ?_⟩
    refine x_fb (P := fun σ3 => o_P g a σ σ3 ∧ ∀ k, k < i → tw_A σ3 (tw_R g a 4) k = 0) (fun _ h => h.1.2.1) (fun _ f h => ⟨oP_c hd h.1 (by decide) (by decide) (by decide) (by decide) (by decide) f, fun k hk => by rw [tw_A_sA, if_neg (o_ne hd (by decide) (by decide) (by decide) (by decide) (by decide))]; exact h.2 k hk⟩) (Or.inr rfl) ⟨p3, r3⟩ fun σ15 P15 r15 => ⟨by unfold vp_in; decide, x_lengthen fun r18 => x_num2 P15.1 r15 ⟨vp_in_nI (by omega) (by decide), fun σ22 e22 => ih σ22 ⟨by rw [e22]; exact oP_c hd P15.1 (by decide) (by decide) (by decide) (by decide) (by decide) _, fun k hk => ?_⟩⟩⟩
    rw [e22, tw_A_sA, if_pos rfl]
    by_cases hki : k = i
    · subst hki; rw [pk_us]
    · rw [pk_un (by omega)]; exact P15.2 k (by omega)
  · intro n σ3 ⟨p3, r3⟩
    rw [wl_X5_make_93]
    refine ⟨fun _ => ?_, fun c => absurd (nI_le (Nat.le_refl 2) (by decide)) c⟩
    rw [wl_X5_make_69, p3.2.2.2.1]
    refine ⟨fun _ => ⟨2, ?_⟩, fun c => absurd (by decide) c⟩
    rw [wl_X5_markGoods_2, p3.2.2.2.1]
    refine ⟨fun c => absurd c (by decide), fun _ => ⟨fun c => absurd c (by decide), fun _ => x_firstOff fun r => x_goOff p3.2.1 ⟨fun _ => ⟨by unfold vp_in; decide, fun σ9 e9 => ?_⟩, fun c => absurd rfl c⟩⟩⟩
    have P9 : o_P g a σ σ9 := by rw [e9]; exact oP_c hd p3 (by decide) (by decide) (by decide) (by decide) (by decide) _
    rw [wl_X5_markGoods_2, P9.2.2.2.1]
    refine ⟨fun _ => hQ σ9 P9.1 ⟨P9.2.2.1, P9.2.2.2.1, P9.2.2.2.2.1, ?_, ?_, ?_, P9.2.2.2.2.2.2.2, P9.2.2.2.2.2.2.1⟩, fun c => absurd (by decide) c⟩
    · rw [e9, tw_A_sA, if_neg (o_ne hd (by decide) (by decide) (by decide) (by decide) (by decide))]; exact r3 0 (by decide)
    · rw [e9, tw_A_sA, if_neg (o_ne hd (by decide) (by decide) (by decide) (by decide) (by decide))]; exact r3 1 (by decide)
    · rw [e9, tw_A_sA, if_pos rfl]; exact pk_us
end X4
