/-! ===== the class on a fresh object: words, lots, runs ===== -/
section X3
variable {g : tw_G} {τ σ σ2 : tw_S} {a0 y w c : Nat}
theorem x_dn (i : Nat) : nI (i + 1) + (-1) = nI i := by
  rw [← nI_1, Int32.add_assoc]
  have : (1 : Int32) + (-1) = 0 := by decide
  rw [this, Int32.add_zero]
theorem x_wb2 {k L : Nat} {K : tw_S → Prop} {Q : tw_S → Prop} (hL : L ≤ 24) : ∀ i, i ≤ L → ∀ σ, tw_I σ w 1 = nI (L - i) → (∀ σ2, tw_I σ2 w 1 = nI L → (∀ b, b ≠ w → tw_I σ2 b 1 = tw_I σ b 1) → (∀ r, r ≠ tw_R g w 0 → tw_A σ2 r = tw_A σ r) → K σ2) → wl_X7_become_10 g w (nI k) Q K (i + 1) 1 (nI i + (-1)) σ := by
  intro i
  induction i with
  | zero =>
    intro _ σ h hK
    rw [wl_X7_become_10]
    refine ⟨fun _ => hK σ h (fun _ _ => rfl) (fun _ _ => rfl), fun c => absurd (by decide) c⟩
  | succ i ih =>
    intro hi σ h hK
    rw [x_dn, wl_X7_become_10]
    refine ⟨fun c => ?_, fun _ z3 _ => ⟨fun c => absurd c (by decide), fun _ => ?_⟩⟩
    · rw [i_lt, nI_toInt (by omega)] at c
      have e0 : (0 : Int32).toInt = 0 := rfl
      omega
    · unfold wp_X7_add
      rw [h]
      refine ⟨fun c => ?_, fun _ => ⟨fun _ => ⟨vp_in_nI (by omega) (by decide), fun σ4 e4 σ5 e5 => ⟨fun _ => ?_, fun c => absurd c (by decide)⟩⟩, fun c => ?_⟩⟩
      · rw [i_lt, nI_toInt (by omega)] at c
        have e0 : (0 : Int32).toInt = 0 := rfl
        omega
      · refine ih (by omega) σ5 ?_ (fun σ2 k1 k2 k3 => hK σ2 k1 (fun b hb => ?_) (fun r hr => ?_))
        · rw [e5, tw_I_sI, if_pos rfl, if_pos rfl, e4, tw_I_sA, h, nI_1]
          congr 1
          omega
        · rw [k2 b hb, e5, tw_I_sI, if_neg hb, e4, tw_I_sA]
        · rw [k3 r hr, e5, tw_A_sI, e4, tw_A_sA, if_neg hr]
      · rw [i_lt, nI_toInt (by omega)] at c
        have e0 : (24 : Int32).toInt = 24 := rfl
        omega
theorem x_wb1 {k : Nat} (k1 : 1 ≤ k) (k2 : k ≤ 33554431) {K : tw_S → Prop} {Q : tw_S → Prop} : ∀ i, Nat.log2 k < i → i ≤ 25 → tw_I σ w 1 = 0 → (∀ σ2, tw_I σ2 w 1 = nI (Nat.log2 k) → (∀ b, b ≠ w → tw_I σ2 b 1 = tw_I σ b 1) → (∀ r, r ≠ tw_R g w 0 → tw_A σ2 r = tw_A σ r) → K σ2) → wl_X7_become_10 g w (nI k) Q K (i + 1) 0 (nI i + (-1)) σ := by
  intro i
  induction i with
  | zero => intro h; exact absurd h (Nat.not_lt_zero _)
  | succ i ih =>
    intro h1 h2 h hK
    rw [x_dn, wl_X7_become_10, i_shr (by omega) (by omega)]
    refine ⟨fun c => ?_, fun _ z3 e3 => ⟨fun _ => ⟨fun c => absurd rfl c, fun _ => ?_⟩, fun c => absurd rfl c⟩⟩
    · rw [i_lt, nI_toInt (by omega)] at c
      have e0 : (0 : Int32).toInt = 0 := rfl
      omega
    · by_cases hi : i = Nat.log2 k
      · have h5 : k / 2 ^ i = 1 := by
          rw [hi]
          refine Nat.le_antisymm ?_ ?_
          · have h6 : k / 2 ^ Nat.log2 k < 2 := (Nat.div_lt_iff_lt_mul (Nat.pow_pos (by decide))).mpr (by
              have h7 := lg_lt (k := k)
              rw [Nat.pow_succ] at h7
              omega)
            omega
          · exact (Nat.le_div_iff_mul_le (Nat.pow_pos (by decide))).mpr (by have := lg_le k1; omega)
        rw [h5] at e3
        refine ⟨fun c => absurd (by rw [e3]; decide) c, fun _ => ?_⟩
        rw [hi]
        refine x_wb2 (lg_24 k1 k2) _ (Nat.le_refl _) σ ?_ hK
        rw [Nat.sub_self]; exact h
      · have h5 : k / 2 ^ i = 0 := by
          refine Nat.div_eq_of_lt ?_
          have h7 := lg_lt (k := k)
          exact Nat.lt_of_lt_of_le h7 (Nat.pow_le_pow_right (by decide) (by omega))
        rw [h5] at e3
        exact ⟨fun _ => ih (by omega) (by omega) h hK, fun c => absurd (c.symm.trans e3) (by decide)⟩
theorem x_wb {k : Nat} (k1 : 1 ≤ k) (k2 : k ≤ 33554431) {Q : tw_S → Prop} (hQ : ∀ σ2, tw_I σ2 w 1 = nI (Nat.log2 k) → (∀ b, b ≠ w → tw_I σ2 b 1 = tw_I σ b 1) → (∀ r, r ≠ tw_R g w 0 → tw_A σ2 r = tw_A σ r) → Q σ2) : wp_X7_become g σ w (nI k) Q := by
  unfold wp_X7_become
  intro σ1 e1
  refine ⟨26, ?_⟩
  refine x_wb1 k1 k2 25 (by have := lg_24 k1 k2; omega) (by decide) ?_ (fun σ2 q1 q2 q3 => hQ σ2 q1 (fun b hb => ?_) (fun r hr => ?_))
  · rw [e1, tw_I_sI, if_pos rfl, if_pos rfl]
  · rw [q2 b hb, e1, tw_I_sI, if_neg hb]
  · rw [q3 r hr, e1, tw_A_sI]
theorem x1_word {x : Int32} {Q : Int32 → tw_S → Prop} (hQ : ∀ σ2, Q (f_word x) σ2) : wp_X8_word g σ a0 x Q := by
  unfold wp_X8_word
  have e0 : (1 : Int32).toInt = 1 := rfl
  have e2 : (33554432 : Int32).toInt = 33554432 := rfl
  by_cases c1 : inI x 1 33554431
  · have e : f_word x = nI (Nat.log2 x.toInt.toNat) := if_pos c1
    rw [e] at hQ
    obtain ⟨k, k1, k2, rfl, k3⟩ := inI_nI (lo := 1) (hi := 33554431) c1
    have ek : (nI k).toInt.toNat = k := by rw [nI_toInt k3]; rfl
    rw [ek] at hQ
    refine ⟨fun c => ?_, fun _ => ⟨fun _ => x_wb k1 k2 fun σ3 h3 _ _ => ?_, fun c => ?_⟩⟩
    · rw [i_lt] at c; have := c1.1; omega
    · unfold wp_X7_length
      rw [h3]
      exact hQ _
    · rw [i_lt] at c; have := c1.2; omega
  · have e : f_word x = (-1000000002) := if_neg c1
    rw [e] at hQ
    refine ⟨fun _ => hQ _, fun c => ⟨fun c2 => absurd ⟨?_, ?_⟩ c1, fun _ => hQ _⟩⟩
    · rw [i_lt] at c; omega
    · rw [i_lt] at c2; omega
theorem x1_wipe (h6 : tw_I σ (tw_R g a0 6) 1 = 0) {Q : Int32 → tw_S → Prop} (hQ : ∀ σ2, Q 0 σ2) : wp_X8_wipe g σ a0 Q := by
  unfold wp_X8_wipe wp_X7_length
  rw [h6]
  exact x_wb (k := 1) (by decide) (by decide) fun _ _ _ _ => hQ _
theorem x_lots {x : Int32} {l k : Int64} (hl : tw_J σ y 2 = l) (hk : x.toInt64 = k) (hp : ¬ x ≤ 0) (h0 : ¬ k = 0) {Q : Int32 → tw_S → Prop} (hQ : ∀ σ2, σ2 = tw_sJ σ y 2 (lt_n l) → Q (lt_r (lt_n l) k) σ2) : wp_X3_drawLot g σ y x Q := by
  unfold wp_X3_drawLot
  intro z1 e1 σ2 e2
  rw [hl] at e1
  have e3 : z1 = lt_n l := e1
  rw [e3] at e2
  have e4 : tw_J σ2 y 2 = lt_n l := by simp [e2, tw_J_sJ]
  rw [hk]
  refine ⟨fun c => absurd c hp, fun _ => ⟨h0, fun z3 e5 => ?_⟩⟩
  rw [e5, e4]
  exact hQ σ2 e2
theorem x1_drift (F : x_F g a0 σ) (D : x_H g a0) (hh : tw_I σ (tw_R g a0 1) 2 = 0) {m s : Int32} {Q : Int32 → tw_S → Prop} (hQ : ∀ σ2, Q (f_drift m s) σ2) : wp_X8_drift g σ a0 m s Q := by
  unfold wp_X8_drift
  refine x_isMachine (fun c1 => ⟨fun _ => ?_, fun c => absurd c (by decide)⟩) (fun c1 => ⟨fun c => absurd rfl c, fun _ => ?_⟩)
  · obtain ⟨q, hq, rfl⟩ := m_two c1
    refine x_bd (a := 1) (b := 999999) rfl rfl (fun c2 => ?_) (fun c2 => ?_)
    · have e : f_drift (nI q) s = dr_c s.toInt64 16 := by rw [f_drift, if_pos c1, if_pos c2]
      rw [e] at hQ
      refine x_remember F.1 F.2 hh fun σ4 k4 => ?_
      have M4 := k4 _ (xH_q D hq) (xF_q F hq)
      refine x_at0 hq ?_
      generalize hy : tw_R g (tw_R g a0 0) q = y at M4 ⊢
      unfold wp_X3_drawLots
      intro σ8 e8
      have hj8 : tw_J σ8 y 2 = s.toInt64 := by simp [e8, tw_J_sJ]
      have M8 : x_M g y σ8 := by subst e8; exact M4
      generalize s.toInt64 = l0 at hQ hj8
      refine ⟨2, ?_⟩
      rw [wl_X3_drawLots_8, M8.1]
      refine ⟨fun c => absurd c (by decide), fun _ => ?_⟩
      refine lp_up (I := fun i σ => tw_I σ y 1 = 1 ∧ tw_J σ y 2 = dr_s l0 i ∧ ∀ k, k < 16 → tw_A σ (tw_R g y 0) k = if k < i then dr_e (dr_s l0 k) else -1) 4 ?_ ?_ 0 (by decide) σ8 ⟨M8.1, hj8, fun k hk => ?_⟩
      · intro n i σ hi ⟨i0, i1, i2⟩ ih
        rw [wl_X3_drawLots_18, nI_1]
        refine ⟨fun c => absurd c (nI_ge (b := 4) hi (by decide)), fun _ => ?_⟩
        refine x_lots (k := 5) i1 rfl (by decide) (by decide) fun σ12 e12 => ?_
        have a12 : tw_A σ12 (tw_R g y 0) = tw_A σ (tw_R g y 0) := by rw [e12, tw_A_sJ]
        have s12 : tw_I σ12 y 1 = 1 := by rw [e12, tw_I_sJ]; exact i0
        have j12 : tw_J σ12 y 2 = lt_n (dr_s l0 i) := by simp [e12, tw_J_sJ]
        refine ⟨fun c3 => ?_, fun c3 => ?_⟩
        · unfold wp_X3_drawMove
          rw [s12]
          refine x_lots (k := 1) j12 rfl (by decide) (by decide) fun σ17 e17 => ?_
          have j17 : tw_J σ17 y 2 = lt_n (lt_n (dr_s l0 i)) := by simp [e17, tw_J_sJ]
          refine x_lots (k := 2) j17 rfl (by decide) (by decide) fun σ19 e19 => ?_
          have a19 : tw_A σ19 (tw_R g y 0) = tw_A σ (tw_R g y 0) := by rw [e19, tw_A_sJ, e17, tw_A_sJ, a12]
          have s19 : tw_I σ19 y 1 = 1 := by rw [e19, tw_I_sJ, e17, tw_I_sJ]; exact s12
          refine x_put s19 hi fun σ23 e23 => ih σ23 ⟨?_, ?_, fun k hk => ?_⟩
          · rw [e23, tw_I_sA]; exact s19
          · rw [e23, tw_J_sA, e19]
            show (if y = y then _ else _) = dr_l (dr_s l0 i)
            rw [if_pos rfl, dr_l, if_neg c3]
            rfl
          · rw [e23, tw_A_sA, if_pos rfl, a19]
            by_cases hki : k = i
            · subst hki
              rw [pk_us, if_pos (by omega), dr_e, if_neg c3]
            · rw [pk_un (by omega), i2 k hk]
              by_cases h4 : k < i
              · rw [if_pos h4, if_pos (by omega)]
              · rw [if_neg h4, if_neg (by omega)]
        · refine x_put s12 hi fun σ16 e16 => ih σ16 ⟨?_, ?_, fun k hk => ?_⟩
          · rw [e16, tw_I_sA]; exact s12
          · rw [e16, tw_J_sA, j12]
            show _ = dr_l (dr_s l0 i)
            rw [dr_l, if_pos c3]
          · rw [e16, tw_A_sA, if_pos rfl, a12]
            by_cases hki : k = i
            · subst hki
              rw [pk_us, if_pos (by omega), dr_e, if_pos c3]
            · rw [pk_un (by omega), i2 k hk]
              by_cases h4 : k < i
              · rw [if_pos h4, if_pos (by omega)]
              · rw [if_neg h4, if_neg (by omega)]
      · intro n σ ⟨i0, _, i2⟩
        rw [wl_X3_drawLots_18]
        refine ⟨fun _ => ?_, fun c => absurd (nI_le (Nat.le_refl 4) (by decide)) c⟩
        rw [wl_X3_drawLots_8, i0]
        refine ⟨fun _ => x_at0 hq ?_, fun c => absurd (by decide) c⟩
        rw [hy]
        unfold wp_X3_countMoves
        refine lp_n (W := fun n i σ => wl_X3_countMoves_4 g y _ _ n (dr_c l0 i) (nI i) σ) (I := fun _ σ3 => σ3 = σ) 16 ?_ ?_ 0 (by decide) σ rfl
        · intro n2 i σ3 hi e3 ih
          subst e3
          show wl_X3_countMoves_4 g y _ _ (n2 + 1) (dr_c l0 i) (nI i) σ3
          have ih := ih σ3 rfl
          rw [wl_X3_countMoves_4, nI_1, nI_clamp (by omega), i2 i hi]
          have ev : (if i < 4 then dr_e (dr_s l0 i) else -1) = dr_v l0 i := rfl
          rw [ev]
          have ih : wl_X3_countMoves_4 g y _ _ n2 (if dr_v l0 i = -1 then dr_c l0 i else dr_c l0 i + 1) (nI (i + 1)) σ3 := ih
          refine ⟨fun c => absurd c (nI_ge (b := 16) hi (by decide)), fun _ => ⟨vp_in_nI (by omega) (by decide), fun c => ?_, fun c => ?_⟩⟩
          · rw [if_pos c] at ih; exact ih
          · rw [if_neg c] at ih; exact ih
        · intro n2 σ3 e3
          show wl_X3_countMoves_4 g y _ _ (n2 + 1) (dr_c l0 16) (nI 16) σ3
          rw [wl_X3_countMoves_4]
          exact ⟨fun _ => hQ _, fun c => absurd (nI_le (Nat.le_refl 16) (by decide)) c⟩
      · rw [M8.2 k hk, if_neg (by omega)]
    · have e : f_drift (nI q) s = (-1000000002) := by rw [f_drift, if_pos c1, if_neg c2]
      rw [e] at hQ
      exact hQ _
  · have e : f_drift m s = (-1000000001) := if_neg c1
    rw [e] at hQ
    exact hQ _
theorem x_countMoves (hM : x_M g y σ) {Q : Int32 → tw_S → Prop} (hQ : Q 0 σ) : wp_X3_countMoves g σ y Q := by
  unfold wp_X3_countMoves
  refine lp_up (W := fun n i σ => wl_X3_countMoves_4 g y _ _ n 0 i σ) (I := fun _ σ3 => σ3 = σ) 16 ?_ ?_ 0 (by decide) σ rfl
  · intro n2 i σ3 hi e3 ih
    subst e3
    show wl_X3_countMoves_4 g y _ _ (n2 + 1) 0 (nI i) σ3
    have ih := ih σ3 rfl
    rw [wl_X3_countMoves_4, nI_1, nI_clamp (by omega), hM.2 i hi]
    exact ⟨fun c => absurd c (nI_ge (b := 16) hi (by decide)), fun _ => ⟨vp_in_nI (by omega) (by decide), fun _ => ih, fun c => absurd rfl c⟩⟩
  · intro n2 σ3 e3
    subst e3
    show wl_X3_countMoves_4 g y _ _ (n2 + 1) 0 (nI 16) σ3
    rw [wl_X3_countMoves_4]
    exact ⟨fun _ => hQ, fun c => absurd (nI_le (Nat.le_refl 16) (by decide)) c⟩
/-- a run on a machine with no move ends at once -/
theorem x_follow (hM : x_M g y σ) (hr : tw_R g y 0 ≠ tw_R g c 0) {L : Nat} (hL : L ≤ 24) (hw : tw_I σ w 1 = nI L) {Q : tw_S → Prop} (hQ : ∀ σ2, tw_I σ2 c 6 = 1 → tw_I σ2 c 3 = 0 → tw_I σ2 c 4 = 0 → (∀ b, tw_I σ2 b 1 = tw_I σ b 1) → (∀ r, r ≠ tw_R g c 0 → tw_A σ2 r = tw_A σ r) → Q σ2) : wp_X1_follow g σ c y w Q := by
  unfold wp_X1_follow
  refine wf_fill g σ _ 26 _ _ (by decide) ?_
  intro σ2 e2 σ3 e3 σ4 e4 σ5 e5
  have i5 : ∀ b, tw_I σ5 b 1 = tw_I σ b 1 := fun b => by
    rw [e5, tw_I_sI, e4, tw_I_sI, e3, tw_I_sI, e2, tw_I_sI, tw_I_sA]
    simp
  have c3 : tw_I σ5 c 3 = 0 := by simp [e5, tw_I_sI, e4, e3, e2]
  have c4 : tw_I σ5 c 4 = 0 := by simp [e5, tw_I_sI, e4, e3]
  have c5 : tw_I σ5 c 5 = 0 := by simp [e5, tw_I_sI, e4]
  have c6 : tw_I σ5 c 6 = 4 := by simp [e5, tw_I_sI]
  have a5 : ∀ r, tw_A σ5 r = tw_A (tw_sA σ (tw_R g c 0) (fun j => if j < 26 then 0 else tw_A σ (tw_R g c 0) j)) r := fun r => by rw [e5, tw_A_sI, e4, tw_A_sI, e3, tw_A_sI, e2, tw_A_sI]
  have b0 : tw_A σ5 (tw_R g c 0) 0 = 0 := by rw [a5, tw_A_sA, if_pos rfl]; rfl
  have f5 : ∀ r, r ≠ tw_R g c 0 → tw_A σ5 r = tw_A σ r := fun r h => by rw [a5, tw_A_sA, if_neg h]
  clear e2 e3 e4 e5 a5
  unfold wp_X1_arrive wp_X7_length
  dsimp only
  rw [c5, i5 w, hw]
  have b0 : tw_A σ5 (tw_R g c 0) (0 : Int32).toNatClampNeg = 0 := b0
  refine ⟨fun _ => ⟨fun h => ?_, fun _ => ⟨fun _ => ⟨by unfold vp_in; decide, fun _ => ⟨by unfold vp_in; decide, by unfold vp_in; decide, fun σ11 e11 => ?_⟩, fun h => ?_⟩, fun h => absurd (by decide) h⟩⟩, fun h => absurd (by decide) h⟩
  · rw [nI_1, i_lt, nI_toInt (by omega)] at h
    have e0 : (0 : Int32).toInt = 0 := rfl
    omega
  · have M11 : x_M g y σ11 := ⟨by rw [e11, tw_I_sA, i5]; exact hM.1, fun j hj => by rw [e11, tw_A_sA, if_neg hr, f5 _ hr]; exact hM.2 j hj⟩
    refine ⟨2, ?_⟩
    have g6 : tw_I σ11 c 6 = 4 := by rw [e11, tw_I_sA]; exact c6
    have g5 : tw_I σ11 c 5 = 0 := by rw [e11, tw_I_sA]; exact c5
    rw [wl_X1_follow_35]
    refine ⟨fun h => absurd h (by decide), fun _ => ⟨fun h => absurd g6 h, fun _ => ?_⟩⟩
    unfold wp_X1_step wp_X7_signAt
    rw [g5]
    refine ⟨fun h => absurd rfl h, fun _ => ?_⟩
    refine x_at M11 ⟨fun h => absurd rfl h, fun _ σ15 e15 => ?_⟩
    have h6 : tw_I σ15 c 6 = 1 := by rw [e15, tw_I_sI, if_pos rfl, if_pos rfl]
    dsimp only
    rw [wl_X1_follow_35]
    refine ⟨fun h => absurd h (by decide), fun _ => ⟨fun _ => ?_, fun h => absurd (h6.symm.trans h) (by decide)⟩⟩
    refine hQ σ15 h6 ?_ ?_ (fun b => ?_) (fun r h => ?_)
    · rw [e15, tw_I_sI, if_pos rfl, if_neg (by decide), e11, tw_I_sA]; exact c3
    · rw [e15, tw_I_sI, if_pos rfl, if_neg (by decide), e11, tw_I_sA]; exact c4
    · rw [e15, tw_I_sI, if_neg (show ¬ (1 : Nat) = 6 by decide), e11, tw_I_sA, i5]
      simp
    · rw [e15, tw_A_sI, e11, tw_A_sA, if_neg h, f5 r h]
  · rw [b0] at h
    rw [show tw_I σ5 c 4 = 0 from c4] at h
    exact absurd h (by decide)
theorem x_howOften (h3 : tw_I σ c 3 = 0) {x : Int32} {Q : Int32 → tw_S → Prop} (hQ : Q 0 σ) : wp_X1_howOften g σ c x Q := by
  refine ⟨1, ?_⟩
  rw [wl_X1_howOften_4, h3]
  exact ⟨fun _ => hQ, fun h => absurd (by decide) h⟩
theorem x1_run (F : x_F g a0 σ) (hc : ∀ q, q < 2 → tw_R g (tw_R g (tw_R g a0 0) q) 0 ≠ tw_R g (tw_R g a0 8) 0) (h6 : tw_I σ (tw_R g a0 6) 1 = 0) {m w : Int32} {Q : Int32 → tw_S → Prop} (hQ : ∀ σ2, Q (f_run m w) σ2) : wp_X8_run g σ a0 m w Q := by
  unfold wp_X8_run
  refine x_isMachine (fun c1 => ⟨fun _ => ?_, fun c => absurd c (by decide)⟩) (fun c1 => ⟨fun c => absurd rfl c, fun _ => ?_⟩)
  · obtain ⟨q, hq, rfl⟩ := m_two c1
    refine x_bd (a := 0) (b := 5) rfl rfl (fun c2 => ?_) (fun c2 => ?_)
    · have e : f_run (nI q) w = (if w = 1 then 1 else if w = 5 then -1 else 0) := by rw [f_run, if_pos c1, if_pos c2]
      rw [e] at hQ
      refine x_at0 hq ?_
      refine x_follow (L := 0) (xF_q F hq) (hc q hq) (by decide) h6 fun σ8 g6 g3 g4 i8 _ => ?_
      have l8 : tw_I σ8 (tw_R g a0 6) 1 = 0 := by rw [i8]; exact h6
      obtain ⟨j, _, hj, rfl, _⟩ := inI_nI (lo := 0) (hi := 5) c2
      have hj : j = 0 ∨ j = 1 ∨ j = 2 ∨ j = 3 ∨ j = 4 ∨ j = 5 := by omega
      unfold wp_X1_isTaken wp_X1_ending wp_X1_steps wp_X1_lastState wp_X7_length
      rw [g6, g3, g4, l8]
      rcases hj with rfl | rfl | rfl | rfl | rfl | rfl
      · exact ⟨fun _ => ⟨fun _ => ⟨fun _ => hQ _, fun c => absurd rfl c⟩, fun c => absurd c (by decide)⟩, fun c => absurd rfl c⟩
      · exact ⟨fun c => absurd c (by decide), fun _ => ⟨fun _ => hQ _, fun c => absurd rfl c⟩⟩
      · exact ⟨fun c => absurd c (by decide), fun _ => ⟨fun c => absurd c (by decide), fun _ => ⟨fun _ => hQ _, fun c => absurd rfl c⟩⟩⟩
      · exact ⟨fun c => absurd c (by decide), fun _ => ⟨fun c => absurd c (by decide), fun _ => ⟨fun c => absurd c (by decide), fun _ => ⟨fun _ => hQ _, fun c => absurd rfl c⟩⟩⟩⟩
      · refine ⟨fun c => absurd c (by decide), fun _ => ⟨fun c => absurd c (by decide), fun _ => ⟨fun c => absurd c (by decide), fun _ => ⟨fun c => absurd c (by decide), fun _ => ⟨fun _ => ⟨2, ?_⟩, fun c => absurd rfl c⟩⟩⟩⟩⟩
        rw [wl_X1_countGaps_4]
        refine ⟨fun c => absurd c (by decide), fun _ => x_howOften g3 ⟨fun _ => ?_, fun c => absurd (by decide) c⟩⟩
        rw [wl_X1_countGaps_4]
        exact ⟨fun _ => hQ _, fun c => absurd (by decide) c⟩
      · refine ⟨fun c => absurd c (by decide), fun _ => ⟨fun c => absurd c (by decide), fun _ => ⟨fun c => absurd c (by decide), fun _ => ⟨fun c => absurd c (by decide), fun _ => ⟨fun c => absurd c (by decide), fun _ => ⟨2, ?_⟩⟩⟩⟩⟩⟩
        rw [wl_X1_busiestGap_7]
        refine ⟨fun c => absurd c (by decide), fun _ => x_howOften g3 ⟨fun _ => ?_, fun c => absurd (by decide) c⟩⟩
        rw [wl_X1_busiestGap_7]
        exact ⟨fun _ => hQ _, fun c => absurd (by decide) c⟩
    · have e : f_run (nI q) w = (-1000000002) := by rw [f_run, if_pos c1, if_neg c2]
      rw [e] at hQ
      exact hQ _
  · have e : f_run m w = (-1000000001) := if_neg c1
    rw [e] at hQ
    exact hQ _
theorem x1_crossed (F : x_F g a0 σ) (hc : ∀ q, q < 2 → tw_R g (tw_R g (tw_R g a0 0) q) 0 ≠ tw_R g (tw_R g a0 8) 0) (h6 : tw_I σ (tw_R g a0 6) 1 = 0) {m p k : Int32} {Q : Int32 → tw_S → Prop} (hQ : ∀ σ2, Q (f_crossed m p k) σ2) : wp_X8_crossed g σ a0 m p k Q := by
  unfold wp_X8_crossed
  refine x_isMachine (fun c1 => ⟨fun _ => ?_, fun c => absurd c (by decide)⟩) (fun c1 => ⟨fun c => absurd rfl c, fun _ => ?_⟩)
  · obtain ⟨q, hq, rfl⟩ := m_two c1
    unfold wp_X7_length
    rw [h6]
    have e0 : (0 : Int32).toInt = 0 := rfl
    have e1 : (-1 : Int32).toInt = -1 := rfl
    have ko : ¬ (inI p 0 0 ∧ -1 ≤ k.toInt) → Q ((-1000000002)) σ := fun h => by
      have e : f_crossed (nI q) p k = (-1000000002) := by rw [f_crossed, if_pos c1, if_neg h]
      rw [e] at hQ
      exact hQ _
    refine ⟨fun c => ko fun z => ?_, fun c => ⟨fun c2 => ko fun z => ?_, fun c2 => ⟨fun c3 => ?_, fun c3 => ko fun z => ?_⟩⟩⟩
    · rw [i_lt] at c; have := z.1.1; omega
    · rw [i_lt] at c2; have := z.1.2; omega
    · rw [i_lt] at c c2
      rw [i_le, e1] at c3
      have e : f_crossed (nI q) p k = (if k = -1 then 0 else -1) := by rw [f_crossed, if_pos c1, if_pos ⟨⟨by omega, by omega⟩, c3⟩]
      rw [e] at hQ
      refine x_at0 hq ?_
      refine x_follow (L := 0) (xF_q F hq) (hc q hq) (by decide) h6 fun σ8 g6 g3 g4 i8 _ => ?_
      refine ⟨fun c4 => ⟨1, ?_⟩, fun c4 => x_howOften g3 ?_⟩
      · rw [if_neg c4] at hQ
        rw [wl_X1_stateAt_5, g3]
        exact ⟨fun _ => hQ _, fun h => absurd (by decide) h⟩
      · rw [if_pos c4] at hQ
        exact hQ _
    · rw [i_le] at c3; have := z.2; omega
  · have e : f_crossed m p k = (-1000000001) := if_neg c1
    rw [e] at hQ
    exact hQ _
theorem x_sh1 : ∀ j, j < 7 → (1 : Int32) <<< (nI j &&& 31) = nI (2 ^ j) := by decide
theorem x_sh2 : ∀ j, j < 7 → (2 : Int32) <<< (nI j &&& 31) = nI (2 ^ (j + 1)) := by decide
theorem x1_turned (F : x_F g a0 σ) (hc : ∀ q, q < 2 → tw_R g (tw_R g (tw_R g a0 0) q) 0 ≠ tw_R g (tw_R g a0 8) 0) (hw : ∀ q, q < 2 → tw_R g (tw_R g (tw_R g a0 0) q) 0 ≠ tw_R g (tw_R g a0 7) 0) (hn : ∀ q, q < 2 → tw_R g (tw_R g a0 0) q ≠ tw_R g a0 7) {m w : Int32} {Q : Int32 → tw_S → Prop} (hQ : ∀ σ2, Q (f_turned m w) σ2) : wp_X8_turned g σ a0 m w Q := by
  unfold wp_X8_turned
  refine x_isMachine (fun c1 => ⟨fun _ => ?_, fun c => absurd c (by decide)⟩) (fun c1 => ⟨fun c => absurd rfl c, fun _ => ?_⟩)
  · obtain ⟨q, hq, rfl⟩ := m_two c1
    refine x_bd (a := 0) (b := 6) rfl rfl (fun c2 => ?_) (fun c2 => ?_)
    · have e : f_turned (nI q) w = 0 := by rw [f_turned, if_pos c1, if_pos c2]
      rw [e] at hQ
      obtain ⟨j, _, hj, rfl, _⟩ := inI_nI (lo := 0) (hi := 6) c2
      have hj : j ≤ 6 := hj
      intro z6 e6
      rw [x_sh1 j (by omega)] at e6
      subst e6
      have p1 : 2 ^ (j + 1) ≤ 2 ^ 7 := Nat.pow_le_pow_right (by decide) (by omega)
      have p2 : (2 : Nat) ^ 7 = 128 := rfl
      have p3 : 2 ^ j ≤ 2 ^ (j + 1) := Nat.pow_le_pow_right (by decide) (by omega)
      have p4 : 1 ≤ 2 ^ j := Nat.one_le_two_pow
      refine lp_up (W := fun n i σ => wl_X8_turned_30 g a0 (nI q) (nI j) _ _ n 0 i σ) (I := fun i σ3 => 2 ^ j ≤ i ∧ x_M g (tw_R g (tw_R g a0 0) q) σ3) (2 ^ (j + 1)) ?_ ?_ (2 ^ j) p3 σ ⟨Nat.le_refl _, xF_q F hq⟩
      · intro n i σ3 hi ⟨hi2, M3⟩ ih
        show wl_X8_turned_30 g a0 (nI q) (nI j) _ _ (n + 1) 0 (nI i) σ3
        rw [wl_X8_turned_30, x_sh2 j (by omega), nI_1]
        refine ⟨fun c => absurd c (nI_ge hi (by omega)), fun _ => x_at0 hq ?_⟩
        unfold wp_X8_isTakenBothWays
        have i1 : 1 ≤ i := by omega
        have i2 : i ≤ 33554431 := by omega
        refine x_wb i1 i2 fun σ4 l4 k4 a4 => ?_
        have M4 : x_M g (tw_R g (tw_R g a0 0) q) σ4 := ⟨by rw [k4 _ (hn q hq)]; exact M3.1, fun j hj => by rw [a4 _ (hw q hq)]; exact M3.2 j hj⟩
        refine x_follow M4 (hc q hq) (lg_24 i1 i2) l4 fun σ8 g6 g3 g4 i8 a8 => ?_
        have M8 : x_M g (tw_R g (tw_R g a0 0) q) σ8 := ⟨by rw [i8]; exact M4.1, fun j hj => by rw [a8 _ (hc q hq)]; exact M4.2 j hj⟩
        unfold wp_X1_isTaken
        rw [g6]
        exact ⟨fun _ => ⟨fun c => absurd rfl c, fun _ => ⟨fun _ => ih σ8 ⟨by omega, M8⟩, fun c => absurd rfl c⟩⟩, fun c => absurd c (by decide)⟩
      · intro n σ3 _
        show wl_X8_turned_30 g a0 (nI q) (nI j) _ _ (n + 1) 0 (nI (2 ^ (j + 1))) σ3
        rw [wl_X8_turned_30, x_sh2 j (by omega)]
        exact ⟨fun _ => hQ _, fun c => absurd (nI_le (Nat.le_refl _) (by omega)) c⟩
    · have e : f_turned (nI q) w = (-1000000002) := by rw [f_turned, if_pos c1, if_neg c2]
      rw [e] at hQ
      exact hQ _
  · have e : f_turned m w = (-1000000001) := if_neg c1
    rw [e] at hQ
    exact hQ _
end X3
