/-! ===== the class on a fresh object: words, lots, runs ===== -/
section X3
variable {g : tw_G} {τ σ σ2 : tw_S} {a0 y w c : Nat}
theorem x_dn (i : Nat) : nI (i + 1) + (-1) = nI i := by
  rw [← nI_1, Int32.add_assoc]
  have : (1 : Int32) + (-1) = 0 := by decide
  rw [this, Int32.add_zero]
theorem x_wb2 {k L : Nat} {K : tw_S → Prop} {Q : tw_S → Prop} (hL : L ≤ 24) : ∀ i, i ≤ L → ∀ σ, tw_I σ w 1 = nI (L - i) → (∀ σ2, tw_I σ2 w 1 = nI L → (∀ b, b ≠ w → tw_I σ2 b 1 = tw_I σ b 1) → (∀ r, r ≠ tw_R g w 0 → tw_A σ2 r = tw_A σ r) → K σ2) → wl_X7_become_10 g w (nI k) Q K (i + 1) 1 (nI i + (-1)) σ := by
  intro i
  induction i with
  | zero =>
    intro _ σ h hK
    rw [wl_X7_become_10]
    refine ⟨fun _ => hK σ h (fun _ _ => rfl) (fun _ _ => rfl), fun c => absurd (by decide) c⟩
  | succ i ih =>
    intro hi σ h hK
    rw [x_dn, wl_X7_become_10]
    refine ⟨fun c => ?_, fun _ z3 _ => ⟨fun c => absurd c (by decide), fun _ => ?_⟩⟩
    · rw [i_lt, nI_toInt (by omega)] at c
      have e0 : (0 : Int32).toInt = 0 := rfl
      omega
    · unfold wp_X7_add
      rw [h]
      refine ⟨fun c => ?_, fun _ => ⟨fun _ => ⟨vp_in_nI (by omega) (by decide), fun σ4 e4 σ5 e5 => ⟨fun _ => ?_, fun c => absurd c (by decide)⟩⟩, fun c => ?_⟩⟩
      · rw [i_lt, nI_toInt (by omega)] at c
        have e0 : (0 : Int32).toInt = 0 := rfl
        omega
      · refine ih (by omega) σ5 ?_ (fun σ2 k1 k2 k3 => hK σ2 k1 (fun b hb => ?_) (fun r hr => ?_))
        · rw [e5, tw_I_sI, if_pos rfl, if_pos rfl, e4, tw_I_sA, h, nI_1]
          congr 1
          omega
        · rw [k2 b hb, e5, tw_I_sI, if_neg hb, e4, tw_I_sA]
        · rw [k3 r hr, e5, tw_A_sI, e4, tw_A_sA, if_neg hr]
      · rw [i_lt, nI_toInt (by omega)] at c
        have e0 : (24 : Int32).toInt = 24 := rfl
        omega
theorem x_wb1 {k : Nat} (k1 : 1 ≤ k) (k2 : k ≤ 33554431) {K : tw_S → Prop} {Q : tw_S → Prop} : ∀ i, Nat.log2 k < i → i ≤ 25 → tw_I σ w 1 = 0 → (∀ σ2, tw_I σ2 w 1 = nI (Nat.log2 k) → (∀ b, b ≠ w → tw_I σ2 b 1 = tw_I σ b 1) → (∀ r, r ≠ tw_R g w 0 → tw_A σ2 r = tw_A σ r) → K σ2) → wl_X7_become_10 g w (nI k) Q K (i + 1) 0 (nI i + (-1)) σ := by
  intro i
  induction i with
  | zero => intro h; exact absurd h (Nat.not_lt_zero _)
  | succ i ih =>
    intro h1 h2 h hK
    rw [x_dn, wl_X7_become_10, i_shr (by omega) (by omega)]
    refine ⟨fun c => ?_, fun _ z3 e3 => ⟨fun _ => ⟨fun c => absurd rfl c, fun _ => ?_⟩, fun c => absurd rfl c⟩⟩
    · rw [i_lt, nI_toInt (by omega)] at c
      have e0 : (0 : Int32).toInt = 0 := rfl
      omega
    · by_cases hi : i = Nat.log2 k
      · have h5 : k / 2 ^ i = 1 := by
          rw [hi]
          refine Nat.le_antisymm ?_ ?_
          · have h6 : k / 2 ^ Nat.log2 k < 2 := (Nat.div_lt_iff_lt_mul (Nat.pow_pos (by decide))).mpr (by
              have h7 := lg_lt (k := k)
              rw [Nat.pow_succ] at h7
              omega)
            omega
          · exact (Nat.le_div_iff_mul_le (Nat.pow_pos (by decide))).mpr (by have := lg_le k1; omega)
        rw [h5] at e3
        refine ⟨fun c => absurd (by rw [e3]; decide) c, fun _ => ?_⟩
        rw [hi]
        refine x_wb2 (lg_24 k1 k2) _ (Nat.le_refl _) σ ?_ hK
        rw [Nat.sub_self]; exact h
      · have h5 : k / 2 ^ i = 0 := by
          refine Nat.div_eq_of_lt ?_
          have h7 := lg_lt (k := k)
          exact Nat.lt_of_lt_of_le h7 (Nat.pow_le_pow_right (by decide) (by omega))
        rw [h5] at e3
        exact ⟨fun _ => ih (by omega) (by omega) h hK, fun c => absurd (c.symm.trans e3) (by decide)⟩
theorem x_wb {k : Nat} (k1 : 1 ≤ k) (k2 : k ≤ 33554431) {Q : tw_S → Prop} (hQ : ∀ σ2, tw_I σ2 w 1 = nI (Nat.log2 k) → (∀ b, b ≠ w → tw_I σ2 b 1 = tw_I σ b 1) → (∀ r, r ≠ tw_R g w 0 → tw_A σ2 r = tw_A σ r) → Q σ2) : wp_X7_become g σ w (nI k) Q := by
  unfold wp_X7_become
  intro σ1 e1
  refine ⟨26, ?_⟩
  refine x_wb1 k1 k2 25 (by have := lg_24 k1 k2; omega) (by decide) ?_ (fun σ2 q1 q2 q3 => hQ σ2 q1 (fun b hb => ?_) (fun r hr => ?_))
  · rw [e1, tw_I_sI, if_pos rfl, if_pos rfl]
  · rw [q2 b hb, e1, tw_I_sI, if_neg hb]
  · rw [q3 r hr, e1, tw_A_sI]
theorem x1_word {x : Int32} {Q : Int32 → tw_S → Prop} (hQ : ∀ σ2, Q (f_word x) σ2) : wp_X8_word g σ a0 x Q := by
  unfold wp_X8_word
  have e0 : (1 : Int32).toInt = 1 := rfl
  have e2 : (33554432 : Int32).toInt = 33554432 := rfl
  by_cases c1 : inI x 1 33554431
  · have e : f_word x = nI (Nat.log2 x.toInt.toNat) := if_pos c1
    rw [e] at hQ
    obtain ⟨k, k1, k2, rfl, k3⟩ := inI_nI (lo := 1) (hi := 33554431) c1
    have ek : (nI k).toInt.toNat = k := by rw [nI_toInt k3]; rfl
    rw [ek] at hQ
    refine ⟨fun c => ?_, fun _ => ⟨fun _ => x_wb k1 k2 fun σ3 h3 _ _ => ?_, fun c => ?_⟩⟩
    · rw [i_lt] at c; have := c1.1; omega
    · unfold wp_X7_length
      rw [h3]
      exact hQ _
    · rw [i_lt] at c; have := c1.2; omega
  · have e : f_word x = (-1000000002) := if_neg c1
    rw [e] at hQ
    refine ⟨fun _ => hQ _, fun c => ⟨fun c2 => absurd ⟨?_, ?_⟩ c1, fun _ => hQ _⟩⟩
    · rw [i_lt] at c; omega
    · rw [i_lt] at c2; omega
theorem x1_wipe (h6 : tw_I σ (tw_R g a0 6) 1 = 0) {Q : Int32 → tw_S → Prop} (hQ : ∀ σ2, Q 0 σ2) : wp_X8_wipe g σ a0 Q := by
  unfold wp_X8_wipe wp_X7_length
  rw [h6]
  exact x_wb (k := 1) (by decide) (by decide) fun _ _ _ _ => hQ _
theorem x_lots {x : Int32} {l k : Int64} (hl : tw_J σ y 2 = l) (hk : x.toInt64 = k) (hp : ¬ x ≤ 0) (h0 : ¬ k = 0) {Q : Int32 → tw_S → Prop} (hQ : ∀ σ2, σ2 = tw_sJ σ y 2 (lt_n l) → Q (lt_r (lt_n l) k) σ2) : wp_X3_drawLot g σ y x Q := by
  unfold wp_X3_drawLot
  intro z1 e1 σ2 e2
  rw [hl] at e1
  have e3 : z1 = lt_n l := e1
  rw [e3] at e2
  have e4 : tw_J σ2 y 2 = lt_n l := by simp [e2, tw_J_sJ]
  rw [hk]
  refine ⟨fun c => absurd c hp, fun _ => ⟨h0, fun z3 e5 => ?_⟩⟩
  rw [e5, e4]
  exact hQ σ2 e2
theorem x1_drift (F : x_F g a0 σ) (D : x_H g a0) (hh : tw_I σ (tw_R g a0 1) 2 = 0) {m s : Int32} {Q : Int32 → tw_S → Prop} (hQ : ∀ σ2, Q (f_drift m s) σ2) : wp_X8_drift g σ a0 m s Q := by
  unfold wp_X8_drift
  refine x_isMachine (fun c1 => ⟨fun _ => ?_, fun c => absurd c (by decide)⟩) (fun c1 => ⟨fun c => absurd rfl c, fun _ => ?_⟩)
  · obtain ⟨q, hq, rfl⟩ := m_two c1
    refine x_bd (a := 1) (b := 999999) rfl rfl (fun c2 => ?_) (fun c2 => ?_)
    · have e : f_drift (nI q) s = dr_c s.toInt64 16 := by rw [f_drift, if_pos c1, if_pos c2]
      rw [e] at hQ
      refine x_remember F.1 F.2 hh fun σ4 k4 => ?_
      have M4 := k4 _ (xH_q D hq) (xF_q F hq)
      refine x_at0 hq ?_
      generalize tw_R g (tw_R g a0 0) q = y at M4
      unfold wp_X3_drawLots
      intro σ8 e8
      have hj8 : tw_J σ8 y 2 = s.toInt64 := by simp [e8, tw_J_sJ]
      have M8 : x_M g y σ8 := by subst e8; exact M4
      generalize s.toInt64 = l0 at hQ hj8
      refine ⟨2, ?_⟩
      rw [wl_X3_drawLots_8, M8.1]
      refine ⟨fun c => absurd c (by decide), fun _ => ?_⟩
      refine lp_up (I := fun i σ => tw_I σ y 1 = 1 ∧ tw_J σ y 2 = dr_s l0 i ∧ ∀ k, k < 16 → tw_A σ (tw_R g y 0) k = if k < i then dr_e (dr_s l0 k) else -1) 4 ?_ ?_ 0 (by decide) σ8 ⟨M8.1, hj8, fun k hk => ?_⟩
      · intro n i σ hi ⟨i0, i1, i2⟩ ih
        rw [wl_X3_drawLots_18, nI_1]
        refine ⟨fun c => absurd c (nI_ge (b := 4) hi (by decide)), fun _ => ?_⟩
        refine x_lots (k := 5) i1 rfl (by decide) (by decide) fun σ12 e12 => ?_
        have a12 : tw_A σ12 (tw_R g y 0) = tw_A σ (tw_R g y 0) := by rw [e12, tw_A_sJ]
        have s12 : tw_I σ12 y 1 = 1 := by rw [e12, tw_I_sJ]; exact i0
        have j12 : tw_J σ12 y 2 = lt_n (dr_s l0 i) := by simp [e12, tw_J_sJ]
        refine ⟨fun c3 => ?_, fun c3 => ?_⟩
        · unfold wp_X3_drawMove
          rw [s12]
          refine x_lots (k := 1) j12 rfl (by decide) (by decide) fun σ17 e17 => ?_
          have j17 : tw_J σ17 y 2 = lt_n (lt_n (dr_s l0 i)) := by simp [e17, tw_J_sJ]
          refine x_lots (k := 2) j17 rfl (by decide) (by decide) fun σ19 e19 => ?_
          have a19 : tw_A σ19 (tw_R g y 0) = tw_A σ (tw_R g y 0) := by rw [e19, tw_A_sJ, e17, tw_A_sJ, a12]
          have s19 : tw_I σ19 y 1 = 1 := by rw [e19, tw_I_sJ, e17, tw_I_sJ]; exact s12
          refine x_put s19 hi fun σ23 e23 => ih σ23 ⟨?_, ?_, fun k hk => ?_⟩
          · rw [e23, tw_I_sA]; exact s19
          · rw [e23, tw_J_sA, e19]
            show (if y = y then _ else _) = dr_l (dr_s l0 i)
            rw [if_pos rfl, dr_l, if_neg c3]
            rfl
          · rw [e23, tw_A_sA, if_pos rfl, a19]
            by_cases hki : k = i
            · subst hki
              rw [pk_us, if_pos (by omega), dr_e, if_neg c3]
            · rw [pk_un (by omega), i2 k hk]
              by_cases h4 : k < i
              · rw [if_pos h4, if_pos (by omega)]
              · rw [if_neg h4, if_neg (by omega)]
        · refine x_put s12 hi fun σ16 e16 => ih σ16 ⟨?_, ?_, fun k hk => ?_⟩
          · rw [e16, tw_I_sA]; exact s12
          · rw [e16, tw_J_sA, j12]
            show _ = dr_l (dr_s l0 i)
            rw [dr_l, if_pos c3]
          · rw [e16, tw_A_sA, if_pos rfl, a12]
            by_cases hki : k = i
            · subst hki
              rw [pk_us, if_pos (by omega), dr_e, if_pos c3]
            · rw [pk_un (by omega), i2 k hk]
              by_cases h4 : k < i
              · rw [if_pos h4, if_pos (by omega)]
              · rw [if_neg h4, if_neg (by omega)]
      · intro n σ ⟨i0, _, i2⟩
        rw [wl_X3_drawLots_18]
        refine ⟨fun _ => ?_, fun c => absurd (nI_le (Nat.le_refl 4) (by decide)) c⟩
        rw [wl_X3_drawLots_8, i0]
        refine ⟨fun _ => x_at0 hq ?_, fun c => absurd (by decide) c⟩
        sorry
      · rw [M8.2 k hk, if_neg (by omega)]
    · have e : f_drift (nI q) s = (-1000000002) := by rw [f_drift, if_pos c1, if_neg c2]
      rw [e] at hQ
      exact hQ _
  · have e : f_drift m s = (-1000000001) := if_neg c1
    rw [e] at hQ
    exact hQ _
end X3
