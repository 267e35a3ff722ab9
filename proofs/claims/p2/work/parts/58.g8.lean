/-! ===== the class in general: the word's length, the images' flags ===== -/
section G8
variable {g : tw_G} {P : g_P} {σ σ2 : tw_S} {a b c y k : Nat}
theorem x_wadd (hX : XI g P σ) {x : Int32} {Q : Int32 → tw_S → Prop} (h1 : inI P.2.1 0 23 → ∀ s, XI g (P.1, P.2.1 + 1, P.2.2) s → Q 1 s) (h0 : ¬ inI P.2.1 0 23 → Q 0 σ) : wp_X7_add g σ P.1 x Q := by
  have t := xW hX
  have e : tw_I σ P.1 1 = P.2.1 := hX.2.2.2.2.2.2.2.2.1
  unfold wp_X7_add
  refine ⟨fun c => h0 (fun z => ?_), fun c1 => ⟨fun c2 => ?_, fun c => h0 (fun z => ?_)⟩⟩
  · rw [e, i_lt] at c
    have := z.1; have := e_0; omega
  · have hn : inI P.2.1 0 23 := by
      rw [e, i_lt] at c1 c2
      have := e_0; have := e_24
      exact ⟨by omega, by omega⟩
    refine ⟨?_, fun s4 e4 s5 e5 => h1 hn s5 ?_⟩
    · rw [vp_in_iff, e]
      have := hn.1; have := hn.2
      exact ⟨by omega, by show _ < ((24 : Nat) : Int); omega⟩
    · have h4 : XI g P s4 := e4 ▸ xi_Aq hX t rfl
      have ee : tw_I s4 P.1 1 = P.2.1 := h4.2.2.2.2.2.2.2.2.1
      rw [e5, ee]
      exact xi_71w h4 (i_inc (N := 24) (by decide) ⟨hn.1, by have := hn.2; omega⟩ (by show _ < ((24 : Nat) : Int); have := hn.2; omega)).1
  · rw [e, i_lt] at c
    have := z.2; have := e_24; omega
theorem y_letter (hX : XI g P σ) (hA : g_A g P a) {x : Int32} {Q : Int32 → tw_S → Prop} (h1 : inI x 97 98 → inI P.2.1 0 23 → ∀ s, XI g (P.1, P.2.1 + 1, P.2.2) s → Q (P.2.1 + 1) s) (h2 : inI x 97 98 → ¬ inI P.2.1 0 23 → Q (-1000000004) σ) (h3 : ¬ inI x 97 98 → Q (-1000000002) σ) : wp_X8_letter g σ a x Q := by
  unfold wp_X8_letter wp_X7_length
  have T : inI x 97 98 → wp_X7_add g σ (tw_R g a 6) (x - (97 : Int32)) (fun r3 σ2 => ((r3 = 0) → Q (-1000000004 : Int32) σ2) ∧ (¬ (r3 = 0) → Q (tw_I σ2 (tw_R g a 6) 1) σ2)) := by
    intro hx
    rw [← hA.2.1]
    refine x_wadd hX (fun z s h => ⟨fun c => absurd c (by decide), fun _ => ?_⟩) (fun z => ⟨fun _ => h2 hx z, fun c => absurd rfl c⟩)
    have e : tw_I s P.1 1 = P.2.1 + 1 := h.2.2.2.2.2.2.2.2.1
    rw [e]
    exact h1 hx z s h
  refine ⟨fun c => T ?_, fun c1 => ⟨fun c => T ?_, fun c2 => h3 (fun z => ?_)⟩⟩
  · rw [c]; exact ⟨by decide, by decide⟩
  · rw [c]; exact ⟨by decide, by decide⟩
  · rw [i_eq] at c1 c2
    have e1 : (97 : Int32).toInt = 97 := rfl
    have e2 : (98 : Int32).toInt = 98 := rfl
    have := z.1; have := z.2
    omega
theorem z_wb2 {W k L : Nat} {R : Nat × Int32 × Nat × (Nat → Int32)} {K Q : tw_S → Prop} (hL : L ≤ 24) : ∀ i, i ≤ L → ∀ σ, XI g (W, nI (L - i), R) σ → (∀ s, XI g (W, nI L, R) s → K s) → wl_X7_become_10 g W (nI k) Q K (i + 1) 1 (nI i + (-1)) σ := by
  intro i
  induction i with
  | zero =>
    intro _ σ h hK
    rw [wl_X7_become_10]
    exact ⟨fun _ => hK σ h, fun c => absurd (by decide) c⟩
  | succ i ih =>
    intro hi σ h hK
    rw [x_dn, wl_X7_become_10]
    refine ⟨fun c => ?_, fun _ z3 _ => ⟨fun c => absurd c (by decide), fun _ => ?_⟩⟩
    · rw [i_lt, nI_toInt (by omega)] at c
      have := e_0
      omega
    · have et : (nI (L - (i + 1))).toInt = ((L - (i + 1) : Nat) : Int) := nI_toInt (by omega)
      refine x_wadd (P := (W, nI (L - (i + 1)), R)) h (fun _ s hs => ⟨fun _ => ih (by omega) s ?_ hK, fun c => absurd c (by decide)⟩) (fun c => absurd ?_ c)
      · have e : nI (L - (i + 1)) + 1 = nI (L - i) := by
          rw [nI_1]
          congr 1
          omega
        have hs : XI g (W, nI (L - (i + 1)) + 1, R) s := hs
        rw [e] at hs
        exact hs
      · show inI (nI (L - (i + 1))) 0 23
        exact ⟨by omega, by omega⟩
theorem z_wb1 {W k : Nat} {R : Nat × Int32 × Nat × (Nat → Int32)} (k1 : 1 ≤ k) (k2 : k ≤ 33554431) {K Q : tw_S → Prop} : ∀ i, Nat.log2 k < i → i ≤ 25 → XI g (W, 0, R) σ → (∀ s, XI g (W, nI (Nat.log2 k), R) s → K s) → wl_X7_become_10 g W (nI k) Q K (i + 1) 0 (nI i + (-1)) σ := by
  intro i
  induction i with
  | zero => intro h; exact absurd h (Nat.not_lt_zero _)
  | succ i ih =>
    intro h1 h2 h hK
    rw [x_dn, wl_X7_become_10, i_shr (by omega) (by omega)]
    refine ⟨fun c => ?_, fun _ z3 e3 => ⟨fun _ => ⟨fun c => absurd rfl c, fun _ => ?_⟩, fun c => absurd rfl c⟩⟩
    · rw [i_lt, nI_toInt (by omega)] at c
      have := e_0
      omega
    · by_cases hi : i = Nat.log2 k
      · have h5 : k / 2 ^ i = 1 := by
          rw [hi]
          refine Nat.le_antisymm ?_ ?_
          · have h6 : k / 2 ^ Nat.log2 k < 2 := (Nat.div_lt_iff_lt_mul (Nat.pow_pos (by decide))).mpr (by
              have h7 := lg_lt (k := k)
              rw [Nat.pow_succ] at h7
              omega)
            omega
          · exact (Nat.le_div_iff_mul_le (Nat.pow_pos (by decide))).mpr (by have := lg_le k1; omega)
        rw [h5] at e3
        refine ⟨fun c => absurd (by rw [e3]; decide) c, fun _ => ?_⟩
        rw [hi]
        refine z_wb2 (lg_24 k1 k2) _ (Nat.le_refl _) σ ?_ hK
        rw [Nat.sub_self]; exact h
      · have h5 : k / 2 ^ i = 0 := by
          refine Nat.div_eq_of_lt ?_
          have h7 := lg_lt (k := k)
          exact Nat.lt_of_lt_of_le h7 (Nat.pow_le_pow_right (by decide) (by omega))
        rw [h5] at e3
        exact ⟨fun _ => ih (by omega) (by omega) h hK, fun c => absurd (c.symm.trans e3) (by decide)⟩
theorem z_wb {k : Nat} (k1 : 1 ≤ k) (k2 : k ≤ 33554431) (hX : XI g P σ) {Q : tw_S → Prop} (hQ : ∀ s, XI g (P.1, nI (Nat.log2 k), P.2.2) s → Q s) : wp_X7_become g σ P.1 (nI k) Q := by
  unfold wp_X7_become
  intro s1 e1
  have h1 : XI g (P.1, 0, P.2.2) s1 := e1 ▸ xi_71w hX ⟨by decide, by decide⟩
  exact ⟨26, z_wb1 k1 k2 25 (by have := lg_24 k1 k2; omega) (by decide) h1 hQ⟩
theorem y_word (hX : XI g P σ) (hA : g_A g P a) {x : Int32} {Q : Int32 → tw_S → Prop} (h1 : inI x 1 33554431 → ∀ s, XI g (P.1, f_word x, P.2.2) s → Q (f_word x) s) (h0 : ¬ inI x 1 33554431 → Q (-1000000002) σ) : wp_X8_word g σ a x Q := by
  unfold wp_X8_word wp_X7_length
  have e1 := e_1
  have e2 : (33554432 : Int32).toInt = 33554432 := rfl
  refine ⟨fun c => h0 (fun z => ?_), fun c1 => ⟨fun c2 => ?_, fun c => h0 (fun z => ?_)⟩⟩
  · rw [i_lt] at c; have := z.1; omega
  · have hx : inI x 1 33554431 := by
      rw [i_lt] at c1 c2
      exact ⟨by omega, by omega⟩
    have h1 := h1 hx
    have e : f_word x = nI (Nat.log2 x.toInt.toNat) := if_pos hx
    rw [e] at h1
    obtain ⟨k, k1, k2, rfl, k3⟩ := inI_nI (lo := 1) (hi := 33554431) hx
    have ek : (nI k).toInt.toNat = k := by rw [nI_toInt k3]; rfl
    rw [ek] at h1
    rw [← hA.2.1]
    refine z_wb k1 k2 hX fun s h => ?_
    have e : tw_I s P.1 1 = nI (Nat.log2 k) := h.2.2.2.2.2.2.2.2.1
    rw [e]
    exact h1 s h
  · rw [i_lt] at c; have := z.2; omega
theorem y_wipe (hX : XI g P σ) (hA : g_A g P a) {Q : Int32 → tw_S → Prop} (hQ : ∀ s, XI g (P.1, 0, P.2.2) s → Q P.2.1 s) : wp_X8_wipe g σ a Q := by
  unfold wp_X8_wipe wp_X7_length
  rw [← hA.2.1]
  have e : tw_I σ P.1 1 = P.2.1 := hX.2.2.2.2.2.2.2.2.1
  rw [e]
  exact z_wb (k := 1) (by decide) (by decide) hX hQ
theorem x_imageAt (hX : XI g P σ) (hA : g_A g P a) {x : Int32} {Q : Option Nat → tw_S → Prop} (h0 : ¬ inI x 0 1 → Q none σ) (h1 : inI x 0 1 → vp_in x 2 → ∀ y, tw_is g 0 y → Q (some y) σ) : wp_X8_imageAt g σ a x Q := by
  unfold wp_X8_imageAt
  have e0 := e_0
  have e2 := e_2
  refine ⟨fun c => h0 (fun z => ?_), fun c1 => ⟨fun c => h0 (fun z => ?_), fun c2 => ?_⟩⟩
  · rw [i_lt] at c; have := z.1; omega
  · rw [i_le] at c; have := z.2; omega
  · have hx : inI x 0 1 := by
      rw [i_lt] at c1
      rw [i_le] at c2
      exact ⟨by omega, by omega⟩
    obtain ⟨j, hj, rfl⟩ := i_of (N := 2) (by decide) c1 c2
    have v : vp_in (nI j) 2 := vp_in_nI hj (by decide)
    have k1 := hX.1.1.1 (8, 2, 13, 2) (by decide) a hA.1
    refine ⟨v, h1 hx v _ (kdE hX k1.1 ?_)⟩
    rw [k1.2 (by decide), nI_clamp (by omega)]
    exact hj
theorem y_keep (hX : XI g P σ) (hA : g_A g P a) {x : Int32} {Q : Int32 → tw_S → Prop} (h1 : inI x 0 1 → ∀ s, XI g (P.1, P.2.1, P.2.2.1, P.2.2.2.1, P.2.2.2.2.1, upd P.2.2.2.2.2 x.toNatClampNeg 1) s → Q 1 s) (h0 : ¬ inI x 0 1 → Q (-1000000001) σ) : wp_X8_keep g σ a x Q := by
  unfold wp_X8_keep
  refine x_imageAt hX hA (fun hx => ⟨fun _ => h0 hx, fun _ c => (nomatch c)⟩) (fun hx v y hy => ⟨fun c => (nomatch c), fun y2 e => ?_⟩)
  obtain rfl : y = y2 := Option.some.inj e
  refine xg_0become hX hy (k8_0 hX hA) fun s4 h4 => ⟨v, fun s6 e6 => ?_⟩
  have ef : tw_A s4 P.2.2.2.2.1 = P.2.2.2.2.2 := h4.2.2.2.2.2.2.2.2.2.2
  have en : vp_nar .boolean (1 : Int32) = 1 := rfl
  rw [← hA.2.2.2, ef, en] at e6
  have h6 := e6 ▸ xi_83 (f := upd P.2.2.2.2.2 x.toNatClampNeg 1) h4
  exact xg_forget h6 (k8_1 hX hA) fun s7 h7 => h1 hx s7 h7
theorem y_goBack (hX : XI g P σ) (hA : g_A g P a) {x : Int32} {Q : Int32 → tw_S → Prop} (h1 : inI x 0 1 → ¬ P.2.2.2.2.2 x.toNatClampNeg = 0 → ∀ s, XI g P s → Q 1 s) (h2 : inI x 0 1 → P.2.2.2.2.2 x.toNatClampNeg = 0 → Q (-1000000003) σ) (h0 : ¬ inI x 0 1 → Q (-1000000001) σ) : wp_X8_goBack g σ a x Q := by
  unfold wp_X8_goBack
  refine x_imageAt hX hA (fun hx => ⟨fun _ => h0 hx, fun _ c => (nomatch c)⟩) (fun hx v y hy => ⟨fun c => (nomatch c), fun y2 e => ⟨v, ?_⟩⟩)
  obtain rfl : y = y2 := Option.some.inj e
  have ef : tw_A σ P.2.2.2.2.1 = P.2.2.2.2.2 := hX.2.2.2.2.2.2.2.2.2.2
  rw [← hA.2.2.2, ef]
  exact ⟨fun c => xg_0become hX (k8_0 hX hA) hy fun s6 h6 => xg_forget h6 (k8_1 hX hA) fun s7 h7 => h1 hx c s7 h7, fun c => h2 hx c⟩
end G8
