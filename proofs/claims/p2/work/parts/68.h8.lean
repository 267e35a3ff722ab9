/-! ===== the model in general: the one-way laid, its loops ===== -/
section H8
variable {g : tw_G} {p : h_P} {σ σ2 : tw_S} {b k : Nat}
def fok (f : Nat → Int32) (m k : Nat) : Prop := f (151 * m + k) = -1 ∨ ∃ w : Nat, w < 300 ∧ w / 2 < k ∧ f (151 * m + k) = nI w
/-- the other one-way's rows are as they were -/
def FRM (g : tw_G) (b m : Nat) (σ s : tw_S) : Prop := (∀ j, j ≠ m → tw_A s (tw_R g b 20) j = tw_A σ (tw_R g b 20) j) ∧ (∀ i, (i < 302 * m ∨ 302 * m + 302 ≤ i) → tw_A s (tw_R g b 22) i = tw_A σ (tw_R g b 22) i) ∧ (∀ i, (i < 151 * m ∨ 151 * m + 151 ≤ i) → tw_A s (tw_R g b 24) i = tw_A σ (tw_R g b 24) i)
def LI (g : tw_G) (b : Nat) (p : h_P) (m F K : Nat) (σ s : tw_S) : Prop := MI g b p s ∧ tw_A s (tw_R g b 20) m = nI F ∧ 1 ≤ F ∧ F ≤ 150 ∧ (∀ k, k < F → okd (tw_A s (tw_R g b 21)) (151 * m + k)) ∧ (∀ k, k < F → fok (tw_A s (tw_R g b 24)) m k) ∧ (∀ i, i < K → inI (tw_A s (tw_R g b 22) (302 * m + i)) 0 (F - 1 : Int)) ∧ FRM g b m σ s
def OWP (g : tw_G) (b m : Nat) (s : tw_S) : Prop := ∃ F : Nat, 1 ≤ F ∧ F ≤ 150 ∧ tw_A s (tw_R g b 20) m = nI F ∧ (∀ i, i < 2 * F → inI (tw_A s (tw_R g b 22) (302 * m + i)) 0 (F - 1 : Int)) ∧ ∀ k, k < F → fok (tw_A s (tw_R g b 24)) m k
theorem lp_frm {m m2 : Nat} (hm : m < 2) (hm2 : m2 < 2) (hne : m ≠ m2) (h : OWP g b m σ) (hf : FRM g b m2 σ σ2) : OWP g b m σ2 := by
  obtain ⟨F, h1, h2, h3, h4, h5⟩ := h
  refine ⟨F, h1, h2, by rw [hf.1 m hne]; exact h3, fun i hi => ?_, fun k hk => ?_⟩
  · rw [hf.2.1 _ (by omega)]; exact h4 i hi
  · have := h5 k hk
    unfold fok at this ⊢
    rw [hf.2.2 _ (by omega)]
    exact this
theorem h_l45 {m F k : Nat} (hm : m < 2) (hk : k < F) {Q : Int32 → tw_S → Prop} {K1 K2 : tw_S → Prop} {s : tw_S} (hL : LI g b p m F (2 * k) σ s) (h1 : ∀ s, MI g b p s → K1 s) (h2 : ∀ F2 s, F ≤ F2 → LI g b p m F2 (2 * k + 2) σ s → K2 s) : ∃ n, wl_X9_lays_45 g b (nI m) (nI k) Q K1 K2 n 0 s := by
  refine lp_up (I := fun l s => ∃ F2, F ≤ F2 ∧ LI g b p m F2 (2 * k + l) σ s) 2 ?_ ?_ 0 (by decide) s ⟨F, Nat.le_refl _, hL⟩
  · intro n l s hl ⟨F2, hF2, hL⟩ ih
    obtain ⟨hM, l20, l1, l150, ld, lf, ln, lr⟩ := hL
    have vm : vp_in (nI m) 2 := vp_in_nI hm (by decide)
    have cm : (nI m).toNatClampNeg = m := nI_clamp (by omega)
    have hx : inI (nI m) 0 1 := by
      have e := nI_toInt (n := m) (by omega)
      exact ⟨by omega, by omega⟩
    have hz : inI (nI l) 0 3 := by
      have e := nI_toInt (n := l) (by omega)
      exact ⟨by omega, by omega⟩
    rw [wl_X9_lays_45, nI_1, cm]
    refine ⟨fun c => absurd c (nI_nle2 hl (by decide)), fun _ => ⟨vm, fun z14 e14 => h_at ?_⟩⟩
    rw [l20] at e14
    have e5 : (5 : Int32) * nI (151 * m + k) = nI (5 * (151 * m + k)) := pk_mul 5 _
    rw [e5, nI_clamp (by omega)]
    refine ⟨vp_in_nI (by omega) (by decide), h_at ?_⟩
    have dk := ld k (by omega)
    refine h_tries hM hx hz (dk 0 (by decide)) (Or.inr ⟨151 * m + k, by omega, rfl, dk⟩) fun s20 h20 f20 t20 => ?_
    refine h_findsTried (F := F2) h20 hm l150 (by rw [f20 20 (by decide) (by decide)]; exact l20) (by rw [f20 21 (by decide) (by decide)]; exact ld) t20 fun k2 F3 s21 h21 hc e21 o21 f21 d21 => ⟨vm, fun c150 => ?_, fun _ => h1 s21 h21⟩
    rw [e21] at c150
    refine h_at ?_
    rw [at2, nI_clamp (by omega)]
    refine ⟨vp_in_nI (by omega) (by decide), fun s28 e28 => ⟨vm, ?_⟩⟩
    have h28 : MI g b p s28 := e28 ▸ mi_A h21 rfl
    have r20 : tw_A s28 (tw_R g b 20) = tw_A s21 (tw_R g b 20) := by rw [e28, mi_q h21 rfl rfl (by decide)]
    have r21 : tw_A s28 (tw_R g b 21) = tw_A s21 (tw_R g b 21) := by rw [e28, mi_q h21 rfl rfl (by decide)]
    have r24 : tw_A s28 (tw_R g b 24) = tw_A s (tw_R g b 24) := by rw [e28, mi_q h21 rfl rfl (by decide), f21 24 (by decide) (by decide) (by decide), f20 24 (by decide) (by decide)]
    have r22 : tw_A s28 (tw_R g b 22) = upd (tw_A s (tw_R g b 22)) (2 * (151 * m + k) + l) (nI k2) := by rw [e28, mi_s, f21 22 (by decide) (by decide) (by decide), f20 22 (by decide) (by decide)]
    have hF3 : F3 ≤ 150 ∧ F2 ≤ F3 ∧ k2 < F3 := by
      have q : F3 < 2 ^ 31 := by omega
      rw [i_le, nI_toInt q, e_150] at c150
      omega
    have NX : ∀ i, i < 2 * k + l + 1 → inI (tw_A s28 (tw_R g b 22) (302 * m + i)) 0 (F3 - 1 : Int) := by
      intro i hi
      rw [r22]
      unfold upd
      split
      · have e := nI_toInt (n := k2) (by omega)
        exact ⟨by omega, by omega⟩
      · have := ln i (by omega)
        exact ⟨this.1, by have := this.2; omega⟩
    have FR : (∀ j, j ≠ m → tw_A s28 (tw_R g b 20) j = tw_A σ (tw_R g b 20) j) ∧ (∀ i, (i < 302 * m ∨ 302 * m + 302 ≤ i) → tw_A s28 (tw_R g b 22) i = tw_A σ (tw_R g b 22) i) ∧ (∀ i, (i < 151 * m ∨ 151 * m + 151 ≤ i) → tw_A s28 (tw_R g b 24) i = tw_A σ (tw_R g b 24) i) := by
      refine ⟨fun j hj => ?_, fun i hi => ?_, fun i hi => ?_⟩
      · rw [r20, o21 j hj, f20 20 (by decide) (by decide)]; exact lr.1 j hj
      · rw [r22]
        unfold upd
        rw [if_neg (by omega)]
        exact lr.2.1 i hi
      · rw [r24]; exact lr.2.2 i hi
    rw [r20, e21, e14]
    rcases hc with ⟨rfl, hk2⟩ | ⟨rfl, rfl⟩
    · refine ⟨fun _ => ih s28 ⟨F3, hF2, h28, by rw [r20]; exact e21, l1, l150, by rw [r21]; exact d21, by rw [r24]; exact lf, NX, FR⟩, fun c => absurd (i_le.mpr (Int.le_refl _)) c⟩
    · refine ⟨fun c => absurd c (nI_nle2 (Nat.lt_succ_self _) (by omega)), fun _ => h_at ?_⟩
      rw [at2, nI_clamp (by omega)]
      refine ⟨vp_in_nI (by omega) (by decide), fun s34 e34 => ?_⟩
      have t20 : tw_A s34 (tw_R g b 20) = tw_A s28 (tw_R g b 20) := by rw [e34, mi_q h28 rfl rfl (by decide)]
      have t21 : tw_A s34 (tw_R g b 21) = tw_A s28 (tw_R g b 21) := by rw [e34, mi_q h28 rfl rfl (by decide)]
      have t22 : tw_A s34 (tw_R g b 22) = tw_A s28 (tw_R g b 22) := by rw [e34, mi_q h28 rfl rfl (by decide)]
      have t24 : tw_A s34 (tw_R g b 24) = upd (tw_A s (tw_R g b 24)) (151 * m + k2) (nI (2 * k + l)) := by rw [e34, mi_s, r24]
      refine ih s34 ⟨k2 + 1, by omega, e34 ▸ mi_A h28 rfl, by rw [t20, r20]; exact e21, by omega, hF3.1, by rw [t21, r21]; exact d21, fun j hj => ?_, by rw [t22]; exact NX, fun j hj => by rw [t20]; exact FR.1 j hj, fun i hi => by rw [t22]; exact FR.2.1 i hi, fun i hi => ?_⟩
      · rw [t24]
        unfold fok
        by_cases c : j = k2
        · subst c
          exact Or.inr ⟨2 * k + l, by omega, by omega, if_pos rfl⟩
        · have := lf j (by omega)
          have eu : upd (tw_A s (tw_R g b 24)) (151 * m + k2) (nI (2 * k + l)) (151 * m + j) = tw_A s (tw_R g b 24) (151 * m + j) := if_neg (by omega)
          rw [eu]
          exact this
      · rw [t24]
        have eu : upd (tw_A s (tw_R g b 24)) (151 * m + k2) (nI (2 * k + l)) i = tw_A s (tw_R g b 24) i := if_neg (by omega)
        rw [eu]
        exact lr.2.2 i hi
  · intro n s ⟨F2, hF2, hL⟩
    rw [wl_X9_lays_45]
    exact ⟨fun _ => h2 F2 s hF2 hL, fun c => absurd (by decide) c⟩
theorem h_lays (hM : MI g b p σ) {m : Nat} (hm : m < 2) {Q : Int32 → tw_S → Prop} (hQ : ∀ r s, (r = 0 ∨ r = 1) → MI g b p s → (r = 1 → OWP g b m s ∧ FRM g b m σ s) → Q r s) : wp_X9_lays g σ b (nI m) Q := by
  unfold wp_X9_lays
  have vm : vp_in (nI m) 2 := vp_in_nI hm (by decide)
  have cm : (nI m).toNatClampNeg = m := nI_clamp (by omega)
  have hx : inI (nI m) 0 1 := by
    have e := nI_toInt (n := m) (by omega)
    exact ⟨by omega, by omega⟩
  rw [cm]
  refine ⟨vm, fun s2 e2 => ?_⟩
  have h2 : MI g b p s2 := e2 ▸ mi_A hM rfl
  have f2 : ∀ j, j ∈ m_sl → j ≠ 20 → tw_A s2 (tw_R g b j) = tw_A σ (tw_R g b j) := fun j hj hj2 => by rw [e2, mi_q hM rfl (List.contains_iff_mem.mpr hj) hj2]
  have r2 : tw_A s2 (tw_R g b 20) = upd (tw_A σ (tw_R g b 20)) m 0 := by rw [e2, mi_s]
  refine h_tries h2 hx ⟨by decide, by decide⟩ ⟨by decide, by decide⟩ (Or.inl rfl) fun s3 h3 f3 t3 => ?_
  refine h_findsTried (F := 0) h3 hm (by decide) (by rw [f3 20 (by decide) (by decide), r2]; exact if_pos rfl) (fun k hk => absurd hk (Nat.not_lt_zero _)) t3 fun k F s4 h4 hc e4 o4 f4 d4 => ?_
  have hc : F = 1 ∧ k = 0 := by omega
  obtain ⟨rfl, rfl⟩ := hc
  refine h_at ?_
  rw [nI_clamp (by omega)]
  refine ⟨vp_in_nI (by omega) (by decide), fun s9 e9 => ?_⟩
  have h9 : MI g b p s9 := e9 ▸ mi_A h4 rfl
  have r20 : tw_A s9 (tw_R g b 20) = tw_A s4 (tw_R g b 20) := by rw [e9, mi_q h4 rfl rfl (by decide)]
  have r21 : tw_A s9 (tw_R g b 21) = tw_A s4 (tw_R g b 21) := by rw [e9, mi_q h4 rfl rfl (by decide)]
  have r22 : tw_A s9 (tw_R g b 22) = tw_A σ (tw_R g b 22) := by rw [e9, mi_q h4 rfl rfl (by decide), f4 22 (by decide) (by decide) (by decide), f3 22 (by decide) (by decide), f2 22 (by decide) (by decide)]
  have r24 : tw_A s9 (tw_R g b 24) = upd (tw_A σ (tw_R g b 24)) (151 * m + 0) (-1) := by rw [e9, mi_s, f4 24 (by decide) (by decide) (by decide), f3 24 (by decide) (by decide), f2 24 (by decide) (by decide)]
  have L9 : LI g b p m 1 (2 * 0) σ s9 := by
    refine ⟨h9, by rw [r20]; exact e4, by decide, by decide, by rw [r21]; exact d4, fun k hk => ?_, fun i hi => absurd hi (by omega), fun j hj => ?_, fun i _ => by rw [r22], fun i hi => ?_⟩
    · obtain rfl : k = 0 := by omega
      rw [r24]
      exact Or.inl (if_pos rfl)
    · rw [r20, o4 j hj, f3 20 (by decide) (by decide), r2]
      exact if_neg hj
    · rw [r24]
      exact if_neg (by omega)
  have key : ∀ (d k : Nat), k + d = 151 → ∀ F s, k ≤ F → LI g b p m F (2 * k) σ s → wl_X9_lays_33 g b (nI m) Q (fun σ46 => Q (0 : Int32) σ46) (fun σ47 => Q (1 : Int32) σ47) d (nI k) s := by
    intro d
    induction d with
    | zero => intro k hk F s hF hL; exact absurd hL.2.2.2.1 (by omega)
    | succ d ih =>
      intro k hk F s hF hL
      have hL0 := hL
      obtain ⟨hM, l20, l1, l150, ld, lf, ln, lr⟩ := hL
      rw [wl_X9_lays_33, nI_1, cm, l20]
      refine ⟨vm, fun c => ?_, fun c => ?_⟩
      · have e : k = F := by
          rw [i_le, nI_toInt (by omega), nI_toInt (by omega)] at c
          omega
        subst e
        exact hQ 1 s (Or.inr rfl) hM (fun _ => ⟨⟨k, l1, l150, l20, ln, lf⟩, lr⟩)
      · have hk2 : k < F := by
          rw [i_le, nI_toInt (by omega), nI_toInt (by omega)] at c
          omega
        refine h_l45 hm hk2 hL0 (fun s hs => hQ 0 s (Or.inl rfl) hs (fun e => absurd e (by decide))) (fun F2 s36 hF2 h36 => h_at ?_)
        obtain ⟨gM, g20, g1, g150, gd, gf, gn, gr⟩ := h36
        refine h_isGood gM hm (by omega) (gd k (by omega)) fun r40 => ?_
        rw [nI_clamp (by omega)]
        have v3 : vp_in (nI (151 * m + k)) 302 := vp_in_nI (by omega) (by decide)
        have W : ∀ v : Int32, ∀ s43, s43 = tw_sA s36 (tw_R g b 23) (upd (tw_A s36 (tw_R g b 23)) (151 * m + k) v) → wl_X9_lays_33 g b (nI m) Q (fun σ46 => Q (0 : Int32) σ46) (fun σ47 => Q (1 : Int32) σ47) d (nI (k + 1)) s43 := by
          intro v s43 e43
          have q : ∀ j, m_sl.contains j = true → j ≠ 23 → tw_A s43 (tw_R g b j) = tw_A s36 (tw_R g b j) := fun j hj hj2 => by rw [e43, mi_q gM rfl hj hj2]
          refine ih (k + 1) (by omega) F2 s43 (by omega) ⟨e43 ▸ mi_A gM rfl, by rw [q 20 rfl (by decide)]; exact g20, g1, g150, by rw [q 21 rfl (by decide)]; exact gd, by rw [q 24 rfl (by decide)]; exact gf, by rw [q 22 rfl (by decide)]; exact gn, ?_⟩
          refine ⟨fun j hj => ?_, fun i hi => ?_, fun i hi => ?_⟩
          · rw [q 20 rfl (by decide)]; exact gr.1 j hj
          · rw [q 22 rfl (by decide)]; exact gr.2.1 i hi
          · rw [q 24 rfl (by decide)]; exact gr.2.2 i hi
        exact ⟨fun _ => ⟨v3, W 0⟩, fun _ => ⟨v3, W 1⟩⟩
  exact ⟨151, key 151 0 (by decide) 1 s9 (by decide) L9⟩
theorem h_laysBoth (hM : MI g b p σ) {Q : Int32 → tw_S → Prop} (hQ : ∀ r s, (r = 0 ∨ r = 1) → MI g b p s → (r = 1 → OWP g b 0 s ∧ OWP g b 1 s) → Q r s) : wp_X9_laysBoth g σ b Q := by
  unfold wp_X9_laysBoth
  refine h_lays (m := 0) hM (by decide) fun r2 s1 hr2 h1 k1 => h_lays (m := 1) h1 (by decide) fun r4 s3 hr4 h3 k3 => ⟨fun _ => hQ _ _ (Or.inl rfl) h3 (fun e => absurd e (by decide)), fun c4 => ⟨fun _ => hQ _ _ (Or.inl rfl) h3 (fun e => absurd e (by decide)), fun c2 => hQ _ _ (Or.inr rfl) h3 (fun _ => ?_)⟩⟩
  have a := k1 (h_r1 hr2 c2)
  have d := k3 (h_r1 hr4 c4)
  exact ⟨lp_frm (by decide) (by decide) (by decide) a.1 d.2, d.1⟩
end H8
