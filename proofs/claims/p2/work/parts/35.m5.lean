/-! ===== lays and what asks it, on a fresh object ===== -/
/-- rows of the one-way machines: nothing of the other machine's part is written -/
def m_E (g : tw_G) (a0 q : Nat) (τ σ : tw_S) : Prop := (∀ j, j ≠ q → tw_A σ (tw_R g a0 20) j = tw_A τ (tw_R g a0 20) j) ∧ (∀ j, j < 755 * q ∨ 755 * q + 755 ≤ j → tw_A σ (tw_R g a0 21) j = tw_A τ (tw_R g a0 21) j) ∧ (∀ j, j < 302 * q ∨ 302 * q + 302 ≤ j → tw_A σ (tw_R g a0 22) j = tw_A τ (tw_R g a0 22) j) ∧ (∀ j, j < 151 * q ∨ 151 * q + 151 ≤ j → tw_A σ (tw_R g a0 23) j = tw_A τ (tw_R g a0 23) j) ∧ ∀ j, j < 151 * q ∨ 151 * q + 151 ≤ j → tw_A σ (tw_R g a0 24) j = tw_A τ (tw_R g a0 24) j
section M6
variable {g : tw_G} {τ σ σ2 : tw_S} {a0 q : Nat}
theorem mE_rf : m_E g a0 q τ τ := ⟨fun _ _ => rfl, fun _ _ => rfl, fun _ _ => rfl, fun _ _ => rfl, fun _ _ => rfl⟩
theorem mE_tr (h1 : m_E g a0 q τ σ) (h2 : m_E g a0 q σ σ2) : m_E g a0 q τ σ2 := ⟨fun j h => (h2.1 j h).trans (h1.1 j h), fun j h => (h2.2.1 j h).trans (h1.2.1 j h), fun j h => (h2.2.2.1 j h).trans (h1.2.2.1 j h), fun j h => (h2.2.2.2.1 j h).trans (h1.2.2.2.1 j h), fun j h => (h2.2.2.2.2 j h).trans (h1.2.2.2.2 j h)⟩
theorem mE_k {KI KA : List Nat} (h : m_k g a0 KI KA σ σ2) (h1 : 20 ∉ KA) (h2 : 21 ∉ KA) (h3 : 22 ∉ KA) (h4 : 23 ∉ KA) (h5 : 24 ∉ KA) : m_E g a0 q σ σ2 :=
  ⟨fun j _ => by rw [h.2 20 (by decide) h1], fun j _ => by rw [h.2 21 (by decide) h2], fun j _ => by rw [h.2 22 (by decide) h3], fun j _ => by rw [h.2 23 (by decide) h4], fun j _ => by rw [h.2 24 (by decide) h5]⟩
theorem mE_20 (hd : m_d g a0) {v : Int32} (e : σ2 = tw_sA σ (tw_R g a0 20) (upd (tw_A σ (tw_R g a0 20)) q v)) : m_E g a0 q σ σ2 := by
  subst e
  refine ⟨fun j h => ?_, fun j h => ?_, fun j h => ?_, fun j h => ?_, fun j h => ?_⟩
  · rw [tw_A_sA, if_pos rfl, pk_un h]
  · rw [tw_A_sA, if_neg (hd 21 20 (by decide) (by decide) (by decide))]
  · rw [tw_A_sA, if_neg (hd 22 20 (by decide) (by decide) (by decide))]
  · rw [tw_A_sA, if_neg (hd 23 20 (by decide) (by decide) (by decide))]
  · rw [tw_A_sA, if_neg (hd 24 20 (by decide) (by decide) (by decide))]
theorem mE_22 (hd : m_d g a0) {v : Int32} {i : Nat} (h1 : 302 * q ≤ i) (h2 : i < 302 * q + 302) (e : σ2 = tw_sA σ (tw_R g a0 22) (upd (tw_A σ (tw_R g a0 22)) i v)) : m_E g a0 q σ σ2 := by
  subst e
  refine ⟨fun j h => ?_, fun j h => ?_, fun j h => ?_, fun j h => ?_, fun j h => ?_⟩
  · rw [tw_A_sA, if_neg (hd 20 22 (by decide) (by decide) (by decide))]
  · rw [tw_A_sA, if_neg (hd 21 22 (by decide) (by decide) (by decide))]
  · rw [tw_A_sA, if_pos rfl, pk_un (by omega)]
  · rw [tw_A_sA, if_neg (hd 23 22 (by decide) (by decide) (by decide))]
  · rw [tw_A_sA, if_neg (hd 24 22 (by decide) (by decide) (by decide))]
theorem mE_23 (hd : m_d g a0) {v : Int32} {i : Nat} (h1 : 151 * q ≤ i) (h2 : i < 151 * q + 151) (e : σ2 = tw_sA σ (tw_R g a0 23) (upd (tw_A σ (tw_R g a0 23)) i v)) : m_E g a0 q σ σ2 := by
  subst e
  refine ⟨fun j h => ?_, fun j h => ?_, fun j h => ?_, fun j h => ?_, fun j h => ?_⟩
  · rw [tw_A_sA, if_neg (hd 20 23 (by decide) (by decide) (by decide))]
  · rw [tw_A_sA, if_neg (hd 21 23 (by decide) (by decide) (by decide))]
  · rw [tw_A_sA, if_neg (hd 22 23 (by decide) (by decide) (by decide))]
  · rw [tw_A_sA, if_pos rfl, pk_un (by omega)]
  · rw [tw_A_sA, if_neg (hd 24 23 (by decide) (by decide) (by decide))]
theorem mE_24 (hd : m_d g a0) {v : Int32} {i : Nat} (h1 : 151 * q ≤ i) (h2 : i < 151 * q + 151) (e : σ2 = tw_sA σ (tw_R g a0 24) (upd (tw_A σ (tw_R g a0 24)) i v)) : m_E g a0 q σ σ2 := by
  subst e
  refine ⟨fun j h => ?_, fun j h => ?_, fun j h => ?_, fun j h => ?_, fun j h => ?_⟩
  · rw [tw_A_sA, if_neg (hd 20 24 (by decide) (by decide) (by decide))]
  · rw [tw_A_sA, if_neg (hd 21 24 (by decide) (by decide) (by decide))]
  · rw [tw_A_sA, if_neg (hd 22 24 (by decide) (by decide) (by decide))]
  · rw [tw_A_sA, if_neg (hd 23 24 (by decide) (by decide) (by decide))]
  · rw [tw_A_sA, if_pos rfl, pk_un (by omega)]
theorem mE_F {p : Nat} (hp : p < 2) (hq : q < 2) (hne : p ≠ q) (h : m_E g a0 q τ σ) (hF : m_F g a0 p τ) : m_F g a0 p σ := by
  obtain ⟨f1, f2, f3, f4, f5, f6⟩ := hF
  obtain ⟨e1, e2, e3, e4, e5⟩ := h
  refine ⟨by rw [e1 p hne]; exact f1, fun t ht => ?_, ?_, ?_, ?_, ?_⟩
  · rw [e2 _ (by omega)]; exact f2 t ht
  · rw [e3 _ (by omega)]; exact f3
  · rw [e3 _ (by omega)]; exact f4
  · rw [e4 _ (by omega)]; exact f5
  · rw [e5 _ (by omega)]; exact f6
theorem m1_isGood (hq : q < 2) (hdo : ∀ t, t < 5 → tw_A σ (tw_R g a0 21) (755 * q + t) = -1) {Q : Int32 → tw_S → Prop} (hQ : Q 0 σ) : wp_X9_isGood g σ a0 (nI q) (nI 0) Q := by
  unfold wp_X9_isGood
  refine m_at ?_
  have e5 : (5 : Int32) * nI (151 * q + 0) = nI (755 * q + 0) := by
    have z : (5 : Int32) * nI (151 * q + 0) = nI (5 * (151 * q + 0)) := pk_mul 5 _
    rw [z]
    congr 1
    omega
  rw [e5, nI_clamp (by omega), hdo 0 (by decide)]
  refine ⟨vp_in_nI (by omega) (by decide), fun z4 e4 => ⟨1, ?_⟩⟩
  rw [wl_X9_isGood_17, e4]
  exact ⟨fun _ => hQ, fun c => absurd rfl c⟩
theorem m1_lays (hd : m_d g a0) (hq : q < 2) (hn : tw_A τ (tw_R g a0 0) = sm_now) {Q : Int32 → tw_S → Prop} (hQ : ∀ τ2, m_k g a0 [] [20, 21, 22, 23, 24, 25] τ τ2 → m_E g a0 q τ τ2 → m_F g a0 q τ2 → Q 1 τ2) : wp_X9_lays g τ a0 (nI q) Q := by
  unfold wp_X9_lays
  have v : vp_in (nI q) 2 := vp_in_nI hq (by decide)
  have sub25 : ∀ k ∈ [25], k ∈ [20, 21, 22, 23, 24, 25] := by decide
  have sub21 : ∀ k ∈ [20, 21], k ∈ [20, 21, 22, 23, 24, 25] := by decide
  rw [nI_clamp (by omega)]
  refine ⟨v, fun σ2 e2 => ?_⟩
  have k2 : m_k g a0 [] [20, 21, 22, 23, 24, 25] τ σ2 := mk_sA hd mk_rf 20 (by decide) (by decide) e2
  have E2 : m_E g a0 q τ σ2 := mE_20 hd e2
  have z2 : tw_A σ2 (tw_R g a0 20) q = 0 := by rw [e2, tw_A_sA, if_pos rfl, pk_us]
  refine m1_tries (c := 2) hd hq (by decide) ((k2.2 0 (by decide) (by decide)).trans hn) (Or.inl rfl) fun σ3 k3 t3 => ?_
  have z3 : tw_A σ3 (tw_R g a0 20) q = 0 := by rw [k3.2 20 (by decide) (by decide)]; exact z2
  have E3 : m_E g a0 q τ σ3 := mE_tr E2 (mE_k k3 (by decide) (by decide) (by decide) (by decide) (by decide))
  have k3 : m_k g a0 [] [20, 21, 22, 23, 24, 25] τ σ3 := mk_tr k2 (mk_wk k3 (fun _ h => h) sub25)
  refine m1_find0 hd hq z3 t3 fun σ4 k4 a4 b4 c4 d4 => ?_
  have E4 : m_E g a0 q τ σ4 := mE_tr E3 ⟨a4, fun j h => d4 j (by omega), fun j _ => by rw [k4.2 22 (by decide) (by decide)], fun j _ => by rw [k4.2 23 (by decide) (by decide)], fun j _ => by rw [k4.2 24 (by decide) (by decide)]⟩
  have k4 : m_k g a0 [] [20, 21, 22, 23, 24, 25] τ σ4 := mk_tr k3 (mk_wk k4 (fun _ h => h) sub21)
  refine m_at (x := 0) ?_
  rw [nI_clamp (by omega)]
  refine ⟨vp_in_nI (by omega) (by decide), fun σ9 e9 => ?_⟩
  have k9 : m_k g a0 [] [20, 21, 22, 23, 24, 25] τ σ9 := mk_sA hd k4 24 (by decide) (by decide) e9
  have E9 : m_E g a0 q τ σ9 := mE_tr E4 (mE_24 hd (by omega) (by omega) e9)
  have f9 : tw_A σ9 (tw_R g a0 24) (151 * q) = -1 := by rw [e9, tw_A_sA, if_pos rfl]; exact pk_us
  have b9 : tw_A σ9 (tw_R g a0 20) q = 1 := by rw [e9, tw_A_sA, if_neg (hd 20 24 (by decide) (by decide) (by decide))]; exact b4
  have c9 : ∀ t, t < 5 → tw_A σ9 (tw_R g a0 21) (755 * q + t) = -1 := fun t ht => by rw [e9, tw_A_sA, if_neg (hd 21 24 (by decide) (by decide) (by decide))]; exact c4 t ht
  refine ⟨2, ?_⟩
  rw [wl_X9_lays_33, nI_clamp (by omega), b9]
  refine ⟨v, fun c => absurd c (by decide), fun _ => ?_⟩
  refine lp_up (I := fun i σ => m_k g a0 [] [20, 21, 22, 23, 24, 25] τ σ ∧ m_E g a0 q τ σ ∧ tw_A σ (tw_R g a0 24) (151 * q) = -1 ∧ tw_A σ (tw_R g a0 20) q = 1 ∧ (∀ t, t < 5 → tw_A σ (tw_R g a0 21) (755 * q + t) = -1) ∧ ∀ j, j < i → tw_A σ (tw_R g a0 22) (302 * q + j) = 0) 2 ?_ ?_ 0 (by decide) σ9 ⟨k9, E9, f9, b9, c9, fun j h => absurd h (by omega)⟩
  · intro n i σ hi ⟨i1, i2, i3, i4, i5, i6⟩ ih
    rw [wl_X9_lays_45, nI_clamp (by omega), nI_1]
    refine ⟨fun c => absurd c (nI_ge (b := 2) hi (by decide)), fun _ => ⟨v, fun z14 e14 => ?_⟩⟩
    refine m_at (x := 0) ?_
    have e5 : (5 : Int32) * nI (151 * q + 0) = nI (755 * q + 0) := by
      have z : (5 : Int32) * nI (151 * q + 0) = nI (5 * (151 * q + 0)) := pk_mul 5 _
      rw [z]
      congr 1
      omega
    rw [e5, nI_clamp (by omega), i5 0 (by decide)]
    refine ⟨vp_in_nI (by omega) (by decide), ?_⟩
    refine m_at (x := 0) ?_
    refine m1_tries (c := i) hd hq (by omega) ((i1.2 0 (by decide) (by decide)).trans hn) (Or.inr rfl) fun σ20 k20 t20 => ?_
    have b20 : tw_A σ20 (tw_R g a0 20) q = 1 := by rw [k20.2 20 (by decide) (by decide)]; exact i4
    have c20 : ∀ t, t < 5 → tw_A σ20 (tw_R g a0 21) (755 * q + t) = -1 := fun t ht => by rw [k20.2 21 (by decide) (by decide)]; exact i5 t ht
    refine m1_find1 hq b20 t20 c20 ?_
    rw [b20]
    refine ⟨v, fun _ => ?_, fun c => absurd (by decide) c⟩
    refine m_at (x := 0) ?_
    have e2q : ((2 : Int32) * nI (151 * q + 0)) + nI i = nI (302 * q + i) := by
      have z : (2 : Int32) * nI (151 * q + 0) = nI (2 * (151 * q + 0)) := pk_mul 2 _
      rw [z, nI_add]
      congr 1
      omega
    rw [e2q, nI_clamp (by omega)]
    refine ⟨vp_in_nI (by omega) (by decide), fun σ28 e28 => ?_⟩
    have E20 : m_E g a0 q τ σ20 := mE_tr i2 (mE_k k20 (by decide) (by decide) (by decide) (by decide) (by decide))
    have k20b : m_k g a0 [] [20, 21, 22, 23, 24, 25] τ σ20 := mk_tr i1 (mk_wk k20 (fun _ h => h) sub25)
    have b28 : tw_A σ28 (tw_R g a0 20) q = 1 := by rw [e28, tw_A_sA, if_neg (hd 20 22 (by decide) (by decide) (by decide))]; exact b20
    rw [b28, e14, i4]
    refine ⟨v, fun _ => ih σ28 ⟨mk_sA hd k20b 22 (by decide) (by decide) e28, mE_tr E20 (mE_22 hd (by omega) (by omega) e28), ?_, b28, fun t ht => ?_, fun j hj => ?_⟩, fun c => absurd (by decide) c⟩
    · rw [e28, tw_A_sA, if_neg (hd 24 22 (by decide) (by decide) (by decide)), k20.2 24 (by decide) (by decide)]; exact i3
    · rw [e28, tw_A_sA, if_neg (hd 21 22 (by decide) (by decide) (by decide))]; exact c20 t ht
    · rw [e28, tw_A_sA, if_pos rfl]
      by_cases hji : j = i
      · subst hji
        exact pk_us
      · rw [pk_un (by omega), k20.2 22 (by decide) (by decide)]
        exact i6 j (by omega)
  · intro n σ ⟨i1, i2, i3, i4, i5, i6⟩
    rw [wl_X9_lays_45]
    refine ⟨fun _ => ?_, fun c => absurd (nI_le (Nat.le_refl 2) (by decide)) c⟩
    refine m_at (x := 0) ?_
    refine m1_isGood hq i5 ?_
    rw [nI_clamp (by omega)]
    refine ⟨fun _ => ⟨vp_in_nI (by omega) (by decide), fun σ43 e43 => ?_⟩, fun c => absurd rfl c⟩
    have b43 : tw_A σ43 (tw_R g a0 20) q = 1 := by rw [e43, tw_A_sA, if_neg (hd 20 23 (by decide) (by decide) (by decide))]; exact i4
    rw [wl_X9_lays_33, nI_clamp (by omega), b43]
    refine ⟨v, fun _ => hQ σ43 (mk_sA hd i1 23 (by decide) (by decide) e43) (mE_tr i2 (mE_23 hd (by omega) (by omega) e43)) ⟨b43, fun t ht => ?_, ?_, ?_, ?_, ?_⟩, fun c => absurd (by decide) c⟩
    · rw [e43, tw_A_sA, if_neg (hd 21 23 (by decide) (by decide) (by decide))]; exact i5 t ht
    · rw [e43, tw_A_sA, if_neg (hd 22 23 (by decide) (by decide) (by decide))]; exact i6 0 (by decide)
    · rw [e43, tw_A_sA, if_neg (hd 22 23 (by decide) (by decide) (by decide))]; exact i6 1 (by decide)
    · rw [e43, tw_A_sA, if_pos rfl]; exact pk_us
    · rw [e43, tw_A_sA, if_neg (hd 24 23 (by decide) (by decide) (by decide))]; exact i3
theorem m1_laysBoth (hd : m_d g a0) (hn : tw_A τ (tw_R g a0 0) = sm_now) {Q : Int32 → tw_S → Prop} (hQ : ∀ τ2, m_F g a0 0 τ2 → m_F g a0 1 τ2 → Q 1 τ2) : wp_X9_laysBoth g τ a0 Q := by
  unfold wp_X9_laysBoth
  refine m1_lays (q := 0) hd (by decide) hn fun σ1 k1 _ F1 => ?_
  refine m1_lays (q := 1) hd (by decide) ((k1.2 0 (by decide) (by decide)).trans hn) fun σ3 _ E3 F3 => ?_
  exact ⟨fun c => absurd c (by decide), fun _ => ⟨fun c => absurd c (by decide), fun _ => hQ σ3 (mE_F (by decide) (by decide) (by decide) E3 F1) F3⟩⟩
theorem m1_isBy {x : Int32} {Q : Int32 → tw_S → Prop} (hQ : Q 0 σ) : wp_X9_isBy g σ x 0 0 Q := by
  unfold wp_X9_isBy
  exact ⟨fun _ => ⟨fun _ => ⟨fun _ => ⟨fun _ => hQ, fun c => absurd rfl c⟩, fun _ => ⟨fun _ => hQ, fun c => absurd c (by decide)⟩⟩, fun _ => ⟨fun _ => hQ, fun c => absurd (by decide) c⟩⟩, fun _ => ⟨fun _ => hQ, fun c => absurd c (by decide)⟩⟩
theorem m1_firstBy (hd : m_d g a0) (F0 : m_F g a0 0 τ) (F1 : m_F g a0 1 τ) {x : Int32} {Q : Int32 → tw_S → Prop} (hQ : ∀ τ2, Q (-1) τ2) : wp_X9_firstBy g τ a0 x Q := by
  unfold wp_X9_firstBy
  refine lp_up (I := fun _ σ => m_k g a0 [] [30, 31, 32] τ σ) 22500 ?_ ?_ 0 (by decide) τ mk_rf
  · intro n i σ hi i1 ih
    rw [wl_X9_firstBy_2, nI_1]
    exact ⟨fun c => absurd c (nI_ge (b := 22500) hi (by decide)), fun _ => ⟨vp_in_nI hi (by decide), fun σ3 e3 => ih σ3 (mk_sA hd i1 32 (by decide) (by decide) e3)⟩⟩
  · intro n σ i1
    rw [wl_X9_firstBy_2]
    refine ⟨fun _ σ5 e5 σ6 e6 σ7 e7 => ?_, fun c => absurd (nI_le (Nat.le_refl 22500) (by decide)) c⟩
    have k7 : m_k g a0 [] [30, 31, 32] τ σ7 := mk_sA hd (mk_sA hd (mk_sA hd i1 30 (by decide) (by decide) e5) 31 (by decide) (by decide) e6) 32 (by decide) (by decide) e7
    have p7 : tw_A σ7 (tw_R g a0 30) (nI 0).toNatClampNeg = 0 := by
      rw [e7, tw_A_sA, if_neg (hd 30 32 (by decide) (by decide) (by decide)), e6, tw_A_sA, if_neg (hd 30 31 (by decide) (by decide) (by decide)), e5, tw_A_sA, if_pos rfl]
      exact pk_us
    have r7 : tw_A σ7 (tw_R g a0 32) 0 = 1 := by
      rw [e7, tw_A_sA, if_pos rfl]
      exact pk_us
    have g0 : tw_A σ7 (tw_R g a0 23) (nI (151 * 0 + 0)).toNatClampNeg = 0 := by rw [k7.2 23 (by decide) (by decide)]; exact F0.2.2.2.2.1
    have g1 : tw_A σ7 (tw_R g a0 23) (nI (151 * 1 + 0)).toNatClampNeg = 0 := by rw [k7.2 23 (by decide) (by decide)]; exact F1.2.2.2.2.1
    have n22 : tw_A σ7 (tw_R g a0 22) = tw_A τ (tw_R g a0 22) := k7.2 22 (by decide) (by decide)
    refine ⟨2, ?_⟩
    rw [wl_X9_firstBy_47]
    refine ⟨fun c => absurd c (by decide), fun _ => ⟨by unfold vp_in; decide, fun z10 e10 => ⟨by unfold vp_in; decide, fun z12 e12 => ?_⟩⟩⟩
    have p7 : tw_A σ7 (tw_R g a0 30) (0 : Int32).toNatClampNeg = 0 := p7
    rw [p7] at e10 e12
    have e10 : z10 = nI 0 := e10
    have e12 : z12 = nI 0 := e12
    subst e10
    subst e12
    refine m_at (q := 0) (x := 0) ⟨by unfold vp_in; decide, ?_⟩
    refine m_at (q := 1) (x := 0) ⟨by unfold vp_in; decide, ?_⟩
    rw [g0, g1]
    refine m1_isBy ⟨fun _ => ?_, fun c => absurd rfl c⟩
    refine lp_up (W := fun n i σ => wl_X9_firstBy_116 g a0 x 0 (nI 0) (nI 0) Q _ n 1 i σ) (I := fun _ σ => σ = σ7) 2 ?_ ?_ 0 (by decide) σ7 rfl
    · intro n2 i σ8 hi e ih
      subst e
      show wl_X9_firstBy_116 g a0 x 0 (nI 0) (nI 0) Q _ (n2 + 1) 1 (nI i) σ8
      have ih := ih σ8 rfl
      rw [wl_X9_firstBy_116, nI_1]
      refine ⟨fun c => absurd c (nI_ge (b := 2) hi (by decide)), fun _ => ?_⟩
      have hi2 : i = 0 ∨ i = 1 := by omega
      refine m_at (q := 0) (x := 0) ⟨?_, ?_⟩
      · rcases hi2 with rfl | rfl <;> (unfold vp_in; decide)
      refine m_at (q := 1) (x := 0) ⟨?_, ?_⟩
      · rcases hi2 with rfl | rfl <;> (unfold vp_in; decide)
      intro z29 e29
      have a0' : tw_A σ8 (tw_R g a0 22) (((2 : Int32) * nI (151 * 0 + 0)) + nI i).toNatClampNeg = 0 := by
        rw [n22]
        rcases hi2 with rfl | rfl
        · exact F0.2.2.1
        · exact F0.2.2.2.1
      have a1' : tw_A σ8 (tw_R g a0 22) (((2 : Int32) * nI (151 * 1 + 0)) + nI i).toNatClampNeg = 0 := by
        rw [n22]
        rcases hi2 with rfl | rfl
        · exact F1.2.2.1
        · exact F1.2.2.2.1
      rw [a0', a1'] at e29
      have e29 : z29 = 0 := e29
      subst e29
      have r8 : tw_A σ8 (tw_R g a0 32) (0 : Int32).toNatClampNeg = 1 := r7
      rw [r8]
      exact ⟨by unfold vp_in; decide, fun _ => ih, fun c => absurd c (by decide)⟩
    · intro n2 σ8 e
      show wl_X9_firstBy_116 g a0 x 0 (nI 0) (nI 0) Q _ (n2 + 1) 1 (nI 2) σ8
      rw [wl_X9_firstBy_116]
      refine ⟨fun _ => ?_, fun c => absurd (nI_le (Nat.le_refl 2) (by decide)) c⟩
      rw [wl_X9_firstBy_47]
      exact ⟨fun _ => hQ _, fun c => absurd (by decide) c⟩
theorem m1_first (hd : m_d g a0) (hn : tw_A τ (tw_R g a0 0) = sm_now) {w : Int32} {Q : Int32 → tw_S → Prop} (hQ : ∀ τ2, Q (f_first w) τ2) : wp_X9_first g τ a0 w Q := by
  unfold wp_X9_first
  refine sp_inI (a := 0) (b := 3) rfl rfl (fun c1 => ?_) (fun c1 => ?_)
  · have e : f_first w = -1 := if_pos c1
    rw [e] at hQ
    refine ⟨fun _ => ?_, fun c => absurd c (by decide)⟩
    refine m1_laysBoth hd hn fun τ2 F0 F1 => ⟨fun c => absurd c (by decide), fun _ => ?_⟩
    exact m1_firstBy hd F0 F1 hQ
  · have e : f_first w = (-1000000001) := if_neg c1
    rw [e] at hQ
    exact ⟨fun c => absurd rfl c, fun _ => hQ _⟩
theorem m1_told (hd : m_d g a0) (hn : tw_A τ (tw_R g a0 0) = sm_now) (h2 : tw_I τ a0 2 = 0) (h9 : tw_I τ a0 9 = 0) (h12 : tw_I τ a0 12 = 0) {w : Int32} {Q : Int32 → tw_S → Prop} (hQ : ∀ τ2, Q (f_told w) τ2) : wp_X9_told g τ a0 w Q := by
  unfold wp_X9_told
  rw [h2, h9, h12]
  refine ⟨fun c => ?_, fun c0 => ⟨fun c => ?_, fun c1 => ⟨fun c => ?_, fun c2 => ⟨fun c => ?_, fun c3 => ⟨fun c => ?_, fun c4 => ?_⟩⟩⟩⟩⟩
  · subst c; exact hQ _
  · subst c
    refine ⟨1, ?_⟩
    rw [wl_X9_numberOf_4, h12]
    exact ⟨fun _ => hQ _, fun c => absurd (by decide) c⟩
  · subst c; exact hQ _
  · subst c; exact hQ _
  · subst c
    refine m1_laysBoth hd hn fun τ2 F0 F1 => ⟨fun c => absurd c (by decide), fun _ => ?_⟩
    exact m1_firstBy hd F0 F1 fun τ3 => ⟨fun c => absurd rfl c, fun _ => hQ _⟩
  · have e : f_told w = (-1000000002) := by rw [f_told, if_neg c0, if_neg c1, if_neg c2, if_neg c3, if_neg c4]
    rw [e] at hQ
    exact hQ _
end M6
