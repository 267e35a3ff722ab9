/-! ===== one call on fresh objects: the class and the model answer alike ===== -/
section LG
set_option maxRecDepth 20000
variable {adx adm : Nat → Nat} {cy : Nat → ClassId} {σ τ : tw_S}
theorem xr (hj : tg_inj adx 103) {i : Nat} (hi : i < 103) (k : Nat) : tw_R (tg sx_sk adx cy) (adx i) k = adx ((sx_sk.getD i tg_d).2.1.getD k 0) := tg_Ra (sk := sx_sk) hj hi k
theorem xne (hj : tg_inj adx 103) {i j : Nat} (hi : i < 103) (h2 : j < 103) (h : i ≠ j) : adx i ≠ adx j := fun e => h (hj i j hi h2 e)
theorem xo9 (hj : tg_inj adx 103) : ∀ i, i < 12 → o_r (tg sx_sk adx cy) (adx 62) i = adx (64 + i) := by
  intro i hi
  unfold o_r
  by_cases h : i = 0
  · subst h
    rw [if_pos rfl]
    have e1 : tw_R (tg sx_sk adx cy) (adx 62) 0 = adx 63 := xr hj (by decide) 0
    rw [e1]
    exact xr hj (by decide) 0
  · rw [if_neg h]
    have k : ∀ i, i < 12 → i ≠ 0 → (sx_sk.getD 62 tg_d).2.1.getD i 0 = 64 + i := by decide
    rw [xr hj (by decide) i, k i hi h]
theorem xo10 (hj : tg_inj adx 103) : ∀ i, i < 12 → o_r (tg sx_sk adx cy) (adx 76) i = adx (78 + i) := by
  intro i hi
  unfold o_r
  by_cases h : i = 0
  · subst h
    rw [if_pos rfl]
    have e1 : tw_R (tg sx_sk adx cy) (adx 76) 0 = adx 77 := xr hj (by decide) 0
    rw [e1]
    exact xr hj (by decide) 0
  · rw [if_neg h]
    have k : ∀ i, i < 12 → i ≠ 0 → (sx_sk.getD 76 tg_d).2.1.getD i 0 = 78 + i := by decide
    rw [xr hj (by decide) i, k i hi h]
theorem x_K_of (hj : tg_inj adx 103) : x_K (tg sx_sk adx cy) (adx 0) := by
  have r0 : tw_R (tg sx_sk adx cy) (adx 0) 0 = adx 1 := xr hj (by decide) 0
  have r9 : tw_R (tg sx_sk adx cy) (adx 0) 9 = adx 62 := xr hj (by decide) 9
  have r10 : tw_R (tg sx_sk adx cy) (adx 0) 10 = adx 76 := xr hj (by decide) 10
  have r11 : tw_R (tg sx_sk adx cy) (adx 0) 11 = adx 90 := xr hj (by decide) 11
  have y1 : tw_R (tg sx_sk adx cy) (adx 1) 1 = adx 4 := xr hj (by decide) 1
  have y5 : tw_R (tg sx_sk adx cy) (adx 4) 0 = adx 5 := xr hj (by decide) 0
  have a4 : tw_R (tg sx_sk adx cy) (adx 62) 4 = adx 68 := xr hj (by decide) 4
  have a5 : tw_R (tg sx_sk adx cy) (adx 62) 5 = adx 69 := xr hj (by decide) 5
  have b4 : tw_R (tg sx_sk adx cy) (adx 76) 4 = adx 82 := xr hj (by decide) 4
  have b5 : tw_R (tg sx_sk adx cy) (adx 76) 5 = adx 83 := xr hj (by decide) 5
  have m1 : tw_R (tg sx_sk adx cy) (adx 90) 1 = adx 92 := xr hj (by decide) 1
  unfold x_K
  rw [r0, r9, r10, r11, y1, y5, a4, a5, b4, b5, m1]
  refine ⟨fun i j hi h2 h => ?_, fun i j hi h2 h => ?_, fun i hi => ?_, xne hj (by decide) (by decide) (by decide), fun i hi => ?_, xne hj (by decide) (by decide) (by decide), xne hj (by decide) (by decide) (by decide), xne hj (by decide) (by decide) (by decide), xne hj (by decide) (by decide) (by decide)⟩
  · rw [xo9 hj i hi, xo9 hj j h2]
    exact xne hj (by omega) (by omega) (by omega)
  · rw [xo10 hj i hi, xo10 hj j h2]
    exact xne hj (by omega) (by omega) (by omega)
  · rw [xo9 hj i hi]
    exact xne hj (by omega) (by omega) (by omega)
  · rw [xo10 hj i hi]
    exact ⟨xne hj (by omega) (by omega) (by omega), xne hj (by omega) (by omega) (by omega)⟩
theorem tn_mv_lt {j : Nat} (hj : j < 16) : tn_mv j = -1 := by
  unfold tn_mv
  first | rfl | exact if_pos hj | simp [hj]
theorem law_one {L : Nat} {xs : Nat → Int32} (hL : L ≤ 6) (hjx : tg_inj adx 103) (hjm : tg_inj adm 24) (hx : tg_is sx_in adx 103 σ) (hm : tg_is sm_in1 adm 24 τ) : ∃ n, wl_law L xs (tg sx_sk adx cy) (tg sm_sk adm cy) (adx 0) (adm 0) n 0 σ τ := by
  refine ⟨2, ?_⟩
  rw [wl_law]
  by_cases hL6 : L = 6
  case neg =>
    have h : L = 0 ∨ L = 1 ∨ L = 2 ∨ L = 3 ∨ L = 4 ∨ L = 5 := by omega
    rcases h with rfl | rfl | rfl | rfl | rfl | rfl <;> exact ⟨fun _ => trivial, fun c => absurd (by decide) c⟩
  subst hL6
  have ne : ∀ {i j : Nat}, i < 103 → j < 103 → i ≠ j → adx i ≠ adx j := fun hi h2 h => xne hjx hi h2 h
  have hd : m_d (tg sm_sk adm cy) (adm 0) := m_d_of hjm
  have rm : tw_R (tg sm_sk adm cy) (adm 0) 0 = adm 1 := tg_Ra (sk := sm_sk) hjm (i := 0) (by decide) 0
  have hn : tw_A τ (tw_R (tg sm_sk adm cy) (adm 0) 0) = sm_now := by rw [rm]; exact (hm 1 (by decide)).2.2.1
  have i2 : tw_I τ (adm 0) 2 = 0 := (hm 0 (by decide)).1 2
  have i4 : tw_I τ (adm 0) 4 = -1 := (hm 0 (by decide)).1 4
  have i9 : tw_I τ (adm 0) 9 = 0 := (hm 0 (by decide)).1 9
  have i12 : tw_I τ (adm 0) 12 = 0 := (hm 0 (by decide)).1 12
  have i35 : tw_I τ (adm 0) 35 = 0 := (hm 0 (by decide)).1 35
  have K : x_K (tg sx_sk adx cy) (adx 0) := x_K_of hjx
  generalize hg : tg sx_sk adx cy = g at K
  have r : ∀ {i : Nat}, i < 103 → ∀ k, tw_R g (adx i) k = adx ((sx_sk.getD i tg_d).2.1.getD k 0) := fun hi k => by rw [← hg]; exact xr hjx hi k
  have r0 : tw_R g (adx 0) 0 = adx 1 := r (by decide) 0
  have r1 : tw_R g (adx 0) 1 = adx 6 := r (by decide) 1
  have r3 : tw_R g (adx 0) 3 = adx 49 := r (by decide) 3
  have r4 : tw_R g (adx 0) 4 = adx 50 := r (by decide) 4
  have r5 : tw_R g (adx 0) 5 = adx 52 := r (by decide) 5
  have r6 : tw_R g (adx 0) 6 = adx 54 := r (by decide) 6
  have r7 : tw_R g (adx 0) 7 = adx 56 := r (by decide) 7
  have r8 : tw_R g (adx 0) 8 = adx 58 := r (by decide) 8
  have r9 : tw_R g (adx 0) 9 = adx 62 := r (by decide) 9
  have r10 : tw_R g (adx 0) 10 = adx 76 := r (by decide) 10
  have y0 : tw_R g (adx 1) 0 = adx 2 := r (by decide) 0
  have y1 : tw_R g (adx 1) 1 = adx 4 := r (by decide) 1
  have z0 : tw_R g (adx 2) 0 = adx 3 := r (by decide) 0
  have z1 : tw_R g (adx 4) 0 = adx 5 := r (by decide) 0
  have w7 : tw_R g (adx 56) 0 = adx 57 := r (by decide) 0
  have w8 : tw_R g (adx 58) 0 = adx 59 := r (by decide) 0
  have t3 : tw_A σ (adx 3) = tn_mv := (hx 3 (by decide)).2.2.1
  have t5 : tw_A σ (adx 5) = tn_mv := (hx 5 (by decide)).2.2.1
  have F : x_F g (adx 0) σ := by
    unfold x_F x_M
    rw [r0, y0, y1, z0, z1, t3, t5]
    exact ⟨⟨(hx 2 (by decide)).1 1, fun j hj => tn_mv_lt hj⟩, ⟨(hx 4 (by decide)).1 1, fun j hj => tn_mv_lt hj⟩⟩
  have D : x_H g (adx 0) := by
    unfold x_H
    rw [r0, r1, y0, y1]
    exact ⟨ne (by decide) (by decide) (by decide), ne (by decide) (by decide) (by decide)⟩
  have Z : x_0 g (adx 0) σ := by
    unfold x_0
    rw [r9, r10]
    exact ⟨(hx 62 (by decide)).1 12, (hx 76 (by decide)).1 12⟩
  have two : ∀ {P : Nat → Prop}, P 0 → P 1 → ∀ q, q < 2 → P q := fun h0 h1 q hq => by
    have h2 : q = 0 ∨ q = 1 := by omega
    rcases h2 with rfl | rfl
    · exact h0
    · exact h1
  have h4 : tw_I σ (tw_R g (adx 0) 4) 1 = 0 := by rw [r4]; exact (hx 50 (by decide)).1 1
  have h6 : tw_I σ (tw_R g (adx 0) 6) 1 = 0 := by rw [r6]; exact (hx 54 (by decide)).1 1
  have hh : tw_I σ (tw_R g (adx 0) 1) 2 = 0 := by rw [r1]; exact (hx 6 (by decide)).1 2
  have hh1 : tw_I σ (tw_R g (adx 0) 1) 1 = 0 := by rw [r1]; exact (hx 6 (by decide)).1 1
  have h12 : tw_I σ (adx 0) 12 = -1 := (hx 0 (by decide)).1 12
  have h3 : ∀ q, q < 2 → tw_A σ (tw_R g (adx 0) 3) q = 0 := fun q _ => by
    have e : tw_A σ (adx 49) = fun _ => 0 := (hx 49 (by decide)).2.2.1
    rw [r3, e]
  have d45 : tw_R g (adx 0) 4 ≠ tw_R g (adx 0) 5 := by rw [r4, r5]; exact ne (by decide) (by decide) (by decide)
  have d15 : tw_R g (adx 0) 1 ≠ tw_R g (adx 0) 5 := by rw [r1, r5]; exact ne (by decide) (by decide) (by decide)
  have d14 : tw_R g (adx 0) 1 ≠ tw_R g (adx 0) 4 := by rw [r1, r4]; exact ne (by decide) (by decide) (by decide)
  have d1 : tw_R g (adx 0) 1 ≠ adx 0 := by rw [r1]; exact ne (by decide) (by decide) (by decide)
  have d54 : tw_R g (adx 0) 5 ≠ adx 0 := by rw [r5]; exact ne (by decide) (by decide) (by decide)
  have d4q : ∀ q, q < 2 → tw_R g (tw_R g (adx 0) 0) q ≠ tw_R g (adx 0) 4 := by
    rw [r0, r4]
    exact two (by rw [y0]; exact ne (by decide) (by decide) (by decide)) (by rw [y1]; exact ne (by decide) (by decide) (by decide))
  have dq : ∀ q, q < 2 → tw_R g (tw_R g (adx 0) 0) q ≠ adx 0 := by
    rw [r0]
    exact two (by rw [y0]; exact ne (by decide) (by decide) (by decide)) (by rw [y1]; exact ne (by decide) (by decide) (by decide))
  have hn7 : ∀ q, q < 2 → tw_R g (tw_R g (adx 0) 0) q ≠ tw_R g (adx 0) 7 := by
    rw [r0, r7]
    exact two (by rw [y0]; exact ne (by decide) (by decide) (by decide)) (by rw [y1]; exact ne (by decide) (by decide) (by decide))
  have hc : ∀ q, q < 2 → tw_R g (tw_R g (tw_R g (adx 0) 0) q) 0 ≠ tw_R g (tw_R g (adx 0) 8) 0 := by
    rw [r0, r8, w8]
    exact two (by rw [y0, z0]; exact ne (by decide) (by decide) (by decide)) (by rw [y1, z1]; exact ne (by decide) (by decide) (by decide))
  have hw : ∀ q, q < 2 → tw_R g (tw_R g (tw_R g (adx 0) 0) q) 0 ≠ tw_R g (tw_R g (adx 0) 7) 0 := by
    rw [r0, r7, w7]
    exact two (by rw [y0, z0]; exact ne (by decide) (by decide) (by decide)) (by rw [y1, z1]; exact ne (by decide) (by decide) (by decide))
  have nx : ∀ (a : Int32) σ2 τ2, ((a = a) → wl_law 6 xs g (tg sm_sk adm cy) (adx 0) (adm 0) 1 ((0 : Int32) + 6) σ2 τ2) ∧ (¬ (a = a) → False) := fun a σ2 τ2 => ⟨fun _ => by
    rw [wl_law]
    exact ⟨fun _ => trivial, fun c => absurd (by decide) c⟩, fun c => absurd rfl c⟩
  have v1 : vp_in ((0 : Int32) + 1) 6 := by unfold vp_in; decide
  have v2 : vp_in ((0 : Int32) + 2) 6 := by unfold vp_in; decide
  have v3 : vp_in ((0 : Int32) + 3) 6 := by unfold vp_in; decide
  have v4 : vp_in ((0 : Int32) + 4) 6 := by unfold vp_in; decide
  have v5 : vp_in ((0 : Int32) + 5) 6 := by unfold vp_in; decide
  generalize tg sm_sk adm cy = gm at *
  refine ⟨fun c => absurd c (by decide), fun _ => ⟨by unfold vp_in; decide, fun z2 _ => ?_⟩⟩
  refine ⟨fun _ => ⟨v1, x1_feed h4 fun σ2 => ⟨v1, m1_feed i2 fun τ2 => nx _ σ2 τ2⟩⟩, fun _ => ?_⟩
  refine ⟨fun _ => ⟨v1, x1_machine F D h4 hh d45 d15 d14 d1 d4q d54 dq fun σ2 => ⟨v1, m1_machine i2 i9 hd fun τ2 => nx _ σ2 τ2⟩⟩, fun _ => ?_⟩
  refine ⟨fun _ => x1_fault h12 fun σ2 => m1_fault i4 fun τ2 => nx _ σ2 τ2, fun _ => ?_⟩
  refine ⟨fun _ => ⟨v1, v2, v3, v4, v5, x1_move F D hh fun σ2 => ⟨v1, v2, v3, v4, v5, m1_move hn i9 hd fun τ2 => nx _ σ2 τ2⟩⟩, fun _ => ?_⟩
  refine ⟨fun _ => ⟨v1, v2, v3, x1_none F fun σ2 => ⟨v1, v2, v3, m1_none hn fun τ2 => nx _ σ2 τ2⟩⟩, fun _ => ?_⟩
  refine ⟨fun _ => ⟨v1, v2, x1_states F D hh fun σ2 => ⟨v1, v2, m1_states hn i9 hd fun τ2 => nx _ σ2 τ2⟩⟩, fun _ => ?_⟩
  refine ⟨fun _ => ⟨v1, v2, x1_drift F D hh fun σ2 => ⟨v1, v2, m1_drift hd hn i9 fun τ2 => nx _ σ2 τ2⟩⟩, fun _ => ?_⟩
  refine ⟨fun _ => x1_swap F D hh fun σ2 => m1_swap hn i9 hd fun τ2 => nx _ σ2 τ2, fun _ => ?_⟩
  refine ⟨fun _ => x1_undo hh1 fun σ2 => m1_undo i9 fun τ2 => nx _ σ2 τ2, fun _ => ?_⟩
  refine ⟨fun _ => ⟨v1, v2, v3, x1_moveOf F fun σ2 => ⟨v1, v2, v3, m1_moveOf hn fun τ2 => nx _ σ2 τ2⟩⟩, fun _ => ?_⟩
  refine ⟨fun _ => ⟨v1, x1_letter h6 fun σ2 => ⟨v1, m1_letter i12 fun τ2 => nx _ σ2 τ2⟩⟩, fun _ => ?_⟩
  refine ⟨fun _ => ⟨v1, x1_word fun σ2 => ⟨v1, m1_word fun τ2 => nx _ σ2 τ2⟩⟩, fun _ => ?_⟩
  refine ⟨fun _ => x1_wipe h6 fun σ2 => m1_wipe i12 fun τ2 => nx _ σ2 τ2, fun _ => ?_⟩
  refine ⟨fun _ => ⟨v1, x1_told K Z F h4 h6 hh1 fun σ2 => ⟨v1, m1_told hd hn i2 i9 i12 fun τ2 => nx _ σ2 τ2⟩⟩, fun _ => ?_⟩
  refine ⟨fun _ => ⟨v1, v2, x1_run F hc h6 fun σ2 => ⟨v1, v2, m1_run hd hn i12 fun τ2 => nx _ σ2 τ2⟩⟩, fun _ => ?_⟩
  refine ⟨fun _ => ⟨v1, v2, v3, x1_crossed F hc h6 fun σ2 => ⟨v1, v2, v3, m1_crossed hd hn i12 fun τ2 => nx _ σ2 τ2⟩⟩, fun _ => ?_⟩
  refine ⟨fun _ => ⟨v1, v2, v3, v4, v5, x1_table F h6 fun σ2 => ⟨v1, v2, v3, v4, v5, m1_table hn i12 fun τ2 => nx _ σ2 τ2⟩⟩, fun _ => ?_⟩
  refine ⟨fun _ => ⟨v1, v2, v3, v4, v5, x1_alike h6 fun σ2 => ⟨v1, v2, v3, v4, v5, m1_alike i12 fun τ2 => nx _ σ2 τ2⟩⟩, fun _ => ?_⟩
  refine ⟨fun _ => ⟨v1, v2, x1_ofMachine K Z F fun σ2 => ⟨v1, v2, m1_ofMachine hd hn fun τ2 => nx _ σ2 τ2⟩⟩, fun _ => ?_⟩
  refine ⟨fun _ => ⟨v1, v2, v3, x1_oneWay K Z F fun σ2 => ⟨v1, v2, v3, m1_oneWay hd hn fun τ2 => nx _ σ2 τ2⟩⟩, fun _ => ?_⟩
  refine ⟨fun _ => ⟨v1, v2, x1_taken K Z F fun σ2 => ⟨v1, v2, m1_taken hd hn fun τ2 => nx _ σ2 τ2⟩⟩, fun _ => ?_⟩
  refine ⟨fun _ => ⟨v1, x1_first K Z F fun σ2 => ⟨v1, m1_first hd hn fun τ2 => nx _ σ2 τ2⟩⟩, fun _ => ?_⟩
  refine ⟨fun _ => ⟨v1, v2, x1_turned F hc hw hn7 fun σ2 => ⟨v1, v2, m1_turned hd hn i12 fun τ2 => nx _ σ2 τ2⟩⟩, fun _ => ?_⟩
  refine ⟨fun _ => ⟨v1, x1_keep fun σ2 => ⟨v1, m1_keep hd fun τ2 => nx _ σ2 τ2⟩⟩, fun _ => ?_⟩
  refine ⟨fun _ => ⟨v1, x1_goBack h3 fun σ2 => ⟨v1, m1_goBack i35 fun τ2 => nx _ σ2 τ2⟩⟩, fun _ => ?_⟩
  exact (nx 0 σ τ).1 rfl
end LG
