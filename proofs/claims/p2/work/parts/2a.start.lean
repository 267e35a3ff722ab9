theorem tl_split {D : va_G} {cl : List vw_C} {w1 w2 : va_W} {H : Heap} (h : va_P D cl (w1 ++ w2) H) : va_P D cl w1 H ∧ va_P D cl w2 H := by
  refine ⟨fun k q hk => h k q ?_, fun k q hk => h (w1.length + k) q ?_⟩
  · rw [List.getElem?_append_left (List.getElem?_eq_some_iff.mp hk).1]
    exact hk
  · rw [List.getElem?_append_right (Nat.le_add_right _ _), Nat.add_sub_cancel_left]
    exact hk
theorem tl_splitD {A : Nat → Prop} {w1 w2 : va_W} (h : va_D A (w1 ++ w2)) : va_D A w1 ∧ va_D A w2 ∧ ∀ p q, p ∈ w1 → q ∈ w2 → p.1 ≠ q.1 := by
  have l1 : ∀ (k : Nat) (q : Nat × va_E), w1[k]? = some q → (w1 ++ w2)[k]? = some q := fun k q hk => by
    rw [List.getElem?_append_left (List.getElem?_eq_some_iff.mp hk).1]
    exact hk
  have l2 : ∀ (k : Nat) (q : Nat × va_E), w2[k]? = some q → (w1 ++ w2)[w1.length + k]? = some q := fun k q hk => by
    rw [List.getElem?_append_right (Nat.le_add_right _ _), Nat.add_sub_cancel_left]
    exact hk
  refine ⟨⟨fun i j p q hi hj e => h.1 i j p q (l1 i p hi) (l1 j q hj) e, fun k q hk => h.2 k q (l1 k q hk)⟩, ⟨fun i j p q hi hj e => ?_, fun k q hk => h.2 _ q (l2 k q hk)⟩, fun p q hp hq e => ?_⟩
  · have := h.1 _ _ p q (l2 i p hi) (l2 j q hj) e
    omega
  · obtain ⟨i, hi⟩ := List.getElem?_of_mem hp
    obtain ⟨j, hj⟩ := List.getElem?_of_mem hq
    have h1 := h.1 _ _ p q (l1 i p hi) (l2 j q hj) e
    have h2 := (List.getElem?_eq_some_iff.mp hi).1
    omega
set_option maxRecDepth 20000 in
theorem tl_nest : ∀ q ∈ tw_nl, Cond.methodLinkNest q.1 q.2.1 q.2.2 "TwoWays" ∈ lw_tbl := by decide +kernel
set_option maxRecDepth 20000 in
theorem tl_over : Cond.arrayOver (.object "TwoWays$Both") ∈ lw_tbl := by decide +kernel
set_option maxHeartbeats 8000000 in
set_option maxRecDepth 100000 in
/-- the law from its entry, given the pure statement of its loop -/
theorem whole_pure {p : Program} {e : Env} {s : State} {m : MethodId} {below : List Frame} {meth : Method} {c : Code} (l : Launch) {b L : Nat} {xs : Nat → Int32} (hpure : ∀ (adx adm : Nat → Nat) (cy : Nat → ClassId) (σ τ : tw_S), tg_inj adx 103 → tg_inj adm 24 → tg_is sx_in adx 103 σ → tg_is sm_in1 adm 24 τ → ∃ n, wl_law L xs (tg sx_sk adx cy) (tg sm_sk adm cy) (adx 0) (adm 0) n 0 σ τ) (C0 : lw_At p s m meth c b L xs) : W p l e room_1 s m #[Value.ref b] below meth c s.heap [] 0 0 (lw_Z below #[Value.ref b] s) (entryFrame m ([Value.ref b] : List Value).toArray 4) := by
  obtain ⟨hx, hb, hr, hml, hown, hts, hX, hbl, hlk, hgv⟩ := C0
  have hts2 : ∀ w ∈ wsL_law, w.before #[Value.ref b] s = true := fun w h => hts w (wsL_law_in w h)
  have X : CallFix p m c cL_law 4 s #[Value.ref b] wsL_law RL := ⟨hx, hb, hml, hown, hts2⟩
  obtain ⟨c0, i0, k0⟩ := u_known (C := RX0) (T := TX0) (N := 2) (n := 2) hts2 iw_L_0 (hts2 (.instantiable RX0 2) (List.mem_of_getElem? (i := 13) (by decide +kernel)))
  obtain ⟨c1, i1, k1⟩ := u_known (C := RX1) (T := TX1) (N := 7) (n := 7) hts2 iw_L_1 (hts2 (.instantiable RX1 7) (List.mem_of_getElem? (i := 37) (by decide +kernel)))
  obtain ⟨c2, i2, k2⟩ := u_known (C := RX2) (T := TX2) (N := 3) (n := 3) hts2 iw_L_2 (hts2 (.instantiable RX2 3) (List.mem_of_getElem? (i := 17) (by decide +kernel)))
  obtain ⟨c3, i3, k3⟩ := u_known (C := RX3) (T := TX3) (N := 3) (n := 3) hts2 iw_L_3 (hts2 (.instantiable RX3 3) (List.mem_of_getElem? (i := 28) (by decide +kernel)))
  obtain ⟨c4, i4, k4⟩ := u_known (C := RX4) (T := TX4) (N := 3) (n := 3) hts2 iw_L_4 (hts2 (.instantiable RX4 3) (List.mem_of_getElem? (i := 46) (by decide +kernel)))
  obtain ⟨c5, i5, k5⟩ := u_known (C := RX5) (T := TX5) (N := 16) (n := 16) hts2 iw_L_5 (hts2 (.instantiable RX5 16) (List.mem_of_getElem? (i := 41) (by decide +kernel)))
  obtain ⟨c6, i6, k6⟩ := u_known (C := RX6) (T := TX6) (N := 4) (n := 4) hts2 iw_L_6 (hts2 (.instantiable RX6 4) (List.mem_of_getElem? (i := 24) (by decide +kernel)))
  obtain ⟨c7, i7, k7⟩ := u_known (C := RX7) (T := TX7) (N := 2) (n := 2) hts2 iw_L_7 (hts2 (.instantiable RX7 2) (List.mem_of_getElem? (i := 32) (by decide +kernel)))
  obtain ⟨c8, i8, k8⟩ := u_known (C := RX8) (T := TX8) (N := 13) (n := 13) hts2 iw_L_8 (hts2 (.instantiable RX8 13) (List.mem_of_getElem? (i := 1) (by decide +kernel)))
  obtain ⟨c9, i9, k9⟩ := u_known (C := RX9) (T := TX9) (N := 36) (n := 36) hts2 iw_L_9 (hts2 (.instantiable RX9 36) (List.mem_of_getElem? (i := 4) (by decide +kernel)))
  obtain ⟨D, hKc⟩ : ∃ D : va_G, ∀ (k : Nat) (q : vw_C), vwCl[k]? = some q → u_Kn s q.1 q.2.1 q.2.2 (D.1 k) (D.2 k) := by
    refine ⟨(fun k => match k with | 0 => c0 | 1 => c1 | 2 => c2 | 3 => c3 | 4 => c4 | 5 => c5 | 6 => c6 | 7 => c7 | 8 => c8 | _ => c9, fun k => match k with | 0 => i0 | 1 => i1 | 2 => i2 | 3 => i3 | 4 => i4 | 5 => i5 | 6 => i6 | 7 => i7 | 8 => i8 | _ => i9), ?_⟩
    intro k q hq
    match k, hq with
    | 0, hq => cases hq; exact k0
    | 1, hq => cases hq; exact k1
    | 2, hq => cases hq; exact k2
    | 3, hq => cases hq; exact k3
    | 4, hq => cases hq; exact k4
    | 5, hq => cases hq; exact k5
    | 6, hq => cases hq; exact k6
    | 7, hq => cases hq; exact k7
    | 8, hq => cases hq; exact k8
    | 9, hq => cases hq; exact k9
    | k + 10, hq => simp [vwCl] at hq
  obtain ⟨cI, kI, pI, fI1, fI2, fI3⟩ := Cond.arrayClass_spec (hts2 (.arrayClass .int) (List.mem_of_getElem? (i := 60) (by decide +kernel)))
  obtain ⟨cJ, kJ, pJ, fJ1, fJ2, fJ3⟩ := Cond.arrayClass_spec (hts2 (.arrayClass .long) (List.mem_of_getElem? (i := 108) (by decide +kernel)))
  obtain ⟨cZ, kZ, pZ, fZ1, fZ2, fZ3⟩ := Cond.arrayClass_spec (hts2 (.arrayClass .boolean) (List.mem_of_getElem? (i := 21) (by decide +kernel)))
  obtain ⟨pB, cB, kB, fB1, -, fB2, fB3, fB4⟩ := Cond.arrayOver_spec (hts _ tl_over)
  obtain ⟨cy, hcy⟩ : ∃ cy : Nat → ClassId, cy = (fun i => match i with | 0 => cI | 1 => cJ | 2 => cZ | _ => cB) := ⟨_, rfl⟩
  have hK : tn_k D cy s := by
    refine ⟨⟨⟨hKc, fun k q h => ?_⟩, fun q hq => va_Nw.of rfl (hts _ (tl_nest q hq))⟩, hts _ tl_over⟩
    rw [hcy] at h
    match k, h with
    | 0, h => cases h; exact ⟨fun n z => ⟨fun k h => (by cases h), kI, fI2, pI, fI3⟩, fI1⟩
    | 1, h => cases h; exact ⟨fun n z => ⟨fun k h => (by cases h), kJ, fJ2, pJ, fJ3⟩, fJ1⟩
    | 2, h => cases h; exact ⟨fun n z => ⟨fun k h => (by cases h), kZ, fZ2, pZ, fZ3⟩, fZ1⟩
    | 3, h => cases h; exact ⟨fun n z => ⟨fun k h => (by cases h), kB, fB2, pB, fB3⟩, kB, pB, fB2, fB3, fB1, fB4⟩
    | k + 4, h => simp [tw_ty] at h
  obtain ⟨A, hAe⟩ : ∃ A : Nat → Prop, A = (fun q : Nat => s.heap.size ≤ q) := ⟨_, rfl⟩
  have hA : ∀ q : Nat, s.heap.size ≤ q → A q := fun q h => by rw [hAe]; exact h
  have hS : va_S A s.heap s.heap [] := va_S.rf
  have hP : va_P D vwCl [] s.heap := fun k q h => by simp at h
  have hD : va_D A [] := ⟨fun i j p q h => by simp at h, fun k q h => by simp at h⟩
  have hl := lv_entry ([.ref b]) (n := 4) (Nat.le_of_ble_eq_true rfl)
  rw [lg_entry_eq]
  generalize (lg_sl ([.ref b]) ++ List.replicate (4 - (lg_sl ([.ref b])).length) Slot.unset).toArray = ls at hl ⊢
  have hl : lv_has ls 4 [(0, .ref b)] := hl
  refine va_new (ci := 8) (fs := [.null, .null, .null, .null, .null, .null, .null, .null, .null, .null, .null, .null, .int 0]) (C := RX8) (T := TX8) (N := 13) X.1 X.2.1 X.2.2.2.2 iw_L_8 tyX8 tyX8_ok X.2.2.2.1 (X.2.2.2.2 _ (List.mem_of_getElem? (i := 0) (by decide +kernel))) (X.2.2.2.2 _ (List.mem_of_getElem? (i := 1) (by decide +kernel))) (X.2.2.2.2 _ (List.mem_of_getElem? (i := 2) (by decide +kernel))) hK.1.1 hP hD hS hA rfl tn_f_8 (Nat.le_of_ble_eq_true rfl) (Nat.le_of_ble_eq_true rfl) dL_law_0 (fun ax H hP hD hS => ?_)
  have hP : va_P D vwCl [(ax, .inr (8, [.null, .null, .null, .null, .null, .null, .null, .null, .null, .null, .null, .null, .int 0]))] H := hP
  have hD : va_D A [(ax, .inr (8, [.null, .null, .null, .null, .null, .null, .null, .null, .null, .null, .null, .null, .int 0]))] := hD
  refine W.widen (k := 1) (n := 13) (Nat.le_of_ble_eq_true rfl) (Nat.le_of_ble_eq_true rfl) ?_
  refine lv_dup X.1 X.2.1 dL_law_3 rfl ?_
  have hFc := va_free (wc := [(ax, .inr (8, [.null, .null, .null, .null, .null, .null, .null, .null, .null, .null, .null, .null, .int 0]))]) hD hS hA [0] rfl
  refine va_callv (va_runI (As := []) (rest := [.ref ax]) X (ci_X8_init l D cy ax H.size) (cwI 0 X.2.2.2.2 gL_law_X8_init rfl rfl rfl (X.2.2.2.2 _ (List.mem_of_getElem? (i := 2) (by decide +kernel))) (X.2.2.2.2 _ (List.mem_of_getElem? (i := 6) (by decide +kernel))) (X.2.2.2.2 _ (List.mem_of_getElem? (i := 7) (by decide +kernel))) rfl (by decide +kernel) ⟨(Nat.le_of_ble_eq_true rfl), (Nat.le_of_ble_eq_true rfl)⟩) (tn_pre hK hP hD [.ref ax]) rfl rfl hl.1 rfl (lv_room (Nat.le_of_ble_eq_true rfl)) dL_law_4 ⟨(Nat.le_of_ble_eq_true rfl), (Nat.le_of_ble_eq_true rfl)⟩) hS (fun q _ h => hFc q h) hFc (fun u t H1 locs ht hvm hw hB hz1 hk1 hS => ?_)
  obtain ⟨hP1, hD1⟩ := hB
  rw [ht] at hP1
  have hD1 := hD1.weaken (fun _ _ _ h => hFc _ h)
  obtain ⟨hjx, hPx, hDx⟩ := sx_pool hP1 hD1
  have hisx : tg_is sx_in (sx_ad ax u) 103 (tg_s sx_in (sx_ad ax u) 103) := tg_s_is hjx
  generalize tg_s sx_in (sx_ad ax u) 103 = σ at hPx hDx hisx
  have hax : sx_ad ax u 0 = ax := rfl
  generalize sx_ad ax u = adx at hjx hPx hDx hisx hax
  clear hP hD hP1 hD1 hFc hk1 hz1
  generalize H1 = H at hPx hS ⊢
  refine W.widen (k := 103) (n := 34761) (Nat.le_of_ble_eq_true rfl) (Nat.le_of_ble_eq_true rfl) ?_
  refine lv_astore_n (lv' := [(1, .ref ax), (0, .ref b)]) X.1 X.2.1 dL_law_7 rfl hl (by decide) rfl (fun ls hl => ?_)
  refine va_new (ci := 9) (fs := [.null, .null, .int 0, .int 0, .int 0, .int 0, .null, .int 0, .null, .int 0, .long 0, .null, .int 0, .null, .int 0, .int 0, .int 0, .null, .null, .int 0, .null, .null, .null, .null, .null, .null, .null, .null, .null, .null, .null, .null, .null, .null, .null, .int 0]) (C := RX9) (T := TX9) (N := 36) X.1 X.2.1 X.2.2.2.2 iw_L_9 tyX9 tyX9_ok X.2.2.2.1 (X.2.2.2.2 _ (List.mem_of_getElem? (i := 3) (by decide +kernel))) (X.2.2.2.2 _ (List.mem_of_getElem? (i := 4) (by decide +kernel))) (X.2.2.2.2 _ (List.mem_of_getElem? (i := 5) (by decide +kernel))) hK.1.1 hPx hDx hS hA rfl tn_f_9 (Nat.le_of_ble_eq_true rfl) (Nat.le_of_ble_eq_true rfl) dL_law_8 (fun am H hP hD hS => ?_)
  obtain ⟨hPx, hPm⟩ := tl_split hP
  obtain ⟨hDx, hDm, hdis⟩ := tl_splitD hD
  refine W.widen (k := 104) (n := 34797) (Nat.le_of_ble_eq_true rfl) (Nat.le_of_ble_eq_true rfl) ?_
  refine lv_dup X.1 X.2.1 dL_law_11 rfl ?_
  have hFc := va_free (wc := [(am, .inr (9, [.null, .null, .int 0, .int 0, .int 0, .int 0, .null, .int 0, .null, .int 0, .long 0, .null, .int 0, .null, .int 0, .int 0, .int 0, .null, .null, .int 0, .null, .null, .null, .null, .null, .null, .null, .null, .null, .null, .null, .null, .null, .null, .null, .int 0]))]) hDm hS hA [0] rfl
  refine va_callv (va_runI (As := []) (rest := [.ref am]) X (ci_X9_init l D cy am H.size) (cwI 0 X.2.2.2.2 gL_law_X9_init rfl rfl rfl (X.2.2.2.2 _ (List.mem_of_getElem? (i := 5) (by decide +kernel))) (X.2.2.2.2 _ (List.mem_of_getElem? (i := 111) (by decide +kernel))) (X.2.2.2.2 _ (List.mem_of_getElem? (i := 112) (by decide +kernel))) rfl (by decide +kernel) ⟨(Nat.le_of_ble_eq_true rfl), (Nat.le_of_ble_eq_true rfl)⟩) (tn_pre hK hPm hDm [.ref am]) rfl rfl hl.1 rfl (lv_room (Nat.le_of_ble_eq_true rfl)) dL_law_12 ⟨(Nat.le_of_ble_eq_true rfl), (Nat.le_of_ble_eq_true rfl)⟩) hS (fun q _ h => hFc q h) hFc (fun u2 t H1 locs ht hvm hw hB hz1 hk1 hS => ?_)
  obtain ⟨adm, τ⟩ := u2
  obtain ⟨hPm1, hDm1⟩ := hB
  rw [ht] at hPm1
  obtain ⟨hjm, ham, hism⟩ := hw
  have ham : adm 0 = am := ham
  have hlt : ∀ a, a ∈ tw_L (tg sx_sk adx cy) → a < H.size := fun a ha => va_pl_lt (X := []) hPx ha
  have hnm : ∀ a, a ∈ tw_L (tg sx_sk adx cy) → a ≠ am := fun a ha => by
    obtain ⟨k, hk⟩ := va_pl_get (X := []) (f := tw_e (tg sx_sk adx cy) σ) ha
    exact hdis _ _ (List.mem_of_getElem? hk) (List.mem_singleton.mpr rfl)
  have hnA : ∀ a, a ∈ tw_L (tg sx_sk adx cy) → ¬ va_A [(am, .inr (9, [.null, .null, .int 0, .int 0, .int 0, .int 0, .null, .int 0, .null, .int 0, .long 0, .null, .int 0, .null, .int 0, .int 0, .int 0, .null, .null, .int 0, .null, .null, .null, .null, .null, .null, .null, .null, .null, .null, .null, .null, .null, .null, .null, .int 0]))] H.size a := fun a ha h => by
    rcases h with ⟨k, e, hk⟩ | h
    · have h1 := List.mem_of_getElem? hk
      simp only [List.mem_singleton, Prod.mk.injEq] at h1
      exact hnm a ha h1.1
    · exact absurd (hlt a ha) (Nat.not_lt.mpr h)
  have hPx1 : va_P D vwCl (tw_pl (tg sx_sk adx cy) σ) H1 := hPx.kept fun k q hq => hk1 q.1 (hlt _ (tw_pl_in hq)) (hnA _ (tw_pl_in hq))
  have hDm2 : va_D A (tw_pl (tg sm_sk adm cy) τ) := hDm1.weaken (fun _ _ _ h => hFc _ h)
  have w : tl_w D (tg sx_sk adx cy) (tg sm_sk adm cy) A s σ τ H1 locs := ⟨⟨hPx1, hDx, hS, hA⟩, ⟨hPm1, hDm2, hS, hA⟩, fun a h1 h2 => by
    obtain ⟨k, hk⟩ := va_pl_get (X := []) (f := tw_e (tg sm_sk adm cy) τ) h2
    exact hnA a h1 (hDm1.2 k _ hk)⟩
  clear hPx hPm hDx hDm hdis hP hD hPm1 hDm1 hPx1 hDm2 hk1 hz1 hFc
  generalize H1 = H at w ⊢
  refine W.widen (k := 127) (n := 106587) (Nat.le_of_ble_eq_true rfl) (Nat.le_of_ble_eq_true rfl) ?_
  refine lv_astore_n (lv' := [(2, .ref am), (1, .ref ax), (0, .ref b)]) X.1 X.2.1 dL_law_15 rfl hl (by decide) rfl (fun ls hl => ?_)
  refine lv_iconst (v := 0) X.1 X.2.1 dL_law_16 (by decide) ?_
  refine lv_istore_n (lv' := [(3, .int 0), (2, .ref am), (1, .ref ax), (0, .ref b)]) X.1 X.2.1 dL_law_17 rfl hl (by decide) rfl (fun ls hl => ?_)
  obtain ⟨n, h⟩ := hpure adx adm cy σ τ hjx hjm hisx hism
  rw [hax, ham] at h
  rw [hAe] at w
  exact lp_law X hr hlk hX hbl (tn_tk rfl hK) (tn_tk rfl hK) (tg_T hjx sx_ok) (tg_T hjm sm_ok) (hax ▸ tg_isa hjx (by decide) rfl) (ham ▸ tg_isa hjm (by decide) rfl) n 0 σ τ H locs ls h w (lv_sub hl [3, 2, 1, 0] rfl)
