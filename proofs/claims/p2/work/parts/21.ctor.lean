/-! ===== constructors, cell by cell: addresses are told by the heap's size ===== -/
def tn_g (cy : Nat → ClassId) : tw_G := ([], fun _ => 0, fun _ _ => 0, fun _ => 0, fun _ _ => 0, cy)
def tn_k (D : va_G) (cy : Nat → ClassId) (U : State) : Prop := tw_k D (tn_g cy) U ∧ va_AO "TwoWays$Both" U
theorem tn_k.moved {D : va_G} {cy : Nat → ClassId} {s U : State} (hW : s.WarmedH U.vm) (h : tn_k D cy s) : tn_k D cy U := ⟨h.1.moved hW, va_AO.moved hW.alike h.2⟩
theorem tn_k.call {D : va_G} {cy : Nat → ClassId} {U : State} {f : JFrame} {mk : MethodId} {a : Array Value} (h : tn_k D cy U) : tn_k D cy (U.calling f mk a) := ⟨h.1.call, va_AO.moved (u := U) (U := U.calling f mk a) (Vm.Alike.refl U.vm) h.2⟩
def tn_b (D : va_G) (cy : Nat → ClassId) (sz : Nat) (ws : va_W) (U : State) : Prop := U.heap.size = sz ∧ va_P D vwCl ws U.heap ∧ tn_k D cy U ∧ va_D (fun _ => True) ws
def tn_z (D : va_G) (A : Nat → Prop) (ws : va_W) (t : State) : Prop := va_P D vwCl ws t.heap ∧ va_D A ws
section TNR
variable {p : Program} {l : Launch} {e : Env} {R : Room} {s : State} {m : MethodId} {args : Array Value} {below : List Frame} {meth : Method} {c : Code} {H : Heap} {locs : List Loc} {cells slots : Nat} {Q : State → Prop} {cc : ByteArray} {nL : Nat} {Ts : List Cond} {own : String} {D : va_G} {cy : Nat → ClassId} {A : Nat → Prop} {ws : va_W} {pc : Nat} {ls : Array Slot} {rest : List Value} {sz : Nat}
theorem tn_newa (X : CallFix p m c cc nL s args Ts own) (hK : tn_k D cy s) (hP : va_P D vwCl ws H) (hD : va_D A ws) (hS : va_S A s.heap H locs) (hA : ∀ q : Nat, s.heap.size ≤ q → A q) {atype : ArrayType} {ty : FieldType} (hty : newarray.typeOf atype = ty) (harr : Cond.arrayClass ty ∈ Ts) (t0 : Nat) {cA : ClassId} (ht : (tw_ty (tn_g cy))[t0]? = some (cA, ty)) (hnm : ∀ cB, va_RA s cB ty → s.vm.findClass ("[" ++ ty.toString) = some cB) {n : Int32} {N : Nat} {a0 : vp_A} (ha : ∀ cA : ClassId, vp_cell cA a0 = arrV cA N (fun _ => defaultValue ty)) (hn : ¬ n < 0) (hN : n.toNatClampNeg = N) (hbytes : N * componentBytes ty ≤ 536870912) (hcells : cells + 1 ≤ R.cells) (hslots : slots + N ≤ R.slots) (hdg : decode cc pc = .ok (.newarray atype, 2))
    (kk : ∀ (q : Nat) (H1 : Heap), va_P D vwCl (ws ++ [(q, .inl (cA, a0))]) H1 → va_D A (ws ++ [(q, .inl (cA, a0))]) → va_S A s.heap H1 locs → W p l e R s m args below meth c H1 locs (cells + 1) (slots + N) Q (F0 m (pc + 2) ls (.ref q :: rest))) : W p l e R s m args below meth c H locs cells slots Q (F0 m pc ls (.int n :: rest)) := by
  obtain ⟨hx, hb, hml, hown, hts⟩ := X
  refine va_newa hx hb (by rw [hty]; exact hts _ harr) hty hK.1.1 hP hD hS hA ha hn hN hbytes hcells hslots hdg fun q cB H1 hK1 hP1 hD1 hS1 => ?_
  have h4 : (tw_ty (tn_g cy) ++ [(cB, ty)])[4]? = some (cB, ty) := rfl
  have hcc : cB = cA := Option.some.inj ((hnm _ (hK1.2 4 _ h4).2).symm.trans (hnm _ (hK.1.1.2 t0 _ ht).2))
  subst hcc
  exact kk q H1 hP1 hD1 hS1
theorem tn_newq (X : CallFix p m c cc nL s args Ts own) (hK : tn_k D cy s) (hP : va_P D vwCl ws H) (hD : va_D A ws) (hS : va_S A s.heap H locs) (hA : ∀ q : Nat, s.heap.size ≤ q → A q) {index : Nat} (hcl : Cond.classLink own index "TwoWays$Both" ∈ Ts) {n : Int32} {N : Nat} (hn : ¬ n < 0) (hN : n.toNatClampNeg = N) (hbytes : N * 4 ≤ 536870912) (hcells : cells + 1 ≤ R.cells) (hslots : slots + N ≤ R.slots) (hdg : decode cc pc = .ok (.anewarray index, 3))
    (kk : ∀ (q : Nat) (H1 : Heap), va_P D vwCl (ws ++ [(q, .inl (cy 3, N, .inr (.inr (.inr (.inr (fun _ => none))))))]) H1 → va_D A (ws ++ [(q, .inl (cy 3, N, .inr (.inr (.inr (.inr (fun _ => none))))))]) → va_S A s.heap H1 locs → W p l e R s m args below meth c H1 locs (cells + 1) (slots + N) Q (F0 m (pc + 3) ls (.ref q :: rest))) : W p l e R s m args below meth c H locs cells slots Q (F0 m pc ls (.int n :: rest)) := by
  obtain ⟨hx, hb, hml, hown, hts⟩ := X
  refine va_newq hx hb hown (hts _ hcl) hK.2 hK.1.1 hP hD hS hA hn hN hbytes hcells hslots hdg fun q cB H1 hK1 hP1 hD1 hS1 => ?_
  have h4 : (tw_ty (tn_g cy) ++ [(cB, .object "TwoWays$Both")])[4]? = some (cB, .object "TwoWays$Both") := rfl
  have hcc : cB = cy 3 := by
    obtain ⟨k1, c1, f1, f2, f3, f4⟩ := (hK1.2 4 _ h4).2
    obtain ⟨k2, c2, g1, g2, g3, g4⟩ := (hK.1.1.2 3 (cy 3, .object "TwoWays$Both") rfl).2
    exact Option.some.inj (f4.symm.trans g4)
  subst hcc
  exact kk q H1 hP1 hD1 hS1
theorem tn_blind {av : List Value} : FrameBlind (va_Pc av (tn_b D cy sz ws)) := by
  intro v U f mk q
  obtain ⟨q0, q1, qP, qK, qD⟩ := q
  exact ⟨q0, q1, qP, qK.call, qD⟩
theorem tn_pre (hK : tn_k D cy s) (hP : va_P D vwCl ws H) (hD : va_D A ws) (av : List Value) : PreS s H (va_Pc av (tn_b D cy H.size ws)) av :=
  ⟨tn_blind, fun U hU hW => ⟨rfl, by rw [hU], by rw [hU]; exact hP, hK.moved hW, hD.weaken (fun _ _ _ _ => trivial)⟩⟩
end TNR
/-! a pool of one row of ints -/
def tn_ga (cy : Nat → ClassId) (q n : Nat) : tw_G := ([q], fun _ => 10, fun _ _ => 0, fun _ => n, fun _ _ => 0, cy)
def tn_sa (f : Nat → Int32) : tw_S := (fun _ _ => 0, fun _ _ => 0, fun _ => f, fun _ _ => 0)
theorem tn_ga_T (cy : Nat → ClassId) (q n : Nat) : tw_T (tn_ga cy q n) := by
  refine ⟨fun x hx a ha => ?_, fun a j ha => ?_⟩
  · have h1 : (10 : Nat) = x.1 := ha.2
    have h2 : ∀ y ∈ tw_tl, y.1 < 10 := by decide
    exact absurd (h2 x hx) (by omega)
  · exact absurd ha.2 (show ¬ (10 : Nat) = 13 by decide)
theorem tn_fill (cy : Nat → ClassId) (q : Nat) : wp_J7_fill_53178 (tn_ga cy q 16) (tn_sa (fun _ => 0)) q 16 (-1) (fun σ => tw_A σ q = tn_mv) := by
  refine wf_fill _ _ _ _ _ _ (by decide) ?_
  rw [tw_A_sA, if_pos rfl]
  rfl
theorem tn_FA {g : tw_G} {σ : tw_S} {sz q : Nat} : tw_F g sz q ↔ va_A (tw_pl g σ) sz q := by
  constructor
  · rintro (h | h)
    · obtain ⟨k, hk⟩ := va_pl_get (X := []) (f := tw_e g σ) h
      exact Or.inl ⟨k, _, hk⟩
    · exact Or.inr h
  · rintro (⟨k, e, h⟩ | h)
    · exact Or.inl (tw_pl_in h)
    · exact Or.inr h
theorem tn_tk {D : va_G} {cy : Nat → ClassId} {g : tw_G} {s : State} (hg : tw_C g = cy) (h : tn_k D cy s) : tw_k D g s := by
  subst hg
  exact ⟨h.1.1, h.1.2⟩

theorem tn_f_0 : ∀ j, j < 2 → defaultValue (tyX0 j) = vp_V [.null, .null] j := by
  intro j hj
  match j, hj with
  | 0, _ => rfl
  | 1, _ => rfl
  | k + 2, h => exact absurd h (by omega)
theorem tn_f_1 : ∀ j, j < 7 → defaultValue (tyX1 j) = vp_V [.null, .null, .null, .int 0, .int 0, .int 0, .int 0] j := by
  intro j hj
  match j, hj with
  | 0, _ => rfl
  | 1, _ => rfl
  | 2, _ => rfl
  | 3, _ => rfl
  | 4, _ => rfl
  | 5, _ => rfl
  | 6, _ => rfl
  | k + 7, h => exact absurd h (by omega)
theorem tn_f_2 : ∀ j, j < 3 → defaultValue (tyX2 j) = vp_V [.null, .int 0, .int 0] j := by
  intro j hj
  match j, hj with
  | 0, _ => rfl
  | 1, _ => rfl
  | 2, _ => rfl
  | k + 3, h => exact absurd h (by omega)
theorem tn_f_3 : ∀ j, j < 3 → defaultValue (tyX3 j) = vp_V [.null, .int 0, .long 0] j := by
  intro j hj
  match j, hj with
  | 0, _ => rfl
  | 1, _ => rfl
  | 2, _ => rfl
  | k + 3, h => exact absurd h (by omega)
theorem tn_f_4 : ∀ j, j < 3 → defaultValue (tyX4 j) = vp_V [.null, .null, .int 0] j := by
  intro j hj
  match j, hj with
  | 0, _ => rfl
  | 1, _ => rfl
  | 2, _ => rfl
  | k + 3, h => exact absurd h (by omega)
theorem tn_f_5 : ∀ j, j < 16 → defaultValue (tyX5 j) = vp_V [.null, .null, .null, .null, .null, .null, .null, .null, .null, .null, .null, .null, .int 0, .int 0, .int 0, .int 0] j := by
  intro j hj
  match j, hj with
  | 0, _ => rfl
  | 1, _ => rfl
  | 2, _ => rfl
  | 3, _ => rfl
  | 4, _ => rfl
  | 5, _ => rfl
  | 6, _ => rfl
  | 7, _ => rfl
  | 8, _ => rfl
  | 9, _ => rfl
  | 10, _ => rfl
  | 11, _ => rfl
  | 12, _ => rfl
  | 13, _ => rfl
  | 14, _ => rfl
  | 15, _ => rfl
  | k + 16, h => exact absurd h (by omega)
theorem tn_f_6 : ∀ j, j < 4 → defaultValue (tyX6 j) = vp_V [.null, .int 0, .int 0, .int 0] j := by
  intro j hj
  match j, hj with
  | 0, _ => rfl
  | 1, _ => rfl
  | 2, _ => rfl
  | 3, _ => rfl
  | k + 4, h => exact absurd h (by omega)
theorem tn_f_7 : ∀ j, j < 2 → defaultValue (tyX7 j) = vp_V [.null, .int 0] j := by
  intro j hj
  match j, hj with
  | 0, _ => rfl
  | 1, _ => rfl
  | k + 2, h => exact absurd h (by omega)
theorem tn_f_8 : ∀ j, j < 13 → defaultValue (tyX8 j) = vp_V [.null, .null, .null, .null, .null, .null, .null, .null, .null, .null, .null, .null, .int 0] j := by
  intro j hj
  match j, hj with
  | 0, _ => rfl
  | 1, _ => rfl
  | 2, _ => rfl
  | 3, _ => rfl
  | 4, _ => rfl
  | 5, _ => rfl
  | 6, _ => rfl
  | 7, _ => rfl
  | 8, _ => rfl
  | 9, _ => rfl
  | 10, _ => rfl
  | 11, _ => rfl
  | 12, _ => rfl
  | k + 13, h => exact absurd h (by omega)
theorem tn_f_9 : ∀ j, j < 36 → defaultValue (tyX9 j) = vp_V [.null, .null, .int 0, .int 0, .int 0, .int 0, .null, .int 0, .null, .int 0, .long 0, .null, .int 0, .null, .int 0, .int 0, .int 0, .null, .null, .int 0, .null, .null, .null, .null, .null, .null, .null, .null, .null, .null, .null, .null, .null, .null, .null, .int 0] j := by
  intro j hj
  match j, hj with
  | 0, _ => rfl
  | 1, _ => rfl
  | 2, _ => rfl
  | 3, _ => rfl
  | 4, _ => rfl
  | 5, _ => rfl
  | 6, _ => rfl
  | 7, _ => rfl
  | 8, _ => rfl
  | 9, _ => rfl
  | 10, _ => rfl
  | 11, _ => rfl
  | 12, _ => rfl
  | 13, _ => rfl
  | 14, _ => rfl
  | 15, _ => rfl
  | 16, _ => rfl
  | 17, _ => rfl
  | 18, _ => rfl
  | 19, _ => rfl
  | 20, _ => rfl
  | 21, _ => rfl
  | 22, _ => rfl
  | 23, _ => rfl
  | 24, _ => rfl
  | 25, _ => rfl
  | 26, _ => rfl
  | 27, _ => rfl
  | 28, _ => rfl
  | 29, _ => rfl
  | 30, _ => rfl
  | 31, _ => rfl
  | 32, _ => rfl
  | 33, _ => rfl
  | 34, _ => rfl
  | 35, _ => rfl
  | k + 36, h => exact absurd h (by omega)
abbrev RM_X3_init : Room := { frames := 1, cells := 1, slots := 16, locals := 23 }
theorem iw_X3_init_3 : ∀ w ∈ wsX30, w ∈ wsX3_init := fun w h => List.mem_cons_of_mem _ (List.mem_append_right _ (h))
abbrev cw_X3_init (cy : Nat → ClassId) (h0 : Nat) (u : Nat → Nat) : va_W := [(h0, .inr (3, [.ref (u 0), .int 1, .long 0])), ((u 0), .inl (cy 0, 16, .inl tn_mv))]
set_option maxHeartbeats 8000000 in
set_option maxRecDepth 100000 in
theorem ci_X3_init (l : Launch) (D : va_G) (cy : Nat → ClassId) (h0 sz : Nat) : Met l yX3_init wsX3_init RM_X3_init (va_Pc [.ref h0] (tn_b D cy sz [(h0, .inr (3, [.null, .int 0, .long 0]))])) (va_Qv (fun _ : Nat → Nat => True) (fun u t => tn_z D (va_A [(h0, .inr (3, [.null, .int 0, .long 0]))] sz) (cw_X3_init cy h0 u) t) (va_A [(h0, .inr (3, [.null, .int 0, .long 0]))] sz)) 1 16 (va_A [(h0, .inr (3, [.null, .int 0, .long 0]))] sz) := by
  refine Met.ofW (cc := cX3_init) (maxL := 1) (ret := none) (by decide) rfl ?_
  intro p e s m args below meth c s₁ B hml hv
  obtain ⟨rfl, hsz, hP, hK, hD0⟩ := hv
  subst hsz
  have hr := B.returns
  have hlk := B.notSynchronized
  have hin : meth.name = "<init>" := (name_of_methodNamed B.named B.method).1
  have X : CallFix p m c cX3_init 1 s _ wsX3_init RX3 := ⟨B.exec, B.bytes, hml, findClass_of_methodNamed B.named, atoms_spec (ws := wsX3_init) B.pre⟩
  have hD := hD0.self (sz := s.heap.size)
  generalize hAe : va_A [(h0, .inr (3, [.null, .int 0, .long 0]))] s.heap.size = A at hD ⊢
  have hA : ∀ q : Nat, s.heap.size ≤ q → A q := fun q h => by rw [← hAe]; exact Or.inr h
  have hS : va_S A s.heap s.heap [] := va_S.rf
  have hl := lv_entry ([.ref h0]) (n := 1) (Nat.le_of_ble_eq_true rfl)
  rw [lg_entry_eq]
  generalize (lg_sl ([.ref h0]) ++ List.replicate (1 - (lg_sl ([.ref h0])).length) Slot.unset).toArray = ls at hl ⊢
  have hl : lv_has ls 1 [(0, .ref h0)] := hl
  refine lv_aload_n X.1 X.2.1 dX3_init_0 rfl (lv_at hl 0 rfl) ?_
  refine W.objInit X.1 X.2.1 X.2.2.2.1 (X.2.2.2.2 _ (List.mem_of_getElem? (i := 1) rfl)) (X.2.2.2.2 _ (List.mem_of_getElem? (i := 2) rfl)) (X.2.2.2.2 _ (List.mem_of_getElem? (i := 3) rfl)) rfl (by rw [hml]; exact hl.1) rfl dX3_init_1 (Nat.le_of_ble_eq_true rfl) (Nat.le_of_ble_eq_true rfl) ?_
  refine W.eq (g2 := F0 m 4 ls []) rfl ?_
  refine lv_aload_n X.1 X.2.1 dX3_init_4 rfl (lv_at hl 0 rfl) ?_
  refine lv_bipush (v := 16) X.1 X.2.1 dX3_init_5 (by decide) ?_
  refine tn_newa (atype := .int) (a0 := (16, .inl (fun _ => 0))) X hK hP hD hS hA rfl (List.mem_of_getElem? (i := 4) rfl) 0 rfl (fun _ h => h) (fun _ => rfl) (by decide) (by decide) (Nat.le_of_ble_eq_true rfl) (Nat.le_of_ble_eq_true rfl) (Nat.le_of_ble_eq_true rfl) dX3_init_7 (fun q0 H hP hD hS => ?_)
  have hP : va_P D vwCl [(h0, .inr (3, [.null, .int 0, .long 0])), (q0, .inl (cy 0, 16, .inl (fun _ => 0)))] H := hP
  have hD : va_D A [(h0, .inr (3, [.null, .int 0, .long 0])), (q0, .inl (cy 0, 16, .inl (fun _ => 0)))] := hD
  refine W.widen (k := 1) (n := 16) (Nat.le_of_ble_eq_true rfl) (Nat.le_of_ble_eq_true rfl) ?_
  refine va_putF (D := D) (ci := 3) (v := (.ref q0)) (ty := (.array .int)) (C := RX3) (T := TX3) (N := 3) X.1 X.2.1 X.2.2.2.2 iw_X3_init_3 tyX3 tyX3_ok nmX3 X.2.2.2.1 hK.1.1 hP hD hS 0 rfl rfl 0 (by decide) (X.2.2.2.2 _ (List.mem_of_getElem? (i := 5) rfl)) (fun _ h9 => h9) rfl hin rfl (by decide +kernel) rfl rfl (Nat.le_of_ble_eq_true rfl) dX3_init_9 (fun H locs hP hD hS => ?_)
  have hP : va_P D vwCl [(h0, .inr (3, [.ref q0, .int 0, .long 0])), (q0, .inl (cy 0, 16, .inl (fun _ => 0)))] H := hP
  have hD : va_D A [(h0, .inr (3, [.ref q0, .int 0, .long 0])), (q0, .inl (cy 0, 16, .inl (fun _ => 0)))] := hD
  refine lv_aload_n X.1 X.2.1 dX3_init_12 rfl (lv_at hl 0 rfl) ?_
  refine lv_iconst (v := 1) X.1 X.2.1 dX3_init_13 (by decide) ?_
  refine va_put (D := D) (ci := 3) (v := (.int (1))) (ty := .int) (C := RX3) (T := TX3) (N := 3) X.1 X.2.1 X.2.2.2.2 iw_X3_init_3 tyX3 tyX3_ok nmX3 X.2.2.2.1 hK.1.1 hP hD hS 0 rfl rfl 1 (by decide) (X.2.2.2.2 _ (List.mem_of_getElem? (i := 6) rfl)) (fun _ h9 => h9) rfl (by decide +kernel) rfl rfl (Nat.le_of_ble_eq_true rfl) dX3_init_14 (fun H locs hP hD hS => ?_)
  have hP : va_P D vwCl [(h0, .inr (3, [.ref q0, .int 1, .long 0])), (q0, .inl (cy 0, 16, .inl (fun _ => 0)))] H := hP
  have hD : va_D A [(h0, .inr (3, [.ref q0, .int 1, .long 0])), (q0, .inl (cy 0, 16, .inl (fun _ => 0)))] := hD
  refine lv_aload_n X.1 X.2.1 dX3_init_17 rfl (lv_at hl 0 rfl) ?_
  refine va_get (D := D) (ci := 3) (v := .ref q0) (C := RX3) (T := TX3) (N := 3) X.1 X.2.1 X.2.2.2.2 iw_X3_init_3 X.2.2.2.1 hK.1.1 hP 0 rfl rfl 0 (by decide) (X.2.2.2.2 _ (List.mem_of_getElem? (i := 5) rfl)) (fun _ h9 => h9) rfl dX3_init_18 ?_
  refine lv_iconst (v := -1) X.1 X.2.1 dX3_init_21 (by decide) ?_
  have hPc := hP.sub (ws' := tw_pl (tn_ga cy q0 16) (tn_sa (fun _ => 0))) [1] rfl
  have hDc := hD.sub (ws' := tw_pl (tn_ga cy q0 16) (tn_sa (fun _ => 0))) [1] (by decide) rfl
  have hFc := va_free (wc := tw_pl (tn_ga cy q0 16) (tn_sa (fun _ => 0))) hD hS hA [1] rfl
  have wc : tw_w D (tn_ga cy q0 16) A s (tn_sa (fun _ => 0)) H locs := ⟨hPc, hDc, hS, hA⟩
  have hKc : tw_k D (tn_ga cy q0 16) s := tn_tk rfl hK
  refine va_callv (va_runS (As := [.ref q0, .int (-1)]) (rest := []) X (ct_J7_fill_53178 l D (tn_ga cy q0 16) (tn_ga_T cy q0 16) H.size (tn_sa (fun _ => 0)) q0 ⟨List.mem_singleton.mpr rfl, rfl⟩ 16 rfl (-1) (fun σ => tw_A σ q0 = tn_mv) (tn_fill cy q0)) (va_cwS 2 X.2.2.2.2 gX3_init_J7_fill_53178 rfl rfl rfl (by decide +kernel) ⟨Nat.le_of_ble_eq_true rfl, Nat.le_of_ble_eq_true rfl⟩) (tw_pre hKc wc [.ref q0, .int (-1)]) rfl rfl hl.1 rfl (lv_room (Nat.le_of_ble_eq_true rfl)) dX3_init_22 ⟨Nat.le_of_ble_eq_true rfl, Nat.le_of_ble_eq_true rfl⟩) hS (fun q _ h => hFc q (tn_FA.mp h)) (fun q h => hFc q (tn_FA.mp h)) (fun σ1 t H1 locs ht hvm hw hB hz1 hk1 hS => ?_)
  obtain ⟨hP1, hD1⟩ := hB
  rw [ht] at hP1
  have hD1 := hD1.weaken (fun _ _ _ h => (tn_FA (σ := tn_sa (fun _ => 0))).mp h)
  obtain ⟨hP, hD⟩ := va_join (wr := [(h0, .inr (3, [.ref q0, .int 1, .long 0]))]) (w1 := [(q0, .inl (cy 0, 16, .inl (tw_A σ1 q0)))]) hP hD [1] [0] rfl rfl (by decide) (by decide) (fun q h1 h2 => hk1 q h1 (fun h => h2 (tn_FA.mp h))) hFc hP1 hD1
  rw [hw] at hP hD
  generalize H1 = H at hP hS ⊢
  have hP : va_P D vwCl [(h0, .inr (3, [.ref q0, .int 1, .long 0])), (q0, .inl (cy 0, 16, .inl tn_mv))] H := hP
  have hD : va_D A [(h0, .inr (3, [.ref q0, .int 1, .long 0])), (q0, .inl (cy 0, 16, .inl tn_mv))] := hD
  have hP9 := hP.sub (ws' := [(h0, .inr (3, [.ref q0, .int 1, .long 0])), (q0, .inl (cy 0, 16, .inl tn_mv))]) [0, 1] rfl
  have hD9 := hD.sub (ws' := [(h0, .inr (3, [.ref q0, .int 1, .long 0])), (q0, .inl (cy 0, 16, .inl tn_mv))]) [0, 1] (by decide) rfl
  exact W.vret X.1 X.2.1 hr (fun t ht hW => ⟨⟨(fun i => match i with | 0 => q0 | _ => 0), rfl, trivial, by rw [ht]; exact hP9, hD9⟩, hS.F ht⟩) hS.2.2 dX3_init_25 hlk

abbrev RM_X0_init : Room := { frames := 2, cells := 4, slots := 38, locals := 43 }
theorem iw_X0_init_0 : ∀ w ∈ wsX00, w ∈ wsX0_init := fun w h => List.mem_cons_of_mem _ (List.mem_append_right _ (h))
theorem iw_X0_init_3 : ∀ w ∈ wsX30, w ∈ wsX0_init := fun w h => List.mem_cons_of_mem _ (List.mem_append_left _ (List.mem_append_right _ (h)))
abbrev cw_X0_init (cy : Nat → ClassId) (h0 : Nat) (u : Nat → Nat) : va_W := [(h0, .inr (0, [.ref (u 0), .ref (u 2)])), ((u 0), .inr (3, [.ref (u 1), .int 1, .long 0])), ((u 1), .inl (cy 0, 16, .inl tn_mv)), ((u 2), .inr (3, [.ref (u 3), .int 1, .long 0])), ((u 3), .inl (cy 0, 16, .inl tn_mv))]
set_option maxHeartbeats 8000000 in
set_option maxRecDepth 100000 in
theorem ci_X0_init (l : Launch) (D : va_G) (cy : Nat → ClassId) (h0 sz : Nat) : Met l yX0_init wsX0_init RM_X0_init (va_Pc [.ref h0] (tn_b D cy sz [(h0, .inr (0, [.null, .null]))])) (va_Qv (fun _ : Nat → Nat => True) (fun u t => tn_z D (va_A [(h0, .inr (0, [.null, .null]))] sz) (cw_X0_init cy h0 u) t) (va_A [(h0, .inr (0, [.null, .null]))] sz)) 4 38 (va_A [(h0, .inr (0, [.null, .null]))] sz) := by
  refine Met.ofW (cc := cX0_init) (maxL := 1) (ret := none) (by decide) rfl ?_
  intro p e s m args below meth c s₁ B hml hv
  obtain ⟨rfl, hsz, hP, hK, hD0⟩ := hv
  subst hsz
  have hr := B.returns
  have hlk := B.notSynchronized
  have hin : meth.name = "<init>" := (name_of_methodNamed B.named B.method).1
  have X : CallFix p m c cX0_init 1 s _ wsX0_init RX0 := ⟨B.exec, B.bytes, hml, findClass_of_methodNamed B.named, atoms_spec (ws := wsX0_init) B.pre⟩
  have hD := hD0.self (sz := s.heap.size)
  generalize hAe : va_A [(h0, .inr (0, [.null, .null]))] s.heap.size = A at hD ⊢
  have hA : ∀ q : Nat, s.heap.size ≤ q → A q := fun q h => by rw [← hAe]; exact Or.inr h
  have hS : va_S A s.heap s.heap [] := va_S.rf
  have hl := lv_entry ([.ref h0]) (n := 1) (Nat.le_of_ble_eq_true rfl)
  rw [lg_entry_eq]
  generalize (lg_sl ([.ref h0]) ++ List.replicate (1 - (lg_sl ([.ref h0])).length) Slot.unset).toArray = ls at hl ⊢
  have hl : lv_has ls 1 [(0, .ref h0)] := hl
  refine lv_aload_n X.1 X.2.1 dX0_init_0 rfl (lv_at hl 0 rfl) ?_
  refine W.objInit X.1 X.2.1 X.2.2.2.1 (X.2.2.2.2 _ (List.mem_of_getElem? (i := 1) rfl)) (X.2.2.2.2 _ (List.mem_of_getElem? (i := 2) rfl)) (X.2.2.2.2 _ (List.mem_of_getElem? (i := 3) rfl)) rfl (by rw [hml]; exact hl.1) rfl dX0_init_1 (Nat.le_of_ble_eq_true rfl) (Nat.le_of_ble_eq_true rfl) ?_
  refine W.eq (g2 := F0 m 4 ls []) rfl ?_
  refine lv_aload_n X.1 X.2.1 dX0_init_4 rfl (lv_at hl 0 rfl) ?_
  refine va_new (ci := 3) (fs := [.null, .int 0, .long 0]) (C := RX3) (T := TX3) (N := 3) X.1 X.2.1 X.2.2.2.2 iw_X0_init_3 tyX3 tyX3_ok X.2.2.2.1 (X.2.2.2.2 _ (List.mem_of_getElem? (i := 4) rfl)) (X.2.2.2.2 _ (List.mem_of_getElem? (i := 5) rfl)) (X.2.2.2.2 _ (List.mem_of_getElem? (i := 6) rfl)) hK.1.1 hP hD hS hA rfl tn_f_3 (Nat.le_of_ble_eq_true rfl) (Nat.le_of_ble_eq_true rfl) dX0_init_5 (fun q0 H hP hD hS => ?_)
  have hP : va_P D vwCl [(h0, .inr (0, [.null, .null])), (q0, .inr (3, [.null, .int 0, .long 0]))] H := hP
  have hD : va_D A [(h0, .inr (0, [.null, .null])), (q0, .inr (3, [.null, .int 0, .long 0]))] := hD
  refine W.widen (k := 1) (n := 3) (Nat.le_of_ble_eq_true rfl) (Nat.le_of_ble_eq_true rfl) ?_
  refine lv_dup X.1 X.2.1 dX0_init_8 rfl ?_
  have hPc := hP.sub (ws' := [(q0, .inr (3, [.null, .int 0, .long 0]))]) [1] rfl
  have hDc := hD.sub (ws' := [(q0, .inr (3, [.null, .int 0, .long 0]))]) [1] (by decide) rfl
  have hFc := va_free (wc := [(q0, .inr (3, [.null, .int 0, .long 0]))]) hD hS hA [1] rfl
  refine va_callv (va_runI (As := []) (rest := [.ref q0, .ref h0]) X (ci_X3_init l D cy q0 H.size) (cwI 0 X.2.2.2.2 gX0_init_X3_init rfl rfl rfl (X.2.2.2.2 _ (List.mem_of_getElem? (i := 6) rfl)) (X.2.2.2.2 _ (List.mem_of_getElem? (i := 9) rfl)) (X.2.2.2.2 _ (List.mem_of_getElem? (i := 10) rfl)) rfl (by decide +kernel) ⟨Nat.le_of_ble_eq_true rfl, Nat.le_of_ble_eq_true rfl⟩) (tn_pre hK hPc hDc [.ref q0]) rfl rfl hl.1 rfl (lv_room (Nat.le_of_ble_eq_true rfl)) dX0_init_9 ⟨Nat.le_of_ble_eq_true rfl, Nat.le_of_ble_eq_true rfl⟩) hS (fun q _ h => hFc q h) hFc (fun u1 t H1 locs ht hvm hw hB hz1 hk1 hS => ?_)
  obtain ⟨hP1, hD1⟩ := hB
  rw [ht] at hP1
  obtain ⟨hP, hD⟩ := va_join (wr := [(h0, .inr (0, [.null, .null]))]) hP hD [1] [0] rfl rfl (by decide) (by decide) hk1 hFc hP1 hD1
  generalize H1 = H at hP hS ⊢
  have hP : va_P D vwCl [(h0, .inr (0, [.null, .null])), (q0, .inr (3, [.ref (u1 0), .int 1, .long 0])), ((u1 0), .inl (cy 0, 16, .inl tn_mv))] H := hP
  have hD : va_D A [(h0, .inr (0, [.null, .null])), (q0, .inr (3, [.ref (u1 0), .int 1, .long 0])), ((u1 0), .inl (cy 0, 16, .inl tn_mv))] := hD
  refine W.widen (k := 2) (n := 19) (Nat.le_of_ble_eq_true rfl) (Nat.le_of_ble_eq_true rfl) ?_
  refine va_putF (D := D) (ci := 0) (v := (.ref q0)) (ty := (.object "TwoWays$Machine")) (C := RX0) (T := TX0) (N := 2) X.1 X.2.1 X.2.2.2.2 iw_X0_init_0 tyX0 tyX0_ok nmX0 X.2.2.2.1 hK.1.1 hP hD hS 0 rfl rfl 0 (by decide) (X.2.2.2.2 _ (List.mem_of_getElem? (i := 7) rfl)) (fun _ h9 => h9) rfl hin rfl (by decide +kernel) rfl rfl (Nat.le_of_ble_eq_true rfl) dX0_init_12 (fun H locs hP hD hS => ?_)
  have hP : va_P D vwCl [(h0, .inr (0, [.ref q0, .null])), (q0, .inr (3, [.ref (u1 0), .int 1, .long 0])), ((u1 0), .inl (cy 0, 16, .inl tn_mv))] H := hP
  have hD : va_D A [(h0, .inr (0, [.ref q0, .null])), (q0, .inr (3, [.ref (u1 0), .int 1, .long 0])), ((u1 0), .inl (cy 0, 16, .inl tn_mv))] := hD
  refine lv_aload_n X.1 X.2.1 dX0_init_15 rfl (lv_at hl 0 rfl) ?_
  refine va_new (ci := 3) (fs := [.null, .int 0, .long 0]) (C := RX3) (T := TX3) (N := 3) X.1 X.2.1 X.2.2.2.2 iw_X0_init_3 tyX3 tyX3_ok X.2.2.2.1 (X.2.2.2.2 _ (List.mem_of_getElem? (i := 4) rfl)) (X.2.2.2.2 _ (List.mem_of_getElem? (i := 5) rfl)) (X.2.2.2.2 _ (List.mem_of_getElem? (i := 6) rfl)) hK.1.1 hP hD hS hA rfl tn_f_3 (Nat.le_of_ble_eq_true rfl) (Nat.le_of_ble_eq_true rfl) dX0_init_16 (fun q2 H hP hD hS => ?_)
  have hP : va_P D vwCl [(h0, .inr (0, [.ref q0, .null])), (q0, .inr (3, [.ref (u1 0), .int 1, .long 0])), ((u1 0), .inl (cy 0, 16, .inl tn_mv)), (q2, .inr (3, [.null, .int 0, .long 0]))] H := hP
  have hD : va_D A [(h0, .inr (0, [.ref q0, .null])), (q0, .inr (3, [.ref (u1 0), .int 1, .long 0])), ((u1 0), .inl (cy 0, 16, .inl tn_mv)), (q2, .inr (3, [.null, .int 0, .long 0]))] := hD
  refine W.widen (k := 3) (n := 22) (Nat.le_of_ble_eq_true rfl) (Nat.le_of_ble_eq_true rfl) ?_
  refine lv_dup X.1 X.2.1 dX0_init_19 rfl ?_
  have hPc := hP.sub (ws' := [(q2, .inr (3, [.null, .int 0, .long 0]))]) [3] rfl
  have hDc := hD.sub (ws' := [(q2, .inr (3, [.null, .int 0, .long 0]))]) [3] (by decide) rfl
  have hFc := va_free (wc := [(q2, .inr (3, [.null, .int 0, .long 0]))]) hD hS hA [3] rfl
  refine va_callv (va_runI (As := []) (rest := [.ref q2, .ref h0]) X (ci_X3_init l D cy q2 H.size) (cwI 0 X.2.2.2.2 gX0_init_X3_init rfl rfl rfl (X.2.2.2.2 _ (List.mem_of_getElem? (i := 6) rfl)) (X.2.2.2.2 _ (List.mem_of_getElem? (i := 9) rfl)) (X.2.2.2.2 _ (List.mem_of_getElem? (i := 10) rfl)) rfl (by decide +kernel) ⟨Nat.le_of_ble_eq_true rfl, Nat.le_of_ble_eq_true rfl⟩) (tn_pre hK hPc hDc [.ref q2]) rfl rfl hl.1 rfl (lv_room (Nat.le_of_ble_eq_true rfl)) dX0_init_20 ⟨Nat.le_of_ble_eq_true rfl, Nat.le_of_ble_eq_true rfl⟩) hS (fun q _ h => hFc q h) hFc (fun u3 t H1 locs ht hvm hw hB hz1 hk1 hS => ?_)
  obtain ⟨hP1, hD1⟩ := hB
  rw [ht] at hP1
  obtain ⟨hP, hD⟩ := va_join (wr := [(h0, .inr (0, [.ref q0, .null])), (q0, .inr (3, [.ref (u1 0), .int 1, .long 0])), ((u1 0), .inl (cy 0, 16, .inl tn_mv))]) hP hD [3] [0, 1, 2] rfl rfl (by decide) (by decide) hk1 hFc hP1 hD1
  generalize H1 = H at hP hS ⊢
  have hP : va_P D vwCl [(h0, .inr (0, [.ref q0, .null])), (q0, .inr (3, [.ref (u1 0), .int 1, .long 0])), ((u1 0), .inl (cy 0, 16, .inl tn_mv)), (q2, .inr (3, [.ref (u3 0), .int 1, .long 0])), ((u3 0), .inl (cy 0, 16, .inl tn_mv))] H := hP
  have hD : va_D A [(h0, .inr (0, [.ref q0, .null])), (q0, .inr (3, [.ref (u1 0), .int 1, .long 0])), ((u1 0), .inl (cy 0, 16, .inl tn_mv)), (q2, .inr (3, [.ref (u3 0), .int 1, .long 0])), ((u3 0), .inl (cy 0, 16, .inl tn_mv))] := hD
  refine W.widen (k := 4) (n := 38) (Nat.le_of_ble_eq_true rfl) (Nat.le_of_ble_eq_true rfl) ?_
  refine va_putF (D := D) (ci := 0) (v := (.ref q2)) (ty := (.object "TwoWays$Machine")) (C := RX0) (T := TX0) (N := 2) X.1 X.2.1 X.2.2.2.2 iw_X0_init_0 tyX0 tyX0_ok nmX0 X.2.2.2.1 hK.1.1 hP hD hS 0 rfl rfl 1 (by decide) (X.2.2.2.2 _ (List.mem_of_getElem? (i := 8) rfl)) (fun _ h9 => h9) rfl hin rfl (by decide +kernel) rfl rfl (Nat.le_of_ble_eq_true rfl) dX0_init_23 (fun H locs hP hD hS => ?_)
  have hP : va_P D vwCl [(h0, .inr (0, [.ref q0, .ref q2])), (q0, .inr (3, [.ref (u1 0), .int 1, .long 0])), ((u1 0), .inl (cy 0, 16, .inl tn_mv)), (q2, .inr (3, [.ref (u3 0), .int 1, .long 0])), ((u3 0), .inl (cy 0, 16, .inl tn_mv))] H := hP
  have hD : va_D A [(h0, .inr (0, [.ref q0, .ref q2])), (q0, .inr (3, [.ref (u1 0), .int 1, .long 0])), ((u1 0), .inl (cy 0, 16, .inl tn_mv)), (q2, .inr (3, [.ref (u3 0), .int 1, .long 0])), ((u3 0), .inl (cy 0, 16, .inl tn_mv))] := hD
  have hP9 := hP.sub (ws' := [(h0, .inr (0, [.ref q0, .ref q2])), (q0, .inr (3, [.ref (u1 0), .int 1, .long 0])), ((u1 0), .inl (cy 0, 16, .inl tn_mv)), (q2, .inr (3, [.ref (u3 0), .int 1, .long 0])), ((u3 0), .inl (cy 0, 16, .inl tn_mv))]) [0, 1, 2, 3, 4] rfl
  have hD9 := hD.sub (ws' := [(h0, .inr (0, [.ref q0, .ref q2])), (q0, .inr (3, [.ref (u1 0), .int 1, .long 0])), ((u1 0), .inl (cy 0, 16, .inl tn_mv)), (q2, .inr (3, [.ref (u3 0), .int 1, .long 0])), ((u3 0), .inl (cy 0, 16, .inl tn_mv))]) [0, 1, 2, 3, 4] (by decide) rfl
  exact W.vret X.1 X.2.1 hr (fun t ht hW => ⟨⟨(fun i => match i with | 0 => q0 | 1 => (u1 0) | 2 => q2 | 3 => (u3 0) | _ => 0), rfl, trivial, by rw [ht]; exact hP9, hD9⟩, hS.F ht⟩) hS.2.2 dX0_init_26 hlk

abbrev RM_X6_init : Room := { frames := 1, cells := 1, slots := 240, locals := 12 }
theorem iw_X6_init_6 : ∀ w ∈ wsX60, w ∈ wsX6_init := fun w h => List.mem_cons_of_mem _ (List.mem_append_right _ (h))
abbrev cw_X6_init (cy : Nat → ClassId) (h0 : Nat) (u : Nat → Nat) : va_W := [(h0, .inr (6, [.ref (u 0), .int 0, .int 0, .int 0])), ((u 0), .inl (cy 0, 240, .inl (fun _ => 0)))]
set_option maxHeartbeats 8000000 in
set_option maxRecDepth 100000 in
theorem ci_X6_init (l : Launch) (D : va_G) (cy : Nat → ClassId) (h0 sz : Nat) : Met l yX6_init wsX6_init RM_X6_init (va_Pc [.ref h0] (tn_b D cy sz [(h0, .inr (6, [.null, .int 0, .int 0, .int 0]))])) (va_Qv (fun _ : Nat → Nat => True) (fun u t => tn_z D (va_A [(h0, .inr (6, [.null, .int 0, .int 0, .int 0]))] sz) (cw_X6_init cy h0 u) t) (va_A [(h0, .inr (6, [.null, .int 0, .int 0, .int 0]))] sz)) 1 240 (va_A [(h0, .inr (6, [.null, .int 0, .int 0, .int 0]))] sz) := by
  refine Met.ofW (cc := cX6_init) (maxL := 1) (ret := none) (by decide) rfl ?_
  intro p e s m args below meth c s₁ B hml hv
  obtain ⟨rfl, hsz, hP, hK, hD0⟩ := hv
  subst hsz
  have hr := B.returns
  have hlk := B.notSynchronized
  have hin : meth.name = "<init>" := (name_of_methodNamed B.named B.method).1
  have X : CallFix p m c cX6_init 1 s _ wsX6_init RX6 := ⟨B.exec, B.bytes, hml, findClass_of_methodNamed B.named, atoms_spec (ws := wsX6_init) B.pre⟩
  have hD := hD0.self (sz := s.heap.size)
  generalize hAe : va_A [(h0, .inr (6, [.null, .int 0, .int 0, .int 0]))] s.heap.size = A at hD ⊢
  have hA : ∀ q : Nat, s.heap.size ≤ q → A q := fun q h => by rw [← hAe]; exact Or.inr h
  have hS : va_S A s.heap s.heap [] := va_S.rf
  have hl := lv_entry ([.ref h0]) (n := 1) (Nat.le_of_ble_eq_true rfl)
  rw [lg_entry_eq]
  generalize (lg_sl ([.ref h0]) ++ List.replicate (1 - (lg_sl ([.ref h0])).length) Slot.unset).toArray = ls at hl ⊢
  have hl : lv_has ls 1 [(0, .ref h0)] := hl
  refine lv_aload_n X.1 X.2.1 dX6_init_0 rfl (lv_at hl 0 rfl) ?_
  refine W.objInit X.1 X.2.1 X.2.2.2.1 (X.2.2.2.2 _ (List.mem_of_getElem? (i := 1) rfl)) (X.2.2.2.2 _ (List.mem_of_getElem? (i := 2) rfl)) (X.2.2.2.2 _ (List.mem_of_getElem? (i := 3) rfl)) rfl (by rw [hml]; exact hl.1) rfl dX6_init_1 (Nat.le_of_ble_eq_true rfl) (Nat.le_of_ble_eq_true rfl) ?_
  refine W.eq (g2 := F0 m 4 ls []) rfl ?_
  refine lv_aload_n X.1 X.2.1 dX6_init_4 rfl (lv_at hl 0 rfl) ?_
  refine lv_sipush (v := 240) X.1 X.2.1 dX6_init_5 (by decide) ?_
  refine tn_newa (atype := .int) (a0 := (240, .inl (fun _ => 0))) X hK hP hD hS hA rfl (List.mem_of_getElem? (i := 4) rfl) 0 rfl (fun _ h => h) (fun _ => rfl) (by decide) (by decide) (Nat.le_of_ble_eq_true rfl) (Nat.le_of_ble_eq_true rfl) (Nat.le_of_ble_eq_true rfl) dX6_init_8 (fun q0 H hP hD hS => ?_)
  have hP : va_P D vwCl [(h0, .inr (6, [.null, .int 0, .int 0, .int 0])), (q0, .inl (cy 0, 240, .inl (fun _ => 0)))] H := hP
  have hD : va_D A [(h0, .inr (6, [.null, .int 0, .int 0, .int 0])), (q0, .inl (cy 0, 240, .inl (fun _ => 0)))] := hD
  refine W.widen (k := 1) (n := 240) (Nat.le_of_ble_eq_true rfl) (Nat.le_of_ble_eq_true rfl) ?_
  refine va_putF (D := D) (ci := 6) (v := (.ref q0)) (ty := (.array .int)) (C := RX6) (T := TX6) (N := 4) X.1 X.2.1 X.2.2.2.2 iw_X6_init_6 tyX6 tyX6_ok nmX6 X.2.2.2.1 hK.1.1 hP hD hS 0 rfl rfl 0 (by decide) (X.2.2.2.2 _ (List.mem_of_getElem? (i := 5) rfl)) (fun _ h9 => h9) rfl hin rfl (by decide +kernel) rfl rfl (Nat.le_of_ble_eq_true rfl) dX6_init_10 (fun H locs hP hD hS => ?_)
  have hP : va_P D vwCl [(h0, .inr (6, [.ref q0, .int 0, .int 0, .int 0])), (q0, .inl (cy 0, 240, .inl (fun _ => 0)))] H := hP
  have hD : va_D A [(h0, .inr (6, [.ref q0, .int 0, .int 0, .int 0])), (q0, .inl (cy 0, 240, .inl (fun _ => 0)))] := hD
  have hP9 := hP.sub (ws' := [(h0, .inr (6, [.ref q0, .int 0, .int 0, .int 0])), (q0, .inl (cy 0, 240, .inl (fun _ => 0)))]) [0, 1] rfl
  have hD9 := hD.sub (ws' := [(h0, .inr (6, [.ref q0, .int 0, .int 0, .int 0])), (q0, .inl (cy 0, 240, .inl (fun _ => 0)))]) [0, 1] (by decide) rfl
  exact W.vret X.1 X.2.1 hr (fun t ht hW => ⟨⟨(fun i => match i with | 0 => q0 | _ => 0), rfl, trivial, by rw [ht]; exact hP9, hD9⟩, hS.F ht⟩) hS.2.2 dX6_init_13 hlk

abbrev RM_X7_init : Room := { frames := 1, cells := 1, slots := 24, locals := 12 }
theorem iw_X7_init_7 : ∀ w ∈ wsX70, w ∈ wsX7_init := fun w h => List.mem_cons_of_mem _ (List.mem_append_right _ (h))
abbrev cw_X7_init (cy : Nat → ClassId) (h0 : Nat) (u : Nat → Nat) : va_W := [(h0, .inr (7, [.ref (u 0), .int 0])), ((u 0), .inl (cy 0, 24, .inl (fun _ => 0)))]
set_option maxHeartbeats 8000000 in
set_option maxRecDepth 100000 in
theorem ci_X7_init (l : Launch) (D : va_G) (cy : Nat → ClassId) (h0 sz : Nat) : Met l yX7_init wsX7_init RM_X7_init (va_Pc [.ref h0] (tn_b D cy sz [(h0, .inr (7, [.null, .int 0]))])) (va_Qv (fun _ : Nat → Nat => True) (fun u t => tn_z D (va_A [(h0, .inr (7, [.null, .int 0]))] sz) (cw_X7_init cy h0 u) t) (va_A [(h0, .inr (7, [.null, .int 0]))] sz)) 1 24 (va_A [(h0, .inr (7, [.null, .int 0]))] sz) := by
  refine Met.ofW (cc := cX7_init) (maxL := 1) (ret := none) (by decide) rfl ?_
  intro p e s m args below meth c s₁ B hml hv
  obtain ⟨rfl, hsz, hP, hK, hD0⟩ := hv
  subst hsz
  have hr := B.returns
  have hlk := B.notSynchronized
  have hin : meth.name = "<init>" := (name_of_methodNamed B.named B.method).1
  have X : CallFix p m c cX7_init 1 s _ wsX7_init RX7 := ⟨B.exec, B.bytes, hml, findClass_of_methodNamed B.named, atoms_spec (ws := wsX7_init) B.pre⟩
  have hD := hD0.self (sz := s.heap.size)
  generalize hAe : va_A [(h0, .inr (7, [.null, .int 0]))] s.heap.size = A at hD ⊢
  have hA : ∀ q : Nat, s.heap.size ≤ q → A q := fun q h => by rw [← hAe]; exact Or.inr h
  have hS : va_S A s.heap s.heap [] := va_S.rf
  have hl := lv_entry ([.ref h0]) (n := 1) (Nat.le_of_ble_eq_true rfl)
  rw [lg_entry_eq]
  generalize (lg_sl ([.ref h0]) ++ List.replicate (1 - (lg_sl ([.ref h0])).length) Slot.unset).toArray = ls at hl ⊢
  have hl : lv_has ls 1 [(0, .ref h0)] := hl
  refine lv_aload_n X.1 X.2.1 dX7_init_0 rfl (lv_at hl 0 rfl) ?_
  refine W.objInit X.1 X.2.1 X.2.2.2.1 (X.2.2.2.2 _ (List.mem_of_getElem? (i := 1) rfl)) (X.2.2.2.2 _ (List.mem_of_getElem? (i := 2) rfl)) (X.2.2.2.2 _ (List.mem_of_getElem? (i := 3) rfl)) rfl (by rw [hml]; exact hl.1) rfl dX7_init_1 (Nat.le_of_ble_eq_true rfl) (Nat.le_of_ble_eq_true rfl) ?_
  refine W.eq (g2 := F0 m 4 ls []) rfl ?_
  refine lv_aload_n X.1 X.2.1 dX7_init_4 rfl (lv_at hl 0 rfl) ?_
  refine lv_bipush (v := 24) X.1 X.2.1 dX7_init_5 (by decide) ?_
  refine tn_newa (atype := .int) (a0 := (24, .inl (fun _ => 0))) X hK hP hD hS hA rfl (List.mem_of_getElem? (i := 4) rfl) 0 rfl (fun _ h => h) (fun _ => rfl) (by decide) (by decide) (Nat.le_of_ble_eq_true rfl) (Nat.le_of_ble_eq_true rfl) (Nat.le_of_ble_eq_true rfl) dX7_init_7 (fun q0 H hP hD hS => ?_)
  have hP : va_P D vwCl [(h0, .inr (7, [.null, .int 0])), (q0, .inl (cy 0, 24, .inl (fun _ => 0)))] H := hP
  have hD : va_D A [(h0, .inr (7, [.null, .int 0])), (q0, .inl (cy 0, 24, .inl (fun _ => 0)))] := hD
  refine W.widen (k := 1) (n := 24) (Nat.le_of_ble_eq_true rfl) (Nat.le_of_ble_eq_true rfl) ?_
  refine va_putF (D := D) (ci := 7) (v := (.ref q0)) (ty := (.array .int)) (C := RX7) (T := TX7) (N := 2) X.1 X.2.1 X.2.2.2.2 iw_X7_init_7 tyX7 tyX7_ok nmX7 X.2.2.2.1 hK.1.1 hP hD hS 0 rfl rfl 0 (by decide) (X.2.2.2.2 _ (List.mem_of_getElem? (i := 5) rfl)) (fun _ h9 => h9) rfl hin rfl (by decide +kernel) rfl rfl (Nat.le_of_ble_eq_true rfl) dX7_init_9 (fun H locs hP hD hS => ?_)
  have hP : va_P D vwCl [(h0, .inr (7, [.ref q0, .int 0])), (q0, .inl (cy 0, 24, .inl (fun _ => 0)))] H := hP
  have hD : va_D A [(h0, .inr (7, [.ref q0, .int 0])), (q0, .inl (cy 0, 24, .inl (fun _ => 0)))] := hD
  have hP9 := hP.sub (ws' := [(h0, .inr (7, [.ref q0, .int 0])), (q0, .inl (cy 0, 24, .inl (fun _ => 0)))]) [0, 1] rfl
  have hD9 := hD.sub (ws' := [(h0, .inr (7, [.ref q0, .int 0])), (q0, .inl (cy 0, 24, .inl (fun _ => 0)))]) [0, 1] (by decide) rfl
  exact W.vret X.1 X.2.1 hr (fun t ht hW => ⟨⟨(fun i => match i with | 0 => q0 | _ => 0), rfl, trivial, by rw [ht]; exact hP9, hD9⟩, hS.F ht⟩) hS.2.2 dX7_init_12 hlk

abbrev RM_X1_init : Room := { frames := 1, cells := 3, slots := 234, locals := 12 }
theorem iw_X1_init_1 : ∀ w ∈ wsX10, w ∈ wsX1_init := fun w h => List.mem_cons_of_mem _ (List.mem_append_right _ (h))
abbrev cw_X1_init (cy : Nat → ClassId) (h0 : Nat) (u : Nat → Nat) : va_W := [(h0, .inr (1, [.ref (u 0), .ref (u 1), .ref (u 2), .int 0, .int 0, .int 0, .int 0])), ((u 0), .inl (cy 0, 26, .inl (fun _ => 0))), ((u 1), .inl (cy 0, 104, .inl (fun _ => 0))), ((u 2), .inl (cy 0, 104, .inl (fun _ => 0)))]
set_option maxHeartbeats 8000000 in
set_option maxRecDepth 100000 in
theorem ci_X1_init (l : Launch) (D : va_G) (cy : Nat → ClassId) (h0 sz : Nat) : Met l yX1_init wsX1_init RM_X1_init (va_Pc [.ref h0] (tn_b D cy sz [(h0, .inr (1, [.null, .null, .null, .int 0, .int 0, .int 0, .int 0]))])) (va_Qv (fun _ : Nat → Nat => True) (fun u t => tn_z D (va_A [(h0, .inr (1, [.null, .null, .null, .int 0, .int 0, .int 0, .int 0]))] sz) (cw_X1_init cy h0 u) t) (va_A [(h0, .inr (1, [.null, .null, .null, .int 0, .int 0, .int 0, .int 0]))] sz)) 3 234 (va_A [(h0, .inr (1, [.null, .null, .null, .int 0, .int 0, .int 0, .int 0]))] sz) := by
  refine Met.ofW (cc := cX1_init) (maxL := 1) (ret := none) (by decide) rfl ?_
  intro p e s m args below meth c s₁ B hml hv
  obtain ⟨rfl, hsz, hP, hK, hD0⟩ := hv
  subst hsz
  have hr := B.returns
  have hlk := B.notSynchronized
  have hin : meth.name = "<init>" := (name_of_methodNamed B.named B.method).1
  have X : CallFix p m c cX1_init 1 s _ wsX1_init RX1 := ⟨B.exec, B.bytes, hml, findClass_of_methodNamed B.named, atoms_spec (ws := wsX1_init) B.pre⟩
  have hD := hD0.self (sz := s.heap.size)
  generalize hAe : va_A [(h0, .inr (1, [.null, .null, .null, .int 0, .int 0, .int 0, .int 0]))] s.heap.size = A at hD ⊢
  have hA : ∀ q : Nat, s.heap.size ≤ q → A q := fun q h => by rw [← hAe]; exact Or.inr h
  have hS : va_S A s.heap s.heap [] := va_S.rf
  have hl := lv_entry ([.ref h0]) (n := 1) (Nat.le_of_ble_eq_true rfl)
  rw [lg_entry_eq]
  generalize (lg_sl ([.ref h0]) ++ List.replicate (1 - (lg_sl ([.ref h0])).length) Slot.unset).toArray = ls at hl ⊢
  have hl : lv_has ls 1 [(0, .ref h0)] := hl
  refine lv_aload_n X.1 X.2.1 dX1_init_0 rfl (lv_at hl 0 rfl) ?_
  refine W.objInit X.1 X.2.1 X.2.2.2.1 (X.2.2.2.2 _ (List.mem_of_getElem? (i := 1) rfl)) (X.2.2.2.2 _ (List.mem_of_getElem? (i := 2) rfl)) (X.2.2.2.2 _ (List.mem_of_getElem? (i := 3) rfl)) rfl (by rw [hml]; exact hl.1) rfl dX1_init_1 (Nat.le_of_ble_eq_true rfl) (Nat.le_of_ble_eq_true rfl) ?_
  refine W.eq (g2 := F0 m 4 ls []) rfl ?_
  refine lv_aload_n X.1 X.2.1 dX1_init_4 rfl (lv_at hl 0 rfl) ?_
  refine lv_bipush (v := 26) X.1 X.2.1 dX1_init_5 (by decide) ?_
  refine tn_newa (atype := .int) (a0 := (26, .inl (fun _ => 0))) X hK hP hD hS hA rfl (List.mem_of_getElem? (i := 4) rfl) 0 rfl (fun _ h => h) (fun _ => rfl) (by decide) (by decide) (Nat.le_of_ble_eq_true rfl) (Nat.le_of_ble_eq_true rfl) (Nat.le_of_ble_eq_true rfl) dX1_init_7 (fun q0 H hP hD hS => ?_)
  have hP : va_P D vwCl [(h0, .inr (1, [.null, .null, .null, .int 0, .int 0, .int 0, .int 0])), (q0, .inl (cy 0, 26, .inl (fun _ => 0)))] H := hP
  have hD : va_D A [(h0, .inr (1, [.null, .null, .null, .int 0, .int 0, .int 0, .int 0])), (q0, .inl (cy 0, 26, .inl (fun _ => 0)))] := hD
  refine W.widen (k := 1) (n := 26) (Nat.le_of_ble_eq_true rfl) (Nat.le_of_ble_eq_true rfl) ?_
  refine va_putF (D := D) (ci := 1) (v := (.ref q0)) (ty := (.array .int)) (C := RX1) (T := TX1) (N := 7) X.1 X.2.1 X.2.2.2.2 iw_X1_init_1 tyX1 tyX1_ok nmX1 X.2.2.2.1 hK.1.1 hP hD hS 0 rfl rfl 0 (by decide) (X.2.2.2.2 _ (List.mem_of_getElem? (i := 5) rfl)) (fun _ h9 => h9) rfl hin rfl (by decide +kernel) rfl rfl (Nat.le_of_ble_eq_true rfl) dX1_init_9 (fun H locs hP hD hS => ?_)
  have hP : va_P D vwCl [(h0, .inr (1, [.ref q0, .null, .null, .int 0, .int 0, .int 0, .int 0])), (q0, .inl (cy 0, 26, .inl (fun _ => 0)))] H := hP
  have hD : va_D A [(h0, .inr (1, [.ref q0, .null, .null, .int 0, .int 0, .int 0, .int 0])), (q0, .inl (cy 0, 26, .inl (fun _ => 0)))] := hD
  refine lv_aload_n X.1 X.2.1 dX1_init_12 rfl (lv_at hl 0 rfl) ?_
  refine lv_bipush (v := 104) X.1 X.2.1 dX1_init_13 (by decide) ?_
  refine tn_newa (atype := .int) (a0 := (104, .inl (fun _ => 0))) X hK hP hD hS hA rfl (List.mem_of_getElem? (i := 4) rfl) 0 rfl (fun _ h => h) (fun _ => rfl) (by decide) (by decide) (Nat.le_of_ble_eq_true rfl) (Nat.le_of_ble_eq_true rfl) (Nat.le_of_ble_eq_true rfl) dX1_init_15 (fun q1 H hP hD hS => ?_)
  have hP : va_P D vwCl [(h0, .inr (1, [.ref q0, .null, .null, .int 0, .int 0, .int 0, .int 0])), (q0, .inl (cy 0, 26, .inl (fun _ => 0))), (q1, .inl (cy 0, 104, .inl (fun _ => 0)))] H := hP
  have hD : va_D A [(h0, .inr (1, [.ref q0, .null, .null, .int 0, .int 0, .int 0, .int 0])), (q0, .inl (cy 0, 26, .inl (fun _ => 0))), (q1, .inl (cy 0, 104, .inl (fun _ => 0)))] := hD
  refine W.widen (k := 2) (n := 130) (Nat.le_of_ble_eq_true rfl) (Nat.le_of_ble_eq_true rfl) ?_
  refine va_putF (D := D) (ci := 1) (v := (.ref q1)) (ty := (.array .int)) (C := RX1) (T := TX1) (N := 7) X.1 X.2.1 X.2.2.2.2 iw_X1_init_1 tyX1 tyX1_ok nmX1 X.2.2.2.1 hK.1.1 hP hD hS 0 rfl rfl 1 (by decide) (X.2.2.2.2 _ (List.mem_of_getElem? (i := 6) rfl)) (fun _ h9 => h9) rfl hin rfl (by decide +kernel) rfl rfl (Nat.le_of_ble_eq_true rfl) dX1_init_17 (fun H locs hP hD hS => ?_)
  have hP : va_P D vwCl [(h0, .inr (1, [.ref q0, .ref q1, .null, .int 0, .int 0, .int 0, .int 0])), (q0, .inl (cy 0, 26, .inl (fun _ => 0))), (q1, .inl (cy 0, 104, .inl (fun _ => 0)))] H := hP
  have hD : va_D A [(h0, .inr (1, [.ref q0, .ref q1, .null, .int 0, .int 0, .int 0, .int 0])), (q0, .inl (cy 0, 26, .inl (fun _ => 0))), (q1, .inl (cy 0, 104, .inl (fun _ => 0)))] := hD
  refine lv_aload_n X.1 X.2.1 dX1_init_20 rfl (lv_at hl 0 rfl) ?_
  refine lv_bipush (v := 104) X.1 X.2.1 dX1_init_21 (by decide) ?_
  refine tn_newa (atype := .int) (a0 := (104, .inl (fun _ => 0))) X hK hP hD hS hA rfl (List.mem_of_getElem? (i := 4) rfl) 0 rfl (fun _ h => h) (fun _ => rfl) (by decide) (by decide) (Nat.le_of_ble_eq_true rfl) (Nat.le_of_ble_eq_true rfl) (Nat.le_of_ble_eq_true rfl) dX1_init_23 (fun q2 H hP hD hS => ?_)
  have hP : va_P D vwCl [(h0, .inr (1, [.ref q0, .ref q1, .null, .int 0, .int 0, .int 0, .int 0])), (q0, .inl (cy 0, 26, .inl (fun _ => 0))), (q1, .inl (cy 0, 104, .inl (fun _ => 0))), (q2, .inl (cy 0, 104, .inl (fun _ => 0)))] H := hP
  have hD : va_D A [(h0, .inr (1, [.ref q0, .ref q1, .null, .int 0, .int 0, .int 0, .int 0])), (q0, .inl (cy 0, 26, .inl (fun _ => 0))), (q1, .inl (cy 0, 104, .inl (fun _ => 0))), (q2, .inl (cy 0, 104, .inl (fun _ => 0)))] := hD
  refine W.widen (k := 3) (n := 234) (Nat.le_of_ble_eq_true rfl) (Nat.le_of_ble_eq_true rfl) ?_
  refine va_putF (D := D) (ci := 1) (v := (.ref q2)) (ty := (.array .int)) (C := RX1) (T := TX1) (N := 7) X.1 X.2.1 X.2.2.2.2 iw_X1_init_1 tyX1 tyX1_ok nmX1 X.2.2.2.1 hK.1.1 hP hD hS 0 rfl rfl 2 (by decide) (X.2.2.2.2 _ (List.mem_of_getElem? (i := 7) rfl)) (fun _ h9 => h9) rfl hin rfl (by decide +kernel) rfl rfl (Nat.le_of_ble_eq_true rfl) dX1_init_25 (fun H locs hP hD hS => ?_)
  have hP : va_P D vwCl [(h0, .inr (1, [.ref q0, .ref q1, .ref q2, .int 0, .int 0, .int 0, .int 0])), (q0, .inl (cy 0, 26, .inl (fun _ => 0))), (q1, .inl (cy 0, 104, .inl (fun _ => 0))), (q2, .inl (cy 0, 104, .inl (fun _ => 0)))] H := hP
  have hD : va_D A [(h0, .inr (1, [.ref q0, .ref q1, .ref q2, .int 0, .int 0, .int 0, .int 0])), (q0, .inl (cy 0, 26, .inl (fun _ => 0))), (q1, .inl (cy 0, 104, .inl (fun _ => 0))), (q2, .inl (cy 0, 104, .inl (fun _ => 0)))] := hD
  have hP9 := hP.sub (ws' := [(h0, .inr (1, [.ref q0, .ref q1, .ref q2, .int 0, .int 0, .int 0, .int 0])), (q0, .inl (cy 0, 26, .inl (fun _ => 0))), (q1, .inl (cy 0, 104, .inl (fun _ => 0))), (q2, .inl (cy 0, 104, .inl (fun _ => 0)))]) [0, 1, 2, 3] rfl
  have hD9 := hD.sub (ws' := [(h0, .inr (1, [.ref q0, .ref q1, .ref q2, .int 0, .int 0, .int 0, .int 0])), (q0, .inl (cy 0, 26, .inl (fun _ => 0))), (q1, .inl (cy 0, 104, .inl (fun _ => 0))), (q2, .inl (cy 0, 104, .inl (fun _ => 0)))]) [0, 1, 2, 3] (by decide) rfl
  exact W.vret X.1 X.2.1 hr (fun t ht hW => ⟨⟨(fun i => match i with | 0 => q0 | 1 => q1 | 2 => q2 | _ => 0), rfl, trivial, by rw [ht]; exact hP9, hD9⟩, hS.F ht⟩) hS.2.2 dX1_init_28 hlk
