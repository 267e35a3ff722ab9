abbrev RM_X9_wipes : Room := { frames := 0, cells := 0, slots := 0, locals := 0 }
theorem iw_X9_wipes_9 : ∀ w ∈ wsX90, w ∈ wsX9_wipes := fun w h => List.mem_cons_of_mem _ (List.mem_append_right _ (h))
def wl_X9_wipes_12 (g : tw_G) (a0 : Nat) (x1 : Int32) (Q : tw_S → Prop) (k38 : tw_S → Prop) : Nat → Int32 → tw_S → Prop
  | 0, _, _ => False
  | n + 1, x3, σ => (((16 : Int32) ≤ x3) → k38  σ) ∧ (¬ ((16 : Int32) ≤ x3) → vp_in ((((17 : Int32) * x1) + (1 : Int32)) + x3) 34 ∧ ∀ σ5, σ5 = (tw_sA σ (tw_R g a0 0) (upd (tw_A σ (tw_R g a0 0)) ((((17 : Int32) * x1) + (1 : Int32)) + x3).toNatClampNeg (-1 : Int32))) → wl_X9_wipes_12 g a0 x1 Q k38 n (x3 + 1) σ5)
def wp_X9_wipes (g : tw_G) (σ : tw_S) (a0 : Nat) (x1 : Int32) (x2 : Int32) (Q : tw_S → Prop) : Prop := vp_in ((17 : Int32) * x1) 34 ∧ ∀ σ2, σ2 = (tw_sA σ (tw_R g a0 0) (upd (tw_A σ (tw_R g a0 0)) ((17 : Int32) * x1).toNatClampNeg x2)) → ∃ n12, wl_X9_wipes_12 g a0 x1 Q (fun σ6 => Q σ6) n12 (0 : Int32) σ2
set_option maxHeartbeats 4000000 in
set_option maxRecDepth 100000 in
theorem lp_X9_wipes_12 {p : Program} {l : Launch} {e : Env} {s : State} {m : MethodId} {args : Array Value} {below : List Frame} {meth : Method} {c : Code} {D : va_G} {g : tw_G} (X : CallFix p m c cX9_wipes 4 s args wsX9_wipes RX9) (hr : meth.sig.returnType = none) (hlk : meth.locks = false) (hK : tw_k D g s) (hT : tw_T g) {a0 : Nat} {x1 : Int32} (h0 : tw_is g 9 a0) {Q : tw_S → Prop} {k38 : tw_S → Prop}
    (hk38 : ∀  (σ : tw_S) (H : Heap) (locs : List Loc) (ls : Array Slot), k38  σ → tw_w D g (tw_F g s.heap.size) s σ H locs → lv_has ls 4 [] → W p l e RM_X9_wipes s m args below meth c H locs 0 0 (tw_Qv Q D g below args s) (F0 m 38 ls []))
    : ∀ (n : Nat) (x3 : Int32) (σ : tw_S) (H : Heap) (locs : List Loc) (ls : Array Slot), wl_X9_wipes_12 g a0 x1 Q k38 n x3 σ → tw_w D g (tw_F g s.heap.size) s σ H locs → lv_has ls 4 [(0, .ref a0), (1, .int x1), (3, .int x3)] → W p l e RM_X9_wipes s m args below meth c H locs 0 0 (tw_Qv Q D g below args s) (F0 m 12 ls []) := by
  intro n
  induction n with
  | zero =>
    intro x3 σ H locs ls h w hl
    exact False.elim h
  | succ n ih =>
    intro x3 σ H locs ls h w hl
    rw [wl_X9_wipes_12] at h
    refine lv_iload_n X.1 X.2.1 dX9_wipes_12 rfl (lv_at hl 2 rfl) ?_
    refine lv_bipush (v := 16) X.1 X.2.1 dX9_wipes_13 (by decide) ?_
    refine lv_icmp_ge (tgt := 38) X.1 X.2.1 dX9_wipes_15 (by decide) (fun c3 => ?_) (fun c3 => ?_)
    · have h := h.1 c3
      exact hk38  σ _ _ ls h w (lv_sub hl [] rfl)
    · have h := h.2 c3
      refine lv_aload_n X.1 X.2.1 dX9_wipes_18 rfl (lv_at hl 0 rfl) ?_
      refine tw_get X hK w 9 iw_X9_wipes_9 h0 (by decide) rfl 0 (by decide) (List.mem_of_getElem? (i := 1) rfl) rfl dX9_wipes_19 ?_
      refine lv_bipush (v := 17) X.1 X.2.1 dX9_wipes_22 (by decide) ?_
      refine lv_iload_n X.1 X.2.1 dX9_wipes_24 rfl (lv_at hl 1 rfl) ?_
      refine lv_imul X.1 X.2.1 dX9_wipes_25 ?_
      refine lv_iconst (v := 1) X.1 X.2.1 dX9_wipes_26 (by decide) ?_
      refine lv_iadd X.1 X.2.1 dX9_wipes_27 ?_
      refine lv_iload_n X.1 X.2.1 dX9_wipes_28 rfl (lv_at hl 2 rfl) ?_
      refine lv_iadd X.1 X.2.1 dX9_wipes_29 ?_
      refine lv_iconst (v := -1) X.1 X.2.1 dX9_wipes_30 (by decide) ?_
      obtain ⟨hi4, h⟩ := h
      refine tw_iast X hK w (tw_t_9_0 hT h0) (tw_n_9_0 hT h0) hi4 dX9_wipes_31 (fun σ5 H locs eσ5 w => ?_)
      have h := h _ eσ5
      refine lv_iinc (v := (x3 + 1)) (lv' := [(3, .int (x3 + 1)), (0, .ref a0), (1, .int x1)]) X.1 X.2.1 dX9_wipes_32 hl (k := 2) rfl rfl (by decide) rfl (fun ls hl => ?_)
      refine lv_goto (tgt := 12) X.1 X.2.1 dX9_wipes_35 (by decide) ?_
      exact ih (x3 + 1) σ5 _ _ ls h w (lv_sub hl [1, 2, 0] rfl)
set_option maxHeartbeats 4000000 in
set_option maxRecDepth 100000 in
theorem ct_X9_wipes (l : Launch) (D : va_G) (g : tw_G) (hT : tw_T g) (sz : Nat) (σ : tw_S) (a0 : Nat) (h0 : tw_is g 9 a0) (x1 : Int32) (x2 : Int32) (Q : tw_S → Prop) (h : wp_X9_wipes g σ a0 x1 x2 Q) : tw_Mv l yX9_wipes wsX9_wipes RM_X9_wipes D g sz σ [.ref a0, .int x1, .int x2] Q := by
  refine Met.ofW (cc := cX9_wipes) (maxL := 4) (ret := none) (by decide) rfl ?_
  intro p e s m args below meth c s₁ B hml hv
  obtain ⟨rfl, hsz, hP, hK, hD0⟩ := hv
  subst hsz
  have hr := B.returns
  have hlk := B.notSynchronized
  have X : CallFix p m c cX9_wipes 4 s _ wsX9_wipes RX9 := ⟨B.exec, B.bytes, hml, findClass_of_methodNamed B.named, atoms_spec (ws := wsX9_wipes) B.pre⟩
  have w := tw_w0 hP hD0
  have hl := lv_entry ([.ref a0, .int x1, .int x2]) (n := 4) (Nat.le_of_ble_eq_true rfl)
  rw [lg_entry_eq]
  generalize (lg_sl ([.ref a0, .int x1, .int x2]) ++ List.replicate (4 - (lg_sl ([.ref a0, .int x1, .int x2])).length) Slot.unset).toArray = ls at hl ⊢
  have hl : lv_has ls 4 [(0, .ref a0), (1, .int x1), (2, .int x2)] := hl
  unfold wp_X9_wipes at h
  refine lv_aload_n X.1 X.2.1 dX9_wipes_0 rfl (lv_at hl 0 rfl) ?_
  refine tw_get X hK w 9 iw_X9_wipes_9 h0 (by decide) rfl 0 (by decide) (List.mem_of_getElem? (i := 1) rfl) rfl dX9_wipes_1 ?_
  refine lv_bipush (v := 17) X.1 X.2.1 dX9_wipes_4 (by decide) ?_
  refine lv_iload_n X.1 X.2.1 dX9_wipes_6 rfl (lv_at hl 1 rfl) ?_
  refine lv_imul X.1 X.2.1 dX9_wipes_7 ?_
  refine lv_iload_n X.1 X.2.1 dX9_wipes_8 rfl (lv_at hl 2 rfl) ?_
  obtain ⟨hi1, h⟩ := h
  refine tw_iast X hK w (tw_t_9_0 hT h0) (tw_n_9_0 hT h0) hi1 dX9_wipes_9 (fun σ2 H locs eσ2 w => ?_)
  have h := h _ eσ2
  refine lv_iconst (v := 0) X.1 X.2.1 dX9_wipes_10 (by decide) ?_
  refine lv_istore_n (lv' := [(3, .int (0 : Int32)), (0, .ref a0), (1, .int x1), (2, .int x2)]) X.1 X.2.1 dX9_wipes_11 rfl hl (by decide) rfl (fun ls hl => ?_)
  have hl := lv_sub (l' := [(3, .int (0 : Int32)), (0, .ref a0), (1, .int x1)]) hl [0, 1, 2] rfl
  obtain ⟨n12, h⟩ := h
  refine lp_X9_wipes_12 X hr hlk hK hT h0 (fun σ6 H locs ls h w hl => ?_) n12 (0 : Int32) σ2 _ _ ls h w (lv_sub hl [1, 2, 0] rfl)
  · skip
    exact tw_vret X hr hlk w h dX9_wipes_38

abbrev RM_X9_isMachine : Room := { frames := 1, cells := 0, slots := 0, locals := 25 }
def wp_X9_isMachine (g : tw_G) (σ : tw_S) (x0 : Int32) (Q : Int32 → tw_S → Prop) : Prop := wp_X9_in g σ (x0.toInt64) (0 : Int64) (1 : Int64) (fun r2 σ1 => narrow .boolean (.int r2) = .int r2 ∧ Q r2 σ1)
set_option maxHeartbeats 4000000 in
set_option maxRecDepth 100000 in
theorem ct_X9_isMachine (l : Launch) (D : va_G) (g : tw_G) (hT : tw_T g) (sz : Nat) (σ : tw_S) (x0 : Int32) (Q : Int32 → tw_S → Prop) (h : wp_X9_isMachine g σ x0 Q) : tw_Mi l yX9_isMachine wsX9_isMachine RM_X9_isMachine D g sz σ [.int x0] Q := by
  refine Met.ofW (cc := cX9_isMachine) (maxL := 1) (ret := (some .boolean)) (by decide) rfl ?_
  intro p e s m args below meth c s₁ B hml hv
  obtain ⟨rfl, hsz, hP, hK, hD0⟩ := hv
  subst hsz
  have hr := B.returns
  have hlk := B.notSynchronized
  have X : CallFix p m c cX9_isMachine 1 s _ wsX9_isMachine RX9 := ⟨B.exec, B.bytes, hml, findClass_of_methodNamed B.named, atoms_spec (ws := wsX9_isMachine) B.pre⟩
  have w := tw_w0 hP hD0
  have hl := lv_entry ([.int x0]) (n := 1) (Nat.le_of_ble_eq_true rfl)
  rw [lg_entry_eq]
  generalize (lg_sl ([.int x0]) ++ List.replicate (1 - (lg_sl ([.int x0])).length) Slot.unset).toArray = ls at hl ⊢
  have hl : lv_has ls 1 [(0, .int x0)] := hl
  unfold wp_X9_isMachine at h
  refine lv_iload_n X.1 X.2.1 dX9_isMachine_0 rfl (lv_at hl 0 rfl) ?_
  refine lv_i2l (v := (x0.toInt64)) X.1 X.2.1 dX9_isMachine_1 rfl ?_
  refine lv_lconst (v := 0) X.1 X.2.1 dX9_isMachine_2 (by decide) ?_
  refine lv_lconst (v := 1) X.1 X.2.1 dX9_isMachine_3 (by decide) ?_
  refine tw_ci w (va_runS (As := [.long (x0.toInt64), .long (0 : Int64), .long (1 : Int64)]) (rest := []) X (ct_X9_in l D g hT _ σ (x0.toInt64) (0 : Int64) (1 : Int64) _ h) (va_cwS 3 X.2.2.2.2 gX9_isMachine_X9_in rfl rfl rfl (by decide +kernel) ⟨Nat.le_of_ble_eq_true rfl, Nat.le_of_ble_eq_true rfl⟩) (tw_pre hK w [.long (x0.toInt64), .long (0 : Int64), .long (1 : Int64)]) rfl rfl hl.1 rfl (lv_room (Nat.le_of_ble_eq_true rfl)) dX9_isMachine_4 ⟨Nat.zero_le _, Nat.zero_le _⟩) (fun r2 σ1 H locs h w => ?_)
  exact tw_zret X hr hlk w h.1 h.2 dX9_isMachine_7

abbrev RM_X9_states0 : Room := { frames := 0, cells := 0, slots := 0, locals := 0 }
theorem iw_X9_states0_9 : ∀ w ∈ wsX90, w ∈ wsX9_states0 := fun w h => List.mem_cons_of_mem _ (List.mem_append_right _ (h))
def wp_X9_states0 (g : tw_G) (σ : tw_S) (a0 : Nat) (x1 : Int32) (Q : Int32 → tw_S → Prop) : Prop := vp_in ((17 : Int32) * x1) 34 ∧ Q (tw_A σ (tw_R g a0 0) ((17 : Int32) * x1).toNatClampNeg) σ
set_option maxHeartbeats 4000000 in
set_option maxRecDepth 100000 in
theorem ct_X9_states0 (l : Launch) (D : va_G) (g : tw_G) (hT : tw_T g) (sz : Nat) (σ : tw_S) (a0 : Nat) (h0 : tw_is g 9 a0) (x1 : Int32) (Q : Int32 → tw_S → Prop) (h : wp_X9_states0 g σ a0 x1 Q) : tw_Mi l yX9_states0 wsX9_states0 RM_X9_states0 D g sz σ [.ref a0, .int x1] Q := by
  refine Met.ofW (cc := cX9_states0) (maxL := 2) (ret := (some .int)) (by decide) rfl ?_
  intro p e s m args below meth c s₁ B hml hv
  obtain ⟨rfl, hsz, hP, hK, hD0⟩ := hv
  subst hsz
  have hr := B.returns
  have hlk := B.notSynchronized
  have X : CallFix p m c cX9_states0 2 s _ wsX9_states0 RX9 := ⟨B.exec, B.bytes, hml, findClass_of_methodNamed B.named, atoms_spec (ws := wsX9_states0) B.pre⟩
  have w := tw_w0 hP hD0
  have hl := lv_entry ([.ref a0, .int x1]) (n := 2) (Nat.le_of_ble_eq_true rfl)
  rw [lg_entry_eq]
  generalize (lg_sl ([.ref a0, .int x1]) ++ List.replicate (2 - (lg_sl ([.ref a0, .int x1])).length) Slot.unset).toArray = ls at hl ⊢
  have hl : lv_has ls 2 [(0, .ref a0), (1, .int x1)] := hl
  unfold wp_X9_states0 at h
  refine lv_aload_n X.1 X.2.1 dX9_states0_0 rfl (lv_at hl 0 rfl) ?_
  refine tw_get X hK w 9 iw_X9_states0_9 h0 (by decide) rfl 0 (by decide) (List.mem_of_getElem? (i := 1) rfl) rfl dX9_states0_1 ?_
  refine lv_bipush (v := 17) X.1 X.2.1 dX9_states0_4 (by decide) ?_
  refine lv_iload_n X.1 X.2.1 dX9_states0_6 rfl (lv_at hl 1 rfl) ?_
  refine lv_imul X.1 X.2.1 dX9_states0_7 ?_
  obtain ⟨hi1, h⟩ := h
  refine tw_iald X hK w (tw_t_9_0 hT h0) (tw_n_9_0 hT h0) hi1 dX9_states0_8 ?_
  exact tw_iret X hr hlk w h dX9_states0_9

abbrev RM_X9_isState : Room := { frames := 1, cells := 0, slots := 0, locals := 25 }
def wp_X9_isState (g : tw_G) (σ : tw_S) (a0 : Nat) (x1 : Int32) (x2 : Int32) (Q : Int32 → tw_S → Prop) : Prop := wp_X9_states0 g σ a0 x1 (fun r2 σ1 => wp_X9_in g σ1 (x2.toInt64) (0 : Int64) ((r2 - (1 : Int32)).toInt64) (fun r4 σ3 => narrow .boolean (.int r4) = .int r4 ∧ Q r4 σ3))
set_option maxHeartbeats 4000000 in
set_option maxRecDepth 100000 in
theorem ct_X9_isState (l : Launch) (D : va_G) (g : tw_G) (hT : tw_T g) (sz : Nat) (σ : tw_S) (a0 : Nat) (h0 : tw_is g 9 a0) (x1 : Int32) (x2 : Int32) (Q : Int32 → tw_S → Prop) (h : wp_X9_isState g σ a0 x1 x2 Q) : tw_Mi l yX9_isState wsX9_isState RM_X9_isState D g sz σ [.ref a0, .int x1, .int x2] Q := by
  refine Met.ofW (cc := cX9_isState) (maxL := 3) (ret := (some .boolean)) (by decide) rfl ?_
  intro p e s m args below meth c s₁ B hml hv
  obtain ⟨rfl, hsz, hP, hK, hD0⟩ := hv
  subst hsz
  have hr := B.returns
  have hlk := B.notSynchronized
  have X : CallFix p m c cX9_isState 3 s _ wsX9_isState RX9 := ⟨B.exec, B.bytes, hml, findClass_of_methodNamed B.named, atoms_spec (ws := wsX9_isState) B.pre⟩
  have w := tw_w0 hP hD0
  have hl := lv_entry ([.ref a0, .int x1, .int x2]) (n := 3) (Nat.le_of_ble_eq_true rfl)
  rw [lg_entry_eq]
  generalize (lg_sl ([.ref a0, .int x1, .int x2]) ++ List.replicate (3 - (lg_sl ([.ref a0, .int x1, .int x2])).length) Slot.unset).toArray = ls at hl ⊢
  have hl : lv_has ls 3 [(0, .ref a0), (1, .int x1), (2, .int x2)] := hl
  unfold wp_X9_isState at h
  refine lv_iload_n X.1 X.2.1 dX9_isState_0 rfl (lv_at hl 2 rfl) ?_
  refine lv_i2l (v := (x2.toInt64)) X.1 X.2.1 dX9_isState_1 rfl ?_
  refine lv_lconst (v := 0) X.1 X.2.1 dX9_isState_2 (by decide) ?_
  refine lv_aload_n X.1 X.2.1 dX9_isState_3 rfl (lv_at hl 0 rfl) ?_
  refine lv_iload_n X.1 X.2.1 dX9_isState_4 rfl (lv_at hl 1 rfl) ?_
  refine tw_ci w (va_runV (As := [.int x1]) (rest := [.long (0 : Int64), .long (x2.toInt64)]) X (ct_X9_states0 l D g hT _ σ a0 h0 x1 _ h) (cwV 1 X.2.2.2.2 gX9_isState_X9_states0 rfl rfl rfl (by decide +kernel) ⟨Nat.le_of_ble_eq_true rfl, Nat.le_of_ble_eq_true rfl⟩) (tw_preV hK w h0 (by decide) rfl [.int x1]) rfl rfl hl.1 rfl (lv_room (Nat.le_of_ble_eq_true rfl)) dX9_isState_5 ⟨Nat.zero_le _, Nat.zero_le _⟩) (fun r2 σ1 H locs h w => ?_)
  refine lv_iconst (v := 1) X.1 X.2.1 dX9_isState_8 (by decide) ?_
  refine lv_isub X.1 X.2.1 dX9_isState_9 ?_
  refine lv_i2l (v := ((r2 - (1 : Int32)).toInt64)) X.1 X.2.1 dX9_isState_10 rfl ?_
  refine tw_ci w (va_runS (As := [.long (x2.toInt64), .long (0 : Int64), .long ((r2 - (1 : Int32)).toInt64)]) (rest := []) X (ct_X9_in l D g hT _ σ1 (x2.toInt64) (0 : Int64) ((r2 - (1 : Int32)).toInt64) _ h) (va_cwS 3 X.2.2.2.2 gX9_isState_X9_in rfl rfl rfl (by decide +kernel) ⟨Nat.le_of_ble_eq_true rfl, Nat.le_of_ble_eq_true rfl⟩) (tw_pre hK w [.long (x2.toInt64), .long (0 : Int64), .long ((r2 - (1 : Int32)).toInt64)]) rfl rfl hl.1 rfl (lv_room (Nat.le_of_ble_eq_true rfl)) dX9_isState_11 ⟨Nat.zero_le _, Nat.zero_le _⟩) (fun r4 σ3 H locs h w => ?_)
  exact tw_zret X hr hlk w h.1 h.2 dX9_isState_14

abbrev RM_X9_moveAt : Room := { frames := 0, cells := 0, slots := 0, locals := 0 }
theorem iw_X9_moveAt_9 : ∀ w ∈ wsX90, w ∈ wsX9_moveAt := fun w h => List.mem_cons_of_mem _ (List.mem_append_right _ (h))
def wp_X9_moveAt (g : tw_G) (σ : tw_S) (a0 : Nat) (x1 : Int32) (x2 : Int32) (x3 : Int32) (Q : Int32 → tw_S → Prop) : Prop := vp_in (((((17 : Int32) * x1) + (1 : Int32)) + ((4 : Int32) * x2)) + x3) 34 ∧ Q (tw_A σ (tw_R g a0 0) (((((17 : Int32) * x1) + (1 : Int32)) + ((4 : Int32) * x2)) + x3).toNatClampNeg) σ
set_option maxHeartbeats 4000000 in
set_option maxRecDepth 100000 in
theorem ct_X9_moveAt (l : Launch) (D : va_G) (g : tw_G) (hT : tw_T g) (sz : Nat) (σ : tw_S) (a0 : Nat) (h0 : tw_is g 9 a0) (x1 : Int32) (x2 : Int32) (x3 : Int32) (Q : Int32 → tw_S → Prop) (h : wp_X9_moveAt g σ a0 x1 x2 x3 Q) : tw_Mi l yX9_moveAt wsX9_moveAt RM_X9_moveAt D g sz σ [.ref a0, .int x1, .int x2, .int x3] Q := by
  refine Met.ofW (cc := cX9_moveAt) (maxL := 4) (ret := (some .int)) (by decide) rfl ?_
  intro p e s m args below meth c s₁ B hml hv
  obtain ⟨rfl, hsz, hP, hK, hD0⟩ := hv
  subst hsz
  have hr := B.returns
  have hlk := B.notSynchronized
  have X : CallFix p m c cX9_moveAt 4 s _ wsX9_moveAt RX9 := ⟨B.exec, B.bytes, hml, findClass_of_methodNamed B.named, atoms_spec (ws := wsX9_moveAt) B.pre⟩
  have w := tw_w0 hP hD0
  have hl := lv_entry ([.ref a0, .int x1, .int x2, .int x3]) (n := 4) (Nat.le_of_ble_eq_true rfl)
  rw [lg_entry_eq]
  generalize (lg_sl ([.ref a0, .int x1, .int x2, .int x3]) ++ List.replicate (4 - (lg_sl ([.ref a0, .int x1, .int x2, .int x3])).length) Slot.unset).toArray = ls at hl ⊢
  have hl : lv_has ls 4 [(0, .ref a0), (1, .int x1), (2, .int x2), (3, .int x3)] := hl
  unfold wp_X9_moveAt at h
  refine lv_aload_n X.1 X.2.1 dX9_moveAt_0 rfl (lv_at hl 0 rfl) ?_
  refine tw_get X hK w 9 iw_X9_moveAt_9 h0 (by decide) rfl 0 (by decide) (List.mem_of_getElem? (i := 1) rfl) rfl dX9_moveAt_1 ?_
  refine lv_bipush (v := 17) X.1 X.2.1 dX9_moveAt_4 (by decide) ?_
  refine lv_iload_n X.1 X.2.1 dX9_moveAt_6 rfl (lv_at hl 1 rfl) ?_
  refine lv_imul X.1 X.2.1 dX9_moveAt_7 ?_
  refine lv_iconst (v := 1) X.1 X.2.1 dX9_moveAt_8 (by decide) ?_
  refine lv_iadd X.1 X.2.1 dX9_moveAt_9 ?_
  refine lv_iconst (v := 4) X.1 X.2.1 dX9_moveAt_10 (by decide) ?_
  refine lv_iload_n X.1 X.2.1 dX9_moveAt_11 rfl (lv_at hl 2 rfl) ?_
  refine lv_imul X.1 X.2.1 dX9_moveAt_12 ?_
  refine lv_iadd X.1 X.2.1 dX9_moveAt_13 ?_
  refine lv_iload_n X.1 X.2.1 dX9_moveAt_14 rfl (lv_at hl 3 rfl) ?_
  refine lv_iadd X.1 X.2.1 dX9_moveAt_15 ?_
  obtain ⟨hi1, h⟩ := h
  refine tw_iald X hK w (tw_t_9_0 hT h0) (tw_n_9_0 hT h0) hi1 dX9_moveAt_16 ?_
  exact tw_iret X hr hlk w h dX9_moveAt_17

abbrev RM_X9_feed : Room := { frames := 1, cells := 0, slots := 0, locals := 25 }
theorem iw_X9_feed_9 : ∀ w ∈ wsX90, w ∈ wsX9_feed := fun w h => List.mem_cons_of_mem _ (List.mem_append_right _ (h))
def wp_X9_feed (g : tw_G) (σ : tw_S) (a0 : Nat) (x1 : Int32) (Q : Int32 → tw_S → Prop) : Prop := wp_X9_in g σ (x1.toInt64) (0 : Int64) (255 : Int64) (fun r2 σ1 => ((¬ r2 = 0) → ((¬ (tw_I σ1 a0 2) = (240 : Int32)) → vp_in (tw_I σ1 a0 2) 240 ∧ ∀ σ6, σ6 = (tw_sA σ1 (tw_R g a0 1) (upd (tw_A σ1 (tw_R g a0 1)) (tw_I σ1 a0 2).toNatClampNeg x1)) → ∀ σ7, σ7 = (tw_sI σ6 a0 2 ((tw_I σ6 a0 2) + (1 : Int32))) → Q (tw_I σ7 a0 2) σ7) ∧ (((tw_I σ1 a0 2) = (240 : Int32)) → Q (-1000000004 : Int32) σ1)) ∧ ((r2 = 0) → Q (-1000000002 : Int32) σ1))
set_option maxHeartbeats 4000000 in
set_option maxRecDepth 100000 in
theorem ct_X9_feed (l : Launch) (D : va_G) (g : tw_G) (hT : tw_T g) (sz : Nat) (σ : tw_S) (a0 : Nat) (h0 : tw_is g 9 a0) (x1 : Int32) (Q : Int32 → tw_S → Prop) (h : wp_X9_feed g σ a0 x1 Q) : tw_Mi l yX9_feed wsX9_feed RM_X9_feed D g sz σ [.ref a0, .int x1] Q := by
  refine Met.ofW (cc := cX9_feed) (maxL := 2) (ret := (some .int)) (by decide) rfl ?_
  intro p e s m args below meth c s₁ B hml hv
  obtain ⟨rfl, hsz, hP, hK, hD0⟩ := hv
  subst hsz
  have hr := B.returns
  have hlk := B.notSynchronized
  have X : CallFix p m c cX9_feed 2 s _ wsX9_feed RX9 := ⟨B.exec, B.bytes, hml, findClass_of_methodNamed B.named, atoms_spec (ws := wsX9_feed) B.pre⟩
  have w := tw_w0 hP hD0
  have hl := lv_entry ([.ref a0, .int x1]) (n := 2) (Nat.le_of_ble_eq_true rfl)
  rw [lg_entry_eq]
  generalize (lg_sl ([.ref a0, .int x1]) ++ List.replicate (2 - (lg_sl ([.ref a0, .int x1])).length) Slot.unset).toArray = ls at hl ⊢
  have hl : lv_has ls 2 [(0, .ref a0), (1, .int x1)] := hl
  unfold wp_X9_feed at h
  refine lv_iload_n X.1 X.2.1 dX9_feed_0 rfl (lv_at hl 1 rfl) ?_
  refine lv_i2l (v := (x1.toInt64)) X.1 X.2.1 dX9_feed_1 rfl ?_
  refine lv_lconst (v := 0) X.1 X.2.1 dX9_feed_2 (by decide) ?_
  refine lv_ldc2 (own := RX9) (v := 255) X.1 X.2.1 X.2.2.2.1 (X.2.2.2.2 _ (List.mem_of_getElem? (i := 1) rfl)) dX9_feed_3 ?_
  refine tw_ci w (va_runS (As := [.long (x1.toInt64), .long (0 : Int64), .long (255 : Int64)]) (rest := []) X (ct_X9_in l D g hT _ σ (x1.toInt64) (0 : Int64) (255 : Int64) _ h) (va_cwS 3 X.2.2.2.2 gX9_feed_X9_in rfl rfl rfl (by decide +kernel) ⟨Nat.le_of_ble_eq_true rfl, Nat.le_of_ble_eq_true rfl⟩) (tw_pre hK w [.long (x1.toInt64), .long (0 : Int64), .long (255 : Int64)]) rfl rfl hl.1 rfl (lv_room (Nat.le_of_ble_eq_true rfl)) dX9_feed_6 ⟨Nat.zero_le _, Nat.zero_le _⟩) (fun r2 σ1 H locs h w => ?_)
  refine lv_if_ne (tgt := 15) X.1 X.2.1 dX9_feed_9 (by decide) (fun c3 => ?_) (fun c3 => ?_)
  · have h := h.1 c3
    refine lv_aload_n X.1 X.2.1 dX9_feed_15 rfl (lv_at hl 0 rfl) ?_
    refine tw_get X hK w 9 iw_X9_feed_9 h0 (by decide) rfl 2 (by decide) (List.mem_of_getElem? (i := 3) rfl) rfl dX9_feed_16 ?_
    refine lv_sipush (v := 240) X.1 X.2.1 dX9_feed_19 (by decide) ?_
    refine lv_icmp_ne (tgt := 28) X.1 X.2.1 dX9_feed_22 (by decide) (fun c4 => ?_) (fun c4 => ?_)
    · have h := h.1 c4
      refine lv_aload_n X.1 X.2.1 dX9_feed_28 rfl (lv_at hl 0 rfl) ?_
      refine tw_get X hK w 9 iw_X9_feed_9 h0 (by decide) rfl 1 (by decide) (List.mem_of_getElem? (i := 5) rfl) rfl dX9_feed_29 ?_
      refine lv_aload_n X.1 X.2.1 dX9_feed_32 rfl (lv_at hl 0 rfl) ?_
      refine tw_get X hK w 9 iw_X9_feed_9 h0 (by decide) rfl 2 (by decide) (List.mem_of_getElem? (i := 3) rfl) rfl dX9_feed_33 ?_
      refine lv_iload_n X.1 X.2.1 dX9_feed_36 rfl (lv_at hl 1 rfl) ?_
      obtain ⟨hi5, h⟩ := h
      refine tw_iast X hK w (tw_t_9_1 hT h0) (tw_n_9_1 hT h0) hi5 dX9_feed_37 (fun σ6 H locs eσ6 w => ?_)
      have h := h _ eσ6
      refine lv_aload_n X.1 X.2.1 dX9_feed_38 rfl (lv_at hl 0 rfl) ?_
      refine lv_dup X.1 X.2.1 dX9_feed_39 rfl ?_
      refine tw_get X hK w 9 iw_X9_feed_9 h0 (by decide) rfl 2 (by decide) (List.mem_of_getElem? (i := 3) rfl) rfl dX9_feed_40 ?_
      refine lv_iconst (v := 1) X.1 X.2.1 dX9_feed_43 (by decide) ?_
      refine lv_iadd X.1 X.2.1 dX9_feed_44 ?_
      refine tw_putI X hK w 9 iw_X9_feed_9 tyX9 tyX9_ok nmX9 h0 (by decide) rfl 2 (by decide) (List.mem_of_getElem? (i := 3) rfl) rfl (ty := .int) (by decide +kernel) rfl rfl (Nat.le_of_ble_eq_true rfl) (tw_f_9_2 g _ _ _) dX9_feed_45 (fun σ7 H locs eσ7 w => ?_)
      have h := h _ eσ7
      refine lv_aload_n X.1 X.2.1 dX9_feed_48 rfl (lv_at hl 0 rfl) ?_
      refine tw_get X hK w 9 iw_X9_feed_9 h0 (by decide) rfl 2 (by decide) (List.mem_of_getElem? (i := 3) rfl) rfl dX9_feed_49 ?_
      exact tw_iret X hr hlk w h dX9_feed_52
    · have h := h.2 c4
      refine lv_ldc (own := RX9) (v := -1000000004) X.1 X.2.1 X.2.2.2.1 (X.2.2.2.2 _ (List.mem_of_getElem? (i := 4) rfl)) dX9_feed_25 ?_
      exact tw_iret X hr hlk w h dX9_feed_27
  · have h := h.2 c3
    refine lv_ldc (own := RX9) (v := -1000000002) X.1 X.2.1 X.2.2.2.1 (X.2.2.2.2 _ (List.mem_of_getElem? (i := 2) rfl)) dX9_feed_12 ?_
    exact tw_iret X hr hlk w h dX9_feed_14

abbrev RM_X9_here : Room := { frames := 0, cells := 0, slots := 0, locals := 0 }
theorem iw_X9_here_9 : ∀ w ∈ wsX90, w ∈ wsX9_here := fun w h => List.mem_cons_of_mem _ (List.mem_append_right _ (h))
def wl_X9_here_0 (g : tw_G) (a0 : Nat) (Q : Int32 → tw_S → Prop) (k38 : tw_S → Prop) : Nat → tw_S → Prop
  | 0, _ => False
  | n + 1, σ => (((tw_I σ a0 2) ≤ (tw_I σ a0 3)) → k38  σ) ∧ (¬ ((tw_I σ a0 2) ≤ (tw_I σ a0 3)) → vp_in (tw_I σ a0 3) 240 ∧ ((¬ (tw_A σ (tw_R g a0 1) (tw_I σ a0 3).toNatClampNeg) = (32 : Int32)) → k38  σ) ∧ (((tw_A σ (tw_R g a0 1) (tw_I σ a0 3).toNatClampNeg) = (32 : Int32)) → ∀ σ4, σ4 = (tw_sI σ a0 3 ((tw_I σ a0 3) + (1 : Int32))) → wl_X9_here_0 g a0 Q k38 n  σ4))
def wp_X9_here (g : tw_G) (σ : tw_S) (a0 : Nat) (Q : Int32 → tw_S → Prop) : Prop := ∃ n0, wl_X9_here_0 g a0 Q (fun σ5 => (((tw_I σ5 a0 2) ≤ (tw_I σ5 a0 3)) → Q (-1 : Int32) σ5) ∧ (¬ ((tw_I σ5 a0 2) ≤ (tw_I σ5 a0 3)) → vp_in (tw_I σ5 a0 3) 240 ∧ Q (tw_A σ5 (tw_R g a0 1) (tw_I σ5 a0 3).toNatClampNeg) σ5)) n0  σ
set_option maxHeartbeats 4000000 in
set_option maxRecDepth 100000 in
theorem lp_X9_here_0 {p : Program} {l : Launch} {e : Env} {s : State} {m : MethodId} {args : Array Value} {below : List Frame} {meth : Method} {c : Code} {D : va_G} {g : tw_G} (X : CallFix p m c cX9_here 1 s args wsX9_here RX9) (hr : meth.sig.returnType = (some .int)) (hlk : meth.locks = false) (hK : tw_k D g s) (hT : tw_T g) {a0 : Nat} (h0 : tw_is g 9 a0) {Q : Int32 → tw_S → Prop} {k38 : tw_S → Prop}
    (hk38 : ∀  (σ : tw_S) (H : Heap) (locs : List Loc) (ls : Array Slot), k38  σ → tw_w D g (tw_F g s.heap.size) s σ H locs → lv_has ls 1 [(0, .ref a0)] → W p l e RM_X9_here s m args below meth c H locs 0 0 (tw_Qi Q D g below args s) (F0 m 38 ls []))
    : ∀ (n : Nat)  (σ : tw_S) (H : Heap) (locs : List Loc) (ls : Array Slot), wl_X9_here_0 g a0 Q k38 n  σ → tw_w D g (tw_F g s.heap.size) s σ H locs → lv_has ls 1 [(0, .ref a0)] → W p l e RM_X9_here s m args below meth c H locs 0 0 (tw_Qi Q D g below args s) (F0 m 0 ls []) := by
  intro n
  induction n with
  | zero =>
    intro  σ H locs ls h w hl
    exact False.elim h
  | succ n ih =>
    intro  σ H locs ls h w hl
    rw [wl_X9_here_0] at h
    refine lv_aload_n X.1 X.2.1 dX9_here_0 rfl (lv_at hl 0 rfl) ?_
    refine tw_get X hK w 9 iw_X9_here_9 h0 (by decide) rfl 3 (by decide) (List.mem_of_getElem? (i := 1) rfl) rfl dX9_here_1 ?_
    refine lv_aload_n X.1 X.2.1 dX9_here_4 rfl (lv_at hl 0 rfl) ?_
    refine tw_get X hK w 9 iw_X9_here_9 h0 (by decide) rfl 2 (by decide) (List.mem_of_getElem? (i := 2) rfl) rfl dX9_here_5 ?_
    refine lv_icmp_ge (tgt := 38) X.1 X.2.1 dX9_here_8 (by decide) (fun c1 => ?_) (fun c1 => ?_)
    · have h := h.1 c1
      exact hk38  σ _ _ ls h w (lv_sub hl [0] rfl)
    · have h := h.2 c1
      refine lv_aload_n X.1 X.2.1 dX9_here_11 rfl (lv_at hl 0 rfl) ?_
      refine tw_get X hK w 9 iw_X9_here_9 h0 (by decide) rfl 1 (by decide) (List.mem_of_getElem? (i := 3) rfl) rfl dX9_here_12 ?_
      refine lv_aload_n X.1 X.2.1 dX9_here_15 rfl (lv_at hl 0 rfl) ?_
      refine tw_get X hK w 9 iw_X9_here_9 h0 (by decide) rfl 3 (by decide) (List.mem_of_getElem? (i := 1) rfl) rfl dX9_here_16 ?_
      obtain ⟨hi2, h⟩ := h
      refine tw_iald X hK w (tw_t_9_1 hT h0) (tw_n_9_1 hT h0) hi2 dX9_here_19 ?_
      refine lv_bipush (v := 32) X.1 X.2.1 dX9_here_20 (by decide) ?_
      refine lv_icmp_ne (tgt := 38) X.1 X.2.1 dX9_here_22 (by decide) (fun c3 => ?_) (fun c3 => ?_)
      · have h := h.1 c3
        exact hk38  σ _ _ ls h w (lv_sub hl [0] rfl)
      · have h := h.2 c3
        refine lv_aload_n X.1 X.2.1 dX9_here_25 rfl (lv_at hl 0 rfl) ?_
        refine lv_dup X.1 X.2.1 dX9_here_26 rfl ?_
        refine tw_get X hK w 9 iw_X9_here_9 h0 (by decide) rfl 3 (by decide) (List.mem_of_getElem? (i := 1) rfl) rfl dX9_here_27 ?_
        refine lv_iconst (v := 1) X.1 X.2.1 dX9_here_30 (by decide) ?_
        refine lv_iadd X.1 X.2.1 dX9_here_31 ?_
        refine tw_putI X hK w 9 iw_X9_here_9 tyX9 tyX9_ok nmX9 h0 (by decide) rfl 3 (by decide) (List.mem_of_getElem? (i := 1) rfl) rfl (ty := .int) (by decide +kernel) rfl rfl (Nat.le_of_ble_eq_true rfl) (tw_f_9_3 g _ _ _) dX9_here_32 (fun σ4 H locs eσ4 w => ?_)
        have h := h _ eσ4
        refine lv_goto (tgt := 0) X.1 X.2.1 dX9_here_35 (by decide) ?_
        exact ih  σ4 _ _ ls h w (lv_sub hl [0] rfl)
set_option maxHeartbeats 4000000 in
set_option maxRecDepth 100000 in
theorem ct_X9_here (l : Launch) (D : va_G) (g : tw_G) (hT : tw_T g) (sz : Nat) (σ : tw_S) (a0 : Nat) (h0 : tw_is g 9 a0) (Q : Int32 → tw_S → Prop) (h : wp_X9_here g σ a0 Q) : tw_Mi l yX9_here wsX9_here RM_X9_here D g sz σ [.ref a0] Q := by
  refine Met.ofW (cc := cX9_here) (maxL := 1) (ret := (some .int)) (by decide) rfl ?_
  intro p e s m args below meth c s₁ B hml hv
  obtain ⟨rfl, hsz, hP, hK, hD0⟩ := hv
  subst hsz
  have hr := B.returns
  have hlk := B.notSynchronized
  have X : CallFix p m c cX9_here 1 s _ wsX9_here RX9 := ⟨B.exec, B.bytes, hml, findClass_of_methodNamed B.named, atoms_spec (ws := wsX9_here) B.pre⟩
  have w := tw_w0 hP hD0
  have hl := lv_entry ([.ref a0]) (n := 1) (Nat.le_of_ble_eq_true rfl)
  rw [lg_entry_eq]
  generalize (lg_sl ([.ref a0]) ++ List.replicate (1 - (lg_sl ([.ref a0])).length) Slot.unset).toArray = ls at hl ⊢
  have hl : lv_has ls 1 [(0, .ref a0)] := hl
  unfold wp_X9_here at h
  obtain ⟨n0, h⟩ := h
  refine lp_X9_here_0 X hr hlk hK hT h0 (fun σ5 H locs ls h w hl => ?_) n0  σ _ _ ls h w (lv_sub hl [0] rfl)
  · skip
    refine lv_aload_n X.1 X.2.1 dX9_here_38 rfl (lv_at hl 0 rfl) ?_
    refine tw_get X hK w 9 iw_X9_here_9 h0 (by decide) rfl 3 (by decide) (List.mem_of_getElem? (i := 1) rfl) rfl dX9_here_39 ?_
    refine lv_aload_n X.1 X.2.1 dX9_here_42 rfl (lv_at hl 0 rfl) ?_
    refine tw_get X hK w 9 iw_X9_here_9 h0 (by decide) rfl 2 (by decide) (List.mem_of_getElem? (i := 2) rfl) rfl dX9_here_43 ?_
    refine lv_icmp_ge (tgt := 61) X.1 X.2.1 dX9_here_46 (by decide) (fun c6 => ?_) (fun c6 => ?_)
    · have h := h.1 c6
      refine lv_iconst (v := -1) X.1 X.2.1 dX9_here_61 (by decide) ?_
      exact tw_iret X hr hlk w h dX9_here_62
    · have h := h.2 c6
      refine lv_aload_n X.1 X.2.1 dX9_here_49 rfl (lv_at hl 0 rfl) ?_
      refine tw_get X hK w 9 iw_X9_here_9 h0 (by decide) rfl 1 (by decide) (List.mem_of_getElem? (i := 3) rfl) rfl dX9_here_50 ?_
      refine lv_aload_n X.1 X.2.1 dX9_here_53 rfl (lv_at hl 0 rfl) ?_
      refine tw_get X hK w 9 iw_X9_here_9 h0 (by decide) rfl 3 (by decide) (List.mem_of_getElem? (i := 1) rfl) rfl dX9_here_54 ?_
      obtain ⟨hi7, h⟩ := h
      refine tw_iald X hK w (tw_t_9_1 hT h0) (tw_n_9_1 hT h0) hi7 dX9_here_57 ?_
      refine lv_goto (tgt := 62) X.1 X.2.1 dX9_here_58 (by decide) ?_
      exact tw_iret X hr hlk w h dX9_here_62

abbrev RM_X9_wrong : Room := { frames := 0, cells := 0, slots := 0, locals := 0 }
theorem iw_X9_wrong_9 : ∀ w ∈ wsX90, w ∈ wsX9_wrong := fun w h => List.mem_cons_of_mem _ (List.mem_append_right _ (h))
def wp_X9_wrong (g : tw_G) (σ : tw_S) (a0 : Nat) (x1 : Int32) (Q : Int32 → tw_S → Prop) : Prop := ∀ σ1, σ1 = (tw_sI σ a0 5 x1) → Q (0 : Int32) σ1
set_option maxHeartbeats 4000000 in
set_option maxRecDepth 100000 in
theorem ct_X9_wrong (l : Launch) (D : va_G) (g : tw_G) (hT : tw_T g) (sz : Nat) (σ : tw_S) (a0 : Nat) (h0 : tw_is g 9 a0) (x1 : Int32) (Q : Int32 → tw_S → Prop) (h : wp_X9_wrong g σ a0 x1 Q) : tw_Mi l yX9_wrong wsX9_wrong RM_X9_wrong D g sz σ [.ref a0, .int x1] Q := by
  refine Met.ofW (cc := cX9_wrong) (maxL := 2) (ret := (some .boolean)) (by decide) rfl ?_
  intro p e s m args below meth c s₁ B hml hv
  obtain ⟨rfl, hsz, hP, hK, hD0⟩ := hv
  subst hsz
  have hr := B.returns
  have hlk := B.notSynchronized
  have X : CallFix p m c cX9_wrong 2 s _ wsX9_wrong RX9 := ⟨B.exec, B.bytes, hml, findClass_of_methodNamed B.named, atoms_spec (ws := wsX9_wrong) B.pre⟩
  have w := tw_w0 hP hD0
  have hl := lv_entry ([.ref a0, .int x1]) (n := 2) (Nat.le_of_ble_eq_true rfl)
  rw [lg_entry_eq]
  generalize (lg_sl ([.ref a0, .int x1]) ++ List.replicate (2 - (lg_sl ([.ref a0, .int x1])).length) Slot.unset).toArray = ls at hl ⊢
  have hl : lv_has ls 2 [(0, .ref a0), (1, .int x1)] := hl
  unfold wp_X9_wrong at h
  refine lv_aload_n X.1 X.2.1 dX9_wrong_0 rfl (lv_at hl 0 rfl) ?_
  refine lv_iload_n X.1 X.2.1 dX9_wrong_1 rfl (lv_at hl 1 rfl) ?_
  refine tw_putI X hK w 9 iw_X9_wrong_9 tyX9 tyX9_ok nmX9 h0 (by decide) rfl 5 (by decide) (List.mem_of_getElem? (i := 1) rfl) rfl (ty := .int) (by decide +kernel) rfl rfl (Nat.le_of_ble_eq_true rfl) (tw_f_9_5 g _ _ _) dX9_wrong_2 (fun σ1 H locs eσ1 w => ?_)
  have h := h _ eσ1
  refine lv_iconst (v := 0) X.1 X.2.1 dX9_wrong_5 (by decide) ?_
  exact tw_zret X hr hlk w (by decide) h dX9_wrong_6

abbrev RM_X9_must : Room := { frames := 1, cells := 0, slots := 0, locals := 21 }
theorem iw_X9_must_9 : ∀ w ∈ wsX90, w ∈ wsX9_must := fun w h => List.mem_cons_of_mem _ (List.mem_append_right _ (h))
def wp_X9_must (g : tw_G) (σ : tw_S) (a0 : Nat) (x1 : Int32) (Q : Int32 → tw_S → Prop) : Prop := wp_X9_here g σ a0 (fun r2 σ1 => ((r2 = x1) → ∀ σ4, σ4 = (tw_sI σ1 a0 3 ((tw_I σ1 a0 3) + (1 : Int32))) → Q (1 : Int32) σ4) ∧ (¬ (r2 = x1) → wp_X9_wrong g σ1 a0 (1 : Int32) (fun r6 σ5 => narrow .boolean (.int r6) = .int r6 ∧ Q r6 σ5)))
set_option maxHeartbeats 4000000 in
set_option maxRecDepth 100000 in
theorem ct_X9_must (l : Launch) (D : va_G) (g : tw_G) (hT : tw_T g) (sz : Nat) (σ : tw_S) (a0 : Nat) (h0 : tw_is g 9 a0) (x1 : Int32) (Q : Int32 → tw_S → Prop) (h : wp_X9_must g σ a0 x1 Q) : tw_Mi l yX9_must wsX9_must RM_X9_must D g sz σ [.ref a0, .int x1] Q := by
  refine Met.ofW (cc := cX9_must) (maxL := 2) (ret := (some .boolean)) (by decide) rfl ?_
  intro p e s m args below meth c s₁ B hml hv
  obtain ⟨rfl, hsz, hP, hK, hD0⟩ := hv
  subst hsz
  have hr := B.returns
  have hlk := B.notSynchronized
  have X : CallFix p m c cX9_must 2 s _ wsX9_must RX9 := ⟨B.exec, B.bytes, hml, findClass_of_methodNamed B.named, atoms_spec (ws := wsX9_must) B.pre⟩
  have w := tw_w0 hP hD0
  have hl := lv_entry ([.ref a0, .int x1]) (n := 2) (Nat.le_of_ble_eq_true rfl)
  rw [lg_entry_eq]
  generalize (lg_sl ([.ref a0, .int x1]) ++ List.replicate (2 - (lg_sl ([.ref a0, .int x1])).length) Slot.unset).toArray = ls at hl ⊢
  have hl : lv_has ls 2 [(0, .ref a0), (1, .int x1)] := hl
  unfold wp_X9_must at h
  refine lv_aload_n X.1 X.2.1 dX9_must_0 rfl (lv_at hl 0 rfl) ?_
  refine tw_ci w (va_runV (As := []) (rest := []) X (ct_X9_here l D g hT _ σ a0 h0 _ h) (cwV 0 X.2.2.2.2 gX9_must_X9_here rfl rfl rfl (by decide +kernel) ⟨Nat.le_of_ble_eq_true rfl, Nat.le_of_ble_eq_true rfl⟩) (tw_preV hK w h0 (by decide) rfl []) rfl rfl hl.1 rfl (lv_room (Nat.le_of_ble_eq_true rfl)) dX9_must_1 ⟨Nat.zero_le _, Nat.zero_le _⟩) (fun r2 σ1 H locs h w => ?_)
  refine lv_iload_n X.1 X.2.1 dX9_must_4 rfl (lv_at hl 1 rfl) ?_
  refine lv_icmp_eq (tgt := 14) X.1 X.2.1 dX9_must_5 (by decide) (fun c3 => ?_) (fun c3 => ?_)
  · have h := h.1 c3
    refine lv_aload_n X.1 X.2.1 dX9_must_14 rfl (lv_at hl 0 rfl) ?_
    refine lv_dup X.1 X.2.1 dX9_must_15 rfl ?_
    refine tw_get X hK w 9 iw_X9_must_9 h0 (by decide) rfl 3 (by decide) (List.mem_of_getElem? (i := 1) rfl) rfl dX9_must_16 ?_
    refine lv_iconst (v := 1) X.1 X.2.1 dX9_must_19 (by decide) ?_
    refine lv_iadd X.1 X.2.1 dX9_must_20 ?_
    refine tw_putI X hK w 9 iw_X9_must_9 tyX9 tyX9_ok nmX9 h0 (by decide) rfl 3 (by decide) (List.mem_of_getElem? (i := 1) rfl) rfl (ty := .int) (by decide +kernel) rfl rfl (Nat.le_of_ble_eq_true rfl) (tw_f_9_3 g _ _ _) dX9_must_21 (fun σ4 H locs eσ4 w => ?_)
    have h := h _ eσ4
    refine lv_iconst (v := 1) X.1 X.2.1 dX9_must_24 (by decide) ?_
    exact tw_zret X hr hlk w (by decide) h dX9_must_25
  · have h := h.2 c3
    refine lv_aload_n X.1 X.2.1 dX9_must_8 rfl (lv_at hl 0 rfl) ?_
    refine lv_iconst (v := 1) X.1 X.2.1 dX9_must_9 (by decide) ?_
    refine tw_ci w (va_runV (As := [.int (1 : Int32)]) (rest := []) X (ct_X9_wrong l D g hT _ σ1 a0 h0 (1 : Int32) _ h) (cwV 1 X.2.2.2.2 gX9_must_X9_wrong rfl rfl rfl (by decide +kernel) ⟨Nat.le_of_ble_eq_true rfl, Nat.le_of_ble_eq_true rfl⟩) (tw_preV hK w h0 (by decide) rfl [.int (1 : Int32)]) rfl rfl hl.1 rfl (lv_room (Nat.le_of_ble_eq_true rfl)) dX9_must_10 ⟨Nat.zero_le _, Nat.zero_le _⟩) (fun r6 σ5 H locs h w => ?_)
    exact tw_zret X hr hlk w h.1 h.2 dX9_must_13

abbrev RM_X9_isFigure : Room := { frames := 1, cells := 0, slots := 0, locals := 25 }
theorem iw_X9_isFigure_9 : ∀ w ∈ wsX90, w ∈ wsX9_isFigure := fun w h => List.mem_cons_of_mem _ (List.mem_append_right _ (h))
def wp_X9_isFigure (g : tw_G) (σ : tw_S) (a0 : Nat) (x1 : Int32) (x2 : Int32) (Q : Int32 → tw_S → Prop) : Prop := wp_X9_here g σ a0 (fun r2 σ1 => ∀ σ3, σ3 = (tw_sI σ1 a0 7 (r2 - (48 : Int32))) → wp_X9_in g σ3 ((tw_I σ3 a0 7).toInt64) (0 : Int64) (9 : Int64) (fun r5 σ4 => ((¬ r5 = 0) → wp_X9_in g σ4 ((tw_I σ4 a0 7).toInt64) (x1.toInt64) (x2.toInt64) (fun r8 σ7 => ((¬ r8 = 0) → ∀ σ10, σ10 = (tw_sI σ7 a0 3 ((tw_I σ7 a0 3) + (1 : Int32))) → Q (1 : Int32) σ10) ∧ ((r8 = 0) → wp_X9_wrong g σ7 a0 (2 : Int32) (fun r12 σ11 => narrow .boolean (.int r12) = .int r12 ∧ Q r12 σ11)))) ∧ ((r5 = 0) → wp_X9_wrong g σ4 a0 (1 : Int32) (fun r14 σ13 => narrow .boolean (.int r14) = .int r14 ∧ Q r14 σ13))))
set_option maxHeartbeats 4000000 in
set_option maxRecDepth 100000 in
theorem ct_X9_isFigure (l : Launch) (D : va_G) (g : tw_G) (hT : tw_T g) (sz : Nat) (σ : tw_S) (a0 : Nat) (h0 : tw_is g 9 a0) (x1 : Int32) (x2 : Int32) (Q : Int32 → tw_S → Prop) (h : wp_X9_isFigure g σ a0 x1 x2 Q) : tw_Mi l yX9_isFigure wsX9_isFigure RM_X9_isFigure D g sz σ [.ref a0, .int x1, .int x2] Q := by
  refine Met.ofW (cc := cX9_isFigure) (maxL := 3) (ret := (some .boolean)) (by decide) rfl ?_
  intro p e s m args below meth c s₁ B hml hv
  obtain ⟨rfl, hsz, hP, hK, hD0⟩ := hv
  subst hsz
  have hr := B.returns
  have hlk := B.notSynchronized
  have X : CallFix p m c cX9_isFigure 3 s _ wsX9_isFigure RX9 := ⟨B.exec, B.bytes, hml, findClass_of_methodNamed B.named, atoms_spec (ws := wsX9_isFigure) B.pre⟩
  have w := tw_w0 hP hD0
  have hl := lv_entry ([.ref a0, .int x1, .int x2]) (n := 3) (Nat.le_of_ble_eq_true rfl)
  rw [lg_entry_eq]
  generalize (lg_sl ([.ref a0, .int x1, .int x2]) ++ List.replicate (3 - (lg_sl ([.ref a0, .int x1, .int x2])).length) Slot.unset).toArray = ls at hl ⊢
  have hl : lv_has ls 3 [(0, .ref a0), (1, .int x1), (2, .int x2)] := hl
  unfold wp_X9_isFigure at h
  refine lv_aload_n X.1 X.2.1 dX9_isFigure_0 rfl (lv_at hl 0 rfl) ?_
  refine lv_aload_n X.1 X.2.1 dX9_isFigure_1 rfl (lv_at hl 0 rfl) ?_
  refine tw_ci w (va_runV (As := []) (rest := [.ref a0]) X (ct_X9_here l D g hT _ σ a0 h0 _ h) (cwV 0 X.2.2.2.2 gX9_isFigure_X9_here rfl rfl rfl (by decide +kernel) ⟨Nat.le_of_ble_eq_true rfl, Nat.le_of_ble_eq_true rfl⟩) (tw_preV hK w h0 (by decide) rfl []) rfl rfl hl.1 rfl (lv_room (Nat.le_of_ble_eq_true rfl)) dX9_isFigure_2 ⟨Nat.zero_le _, Nat.zero_le _⟩) (fun r2 σ1 H locs h w => ?_)
  refine lv_bipush (v := 48) X.1 X.2.1 dX9_isFigure_5 (by decide) ?_
  refine lv_isub X.1 X.2.1 dX9_isFigure_7 ?_
  refine tw_putI X hK w 9 iw_X9_isFigure_9 tyX9 tyX9_ok nmX9 h0 (by decide) rfl 7 (by decide) (List.mem_of_getElem? (i := 1) rfl) rfl (ty := .int) (by decide +kernel) rfl rfl (Nat.le_of_ble_eq_true rfl) (tw_f_9_7 g _ _ _) dX9_isFigure_8 (fun σ3 H locs eσ3 w => ?_)
  have h := h _ eσ3
  refine lv_aload_n X.1 X.2.1 dX9_isFigure_11 rfl (lv_at hl 0 rfl) ?_
  refine tw_get X hK w 9 iw_X9_isFigure_9 h0 (by decide) rfl 7 (by decide) (List.mem_of_getElem? (i := 1) rfl) rfl dX9_isFigure_12 ?_
  refine lv_i2l (v := ((tw_I σ3 a0 7).toInt64)) X.1 X.2.1 dX9_isFigure_15 rfl ?_
  refine lv_lconst (v := 0) X.1 X.2.1 dX9_isFigure_16 (by decide) ?_
  refine lv_ldc2 (own := RX9) (v := 9) X.1 X.2.1 X.2.2.2.1 (X.2.2.2.2 _ (List.mem_of_getElem? (i := 2) rfl)) dX9_isFigure_17 ?_
  refine tw_ci w (va_runS (As := [.long ((tw_I σ3 a0 7).toInt64), .long (0 : Int64), .long (9 : Int64)]) (rest := []) X (ct_X9_in l D g hT _ σ3 ((tw_I σ3 a0 7).toInt64) (0 : Int64) (9 : Int64) _ h) (va_cwS 3 X.2.2.2.2 gX9_isFigure_X9_in rfl rfl rfl (by decide +kernel) ⟨Nat.le_of_ble_eq_true rfl, Nat.le_of_ble_eq_true rfl⟩) (tw_pre hK w [.long ((tw_I σ3 a0 7).toInt64), .long (0 : Int64), .long (9 : Int64)]) rfl rfl hl.1 rfl (lv_room (Nat.le_of_ble_eq_true rfl)) dX9_isFigure_20 ⟨Nat.zero_le _, Nat.zero_le _⟩) (fun r5 σ4 H locs h w => ?_)
  refine lv_if_ne (tgt := 32) X.1 X.2.1 dX9_isFigure_23 (by decide) (fun c6 => ?_) (fun c6 => ?_)
  · have h := h.1 c6
    refine lv_aload_n X.1 X.2.1 dX9_isFigure_32 rfl (lv_at hl 0 rfl) ?_
    refine tw_get X hK w 9 iw_X9_isFigure_9 h0 (by decide) rfl 7 (by decide) (List.mem_of_getElem? (i := 1) rfl) rfl dX9_isFigure_33 ?_
    refine lv_i2l (v := ((tw_I σ4 a0 7).toInt64)) X.1 X.2.1 dX9_isFigure_36 rfl ?_
    refine lv_iload_n X.1 X.2.1 dX9_isFigure_37 rfl (lv_at hl 1 rfl) ?_
    refine lv_i2l (v := (x1.toInt64)) X.1 X.2.1 dX9_isFigure_38 rfl ?_
    refine lv_iload_n X.1 X.2.1 dX9_isFigure_39 rfl (lv_at hl 2 rfl) ?_
    refine lv_i2l (v := (x2.toInt64)) X.1 X.2.1 dX9_isFigure_40 rfl ?_
    refine tw_ci w (va_runS (As := [.long ((tw_I σ4 a0 7).toInt64), .long (x1.toInt64), .long (x2.toInt64)]) (rest := []) X (ct_X9_in l D g hT _ σ4 ((tw_I σ4 a0 7).toInt64) (x1.toInt64) (x2.toInt64) _ h) (va_cwS 3 X.2.2.2.2 gX9_isFigure_X9_in rfl rfl rfl (by decide +kernel) ⟨Nat.le_of_ble_eq_true rfl, Nat.le_of_ble_eq_true rfl⟩) (tw_pre hK w [.long ((tw_I σ4 a0 7).toInt64), .long (x1.toInt64), .long (x2.toInt64)]) rfl rfl hl.1 rfl (lv_room (Nat.le_of_ble_eq_true rfl)) dX9_isFigure_41 ⟨Nat.zero_le _, Nat.zero_le _⟩) (fun r8 σ7 H locs h w => ?_)
    refine lv_if_ne (tgt := 53) X.1 X.2.1 dX9_isFigure_44 (by decide) (fun c9 => ?_) (fun c9 => ?_)
    · have h := h.1 c9
      refine lv_aload_n X.1 X.2.1 dX9_isFigure_53 rfl (lv_at hl 0 rfl) ?_
      refine lv_dup X.1 X.2.1 dX9_isFigure_54 rfl ?_
      refine tw_get X hK w 9 iw_X9_isFigure_9 h0 (by decide) rfl 3 (by decide) (List.mem_of_getElem? (i := 3) rfl) rfl dX9_isFigure_55 ?_
      refine lv_iconst (v := 1) X.1 X.2.1 dX9_isFigure_58 (by decide) ?_
      refine lv_iadd X.1 X.2.1 dX9_isFigure_59 ?_
      refine tw_putI X hK w 9 iw_X9_isFigure_9 tyX9 tyX9_ok nmX9 h0 (by decide) rfl 3 (by decide) (List.mem_of_getElem? (i := 3) rfl) rfl (ty := .int) (by decide +kernel) rfl rfl (Nat.le_of_ble_eq_true rfl) (tw_f_9_3 g _ _ _) dX9_isFigure_60 (fun σ10 H locs eσ10 w => ?_)
      have h := h _ eσ10
      refine lv_iconst (v := 1) X.1 X.2.1 dX9_isFigure_63 (by decide) ?_
      exact tw_zret X hr hlk w (by decide) h dX9_isFigure_64
    · have h := h.2 c9
      refine lv_aload_n X.1 X.2.1 dX9_isFigure_47 rfl (lv_at hl 0 rfl) ?_
      refine lv_iconst (v := 2) X.1 X.2.1 dX9_isFigure_48 (by decide) ?_
      refine tw_ci w (va_runV (As := [.int (2 : Int32)]) (rest := []) X (ct_X9_wrong l D g hT _ σ7 a0 h0 (2 : Int32) _ h) (cwV 1 X.2.2.2.2 gX9_isFigure_X9_wrong rfl rfl rfl (by decide +kernel) ⟨Nat.le_of_ble_eq_true rfl, Nat.le_of_ble_eq_true rfl⟩) (tw_preV hK w h0 (by decide) rfl [.int (2 : Int32)]) rfl rfl hl.1 rfl (lv_room (Nat.le_of_ble_eq_true rfl)) dX9_isFigure_49 ⟨Nat.zero_le _, Nat.zero_le _⟩) (fun r12 σ11 H locs h w => ?_)
      exact tw_zret X hr hlk w h.1 h.2 dX9_isFigure_52
  · have h := h.2 c6
    refine lv_aload_n X.1 X.2.1 dX9_isFigure_26 rfl (lv_at hl 0 rfl) ?_
    refine lv_iconst (v := 1) X.1 X.2.1 dX9_isFigure_27 (by decide) ?_
    refine tw_ci w (va_runV (As := [.int (1 : Int32)]) (rest := []) X (ct_X9_wrong l D g hT _ σ4 a0 h0 (1 : Int32) _ h) (cwV 1 X.2.2.2.2 gX9_isFigure_X9_wrong rfl rfl rfl (by decide +kernel) ⟨Nat.le_of_ble_eq_true rfl, Nat.le_of_ble_eq_true rfl⟩) (tw_preV hK w h0 (by decide) rfl [.int (1 : Int32)]) rfl rfl hl.1 rfl (lv_room (Nat.le_of_ble_eq_true rfl)) dX9_isFigure_28 ⟨Nat.zero_le _, Nat.zero_le _⟩) (fun r14 σ13 H locs h w => ?_)
    exact tw_zret X hr hlk w h.1 h.2 dX9_isFigure_31

abbrev RM_X9_signOf : Room := { frames := 0, cells := 0, slots := 0, locals := 0 }
def wp_X9_signOf (g : tw_G) (σ : tw_S) (x0 : Int32) (Q : Int32 → tw_S → Prop) : Prop := ((¬ x0 = (97 : Int32)) → ((¬ x0 = (98 : Int32)) → ((¬ x0 = (40 : Int32)) → ((¬ x0 = (41 : Int32)) → Q (-1 : Int32) σ) ∧ ((x0 = (41 : Int32)) → Q (3 : Int32) σ)) ∧ ((x0 = (40 : Int32)) → Q (2 : Int32) σ)) ∧ ((x0 = (98 : Int32)) → Q (1 : Int32) σ)) ∧ ((x0 = (97 : Int32)) → Q (0 : Int32) σ)
set_option maxHeartbeats 4000000 in
set_option maxRecDepth 100000 in
theorem ct_X9_signOf (l : Launch) (D : va_G) (g : tw_G) (hT : tw_T g) (sz : Nat) (σ : tw_S) (x0 : Int32) (Q : Int32 → tw_S → Prop) (h : wp_X9_signOf g σ x0 Q) : tw_Mi l yX9_signOf wsX9_signOf RM_X9_signOf D g sz σ [.int x0] Q := by
  refine Met.ofW (cc := cX9_signOf) (maxL := 1) (ret := (some .int)) (by decide) rfl ?_
  intro p e s m args below meth c s₁ B hml hv
  obtain ⟨rfl, hsz, hP, hK, hD0⟩ := hv
  subst hsz
  have hr := B.returns
  have hlk := B.notSynchronized
  have X : CallFix p m c cX9_signOf 1 s _ wsX9_signOf RX9 := ⟨B.exec, B.bytes, hml, findClass_of_methodNamed B.named, atoms_spec (ws := wsX9_signOf) B.pre⟩
  have w := tw_w0 hP hD0
  have hl := lv_entry ([.int x0]) (n := 1) (Nat.le_of_ble_eq_true rfl)
  rw [lg_entry_eq]
  generalize (lg_sl ([.int x0]) ++ List.replicate (1 - (lg_sl ([.int x0])).length) Slot.unset).toArray = ls at hl ⊢
  have hl : lv_has ls 1 [(0, .int x0)] := hl
  unfold wp_X9_signOf at h
  refine lv_iload_n X.1 X.2.1 dX9_signOf_0 rfl (lv_at hl 0 rfl) ?_
  refine lv_bipush (v := 97) X.1 X.2.1 dX9_signOf_1 (by decide) ?_
  refine lv_icmp_ne (tgt := 10) X.1 X.2.1 dX9_signOf_3 (by decide) (fun c1 => ?_) (fun c1 => ?_)
  · have h := h.1 c1
    refine lv_iload_n X.1 X.2.1 dX9_signOf_10 rfl (lv_at hl 0 rfl) ?_
    refine lv_bipush (v := 98) X.1 X.2.1 dX9_signOf_11 (by decide) ?_
    refine lv_icmp_ne (tgt := 20) X.1 X.2.1 dX9_signOf_13 (by decide) (fun c2 => ?_) (fun c2 => ?_)
    · have h := h.1 c2
      refine lv_iload_n X.1 X.2.1 dX9_signOf_20 rfl (lv_at hl 0 rfl) ?_
      refine lv_bipush (v := 40) X.1 X.2.1 dX9_signOf_21 (by decide) ?_
      refine lv_icmp_ne (tgt := 30) X.1 X.2.1 dX9_signOf_23 (by decide) (fun c3 => ?_) (fun c3 => ?_)
      · have h := h.1 c3
        refine lv_iload_n X.1 X.2.1 dX9_signOf_30 rfl (lv_at hl 0 rfl) ?_
        refine lv_bipush (v := 41) X.1 X.2.1 dX9_signOf_31 (by decide) ?_
        refine lv_icmp_ne (tgt := 40) X.1 X.2.1 dX9_signOf_33 (by decide) (fun c4 => ?_) (fun c4 => ?_)
        · have h := h.1 c4
          refine lv_iconst (v := -1) X.1 X.2.1 dX9_signOf_40 (by decide) ?_
          exact tw_iret X hr hlk w h dX9_signOf_41
        · have h := h.2 c4
          refine lv_iconst (v := 3) X.1 X.2.1 dX9_signOf_36 (by decide) ?_
          refine lv_goto (tgt := 41) X.1 X.2.1 dX9_signOf_37 (by decide) ?_
          exact tw_iret X hr hlk w h dX9_signOf_41
      · have h := h.2 c3
        refine lv_iconst (v := 2) X.1 X.2.1 dX9_signOf_26 (by decide) ?_
        refine lv_goto (tgt := 41) X.1 X.2.1 dX9_signOf_27 (by decide) ?_
        exact tw_iret X hr hlk w h dX9_signOf_41
    · have h := h.2 c2
      refine lv_iconst (v := 1) X.1 X.2.1 dX9_signOf_16 (by decide) ?_
      refine lv_goto (tgt := 41) X.1 X.2.1 dX9_signOf_17 (by decide) ?_
      exact tw_iret X hr hlk w h dX9_signOf_41
  · have h := h.2 c1
    refine lv_iconst (v := 0) X.1 X.2.1 dX9_signOf_6 (by decide) ?_
    refine lv_goto (tgt := 41) X.1 X.2.1 dX9_signOf_7 (by decide) ?_
    exact tw_iret X hr hlk w h dX9_signOf_41

abbrev RM_X9_readsMove : Room := { frames := 2, cells := 0, slots := 0, locals := 47 }
theorem iw_X9_readsMove_9 : ∀ w ∈ wsX90, w ∈ wsX9_readsMove := fun w h => List.mem_cons_of_mem _ (List.mem_append_right _ (h))
def wp_X9_readsMove (g : tw_G) (σ : tw_S) (a0 : Nat) (Q : Int32 → tw_S → Prop) : Prop := ∀ σ1, σ1 = (tw_sI σ a0 3 ((tw_I σ a0 3) + (1 : Int32))) → wp_X9_isFigure g σ1 a0 (0 : Int32) ((tw_A σ1 (tw_R g a0 6) (0 : Int32).toNatClampNeg) - (1 : Int32)) (fun r3 σ2 => ((¬ r3 = 0) → wp_X9_here g σ2 a0 (fun r6 σ5 => wp_X9_signOf g σ5 r6 (fun r8 σ7 => ((¬ r8 = (-1 : Int32)) → ∀ z10, z10 = (((1 : Int32) + ((4 : Int32) * (tw_I σ2 a0 7))) + r8) → vp_in z10 17 ∧ (((tw_A σ7 (tw_R g a0 6) z10.toNatClampNeg) = (-1 : Int32)) → ∀ σ13, σ13 = (tw_sI σ7 a0 3 ((tw_I σ7 a0 3) + (1 : Int32))) → wp_X9_isFigure g σ13 a0 (0 : Int32) ((tw_A σ13 (tw_R g a0 6) (0 : Int32).toNatClampNeg) - (1 : Int32)) (fun r15 σ14 => ((¬ r15 = 0) → wp_X9_here g σ14 a0 (fun r18 σ17 => ((¬ r18 = (114 : Int32)) → ((¬ (0 : Int32) = 0) → ∀ σ21, σ21 = (tw_sI σ17 a0 3 ((tw_I σ17 a0 3) + (1 : Int32))) → (((0 : Int32) = 0) → vp_in z10 17 ∧ ∀ σ24, σ24 = (tw_sA σ21 (tw_R g a0 6) (upd (tw_A σ21 (tw_R g a0 6)) z10.toNatClampNeg (((2 : Int32) * (tw_I σ14 a0 7)) + (0 : Int32)))) → wp_X9_must g σ24 a0 (59 : Int32) (fun r26 σ25 => narrow .boolean (.int r26) = .int r26 ∧ Q r26 σ25)) ∧ (¬ ((0 : Int32) = 0) → vp_in z10 17 ∧ ∀ σ28, σ28 = (tw_sA σ21 (tw_R g a0 6) (upd (tw_A σ21 (tw_R g a0 6)) z10.toNatClampNeg (((2 : Int32) * (tw_I σ14 a0 7)) + (1 : Int32)))) → wp_X9_must g σ28 a0 (59 : Int32) (fun r30 σ29 => narrow .boolean (.int r30) = .int r30 ∧ Q r30 σ29))) ∧ (((0 : Int32) = 0) → wp_X9_here g σ17 a0 (fun r32 σ31 => ((r32 = (108 : Int32)) → ∀ σ34, σ34 = (tw_sI σ31 a0 3 ((tw_I σ31 a0 3) + (1 : Int32))) → (((0 : Int32) = 0) → vp_in z10 17 ∧ ∀ σ37, σ37 = (tw_sA σ34 (tw_R g a0 6) (upd (tw_A σ34 (tw_R g a0 6)) z10.toNatClampNeg (((2 : Int32) * (tw_I σ14 a0 7)) + (0 : Int32)))) → wp_X9_must g σ37 a0 (59 : Int32) (fun r39 σ38 => narrow .boolean (.int r39) = .int r39 ∧ Q r39 σ38)) ∧ (¬ ((0 : Int32) = 0) → vp_in z10 17 ∧ ∀ σ41, σ41 = (tw_sA σ34 (tw_R g a0 6) (upd (tw_A σ34 (tw_R g a0 6)) z10.toNatClampNeg (((2 : Int32) * (tw_I σ14 a0 7)) + (1 : Int32)))) → wp_X9_must g σ41 a0 (59 : Int32) (fun r43 σ42 => narrow .boolean (.int r43) = .int r43 ∧ Q r43 σ42))) ∧ (¬ (r32 = (108 : Int32)) → wp_X9_wrong g σ31 a0 (1 : Int32) (fun r45 σ44 => narrow .boolean (.int r45) = .int r45 ∧ Q r45 σ44))))) ∧ ((r18 = (114 : Int32)) → ((¬ (1 : Int32) = 0) → ∀ σ47, σ47 = (tw_sI σ17 a0 3 ((tw_I σ17 a0 3) + (1 : Int32))) → (((1 : Int32) = 0) → vp_in z10 17 ∧ ∀ σ50, σ50 = (tw_sA σ47 (tw_R g a0 6) (upd (tw_A σ47 (tw_R g a0 6)) z10.toNatClampNeg (((2 : Int32) * (tw_I σ14 a0 7)) + (0 : Int32)))) → wp_X9_must g σ50 a0 (59 : Int32) (fun r52 σ51 => narrow .boolean (.int r52) = .int r52 ∧ Q r52 σ51)) ∧ (¬ ((1 : Int32) = 0) → vp_in z10 17 ∧ ∀ σ54, σ54 = (tw_sA σ47 (tw_R g a0 6) (upd (tw_A σ47 (tw_R g a0 6)) z10.toNatClampNeg (((2 : Int32) * (tw_I σ14 a0 7)) + (1 : Int32)))) → wp_X9_must g σ54 a0 (59 : Int32) (fun r56 σ55 => narrow .boolean (.int r56) = .int r56 ∧ Q r56 σ55))) ∧ (((1 : Int32) = 0) → wp_X9_here g σ17 a0 (fun r58 σ57 => ((r58 = (108 : Int32)) → ∀ σ60, σ60 = (tw_sI σ57 a0 3 ((tw_I σ57 a0 3) + (1 : Int32))) → (((1 : Int32) = 0) → vp_in z10 17 ∧ ∀ σ63, σ63 = (tw_sA σ60 (tw_R g a0 6) (upd (tw_A σ60 (tw_R g a0 6)) z10.toNatClampNeg (((2 : Int32) * (tw_I σ14 a0 7)) + (0 : Int32)))) → wp_X9_must g σ63 a0 (59 : Int32) (fun r65 σ64 => narrow .boolean (.int r65) = .int r65 ∧ Q r65 σ64)) ∧ (¬ ((1 : Int32) = 0) → vp_in z10 17 ∧ ∀ σ67, σ67 = (tw_sA σ60 (tw_R g a0 6) (upd (tw_A σ60 (tw_R g a0 6)) z10.toNatClampNeg (((2 : Int32) * (tw_I σ14 a0 7)) + (1 : Int32)))) → wp_X9_must g σ67 a0 (59 : Int32) (fun r69 σ68 => narrow .boolean (.int r69) = .int r69 ∧ Q r69 σ68))) ∧ (¬ (r58 = (108 : Int32)) → wp_X9_wrong g σ57 a0 (1 : Int32) (fun r71 σ70 => narrow .boolean (.int r71) = .int r71 ∧ Q r71 σ70))))))) ∧ ((r15 = 0) → Q (0 : Int32) σ14))) ∧ (¬ ((tw_A σ7 (tw_R g a0 6) z10.toNatClampNeg) = (-1 : Int32)) → wp_X9_wrong g σ7 a0 (4 : Int32) (fun r73 σ72 => narrow .boolean (.int r73) = .int r73 ∧ Q r73 σ72))) ∧ ((r8 = (-1 : Int32)) → wp_X9_wrong g σ7 a0 (1 : Int32) (fun r75 σ74 => narrow .boolean (.int r75) = .int r75 ∧ Q r75 σ74))))) ∧ ((r3 = 0) → Q (0 : Int32) σ2))
set_option maxHeartbeats 4000000 in
set_option maxRecDepth 100000 in
theorem ct_X9_readsMove (l : Launch) (D : va_G) (g : tw_G) (hT : tw_T g) (sz : Nat) (σ : tw_S) (a0 : Nat) (h0 : tw_is g 9 a0) (Q : Int32 → tw_S → Prop) (h : wp_X9_readsMove g σ a0 Q) : tw_Mi l yX9_readsMove wsX9_readsMove RM_X9_readsMove D g sz σ [.ref a0] Q := by
  refine Met.ofW (cc := cX9_readsMove) (maxL := 6) (ret := (some .boolean)) (by decide) rfl ?_
  intro p e s m args below meth c s₁ B hml hv
  obtain ⟨rfl, hsz, hP, hK, hD0⟩ := hv
  subst hsz
  have hr := B.returns
  have hlk := B.notSynchronized
  have X : CallFix p m c cX9_readsMove 6 s _ wsX9_readsMove RX9 := ⟨B.exec, B.bytes, hml, findClass_of_methodNamed B.named, atoms_spec (ws := wsX9_readsMove) B.pre⟩
  have w := tw_w0 hP hD0
  have hl := lv_entry ([.ref a0]) (n := 6) (Nat.le_of_ble_eq_true rfl)
  rw [lg_entry_eq]
  generalize (lg_sl ([.ref a0]) ++ List.replicate (6 - (lg_sl ([.ref a0])).length) Slot.unset).toArray = ls at hl ⊢
  have hl : lv_has ls 6 [(0, .ref a0)] := hl
  unfold wp_X9_readsMove at h
  refine lv_aload_n X.1 X.2.1 dX9_readsMove_0 rfl (lv_at hl 0 rfl) ?_
  refine lv_dup X.1 X.2.1 dX9_readsMove_1 rfl ?_
  refine tw_get X hK w 9 iw_X9_readsMove_9 h0 (by decide) rfl 3 (by decide) (List.mem_of_getElem? (i := 1) rfl) rfl dX9_readsMove_2 ?_
  refine lv_iconst (v := 1) X.1 X.2.1 dX9_readsMove_5 (by decide) ?_
  refine lv_iadd X.1 X.2.1 dX9_readsMove_6 ?_
  refine tw_putI X hK w 9 iw_X9_readsMove_9 tyX9 tyX9_ok nmX9 h0 (by decide) rfl 3 (by decide) (List.mem_of_getElem? (i := 1) rfl) rfl (ty := .int) (by decide +kernel) rfl rfl (Nat.le_of_ble_eq_true rfl) (tw_f_9_3 g _ _ _) dX9_readsMove_7 (fun σ1 H locs eσ1 w => ?_)
  have h := h _ eσ1
  refine lv_aload_n X.1 X.2.1 dX9_readsMove_10 rfl (lv_at hl 0 rfl) ?_
  refine lv_iconst (v := 0) X.1 X.2.1 dX9_readsMove_11 (by decide) ?_
  refine lv_aload_n X.1 X.2.1 dX9_readsMove_12 rfl (lv_at hl 0 rfl) ?_
  refine tw_get X hK w 9 iw_X9_readsMove_9 h0 (by decide) rfl 6 (by decide) (List.mem_of_getElem? (i := 2) rfl) rfl dX9_readsMove_13 ?_
  refine lv_iconst (v := 0) X.1 X.2.1 dX9_readsMove_16 (by decide) ?_
  refine tw_iald X hK w (tw_t_9_6 hT h0) (tw_n_9_6 hT h0) (by unfold vp_in; decide) dX9_readsMove_17 ?_
  refine lv_iconst (v := 1) X.1 X.2.1 dX9_readsMove_18 (by decide) ?_
  refine lv_isub X.1 X.2.1 dX9_readsMove_19 ?_
  refine tw_ci w (va_runV (As := [.int (0 : Int32), .int ((tw_A σ1 (tw_R g a0 6) (0 : Int32).toNatClampNeg) - (1 : Int32))]) (rest := []) X (ct_X9_isFigure l D g hT _ σ1 a0 h0 (0 : Int32) ((tw_A σ1 (tw_R g a0 6) (0 : Int32).toNatClampNeg) - (1 : Int32)) _ h) (cwV 2 X.2.2.2.2 gX9_readsMove_X9_isFigure rfl rfl rfl (by decide +kernel) ⟨Nat.le_of_ble_eq_true rfl, Nat.le_of_ble_eq_true rfl⟩) (tw_preV hK w h0 (by decide) rfl [.int (0 : Int32), .int ((tw_A σ1 (tw_R g a0 6) (0 : Int32).toNatClampNeg) - (1 : Int32))]) rfl rfl hl.1 rfl (lv_room (Nat.le_of_ble_eq_true rfl)) dX9_readsMove_20 ⟨Nat.zero_le _, Nat.zero_le _⟩) (fun r3 σ2 H locs h w => ?_)
  refine lv_if_ne (tgt := 28) X.1 X.2.1 dX9_readsMove_23 (by decide) (fun c4 => ?_) (fun c4 => ?_)
  · have h := h.1 c4
    refine lv_aload_n X.1 X.2.1 dX9_readsMove_28 rfl (lv_at hl 0 rfl) ?_
    refine tw_get X hK w 9 iw_X9_readsMove_9 h0 (by decide) rfl 7 (by decide) (List.mem_of_getElem? (i := 3) rfl) rfl dX9_readsMove_29 ?_
    refine lv_istore_n (lv' := [(1, .int (tw_I σ2 a0 7)), (0, .ref a0)]) X.1 X.2.1 dX9_readsMove_32 rfl hl (by decide) rfl (fun ls hl => ?_)
    refine lv_aload_n X.1 X.2.1 dX9_readsMove_33 rfl (lv_at hl 1 rfl) ?_
    refine tw_ci w (va_runV (As := []) (rest := []) X (ct_X9_here l D g hT _ σ2 a0 h0 _ h) (cwV 0 X.2.2.2.2 gX9_readsMove_X9_here rfl rfl rfl (by decide +kernel) ⟨Nat.le_of_ble_eq_true rfl, Nat.le_of_ble_eq_true rfl⟩) (tw_preV hK w h0 (by decide) rfl []) rfl rfl hl.1 rfl (lv_room (Nat.le_of_ble_eq_true rfl)) dX9_readsMove_34 ⟨Nat.zero_le _, Nat.zero_le _⟩) (fun r6 σ5 H locs h w => ?_)
    refine tw_ci w (va_runS (As := [.int r6]) (rest := []) X (ct_X9_signOf l D g hT _ σ5 r6 _ h) (va_cwS 1 X.2.2.2.2 gX9_readsMove_X9_signOf rfl rfl rfl (by decide +kernel) ⟨Nat.le_of_ble_eq_true rfl, Nat.le_of_ble_eq_true rfl⟩) (tw_pre hK w [.int r6]) rfl rfl hl.1 rfl (lv_room (Nat.le_of_ble_eq_true rfl)) dX9_readsMove_37 ⟨Nat.zero_le _, Nat.zero_le _⟩) (fun r8 σ7 H locs h w => ?_)
    refine lv_istore_n (lv' := [(2, .int r8), (1, .int (tw_I σ2 a0 7)), (0, .ref a0)]) X.1 X.2.1 dX9_readsMove_40 rfl hl (by decide) rfl (fun ls hl => ?_)
    refine lv_iload_n X.1 X.2.1 dX9_readsMove_41 rfl (lv_at hl 0 rfl) ?_
    refine lv_iconst (v := -1) X.1 X.2.1 dX9_readsMove_42 (by decide) ?_
    refine lv_icmp_ne (tgt := 52) X.1 X.2.1 dX9_readsMove_43 (by decide) (fun c9 => ?_) (fun c9 => ?_)
    · have h := h.1 c9
      refine lv_iconst (v := 1) X.1 X.2.1 dX9_readsMove_52 (by decide) ?_
      refine lv_iconst (v := 4) X.1 X.2.1 dX9_readsMove_53 (by decide) ?_
      refine lv_iload_n X.1 X.2.1 dX9_readsMove_54 rfl (lv_at hl 1 rfl) ?_
      refine lv_imul X.1 X.2.1 dX9_readsMove_55 ?_
      refine lv_iadd X.1 X.2.1 dX9_readsMove_56 ?_
      refine lv_iload_n X.1 X.2.1 dX9_readsMove_57 rfl (lv_at hl 0 rfl) ?_
      refine lv_iadd X.1 X.2.1 dX9_readsMove_58 ?_
      refine lv_topi (fun z10 ez10 => ?_)
      have h := h _ ez10
      refine lv_istore_n (lv' := [(3, .int z10), (2, .int r8), (1, .int (tw_I σ2 a0 7)), (0, .ref a0)]) X.1 X.2.1 dX9_readsMove_59 rfl hl (by decide) rfl (fun ls hl => ?_)
      have hl := lv_sub (l' := [(3, .int z10), (0, .ref a0)]) hl [0, 3] rfl
      refine lv_aload_n X.1 X.2.1 dX9_readsMove_60 rfl (lv_at hl 1 rfl) ?_
      refine tw_get X hK w 9 iw_X9_readsMove_9 h0 (by decide) rfl 6 (by decide) (List.mem_of_getElem? (i := 2) rfl) rfl dX9_readsMove_61 ?_
      refine lv_iload_n X.1 X.2.1 dX9_readsMove_64 rfl (lv_at hl 0 rfl) ?_
      obtain ⟨hi11, h⟩ := h
      refine tw_iald X hK w (tw_t_9_6 hT h0) (tw_n_9_6 hT h0) hi11 dX9_readsMove_65 ?_
      refine lv_iconst (v := -1) X.1 X.2.1 dX9_readsMove_66 (by decide) ?_
      refine lv_icmp_eq (tgt := 76) X.1 X.2.1 dX9_readsMove_67 (by decide) (fun c12 => ?_) (fun c12 => ?_)
      · have h := h.1 c12
        refine lv_aload_n X.1 X.2.1 dX9_readsMove_76 rfl (lv_at hl 1 rfl) ?_
        refine lv_dup X.1 X.2.1 dX9_readsMove_77 rfl ?_
        refine tw_get X hK w 9 iw_X9_readsMove_9 h0 (by decide) rfl 3 (by decide) (List.mem_of_getElem? (i := 1) rfl) rfl dX9_readsMove_78 ?_
        refine lv_iconst (v := 1) X.1 X.2.1 dX9_readsMove_81 (by decide) ?_
        refine lv_iadd X.1 X.2.1 dX9_readsMove_82 ?_
        refine tw_putI X hK w 9 iw_X9_readsMove_9 tyX9 tyX9_ok nmX9 h0 (by decide) rfl 3 (by decide) (List.mem_of_getElem? (i := 1) rfl) rfl (ty := .int) (by decide +kernel) rfl rfl (Nat.le_of_ble_eq_true rfl) (tw_f_9_3 g _ _ _) dX9_readsMove_83 (fun σ13 H locs eσ13 w => ?_)
        have h := h _ eσ13
        refine lv_aload_n X.1 X.2.1 dX9_readsMove_86 rfl (lv_at hl 1 rfl) ?_
        refine lv_iconst (v := 0) X.1 X.2.1 dX9_readsMove_87 (by decide) ?_
        refine lv_aload_n X.1 X.2.1 dX9_readsMove_88 rfl (lv_at hl 1 rfl) ?_
        refine tw_get X hK w 9 iw_X9_readsMove_9 h0 (by decide) rfl 6 (by decide) (List.mem_of_getElem? (i := 2) rfl) rfl dX9_readsMove_89 ?_
        refine lv_iconst (v := 0) X.1 X.2.1 dX9_readsMove_92 (by decide) ?_
        refine tw_iald X hK w (tw_t_9_6 hT h0) (tw_n_9_6 hT h0) (by unfold vp_in; decide) dX9_readsMove_93 ?_
        refine lv_iconst (v := 1) X.1 X.2.1 dX9_readsMove_94 (by decide) ?_
        refine lv_isub X.1 X.2.1 dX9_readsMove_95 ?_
        refine tw_ci w (va_runV (As := [.int (0 : Int32), .int ((tw_A σ13 (tw_R g a0 6) (0 : Int32).toNatClampNeg) - (1 : Int32))]) (rest := []) X (ct_X9_isFigure l D g hT _ σ13 a0 h0 (0 : Int32) ((tw_A σ13 (tw_R g a0 6) (0 : Int32).toNatClampNeg) - (1 : Int32)) _ h) (cwV 2 X.2.2.2.2 gX9_readsMove_X9_isFigure rfl rfl rfl (by decide +kernel) ⟨Nat.le_of_ble_eq_true rfl, Nat.le_of_ble_eq_true rfl⟩) (tw_preV hK w h0 (by decide) rfl [.int (0 : Int32), .int ((tw_A σ13 (tw_R g a0 6) (0 : Int32).toNatClampNeg) - (1 : Int32))]) rfl rfl hl.1 rfl (lv_room (Nat.le_of_ble_eq_true rfl)) dX9_readsMove_96 ⟨Nat.zero_le _, Nat.zero_le _⟩) (fun r15 σ14 H locs h w => ?_)
        refine lv_if_ne (tgt := 104) X.1 X.2.1 dX9_readsMove_99 (by decide) (fun c16 => ?_) (fun c16 => ?_)
        · have h := h.1 c16
          refine lv_aload_n X.1 X.2.1 dX9_readsMove_104 rfl (lv_at hl 1 rfl) ?_
          refine tw_get X hK w 9 iw_X9_readsMove_9 h0 (by decide) rfl 7 (by decide) (List.mem_of_getElem? (i := 3) rfl) rfl dX9_readsMove_105 ?_
          refine lv_istore (lv' := [(4, .int (tw_I σ14 a0 7)), (3, .int z10), (0, .ref a0)]) X.1 X.2.1 dX9_readsMove_108 hl (by decide) rfl (fun ls hl => ?_)
          refine lv_aload_n X.1 X.2.1 dX9_readsMove_110 rfl (lv_at hl 2 rfl) ?_
          refine tw_ci w (va_runV (As := []) (rest := []) X (ct_X9_here l D g hT _ σ14 a0 h0 _ h) (cwV 0 X.2.2.2.2 gX9_readsMove_X9_here rfl rfl rfl (by decide +kernel) ⟨Nat.le_of_ble_eq_true rfl, Nat.le_of_ble_eq_true rfl⟩) (tw_preV hK w h0 (by decide) rfl []) rfl rfl hl.1 rfl (lv_room (Nat.le_of_ble_eq_true rfl)) dX9_readsMove_111 ⟨Nat.zero_le _, Nat.zero_le _⟩) (fun r18 σ17 H locs h w => ?_)
          refine lv_bipush (v := 114) X.1 X.2.1 dX9_readsMove_114 (by decide) ?_
          refine lv_icmp_ne (tgt := 123) X.1 X.2.1 dX9_readsMove_116 (by decide) (fun c19 => ?_) (fun c19 => ?_)
          · have h := h.1 c19
            refine lv_iconst (v := 0) X.1 X.2.1 dX9_readsMove_123 (by decide) ?_
            refine lv_istore (lv' := [(5, .int (0 : Int32)), (4, .int (tw_I σ14 a0 7)), (3, .int z10), (0, .ref a0)]) X.1 X.2.1 dX9_readsMove_124 hl (by decide) rfl (fun ls hl => ?_)
            refine lv_iload X.1 X.2.1 dX9_readsMove_126 (lv_at hl 0 rfl) ?_
            refine lv_if_ne (tgt := 146) X.1 X.2.1 dX9_readsMove_128 (by decide) (fun c20 => ?_) (fun c20 => ?_)
            · have h := h.1 c20
              refine lv_aload_n X.1 X.2.1 dX9_readsMove_146 rfl (lv_at hl 3 rfl) ?_
              refine lv_dup X.1 X.2.1 dX9_readsMove_147 rfl ?_
              refine tw_get X hK w 9 iw_X9_readsMove_9 h0 (by decide) rfl 3 (by decide) (List.mem_of_getElem? (i := 1) rfl) rfl dX9_readsMove_148 ?_
              refine lv_iconst (v := 1) X.1 X.2.1 dX9_readsMove_151 (by decide) ?_
              refine lv_iadd X.1 X.2.1 dX9_readsMove_152 ?_
              refine tw_putI X hK w 9 iw_X9_readsMove_9 tyX9 tyX9_ok nmX9 h0 (by decide) rfl 3 (by decide) (List.mem_of_getElem? (i := 1) rfl) rfl (ty := .int) (by decide +kernel) rfl rfl (Nat.le_of_ble_eq_true rfl) (tw_f_9_3 g _ _ _) dX9_readsMove_153 (fun σ21 H locs eσ21 w => ?_)
              have h := h _ eσ21
              refine lv_aload_n X.1 X.2.1 dX9_readsMove_156 rfl (lv_at hl 3 rfl) ?_
              refine tw_get X hK w 9 iw_X9_readsMove_9 h0 (by decide) rfl 6 (by decide) (List.mem_of_getElem? (i := 2) rfl) rfl dX9_readsMove_157 ?_
              refine lv_iload_n X.1 X.2.1 dX9_readsMove_160 rfl (lv_at hl 2 rfl) ?_
              refine lv_iconst (v := 2) X.1 X.2.1 dX9_readsMove_161 (by decide) ?_
              refine lv_iload X.1 X.2.1 dX9_readsMove_162 (lv_at hl 1 rfl) ?_
              refine lv_imul X.1 X.2.1 dX9_readsMove_164 ?_
              refine lv_iload X.1 X.2.1 dX9_readsMove_165 (lv_at hl 0 rfl) ?_
              refine lv_if_eq (tgt := 174) X.1 X.2.1 dX9_readsMove_167 (by decide) (fun c22 => ?_) (fun c22 => ?_)
              · have h := h.1 c22
                refine lv_iconst (v := 0) X.1 X.2.1 dX9_readsMove_174 (by decide) ?_
                refine lv_iadd X.1 X.2.1 dX9_readsMove_175 ?_
                obtain ⟨hi23, h⟩ := h
                refine tw_iast X hK w (tw_t_9_6 hT h0) (tw_n_9_6 hT h0) hi23 dX9_readsMove_176 (fun σ24 H locs eσ24 w => ?_)
                have h := h _ eσ24
                refine lv_aload_n X.1 X.2.1 dX9_readsMove_177 rfl (lv_at hl 3 rfl) ?_
                refine lv_bipush (v := 59) X.1 X.2.1 dX9_readsMove_178 (by decide) ?_
                refine tw_ci w (va_runV (As := [.int (59 : Int32)]) (rest := []) X (ct_X9_must l D g hT _ σ24 a0 h0 (59 : Int32) _ h) (cwV 1 X.2.2.2.2 gX9_readsMove_X9_must rfl rfl rfl (by decide +kernel) ⟨Nat.le_of_ble_eq_true rfl, Nat.le_of_ble_eq_true rfl⟩) (tw_preV hK w h0 (by decide) rfl [.int (59 : Int32)]) rfl rfl hl.1 rfl (lv_room (Nat.le_of_ble_eq_true rfl)) dX9_readsMove_180 ⟨Nat.zero_le _, Nat.zero_le _⟩) (fun r26 σ25 H locs h w => ?_)
                exact tw_zret X hr hlk w h.1 h.2 dX9_readsMove_183
              · have h := h.2 c22
                refine lv_iconst (v := 1) X.1 X.2.1 dX9_readsMove_170 (by decide) ?_
                refine lv_goto (tgt := 175) X.1 X.2.1 dX9_readsMove_171 (by decide) ?_
                refine lv_iadd X.1 X.2.1 dX9_readsMove_175 ?_
                obtain ⟨hi27, h⟩ := h
                refine tw_iast X hK w (tw_t_9_6 hT h0) (tw_n_9_6 hT h0) hi27 dX9_readsMove_176 (fun σ28 H locs eσ28 w => ?_)
                have h := h _ eσ28
                refine lv_aload_n X.1 X.2.1 dX9_readsMove_177 rfl (lv_at hl 3 rfl) ?_
                refine lv_bipush (v := 59) X.1 X.2.1 dX9_readsMove_178 (by decide) ?_
                refine tw_ci w (va_runV (As := [.int (59 : Int32)]) (rest := []) X (ct_X9_must l D g hT _ σ28 a0 h0 (59 : Int32) _ h) (cwV 1 X.2.2.2.2 gX9_readsMove_X9_must rfl rfl rfl (by decide +kernel) ⟨Nat.le_of_ble_eq_true rfl, Nat.le_of_ble_eq_true rfl⟩) (tw_preV hK w h0 (by decide) rfl [.int (59 : Int32)]) rfl rfl hl.1 rfl (lv_room (Nat.le_of_ble_eq_true rfl)) dX9_readsMove_180 ⟨Nat.zero_le _, Nat.zero_le _⟩) (fun r30 σ29 H locs h w => ?_)
                exact tw_zret X hr hlk w h.1 h.2 dX9_readsMove_183
            · have h := h.2 c20
              refine lv_aload_n X.1 X.2.1 dX9_readsMove_131 rfl (lv_at hl 3 rfl) ?_
              refine tw_ci w (va_runV (As := []) (rest := []) X (ct_X9_here l D g hT _ σ17 a0 h0 _ h) (cwV 0 X.2.2.2.2 gX9_readsMove_X9_here rfl rfl rfl (by decide +kernel) ⟨Nat.le_of_ble_eq_true rfl, Nat.le_of_ble_eq_true rfl⟩) (tw_preV hK w h0 (by decide) rfl []) rfl rfl hl.1 rfl (lv_room (Nat.le_of_ble_eq_true rfl)) dX9_readsMove_132 ⟨Nat.zero_le _, Nat.zero_le _⟩) (fun r32 σ31 H locs h w => ?_)
              refine lv_bipush (v := 108) X.1 X.2.1 dX9_readsMove_135 (by decide) ?_
              refine lv_icmp_eq (tgt := 146) X.1 X.2.1 dX9_readsMove_137 (by decide) (fun c33 => ?_) (fun c33 => ?_)
              · have h := h.1 c33
                refine lv_aload_n X.1 X.2.1 dX9_readsMove_146 rfl (lv_at hl 3 rfl) ?_
                refine lv_dup X.1 X.2.1 dX9_readsMove_147 rfl ?_
                refine tw_get X hK w 9 iw_X9_readsMove_9 h0 (by decide) rfl 3 (by decide) (List.mem_of_getElem? (i := 1) rfl) rfl dX9_readsMove_148 ?_
                refine lv_iconst (v := 1) X.1 X.2.1 dX9_readsMove_151 (by decide) ?_
                refine lv_iadd X.1 X.2.1 dX9_readsMove_152 ?_
                refine tw_putI X hK w 9 iw_X9_readsMove_9 tyX9 tyX9_ok nmX9 h0 (by decide) rfl 3 (by decide) (List.mem_of_getElem? (i := 1) rfl) rfl (ty := .int) (by decide +kernel) rfl rfl (Nat.le_of_ble_eq_true rfl) (tw_f_9_3 g _ _ _) dX9_readsMove_153 (fun σ34 H locs eσ34 w => ?_)
                have h := h _ eσ34
                refine lv_aload_n X.1 X.2.1 dX9_readsMove_156 rfl (lv_at hl 3 rfl) ?_
                refine tw_get X hK w 9 iw_X9_readsMove_9 h0 (by decide) rfl 6 (by decide) (List.mem_of_getElem? (i := 2) rfl) rfl dX9_readsMove_157 ?_
                refine lv_iload_n X.1 X.2.1 dX9_readsMove_160 rfl (lv_at hl 2 rfl) ?_
                refine lv_iconst (v := 2) X.1 X.2.1 dX9_readsMove_161 (by decide) ?_
                refine lv_iload X.1 X.2.1 dX9_readsMove_162 (lv_at hl 1 rfl) ?_
                refine lv_imul X.1 X.2.1 dX9_readsMove_164 ?_
                refine lv_iload X.1 X.2.1 dX9_readsMove_165 (lv_at hl 0 rfl) ?_
                refine lv_if_eq (tgt := 174) X.1 X.2.1 dX9_readsMove_167 (by decide) (fun c35 => ?_) (fun c35 => ?_)
                · have h := h.1 c35
                  refine lv_iconst (v := 0) X.1 X.2.1 dX9_readsMove_174 (by decide) ?_
                  refine lv_iadd X.1 X.2.1 dX9_readsMove_175 ?_
                  obtain ⟨hi36, h⟩ := h
                  refine tw_iast X hK w (tw_t_9_6 hT h0) (tw_n_9_6 hT h0) hi36 dX9_readsMove_176 (fun σ37 H locs eσ37 w => ?_)
                  have h := h _ eσ37
                  refine lv_aload_n X.1 X.2.1 dX9_readsMove_177 rfl (lv_at hl 3 rfl) ?_
                  refine lv_bipush (v := 59) X.1 X.2.1 dX9_readsMove_178 (by decide) ?_
                  refine tw_ci w (va_runV (As := [.int (59 : Int32)]) (rest := []) X (ct_X9_must l D g hT _ σ37 a0 h0 (59 : Int32) _ h) (cwV 1 X.2.2.2.2 gX9_readsMove_X9_must rfl rfl rfl (by decide +kernel) ⟨Nat.le_of_ble_eq_true rfl, Nat.le_of_ble_eq_true rfl⟩) (tw_preV hK w h0 (by decide) rfl [.int (59 : Int32)]) rfl rfl hl.1 rfl (lv_room (Nat.le_of_ble_eq_true rfl)) dX9_readsMove_180 ⟨Nat.zero_le _, Nat.zero_le _⟩) (fun r39 σ38 H locs h w => ?_)
                  exact tw_zret X hr hlk w h.1 h.2 dX9_readsMove_183
                · have h := h.2 c35
                  refine lv_iconst (v := 1) X.1 X.2.1 dX9_readsMove_170 (by decide) ?_
                  refine lv_goto (tgt := 175) X.1 X.2.1 dX9_readsMove_171 (by decide) ?_
                  refine lv_iadd X.1 X.2.1 dX9_readsMove_175 ?_
                  obtain ⟨hi40, h⟩ := h
                  refine tw_iast X hK w (tw_t_9_6 hT h0) (tw_n_9_6 hT h0) hi40 dX9_readsMove_176 (fun σ41 H locs eσ41 w => ?_)
                  have h := h _ eσ41
                  refine lv_aload_n X.1 X.2.1 dX9_readsMove_177 rfl (lv_at hl 3 rfl) ?_
                  refine lv_bipush (v := 59) X.1 X.2.1 dX9_readsMove_178 (by decide) ?_
                  refine tw_ci w (va_runV (As := [.int (59 : Int32)]) (rest := []) X (ct_X9_must l D g hT _ σ41 a0 h0 (59 : Int32) _ h) (cwV 1 X.2.2.2.2 gX9_readsMove_X9_must rfl rfl rfl (by decide +kernel) ⟨Nat.le_of_ble_eq_true rfl, Nat.le_of_ble_eq_true rfl⟩) (tw_preV hK w h0 (by decide) rfl [.int (59 : Int32)]) rfl rfl hl.1 rfl (lv_room (Nat.le_of_ble_eq_true rfl)) dX9_readsMove_180 ⟨Nat.zero_le _, Nat.zero_le _⟩) (fun r43 σ42 H locs h w => ?_)
                  exact tw_zret X hr hlk w h.1 h.2 dX9_readsMove_183
              · have h := h.2 c33
                refine lv_aload_n X.1 X.2.1 dX9_readsMove_140 rfl (lv_at hl 3 rfl) ?_
                refine lv_iconst (v := 1) X.1 X.2.1 dX9_readsMove_141 (by decide) ?_
                refine tw_ci w (va_runV (As := [.int (1 : Int32)]) (rest := []) X (ct_X9_wrong l D g hT _ σ31 a0 h0 (1 : Int32) _ h) (cwV 1 X.2.2.2.2 gX9_readsMove_X9_wrong rfl rfl rfl (by decide +kernel) ⟨Nat.le_of_ble_eq_true rfl, Nat.le_of_ble_eq_true rfl⟩) (tw_preV hK w h0 (by decide) rfl [.int (1 : Int32)]) rfl rfl hl.1 rfl (lv_room (Nat.le_of_ble_eq_true rfl)) dX9_readsMove_142 ⟨Nat.zero_le _, Nat.zero_le _⟩) (fun r45 σ44 H locs h w => ?_)
                exact tw_zret X hr hlk w h.1 h.2 dX9_readsMove_145
          · have h := h.2 c19
            refine lv_iconst (v := 1) X.1 X.2.1 dX9_readsMove_119 (by decide) ?_
            refine lv_goto (tgt := 124) X.1 X.2.1 dX9_readsMove_120 (by decide) ?_
            refine lv_istore (lv' := [(5, .int (1 : Int32)), (4, .int (tw_I σ14 a0 7)), (3, .int z10), (0, .ref a0)]) X.1 X.2.1 dX9_readsMove_124 hl (by decide) rfl (fun ls hl => ?_)
            refine lv_iload X.1 X.2.1 dX9_readsMove_126 (lv_at hl 0 rfl) ?_
            refine lv_if_ne (tgt := 146) X.1 X.2.1 dX9_readsMove_128 (by decide) (fun c46 => ?_) (fun c46 => ?_)
            · have h := h.1 c46
              refine lv_aload_n X.1 X.2.1 dX9_readsMove_146 rfl (lv_at hl 3 rfl) ?_
              refine lv_dup X.1 X.2.1 dX9_readsMove_147 rfl ?_
              refine tw_get X hK w 9 iw_X9_readsMove_9 h0 (by decide) rfl 3 (by decide) (List.mem_of_getElem? (i := 1) rfl) rfl dX9_readsMove_148 ?_
              refine lv_iconst (v := 1) X.1 X.2.1 dX9_readsMove_151 (by decide) ?_
              refine lv_iadd X.1 X.2.1 dX9_readsMove_152 ?_
              refine tw_putI X hK w 9 iw_X9_readsMove_9 tyX9 tyX9_ok nmX9 h0 (by decide) rfl 3 (by decide) (List.mem_of_getElem? (i := 1) rfl) rfl (ty := .int) (by decide +kernel) rfl rfl (Nat.le_of_ble_eq_true rfl) (tw_f_9_3 g _ _ _) dX9_readsMove_153 (fun σ47 H locs eσ47 w => ?_)
              have h := h _ eσ47
              refine lv_aload_n X.1 X.2.1 dX9_readsMove_156 rfl (lv_at hl 3 rfl) ?_
              refine tw_get X hK w 9 iw_X9_readsMove_9 h0 (by decide) rfl 6 (by decide) (List.mem_of_getElem? (i := 2) rfl) rfl dX9_readsMove_157 ?_
              refine lv_iload_n X.1 X.2.1 dX9_readsMove_160 rfl (lv_at hl 2 rfl) ?_
              refine lv_iconst (v := 2) X.1 X.2.1 dX9_readsMove_161 (by decide) ?_
              refine lv_iload X.1 X.2.1 dX9_readsMove_162 (lv_at hl 1 rfl) ?_
              refine lv_imul X.1 X.2.1 dX9_readsMove_164 ?_
              refine lv_iload X.1 X.2.1 dX9_readsMove_165 (lv_at hl 0 rfl) ?_
              refine lv_if_eq (tgt := 174) X.1 X.2.1 dX9_readsMove_167 (by decide) (fun c48 => ?_) (fun c48 => ?_)
              · have h := h.1 c48
                refine lv_iconst (v := 0) X.1 X.2.1 dX9_readsMove_174 (by decide) ?_
                refine lv_iadd X.1 X.2.1 dX9_readsMove_175 ?_
                obtain ⟨hi49, h⟩ := h
                refine tw_iast X hK w (tw_t_9_6 hT h0) (tw_n_9_6 hT h0) hi49 dX9_readsMove_176 (fun σ50 H locs eσ50 w => ?_)
                have h := h _ eσ50
                refine lv_aload_n X.1 X.2.1 dX9_readsMove_177 rfl (lv_at hl 3 rfl) ?_
                refine lv_bipush (v := 59) X.1 X.2.1 dX9_readsMove_178 (by decide) ?_
                refine tw_ci w (va_runV (As := [.int (59 : Int32)]) (rest := []) X (ct_X9_must l D g hT _ σ50 a0 h0 (59 : Int32) _ h) (cwV 1 X.2.2.2.2 gX9_readsMove_X9_must rfl rfl rfl (by decide +kernel) ⟨Nat.le_of_ble_eq_true rfl, Nat.le_of_ble_eq_true rfl⟩) (tw_preV hK w h0 (by decide) rfl [.int (59 : Int32)]) rfl rfl hl.1 rfl (lv_room (Nat.le_of_ble_eq_true rfl)) dX9_readsMove_180 ⟨Nat.zero_le _, Nat.zero_le _⟩) (fun r52 σ51 H locs h w => ?_)
                exact tw_zret X hr hlk w h.1 h.2 dX9_readsMove_183
              · have h := h.2 c48
                refine lv_iconst (v := 1) X.1 X.2.1 dX9_readsMove_170 (by decide) ?_
                refine lv_goto (tgt := 175) X.1 X.2.1 dX9_readsMove_171 (by decide) ?_
                refine lv_iadd X.1 X.2.1 dX9_readsMove_175 ?_
                obtain ⟨hi53, h⟩ := h
                refine tw_iast X hK w (tw_t_9_6 hT h0) (tw_n_9_6 hT h0) hi53 dX9_readsMove_176 (fun σ54 H locs eσ54 w => ?_)
                have h := h _ eσ54
                refine lv_aload_n X.1 X.2.1 dX9_readsMove_177 rfl (lv_at hl 3 rfl) ?_
                refine lv_bipush (v := 59) X.1 X.2.1 dX9_readsMove_178 (by decide) ?_
                refine tw_ci w (va_runV (As := [.int (59 : Int32)]) (rest := []) X (ct_X9_must l D g hT _ σ54 a0 h0 (59 : Int32) _ h) (cwV 1 X.2.2.2.2 gX9_readsMove_X9_must rfl rfl rfl (by decide +kernel) ⟨Nat.le_of_ble_eq_true rfl, Nat.le_of_ble_eq_true rfl⟩) (tw_preV hK w h0 (by decide) rfl [.int (59 : Int32)]) rfl rfl hl.1 rfl (lv_room (Nat.le_of_ble_eq_true rfl)) dX9_readsMove_180 ⟨Nat.zero_le _, Nat.zero_le _⟩) (fun r56 σ55 H locs h w => ?_)
                exact tw_zret X hr hlk w h.1 h.2 dX9_readsMove_183
            · have h := h.2 c46
              refine lv_aload_n X.1 X.2.1 dX9_readsMove_131 rfl (lv_at hl 3 rfl) ?_
              refine tw_ci w (va_runV (As := []) (rest := []) X (ct_X9_here l D g hT _ σ17 a0 h0 _ h) (cwV 0 X.2.2.2.2 gX9_readsMove_X9_here rfl rfl rfl (by decide +kernel) ⟨Nat.le_of_ble_eq_true rfl, Nat.le_of_ble_eq_true rfl⟩) (tw_preV hK w h0 (by decide) rfl []) rfl rfl hl.1 rfl (lv_room (Nat.le_of_ble_eq_true rfl)) dX9_readsMove_132 ⟨Nat.zero_le _, Nat.zero_le _⟩) (fun r58 σ57 H locs h w => ?_)
              refine lv_bipush (v := 108) X.1 X.2.1 dX9_readsMove_135 (by decide) ?_
              refine lv_icmp_eq (tgt := 146) X.1 X.2.1 dX9_readsMove_137 (by decide) (fun c59 => ?_) (fun c59 => ?_)
              · have h := h.1 c59
                refine lv_aload_n X.1 X.2.1 dX9_readsMove_146 rfl (lv_at hl 3 rfl) ?_
                refine lv_dup X.1 X.2.1 dX9_readsMove_147 rfl ?_
                refine tw_get X hK w 9 iw_X9_readsMove_9 h0 (by decide) rfl 3 (by decide) (List.mem_of_getElem? (i := 1) rfl) rfl dX9_readsMove_148 ?_
                refine lv_iconst (v := 1) X.1 X.2.1 dX9_readsMove_151 (by decide) ?_
                refine lv_iadd X.1 X.2.1 dX9_readsMove_152 ?_
                refine tw_putI X hK w 9 iw_X9_readsMove_9 tyX9 tyX9_ok nmX9 h0 (by decide) rfl 3 (by decide) (List.mem_of_getElem? (i := 1) rfl) rfl (ty := .int) (by decide +kernel) rfl rfl (Nat.le_of_ble_eq_true rfl) (tw_f_9_3 g _ _ _) dX9_readsMove_153 (fun σ60 H locs eσ60 w => ?_)
                have h := h _ eσ60
                refine lv_aload_n X.1 X.2.1 dX9_readsMove_156 rfl (lv_at hl 3 rfl) ?_
                refine tw_get X hK w 9 iw_X9_readsMove_9 h0 (by decide) rfl 6 (by decide) (List.mem_of_getElem? (i := 2) rfl) rfl dX9_readsMove_157 ?_
                refine lv_iload_n X.1 X.2.1 dX9_readsMove_160 rfl (lv_at hl 2 rfl) ?_
                refine lv_iconst (v := 2) X.1 X.2.1 dX9_readsMove_161 (by decide) ?_
                refine lv_iload X.1 X.2.1 dX9_readsMove_162 (lv_at hl 1 rfl) ?_
                refine lv_imul X.1 X.2.1 dX9_readsMove_164 ?_
                refine lv_iload X.1 X.2.1 dX9_readsMove_165 (lv_at hl 0 rfl) ?_
                refine lv_if_eq (tgt := 174) X.1 X.2.1 dX9_readsMove_167 (by decide) (fun c61 => ?_) (fun c61 => ?_)
                · have h := h.1 c61
                  refine lv_iconst (v := 0) X.1 X.2.1 dX9_readsMove_174 (by decide) ?_
                  refine lv_iadd X.1 X.2.1 dX9_readsMove_175 ?_
                  obtain ⟨hi62, h⟩ := h
                  refine tw_iast X hK w (tw_t_9_6 hT h0) (tw_n_9_6 hT h0) hi62 dX9_readsMove_176 (fun σ63 H locs eσ63 w => ?_)
                  have h := h _ eσ63
                  refine lv_aload_n X.1 X.2.1 dX9_readsMove_177 rfl (lv_at hl 3 rfl) ?_
                  refine lv_bipush (v := 59) X.1 X.2.1 dX9_readsMove_178 (by decide) ?_
                  refine tw_ci w (va_runV (As := [.int (59 : Int32)]) (rest := []) X (ct_X9_must l D g hT _ σ63 a0 h0 (59 : Int32) _ h) (cwV 1 X.2.2.2.2 gX9_readsMove_X9_must rfl rfl rfl (by decide +kernel) ⟨Nat.le_of_ble_eq_true rfl, Nat.le_of_ble_eq_true rfl⟩) (tw_preV hK w h0 (by decide) rfl [.int (59 : Int32)]) rfl rfl hl.1 rfl (lv_room (Nat.le_of_ble_eq_true rfl)) dX9_readsMove_180 ⟨Nat.zero_le _, Nat.zero_le _⟩) (fun r65 σ64 H locs h w => ?_)
                  exact tw_zret X hr hlk w h.1 h.2 dX9_readsMove_183
                · have h := h.2 c61
                  refine lv_iconst (v := 1) X.1 X.2.1 dX9_readsMove_170 (by decide) ?_
                  refine lv_goto (tgt := 175) X.1 X.2.1 dX9_readsMove_171 (by decide) ?_
                  refine lv_iadd X.1 X.2.1 dX9_readsMove_175 ?_
                  obtain ⟨hi66, h⟩ := h
                  refine tw_iast X hK w (tw_t_9_6 hT h0) (tw_n_9_6 hT h0) hi66 dX9_readsMove_176 (fun σ67 H locs eσ67 w => ?_)
                  have h := h _ eσ67
                  refine lv_aload_n X.1 X.2.1 dX9_readsMove_177 rfl (lv_at hl 3 rfl) ?_
                  refine lv_bipush (v := 59) X.1 X.2.1 dX9_readsMove_178 (by decide) ?_
                  refine tw_ci w (va_runV (As := [.int (59 : Int32)]) (rest := []) X (ct_X9_must l D g hT _ σ67 a0 h0 (59 : Int32) _ h) (cwV 1 X.2.2.2.2 gX9_readsMove_X9_must rfl rfl rfl (by decide +kernel) ⟨Nat.le_of_ble_eq_true rfl, Nat.le_of_ble_eq_true rfl⟩) (tw_preV hK w h0 (by decide) rfl [.int (59 : Int32)]) rfl rfl hl.1 rfl (lv_room (Nat.le_of_ble_eq_true rfl)) dX9_readsMove_180 ⟨Nat.zero_le _, Nat.zero_le _⟩) (fun r69 σ68 H locs h w => ?_)
                  exact tw_zret X hr hlk w h.1 h.2 dX9_readsMove_183
              · have h := h.2 c59
                refine lv_aload_n X.1 X.2.1 dX9_readsMove_140 rfl (lv_at hl 3 rfl) ?_
                refine lv_iconst (v := 1) X.1 X.2.1 dX9_readsMove_141 (by decide) ?_
                refine tw_ci w (va_runV (As := [.int (1 : Int32)]) (rest := []) X (ct_X9_wrong l D g hT _ σ57 a0 h0 (1 : Int32) _ h) (cwV 1 X.2.2.2.2 gX9_readsMove_X9_wrong rfl rfl rfl (by decide +kernel) ⟨Nat.le_of_ble_eq_true rfl, Nat.le_of_ble_eq_true rfl⟩) (tw_preV hK w h0 (by decide) rfl [.int (1 : Int32)]) rfl rfl hl.1 rfl (lv_room (Nat.le_of_ble_eq_true rfl)) dX9_readsMove_142 ⟨Nat.zero_le _, Nat.zero_le _⟩) (fun r71 σ70 H locs h w => ?_)
                exact tw_zret X hr hlk w h.1 h.2 dX9_readsMove_145
        · have h := h.2 c16
          refine lv_iconst (v := 0) X.1 X.2.1 dX9_readsMove_102 (by decide) ?_
          exact tw_zret X hr hlk w (by decide) h dX9_readsMove_103
      · have h := h.2 c12
        refine lv_aload_n X.1 X.2.1 dX9_readsMove_70 rfl (lv_at hl 1 rfl) ?_
        refine lv_iconst (v := 4) X.1 X.2.1 dX9_readsMove_71 (by decide) ?_
        refine tw_ci w (va_runV (As := [.int (4 : Int32)]) (rest := []) X (ct_X9_wrong l D g hT _ σ7 a0 h0 (4 : Int32) _ h) (cwV 1 X.2.2.2.2 gX9_readsMove_X9_wrong rfl rfl rfl (by decide +kernel) ⟨Nat.le_of_ble_eq_true rfl, Nat.le_of_ble_eq_true rfl⟩) (tw_preV hK w h0 (by decide) rfl [.int (4 : Int32)]) rfl rfl hl.1 rfl (lv_room (Nat.le_of_ble_eq_true rfl)) dX9_readsMove_72 ⟨Nat.zero_le _, Nat.zero_le _⟩) (fun r73 σ72 H locs h w => ?_)
        exact tw_zret X hr hlk w h.1 h.2 dX9_readsMove_75
    · have h := h.2 c9
      refine lv_aload_n X.1 X.2.1 dX9_readsMove_46 rfl (lv_at hl 2 rfl) ?_
      refine lv_iconst (v := 1) X.1 X.2.1 dX9_readsMove_47 (by decide) ?_
      refine tw_ci w (va_runV (As := [.int (1 : Int32)]) (rest := []) X (ct_X9_wrong l D g hT _ σ7 a0 h0 (1 : Int32) _ h) (cwV 1 X.2.2.2.2 gX9_readsMove_X9_wrong rfl rfl rfl (by decide +kernel) ⟨Nat.le_of_ble_eq_true rfl, Nat.le_of_ble_eq_true rfl⟩) (tw_preV hK w h0 (by decide) rfl [.int (1 : Int32)]) rfl rfl hl.1 rfl (lv_room (Nat.le_of_ble_eq_true rfl)) dX9_readsMove_48 ⟨Nat.zero_le _, Nat.zero_le _⟩) (fun r75 σ74 H locs h w => ?_)
      exact tw_zret X hr hlk w h.1 h.2 dX9_readsMove_51
  · have h := h.2 c4
    refine lv_iconst (v := 0) X.1 X.2.1 dX9_readsMove_26 (by decide) ?_
    exact tw_zret X hr hlk w (by decide) h dX9_readsMove_27

abbrev RM_X9_reads : Room := { frames := 3, cells := 0, slots := 0, locals := 72 }
theorem iw_X9_reads_9 : ∀ w ∈ wsX90, w ∈ wsX9_reads := fun w h => List.mem_cons_of_mem _ (List.mem_append_right _ (h))
def wl_X9_reads_9 (g : tw_G) (a0 : Nat) (Q : Int32 → tw_S → Prop) (k28 : tw_S → Prop) : Nat → Int32 → tw_S → Prop
  | 0, _, _ => False
  | n + 1, x1, σ => (((17 : Int32) ≤ x1) → k28  σ) ∧ (¬ ((17 : Int32) ≤ x1) → vp_in x1 17 ∧ ∀ σ4, σ4 = (tw_sA σ (tw_R g a0 6) (upd (tw_A σ (tw_R g a0 6)) x1.toNatClampNeg (-1 : Int32))) → wl_X9_reads_9 g a0 Q k28 n (x1 + 1) σ4)
def wl_X9_reads_79 (g : tw_G) (a0 : Nat) (Q : Int32 → tw_S → Prop) (k96 : tw_S → Prop) (k111 : tw_S → Prop) (k124 : tw_S → Prop) (k126 : tw_S → Prop) : Nat → tw_S → Prop
  | 0, _ => False
  | n + 1, σ => wp_X9_here g σ a0 (fun r20 σ19 => ((r20 = (-1 : Int32)) → k126  σ19) ∧ (¬ (r20 = (-1 : Int32)) → wp_X9_here g σ19 a0 (fun r23 σ22 => ((¬ r23 = (113 : Int32)) → wp_X9_here g σ22 a0 (fun r26 σ25 => ((r26 = (109 : Int32)) → wp_X9_readsMove g σ25 a0 (fun r29 σ28 => ((¬ r29 = 0) → wl_X9_reads_79 g a0 Q k96 k111 k124 k126 n  σ28) ∧ ((r29 = 0) → k124  σ28))) ∧ (¬ (r26 = (109 : Int32)) → k111  σ25))) ∧ ((r23 = (113 : Int32)) → k96  σ22))))
def wp_X9_reads (g : tw_G) (σ : tw_S) (a0 : Nat) (Q : Int32 → tw_S → Prop) : Prop := ∀ σ1, σ1 = (tw_sA σ (tw_R g a0 6) (upd (tw_A σ (tw_R g a0 6)) (0 : Int32).toNatClampNeg (1 : Int32))) → ∃ n9, wl_X9_reads_9 g a0 Q (fun σ5 => wp_X9_here g σ5 a0 (fun r7 σ6 => ((¬ r7 = (-1 : Int32)) → wp_X9_must g σ6 a0 (113 : Int32) (fun r10 σ9 => ((r10 = 0) → Q (0 : Int32) σ9) ∧ (¬ (r10 = 0) → wp_X9_isFigure g σ9 a0 (1 : Int32) (4 : Int32) (fun r13 σ12 => ((¬ r13 = 0) → ∀ σ15, σ15 = (tw_sA σ12 (tw_R g a0 6) (upd (tw_A σ12 (tw_R g a0 6)) (0 : Int32).toNatClampNeg (tw_I σ12 a0 7))) → wp_X9_must g σ15 a0 (59 : Int32) (fun r17 σ16 => ((¬ r17 = 0) → ∃ n79, wl_X9_reads_79 g a0 Q (fun σ31 => wp_X9_wrong g σ31 a0 (3 : Int32) (fun r33 σ32 => narrow .boolean (.int r33) = .int r33 ∧ Q r33 σ32)) (fun σ34 => wp_X9_wrong g σ34 a0 (1 : Int32) (fun r36 σ35 => narrow .boolean (.int r36) = .int r36 ∧ Q r36 σ35)) (fun σ37 => Q (0 : Int32) σ37) (fun σ38 => Q (1 : Int32) σ38) n79  σ16) ∧ ((r17 = 0) → Q (0 : Int32) σ16))) ∧ ((r13 = 0) → Q (0 : Int32) σ12))))) ∧ ((r7 = (-1 : Int32)) → Q (1 : Int32) σ6))) n9 (1 : Int32) σ1
set_option maxHeartbeats 4000000 in
set_option maxRecDepth 100000 in
theorem lp_X9_reads_9 {p : Program} {l : Launch} {e : Env} {s : State} {m : MethodId} {args : Array Value} {below : List Frame} {meth : Method} {c : Code} {D : va_G} {g : tw_G} (X : CallFix p m c cX9_reads 2 s args wsX9_reads RX9) (hr : meth.sig.returnType = (some .boolean)) (hlk : meth.locks = false) (hK : tw_k D g s) (hT : tw_T g) {a0 : Nat} (h0 : tw_is g 9 a0) {Q : Int32 → tw_S → Prop} {k28 : tw_S → Prop}
    (hk28 : ∀  (σ : tw_S) (H : Heap) (locs : List Loc) (ls : Array Slot), k28  σ → tw_w D g (tw_F g s.heap.size) s σ H locs → lv_has ls 2 [(0, .ref a0)] → W p l e RM_X9_reads s m args below meth c H locs 0 0 (tw_Qi Q D g below args s) (F0 m 28 ls []))
    : ∀ (n : Nat) (x1 : Int32) (σ : tw_S) (H : Heap) (locs : List Loc) (ls : Array Slot), wl_X9_reads_9 g a0 Q k28 n x1 σ → tw_w D g (tw_F g s.heap.size) s σ H locs → lv_has ls 2 [(0, .ref a0), (1, .int x1)] → W p l e RM_X9_reads s m args below meth c H locs 0 0 (tw_Qi Q D g below args s) (F0 m 9 ls []) := by
  intro n
  induction n with
  | zero =>
    intro x1 σ H locs ls h w hl
    exact False.elim h
  | succ n ih =>
    intro x1 σ H locs ls h w hl
    rw [wl_X9_reads_9] at h
    refine lv_iload_n X.1 X.2.1 dX9_reads_9 rfl (lv_at hl 1 rfl) ?_
    refine lv_bipush (v := 17) X.1 X.2.1 dX9_reads_10 (by decide) ?_
    refine lv_icmp_ge (tgt := 28) X.1 X.2.1 dX9_reads_12 (by decide) (fun c2 => ?_) (fun c2 => ?_)
    · have h := h.1 c2
      exact hk28  σ _ _ ls h w (lv_sub hl [0] rfl)
    · have h := h.2 c2
      refine lv_aload_n X.1 X.2.1 dX9_reads_15 rfl (lv_at hl 0 rfl) ?_
      refine tw_get X hK w 9 iw_X9_reads_9 h0 (by decide) rfl 6 (by decide) (List.mem_of_getElem? (i := 1) rfl) rfl dX9_reads_16 ?_
      refine lv_iload_n X.1 X.2.1 dX9_reads_19 rfl (lv_at hl 1 rfl) ?_
      refine lv_iconst (v := -1) X.1 X.2.1 dX9_reads_20 (by decide) ?_
      obtain ⟨hi3, h⟩ := h
      refine tw_iast X hK w (tw_t_9_6 hT h0) (tw_n_9_6 hT h0) hi3 dX9_reads_21 (fun σ4 H locs eσ4 w => ?_)
      have h := h _ eσ4
      refine lv_iinc (v := (x1 + 1)) (lv' := [(1, .int (x1 + 1)), (0, .ref a0)]) X.1 X.2.1 dX9_reads_22 hl (k := 1) rfl rfl (by decide) rfl (fun ls hl => ?_)
      refine lv_goto (tgt := 9) X.1 X.2.1 dX9_reads_25 (by decide) ?_
      exact ih (x1 + 1) σ4 _ _ ls h w (lv_sub hl [1, 0] rfl)
set_option maxHeartbeats 4000000 in
set_option maxRecDepth 100000 in
theorem lp_X9_reads_79 {p : Program} {l : Launch} {e : Env} {s : State} {m : MethodId} {args : Array Value} {below : List Frame} {meth : Method} {c : Code} {D : va_G} {g : tw_G} (X : CallFix p m c cX9_reads 2 s args wsX9_reads RX9) (hr : meth.sig.returnType = (some .boolean)) (hlk : meth.locks = false) (hK : tw_k D g s) (hT : tw_T g) {a0 : Nat} (h0 : tw_is g 9 a0) {Q : Int32 → tw_S → Prop} {k96 : tw_S → Prop} {k111 : tw_S → Prop} {k124 : tw_S → Prop} {k126 : tw_S → Prop}
    (hk96 : ∀  (σ : tw_S) (H : Heap) (locs : List Loc) (ls : Array Slot), k96  σ → tw_w D g (tw_F g s.heap.size) s σ H locs → lv_has ls 2 [(0, .ref a0)] → W p l e RM_X9_reads s m args below meth c H locs 0 0 (tw_Qi Q D g below args s) (F0 m 96 ls []))
    (hk111 : ∀  (σ : tw_S) (H : Heap) (locs : List Loc) (ls : Array Slot), k111  σ → tw_w D g (tw_F g s.heap.size) s σ H locs → lv_has ls 2 [(0, .ref a0)] → W p l e RM_X9_reads s m args below meth c H locs 0 0 (tw_Qi Q D g below args s) (F0 m 111 ls []))
    (hk124 : ∀  (σ : tw_S) (H : Heap) (locs : List Loc) (ls : Array Slot), k124  σ → tw_w D g (tw_F g s.heap.size) s σ H locs → lv_has ls 2 [] → W p l e RM_X9_reads s m args below meth c H locs 0 0 (tw_Qi Q D g below args s) (F0 m 124 ls []))
    (hk126 : ∀  (σ : tw_S) (H : Heap) (locs : List Loc) (ls : Array Slot), k126  σ → tw_w D g (tw_F g s.heap.size) s σ H locs → lv_has ls 2 [] → W p l e RM_X9_reads s m args below meth c H locs 0 0 (tw_Qi Q D g below args s) (F0 m 126 ls []))
    : ∀ (n : Nat)  (σ : tw_S) (H : Heap) (locs : List Loc) (ls : Array Slot), wl_X9_reads_79 g a0 Q k96 k111 k124 k126 n  σ → tw_w D g (tw_F g s.heap.size) s σ H locs → lv_has ls 2 [(0, .ref a0)] → W p l e RM_X9_reads s m args below meth c H locs 0 0 (tw_Qi Q D g below args s) (F0 m 79 ls []) := by
  intro n
  induction n with
  | zero =>
    intro  σ H locs ls h w hl
    exact False.elim h
  | succ n ih =>
    intro  σ H locs ls h w hl
    rw [wl_X9_reads_79] at h
    refine lv_aload_n X.1 X.2.1 dX9_reads_79 rfl (lv_at hl 0 rfl) ?_
    refine tw_ci w (va_runV (As := []) (rest := []) X (ct_X9_here l D g hT _ σ a0 h0 _ h) (cwV 0 X.2.2.2.2 gX9_reads_X9_here rfl rfl rfl (by decide +kernel) ⟨Nat.le_of_ble_eq_true rfl, Nat.le_of_ble_eq_true rfl⟩) (tw_preV hK w h0 (by decide) rfl []) rfl rfl hl.1 rfl (lv_room (Nat.le_of_ble_eq_true rfl)) dX9_reads_80 ⟨Nat.zero_le _, Nat.zero_le _⟩) (fun r20 σ19 H locs h w => ?_)
    refine lv_iconst (v := -1) X.1 X.2.1 dX9_reads_83 (by decide) ?_
    refine lv_icmp_eq (tgt := 126) X.1 X.2.1 dX9_reads_84 (by decide) (fun c21 => ?_) (fun c21 => ?_)
    · have h := h.1 c21
      exact hk126  σ19 _ _ ls h w (lv_sub hl [] rfl)
    · have h := h.2 c21
      refine lv_aload_n X.1 X.2.1 dX9_reads_87 rfl (lv_at hl 0 rfl) ?_
      refine tw_ci w (va_runV (As := []) (rest := []) X (ct_X9_here l D g hT _ σ19 a0 h0 _ h) (cwV 0 X.2.2.2.2 gX9_reads_X9_here rfl rfl rfl (by decide +kernel) ⟨Nat.le_of_ble_eq_true rfl, Nat.le_of_ble_eq_true rfl⟩) (tw_preV hK w h0 (by decide) rfl []) rfl rfl hl.1 rfl (lv_room (Nat.le_of_ble_eq_true rfl)) dX9_reads_88 ⟨Nat.zero_le _, Nat.zero_le _⟩) (fun r23 σ22 H locs h w => ?_)
      refine lv_bipush (v := 113) X.1 X.2.1 dX9_reads_91 (by decide) ?_
      refine lv_icmp_ne (tgt := 102) X.1 X.2.1 dX9_reads_93 (by decide) (fun c24 => ?_) (fun c24 => ?_)
      · have h := h.1 c24
        refine lv_aload_n X.1 X.2.1 dX9_reads_102 rfl (lv_at hl 0 rfl) ?_
        refine tw_ci w (va_runV (As := []) (rest := []) X (ct_X9_here l D g hT _ σ22 a0 h0 _ h) (cwV 0 X.2.2.2.2 gX9_reads_X9_here rfl rfl rfl (by decide +kernel) ⟨Nat.le_of_ble_eq_true rfl, Nat.le_of_ble_eq_true rfl⟩) (tw_preV hK w h0 (by decide) rfl []) rfl rfl hl.1 rfl (lv_room (Nat.le_of_ble_eq_true rfl)) dX9_reads_103 ⟨Nat.zero_le _, Nat.zero_le _⟩) (fun r26 σ25 H locs h w => ?_)
        refine lv_bipush (v := 109) X.1 X.2.1 dX9_reads_106 (by decide) ?_
        refine lv_icmp_eq (tgt := 117) X.1 X.2.1 dX9_reads_108 (by decide) (fun c27 => ?_) (fun c27 => ?_)
        · have h := h.1 c27
          refine lv_aload_n X.1 X.2.1 dX9_reads_117 rfl (lv_at hl 0 rfl) ?_
          refine tw_ci w (va_runV (As := []) (rest := []) X (ct_X9_readsMove l D g hT _ σ25 a0 h0 _ h) (cwV 0 X.2.2.2.2 gX9_reads_X9_readsMove rfl rfl rfl (by decide +kernel) ⟨Nat.le_of_ble_eq_true rfl, Nat.le_of_ble_eq_true rfl⟩) (tw_preV hK w h0 (by decide) rfl []) rfl rfl hl.1 rfl (lv_room (Nat.le_of_ble_eq_true rfl)) dX9_reads_118 ⟨Nat.zero_le _, Nat.zero_le _⟩) (fun r29 σ28 H locs h w => ?_)
          refine lv_if_ne (tgt := 79) X.1 X.2.1 dX9_reads_121 (by decide) (fun c30 => ?_) (fun c30 => ?_)
          · have h := h.1 c30
            exact ih  σ28 _ _ ls h w (lv_sub hl [0] rfl)
          · have h := h.2 c30
            exact hk124  σ28 _ _ ls h w (lv_sub hl [] rfl)
        · have h := h.2 c27
          exact hk111  σ25 _ _ ls h w (lv_sub hl [0] rfl)
      · have h := h.2 c24
        exact hk96  σ22 _ _ ls h w (lv_sub hl [0] rfl)
set_option maxHeartbeats 4000000 in
set_option maxRecDepth 100000 in
theorem ct_X9_reads (l : Launch) (D : va_G) (g : tw_G) (hT : tw_T g) (sz : Nat) (σ : tw_S) (a0 : Nat) (h0 : tw_is g 9 a0) (Q : Int32 → tw_S → Prop) (h : wp_X9_reads g σ a0 Q) : tw_Mi l yX9_reads wsX9_reads RM_X9_reads D g sz σ [.ref a0] Q := by
  refine Met.ofW (cc := cX9_reads) (maxL := 2) (ret := (some .boolean)) (by decide) rfl ?_
  intro p e s m args below meth c s₁ B hml hv
  obtain ⟨rfl, hsz, hP, hK, hD0⟩ := hv
  subst hsz
  have hr := B.returns
  have hlk := B.notSynchronized
  have X : CallFix p m c cX9_reads 2 s _ wsX9_reads RX9 := ⟨B.exec, B.bytes, hml, findClass_of_methodNamed B.named, atoms_spec (ws := wsX9_reads) B.pre⟩
  have w := tw_w0 hP hD0
  have hl := lv_entry ([.ref a0]) (n := 2) (Nat.le_of_ble_eq_true rfl)
  rw [lg_entry_eq]
  generalize (lg_sl ([.ref a0]) ++ List.replicate (2 - (lg_sl ([.ref a0])).length) Slot.unset).toArray = ls at hl ⊢
  have hl : lv_has ls 2 [(0, .ref a0)] := hl
  unfold wp_X9_reads at h
  refine lv_aload_n X.1 X.2.1 dX9_reads_0 rfl (lv_at hl 0 rfl) ?_
  refine tw_get X hK w 9 iw_X9_reads_9 h0 (by decide) rfl 6 (by decide) (List.mem_of_getElem? (i := 1) rfl) rfl dX9_reads_1 ?_
  refine lv_iconst (v := 0) X.1 X.2.1 dX9_reads_4 (by decide) ?_
  refine lv_iconst (v := 1) X.1 X.2.1 dX9_reads_5 (by decide) ?_
  refine tw_iast X hK w (tw_t_9_6 hT h0) (tw_n_9_6 hT h0) (by unfold vp_in; decide) dX9_reads_6 (fun σ1 H locs eσ1 w => ?_)
  have h := h _ eσ1
  refine lv_iconst (v := 1) X.1 X.2.1 dX9_reads_7 (by decide) ?_
  refine lv_istore_n (lv' := [(1, .int (1 : Int32)), (0, .ref a0)]) X.1 X.2.1 dX9_reads_8 rfl hl (by decide) rfl (fun ls hl => ?_)
  obtain ⟨n9, h⟩ := h
  refine lp_X9_reads_9 X hr hlk hK hT h0 (fun σ5 H locs ls h w hl => ?_) n9 (1 : Int32) σ1 _ _ ls h w (lv_sub hl [1, 0] rfl)
  · skip
    refine lv_aload_n X.1 X.2.1 dX9_reads_28 rfl (lv_at hl 0 rfl) ?_
    refine tw_ci w (va_runV (As := []) (rest := []) X (ct_X9_here l D g hT _ σ5 a0 h0 _ h) (cwV 0 X.2.2.2.2 gX9_reads_X9_here rfl rfl rfl (by decide +kernel) ⟨Nat.le_of_ble_eq_true rfl, Nat.le_of_ble_eq_true rfl⟩) (tw_preV hK w h0 (by decide) rfl []) rfl rfl hl.1 rfl (lv_room (Nat.le_of_ble_eq_true rfl)) dX9_reads_29 ⟨Nat.zero_le _, Nat.zero_le _⟩) (fun r7 σ6 H locs h w => ?_)
    refine lv_iconst (v := -1) X.1 X.2.1 dX9_reads_32 (by decide) ?_
    refine lv_icmp_ne (tgt := 38) X.1 X.2.1 dX9_reads_33 (by decide) (fun c8 => ?_) (fun c8 => ?_)
    · have h := h.1 c8
      refine lv_aload_n X.1 X.2.1 dX9_reads_38 rfl (lv_at hl 0 rfl) ?_
      refine lv_bipush (v := 113) X.1 X.2.1 dX9_reads_39 (by decide) ?_
      refine tw_ci w (va_runV (As := [.int (113 : Int32)]) (rest := []) X (ct_X9_must l D g hT _ σ6 a0 h0 (113 : Int32) _ h) (cwV 1 X.2.2.2.2 gX9_reads_X9_must rfl rfl rfl (by decide +kernel) ⟨Nat.le_of_ble_eq_true rfl, Nat.le_of_ble_eq_true rfl⟩) (tw_preV hK w h0 (by decide) rfl [.int (113 : Int32)]) rfl rfl hl.1 rfl (lv_room (Nat.le_of_ble_eq_true rfl)) dX9_reads_41 ⟨Nat.zero_le _, Nat.zero_le _⟩) (fun r10 σ9 H locs h w => ?_)
      refine lv_if_eq (tgt := 56) X.1 X.2.1 dX9_reads_44 (by decide) (fun c11 => ?_) (fun c11 => ?_)
      · have h := h.1 c11
        refine lv_iconst (v := 0) X.1 X.2.1 dX9_reads_56 (by decide) ?_
        exact tw_zret X hr hlk w (by decide) h dX9_reads_57
      · have h := h.2 c11
        refine lv_aload_n X.1 X.2.1 dX9_reads_47 rfl (lv_at hl 0 rfl) ?_
        refine lv_iconst (v := 1) X.1 X.2.1 dX9_reads_48 (by decide) ?_
        refine lv_iconst (v := 4) X.1 X.2.1 dX9_reads_49 (by decide) ?_
        refine tw_ci w (va_runV (As := [.int (1 : Int32), .int (4 : Int32)]) (rest := []) X (ct_X9_isFigure l D g hT _ σ9 a0 h0 (1 : Int32) (4 : Int32) _ h) (cwV 2 X.2.2.2.2 gX9_reads_X9_isFigure rfl rfl rfl (by decide +kernel) ⟨Nat.le_of_ble_eq_true rfl, Nat.le_of_ble_eq_true rfl⟩) (tw_preV hK w h0 (by decide) rfl [.int (1 : Int32), .int (4 : Int32)]) rfl rfl hl.1 rfl (lv_room (Nat.le_of_ble_eq_true rfl)) dX9_reads_50 ⟨Nat.zero_le _, Nat.zero_le _⟩) (fun r13 σ12 H locs h w => ?_)
        refine lv_if_ne (tgt := 58) X.1 X.2.1 dX9_reads_53 (by decide) (fun c14 => ?_) (fun c14 => ?_)
        · have h := h.1 c14
          refine lv_aload_n X.1 X.2.1 dX9_reads_58 rfl (lv_at hl 0 rfl) ?_
          refine tw_get X hK w 9 iw_X9_reads_9 h0 (by decide) rfl 6 (by decide) (List.mem_of_getElem? (i := 1) rfl) rfl dX9_reads_59 ?_
          refine lv_iconst (v := 0) X.1 X.2.1 dX9_reads_62 (by decide) ?_
          refine lv_aload_n X.1 X.2.1 dX9_reads_63 rfl (lv_at hl 0 rfl) ?_
          refine tw_get X hK w 9 iw_X9_reads_9 h0 (by decide) rfl 7 (by decide) (List.mem_of_getElem? (i := 2) rfl) rfl dX9_reads_64 ?_
          refine tw_iast X hK w (tw_t_9_6 hT h0) (tw_n_9_6 hT h0) (by unfold vp_in; decide) dX9_reads_67 (fun σ15 H locs eσ15 w => ?_)
          have h := h _ eσ15
          refine lv_aload_n X.1 X.2.1 dX9_reads_68 rfl (lv_at hl 0 rfl) ?_
          refine lv_bipush (v := 59) X.1 X.2.1 dX9_reads_69 (by decide) ?_
          refine tw_ci w (va_runV (As := [.int (59 : Int32)]) (rest := []) X (ct_X9_must l D g hT _ σ15 a0 h0 (59 : Int32) _ h) (cwV 1 X.2.2.2.2 gX9_reads_X9_must rfl rfl rfl (by decide +kernel) ⟨Nat.le_of_ble_eq_true rfl, Nat.le_of_ble_eq_true rfl⟩) (tw_preV hK w h0 (by decide) rfl [.int (59 : Int32)]) rfl rfl hl.1 rfl (lv_room (Nat.le_of_ble_eq_true rfl)) dX9_reads_71 ⟨Nat.zero_le _, Nat.zero_le _⟩) (fun r17 σ16 H locs h w => ?_)
          refine lv_if_ne (tgt := 79) X.1 X.2.1 dX9_reads_74 (by decide) (fun c18 => ?_) (fun c18 => ?_)
          · have h := h.1 c18
            obtain ⟨n79, h⟩ := h
            refine lp_X9_reads_79 X hr hlk hK hT h0 (fun σ31 H locs ls h w hl => ?_) (fun σ34 H locs ls h w hl => ?_) (fun σ37 H locs ls h w hl => ?_) (fun σ38 H locs ls h w hl => ?_) n79  σ16 _ _ ls h w (lv_sub hl [0] rfl)
            · skip
              refine lv_aload_n X.1 X.2.1 dX9_reads_96 rfl (lv_at hl 0 rfl) ?_
              refine lv_iconst (v := 3) X.1 X.2.1 dX9_reads_97 (by decide) ?_
              refine tw_ci w (va_runV (As := [.int (3 : Int32)]) (rest := []) X (ct_X9_wrong l D g hT _ σ31 a0 h0 (3 : Int32) _ h) (cwV 1 X.2.2.2.2 gX9_reads_X9_wrong rfl rfl rfl (by decide +kernel) ⟨Nat.le_of_ble_eq_true rfl, Nat.le_of_ble_eq_true rfl⟩) (tw_preV hK w h0 (by decide) rfl [.int (3 : Int32)]) rfl rfl hl.1 rfl (lv_room (Nat.le_of_ble_eq_true rfl)) dX9_reads_98 ⟨Nat.zero_le _, Nat.zero_le _⟩) (fun r33 σ32 H locs h w => ?_)
              exact tw_zret X hr hlk w h.1 h.2 dX9_reads_101
            · skip
              refine lv_aload_n X.1 X.2.1 dX9_reads_111 rfl (lv_at hl 0 rfl) ?_
              refine lv_iconst (v := 1) X.1 X.2.1 dX9_reads_112 (by decide) ?_
              refine tw_ci w (va_runV (As := [.int (1 : Int32)]) (rest := []) X (ct_X9_wrong l D g hT _ σ34 a0 h0 (1 : Int32) _ h) (cwV 1 X.2.2.2.2 gX9_reads_X9_wrong rfl rfl rfl (by decide +kernel) ⟨Nat.le_of_ble_eq_true rfl, Nat.le_of_ble_eq_true rfl⟩) (tw_preV hK w h0 (by decide) rfl [.int (1 : Int32)]) rfl rfl hl.1 rfl (lv_room (Nat.le_of_ble_eq_true rfl)) dX9_reads_113 ⟨Nat.zero_le _, Nat.zero_le _⟩) (fun r36 σ35 H locs h w => ?_)
              exact tw_zret X hr hlk w h.1 h.2 dX9_reads_116
            · skip
              refine lv_iconst (v := 0) X.1 X.2.1 dX9_reads_124 (by decide) ?_
              exact tw_zret X hr hlk w (by decide) h dX9_reads_125
            · skip
              refine lv_iconst (v := 1) X.1 X.2.1 dX9_reads_126 (by decide) ?_
              exact tw_zret X hr hlk w (by decide) h dX9_reads_127
          · have h := h.2 c18
            refine lv_iconst (v := 0) X.1 X.2.1 dX9_reads_77 (by decide) ?_
            exact tw_zret X hr hlk w (by decide) h dX9_reads_78
        · have h := h.2 c14
          refine lv_iconst (v := 0) X.1 X.2.1 dX9_reads_56 (by decide) ?_
          exact tw_zret X hr hlk w (by decide) h dX9_reads_57
    · have h := h.2 c8
      refine lv_iconst (v := 1) X.1 X.2.1 dX9_reads_36 (by decide) ?_
      exact tw_zret X hr hlk w (by decide) h dX9_reads_37

abbrev RM_X9_notes : Room := { frames := 0, cells := 0, slots := 0, locals := 0 }
theorem iw_X9_notes_9 : ∀ w ∈ wsX90, w ∈ wsX9_notes := fun w h => List.mem_cons_of_mem _ (List.mem_append_right _ (h))
def wl_X9_notes_48 (g : tw_G) (a0 : Nat) (Q : tw_S → Prop) (k80 : tw_S → Prop) : Nat → Int32 → tw_S → Prop
  | 0, _, _ => False
  | n + 1, x1, σ => (((34 : Int32) ≤ x1) → k80  σ) ∧ (¬ ((34 : Int32) ≤ x1) → vp_in x1 34 ∧ vp_in (((34 : Int32) * (tw_I σ a0 9)) + x1) 272 ∧ ∀ σ5, σ5 = (tw_sA σ (tw_R g a0 8) (upd (tw_A σ (tw_R g a0 8)) (((34 : Int32) * (tw_I σ a0 9)) + x1).toNatClampNeg (tw_A σ (tw_R g a0 0) x1.toNatClampNeg))) → wl_X9_notes_48 g a0 Q k80 n (x1 + 1) σ5)
def wl_X9_notes_12 (g : tw_G) (a0 : Nat) (Q : tw_S → Prop) (k40 : tw_S → Prop) : Nat → Int32 → tw_S → Prop
  | 0, _, _ => False
  | n + 1, x1, σ => (((272 : Int32) ≤ x1) → k40  σ) ∧ (¬ ((272 : Int32) ≤ x1) → vp_in x1 272 ∧ vp_in (x1 - (34 : Int32)) 272 ∧ ∀ σ11, σ11 = (tw_sA σ (tw_R g a0 8) (upd (tw_A σ (tw_R g a0 8)) (x1 - (34 : Int32)).toNatClampNeg (tw_A σ (tw_R g a0 8) x1.toNatClampNeg))) → wl_X9_notes_12 g a0 Q k40 n (x1 + 1) σ11)
def wp_X9_notes (g : tw_G) (σ : tw_S) (a0 : Nat) (Q : tw_S → Prop) : Prop := ((¬ (tw_I σ a0 9) = (8 : Int32)) → ∃ n48, wl_X9_notes_48 g a0 Q (fun σ6 => ∀ σ7, σ7 = (tw_sI σ6 a0 9 ((tw_I σ6 a0 9) + (1 : Int32))) → Q σ7) n48 (0 : Int32) σ) ∧ (((tw_I σ a0 9) = (8 : Int32)) → ∃ n12, wl_X9_notes_12 g a0 Q (fun σ12 => ∀ σ13, σ13 = (tw_sI σ12 a0 9 (7 : Int32)) → ∃ n48, wl_X9_notes_48 g a0 Q (fun σ14 => ∀ σ15, σ15 = (tw_sI σ14 a0 9 ((tw_I σ14 a0 9) + (1 : Int32))) → Q σ15) n48 (0 : Int32) σ13) n12 (34 : Int32) σ)
set_option maxHeartbeats 4000000 in
set_option maxRecDepth 100000 in
theorem lp_X9_notes_48 {p : Program} {l : Launch} {e : Env} {s : State} {m : MethodId} {args : Array Value} {below : List Frame} {meth : Method} {c : Code} {D : va_G} {g : tw_G} (X : CallFix p m c cX9_notes 2 s args wsX9_notes RX9) (hr : meth.sig.returnType = none) (hlk : meth.locks = false) (hK : tw_k D g s) (hT : tw_T g) {a0 : Nat} (h0 : tw_is g 9 a0) {Q : tw_S → Prop} {k80 : tw_S → Prop}
    (hk80 : ∀  (σ : tw_S) (H : Heap) (locs : List Loc) (ls : Array Slot), k80  σ → tw_w D g (tw_F g s.heap.size) s σ H locs → lv_has ls 2 [(0, .ref a0)] → W p l e RM_X9_notes s m args below meth c H locs 0 0 (tw_Qv Q D g below args s) (F0 m 80 ls []))
    : ∀ (n : Nat) (x1 : Int32) (σ : tw_S) (H : Heap) (locs : List Loc) (ls : Array Slot), wl_X9_notes_48 g a0 Q k80 n x1 σ → tw_w D g (tw_F g s.heap.size) s σ H locs → lv_has ls 2 [(0, .ref a0), (1, .int x1)] → W p l e RM_X9_notes s m args below meth c H locs 0 0 (tw_Qv Q D g below args s) (F0 m 48 ls []) := by
  intro n
  induction n with
  | zero =>
    intro x1 σ H locs ls h w hl
    exact False.elim h
  | succ n ih =>
    intro x1 σ H locs ls h w hl
    rw [wl_X9_notes_48] at h
    refine lv_iload_n X.1 X.2.1 dX9_notes_48 rfl (lv_at hl 1 rfl) ?_
    refine lv_bipush (v := 34) X.1 X.2.1 dX9_notes_49 (by decide) ?_
    refine lv_icmp_ge (tgt := 80) X.1 X.2.1 dX9_notes_51 (by decide) (fun c2 => ?_) (fun c2 => ?_)
    · have h := h.1 c2
      exact hk80  σ _ _ ls h w (lv_sub hl [0] rfl)
    · have h := h.2 c2
      refine lv_aload_n X.1 X.2.1 dX9_notes_54 rfl (lv_at hl 0 rfl) ?_
      refine tw_get X hK w 9 iw_X9_notes_9 h0 (by decide) rfl 8 (by decide) (List.mem_of_getElem? (i := 2) rfl) rfl dX9_notes_55 ?_
      refine lv_bipush (v := 34) X.1 X.2.1 dX9_notes_58 (by decide) ?_
      refine lv_aload_n X.1 X.2.1 dX9_notes_60 rfl (lv_at hl 0 rfl) ?_
      refine tw_get X hK w 9 iw_X9_notes_9 h0 (by decide) rfl 9 (by decide) (List.mem_of_getElem? (i := 1) rfl) rfl dX9_notes_61 ?_
      refine lv_imul X.1 X.2.1 dX9_notes_64 ?_
      refine lv_iload_n X.1 X.2.1 dX9_notes_65 rfl (lv_at hl 1 rfl) ?_
      refine lv_iadd X.1 X.2.1 dX9_notes_66 ?_
      refine lv_aload_n X.1 X.2.1 dX9_notes_67 rfl (lv_at hl 0 rfl) ?_
      refine tw_get X hK w 9 iw_X9_notes_9 h0 (by decide) rfl 0 (by decide) (List.mem_of_getElem? (i := 3) rfl) rfl dX9_notes_68 ?_
      refine lv_iload_n X.1 X.2.1 dX9_notes_71 rfl (lv_at hl 1 rfl) ?_
      obtain ⟨hi3, h⟩ := h
      refine tw_iald X hK w (tw_t_9_0 hT h0) (tw_n_9_0 hT h0) hi3 dX9_notes_72 ?_
      obtain ⟨hi4, h⟩ := h
      refine tw_iast X hK w (tw_t_9_8 hT h0) (tw_n_9_8 hT h0) hi4 dX9_notes_73 (fun σ5 H locs eσ5 w => ?_)
      have h := h _ eσ5
      refine lv_iinc (v := (x1 + 1)) (lv' := [(1, .int (x1 + 1)), (0, .ref a0)]) X.1 X.2.1 dX9_notes_74 hl (k := 1) rfl rfl (by decide) rfl (fun ls hl => ?_)
      refine lv_goto (tgt := 48) X.1 X.2.1 dX9_notes_77 (by decide) ?_
      exact ih (x1 + 1) σ5 _ _ ls h w (lv_sub hl [1, 0] rfl)
set_option maxHeartbeats 4000000 in
set_option maxRecDepth 100000 in
theorem lp_X9_notes_12 {p : Program} {l : Launch} {e : Env} {s : State} {m : MethodId} {args : Array Value} {below : List Frame} {meth : Method} {c : Code} {D : va_G} {g : tw_G} (X : CallFix p m c cX9_notes 2 s args wsX9_notes RX9) (hr : meth.sig.returnType = none) (hlk : meth.locks = false) (hK : tw_k D g s) (hT : tw_T g) {a0 : Nat} (h0 : tw_is g 9 a0) {Q : tw_S → Prop} {k40 : tw_S → Prop}
    (hk40 : ∀  (σ : tw_S) (H : Heap) (locs : List Loc) (ls : Array Slot), k40  σ → tw_w D g (tw_F g s.heap.size) s σ H locs → lv_has ls 2 [(0, .ref a0)] → W p l e RM_X9_notes s m args below meth c H locs 0 0 (tw_Qv Q D g below args s) (F0 m 40 ls []))
    : ∀ (n : Nat) (x1 : Int32) (σ : tw_S) (H : Heap) (locs : List Loc) (ls : Array Slot), wl_X9_notes_12 g a0 Q k40 n x1 σ → tw_w D g (tw_F g s.heap.size) s σ H locs → lv_has ls 2 [(0, .ref a0), (1, .int x1)] → W p l e RM_X9_notes s m args below meth c H locs 0 0 (tw_Qv Q D g below args s) (F0 m 12 ls []) := by
  intro n
  induction n with
  | zero =>
    intro x1 σ H locs ls h w hl
    exact False.elim h
  | succ n ih =>
    intro x1 σ H locs ls h w hl
    rw [wl_X9_notes_12] at h
    refine lv_iload_n X.1 X.2.1 dX9_notes_12 rfl (lv_at hl 1 rfl) ?_
    refine lv_sipush (v := 272) X.1 X.2.1 dX9_notes_13 (by decide) ?_
    refine lv_icmp_ge (tgt := 40) X.1 X.2.1 dX9_notes_16 (by decide) (fun c8 => ?_) (fun c8 => ?_)
    · have h := h.1 c8
      exact hk40  σ _ _ ls h w (lv_sub hl [0] rfl)
    · have h := h.2 c8
      refine lv_aload_n X.1 X.2.1 dX9_notes_19 rfl (lv_at hl 0 rfl) ?_
      refine tw_get X hK w 9 iw_X9_notes_9 h0 (by decide) rfl 8 (by decide) (List.mem_of_getElem? (i := 2) rfl) rfl dX9_notes_20 ?_
      refine lv_iload_n X.1 X.2.1 dX9_notes_23 rfl (lv_at hl 1 rfl) ?_
      refine lv_bipush (v := 34) X.1 X.2.1 dX9_notes_24 (by decide) ?_
      refine lv_isub X.1 X.2.1 dX9_notes_26 ?_
      refine lv_aload_n X.1 X.2.1 dX9_notes_27 rfl (lv_at hl 0 rfl) ?_
      refine tw_get X hK w 9 iw_X9_notes_9 h0 (by decide) rfl 8 (by decide) (List.mem_of_getElem? (i := 2) rfl) rfl dX9_notes_28 ?_
      refine lv_iload_n X.1 X.2.1 dX9_notes_31 rfl (lv_at hl 1 rfl) ?_
      obtain ⟨hi9, h⟩ := h
      refine tw_iald X hK w (tw_t_9_8 hT h0) (tw_n_9_8 hT h0) hi9 dX9_notes_32 ?_
      obtain ⟨hi10, h⟩ := h
      refine tw_iast X hK w (tw_t_9_8 hT h0) (tw_n_9_8 hT h0) hi10 dX9_notes_33 (fun σ11 H locs eσ11 w => ?_)
      have h := h _ eσ11
      refine lv_iinc (v := (x1 + 1)) (lv' := [(1, .int (x1 + 1)), (0, .ref a0)]) X.1 X.2.1 dX9_notes_34 hl (k := 1) rfl rfl (by decide) rfl (fun ls hl => ?_)
      refine lv_goto (tgt := 12) X.1 X.2.1 dX9_notes_37 (by decide) ?_
      exact ih (x1 + 1) σ11 _ _ ls h w (lv_sub hl [1, 0] rfl)
set_option maxHeartbeats 4000000 in
set_option maxRecDepth 100000 in
theorem ct_X9_notes (l : Launch) (D : va_G) (g : tw_G) (hT : tw_T g) (sz : Nat) (σ : tw_S) (a0 : Nat) (h0 : tw_is g 9 a0) (Q : tw_S → Prop) (h : wp_X9_notes g σ a0 Q) : tw_Mv l yX9_notes wsX9_notes RM_X9_notes D g sz σ [.ref a0] Q := by
  refine Met.ofW (cc := cX9_notes) (maxL := 2) (ret := none) (by decide) rfl ?_
  intro p e s m args below meth c s₁ B hml hv
  obtain ⟨rfl, hsz, hP, hK, hD0⟩ := hv
  subst hsz
  have hr := B.returns
  have hlk := B.notSynchronized
  have X : CallFix p m c cX9_notes 2 s _ wsX9_notes RX9 := ⟨B.exec, B.bytes, hml, findClass_of_methodNamed B.named, atoms_spec (ws := wsX9_notes) B.pre⟩
  have w := tw_w0 hP hD0
  have hl := lv_entry ([.ref a0]) (n := 2) (Nat.le_of_ble_eq_true rfl)
  rw [lg_entry_eq]
  generalize (lg_sl ([.ref a0]) ++ List.replicate (2 - (lg_sl ([.ref a0])).length) Slot.unset).toArray = ls at hl ⊢
  have hl : lv_has ls 2 [(0, .ref a0)] := hl
  unfold wp_X9_notes at h
  refine lv_aload_n X.1 X.2.1 dX9_notes_0 rfl (lv_at hl 0 rfl) ?_
  refine tw_get X hK w 9 iw_X9_notes_9 h0 (by decide) rfl 9 (by decide) (List.mem_of_getElem? (i := 1) rfl) rfl dX9_notes_1 ?_
  refine lv_bipush (v := 8) X.1 X.2.1 dX9_notes_4 (by decide) ?_
  refine lv_icmp_ne (tgt := 46) X.1 X.2.1 dX9_notes_6 (by decide) (fun c1 => ?_) (fun c1 => ?_)
  · have h := h.1 c1
    refine lv_iconst (v := 0) X.1 X.2.1 dX9_notes_46 (by decide) ?_
    refine lv_istore_n (lv' := [(1, .int (0 : Int32)), (0, .ref a0)]) X.1 X.2.1 dX9_notes_47 rfl hl (by decide) rfl (fun ls hl => ?_)
    obtain ⟨n48, h⟩ := h
    refine lp_X9_notes_48 X hr hlk hK hT h0 (fun σ6 H locs ls h w hl => ?_) n48 (0 : Int32) σ _ _ ls h w (lv_sub hl [1, 0] rfl)
    · skip
      refine lv_aload_n X.1 X.2.1 dX9_notes_80 rfl (lv_at hl 0 rfl) ?_
      refine lv_dup X.1 X.2.1 dX9_notes_81 rfl ?_
      refine tw_get X hK w 9 iw_X9_notes_9 h0 (by decide) rfl 9 (by decide) (List.mem_of_getElem? (i := 1) rfl) rfl dX9_notes_82 ?_
      refine lv_iconst (v := 1) X.1 X.2.1 dX9_notes_85 (by decide) ?_
      refine lv_iadd X.1 X.2.1 dX9_notes_86 ?_
      refine tw_putI X hK w 9 iw_X9_notes_9 tyX9 tyX9_ok nmX9 h0 (by decide) rfl 9 (by decide) (List.mem_of_getElem? (i := 1) rfl) rfl (ty := .int) (by decide +kernel) rfl rfl (Nat.le_of_ble_eq_true rfl) (tw_f_9_9 g _ _ _) dX9_notes_87 (fun σ7 H locs eσ7 w => ?_)
      have h := h _ eσ7
      exact tw_vret X hr hlk w h dX9_notes_90
  · have h := h.2 c1
    refine lv_bipush (v := 34) X.1 X.2.1 dX9_notes_9 (by decide) ?_
    refine lv_istore_n (lv' := [(1, .int (34 : Int32)), (0, .ref a0)]) X.1 X.2.1 dX9_notes_11 rfl hl (by decide) rfl (fun ls hl => ?_)
    obtain ⟨n12, h⟩ := h
    refine lp_X9_notes_12 X hr hlk hK hT h0 (fun σ12 H locs ls h w hl => ?_) n12 (34 : Int32) σ _ _ ls h w (lv_sub hl [1, 0] rfl)
    · skip
      refine lv_aload_n X.1 X.2.1 dX9_notes_40 rfl (lv_at hl 0 rfl) ?_
      refine lv_bipush (v := 7) X.1 X.2.1 dX9_notes_41 (by decide) ?_
      refine tw_putI X hK w 9 iw_X9_notes_9 tyX9 tyX9_ok nmX9 h0 (by decide) rfl 9 (by decide) (List.mem_of_getElem? (i := 1) rfl) rfl (ty := .int) (by decide +kernel) rfl rfl (Nat.le_of_ble_eq_true rfl) (tw_f_9_9 g _ _ _) dX9_notes_43 (fun σ13 H locs eσ13 w => ?_)
      have h := h _ eσ13
      refine lv_iconst (v := 0) X.1 X.2.1 dX9_notes_46 (by decide) ?_
      refine lv_istore_n (lv' := [(1, .int (0 : Int32)), (0, .ref a0)]) X.1 X.2.1 dX9_notes_47 rfl hl (by decide) rfl (fun ls hl => ?_)
      obtain ⟨n48, h⟩ := h
      refine lp_X9_notes_48 X hr hlk hK hT h0 (fun σ14 H locs ls h w hl => ?_) n48 (0 : Int32) σ13 _ _ ls h w (lv_sub hl [1, 0] rfl)
      · skip
        refine lv_aload_n X.1 X.2.1 dX9_notes_80 rfl (lv_at hl 0 rfl) ?_
        refine lv_dup X.1 X.2.1 dX9_notes_81 rfl ?_
        refine tw_get X hK w 9 iw_X9_notes_9 h0 (by decide) rfl 9 (by decide) (List.mem_of_getElem? (i := 1) rfl) rfl dX9_notes_82 ?_
        refine lv_iconst (v := 1) X.1 X.2.1 dX9_notes_85 (by decide) ?_
        refine lv_iadd X.1 X.2.1 dX9_notes_86 ?_
        refine tw_putI X hK w 9 iw_X9_notes_9 tyX9 tyX9_ok nmX9 h0 (by decide) rfl 9 (by decide) (List.mem_of_getElem? (i := 1) rfl) rfl (ty := .int) (by decide +kernel) rfl rfl (Nat.le_of_ble_eq_true rfl) (tw_f_9_9 g _ _ _) dX9_notes_87 (fun σ15 H locs eσ15 w => ?_)
        have h := h _ eσ15
        exact tw_vret X hr hlk w h dX9_notes_90

abbrev RM_X9_machine : Room := { frames := 4, cells := 0, slots := 0, locals := 93 }
theorem iw_X9_machine_9 : ∀ w ∈ wsX90, w ∈ wsX9_machine := fun w h => List.mem_cons_of_mem _ (List.mem_append_right _ (h))
def wl_X9_machine_85 (g : tw_G) (a0 : Nat) (x1 : Int32) (Q : Int32 → tw_S → Prop) (k117 : tw_S → Prop) : Nat → Int32 → tw_S → Prop
  | 0, _, _ => False
  | n + 1, x4, σ => (((17 : Int32) ≤ x4) → k117  σ) ∧ (¬ ((17 : Int32) ≤ x4) → vp_in x4 17 ∧ vp_in (((17 : Int32) * x1) + x4) 34 ∧ ∀ σ19, σ19 = (tw_sA σ (tw_R g a0 0) (upd (tw_A σ (tw_R g a0 0)) (((17 : Int32) * x1) + x4).toNatClampNeg (tw_A σ (tw_R g a0 6) x4.toNatClampNeg))) → wl_X9_machine_85 g a0 x1 Q k117 n (x4 + 1) σ19)
def wp_X9_machine (g : tw_G) (σ : tw_S) (a0 : Nat) (x1 : Int32) (Q : Int32 → tw_S → Prop) : Prop := wp_X9_isMachine g σ x1 (fun r2 σ1 => ((¬ r2 = 0) → ∀ σ4, σ4 = (tw_sI σ1 a0 3 (0 : Int32)) → wp_X9_reads g σ4 a0 (fun r6 σ5 => wp_X9_here g σ5 a0 (fun r8 σ7 => ((¬ r8 = (-1 : Int32)) → ((r6 = 0) → (((0 : Int32) = 0) → ∀ σ12, σ12 = (tw_sI σ7 a0 4 (tw_I σ7 a0 3)) → ∀ σ13, σ13 = (tw_sI σ12 a0 2 (0 : Int32)) → ((¬ r6 = 0) → wp_X9_notes g σ13 a0 (fun σ15 => ∃ n85, wl_X9_machine_85 g a0 x1 Q (fun σ20 => Q (tw_A σ20 (tw_R g a0 6) (0 : Int32).toNatClampNeg) σ20) n85 (0 : Int32) σ15)) ∧ ((r6 = 0) → Q ((-10 : Int32) - (tw_I σ13 a0 5)) σ13)) ∧ (¬ ((0 : Int32) = 0) → ∀ σ21, σ21 = (tw_sI σ7 a0 4 (tw_I σ7 a0 2)) → ∀ σ22, σ22 = (tw_sI σ21 a0 2 (0 : Int32)) → ((¬ r6 = 0) → wp_X9_notes g σ22 a0 (fun σ24 => ∃ n85, wl_X9_machine_85 g a0 x1 Q (fun σ25 => Q (tw_A σ25 (tw_R g a0 6) (0 : Int32).toNatClampNeg) σ25) n85 (0 : Int32) σ24)) ∧ ((r6 = 0) → Q ((-10 : Int32) - (tw_I σ22 a0 5)) σ22))) ∧ (¬ (r6 = 0) → ∀ σ26, σ26 = (tw_sI σ7 a0 4 (-1 : Int32)) → ∀ σ27, σ27 = (tw_sI σ26 a0 2 (0 : Int32)) → ((¬ r6 = 0) → wp_X9_notes g σ27 a0 (fun σ29 => ∃ n85, wl_X9_machine_85 g a0 x1 Q (fun σ30 => Q (tw_A σ30 (tw_R g a0 6) (0 : Int32).toNatClampNeg) σ30) n85 (0 : Int32) σ29)) ∧ ((r6 = 0) → Q ((-10 : Int32) - (tw_I σ27 a0 5)) σ27))) ∧ ((r8 = (-1 : Int32)) → ((r6 = 0) → (((1 : Int32) = 0) → ∀ σ33, σ33 = (tw_sI σ7 a0 4 (tw_I σ7 a0 3)) → ∀ σ34, σ34 = (tw_sI σ33 a0 2 (0 : Int32)) → ((¬ r6 = 0) → wp_X9_notes g σ34 a0 (fun σ36 => ∃ n85, wl_X9_machine_85 g a0 x1 Q (fun σ37 => Q (tw_A σ37 (tw_R g a0 6) (0 : Int32).toNatClampNeg) σ37) n85 (0 : Int32) σ36)) ∧ ((r6 = 0) → Q ((-10 : Int32) - (tw_I σ34 a0 5)) σ34)) ∧ (¬ ((1 : Int32) = 0) → ∀ σ38, σ38 = (tw_sI σ7 a0 4 (tw_I σ7 a0 2)) → ∀ σ39, σ39 = (tw_sI σ38 a0 2 (0 : Int32)) → ((¬ r6 = 0) → wp_X9_notes g σ39 a0 (fun σ41 => ∃ n85, wl_X9_machine_85 g a0 x1 Q (fun σ42 => Q (tw_A σ42 (tw_R g a0 6) (0 : Int32).toNatClampNeg) σ42) n85 (0 : Int32) σ41)) ∧ ((r6 = 0) → Q ((-10 : Int32) - (tw_I σ39 a0 5)) σ39))) ∧ (¬ (r6 = 0) → ∀ σ43, σ43 = (tw_sI σ7 a0 4 (-1 : Int32)) → ∀ σ44, σ44 = (tw_sI σ43 a0 2 (0 : Int32)) → ((¬ r6 = 0) → wp_X9_notes g σ44 a0 (fun σ46 => ∃ n85, wl_X9_machine_85 g a0 x1 Q (fun σ47 => Q (tw_A σ47 (tw_R g a0 6) (0 : Int32).toNatClampNeg) σ47) n85 (0 : Int32) σ46)) ∧ ((r6 = 0) → Q ((-10 : Int32) - (tw_I σ44 a0 5)) σ44)))))) ∧ ((r2 = 0) → Q (-1000000001 : Int32) σ1))
set_option maxHeartbeats 4000000 in
set_option maxRecDepth 100000 in
theorem lp_X9_machine_85 {p : Program} {l : Launch} {e : Env} {s : State} {m : MethodId} {args : Array Value} {below : List Frame} {meth : Method} {c : Code} {D : va_G} {g : tw_G} (X : CallFix p m c cX9_machine 5 s args wsX9_machine RX9) (hr : meth.sig.returnType = (some .int)) (hlk : meth.locks = false) (hK : tw_k D g s) (hT : tw_T g) {a0 : Nat} {x1 : Int32} (h0 : tw_is g 9 a0) {Q : Int32 → tw_S → Prop} {k117 : tw_S → Prop}
    (hk117 : ∀  (σ : tw_S) (H : Heap) (locs : List Loc) (ls : Array Slot), k117  σ → tw_w D g (tw_F g s.heap.size) s σ H locs → lv_has ls 5 [(0, .ref a0)] → W p l e RM_X9_machine s m args below meth c H locs 0 0 (tw_Qi Q D g below args s) (F0 m 117 ls []))
    : ∀ (n : Nat) (x4 : Int32) (σ : tw_S) (H : Heap) (locs : List Loc) (ls : Array Slot), wl_X9_machine_85 g a0 x1 Q k117 n x4 σ → tw_w D g (tw_F g s.heap.size) s σ H locs → lv_has ls 5 [(0, .ref a0), (1, .int x1), (4, .int x4)] → W p l e RM_X9_machine s m args below meth c H locs 0 0 (tw_Qi Q D g below args s) (F0 m 85 ls []) := by
  intro n
  induction n with
  | zero =>
    intro x4 σ H locs ls h w hl
    exact False.elim h
  | succ n ih =>
    intro x4 σ H locs ls h w hl
    rw [wl_X9_machine_85] at h
    refine lv_iload X.1 X.2.1 dX9_machine_85 (lv_at hl 2 rfl) ?_
    refine lv_bipush (v := 17) X.1 X.2.1 dX9_machine_87 (by decide) ?_
    refine lv_icmp_ge (tgt := 117) X.1 X.2.1 dX9_machine_89 (by decide) (fun c16 => ?_) (fun c16 => ?_)
    · have h := h.1 c16
      exact hk117  σ _ _ ls h w (lv_sub hl [0] rfl)
    · have h := h.2 c16
      refine lv_aload_n X.1 X.2.1 dX9_machine_92 rfl (lv_at hl 0 rfl) ?_
      refine tw_get X hK w 9 iw_X9_machine_9 h0 (by decide) rfl 0 (by decide) (List.mem_of_getElem? (i := 6) rfl) rfl dX9_machine_93 ?_
      refine lv_bipush (v := 17) X.1 X.2.1 dX9_machine_96 (by decide) ?_
      refine lv_iload_n X.1 X.2.1 dX9_machine_98 rfl (lv_at hl 1 rfl) ?_
      refine lv_imul X.1 X.2.1 dX9_machine_99 ?_
      refine lv_iload X.1 X.2.1 dX9_machine_100 (lv_at hl 2 rfl) ?_
      refine lv_iadd X.1 X.2.1 dX9_machine_102 ?_
      refine lv_aload_n X.1 X.2.1 dX9_machine_103 rfl (lv_at hl 0 rfl) ?_
      refine tw_get X hK w 9 iw_X9_machine_9 h0 (by decide) rfl 6 (by decide) (List.mem_of_getElem? (i := 7) rfl) rfl dX9_machine_104 ?_
      refine lv_iload X.1 X.2.1 dX9_machine_107 (lv_at hl 2 rfl) ?_
      obtain ⟨hi17, h⟩ := h
      refine tw_iald X hK w (tw_t_9_6 hT h0) (tw_n_9_6 hT h0) hi17 dX9_machine_109 ?_
      obtain ⟨hi18, h⟩ := h
      refine tw_iast X hK w (tw_t_9_0 hT h0) (tw_n_9_0 hT h0) hi18 dX9_machine_110 (fun σ19 H locs eσ19 w => ?_)
      have h := h _ eσ19
      refine lv_iinc (v := (x4 + 1)) (lv' := [(4, .int (x4 + 1)), (0, .ref a0), (1, .int x1)]) X.1 X.2.1 dX9_machine_111 hl (k := 2) rfl rfl (by decide) rfl (fun ls hl => ?_)
      refine lv_goto (tgt := 85) X.1 X.2.1 dX9_machine_114 (by decide) ?_
      exact ih (x4 + 1) σ19 _ _ ls h w (lv_sub hl [1, 2, 0] rfl)
set_option maxHeartbeats 4000000 in
set_option maxRecDepth 100000 in
theorem ct_X9_machine (l : Launch) (D : va_G) (g : tw_G) (hT : tw_T g) (sz : Nat) (σ : tw_S) (a0 : Nat) (h0 : tw_is g 9 a0) (x1 : Int32) (Q : Int32 → tw_S → Prop) (h : wp_X9_machine g σ a0 x1 Q) : tw_Mi l yX9_machine wsX9_machine RM_X9_machine D g sz σ [.ref a0, .int x1] Q := by
  refine Met.ofW (cc := cX9_machine) (maxL := 5) (ret := (some .int)) (by decide) rfl ?_
  intro p e s m args below meth c s₁ B hml hv
  obtain ⟨rfl, hsz, hP, hK, hD0⟩ := hv
  subst hsz
  have hr := B.returns
  have hlk := B.notSynchronized
  have X : CallFix p m c cX9_machine 5 s _ wsX9_machine RX9 := ⟨B.exec, B.bytes, hml, findClass_of_methodNamed B.named, atoms_spec (ws := wsX9_machine) B.pre⟩
  have w := tw_w0 hP hD0
  have hl := lv_entry ([.ref a0, .int x1]) (n := 5) (Nat.le_of_ble_eq_true rfl)
  rw [lg_entry_eq]
  generalize (lg_sl ([.ref a0, .int x1]) ++ List.replicate (5 - (lg_sl ([.ref a0, .int x1])).length) Slot.unset).toArray = ls at hl ⊢
  have hl : lv_has ls 5 [(0, .ref a0), (1, .int x1)] := hl
  unfold wp_X9_machine at h
  refine lv_iload_n X.1 X.2.1 dX9_machine_0 rfl (lv_at hl 1 rfl) ?_
  refine tw_ci w (va_runS (As := [.int x1]) (rest := []) X (ct_X9_isMachine l D g hT _ σ x1 _ h) (va_cwS 1 X.2.2.2.2 gX9_machine_X9_isMachine rfl rfl rfl (by decide +kernel) ⟨Nat.le_of_ble_eq_true rfl, Nat.le_of_ble_eq_true rfl⟩) (tw_pre hK w [.int x1]) rfl rfl hl.1 rfl (lv_room (Nat.le_of_ble_eq_true rfl)) dX9_machine_1 ⟨Nat.zero_le _, Nat.zero_le _⟩) (fun r2 σ1 H locs h w => ?_)
  refine lv_if_ne (tgt := 10) X.1 X.2.1 dX9_machine_4 (by decide) (fun c3 => ?_) (fun c3 => ?_)
  · have h := h.1 c3
    refine lv_aload_n X.1 X.2.1 dX9_machine_10 rfl (lv_at hl 0 rfl) ?_
    refine lv_iconst (v := 0) X.1 X.2.1 dX9_machine_11 (by decide) ?_
    refine tw_putI X hK w 9 iw_X9_machine_9 tyX9 tyX9_ok nmX9 h0 (by decide) rfl 3 (by decide) (List.mem_of_getElem? (i := 2) rfl) rfl (ty := .int) (by decide +kernel) rfl rfl (Nat.le_of_ble_eq_true rfl) (tw_f_9_3 g _ _ _) dX9_machine_12 (fun σ4 H locs eσ4 w => ?_)
    have h := h _ eσ4
    refine lv_aload_n X.1 X.2.1 dX9_machine_15 rfl (lv_at hl 0 rfl) ?_
    refine tw_ci w (va_runV (As := []) (rest := []) X (ct_X9_reads l D g hT _ σ4 a0 h0 _ h) (cwV 0 X.2.2.2.2 gX9_machine_X9_reads rfl rfl rfl (by decide +kernel) ⟨Nat.le_of_ble_eq_true rfl, Nat.le_of_ble_eq_true rfl⟩) (tw_preV hK w h0 (by decide) rfl []) rfl rfl hl.1 rfl (lv_room (Nat.le_of_ble_eq_true rfl)) dX9_machine_16 ⟨Nat.zero_le _, Nat.zero_le _⟩) (fun r6 σ5 H locs h w => ?_)
    refine lv_istore_n (lv' := [(2, .int r6), (0, .ref a0), (1, .int x1)]) X.1 X.2.1 dX9_machine_19 rfl hl (by decide) rfl (fun ls hl => ?_)
    refine lv_aload_n X.1 X.2.1 dX9_machine_20 rfl (lv_at hl 1 rfl) ?_
    refine tw_ci w (va_runV (As := []) (rest := []) X (ct_X9_here l D g hT _ σ5 a0 h0 _ h) (cwV 0 X.2.2.2.2 gX9_machine_X9_here rfl rfl rfl (by decide +kernel) ⟨Nat.le_of_ble_eq_true rfl, Nat.le_of_ble_eq_true rfl⟩) (tw_preV hK w h0 (by decide) rfl []) rfl rfl hl.1 rfl (lv_room (Nat.le_of_ble_eq_true rfl)) dX9_machine_21 ⟨Nat.zero_le _, Nat.zero_le _⟩) (fun r8 σ7 H locs h w => ?_)
    refine lv_iconst (v := -1) X.1 X.2.1 dX9_machine_24 (by decide) ?_
    refine lv_icmp_ne (tgt := 32) X.1 X.2.1 dX9_machine_25 (by decide) (fun c9 => ?_) (fun c9 => ?_)
    · have h := h.1 c9
      refine lv_iconst (v := 0) X.1 X.2.1 dX9_machine_32 (by decide) ?_
      refine lv_istore_n (lv' := [(3, .int (0 : Int32)), (2, .int r6), (0, .ref a0), (1, .int x1)]) X.1 X.2.1 dX9_machine_33 rfl hl (by decide) rfl (fun ls hl => ?_)
      refine lv_aload_n X.1 X.2.1 dX9_machine_34 rfl (lv_at hl 2 rfl) ?_
      refine lv_iload_n X.1 X.2.1 dX9_machine_35 rfl (lv_at hl 1 rfl) ?_
      refine lv_if_eq (tgt := 43) X.1 X.2.1 dX9_machine_36 (by decide) (fun c10 => ?_) (fun c10 => ?_)
      · have h := h.1 c10
        refine lv_iload_n X.1 X.2.1 dX9_machine_43 rfl (lv_at hl 0 rfl) ?_
        refine lv_if_eq (tgt := 54) X.1 X.2.1 dX9_machine_44 (by decide) (fun c11 => ?_) (fun c11 => ?_)
        · have h := h.1 c11
          refine lv_aload_n X.1 X.2.1 dX9_machine_54 rfl (lv_at hl 2 rfl) ?_
          refine tw_get X hK w 9 iw_X9_machine_9 h0 (by decide) rfl 3 (by decide) (List.mem_of_getElem? (i := 2) rfl) rfl dX9_machine_55 ?_
          refine tw_putI X hK w 9 iw_X9_machine_9 tyX9 tyX9_ok nmX9 h0 (by decide) rfl 4 (by decide) (List.mem_of_getElem? (i := 4) rfl) rfl (ty := .int) (by decide +kernel) rfl rfl (Nat.le_of_ble_eq_true rfl) (tw_f_9_4 g _ _ _) dX9_machine_58 (fun σ12 H locs eσ12 w => ?_)
          have h := h _ eσ12
          refine lv_aload_n X.1 X.2.1 dX9_machine_61 rfl (lv_at hl 2 rfl) ?_
          refine lv_iconst (v := 0) X.1 X.2.1 dX9_machine_62 (by decide) ?_
          refine tw_putI X hK w 9 iw_X9_machine_9 tyX9 tyX9_ok nmX9 h0 (by decide) rfl 2 (by decide) (List.mem_of_getElem? (i := 3) rfl) rfl (ty := .int) (by decide +kernel) rfl rfl (Nat.le_of_ble_eq_true rfl) (tw_f_9_2 g _ _ _) dX9_machine_63 (fun σ13 H locs eσ13 w => ?_)
          have h := h _ eσ13
          refine lv_iload_n X.1 X.2.1 dX9_machine_66 rfl (lv_at hl 1 rfl) ?_
          refine lv_if_ne (tgt := 78) X.1 X.2.1 dX9_machine_67 (by decide) (fun c14 => ?_) (fun c14 => ?_)
          · have h := h.1 c14
            refine lv_aload_n X.1 X.2.1 dX9_machine_78 rfl (lv_at hl 2 rfl) ?_
            refine tw_cv w (va_runV (As := []) (rest := []) X (ct_X9_notes l D g hT _ σ13 a0 h0 _ h) (cwV 0 X.2.2.2.2 gX9_machine_X9_notes rfl rfl rfl (by decide +kernel) ⟨Nat.le_of_ble_eq_true rfl, Nat.le_of_ble_eq_true rfl⟩) (tw_preV hK w h0 (by decide) rfl []) rfl rfl hl.1 rfl (lv_room (Nat.le_of_ble_eq_true rfl)) dX9_machine_79 ⟨Nat.zero_le _, Nat.zero_le _⟩) (fun σ15 H locs h w => ?_)
            refine lv_iconst (v := 0) X.1 X.2.1 dX9_machine_82 (by decide) ?_
            refine lv_istore (lv' := [(4, .int (0 : Int32)), (3, .int (0 : Int32)), (2, .int r6), (0, .ref a0), (1, .int x1)]) X.1 X.2.1 dX9_machine_83 hl (by decide) rfl (fun ls hl => ?_)
            have hl := lv_sub (l' := [(4, .int (0 : Int32)), (0, .ref a0), (1, .int x1)]) hl [0, 3, 4] rfl
            obtain ⟨n85, h⟩ := h
            refine lp_X9_machine_85 X hr hlk hK hT h0 (fun σ20 H locs ls h w hl => ?_) n85 (0 : Int32) σ15 _ _ ls h w (lv_sub hl [1, 2, 0] rfl)
            · skip
              refine lv_aload_n X.1 X.2.1 dX9_machine_117 rfl (lv_at hl 0 rfl) ?_
              refine tw_get X hK w 9 iw_X9_machine_9 h0 (by decide) rfl 6 (by decide) (List.mem_of_getElem? (i := 7) rfl) rfl dX9_machine_118 ?_
              refine lv_iconst (v := 0) X.1 X.2.1 dX9_machine_121 (by decide) ?_
              refine tw_iald X hK w (tw_t_9_6 hT h0) (tw_n_9_6 hT h0) (by unfold vp_in; decide) dX9_machine_122 ?_
              exact tw_iret X hr hlk w h dX9_machine_123
          · have h := h.2 c14
            refine lv_bipush (v := -10) X.1 X.2.1 dX9_machine_70 (by decide) ?_
            refine lv_aload_n X.1 X.2.1 dX9_machine_72 rfl (lv_at hl 2 rfl) ?_
            refine tw_get X hK w 9 iw_X9_machine_9 h0 (by decide) rfl 5 (by decide) (List.mem_of_getElem? (i := 5) rfl) rfl dX9_machine_73 ?_
            refine lv_isub X.1 X.2.1 dX9_machine_76 ?_
            exact tw_iret X hr hlk w h dX9_machine_77
        · have h := h.2 c11
          refine lv_aload_n X.1 X.2.1 dX9_machine_47 rfl (lv_at hl 2 rfl) ?_
          refine tw_get X hK w 9 iw_X9_machine_9 h0 (by decide) rfl 2 (by decide) (List.mem_of_getElem? (i := 3) rfl) rfl dX9_machine_48 ?_
          refine lv_goto (tgt := 58) X.1 X.2.1 dX9_machine_51 (by decide) ?_
          refine tw_putI X hK w 9 iw_X9_machine_9 tyX9 tyX9_ok nmX9 h0 (by decide) rfl 4 (by decide) (List.mem_of_getElem? (i := 4) rfl) rfl (ty := .int) (by decide +kernel) rfl rfl (Nat.le_of_ble_eq_true rfl) (tw_f_9_4 g _ _ _) dX9_machine_58 (fun σ21 H locs eσ21 w => ?_)
          have h := h _ eσ21
          refine lv_aload_n X.1 X.2.1 dX9_machine_61 rfl (lv_at hl 2 rfl) ?_
          refine lv_iconst (v := 0) X.1 X.2.1 dX9_machine_62 (by decide) ?_
          refine tw_putI X hK w 9 iw_X9_machine_9 tyX9 tyX9_ok nmX9 h0 (by decide) rfl 2 (by decide) (List.mem_of_getElem? (i := 3) rfl) rfl (ty := .int) (by decide +kernel) rfl rfl (Nat.le_of_ble_eq_true rfl) (tw_f_9_2 g _ _ _) dX9_machine_63 (fun σ22 H locs eσ22 w => ?_)
          have h := h _ eσ22
          refine lv_iload_n X.1 X.2.1 dX9_machine_66 rfl (lv_at hl 1 rfl) ?_
          refine lv_if_ne (tgt := 78) X.1 X.2.1 dX9_machine_67 (by decide) (fun c23 => ?_) (fun c23 => ?_)
          · have h := h.1 c23
            refine lv_aload_n X.1 X.2.1 dX9_machine_78 rfl (lv_at hl 2 rfl) ?_
            refine tw_cv w (va_runV (As := []) (rest := []) X (ct_X9_notes l D g hT _ σ22 a0 h0 _ h) (cwV 0 X.2.2.2.2 gX9_machine_X9_notes rfl rfl rfl (by decide +kernel) ⟨Nat.le_of_ble_eq_true rfl, Nat.le_of_ble_eq_true rfl⟩) (tw_preV hK w h0 (by decide) rfl []) rfl rfl hl.1 rfl (lv_room (Nat.le_of_ble_eq_true rfl)) dX9_machine_79 ⟨Nat.zero_le _, Nat.zero_le _⟩) (fun σ24 H locs h w => ?_)
            refine lv_iconst (v := 0) X.1 X.2.1 dX9_machine_82 (by decide) ?_
            refine lv_istore (lv' := [(4, .int (0 : Int32)), (3, .int (0 : Int32)), (2, .int r6), (0, .ref a0), (1, .int x1)]) X.1 X.2.1 dX9_machine_83 hl (by decide) rfl (fun ls hl => ?_)
            have hl := lv_sub (l' := [(4, .int (0 : Int32)), (0, .ref a0), (1, .int x1)]) hl [0, 3, 4] rfl
            obtain ⟨n85, h⟩ := h
            refine lp_X9_machine_85 X hr hlk hK hT h0 (fun σ25 H locs ls h w hl => ?_) n85 (0 : Int32) σ24 _ _ ls h w (lv_sub hl [1, 2, 0] rfl)
            · skip
              refine lv_aload_n X.1 X.2.1 dX9_machine_117 rfl (lv_at hl 0 rfl) ?_
              refine tw_get X hK w 9 iw_X9_machine_9 h0 (by decide) rfl 6 (by decide) (List.mem_of_getElem? (i := 7) rfl) rfl dX9_machine_118 ?_
              refine lv_iconst (v := 0) X.1 X.2.1 dX9_machine_121 (by decide) ?_
              refine tw_iald X hK w (tw_t_9_6 hT h0) (tw_n_9_6 hT h0) (by unfold vp_in; decide) dX9_machine_122 ?_
              exact tw_iret X hr hlk w h dX9_machine_123
          · have h := h.2 c23
            refine lv_bipush (v := -10) X.1 X.2.1 dX9_machine_70 (by decide) ?_
            refine lv_aload_n X.1 X.2.1 dX9_machine_72 rfl (lv_at hl 2 rfl) ?_
            refine tw_get X hK w 9 iw_X9_machine_9 h0 (by decide) rfl 5 (by decide) (List.mem_of_getElem? (i := 5) rfl) rfl dX9_machine_73 ?_
            refine lv_isub X.1 X.2.1 dX9_machine_76 ?_
            exact tw_iret X hr hlk w h dX9_machine_77
      · have h := h.2 c10
        refine lv_iconst (v := -1) X.1 X.2.1 dX9_machine_39 (by decide) ?_
        refine lv_goto (tgt := 58) X.1 X.2.1 dX9_machine_40 (by decide) ?_
        refine tw_putI X hK w 9 iw_X9_machine_9 tyX9 tyX9_ok nmX9 h0 (by decide) rfl 4 (by decide) (List.mem_of_getElem? (i := 4) rfl) rfl (ty := .int) (by decide +kernel) rfl rfl (Nat.le_of_ble_eq_true rfl) (tw_f_9_4 g _ _ _) dX9_machine_58 (fun σ26 H locs eσ26 w => ?_)
        have h := h _ eσ26
        refine lv_aload_n X.1 X.2.1 dX9_machine_61 rfl (lv_at hl 2 rfl) ?_
        refine lv_iconst (v := 0) X.1 X.2.1 dX9_machine_62 (by decide) ?_
        refine tw_putI X hK w 9 iw_X9_machine_9 tyX9 tyX9_ok nmX9 h0 (by decide) rfl 2 (by decide) (List.mem_of_getElem? (i := 3) rfl) rfl (ty := .int) (by decide +kernel) rfl rfl (Nat.le_of_ble_eq_true rfl) (tw_f_9_2 g _ _ _) dX9_machine_63 (fun σ27 H locs eσ27 w => ?_)
        have h := h _ eσ27
        refine lv_iload_n X.1 X.2.1 dX9_machine_66 rfl (lv_at hl 1 rfl) ?_
        refine lv_if_ne (tgt := 78) X.1 X.2.1 dX9_machine_67 (by decide) (fun c28 => ?_) (fun c28 => ?_)
        · have h := h.1 c28
          refine lv_aload_n X.1 X.2.1 dX9_machine_78 rfl (lv_at hl 2 rfl) ?_
          refine tw_cv w (va_runV (As := []) (rest := []) X (ct_X9_notes l D g hT _ σ27 a0 h0 _ h) (cwV 0 X.2.2.2.2 gX9_machine_X9_notes rfl rfl rfl (by decide +kernel) ⟨Nat.le_of_ble_eq_true rfl, Nat.le_of_ble_eq_true rfl⟩) (tw_preV hK w h0 (by decide) rfl []) rfl rfl hl.1 rfl (lv_room (Nat.le_of_ble_eq_true rfl)) dX9_machine_79 ⟨Nat.zero_le _, Nat.zero_le _⟩) (fun σ29 H locs h w => ?_)
          refine lv_iconst (v := 0) X.1 X.2.1 dX9_machine_82 (by decide) ?_
          refine lv_istore (lv' := [(4, .int (0 : Int32)), (3, .int (0 : Int32)), (2, .int r6), (0, .ref a0), (1, .int x1)]) X.1 X.2.1 dX9_machine_83 hl (by decide) rfl (fun ls hl => ?_)
          have hl := lv_sub (l' := [(4, .int (0 : Int32)), (0, .ref a0), (1, .int x1)]) hl [0, 3, 4] rfl
          obtain ⟨n85, h⟩ := h
          refine lp_X9_machine_85 X hr hlk hK hT h0 (fun σ30 H locs ls h w hl => ?_) n85 (0 : Int32) σ29 _ _ ls h w (lv_sub hl [1, 2, 0] rfl)
          · skip
            refine lv_aload_n X.1 X.2.1 dX9_machine_117 rfl (lv_at hl 0 rfl) ?_
            refine tw_get X hK w 9 iw_X9_machine_9 h0 (by decide) rfl 6 (by decide) (List.mem_of_getElem? (i := 7) rfl) rfl dX9_machine_118 ?_
            refine lv_iconst (v := 0) X.1 X.2.1 dX9_machine_121 (by decide) ?_
            refine tw_iald X hK w (tw_t_9_6 hT h0) (tw_n_9_6 hT h0) (by unfold vp_in; decide) dX9_machine_122 ?_
            exact tw_iret X hr hlk w h dX9_machine_123
        · have h := h.2 c28
          refine lv_bipush (v := -10) X.1 X.2.1 dX9_machine_70 (by decide) ?_
          refine lv_aload_n X.1 X.2.1 dX9_machine_72 rfl (lv_at hl 2 rfl) ?_
          refine tw_get X hK w 9 iw_X9_machine_9 h0 (by decide) rfl 5 (by decide) (List.mem_of_getElem? (i := 5) rfl) rfl dX9_machine_73 ?_
          refine lv_isub X.1 X.2.1 dX9_machine_76 ?_
          exact tw_iret X hr hlk w h dX9_machine_77
    · have h := h.2 c9
      refine lv_iconst (v := 1) X.1 X.2.1 dX9_machine_28 (by decide) ?_
      refine lv_goto (tgt := 33) X.1 X.2.1 dX9_machine_29 (by decide) ?_
      refine lv_istore_n (lv' := [(3, .int (1 : Int32)), (2, .int r6), (0, .ref a0), (1, .int x1)]) X.1 X.2.1 dX9_machine_33 rfl hl (by decide) rfl (fun ls hl => ?_)
      refine lv_aload_n X.1 X.2.1 dX9_machine_34 rfl (lv_at hl 2 rfl) ?_
      refine lv_iload_n X.1 X.2.1 dX9_machine_35 rfl (lv_at hl 1 rfl) ?_
      refine lv_if_eq (tgt := 43) X.1 X.2.1 dX9_machine_36 (by decide) (fun c31 => ?_) (fun c31 => ?_)
      · have h := h.1 c31
        refine lv_iload_n X.1 X.2.1 dX9_machine_43 rfl (lv_at hl 0 rfl) ?_
        refine lv_if_eq (tgt := 54) X.1 X.2.1 dX9_machine_44 (by decide) (fun c32 => ?_) (fun c32 => ?_)
        · have h := h.1 c32
          refine lv_aload_n X.1 X.2.1 dX9_machine_54 rfl (lv_at hl 2 rfl) ?_
          refine tw_get X hK w 9 iw_X9_machine_9 h0 (by decide) rfl 3 (by decide) (List.mem_of_getElem? (i := 2) rfl) rfl dX9_machine_55 ?_
          refine tw_putI X hK w 9 iw_X9_machine_9 tyX9 tyX9_ok nmX9 h0 (by decide) rfl 4 (by decide) (List.mem_of_getElem? (i := 4) rfl) rfl (ty := .int) (by decide +kernel) rfl rfl (Nat.le_of_ble_eq_true rfl) (tw_f_9_4 g _ _ _) dX9_machine_58 (fun σ33 H locs eσ33 w => ?_)
          have h := h _ eσ33
          refine lv_aload_n X.1 X.2.1 dX9_machine_61 rfl (lv_at hl 2 rfl) ?_
          refine lv_iconst (v := 0) X.1 X.2.1 dX9_machine_62 (by decide) ?_
          refine tw_putI X hK w 9 iw_X9_machine_9 tyX9 tyX9_ok nmX9 h0 (by decide) rfl 2 (by decide) (List.mem_of_getElem? (i := 3) rfl) rfl (ty := .int) (by decide +kernel) rfl rfl (Nat.le_of_ble_eq_true rfl) (tw_f_9_2 g _ _ _) dX9_machine_63 (fun σ34 H locs eσ34 w => ?_)
          have h := h _ eσ34
          refine lv_iload_n X.1 X.2.1 dX9_machine_66 rfl (lv_at hl 1 rfl) ?_
          refine lv_if_ne (tgt := 78) X.1 X.2.1 dX9_machine_67 (by decide) (fun c35 => ?_) (fun c35 => ?_)
          · have h := h.1 c35
            refine lv_aload_n X.1 X.2.1 dX9_machine_78 rfl (lv_at hl 2 rfl) ?_
            refine tw_cv w (va_runV (As := []) (rest := []) X (ct_X9_notes l D g hT _ σ34 a0 h0 _ h) (cwV 0 X.2.2.2.2 gX9_machine_X9_notes rfl rfl rfl (by decide +kernel) ⟨Nat.le_of_ble_eq_true rfl, Nat.le_of_ble_eq_true rfl⟩) (tw_preV hK w h0 (by decide) rfl []) rfl rfl hl.1 rfl (lv_room (Nat.le_of_ble_eq_true rfl)) dX9_machine_79 ⟨Nat.zero_le _, Nat.zero_le _⟩) (fun σ36 H locs h w => ?_)
            refine lv_iconst (v := 0) X.1 X.2.1 dX9_machine_82 (by decide) ?_
            refine lv_istore (lv' := [(4, .int (0 : Int32)), (3, .int (1 : Int32)), (2, .int r6), (0, .ref a0), (1, .int x1)]) X.1 X.2.1 dX9_machine_83 hl (by decide) rfl (fun ls hl => ?_)
            have hl := lv_sub (l' := [(4, .int (0 : Int32)), (0, .ref a0), (1, .int x1)]) hl [0, 3, 4] rfl
            obtain ⟨n85, h⟩ := h
            refine lp_X9_machine_85 X hr hlk hK hT h0 (fun σ37 H locs ls h w hl => ?_) n85 (0 : Int32) σ36 _ _ ls h w (lv_sub hl [1, 2, 0] rfl)
            · skip
              refine lv_aload_n X.1 X.2.1 dX9_machine_117 rfl (lv_at hl 0 rfl) ?_
              refine tw_get X hK w 9 iw_X9_machine_9 h0 (by decide) rfl 6 (by decide) (List.mem_of_getElem? (i := 7) rfl) rfl dX9_machine_118 ?_
              refine lv_iconst (v := 0) X.1 X.2.1 dX9_machine_121 (by decide) ?_
              refine tw_iald X hK w (tw_t_9_6 hT h0) (tw_n_9_6 hT h0) (by unfold vp_in; decide) dX9_machine_122 ?_
              exact tw_iret X hr hlk w h dX9_machine_123
          · have h := h.2 c35
            refine lv_bipush (v := -10) X.1 X.2.1 dX9_machine_70 (by decide) ?_
            refine lv_aload_n X.1 X.2.1 dX9_machine_72 rfl (lv_at hl 2 rfl) ?_
            refine tw_get X hK w 9 iw_X9_machine_9 h0 (by decide) rfl 5 (by decide) (List.mem_of_getElem? (i := 5) rfl) rfl dX9_machine_73 ?_
            refine lv_isub X.1 X.2.1 dX9_machine_76 ?_
            exact tw_iret X hr hlk w h dX9_machine_77
        · have h := h.2 c32
          refine lv_aload_n X.1 X.2.1 dX9_machine_47 rfl (lv_at hl 2 rfl) ?_
          refine tw_get X hK w 9 iw_X9_machine_9 h0 (by decide) rfl 2 (by decide) (List.mem_of_getElem? (i := 3) rfl) rfl dX9_machine_48 ?_
          refine lv_goto (tgt := 58) X.1 X.2.1 dX9_machine_51 (by decide) ?_
          refine tw_putI X hK w 9 iw_X9_machine_9 tyX9 tyX9_ok nmX9 h0 (by decide) rfl 4 (by decide) (List.mem_of_getElem? (i := 4) rfl) rfl (ty := .int) (by decide +kernel) rfl rfl (Nat.le_of_ble_eq_true rfl) (tw_f_9_4 g _ _ _) dX9_machine_58 (fun σ38 H locs eσ38 w => ?_)
          have h := h _ eσ38
          refine lv_aload_n X.1 X.2.1 dX9_machine_61 rfl (lv_at hl 2 rfl) ?_
          refine lv_iconst (v := 0) X.1 X.2.1 dX9_machine_62 (by decide) ?_
          refine tw_putI X hK w 9 iw_X9_machine_9 tyX9 tyX9_ok nmX9 h0 (by decide) rfl 2 (by decide) (List.mem_of_getElem? (i := 3) rfl) rfl (ty := .int) (by decide +kernel) rfl rfl (Nat.le_of_ble_eq_true rfl) (tw_f_9_2 g _ _ _) dX9_machine_63 (fun σ39 H locs eσ39 w => ?_)
          have h := h _ eσ39
          refine lv_iload_n X.1 X.2.1 dX9_machine_66 rfl (lv_at hl 1 rfl) ?_
          refine lv_if_ne (tgt := 78) X.1 X.2.1 dX9_machine_67 (by decide) (fun c40 => ?_) (fun c40 => ?_)
          · have h := h.1 c40
            refine lv_aload_n X.1 X.2.1 dX9_machine_78 rfl (lv_at hl 2 rfl) ?_
            refine tw_cv w (va_runV (As := []) (rest := []) X (ct_X9_notes l D g hT _ σ39 a0 h0 _ h) (cwV 0 X.2.2.2.2 gX9_machine_X9_notes rfl rfl rfl (by decide +kernel) ⟨Nat.le_of_ble_eq_true rfl, Nat.le_of_ble_eq_true rfl⟩) (tw_preV hK w h0 (by decide) rfl []) rfl rfl hl.1 rfl (lv_room (Nat.le_of_ble_eq_true rfl)) dX9_machine_79 ⟨Nat.zero_le _, Nat.zero_le _⟩) (fun σ41 H locs h w => ?_)
            refine lv_iconst (v := 0) X.1 X.2.1 dX9_machine_82 (by decide) ?_
            refine lv_istore (lv' := [(4, .int (0 : Int32)), (3, .int (1 : Int32)), (2, .int r6), (0, .ref a0), (1, .int x1)]) X.1 X.2.1 dX9_machine_83 hl (by decide) rfl (fun ls hl => ?_)
            have hl := lv_sub (l' := [(4, .int (0 : Int32)), (0, .ref a0), (1, .int x1)]) hl [0, 3, 4] rfl
            obtain ⟨n85, h⟩ := h
            refine lp_X9_machine_85 X hr hlk hK hT h0 (fun σ42 H locs ls h w hl => ?_) n85 (0 : Int32) σ41 _ _ ls h w (lv_sub hl [1, 2, 0] rfl)
            · skip
              refine lv_aload_n X.1 X.2.1 dX9_machine_117 rfl (lv_at hl 0 rfl) ?_
              refine tw_get X hK w 9 iw_X9_machine_9 h0 (by decide) rfl 6 (by decide) (List.mem_of_getElem? (i := 7) rfl) rfl dX9_machine_118 ?_
              refine lv_iconst (v := 0) X.1 X.2.1 dX9_machine_121 (by decide) ?_
              refine tw_iald X hK w (tw_t_9_6 hT h0) (tw_n_9_6 hT h0) (by unfold vp_in; decide) dX9_machine_122 ?_
              exact tw_iret X hr hlk w h dX9_machine_123
          · have h := h.2 c40
            refine lv_bipush (v := -10) X.1 X.2.1 dX9_machine_70 (by decide) ?_
            refine lv_aload_n X.1 X.2.1 dX9_machine_72 rfl (lv_at hl 2 rfl) ?_
            refine tw_get X hK w 9 iw_X9_machine_9 h0 (by decide) rfl 5 (by decide) (List.mem_of_getElem? (i := 5) rfl) rfl dX9_machine_73 ?_
            refine lv_isub X.1 X.2.1 dX9_machine_76 ?_
            exact tw_iret X hr hlk w h dX9_machine_77
      · have h := h.2 c31
        refine lv_iconst (v := -1) X.1 X.2.1 dX9_machine_39 (by decide) ?_
        refine lv_goto (tgt := 58) X.1 X.2.1 dX9_machine_40 (by decide) ?_
        refine tw_putI X hK w 9 iw_X9_machine_9 tyX9 tyX9_ok nmX9 h0 (by decide) rfl 4 (by decide) (List.mem_of_getElem? (i := 4) rfl) rfl (ty := .int) (by decide +kernel) rfl rfl (Nat.le_of_ble_eq_true rfl) (tw_f_9_4 g _ _ _) dX9_machine_58 (fun σ43 H locs eσ43 w => ?_)
        have h := h _ eσ43
        refine lv_aload_n X.1 X.2.1 dX9_machine_61 rfl (lv_at hl 2 rfl) ?_
        refine lv_iconst (v := 0) X.1 X.2.1 dX9_machine_62 (by decide) ?_
        refine tw_putI X hK w 9 iw_X9_machine_9 tyX9 tyX9_ok nmX9 h0 (by decide) rfl 2 (by decide) (List.mem_of_getElem? (i := 3) rfl) rfl (ty := .int) (by decide +kernel) rfl rfl (Nat.le_of_ble_eq_true rfl) (tw_f_9_2 g _ _ _) dX9_machine_63 (fun σ44 H locs eσ44 w => ?_)
        have h := h _ eσ44
        refine lv_iload_n X.1 X.2.1 dX9_machine_66 rfl (lv_at hl 1 rfl) ?_
        refine lv_if_ne (tgt := 78) X.1 X.2.1 dX9_machine_67 (by decide) (fun c45 => ?_) (fun c45 => ?_)
        · have h := h.1 c45
          refine lv_aload_n X.1 X.2.1 dX9_machine_78 rfl (lv_at hl 2 rfl) ?_
          refine tw_cv w (va_runV (As := []) (rest := []) X (ct_X9_notes l D g hT _ σ44 a0 h0 _ h) (cwV 0 X.2.2.2.2 gX9_machine_X9_notes rfl rfl rfl (by decide +kernel) ⟨Nat.le_of_ble_eq_true rfl, Nat.le_of_ble_eq_true rfl⟩) (tw_preV hK w h0 (by decide) rfl []) rfl rfl hl.1 rfl (lv_room (Nat.le_of_ble_eq_true rfl)) dX9_machine_79 ⟨Nat.zero_le _, Nat.zero_le _⟩) (fun σ46 H locs h w => ?_)
          refine lv_iconst (v := 0) X.1 X.2.1 dX9_machine_82 (by decide) ?_
          refine lv_istore (lv' := [(4, .int (0 : Int32)), (3, .int (1 : Int32)), (2, .int r6), (0, .ref a0), (1, .int x1)]) X.1 X.2.1 dX9_machine_83 hl (by decide) rfl (fun ls hl => ?_)
          have hl := lv_sub (l' := [(4, .int (0 : Int32)), (0, .ref a0), (1, .int x1)]) hl [0, 3, 4] rfl
          obtain ⟨n85, h⟩ := h
          refine lp_X9_machine_85 X hr hlk hK hT h0 (fun σ47 H locs ls h w hl => ?_) n85 (0 : Int32) σ46 _ _ ls h w (lv_sub hl [1, 2, 0] rfl)
          · skip
            refine lv_aload_n X.1 X.2.1 dX9_machine_117 rfl (lv_at hl 0 rfl) ?_
            refine tw_get X hK w 9 iw_X9_machine_9 h0 (by decide) rfl 6 (by decide) (List.mem_of_getElem? (i := 7) rfl) rfl dX9_machine_118 ?_
            refine lv_iconst (v := 0) X.1 X.2.1 dX9_machine_121 (by decide) ?_
            refine tw_iald X hK w (tw_t_9_6 hT h0) (tw_n_9_6 hT h0) (by unfold vp_in; decide) dX9_machine_122 ?_
            exact tw_iret X hr hlk w h dX9_machine_123
        · have h := h.2 c45
          refine lv_bipush (v := -10) X.1 X.2.1 dX9_machine_70 (by decide) ?_
          refine lv_aload_n X.1 X.2.1 dX9_machine_72 rfl (lv_at hl 2 rfl) ?_
          refine tw_get X hK w 9 iw_X9_machine_9 h0 (by decide) rfl 5 (by decide) (List.mem_of_getElem? (i := 5) rfl) rfl dX9_machine_73 ?_
          refine lv_isub X.1 X.2.1 dX9_machine_76 ?_
          exact tw_iret X hr hlk w h dX9_machine_77
  · have h := h.2 c3
    refine lv_ldc (own := RX9) (v := -1000000001) X.1 X.2.1 X.2.2.2.1 (X.2.2.2.2 _ (List.mem_of_getElem? (i := 1) rfl)) dX9_machine_7 ?_
    exact tw_iret X hr hlk w h dX9_machine_9

abbrev RM_X9_fault : Room := { frames := 0, cells := 0, slots := 0, locals := 0 }
theorem iw_X9_fault_9 : ∀ w ∈ wsX90, w ∈ wsX9_fault := fun w h => List.mem_cons_of_mem _ (List.mem_append_right _ (h))
def wp_X9_fault (g : tw_G) (σ : tw_S) (a0 : Nat) (Q : Int32 → tw_S → Prop) : Prop := Q (tw_I σ a0 4) σ
set_option maxHeartbeats 4000000 in
set_option maxRecDepth 100000 in
theorem ct_X9_fault (l : Launch) (D : va_G) (g : tw_G) (hT : tw_T g) (sz : Nat) (σ : tw_S) (a0 : Nat) (h0 : tw_is g 9 a0) (Q : Int32 → tw_S → Prop) (h : wp_X9_fault g σ a0 Q) : tw_Mi l yX9_fault wsX9_fault RM_X9_fault D g sz σ [.ref a0] Q := by
  refine Met.ofW (cc := cX9_fault) (maxL := 1) (ret := (some .int)) (by decide) rfl ?_
  intro p e s m args below meth c s₁ B hml hv
  obtain ⟨rfl, hsz, hP, hK, hD0⟩ := hv
  subst hsz
  have hr := B.returns
  have hlk := B.notSynchronized
  have X : CallFix p m c cX9_fault 1 s _ wsX9_fault RX9 := ⟨B.exec, B.bytes, hml, findClass_of_methodNamed B.named, atoms_spec (ws := wsX9_fault) B.pre⟩
  have w := tw_w0 hP hD0
  have hl := lv_entry ([.ref a0]) (n := 1) (Nat.le_of_ble_eq_true rfl)
  rw [lg_entry_eq]
  generalize (lg_sl ([.ref a0]) ++ List.replicate (1 - (lg_sl ([.ref a0])).length) Slot.unset).toArray = ls at hl ⊢
  have hl : lv_has ls 1 [(0, .ref a0)] := hl
  unfold wp_X9_fault at h
  refine lv_aload_n X.1 X.2.1 dX9_fault_0 rfl (lv_at hl 0 rfl) ?_
  refine tw_get X hK w 9 iw_X9_fault_9 h0 (by decide) rfl 4 (by decide) (List.mem_of_getElem? (i := 1) rfl) rfl dX9_fault_1 ?_
  exact tw_iret X hr hlk w h dX9_fault_4

abbrev RM_X9_isSpot : Room := { frames := 2, cells := 0, slots := 0, locals := 47 }
def wp_X9_isSpot (g : tw_G) (σ : tw_S) (a0 : Nat) (x1 : Int32) (x2 : Int32) (x3 : Int32) (Q : Int32 → tw_S → Prop) : Prop := wp_X9_isMachine g σ x1 (fun r2 σ1 => ((r2 = 0) → Q (0 : Int32) σ1) ∧ (¬ (r2 = 0) → wp_X9_isState g σ1 a0 x1 x2 (fun r5 σ4 => ((r5 = 0) → Q (0 : Int32) σ4) ∧ (¬ (r5 = 0) → wp_X9_in g σ4 (x3.toInt64) (0 : Int64) (3 : Int64) (fun r8 σ7 => ((r8 = 0) → Q (0 : Int32) σ7) ∧ (¬ (r8 = 0) → Q (1 : Int32) σ7))))))
set_option maxHeartbeats 4000000 in
set_option maxRecDepth 100000 in
theorem ct_X9_isSpot (l : Launch) (D : va_G) (g : tw_G) (hT : tw_T g) (sz : Nat) (σ : tw_S) (a0 : Nat) (h0 : tw_is g 9 a0) (x1 : Int32) (x2 : Int32) (x3 : Int32) (Q : Int32 → tw_S → Prop) (h : wp_X9_isSpot g σ a0 x1 x2 x3 Q) : tw_Mi l yX9_isSpot wsX9_isSpot RM_X9_isSpot D g sz σ [.ref a0, .int x1, .int x2, .int x3] Q := by
  refine Met.ofW (cc := cX9_isSpot) (maxL := 4) (ret := (some .boolean)) (by decide) rfl ?_
  intro p e s m args below meth c s₁ B hml hv
  obtain ⟨rfl, hsz, hP, hK, hD0⟩ := hv
  subst hsz
  have hr := B.returns
  have hlk := B.notSynchronized
  have X : CallFix p m c cX9_isSpot 4 s _ wsX9_isSpot RX9 := ⟨B.exec, B.bytes, hml, findClass_of_methodNamed B.named, atoms_spec (ws := wsX9_isSpot) B.pre⟩
  have w := tw_w0 hP hD0
  have hl := lv_entry ([.ref a0, .int x1, .int x2, .int x3]) (n := 4) (Nat.le_of_ble_eq_true rfl)
  rw [lg_entry_eq]
  generalize (lg_sl ([.ref a0, .int x1, .int x2, .int x3]) ++ List.replicate (4 - (lg_sl ([.ref a0, .int x1, .int x2, .int x3])).length) Slot.unset).toArray = ls at hl ⊢
  have hl : lv_has ls 4 [(0, .ref a0), (1, .int x1), (2, .int x2), (3, .int x3)] := hl
  unfold wp_X9_isSpot at h
  refine lv_iload_n X.1 X.2.1 dX9_isSpot_0 rfl (lv_at hl 1 rfl) ?_
  refine tw_ci w (va_runS (As := [.int x1]) (rest := []) X (ct_X9_isMachine l D g hT _ σ x1 _ h) (va_cwS 1 X.2.2.2.2 gX9_isSpot_X9_isMachine rfl rfl rfl (by decide +kernel) ⟨Nat.le_of_ble_eq_true rfl, Nat.le_of_ble_eq_true rfl⟩) (tw_pre hK w [.int x1]) rfl rfl hl.1 rfl (lv_room (Nat.le_of_ble_eq_true rfl)) dX9_isSpot_1 ⟨Nat.zero_le _, Nat.zero_le _⟩) (fun r2 σ1 H locs h w => ?_)
  refine lv_if_eq (tgt := 32) X.1 X.2.1 dX9_isSpot_4 (by decide) (fun c3 => ?_) (fun c3 => ?_)
  · have h := h.1 c3
    refine lv_iconst (v := 0) X.1 X.2.1 dX9_isSpot_32 (by decide) ?_
    exact tw_zret X hr hlk w (by decide) h dX9_isSpot_33
  · have h := h.2 c3
    refine lv_aload_n X.1 X.2.1 dX9_isSpot_7 rfl (lv_at hl 0 rfl) ?_
    refine lv_iload_n X.1 X.2.1 dX9_isSpot_8 rfl (lv_at hl 1 rfl) ?_
    refine lv_iload_n X.1 X.2.1 dX9_isSpot_9 rfl (lv_at hl 2 rfl) ?_
    refine tw_ci w (va_runV (As := [.int x1, .int x2]) (rest := []) X (ct_X9_isState l D g hT _ σ1 a0 h0 x1 x2 _ h) (cwV 2 X.2.2.2.2 gX9_isSpot_X9_isState rfl rfl rfl (by decide +kernel) ⟨Nat.le_of_ble_eq_true rfl, Nat.le_of_ble_eq_true rfl⟩) (tw_preV hK w h0 (by decide) rfl [.int x1, .int x2]) rfl rfl hl.1 rfl (lv_room (Nat.le_of_ble_eq_true rfl)) dX9_isSpot_10 ⟨Nat.zero_le _, Nat.zero_le _⟩) (fun r5 σ4 H locs h w => ?_)
    refine lv_if_eq (tgt := 32) X.1 X.2.1 dX9_isSpot_13 (by decide) (fun c6 => ?_) (fun c6 => ?_)
    · have h := h.1 c6
      refine lv_iconst (v := 0) X.1 X.2.1 dX9_isSpot_32 (by decide) ?_
      exact tw_zret X hr hlk w (by decide) h dX9_isSpot_33
    · have h := h.2 c6
      refine lv_iload_n X.1 X.2.1 dX9_isSpot_16 rfl (lv_at hl 3 rfl) ?_
      refine lv_i2l (v := (x3.toInt64)) X.1 X.2.1 dX9_isSpot_17 rfl ?_
      refine lv_lconst (v := 0) X.1 X.2.1 dX9_isSpot_18 (by decide) ?_
      refine lv_ldc2 (own := RX9) (v := 3) X.1 X.2.1 X.2.2.2.1 (X.2.2.2.2 _ (List.mem_of_getElem? (i := 1) rfl)) dX9_isSpot_19 ?_
      refine tw_ci w (va_runS (As := [.long (x3.toInt64), .long (0 : Int64), .long (3 : Int64)]) (rest := []) X (ct_X9_in l D g hT _ σ4 (x3.toInt64) (0 : Int64) (3 : Int64) _ h) (va_cwS 3 X.2.2.2.2 gX9_isSpot_X9_in rfl rfl rfl (by decide +kernel) ⟨Nat.le_of_ble_eq_true rfl, Nat.le_of_ble_eq_true rfl⟩) (tw_pre hK w [.long (x3.toInt64), .long (0 : Int64), .long (3 : Int64)]) rfl rfl hl.1 rfl (lv_room (Nat.le_of_ble_eq_true rfl)) dX9_isSpot_22 ⟨Nat.zero_le _, Nat.zero_le _⟩) (fun r8 σ7 H locs h w => ?_)
      refine lv_if_eq (tgt := 32) X.1 X.2.1 dX9_isSpot_25 (by decide) (fun c9 => ?_) (fun c9 => ?_)
      · have h := h.1 c9
        refine lv_iconst (v := 0) X.1 X.2.1 dX9_isSpot_32 (by decide) ?_
        exact tw_zret X hr hlk w (by decide) h dX9_isSpot_33
      · have h := h.2 c9
        refine lv_iconst (v := 1) X.1 X.2.1 dX9_isSpot_28 (by decide) ?_
        refine lv_goto (tgt := 33) X.1 X.2.1 dX9_isSpot_29 (by decide) ?_
        exact tw_zret X hr hlk w (by decide) h dX9_isSpot_33

abbrev RM_X9_move : Room := { frames := 3, cells := 0, slots := 0, locals := 70 }
theorem iw_X9_move_9 : ∀ w ∈ wsX90, w ∈ wsX9_move := fun w h => List.mem_cons_of_mem _ (List.mem_append_right _ (h))
def wp_X9_move (g : tw_G) (σ : tw_S) (a0 : Nat) (x1 : Int32) (x2 : Int32) (x3 : Int32) (x4 : Int32) (x5 : Int32) (Q : Int32 → tw_S → Prop) : Prop := wp_X9_isSpot g σ a0 x1 x2 x3 (fun r2 σ1 => ((r2 = 0) → Q (-1000000001 : Int32) σ1) ∧ (¬ (r2 = 0) → wp_X9_isState g σ1 a0 x1 x4 (fun r5 σ4 => ((¬ r5 = 0) → wp_X9_in g σ4 (x5.toInt64) (0 : Int64) (1 : Int64) (fun r8 σ7 => ((¬ r8 = 0) → wp_X9_moveAt g σ7 a0 x1 x2 x3 (fun r11 σ10 => wp_X9_notes g σ10 a0 (fun σ12 => vp_in (((((17 : Int32) * x1) + (1 : Int32)) + ((4 : Int32) * x2)) + x3) 34 ∧ ∀ σ14, σ14 = (tw_sA σ12 (tw_R g a0 0) (upd (tw_A σ12 (tw_R g a0 0)) (((((17 : Int32) * x1) + (1 : Int32)) + ((4 : Int32) * x2)) + x3).toNatClampNeg (((2 : Int32) * x4) + x5))) → Q r11 σ14))) ∧ ((r8 = 0) → Q (-1000000002 : Int32) σ7))) ∧ ((r5 = 0) → Q (-1000000001 : Int32) σ4))))
set_option maxHeartbeats 4000000 in
set_option maxRecDepth 100000 in
theorem ct_X9_move (l : Launch) (D : va_G) (g : tw_G) (hT : tw_T g) (sz : Nat) (σ : tw_S) (a0 : Nat) (h0 : tw_is g 9 a0) (x1 : Int32) (x2 : Int32) (x3 : Int32) (x4 : Int32) (x5 : Int32) (Q : Int32 → tw_S → Prop) (h : wp_X9_move g σ a0 x1 x2 x3 x4 x5 Q) : tw_Mi l yX9_move wsX9_move RM_X9_move D g sz σ [.ref a0, .int x1, .int x2, .int x3, .int x4, .int x5] Q := by
  refine Met.ofW (cc := cX9_move) (maxL := 7) (ret := (some .int)) (by decide) rfl ?_
  intro p e s m args below meth c s₁ B hml hv
  obtain ⟨rfl, hsz, hP, hK, hD0⟩ := hv
  subst hsz
  have hr := B.returns
  have hlk := B.notSynchronized
  have X : CallFix p m c cX9_move 7 s _ wsX9_move RX9 := ⟨B.exec, B.bytes, hml, findClass_of_methodNamed B.named, atoms_spec (ws := wsX9_move) B.pre⟩
  have w := tw_w0 hP hD0
  have hl := lv_entry ([.ref a0, .int x1, .int x2, .int x3, .int x4, .int x5]) (n := 7) (Nat.le_of_ble_eq_true rfl)
  rw [lg_entry_eq]
  generalize (lg_sl ([.ref a0, .int x1, .int x2, .int x3, .int x4, .int x5]) ++ List.replicate (7 - (lg_sl ([.ref a0, .int x1, .int x2, .int x3, .int x4, .int x5])).length) Slot.unset).toArray = ls at hl ⊢
  have hl : lv_has ls 7 [(0, .ref a0), (1, .int x1), (2, .int x2), (3, .int x3), (4, .int x4), (5, .int x5)] := hl
  unfold wp_X9_move at h
  refine lv_aload_n X.1 X.2.1 dX9_move_0 rfl (lv_at hl 0 rfl) ?_
  refine lv_iload_n X.1 X.2.1 dX9_move_1 rfl (lv_at hl 1 rfl) ?_
  refine lv_iload_n X.1 X.2.1 dX9_move_2 rfl (lv_at hl 2 rfl) ?_
  refine lv_iload_n X.1 X.2.1 dX9_move_3 rfl (lv_at hl 3 rfl) ?_
  refine tw_ci w (va_runV (As := [.int x1, .int x2, .int x3]) (rest := []) X (ct_X9_isSpot l D g hT _ σ a0 h0 x1 x2 x3 _ h) (cwV 3 X.2.2.2.2 gX9_move_X9_isSpot rfl rfl rfl (by decide +kernel) ⟨Nat.le_of_ble_eq_true rfl, Nat.le_of_ble_eq_true rfl⟩) (tw_preV hK w h0 (by decide) rfl [.int x1, .int x2, .int x3]) rfl rfl hl.1 rfl (lv_room (Nat.le_of_ble_eq_true rfl)) dX9_move_4 ⟨Nat.zero_le _, Nat.zero_le _⟩) (fun r2 σ1 H locs h w => ?_)
  refine lv_if_eq (tgt := 20) X.1 X.2.1 dX9_move_7 (by decide) (fun c3 => ?_) (fun c3 => ?_)
  · have h := h.1 c3
    refine lv_ldc (own := RX9) (v := -1000000001) X.1 X.2.1 X.2.2.2.1 (X.2.2.2.2 _ (List.mem_of_getElem? (i := 1) rfl)) dX9_move_20 ?_
    exact tw_iret X hr hlk w h dX9_move_22
  · have h := h.2 c3
    refine lv_aload_n X.1 X.2.1 dX9_move_10 rfl (lv_at hl 0 rfl) ?_
    refine lv_iload_n X.1 X.2.1 dX9_move_11 rfl (lv_at hl 1 rfl) ?_
    refine lv_iload X.1 X.2.1 dX9_move_12 (lv_at hl 4 rfl) ?_
    refine tw_ci w (va_runV (As := [.int x1, .int x4]) (rest := []) X (ct_X9_isState l D g hT _ σ1 a0 h0 x1 x4 _ h) (cwV 2 X.2.2.2.2 gX9_move_X9_isState rfl rfl rfl (by decide +kernel) ⟨Nat.le_of_ble_eq_true rfl, Nat.le_of_ble_eq_true rfl⟩) (tw_preV hK w h0 (by decide) rfl [.int x1, .int x4]) rfl rfl hl.1 rfl (lv_room (Nat.le_of_ble_eq_true rfl)) dX9_move_14 ⟨Nat.zero_le _, Nat.zero_le _⟩) (fun r5 σ4 H locs h w => ?_)
    refine lv_if_ne (tgt := 23) X.1 X.2.1 dX9_move_17 (by decide) (fun c6 => ?_) (fun c6 => ?_)
    · have h := h.1 c6
      refine lv_iload X.1 X.2.1 dX9_move_23 (lv_at hl 5 rfl) ?_
      refine lv_i2l (v := (x5.toInt64)) X.1 X.2.1 dX9_move_25 rfl ?_
      refine lv_lconst (v := 0) X.1 X.2.1 dX9_move_26 (by decide) ?_
      refine lv_lconst (v := 1) X.1 X.2.1 dX9_move_27 (by decide) ?_
      refine tw_ci w (va_runS (As := [.long (x5.toInt64), .long (0 : Int64), .long (1 : Int64)]) (rest := []) X (ct_X9_in l D g hT _ σ4 (x5.toInt64) (0 : Int64) (1 : Int64) _ h) (va_cwS 3 X.2.2.2.2 gX9_move_X9_in rfl rfl rfl (by decide +kernel) ⟨Nat.le_of_ble_eq_true rfl, Nat.le_of_ble_eq_true rfl⟩) (tw_pre hK w [.long (x5.toInt64), .long (0 : Int64), .long (1 : Int64)]) rfl rfl hl.1 rfl (lv_room (Nat.le_of_ble_eq_true rfl)) dX9_move_28 ⟨Nat.zero_le _, Nat.zero_le _⟩) (fun r8 σ7 H locs h w => ?_)
      refine lv_if_ne (tgt := 37) X.1 X.2.1 dX9_move_31 (by decide) (fun c9 => ?_) (fun c9 => ?_)
      · have h := h.1 c9
        refine lv_aload_n X.1 X.2.1 dX9_move_37 rfl (lv_at hl 0 rfl) ?_
        refine lv_iload_n X.1 X.2.1 dX9_move_38 rfl (lv_at hl 1 rfl) ?_
        refine lv_iload_n X.1 X.2.1 dX9_move_39 rfl (lv_at hl 2 rfl) ?_
        refine lv_iload_n X.1 X.2.1 dX9_move_40 rfl (lv_at hl 3 rfl) ?_
        refine tw_ci w (va_runV (As := [.int x1, .int x2, .int x3]) (rest := []) X (ct_X9_moveAt l D g hT _ σ7 a0 h0 x1 x2 x3 _ h) (cwV 3 X.2.2.2.2 gX9_move_X9_moveAt rfl rfl rfl (by decide +kernel) ⟨Nat.le_of_ble_eq_true rfl, Nat.le_of_ble_eq_true rfl⟩) (tw_preV hK w h0 (by decide) rfl [.int x1, .int x2, .int x3]) rfl rfl hl.1 rfl (lv_room (Nat.le_of_ble_eq_true rfl)) dX9_move_41 ⟨Nat.zero_le _, Nat.zero_le _⟩) (fun r11 σ10 H locs h w => ?_)
        refine lv_istore (lv' := [(6, .int r11), (0, .ref a0), (1, .int x1), (2, .int x2), (3, .int x3), (4, .int x4), (5, .int x5)]) X.1 X.2.1 dX9_move_44 hl (by decide) rfl (fun ls hl => ?_)
        refine lv_aload_n X.1 X.2.1 dX9_move_46 rfl (lv_at hl 1 rfl) ?_
        refine tw_cv w (va_runV (As := []) (rest := []) X (ct_X9_notes l D g hT _ σ10 a0 h0 _ h) (cwV 0 X.2.2.2.2 gX9_move_X9_notes rfl rfl rfl (by decide +kernel) ⟨Nat.le_of_ble_eq_true rfl, Nat.le_of_ble_eq_true rfl⟩) (tw_preV hK w h0 (by decide) rfl []) rfl rfl hl.1 rfl (lv_room (Nat.le_of_ble_eq_true rfl)) dX9_move_47 ⟨Nat.zero_le _, Nat.zero_le _⟩) (fun σ12 H locs h w => ?_)
        refine lv_aload_n X.1 X.2.1 dX9_move_50 rfl (lv_at hl 1 rfl) ?_
        refine tw_get X hK w 9 iw_X9_move_9 h0 (by decide) rfl 0 (by decide) (List.mem_of_getElem? (i := 3) rfl) rfl dX9_move_51 ?_
        refine lv_bipush (v := 17) X.1 X.2.1 dX9_move_54 (by decide) ?_
        refine lv_iload_n X.1 X.2.1 dX9_move_56 rfl (lv_at hl 2 rfl) ?_
        refine lv_imul X.1 X.2.1 dX9_move_57 ?_
        refine lv_iconst (v := 1) X.1 X.2.1 dX9_move_58 (by decide) ?_
        refine lv_iadd X.1 X.2.1 dX9_move_59 ?_
        refine lv_iconst (v := 4) X.1 X.2.1 dX9_move_60 (by decide) ?_
        refine lv_iload_n X.1 X.2.1 dX9_move_61 rfl (lv_at hl 3 rfl) ?_
        refine lv_imul X.1 X.2.1 dX9_move_62 ?_
        refine lv_iadd X.1 X.2.1 dX9_move_63 ?_
        refine lv_iload_n X.1 X.2.1 dX9_move_64 rfl (lv_at hl 4 rfl) ?_
        refine lv_iadd X.1 X.2.1 dX9_move_65 ?_
        refine lv_iconst (v := 2) X.1 X.2.1 dX9_move_66 (by decide) ?_
        refine lv_iload X.1 X.2.1 dX9_move_67 (lv_at hl 5 rfl) ?_
        refine lv_imul X.1 X.2.1 dX9_move_69 ?_
        refine lv_iload X.1 X.2.1 dX9_move_70 (lv_at hl 6 rfl) ?_
        refine lv_iadd X.1 X.2.1 dX9_move_72 ?_
        obtain ⟨hi13, h⟩ := h
        refine tw_iast X hK w (tw_t_9_0 hT h0) (tw_n_9_0 hT h0) hi13 dX9_move_73 (fun σ14 H locs eσ14 w => ?_)
        have h := h _ eσ14
        refine lv_iload X.1 X.2.1 dX9_move_74 (lv_at hl 0 rfl) ?_
        exact tw_iret X hr hlk w h dX9_move_76
      · have h := h.2 c9
        refine lv_ldc (own := RX9) (v := -1000000002) X.1 X.2.1 X.2.2.2.1 (X.2.2.2.2 _ (List.mem_of_getElem? (i := 2) rfl)) dX9_move_34 ?_
        exact tw_iret X hr hlk w h dX9_move_36
    · have h := h.2 c6
      refine lv_ldc (own := RX9) (v := -1000000001) X.1 X.2.1 X.2.2.2.1 (X.2.2.2.2 _ (List.mem_of_getElem? (i := 1) rfl)) dX9_move_20 ?_
      exact tw_iret X hr hlk w h dX9_move_22

abbrev RM_X9_none : Room := { frames := 3, cells := 0, slots := 0, locals := 70 }
theorem iw_X9_none_9 : ∀ w ∈ wsX90, w ∈ wsX9_none := fun w h => List.mem_cons_of_mem _ (List.mem_append_right _ (h))
def wp_X9_none (g : tw_G) (σ : tw_S) (a0 : Nat) (x1 : Int32) (x2 : Int32) (x3 : Int32) (Q : Int32 → tw_S → Prop) : Prop := wp_X9_isSpot g σ a0 x1 x2 x3 (fun r2 σ1 => ((¬ r2 = 0) → wp_X9_moveAt g σ1 a0 x1 x2 x3 (fun r5 σ4 => ((¬ r5 = (-1 : Int32)) → wp_X9_notes g σ4 a0 (fun σ7 => vp_in (((((17 : Int32) * x1) + (1 : Int32)) + ((4 : Int32) * x2)) + x3) 34 ∧ ∀ σ9, σ9 = (tw_sA σ7 (tw_R g a0 0) (upd (tw_A σ7 (tw_R g a0 0)) (((((17 : Int32) * x1) + (1 : Int32)) + ((4 : Int32) * x2)) + x3).toNatClampNeg (-1 : Int32))) → Q r5 σ9)) ∧ ((r5 = (-1 : Int32)) → Q (-1000000003 : Int32) σ4))) ∧ ((r2 = 0) → Q (-1000000001 : Int32) σ1))
set_option maxHeartbeats 4000000 in
set_option maxRecDepth 100000 in
theorem ct_X9_none (l : Launch) (D : va_G) (g : tw_G) (hT : tw_T g) (sz : Nat) (σ : tw_S) (a0 : Nat) (h0 : tw_is g 9 a0) (x1 : Int32) (x2 : Int32) (x3 : Int32) (Q : Int32 → tw_S → Prop) (h : wp_X9_none g σ a0 x1 x2 x3 Q) : tw_Mi l yX9_none wsX9_none RM_X9_none D g sz σ [.ref a0, .int x1, .int x2, .int x3] Q := by
  refine Met.ofW (cc := cX9_none) (maxL := 5) (ret := (some .int)) (by decide) rfl ?_
  intro p e s m args below meth c s₁ B hml hv
  obtain ⟨rfl, hsz, hP, hK, hD0⟩ := hv
  subst hsz
  have hr := B.returns
  have hlk := B.notSynchronized
  have X : CallFix p m c cX9_none 5 s _ wsX9_none RX9 := ⟨B.exec, B.bytes, hml, findClass_of_methodNamed B.named, atoms_spec (ws := wsX9_none) B.pre⟩
  have w := tw_w0 hP hD0
  have hl := lv_entry ([.ref a0, .int x1, .int x2, .int x3]) (n := 5) (Nat.le_of_ble_eq_true rfl)
  rw [lg_entry_eq]
  generalize (lg_sl ([.ref a0, .int x1, .int x2, .int x3]) ++ List.replicate (5 - (lg_sl ([.ref a0, .int x1, .int x2, .int x3])).length) Slot.unset).toArray = ls at hl ⊢
  have hl : lv_has ls 5 [(0, .ref a0), (1, .int x1), (2, .int x2), (3, .int x3)] := hl
  unfold wp_X9_none at h
  refine lv_aload_n X.1 X.2.1 dX9_none_0 rfl (lv_at hl 0 rfl) ?_
  refine lv_iload_n X.1 X.2.1 dX9_none_1 rfl (lv_at hl 1 rfl) ?_
  refine lv_iload_n X.1 X.2.1 dX9_none_2 rfl (lv_at hl 2 rfl) ?_
  refine lv_iload_n X.1 X.2.1 dX9_none_3 rfl (lv_at hl 3 rfl) ?_
  refine tw_ci w (va_runV (As := [.int x1, .int x2, .int x3]) (rest := []) X (ct_X9_isSpot l D g hT _ σ a0 h0 x1 x2 x3 _ h) (cwV 3 X.2.2.2.2 gX9_none_X9_isSpot rfl rfl rfl (by decide +kernel) ⟨Nat.le_of_ble_eq_true rfl, Nat.le_of_ble_eq_true rfl⟩) (tw_preV hK w h0 (by decide) rfl [.int x1, .int x2, .int x3]) rfl rfl hl.1 rfl (lv_room (Nat.le_of_ble_eq_true rfl)) dX9_none_4 ⟨Nat.zero_le _, Nat.zero_le _⟩) (fun r2 σ1 H locs h w => ?_)
  refine lv_if_ne (tgt := 13) X.1 X.2.1 dX9_none_7 (by decide) (fun c3 => ?_) (fun c3 => ?_)
  · have h := h.1 c3
    refine lv_aload_n X.1 X.2.1 dX9_none_13 rfl (lv_at hl 0 rfl) ?_
    refine lv_iload_n X.1 X.2.1 dX9_none_14 rfl (lv_at hl 1 rfl) ?_
    refine lv_iload_n X.1 X.2.1 dX9_none_15 rfl (lv_at hl 2 rfl) ?_
    refine lv_iload_n X.1 X.2.1 dX9_none_16 rfl (lv_at hl 3 rfl) ?_
    refine tw_ci w (va_runV (As := [.int x1, .int x2, .int x3]) (rest := []) X (ct_X9_moveAt l D g hT _ σ1 a0 h0 x1 x2 x3 _ h) (cwV 3 X.2.2.2.2 gX9_none_X9_moveAt rfl rfl rfl (by decide +kernel) ⟨Nat.le_of_ble_eq_true rfl, Nat.le_of_ble_eq_true rfl⟩) (tw_preV hK w h0 (by decide) rfl [.int x1, .int x2, .int x3]) rfl rfl hl.1 rfl (lv_room (Nat.le_of_ble_eq_true rfl)) dX9_none_17 ⟨Nat.zero_le _, Nat.zero_le _⟩) (fun r5 σ4 H locs h w => ?_)
    refine lv_istore (lv' := [(4, .int r5), (0, .ref a0), (1, .int x1), (2, .int x2), (3, .int x3)]) X.1 X.2.1 dX9_none_20 hl (by decide) rfl (fun ls hl => ?_)
    refine lv_iload X.1 X.2.1 dX9_none_22 (lv_at hl 0 rfl) ?_
    refine lv_iconst (v := -1) X.1 X.2.1 dX9_none_24 (by decide) ?_
    refine lv_icmp_ne (tgt := 31) X.1 X.2.1 dX9_none_25 (by decide) (fun c6 => ?_) (fun c6 => ?_)
    · have h := h.1 c6
      refine lv_aload_n X.1 X.2.1 dX9_none_31 rfl (lv_at hl 1 rfl) ?_
      refine tw_cv w (va_runV (As := []) (rest := []) X (ct_X9_notes l D g hT _ σ4 a0 h0 _ h) (cwV 0 X.2.2.2.2 gX9_none_X9_notes rfl rfl rfl (by decide +kernel) ⟨Nat.le_of_ble_eq_true rfl, Nat.le_of_ble_eq_true rfl⟩) (tw_preV hK w h0 (by decide) rfl []) rfl rfl hl.1 rfl (lv_room (Nat.le_of_ble_eq_true rfl)) dX9_none_32 ⟨Nat.zero_le _, Nat.zero_le _⟩) (fun σ7 H locs h w => ?_)
      refine lv_aload_n X.1 X.2.1 dX9_none_35 rfl (lv_at hl 1 rfl) ?_
      refine tw_get X hK w 9 iw_X9_none_9 h0 (by decide) rfl 0 (by decide) (List.mem_of_getElem? (i := 3) rfl) rfl dX9_none_36 ?_
      refine lv_bipush (v := 17) X.1 X.2.1 dX9_none_39 (by decide) ?_
      refine lv_iload_n X.1 X.2.1 dX9_none_41 rfl (lv_at hl 2 rfl) ?_
      refine lv_imul X.1 X.2.1 dX9_none_42 ?_
      refine lv_iconst (v := 1) X.1 X.2.1 dX9_none_43 (by decide) ?_
      refine lv_iadd X.1 X.2.1 dX9_none_44 ?_
      refine lv_iconst (v := 4) X.1 X.2.1 dX9_none_45 (by decide) ?_
      refine lv_iload_n X.1 X.2.1 dX9_none_46 rfl (lv_at hl 3 rfl) ?_
      refine lv_imul X.1 X.2.1 dX9_none_47 ?_
      refine lv_iadd X.1 X.2.1 dX9_none_48 ?_
      refine lv_iload_n X.1 X.2.1 dX9_none_49 rfl (lv_at hl 4 rfl) ?_
      refine lv_iadd X.1 X.2.1 dX9_none_50 ?_
      refine lv_iconst (v := -1) X.1 X.2.1 dX9_none_51 (by decide) ?_
      obtain ⟨hi8, h⟩ := h
      refine tw_iast X hK w (tw_t_9_0 hT h0) (tw_n_9_0 hT h0) hi8 dX9_none_52 (fun σ9 H locs eσ9 w => ?_)
      have h := h _ eσ9
      refine lv_iload X.1 X.2.1 dX9_none_53 (lv_at hl 0 rfl) ?_
      exact tw_iret X hr hlk w h dX9_none_55
    · have h := h.2 c6
      refine lv_ldc (own := RX9) (v := -1000000003) X.1 X.2.1 X.2.2.2.1 (X.2.2.2.2 _ (List.mem_of_getElem? (i := 2) rfl)) dX9_none_28 ?_
      exact tw_iret X hr hlk w h dX9_none_30
  · have h := h.2 c3
    refine lv_ldc (own := RX9) (v := -1000000001) X.1 X.2.1 X.2.2.2.1 (X.2.2.2.2 _ (List.mem_of_getElem? (i := 1) rfl)) dX9_none_10 ?_
    exact tw_iret X hr hlk w h dX9_none_12
