abbrev RM_J7_fill_53178 : Room := { frames := 0, cells := 0, slots := 0, locals := 0 }
def wl_J7_fill_53178_5 (g : tw_G) (a0 : Nat) (n0 : Nat) (x1 : Int32) (x3 : Int32) (Q : tw_S → Prop) (k20 : tw_S → Prop) : Nat → Int32 → tw_S → Prop
  | 0, _, _ => False
  | n + 1, x2, σ => ((x3 ≤ x2) → k20  σ) ∧ (¬ (x3 ≤ x2) → vp_in x2 n0 ∧ ∀ σ3, σ3 = (tw_sA σ a0 (upd (tw_A σ a0) x2.toNatClampNeg x1)) → wl_J7_fill_53178_5 g a0 n0 x1 x3 Q k20 n (x2 + 1) σ3)
def wp_J7_fill_53178 (g : tw_G) (σ : tw_S) (a0 : Nat) (n0 : Nat) (x1 : Int32) (Q : tw_S → Prop) : Prop := ∃ n5, wl_J7_fill_53178_5 g a0 n0 x1 (nI n0) Q (fun σ4 => Q σ4) n5 (0 : Int32) σ
set_option maxHeartbeats 4000000 in
set_option maxRecDepth 100000 in
theorem lp_J7_fill_53178_5 {p : Program} {l : Launch} {e : Env} {s : State} {m : MethodId} {args : Array Value} {below : List Frame} {meth : Method} {c : Code} {D : va_G} {g : tw_G} (X : CallFix p m c cJ7_fill_53178 4 s args wsJ7_fill_53178 RJ7) (hr : meth.sig.returnType = none) (hlk : meth.locks = false) (hK : tw_k D g s) (hT : tw_T g) {a0 : Nat} {n0 : Nat} {x1 : Int32} {x3 : Int32} (h0 : tw_is g 10 a0) (hn0 : tw_N g a0 = n0) {Q : tw_S → Prop} {k20 : tw_S → Prop}
    (hk20 : ∀  (σ : tw_S) (H : Heap) (locs : List Loc) (ls : Array Slot), k20  σ → tw_w D g (tw_F g s.heap.size) s σ H locs → lv_has ls 4 [] → W p l e RM_J7_fill_53178 s m args below meth c H locs 0 0 (tw_Qv Q D g below args s) (F0 m 20 ls []))
    : ∀ (n : Nat) (x2 : Int32) (σ : tw_S) (H : Heap) (locs : List Loc) (ls : Array Slot), wl_J7_fill_53178_5 g a0 n0 x1 x3 Q k20 n x2 σ → tw_w D g (tw_F g s.heap.size) s σ H locs → lv_has ls 4 [(0, .ref a0), (1, .int x1), (2, .int x2), (3, .int x3)] → W p l e RM_J7_fill_53178 s m args below meth c H locs 0 0 (tw_Qv Q D g below args s) (F0 m 5 ls []) := by
  intro n
  induction n with
  | zero =>
    intro x2 σ H locs ls h w hl
    exact False.elim h
  | succ n ih =>
    intro x2 σ H locs ls h w hl
    rw [wl_J7_fill_53178_5] at h
    refine lv_iload_n X.1 X.2.1 dJ7_fill_53178_5 rfl (lv_at hl 2 rfl) ?_
    refine lv_iload_n X.1 X.2.1 dJ7_fill_53178_6 rfl (lv_at hl 3 rfl) ?_
    refine lv_icmp_ge (tgt := 20) X.1 X.2.1 dJ7_fill_53178_7 (by decide) (fun c1 => ?_) (fun c1 => ?_)
    · have h := h.1 c1
      exact hk20  σ _ _ ls h w (lv_sub hl [] rfl)
    · have h := h.2 c1
      refine lv_aload_n X.1 X.2.1 dJ7_fill_53178_10 rfl (lv_at hl 0 rfl) ?_
      refine lv_iload_n X.1 X.2.1 dJ7_fill_53178_11 rfl (lv_at hl 2 rfl) ?_
      refine lv_iload_n X.1 X.2.1 dJ7_fill_53178_12 rfl (lv_at hl 1 rfl) ?_
      obtain ⟨hi2, h⟩ := h
      refine tw_iast X hK w h0 hn0 hi2 dJ7_fill_53178_13 (fun σ3 H locs eσ3 w => ?_)
      have h := h _ eσ3
      refine lv_iinc (v := (x2 + 1)) (lv' := [(2, .int (x2 + 1)), (0, .ref a0), (1, .int x1), (3, .int x3)]) X.1 X.2.1 dJ7_fill_53178_14 hl (k := 2) rfl rfl (by decide) rfl (fun ls hl => ?_)
      refine lv_goto (tgt := 5) X.1 X.2.1 dJ7_fill_53178_17 (by decide) ?_
      exact ih (x2 + 1) σ3 _ _ ls h w (lv_sub hl [1, 2, 0, 3] rfl)
set_option maxHeartbeats 4000000 in
set_option maxRecDepth 100000 in
theorem ct_J7_fill_53178 (l : Launch) (D : va_G) (g : tw_G) (hT : tw_T g) (sz : Nat) (σ : tw_S) (a0 : Nat) (h0 : tw_is g 10 a0) (n0 : Nat) (hn0 : tw_N g a0 = n0) (x1 : Int32) (Q : tw_S → Prop) (h : wp_J7_fill_53178 g σ a0 n0 x1 Q) : tw_Mv l yJ7_fill_53178 wsJ7_fill_53178 RM_J7_fill_53178 D g sz σ [.ref a0, .int x1] Q := by
  refine Met.ofW (cc := cJ7_fill_53178) (maxL := 4) (ret := none) (by decide) rfl ?_
  intro p e s m args below meth c s₁ B hml hv
  obtain ⟨rfl, hsz, hP, hK, hD0⟩ := hv
  subst hsz
  have hr := B.returns
  have hlk := B.notSynchronized
  have X : CallFix p m c cJ7_fill_53178 4 s _ wsJ7_fill_53178 RJ7 := ⟨B.exec, B.bytes, hml, findClass_of_methodNamed B.named, atoms_spec (ws := wsJ7_fill_53178) B.pre⟩
  have w := tw_w0 hP hD0
  have hl := lv_entry ([.ref a0, .int x1]) (n := 4) (Nat.le_of_ble_eq_true rfl)
  rw [lg_entry_eq]
  generalize (lg_sl ([.ref a0, .int x1]) ++ List.replicate (4 - (lg_sl ([.ref a0, .int x1])).length) Slot.unset).toArray = ls at hl ⊢
  have hl : lv_has ls 4 [(0, .ref a0), (1, .int x1)] := hl
  unfold wp_J7_fill_53178 at h
  refine lv_iconst (v := 0) X.1 X.2.1 dJ7_fill_53178_0 (by decide) ?_
  refine lv_istore_n (lv' := [(2, .int (0 : Int32)), (0, .ref a0), (1, .int x1)]) X.1 X.2.1 dJ7_fill_53178_1 rfl hl (by decide) rfl (fun ls hl => ?_)
  refine lv_aload_n X.1 X.2.1 dJ7_fill_53178_2 rfl (lv_at hl 1 rfl) ?_
  refine tw_alen (v := (nI n0)) X hK w h0 hn0 rfl dJ7_fill_53178_3 ?_
  refine lv_istore_n (lv' := [(3, .int (nI n0)), (2, .int (0 : Int32)), (0, .ref a0), (1, .int x1)]) X.1 X.2.1 dJ7_fill_53178_4 rfl hl (by decide) rfl (fun ls hl => ?_)
  obtain ⟨n5, h⟩ := h
  refine lp_J7_fill_53178_5 X hr hlk hK hT h0 hn0 (fun σ4 H locs ls h w hl => ?_) n5 (0 : Int32) σ _ _ ls h w (lv_sub hl [2, 3, 1, 0] rfl)
  · skip
    exact tw_vret X hr hlk w h dJ7_fill_53178_20

abbrev RM_X3_size : Room := { frames := 0, cells := 0, slots := 0, locals := 0 }
theorem iw_X3_size_3 : ∀ w ∈ wsX30, w ∈ wsX3_size := fun w h => List.mem_cons_of_mem _ (List.mem_append_right _ (h))
def wp_X3_size (g : tw_G) (σ : tw_S) (a0 : Nat) (Q : Int32 → tw_S → Prop) : Prop := Q (tw_I σ a0 1) σ
set_option maxHeartbeats 4000000 in
set_option maxRecDepth 100000 in
theorem ct_X3_size (l : Launch) (D : va_G) (g : tw_G) (hT : tw_T g) (sz : Nat) (σ : tw_S) (a0 : Nat) (h0 : tw_is g 3 a0) (Q : Int32 → tw_S → Prop) (h : wp_X3_size g σ a0 Q) : tw_Mi l yX3_size wsX3_size RM_X3_size D g sz σ [.ref a0] Q := by
  refine Met.ofW (cc := cX3_size) (maxL := 1) (ret := (some .int)) (by decide) rfl ?_
  intro p e s m args below meth c s₁ B hml hv
  obtain ⟨rfl, hsz, hP, hK, hD0⟩ := hv
  subst hsz
  have hr := B.returns
  have hlk := B.notSynchronized
  have X : CallFix p m c cX3_size 1 s _ wsX3_size RX3 := ⟨B.exec, B.bytes, hml, findClass_of_methodNamed B.named, atoms_spec (ws := wsX3_size) B.pre⟩
  have w := tw_w0 hP hD0
  have hl := lv_entry ([.ref a0]) (n := 1) (Nat.le_of_ble_eq_true rfl)
  rw [lg_entry_eq]
  generalize (lg_sl ([.ref a0]) ++ List.replicate (1 - (lg_sl ([.ref a0])).length) Slot.unset).toArray = ls at hl ⊢
  have hl : lv_has ls 1 [(0, .ref a0)] := hl
  unfold wp_X3_size at h
  refine lv_aload_n X.1 X.2.1 dX3_size_0 rfl (lv_at hl 0 rfl) ?_
  refine tw_get X hK w 3 iw_X3_size_3 h0 (by decide) rfl 1 (by decide) (List.mem_of_getElem? (i := 1) rfl) rfl dX3_size_1 ?_
  exact tw_iret X hr hlk w h dX3_size_4

abbrev RM_X3_hasState : Room := { frames := 0, cells := 0, slots := 0, locals := 0 }
theorem iw_X3_hasState_3 : ∀ w ∈ wsX30, w ∈ wsX3_hasState := fun w h => List.mem_cons_of_mem _ (List.mem_append_right _ (h))
def wp_X3_hasState (g : tw_G) (σ : tw_S) (a0 : Nat) (x1 : Int32) (Q : Int32 → tw_S → Prop) : Prop := ((x1 < 0) → Q (0 : Int32) σ) ∧ (¬ (x1 < 0) → (((tw_I σ a0 1) ≤ x1) → Q (0 : Int32) σ) ∧ (¬ ((tw_I σ a0 1) ≤ x1) → Q (1 : Int32) σ))
set_option maxHeartbeats 4000000 in
set_option maxRecDepth 100000 in
theorem ct_X3_hasState (l : Launch) (D : va_G) (g : tw_G) (hT : tw_T g) (sz : Nat) (σ : tw_S) (a0 : Nat) (h0 : tw_is g 3 a0) (x1 : Int32) (Q : Int32 → tw_S → Prop) (h : wp_X3_hasState g σ a0 x1 Q) : tw_Mi l yX3_hasState wsX3_hasState RM_X3_hasState D g sz σ [.ref a0, .int x1] Q := by
  refine Met.ofW (cc := cX3_hasState) (maxL := 2) (ret := (some .boolean)) (by decide) rfl ?_
  intro p e s m args below meth c s₁ B hml hv
  obtain ⟨rfl, hsz, hP, hK, hD0⟩ := hv
  subst hsz
  have hr := B.returns
  have hlk := B.notSynchronized
  have X : CallFix p m c cX3_hasState 2 s _ wsX3_hasState RX3 := ⟨B.exec, B.bytes, hml, findClass_of_methodNamed B.named, atoms_spec (ws := wsX3_hasState) B.pre⟩
  have w := tw_w0 hP hD0
  have hl := lv_entry ([.ref a0, .int x1]) (n := 2) (Nat.le_of_ble_eq_true rfl)
  rw [lg_entry_eq]
  generalize (lg_sl ([.ref a0, .int x1]) ++ List.replicate (2 - (lg_sl ([.ref a0, .int x1])).length) Slot.unset).toArray = ls at hl ⊢
  have hl : lv_has ls 2 [(0, .ref a0), (1, .int x1)] := hl
  unfold wp_X3_hasState at h
  refine lv_iload_n X.1 X.2.1 dX3_hasState_0 rfl (lv_at hl 1 rfl) ?_
  refine lv_if_lt (tgt := 16) X.1 X.2.1 dX3_hasState_1 (by decide) (fun c1 => ?_) (fun c1 => ?_)
  · have h := h.1 c1
    refine lv_iconst (v := 0) X.1 X.2.1 dX3_hasState_16 (by decide) ?_
    exact tw_zret X hr hlk w (by decide) h dX3_hasState_17
  · have h := h.2 c1
    refine lv_iload_n X.1 X.2.1 dX3_hasState_4 rfl (lv_at hl 1 rfl) ?_
    refine lv_aload_n X.1 X.2.1 dX3_hasState_5 rfl (lv_at hl 0 rfl) ?_
    refine tw_get X hK w 3 iw_X3_hasState_3 h0 (by decide) rfl 1 (by decide) (List.mem_of_getElem? (i := 1) rfl) rfl dX3_hasState_6 ?_
    refine lv_icmp_ge (tgt := 16) X.1 X.2.1 dX3_hasState_9 (by decide) (fun c2 => ?_) (fun c2 => ?_)
    · have h := h.1 c2
      refine lv_iconst (v := 0) X.1 X.2.1 dX3_hasState_16 (by decide) ?_
      exact tw_zret X hr hlk w (by decide) h dX3_hasState_17
    · have h := h.2 c2
      refine lv_iconst (v := 1) X.1 X.2.1 dX3_hasState_12 (by decide) ?_
      refine lv_goto (tgt := 17) X.1 X.2.1 dX3_hasState_13 (by decide) ?_
      exact tw_zret X hr hlk w (by decide) h dX3_hasState_17

abbrev RM_X8_isSign : Room := { frames := 0, cells := 0, slots := 0, locals := 0 }
def wp_X8_isSign (g : tw_G) (σ : tw_S) (x0 : Int32) (Q : Int32 → tw_S → Prop) : Prop := ((x0 < 0) → Q (0 : Int32) σ) ∧ (¬ (x0 < 0) → (((4 : Int32) ≤ x0) → Q (0 : Int32) σ) ∧ (¬ ((4 : Int32) ≤ x0) → Q (1 : Int32) σ))
set_option maxHeartbeats 4000000 in
set_option maxRecDepth 100000 in
theorem ct_X8_isSign (l : Launch) (D : va_G) (g : tw_G) (hT : tw_T g) (sz : Nat) (σ : tw_S) (x0 : Int32) (Q : Int32 → tw_S → Prop) (h : wp_X8_isSign g σ x0 Q) : tw_Mi l yX8_isSign wsX8_isSign RM_X8_isSign D g sz σ [.int x0] Q := by
  refine Met.ofW (cc := cX8_isSign) (maxL := 1) (ret := (some .boolean)) (by decide) rfl ?_
  intro p e s m args below meth c s₁ B hml hv
  obtain ⟨rfl, hsz, hP, hK, hD0⟩ := hv
  subst hsz
  have hr := B.returns
  have hlk := B.notSynchronized
  have X : CallFix p m c cX8_isSign 1 s _ wsX8_isSign RX8 := ⟨B.exec, B.bytes, hml, findClass_of_methodNamed B.named, atoms_spec (ws := wsX8_isSign) B.pre⟩
  have w := tw_w0 hP hD0
  have hl := lv_entry ([.int x0]) (n := 1) (Nat.le_of_ble_eq_true rfl)
  rw [lg_entry_eq]
  generalize (lg_sl ([.int x0]) ++ List.replicate (1 - (lg_sl ([.int x0])).length) Slot.unset).toArray = ls at hl ⊢
  have hl : lv_has ls 1 [(0, .int x0)] := hl
  unfold wp_X8_isSign at h
  refine lv_iload_n X.1 X.2.1 dX8_isSign_0 rfl (lv_at hl 0 rfl) ?_
  refine lv_if_lt (tgt := 13) X.1 X.2.1 dX8_isSign_1 (by decide) (fun c1 => ?_) (fun c1 => ?_)
  · have h := h.1 c1
    refine lv_iconst (v := 0) X.1 X.2.1 dX8_isSign_13 (by decide) ?_
    exact tw_zret X hr hlk w (by decide) h dX8_isSign_14
  · have h := h.2 c1
    refine lv_iload_n X.1 X.2.1 dX8_isSign_4 rfl (lv_at hl 0 rfl) ?_
    refine lv_iconst (v := 4) X.1 X.2.1 dX8_isSign_5 (by decide) ?_
    refine lv_icmp_ge (tgt := 13) X.1 X.2.1 dX8_isSign_6 (by decide) (fun c2 => ?_) (fun c2 => ?_)
    · have h := h.1 c2
      refine lv_iconst (v := 0) X.1 X.2.1 dX8_isSign_13 (by decide) ?_
      exact tw_zret X hr hlk w (by decide) h dX8_isSign_14
    · have h := h.2 c2
      refine lv_iconst (v := 1) X.1 X.2.1 dX8_isSign_9 (by decide) ?_
      refine lv_goto (tgt := 14) X.1 X.2.1 dX8_isSign_10 (by decide) ?_
      exact tw_zret X hr hlk w (by decide) h dX8_isSign_14

abbrev RM_X3_at : Room := { frames := 1, cells := 0, slots := 0, locals := 20 }
theorem iw_X3_at_3 : ∀ w ∈ wsX30, w ∈ wsX3_at := fun w h => List.mem_cons_of_mem _ (List.mem_append_right _ (h))
def wp_X3_at (g : tw_G) (σ : tw_S) (a0 : Nat) (x1 : Int32) (x2 : Int32) (Q : Int32 → tw_S → Prop) : Prop := ((x1 < 0) → Q (-1 : Int32) σ) ∧ (¬ (x1 < 0) → (((tw_I σ a0 1) ≤ x1) → Q (-1 : Int32) σ) ∧ (¬ ((tw_I σ a0 1) ≤ x1) → wp_X8_isSign g σ x2 (fun r4 σ3 => ((r4 = 0) → Q (-1 : Int32) σ3) ∧ (¬ (r4 = 0) → vp_in (((4 : Int32) * x1) + x2) 16 ∧ Q (tw_A σ3 (tw_R g a0 0) (((4 : Int32) * x1) + x2).toNatClampNeg) σ3))))
set_option maxHeartbeats 4000000 in
set_option maxRecDepth 100000 in
theorem ct_X3_at (l : Launch) (D : va_G) (g : tw_G) (hT : tw_T g) (sz : Nat) (σ : tw_S) (a0 : Nat) (h0 : tw_is g 3 a0) (x1 : Int32) (x2 : Int32) (Q : Int32 → tw_S → Prop) (h : wp_X3_at g σ a0 x1 x2 Q) : tw_Mi l yX3_at wsX3_at RM_X3_at D g sz σ [.ref a0, .int x1, .int x2] Q := by
  refine Met.ofW (cc := cX3_at) (maxL := 3) (ret := (some .int)) (by decide) rfl ?_
  intro p e s m args below meth c s₁ B hml hv
  obtain ⟨rfl, hsz, hP, hK, hD0⟩ := hv
  subst hsz
  have hr := B.returns
  have hlk := B.notSynchronized
  have X : CallFix p m c cX3_at 3 s _ wsX3_at RX3 := ⟨B.exec, B.bytes, hml, findClass_of_methodNamed B.named, atoms_spec (ws := wsX3_at) B.pre⟩
  have w := tw_w0 hP hD0
  have hl := lv_entry ([.ref a0, .int x1, .int x2]) (n := 3) (Nat.le_of_ble_eq_true rfl)
  rw [lg_entry_eq]
  generalize (lg_sl ([.ref a0, .int x1, .int x2]) ++ List.replicate (3 - (lg_sl ([.ref a0, .int x1, .int x2])).length) Slot.unset).toArray = ls at hl ⊢
  have hl : lv_has ls 3 [(0, .ref a0), (1, .int x1), (2, .int x2)] := hl
  unfold wp_X3_at at h
  refine lv_iload_n X.1 X.2.1 dX3_at_0 rfl (lv_at hl 1 rfl) ?_
  refine lv_if_lt (tgt := 32) X.1 X.2.1 dX3_at_1 (by decide) (fun c1 => ?_) (fun c1 => ?_)
  · have h := h.1 c1
    refine lv_iconst (v := -1) X.1 X.2.1 dX3_at_32 (by decide) ?_
    exact tw_iret X hr hlk w h dX3_at_33
  · have h := h.2 c1
    refine lv_iload_n X.1 X.2.1 dX3_at_4 rfl (lv_at hl 1 rfl) ?_
    refine lv_aload_n X.1 X.2.1 dX3_at_5 rfl (lv_at hl 0 rfl) ?_
    refine tw_get X hK w 3 iw_X3_at_3 h0 (by decide) rfl 1 (by decide) (List.mem_of_getElem? (i := 1) rfl) rfl dX3_at_6 ?_
    refine lv_icmp_ge (tgt := 32) X.1 X.2.1 dX3_at_9 (by decide) (fun c2 => ?_) (fun c2 => ?_)
    · have h := h.1 c2
      refine lv_iconst (v := -1) X.1 X.2.1 dX3_at_32 (by decide) ?_
      exact tw_iret X hr hlk w h dX3_at_33
    · have h := h.2 c2
      refine lv_iload_n X.1 X.2.1 dX3_at_12 rfl (lv_at hl 2 rfl) ?_
      refine tw_ci w (va_runSN (As := [.int x2]) (rest := []) X (ct_X8_isSign l D g hT _ σ x2 _ h) ⟨va_cnB 1 X.2.2.2.2 gX3_at_X8_isSign_n25 rfl rfl rfl (hK.2 _ (List.mem_of_getElem? (i := 9) rfl)) (X.2.2.2.2 _ (List.mem_of_getElem? (i := 4) rfl)) (by decide +kernel) ⟨Nat.le_of_ble_eq_true rfl, Nat.le_of_ble_eq_true rfl⟩, X.2.2.2.2 _ (List.mem_of_getElem? (i := 3) rfl), trivial⟩ (tw_pre hK w [.int x2]) rfl rfl hl.1 rfl (lv_room (Nat.le_of_ble_eq_true rfl)) dX3_at_13 ⟨Nat.zero_le _, Nat.zero_le _⟩) (fun r4 σ3 H locs h w => ?_)
      refine lv_if_eq (tgt := 32) X.1 X.2.1 dX3_at_16 (by decide) (fun c5 => ?_) (fun c5 => ?_)
      · have h := h.1 c5
        refine lv_iconst (v := -1) X.1 X.2.1 dX3_at_32 (by decide) ?_
        exact tw_iret X hr hlk w h dX3_at_33
      · have h := h.2 c5
        refine lv_aload_n X.1 X.2.1 dX3_at_19 rfl (lv_at hl 0 rfl) ?_
        refine tw_get X hK w 3 iw_X3_at_3 h0 (by decide) rfl 0 (by decide) (List.mem_of_getElem? (i := 2) rfl) rfl dX3_at_20 ?_
        refine lv_iconst (v := 4) X.1 X.2.1 dX3_at_23 (by decide) ?_
        refine lv_iload_n X.1 X.2.1 dX3_at_24 rfl (lv_at hl 1 rfl) ?_
        refine lv_imul X.1 X.2.1 dX3_at_25 ?_
        refine lv_iload_n X.1 X.2.1 dX3_at_26 rfl (lv_at hl 2 rfl) ?_
        refine lv_iadd X.1 X.2.1 dX3_at_27 ?_
        obtain ⟨hi6, h⟩ := h
        refine tw_iald X hK w (tw_t_3_0 hT h0) (tw_n_3_0 hT h0) hi6 dX3_at_28 ?_
        refine lv_goto (tgt := 33) X.1 X.2.1 dX3_at_29 (by decide) ?_
        exact tw_iret X hr hlk w h dX3_at_33

abbrev RM_X3_put : Room := { frames := 1, cells := 0, slots := 0, locals := 21 }
theorem iw_X3_put_3 : ∀ w ∈ wsX30, w ∈ wsX3_put := fun w h => List.mem_cons_of_mem _ (List.mem_append_right _ (h))
def wp_X3_put (g : tw_G) (σ : tw_S) (a0 : Nat) (x1 : Int32) (x2 : Int32) (x3 : Int32) (Q : tw_S → Prop) : Prop := wp_X3_hasState g σ a0 x1 (fun r2 σ1 => ((r2 = 0) → Q σ1) ∧ (¬ (r2 = 0) → wp_X8_isSign g σ1 x2 (fun r5 σ4 => ((r5 = 0) → Q σ4) ∧ (¬ (r5 = 0) → vp_in (((4 : Int32) * x1) + x2) 16 ∧ ∀ σ8, σ8 = (tw_sA σ4 (tw_R g a0 0) (upd (tw_A σ4 (tw_R g a0 0)) (((4 : Int32) * x1) + x2).toNatClampNeg x3)) → Q σ8))))
set_option maxHeartbeats 4000000 in
set_option maxRecDepth 100000 in
theorem ct_X3_put (l : Launch) (D : va_G) (g : tw_G) (hT : tw_T g) (sz : Nat) (σ : tw_S) (a0 : Nat) (h0 : tw_is g 3 a0) (x1 : Int32) (x2 : Int32) (x3 : Int32) (Q : tw_S → Prop) (h : wp_X3_put g σ a0 x1 x2 x3 Q) : tw_Mv l yX3_put wsX3_put RM_X3_put D g sz σ [.ref a0, .int x1, .int x2, .int x3] Q := by
  refine Met.ofW (cc := cX3_put) (maxL := 4) (ret := none) (by decide) rfl ?_
  intro p e s m args below meth c s₁ B hml hv
  obtain ⟨rfl, hsz, hP, hK, hD0⟩ := hv
  subst hsz
  have hr := B.returns
  have hlk := B.notSynchronized
  have X : CallFix p m c cX3_put 4 s _ wsX3_put RX3 := ⟨B.exec, B.bytes, hml, findClass_of_methodNamed B.named, atoms_spec (ws := wsX3_put) B.pre⟩
  have w := tw_w0 hP hD0
  have hl := lv_entry ([.ref a0, .int x1, .int x2, .int x3]) (n := 4) (Nat.le_of_ble_eq_true rfl)
  rw [lg_entry_eq]
  generalize (lg_sl ([.ref a0, .int x1, .int x2, .int x3]) ++ List.replicate (4 - (lg_sl ([.ref a0, .int x1, .int x2, .int x3])).length) Slot.unset).toArray = ls at hl ⊢
  have hl : lv_has ls 4 [(0, .ref a0), (1, .int x1), (2, .int x2), (3, .int x3)] := hl
  unfold wp_X3_put at h
  refine lv_aload_n X.1 X.2.1 dX3_put_0 rfl (lv_at hl 0 rfl) ?_
  refine lv_iload_n X.1 X.2.1 dX3_put_1 rfl (lv_at hl 1 rfl) ?_
  refine tw_ci w (va_runV (As := [.int x1]) (rest := []) X (ct_X3_hasState l D g hT _ σ a0 h0 x1 _ h) (cwV 1 X.2.2.2.2 gX3_put_X3_hasState rfl rfl rfl (by decide +kernel) ⟨Nat.le_of_ble_eq_true rfl, Nat.le_of_ble_eq_true rfl⟩) (tw_preV hK w h0 (by decide) rfl [.int x1]) rfl rfl hl.1 rfl (lv_room (Nat.le_of_ble_eq_true rfl)) dX3_put_2 ⟨Nat.zero_le _, Nat.zero_le _⟩) (fun r2 σ1 H locs h w => ?_)
  refine lv_if_eq (tgt := 26) X.1 X.2.1 dX3_put_5 (by decide) (fun c3 => ?_) (fun c3 => ?_)
  · have h := h.1 c3
    exact tw_vret X hr hlk w h dX3_put_26
  · have h := h.2 c3
    refine lv_iload_n X.1 X.2.1 dX3_put_8 rfl (lv_at hl 2 rfl) ?_
    refine tw_ci w (va_runSN (As := [.int x2]) (rest := []) X (ct_X8_isSign l D g hT _ σ1 x2 _ h) ⟨va_cnB 1 X.2.2.2.2 gX3_put_X8_isSign_n25 rfl rfl rfl (hK.2 _ (List.mem_of_getElem? (i := 9) rfl)) (X.2.2.2.2 _ (List.mem_of_getElem? (i := 9) rfl)) (by decide +kernel) ⟨Nat.le_of_ble_eq_true rfl, Nat.le_of_ble_eq_true rfl⟩, X.2.2.2.2 _ (List.mem_of_getElem? (i := 8) rfl), trivial⟩ (tw_pre hK w [.int x2]) rfl rfl hl.1 rfl (lv_room (Nat.le_of_ble_eq_true rfl)) dX3_put_9 ⟨Nat.zero_le _, Nat.zero_le _⟩) (fun r5 σ4 H locs h w => ?_)
    refine lv_if_eq (tgt := 26) X.1 X.2.1 dX3_put_12 (by decide) (fun c6 => ?_) (fun c6 => ?_)
    · have h := h.1 c6
      exact tw_vret X hr hlk w h dX3_put_26
    · have h := h.2 c6
      refine lv_aload_n X.1 X.2.1 dX3_put_15 rfl (lv_at hl 0 rfl) ?_
      refine tw_get X hK w 3 iw_X3_put_3 h0 (by decide) rfl 0 (by decide) (List.mem_of_getElem? (i := 1) rfl) rfl dX3_put_16 ?_
      refine lv_iconst (v := 4) X.1 X.2.1 dX3_put_19 (by decide) ?_
      refine lv_iload_n X.1 X.2.1 dX3_put_20 rfl (lv_at hl 1 rfl) ?_
      refine lv_imul X.1 X.2.1 dX3_put_21 ?_
      refine lv_iload_n X.1 X.2.1 dX3_put_22 rfl (lv_at hl 2 rfl) ?_
      refine lv_iadd X.1 X.2.1 dX3_put_23 ?_
      refine lv_iload_n X.1 X.2.1 dX3_put_24 rfl (lv_at hl 3 rfl) ?_
      obtain ⟨hi7, h⟩ := h
      refine tw_iast X hK w (tw_t_3_0 hT h0) (tw_n_3_0 hT h0) hi7 dX3_put_25 (fun σ8 H locs eσ8 w => ?_)
      have h := h _ eσ8
      exact tw_vret X hr hlk w h dX3_put_26

abbrev RM_X3_empty : Room := { frames := 1, cells := 0, slots := 0, locals := 23 }
theorem iw_X3_empty_3 : ∀ w ∈ wsX30, w ∈ wsX3_empty := fun w h => List.mem_cons_of_mem _ (List.mem_append_right _ (h))
def wp_X3_empty (g : tw_G) (σ : tw_S) (a0 : Nat) (x1 : Int32) (Q : tw_S → Prop) : Prop := ∀ z1, z1 = (if (1 : Int32) < x1 then x1 else (1 : Int32)) → ∀ z2, z2 = (if z1 < (4 : Int32) then z1 else (4 : Int32)) → ∀ σ3, σ3 = (tw_sI σ a0 1 z2) → wp_J7_fill_53178 g σ3 (tw_R g a0 0) 16 (-1 : Int32) (fun σ4 => Q σ4)
set_option maxHeartbeats 4000000 in
set_option maxRecDepth 100000 in
theorem ct_X3_empty (l : Launch) (D : va_G) (g : tw_G) (hT : tw_T g) (sz : Nat) (σ : tw_S) (a0 : Nat) (h0 : tw_is g 3 a0) (x1 : Int32) (Q : tw_S → Prop) (h : wp_X3_empty g σ a0 x1 Q) : tw_Mv l yX3_empty wsX3_empty RM_X3_empty D g sz σ [.ref a0, .int x1] Q := by
  refine Met.ofW (cc := cX3_empty) (maxL := 2) (ret := none) (by decide) rfl ?_
  intro p e s m args below meth c s₁ B hml hv
  obtain ⟨rfl, hsz, hP, hK, hD0⟩ := hv
  subst hsz
  have hr := B.returns
  have hlk := B.notSynchronized
  have X : CallFix p m c cX3_empty 2 s _ wsX3_empty RX3 := ⟨B.exec, B.bytes, hml, findClass_of_methodNamed B.named, atoms_spec (ws := wsX3_empty) B.pre⟩
  have w := tw_w0 hP hD0
  have hl := lv_entry ([.ref a0, .int x1]) (n := 2) (Nat.le_of_ble_eq_true rfl)
  rw [lg_entry_eq]
  generalize (lg_sl ([.ref a0, .int x1]) ++ List.replicate (2 - (lg_sl ([.ref a0, .int x1])).length) Slot.unset).toArray = ls at hl ⊢
  have hl : lv_has ls 2 [(0, .ref a0), (1, .int x1)] := hl
  unfold wp_X3_empty at h
  refine lv_aload_n X.1 X.2.1 dX3_empty_0 rfl (lv_at hl 0 rfl) ?_
  refine lv_iconst (v := 4) X.1 X.2.1 dX3_empty_1 (by decide) ?_
  refine lv_iconst (v := 1) X.1 X.2.1 dX3_empty_2 (by decide) ?_
  refine lv_iload_n X.1 X.2.1 dX3_empty_3 rfl (lv_at hl 1 rfl) ?_
  refine va_mmax X.1 X.2.1 (X.2.2.1.trans hl.1.symm) X.2.2.2.1 (X.2.2.2.2 _ (List.mem_of_getElem? (i := 1) rfl)) (X.2.2.2.2 _ (List.mem_of_getElem? (i := 2) rfl)) (X.2.2.2.2 _ (List.mem_of_getElem? (i := 3) rfl)) (X.2.2.2.2 _ (List.mem_of_getElem? (i := 4) rfl)) (Nat.le_of_ble_eq_true rfl) (Nat.le_of_ble_eq_true rfl) (Nat.zero_le _) (Nat.zero_le _) dX3_empty_4 ?_
  refine lv_topi (fun z1 ez1 => ?_)
  have h := h _ ez1
  refine va_mmin X.1 X.2.1 (X.2.2.1.trans hl.1.symm) X.2.2.2.1 (X.2.2.2.2 _ (List.mem_of_getElem? (i := 5) rfl)) (X.2.2.2.2 _ (List.mem_of_getElem? (i := 6) rfl)) (X.2.2.2.2 _ (List.mem_of_getElem? (i := 3) rfl)) (X.2.2.2.2 _ (List.mem_of_getElem? (i := 7) rfl)) (Nat.le_of_ble_eq_true rfl) (Nat.le_of_ble_eq_true rfl) (Nat.zero_le _) (Nat.zero_le _) dX3_empty_7 ?_
  refine lv_topi (fun z2 ez2 => ?_)
  have h := h _ ez2
  refine tw_putI X hK w 3 iw_X3_empty_3 tyX3 tyX3_ok nmX3 h0 (by decide) rfl 1 (by decide) (List.mem_of_getElem? (i := 8) rfl) rfl (ty := .int) (by decide +kernel) rfl rfl (Nat.le_of_ble_eq_true rfl) (tw_f_3_1 g _ _ _) dX3_empty_10 (fun σ3 H locs eσ3 w => ?_)
  have h := h _ eσ3
  refine lv_aload_n X.1 X.2.1 dX3_empty_13 rfl (lv_at hl 0 rfl) ?_
  refine tw_get X hK w 3 iw_X3_empty_3 h0 (by decide) rfl 0 (by decide) (List.mem_of_getElem? (i := 9) rfl) rfl dX3_empty_14 ?_
  refine lv_iconst (v := -1) X.1 X.2.1 dX3_empty_17 (by decide) ?_
  refine tw_cv w (va_runS (As := [.ref (tw_R g a0 0), .int (-1 : Int32)]) (rest := []) X (ct_J7_fill_53178 l D g hT _ σ3 (tw_R g a0 0) (tw_t_3_0 hT h0) 16 (tw_n_3_0 hT h0) (-1 : Int32) _ h) (va_cwS 2 X.2.2.2.2 gX3_empty_J7_fill_53178 rfl rfl rfl (by decide +kernel) ⟨Nat.le_of_ble_eq_true rfl, Nat.le_of_ble_eq_true rfl⟩) (tw_pre hK w [.ref (tw_R g a0 0), .int (-1 : Int32)]) rfl rfl hl.1 rfl (lv_room (Nat.le_of_ble_eq_true rfl)) dX3_empty_18 ⟨Nat.zero_le _, Nat.zero_le _⟩) (fun σ4 H locs h w => ?_)
  exact tw_vret X hr hlk w h dX3_empty_21

abbrev RM_X3_become : Room := { frames := 1, cells := 0, slots := 0, locals := 26 }
theorem iw_X3_become_3 : ∀ w ∈ wsX30, w ∈ wsX3_become := fun w h => List.mem_cons_of_mem _ (List.mem_append_right _ (h))
def wp_X3_become (g : tw_G) (σ : tw_S) (a0 : Nat) (a1 : Nat) (Q : tw_S → Prop) : Prop := ∀ σ1, σ1 = (tw_sI σ a0 1 (tw_I σ a1 1)) → ∀ σ2, σ2 = (tw_sA σ1 (tw_R g a0 0) (va_cpy (tw_A σ1 (tw_R g a1 0)) (tw_A σ1 (tw_R g a0 0)) (0 : Int32).toNatClampNeg (0 : Int32).toNatClampNeg (16 : Int32).toNatClampNeg)) → Q σ2
set_option maxHeartbeats 4000000 in
set_option maxRecDepth 100000 in
theorem ct_X3_become (l : Launch) (D : va_G) (g : tw_G) (hT : tw_T g) (sz : Nat) (σ : tw_S) (a0 : Nat) (h0 : tw_is g 3 a0) (a1 : Nat) (h1 : tw_is g 3 a1) (Q : tw_S → Prop) (h : wp_X3_become g σ a0 a1 Q) : tw_Mv l yX3_become wsX3_become RM_X3_become D g sz σ [.ref a0, .ref a1] Q := by
  refine Met.ofW (cc := cX3_become) (maxL := 2) (ret := none) (by decide) rfl ?_
  intro p e s m args below meth c s₁ B hml hv
  obtain ⟨rfl, hsz, hP, hK, hD0⟩ := hv
  subst hsz
  have hr := B.returns
  have hlk := B.notSynchronized
  have X : CallFix p m c cX3_become 2 s _ wsX3_become RX3 := ⟨B.exec, B.bytes, hml, findClass_of_methodNamed B.named, atoms_spec (ws := wsX3_become) B.pre⟩
  have w := tw_w0 hP hD0
  have hl := lv_entry ([.ref a0, .ref a1]) (n := 2) (Nat.le_of_ble_eq_true rfl)
  rw [lg_entry_eq]
  generalize (lg_sl ([.ref a0, .ref a1]) ++ List.replicate (2 - (lg_sl ([.ref a0, .ref a1])).length) Slot.unset).toArray = ls at hl ⊢
  have hl : lv_has ls 2 [(0, .ref a0), (1, .ref a1)] := hl
  unfold wp_X3_become at h
  refine lv_aload_n X.1 X.2.1 dX3_become_0 rfl (lv_at hl 0 rfl) ?_
  refine lv_aload_n X.1 X.2.1 dX3_become_1 rfl (lv_at hl 1 rfl) ?_
  refine tw_get X hK w 3 iw_X3_become_3 h1 (by decide) rfl 1 (by decide) (List.mem_of_getElem? (i := 1) rfl) rfl dX3_become_2 ?_
  refine tw_putI X hK w 3 iw_X3_become_3 tyX3 tyX3_ok nmX3 h0 (by decide) rfl 1 (by decide) (List.mem_of_getElem? (i := 1) rfl) rfl (ty := .int) (by decide +kernel) rfl rfl (Nat.le_of_ble_eq_true rfl) (tw_f_3_1 g _ _ _) dX3_become_5 (fun σ1 H locs eσ1 w => ?_)
  have h := h _ eσ1
  refine lv_aload_n X.1 X.2.1 dX3_become_8 rfl (lv_at hl 1 rfl) ?_
  refine tw_get X hK w 3 iw_X3_become_3 h1 (by decide) rfl 0 (by decide) (List.mem_of_getElem? (i := 2) rfl) rfl dX3_become_9 ?_
  refine lv_iconst (v := 0) X.1 X.2.1 dX3_become_12 (by decide) ?_
  refine lv_aload_n X.1 X.2.1 dX3_become_13 rfl (lv_at hl 0 rfl) ?_
  refine tw_get X hK w 3 iw_X3_become_3 h0 (by decide) rfl 0 (by decide) (List.mem_of_getElem? (i := 2) rfl) rfl dX3_become_14 ?_
  refine lv_iconst (v := 0) X.1 X.2.1 dX3_become_17 (by decide) ?_
  refine lv_aload_n X.1 X.2.1 dX3_become_18 rfl (lv_at hl 0 rfl) ?_
  refine tw_get X hK w 3 iw_X3_become_3 h0 (by decide) rfl 0 (by decide) (List.mem_of_getElem? (i := 2) rfl) rfl dX3_become_19 ?_
  refine tw_alen (v := (16 : Int32)) X hK w (tw_t_3_0 hT h0) (tw_n_3_0 hT h0) rfl dX3_become_22 ?_
  refine tw_copy X hK w hl.1 (List.mem_of_getElem? (i := 3) rfl) (List.mem_of_getElem? (i := 4) rfl) (List.mem_of_getElem? (i := 5) rfl) (List.mem_of_getElem? (i := 6) rfl) (tw_t_3_0 hT h1) (tw_n_3_0 hT h1) (tw_t_3_0 hT h0) (tw_n_3_0 hT h0) (by decide) (by decide) (by decide) (by decide) (by decide) (Nat.le_of_ble_eq_true rfl) (Nat.le_of_ble_eq_true rfl) dX3_become_23 (fun σ2 H locs eσ2 w => ?_)
  have h := h _ eσ2
  exact tw_vret X hr hlk w h dX3_become_26

abbrev RM_X3_isLike : Room := { frames := 0, cells := 0, slots := 0, locals := 0 }
theorem iw_X3_isLike_3 : ∀ w ∈ wsX30, w ∈ wsX3_isLike := fun w h => List.mem_cons_of_mem _ (List.mem_append_right _ (h))
def wl_X3_isLike_2 (g : tw_G) (a0 : Nat) (a1 : Nat) (Q : Int32 → tw_S → Prop) (k26 : tw_S → Prop) (k34 : tw_S → Prop) : Nat → Int32 → tw_S → Prop
  | 0, _, _ => False
  | n + 1, x2, σ => (((16 : Int32) ≤ x2) → k34  σ) ∧ (¬ ((16 : Int32) ≤ x2) → vp_in x2 16 ∧ vp_in x2 16 ∧ (((tw_A σ (tw_R g a0 0) x2.toNatClampNeg) = (tw_A σ (tw_R g a1 0) x2.toNatClampNeg)) → wl_X3_isLike_2 g a0 a1 Q k26 k34 n (x2 + 1) σ) ∧ (¬ ((tw_A σ (tw_R g a0 0) x2.toNatClampNeg) = (tw_A σ (tw_R g a1 0) x2.toNatClampNeg)) → k26  σ))
def wp_X3_isLike (g : tw_G) (σ : tw_S) (a0 : Nat) (a1 : Nat) (Q : Int32 → tw_S → Prop) : Prop := ∃ n2, wl_X3_isLike_2 g a0 a1 Q (fun σ5 => Q (0 : Int32) σ5) (fun σ6 => ((¬ (tw_I σ6 a0 1) = (tw_I σ6 a1 1)) → Q (0 : Int32) σ6) ∧ (((tw_I σ6 a0 1) = (tw_I σ6 a1 1)) → Q (1 : Int32) σ6)) n2 (0 : Int32) σ
set_option maxHeartbeats 4000000 in
set_option maxRecDepth 100000 in
theorem lp_X3_isLike_2 {p : Program} {l : Launch} {e : Env} {s : State} {m : MethodId} {args : Array Value} {below : List Frame} {meth : Method} {c : Code} {D : va_G} {g : tw_G} (X : CallFix p m c cX3_isLike 3 s args wsX3_isLike RX3) (hr : meth.sig.returnType = (some .boolean)) (hlk : meth.locks = false) (hK : tw_k D g s) (hT : tw_T g) {a0 : Nat} {a1 : Nat} (h0 : tw_is g 3 a0) (h1 : tw_is g 3 a1) {Q : Int32 → tw_S → Prop} {k26 : tw_S → Prop} {k34 : tw_S → Prop}
    (hk26 : ∀  (σ : tw_S) (H : Heap) (locs : List Loc) (ls : Array Slot), k26  σ → tw_w D g (tw_F g s.heap.size) s σ H locs → lv_has ls 3 [] → W p l e RM_X3_isLike s m args below meth c H locs 0 0 (tw_Qi Q D g below args s) (F0 m 26 ls []))
    (hk34 : ∀  (σ : tw_S) (H : Heap) (locs : List Loc) (ls : Array Slot), k34  σ → tw_w D g (tw_F g s.heap.size) s σ H locs → lv_has ls 3 [(0, .ref a0), (1, .ref a1)] → W p l e RM_X3_isLike s m args below meth c H locs 0 0 (tw_Qi Q D g below args s) (F0 m 34 ls []))
    : ∀ (n : Nat) (x2 : Int32) (σ : tw_S) (H : Heap) (locs : List Loc) (ls : Array Slot), wl_X3_isLike_2 g a0 a1 Q k26 k34 n x2 σ → tw_w D g (tw_F g s.heap.size) s σ H locs → lv_has ls 3 [(0, .ref a0), (1, .ref a1), (2, .int x2)] → W p l e RM_X3_isLike s m args below meth c H locs 0 0 (tw_Qi Q D g below args s) (F0 m 2 ls []) := by
  intro n
  induction n with
  | zero =>
    intro x2 σ H locs ls h w hl
    exact False.elim h
  | succ n ih =>
    intro x2 σ H locs ls h w hl
    rw [wl_X3_isLike_2] at h
    refine lv_iload_n X.1 X.2.1 dX3_isLike_2 rfl (lv_at hl 2 rfl) ?_
    refine lv_aload_n X.1 X.2.1 dX3_isLike_3 rfl (lv_at hl 0 rfl) ?_
    refine tw_get X hK w 3 iw_X3_isLike_3 h0 (by decide) rfl 0 (by decide) (List.mem_of_getElem? (i := 1) rfl) rfl dX3_isLike_4 ?_
    refine tw_alen (v := (16 : Int32)) X hK w (tw_t_3_0 hT h0) (tw_n_3_0 hT h0) rfl dX3_isLike_7 ?_
    refine lv_icmp_ge (tgt := 34) X.1 X.2.1 dX3_isLike_8 (by decide) (fun c1 => ?_) (fun c1 => ?_)
    · have h := h.1 c1
      exact hk34  σ _ _ ls h w (lv_sub hl [0, 1] rfl)
    · have h := h.2 c1
      refine lv_aload_n X.1 X.2.1 dX3_isLike_11 rfl (lv_at hl 0 rfl) ?_
      refine tw_get X hK w 3 iw_X3_isLike_3 h0 (by decide) rfl 0 (by decide) (List.mem_of_getElem? (i := 1) rfl) rfl dX3_isLike_12 ?_
      refine lv_iload_n X.1 X.2.1 dX3_isLike_15 rfl (lv_at hl 2 rfl) ?_
      obtain ⟨hi2, h⟩ := h
      refine tw_iald X hK w (tw_t_3_0 hT h0) (tw_n_3_0 hT h0) hi2 dX3_isLike_16 ?_
      refine lv_aload_n X.1 X.2.1 dX3_isLike_17 rfl (lv_at hl 1 rfl) ?_
      refine tw_get X hK w 3 iw_X3_isLike_3 h1 (by decide) rfl 0 (by decide) (List.mem_of_getElem? (i := 1) rfl) rfl dX3_isLike_18 ?_
      refine lv_iload_n X.1 X.2.1 dX3_isLike_21 rfl (lv_at hl 2 rfl) ?_
      obtain ⟨hi3, h⟩ := h
      refine tw_iald X hK w (tw_t_3_0 hT h1) (tw_n_3_0 hT h1) hi3 dX3_isLike_22 ?_
      refine lv_icmp_eq (tgt := 28) X.1 X.2.1 dX3_isLike_23 (by decide) (fun c4 => ?_) (fun c4 => ?_)
      · have h := h.1 c4
        refine lv_iinc (v := (x2 + 1)) (lv' := [(2, .int (x2 + 1)), (0, .ref a0), (1, .ref a1)]) X.1 X.2.1 dX3_isLike_28 hl (k := 2) rfl rfl (by decide) rfl (fun ls hl => ?_)
        refine lv_goto (tgt := 2) X.1 X.2.1 dX3_isLike_31 (by decide) ?_
        exact ih (x2 + 1) σ _ _ ls h w (lv_sub hl [1, 2, 0] rfl)
      · have h := h.2 c4
        exact hk26  σ _ _ ls h w (lv_sub hl [] rfl)
set_option maxHeartbeats 4000000 in
set_option maxRecDepth 100000 in
theorem ct_X3_isLike (l : Launch) (D : va_G) (g : tw_G) (hT : tw_T g) (sz : Nat) (σ : tw_S) (a0 : Nat) (h0 : tw_is g 3 a0) (a1 : Nat) (h1 : tw_is g 3 a1) (Q : Int32 → tw_S → Prop) (h : wp_X3_isLike g σ a0 a1 Q) : tw_Mi l yX3_isLike wsX3_isLike RM_X3_isLike D g sz σ [.ref a0, .ref a1] Q := by
  refine Met.ofW (cc := cX3_isLike) (maxL := 3) (ret := (some .boolean)) (by decide) rfl ?_
  intro p e s m args below meth c s₁ B hml hv
  obtain ⟨rfl, hsz, hP, hK, hD0⟩ := hv
  subst hsz
  have hr := B.returns
  have hlk := B.notSynchronized
  have X : CallFix p m c cX3_isLike 3 s _ wsX3_isLike RX3 := ⟨B.exec, B.bytes, hml, findClass_of_methodNamed B.named, atoms_spec (ws := wsX3_isLike) B.pre⟩
  have w := tw_w0 hP hD0
  have hl := lv_entry ([.ref a0, .ref a1]) (n := 3) (Nat.le_of_ble_eq_true rfl)
  rw [lg_entry_eq]
  generalize (lg_sl ([.ref a0, .ref a1]) ++ List.replicate (3 - (lg_sl ([.ref a0, .ref a1])).length) Slot.unset).toArray = ls at hl ⊢
  have hl : lv_has ls 3 [(0, .ref a0), (1, .ref a1)] := hl
  unfold wp_X3_isLike at h
  refine lv_iconst (v := 0) X.1 X.2.1 dX3_isLike_0 (by decide) ?_
  refine lv_istore_n (lv' := [(2, .int (0 : Int32)), (0, .ref a0), (1, .ref a1)]) X.1 X.2.1 dX3_isLike_1 rfl hl (by decide) rfl (fun ls hl => ?_)
  obtain ⟨n2, h⟩ := h
  refine lp_X3_isLike_2 X hr hlk hK hT h0 h1 (fun σ5 H locs ls h w hl => ?_) (fun σ6 H locs ls h w hl => ?_) n2 (0 : Int32) σ _ _ ls h w (lv_sub hl [1, 2, 0] rfl)
  · skip
    refine lv_iconst (v := 0) X.1 X.2.1 dX3_isLike_26 (by decide) ?_
    exact tw_zret X hr hlk w (by decide) h dX3_isLike_27
  · skip
    refine lv_aload_n X.1 X.2.1 dX3_isLike_34 rfl (lv_at hl 0 rfl) ?_
    refine tw_get X hK w 3 iw_X3_isLike_3 h0 (by decide) rfl 1 (by decide) (List.mem_of_getElem? (i := 2) rfl) rfl dX3_isLike_35 ?_
    refine lv_aload_n X.1 X.2.1 dX3_isLike_38 rfl (lv_at hl 1 rfl) ?_
    refine tw_get X hK w 3 iw_X3_isLike_3 h1 (by decide) rfl 1 (by decide) (List.mem_of_getElem? (i := 2) rfl) rfl dX3_isLike_39 ?_
    refine lv_icmp_ne (tgt := 49) X.1 X.2.1 dX3_isLike_42 (by decide) (fun c7 => ?_) (fun c7 => ?_)
    · have h := h.1 c7
      refine lv_iconst (v := 0) X.1 X.2.1 dX3_isLike_49 (by decide) ?_
      exact tw_zret X hr hlk w (by decide) h dX3_isLike_50
    · have h := h.2 c7
      refine lv_iconst (v := 1) X.1 X.2.1 dX3_isLike_45 (by decide) ?_
      refine lv_goto (tgt := 50) X.1 X.2.1 dX3_isLike_46 (by decide) ?_
      exact tw_zret X hr hlk w (by decide) h dX3_isLike_50

abbrev RM_X3_countMoves : Room := { frames := 0, cells := 0, slots := 0, locals := 0 }
theorem iw_X3_countMoves_3 : ∀ w ∈ wsX30, w ∈ wsX3_countMoves := fun w h => List.mem_cons_of_mem _ (List.mem_append_right _ (h))
def wl_X3_countMoves_4 (g : tw_G) (a0 : Nat) (Q : Int32 → tw_S → Prop) (k32 : Int32 → tw_S → Prop) : Nat → Int32 → Int32 → tw_S → Prop
  | 0, _, _, _ => False
  | n + 1, x1, x2, σ => (((16 : Int32) ≤ x2) → k32 x1 σ) ∧ (¬ ((16 : Int32) ≤ x2) → vp_in x2 16 ∧ (((tw_A σ (tw_R g a0 0) x2.toNatClampNeg) = (-1 : Int32)) → wl_X3_countMoves_4 g a0 Q k32 n x1 (x2 + 1) σ) ∧ (¬ ((tw_A σ (tw_R g a0 0) x2.toNatClampNeg) = (-1 : Int32)) → wl_X3_countMoves_4 g a0 Q k32 n (x1 + 1) (x2 + 1) σ))
def wp_X3_countMoves (g : tw_G) (σ : tw_S) (a0 : Nat) (Q : Int32 → tw_S → Prop) : Prop := ∃ n4, wl_X3_countMoves_4 g a0 Q (fun v4 σ5 => Q v4 σ5) n4 (0 : Int32) (0 : Int32) σ
set_option maxHeartbeats 4000000 in
set_option maxRecDepth 100000 in
theorem lp_X3_countMoves_4 {p : Program} {l : Launch} {e : Env} {s : State} {m : MethodId} {args : Array Value} {below : List Frame} {meth : Method} {c : Code} {D : va_G} {g : tw_G} (X : CallFix p m c cX3_countMoves 3 s args wsX3_countMoves RX3) (hr : meth.sig.returnType = (some .int)) (hlk : meth.locks = false) (hK : tw_k D g s) (hT : tw_T g) {a0 : Nat} (h0 : tw_is g 3 a0) {Q : Int32 → tw_S → Prop} {k32 : Int32 → tw_S → Prop}
    (hk32 : ∀ (x1 : Int32) (σ : tw_S) (H : Heap) (locs : List Loc) (ls : Array Slot), k32 x1 σ → tw_w D g (tw_F g s.heap.size) s σ H locs → lv_has ls 3 [(1, .int x1)] → W p l e RM_X3_countMoves s m args below meth c H locs 0 0 (tw_Qi Q D g below args s) (F0 m 32 ls []))
    : ∀ (n : Nat) (x1 : Int32) (x2 : Int32) (σ : tw_S) (H : Heap) (locs : List Loc) (ls : Array Slot), wl_X3_countMoves_4 g a0 Q k32 n x1 x2 σ → tw_w D g (tw_F g s.heap.size) s σ H locs → lv_has ls 3 [(0, .ref a0), (1, .int x1), (2, .int x2)] → W p l e RM_X3_countMoves s m args below meth c H locs 0 0 (tw_Qi Q D g below args s) (F0 m 4 ls []) := by
  intro n
  induction n with
  | zero =>
    intro x1 x2 σ H locs ls h w hl
    exact False.elim h
  | succ n ih =>
    intro x1 x2 σ H locs ls h w hl
    rw [wl_X3_countMoves_4] at h
    refine lv_iload_n X.1 X.2.1 dX3_countMoves_4 rfl (lv_at hl 2 rfl) ?_
    refine lv_aload_n X.1 X.2.1 dX3_countMoves_5 rfl (lv_at hl 0 rfl) ?_
    refine tw_get X hK w 3 iw_X3_countMoves_3 h0 (by decide) rfl 0 (by decide) (List.mem_of_getElem? (i := 1) rfl) rfl dX3_countMoves_6 ?_
    refine tw_alen (v := (16 : Int32)) X hK w (tw_t_3_0 hT h0) (tw_n_3_0 hT h0) rfl dX3_countMoves_9 ?_
    refine lv_icmp_ge (tgt := 32) X.1 X.2.1 dX3_countMoves_10 (by decide) (fun c1 => ?_) (fun c1 => ?_)
    · have h := h.1 c1
      exact hk32 x1 σ _ _ ls h w (lv_sub hl [1] rfl)
    · have h := h.2 c1
      refine lv_aload_n X.1 X.2.1 dX3_countMoves_13 rfl (lv_at hl 0 rfl) ?_
      refine tw_get X hK w 3 iw_X3_countMoves_3 h0 (by decide) rfl 0 (by decide) (List.mem_of_getElem? (i := 1) rfl) rfl dX3_countMoves_14 ?_
      refine lv_iload_n X.1 X.2.1 dX3_countMoves_17 rfl (lv_at hl 2 rfl) ?_
      obtain ⟨hi2, h⟩ := h
      refine tw_iald X hK w (tw_t_3_0 hT h0) (tw_n_3_0 hT h0) hi2 dX3_countMoves_18 ?_
      refine lv_iconst (v := -1) X.1 X.2.1 dX3_countMoves_19 (by decide) ?_
      refine lv_icmp_eq (tgt := 26) X.1 X.2.1 dX3_countMoves_20 (by decide) (fun c3 => ?_) (fun c3 => ?_)
      · have h := h.1 c3
        refine lv_iinc (v := (x2 + 1)) (lv' := [(2, .int (x2 + 1)), (0, .ref a0), (1, .int x1)]) X.1 X.2.1 dX3_countMoves_26 hl (k := 2) rfl rfl (by decide) rfl (fun ls hl => ?_)
        refine lv_goto (tgt := 4) X.1 X.2.1 dX3_countMoves_29 (by decide) ?_
        exact ih x1 (x2 + 1) σ _ _ ls h w (lv_sub hl [1, 2, 0] rfl)
      · have h := h.2 c3
        refine lv_iinc (v := (x1 + 1)) (lv' := [(1, .int (x1 + 1)), (0, .ref a0), (2, .int x2)]) X.1 X.2.1 dX3_countMoves_23 hl (k := 1) rfl rfl (by decide) rfl (fun ls hl => ?_)
        refine lv_iinc (v := (x2 + 1)) (lv' := [(2, .int (x2 + 1)), (1, .int (x1 + 1)), (0, .ref a0)]) X.1 X.2.1 dX3_countMoves_26 hl (k := 2) rfl rfl (by decide) rfl (fun ls hl => ?_)
        refine lv_goto (tgt := 4) X.1 X.2.1 dX3_countMoves_29 (by decide) ?_
        exact ih (x1 + 1) (x2 + 1) σ _ _ ls h w (lv_sub hl [2, 1, 0] rfl)
set_option maxHeartbeats 4000000 in
set_option maxRecDepth 100000 in
theorem ct_X3_countMoves (l : Launch) (D : va_G) (g : tw_G) (hT : tw_T g) (sz : Nat) (σ : tw_S) (a0 : Nat) (h0 : tw_is g 3 a0) (Q : Int32 → tw_S → Prop) (h : wp_X3_countMoves g σ a0 Q) : tw_Mi l yX3_countMoves wsX3_countMoves RM_X3_countMoves D g sz σ [.ref a0] Q := by
  refine Met.ofW (cc := cX3_countMoves) (maxL := 3) (ret := (some .int)) (by decide) rfl ?_
  intro p e s m args below meth c s₁ B hml hv
  obtain ⟨rfl, hsz, hP, hK, hD0⟩ := hv
  subst hsz
  have hr := B.returns
  have hlk := B.notSynchronized
  have X : CallFix p m c cX3_countMoves 3 s _ wsX3_countMoves RX3 := ⟨B.exec, B.bytes, hml, findClass_of_methodNamed B.named, atoms_spec (ws := wsX3_countMoves) B.pre⟩
  have w := tw_w0 hP hD0
  have hl := lv_entry ([.ref a0]) (n := 3) (Nat.le_of_ble_eq_true rfl)
  rw [lg_entry_eq]
  generalize (lg_sl ([.ref a0]) ++ List.replicate (3 - (lg_sl ([.ref a0])).length) Slot.unset).toArray = ls at hl ⊢
  have hl : lv_has ls 3 [(0, .ref a0)] := hl
  unfold wp_X3_countMoves at h
  refine lv_iconst (v := 0) X.1 X.2.1 dX3_countMoves_0 (by decide) ?_
  refine lv_istore_n (lv' := [(1, .int (0 : Int32)), (0, .ref a0)]) X.1 X.2.1 dX3_countMoves_1 rfl hl (by decide) rfl (fun ls hl => ?_)
  refine lv_iconst (v := 0) X.1 X.2.1 dX3_countMoves_2 (by decide) ?_
  refine lv_istore_n (lv' := [(2, .int (0 : Int32)), (1, .int (0 : Int32)), (0, .ref a0)]) X.1 X.2.1 dX3_countMoves_3 rfl hl (by decide) rfl (fun ls hl => ?_)
  obtain ⟨n4, h⟩ := h
  refine lp_X3_countMoves_4 X hr hlk hK hT h0 (fun v4 σ5 H locs ls h w hl => ?_) n4 (0 : Int32) (0 : Int32) σ _ _ ls h w (lv_sub hl [2, 1, 0] rfl)
  · skip
    refine lv_iload_n X.1 X.2.1 dX3_countMoves_32 rfl (lv_at hl 0 rfl) ?_
    exact tw_iret X hr hlk w h dX3_countMoves_33

abbrev RM_X3_drawLot : Room := { frames := 0, cells := 0, slots := 0, locals := 0 }
theorem iw_X3_drawLot_3 : ∀ w ∈ wsX30, w ∈ wsX3_drawLot := fun w h => List.mem_cons_of_mem _ (List.mem_append_right _ (h))
def wp_X3_drawLot (g : tw_G) (σ : tw_S) (a0 : Nat) (x1 : Int32) (Q : Int32 → tw_S → Prop) : Prop := ∀ z1, z1 = (((tw_J σ a0 2) * (16807 : Int64)) - ((tw_J σ a0 2) * (16807 : Int64)) / (2147483647 : Int64) * (2147483647 : Int64)) → ∀ σ2, σ2 = (tw_sJ σ a0 2 z1) → ((x1 ≤ 0) → Q (0 : Int32) σ2) ∧ (¬ (x1 ≤ 0) → ¬ (x1.toInt64) = 0 ∧ ∀ z4, z4 = ((tw_J σ2 a0 2) - (tw_J σ2 a0 2) / (x1.toInt64) * (x1.toInt64)) → Q (z4.toInt32) σ2)
set_option maxHeartbeats 4000000 in
set_option maxRecDepth 100000 in
theorem ct_X3_drawLot (l : Launch) (D : va_G) (g : tw_G) (hT : tw_T g) (sz : Nat) (σ : tw_S) (a0 : Nat) (h0 : tw_is g 3 a0) (x1 : Int32) (Q : Int32 → tw_S → Prop) (h : wp_X3_drawLot g σ a0 x1 Q) : tw_Mi l yX3_drawLot wsX3_drawLot RM_X3_drawLot D g sz σ [.ref a0, .int x1] Q := by
  refine Met.ofW (cc := cX3_drawLot) (maxL := 2) (ret := (some .int)) (by decide) rfl ?_
  intro p e s m args below meth c s₁ B hml hv
  obtain ⟨rfl, hsz, hP, hK, hD0⟩ := hv
  subst hsz
  have hr := B.returns
  have hlk := B.notSynchronized
  have X : CallFix p m c cX3_drawLot 2 s _ wsX3_drawLot RX3 := ⟨B.exec, B.bytes, hml, findClass_of_methodNamed B.named, atoms_spec (ws := wsX3_drawLot) B.pre⟩
  have w := tw_w0 hP hD0
  have hl := lv_entry ([.ref a0, .int x1]) (n := 2) (Nat.le_of_ble_eq_true rfl)
  rw [lg_entry_eq]
  generalize (lg_sl ([.ref a0, .int x1]) ++ List.replicate (2 - (lg_sl ([.ref a0, .int x1])).length) Slot.unset).toArray = ls at hl ⊢
  have hl : lv_has ls 2 [(0, .ref a0), (1, .int x1)] := hl
  unfold wp_X3_drawLot at h
  refine lv_aload_n X.1 X.2.1 dX3_drawLot_0 rfl (lv_at hl 0 rfl) ?_
  refine lv_aload_n X.1 X.2.1 dX3_drawLot_1 rfl (lv_at hl 0 rfl) ?_
  refine tw_get X hK w 3 iw_X3_drawLot_3 h0 (by decide) rfl 2 (by decide) (List.mem_of_getElem? (i := 1) rfl) rfl dX3_drawLot_2 ?_
  refine lv_ldc2 (own := RX3) (v := 16807) X.1 X.2.1 X.2.2.2.1 (X.2.2.2.2 _ (List.mem_of_getElem? (i := 2) rfl)) dX3_drawLot_5 ?_
  refine lv_lmul X.1 X.2.1 dX3_drawLot_8 ?_
  refine lv_ldc2 (own := RX3) (v := 2147483647) X.1 X.2.1 X.2.2.2.1 (X.2.2.2.2 _ (List.mem_of_getElem? (i := 3) rfl)) dX3_drawLot_9 ?_
  refine lv_lrem X.1 X.2.1 dX3_drawLot_12 (by decide) ?_
  refine lv_topl (fun z1 ez1 => ?_)
  have h := h _ ez1
  refine tw_putJ X hK w 3 iw_X3_drawLot_3 tyX3 tyX3_ok nmX3 h0 (by decide) rfl 2 (by decide) (List.mem_of_getElem? (i := 1) rfl) rfl (ty := .long) (by decide +kernel) rfl rfl (Nat.le_of_ble_eq_true rfl) (tw_f_3_2 g _ _ _) dX3_drawLot_13 (fun σ2 H locs eσ2 w => ?_)
  have h := h _ eσ2
  refine lv_iload_n X.1 X.2.1 dX3_drawLot_16 rfl (lv_at hl 1 rfl) ?_
  refine lv_if_le (tgt := 31) X.1 X.2.1 dX3_drawLot_17 (by decide) (fun c3 => ?_) (fun c3 => ?_)
  · have h := h.1 c3
    refine lv_iconst (v := 0) X.1 X.2.1 dX3_drawLot_31 (by decide) ?_
    exact tw_iret X hr hlk w h dX3_drawLot_32
  · have h := h.2 c3
    refine lv_aload_n X.1 X.2.1 dX3_drawLot_20 rfl (lv_at hl 0 rfl) ?_
    refine tw_get X hK w 3 iw_X3_drawLot_3 h0 (by decide) rfl 2 (by decide) (List.mem_of_getElem? (i := 1) rfl) rfl dX3_drawLot_21 ?_
    refine lv_iload_n X.1 X.2.1 dX3_drawLot_24 rfl (lv_at hl 1 rfl) ?_
    refine lv_i2l (v := (x1.toInt64)) X.1 X.2.1 dX3_drawLot_25 rfl ?_
    obtain ⟨hne, h⟩ := h
    refine lv_lrem X.1 X.2.1 dX3_drawLot_26 hne ?_
    refine lv_topl (fun z4 ez4 => ?_)
    have h := h _ ez4
    refine lv_l2i (v := (z4.toInt32)) X.1 X.2.1 dX3_drawLot_27 rfl ?_
    refine lv_goto (tgt := 32) X.1 X.2.1 dX3_drawLot_28 (by decide) ?_
    exact tw_iret X hr hlk w h dX3_drawLot_32

abbrev RM_X3_drawMove : Room := { frames := 1, cells := 0, slots := 0, locals := 21 }
theorem iw_X3_drawMove_3 : ∀ w ∈ wsX30, w ∈ wsX3_drawMove := fun w h => List.mem_cons_of_mem _ (List.mem_append_right _ (h))
def wp_X3_drawMove (g : tw_G) (σ : tw_S) (a0 : Nat) (Q : Int32 → tw_S → Prop) : Prop := wp_X3_drawLot g σ a0 (tw_I σ a0 1) (fun r2 σ1 => wp_X3_drawLot g σ1 a0 (2 : Int32) (fun r4 σ3 => Q (((2 : Int32) * r2) + r4) σ3))
set_option maxHeartbeats 4000000 in
set_option maxRecDepth 100000 in
theorem ct_X3_drawMove (l : Launch) (D : va_G) (g : tw_G) (hT : tw_T g) (sz : Nat) (σ : tw_S) (a0 : Nat) (h0 : tw_is g 3 a0) (Q : Int32 → tw_S → Prop) (h : wp_X3_drawMove g σ a0 Q) : tw_Mi l yX3_drawMove wsX3_drawMove RM_X3_drawMove D g sz σ [.ref a0] Q := by
  refine Met.ofW (cc := cX3_drawMove) (maxL := 2) (ret := (some .int)) (by decide) rfl ?_
  intro p e s m args below meth c s₁ B hml hv
  obtain ⟨rfl, hsz, hP, hK, hD0⟩ := hv
  subst hsz
  have hr := B.returns
  have hlk := B.notSynchronized
  have X : CallFix p m c cX3_drawMove 2 s _ wsX3_drawMove RX3 := ⟨B.exec, B.bytes, hml, findClass_of_methodNamed B.named, atoms_spec (ws := wsX3_drawMove) B.pre⟩
  have w := tw_w0 hP hD0
  have hl := lv_entry ([.ref a0]) (n := 2) (Nat.le_of_ble_eq_true rfl)
  rw [lg_entry_eq]
  generalize (lg_sl ([.ref a0]) ++ List.replicate (2 - (lg_sl ([.ref a0])).length) Slot.unset).toArray = ls at hl ⊢
  have hl : lv_has ls 2 [(0, .ref a0)] := hl
  unfold wp_X3_drawMove at h
  refine lv_aload_n X.1 X.2.1 dX3_drawMove_0 rfl (lv_at hl 0 rfl) ?_
  refine lv_aload_n X.1 X.2.1 dX3_drawMove_1 rfl (lv_at hl 0 rfl) ?_
  refine tw_get X hK w 3 iw_X3_drawMove_3 h0 (by decide) rfl 1 (by decide) (List.mem_of_getElem? (i := 1) rfl) rfl dX3_drawMove_2 ?_
  refine tw_ci w (va_runV (As := [.int (tw_I σ a0 1)]) (rest := []) X (ct_X3_drawLot l D g hT _ σ a0 h0 (tw_I σ a0 1) _ h) (cwV 1 X.2.2.2.2 gX3_drawMove_X3_drawLot rfl rfl rfl (by decide +kernel) ⟨Nat.le_of_ble_eq_true rfl, Nat.le_of_ble_eq_true rfl⟩) (tw_preV hK w h0 (by decide) rfl [.int (tw_I σ a0 1)]) rfl rfl hl.1 rfl (lv_room (Nat.le_of_ble_eq_true rfl)) dX3_drawMove_5 ⟨Nat.zero_le _, Nat.zero_le _⟩) (fun r2 σ1 H locs h w => ?_)
  refine lv_istore_n (lv' := [(1, .int r2), (0, .ref a0)]) X.1 X.2.1 dX3_drawMove_8 rfl hl (by decide) rfl (fun ls hl => ?_)
  refine lv_iconst (v := 2) X.1 X.2.1 dX3_drawMove_9 (by decide) ?_
  refine lv_iload_n X.1 X.2.1 dX3_drawMove_10 rfl (lv_at hl 0 rfl) ?_
  refine lv_imul X.1 X.2.1 dX3_drawMove_11 ?_
  refine lv_aload_n X.1 X.2.1 dX3_drawMove_12 rfl (lv_at hl 1 rfl) ?_
  refine lv_iconst (v := 2) X.1 X.2.1 dX3_drawMove_13 (by decide) ?_
  refine tw_ci w (va_runV (As := [.int (2 : Int32)]) (rest := [.int ((2 : Int32) * r2)]) X (ct_X3_drawLot l D g hT _ σ1 a0 h0 (2 : Int32) _ h) (cwV 1 X.2.2.2.2 gX3_drawMove_X3_drawLot rfl rfl rfl (by decide +kernel) ⟨Nat.le_of_ble_eq_true rfl, Nat.le_of_ble_eq_true rfl⟩) (tw_preV hK w h0 (by decide) rfl [.int (2 : Int32)]) rfl rfl hl.1 rfl (lv_room (Nat.le_of_ble_eq_true rfl)) dX3_drawMove_14 ⟨Nat.zero_le _, Nat.zero_le _⟩) (fun r4 σ3 H locs h w => ?_)
  refine lv_iadd X.1 X.2.1 dX3_drawMove_17 ?_
  exact tw_iret X hr hlk w h dX3_drawMove_18

abbrev RM_X3_drawLots : Room := { frames := 2, cells := 0, slots := 0, locals := 44 }
theorem iw_X3_drawLots_3 : ∀ w ∈ wsX30, w ∈ wsX3_drawLots := fun w h => List.mem_cons_of_mem _ (List.mem_append_right _ (h))
def wl_X3_drawLots_18 (g : tw_G) (a0 : Nat) (x2 : Int32) (Q : tw_S → Prop) (k51 : tw_S → Prop) : Nat → Int32 → tw_S → Prop
  | 0, _, _ => False
  | n + 1, x3, σ => (((4 : Int32) ≤ x3) → k51  σ) ∧ (¬ ((4 : Int32) ≤ x3) → wp_X3_drawLot g σ a0 (5 : Int32) (fun r5 σ4 => ((¬ r5 = 0) → wp_X3_drawMove g σ4 a0 (fun r8 σ7 => wp_X3_put g σ7 a0 x2 x3 r8 (fun σ9 => wl_X3_drawLots_18 g a0 x2 Q k51 n (x3 + 1) σ9))) ∧ ((r5 = 0) → wp_X3_put g σ4 a0 x2 x3 (-1 : Int32) (fun σ10 => wl_X3_drawLots_18 g a0 x2 Q k51 n (x3 + 1) σ10))))
def wl_X3_drawLots_8 (g : tw_G) (a0 : Nat) (Q : tw_S → Prop) (k57 : tw_S → Prop) : Nat → Int32 → tw_S → Prop
  | 0, _, _ => False
  | n + 1, x2, σ => (((tw_I σ a0 1) ≤ x2) → k57  σ) ∧ (¬ ((tw_I σ a0 1) ≤ x2) → ∃ n18, wl_X3_drawLots_18 g a0 x2 Q (fun σ11 => wl_X3_drawLots_8 g a0 Q k57 n (x2 + 1) σ11) n18 (0 : Int32) σ)
def wp_X3_drawLots (g : tw_G) (σ : tw_S) (a0 : Nat) (x1 : Int32) (Q : tw_S → Prop) : Prop := ∀ σ1, σ1 = (tw_sJ σ a0 2 (x1.toInt64)) → ∃ n8, wl_X3_drawLots_8 g a0 Q (fun σ12 => Q σ12) n8 (0 : Int32) σ1
set_option maxHeartbeats 4000000 in
set_option maxRecDepth 100000 in
theorem lp_X3_drawLots_18 {p : Program} {l : Launch} {e : Env} {s : State} {m : MethodId} {args : Array Value} {below : List Frame} {meth : Method} {c : Code} {D : va_G} {g : tw_G} (X : CallFix p m c cX3_drawLots 4 s args wsX3_drawLots RX3) (hr : meth.sig.returnType = none) (hlk : meth.locks = false) (hK : tw_k D g s) (hT : tw_T g) {a0 : Nat} {x2 : Int32} (h0 : tw_is g 3 a0) {Q : tw_S → Prop} {k51 : tw_S → Prop}
    (hk51 : ∀  (σ : tw_S) (H : Heap) (locs : List Loc) (ls : Array Slot), k51  σ → tw_w D g (tw_F g s.heap.size) s σ H locs → lv_has ls 4 [(0, .ref a0), (2, .int x2)] → W p l e RM_X3_drawLots s m args below meth c H locs 0 0 (tw_Qv Q D g below args s) (F0 m 51 ls []))
    : ∀ (n : Nat) (x3 : Int32) (σ : tw_S) (H : Heap) (locs : List Loc) (ls : Array Slot), wl_X3_drawLots_18 g a0 x2 Q k51 n x3 σ → tw_w D g (tw_F g s.heap.size) s σ H locs → lv_has ls 4 [(0, .ref a0), (2, .int x2), (3, .int x3)] → W p l e RM_X3_drawLots s m args below meth c H locs 0 0 (tw_Qv Q D g below args s) (F0 m 18 ls []) := by
  intro n
  induction n with
  | zero =>
    intro x3 σ H locs ls h w hl
    exact False.elim h
  | succ n ih =>
    intro x3 σ H locs ls h w hl
    rw [wl_X3_drawLots_18] at h
    refine lv_iload_n X.1 X.2.1 dX3_drawLots_18 rfl (lv_at hl 2 rfl) ?_
    refine lv_iconst (v := 4) X.1 X.2.1 dX3_drawLots_19 (by decide) ?_
    refine lv_icmp_ge (tgt := 51) X.1 X.2.1 dX3_drawLots_20 (by decide) (fun c3 => ?_) (fun c3 => ?_)
    · have h := h.1 c3
      exact hk51  σ _ _ ls h w (lv_sub hl [0, 1] rfl)
    · have h := h.2 c3
      refine lv_aload_n X.1 X.2.1 dX3_drawLots_23 rfl (lv_at hl 0 rfl) ?_
      refine lv_iload_n X.1 X.2.1 dX3_drawLots_24 rfl (lv_at hl 1 rfl) ?_
      refine lv_iload_n X.1 X.2.1 dX3_drawLots_25 rfl (lv_at hl 2 rfl) ?_
      refine lv_aload_n X.1 X.2.1 dX3_drawLots_26 rfl (lv_at hl 0 rfl) ?_
      refine lv_iconst (v := 5) X.1 X.2.1 dX3_drawLots_27 (by decide) ?_
      refine tw_ci w (va_runV (As := [.int (5 : Int32)]) (rest := [.int x3, .int x2, .ref a0]) X (ct_X3_drawLot l D g hT _ σ a0 h0 (5 : Int32) _ h) (cwV 1 X.2.2.2.2 gX3_drawLots_X3_drawLot rfl rfl rfl (by decide +kernel) ⟨Nat.le_of_ble_eq_true rfl, Nat.le_of_ble_eq_true rfl⟩) (tw_preV hK w h0 (by decide) rfl [.int (5 : Int32)]) rfl rfl hl.1 rfl (lv_room (Nat.le_of_ble_eq_true rfl)) dX3_drawLots_28 ⟨Nat.zero_le _, Nat.zero_le _⟩) (fun r5 σ4 H locs h w => ?_)
      refine lv_if_ne (tgt := 38) X.1 X.2.1 dX3_drawLots_31 (by decide) (fun c6 => ?_) (fun c6 => ?_)
      · have h := h.1 c6
        refine lv_aload_n X.1 X.2.1 dX3_drawLots_38 rfl (lv_at hl 0 rfl) ?_
        refine tw_ci w (va_runV (As := []) (rest := [.int x3, .int x2, .ref a0]) X (ct_X3_drawMove l D g hT _ σ4 a0 h0 _ h) (cwV 0 X.2.2.2.2 gX3_drawLots_X3_drawMove rfl rfl rfl (by decide +kernel) ⟨Nat.le_of_ble_eq_true rfl, Nat.le_of_ble_eq_true rfl⟩) (tw_preV hK w h0 (by decide) rfl []) rfl rfl hl.1 rfl (lv_room (Nat.le_of_ble_eq_true rfl)) dX3_drawLots_39 ⟨Nat.zero_le _, Nat.zero_le _⟩) (fun r8 σ7 H locs h w => ?_)
        refine tw_cv w (va_runV (As := [.int x2, .int x3, .int r8]) (rest := []) X (ct_X3_put l D g hT _ σ7 a0 h0 x2 x3 r8 _ h) (cwV 3 X.2.2.2.2 gX3_drawLots_X3_put rfl rfl rfl (by decide +kernel) ⟨Nat.le_of_ble_eq_true rfl, Nat.le_of_ble_eq_true rfl⟩) (tw_preV hK w h0 (by decide) rfl [.int x2, .int x3, .int r8]) rfl rfl hl.1 rfl (lv_room (Nat.le_of_ble_eq_true rfl)) dX3_drawLots_42 ⟨Nat.zero_le _, Nat.zero_le _⟩) (fun σ9 H locs h w => ?_)
        refine lv_iinc (v := (x3 + 1)) (lv' := [(3, .int (x3 + 1)), (0, .ref a0), (2, .int x2)]) X.1 X.2.1 dX3_drawLots_45 hl (k := 2) rfl rfl (by decide) rfl (fun ls hl => ?_)
        refine lv_goto (tgt := 18) X.1 X.2.1 dX3_drawLots_48 (by decide) ?_
        exact ih (x3 + 1) σ9 _ _ ls h w (lv_sub hl [1, 2, 0] rfl)
      · have h := h.2 c6
        refine lv_iconst (v := -1) X.1 X.2.1 dX3_drawLots_34 (by decide) ?_
        refine lv_goto (tgt := 42) X.1 X.2.1 dX3_drawLots_35 (by decide) ?_
        refine tw_cv w (va_runV (As := [.int x2, .int x3, .int (-1 : Int32)]) (rest := []) X (ct_X3_put l D g hT _ σ4 a0 h0 x2 x3 (-1 : Int32) _ h) (cwV 3 X.2.2.2.2 gX3_drawLots_X3_put rfl rfl rfl (by decide +kernel) ⟨Nat.le_of_ble_eq_true rfl, Nat.le_of_ble_eq_true rfl⟩) (tw_preV hK w h0 (by decide) rfl [.int x2, .int x3, .int (-1 : Int32)]) rfl rfl hl.1 rfl (lv_room (Nat.le_of_ble_eq_true rfl)) dX3_drawLots_42 ⟨Nat.zero_le _, Nat.zero_le _⟩) (fun σ10 H locs h w => ?_)
        refine lv_iinc (v := (x3 + 1)) (lv' := [(3, .int (x3 + 1)), (0, .ref a0), (2, .int x2)]) X.1 X.2.1 dX3_drawLots_45 hl (k := 2) rfl rfl (by decide) rfl (fun ls hl => ?_)
        refine lv_goto (tgt := 18) X.1 X.2.1 dX3_drawLots_48 (by decide) ?_
        exact ih (x3 + 1) σ10 _ _ ls h w (lv_sub hl [1, 2, 0] rfl)
set_option maxHeartbeats 4000000 in
set_option maxRecDepth 100000 in
theorem lp_X3_drawLots_8 {p : Program} {l : Launch} {e : Env} {s : State} {m : MethodId} {args : Array Value} {below : List Frame} {meth : Method} {c : Code} {D : va_G} {g : tw_G} (X : CallFix p m c cX3_drawLots 4 s args wsX3_drawLots RX3) (hr : meth.sig.returnType = none) (hlk : meth.locks = false) (hK : tw_k D g s) (hT : tw_T g) {a0 : Nat} (h0 : tw_is g 3 a0) {Q : tw_S → Prop} {k57 : tw_S → Prop}
    (hk57 : ∀  (σ : tw_S) (H : Heap) (locs : List Loc) (ls : Array Slot), k57  σ → tw_w D g (tw_F g s.heap.size) s σ H locs → lv_has ls 4 [] → W p l e RM_X3_drawLots s m args below meth c H locs 0 0 (tw_Qv Q D g below args s) (F0 m 57 ls []))
    : ∀ (n : Nat) (x2 : Int32) (σ : tw_S) (H : Heap) (locs : List Loc) (ls : Array Slot), wl_X3_drawLots_8 g a0 Q k57 n x2 σ → tw_w D g (tw_F g s.heap.size) s σ H locs → lv_has ls 4 [(0, .ref a0), (2, .int x2)] → W p l e RM_X3_drawLots s m args below meth c H locs 0 0 (tw_Qv Q D g below args s) (F0 m 8 ls []) := by
  intro n
  induction n with
  | zero =>
    intro x2 σ H locs ls h w hl
    exact False.elim h
  | succ n ih =>
    intro x2 σ H locs ls h w hl
    rw [wl_X3_drawLots_8] at h
    refine lv_iload_n X.1 X.2.1 dX3_drawLots_8 rfl (lv_at hl 1 rfl) ?_
    refine lv_aload_n X.1 X.2.1 dX3_drawLots_9 rfl (lv_at hl 0 rfl) ?_
    refine tw_get X hK w 3 iw_X3_drawLots_3 h0 (by decide) rfl 1 (by decide) (List.mem_of_getElem? (i := 2) rfl) rfl dX3_drawLots_10 ?_
    refine lv_icmp_ge (tgt := 57) X.1 X.2.1 dX3_drawLots_13 (by decide) (fun c2 => ?_) (fun c2 => ?_)
    · have h := h.1 c2
      exact hk57  σ _ _ ls h w (lv_sub hl [] rfl)
    · have h := h.2 c2
      refine lv_iconst (v := 0) X.1 X.2.1 dX3_drawLots_16 (by decide) ?_
      refine lv_istore_n (lv' := [(3, .int (0 : Int32)), (0, .ref a0), (2, .int x2)]) X.1 X.2.1 dX3_drawLots_17 rfl hl (by decide) rfl (fun ls hl => ?_)
      obtain ⟨n18, h⟩ := h
      refine lp_X3_drawLots_18 X hr hlk hK hT h0 (fun σ11 H locs ls h w hl => ?_) n18 (0 : Int32) σ _ _ ls h w (lv_sub hl [1, 2, 0] rfl)
      · skip
        refine lv_iinc (v := (x2 + 1)) (lv' := [(2, .int (x2 + 1)), (0, .ref a0)]) X.1 X.2.1 dX3_drawLots_51 hl (k := 1) rfl rfl (by decide) rfl (fun ls hl => ?_)
        refine lv_goto (tgt := 8) X.1 X.2.1 dX3_drawLots_54 (by decide) ?_
        exact ih (x2 + 1) σ11 _ _ ls h w (lv_sub hl [1, 0] rfl)
set_option maxHeartbeats 4000000 in
set_option maxRecDepth 100000 in
theorem ct_X3_drawLots (l : Launch) (D : va_G) (g : tw_G) (hT : tw_T g) (sz : Nat) (σ : tw_S) (a0 : Nat) (h0 : tw_is g 3 a0) (x1 : Int32) (Q : tw_S → Prop) (h : wp_X3_drawLots g σ a0 x1 Q) : tw_Mv l yX3_drawLots wsX3_drawLots RM_X3_drawLots D g sz σ [.ref a0, .int x1] Q := by
  refine Met.ofW (cc := cX3_drawLots) (maxL := 4) (ret := none) (by decide) rfl ?_
  intro p e s m args below meth c s₁ B hml hv
  obtain ⟨rfl, hsz, hP, hK, hD0⟩ := hv
  subst hsz
  have hr := B.returns
  have hlk := B.notSynchronized
  have X : CallFix p m c cX3_drawLots 4 s _ wsX3_drawLots RX3 := ⟨B.exec, B.bytes, hml, findClass_of_methodNamed B.named, atoms_spec (ws := wsX3_drawLots) B.pre⟩
  have w := tw_w0 hP hD0
  have hl := lv_entry ([.ref a0, .int x1]) (n := 4) (Nat.le_of_ble_eq_true rfl)
  rw [lg_entry_eq]
  generalize (lg_sl ([.ref a0, .int x1]) ++ List.replicate (4 - (lg_sl ([.ref a0, .int x1])).length) Slot.unset).toArray = ls at hl ⊢
  have hl : lv_has ls 4 [(0, .ref a0), (1, .int x1)] := hl
  unfold wp_X3_drawLots at h
  refine lv_aload_n X.1 X.2.1 dX3_drawLots_0 rfl (lv_at hl 0 rfl) ?_
  refine lv_iload_n X.1 X.2.1 dX3_drawLots_1 rfl (lv_at hl 1 rfl) ?_
  refine lv_i2l (v := (x1.toInt64)) X.1 X.2.1 dX3_drawLots_2 rfl ?_
  refine tw_putJ X hK w 3 iw_X3_drawLots_3 tyX3 tyX3_ok nmX3 h0 (by decide) rfl 2 (by decide) (List.mem_of_getElem? (i := 1) rfl) rfl (ty := .long) (by decide +kernel) rfl rfl (Nat.le_of_ble_eq_true rfl) (tw_f_3_2 g _ _ _) dX3_drawLots_3 (fun σ1 H locs eσ1 w => ?_)
  have h := h _ eσ1
  refine lv_iconst (v := 0) X.1 X.2.1 dX3_drawLots_6 (by decide) ?_
  refine lv_istore_n (lv' := [(2, .int (0 : Int32)), (0, .ref a0), (1, .int x1)]) X.1 X.2.1 dX3_drawLots_7 rfl hl (by decide) rfl (fun ls hl => ?_)
  have hl := lv_sub (l' := [(2, .int (0 : Int32)), (0, .ref a0)]) hl [0, 1] rfl
  obtain ⟨n8, h⟩ := h
  refine lp_X3_drawLots_8 X hr hlk hK hT h0 (fun σ12 H locs ls h w hl => ?_) n8 (0 : Int32) σ1 _ _ ls h w (lv_sub hl [1, 0] rfl)
  · skip
    exact tw_vret X hr hlk w h dX3_drawLots_57

abbrev RM_X0_at : Room := { frames := 0, cells := 0, slots := 0, locals := 0 }
theorem iw_X0_at_0 : ∀ w ∈ wsX00, w ∈ wsX0_at := fun w h => List.mem_cons_of_mem _ (List.mem_append_right _ (h))
def wp_X0_at (g : tw_G) (σ : tw_S) (a0 : Nat) (x1 : Int32) (Q : Nat → tw_S → Prop) : Prop := ((¬ x1 = 0) → Q (tw_R g a0 1) σ) ∧ ((x1 = 0) → Q (tw_R g a0 0) σ)
set_option maxHeartbeats 4000000 in
set_option maxRecDepth 100000 in
theorem ct_X0_at (l : Launch) (D : va_G) (g : tw_G) (hT : tw_T g) (sz : Nat) (σ : tw_S) (a0 : Nat) (h0 : tw_is g 0 a0) (x1 : Int32) (Q : Nat → tw_S → Prop) (h : wp_X0_at g σ a0 x1 Q) : tw_Mq l yX0_at wsX0_at RM_X0_at D g sz σ [.ref a0, .int x1] (fun r σ => ∃ y, r = some y ∧ tw_is g 3 y ∧ Q y σ) := by
  refine Met.ofW (cc := cX0_at) (maxL := 2) (ret := (some (.object "TwoWays$Machine"))) (by decide) rfl ?_
  intro p e s m args below meth c s₁ B hml hv
  obtain ⟨rfl, hsz, hP, hK, hD0⟩ := hv
  subst hsz
  have hr := B.returns
  have hlk := B.notSynchronized
  have X : CallFix p m c cX0_at 2 s _ wsX0_at RX0 := ⟨B.exec, B.bytes, hml, findClass_of_methodNamed B.named, atoms_spec (ws := wsX0_at) B.pre⟩
  have w := tw_w0 hP hD0
  have hl := lv_entry ([.ref a0, .int x1]) (n := 2) (Nat.le_of_ble_eq_true rfl)
  rw [lg_entry_eq]
  generalize (lg_sl ([.ref a0, .int x1]) ++ List.replicate (2 - (lg_sl ([.ref a0, .int x1])).length) Slot.unset).toArray = ls at hl ⊢
  have hl : lv_has ls 2 [(0, .ref a0), (1, .int x1)] := hl
  unfold wp_X0_at at h
  refine lv_iload_n X.1 X.2.1 dX0_at_0 rfl (lv_at hl 1 rfl) ?_
  refine lv_if_ne (tgt := 11) X.1 X.2.1 dX0_at_1 (by decide) (fun c1 => ?_) (fun c1 => ?_)
  · have h := h.1 c1
    refine lv_aload_n X.1 X.2.1 dX0_at_11 rfl (lv_at hl 0 rfl) ?_
    refine tw_get X hK w 0 iw_X0_at_0 h0 (by decide) rfl 1 (by decide) (List.mem_of_getElem? (i := 2) rfl) rfl dX0_at_12 ?_
    exact tw_qret (v := some (tw_R g a0 1)) X hr hlk w ⟨_, rfl, (tw_t_0_1 hT h0), h⟩ dX0_at_15
  · have h := h.2 c1
    refine lv_aload_n X.1 X.2.1 dX0_at_4 rfl (lv_at hl 0 rfl) ?_
    refine tw_get X hK w 0 iw_X0_at_0 h0 (by decide) rfl 0 (by decide) (List.mem_of_getElem? (i := 1) rfl) rfl dX0_at_5 ?_
    refine lv_goto (tgt := 15) X.1 X.2.1 dX0_at_8 (by decide) ?_
    exact tw_qret (v := some (tw_R g a0 0)) X hr hlk w ⟨_, rfl, (tw_t_0_0 hT h0), h⟩ dX0_at_15

abbrev RM_X0_become : Room := { frames := 2, cells := 0, slots := 0, locals := 47 }
theorem iw_X0_become_0 : ∀ w ∈ wsX00, w ∈ wsX0_become := fun w h => List.mem_cons_of_mem _ (List.mem_append_left _ (List.mem_append_right _ (h)))
def wp_X0_become (g : tw_G) (σ : tw_S) (a0 : Nat) (a1 : Nat) (Q : tw_S → Prop) : Prop := wp_X3_become g σ (tw_R g a0 0) (tw_R g a1 0) (fun σ1 => wp_X3_become g σ1 (tw_R g a0 1) (tw_R g a1 1) (fun σ2 => Q σ2))
set_option maxHeartbeats 4000000 in
set_option maxRecDepth 100000 in
theorem ct_X0_become (l : Launch) (D : va_G) (g : tw_G) (hT : tw_T g) (sz : Nat) (σ : tw_S) (a0 : Nat) (h0 : tw_is g 0 a0) (a1 : Nat) (h1 : tw_is g 0 a1) (Q : tw_S → Prop) (h : wp_X0_become g σ a0 a1 Q) : tw_Mv l yX0_become wsX0_become RM_X0_become D g sz σ [.ref a0, .ref a1] Q := by
  refine Met.ofW (cc := cX0_become) (maxL := 2) (ret := none) (by decide) rfl ?_
  intro p e s m args below meth c s₁ B hml hv
  obtain ⟨rfl, hsz, hP, hK, hD0⟩ := hv
  subst hsz
  have hr := B.returns
  have hlk := B.notSynchronized
  have X : CallFix p m c cX0_become 2 s _ wsX0_become RX0 := ⟨B.exec, B.bytes, hml, findClass_of_methodNamed B.named, atoms_spec (ws := wsX0_become) B.pre⟩
  have w := tw_w0 hP hD0
  have hl := lv_entry ([.ref a0, .ref a1]) (n := 2) (Nat.le_of_ble_eq_true rfl)
  rw [lg_entry_eq]
  generalize (lg_sl ([.ref a0, .ref a1]) ++ List.replicate (2 - (lg_sl ([.ref a0, .ref a1])).length) Slot.unset).toArray = ls at hl ⊢
  have hl : lv_has ls 2 [(0, .ref a0), (1, .ref a1)] := hl
  unfold wp_X0_become at h
  refine lv_aload_n X.1 X.2.1 dX0_become_0 rfl (lv_at hl 0 rfl) ?_
  refine tw_get X hK w 0 iw_X0_become_0 h0 (by decide) rfl 0 (by decide) (List.mem_of_getElem? (i := 1) rfl) rfl dX0_become_1 ?_
  refine lv_aload_n X.1 X.2.1 dX0_become_4 rfl (lv_at hl 1 rfl) ?_
  refine tw_get X hK w 0 iw_X0_become_0 h1 (by decide) rfl 0 (by decide) (List.mem_of_getElem? (i := 1) rfl) rfl dX0_become_5 ?_
  refine tw_cv w (va_runV (As := [.ref (tw_R g a1 0)]) (rest := []) X (ct_X3_become l D g hT _ σ (tw_R g a0 0) (tw_t_0_0 hT h0) (tw_R g a1 0) (tw_t_0_0 hT h1) _ h) (cwV 1 X.2.2.2.2 gX0_become_X3_become rfl rfl rfl (by decide +kernel) ⟨Nat.le_of_ble_eq_true rfl, Nat.le_of_ble_eq_true rfl⟩) (tw_preV hK w (tw_t_0_0 hT h0) (by decide) rfl [.ref (tw_R g a1 0)]) rfl rfl hl.1 rfl (lv_room (Nat.le_of_ble_eq_true rfl)) dX0_become_8 ⟨Nat.zero_le _, Nat.zero_le _⟩) (fun σ1 H locs h w => ?_)
  refine lv_aload_n X.1 X.2.1 dX0_become_11 rfl (lv_at hl 0 rfl) ?_
  refine tw_get X hK w 0 iw_X0_become_0 h0 (by decide) rfl 1 (by decide) (List.mem_of_getElem? (i := 2) rfl) rfl dX0_become_12 ?_
  refine lv_aload_n X.1 X.2.1 dX0_become_15 rfl (lv_at hl 1 rfl) ?_
  refine tw_get X hK w 0 iw_X0_become_0 h1 (by decide) rfl 1 (by decide) (List.mem_of_getElem? (i := 2) rfl) rfl dX0_become_16 ?_
  refine tw_cv w (va_runV (As := [.ref (tw_R g a1 1)]) (rest := []) X (ct_X3_become l D g hT _ σ1 (tw_R g a0 1) (tw_t_0_1 hT h0) (tw_R g a1 1) (tw_t_0_1 hT h1) _ h) (cwV 1 X.2.2.2.2 gX0_become_X3_become rfl rfl rfl (by decide +kernel) ⟨Nat.le_of_ble_eq_true rfl, Nat.le_of_ble_eq_true rfl⟩) (tw_preV hK w (tw_t_0_1 hT h0) (by decide) rfl [.ref (tw_R g a1 1)]) rfl rfl hl.1 rfl (lv_room (Nat.le_of_ble_eq_true rfl)) dX0_become_19 ⟨Nat.zero_le _, Nat.zero_le _⟩) (fun σ2 H locs h w => ?_)
  exact tw_vret X hr hlk w h dX0_become_22

abbrev RM_X0_changePlaces : Room := { frames := 2, cells := 0, slots := 0, locals := 47 }
theorem iw_X0_changePlaces_0 : ∀ w ∈ wsX00, w ∈ wsX0_changePlaces := fun w h => List.mem_cons_of_mem _ (List.mem_append_left _ (List.mem_append_right _ (h)))
def wp_X0_changePlaces (g : tw_G) (σ : tw_S) (a0 : Nat) (a1 : Nat) (Q : tw_S → Prop) : Prop := wp_X3_become g σ a1 (tw_R g a0 0) (fun σ1 => wp_X3_become g σ1 (tw_R g a0 0) (tw_R g a0 1) (fun σ2 => wp_X3_become g σ2 (tw_R g a0 1) a1 (fun σ3 => Q σ3)))
set_option maxHeartbeats 4000000 in
set_option maxRecDepth 100000 in
theorem ct_X0_changePlaces (l : Launch) (D : va_G) (g : tw_G) (hT : tw_T g) (sz : Nat) (σ : tw_S) (a0 : Nat) (h0 : tw_is g 0 a0) (a1 : Nat) (h1 : tw_is g 3 a1) (Q : tw_S → Prop) (h : wp_X0_changePlaces g σ a0 a1 Q) : tw_Mv l yX0_changePlaces wsX0_changePlaces RM_X0_changePlaces D g sz σ [.ref a0, .ref a1] Q := by
  refine Met.ofW (cc := cX0_changePlaces) (maxL := 2) (ret := none) (by decide) rfl ?_
  intro p e s m args below meth c s₁ B hml hv
  obtain ⟨rfl, hsz, hP, hK, hD0⟩ := hv
  subst hsz
  have hr := B.returns
  have hlk := B.notSynchronized
  have X : CallFix p m c cX0_changePlaces 2 s _ wsX0_changePlaces RX0 := ⟨B.exec, B.bytes, hml, findClass_of_methodNamed B.named, atoms_spec (ws := wsX0_changePlaces) B.pre⟩
  have w := tw_w0 hP hD0
  have hl := lv_entry ([.ref a0, .ref a1]) (n := 2) (Nat.le_of_ble_eq_true rfl)
  rw [lg_entry_eq]
  generalize (lg_sl ([.ref a0, .ref a1]) ++ List.replicate (2 - (lg_sl ([.ref a0, .ref a1])).length) Slot.unset).toArray = ls at hl ⊢
  have hl : lv_has ls 2 [(0, .ref a0), (1, .ref a1)] := hl
  unfold wp_X0_changePlaces at h
  refine lv_aload_n X.1 X.2.1 dX0_changePlaces_0 rfl (lv_at hl 1 rfl) ?_
  refine lv_aload_n X.1 X.2.1 dX0_changePlaces_1 rfl (lv_at hl 0 rfl) ?_
  refine tw_get X hK w 0 iw_X0_changePlaces_0 h0 (by decide) rfl 0 (by decide) (List.mem_of_getElem? (i := 1) rfl) rfl dX0_changePlaces_2 ?_
  refine tw_cv w (va_runV (As := [.ref (tw_R g a0 0)]) (rest := []) X (ct_X3_become l D g hT _ σ a1 h1 (tw_R g a0 0) (tw_t_0_0 hT h0) _ h) (cwV 1 X.2.2.2.2 gX0_changePlaces_X3_become rfl rfl rfl (by decide +kernel) ⟨Nat.le_of_ble_eq_true rfl, Nat.le_of_ble_eq_true rfl⟩) (tw_preV hK w h1 (by decide) rfl [.ref (tw_R g a0 0)]) rfl rfl hl.1 rfl (lv_room (Nat.le_of_ble_eq_true rfl)) dX0_changePlaces_5 ⟨Nat.zero_le _, Nat.zero_le _⟩) (fun σ1 H locs h w => ?_)
  refine lv_aload_n X.1 X.2.1 dX0_changePlaces_8 rfl (lv_at hl 0 rfl) ?_
  refine tw_get X hK w 0 iw_X0_changePlaces_0 h0 (by decide) rfl 0 (by decide) (List.mem_of_getElem? (i := 1) rfl) rfl dX0_changePlaces_9 ?_
  refine lv_aload_n X.1 X.2.1 dX0_changePlaces_12 rfl (lv_at hl 0 rfl) ?_
  refine tw_get X hK w 0 iw_X0_changePlaces_0 h0 (by decide) rfl 1 (by decide) (List.mem_of_getElem? (i := 2) rfl) rfl dX0_changePlaces_13 ?_
  refine tw_cv w (va_runV (As := [.ref (tw_R g a0 1)]) (rest := []) X (ct_X3_become l D g hT _ σ1 (tw_R g a0 0) (tw_t_0_0 hT h0) (tw_R g a0 1) (tw_t_0_1 hT h0) _ h) (cwV 1 X.2.2.2.2 gX0_changePlaces_X3_become rfl rfl rfl (by decide +kernel) ⟨Nat.le_of_ble_eq_true rfl, Nat.le_of_ble_eq_true rfl⟩) (tw_preV hK w (tw_t_0_0 hT h0) (by decide) rfl [.ref (tw_R g a0 1)]) rfl rfl hl.1 rfl (lv_room (Nat.le_of_ble_eq_true rfl)) dX0_changePlaces_16 ⟨Nat.zero_le _, Nat.zero_le _⟩) (fun σ2 H locs h w => ?_)
  refine lv_aload_n X.1 X.2.1 dX0_changePlaces_19 rfl (lv_at hl 0 rfl) ?_
  refine tw_get X hK w 0 iw_X0_changePlaces_0 h0 (by decide) rfl 1 (by decide) (List.mem_of_getElem? (i := 2) rfl) rfl dX0_changePlaces_20 ?_
  refine lv_aload_n X.1 X.2.1 dX0_changePlaces_23 rfl (lv_at hl 1 rfl) ?_
  refine tw_cv w (va_runV (As := [.ref a1]) (rest := []) X (ct_X3_become l D g hT _ σ2 (tw_R g a0 1) (tw_t_0_1 hT h0) a1 h1 _ h) (cwV 1 X.2.2.2.2 gX0_changePlaces_X3_become rfl rfl rfl (by decide +kernel) ⟨Nat.le_of_ble_eq_true rfl, Nat.le_of_ble_eq_true rfl⟩) (tw_preV hK w (tw_t_0_1 hT h0) (by decide) rfl [.ref a1]) rfl rfl hl.1 rfl (lv_room (Nat.le_of_ble_eq_true rfl)) dX0_changePlaces_24 ⟨Nat.zero_le _, Nat.zero_le _⟩) (fun σ3 H locs h w => ?_)
  exact tw_vret X hr hlk w h dX0_changePlaces_27

abbrev RM_X2_size : Room := { frames := 0, cells := 0, slots := 0, locals := 0 }
theorem iw_X2_size_2 : ∀ w ∈ wsX20, w ∈ wsX2_size := fun w h => List.mem_cons_of_mem _ (List.mem_append_right _ (h))
def wp_X2_size (g : tw_G) (σ : tw_S) (a0 : Nat) (Q : Int32 → tw_S → Prop) : Prop := Q (tw_I σ a0 1) σ
set_option maxHeartbeats 4000000 in
set_option maxRecDepth 100000 in
theorem ct_X2_size (l : Launch) (D : va_G) (g : tw_G) (hT : tw_T g) (sz : Nat) (σ : tw_S) (a0 : Nat) (h0 : tw_is g 2 a0) (Q : Int32 → tw_S → Prop) (h : wp_X2_size g σ a0 Q) : tw_Mi l yX2_size wsX2_size RM_X2_size D g sz σ [.ref a0] Q := by
  refine Met.ofW (cc := cX2_size) (maxL := 1) (ret := (some .int)) (by decide) rfl ?_
  intro p e s m args below meth c s₁ B hml hv
  obtain ⟨rfl, hsz, hP, hK, hD0⟩ := hv
  subst hsz
  have hr := B.returns
  have hlk := B.notSynchronized
  have X : CallFix p m c cX2_size 1 s _ wsX2_size RX2 := ⟨B.exec, B.bytes, hml, findClass_of_methodNamed B.named, atoms_spec (ws := wsX2_size) B.pre⟩
  have w := tw_w0 hP hD0
  have hl := lv_entry ([.ref a0]) (n := 1) (Nat.le_of_ble_eq_true rfl)
  rw [lg_entry_eq]
  generalize (lg_sl ([.ref a0]) ++ List.replicate (1 - (lg_sl ([.ref a0])).length) Slot.unset).toArray = ls at hl ⊢
  have hl : lv_has ls 1 [(0, .ref a0)] := hl
  unfold wp_X2_size at h
  refine lv_aload_n X.1 X.2.1 dX2_size_0 rfl (lv_at hl 0 rfl) ?_
  refine tw_get X hK w 2 iw_X2_size_2 h0 (by decide) rfl 1 (by decide) (List.mem_of_getElem? (i := 1) rfl) rfl dX2_size_1 ?_
  exact tw_iret X hr hlk w h dX2_size_4

abbrev RM_X2_slotAt : Room := { frames := 0, cells := 0, slots := 0, locals := 0 }
theorem iw_X2_slotAt_2 : ∀ w ∈ wsX20, w ∈ wsX2_slotAt := fun w h => List.mem_cons_of_mem _ (List.mem_append_right _ (h))
def wp_X2_slotAt (g : tw_G) (σ : tw_S) (a0 : Nat) (x1 : Int32) (Q : Option Nat → tw_S → Prop) : Prop := ((x1 < 0) → Q none σ) ∧ (¬ (x1 < 0) → (((8 : Int32) ≤ x1) → Q none σ) ∧ (¬ ((8 : Int32) ≤ x1) → vp_in x1 8 ∧ Q (some (tw_E g (tw_R g a0 0) x1.toNatClampNeg)) σ))
set_option maxHeartbeats 4000000 in
set_option maxRecDepth 100000 in
theorem ct_X2_slotAt (l : Launch) (D : va_G) (g : tw_G) (hT : tw_T g) (sz : Nat) (σ : tw_S) (a0 : Nat) (h0 : tw_is g 2 a0) (x1 : Int32) (Q : Option Nat → tw_S → Prop) (h : wp_X2_slotAt g σ a0 x1 Q) : tw_Mq l yX2_slotAt wsX2_slotAt RM_X2_slotAt D g sz σ [.ref a0, .int x1] (fun r σ => (∀ y, r = some y → tw_is g 0 y) ∧ Q r σ) := by
  refine Met.ofW (cc := cX2_slotAt) (maxL := 2) (ret := (some (.object "TwoWays$Both"))) (by decide) rfl ?_
  intro p e s m args below meth c s₁ B hml hv
  obtain ⟨rfl, hsz, hP, hK, hD0⟩ := hv
  subst hsz
  have hr := B.returns
  have hlk := B.notSynchronized
  have X : CallFix p m c cX2_slotAt 2 s _ wsX2_slotAt RX2 := ⟨B.exec, B.bytes, hml, findClass_of_methodNamed B.named, atoms_spec (ws := wsX2_slotAt) B.pre⟩
  have w := tw_w0 hP hD0
  have hl := lv_entry ([.ref a0, .int x1]) (n := 2) (Nat.le_of_ble_eq_true rfl)
  rw [lg_entry_eq]
  generalize (lg_sl ([.ref a0, .int x1]) ++ List.replicate (2 - (lg_sl ([.ref a0, .int x1])).length) Slot.unset).toArray = ls at hl ⊢
  have hl : lv_has ls 2 [(0, .ref a0), (1, .int x1)] := hl
  unfold wp_X2_slotAt at h
  refine lv_iload_n X.1 X.2.1 dX2_slotAt_0 rfl (lv_at hl 1 rfl) ?_
  refine lv_if_lt (tgt := 19) X.1 X.2.1 dX2_slotAt_1 (by decide) (fun c1 => ?_) (fun c1 => ?_)
  · have h := h.1 c1
    refine lv_null X.1 X.2.1 dX2_slotAt_19 ?_
    exact tw_qret (v := none) X hr hlk w ⟨fun _ e => (by cases e), h⟩ dX2_slotAt_20
  · have h := h.2 c1
    refine lv_iload_n X.1 X.2.1 dX2_slotAt_4 rfl (lv_at hl 1 rfl) ?_
    refine lv_bipush (v := 8) X.1 X.2.1 dX2_slotAt_5 (by decide) ?_
    refine lv_icmp_ge (tgt := 19) X.1 X.2.1 dX2_slotAt_7 (by decide) (fun c2 => ?_) (fun c2 => ?_)
    · have h := h.1 c2
      refine lv_null X.1 X.2.1 dX2_slotAt_19 ?_
      exact tw_qret (v := none) X hr hlk w ⟨fun _ e => (by cases e), h⟩ dX2_slotAt_20
    · have h := h.2 c2
      refine lv_aload_n X.1 X.2.1 dX2_slotAt_10 rfl (lv_at hl 0 rfl) ?_
      refine tw_get X hK w 2 iw_X2_slotAt_2 h0 (by decide) rfl 0 (by decide) (List.mem_of_getElem? (i := 1) rfl) rfl dX2_slotAt_11 ?_
      refine lv_iload_n X.1 X.2.1 dX2_slotAt_14 rfl (lv_at hl 1 rfl) ?_
      obtain ⟨hi3, h⟩ := h
      refine tw_aald X hK w (tw_t_2_0 hT h0) (tw_n_2_0 hT h0) hi3 dX2_slotAt_15 ?_
      refine lv_goto (tgt := 20) X.1 X.2.1 dX2_slotAt_16 (by decide) ?_
      exact tw_qret (v := some (tw_E g (tw_R g a0 0) x1.toNatClampNeg)) X hr hlk w ⟨fun _ e => (by cases e; exact (tw_t_13 hT (tw_t_2_0 hT h0) (tw_lt hi3 (tw_n_2_0 hT h0)))), h⟩ dX2_slotAt_20

abbrev RM_X2_remember : Room := { frames := 3, cells := 0, slots := 0, locals := 68 }
theorem iw_X2_remember_2 : ∀ w ∈ wsX20, w ∈ wsX2_remember := fun w h => List.mem_cons_of_mem _ (List.mem_append_left _ (List.mem_append_left _ (List.mem_append_right _ (h))))
def wp_X2_remember (g : tw_G) (σ : tw_S) (a0 : Nat) (a1 : Nat) (Q : tw_S → Prop) : Prop := wp_X2_slotAt g σ a0 (tw_I σ a0 2) (fun r3 σ1 => (r3 = none → ∀ z4, z4 = (((tw_I σ1 a0 2) + (1 : Int32)) - ((tw_I σ1 a0 2) + (1 : Int32)) / (8 : Int32) * (8 : Int32)) → ∀ σ5, σ5 = (tw_sI σ1 a0 2 z4) → ∀ z6, z6 = (if ((tw_I σ5 a0 1) + (1 : Int32)) < (8 : Int32) then ((tw_I σ5 a0 1) + (1 : Int32)) else (8 : Int32)) → ∀ σ7, σ7 = (tw_sI σ5 a0 1 z6) → Q σ7) ∧ (∀ y2, r3 = some y2 → wp_X0_become g σ1 y2 a1 (fun σ8 => ∀ z9, z9 = (((tw_I σ8 a0 2) + (1 : Int32)) - ((tw_I σ8 a0 2) + (1 : Int32)) / (8 : Int32) * (8 : Int32)) → ∀ σ10, σ10 = (tw_sI σ8 a0 2 z9) → ∀ z11, z11 = (if ((tw_I σ10 a0 1) + (1 : Int32)) < (8 : Int32) then ((tw_I σ10 a0 1) + (1 : Int32)) else (8 : Int32)) → ∀ σ12, σ12 = (tw_sI σ10 a0 1 z11) → Q σ12)))
set_option maxHeartbeats 4000000 in
set_option maxRecDepth 100000 in
theorem ct_X2_remember (l : Launch) (D : va_G) (g : tw_G) (hT : tw_T g) (sz : Nat) (σ : tw_S) (a0 : Nat) (h0 : tw_is g 2 a0) (a1 : Nat) (h1 : tw_is g 0 a1) (Q : tw_S → Prop) (h : wp_X2_remember g σ a0 a1 Q) : tw_Mv l yX2_remember wsX2_remember RM_X2_remember D g sz σ [.ref a0, .ref a1] Q := by
  refine Met.ofW (cc := cX2_remember) (maxL := 3) (ret := none) (by decide) rfl ?_
  intro p e s m args below meth c s₁ B hml hv
  obtain ⟨rfl, hsz, hP, hK, hD0⟩ := hv
  subst hsz
  have hr := B.returns
  have hlk := B.notSynchronized
  have X : CallFix p m c cX2_remember 3 s _ wsX2_remember RX2 := ⟨B.exec, B.bytes, hml, findClass_of_methodNamed B.named, atoms_spec (ws := wsX2_remember) B.pre⟩
  have w := tw_w0 hP hD0
  have hl := lv_entry ([.ref a0, .ref a1]) (n := 3) (Nat.le_of_ble_eq_true rfl)
  rw [lg_entry_eq]
  generalize (lg_sl ([.ref a0, .ref a1]) ++ List.replicate (3 - (lg_sl ([.ref a0, .ref a1])).length) Slot.unset).toArray = ls at hl ⊢
  have hl : lv_has ls 3 [(0, .ref a0), (1, .ref a1)] := hl
  unfold wp_X2_remember at h
  refine lv_aload_n X.1 X.2.1 dX2_remember_0 rfl (lv_at hl 0 rfl) ?_
  refine lv_aload_n X.1 X.2.1 dX2_remember_1 rfl (lv_at hl 0 rfl) ?_
  refine tw_get X hK w 2 iw_X2_remember_2 h0 (by decide) rfl 2 (by decide) (List.mem_of_getElem? (i := 1) rfl) rfl dX2_remember_2 ?_
  refine tw_cq w (va_runV (As := [.int (tw_I σ a0 2)]) (rest := []) X (ct_X2_slotAt l D g hT _ σ a0 h0 (tw_I σ a0 2) _ h) (cwV 1 X.2.2.2.2 gX2_remember_X2_slotAt rfl rfl rfl (by decide +kernel) ⟨Nat.le_of_ble_eq_true rfl, Nat.le_of_ble_eq_true rfl⟩) (tw_preV hK w h0 (by decide) rfl [.int (tw_I σ a0 2)]) rfl rfl hl.1 rfl (lv_room (Nat.le_of_ble_eq_true rfl)) dX2_remember_5 ⟨Nat.zero_le _, Nat.zero_le _⟩) (fun σ1 H locs h w => ?_) (fun y2 σ1 H locs hy2 h w => ?_)
  · have h := h.1 rfl
    refine lv_astore_nN (lv' := [(2, .null), (0, .ref a0), (1, .ref a1)]) X.1 X.2.1 dX2_remember_8 rfl hl (by decide) rfl (fun ls hl => ?_)
    refine lv_aload_nN X.1 X.2.1 dX2_remember_9 rfl (lv_at hl 0 rfl) ?_
    refine lv_ifnullN (tgt := 18) X.1 X.2.1 dX2_remember_10 (by decide) ?_
    refine lv_aload_n X.1 X.2.1 dX2_remember_18 rfl (lv_at hl 1 rfl) ?_
    refine lv_aload_n X.1 X.2.1 dX2_remember_19 rfl (lv_at hl 1 rfl) ?_
    refine tw_get X hK w 2 iw_X2_remember_2 h0 (by decide) rfl 2 (by decide) (List.mem_of_getElem? (i := 1) rfl) rfl dX2_remember_20 ?_
    refine lv_iconst (v := 1) X.1 X.2.1 dX2_remember_23 (by decide) ?_
    refine lv_iadd X.1 X.2.1 dX2_remember_24 ?_
    refine lv_bipush (v := 8) X.1 X.2.1 dX2_remember_25 (by decide) ?_
    refine lv_irem X.1 X.2.1 dX2_remember_27 (by decide) ?_
    refine lv_topi (fun z4 ez4 => ?_)
    have h := h _ ez4
    refine tw_putI X hK w 2 iw_X2_remember_2 tyX2 tyX2_ok nmX2 h0 (by decide) rfl 2 (by decide) (List.mem_of_getElem? (i := 1) rfl) rfl (ty := .int) (by decide +kernel) rfl rfl (Nat.le_of_ble_eq_true rfl) (tw_f_2_2 g _ _ _) dX2_remember_28 (fun σ5 H locs eσ5 w => ?_)
    have h := h _ eσ5
    refine lv_aload_n X.1 X.2.1 dX2_remember_31 rfl (lv_at hl 1 rfl) ?_
    refine lv_bipush (v := 8) X.1 X.2.1 dX2_remember_32 (by decide) ?_
    refine lv_aload_n X.1 X.2.1 dX2_remember_34 rfl (lv_at hl 1 rfl) ?_
    refine tw_get X hK w 2 iw_X2_remember_2 h0 (by decide) rfl 1 (by decide) (List.mem_of_getElem? (i := 2) rfl) rfl dX2_remember_35 ?_
    refine lv_iconst (v := 1) X.1 X.2.1 dX2_remember_38 (by decide) ?_
    refine lv_iadd X.1 X.2.1 dX2_remember_39 ?_
    refine va_mmin X.1 X.2.1 (X.2.2.1.trans hl.1.symm) X.2.2.2.1 (X.2.2.2.2 _ (List.mem_of_getElem? (i := 3) rfl)) (X.2.2.2.2 _ (List.mem_of_getElem? (i := 4) rfl)) (X.2.2.2.2 _ (List.mem_of_getElem? (i := 5) rfl)) (X.2.2.2.2 _ (List.mem_of_getElem? (i := 6) rfl)) (Nat.le_of_ble_eq_true rfl) (Nat.le_of_ble_eq_true rfl) (Nat.zero_le _) (Nat.zero_le _) dX2_remember_40 ?_
    refine lv_topi (fun z6 ez6 => ?_)
    have h := h _ ez6
    refine tw_putI X hK w 2 iw_X2_remember_2 tyX2 tyX2_ok nmX2 h0 (by decide) rfl 1 (by decide) (List.mem_of_getElem? (i := 2) rfl) rfl (ty := .int) (by decide +kernel) rfl rfl (Nat.le_of_ble_eq_true rfl) (tw_f_2_1 g _ _ _) dX2_remember_43 (fun σ7 H locs eσ7 w => ?_)
    have h := h _ eσ7
    exact tw_vret X hr hlk w h dX2_remember_46
  · have h := h.2 y2 rfl
    refine lv_astore_n (lv' := [(2, .ref y2), (0, .ref a0), (1, .ref a1)]) X.1 X.2.1 dX2_remember_8 rfl hl (by decide) rfl (fun ls hl => ?_)
    refine lv_aload_n X.1 X.2.1 dX2_remember_9 rfl (lv_at hl 0 rfl) ?_
    refine lv_ifnull X.1 X.2.1 dX2_remember_10 ?_
    refine lv_aload_n X.1 X.2.1 dX2_remember_13 rfl (lv_at hl 0 rfl) ?_
    refine lv_aload_n X.1 X.2.1 dX2_remember_14 rfl (lv_at hl 2 rfl) ?_
    refine tw_cv w (va_runV (As := [.ref a1]) (rest := []) X (ct_X0_become l D g hT _ σ1 y2 hy2 a1 h1 _ h) (cwV 1 X.2.2.2.2 gX2_remember_X0_become rfl rfl rfl (by decide +kernel) ⟨Nat.le_of_ble_eq_true rfl, Nat.le_of_ble_eq_true rfl⟩) (tw_preV hK w hy2 (by decide) rfl [.ref a1]) rfl rfl hl.1 rfl (lv_room (Nat.le_of_ble_eq_true rfl)) dX2_remember_15 ⟨Nat.zero_le _, Nat.zero_le _⟩) (fun σ8 H locs h w => ?_)
    refine lv_aload_n X.1 X.2.1 dX2_remember_18 rfl (lv_at hl 1 rfl) ?_
    refine lv_aload_n X.1 X.2.1 dX2_remember_19 rfl (lv_at hl 1 rfl) ?_
    refine tw_get X hK w 2 iw_X2_remember_2 h0 (by decide) rfl 2 (by decide) (List.mem_of_getElem? (i := 1) rfl) rfl dX2_remember_20 ?_
    refine lv_iconst (v := 1) X.1 X.2.1 dX2_remember_23 (by decide) ?_
    refine lv_iadd X.1 X.2.1 dX2_remember_24 ?_
    refine lv_bipush (v := 8) X.1 X.2.1 dX2_remember_25 (by decide) ?_
    refine lv_irem X.1 X.2.1 dX2_remember_27 (by decide) ?_
    refine lv_topi (fun z9 ez9 => ?_)
    have h := h _ ez9
    refine tw_putI X hK w 2 iw_X2_remember_2 tyX2 tyX2_ok nmX2 h0 (by decide) rfl 2 (by decide) (List.mem_of_getElem? (i := 1) rfl) rfl (ty := .int) (by decide +kernel) rfl rfl (Nat.le_of_ble_eq_true rfl) (tw_f_2_2 g _ _ _) dX2_remember_28 (fun σ10 H locs eσ10 w => ?_)
    have h := h _ eσ10
    refine lv_aload_n X.1 X.2.1 dX2_remember_31 rfl (lv_at hl 1 rfl) ?_
    refine lv_bipush (v := 8) X.1 X.2.1 dX2_remember_32 (by decide) ?_
    refine lv_aload_n X.1 X.2.1 dX2_remember_34 rfl (lv_at hl 1 rfl) ?_
    refine tw_get X hK w 2 iw_X2_remember_2 h0 (by decide) rfl 1 (by decide) (List.mem_of_getElem? (i := 2) rfl) rfl dX2_remember_35 ?_
    refine lv_iconst (v := 1) X.1 X.2.1 dX2_remember_38 (by decide) ?_
    refine lv_iadd X.1 X.2.1 dX2_remember_39 ?_
    refine va_mmin X.1 X.2.1 (X.2.2.1.trans hl.1.symm) X.2.2.2.1 (X.2.2.2.2 _ (List.mem_of_getElem? (i := 3) rfl)) (X.2.2.2.2 _ (List.mem_of_getElem? (i := 4) rfl)) (X.2.2.2.2 _ (List.mem_of_getElem? (i := 5) rfl)) (X.2.2.2.2 _ (List.mem_of_getElem? (i := 6) rfl)) (Nat.le_of_ble_eq_true rfl) (Nat.le_of_ble_eq_true rfl) (Nat.zero_le _) (Nat.zero_le _) dX2_remember_40 ?_
    refine lv_topi (fun z11 ez11 => ?_)
    have h := h _ ez11
    refine tw_putI X hK w 2 iw_X2_remember_2 tyX2 tyX2_ok nmX2 h0 (by decide) rfl 1 (by decide) (List.mem_of_getElem? (i := 2) rfl) rfl (ty := .int) (by decide +kernel) rfl rfl (Nat.le_of_ble_eq_true rfl) (tw_f_2_1 g _ _ _) dX2_remember_43 (fun σ12 H locs eσ12 w => ?_)
    have h := h _ eσ12
    exact tw_vret X hr hlk w h dX2_remember_46

abbrev RM_X2_stepBack : Room := { frames := 3, cells := 0, slots := 0, locals := 68 }
theorem iw_X2_stepBack_2 : ∀ w ∈ wsX20, w ∈ wsX2_stepBack := fun w h => List.mem_cons_of_mem _ (List.mem_append_left _ (List.mem_append_left _ (List.mem_append_right _ (h))))
def wp_X2_stepBack (g : tw_G) (σ : tw_S) (a0 : Nat) (a1 : Nat) (Q : Int32 → tw_S → Prop) : Prop := ((¬ (tw_I σ a0 1) = 0) → ∀ σ2, σ2 = (tw_sI σ a0 1 ((tw_I σ a0 1) - (1 : Int32))) → ∀ z3, z3 = ((((tw_I σ2 a0 2) + (8 : Int32)) - (1 : Int32)) - (((tw_I σ2 a0 2) + (8 : Int32)) - (1 : Int32)) / (8 : Int32) * (8 : Int32)) → ∀ σ4, σ4 = (tw_sI σ2 a0 2 z3) → wp_X2_slotAt g σ4 a0 (tw_I σ4 a0 2) (fun r7 σ5 => (r7 = none → Q (1 : Int32) σ5) ∧ (∀ y6, r7 = some y6 → wp_X0_become g σ5 a1 y6 (fun σ8 => Q (1 : Int32) σ8)))) ∧ (((tw_I σ a0 1) = 0) → Q (0 : Int32) σ)
set_option maxHeartbeats 4000000 in
set_option maxRecDepth 100000 in
theorem ct_X2_stepBack (l : Launch) (D : va_G) (g : tw_G) (hT : tw_T g) (sz : Nat) (σ : tw_S) (a0 : Nat) (h0 : tw_is g 2 a0) (a1 : Nat) (h1 : tw_is g 0 a1) (Q : Int32 → tw_S → Prop) (h : wp_X2_stepBack g σ a0 a1 Q) : tw_Mi l yX2_stepBack wsX2_stepBack RM_X2_stepBack D g sz σ [.ref a0, .ref a1] Q := by
  refine Met.ofW (cc := cX2_stepBack) (maxL := 3) (ret := (some .boolean)) (by decide) rfl ?_
  intro p e s m args below meth c s₁ B hml hv
  obtain ⟨rfl, hsz, hP, hK, hD0⟩ := hv
  subst hsz
  have hr := B.returns
  have hlk := B.notSynchronized
  have X : CallFix p m c cX2_stepBack 3 s _ wsX2_stepBack RX2 := ⟨B.exec, B.bytes, hml, findClass_of_methodNamed B.named, atoms_spec (ws := wsX2_stepBack) B.pre⟩
  have w := tw_w0 hP hD0
  have hl := lv_entry ([.ref a0, .ref a1]) (n := 3) (Nat.le_of_ble_eq_true rfl)
  rw [lg_entry_eq]
  generalize (lg_sl ([.ref a0, .ref a1]) ++ List.replicate (3 - (lg_sl ([.ref a0, .ref a1])).length) Slot.unset).toArray = ls at hl ⊢
  have hl : lv_has ls 3 [(0, .ref a0), (1, .ref a1)] := hl
  unfold wp_X2_stepBack at h
  refine lv_aload_n X.1 X.2.1 dX2_stepBack_0 rfl (lv_at hl 0 rfl) ?_
  refine tw_get X hK w 2 iw_X2_stepBack_2 h0 (by decide) rfl 1 (by decide) (List.mem_of_getElem? (i := 1) rfl) rfl dX2_stepBack_1 ?_
  refine lv_if_ne (tgt := 9) X.1 X.2.1 dX2_stepBack_4 (by decide) (fun c1 => ?_) (fun c1 => ?_)
  · have h := h.1 c1
    refine lv_aload_n X.1 X.2.1 dX2_stepBack_9 rfl (lv_at hl 0 rfl) ?_
    refine lv_dup X.1 X.2.1 dX2_stepBack_10 rfl ?_
    refine tw_get X hK w 2 iw_X2_stepBack_2 h0 (by decide) rfl 1 (by decide) (List.mem_of_getElem? (i := 1) rfl) rfl dX2_stepBack_11 ?_
    refine lv_iconst (v := 1) X.1 X.2.1 dX2_stepBack_14 (by decide) ?_
    refine lv_isub X.1 X.2.1 dX2_stepBack_15 ?_
    refine tw_putI X hK w 2 iw_X2_stepBack_2 tyX2 tyX2_ok nmX2 h0 (by decide) rfl 1 (by decide) (List.mem_of_getElem? (i := 1) rfl) rfl (ty := .int) (by decide +kernel) rfl rfl (Nat.le_of_ble_eq_true rfl) (tw_f_2_1 g _ _ _) dX2_stepBack_16 (fun σ2 H locs eσ2 w => ?_)
    have h := h _ eσ2
    refine lv_aload_n X.1 X.2.1 dX2_stepBack_19 rfl (lv_at hl 0 rfl) ?_
    refine lv_aload_n X.1 X.2.1 dX2_stepBack_20 rfl (lv_at hl 0 rfl) ?_
    refine tw_get X hK w 2 iw_X2_stepBack_2 h0 (by decide) rfl 2 (by decide) (List.mem_of_getElem? (i := 2) rfl) rfl dX2_stepBack_21 ?_
    refine lv_bipush (v := 8) X.1 X.2.1 dX2_stepBack_24 (by decide) ?_
    refine lv_iadd X.1 X.2.1 dX2_stepBack_26 ?_
    refine lv_iconst (v := 1) X.1 X.2.1 dX2_stepBack_27 (by decide) ?_
    refine lv_isub X.1 X.2.1 dX2_stepBack_28 ?_
    refine lv_bipush (v := 8) X.1 X.2.1 dX2_stepBack_29 (by decide) ?_
    refine lv_irem X.1 X.2.1 dX2_stepBack_31 (by decide) ?_
    refine lv_topi (fun z3 ez3 => ?_)
    have h := h _ ez3
    refine tw_putI X hK w 2 iw_X2_stepBack_2 tyX2 tyX2_ok nmX2 h0 (by decide) rfl 2 (by decide) (List.mem_of_getElem? (i := 2) rfl) rfl (ty := .int) (by decide +kernel) rfl rfl (Nat.le_of_ble_eq_true rfl) (tw_f_2_2 g _ _ _) dX2_stepBack_32 (fun σ4 H locs eσ4 w => ?_)
    have h := h _ eσ4
    refine lv_aload_n X.1 X.2.1 dX2_stepBack_35 rfl (lv_at hl 0 rfl) ?_
    refine lv_aload_n X.1 X.2.1 dX2_stepBack_36 rfl (lv_at hl 0 rfl) ?_
    refine tw_get X hK w 2 iw_X2_stepBack_2 h0 (by decide) rfl 2 (by decide) (List.mem_of_getElem? (i := 2) rfl) rfl dX2_stepBack_37 ?_
    refine tw_cq w (va_runV (As := [.int (tw_I σ4 a0 2)]) (rest := []) X (ct_X2_slotAt l D g hT _ σ4 a0 h0 (tw_I σ4 a0 2) _ h) (cwV 1 X.2.2.2.2 gX2_stepBack_X2_slotAt rfl rfl rfl (by decide +kernel) ⟨Nat.le_of_ble_eq_true rfl, Nat.le_of_ble_eq_true rfl⟩) (tw_preV hK w h0 (by decide) rfl [.int (tw_I σ4 a0 2)]) rfl rfl hl.1 rfl (lv_room (Nat.le_of_ble_eq_true rfl)) dX2_stepBack_40 ⟨Nat.zero_le _, Nat.zero_le _⟩) (fun σ5 H locs h w => ?_) (fun y6 σ5 H locs hy6 h w => ?_)
    · have h := h.1 rfl
      refine lv_astore_nN (lv' := [(2, .null), (0, .ref a0), (1, .ref a1)]) X.1 X.2.1 dX2_stepBack_43 rfl hl (by decide) rfl (fun ls hl => ?_)
      have hl := lv_sub (l' := [(2, .null), (1, .ref a1)]) hl [0, 2] rfl
      refine lv_aload_nN X.1 X.2.1 dX2_stepBack_44 rfl (lv_at hl 0 rfl) ?_
      refine lv_ifnullN (tgt := 53) X.1 X.2.1 dX2_stepBack_45 (by decide) ?_
      refine lv_iconst (v := 1) X.1 X.2.1 dX2_stepBack_53 (by decide) ?_
      exact tw_zret X hr hlk w (by decide) h dX2_stepBack_54
    · have h := h.2 y6 rfl
      refine lv_astore_n (lv' := [(2, .ref y6), (0, .ref a0), (1, .ref a1)]) X.1 X.2.1 dX2_stepBack_43 rfl hl (by decide) rfl (fun ls hl => ?_)
      have hl := lv_sub (l' := [(2, .ref y6), (1, .ref a1)]) hl [0, 2] rfl
      refine lv_aload_n X.1 X.2.1 dX2_stepBack_44 rfl (lv_at hl 0 rfl) ?_
      refine lv_ifnull X.1 X.2.1 dX2_stepBack_45 ?_
      refine lv_aload_n X.1 X.2.1 dX2_stepBack_48 rfl (lv_at hl 1 rfl) ?_
      refine lv_aload_n X.1 X.2.1 dX2_stepBack_49 rfl (lv_at hl 0 rfl) ?_
      refine tw_cv w (va_runV (As := [.ref y6]) (rest := []) X (ct_X0_become l D g hT _ σ5 a1 h1 y6 hy6 _ h) (cwV 1 X.2.2.2.2 gX2_stepBack_X0_become rfl rfl rfl (by decide +kernel) ⟨Nat.le_of_ble_eq_true rfl, Nat.le_of_ble_eq_true rfl⟩) (tw_preV hK w h1 (by decide) rfl [.ref y6]) rfl rfl hl.1 rfl (lv_room (Nat.le_of_ble_eq_true rfl)) dX2_stepBack_50 ⟨Nat.zero_le _, Nat.zero_le _⟩) (fun σ8 H locs h w => ?_)
      refine lv_iconst (v := 1) X.1 X.2.1 dX2_stepBack_53 (by decide) ?_
      exact tw_zret X hr hlk w (by decide) h dX2_stepBack_54
  · have h := h.2 c1
    refine lv_iconst (v := 0) X.1 X.2.1 dX2_stepBack_7 (by decide) ?_
    exact tw_zret X hr hlk w (by decide) h dX2_stepBack_8

abbrev RM_X2_forget : Room := { frames := 0, cells := 0, slots := 0, locals := 0 }
theorem iw_X2_forget_2 : ∀ w ∈ wsX20, w ∈ wsX2_forget := fun w h => List.mem_cons_of_mem _ (List.mem_append_right _ (h))
def wp_X2_forget (g : tw_G) (σ : tw_S) (a0 : Nat) (Q : tw_S → Prop) : Prop := ∀ σ1, σ1 = (tw_sI σ a0 1 (0 : Int32)) → Q σ1
set_option maxHeartbeats 4000000 in
set_option maxRecDepth 100000 in
theorem ct_X2_forget (l : Launch) (D : va_G) (g : tw_G) (hT : tw_T g) (sz : Nat) (σ : tw_S) (a0 : Nat) (h0 : tw_is g 2 a0) (Q : tw_S → Prop) (h : wp_X2_forget g σ a0 Q) : tw_Mv l yX2_forget wsX2_forget RM_X2_forget D g sz σ [.ref a0] Q := by
  refine Met.ofW (cc := cX2_forget) (maxL := 1) (ret := none) (by decide) rfl ?_
  intro p e s m args below meth c s₁ B hml hv
  obtain ⟨rfl, hsz, hP, hK, hD0⟩ := hv
  subst hsz
  have hr := B.returns
  have hlk := B.notSynchronized
  have X : CallFix p m c cX2_forget 1 s _ wsX2_forget RX2 := ⟨B.exec, B.bytes, hml, findClass_of_methodNamed B.named, atoms_spec (ws := wsX2_forget) B.pre⟩
  have w := tw_w0 hP hD0
  have hl := lv_entry ([.ref a0]) (n := 1) (Nat.le_of_ble_eq_true rfl)
  rw [lg_entry_eq]
  generalize (lg_sl ([.ref a0]) ++ List.replicate (1 - (lg_sl ([.ref a0])).length) Slot.unset).toArray = ls at hl ⊢
  have hl : lv_has ls 1 [(0, .ref a0)] := hl
  unfold wp_X2_forget at h
  refine lv_aload_n X.1 X.2.1 dX2_forget_0 rfl (lv_at hl 0 rfl) ?_
  refine lv_iconst (v := 0) X.1 X.2.1 dX2_forget_1 (by decide) ?_
  refine tw_putI X hK w 2 iw_X2_forget_2 tyX2 tyX2_ok nmX2 h0 (by decide) rfl 1 (by decide) (List.mem_of_getElem? (i := 1) rfl) rfl (ty := .int) (by decide +kernel) rfl rfl (Nat.le_of_ble_eq_true rfl) (tw_f_2_1 g _ _ _) dX2_forget_2 (fun σ1 H locs eσ1 w => ?_)
  have h := h _ eσ1
  exact tw_vret X hr hlk w h dX2_forget_5

abbrev RM_X6_length : Room := { frames := 0, cells := 0, slots := 0, locals := 0 }
theorem iw_X6_length_6 : ∀ w ∈ wsX60, w ∈ wsX6_length := fun w h => List.mem_cons_of_mem _ (List.mem_append_right _ (h))
def wp_X6_length (g : tw_G) (σ : tw_S) (a0 : Nat) (Q : Int32 → tw_S → Prop) : Prop := Q (tw_I σ a0 1) σ
set_option maxHeartbeats 4000000 in
set_option maxRecDepth 100000 in
theorem ct_X6_length (l : Launch) (D : va_G) (g : tw_G) (hT : tw_T g) (sz : Nat) (σ : tw_S) (a0 : Nat) (h0 : tw_is g 6 a0) (Q : Int32 → tw_S → Prop) (h : wp_X6_length g σ a0 Q) : tw_Mi l yX6_length wsX6_length RM_X6_length D g sz σ [.ref a0] Q := by
  refine Met.ofW (cc := cX6_length) (maxL := 1) (ret := (some .int)) (by decide) rfl ?_
  intro p e s m args below meth c s₁ B hml hv
  obtain ⟨rfl, hsz, hP, hK, hD0⟩ := hv
  subst hsz
  have hr := B.returns
  have hlk := B.notSynchronized
  have X : CallFix p m c cX6_length 1 s _ wsX6_length RX6 := ⟨B.exec, B.bytes, hml, findClass_of_methodNamed B.named, atoms_spec (ws := wsX6_length) B.pre⟩
  have w := tw_w0 hP hD0
  have hl := lv_entry ([.ref a0]) (n := 1) (Nat.le_of_ble_eq_true rfl)
  rw [lg_entry_eq]
  generalize (lg_sl ([.ref a0]) ++ List.replicate (1 - (lg_sl ([.ref a0])).length) Slot.unset).toArray = ls at hl ⊢
  have hl : lv_has ls 1 [(0, .ref a0)] := hl
  unfold wp_X6_length at h
  refine lv_aload_n X.1 X.2.1 dX6_length_0 rfl (lv_at hl 0 rfl) ?_
  refine tw_get X hK w 6 iw_X6_length_6 h0 (by decide) rfl 1 (by decide) (List.mem_of_getElem? (i := 1) rfl) rfl dX6_length_1 ?_
  exact tw_iret X hr hlk w h dX6_length_4

abbrev RM_X6_place : Room := { frames := 0, cells := 0, slots := 0, locals := 0 }
theorem iw_X6_place_6 : ∀ w ∈ wsX60, w ∈ wsX6_place := fun w h => List.mem_cons_of_mem _ (List.mem_append_right _ (h))
def wp_X6_place (g : tw_G) (σ : tw_S) (a0 : Nat) (Q : Int32 → tw_S → Prop) : Prop := Q (tw_I σ a0 2) σ
set_option maxHeartbeats 4000000 in
set_option maxRecDepth 100000 in
theorem ct_X6_place (l : Launch) (D : va_G) (g : tw_G) (hT : tw_T g) (sz : Nat) (σ : tw_S) (a0 : Nat) (h0 : tw_is g 6 a0) (Q : Int32 → tw_S → Prop) (h : wp_X6_place g σ a0 Q) : tw_Mi l yX6_place wsX6_place RM_X6_place D g sz σ [.ref a0] Q := by
  refine Met.ofW (cc := cX6_place) (maxL := 1) (ret := (some .int)) (by decide) rfl ?_
  intro p e s m args below meth c s₁ B hml hv
  obtain ⟨rfl, hsz, hP, hK, hD0⟩ := hv
  subst hsz
  have hr := B.returns
  have hlk := B.notSynchronized
  have X : CallFix p m c cX6_place 1 s _ wsX6_place RX6 := ⟨B.exec, B.bytes, hml, findClass_of_methodNamed B.named, atoms_spec (ws := wsX6_place) B.pre⟩
  have w := tw_w0 hP hD0
  have hl := lv_entry ([.ref a0]) (n := 1) (Nat.le_of_ble_eq_true rfl)
  rw [lg_entry_eq]
  generalize (lg_sl ([.ref a0]) ++ List.replicate (1 - (lg_sl ([.ref a0])).length) Slot.unset).toArray = ls at hl ⊢
  have hl : lv_has ls 1 [(0, .ref a0)] := hl
  unfold wp_X6_place at h
  refine lv_aload_n X.1 X.2.1 dX6_place_0 rfl (lv_at hl 0 rfl) ?_
  refine tw_get X hK w 6 iw_X6_place_6 h0 (by decide) rfl 2 (by decide) (List.mem_of_getElem? (i := 1) rfl) rfl dX6_place_1 ?_
  exact tw_iret X hr hlk w h dX6_place_4

abbrev RM_X6_add : Room := { frames := 0, cells := 0, slots := 0, locals := 0 }
theorem iw_X6_add_6 : ∀ w ∈ wsX60, w ∈ wsX6_add := fun w h => List.mem_cons_of_mem _ (List.mem_append_right _ (h))
def wp_X6_add (g : tw_G) (σ : tw_S) (a0 : Nat) (x1 : Int32) (Q : Int32 → tw_S → Prop) : Prop := (((tw_I σ a0 1) < 0) → Q (0 : Int32) σ) ∧ (¬ ((tw_I σ a0 1) < 0) → (((tw_I σ a0 1) < (240 : Int32)) → vp_in (tw_I σ a0 1) 240 ∧ ∀ σ4, σ4 = (tw_sA σ (tw_R g a0 0) (upd (tw_A σ (tw_R g a0 0)) (tw_I σ a0 1).toNatClampNeg x1)) → ∀ σ5, σ5 = (tw_sI σ4 a0 1 ((tw_I σ4 a0 1) + (1 : Int32))) → Q (1 : Int32) σ5) ∧ (¬ ((tw_I σ a0 1) < (240 : Int32)) → Q (0 : Int32) σ))
set_option maxHeartbeats 4000000 in
set_option maxRecDepth 100000 in
theorem ct_X6_add (l : Launch) (D : va_G) (g : tw_G) (hT : tw_T g) (sz : Nat) (σ : tw_S) (a0 : Nat) (h0 : tw_is g 6 a0) (x1 : Int32) (Q : Int32 → tw_S → Prop) (h : wp_X6_add g σ a0 x1 Q) : tw_Mi l yX6_add wsX6_add RM_X6_add D g sz σ [.ref a0, .int x1] Q := by
  refine Met.ofW (cc := cX6_add) (maxL := 2) (ret := (some .boolean)) (by decide) rfl ?_
  intro p e s m args below meth c s₁ B hml hv
  obtain ⟨rfl, hsz, hP, hK, hD0⟩ := hv
  subst hsz
  have hr := B.returns
  have hlk := B.notSynchronized
  have X : CallFix p m c cX6_add 2 s _ wsX6_add RX6 := ⟨B.exec, B.bytes, hml, findClass_of_methodNamed B.named, atoms_spec (ws := wsX6_add) B.pre⟩
  have w := tw_w0 hP hD0
  have hl := lv_entry ([.ref a0, .int x1]) (n := 2) (Nat.le_of_ble_eq_true rfl)
  rw [lg_entry_eq]
  generalize (lg_sl ([.ref a0, .int x1]) ++ List.replicate (2 - (lg_sl ([.ref a0, .int x1])).length) Slot.unset).toArray = ls at hl ⊢
  have hl : lv_has ls 2 [(0, .ref a0), (1, .int x1)] := hl
  unfold wp_X6_add at h
  refine lv_aload_n X.1 X.2.1 dX6_add_0 rfl (lv_at hl 0 rfl) ?_
  refine tw_get X hK w 6 iw_X6_add_6 h0 (by decide) rfl 1 (by decide) (List.mem_of_getElem? (i := 1) rfl) rfl dX6_add_1 ?_
  refine lv_if_lt (tgt := 17) X.1 X.2.1 dX6_add_4 (by decide) (fun c1 => ?_) (fun c1 => ?_)
  · have h := h.1 c1
    refine lv_iconst (v := 0) X.1 X.2.1 dX6_add_17 (by decide) ?_
    exact tw_zret X hr hlk w (by decide) h dX6_add_18
  · have h := h.2 c1
    refine lv_aload_n X.1 X.2.1 dX6_add_7 rfl (lv_at hl 0 rfl) ?_
    refine tw_get X hK w 6 iw_X6_add_6 h0 (by decide) rfl 1 (by decide) (List.mem_of_getElem? (i := 1) rfl) rfl dX6_add_8 ?_
    refine lv_sipush (v := 240) X.1 X.2.1 dX6_add_11 (by decide) ?_
    refine lv_icmp_lt (tgt := 19) X.1 X.2.1 dX6_add_14 (by decide) (fun c2 => ?_) (fun c2 => ?_)
    · have h := h.1 c2
      refine lv_aload_n X.1 X.2.1 dX6_add_19 rfl (lv_at hl 0 rfl) ?_
      refine tw_get X hK w 6 iw_X6_add_6 h0 (by decide) rfl 0 (by decide) (List.mem_of_getElem? (i := 2) rfl) rfl dX6_add_20 ?_
      refine lv_aload_n X.1 X.2.1 dX6_add_23 rfl (lv_at hl 0 rfl) ?_
      refine tw_get X hK w 6 iw_X6_add_6 h0 (by decide) rfl 1 (by decide) (List.mem_of_getElem? (i := 1) rfl) rfl dX6_add_24 ?_
      refine lv_iload_n X.1 X.2.1 dX6_add_27 rfl (lv_at hl 1 rfl) ?_
      obtain ⟨hi3, h⟩ := h
      refine tw_iast X hK w (tw_t_6_0 hT h0) (tw_n_6_0 hT h0) hi3 dX6_add_28 (fun σ4 H locs eσ4 w => ?_)
      have h := h _ eσ4
      refine lv_aload_n X.1 X.2.1 dX6_add_29 rfl (lv_at hl 0 rfl) ?_
      refine lv_dup X.1 X.2.1 dX6_add_30 rfl ?_
      refine tw_get X hK w 6 iw_X6_add_6 h0 (by decide) rfl 1 (by decide) (List.mem_of_getElem? (i := 1) rfl) rfl dX6_add_31 ?_
      refine lv_iconst (v := 1) X.1 X.2.1 dX6_add_34 (by decide) ?_
      refine lv_iadd X.1 X.2.1 dX6_add_35 ?_
      refine tw_putI X hK w 6 iw_X6_add_6 tyX6 tyX6_ok nmX6 h0 (by decide) rfl 1 (by decide) (List.mem_of_getElem? (i := 1) rfl) rfl (ty := .int) (by decide +kernel) rfl rfl (Nat.le_of_ble_eq_true rfl) (tw_f_6_1 g _ _ _) dX6_add_36 (fun σ5 H locs eσ5 w => ?_)
      have h := h _ eσ5
      refine lv_iconst (v := 1) X.1 X.2.1 dX6_add_39 (by decide) ?_
      exact tw_zret X hr hlk w (by decide) h dX6_add_40
    · have h := h.2 c2
      refine lv_iconst (v := 0) X.1 X.2.1 dX6_add_17 (by decide) ?_
      exact tw_zret X hr hlk w (by decide) h dX6_add_18

abbrev RM_X6_clear : Room := { frames := 0, cells := 0, slots := 0, locals := 0 }
theorem iw_X6_clear_6 : ∀ w ∈ wsX60, w ∈ wsX6_clear := fun w h => List.mem_cons_of_mem _ (List.mem_append_right _ (h))
def wp_X6_clear (g : tw_G) (σ : tw_S) (a0 : Nat) (Q : tw_S → Prop) : Prop := ∀ σ1, σ1 = (tw_sI σ a0 1 (0 : Int32)) → Q σ1
set_option maxHeartbeats 4000000 in
set_option maxRecDepth 100000 in
theorem ct_X6_clear (l : Launch) (D : va_G) (g : tw_G) (hT : tw_T g) (sz : Nat) (σ : tw_S) (a0 : Nat) (h0 : tw_is g 6 a0) (Q : tw_S → Prop) (h : wp_X6_clear g σ a0 Q) : tw_Mv l yX6_clear wsX6_clear RM_X6_clear D g sz σ [.ref a0] Q := by
  refine Met.ofW (cc := cX6_clear) (maxL := 1) (ret := none) (by decide) rfl ?_
  intro p e s m args below meth c s₁ B hml hv
  obtain ⟨rfl, hsz, hP, hK, hD0⟩ := hv
  subst hsz
  have hr := B.returns
  have hlk := B.notSynchronized
  have X : CallFix p m c cX6_clear 1 s _ wsX6_clear RX6 := ⟨B.exec, B.bytes, hml, findClass_of_methodNamed B.named, atoms_spec (ws := wsX6_clear) B.pre⟩
  have w := tw_w0 hP hD0
  have hl := lv_entry ([.ref a0]) (n := 1) (Nat.le_of_ble_eq_true rfl)
  rw [lg_entry_eq]
  generalize (lg_sl ([.ref a0]) ++ List.replicate (1 - (lg_sl ([.ref a0])).length) Slot.unset).toArray = ls at hl ⊢
  have hl : lv_has ls 1 [(0, .ref a0)] := hl
  unfold wp_X6_clear at h
  refine lv_aload_n X.1 X.2.1 dX6_clear_0 rfl (lv_at hl 0 rfl) ?_
  refine lv_iconst (v := 0) X.1 X.2.1 dX6_clear_1 (by decide) ?_
  refine tw_putI X hK w 6 iw_X6_clear_6 tyX6 tyX6_ok nmX6 h0 (by decide) rfl 1 (by decide) (List.mem_of_getElem? (i := 1) rfl) rfl (ty := .int) (by decide +kernel) rfl rfl (Nat.le_of_ble_eq_true rfl) (tw_f_6_1 g _ _ _) dX6_clear_2 (fun σ1 H locs eσ1 w => ?_)
  have h := h _ eσ1
  exact tw_vret X hr hlk w h dX6_clear_5

abbrev RM_X6_upcoming : Room := { frames := 0, cells := 0, slots := 0, locals := 0 }
theorem iw_X6_upcoming_6 : ∀ w ∈ wsX60, w ∈ wsX6_upcoming := fun w h => List.mem_cons_of_mem _ (List.mem_append_right _ (h))
def wl_X6_upcoming_0 (g : tw_G) (a0 : Nat) (Q : Int32 → tw_S → Prop) (k48 : tw_S → Prop) : Nat → tw_S → Prop
  | 0, _ => False
  | n + 1, σ => (((tw_I σ a0 1) ≤ (tw_I σ a0 2)) → k48  σ) ∧ (¬ ((tw_I σ a0 1) ≤ (tw_I σ a0 2)) → (((240 : Int32) ≤ (tw_I σ a0 2)) → k48  σ) ∧ (¬ ((240 : Int32) ≤ (tw_I σ a0 2)) → vp_in (tw_I σ a0 2) 240 ∧ ((¬ (tw_A σ (tw_R g a0 0) (tw_I σ a0 2).toNatClampNeg) = (32 : Int32)) → k48  σ) ∧ (((tw_A σ (tw_R g a0 0) (tw_I σ a0 2).toNatClampNeg) = (32 : Int32)) → ∀ σ5, σ5 = (tw_sI σ a0 2 ((tw_I σ a0 2) + (1 : Int32))) → wl_X6_upcoming_0 g a0 Q k48 n  σ5)))
def wp_X6_upcoming (g : tw_G) (σ : tw_S) (a0 : Nat) (Q : Int32 → tw_S → Prop) : Prop := ∃ n0, wl_X6_upcoming_0 g a0 Q (fun σ6 => (((tw_I σ6 a0 1) ≤ (tw_I σ6 a0 2)) → Q (-1 : Int32) σ6) ∧ (¬ ((tw_I σ6 a0 1) ≤ (tw_I σ6 a0 2)) → (((240 : Int32) ≤ (tw_I σ6 a0 2)) → Q (-1 : Int32) σ6) ∧ (¬ ((240 : Int32) ≤ (tw_I σ6 a0 2)) → vp_in (tw_I σ6 a0 2) 240 ∧ Q (tw_A σ6 (tw_R g a0 0) (tw_I σ6 a0 2).toNatClampNeg) σ6))) n0  σ
set_option maxHeartbeats 4000000 in
set_option maxRecDepth 100000 in
theorem lp_X6_upcoming_0 {p : Program} {l : Launch} {e : Env} {s : State} {m : MethodId} {args : Array Value} {below : List Frame} {meth : Method} {c : Code} {D : va_G} {g : tw_G} (X : CallFix p m c cX6_upcoming 1 s args wsX6_upcoming RX6) (hr : meth.sig.returnType = (some .int)) (hlk : meth.locks = false) (hK : tw_k D g s) (hT : tw_T g) {a0 : Nat} (h0 : tw_is g 6 a0) {Q : Int32 → tw_S → Prop} {k48 : tw_S → Prop}
    (hk48 : ∀  (σ : tw_S) (H : Heap) (locs : List Loc) (ls : Array Slot), k48  σ → tw_w D g (tw_F g s.heap.size) s σ H locs → lv_has ls 1 [(0, .ref a0)] → W p l e RM_X6_upcoming s m args below meth c H locs 0 0 (tw_Qi Q D g below args s) (F0 m 48 ls []))
    : ∀ (n : Nat)  (σ : tw_S) (H : Heap) (locs : List Loc) (ls : Array Slot), wl_X6_upcoming_0 g a0 Q k48 n  σ → tw_w D g (tw_F g s.heap.size) s σ H locs → lv_has ls 1 [(0, .ref a0)] → W p l e RM_X6_upcoming s m args below meth c H locs 0 0 (tw_Qi Q D g below args s) (F0 m 0 ls []) := by
  intro n
  induction n with
  | zero =>
    intro  σ H locs ls h w hl
    exact False.elim h
  | succ n ih =>
    intro  σ H locs ls h w hl
    rw [wl_X6_upcoming_0] at h
    refine lv_aload_n X.1 X.2.1 dX6_upcoming_0 rfl (lv_at hl 0 rfl) ?_
    refine tw_get X hK w 6 iw_X6_upcoming_6 h0 (by decide) rfl 2 (by decide) (List.mem_of_getElem? (i := 1) rfl) rfl dX6_upcoming_1 ?_
    refine lv_aload_n X.1 X.2.1 dX6_upcoming_4 rfl (lv_at hl 0 rfl) ?_
    refine tw_get X hK w 6 iw_X6_upcoming_6 h0 (by decide) rfl 1 (by decide) (List.mem_of_getElem? (i := 2) rfl) rfl dX6_upcoming_5 ?_
    refine lv_icmp_ge (tgt := 48) X.1 X.2.1 dX6_upcoming_8 (by decide) (fun c1 => ?_) (fun c1 => ?_)
    · have h := h.1 c1
      exact hk48  σ _ _ ls h w (lv_sub hl [0] rfl)
    · have h := h.2 c1
      refine lv_aload_n X.1 X.2.1 dX6_upcoming_11 rfl (lv_at hl 0 rfl) ?_
      refine tw_get X hK w 6 iw_X6_upcoming_6 h0 (by decide) rfl 2 (by decide) (List.mem_of_getElem? (i := 1) rfl) rfl dX6_upcoming_12 ?_
      refine lv_sipush (v := 240) X.1 X.2.1 dX6_upcoming_15 (by decide) ?_
      refine lv_icmp_ge (tgt := 48) X.1 X.2.1 dX6_upcoming_18 (by decide) (fun c2 => ?_) (fun c2 => ?_)
      · have h := h.1 c2
        exact hk48  σ _ _ ls h w (lv_sub hl [0] rfl)
      · have h := h.2 c2
        refine lv_aload_n X.1 X.2.1 dX6_upcoming_21 rfl (lv_at hl 0 rfl) ?_
        refine tw_get X hK w 6 iw_X6_upcoming_6 h0 (by decide) rfl 0 (by decide) (List.mem_of_getElem? (i := 3) rfl) rfl dX6_upcoming_22 ?_
        refine lv_aload_n X.1 X.2.1 dX6_upcoming_25 rfl (lv_at hl 0 rfl) ?_
        refine tw_get X hK w 6 iw_X6_upcoming_6 h0 (by decide) rfl 2 (by decide) (List.mem_of_getElem? (i := 1) rfl) rfl dX6_upcoming_26 ?_
        obtain ⟨hi3, h⟩ := h
        refine tw_iald X hK w (tw_t_6_0 hT h0) (tw_n_6_0 hT h0) hi3 dX6_upcoming_29 ?_
        refine lv_bipush (v := 32) X.1 X.2.1 dX6_upcoming_30 (by decide) ?_
        refine lv_icmp_ne (tgt := 48) X.1 X.2.1 dX6_upcoming_32 (by decide) (fun c4 => ?_) (fun c4 => ?_)
        · have h := h.1 c4
          exact hk48  σ _ _ ls h w (lv_sub hl [0] rfl)
        · have h := h.2 c4
          refine lv_aload_n X.1 X.2.1 dX6_upcoming_35 rfl (lv_at hl 0 rfl) ?_
          refine lv_dup X.1 X.2.1 dX6_upcoming_36 rfl ?_
          refine tw_get X hK w 6 iw_X6_upcoming_6 h0 (by decide) rfl 2 (by decide) (List.mem_of_getElem? (i := 1) rfl) rfl dX6_upcoming_37 ?_
          refine lv_iconst (v := 1) X.1 X.2.1 dX6_upcoming_40 (by decide) ?_
          refine lv_iadd X.1 X.2.1 dX6_upcoming_41 ?_
          refine tw_putI X hK w 6 iw_X6_upcoming_6 tyX6 tyX6_ok nmX6 h0 (by decide) rfl 2 (by decide) (List.mem_of_getElem? (i := 1) rfl) rfl (ty := .int) (by decide +kernel) rfl rfl (Nat.le_of_ble_eq_true rfl) (tw_f_6_2 g _ _ _) dX6_upcoming_42 (fun σ5 H locs eσ5 w => ?_)
          have h := h _ eσ5
          refine lv_goto (tgt := 0) X.1 X.2.1 dX6_upcoming_45 (by decide) ?_
          exact ih  σ5 _ _ ls h w (lv_sub hl [0] rfl)
set_option maxHeartbeats 4000000 in
set_option maxRecDepth 100000 in
theorem ct_X6_upcoming (l : Launch) (D : va_G) (g : tw_G) (hT : tw_T g) (sz : Nat) (σ : tw_S) (a0 : Nat) (h0 : tw_is g 6 a0) (Q : Int32 → tw_S → Prop) (h : wp_X6_upcoming g σ a0 Q) : tw_Mi l yX6_upcoming wsX6_upcoming RM_X6_upcoming D g sz σ [.ref a0] Q := by
  refine Met.ofW (cc := cX6_upcoming) (maxL := 1) (ret := (some .int)) (by decide) rfl ?_
  intro p e s m args below meth c s₁ B hml hv
  obtain ⟨rfl, hsz, hP, hK, hD0⟩ := hv
  subst hsz
  have hr := B.returns
  have hlk := B.notSynchronized
  have X : CallFix p m c cX6_upcoming 1 s _ wsX6_upcoming RX6 := ⟨B.exec, B.bytes, hml, findClass_of_methodNamed B.named, atoms_spec (ws := wsX6_upcoming) B.pre⟩
  have w := tw_w0 hP hD0
  have hl := lv_entry ([.ref a0]) (n := 1) (Nat.le_of_ble_eq_true rfl)
  rw [lg_entry_eq]
  generalize (lg_sl ([.ref a0]) ++ List.replicate (1 - (lg_sl ([.ref a0])).length) Slot.unset).toArray = ls at hl ⊢
  have hl : lv_has ls 1 [(0, .ref a0)] := hl
  unfold wp_X6_upcoming at h
  obtain ⟨n0, h⟩ := h
  refine lp_X6_upcoming_0 X hr hlk hK hT h0 (fun σ6 H locs ls h w hl => ?_) n0  σ _ _ ls h w (lv_sub hl [0] rfl)
  · skip
    refine lv_aload_n X.1 X.2.1 dX6_upcoming_48 rfl (lv_at hl 0 rfl) ?_
    refine tw_get X hK w 6 iw_X6_upcoming_6 h0 (by decide) rfl 2 (by decide) (List.mem_of_getElem? (i := 1) rfl) rfl dX6_upcoming_49 ?_
    refine lv_aload_n X.1 X.2.1 dX6_upcoming_52 rfl (lv_at hl 0 rfl) ?_
    refine tw_get X hK w 6 iw_X6_upcoming_6 h0 (by decide) rfl 1 (by decide) (List.mem_of_getElem? (i := 2) rfl) rfl dX6_upcoming_53 ?_
    refine lv_icmp_ge (tgt := 81) X.1 X.2.1 dX6_upcoming_56 (by decide) (fun c7 => ?_) (fun c7 => ?_)
    · have h := h.1 c7
      refine lv_iconst (v := -1) X.1 X.2.1 dX6_upcoming_81 (by decide) ?_
      exact tw_iret X hr hlk w h dX6_upcoming_82
    · have h := h.2 c7
      refine lv_aload_n X.1 X.2.1 dX6_upcoming_59 rfl (lv_at hl 0 rfl) ?_
      refine tw_get X hK w 6 iw_X6_upcoming_6 h0 (by decide) rfl 2 (by decide) (List.mem_of_getElem? (i := 1) rfl) rfl dX6_upcoming_60 ?_
      refine lv_sipush (v := 240) X.1 X.2.1 dX6_upcoming_63 (by decide) ?_
      refine lv_icmp_ge (tgt := 81) X.1 X.2.1 dX6_upcoming_66 (by decide) (fun c8 => ?_) (fun c8 => ?_)
      · have h := h.1 c8
        refine lv_iconst (v := -1) X.1 X.2.1 dX6_upcoming_81 (by decide) ?_
        exact tw_iret X hr hlk w h dX6_upcoming_82
      · have h := h.2 c8
        refine lv_aload_n X.1 X.2.1 dX6_upcoming_69 rfl (lv_at hl 0 rfl) ?_
        refine tw_get X hK w 6 iw_X6_upcoming_6 h0 (by decide) rfl 0 (by decide) (List.mem_of_getElem? (i := 3) rfl) rfl dX6_upcoming_70 ?_
        refine lv_aload_n X.1 X.2.1 dX6_upcoming_73 rfl (lv_at hl 0 rfl) ?_
        refine tw_get X hK w 6 iw_X6_upcoming_6 h0 (by decide) rfl 2 (by decide) (List.mem_of_getElem? (i := 1) rfl) rfl dX6_upcoming_74 ?_
        obtain ⟨hi9, h⟩ := h
        refine tw_iald X hK w (tw_t_6_0 hT h0) (tw_n_6_0 hT h0) hi9 dX6_upcoming_77 ?_
        refine lv_goto (tgt := 82) X.1 X.2.1 dX6_upcoming_78 (by decide) ?_
        exact tw_iret X hr hlk w h dX6_upcoming_82

abbrev RM_X6_blame : Room := { frames := 0, cells := 0, slots := 0, locals := 0 }
theorem iw_X6_blame_6 : ∀ w ∈ wsX60, w ∈ wsX6_blame := fun w h => List.mem_cons_of_mem _ (List.mem_append_right _ (h))
def wp_X6_blame (g : tw_G) (σ : tw_S) (a0 : Nat) (x1 : Int32) (Q : tw_S → Prop) : Prop := ((¬ (tw_I σ a0 3) = 0) → Q σ) ∧ (((tw_I σ a0 3) = 0) → ∀ σ2, σ2 = (tw_sI σ a0 3 x1) → Q σ2)
set_option maxHeartbeats 4000000 in
set_option maxRecDepth 100000 in
theorem ct_X6_blame (l : Launch) (D : va_G) (g : tw_G) (hT : tw_T g) (sz : Nat) (σ : tw_S) (a0 : Nat) (h0 : tw_is g 6 a0) (x1 : Int32) (Q : tw_S → Prop) (h : wp_X6_blame g σ a0 x1 Q) : tw_Mv l yX6_blame wsX6_blame RM_X6_blame D g sz σ [.ref a0, .int x1] Q := by
  refine Met.ofW (cc := cX6_blame) (maxL := 2) (ret := none) (by decide) rfl ?_
  intro p e s m args below meth c s₁ B hml hv
  obtain ⟨rfl, hsz, hP, hK, hD0⟩ := hv
  subst hsz
  have hr := B.returns
  have hlk := B.notSynchronized
  have X : CallFix p m c cX6_blame 2 s _ wsX6_blame RX6 := ⟨B.exec, B.bytes, hml, findClass_of_methodNamed B.named, atoms_spec (ws := wsX6_blame) B.pre⟩
  have w := tw_w0 hP hD0
  have hl := lv_entry ([.ref a0, .int x1]) (n := 2) (Nat.le_of_ble_eq_true rfl)
  rw [lg_entry_eq]
  generalize (lg_sl ([.ref a0, .int x1]) ++ List.replicate (2 - (lg_sl ([.ref a0, .int x1])).length) Slot.unset).toArray = ls at hl ⊢
  have hl : lv_has ls 2 [(0, .ref a0), (1, .int x1)] := hl
  unfold wp_X6_blame at h
  refine lv_aload_n X.1 X.2.1 dX6_blame_0 rfl (lv_at hl 0 rfl) ?_
  refine tw_get X hK w 6 iw_X6_blame_6 h0 (by decide) rfl 3 (by decide) (List.mem_of_getElem? (i := 1) rfl) rfl dX6_blame_1 ?_
  refine lv_if_ne (tgt := 12) X.1 X.2.1 dX6_blame_4 (by decide) (fun c1 => ?_) (fun c1 => ?_)
  · have h := h.1 c1
    exact tw_vret X hr hlk w h dX6_blame_12
  · have h := h.2 c1
    refine lv_aload_n X.1 X.2.1 dX6_blame_7 rfl (lv_at hl 0 rfl) ?_
    refine lv_iload_n X.1 X.2.1 dX6_blame_8 rfl (lv_at hl 1 rfl) ?_
    refine tw_putI X hK w 6 iw_X6_blame_6 tyX6 tyX6_ok nmX6 h0 (by decide) rfl 3 (by decide) (List.mem_of_getElem? (i := 1) rfl) rfl (ty := .int) (by decide +kernel) rfl rfl (Nat.le_of_ble_eq_true rfl) (tw_f_6_3 g _ _ _) dX6_blame_9 (fun σ2 H locs eσ2 w => ?_)
    have h := h _ eσ2
    exact tw_vret X hr hlk w h dX6_blame_12

abbrev RM_X6_passIf : Room := { frames := 1, cells := 0, slots := 0, locals := 21 }
theorem iw_X6_passIf_6 : ∀ w ∈ wsX60, w ∈ wsX6_passIf := fun w h => List.mem_cons_of_mem _ (List.mem_append_right _ (h))
def wp_X6_passIf (g : tw_G) (σ : tw_S) (a0 : Nat) (x1 : Int32) (Q : tw_S → Prop) : Prop := ((¬ x1 = 0) → ((¬ (tw_I σ a0 3) = 0) → Q σ) ∧ (((tw_I σ a0 3) = 0) → ∀ σ3, σ3 = (tw_sI σ a0 2 ((tw_I σ a0 2) + (1 : Int32))) → Q σ3)) ∧ ((x1 = 0) → wp_X6_blame g σ a0 (1 : Int32) (fun σ4 => ((¬ (tw_I σ4 a0 3) = 0) → Q σ4) ∧ (((tw_I σ4 a0 3) = 0) → ∀ σ6, σ6 = (tw_sI σ4 a0 2 ((tw_I σ4 a0 2) + (1 : Int32))) → Q σ6)))
set_option maxHeartbeats 4000000 in
set_option maxRecDepth 100000 in
theorem ct_X6_passIf (l : Launch) (D : va_G) (g : tw_G) (hT : tw_T g) (sz : Nat) (σ : tw_S) (a0 : Nat) (h0 : tw_is g 6 a0) (x1 : Int32) (Q : tw_S → Prop) (h : wp_X6_passIf g σ a0 x1 Q) : tw_Mv l yX6_passIf wsX6_passIf RM_X6_passIf D g sz σ [.ref a0, .int x1] Q := by
  refine Met.ofW (cc := cX6_passIf) (maxL := 2) (ret := none) (by decide) rfl ?_
  intro p e s m args below meth c s₁ B hml hv
  obtain ⟨rfl, hsz, hP, hK, hD0⟩ := hv
  subst hsz
  have hr := B.returns
  have hlk := B.notSynchronized
  have X : CallFix p m c cX6_passIf 2 s _ wsX6_passIf RX6 := ⟨B.exec, B.bytes, hml, findClass_of_methodNamed B.named, atoms_spec (ws := wsX6_passIf) B.pre⟩
  have w := tw_w0 hP hD0
  have hl := lv_entry ([.ref a0, .int x1]) (n := 2) (Nat.le_of_ble_eq_true rfl)
  rw [lg_entry_eq]
  generalize (lg_sl ([.ref a0, .int x1]) ++ List.replicate (2 - (lg_sl ([.ref a0, .int x1])).length) Slot.unset).toArray = ls at hl ⊢
  have hl : lv_has ls 2 [(0, .ref a0), (1, .int x1)] := hl
  unfold wp_X6_passIf at h
  refine lv_iload_n X.1 X.2.1 dX6_passIf_0 rfl (lv_at hl 1 rfl) ?_
  refine lv_if_ne (tgt := 9) X.1 X.2.1 dX6_passIf_1 (by decide) (fun c1 => ?_) (fun c1 => ?_)
  · have h := h.1 c1
    refine lv_aload_n X.1 X.2.1 dX6_passIf_9 rfl (lv_at hl 0 rfl) ?_
    refine tw_get X hK w 6 iw_X6_passIf_6 h0 (by decide) rfl 3 (by decide) (List.mem_of_getElem? (i := 1) rfl) rfl dX6_passIf_10 ?_
    refine lv_if_ne (tgt := 26) X.1 X.2.1 dX6_passIf_13 (by decide) (fun c2 => ?_) (fun c2 => ?_)
    · have h := h.1 c2
      exact tw_vret X hr hlk w h dX6_passIf_26
    · have h := h.2 c2
      refine lv_aload_n X.1 X.2.1 dX6_passIf_16 rfl (lv_at hl 0 rfl) ?_
      refine lv_dup X.1 X.2.1 dX6_passIf_17 rfl ?_
      refine tw_get X hK w 6 iw_X6_passIf_6 h0 (by decide) rfl 2 (by decide) (List.mem_of_getElem? (i := 2) rfl) rfl dX6_passIf_18 ?_
      refine lv_iconst (v := 1) X.1 X.2.1 dX6_passIf_21 (by decide) ?_
      refine lv_iadd X.1 X.2.1 dX6_passIf_22 ?_
      refine tw_putI X hK w 6 iw_X6_passIf_6 tyX6 tyX6_ok nmX6 h0 (by decide) rfl 2 (by decide) (List.mem_of_getElem? (i := 2) rfl) rfl (ty := .int) (by decide +kernel) rfl rfl (Nat.le_of_ble_eq_true rfl) (tw_f_6_2 g _ _ _) dX6_passIf_23 (fun σ3 H locs eσ3 w => ?_)
      have h := h _ eσ3
      exact tw_vret X hr hlk w h dX6_passIf_26
  · have h := h.2 c1
    refine lv_aload_n X.1 X.2.1 dX6_passIf_4 rfl (lv_at hl 0 rfl) ?_
    refine lv_iconst (v := 1) X.1 X.2.1 dX6_passIf_5 (by decide) ?_
    refine tw_cv w (va_runV (As := [.int (1 : Int32)]) (rest := []) X (ct_X6_blame l D g hT _ σ a0 h0 (1 : Int32) _ h) (cwV 1 X.2.2.2.2 gX6_passIf_X6_blame rfl rfl rfl (by decide +kernel) ⟨Nat.le_of_ble_eq_true rfl, Nat.le_of_ble_eq_true rfl⟩) (tw_preV hK w h0 (by decide) rfl [.int (1 : Int32)]) rfl rfl hl.1 rfl (lv_room (Nat.le_of_ble_eq_true rfl)) dX6_passIf_6 ⟨Nat.zero_le _, Nat.zero_le _⟩) (fun σ4 H locs h w => ?_)
    refine lv_aload_n X.1 X.2.1 dX6_passIf_9 rfl (lv_at hl 0 rfl) ?_
    refine tw_get X hK w 6 iw_X6_passIf_6 h0 (by decide) rfl 3 (by decide) (List.mem_of_getElem? (i := 1) rfl) rfl dX6_passIf_10 ?_
    refine lv_if_ne (tgt := 26) X.1 X.2.1 dX6_passIf_13 (by decide) (fun c5 => ?_) (fun c5 => ?_)
    · have h := h.1 c5
      exact tw_vret X hr hlk w h dX6_passIf_26
    · have h := h.2 c5
      refine lv_aload_n X.1 X.2.1 dX6_passIf_16 rfl (lv_at hl 0 rfl) ?_
      refine lv_dup X.1 X.2.1 dX6_passIf_17 rfl ?_
      refine tw_get X hK w 6 iw_X6_passIf_6 h0 (by decide) rfl 2 (by decide) (List.mem_of_getElem? (i := 2) rfl) rfl dX6_passIf_18 ?_
      refine lv_iconst (v := 1) X.1 X.2.1 dX6_passIf_21 (by decide) ?_
      refine lv_iadd X.1 X.2.1 dX6_passIf_22 ?_
      refine tw_putI X hK w 6 iw_X6_passIf_6 tyX6 tyX6_ok nmX6 h0 (by decide) rfl 2 (by decide) (List.mem_of_getElem? (i := 2) rfl) rfl (ty := .int) (by decide +kernel) rfl rfl (Nat.le_of_ble_eq_true rfl) (tw_f_6_2 g _ _ _) dX6_passIf_23 (fun σ6 H locs eσ6 w => ?_)
      have h := h _ eσ6
      exact tw_vret X hr hlk w h dX6_passIf_26

abbrev RM_X6_takeLetter : Room := { frames := 2, cells := 0, slots := 0, locals := 42 }
def wp_X6_takeLetter (g : tw_G) (σ : tw_S) (a0 : Nat) (x1 : Int32) (Q : tw_S → Prop) : Prop := wp_X6_upcoming g σ a0 (fun r2 σ1 => ((¬ r2 = x1) → wp_X6_passIf g σ1 a0 (0 : Int32) (fun σ4 => Q σ4)) ∧ ((r2 = x1) → wp_X6_passIf g σ1 a0 (1 : Int32) (fun σ5 => Q σ5)))
set_option maxHeartbeats 4000000 in
set_option maxRecDepth 100000 in
theorem ct_X6_takeLetter (l : Launch) (D : va_G) (g : tw_G) (hT : tw_T g) (sz : Nat) (σ : tw_S) (a0 : Nat) (h0 : tw_is g 6 a0) (x1 : Int32) (Q : tw_S → Prop) (h : wp_X6_takeLetter g σ a0 x1 Q) : tw_Mv l yX6_takeLetter wsX6_takeLetter RM_X6_takeLetter D g sz σ [.ref a0, .int x1] Q := by
  refine Met.ofW (cc := cX6_takeLetter) (maxL := 2) (ret := none) (by decide) rfl ?_
  intro p e s m args below meth c s₁ B hml hv
  obtain ⟨rfl, hsz, hP, hK, hD0⟩ := hv
  subst hsz
  have hr := B.returns
  have hlk := B.notSynchronized
  have X : CallFix p m c cX6_takeLetter 2 s _ wsX6_takeLetter RX6 := ⟨B.exec, B.bytes, hml, findClass_of_methodNamed B.named, atoms_spec (ws := wsX6_takeLetter) B.pre⟩
  have w := tw_w0 hP hD0
  have hl := lv_entry ([.ref a0, .int x1]) (n := 2) (Nat.le_of_ble_eq_true rfl)
  rw [lg_entry_eq]
  generalize (lg_sl ([.ref a0, .int x1]) ++ List.replicate (2 - (lg_sl ([.ref a0, .int x1])).length) Slot.unset).toArray = ls at hl ⊢
  have hl : lv_has ls 2 [(0, .ref a0), (1, .int x1)] := hl
  unfold wp_X6_takeLetter at h
  refine lv_aload_n X.1 X.2.1 dX6_takeLetter_0 rfl (lv_at hl 0 rfl) ?_
  refine lv_aload_n X.1 X.2.1 dX6_takeLetter_1 rfl (lv_at hl 0 rfl) ?_
  refine tw_ci w (va_runV (As := []) (rest := [.ref a0]) X (ct_X6_upcoming l D g hT _ σ a0 h0 _ h) (cwV 0 X.2.2.2.2 gX6_takeLetter_X6_upcoming rfl rfl rfl (by decide +kernel) ⟨Nat.le_of_ble_eq_true rfl, Nat.le_of_ble_eq_true rfl⟩) (tw_preV hK w h0 (by decide) rfl []) rfl rfl hl.1 rfl (lv_room (Nat.le_of_ble_eq_true rfl)) dX6_takeLetter_2 ⟨Nat.zero_le _, Nat.zero_le _⟩) (fun r2 σ1 H locs h w => ?_)
  refine lv_iload_n X.1 X.2.1 dX6_takeLetter_5 rfl (lv_at hl 1 rfl) ?_
  refine lv_icmp_ne (tgt := 13) X.1 X.2.1 dX6_takeLetter_6 (by decide) (fun c3 => ?_) (fun c3 => ?_)
  · have h := h.1 c3
    refine lv_iconst (v := 0) X.1 X.2.1 dX6_takeLetter_13 (by decide) ?_
    refine tw_cv w (va_runV (As := [.int (0 : Int32)]) (rest := []) X (ct_X6_passIf l D g hT _ σ1 a0 h0 (0 : Int32) _ h) (cwV 1 X.2.2.2.2 gX6_takeLetter_X6_passIf rfl rfl rfl (by decide +kernel) ⟨Nat.le_of_ble_eq_true rfl, Nat.le_of_ble_eq_true rfl⟩) (tw_preV hK w h0 (by decide) rfl [.int (0 : Int32)]) rfl rfl hl.1 rfl (lv_room (Nat.le_of_ble_eq_true rfl)) dX6_takeLetter_14 ⟨Nat.zero_le _, Nat.zero_le _⟩) (fun σ4 H locs h w => ?_)
    exact tw_vret X hr hlk w h dX6_takeLetter_17
  · have h := h.2 c3
    refine lv_iconst (v := 1) X.1 X.2.1 dX6_takeLetter_9 (by decide) ?_
    refine lv_goto (tgt := 14) X.1 X.2.1 dX6_takeLetter_10 (by decide) ?_
    refine tw_cv w (va_runV (As := [.int (1 : Int32)]) (rest := []) X (ct_X6_passIf l D g hT _ σ1 a0 h0 (1 : Int32) _ h) (cwV 1 X.2.2.2.2 gX6_takeLetter_X6_passIf rfl rfl rfl (by decide +kernel) ⟨Nat.le_of_ble_eq_true rfl, Nat.le_of_ble_eq_true rfl⟩) (tw_preV hK w h0 (by decide) rfl [.int (1 : Int32)]) rfl rfl hl.1 rfl (lv_room (Nat.le_of_ble_eq_true rfl)) dX6_takeLetter_14 ⟨Nat.zero_le _, Nat.zero_le _⟩) (fun σ5 H locs h w => ?_)
    exact tw_vret X hr hlk w h dX6_takeLetter_17

abbrev RM_X6_takeFigure : Room := { frames := 2, cells := 0, slots := 0, locals := 42 }
def wp_X6_takeFigure (g : tw_G) (σ : tw_S) (a0 : Nat) (x1 : Int32) (x2 : Int32) (Q : Int32 → tw_S → Prop) : Prop := wp_X6_upcoming g σ a0 (fun r2 σ1 => (((r2 - (48 : Int32)) < 0) → (((0 : Int32) = 0) → wp_X6_passIf g σ1 a0 (0 : Int32) (fun σ5 => Q (r2 - (48 : Int32)) σ5)) ∧ (¬ ((0 : Int32) = 0) → (((r2 - (48 : Int32)) < x1) → wp_X6_blame g σ1 a0 (2 : Int32) (fun σ7 => wp_X6_passIf g σ7 a0 (0 : Int32) (fun σ8 => Q (r2 - (48 : Int32)) σ8))) ∧ (¬ ((r2 - (48 : Int32)) < x1) → (((r2 - (48 : Int32)) ≤ x2) → wp_X6_passIf g σ1 a0 (0 : Int32) (fun σ10 => Q (r2 - (48 : Int32)) σ10)) ∧ (¬ ((r2 - (48 : Int32)) ≤ x2) → wp_X6_blame g σ1 a0 (2 : Int32) (fun σ11 => wp_X6_passIf g σ11 a0 (0 : Int32) (fun σ12 => Q (r2 - (48 : Int32)) σ12)))))) ∧ (¬ ((r2 - (48 : Int32)) < 0) → (((9 : Int32) < (r2 - (48 : Int32))) → (((0 : Int32) = 0) → wp_X6_passIf g σ1 a0 (0 : Int32) (fun σ15 => Q (r2 - (48 : Int32)) σ15)) ∧ (¬ ((0 : Int32) = 0) → (((r2 - (48 : Int32)) < x1) → wp_X6_blame g σ1 a0 (2 : Int32) (fun σ17 => wp_X6_passIf g σ17 a0 (0 : Int32) (fun σ18 => Q (r2 - (48 : Int32)) σ18))) ∧ (¬ ((r2 - (48 : Int32)) < x1) → (((r2 - (48 : Int32)) ≤ x2) → wp_X6_passIf g σ1 a0 (0 : Int32) (fun σ20 => Q (r2 - (48 : Int32)) σ20)) ∧ (¬ ((r2 - (48 : Int32)) ≤ x2) → wp_X6_blame g σ1 a0 (2 : Int32) (fun σ21 => wp_X6_passIf g σ21 a0 (0 : Int32) (fun σ22 => Q (r2 - (48 : Int32)) σ22)))))) ∧ (¬ ((9 : Int32) < (r2 - (48 : Int32))) → (((1 : Int32) = 0) → wp_X6_passIf g σ1 a0 (1 : Int32) (fun σ24 => Q (r2 - (48 : Int32)) σ24)) ∧ (¬ ((1 : Int32) = 0) → (((r2 - (48 : Int32)) < x1) → wp_X6_blame g σ1 a0 (2 : Int32) (fun σ26 => wp_X6_passIf g σ26 a0 (1 : Int32) (fun σ27 => Q (r2 - (48 : Int32)) σ27))) ∧ (¬ ((r2 - (48 : Int32)) < x1) → (((r2 - (48 : Int32)) ≤ x2) → wp_X6_passIf g σ1 a0 (1 : Int32) (fun σ29 => Q (r2 - (48 : Int32)) σ29)) ∧ (¬ ((r2 - (48 : Int32)) ≤ x2) → wp_X6_blame g σ1 a0 (2 : Int32) (fun σ30 => wp_X6_passIf g σ30 a0 (1 : Int32) (fun σ31 => Q (r2 - (48 : Int32)) σ31))))))))
set_option maxHeartbeats 4000000 in
set_option maxRecDepth 100000 in
theorem ct_X6_takeFigure (l : Launch) (D : va_G) (g : tw_G) (hT : tw_T g) (sz : Nat) (σ : tw_S) (a0 : Nat) (h0 : tw_is g 6 a0) (x1 : Int32) (x2 : Int32) (Q : Int32 → tw_S → Prop) (h : wp_X6_takeFigure g σ a0 x1 x2 Q) : tw_Mi l yX6_takeFigure wsX6_takeFigure RM_X6_takeFigure D g sz σ [.ref a0, .int x1, .int x2] Q := by
  refine Met.ofW (cc := cX6_takeFigure) (maxL := 5) (ret := (some .int)) (by decide) rfl ?_
  intro p e s m args below meth c s₁ B hml hv
  obtain ⟨rfl, hsz, hP, hK, hD0⟩ := hv
  subst hsz
  have hr := B.returns
  have hlk := B.notSynchronized
  have X : CallFix p m c cX6_takeFigure 5 s _ wsX6_takeFigure RX6 := ⟨B.exec, B.bytes, hml, findClass_of_methodNamed B.named, atoms_spec (ws := wsX6_takeFigure) B.pre⟩
  have w := tw_w0 hP hD0
  have hl := lv_entry ([.ref a0, .int x1, .int x2]) (n := 5) (Nat.le_of_ble_eq_true rfl)
  rw [lg_entry_eq]
  generalize (lg_sl ([.ref a0, .int x1, .int x2]) ++ List.replicate (5 - (lg_sl ([.ref a0, .int x1, .int x2])).length) Slot.unset).toArray = ls at hl ⊢
  have hl : lv_has ls 5 [(0, .ref a0), (1, .int x1), (2, .int x2)] := hl
  unfold wp_X6_takeFigure at h
  refine lv_aload_n X.1 X.2.1 dX6_takeFigure_0 rfl (lv_at hl 0 rfl) ?_
  refine tw_ci w (va_runV (As := []) (rest := []) X (ct_X6_upcoming l D g hT _ σ a0 h0 _ h) (cwV 0 X.2.2.2.2 gX6_takeFigure_X6_upcoming rfl rfl rfl (by decide +kernel) ⟨Nat.le_of_ble_eq_true rfl, Nat.le_of_ble_eq_true rfl⟩) (tw_preV hK w h0 (by decide) rfl []) rfl rfl hl.1 rfl (lv_room (Nat.le_of_ble_eq_true rfl)) dX6_takeFigure_1 ⟨Nat.zero_le _, Nat.zero_le _⟩) (fun r2 σ1 H locs h w => ?_)
  refine lv_bipush (v := 48) X.1 X.2.1 dX6_takeFigure_4 (by decide) ?_
  refine lv_isub X.1 X.2.1 dX6_takeFigure_6 ?_
  refine lv_istore_n (lv' := [(3, .int (r2 - (48 : Int32))), (0, .ref a0), (1, .int x1), (2, .int x2)]) X.1 X.2.1 dX6_takeFigure_7 rfl hl (by decide) rfl (fun ls hl => ?_)
  refine lv_iload_n X.1 X.2.1 dX6_takeFigure_8 rfl (lv_at hl 0 rfl) ?_
  refine lv_if_lt (tgt := 22) X.1 X.2.1 dX6_takeFigure_9 (by decide) (fun c3 => ?_) (fun c3 => ?_)
  · have h := h.1 c3
    refine lv_iconst (v := 0) X.1 X.2.1 dX6_takeFigure_22 (by decide) ?_
    refine lv_istore (lv' := [(4, .int (0 : Int32)), (3, .int (r2 - (48 : Int32))), (0, .ref a0), (1, .int x1), (2, .int x2)]) X.1 X.2.1 dX6_takeFigure_23 hl (by decide) rfl (fun ls hl => ?_)
    refine lv_iload X.1 X.2.1 dX6_takeFigure_25 (lv_at hl 0 rfl) ?_
    refine lv_if_eq (tgt := 45) X.1 X.2.1 dX6_takeFigure_27 (by decide) (fun c4 => ?_) (fun c4 => ?_)
    · have h := h.1 c4
      refine lv_aload_n X.1 X.2.1 dX6_takeFigure_45 rfl (lv_at hl 2 rfl) ?_
      refine lv_iload X.1 X.2.1 dX6_takeFigure_46 (lv_at hl 0 rfl) ?_
      refine tw_cv w (va_runV (As := [.int (0 : Int32)]) (rest := []) X (ct_X6_passIf l D g hT _ σ1 a0 h0 (0 : Int32) _ h) (cwV 1 X.2.2.2.2 gX6_takeFigure_X6_passIf rfl rfl rfl (by decide +kernel) ⟨Nat.le_of_ble_eq_true rfl, Nat.le_of_ble_eq_true rfl⟩) (tw_preV hK w h0 (by decide) rfl [.int (0 : Int32)]) rfl rfl hl.1 rfl (lv_room (Nat.le_of_ble_eq_true rfl)) dX6_takeFigure_48 ⟨Nat.zero_le _, Nat.zero_le _⟩) (fun σ5 H locs h w => ?_)
      refine lv_iload_n X.1 X.2.1 dX6_takeFigure_51 rfl (lv_at hl 1 rfl) ?_
      exact tw_iret X hr hlk w h dX6_takeFigure_52
    · have h := h.2 c4
      refine lv_iload_n X.1 X.2.1 dX6_takeFigure_30 rfl (lv_at hl 1 rfl) ?_
      refine lv_iload_n X.1 X.2.1 dX6_takeFigure_31 rfl (lv_at hl 3 rfl) ?_
      refine lv_icmp_lt (tgt := 40) X.1 X.2.1 dX6_takeFigure_32 (by decide) (fun c6 => ?_) (fun c6 => ?_)
      · have h := h.1 c6
        refine lv_aload_n X.1 X.2.1 dX6_takeFigure_40 rfl (lv_at hl 2 rfl) ?_
        refine lv_iconst (v := 2) X.1 X.2.1 dX6_takeFigure_41 (by decide) ?_
        refine tw_cv w (va_runV (As := [.int (2 : Int32)]) (rest := []) X (ct_X6_blame l D g hT _ σ1 a0 h0 (2 : Int32) _ h) (cwV 1 X.2.2.2.2 gX6_takeFigure_X6_blame rfl rfl rfl (by decide +kernel) ⟨Nat.le_of_ble_eq_true rfl, Nat.le_of_ble_eq_true rfl⟩) (tw_preV hK w h0 (by decide) rfl [.int (2 : Int32)]) rfl rfl hl.1 rfl (lv_room (Nat.le_of_ble_eq_true rfl)) dX6_takeFigure_42 ⟨Nat.zero_le _, Nat.zero_le _⟩) (fun σ7 H locs h w => ?_)
        refine lv_aload_n X.1 X.2.1 dX6_takeFigure_45 rfl (lv_at hl 2 rfl) ?_
        refine lv_iload X.1 X.2.1 dX6_takeFigure_46 (lv_at hl 0 rfl) ?_
        refine tw_cv w (va_runV (As := [.int (0 : Int32)]) (rest := []) X (ct_X6_passIf l D g hT _ σ7 a0 h0 (0 : Int32) _ h) (cwV 1 X.2.2.2.2 gX6_takeFigure_X6_passIf rfl rfl rfl (by decide +kernel) ⟨Nat.le_of_ble_eq_true rfl, Nat.le_of_ble_eq_true rfl⟩) (tw_preV hK w h0 (by decide) rfl [.int (0 : Int32)]) rfl rfl hl.1 rfl (lv_room (Nat.le_of_ble_eq_true rfl)) dX6_takeFigure_48 ⟨Nat.zero_le _, Nat.zero_le _⟩) (fun σ8 H locs h w => ?_)
        refine lv_iload_n X.1 X.2.1 dX6_takeFigure_51 rfl (lv_at hl 1 rfl) ?_
        exact tw_iret X hr hlk w h dX6_takeFigure_52
      · have h := h.2 c6
        refine lv_iload_n X.1 X.2.1 dX6_takeFigure_35 rfl (lv_at hl 1 rfl) ?_
        refine lv_iload_n X.1 X.2.1 dX6_takeFigure_36 rfl (lv_at hl 4 rfl) ?_
        refine lv_icmp_le (tgt := 45) X.1 X.2.1 dX6_takeFigure_37 (by decide) (fun c9 => ?_) (fun c9 => ?_)
        · have h := h.1 c9
          refine lv_aload_n X.1 X.2.1 dX6_takeFigure_45 rfl (lv_at hl 2 rfl) ?_
          refine lv_iload X.1 X.2.1 dX6_takeFigure_46 (lv_at hl 0 rfl) ?_
          refine tw_cv w (va_runV (As := [.int (0 : Int32)]) (rest := []) X (ct_X6_passIf l D g hT _ σ1 a0 h0 (0 : Int32) _ h) (cwV 1 X.2.2.2.2 gX6_takeFigure_X6_passIf rfl rfl rfl (by decide +kernel) ⟨Nat.le_of_ble_eq_true rfl, Nat.le_of_ble_eq_true rfl⟩) (tw_preV hK w h0 (by decide) rfl [.int (0 : Int32)]) rfl rfl hl.1 rfl (lv_room (Nat.le_of_ble_eq_true rfl)) dX6_takeFigure_48 ⟨Nat.zero_le _, Nat.zero_le _⟩) (fun σ10 H locs h w => ?_)
          refine lv_iload_n X.1 X.2.1 dX6_takeFigure_51 rfl (lv_at hl 1 rfl) ?_
          exact tw_iret X hr hlk w h dX6_takeFigure_52
        · have h := h.2 c9
          refine lv_aload_n X.1 X.2.1 dX6_takeFigure_40 rfl (lv_at hl 2 rfl) ?_
          refine lv_iconst (v := 2) X.1 X.2.1 dX6_takeFigure_41 (by decide) ?_
          refine tw_cv w (va_runV (As := [.int (2 : Int32)]) (rest := []) X (ct_X6_blame l D g hT _ σ1 a0 h0 (2 : Int32) _ h) (cwV 1 X.2.2.2.2 gX6_takeFigure_X6_blame rfl rfl rfl (by decide +kernel) ⟨Nat.le_of_ble_eq_true rfl, Nat.le_of_ble_eq_true rfl⟩) (tw_preV hK w h0 (by decide) rfl [.int (2 : Int32)]) rfl rfl hl.1 rfl (lv_room (Nat.le_of_ble_eq_true rfl)) dX6_takeFigure_42 ⟨Nat.zero_le _, Nat.zero_le _⟩) (fun σ11 H locs h w => ?_)
          refine lv_aload_n X.1 X.2.1 dX6_takeFigure_45 rfl (lv_at hl 2 rfl) ?_
          refine lv_iload X.1 X.2.1 dX6_takeFigure_46 (lv_at hl 0 rfl) ?_
          refine tw_cv w (va_runV (As := [.int (0 : Int32)]) (rest := []) X (ct_X6_passIf l D g hT _ σ11 a0 h0 (0 : Int32) _ h) (cwV 1 X.2.2.2.2 gX6_takeFigure_X6_passIf rfl rfl rfl (by decide +kernel) ⟨Nat.le_of_ble_eq_true rfl, Nat.le_of_ble_eq_true rfl⟩) (tw_preV hK w h0 (by decide) rfl [.int (0 : Int32)]) rfl rfl hl.1 rfl (lv_room (Nat.le_of_ble_eq_true rfl)) dX6_takeFigure_48 ⟨Nat.zero_le _, Nat.zero_le _⟩) (fun σ12 H locs h w => ?_)
          refine lv_iload_n X.1 X.2.1 dX6_takeFigure_51 rfl (lv_at hl 1 rfl) ?_
          exact tw_iret X hr hlk w h dX6_takeFigure_52
  · have h := h.2 c3
    refine lv_iload_n X.1 X.2.1 dX6_takeFigure_12 rfl (lv_at hl 0 rfl) ?_
    refine lv_bipush (v := 9) X.1 X.2.1 dX6_takeFigure_13 (by decide) ?_
    refine lv_icmp_gt (tgt := 22) X.1 X.2.1 dX6_takeFigure_15 (by decide) (fun c13 => ?_) (fun c13 => ?_)
    · have h := h.1 c13
      refine lv_iconst (v := 0) X.1 X.2.1 dX6_takeFigure_22 (by decide) ?_
      refine lv_istore (lv' := [(4, .int (0 : Int32)), (3, .int (r2 - (48 : Int32))), (0, .ref a0), (1, .int x1), (2, .int x2)]) X.1 X.2.1 dX6_takeFigure_23 hl (by decide) rfl (fun ls hl => ?_)
      refine lv_iload X.1 X.2.1 dX6_takeFigure_25 (lv_at hl 0 rfl) ?_
      refine lv_if_eq (tgt := 45) X.1 X.2.1 dX6_takeFigure_27 (by decide) (fun c14 => ?_) (fun c14 => ?_)
      · have h := h.1 c14
        refine lv_aload_n X.1 X.2.1 dX6_takeFigure_45 rfl (lv_at hl 2 rfl) ?_
        refine lv_iload X.1 X.2.1 dX6_takeFigure_46 (lv_at hl 0 rfl) ?_
        refine tw_cv w (va_runV (As := [.int (0 : Int32)]) (rest := []) X (ct_X6_passIf l D g hT _ σ1 a0 h0 (0 : Int32) _ h) (cwV 1 X.2.2.2.2 gX6_takeFigure_X6_passIf rfl rfl rfl (by decide +kernel) ⟨Nat.le_of_ble_eq_true rfl, Nat.le_of_ble_eq_true rfl⟩) (tw_preV hK w h0 (by decide) rfl [.int (0 : Int32)]) rfl rfl hl.1 rfl (lv_room (Nat.le_of_ble_eq_true rfl)) dX6_takeFigure_48 ⟨Nat.zero_le _, Nat.zero_le _⟩) (fun σ15 H locs h w => ?_)
        refine lv_iload_n X.1 X.2.1 dX6_takeFigure_51 rfl (lv_at hl 1 rfl) ?_
        exact tw_iret X hr hlk w h dX6_takeFigure_52
      · have h := h.2 c14
        refine lv_iload_n X.1 X.2.1 dX6_takeFigure_30 rfl (lv_at hl 1 rfl) ?_
        refine lv_iload_n X.1 X.2.1 dX6_takeFigure_31 rfl (lv_at hl 3 rfl) ?_
        refine lv_icmp_lt (tgt := 40) X.1 X.2.1 dX6_takeFigure_32 (by decide) (fun c16 => ?_) (fun c16 => ?_)
        · have h := h.1 c16
          refine lv_aload_n X.1 X.2.1 dX6_takeFigure_40 rfl (lv_at hl 2 rfl) ?_
          refine lv_iconst (v := 2) X.1 X.2.1 dX6_takeFigure_41 (by decide) ?_
          refine tw_cv w (va_runV (As := [.int (2 : Int32)]) (rest := []) X (ct_X6_blame l D g hT _ σ1 a0 h0 (2 : Int32) _ h) (cwV 1 X.2.2.2.2 gX6_takeFigure_X6_blame rfl rfl rfl (by decide +kernel) ⟨Nat.le_of_ble_eq_true rfl, Nat.le_of_ble_eq_true rfl⟩) (tw_preV hK w h0 (by decide) rfl [.int (2 : Int32)]) rfl rfl hl.1 rfl (lv_room (Nat.le_of_ble_eq_true rfl)) dX6_takeFigure_42 ⟨Nat.zero_le _, Nat.zero_le _⟩) (fun σ17 H locs h w => ?_)
          refine lv_aload_n X.1 X.2.1 dX6_takeFigure_45 rfl (lv_at hl 2 rfl) ?_
          refine lv_iload X.1 X.2.1 dX6_takeFigure_46 (lv_at hl 0 rfl) ?_
          refine tw_cv w (va_runV (As := [.int (0 : Int32)]) (rest := []) X (ct_X6_passIf l D g hT _ σ17 a0 h0 (0 : Int32) _ h) (cwV 1 X.2.2.2.2 gX6_takeFigure_X6_passIf rfl rfl rfl (by decide +kernel) ⟨Nat.le_of_ble_eq_true rfl, Nat.le_of_ble_eq_true rfl⟩) (tw_preV hK w h0 (by decide) rfl [.int (0 : Int32)]) rfl rfl hl.1 rfl (lv_room (Nat.le_of_ble_eq_true rfl)) dX6_takeFigure_48 ⟨Nat.zero_le _, Nat.zero_le _⟩) (fun σ18 H locs h w => ?_)
          refine lv_iload_n X.1 X.2.1 dX6_takeFigure_51 rfl (lv_at hl 1 rfl) ?_
          exact tw_iret X hr hlk w h dX6_takeFigure_52
        · have h := h.2 c16
          refine lv_iload_n X.1 X.2.1 dX6_takeFigure_35 rfl (lv_at hl 1 rfl) ?_
          refine lv_iload_n X.1 X.2.1 dX6_takeFigure_36 rfl (lv_at hl 4 rfl) ?_
          refine lv_icmp_le (tgt := 45) X.1 X.2.1 dX6_takeFigure_37 (by decide) (fun c19 => ?_) (fun c19 => ?_)
          · have h := h.1 c19
            refine lv_aload_n X.1 X.2.1 dX6_takeFigure_45 rfl (lv_at hl 2 rfl) ?_
            refine lv_iload X.1 X.2.1 dX6_takeFigure_46 (lv_at hl 0 rfl) ?_
            refine tw_cv w (va_runV (As := [.int (0 : Int32)]) (rest := []) X (ct_X6_passIf l D g hT _ σ1 a0 h0 (0 : Int32) _ h) (cwV 1 X.2.2.2.2 gX6_takeFigure_X6_passIf rfl rfl rfl (by decide +kernel) ⟨Nat.le_of_ble_eq_true rfl, Nat.le_of_ble_eq_true rfl⟩) (tw_preV hK w h0 (by decide) rfl [.int (0 : Int32)]) rfl rfl hl.1 rfl (lv_room (Nat.le_of_ble_eq_true rfl)) dX6_takeFigure_48 ⟨Nat.zero_le _, Nat.zero_le _⟩) (fun σ20 H locs h w => ?_)
            refine lv_iload_n X.1 X.2.1 dX6_takeFigure_51 rfl (lv_at hl 1 rfl) ?_
            exact tw_iret X hr hlk w h dX6_takeFigure_52
          · have h := h.2 c19
            refine lv_aload_n X.1 X.2.1 dX6_takeFigure_40 rfl (lv_at hl 2 rfl) ?_
            refine lv_iconst (v := 2) X.1 X.2.1 dX6_takeFigure_41 (by decide) ?_
            refine tw_cv w (va_runV (As := [.int (2 : Int32)]) (rest := []) X (ct_X6_blame l D g hT _ σ1 a0 h0 (2 : Int32) _ h) (cwV 1 X.2.2.2.2 gX6_takeFigure_X6_blame rfl rfl rfl (by decide +kernel) ⟨Nat.le_of_ble_eq_true rfl, Nat.le_of_ble_eq_true rfl⟩) (tw_preV hK w h0 (by decide) rfl [.int (2 : Int32)]) rfl rfl hl.1 rfl (lv_room (Nat.le_of_ble_eq_true rfl)) dX6_takeFigure_42 ⟨Nat.zero_le _, Nat.zero_le _⟩) (fun σ21 H locs h w => ?_)
            refine lv_aload_n X.1 X.2.1 dX6_takeFigure_45 rfl (lv_at hl 2 rfl) ?_
            refine lv_iload X.1 X.2.1 dX6_takeFigure_46 (lv_at hl 0 rfl) ?_
            refine tw_cv w (va_runV (As := [.int (0 : Int32)]) (rest := []) X (ct_X6_passIf l D g hT _ σ21 a0 h0 (0 : Int32) _ h) (cwV 1 X.2.2.2.2 gX6_takeFigure_X6_passIf rfl rfl rfl (by decide +kernel) ⟨Nat.le_of_ble_eq_true rfl, Nat.le_of_ble_eq_true rfl⟩) (tw_preV hK w h0 (by decide) rfl [.int (0 : Int32)]) rfl rfl hl.1 rfl (lv_room (Nat.le_of_ble_eq_true rfl)) dX6_takeFigure_48 ⟨Nat.zero_le _, Nat.zero_le _⟩) (fun σ22 H locs h w => ?_)
            refine lv_iload_n X.1 X.2.1 dX6_takeFigure_51 rfl (lv_at hl 1 rfl) ?_
            exact tw_iret X hr hlk w h dX6_takeFigure_52
    · have h := h.2 c13
      refine lv_iconst (v := 1) X.1 X.2.1 dX6_takeFigure_18 (by decide) ?_
      refine lv_goto (tgt := 23) X.1 X.2.1 dX6_takeFigure_19 (by decide) ?_
      refine lv_istore (lv' := [(4, .int (1 : Int32)), (3, .int (r2 - (48 : Int32))), (0, .ref a0), (1, .int x1), (2, .int x2)]) X.1 X.2.1 dX6_takeFigure_23 hl (by decide) rfl (fun ls hl => ?_)
      refine lv_iload X.1 X.2.1 dX6_takeFigure_25 (lv_at hl 0 rfl) ?_
      refine lv_if_eq (tgt := 45) X.1 X.2.1 dX6_takeFigure_27 (by decide) (fun c23 => ?_) (fun c23 => ?_)
      · have h := h.1 c23
        refine lv_aload_n X.1 X.2.1 dX6_takeFigure_45 rfl (lv_at hl 2 rfl) ?_
        refine lv_iload X.1 X.2.1 dX6_takeFigure_46 (lv_at hl 0 rfl) ?_
        refine tw_cv w (va_runV (As := [.int (1 : Int32)]) (rest := []) X (ct_X6_passIf l D g hT _ σ1 a0 h0 (1 : Int32) _ h) (cwV 1 X.2.2.2.2 gX6_takeFigure_X6_passIf rfl rfl rfl (by decide +kernel) ⟨Nat.le_of_ble_eq_true rfl, Nat.le_of_ble_eq_true rfl⟩) (tw_preV hK w h0 (by decide) rfl [.int (1 : Int32)]) rfl rfl hl.1 rfl (lv_room (Nat.le_of_ble_eq_true rfl)) dX6_takeFigure_48 ⟨Nat.zero_le _, Nat.zero_le _⟩) (fun σ24 H locs h w => ?_)
        refine lv_iload_n X.1 X.2.1 dX6_takeFigure_51 rfl (lv_at hl 1 rfl) ?_
        exact tw_iret X hr hlk w h dX6_takeFigure_52
      · have h := h.2 c23
        refine lv_iload_n X.1 X.2.1 dX6_takeFigure_30 rfl (lv_at hl 1 rfl) ?_
        refine lv_iload_n X.1 X.2.1 dX6_takeFigure_31 rfl (lv_at hl 3 rfl) ?_
        refine lv_icmp_lt (tgt := 40) X.1 X.2.1 dX6_takeFigure_32 (by decide) (fun c25 => ?_) (fun c25 => ?_)
        · have h := h.1 c25
          refine lv_aload_n X.1 X.2.1 dX6_takeFigure_40 rfl (lv_at hl 2 rfl) ?_
          refine lv_iconst (v := 2) X.1 X.2.1 dX6_takeFigure_41 (by decide) ?_
          refine tw_cv w (va_runV (As := [.int (2 : Int32)]) (rest := []) X (ct_X6_blame l D g hT _ σ1 a0 h0 (2 : Int32) _ h) (cwV 1 X.2.2.2.2 gX6_takeFigure_X6_blame rfl rfl rfl (by decide +kernel) ⟨Nat.le_of_ble_eq_true rfl, Nat.le_of_ble_eq_true rfl⟩) (tw_preV hK w h0 (by decide) rfl [.int (2 : Int32)]) rfl rfl hl.1 rfl (lv_room (Nat.le_of_ble_eq_true rfl)) dX6_takeFigure_42 ⟨Nat.zero_le _, Nat.zero_le _⟩) (fun σ26 H locs h w => ?_)
          refine lv_aload_n X.1 X.2.1 dX6_takeFigure_45 rfl (lv_at hl 2 rfl) ?_
          refine lv_iload X.1 X.2.1 dX6_takeFigure_46 (lv_at hl 0 rfl) ?_
          refine tw_cv w (va_runV (As := [.int (1 : Int32)]) (rest := []) X (ct_X6_passIf l D g hT _ σ26 a0 h0 (1 : Int32) _ h) (cwV 1 X.2.2.2.2 gX6_takeFigure_X6_passIf rfl rfl rfl (by decide +kernel) ⟨Nat.le_of_ble_eq_true rfl, Nat.le_of_ble_eq_true rfl⟩) (tw_preV hK w h0 (by decide) rfl [.int (1 : Int32)]) rfl rfl hl.1 rfl (lv_room (Nat.le_of_ble_eq_true rfl)) dX6_takeFigure_48 ⟨Nat.zero_le _, Nat.zero_le _⟩) (fun σ27 H locs h w => ?_)
          refine lv_iload_n X.1 X.2.1 dX6_takeFigure_51 rfl (lv_at hl 1 rfl) ?_
          exact tw_iret X hr hlk w h dX6_takeFigure_52
        · have h := h.2 c25
          refine lv_iload_n X.1 X.2.1 dX6_takeFigure_35 rfl (lv_at hl 1 rfl) ?_
          refine lv_iload_n X.1 X.2.1 dX6_takeFigure_36 rfl (lv_at hl 4 rfl) ?_
          refine lv_icmp_le (tgt := 45) X.1 X.2.1 dX6_takeFigure_37 (by decide) (fun c28 => ?_) (fun c28 => ?_)
          · have h := h.1 c28
            refine lv_aload_n X.1 X.2.1 dX6_takeFigure_45 rfl (lv_at hl 2 rfl) ?_
            refine lv_iload X.1 X.2.1 dX6_takeFigure_46 (lv_at hl 0 rfl) ?_
            refine tw_cv w (va_runV (As := [.int (1 : Int32)]) (rest := []) X (ct_X6_passIf l D g hT _ σ1 a0 h0 (1 : Int32) _ h) (cwV 1 X.2.2.2.2 gX6_takeFigure_X6_passIf rfl rfl rfl (by decide +kernel) ⟨Nat.le_of_ble_eq_true rfl, Nat.le_of_ble_eq_true rfl⟩) (tw_preV hK w h0 (by decide) rfl [.int (1 : Int32)]) rfl rfl hl.1 rfl (lv_room (Nat.le_of_ble_eq_true rfl)) dX6_takeFigure_48 ⟨Nat.zero_le _, Nat.zero_le _⟩) (fun σ29 H locs h w => ?_)
            refine lv_iload_n X.1 X.2.1 dX6_takeFigure_51 rfl (lv_at hl 1 rfl) ?_
            exact tw_iret X hr hlk w h dX6_takeFigure_52
          · have h := h.2 c28
            refine lv_aload_n X.1 X.2.1 dX6_takeFigure_40 rfl (lv_at hl 2 rfl) ?_
            refine lv_iconst (v := 2) X.1 X.2.1 dX6_takeFigure_41 (by decide) ?_
            refine tw_cv w (va_runV (As := [.int (2 : Int32)]) (rest := []) X (ct_X6_blame l D g hT _ σ1 a0 h0 (2 : Int32) _ h) (cwV 1 X.2.2.2.2 gX6_takeFigure_X6_blame rfl rfl rfl (by decide +kernel) ⟨Nat.le_of_ble_eq_true rfl, Nat.le_of_ble_eq_true rfl⟩) (tw_preV hK w h0 (by decide) rfl [.int (2 : Int32)]) rfl rfl hl.1 rfl (lv_room (Nat.le_of_ble_eq_true rfl)) dX6_takeFigure_42 ⟨Nat.zero_le _, Nat.zero_le _⟩) (fun σ30 H locs h w => ?_)
            refine lv_aload_n X.1 X.2.1 dX6_takeFigure_45 rfl (lv_at hl 2 rfl) ?_
            refine lv_iload X.1 X.2.1 dX6_takeFigure_46 (lv_at hl 0 rfl) ?_
            refine tw_cv w (va_runV (As := [.int (1 : Int32)]) (rest := []) X (ct_X6_passIf l D g hT _ σ30 a0 h0 (1 : Int32) _ h) (cwV 1 X.2.2.2.2 gX6_takeFigure_X6_passIf rfl rfl rfl (by decide +kernel) ⟨Nat.le_of_ble_eq_true rfl, Nat.le_of_ble_eq_true rfl⟩) (tw_preV hK w h0 (by decide) rfl [.int (1 : Int32)]) rfl rfl hl.1 rfl (lv_room (Nat.le_of_ble_eq_true rfl)) dX6_takeFigure_48 ⟨Nat.zero_le _, Nat.zero_le _⟩) (fun σ31 H locs h w => ?_)
            refine lv_iload_n X.1 X.2.1 dX6_takeFigure_51 rfl (lv_at hl 1 rfl) ?_
            exact tw_iret X hr hlk w h dX6_takeFigure_52

abbrev RM_X6_readSize : Room := { frames := 3, cells := 0, slots := 0, locals := 66 }
theorem iw_X6_readSize_6 : ∀ w ∈ wsX60, w ∈ wsX6_readSize := fun w h => List.mem_cons_of_mem _ (List.mem_append_left _ (List.mem_append_right _ (h)))
def wp_X6_readSize (g : tw_G) (σ : tw_S) (a0 : Nat) (a1 : Nat) (Q : tw_S → Prop) : Prop := wp_X6_takeLetter g σ a0 (113 : Int32) (fun σ1 => wp_X6_takeFigure g σ1 a0 (1 : Int32) (4 : Int32) (fun r3 σ2 => wp_X6_takeLetter g σ2 a0 (59 : Int32) (fun σ4 => ((¬ (tw_I σ4 a0 3) = 0) → Q σ4) ∧ (((tw_I σ4 a0 3) = 0) → wp_X3_empty g σ4 a1 r3 (fun σ6 => Q σ6)))))
set_option maxHeartbeats 4000000 in
set_option maxRecDepth 100000 in
theorem ct_X6_readSize (l : Launch) (D : va_G) (g : tw_G) (hT : tw_T g) (sz : Nat) (σ : tw_S) (a0 : Nat) (h0 : tw_is g 6 a0) (a1 : Nat) (h1 : tw_is g 3 a1) (Q : tw_S → Prop) (h : wp_X6_readSize g σ a0 a1 Q) : tw_Mv l yX6_readSize wsX6_readSize RM_X6_readSize D g sz σ [.ref a0, .ref a1] Q := by
  refine Met.ofW (cc := cX6_readSize) (maxL := 3) (ret := none) (by decide) rfl ?_
  intro p e s m args below meth c s₁ B hml hv
  obtain ⟨rfl, hsz, hP, hK, hD0⟩ := hv
  subst hsz
  have hr := B.returns
  have hlk := B.notSynchronized
  have X : CallFix p m c cX6_readSize 3 s _ wsX6_readSize RX6 := ⟨B.exec, B.bytes, hml, findClass_of_methodNamed B.named, atoms_spec (ws := wsX6_readSize) B.pre⟩
  have w := tw_w0 hP hD0
  have hl := lv_entry ([.ref a0, .ref a1]) (n := 3) (Nat.le_of_ble_eq_true rfl)
  rw [lg_entry_eq]
  generalize (lg_sl ([.ref a0, .ref a1]) ++ List.replicate (3 - (lg_sl ([.ref a0, .ref a1])).length) Slot.unset).toArray = ls at hl ⊢
  have hl : lv_has ls 3 [(0, .ref a0), (1, .ref a1)] := hl
  unfold wp_X6_readSize at h
  refine lv_aload_n X.1 X.2.1 dX6_readSize_0 rfl (lv_at hl 0 rfl) ?_
  refine lv_bipush (v := 113) X.1 X.2.1 dX6_readSize_1 (by decide) ?_
  refine tw_cv w (va_runV (As := [.int (113 : Int32)]) (rest := []) X (ct_X6_takeLetter l D g hT _ σ a0 h0 (113 : Int32) _ h) (cwV 1 X.2.2.2.2 gX6_readSize_X6_takeLetter rfl rfl rfl (by decide +kernel) ⟨Nat.le_of_ble_eq_true rfl, Nat.le_of_ble_eq_true rfl⟩) (tw_preV hK w h0 (by decide) rfl [.int (113 : Int32)]) rfl rfl hl.1 rfl (lv_room (Nat.le_of_ble_eq_true rfl)) dX6_readSize_3 ⟨Nat.zero_le _, Nat.zero_le _⟩) (fun σ1 H locs h w => ?_)
  refine lv_aload_n X.1 X.2.1 dX6_readSize_6 rfl (lv_at hl 0 rfl) ?_
  refine lv_iconst (v := 1) X.1 X.2.1 dX6_readSize_7 (by decide) ?_
  refine lv_iconst (v := 4) X.1 X.2.1 dX6_readSize_8 (by decide) ?_
  refine tw_ci w (va_runV (As := [.int (1 : Int32), .int (4 : Int32)]) (rest := []) X (ct_X6_takeFigure l D g hT _ σ1 a0 h0 (1 : Int32) (4 : Int32) _ h) (cwV 2 X.2.2.2.2 gX6_readSize_X6_takeFigure rfl rfl rfl (by decide +kernel) ⟨Nat.le_of_ble_eq_true rfl, Nat.le_of_ble_eq_true rfl⟩) (tw_preV hK w h0 (by decide) rfl [.int (1 : Int32), .int (4 : Int32)]) rfl rfl hl.1 rfl (lv_room (Nat.le_of_ble_eq_true rfl)) dX6_readSize_9 ⟨Nat.zero_le _, Nat.zero_le _⟩) (fun r3 σ2 H locs h w => ?_)
  refine lv_istore_n (lv' := [(2, .int r3), (0, .ref a0), (1, .ref a1)]) X.1 X.2.1 dX6_readSize_12 rfl hl (by decide) rfl (fun ls hl => ?_)
  refine lv_aload_n X.1 X.2.1 dX6_readSize_13 rfl (lv_at hl 1 rfl) ?_
  refine lv_bipush (v := 59) X.1 X.2.1 dX6_readSize_14 (by decide) ?_
  refine tw_cv w (va_runV (As := [.int (59 : Int32)]) (rest := []) X (ct_X6_takeLetter l D g hT _ σ2 a0 h0 (59 : Int32) _ h) (cwV 1 X.2.2.2.2 gX6_readSize_X6_takeLetter rfl rfl rfl (by decide +kernel) ⟨Nat.le_of_ble_eq_true rfl, Nat.le_of_ble_eq_true rfl⟩) (tw_preV hK w h0 (by decide) rfl [.int (59 : Int32)]) rfl rfl hl.1 rfl (lv_room (Nat.le_of_ble_eq_true rfl)) dX6_readSize_16 ⟨Nat.zero_le _, Nat.zero_le _⟩) (fun σ4 H locs h w => ?_)
  refine lv_aload_n X.1 X.2.1 dX6_readSize_19 rfl (lv_at hl 1 rfl) ?_
  refine tw_get X hK w 6 iw_X6_readSize_6 h0 (by decide) rfl 3 (by decide) (List.mem_of_getElem? (i := 1) rfl) rfl dX6_readSize_20 ?_
  refine lv_if_ne (tgt := 31) X.1 X.2.1 dX6_readSize_23 (by decide) (fun c5 => ?_) (fun c5 => ?_)
  · have h := h.1 c5
    exact tw_vret X hr hlk w h dX6_readSize_31
  · have h := h.2 c5
    refine lv_aload_n X.1 X.2.1 dX6_readSize_26 rfl (lv_at hl 2 rfl) ?_
    refine lv_iload_n X.1 X.2.1 dX6_readSize_27 rfl (lv_at hl 0 rfl) ?_
    refine tw_cv w (va_runV (As := [.int r3]) (rest := []) X (ct_X3_empty l D g hT _ σ4 a1 h1 r3 _ h) (cwV 1 X.2.2.2.2 gX6_readSize_X3_empty rfl rfl rfl (by decide +kernel) ⟨Nat.le_of_ble_eq_true rfl, Nat.le_of_ble_eq_true rfl⟩) (tw_preV hK w h1 (by decide) rfl [.int r3]) rfl rfl hl.1 rfl (lv_room (Nat.le_of_ble_eq_true rfl)) dX6_readSize_28 ⟨Nat.zero_le _, Nat.zero_le _⟩) (fun σ6 H locs h w => ?_)
    exact tw_vret X hr hlk w h dX6_readSize_31

abbrev RM_X6_signOf : Room := { frames := 0, cells := 0, slots := 0, locals := 0 }
def wp_X6_signOf (g : tw_G) (σ : tw_S) (x0 : Int32) (Q : Int32 → tw_S → Prop) : Prop := (x0 = 40 → Q (2 : Int32) σ) ∧ (¬ x0 = 40 → (x0 = 41 → Q (3 : Int32) σ) ∧ (¬ x0 = 41 → (x0 = 97 → Q (0 : Int32) σ) ∧ (¬ x0 = 97 → (x0 = 98 → Q (1 : Int32) σ) ∧ (¬ x0 = 98 → Q (-1 : Int32) σ))))
set_option maxHeartbeats 4000000 in
set_option maxRecDepth 100000 in
theorem ct_X6_signOf (l : Launch) (D : va_G) (g : tw_G) (hT : tw_T g) (sz : Nat) (σ : tw_S) (x0 : Int32) (Q : Int32 → tw_S → Prop) (h : wp_X6_signOf g σ x0 Q) : tw_Mi l yX6_signOf wsX6_signOf RM_X6_signOf D g sz σ [.int x0] Q := by
  refine Met.ofW (cc := cX6_signOf) (maxL := 1) (ret := (some .int)) (by decide) rfl ?_
  intro p e s m args below meth c s₁ B hml hv
  obtain ⟨rfl, hsz, hP, hK, hD0⟩ := hv
  subst hsz
  have hr := B.returns
  have hlk := B.notSynchronized
  have X : CallFix p m c cX6_signOf 1 s _ wsX6_signOf RX6 := ⟨B.exec, B.bytes, hml, findClass_of_methodNamed B.named, atoms_spec (ws := wsX6_signOf) B.pre⟩
  have w := tw_w0 hP hD0
  have hl := lv_entry ([.int x0]) (n := 1) (Nat.le_of_ble_eq_true rfl)
  rw [lg_entry_eq]
  generalize (lg_sl ([.int x0]) ++ List.replicate (1 - (lg_sl ([.int x0])).length) Slot.unset).toArray = ls at hl ⊢
  have hl : lv_has ls 1 [(0, .int x0)] := hl
  unfold wp_X6_signOf at h
  refine lv_iload_n X.1 X.2.1 dX6_signOf_0 rfl (lv_at hl 0 rfl) ?_
  by_cases c1 : x0 = 40
  · have h := h.1 c1
    refine lv_lookup (off := 47) (tgt := 48) X.1 X.2.1 dX6_signOf_1 (by decide) (by rw [c1] <;> decide) (by decide) ?_
    refine lv_iconst (v := 2) X.1 X.2.1 dX6_signOf_48 (by decide) ?_
    exact tw_iret X hr hlk w h dX6_signOf_49
  · have h := h.2 c1
    by_cases c2 : x0 = 41
    · have h := h.1 c2
      refine lv_lookup (off := 49) (tgt := 50) X.1 X.2.1 dX6_signOf_1 (by decide) (by rw [c2] <;> decide) (by decide) ?_
      refine lv_iconst (v := 3) X.1 X.2.1 dX6_signOf_50 (by decide) ?_
      exact tw_iret X hr hlk w h dX6_signOf_51
    · have h := h.2 c2
      by_cases c3 : x0 = 97
      · have h := h.1 c3
        refine lv_lookup (off := 43) (tgt := 44) X.1 X.2.1 dX6_signOf_1 (by decide) (by rw [c3] <;> decide) (by decide) ?_
        refine lv_iconst (v := 0) X.1 X.2.1 dX6_signOf_44 (by decide) ?_
        exact tw_iret X hr hlk w h dX6_signOf_45
      · have h := h.2 c3
        by_cases c4 : x0 = 98
        · have h := h.1 c4
          refine lv_lookup (off := 45) (tgt := 46) X.1 X.2.1 dX6_signOf_1 (by decide) (by rw [c4] <;> decide) (by decide) ?_
          refine lv_iconst (v := 1) X.1 X.2.1 dX6_signOf_46 (by decide) ?_
          exact tw_iret X hr hlk w h dX6_signOf_47
        · have h := h.2 c4
          refine lv_lookup (off := 51) (tgt := 52) X.1 X.2.1 dX6_signOf_1 (by decide) ((lv_osw c1 rfl).trans ((lv_osw c2 rfl).trans ((lv_osw c3 rfl).trans ((lv_osw c4 rfl).trans (rfl))))) (by decide) ?_
          refine lv_iconst (v := -1) X.1 X.2.1 dX6_signOf_52 (by decide) ?_
          exact tw_iret X hr hlk w h dX6_signOf_53

abbrev RM_X6_takeSign : Room := { frames := 2, cells := 0, slots := 0, locals := 42 }
def wp_X6_takeSign (g : tw_G) (σ : tw_S) (a0 : Nat) (a1 : Nat) (x2 : Int32) (Q : Int32 → tw_S → Prop) : Prop := wp_X6_upcoming g σ a0 (fun r2 σ1 => wp_X6_signOf g σ1 r2 (fun r4 σ3 => wp_X3_at g σ3 a1 x2 r4 (fun r6 σ5 => ((r6 = (-1 : Int32)) → ((r4 = (-1 : Int32)) → wp_X6_passIf g σ5 a0 (0 : Int32) (fun σ9 => Q r4 σ9)) ∧ (¬ (r4 = (-1 : Int32)) → wp_X6_passIf g σ5 a0 (1 : Int32) (fun σ10 => Q r4 σ10))) ∧ (¬ (r6 = (-1 : Int32)) → wp_X6_blame g σ5 a0 (4 : Int32) (fun σ11 => ((r4 = (-1 : Int32)) → wp_X6_passIf g σ11 a0 (0 : Int32) (fun σ13 => Q r4 σ13)) ∧ (¬ (r4 = (-1 : Int32)) → wp_X6_passIf g σ11 a0 (1 : Int32) (fun σ14 => Q r4 σ14)))))))
set_option maxHeartbeats 4000000 in
set_option maxRecDepth 100000 in
theorem ct_X6_takeSign (l : Launch) (D : va_G) (g : tw_G) (hT : tw_T g) (sz : Nat) (σ : tw_S) (a0 : Nat) (h0 : tw_is g 6 a0) (a1 : Nat) (h1 : tw_is g 3 a1) (x2 : Int32) (Q : Int32 → tw_S → Prop) (h : wp_X6_takeSign g σ a0 a1 x2 Q) : tw_Mi l yX6_takeSign wsX6_takeSign RM_X6_takeSign D g sz σ [.ref a0, .ref a1, .int x2] Q := by
  refine Met.ofW (cc := cX6_takeSign) (maxL := 4) (ret := (some .int)) (by decide) rfl ?_
  intro p e s m args below meth c s₁ B hml hv
  obtain ⟨rfl, hsz, hP, hK, hD0⟩ := hv
  subst hsz
  have hr := B.returns
  have hlk := B.notSynchronized
  have X : CallFix p m c cX6_takeSign 4 s _ wsX6_takeSign RX6 := ⟨B.exec, B.bytes, hml, findClass_of_methodNamed B.named, atoms_spec (ws := wsX6_takeSign) B.pre⟩
  have w := tw_w0 hP hD0
  have hl := lv_entry ([.ref a0, .ref a1, .int x2]) (n := 4) (Nat.le_of_ble_eq_true rfl)
  rw [lg_entry_eq]
  generalize (lg_sl ([.ref a0, .ref a1, .int x2]) ++ List.replicate (4 - (lg_sl ([.ref a0, .ref a1, .int x2])).length) Slot.unset).toArray = ls at hl ⊢
  have hl : lv_has ls 4 [(0, .ref a0), (1, .ref a1), (2, .int x2)] := hl
  unfold wp_X6_takeSign at h
  refine lv_aload_n X.1 X.2.1 dX6_takeSign_0 rfl (lv_at hl 0 rfl) ?_
  refine tw_ci w (va_runV (As := []) (rest := []) X (ct_X6_upcoming l D g hT _ σ a0 h0 _ h) (cwV 0 X.2.2.2.2 gX6_takeSign_X6_upcoming rfl rfl rfl (by decide +kernel) ⟨Nat.le_of_ble_eq_true rfl, Nat.le_of_ble_eq_true rfl⟩) (tw_preV hK w h0 (by decide) rfl []) rfl rfl hl.1 rfl (lv_room (Nat.le_of_ble_eq_true rfl)) dX6_takeSign_1 ⟨Nat.zero_le _, Nat.zero_le _⟩) (fun r2 σ1 H locs h w => ?_)
  refine tw_ci w (va_runS (As := [.int r2]) (rest := []) X (ct_X6_signOf l D g hT _ σ1 r2 _ h) (va_cwS 1 X.2.2.2.2 gX6_takeSign_X6_signOf rfl rfl rfl (by decide +kernel) ⟨Nat.le_of_ble_eq_true rfl, Nat.le_of_ble_eq_true rfl⟩) (tw_pre hK w [.int r2]) rfl rfl hl.1 rfl (lv_room (Nat.le_of_ble_eq_true rfl)) dX6_takeSign_4 ⟨Nat.zero_le _, Nat.zero_le _⟩) (fun r4 σ3 H locs h w => ?_)
  refine lv_istore_n (lv' := [(3, .int r4), (0, .ref a0), (1, .ref a1), (2, .int x2)]) X.1 X.2.1 dX6_takeSign_7 rfl hl (by decide) rfl (fun ls hl => ?_)
  refine lv_aload_n X.1 X.2.1 dX6_takeSign_8 rfl (lv_at hl 2 rfl) ?_
  refine lv_iload_n X.1 X.2.1 dX6_takeSign_9 rfl (lv_at hl 3 rfl) ?_
  refine lv_iload_n X.1 X.2.1 dX6_takeSign_10 rfl (lv_at hl 0 rfl) ?_
  refine tw_ci w (va_runV (As := [.int x2, .int r4]) (rest := []) X (ct_X3_at l D g hT _ σ3 a1 h1 x2 r4 _ h) (cwV 2 X.2.2.2.2 gX6_takeSign_X3_at rfl rfl rfl (by decide +kernel) ⟨Nat.le_of_ble_eq_true rfl, Nat.le_of_ble_eq_true rfl⟩) (tw_preV hK w h1 (by decide) rfl [.int x2, .int r4]) rfl rfl hl.1 rfl (lv_room (Nat.le_of_ble_eq_true rfl)) dX6_takeSign_11 ⟨Nat.zero_le _, Nat.zero_le _⟩) (fun r6 σ5 H locs h w => ?_)
  refine lv_iconst (v := -1) X.1 X.2.1 dX6_takeSign_14 (by decide) ?_
  refine lv_icmp_eq (tgt := 23) X.1 X.2.1 dX6_takeSign_15 (by decide) (fun c7 => ?_) (fun c7 => ?_)
  · have h := h.1 c7
    refine lv_aload_n X.1 X.2.1 dX6_takeSign_23 rfl (lv_at hl 1 rfl) ?_
    refine lv_iload_n X.1 X.2.1 dX6_takeSign_24 rfl (lv_at hl 0 rfl) ?_
    refine lv_iconst (v := -1) X.1 X.2.1 dX6_takeSign_25 (by decide) ?_
    refine lv_icmp_eq (tgt := 33) X.1 X.2.1 dX6_takeSign_26 (by decide) (fun c8 => ?_) (fun c8 => ?_)
    · have h := h.1 c8
      refine lv_iconst (v := 0) X.1 X.2.1 dX6_takeSign_33 (by decide) ?_
      refine tw_cv w (va_runV (As := [.int (0 : Int32)]) (rest := []) X (ct_X6_passIf l D g hT _ σ5 a0 h0 (0 : Int32) _ h) (cwV 1 X.2.2.2.2 gX6_takeSign_X6_passIf rfl rfl rfl (by decide +kernel) ⟨Nat.le_of_ble_eq_true rfl, Nat.le_of_ble_eq_true rfl⟩) (tw_preV hK w h0 (by decide) rfl [.int (0 : Int32)]) rfl rfl hl.1 rfl (lv_room (Nat.le_of_ble_eq_true rfl)) dX6_takeSign_34 ⟨Nat.zero_le _, Nat.zero_le _⟩) (fun σ9 H locs h w => ?_)
      refine lv_iload_n X.1 X.2.1 dX6_takeSign_37 rfl (lv_at hl 0 rfl) ?_
      exact tw_iret X hr hlk w h dX6_takeSign_38
    · have h := h.2 c8
      refine lv_iconst (v := 1) X.1 X.2.1 dX6_takeSign_29 (by decide) ?_
      refine lv_goto (tgt := 34) X.1 X.2.1 dX6_takeSign_30 (by decide) ?_
      refine tw_cv w (va_runV (As := [.int (1 : Int32)]) (rest := []) X (ct_X6_passIf l D g hT _ σ5 a0 h0 (1 : Int32) _ h) (cwV 1 X.2.2.2.2 gX6_takeSign_X6_passIf rfl rfl rfl (by decide +kernel) ⟨Nat.le_of_ble_eq_true rfl, Nat.le_of_ble_eq_true rfl⟩) (tw_preV hK w h0 (by decide) rfl [.int (1 : Int32)]) rfl rfl hl.1 rfl (lv_room (Nat.le_of_ble_eq_true rfl)) dX6_takeSign_34 ⟨Nat.zero_le _, Nat.zero_le _⟩) (fun σ10 H locs h w => ?_)
      refine lv_iload_n X.1 X.2.1 dX6_takeSign_37 rfl (lv_at hl 0 rfl) ?_
      exact tw_iret X hr hlk w h dX6_takeSign_38
  · have h := h.2 c7
    refine lv_aload_n X.1 X.2.1 dX6_takeSign_18 rfl (lv_at hl 1 rfl) ?_
    refine lv_iconst (v := 4) X.1 X.2.1 dX6_takeSign_19 (by decide) ?_
    refine tw_cv w (va_runV (As := [.int (4 : Int32)]) (rest := []) X (ct_X6_blame l D g hT _ σ5 a0 h0 (4 : Int32) _ h) (cwV 1 X.2.2.2.2 gX6_takeSign_X6_blame rfl rfl rfl (by decide +kernel) ⟨Nat.le_of_ble_eq_true rfl, Nat.le_of_ble_eq_true rfl⟩) (tw_preV hK w h0 (by decide) rfl [.int (4 : Int32)]) rfl rfl hl.1 rfl (lv_room (Nat.le_of_ble_eq_true rfl)) dX6_takeSign_20 ⟨Nat.zero_le _, Nat.zero_le _⟩) (fun σ11 H locs h w => ?_)
    refine lv_aload_n X.1 X.2.1 dX6_takeSign_23 rfl (lv_at hl 1 rfl) ?_
    refine lv_iload_n X.1 X.2.1 dX6_takeSign_24 rfl (lv_at hl 0 rfl) ?_
    refine lv_iconst (v := -1) X.1 X.2.1 dX6_takeSign_25 (by decide) ?_
    refine lv_icmp_eq (tgt := 33) X.1 X.2.1 dX6_takeSign_26 (by decide) (fun c12 => ?_) (fun c12 => ?_)
    · have h := h.1 c12
      refine lv_iconst (v := 0) X.1 X.2.1 dX6_takeSign_33 (by decide) ?_
      refine tw_cv w (va_runV (As := [.int (0 : Int32)]) (rest := []) X (ct_X6_passIf l D g hT _ σ11 a0 h0 (0 : Int32) _ h) (cwV 1 X.2.2.2.2 gX6_takeSign_X6_passIf rfl rfl rfl (by decide +kernel) ⟨Nat.le_of_ble_eq_true rfl, Nat.le_of_ble_eq_true rfl⟩) (tw_preV hK w h0 (by decide) rfl [.int (0 : Int32)]) rfl rfl hl.1 rfl (lv_room (Nat.le_of_ble_eq_true rfl)) dX6_takeSign_34 ⟨Nat.zero_le _, Nat.zero_le _⟩) (fun σ13 H locs h w => ?_)
      refine lv_iload_n X.1 X.2.1 dX6_takeSign_37 rfl (lv_at hl 0 rfl) ?_
      exact tw_iret X hr hlk w h dX6_takeSign_38
    · have h := h.2 c12
      refine lv_iconst (v := 1) X.1 X.2.1 dX6_takeSign_29 (by decide) ?_
      refine lv_goto (tgt := 34) X.1 X.2.1 dX6_takeSign_30 (by decide) ?_
      refine tw_cv w (va_runV (As := [.int (1 : Int32)]) (rest := []) X (ct_X6_passIf l D g hT _ σ11 a0 h0 (1 : Int32) _ h) (cwV 1 X.2.2.2.2 gX6_takeSign_X6_passIf rfl rfl rfl (by decide +kernel) ⟨Nat.le_of_ble_eq_true rfl, Nat.le_of_ble_eq_true rfl⟩) (tw_preV hK w h0 (by decide) rfl [.int (1 : Int32)]) rfl rfl hl.1 rfl (lv_room (Nat.le_of_ble_eq_true rfl)) dX6_takeSign_34 ⟨Nat.zero_le _, Nat.zero_le _⟩) (fun σ14 H locs h w => ?_)
      refine lv_iload_n X.1 X.2.1 dX6_takeSign_37 rfl (lv_at hl 0 rfl) ?_
      exact tw_iret X hr hlk w h dX6_takeSign_38

abbrev RM_X6_takeSide : Room := { frames := 2, cells := 0, slots := 0, locals := 42 }
def wp_X6_takeSide (g : tw_G) (σ : tw_S) (a0 : Nat) (Q : Int32 → tw_S → Prop) : Prop := wp_X6_upcoming g σ a0 (fun r2 σ1 => ((r2 = (108 : Int32)) → wp_X6_passIf g σ1 a0 (1 : Int32) (fun σ4 => ((¬ r2 = (114 : Int32)) → Q (0 : Int32) σ4) ∧ ((r2 = (114 : Int32)) → Q (1 : Int32) σ4))) ∧ (¬ (r2 = (108 : Int32)) → ((¬ r2 = (114 : Int32)) → wp_X6_passIf g σ1 a0 (0 : Int32) (fun σ7 => ((¬ r2 = (114 : Int32)) → Q (0 : Int32) σ7) ∧ ((r2 = (114 : Int32)) → Q (1 : Int32) σ7))) ∧ ((r2 = (114 : Int32)) → wp_X6_passIf g σ1 a0 (1 : Int32) (fun σ9 => ((¬ r2 = (114 : Int32)) → Q (0 : Int32) σ9) ∧ ((r2 = (114 : Int32)) → Q (1 : Int32) σ9)))))
set_option maxHeartbeats 4000000 in
set_option maxRecDepth 100000 in
theorem ct_X6_takeSide (l : Launch) (D : va_G) (g : tw_G) (hT : tw_T g) (sz : Nat) (σ : tw_S) (a0 : Nat) (h0 : tw_is g 6 a0) (Q : Int32 → tw_S → Prop) (h : wp_X6_takeSide g σ a0 Q) : tw_Mi l yX6_takeSide wsX6_takeSide RM_X6_takeSide D g sz σ [.ref a0] Q := by
  refine Met.ofW (cc := cX6_takeSide) (maxL := 2) (ret := (some .int)) (by decide) rfl ?_
  intro p e s m args below meth c s₁ B hml hv
  obtain ⟨rfl, hsz, hP, hK, hD0⟩ := hv
  subst hsz
  have hr := B.returns
  have hlk := B.notSynchronized
  have X : CallFix p m c cX6_takeSide 2 s _ wsX6_takeSide RX6 := ⟨B.exec, B.bytes, hml, findClass_of_methodNamed B.named, atoms_spec (ws := wsX6_takeSide) B.pre⟩
  have w := tw_w0 hP hD0
  have hl := lv_entry ([.ref a0]) (n := 2) (Nat.le_of_ble_eq_true rfl)
  rw [lg_entry_eq]
  generalize (lg_sl ([.ref a0]) ++ List.replicate (2 - (lg_sl ([.ref a0])).length) Slot.unset).toArray = ls at hl ⊢
  have hl : lv_has ls 2 [(0, .ref a0)] := hl
  unfold wp_X6_takeSide at h
  refine lv_aload_n X.1 X.2.1 dX6_takeSide_0 rfl (lv_at hl 0 rfl) ?_
  refine tw_ci w (va_runV (As := []) (rest := []) X (ct_X6_upcoming l D g hT _ σ a0 h0 _ h) (cwV 0 X.2.2.2.2 gX6_takeSide_X6_upcoming rfl rfl rfl (by decide +kernel) ⟨Nat.le_of_ble_eq_true rfl, Nat.le_of_ble_eq_true rfl⟩) (tw_preV hK w h0 (by decide) rfl []) rfl rfl hl.1 rfl (lv_room (Nat.le_of_ble_eq_true rfl)) dX6_takeSide_1 ⟨Nat.zero_le _, Nat.zero_le _⟩) (fun r2 σ1 H locs h w => ?_)
  refine lv_istore_n (lv' := [(1, .int r2), (0, .ref a0)]) X.1 X.2.1 dX6_takeSide_4 rfl hl (by decide) rfl (fun ls hl => ?_)
  refine lv_aload_n X.1 X.2.1 dX6_takeSide_5 rfl (lv_at hl 1 rfl) ?_
  refine lv_iload_n X.1 X.2.1 dX6_takeSide_6 rfl (lv_at hl 0 rfl) ?_
  refine lv_bipush (v := 108) X.1 X.2.1 dX6_takeSide_7 (by decide) ?_
  refine lv_icmp_eq (tgt := 18) X.1 X.2.1 dX6_takeSide_9 (by decide) (fun c3 => ?_) (fun c3 => ?_)
  · have h := h.1 c3
    refine lv_iconst (v := 1) X.1 X.2.1 dX6_takeSide_18 (by decide) ?_
    refine lv_goto (tgt := 23) X.1 X.2.1 dX6_takeSide_19 (by decide) ?_
    refine tw_cv w (va_runV (As := [.int (1 : Int32)]) (rest := []) X (ct_X6_passIf l D g hT _ σ1 a0 h0 (1 : Int32) _ h) (cwV 1 X.2.2.2.2 gX6_takeSide_X6_passIf rfl rfl rfl (by decide +kernel) ⟨Nat.le_of_ble_eq_true rfl, Nat.le_of_ble_eq_true rfl⟩) (tw_preV hK w h0 (by decide) rfl [.int (1 : Int32)]) rfl rfl hl.1 rfl (lv_room (Nat.le_of_ble_eq_true rfl)) dX6_takeSide_23 ⟨Nat.zero_le _, Nat.zero_le _⟩) (fun σ4 H locs h w => ?_)
    refine lv_iload_n X.1 X.2.1 dX6_takeSide_26 rfl (lv_at hl 0 rfl) ?_
    refine lv_bipush (v := 114) X.1 X.2.1 dX6_takeSide_27 (by decide) ?_
    refine lv_icmp_ne (tgt := 36) X.1 X.2.1 dX6_takeSide_29 (by decide) (fun c5 => ?_) (fun c5 => ?_)
    · have h := h.1 c5
      refine lv_iconst (v := 0) X.1 X.2.1 dX6_takeSide_36 (by decide) ?_
      exact tw_iret X hr hlk w h dX6_takeSide_37
    · have h := h.2 c5
      refine lv_iconst (v := 1) X.1 X.2.1 dX6_takeSide_32 (by decide) ?_
      refine lv_goto (tgt := 37) X.1 X.2.1 dX6_takeSide_33 (by decide) ?_
      exact tw_iret X hr hlk w h dX6_takeSide_37
  · have h := h.2 c3
    refine lv_iload_n X.1 X.2.1 dX6_takeSide_12 rfl (lv_at hl 0 rfl) ?_
    refine lv_bipush (v := 114) X.1 X.2.1 dX6_takeSide_13 (by decide) ?_
    refine lv_icmp_ne (tgt := 22) X.1 X.2.1 dX6_takeSide_15 (by decide) (fun c6 => ?_) (fun c6 => ?_)
    · have h := h.1 c6
      refine lv_iconst (v := 0) X.1 X.2.1 dX6_takeSide_22 (by decide) ?_
      refine tw_cv w (va_runV (As := [.int (0 : Int32)]) (rest := []) X (ct_X6_passIf l D g hT _ σ1 a0 h0 (0 : Int32) _ h) (cwV 1 X.2.2.2.2 gX6_takeSide_X6_passIf rfl rfl rfl (by decide +kernel) ⟨Nat.le_of_ble_eq_true rfl, Nat.le_of_ble_eq_true rfl⟩) (tw_preV hK w h0 (by decide) rfl [.int (0 : Int32)]) rfl rfl hl.1 rfl (lv_room (Nat.le_of_ble_eq_true rfl)) dX6_takeSide_23 ⟨Nat.zero_le _, Nat.zero_le _⟩) (fun σ7 H locs h w => ?_)
      refine lv_iload_n X.1 X.2.1 dX6_takeSide_26 rfl (lv_at hl 0 rfl) ?_
      refine lv_bipush (v := 114) X.1 X.2.1 dX6_takeSide_27 (by decide) ?_
      refine lv_icmp_ne (tgt := 36) X.1 X.2.1 dX6_takeSide_29 (by decide) (fun c8 => ?_) (fun c8 => ?_)
      · have h := h.1 c8
        refine lv_iconst (v := 0) X.1 X.2.1 dX6_takeSide_36 (by decide) ?_
        exact tw_iret X hr hlk w h dX6_takeSide_37
      · have h := h.2 c8
        refine lv_iconst (v := 1) X.1 X.2.1 dX6_takeSide_32 (by decide) ?_
        refine lv_goto (tgt := 37) X.1 X.2.1 dX6_takeSide_33 (by decide) ?_
        exact tw_iret X hr hlk w h dX6_takeSide_37
    · have h := h.2 c6
      refine lv_iconst (v := 1) X.1 X.2.1 dX6_takeSide_18 (by decide) ?_
      refine lv_goto (tgt := 23) X.1 X.2.1 dX6_takeSide_19 (by decide) ?_
      refine tw_cv w (va_runV (As := [.int (1 : Int32)]) (rest := []) X (ct_X6_passIf l D g hT _ σ1 a0 h0 (1 : Int32) _ h) (cwV 1 X.2.2.2.2 gX6_takeSide_X6_passIf rfl rfl rfl (by decide +kernel) ⟨Nat.le_of_ble_eq_true rfl, Nat.le_of_ble_eq_true rfl⟩) (tw_preV hK w h0 (by decide) rfl [.int (1 : Int32)]) rfl rfl hl.1 rfl (lv_room (Nat.le_of_ble_eq_true rfl)) dX6_takeSide_23 ⟨Nat.zero_le _, Nat.zero_le _⟩) (fun σ9 H locs h w => ?_)
      refine lv_iload_n X.1 X.2.1 dX6_takeSide_26 rfl (lv_at hl 0 rfl) ?_
      refine lv_bipush (v := 114) X.1 X.2.1 dX6_takeSide_27 (by decide) ?_
      refine lv_icmp_ne (tgt := 36) X.1 X.2.1 dX6_takeSide_29 (by decide) (fun c10 => ?_) (fun c10 => ?_)
      · have h := h.1 c10
        refine lv_iconst (v := 0) X.1 X.2.1 dX6_takeSide_36 (by decide) ?_
        exact tw_iret X hr hlk w h dX6_takeSide_37
      · have h := h.2 c10
        refine lv_iconst (v := 1) X.1 X.2.1 dX6_takeSide_32 (by decide) ?_
        refine lv_goto (tgt := 37) X.1 X.2.1 dX6_takeSide_33 (by decide) ?_
        exact tw_iret X hr hlk w h dX6_takeSide_37

abbrev RM_X6_readMove : Room := { frames := 3, cells := 0, slots := 0, locals := 66 }
theorem iw_X6_readMove_6 : ∀ w ∈ wsX60, w ∈ wsX6_readMove := fun w h => List.mem_cons_of_mem _ (List.mem_append_left _ (List.mem_append_right _ (h)))
def wp_X6_readMove (g : tw_G) (σ : tw_S) (a0 : Nat) (a1 : Nat) (Q : tw_S → Prop) : Prop := wp_X6_upcoming g σ a0 (fun r2 σ1 => ((¬ r2 = (113 : Int32)) → wp_X6_takeLetter g σ1 a0 (109 : Int32) (fun σ4 => wp_X3_size g σ4 a1 (fun r6 σ5 => wp_X6_takeFigure g σ5 a0 (0 : Int32) (r6 - (1 : Int32)) (fun r8 σ7 => wp_X6_takeSign g σ7 a0 a1 r8 (fun r10 σ9 => wp_X3_size g σ9 a1 (fun r12 σ11 => wp_X6_takeFigure g σ11 a0 (0 : Int32) (r12 - (1 : Int32)) (fun r14 σ13 => wp_X6_takeSide g σ13 a0 (fun r16 σ15 => wp_X6_takeLetter g σ15 a0 (59 : Int32) (fun σ17 => ((¬ (tw_I σ17 a0 3) = 0) → Q σ17) ∧ (((tw_I σ17 a0 3) = 0) → wp_X3_put g σ17 a1 r8 r10 (((2 : Int32) * r14) + r16) (fun σ19 => Q σ19))))))))))) ∧ ((r2 = (113 : Int32)) → wp_X6_blame g σ1 a0 (3 : Int32) (fun σ20 => wp_X6_takeLetter g σ20 a0 (109 : Int32) (fun σ21 => wp_X3_size g σ21 a1 (fun r23 σ22 => wp_X6_takeFigure g σ22 a0 (0 : Int32) (r23 - (1 : Int32)) (fun r25 σ24 => wp_X6_takeSign g σ24 a0 a1 r25 (fun r27 σ26 => wp_X3_size g σ26 a1 (fun r29 σ28 => wp_X6_takeFigure g σ28 a0 (0 : Int32) (r29 - (1 : Int32)) (fun r31 σ30 => wp_X6_takeSide g σ30 a0 (fun r33 σ32 => wp_X6_takeLetter g σ32 a0 (59 : Int32) (fun σ34 => ((¬ (tw_I σ34 a0 3) = 0) → Q σ34) ∧ (((tw_I σ34 a0 3) = 0) → wp_X3_put g σ34 a1 r25 r27 (((2 : Int32) * r31) + r33) (fun σ36 => Q σ36)))))))))))))
set_option maxHeartbeats 4000000 in
set_option maxRecDepth 100000 in
theorem ct_X6_readMove (l : Launch) (D : va_G) (g : tw_G) (hT : tw_T g) (sz : Nat) (σ : tw_S) (a0 : Nat) (h0 : tw_is g 6 a0) (a1 : Nat) (h1 : tw_is g 3 a1) (Q : tw_S → Prop) (h : wp_X6_readMove g σ a0 a1 Q) : tw_Mv l yX6_readMove wsX6_readMove RM_X6_readMove D g sz σ [.ref a0, .ref a1] Q := by
  refine Met.ofW (cc := cX6_readMove) (maxL := 6) (ret := none) (by decide) rfl ?_
  intro p e s m args below meth c s₁ B hml hv
  obtain ⟨rfl, hsz, hP, hK, hD0⟩ := hv
  subst hsz
  have hr := B.returns
  have hlk := B.notSynchronized
  have X : CallFix p m c cX6_readMove 6 s _ wsX6_readMove RX6 := ⟨B.exec, B.bytes, hml, findClass_of_methodNamed B.named, atoms_spec (ws := wsX6_readMove) B.pre⟩
  have w := tw_w0 hP hD0
  have hl := lv_entry ([.ref a0, .ref a1]) (n := 6) (Nat.le_of_ble_eq_true rfl)
  rw [lg_entry_eq]
  generalize (lg_sl ([.ref a0, .ref a1]) ++ List.replicate (6 - (lg_sl ([.ref a0, .ref a1])).length) Slot.unset).toArray = ls at hl ⊢
  have hl : lv_has ls 6 [(0, .ref a0), (1, .ref a1)] := hl
  unfold wp_X6_readMove at h
  refine lv_aload_n X.1 X.2.1 dX6_readMove_0 rfl (lv_at hl 0 rfl) ?_
  refine tw_ci w (va_runV (As := []) (rest := []) X (ct_X6_upcoming l D g hT _ σ a0 h0 _ h) (cwV 0 X.2.2.2.2 gX6_readMove_X6_upcoming rfl rfl rfl (by decide +kernel) ⟨Nat.le_of_ble_eq_true rfl, Nat.le_of_ble_eq_true rfl⟩) (tw_preV hK w h0 (by decide) rfl []) rfl rfl hl.1 rfl (lv_room (Nat.le_of_ble_eq_true rfl)) dX6_readMove_1 ⟨Nat.zero_le _, Nat.zero_le _⟩) (fun r2 σ1 H locs h w => ?_)
  refine lv_bipush (v := 113) X.1 X.2.1 dX6_readMove_4 (by decide) ?_
  refine lv_icmp_ne (tgt := 14) X.1 X.2.1 dX6_readMove_6 (by decide) (fun c3 => ?_) (fun c3 => ?_)
  · have h := h.1 c3
    refine lv_aload_n X.1 X.2.1 dX6_readMove_14 rfl (lv_at hl 0 rfl) ?_
    refine lv_bipush (v := 109) X.1 X.2.1 dX6_readMove_15 (by decide) ?_
    refine tw_cv w (va_runV (As := [.int (109 : Int32)]) (rest := []) X (ct_X6_takeLetter l D g hT _ σ1 a0 h0 (109 : Int32) _ h) (cwV 1 X.2.2.2.2 gX6_readMove_X6_takeLetter rfl rfl rfl (by decide +kernel) ⟨Nat.le_of_ble_eq_true rfl, Nat.le_of_ble_eq_true rfl⟩) (tw_preV hK w h0 (by decide) rfl [.int (109 : Int32)]) rfl rfl hl.1 rfl (lv_room (Nat.le_of_ble_eq_true rfl)) dX6_readMove_17 ⟨Nat.zero_le _, Nat.zero_le _⟩) (fun σ4 H locs h w => ?_)
    refine lv_aload_n X.1 X.2.1 dX6_readMove_20 rfl (lv_at hl 0 rfl) ?_
    refine lv_iconst (v := 0) X.1 X.2.1 dX6_readMove_21 (by decide) ?_
    refine lv_aload_n X.1 X.2.1 dX6_readMove_22 rfl (lv_at hl 1 rfl) ?_
    refine tw_ci w (va_runV (As := []) (rest := [.int (0 : Int32), .ref a0]) X (ct_X3_size l D g hT _ σ4 a1 h1 _ h) (cwV 0 X.2.2.2.2 gX6_readMove_X3_size rfl rfl rfl (by decide +kernel) ⟨Nat.le_of_ble_eq_true rfl, Nat.le_of_ble_eq_true rfl⟩) (tw_preV hK w h1 (by decide) rfl []) rfl rfl hl.1 rfl (lv_room (Nat.le_of_ble_eq_true rfl)) dX6_readMove_23 ⟨Nat.zero_le _, Nat.zero_le _⟩) (fun r6 σ5 H locs h w => ?_)
    refine lv_iconst (v := 1) X.1 X.2.1 dX6_readMove_26 (by decide) ?_
    refine lv_isub X.1 X.2.1 dX6_readMove_27 ?_
    refine tw_ci w (va_runV (As := [.int (0 : Int32), .int (r6 - (1 : Int32))]) (rest := []) X (ct_X6_takeFigure l D g hT _ σ5 a0 h0 (0 : Int32) (r6 - (1 : Int32)) _ h) (cwV 2 X.2.2.2.2 gX6_readMove_X6_takeFigure rfl rfl rfl (by decide +kernel) ⟨Nat.le_of_ble_eq_true rfl, Nat.le_of_ble_eq_true rfl⟩) (tw_preV hK w h0 (by decide) rfl [.int (0 : Int32), .int (r6 - (1 : Int32))]) rfl rfl hl.1 rfl (lv_room (Nat.le_of_ble_eq_true rfl)) dX6_readMove_28 ⟨Nat.zero_le _, Nat.zero_le _⟩) (fun r8 σ7 H locs h w => ?_)
    refine lv_istore_n (lv' := [(2, .int r8), (0, .ref a0), (1, .ref a1)]) X.1 X.2.1 dX6_readMove_31 rfl hl (by decide) rfl (fun ls hl => ?_)
    refine lv_aload_n X.1 X.2.1 dX6_readMove_32 rfl (lv_at hl 1 rfl) ?_
    refine lv_aload_n X.1 X.2.1 dX6_readMove_33 rfl (lv_at hl 2 rfl) ?_
    refine lv_iload_n X.1 X.2.1 dX6_readMove_34 rfl (lv_at hl 0 rfl) ?_
    refine tw_ci w (va_runV (As := [.ref a1, .int r8]) (rest := []) X (ct_X6_takeSign l D g hT _ σ7 a0 h0 a1 h1 r8 _ h) (cwV 2 X.2.2.2.2 gX6_readMove_X6_takeSign rfl rfl rfl (by decide +kernel) ⟨Nat.le_of_ble_eq_true rfl, Nat.le_of_ble_eq_true rfl⟩) (tw_preV hK w h0 (by decide) rfl [.ref a1, .int r8]) rfl rfl hl.1 rfl (lv_room (Nat.le_of_ble_eq_true rfl)) dX6_readMove_35 ⟨Nat.zero_le _, Nat.zero_le _⟩) (fun r10 σ9 H locs h w => ?_)
    refine lv_istore_n (lv' := [(3, .int r10), (2, .int r8), (0, .ref a0), (1, .ref a1)]) X.1 X.2.1 dX6_readMove_38 rfl hl (by decide) rfl (fun ls hl => ?_)
    refine lv_aload_n X.1 X.2.1 dX6_readMove_39 rfl (lv_at hl 2 rfl) ?_
    refine lv_iconst (v := 0) X.1 X.2.1 dX6_readMove_40 (by decide) ?_
    refine lv_aload_n X.1 X.2.1 dX6_readMove_41 rfl (lv_at hl 3 rfl) ?_
    refine tw_ci w (va_runV (As := []) (rest := [.int (0 : Int32), .ref a0]) X (ct_X3_size l D g hT _ σ9 a1 h1 _ h) (cwV 0 X.2.2.2.2 gX6_readMove_X3_size rfl rfl rfl (by decide +kernel) ⟨Nat.le_of_ble_eq_true rfl, Nat.le_of_ble_eq_true rfl⟩) (tw_preV hK w h1 (by decide) rfl []) rfl rfl hl.1 rfl (lv_room (Nat.le_of_ble_eq_true rfl)) dX6_readMove_42 ⟨Nat.zero_le _, Nat.zero_le _⟩) (fun r12 σ11 H locs h w => ?_)
    refine lv_iconst (v := 1) X.1 X.2.1 dX6_readMove_45 (by decide) ?_
    refine lv_isub X.1 X.2.1 dX6_readMove_46 ?_
    refine tw_ci w (va_runV (As := [.int (0 : Int32), .int (r12 - (1 : Int32))]) (rest := []) X (ct_X6_takeFigure l D g hT _ σ11 a0 h0 (0 : Int32) (r12 - (1 : Int32)) _ h) (cwV 2 X.2.2.2.2 gX6_readMove_X6_takeFigure rfl rfl rfl (by decide +kernel) ⟨Nat.le_of_ble_eq_true rfl, Nat.le_of_ble_eq_true rfl⟩) (tw_preV hK w h0 (by decide) rfl [.int (0 : Int32), .int (r12 - (1 : Int32))]) rfl rfl hl.1 rfl (lv_room (Nat.le_of_ble_eq_true rfl)) dX6_readMove_47 ⟨Nat.zero_le _, Nat.zero_le _⟩) (fun r14 σ13 H locs h w => ?_)
    refine lv_istore (lv' := [(4, .int r14), (3, .int r10), (2, .int r8), (0, .ref a0), (1, .ref a1)]) X.1 X.2.1 dX6_readMove_50 hl (by decide) rfl (fun ls hl => ?_)
    refine lv_aload_n X.1 X.2.1 dX6_readMove_52 rfl (lv_at hl 3 rfl) ?_
    refine tw_ci w (va_runV (As := []) (rest := []) X (ct_X6_takeSide l D g hT _ σ13 a0 h0 _ h) (cwV 0 X.2.2.2.2 gX6_readMove_X6_takeSide rfl rfl rfl (by decide +kernel) ⟨Nat.le_of_ble_eq_true rfl, Nat.le_of_ble_eq_true rfl⟩) (tw_preV hK w h0 (by decide) rfl []) rfl rfl hl.1 rfl (lv_room (Nat.le_of_ble_eq_true rfl)) dX6_readMove_53 ⟨Nat.zero_le _, Nat.zero_le _⟩) (fun r16 σ15 H locs h w => ?_)
    refine lv_istore (lv' := [(5, .int r16), (4, .int r14), (3, .int r10), (2, .int r8), (0, .ref a0), (1, .ref a1)]) X.1 X.2.1 dX6_readMove_56 hl (by decide) rfl (fun ls hl => ?_)
    refine lv_aload_n X.1 X.2.1 dX6_readMove_58 rfl (lv_at hl 4 rfl) ?_
    refine lv_bipush (v := 59) X.1 X.2.1 dX6_readMove_59 (by decide) ?_
    refine tw_cv w (va_runV (As := [.int (59 : Int32)]) (rest := []) X (ct_X6_takeLetter l D g hT _ σ15 a0 h0 (59 : Int32) _ h) (cwV 1 X.2.2.2.2 gX6_readMove_X6_takeLetter rfl rfl rfl (by decide +kernel) ⟨Nat.le_of_ble_eq_true rfl, Nat.le_of_ble_eq_true rfl⟩) (tw_preV hK w h0 (by decide) rfl [.int (59 : Int32)]) rfl rfl hl.1 rfl (lv_room (Nat.le_of_ble_eq_true rfl)) dX6_readMove_61 ⟨Nat.zero_le _, Nat.zero_le _⟩) (fun σ17 H locs h w => ?_)
    refine lv_aload_n X.1 X.2.1 dX6_readMove_64 rfl (lv_at hl 4 rfl) ?_
    refine tw_get X hK w 6 iw_X6_readMove_6 h0 (by decide) rfl 3 (by decide) (List.mem_of_getElem? (i := 1) rfl) rfl dX6_readMove_65 ?_
    refine lv_if_ne (tgt := 84) X.1 X.2.1 dX6_readMove_68 (by decide) (fun c18 => ?_) (fun c18 => ?_)
    · have h := h.1 c18
      exact tw_vret X hr hlk w h dX6_readMove_84
    · have h := h.2 c18
      refine lv_aload_n X.1 X.2.1 dX6_readMove_71 rfl (lv_at hl 5 rfl) ?_
      refine lv_iload_n X.1 X.2.1 dX6_readMove_72 rfl (lv_at hl 3 rfl) ?_
      refine lv_iload_n X.1 X.2.1 dX6_readMove_73 rfl (lv_at hl 2 rfl) ?_
      refine lv_iconst (v := 2) X.1 X.2.1 dX6_readMove_74 (by decide) ?_
      refine lv_iload X.1 X.2.1 dX6_readMove_75 (lv_at hl 1 rfl) ?_
      refine lv_imul X.1 X.2.1 dX6_readMove_77 ?_
      refine lv_iload X.1 X.2.1 dX6_readMove_78 (lv_at hl 0 rfl) ?_
      refine lv_iadd X.1 X.2.1 dX6_readMove_80 ?_
      refine tw_cv w (va_runV (As := [.int r8, .int r10, .int (((2 : Int32) * r14) + r16)]) (rest := []) X (ct_X3_put l D g hT _ σ17 a1 h1 r8 r10 (((2 : Int32) * r14) + r16) _ h) (cwV 3 X.2.2.2.2 gX6_readMove_X3_put rfl rfl rfl (by decide +kernel) ⟨Nat.le_of_ble_eq_true rfl, Nat.le_of_ble_eq_true rfl⟩) (tw_preV hK w h1 (by decide) rfl [.int r8, .int r10, .int (((2 : Int32) * r14) + r16)]) rfl rfl hl.1 rfl (lv_room (Nat.le_of_ble_eq_true rfl)) dX6_readMove_81 ⟨Nat.zero_le _, Nat.zero_le _⟩) (fun σ19 H locs h w => ?_)
      exact tw_vret X hr hlk w h dX6_readMove_84
  · have h := h.2 c3
    refine lv_aload_n X.1 X.2.1 dX6_readMove_9 rfl (lv_at hl 0 rfl) ?_
    refine lv_iconst (v := 3) X.1 X.2.1 dX6_readMove_10 (by decide) ?_
    refine tw_cv w (va_runV (As := [.int (3 : Int32)]) (rest := []) X (ct_X6_blame l D g hT _ σ1 a0 h0 (3 : Int32) _ h) (cwV 1 X.2.2.2.2 gX6_readMove_X6_blame rfl rfl rfl (by decide +kernel) ⟨Nat.le_of_ble_eq_true rfl, Nat.le_of_ble_eq_true rfl⟩) (tw_preV hK w h0 (by decide) rfl [.int (3 : Int32)]) rfl rfl hl.1 rfl (lv_room (Nat.le_of_ble_eq_true rfl)) dX6_readMove_11 ⟨Nat.zero_le _, Nat.zero_le _⟩) (fun σ20 H locs h w => ?_)
    refine lv_aload_n X.1 X.2.1 dX6_readMove_14 rfl (lv_at hl 0 rfl) ?_
    refine lv_bipush (v := 109) X.1 X.2.1 dX6_readMove_15 (by decide) ?_
    refine tw_cv w (va_runV (As := [.int (109 : Int32)]) (rest := []) X (ct_X6_takeLetter l D g hT _ σ20 a0 h0 (109 : Int32) _ h) (cwV 1 X.2.2.2.2 gX6_readMove_X6_takeLetter rfl rfl rfl (by decide +kernel) ⟨Nat.le_of_ble_eq_true rfl, Nat.le_of_ble_eq_true rfl⟩) (tw_preV hK w h0 (by decide) rfl [.int (109 : Int32)]) rfl rfl hl.1 rfl (lv_room (Nat.le_of_ble_eq_true rfl)) dX6_readMove_17 ⟨Nat.zero_le _, Nat.zero_le _⟩) (fun σ21 H locs h w => ?_)
    refine lv_aload_n X.1 X.2.1 dX6_readMove_20 rfl (lv_at hl 0 rfl) ?_
    refine lv_iconst (v := 0) X.1 X.2.1 dX6_readMove_21 (by decide) ?_
    refine lv_aload_n X.1 X.2.1 dX6_readMove_22 rfl (lv_at hl 1 rfl) ?_
    refine tw_ci w (va_runV (As := []) (rest := [.int (0 : Int32), .ref a0]) X (ct_X3_size l D g hT _ σ21 a1 h1 _ h) (cwV 0 X.2.2.2.2 gX6_readMove_X3_size rfl rfl rfl (by decide +kernel) ⟨Nat.le_of_ble_eq_true rfl, Nat.le_of_ble_eq_true rfl⟩) (tw_preV hK w h1 (by decide) rfl []) rfl rfl hl.1 rfl (lv_room (Nat.le_of_ble_eq_true rfl)) dX6_readMove_23 ⟨Nat.zero_le _, Nat.zero_le _⟩) (fun r23 σ22 H locs h w => ?_)
    refine lv_iconst (v := 1) X.1 X.2.1 dX6_readMove_26 (by decide) ?_
    refine lv_isub X.1 X.2.1 dX6_readMove_27 ?_
    refine tw_ci w (va_runV (As := [.int (0 : Int32), .int (r23 - (1 : Int32))]) (rest := []) X (ct_X6_takeFigure l D g hT _ σ22 a0 h0 (0 : Int32) (r23 - (1 : Int32)) _ h) (cwV 2 X.2.2.2.2 gX6_readMove_X6_takeFigure rfl rfl rfl (by decide +kernel) ⟨Nat.le_of_ble_eq_true rfl, Nat.le_of_ble_eq_true rfl⟩) (tw_preV hK w h0 (by decide) rfl [.int (0 : Int32), .int (r23 - (1 : Int32))]) rfl rfl hl.1 rfl (lv_room (Nat.le_of_ble_eq_true rfl)) dX6_readMove_28 ⟨Nat.zero_le _, Nat.zero_le _⟩) (fun r25 σ24 H locs h w => ?_)
    refine lv_istore_n (lv' := [(2, .int r25), (0, .ref a0), (1, .ref a1)]) X.1 X.2.1 dX6_readMove_31 rfl hl (by decide) rfl (fun ls hl => ?_)
    refine lv_aload_n X.1 X.2.1 dX6_readMove_32 rfl (lv_at hl 1 rfl) ?_
    refine lv_aload_n X.1 X.2.1 dX6_readMove_33 rfl (lv_at hl 2 rfl) ?_
    refine lv_iload_n X.1 X.2.1 dX6_readMove_34 rfl (lv_at hl 0 rfl) ?_
    refine tw_ci w (va_runV (As := [.ref a1, .int r25]) (rest := []) X (ct_X6_takeSign l D g hT _ σ24 a0 h0 a1 h1 r25 _ h) (cwV 2 X.2.2.2.2 gX6_readMove_X6_takeSign rfl rfl rfl (by decide +kernel) ⟨Nat.le_of_ble_eq_true rfl, Nat.le_of_ble_eq_true rfl⟩) (tw_preV hK w h0 (by decide) rfl [.ref a1, .int r25]) rfl rfl hl.1 rfl (lv_room (Nat.le_of_ble_eq_true rfl)) dX6_readMove_35 ⟨Nat.zero_le _, Nat.zero_le _⟩) (fun r27 σ26 H locs h w => ?_)
    refine lv_istore_n (lv' := [(3, .int r27), (2, .int r25), (0, .ref a0), (1, .ref a1)]) X.1 X.2.1 dX6_readMove_38 rfl hl (by decide) rfl (fun ls hl => ?_)
    refine lv_aload_n X.1 X.2.1 dX6_readMove_39 rfl (lv_at hl 2 rfl) ?_
    refine lv_iconst (v := 0) X.1 X.2.1 dX6_readMove_40 (by decide) ?_
    refine lv_aload_n X.1 X.2.1 dX6_readMove_41 rfl (lv_at hl 3 rfl) ?_
    refine tw_ci w (va_runV (As := []) (rest := [.int (0 : Int32), .ref a0]) X (ct_X3_size l D g hT _ σ26 a1 h1 _ h) (cwV 0 X.2.2.2.2 gX6_readMove_X3_size rfl rfl rfl (by decide +kernel) ⟨Nat.le_of_ble_eq_true rfl, Nat.le_of_ble_eq_true rfl⟩) (tw_preV hK w h1 (by decide) rfl []) rfl rfl hl.1 rfl (lv_room (Nat.le_of_ble_eq_true rfl)) dX6_readMove_42 ⟨Nat.zero_le _, Nat.zero_le _⟩) (fun r29 σ28 H locs h w => ?_)
    refine lv_iconst (v := 1) X.1 X.2.1 dX6_readMove_45 (by decide) ?_
    refine lv_isub X.1 X.2.1 dX6_readMove_46 ?_
    refine tw_ci w (va_runV (As := [.int (0 : Int32), .int (r29 - (1 : Int32))]) (rest := []) X (ct_X6_takeFigure l D g hT _ σ28 a0 h0 (0 : Int32) (r29 - (1 : Int32)) _ h) (cwV 2 X.2.2.2.2 gX6_readMove_X6_takeFigure rfl rfl rfl (by decide +kernel) ⟨Nat.le_of_ble_eq_true rfl, Nat.le_of_ble_eq_true rfl⟩) (tw_preV hK w h0 (by decide) rfl [.int (0 : Int32), .int (r29 - (1 : Int32))]) rfl rfl hl.1 rfl (lv_room (Nat.le_of_ble_eq_true rfl)) dX6_readMove_47 ⟨Nat.zero_le _, Nat.zero_le _⟩) (fun r31 σ30 H locs h w => ?_)
    refine lv_istore (lv' := [(4, .int r31), (3, .int r27), (2, .int r25), (0, .ref a0), (1, .ref a1)]) X.1 X.2.1 dX6_readMove_50 hl (by decide) rfl (fun ls hl => ?_)
    refine lv_aload_n X.1 X.2.1 dX6_readMove_52 rfl (lv_at hl 3 rfl) ?_
    refine tw_ci w (va_runV (As := []) (rest := []) X (ct_X6_takeSide l D g hT _ σ30 a0 h0 _ h) (cwV 0 X.2.2.2.2 gX6_readMove_X6_takeSide rfl rfl rfl (by decide +kernel) ⟨Nat.le_of_ble_eq_true rfl, Nat.le_of_ble_eq_true rfl⟩) (tw_preV hK w h0 (by decide) rfl []) rfl rfl hl.1 rfl (lv_room (Nat.le_of_ble_eq_true rfl)) dX6_readMove_53 ⟨Nat.zero_le _, Nat.zero_le _⟩) (fun r33 σ32 H locs h w => ?_)
    refine lv_istore (lv' := [(5, .int r33), (4, .int r31), (3, .int r27), (2, .int r25), (0, .ref a0), (1, .ref a1)]) X.1 X.2.1 dX6_readMove_56 hl (by decide) rfl (fun ls hl => ?_)
    refine lv_aload_n X.1 X.2.1 dX6_readMove_58 rfl (lv_at hl 4 rfl) ?_
    refine lv_bipush (v := 59) X.1 X.2.1 dX6_readMove_59 (by decide) ?_
    refine tw_cv w (va_runV (As := [.int (59 : Int32)]) (rest := []) X (ct_X6_takeLetter l D g hT _ σ32 a0 h0 (59 : Int32) _ h) (cwV 1 X.2.2.2.2 gX6_readMove_X6_takeLetter rfl rfl rfl (by decide +kernel) ⟨Nat.le_of_ble_eq_true rfl, Nat.le_of_ble_eq_true rfl⟩) (tw_preV hK w h0 (by decide) rfl [.int (59 : Int32)]) rfl rfl hl.1 rfl (lv_room (Nat.le_of_ble_eq_true rfl)) dX6_readMove_61 ⟨Nat.zero_le _, Nat.zero_le _⟩) (fun σ34 H locs h w => ?_)
    refine lv_aload_n X.1 X.2.1 dX6_readMove_64 rfl (lv_at hl 4 rfl) ?_
    refine tw_get X hK w 6 iw_X6_readMove_6 h0 (by decide) rfl 3 (by decide) (List.mem_of_getElem? (i := 1) rfl) rfl dX6_readMove_65 ?_
    refine lv_if_ne (tgt := 84) X.1 X.2.1 dX6_readMove_68 (by decide) (fun c35 => ?_) (fun c35 => ?_)
    · have h := h.1 c35
      exact tw_vret X hr hlk w h dX6_readMove_84
    · have h := h.2 c35
      refine lv_aload_n X.1 X.2.1 dX6_readMove_71 rfl (lv_at hl 5 rfl) ?_
      refine lv_iload_n X.1 X.2.1 dX6_readMove_72 rfl (lv_at hl 3 rfl) ?_
      refine lv_iload_n X.1 X.2.1 dX6_readMove_73 rfl (lv_at hl 2 rfl) ?_
      refine lv_iconst (v := 2) X.1 X.2.1 dX6_readMove_74 (by decide) ?_
      refine lv_iload X.1 X.2.1 dX6_readMove_75 (lv_at hl 1 rfl) ?_
      refine lv_imul X.1 X.2.1 dX6_readMove_77 ?_
      refine lv_iload X.1 X.2.1 dX6_readMove_78 (lv_at hl 0 rfl) ?_
      refine lv_iadd X.1 X.2.1 dX6_readMove_80 ?_
      refine tw_cv w (va_runV (As := [.int r25, .int r27, .int (((2 : Int32) * r31) + r33)]) (rest := []) X (ct_X3_put l D g hT _ σ34 a1 h1 r25 r27 (((2 : Int32) * r31) + r33) _ h) (cwV 3 X.2.2.2.2 gX6_readMove_X3_put rfl rfl rfl (by decide +kernel) ⟨Nat.le_of_ble_eq_true rfl, Nat.le_of_ble_eq_true rfl⟩) (tw_preV hK w h1 (by decide) rfl [.int r25, .int r27, .int (((2 : Int32) * r31) + r33)]) rfl rfl hl.1 rfl (lv_room (Nat.le_of_ble_eq_true rfl)) dX6_readMove_81 ⟨Nat.zero_le _, Nat.zero_le _⟩) (fun σ36 H locs h w => ?_)
      exact tw_vret X hr hlk w h dX6_readMove_84

abbrev RM_X6_readInto : Room := { frames := 4, cells := 0, slots := 0, locals := 91 }
theorem iw_X6_readInto_6 : ∀ w ∈ wsX60, w ∈ wsX6_readInto := fun w h => List.mem_cons_of_mem _ (List.mem_append_left _ (List.mem_append_right _ (h)))
def wl_X6_readInto_30 (g : tw_G) (a0 : Nat) (a1 : Nat) (Q : Int32 → tw_S → Prop) (k63 : tw_S → Prop) : Nat → Int32 → tw_S → Prop
  | 0, _, _ => False
  | n + 1, x2, σ => (((240 : Int32) ≤ x2) → k63  σ) ∧ (¬ ((240 : Int32) ≤ x2) → ((¬ (tw_I σ a0 3) = 0) → k63  σ) ∧ (((tw_I σ a0 3) = 0) → wp_X6_upcoming g σ a0 (fun r10 σ9 => ((r10 = (-1 : Int32)) → k63  σ9) ∧ (¬ (r10 = (-1 : Int32)) → wp_X6_readMove g σ9 a0 a1 (fun σ12 => wl_X6_readInto_30 g a0 a1 Q k63 n (x2 + 1) σ12)))))
def wp_X6_readInto (g : tw_G) (σ : tw_S) (a0 : Nat) (a1 : Nat) (Q : Int32 → tw_S → Prop) : Prop := ∀ σ1, σ1 = (tw_sI σ a0 2 (0 : Int32)) → ∀ σ2, σ2 = (tw_sI σ1 a0 3 (0 : Int32)) → wp_X3_empty g σ2 a1 (1 : Int32) (fun σ3 => wp_X6_upcoming g σ3 a0 (fun r5 σ4 => ((r5 = (-1 : Int32)) → ∃ n30, wl_X6_readInto_30 g a0 a1 Q (fun σ13 => Q (tw_I σ13 a0 3) σ13) n30 (0 : Int32) σ4) ∧ (¬ (r5 = (-1 : Int32)) → wp_X6_readSize g σ4 a0 a1 (fun σ14 => ∃ n30, wl_X6_readInto_30 g a0 a1 Q (fun σ15 => Q (tw_I σ15 a0 3) σ15) n30 (0 : Int32) σ14))))
set_option maxHeartbeats 4000000 in
set_option maxRecDepth 100000 in
theorem lp_X6_readInto_30 {p : Program} {l : Launch} {e : Env} {s : State} {m : MethodId} {args : Array Value} {below : List Frame} {meth : Method} {c : Code} {D : va_G} {g : tw_G} (X : CallFix p m c cX6_readInto 3 s args wsX6_readInto RX6) (hr : meth.sig.returnType = (some .int)) (hlk : meth.locks = false) (hK : tw_k D g s) (hT : tw_T g) {a0 : Nat} {a1 : Nat} (h0 : tw_is g 6 a0) (h1 : tw_is g 3 a1) {Q : Int32 → tw_S → Prop} {k63 : tw_S → Prop}
    (hk63 : ∀  (σ : tw_S) (H : Heap) (locs : List Loc) (ls : Array Slot), k63  σ → tw_w D g (tw_F g s.heap.size) s σ H locs → lv_has ls 3 [(0, .ref a0)] → W p l e RM_X6_readInto s m args below meth c H locs 0 0 (tw_Qi Q D g below args s) (F0 m 63 ls []))
    : ∀ (n : Nat) (x2 : Int32) (σ : tw_S) (H : Heap) (locs : List Loc) (ls : Array Slot), wl_X6_readInto_30 g a0 a1 Q k63 n x2 σ → tw_w D g (tw_F g s.heap.size) s σ H locs → lv_has ls 3 [(0, .ref a0), (1, .ref a1), (2, .int x2)] → W p l e RM_X6_readInto s m args below meth c H locs 0 0 (tw_Qi Q D g below args s) (F0 m 30 ls []) := by
  intro n
  induction n with
  | zero =>
    intro x2 σ H locs ls h w hl
    exact False.elim h
  | succ n ih =>
    intro x2 σ H locs ls h w hl
    rw [wl_X6_readInto_30] at h
    refine lv_iload_n X.1 X.2.1 dX6_readInto_30 rfl (lv_at hl 2 rfl) ?_
    refine lv_sipush (v := 240) X.1 X.2.1 dX6_readInto_31 (by decide) ?_
    refine lv_icmp_ge (tgt := 63) X.1 X.2.1 dX6_readInto_34 (by decide) (fun c7 => ?_) (fun c7 => ?_)
    · have h := h.1 c7
      exact hk63  σ _ _ ls h w (lv_sub hl [0] rfl)
    · have h := h.2 c7
      refine lv_aload_n X.1 X.2.1 dX6_readInto_37 rfl (lv_at hl 0 rfl) ?_
      refine tw_get X hK w 6 iw_X6_readInto_6 h0 (by decide) rfl 3 (by decide) (List.mem_of_getElem? (i := 2) rfl) rfl dX6_readInto_38 ?_
      refine lv_if_ne (tgt := 63) X.1 X.2.1 dX6_readInto_41 (by decide) (fun c8 => ?_) (fun c8 => ?_)
      · have h := h.1 c8
        exact hk63  σ _ _ ls h w (lv_sub hl [0] rfl)
      · have h := h.2 c8
        refine lv_aload_n X.1 X.2.1 dX6_readInto_44 rfl (lv_at hl 0 rfl) ?_
        refine tw_ci w (va_runV (As := []) (rest := []) X (ct_X6_upcoming l D g hT _ σ a0 h0 _ h) (cwV 0 X.2.2.2.2 gX6_readInto_X6_upcoming rfl rfl rfl (by decide +kernel) ⟨Nat.le_of_ble_eq_true rfl, Nat.le_of_ble_eq_true rfl⟩) (tw_preV hK w h0 (by decide) rfl []) rfl rfl hl.1 rfl (lv_room (Nat.le_of_ble_eq_true rfl)) dX6_readInto_45 ⟨Nat.zero_le _, Nat.zero_le _⟩) (fun r10 σ9 H locs h w => ?_)
        refine lv_iconst (v := -1) X.1 X.2.1 dX6_readInto_48 (by decide) ?_
        refine lv_icmp_eq (tgt := 63) X.1 X.2.1 dX6_readInto_49 (by decide) (fun c11 => ?_) (fun c11 => ?_)
        · have h := h.1 c11
          exact hk63  σ9 _ _ ls h w (lv_sub hl [0] rfl)
        · have h := h.2 c11
          refine lv_aload_n X.1 X.2.1 dX6_readInto_52 rfl (lv_at hl 0 rfl) ?_
          refine lv_aload_n X.1 X.2.1 dX6_readInto_53 rfl (lv_at hl 1 rfl) ?_
          refine tw_cv w (va_runV (As := [.ref a1]) (rest := []) X (ct_X6_readMove l D g hT _ σ9 a0 h0 a1 h1 _ h) (cwV 1 X.2.2.2.2 gX6_readInto_X6_readMove rfl rfl rfl (by decide +kernel) ⟨Nat.le_of_ble_eq_true rfl, Nat.le_of_ble_eq_true rfl⟩) (tw_preV hK w h0 (by decide) rfl [.ref a1]) rfl rfl hl.1 rfl (lv_room (Nat.le_of_ble_eq_true rfl)) dX6_readInto_54 ⟨Nat.zero_le _, Nat.zero_le _⟩) (fun σ12 H locs h w => ?_)
          refine lv_iinc (v := (x2 + 1)) (lv' := [(2, .int (x2 + 1)), (0, .ref a0), (1, .ref a1)]) X.1 X.2.1 dX6_readInto_57 hl (k := 2) rfl rfl (by decide) rfl (fun ls hl => ?_)
          refine lv_goto (tgt := 30) X.1 X.2.1 dX6_readInto_60 (by decide) ?_
          exact ih (x2 + 1) σ12 _ _ ls h w (lv_sub hl [1, 2, 0] rfl)
set_option maxHeartbeats 4000000 in
set_option maxRecDepth 100000 in
theorem ct_X6_readInto (l : Launch) (D : va_G) (g : tw_G) (hT : tw_T g) (sz : Nat) (σ : tw_S) (a0 : Nat) (h0 : tw_is g 6 a0) (a1 : Nat) (h1 : tw_is g 3 a1) (Q : Int32 → tw_S → Prop) (h : wp_X6_readInto g σ a0 a1 Q) : tw_Mi l yX6_readInto wsX6_readInto RM_X6_readInto D g sz σ [.ref a0, .ref a1] Q := by
  refine Met.ofW (cc := cX6_readInto) (maxL := 3) (ret := (some .int)) (by decide) rfl ?_
  intro p e s m args below meth c s₁ B hml hv
  obtain ⟨rfl, hsz, hP, hK, hD0⟩ := hv
  subst hsz
  have hr := B.returns
  have hlk := B.notSynchronized
  have X : CallFix p m c cX6_readInto 3 s _ wsX6_readInto RX6 := ⟨B.exec, B.bytes, hml, findClass_of_methodNamed B.named, atoms_spec (ws := wsX6_readInto) B.pre⟩
  have w := tw_w0 hP hD0
  have hl := lv_entry ([.ref a0, .ref a1]) (n := 3) (Nat.le_of_ble_eq_true rfl)
  rw [lg_entry_eq]
  generalize (lg_sl ([.ref a0, .ref a1]) ++ List.replicate (3 - (lg_sl ([.ref a0, .ref a1])).length) Slot.unset).toArray = ls at hl ⊢
  have hl : lv_has ls 3 [(0, .ref a0), (1, .ref a1)] := hl
  unfold wp_X6_readInto at h
  refine lv_aload_n X.1 X.2.1 dX6_readInto_0 rfl (lv_at hl 0 rfl) ?_
  refine lv_iconst (v := 0) X.1 X.2.1 dX6_readInto_1 (by decide) ?_
  refine tw_putI X hK w 6 iw_X6_readInto_6 tyX6 tyX6_ok nmX6 h0 (by decide) rfl 2 (by decide) (List.mem_of_getElem? (i := 1) rfl) rfl (ty := .int) (by decide +kernel) rfl rfl (Nat.le_of_ble_eq_true rfl) (tw_f_6_2 g _ _ _) dX6_readInto_2 (fun σ1 H locs eσ1 w => ?_)
  have h := h _ eσ1
  refine lv_aload_n X.1 X.2.1 dX6_readInto_5 rfl (lv_at hl 0 rfl) ?_
  refine lv_iconst (v := 0) X.1 X.2.1 dX6_readInto_6 (by decide) ?_
  refine tw_putI X hK w 6 iw_X6_readInto_6 tyX6 tyX6_ok nmX6 h0 (by decide) rfl 3 (by decide) (List.mem_of_getElem? (i := 2) rfl) rfl (ty := .int) (by decide +kernel) rfl rfl (Nat.le_of_ble_eq_true rfl) (tw_f_6_3 g _ _ _) dX6_readInto_7 (fun σ2 H locs eσ2 w => ?_)
  have h := h _ eσ2
  refine lv_aload_n X.1 X.2.1 dX6_readInto_10 rfl (lv_at hl 1 rfl) ?_
  refine lv_iconst (v := 1) X.1 X.2.1 dX6_readInto_11 (by decide) ?_
  refine tw_cv w (va_runV (As := [.int (1 : Int32)]) (rest := []) X (ct_X3_empty l D g hT _ σ2 a1 h1 (1 : Int32) _ h) (cwV 1 X.2.2.2.2 gX6_readInto_X3_empty rfl rfl rfl (by decide +kernel) ⟨Nat.le_of_ble_eq_true rfl, Nat.le_of_ble_eq_true rfl⟩) (tw_preV hK w h1 (by decide) rfl [.int (1 : Int32)]) rfl rfl hl.1 rfl (lv_room (Nat.le_of_ble_eq_true rfl)) dX6_readInto_12 ⟨Nat.zero_le _, Nat.zero_le _⟩) (fun σ3 H locs h w => ?_)
  refine lv_aload_n X.1 X.2.1 dX6_readInto_15 rfl (lv_at hl 0 rfl) ?_
  refine tw_ci w (va_runV (As := []) (rest := []) X (ct_X6_upcoming l D g hT _ σ3 a0 h0 _ h) (cwV 0 X.2.2.2.2 gX6_readInto_X6_upcoming rfl rfl rfl (by decide +kernel) ⟨Nat.le_of_ble_eq_true rfl, Nat.le_of_ble_eq_true rfl⟩) (tw_preV hK w h0 (by decide) rfl []) rfl rfl hl.1 rfl (lv_room (Nat.le_of_ble_eq_true rfl)) dX6_readInto_16 ⟨Nat.zero_le _, Nat.zero_le _⟩) (fun r5 σ4 H locs h w => ?_)
  refine lv_iconst (v := -1) X.1 X.2.1 dX6_readInto_19 (by decide) ?_
  refine lv_icmp_eq (tgt := 28) X.1 X.2.1 dX6_readInto_20 (by decide) (fun c6 => ?_) (fun c6 => ?_)
  · have h := h.1 c6
    refine lv_iconst (v := 0) X.1 X.2.1 dX6_readInto_28 (by decide) ?_
    refine lv_istore_n (lv' := [(2, .int (0 : Int32)), (0, .ref a0), (1, .ref a1)]) X.1 X.2.1 dX6_readInto_29 rfl hl (by decide) rfl (fun ls hl => ?_)
    obtain ⟨n30, h⟩ := h
    refine lp_X6_readInto_30 X hr hlk hK hT h0 h1 (fun σ13 H locs ls h w hl => ?_) n30 (0 : Int32) σ4 _ _ ls h w (lv_sub hl [1, 2, 0] rfl)
    · skip
      refine lv_aload_n X.1 X.2.1 dX6_readInto_63 rfl (lv_at hl 0 rfl) ?_
      refine tw_get X hK w 6 iw_X6_readInto_6 h0 (by decide) rfl 3 (by decide) (List.mem_of_getElem? (i := 2) rfl) rfl dX6_readInto_64 ?_
      exact tw_iret X hr hlk w h dX6_readInto_67
  · have h := h.2 c6
    refine lv_aload_n X.1 X.2.1 dX6_readInto_23 rfl (lv_at hl 0 rfl) ?_
    refine lv_aload_n X.1 X.2.1 dX6_readInto_24 rfl (lv_at hl 1 rfl) ?_
    refine tw_cv w (va_runV (As := [.ref a1]) (rest := []) X (ct_X6_readSize l D g hT _ σ4 a0 h0 a1 h1 _ h) (cwV 1 X.2.2.2.2 gX6_readInto_X6_readSize rfl rfl rfl (by decide +kernel) ⟨Nat.le_of_ble_eq_true rfl, Nat.le_of_ble_eq_true rfl⟩) (tw_preV hK w h0 (by decide) rfl [.ref a1]) rfl rfl hl.1 rfl (lv_room (Nat.le_of_ble_eq_true rfl)) dX6_readInto_25 ⟨Nat.zero_le _, Nat.zero_le _⟩) (fun σ14 H locs h w => ?_)
    refine lv_iconst (v := 0) X.1 X.2.1 dX6_readInto_28 (by decide) ?_
    refine lv_istore_n (lv' := [(2, .int (0 : Int32)), (0, .ref a0), (1, .ref a1)]) X.1 X.2.1 dX6_readInto_29 rfl hl (by decide) rfl (fun ls hl => ?_)
    obtain ⟨n30, h⟩ := h
    refine lp_X6_readInto_30 X hr hlk hK hT h0 h1 (fun σ15 H locs ls h w hl => ?_) n30 (0 : Int32) σ14 _ _ ls h w (lv_sub hl [1, 2, 0] rfl)
    · skip
      refine lv_aload_n X.1 X.2.1 dX6_readInto_63 rfl (lv_at hl 0 rfl) ?_
      refine tw_get X hK w 6 iw_X6_readInto_6 h0 (by decide) rfl 3 (by decide) (List.mem_of_getElem? (i := 2) rfl) rfl dX6_readInto_64 ?_
      exact tw_iret X hr hlk w h dX6_readInto_67
