abbrev RM_X5_isTooMany : Room := { frames := 0, cells := 0, slots := 0, locals := 0 }
theorem iw_X5_isTooMany_5 : ∀ w ∈ wsX50, w ∈ wsX5_isTooMany := fun w h => List.mem_cons_of_mem _ (List.mem_append_right _ (h))
def wp_X5_isTooMany (g : tw_G) (σ : tw_S) (a0 : Nat) (Q : Int32 → tw_S → Prop) : Prop := narrow .boolean (.int (tw_I σ a0 13)) = .int (tw_I σ a0 13) ∧ Q (tw_I σ a0 13) σ
set_option maxHeartbeats 4000000 in
set_option maxRecDepth 100000 in
theorem ct_X5_isTooMany (l : Launch) (D : va_G) (g : tw_G) (hT : tw_T g) (sz : Nat) (σ : tw_S) (a0 : Nat) (h0 : tw_is g 5 a0) (Q : Int32 → tw_S → Prop) (h : wp_X5_isTooMany g σ a0 Q) : tw_Mi l yX5_isTooMany wsX5_isTooMany RM_X5_isTooMany D g sz σ [.ref a0] Q := by
  refine Met.ofW (cc := cX5_isTooMany) (maxL := 1) (ret := (some .boolean)) (by decide) rfl ?_
  intro p e s m args below meth c s₁ B hml hv
  obtain ⟨rfl, hsz, hP, hK, hD0⟩ := hv
  subst hsz
  have hr := B.returns
  have hlk := B.notSynchronized
  have X : CallFix p m c cX5_isTooMany 1 s _ wsX5_isTooMany RX5 := ⟨B.exec, B.bytes, hml, findClass_of_methodNamed B.named, atoms_spec (ws := wsX5_isTooMany) B.pre⟩
  have w := tw_w0 hP hD0
  have hl := lv_entry ([.ref a0]) (n := 1) (Nat.le_of_ble_eq_true rfl)
  rw [lg_entry_eq]
  generalize (lg_sl ([.ref a0]) ++ List.replicate (1 - (lg_sl ([.ref a0])).length) Slot.unset).toArray = ls at hl ⊢
  have hl : lv_has ls 1 [(0, .ref a0)] := hl
  unfold wp_X5_isTooMany at h
  refine lv_aload_n X.1 X.2.1 dX5_isTooMany_0 rfl (lv_at hl 0 rfl) ?_
  refine tw_get X hK w 5 iw_X5_isTooMany_5 h0 (by decide) rfl 13 (by decide) (List.mem_of_getElem? (i := 1) rfl) rfl dX5_isTooMany_1 ?_
  exact tw_zret X hr hlk w h.1 h.2 dX5_isTooMany_4

abbrev RM_X5_size : Room := { frames := 0, cells := 0, slots := 0, locals := 0 }
theorem iw_X5_size_5 : ∀ w ∈ wsX50, w ∈ wsX5_size := fun w h => List.mem_cons_of_mem _ (List.mem_append_right _ (h))
def wp_X5_size (g : tw_G) (σ : tw_S) (a0 : Nat) (Q : Int32 → tw_S → Prop) : Prop := Q (tw_I σ a0 14) σ
set_option maxHeartbeats 4000000 in
set_option maxRecDepth 100000 in
theorem ct_X5_size (l : Launch) (D : va_G) (g : tw_G) (hT : tw_T g) (sz : Nat) (σ : tw_S) (a0 : Nat) (h0 : tw_is g 5 a0) (Q : Int32 → tw_S → Prop) (h : wp_X5_size g σ a0 Q) : tw_Mi l yX5_size wsX5_size RM_X5_size D g sz σ [.ref a0] Q := by
  refine Met.ofW (cc := cX5_size) (maxL := 1) (ret := (some .int)) (by decide) rfl ?_
  intro p e s m args below meth c s₁ B hml hv
  obtain ⟨rfl, hsz, hP, hK, hD0⟩ := hv
  subst hsz
  have hr := B.returns
  have hlk := B.notSynchronized
  have X : CallFix p m c cX5_size 1 s _ wsX5_size RX5 := ⟨B.exec, B.bytes, hml, findClass_of_methodNamed B.named, atoms_spec (ws := wsX5_size) B.pre⟩
  have w := tw_w0 hP hD0
  have hl := lv_entry ([.ref a0]) (n := 1) (Nat.le_of_ble_eq_true rfl)
  rw [lg_entry_eq]
  generalize (lg_sl ([.ref a0]) ++ List.replicate (1 - (lg_sl ([.ref a0])).length) Slot.unset).toArray = ls at hl ⊢
  have hl : lv_has ls 1 [(0, .ref a0)] := hl
  unfold wp_X5_size at h
  refine lv_aload_n X.1 X.2.1 dX5_size_0 rfl (lv_at hl 0 rfl) ?_
  refine tw_get X hK w 5 iw_X5_size_5 h0 (by decide) rfl 14 (by decide) (List.mem_of_getElem? (i := 1) rfl) rfl dX5_size_1 ?_
  exact tw_iret X hr hlk w h dX5_size_4

abbrev RM_X5_next : Room := { frames := 1, cells := 0, slots := 0, locals := 21 }
theorem iw_X5_next_5 : ∀ w ∈ wsX50, w ∈ wsX5_next := fun w h => List.mem_cons_of_mem _ (List.mem_append_right _ (h))
def wp_X5_next (g : tw_G) (σ : tw_S) (a0 : Nat) (x1 : Int32) (x2 : Int32) (Q : Int32 → tw_S → Prop) : Prop := wp_X5_hasState g σ a0 x1 (fun r2 σ1 => ((r2 = 0) → Q (-1 : Int32) σ1) ∧ (¬ (r2 = 0) → ((x2 < 0) → Q (-1 : Int32) σ1) ∧ (¬ (x2 < 0) → (((2 : Int32) ≤ x2) → Q (-1 : Int32) σ1) ∧ (¬ ((2 : Int32) ≤ x2) → vp_in (((2 : Int32) * x1) + x2) 300 ∧ Q (tw_A σ1 (tw_R g a0 4) (((2 : Int32) * x1) + x2).toNatClampNeg) σ1))))
set_option maxHeartbeats 4000000 in
set_option maxRecDepth 100000 in
theorem ct_X5_next (l : Launch) (D : va_G) (g : tw_G) (hT : tw_T g) (sz : Nat) (σ : tw_S) (a0 : Nat) (h0 : tw_is g 5 a0) (x1 : Int32) (x2 : Int32) (Q : Int32 → tw_S → Prop) (h : wp_X5_next g σ a0 x1 x2 Q) : tw_Mi l yX5_next wsX5_next RM_X5_next D g sz σ [.ref a0, .int x1, .int x2] Q := by
  refine Met.ofW (cc := cX5_next) (maxL := 3) (ret := (some .int)) (by decide) rfl ?_
  intro p e s m args below meth c s₁ B hml hv
  obtain ⟨rfl, hsz, hP, hK, hD0⟩ := hv
  subst hsz
  have hr := B.returns
  have hlk := B.notSynchronized
  have X : CallFix p m c cX5_next 3 s _ wsX5_next RX5 := ⟨B.exec, B.bytes, hml, findClass_of_methodNamed B.named, atoms_spec (ws := wsX5_next) B.pre⟩
  have w := tw_w0 hP hD0
  have hl := lv_entry ([.ref a0, .int x1, .int x2]) (n := 3) (Nat.le_of_ble_eq_true rfl)
  rw [lg_entry_eq]
  generalize (lg_sl ([.ref a0, .int x1, .int x2]) ++ List.replicate (3 - (lg_sl ([.ref a0, .int x1, .int x2])).length) Slot.unset).toArray = ls at hl ⊢
  have hl : lv_has ls 3 [(0, .ref a0), (1, .int x1), (2, .int x2)] := hl
  unfold wp_X5_next at h
  refine lv_aload_n X.1 X.2.1 dX5_next_0 rfl (lv_at hl 0 rfl) ?_
  refine lv_iload_n X.1 X.2.1 dX5_next_1 rfl (lv_at hl 1 rfl) ?_
  refine tw_ci w (va_runV (As := [.int x1]) (rest := []) X (ct_X5_hasState l D g hT _ σ a0 h0 x1 _ h) (cwV 1 X.2.2.2.2 gX5_next_X5_hasState rfl rfl rfl (by decide +kernel) ⟨Nat.le_of_ble_eq_true rfl, Nat.le_of_ble_eq_true rfl⟩) (tw_preV hK w h0 (by decide) rfl [.int x1]) rfl rfl hl.1 rfl (lv_room (Nat.le_of_ble_eq_true rfl)) dX5_next_2 ⟨Nat.zero_le _, Nat.zero_le _⟩) (fun r2 σ1 H locs h w => ?_)
  refine lv_if_eq (tgt := 30) X.1 X.2.1 dX5_next_5 (by decide) (fun c3 => ?_) (fun c3 => ?_)
  · have h := h.1 c3
    refine lv_iconst (v := -1) X.1 X.2.1 dX5_next_30 (by decide) ?_
    exact tw_iret X hr hlk w h dX5_next_31
  · have h := h.2 c3
    refine lv_iload_n X.1 X.2.1 dX5_next_8 rfl (lv_at hl 2 rfl) ?_
    refine lv_if_lt (tgt := 30) X.1 X.2.1 dX5_next_9 (by decide) (fun c4 => ?_) (fun c4 => ?_)
    · have h := h.1 c4
      refine lv_iconst (v := -1) X.1 X.2.1 dX5_next_30 (by decide) ?_
      exact tw_iret X hr hlk w h dX5_next_31
    · have h := h.2 c4
      refine lv_iload_n X.1 X.2.1 dX5_next_12 rfl (lv_at hl 2 rfl) ?_
      refine lv_iconst (v := 2) X.1 X.2.1 dX5_next_13 (by decide) ?_
      refine lv_icmp_ge (tgt := 30) X.1 X.2.1 dX5_next_14 (by decide) (fun c5 => ?_) (fun c5 => ?_)
      · have h := h.1 c5
        refine lv_iconst (v := -1) X.1 X.2.1 dX5_next_30 (by decide) ?_
        exact tw_iret X hr hlk w h dX5_next_31
      · have h := h.2 c5
        refine lv_aload_n X.1 X.2.1 dX5_next_17 rfl (lv_at hl 0 rfl) ?_
        refine tw_get X hK w 5 iw_X5_next_5 h0 (by decide) rfl 4 (by decide) (List.mem_of_getElem? (i := 1) rfl) rfl dX5_next_18 ?_
        refine lv_iconst (v := 2) X.1 X.2.1 dX5_next_21 (by decide) ?_
        refine lv_iload_n X.1 X.2.1 dX5_next_22 rfl (lv_at hl 1 rfl) ?_
        refine lv_imul X.1 X.2.1 dX5_next_23 ?_
        refine lv_iload_n X.1 X.2.1 dX5_next_24 rfl (lv_at hl 2 rfl) ?_
        refine lv_iadd X.1 X.2.1 dX5_next_25 ?_
        obtain ⟨hi6, h⟩ := h
        refine tw_iald X hK w (tw_t_5_4 hT h0) (tw_n_5_4 hT h0) hi6 dX5_next_26 ?_
        refine lv_goto (tgt := 31) X.1 X.2.1 dX5_next_27 (by decide) ?_
        exact tw_iret X hr hlk w h dX5_next_31

abbrev RM_X5_isGood : Room := { frames := 1, cells := 0, slots := 0, locals := 21 }
theorem iw_X5_isGood_5 : ∀ w ∈ wsX50, w ∈ wsX5_isGood := fun w h => List.mem_cons_of_mem _ (List.mem_append_right _ (h))
def wp_X5_isGood (g : tw_G) (σ : tw_S) (a0 : Nat) (x1 : Int32) (Q : Int32 → tw_S → Prop) : Prop := wp_X5_hasState g σ a0 x1 (fun r2 σ1 => ((r2 = 0) → Q (0 : Int32) σ1) ∧ (¬ (r2 = 0) → vp_in x1 150 ∧ (((tw_A σ1 (tw_R g a0 5) x1.toNatClampNeg) = 0) → Q (0 : Int32) σ1) ∧ (¬ ((tw_A σ1 (tw_R g a0 5) x1.toNatClampNeg) = 0) → Q (1 : Int32) σ1)))
set_option maxHeartbeats 4000000 in
set_option maxRecDepth 100000 in
theorem ct_X5_isGood (l : Launch) (D : va_G) (g : tw_G) (hT : tw_T g) (sz : Nat) (σ : tw_S) (a0 : Nat) (h0 : tw_is g 5 a0) (x1 : Int32) (Q : Int32 → tw_S → Prop) (h : wp_X5_isGood g σ a0 x1 Q) : tw_Mi l yX5_isGood wsX5_isGood RM_X5_isGood D g sz σ [.ref a0, .int x1] Q := by
  refine Met.ofW (cc := cX5_isGood) (maxL := 2) (ret := (some .boolean)) (by decide) rfl ?_
  intro p e s m args below meth c s₁ B hml hv
  obtain ⟨rfl, hsz, hP, hK, hD0⟩ := hv
  subst hsz
  have hr := B.returns
  have hlk := B.notSynchronized
  have X : CallFix p m c cX5_isGood 2 s _ wsX5_isGood RX5 := ⟨B.exec, B.bytes, hml, findClass_of_methodNamed B.named, atoms_spec (ws := wsX5_isGood) B.pre⟩
  have w := tw_w0 hP hD0
  have hl := lv_entry ([.ref a0, .int x1]) (n := 2) (Nat.le_of_ble_eq_true rfl)
  rw [lg_entry_eq]
  generalize (lg_sl ([.ref a0, .int x1]) ++ List.replicate (2 - (lg_sl ([.ref a0, .int x1])).length) Slot.unset).toArray = ls at hl ⊢
  have hl : lv_has ls 2 [(0, .ref a0), (1, .int x1)] := hl
  unfold wp_X5_isGood at h
  refine lv_aload_n X.1 X.2.1 dX5_isGood_0 rfl (lv_at hl 0 rfl) ?_
  refine lv_iload_n X.1 X.2.1 dX5_isGood_1 rfl (lv_at hl 1 rfl) ?_
  refine tw_ci w (va_runV (As := [.int x1]) (rest := []) X (ct_X5_hasState l D g hT _ σ a0 h0 x1 _ h) (cwV 1 X.2.2.2.2 gX5_isGood_X5_hasState rfl rfl rfl (by decide +kernel) ⟨Nat.le_of_ble_eq_true rfl, Nat.le_of_ble_eq_true rfl⟩) (tw_preV hK w h0 (by decide) rfl [.int x1]) rfl rfl hl.1 rfl (lv_room (Nat.le_of_ble_eq_true rfl)) dX5_isGood_2 ⟨Nat.zero_le _, Nat.zero_le _⟩) (fun r2 σ1 H locs h w => ?_)
  refine lv_if_eq (tgt := 21) X.1 X.2.1 dX5_isGood_5 (by decide) (fun c3 => ?_) (fun c3 => ?_)
  · have h := h.1 c3
    refine lv_iconst (v := 0) X.1 X.2.1 dX5_isGood_21 (by decide) ?_
    exact tw_zret X hr hlk w (by decide) h dX5_isGood_22
  · have h := h.2 c3
    refine lv_aload_n X.1 X.2.1 dX5_isGood_8 rfl (lv_at hl 0 rfl) ?_
    refine tw_get X hK w 5 iw_X5_isGood_5 h0 (by decide) rfl 5 (by decide) (List.mem_of_getElem? (i := 1) rfl) rfl dX5_isGood_9 ?_
    refine lv_iload_n X.1 X.2.1 dX5_isGood_12 rfl (lv_at hl 1 rfl) ?_
    obtain ⟨hi4, h⟩ := h
    refine tw_zald X hK w (tw_t_5_5 hT h0) (tw_n_5_5 hT h0) hi4 dX5_isGood_13 ?_
    refine lv_if_eq (tgt := 21) X.1 X.2.1 dX5_isGood_14 (by decide) (fun c5 => ?_) (fun c5 => ?_)
    · have h := h.1 c5
      refine lv_iconst (v := 0) X.1 X.2.1 dX5_isGood_21 (by decide) ?_
      exact tw_zret X hr hlk w (by decide) h dX5_isGood_22
    · have h := h.2 c5
      refine lv_iconst (v := 1) X.1 X.2.1 dX5_isGood_17 (by decide) ?_
      refine lv_goto (tgt := 22) X.1 X.2.1 dX5_isGood_18 (by decide) ?_
      exact tw_zret X hr hlk w (by decide) h dX5_isGood_22

abbrev RM_X5_firstWord : Room := { frames := 0, cells := 0, slots := 0, locals := 0 }
theorem iw_X5_firstWord_5 : ∀ w ∈ wsX50, w ∈ wsX5_firstWord := fun w h => List.mem_cons_of_mem _ (List.mem_append_right _ (h))
def wl_X5_firstWord_2 (g : tw_G) (a0 : Nat) (x1 : Int32) (Q : Int32 → tw_S → Prop) (k27 : Int32 → tw_S → Prop) (k40 : tw_S → Prop) : Nat → Int32 → tw_S → Prop
  | 0, _, _ => False
  | n + 1, x2, σ => (((tw_I σ a0 14) ≤ x2) → k40  σ) ∧ (¬ ((tw_I σ a0 14) ≤ x2) → (((150 : Int32) ≤ x2) → k40  σ) ∧ (¬ ((150 : Int32) ≤ x2) → vp_in x2 150 ∧ ((¬ (tw_A σ (tw_R g a0 5) x2.toNatClampNeg) = x1) → wl_X5_firstWord_2 g a0 x1 Q k27 k40 n (x2 + 1) σ) ∧ (((tw_A σ (tw_R g a0 5) x2.toNatClampNeg) = x1) → k27 x2 σ)))
def wp_X5_firstWord (g : tw_G) (σ : tw_S) (a0 : Nat) (x1 : Int32) (Q : Int32 → tw_S → Prop) : Prop := ∃ n2, wl_X5_firstWord_2 g a0 x1 Q (fun v5 σ6 => vp_in v5 150 ∧ Q (tw_A σ6 (tw_R g a0 6) v5.toNatClampNeg) σ6) (fun σ8 => Q (-1 : Int32) σ8) n2 (0 : Int32) σ
set_option maxHeartbeats 4000000 in
set_option maxRecDepth 100000 in
theorem lp_X5_firstWord_2 {p : Program} {l : Launch} {e : Env} {s : State} {m : MethodId} {args : Array Value} {below : List Frame} {meth : Method} {c : Code} {D : va_G} {g : tw_G} (X : CallFix p m c cX5_firstWord 3 s args wsX5_firstWord RX5) (hr : meth.sig.returnType = (some .int)) (hlk : meth.locks = false) (hK : tw_k D g s) (hT : tw_T g) {a0 : Nat} {x1 : Int32} (h0 : tw_is g 5 a0) {Q : Int32 → tw_S → Prop} {k27 : Int32 → tw_S → Prop} {k40 : tw_S → Prop}
    (hk27 : ∀ (x2 : Int32) (σ : tw_S) (H : Heap) (locs : List Loc) (ls : Array Slot), k27 x2 σ → tw_w D g (tw_F g s.heap.size) s σ H locs → lv_has ls 3 [(0, .ref a0), (2, .int x2)] → W p l e RM_X5_firstWord s m args below meth c H locs 0 0 (tw_Qi Q D g below args s) (F0 m 27 ls []))
    (hk40 : ∀  (σ : tw_S) (H : Heap) (locs : List Loc) (ls : Array Slot), k40  σ → tw_w D g (tw_F g s.heap.size) s σ H locs → lv_has ls 3 [] → W p l e RM_X5_firstWord s m args below meth c H locs 0 0 (tw_Qi Q D g below args s) (F0 m 40 ls []))
    : ∀ (n : Nat) (x2 : Int32) (σ : tw_S) (H : Heap) (locs : List Loc) (ls : Array Slot), wl_X5_firstWord_2 g a0 x1 Q k27 k40 n x2 σ → tw_w D g (tw_F g s.heap.size) s σ H locs → lv_has ls 3 [(0, .ref a0), (1, .int x1), (2, .int x2)] → W p l e RM_X5_firstWord s m args below meth c H locs 0 0 (tw_Qi Q D g below args s) (F0 m 2 ls []) := by
  intro n
  induction n with
  | zero =>
    intro x2 σ H locs ls h w hl
    exact False.elim h
  | succ n ih =>
    intro x2 σ H locs ls h w hl
    rw [wl_X5_firstWord_2] at h
    refine lv_iload_n X.1 X.2.1 dX5_firstWord_2 rfl (lv_at hl 2 rfl) ?_
    refine lv_aload_n X.1 X.2.1 dX5_firstWord_3 rfl (lv_at hl 0 rfl) ?_
    refine tw_get X hK w 5 iw_X5_firstWord_5 h0 (by decide) rfl 14 (by decide) (List.mem_of_getElem? (i := 1) rfl) rfl dX5_firstWord_4 ?_
    refine lv_icmp_ge (tgt := 40) X.1 X.2.1 dX5_firstWord_7 (by decide) (fun c1 => ?_) (fun c1 => ?_)
    · have h := h.1 c1
      exact hk40  σ _ _ ls h w (lv_sub hl [] rfl)
    · have h := h.2 c1
      refine lv_iload_n X.1 X.2.1 dX5_firstWord_10 rfl (lv_at hl 2 rfl) ?_
      refine lv_sipush (v := 150) X.1 X.2.1 dX5_firstWord_11 (by decide) ?_
      refine lv_icmp_ge (tgt := 40) X.1 X.2.1 dX5_firstWord_14 (by decide) (fun c2 => ?_) (fun c2 => ?_)
      · have h := h.1 c2
        exact hk40  σ _ _ ls h w (lv_sub hl [] rfl)
      · have h := h.2 c2
        refine lv_aload_n X.1 X.2.1 dX5_firstWord_17 rfl (lv_at hl 0 rfl) ?_
        refine tw_get X hK w 5 iw_X5_firstWord_5 h0 (by decide) rfl 5 (by decide) (List.mem_of_getElem? (i := 2) rfl) rfl dX5_firstWord_18 ?_
        refine lv_iload_n X.1 X.2.1 dX5_firstWord_21 rfl (lv_at hl 2 rfl) ?_
        obtain ⟨hi3, h⟩ := h
        refine tw_zald X hK w (tw_t_5_5 hT h0) (tw_n_5_5 hT h0) hi3 dX5_firstWord_22 ?_
        refine lv_iload_n X.1 X.2.1 dX5_firstWord_23 rfl (lv_at hl 1 rfl) ?_
        refine lv_icmp_ne (tgt := 34) X.1 X.2.1 dX5_firstWord_24 (by decide) (fun c4 => ?_) (fun c4 => ?_)
        · have h := h.1 c4
          refine lv_iinc (v := (x2 + 1)) (lv' := [(2, .int (x2 + 1)), (0, .ref a0), (1, .int x1)]) X.1 X.2.1 dX5_firstWord_34 hl (k := 2) rfl rfl (by decide) rfl (fun ls hl => ?_)
          refine lv_goto (tgt := 2) X.1 X.2.1 dX5_firstWord_37 (by decide) ?_
          exact ih (x2 + 1) σ _ _ ls h w (lv_sub hl [1, 2, 0] rfl)
        · have h := h.2 c4
          exact hk27 x2 σ _ _ ls h w (lv_sub hl [0, 2] rfl)
set_option maxHeartbeats 4000000 in
set_option maxRecDepth 100000 in
theorem ct_X5_firstWord (l : Launch) (D : va_G) (g : tw_G) (hT : tw_T g) (sz : Nat) (σ : tw_S) (a0 : Nat) (h0 : tw_is g 5 a0) (x1 : Int32) (Q : Int32 → tw_S → Prop) (h : wp_X5_firstWord g σ a0 x1 Q) : tw_Mi l yX5_firstWord wsX5_firstWord RM_X5_firstWord D g sz σ [.ref a0, .int x1] Q := by
  refine Met.ofW (cc := cX5_firstWord) (maxL := 3) (ret := (some .int)) (by decide) rfl ?_
  intro p e s m args below meth c s₁ B hml hv
  obtain ⟨rfl, hsz, hP, hK, hD0⟩ := hv
  subst hsz
  have hr := B.returns
  have hlk := B.notSynchronized
  have X : CallFix p m c cX5_firstWord 3 s _ wsX5_firstWord RX5 := ⟨B.exec, B.bytes, hml, findClass_of_methodNamed B.named, atoms_spec (ws := wsX5_firstWord) B.pre⟩
  have w := tw_w0 hP hD0
  have hl := lv_entry ([.ref a0, .int x1]) (n := 3) (Nat.le_of_ble_eq_true rfl)
  rw [lg_entry_eq]
  generalize (lg_sl ([.ref a0, .int x1]) ++ List.replicate (3 - (lg_sl ([.ref a0, .int x1])).length) Slot.unset).toArray = ls at hl ⊢
  have hl : lv_has ls 3 [(0, .ref a0), (1, .int x1)] := hl
  unfold wp_X5_firstWord at h
  refine lv_iconst (v := 0) X.1 X.2.1 dX5_firstWord_0 (by decide) ?_
  refine lv_istore_n (lv' := [(2, .int (0 : Int32)), (0, .ref a0), (1, .int x1)]) X.1 X.2.1 dX5_firstWord_1 rfl hl (by decide) rfl (fun ls hl => ?_)
  obtain ⟨n2, h⟩ := h
  refine lp_X5_firstWord_2 X hr hlk hK hT h0 (fun v5 σ6 H locs ls h w hl => ?_) (fun σ8 H locs ls h w hl => ?_) n2 (0 : Int32) σ _ _ ls h w (lv_sub hl [1, 2, 0] rfl)
  · skip
    refine lv_aload_n X.1 X.2.1 dX5_firstWord_27 rfl (lv_at hl 0 rfl) ?_
    refine tw_get X hK w 5 iw_X5_firstWord_5 h0 (by decide) rfl 6 (by decide) (List.mem_of_getElem? (i := 3) rfl) rfl dX5_firstWord_28 ?_
    refine lv_iload_n X.1 X.2.1 dX5_firstWord_31 rfl (lv_at hl 1 rfl) ?_
    obtain ⟨hi7, h⟩ := h
    refine tw_iald X hK w (tw_t_5_6 hT h0) (tw_n_5_6 hT h0) hi7 dX5_firstWord_32 ?_
    exact tw_iret X hr hlk w h dX5_firstWord_33
  · skip
    refine lv_iconst (v := -1) X.1 X.2.1 dX5_firstWord_40 (by decide) ?_
    exact tw_iret X hr hlk w h dX5_firstWord_41

abbrev RM_X5_countOneLetterMore : Room := { frames := 2, cells := 0, slots := 0, locals := 43 }
theorem iw_X5_countOneLetterMore_5 : ∀ w ∈ wsX50, w ∈ wsX5_countOneLetterMore := fun w h => List.mem_cons_of_mem _ (List.mem_append_right _ (h))
def wl_X5_countOneLetterMore_27 (g : tw_G) (a0 : Nat) (x1 : Int32) (Q : tw_S → Prop) (k68 : tw_S → Prop) : Nat → Int32 → tw_S → Prop
  | 0, _, _ => False
  | n + 1, x2, σ => (((2 : Int32) ≤ x2) → k68  σ) ∧ (¬ ((2 : Int32) ≤ x2) → wp_X5_next g σ a0 x1 x2 (fun r6 σ5 => wp_X5_hasState g σ5 a0 r6 (fun r8 σ7 => ((r8 = 0) → wl_X5_countOneLetterMore_27 g a0 x1 Q k68 n (x2 + 1) σ7) ∧ (¬ (r8 = 0) → vp_in r6 150 ∧ vp_in x1 150 ∧ vp_in r6 150 ∧ ∀ σ13, σ13 = (tw_sA σ7 (tw_R g a0 11) (upd (tw_A σ7 (tw_R g a0 11)) r6.toNatClampNeg ((tw_A σ7 (tw_R g a0 11) r6.toNatClampNeg) + (tw_A σ7 (tw_R g a0 10) x1.toNatClampNeg)))) → wl_X5_countOneLetterMore_27 g a0 x1 Q k68 n (x2 + 1) σ13))))
def wl_X5_countOneLetterMore_10 (g : tw_G) (a0 : Nat) (Q : tw_S → Prop) (k74 : tw_S → Prop) : Nat → Int32 → tw_S → Prop
  | 0, _, _ => False
  | n + 1, x1, σ => (((tw_I σ a0 14) ≤ x1) → k74  σ) ∧ (¬ ((tw_I σ a0 14) ≤ x1) → (((150 : Int32) ≤ x1) → k74  σ) ∧ (¬ ((150 : Int32) ≤ x1) → ∃ n27, wl_X5_countOneLetterMore_27 g a0 x1 Q (fun σ14 => wl_X5_countOneLetterMore_10 g a0 Q k74 n (x1 + 1) σ14) n27 (0 : Int32) σ))
def wp_X5_countOneLetterMore (g : tw_G) (σ : tw_S) (a0 : Nat) (Q : tw_S → Prop) : Prop := wp_J7_fill_53178 g σ (tw_R g a0 11) 150 (0 : Int32) (fun σ1 => ∃ n10, wl_X5_countOneLetterMore_10 g a0 Q (fun σ15 => ∀ σ16, σ16 = (tw_sA σ15 (tw_R g a0 10) (va_cpy (tw_A σ15 (tw_R g a0 11)) (tw_A σ15 (tw_R g a0 10)) (0 : Int32).toNatClampNeg (0 : Int32).toNatClampNeg (150 : Int32).toNatClampNeg)) → Q σ16) n10 (0 : Int32) σ1)
set_option maxHeartbeats 4000000 in
set_option maxRecDepth 100000 in
theorem lp_X5_countOneLetterMore_27 {p : Program} {l : Launch} {e : Env} {s : State} {m : MethodId} {args : Array Value} {below : List Frame} {meth : Method} {c : Code} {D : va_G} {g : tw_G} (X : CallFix p m c cX5_countOneLetterMore 4 s args wsX5_countOneLetterMore RX5) (hr : meth.sig.returnType = none) (hlk : meth.locks = false) (hK : tw_k D g s) (hT : tw_T g) {a0 : Nat} {x1 : Int32} (h0 : tw_is g 5 a0) {Q : tw_S → Prop} {k68 : tw_S → Prop}
    (hk68 : ∀  (σ : tw_S) (H : Heap) (locs : List Loc) (ls : Array Slot), k68  σ → tw_w D g (tw_F g s.heap.size) s σ H locs → lv_has ls 4 [(0, .ref a0), (1, .int x1)] → W p l e RM_X5_countOneLetterMore s m args below meth c H locs 0 0 (tw_Qv Q D g below args s) (F0 m 68 ls []))
    : ∀ (n : Nat) (x2 : Int32) (σ : tw_S) (H : Heap) (locs : List Loc) (ls : Array Slot), wl_X5_countOneLetterMore_27 g a0 x1 Q k68 n x2 σ → tw_w D g (tw_F g s.heap.size) s σ H locs → lv_has ls 4 [(0, .ref a0), (1, .int x1), (2, .int x2)] → W p l e RM_X5_countOneLetterMore s m args below meth c H locs 0 0 (tw_Qv Q D g below args s) (F0 m 27 ls []) := by
  intro n
  induction n with
  | zero =>
    intro x2 σ H locs ls h w hl
    exact False.elim h
  | succ n ih =>
    intro x2 σ H locs ls h w hl
    rw [wl_X5_countOneLetterMore_27] at h
    refine lv_iload_n X.1 X.2.1 dX5_countOneLetterMore_27 rfl (lv_at hl 2 rfl) ?_
    refine lv_iconst (v := 2) X.1 X.2.1 dX5_countOneLetterMore_28 (by decide) ?_
    refine lv_icmp_ge (tgt := 68) X.1 X.2.1 dX5_countOneLetterMore_29 (by decide) (fun c4 => ?_) (fun c4 => ?_)
    · have h := h.1 c4
      exact hk68  σ _ _ ls h w (lv_sub hl [0, 1] rfl)
    · have h := h.2 c4
      refine lv_aload_n X.1 X.2.1 dX5_countOneLetterMore_32 rfl (lv_at hl 0 rfl) ?_
      refine lv_iload_n X.1 X.2.1 dX5_countOneLetterMore_33 rfl (lv_at hl 1 rfl) ?_
      refine lv_iload_n X.1 X.2.1 dX5_countOneLetterMore_34 rfl (lv_at hl 2 rfl) ?_
      refine tw_ci w (va_runV (As := [.int x1, .int x2]) (rest := []) X (ct_X5_next l D g hT _ σ a0 h0 x1 x2 _ h) (cwV 2 X.2.2.2.2 gX5_countOneLetterMore_X5_next rfl rfl rfl (by decide +kernel) ⟨Nat.le_of_ble_eq_true rfl, Nat.le_of_ble_eq_true rfl⟩) (tw_preV hK w h0 (by decide) rfl [.int x1, .int x2]) rfl rfl hl.1 rfl (lv_room (Nat.le_of_ble_eq_true rfl)) dX5_countOneLetterMore_35 ⟨Nat.zero_le _, Nat.zero_le _⟩) (fun r6 σ5 H locs h w => ?_)
      refine lv_istore_n (lv' := [(3, .int r6), (0, .ref a0), (1, .int x1), (2, .int x2)]) X.1 X.2.1 dX5_countOneLetterMore_38 rfl hl (by decide) rfl (fun ls hl => ?_)
      refine lv_aload_n X.1 X.2.1 dX5_countOneLetterMore_39 rfl (lv_at hl 1 rfl) ?_
      refine lv_iload_n X.1 X.2.1 dX5_countOneLetterMore_40 rfl (lv_at hl 0 rfl) ?_
      refine tw_ci w (va_runV (As := [.int r6]) (rest := []) X (ct_X5_hasState l D g hT _ σ5 a0 h0 r6 _ h) (cwV 1 X.2.2.2.2 gX5_countOneLetterMore_X5_hasState rfl rfl rfl (by decide +kernel) ⟨Nat.le_of_ble_eq_true rfl, Nat.le_of_ble_eq_true rfl⟩) (tw_preV hK w h0 (by decide) rfl [.int r6]) rfl rfl hl.1 rfl (lv_room (Nat.le_of_ble_eq_true rfl)) dX5_countOneLetterMore_41 ⟨Nat.zero_le _, Nat.zero_le _⟩) (fun r8 σ7 H locs h w => ?_)
      refine lv_if_eq (tgt := 62) X.1 X.2.1 dX5_countOneLetterMore_44 (by decide) (fun c9 => ?_) (fun c9 => ?_)
      · have h := h.1 c9
        refine lv_iinc (v := (x2 + 1)) (lv' := [(2, .int (x2 + 1)), (3, .int r6), (0, .ref a0), (1, .int x1)]) X.1 X.2.1 dX5_countOneLetterMore_62 hl (k := 3) rfl rfl (by decide) rfl (fun ls hl => ?_)
        refine lv_goto (tgt := 27) X.1 X.2.1 dX5_countOneLetterMore_65 (by decide) ?_
        exact ih (x2 + 1) σ7 _ _ ls h w (lv_sub hl [2, 3, 0] rfl)
      · have h := h.2 c9
        refine lv_aload_n X.1 X.2.1 dX5_countOneLetterMore_47 rfl (lv_at hl 1 rfl) ?_
        refine tw_get X hK w 5 iw_X5_countOneLetterMore_5 h0 (by decide) rfl 11 (by decide) (List.mem_of_getElem? (i := 1) rfl) rfl dX5_countOneLetterMore_48 ?_
        refine lv_iload_n X.1 X.2.1 dX5_countOneLetterMore_51 rfl (lv_at hl 0 rfl) ?_
        refine lv_dup2_11 X.1 X.2.1 dX5_countOneLetterMore_52 rfl rfl ?_
        obtain ⟨hi10, h⟩ := h
        refine tw_iald X hK w (tw_t_5_11 hT h0) (tw_n_5_11 hT h0) hi10 dX5_countOneLetterMore_53 ?_
        refine lv_aload_n X.1 X.2.1 dX5_countOneLetterMore_54 rfl (lv_at hl 1 rfl) ?_
        refine tw_get X hK w 5 iw_X5_countOneLetterMore_5 h0 (by decide) rfl 10 (by decide) (List.mem_of_getElem? (i := 3) rfl) rfl dX5_countOneLetterMore_55 ?_
        refine lv_iload_n X.1 X.2.1 dX5_countOneLetterMore_58 rfl (lv_at hl 2 rfl) ?_
        obtain ⟨hi11, h⟩ := h
        refine tw_iald X hK w (tw_t_5_10 hT h0) (tw_n_5_10 hT h0) hi11 dX5_countOneLetterMore_59 ?_
        refine lv_iadd X.1 X.2.1 dX5_countOneLetterMore_60 ?_
        obtain ⟨hi12, h⟩ := h
        refine tw_iast X hK w (tw_t_5_11 hT h0) (tw_n_5_11 hT h0) hi12 dX5_countOneLetterMore_61 (fun σ13 H locs eσ13 w => ?_)
        have h := h _ eσ13
        refine lv_iinc (v := (x2 + 1)) (lv' := [(2, .int (x2 + 1)), (3, .int r6), (0, .ref a0), (1, .int x1)]) X.1 X.2.1 dX5_countOneLetterMore_62 hl (k := 3) rfl rfl (by decide) rfl (fun ls hl => ?_)
        refine lv_goto (tgt := 27) X.1 X.2.1 dX5_countOneLetterMore_65 (by decide) ?_
        exact ih (x2 + 1) σ13 _ _ ls h w (lv_sub hl [2, 3, 0] rfl)
set_option maxHeartbeats 4000000 in
set_option maxRecDepth 100000 in
theorem lp_X5_countOneLetterMore_10 {p : Program} {l : Launch} {e : Env} {s : State} {m : MethodId} {args : Array Value} {below : List Frame} {meth : Method} {c : Code} {D : va_G} {g : tw_G} (X : CallFix p m c cX5_countOneLetterMore 4 s args wsX5_countOneLetterMore RX5) (hr : meth.sig.returnType = none) (hlk : meth.locks = false) (hK : tw_k D g s) (hT : tw_T g) {a0 : Nat} (h0 : tw_is g 5 a0) {Q : tw_S → Prop} {k74 : tw_S → Prop}
    (hk74 : ∀  (σ : tw_S) (H : Heap) (locs : List Loc) (ls : Array Slot), k74  σ → tw_w D g (tw_F g s.heap.size) s σ H locs → lv_has ls 4 [(0, .ref a0)] → W p l e RM_X5_countOneLetterMore s m args below meth c H locs 0 0 (tw_Qv Q D g below args s) (F0 m 74 ls []))
    : ∀ (n : Nat) (x1 : Int32) (σ : tw_S) (H : Heap) (locs : List Loc) (ls : Array Slot), wl_X5_countOneLetterMore_10 g a0 Q k74 n x1 σ → tw_w D g (tw_F g s.heap.size) s σ H locs → lv_has ls 4 [(0, .ref a0), (1, .int x1)] → W p l e RM_X5_countOneLetterMore s m args below meth c H locs 0 0 (tw_Qv Q D g below args s) (F0 m 10 ls []) := by
  intro n
  induction n with
  | zero =>
    intro x1 σ H locs ls h w hl
    exact False.elim h
  | succ n ih =>
    intro x1 σ H locs ls h w hl
    rw [wl_X5_countOneLetterMore_10] at h
    refine lv_iload_n X.1 X.2.1 dX5_countOneLetterMore_10 rfl (lv_at hl 1 rfl) ?_
    refine lv_aload_n X.1 X.2.1 dX5_countOneLetterMore_11 rfl (lv_at hl 0 rfl) ?_
    refine tw_get X hK w 5 iw_X5_countOneLetterMore_5 h0 (by decide) rfl 14 (by decide) (List.mem_of_getElem? (i := 2) rfl) rfl dX5_countOneLetterMore_12 ?_
    refine lv_icmp_ge (tgt := 74) X.1 X.2.1 dX5_countOneLetterMore_15 (by decide) (fun c2 => ?_) (fun c2 => ?_)
    · have h := h.1 c2
      exact hk74  σ _ _ ls h w (lv_sub hl [0] rfl)
    · have h := h.2 c2
      refine lv_iload_n X.1 X.2.1 dX5_countOneLetterMore_18 rfl (lv_at hl 1 rfl) ?_
      refine lv_sipush (v := 150) X.1 X.2.1 dX5_countOneLetterMore_19 (by decide) ?_
      refine lv_icmp_ge (tgt := 74) X.1 X.2.1 dX5_countOneLetterMore_22 (by decide) (fun c3 => ?_) (fun c3 => ?_)
      · have h := h.1 c3
        exact hk74  σ _ _ ls h w (lv_sub hl [0] rfl)
      · have h := h.2 c3
        refine lv_iconst (v := 0) X.1 X.2.1 dX5_countOneLetterMore_25 (by decide) ?_
        refine lv_istore_n (lv' := [(2, .int (0 : Int32)), (0, .ref a0), (1, .int x1)]) X.1 X.2.1 dX5_countOneLetterMore_26 rfl hl (by decide) rfl (fun ls hl => ?_)
        obtain ⟨n27, h⟩ := h
        refine lp_X5_countOneLetterMore_27 X hr hlk hK hT h0 (fun σ14 H locs ls h w hl => ?_) n27 (0 : Int32) σ _ _ ls h w (lv_sub hl [1, 2, 0] rfl)
        · skip
          refine lv_iinc (v := (x1 + 1)) (lv' := [(1, .int (x1 + 1)), (0, .ref a0)]) X.1 X.2.1 dX5_countOneLetterMore_68 hl (k := 1) rfl rfl (by decide) rfl (fun ls hl => ?_)
          refine lv_goto (tgt := 10) X.1 X.2.1 dX5_countOneLetterMore_71 (by decide) ?_
          exact ih (x1 + 1) σ14 _ _ ls h w (lv_sub hl [1, 0] rfl)
set_option maxHeartbeats 4000000 in
set_option maxRecDepth 100000 in
theorem ct_X5_countOneLetterMore (l : Launch) (D : va_G) (g : tw_G) (hT : tw_T g) (sz : Nat) (σ : tw_S) (a0 : Nat) (h0 : tw_is g 5 a0) (Q : tw_S → Prop) (h : wp_X5_countOneLetterMore g σ a0 Q) : tw_Mv l yX5_countOneLetterMore wsX5_countOneLetterMore RM_X5_countOneLetterMore D g sz σ [.ref a0] Q := by
  refine Met.ofW (cc := cX5_countOneLetterMore) (maxL := 4) (ret := none) (by decide) rfl ?_
  intro p e s m args below meth c s₁ B hml hv
  obtain ⟨rfl, hsz, hP, hK, hD0⟩ := hv
  subst hsz
  have hr := B.returns
  have hlk := B.notSynchronized
  have X : CallFix p m c cX5_countOneLetterMore 4 s _ wsX5_countOneLetterMore RX5 := ⟨B.exec, B.bytes, hml, findClass_of_methodNamed B.named, atoms_spec (ws := wsX5_countOneLetterMore) B.pre⟩
  have w := tw_w0 hP hD0
  have hl := lv_entry ([.ref a0]) (n := 4) (Nat.le_of_ble_eq_true rfl)
  rw [lg_entry_eq]
  generalize (lg_sl ([.ref a0]) ++ List.replicate (4 - (lg_sl ([.ref a0])).length) Slot.unset).toArray = ls at hl ⊢
  have hl : lv_has ls 4 [(0, .ref a0)] := hl
  unfold wp_X5_countOneLetterMore at h
  refine lv_aload_n X.1 X.2.1 dX5_countOneLetterMore_0 rfl (lv_at hl 0 rfl) ?_
  refine tw_get X hK w 5 iw_X5_countOneLetterMore_5 h0 (by decide) rfl 11 (by decide) (List.mem_of_getElem? (i := 1) rfl) rfl dX5_countOneLetterMore_1 ?_
  refine lv_iconst (v := 0) X.1 X.2.1 dX5_countOneLetterMore_4 (by decide) ?_
  refine tw_cv w (va_runS (As := [.ref (tw_R g a0 11), .int (0 : Int32)]) (rest := []) X (ct_J7_fill_53178 l D g hT _ σ (tw_R g a0 11) (tw_t_5_11 hT h0) 150 (tw_n_5_11 hT h0) (0 : Int32) _ h) (va_cwS 2 X.2.2.2.2 gX5_countOneLetterMore_J7_fill_53178 rfl rfl rfl (by decide +kernel) ⟨Nat.le_of_ble_eq_true rfl, Nat.le_of_ble_eq_true rfl⟩) (tw_pre hK w [.ref (tw_R g a0 11), .int (0 : Int32)]) rfl rfl hl.1 rfl (lv_room (Nat.le_of_ble_eq_true rfl)) dX5_countOneLetterMore_5 ⟨Nat.zero_le _, Nat.zero_le _⟩) (fun σ1 H locs h w => ?_)
  refine lv_iconst (v := 0) X.1 X.2.1 dX5_countOneLetterMore_8 (by decide) ?_
  refine lv_istore_n (lv' := [(1, .int (0 : Int32)), (0, .ref a0)]) X.1 X.2.1 dX5_countOneLetterMore_9 rfl hl (by decide) rfl (fun ls hl => ?_)
  obtain ⟨n10, h⟩ := h
  refine lp_X5_countOneLetterMore_10 X hr hlk hK hT h0 (fun σ15 H locs ls h w hl => ?_) n10 (0 : Int32) σ1 _ _ ls h w (lv_sub hl [1, 0] rfl)
  · skip
    refine lv_aload_n X.1 X.2.1 dX5_countOneLetterMore_74 rfl (lv_at hl 0 rfl) ?_
    refine tw_get X hK w 5 iw_X5_countOneLetterMore_5 h0 (by decide) rfl 11 (by decide) (List.mem_of_getElem? (i := 1) rfl) rfl dX5_countOneLetterMore_75 ?_
    refine lv_iconst (v := 0) X.1 X.2.1 dX5_countOneLetterMore_78 (by decide) ?_
    refine lv_aload_n X.1 X.2.1 dX5_countOneLetterMore_79 rfl (lv_at hl 0 rfl) ?_
    refine tw_get X hK w 5 iw_X5_countOneLetterMore_5 h0 (by decide) rfl 10 (by decide) (List.mem_of_getElem? (i := 3) rfl) rfl dX5_countOneLetterMore_80 ?_
    refine lv_iconst (v := 0) X.1 X.2.1 dX5_countOneLetterMore_83 (by decide) ?_
    refine lv_sipush (v := 150) X.1 X.2.1 dX5_countOneLetterMore_84 (by decide) ?_
    refine tw_copy X hK w hl.1 (List.mem_of_getElem? (i := 4) rfl) (List.mem_of_getElem? (i := 5) rfl) (List.mem_of_getElem? (i := 6) rfl) (List.mem_of_getElem? (i := 7) rfl) (tw_t_5_11 hT h0) (tw_n_5_11 hT h0) (tw_t_5_10 hT h0) (tw_n_5_10 hT h0) (by decide) (by decide) (by decide) (by decide) (by decide) (Nat.le_of_ble_eq_true rfl) (Nat.le_of_ble_eq_true rfl) dX5_countOneLetterMore_87 (fun σ16 H locs eσ16 w => ?_)
    have h := h _ eσ16
    exact tw_vret X hr hlk w h dX5_countOneLetterMore_90

abbrev RM_X5_countWords : Room := { frames := 3, cells := 0, slots := 0, locals := 66 }
theorem iw_X5_countWords_5 : ∀ w ∈ wsX50, w ∈ wsX5_countWords := fun w h => List.mem_cons_of_mem _ (List.mem_append_right _ (h))
def wl_X5_countWords_17 (g : tw_G) (a0 : Nat) (x1 : Int32) (Q : Int32 → tw_S → Prop) (k32 : tw_S → Prop) : Nat → Int32 → tw_S → Prop
  | 0, _, _ => False
  | n + 1, x2, σ => ((x1 ≤ x2) → k32  σ) ∧ (¬ (x1 ≤ x2) → wp_X5_countOneLetterMore g σ a0 (fun σ4 => wl_X5_countWords_17 g a0 x1 Q k32 n (x2 + 1) σ4))
def wl_X5_countWords_36 (g : tw_G) (a0 : Nat) (Q : Int32 → tw_S → Prop) (k79 : Int32 → tw_S → Prop) : Nat → Int32 → Int32 → tw_S → Prop
  | 0, _, _, _ => False
  | n + 1, x2, x3, σ => (((tw_I σ a0 14) ≤ x3) → k79 x2 σ) ∧ (¬ ((tw_I σ a0 14) ≤ x3) → (((150 : Int32) ≤ x3) → k79 x2 σ) ∧ (¬ ((150 : Int32) ≤ x3) → vp_in x3 150 ∧ (((tw_A σ (tw_R g a0 5) x3.toNatClampNeg) = 0) → wl_X5_countWords_36 g a0 Q k79 n (x2 + (0 : Int32)) (x3 + 1) σ) ∧ (¬ ((tw_A σ (tw_R g a0 5) x3.toNatClampNeg) = 0) → vp_in x3 150 ∧ ∀ z11, z11 = (x2 + (tw_A σ (tw_R g a0 10) x3.toNatClampNeg)) → wl_X5_countWords_36 g a0 Q k79 n z11 (x3 + 1) σ)))
def wp_X5_countWords (g : tw_G) (σ : tw_S) (a0 : Nat) (x1 : Int32) (Q : Int32 → tw_S → Prop) : Prop := wp_J7_fill_53178 g σ (tw_R g a0 10) 150 (0 : Int32) (fun σ1 => ∀ σ2, σ2 = (tw_sA σ1 (tw_R g a0 10) (upd (tw_A σ1 (tw_R g a0 10)) (0 : Int32).toNatClampNeg (1 : Int32))) → ∃ n17, wl_X5_countWords_17 g a0 x1 Q (fun σ5 => ∃ n36, wl_X5_countWords_36 g a0 Q (fun v12 σ13 => Q v12 σ13) n36 (0 : Int32) (0 : Int32) σ5) n17 (0 : Int32) σ2)
set_option maxHeartbeats 4000000 in
set_option maxRecDepth 100000 in
theorem lp_X5_countWords_17 {p : Program} {l : Launch} {e : Env} {s : State} {m : MethodId} {args : Array Value} {below : List Frame} {meth : Method} {c : Code} {D : va_G} {g : tw_G} (X : CallFix p m c cX5_countWords 4 s args wsX5_countWords RX5) (hr : meth.sig.returnType = (some .int)) (hlk : meth.locks = false) (hK : tw_k D g s) (hT : tw_T g) {a0 : Nat} {x1 : Int32} (h0 : tw_is g 5 a0) {Q : Int32 → tw_S → Prop} {k32 : tw_S → Prop}
    (hk32 : ∀  (σ : tw_S) (H : Heap) (locs : List Loc) (ls : Array Slot), k32  σ → tw_w D g (tw_F g s.heap.size) s σ H locs → lv_has ls 4 [(0, .ref a0)] → W p l e RM_X5_countWords s m args below meth c H locs 0 0 (tw_Qi Q D g below args s) (F0 m 32 ls []))
    : ∀ (n : Nat) (x2 : Int32) (σ : tw_S) (H : Heap) (locs : List Loc) (ls : Array Slot), wl_X5_countWords_17 g a0 x1 Q k32 n x2 σ → tw_w D g (tw_F g s.heap.size) s σ H locs → lv_has ls 4 [(0, .ref a0), (1, .int x1), (2, .int x2)] → W p l e RM_X5_countWords s m args below meth c H locs 0 0 (tw_Qi Q D g below args s) (F0 m 17 ls []) := by
  intro n
  induction n with
  | zero =>
    intro x2 σ H locs ls h w hl
    exact False.elim h
  | succ n ih =>
    intro x2 σ H locs ls h w hl
    rw [wl_X5_countWords_17] at h
    refine lv_iload_n X.1 X.2.1 dX5_countWords_17 rfl (lv_at hl 2 rfl) ?_
    refine lv_iload_n X.1 X.2.1 dX5_countWords_18 rfl (lv_at hl 1 rfl) ?_
    refine lv_icmp_ge (tgt := 32) X.1 X.2.1 dX5_countWords_19 (by decide) (fun c3 => ?_) (fun c3 => ?_)
    · have h := h.1 c3
      exact hk32  σ _ _ ls h w (lv_sub hl [0] rfl)
    · have h := h.2 c3
      refine lv_aload_n X.1 X.2.1 dX5_countWords_22 rfl (lv_at hl 0 rfl) ?_
      refine tw_cv w (va_runV (As := []) (rest := []) X (ct_X5_countOneLetterMore l D g hT _ σ a0 h0 _ h) (cwV 0 X.2.2.2.2 gX5_countWords_X5_countOneLetterMore rfl rfl rfl (by decide +kernel) ⟨Nat.le_of_ble_eq_true rfl, Nat.le_of_ble_eq_true rfl⟩) (tw_preV hK w h0 (by decide) rfl []) rfl rfl hl.1 rfl (lv_room (Nat.le_of_ble_eq_true rfl)) dX5_countWords_23 ⟨Nat.zero_le _, Nat.zero_le _⟩) (fun σ4 H locs h w => ?_)
      refine lv_iinc (v := (x2 + 1)) (lv' := [(2, .int (x2 + 1)), (0, .ref a0), (1, .int x1)]) X.1 X.2.1 dX5_countWords_26 hl (k := 2) rfl rfl (by decide) rfl (fun ls hl => ?_)
      refine lv_goto (tgt := 17) X.1 X.2.1 dX5_countWords_29 (by decide) ?_
      exact ih (x2 + 1) σ4 _ _ ls h w (lv_sub hl [1, 2, 0] rfl)
set_option maxHeartbeats 4000000 in
set_option maxRecDepth 100000 in
theorem lp_X5_countWords_36 {p : Program} {l : Launch} {e : Env} {s : State} {m : MethodId} {args : Array Value} {below : List Frame} {meth : Method} {c : Code} {D : va_G} {g : tw_G} (X : CallFix p m c cX5_countWords 4 s args wsX5_countWords RX5) (hr : meth.sig.returnType = (some .int)) (hlk : meth.locks = false) (hK : tw_k D g s) (hT : tw_T g) {a0 : Nat} (h0 : tw_is g 5 a0) {Q : Int32 → tw_S → Prop} {k79 : Int32 → tw_S → Prop}
    (hk79 : ∀ (x2 : Int32) (σ : tw_S) (H : Heap) (locs : List Loc) (ls : Array Slot), k79 x2 σ → tw_w D g (tw_F g s.heap.size) s σ H locs → lv_has ls 4 [(2, .int x2)] → W p l e RM_X5_countWords s m args below meth c H locs 0 0 (tw_Qi Q D g below args s) (F0 m 79 ls []))
    : ∀ (n : Nat) (x2 : Int32) (x3 : Int32) (σ : tw_S) (H : Heap) (locs : List Loc) (ls : Array Slot), wl_X5_countWords_36 g a0 Q k79 n x2 x3 σ → tw_w D g (tw_F g s.heap.size) s σ H locs → lv_has ls 4 [(0, .ref a0), (2, .int x2), (3, .int x3)] → W p l e RM_X5_countWords s m args below meth c H locs 0 0 (tw_Qi Q D g below args s) (F0 m 36 ls []) := by
  intro n
  induction n with
  | zero =>
    intro x2 x3 σ H locs ls h w hl
    exact False.elim h
  | succ n ih =>
    intro x2 x3 σ H locs ls h w hl
    rw [wl_X5_countWords_36] at h
    refine lv_iload_n X.1 X.2.1 dX5_countWords_36 rfl (lv_at hl 2 rfl) ?_
    refine lv_aload_n X.1 X.2.1 dX5_countWords_37 rfl (lv_at hl 0 rfl) ?_
    refine tw_get X hK w 5 iw_X5_countWords_5 h0 (by decide) rfl 14 (by decide) (List.mem_of_getElem? (i := 2) rfl) rfl dX5_countWords_38 ?_
    refine lv_icmp_ge (tgt := 79) X.1 X.2.1 dX5_countWords_41 (by decide) (fun c6 => ?_) (fun c6 => ?_)
    · have h := h.1 c6
      exact hk79 x2 σ _ _ ls h w (lv_sub hl [1] rfl)
    · have h := h.2 c6
      refine lv_iload_n X.1 X.2.1 dX5_countWords_44 rfl (lv_at hl 2 rfl) ?_
      refine lv_sipush (v := 150) X.1 X.2.1 dX5_countWords_45 (by decide) ?_
      refine lv_icmp_ge (tgt := 79) X.1 X.2.1 dX5_countWords_48 (by decide) (fun c7 => ?_) (fun c7 => ?_)
      · have h := h.1 c7
        exact hk79 x2 σ _ _ ls h w (lv_sub hl [1] rfl)
      · have h := h.2 c7
        refine lv_iload_n X.1 X.2.1 dX5_countWords_51 rfl (lv_at hl 1 rfl) ?_
        refine lv_aload_n X.1 X.2.1 dX5_countWords_52 rfl (lv_at hl 0 rfl) ?_
        refine tw_get X hK w 5 iw_X5_countWords_5 h0 (by decide) rfl 5 (by decide) (List.mem_of_getElem? (i := 3) rfl) rfl dX5_countWords_53 ?_
        refine lv_iload_n X.1 X.2.1 dX5_countWords_56 rfl (lv_at hl 2 rfl) ?_
        obtain ⟨hi8, h⟩ := h
        refine tw_zald X hK w (tw_t_5_5 hT h0) (tw_n_5_5 hT h0) hi8 dX5_countWords_57 ?_
        refine lv_if_eq (tgt := 70) X.1 X.2.1 dX5_countWords_58 (by decide) (fun c9 => ?_) (fun c9 => ?_)
        · have h := h.1 c9
          refine lv_iconst (v := 0) X.1 X.2.1 dX5_countWords_70 (by decide) ?_
          refine lv_iadd X.1 X.2.1 dX5_countWords_71 ?_
          refine lv_istore_n (lv' := [(2, .int (x2 + (0 : Int32))), (0, .ref a0), (3, .int x3)]) X.1 X.2.1 dX5_countWords_72 rfl hl (by decide) rfl (fun ls hl => ?_)
          refine lv_iinc (v := (x3 + 1)) (lv' := [(3, .int (x3 + 1)), (2, .int (x2 + (0 : Int32))), (0, .ref a0)]) X.1 X.2.1 dX5_countWords_73 hl (k := 2) rfl rfl (by decide) rfl (fun ls hl => ?_)
          refine lv_goto (tgt := 36) X.1 X.2.1 dX5_countWords_76 (by decide) ?_
          exact ih (x2 + (0 : Int32)) (x3 + 1) σ _ _ ls h w (lv_sub hl [2, 1, 0] rfl)
        · have h := h.2 c9
          refine lv_aload_n X.1 X.2.1 dX5_countWords_61 rfl (lv_at hl 0 rfl) ?_
          refine tw_get X hK w 5 iw_X5_countWords_5 h0 (by decide) rfl 10 (by decide) (List.mem_of_getElem? (i := 1) rfl) rfl dX5_countWords_62 ?_
          refine lv_iload_n X.1 X.2.1 dX5_countWords_65 rfl (lv_at hl 2 rfl) ?_
          obtain ⟨hi10, h⟩ := h
          refine tw_iald X hK w (tw_t_5_10 hT h0) (tw_n_5_10 hT h0) hi10 dX5_countWords_66 ?_
          refine lv_goto (tgt := 71) X.1 X.2.1 dX5_countWords_67 (by decide) ?_
          refine lv_iadd X.1 X.2.1 dX5_countWords_71 ?_
          refine lv_topi (fun z11 ez11 => ?_)
          have h := h _ ez11
          refine lv_istore_n (lv' := [(2, .int z11), (0, .ref a0), (3, .int x3)]) X.1 X.2.1 dX5_countWords_72 rfl hl (by decide) rfl (fun ls hl => ?_)
          refine lv_iinc (v := (x3 + 1)) (lv' := [(3, .int (x3 + 1)), (2, .int z11), (0, .ref a0)]) X.1 X.2.1 dX5_countWords_73 hl (k := 2) rfl rfl (by decide) rfl (fun ls hl => ?_)
          refine lv_goto (tgt := 36) X.1 X.2.1 dX5_countWords_76 (by decide) ?_
          exact ih z11 (x3 + 1) σ _ _ ls h w (lv_sub hl [2, 1, 0] rfl)
set_option maxHeartbeats 4000000 in
set_option maxRecDepth 100000 in
theorem ct_X5_countWords (l : Launch) (D : va_G) (g : tw_G) (hT : tw_T g) (sz : Nat) (σ : tw_S) (a0 : Nat) (h0 : tw_is g 5 a0) (x1 : Int32) (Q : Int32 → tw_S → Prop) (h : wp_X5_countWords g σ a0 x1 Q) : tw_Mi l yX5_countWords wsX5_countWords RM_X5_countWords D g sz σ [.ref a0, .int x1] Q := by
  refine Met.ofW (cc := cX5_countWords) (maxL := 4) (ret := (some .int)) (by decide) rfl ?_
  intro p e s m args below meth c s₁ B hml hv
  obtain ⟨rfl, hsz, hP, hK, hD0⟩ := hv
  subst hsz
  have hr := B.returns
  have hlk := B.notSynchronized
  have X : CallFix p m c cX5_countWords 4 s _ wsX5_countWords RX5 := ⟨B.exec, B.bytes, hml, findClass_of_methodNamed B.named, atoms_spec (ws := wsX5_countWords) B.pre⟩
  have w := tw_w0 hP hD0
  have hl := lv_entry ([.ref a0, .int x1]) (n := 4) (Nat.le_of_ble_eq_true rfl)
  rw [lg_entry_eq]
  generalize (lg_sl ([.ref a0, .int x1]) ++ List.replicate (4 - (lg_sl ([.ref a0, .int x1])).length) Slot.unset).toArray = ls at hl ⊢
  have hl : lv_has ls 4 [(0, .ref a0), (1, .int x1)] := hl
  unfold wp_X5_countWords at h
  refine lv_aload_n X.1 X.2.1 dX5_countWords_0 rfl (lv_at hl 0 rfl) ?_
  refine tw_get X hK w 5 iw_X5_countWords_5 h0 (by decide) rfl 10 (by decide) (List.mem_of_getElem? (i := 1) rfl) rfl dX5_countWords_1 ?_
  refine lv_iconst (v := 0) X.1 X.2.1 dX5_countWords_4 (by decide) ?_
  refine tw_cv w (va_runS (As := [.ref (tw_R g a0 10), .int (0 : Int32)]) (rest := []) X (ct_J7_fill_53178 l D g hT _ σ (tw_R g a0 10) (tw_t_5_10 hT h0) 150 (tw_n_5_10 hT h0) (0 : Int32) _ h) (va_cwS 2 X.2.2.2.2 gX5_countWords_J7_fill_53178 rfl rfl rfl (by decide +kernel) ⟨Nat.le_of_ble_eq_true rfl, Nat.le_of_ble_eq_true rfl⟩) (tw_pre hK w [.ref (tw_R g a0 10), .int (0 : Int32)]) rfl rfl hl.1 rfl (lv_room (Nat.le_of_ble_eq_true rfl)) dX5_countWords_5 ⟨Nat.zero_le _, Nat.zero_le _⟩) (fun σ1 H locs h w => ?_)
  refine lv_aload_n X.1 X.2.1 dX5_countWords_8 rfl (lv_at hl 0 rfl) ?_
  refine tw_get X hK w 5 iw_X5_countWords_5 h0 (by decide) rfl 10 (by decide) (List.mem_of_getElem? (i := 1) rfl) rfl dX5_countWords_9 ?_
  refine lv_iconst (v := 0) X.1 X.2.1 dX5_countWords_12 (by decide) ?_
  refine lv_iconst (v := 1) X.1 X.2.1 dX5_countWords_13 (by decide) ?_
  refine tw_iast X hK w (tw_t_5_10 hT h0) (tw_n_5_10 hT h0) (by unfold vp_in; decide) dX5_countWords_14 (fun σ2 H locs eσ2 w => ?_)
  have h := h _ eσ2
  refine lv_iconst (v := 0) X.1 X.2.1 dX5_countWords_15 (by decide) ?_
  refine lv_istore_n (lv' := [(2, .int (0 : Int32)), (0, .ref a0), (1, .int x1)]) X.1 X.2.1 dX5_countWords_16 rfl hl (by decide) rfl (fun ls hl => ?_)
  obtain ⟨n17, h⟩ := h
  refine lp_X5_countWords_17 X hr hlk hK hT h0 (fun σ5 H locs ls h w hl => ?_) n17 (0 : Int32) σ2 _ _ ls h w (lv_sub hl [1, 2, 0] rfl)
  · skip
    refine lv_iconst (v := 0) X.1 X.2.1 dX5_countWords_32 (by decide) ?_
    refine lv_istore_n (lv' := [(2, .int (0 : Int32)), (0, .ref a0)]) X.1 X.2.1 dX5_countWords_33 rfl hl (by decide) rfl (fun ls hl => ?_)
    refine lv_iconst (v := 0) X.1 X.2.1 dX5_countWords_34 (by decide) ?_
    refine lv_istore_n (lv' := [(3, .int (0 : Int32)), (2, .int (0 : Int32)), (0, .ref a0)]) X.1 X.2.1 dX5_countWords_35 rfl hl (by decide) rfl (fun ls hl => ?_)
    obtain ⟨n36, h⟩ := h
    refine lp_X5_countWords_36 X hr hlk hK hT h0 (fun v12 σ13 H locs ls h w hl => ?_) n36 (0 : Int32) (0 : Int32) σ5 _ _ ls h w (lv_sub hl [2, 1, 0] rfl)
    · skip
      refine lv_iload_n X.1 X.2.1 dX5_countWords_79 rfl (lv_at hl 0 rfl) ?_
      exact tw_iret X hr hlk w h dX5_countWords_80

abbrev RM_X5_groupByGoodness : Room := { frames := 0, cells := 0, slots := 0, locals := 0 }
theorem iw_X5_groupByGoodness_5 : ∀ w ∈ wsX50, w ∈ wsX5_groupByGoodness := fun w h => List.mem_cons_of_mem _ (List.mem_append_right _ (h))
def wl_X5_groupByGoodness_2 (g : tw_G) (a0 : Nat) (Q : tw_S → Prop) (k43 : tw_S → Prop) : Nat → Int32 → tw_S → Prop
  | 0, _, _ => False
  | n + 1, x1, σ => (((tw_I σ a0 14) ≤ x1) → k43  σ) ∧ (¬ ((tw_I σ a0 14) ≤ x1) → (((150 : Int32) ≤ x1) → k43  σ) ∧ (¬ ((150 : Int32) ≤ x1) → vp_in x1 150 ∧ (((tw_A σ (tw_R g a0 5) x1.toNatClampNeg) = 0) → vp_in x1 150 ∧ ∀ σ6, σ6 = (tw_sA σ (tw_R g a0 7) (upd (tw_A σ (tw_R g a0 7)) x1.toNatClampNeg (0 : Int32))) → wl_X5_groupByGoodness_2 g a0 Q k43 n (x1 + 1) σ6) ∧ (¬ ((tw_A σ (tw_R g a0 5) x1.toNatClampNeg) = 0) → vp_in x1 150 ∧ ∀ σ8, σ8 = (tw_sA σ (tw_R g a0 7) (upd (tw_A σ (tw_R g a0 7)) x1.toNatClampNeg (1 : Int32))) → wl_X5_groupByGoodness_2 g a0 Q k43 n (x1 + 1) σ8)))
def wp_X5_groupByGoodness (g : tw_G) (σ : tw_S) (a0 : Nat) (Q : tw_S → Prop) : Prop := ∃ n2, wl_X5_groupByGoodness_2 g a0 Q (fun σ9 => Q σ9) n2 (0 : Int32) σ
set_option maxHeartbeats 4000000 in
set_option maxRecDepth 100000 in
theorem lp_X5_groupByGoodness_2 {p : Program} {l : Launch} {e : Env} {s : State} {m : MethodId} {args : Array Value} {below : List Frame} {meth : Method} {c : Code} {D : va_G} {g : tw_G} (X : CallFix p m c cX5_groupByGoodness 2 s args wsX5_groupByGoodness RX5) (hr : meth.sig.returnType = none) (hlk : meth.locks = false) (hK : tw_k D g s) (hT : tw_T g) {a0 : Nat} (h0 : tw_is g 5 a0) {Q : tw_S → Prop} {k43 : tw_S → Prop}
    (hk43 : ∀  (σ : tw_S) (H : Heap) (locs : List Loc) (ls : Array Slot), k43  σ → tw_w D g (tw_F g s.heap.size) s σ H locs → lv_has ls 2 [] → W p l e RM_X5_groupByGoodness s m args below meth c H locs 0 0 (tw_Qv Q D g below args s) (F0 m 43 ls []))
    : ∀ (n : Nat) (x1 : Int32) (σ : tw_S) (H : Heap) (locs : List Loc) (ls : Array Slot), wl_X5_groupByGoodness_2 g a0 Q k43 n x1 σ → tw_w D g (tw_F g s.heap.size) s σ H locs → lv_has ls 2 [(0, .ref a0), (1, .int x1)] → W p l e RM_X5_groupByGoodness s m args below meth c H locs 0 0 (tw_Qv Q D g below args s) (F0 m 2 ls []) := by
  intro n
  induction n with
  | zero =>
    intro x1 σ H locs ls h w hl
    exact False.elim h
  | succ n ih =>
    intro x1 σ H locs ls h w hl
    rw [wl_X5_groupByGoodness_2] at h
    refine lv_iload_n X.1 X.2.1 dX5_groupByGoodness_2 rfl (lv_at hl 1 rfl) ?_
    refine lv_aload_n X.1 X.2.1 dX5_groupByGoodness_3 rfl (lv_at hl 0 rfl) ?_
    refine tw_get X hK w 5 iw_X5_groupByGoodness_5 h0 (by decide) rfl 14 (by decide) (List.mem_of_getElem? (i := 1) rfl) rfl dX5_groupByGoodness_4 ?_
    refine lv_icmp_ge (tgt := 43) X.1 X.2.1 dX5_groupByGoodness_7 (by decide) (fun c1 => ?_) (fun c1 => ?_)
    · have h := h.1 c1
      exact hk43  σ _ _ ls h w (lv_sub hl [] rfl)
    · have h := h.2 c1
      refine lv_iload_n X.1 X.2.1 dX5_groupByGoodness_10 rfl (lv_at hl 1 rfl) ?_
      refine lv_sipush (v := 150) X.1 X.2.1 dX5_groupByGoodness_11 (by decide) ?_
      refine lv_icmp_ge (tgt := 43) X.1 X.2.1 dX5_groupByGoodness_14 (by decide) (fun c2 => ?_) (fun c2 => ?_)
      · have h := h.1 c2
        exact hk43  σ _ _ ls h w (lv_sub hl [] rfl)
      · have h := h.2 c2
        refine lv_aload_n X.1 X.2.1 dX5_groupByGoodness_17 rfl (lv_at hl 0 rfl) ?_
        refine tw_get X hK w 5 iw_X5_groupByGoodness_5 h0 (by decide) rfl 7 (by decide) (List.mem_of_getElem? (i := 2) rfl) rfl dX5_groupByGoodness_18 ?_
        refine lv_iload_n X.1 X.2.1 dX5_groupByGoodness_21 rfl (lv_at hl 1 rfl) ?_
        refine lv_aload_n X.1 X.2.1 dX5_groupByGoodness_22 rfl (lv_at hl 0 rfl) ?_
        refine tw_get X hK w 5 iw_X5_groupByGoodness_5 h0 (by decide) rfl 5 (by decide) (List.mem_of_getElem? (i := 3) rfl) rfl dX5_groupByGoodness_23 ?_
        refine lv_iload_n X.1 X.2.1 dX5_groupByGoodness_26 rfl (lv_at hl 1 rfl) ?_
        obtain ⟨hi3, h⟩ := h
        refine tw_zald X hK w (tw_t_5_5 hT h0) (tw_n_5_5 hT h0) hi3 dX5_groupByGoodness_27 ?_
        refine lv_if_eq (tgt := 35) X.1 X.2.1 dX5_groupByGoodness_28 (by decide) (fun c4 => ?_) (fun c4 => ?_)
        · have h := h.1 c4
          refine lv_iconst (v := 0) X.1 X.2.1 dX5_groupByGoodness_35 (by decide) ?_
          obtain ⟨hi5, h⟩ := h
          refine tw_iast X hK w (tw_t_5_7 hT h0) (tw_n_5_7 hT h0) hi5 dX5_groupByGoodness_36 (fun σ6 H locs eσ6 w => ?_)
          have h := h _ eσ6
          refine lv_iinc (v := (x1 + 1)) (lv' := [(1, .int (x1 + 1)), (0, .ref a0)]) X.1 X.2.1 dX5_groupByGoodness_37 hl (k := 1) rfl rfl (by decide) rfl (fun ls hl => ?_)
          refine lv_goto (tgt := 2) X.1 X.2.1 dX5_groupByGoodness_40 (by decide) ?_
          exact ih (x1 + 1) σ6 _ _ ls h w (lv_sub hl [1, 0] rfl)
        · have h := h.2 c4
          refine lv_iconst (v := 1) X.1 X.2.1 dX5_groupByGoodness_31 (by decide) ?_
          refine lv_goto (tgt := 36) X.1 X.2.1 dX5_groupByGoodness_32 (by decide) ?_
          obtain ⟨hi7, h⟩ := h
          refine tw_iast X hK w (tw_t_5_7 hT h0) (tw_n_5_7 hT h0) hi7 dX5_groupByGoodness_36 (fun σ8 H locs eσ8 w => ?_)
          have h := h _ eσ8
          refine lv_iinc (v := (x1 + 1)) (lv' := [(1, .int (x1 + 1)), (0, .ref a0)]) X.1 X.2.1 dX5_groupByGoodness_37 hl (k := 1) rfl rfl (by decide) rfl (fun ls hl => ?_)
          refine lv_goto (tgt := 2) X.1 X.2.1 dX5_groupByGoodness_40 (by decide) ?_
          exact ih (x1 + 1) σ8 _ _ ls h w (lv_sub hl [1, 0] rfl)
set_option maxHeartbeats 4000000 in
set_option maxRecDepth 100000 in
theorem ct_X5_groupByGoodness (l : Launch) (D : va_G) (g : tw_G) (hT : tw_T g) (sz : Nat) (σ : tw_S) (a0 : Nat) (h0 : tw_is g 5 a0) (Q : tw_S → Prop) (h : wp_X5_groupByGoodness g σ a0 Q) : tw_Mv l yX5_groupByGoodness wsX5_groupByGoodness RM_X5_groupByGoodness D g sz σ [.ref a0] Q := by
  refine Met.ofW (cc := cX5_groupByGoodness) (maxL := 2) (ret := none) (by decide) rfl ?_
  intro p e s m args below meth c s₁ B hml hv
  obtain ⟨rfl, hsz, hP, hK, hD0⟩ := hv
  subst hsz
  have hr := B.returns
  have hlk := B.notSynchronized
  have X : CallFix p m c cX5_groupByGoodness 2 s _ wsX5_groupByGoodness RX5 := ⟨B.exec, B.bytes, hml, findClass_of_methodNamed B.named, atoms_spec (ws := wsX5_groupByGoodness) B.pre⟩
  have w := tw_w0 hP hD0
  have hl := lv_entry ([.ref a0]) (n := 2) (Nat.le_of_ble_eq_true rfl)
  rw [lg_entry_eq]
  generalize (lg_sl ([.ref a0]) ++ List.replicate (2 - (lg_sl ([.ref a0])).length) Slot.unset).toArray = ls at hl ⊢
  have hl : lv_has ls 2 [(0, .ref a0)] := hl
  unfold wp_X5_groupByGoodness at h
  refine lv_iconst (v := 0) X.1 X.2.1 dX5_groupByGoodness_0 (by decide) ?_
  refine lv_istore_n (lv' := [(1, .int (0 : Int32)), (0, .ref a0)]) X.1 X.2.1 dX5_groupByGoodness_1 rfl hl (by decide) rfl (fun ls hl => ?_)
  obtain ⟨n2, h⟩ := h
  refine lp_X5_groupByGoodness_2 X hr hlk hK hT h0 (fun σ9 H locs ls h w hl => ?_) n2 (0 : Int32) σ _ _ ls h w (lv_sub hl [1, 0] rfl)
  · skip
    exact tw_vret X hr hlk w h dX5_groupByGoodness_43

abbrev RM_X5_groupOf : Room := { frames := 1, cells := 0, slots := 0, locals := 21 }
theorem iw_X5_groupOf_5 : ∀ w ∈ wsX50, w ∈ wsX5_groupOf := fun w h => List.mem_cons_of_mem _ (List.mem_append_right _ (h))
def wp_X5_groupOf (g : tw_G) (σ : tw_S) (a0 : Nat) (x1 : Int32) (Q : Int32 → tw_S → Prop) : Prop := wp_X5_hasState g σ a0 x1 (fun r2 σ1 => ((r2 = 0) → Q (-1 : Int32) σ1) ∧ (¬ (r2 = 0) → vp_in x1 150 ∧ Q (tw_A σ1 (tw_R g a0 7) x1.toNatClampNeg) σ1))
set_option maxHeartbeats 4000000 in
set_option maxRecDepth 100000 in
theorem ct_X5_groupOf (l : Launch) (D : va_G) (g : tw_G) (hT : tw_T g) (sz : Nat) (σ : tw_S) (a0 : Nat) (h0 : tw_is g 5 a0) (x1 : Int32) (Q : Int32 → tw_S → Prop) (h : wp_X5_groupOf g σ a0 x1 Q) : tw_Mi l yX5_groupOf wsX5_groupOf RM_X5_groupOf D g sz σ [.ref a0, .int x1] Q := by
  refine Met.ofW (cc := cX5_groupOf) (maxL := 2) (ret := (some .int)) (by decide) rfl ?_
  intro p e s m args below meth c s₁ B hml hv
  obtain ⟨rfl, hsz, hP, hK, hD0⟩ := hv
  subst hsz
  have hr := B.returns
  have hlk := B.notSynchronized
  have X : CallFix p m c cX5_groupOf 2 s _ wsX5_groupOf RX5 := ⟨B.exec, B.bytes, hml, findClass_of_methodNamed B.named, atoms_spec (ws := wsX5_groupOf) B.pre⟩
  have w := tw_w0 hP hD0
  have hl := lv_entry ([.ref a0, .int x1]) (n := 2) (Nat.le_of_ble_eq_true rfl)
  rw [lg_entry_eq]
  generalize (lg_sl ([.ref a0, .int x1]) ++ List.replicate (2 - (lg_sl ([.ref a0, .int x1])).length) Slot.unset).toArray = ls at hl ⊢
  have hl : lv_has ls 2 [(0, .ref a0), (1, .int x1)] := hl
  unfold wp_X5_groupOf at h
  refine lv_aload_n X.1 X.2.1 dX5_groupOf_0 rfl (lv_at hl 0 rfl) ?_
  refine lv_iload_n X.1 X.2.1 dX5_groupOf_1 rfl (lv_at hl 1 rfl) ?_
  refine tw_ci w (va_runV (As := [.int x1]) (rest := []) X (ct_X5_hasState l D g hT _ σ a0 h0 x1 _ h) (cwV 1 X.2.2.2.2 gX5_groupOf_X5_hasState rfl rfl rfl (by decide +kernel) ⟨Nat.le_of_ble_eq_true rfl, Nat.le_of_ble_eq_true rfl⟩) (tw_preV hK w h0 (by decide) rfl [.int x1]) rfl rfl hl.1 rfl (lv_room (Nat.le_of_ble_eq_true rfl)) dX5_groupOf_2 ⟨Nat.zero_le _, Nat.zero_le _⟩) (fun r2 σ1 H locs h w => ?_)
  refine lv_if_eq (tgt := 17) X.1 X.2.1 dX5_groupOf_5 (by decide) (fun c3 => ?_) (fun c3 => ?_)
  · have h := h.1 c3
    refine lv_iconst (v := -1) X.1 X.2.1 dX5_groupOf_17 (by decide) ?_
    exact tw_iret X hr hlk w h dX5_groupOf_18
  · have h := h.2 c3
    refine lv_aload_n X.1 X.2.1 dX5_groupOf_8 rfl (lv_at hl 0 rfl) ?_
    refine tw_get X hK w 5 iw_X5_groupOf_5 h0 (by decide) rfl 7 (by decide) (List.mem_of_getElem? (i := 1) rfl) rfl dX5_groupOf_9 ?_
    refine lv_iload_n X.1 X.2.1 dX5_groupOf_12 rfl (lv_at hl 1 rfl) ?_
    obtain ⟨hi4, h⟩ := h
    refine tw_iald X hK w (tw_t_5_7 hT h0) (tw_n_5_7 hT h0) hi4 dX5_groupOf_13 ?_
    refine lv_goto (tgt := 18) X.1 X.2.1 dX5_groupOf_14 (by decide) ?_
    exact tw_iret X hr hlk w h dX5_groupOf_18

abbrev RM_X5_goTogether : Room := { frames := 2, cells := 0, slots := 0, locals := 43 }
def wp_X5_goTogether (g : tw_G) (σ : tw_S) (a0 : Nat) (x1 : Int32) (x2 : Int32) (Q : Int32 → tw_S → Prop) : Prop := wp_X5_groupOf g σ a0 x1 (fun r2 σ1 => wp_X5_groupOf g σ1 a0 x2 (fun r4 σ3 => ((¬ r2 = r4) → Q (0 : Int32) σ3) ∧ ((r2 = r4) → wp_X5_next g σ3 a0 x1 (0 : Int32) (fun r7 σ6 => wp_X5_groupOf g σ6 a0 r7 (fun r9 σ8 => wp_X5_next g σ8 a0 x2 (0 : Int32) (fun r11 σ10 => wp_X5_groupOf g σ10 a0 r11 (fun r13 σ12 => ((¬ r9 = r13) → Q (0 : Int32) σ12) ∧ ((r9 = r13) → wp_X5_next g σ12 a0 x1 (1 : Int32) (fun r16 σ15 => wp_X5_groupOf g σ15 a0 r16 (fun r18 σ17 => wp_X5_next g σ17 a0 x2 (1 : Int32) (fun r20 σ19 => wp_X5_groupOf g σ19 a0 r20 (fun r22 σ21 => ((¬ r18 = r22) → Q (0 : Int32) σ21) ∧ ((r18 = r22) → Q (1 : Int32) σ21)))))))))))))
set_option maxHeartbeats 4000000 in
set_option maxRecDepth 100000 in
theorem ct_X5_goTogether (l : Launch) (D : va_G) (g : tw_G) (hT : tw_T g) (sz : Nat) (σ : tw_S) (a0 : Nat) (h0 : tw_is g 5 a0) (x1 : Int32) (x2 : Int32) (Q : Int32 → tw_S → Prop) (h : wp_X5_goTogether g σ a0 x1 x2 Q) : tw_Mi l yX5_goTogether wsX5_goTogether RM_X5_goTogether D g sz σ [.ref a0, .int x1, .int x2] Q := by
  refine Met.ofW (cc := cX5_goTogether) (maxL := 3) (ret := (some .boolean)) (by decide) rfl ?_
  intro p e s m args below meth c s₁ B hml hv
  obtain ⟨rfl, hsz, hP, hK, hD0⟩ := hv
  subst hsz
  have hr := B.returns
  have hlk := B.notSynchronized
  have X : CallFix p m c cX5_goTogether 3 s _ wsX5_goTogether RX5 := ⟨B.exec, B.bytes, hml, findClass_of_methodNamed B.named, atoms_spec (ws := wsX5_goTogether) B.pre⟩
  have w := tw_w0 hP hD0
  have hl := lv_entry ([.ref a0, .int x1, .int x2]) (n := 3) (Nat.le_of_ble_eq_true rfl)
  rw [lg_entry_eq]
  generalize (lg_sl ([.ref a0, .int x1, .int x2]) ++ List.replicate (3 - (lg_sl ([.ref a0, .int x1, .int x2])).length) Slot.unset).toArray = ls at hl ⊢
  have hl : lv_has ls 3 [(0, .ref a0), (1, .int x1), (2, .int x2)] := hl
  unfold wp_X5_goTogether at h
  refine lv_aload_n X.1 X.2.1 dX5_goTogether_0 rfl (lv_at hl 0 rfl) ?_
  refine lv_iload_n X.1 X.2.1 dX5_goTogether_1 rfl (lv_at hl 1 rfl) ?_
  refine tw_ci w (va_runV (As := [.int x1]) (rest := []) X (ct_X5_groupOf l D g hT _ σ a0 h0 x1 _ h) (cwV 1 X.2.2.2.2 gX5_goTogether_X5_groupOf rfl rfl rfl (by decide +kernel) ⟨Nat.le_of_ble_eq_true rfl, Nat.le_of_ble_eq_true rfl⟩) (tw_preV hK w h0 (by decide) rfl [.int x1]) rfl rfl hl.1 rfl (lv_room (Nat.le_of_ble_eq_true rfl)) dX5_goTogether_2 ⟨Nat.zero_le _, Nat.zero_le _⟩) (fun r2 σ1 H locs h w => ?_)
  refine lv_aload_n X.1 X.2.1 dX5_goTogether_5 rfl (lv_at hl 0 rfl) ?_
  refine lv_iload_n X.1 X.2.1 dX5_goTogether_6 rfl (lv_at hl 2 rfl) ?_
  refine tw_ci w (va_runV (As := [.int x2]) (rest := [.int r2]) X (ct_X5_groupOf l D g hT _ σ1 a0 h0 x2 _ h) (cwV 1 X.2.2.2.2 gX5_goTogether_X5_groupOf rfl rfl rfl (by decide +kernel) ⟨Nat.le_of_ble_eq_true rfl, Nat.le_of_ble_eq_true rfl⟩) (tw_preV hK w h0 (by decide) rfl [.int x2]) rfl rfl hl.1 rfl (lv_room (Nat.le_of_ble_eq_true rfl)) dX5_goTogether_7 ⟨Nat.zero_le _, Nat.zero_le _⟩) (fun r4 σ3 H locs h w => ?_)
  refine lv_icmp_ne (tgt := 63) X.1 X.2.1 dX5_goTogether_10 (by decide) (fun c5 => ?_) (fun c5 => ?_)
  · have h := h.1 c5
    refine lv_iconst (v := 0) X.1 X.2.1 dX5_goTogether_63 (by decide) ?_
    exact tw_zret X hr hlk w (by decide) h dX5_goTogether_64
  · have h := h.2 c5
    refine lv_aload_n X.1 X.2.1 dX5_goTogether_13 rfl (lv_at hl 0 rfl) ?_
    refine lv_aload_n X.1 X.2.1 dX5_goTogether_14 rfl (lv_at hl 0 rfl) ?_
    refine lv_iload_n X.1 X.2.1 dX5_goTogether_15 rfl (lv_at hl 1 rfl) ?_
    refine lv_iconst (v := 0) X.1 X.2.1 dX5_goTogether_16 (by decide) ?_
    refine tw_ci w (va_runV (As := [.int x1, .int (0 : Int32)]) (rest := [.ref a0]) X (ct_X5_next l D g hT _ σ3 a0 h0 x1 (0 : Int32) _ h) (cwV 2 X.2.2.2.2 gX5_goTogether_X5_next rfl rfl rfl (by decide +kernel) ⟨Nat.le_of_ble_eq_true rfl, Nat.le_of_ble_eq_true rfl⟩) (tw_preV hK w h0 (by decide) rfl [.int x1, .int (0 : Int32)]) rfl rfl hl.1 rfl (lv_room (Nat.le_of_ble_eq_true rfl)) dX5_goTogether_17 ⟨Nat.zero_le _, Nat.zero_le _⟩) (fun r7 σ6 H locs h w => ?_)
    refine tw_ci w (va_runV (As := [.int r7]) (rest := []) X (ct_X5_groupOf l D g hT _ σ6 a0 h0 r7 _ h) (cwV 1 X.2.2.2.2 gX5_goTogether_X5_groupOf rfl rfl rfl (by decide +kernel) ⟨Nat.le_of_ble_eq_true rfl, Nat.le_of_ble_eq_true rfl⟩) (tw_preV hK w h0 (by decide) rfl [.int r7]) rfl rfl hl.1 rfl (lv_room (Nat.le_of_ble_eq_true rfl)) dX5_goTogether_20 ⟨Nat.zero_le _, Nat.zero_le _⟩) (fun r9 σ8 H locs h w => ?_)
    refine lv_aload_n X.1 X.2.1 dX5_goTogether_23 rfl (lv_at hl 0 rfl) ?_
    refine lv_aload_n X.1 X.2.1 dX5_goTogether_24 rfl (lv_at hl 0 rfl) ?_
    refine lv_iload_n X.1 X.2.1 dX5_goTogether_25 rfl (lv_at hl 2 rfl) ?_
    refine lv_iconst (v := 0) X.1 X.2.1 dX5_goTogether_26 (by decide) ?_
    refine tw_ci w (va_runV (As := [.int x2, .int (0 : Int32)]) (rest := [.ref a0, .int r9]) X (ct_X5_next l D g hT _ σ8 a0 h0 x2 (0 : Int32) _ h) (cwV 2 X.2.2.2.2 gX5_goTogether_X5_next rfl rfl rfl (by decide +kernel) ⟨Nat.le_of_ble_eq_true rfl, Nat.le_of_ble_eq_true rfl⟩) (tw_preV hK w h0 (by decide) rfl [.int x2, .int (0 : Int32)]) rfl rfl hl.1 rfl (lv_room (Nat.le_of_ble_eq_true rfl)) dX5_goTogether_27 ⟨Nat.zero_le _, Nat.zero_le _⟩) (fun r11 σ10 H locs h w => ?_)
    refine tw_ci w (va_runV (As := [.int r11]) (rest := [.int r9]) X (ct_X5_groupOf l D g hT _ σ10 a0 h0 r11 _ h) (cwV 1 X.2.2.2.2 gX5_goTogether_X5_groupOf rfl rfl rfl (by decide +kernel) ⟨Nat.le_of_ble_eq_true rfl, Nat.le_of_ble_eq_true rfl⟩) (tw_preV hK w h0 (by decide) rfl [.int r11]) rfl rfl hl.1 rfl (lv_room (Nat.le_of_ble_eq_true rfl)) dX5_goTogether_30 ⟨Nat.zero_le _, Nat.zero_le _⟩) (fun r13 σ12 H locs h w => ?_)
    refine lv_icmp_ne (tgt := 63) X.1 X.2.1 dX5_goTogether_33 (by decide) (fun c14 => ?_) (fun c14 => ?_)
    · have h := h.1 c14
      refine lv_iconst (v := 0) X.1 X.2.1 dX5_goTogether_63 (by decide) ?_
      exact tw_zret X hr hlk w (by decide) h dX5_goTogether_64
    · have h := h.2 c14
      refine lv_aload_n X.1 X.2.1 dX5_goTogether_36 rfl (lv_at hl 0 rfl) ?_
      refine lv_aload_n X.1 X.2.1 dX5_goTogether_37 rfl (lv_at hl 0 rfl) ?_
      refine lv_iload_n X.1 X.2.1 dX5_goTogether_38 rfl (lv_at hl 1 rfl) ?_
      refine lv_iconst (v := 1) X.1 X.2.1 dX5_goTogether_39 (by decide) ?_
      refine tw_ci w (va_runV (As := [.int x1, .int (1 : Int32)]) (rest := [.ref a0]) X (ct_X5_next l D g hT _ σ12 a0 h0 x1 (1 : Int32) _ h) (cwV 2 X.2.2.2.2 gX5_goTogether_X5_next rfl rfl rfl (by decide +kernel) ⟨Nat.le_of_ble_eq_true rfl, Nat.le_of_ble_eq_true rfl⟩) (tw_preV hK w h0 (by decide) rfl [.int x1, .int (1 : Int32)]) rfl rfl hl.1 rfl (lv_room (Nat.le_of_ble_eq_true rfl)) dX5_goTogether_40 ⟨Nat.zero_le _, Nat.zero_le _⟩) (fun r16 σ15 H locs h w => ?_)
      refine tw_ci w (va_runV (As := [.int r16]) (rest := []) X (ct_X5_groupOf l D g hT _ σ15 a0 h0 r16 _ h) (cwV 1 X.2.2.2.2 gX5_goTogether_X5_groupOf rfl rfl rfl (by decide +kernel) ⟨Nat.le_of_ble_eq_true rfl, Nat.le_of_ble_eq_true rfl⟩) (tw_preV hK w h0 (by decide) rfl [.int r16]) rfl rfl hl.1 rfl (lv_room (Nat.le_of_ble_eq_true rfl)) dX5_goTogether_43 ⟨Nat.zero_le _, Nat.zero_le _⟩) (fun r18 σ17 H locs h w => ?_)
      refine lv_aload_n X.1 X.2.1 dX5_goTogether_46 rfl (lv_at hl 0 rfl) ?_
      refine lv_aload_n X.1 X.2.1 dX5_goTogether_47 rfl (lv_at hl 0 rfl) ?_
      refine lv_iload_n X.1 X.2.1 dX5_goTogether_48 rfl (lv_at hl 2 rfl) ?_
      refine lv_iconst (v := 1) X.1 X.2.1 dX5_goTogether_49 (by decide) ?_
      refine tw_ci w (va_runV (As := [.int x2, .int (1 : Int32)]) (rest := [.ref a0, .int r18]) X (ct_X5_next l D g hT _ σ17 a0 h0 x2 (1 : Int32) _ h) (cwV 2 X.2.2.2.2 gX5_goTogether_X5_next rfl rfl rfl (by decide +kernel) ⟨Nat.le_of_ble_eq_true rfl, Nat.le_of_ble_eq_true rfl⟩) (tw_preV hK w h0 (by decide) rfl [.int x2, .int (1 : Int32)]) rfl rfl hl.1 rfl (lv_room (Nat.le_of_ble_eq_true rfl)) dX5_goTogether_50 ⟨Nat.zero_le _, Nat.zero_le _⟩) (fun r20 σ19 H locs h w => ?_)
      refine tw_ci w (va_runV (As := [.int r20]) (rest := [.int r18]) X (ct_X5_groupOf l D g hT _ σ19 a0 h0 r20 _ h) (cwV 1 X.2.2.2.2 gX5_goTogether_X5_groupOf rfl rfl rfl (by decide +kernel) ⟨Nat.le_of_ble_eq_true rfl, Nat.le_of_ble_eq_true rfl⟩) (tw_preV hK w h0 (by decide) rfl [.int r20]) rfl rfl hl.1 rfl (lv_room (Nat.le_of_ble_eq_true rfl)) dX5_goTogether_53 ⟨Nat.zero_le _, Nat.zero_le _⟩) (fun r22 σ21 H locs h w => ?_)
      refine lv_icmp_ne (tgt := 63) X.1 X.2.1 dX5_goTogether_56 (by decide) (fun c23 => ?_) (fun c23 => ?_)
      · have h := h.1 c23
        refine lv_iconst (v := 0) X.1 X.2.1 dX5_goTogether_63 (by decide) ?_
        exact tw_zret X hr hlk w (by decide) h dX5_goTogether_64
      · have h := h.2 c23
        refine lv_iconst (v := 1) X.1 X.2.1 dX5_goTogether_59 (by decide) ?_
        refine lv_goto (tgt := 64) X.1 X.2.1 dX5_goTogether_60 (by decide) ?_
        exact tw_zret X hr hlk w (by decide) h dX5_goTogether_64

abbrev RM_X5_groupAmong : Room := { frames := 3, cells := 0, slots := 0, locals := 65 }
theorem iw_X5_groupAmong_5 : ∀ w ∈ wsX50, w ∈ wsX5_groupAmong := fun w h => List.mem_cons_of_mem _ (List.mem_append_right _ (h))
def wl_X5_groupAmong_2 (g : tw_G) (a0 : Nat) (x1 : Int32) (x2 : Int32) (Q : Int32 → tw_S → Prop) (k28 : Int32 → tw_S → Prop) (k36 : tw_S → Prop) : Nat → Int32 → tw_S → Prop
  | 0, _, _ => False
  | n + 1, x3, σ => ((x1 ≤ x3) → k36  σ) ∧ (¬ (x1 ≤ x3) → (((150 : Int32) ≤ x3) → k36  σ) ∧ (¬ ((150 : Int32) ≤ x3) → vp_in x3 150 ∧ wp_X5_goTogether g σ a0 (tw_A σ (tw_R g a0 9) x3.toNatClampNeg) x2 (fun r5 σ4 => ((r5 = 0) → wl_X5_groupAmong_2 g a0 x1 x2 Q k28 k36 n (x3 + 1) σ4) ∧ (¬ (r5 = 0) → k28 x3 σ4))))
def wp_X5_groupAmong (g : tw_G) (σ : tw_S) (a0 : Nat) (x1 : Int32) (x2 : Int32) (Q : Int32 → tw_S → Prop) : Prop := ∃ n2, wl_X5_groupAmong_2 g a0 x1 x2 Q (fun v7 σ8 => Q v7 σ8) (fun σ9 => Q x1 σ9) n2 (0 : Int32) σ
set_option maxHeartbeats 4000000 in
set_option maxRecDepth 100000 in
theorem lp_X5_groupAmong_2 {p : Program} {l : Launch} {e : Env} {s : State} {m : MethodId} {args : Array Value} {below : List Frame} {meth : Method} {c : Code} {D : va_G} {g : tw_G} (X : CallFix p m c cX5_groupAmong 4 s args wsX5_groupAmong RX5) (hr : meth.sig.returnType = (some .int)) (hlk : meth.locks = false) (hK : tw_k D g s) (hT : tw_T g) {a0 : Nat} {x1 : Int32} {x2 : Int32} (h0 : tw_is g 5 a0) {Q : Int32 → tw_S → Prop} {k28 : Int32 → tw_S → Prop} {k36 : tw_S → Prop}
    (hk28 : ∀ (x3 : Int32) (σ : tw_S) (H : Heap) (locs : List Loc) (ls : Array Slot), k28 x3 σ → tw_w D g (tw_F g s.heap.size) s σ H locs → lv_has ls 4 [(3, .int x3)] → W p l e RM_X5_groupAmong s m args below meth c H locs 0 0 (tw_Qi Q D g below args s) (F0 m 28 ls []))
    (hk36 : ∀  (σ : tw_S) (H : Heap) (locs : List Loc) (ls : Array Slot), k36  σ → tw_w D g (tw_F g s.heap.size) s σ H locs → lv_has ls 4 [(1, .int x1)] → W p l e RM_X5_groupAmong s m args below meth c H locs 0 0 (tw_Qi Q D g below args s) (F0 m 36 ls []))
    : ∀ (n : Nat) (x3 : Int32) (σ : tw_S) (H : Heap) (locs : List Loc) (ls : Array Slot), wl_X5_groupAmong_2 g a0 x1 x2 Q k28 k36 n x3 σ → tw_w D g (tw_F g s.heap.size) s σ H locs → lv_has ls 4 [(0, .ref a0), (1, .int x1), (2, .int x2), (3, .int x3)] → W p l e RM_X5_groupAmong s m args below meth c H locs 0 0 (tw_Qi Q D g below args s) (F0 m 2 ls []) := by
  intro n
  induction n with
  | zero =>
    intro x3 σ H locs ls h w hl
    exact False.elim h
  | succ n ih =>
    intro x3 σ H locs ls h w hl
    rw [wl_X5_groupAmong_2] at h
    refine lv_iload_n X.1 X.2.1 dX5_groupAmong_2 rfl (lv_at hl 3 rfl) ?_
    refine lv_iload_n X.1 X.2.1 dX5_groupAmong_3 rfl (lv_at hl 1 rfl) ?_
    refine lv_icmp_ge (tgt := 36) X.1 X.2.1 dX5_groupAmong_4 (by decide) (fun c1 => ?_) (fun c1 => ?_)
    · have h := h.1 c1
      exact hk36  σ _ _ ls h w (lv_sub hl [1] rfl)
    · have h := h.2 c1
      refine lv_iload_n X.1 X.2.1 dX5_groupAmong_7 rfl (lv_at hl 3 rfl) ?_
      refine lv_sipush (v := 150) X.1 X.2.1 dX5_groupAmong_8 (by decide) ?_
      refine lv_icmp_ge (tgt := 36) X.1 X.2.1 dX5_groupAmong_11 (by decide) (fun c2 => ?_) (fun c2 => ?_)
      · have h := h.1 c2
        exact hk36  σ _ _ ls h w (lv_sub hl [1] rfl)
      · have h := h.2 c2
        refine lv_aload_n X.1 X.2.1 dX5_groupAmong_14 rfl (lv_at hl 0 rfl) ?_
        refine lv_aload_n X.1 X.2.1 dX5_groupAmong_15 rfl (lv_at hl 0 rfl) ?_
        refine tw_get X hK w 5 iw_X5_groupAmong_5 h0 (by decide) rfl 9 (by decide) (List.mem_of_getElem? (i := 1) rfl) rfl dX5_groupAmong_16 ?_
        refine lv_iload_n X.1 X.2.1 dX5_groupAmong_19 rfl (lv_at hl 3 rfl) ?_
        obtain ⟨hi3, h⟩ := h
        refine tw_iald X hK w (tw_t_5_9 hT h0) (tw_n_5_9 hT h0) hi3 dX5_groupAmong_20 ?_
        refine lv_iload_n X.1 X.2.1 dX5_groupAmong_21 rfl (lv_at hl 2 rfl) ?_
        refine tw_ci w (va_runV (As := [.int (tw_A σ (tw_R g a0 9) x3.toNatClampNeg), .int x2]) (rest := []) X (ct_X5_goTogether l D g hT _ σ a0 h0 (tw_A σ (tw_R g a0 9) x3.toNatClampNeg) x2 _ h) (cwV 2 X.2.2.2.2 gX5_groupAmong_X5_goTogether rfl rfl rfl (by decide +kernel) ⟨Nat.le_of_ble_eq_true rfl, Nat.le_of_ble_eq_true rfl⟩) (tw_preV hK w h0 (by decide) rfl [.int (tw_A σ (tw_R g a0 9) x3.toNatClampNeg), .int x2]) rfl rfl hl.1 rfl (lv_room (Nat.le_of_ble_eq_true rfl)) dX5_groupAmong_22 ⟨Nat.zero_le _, Nat.zero_le _⟩) (fun r5 σ4 H locs h w => ?_)
        refine lv_if_eq (tgt := 30) X.1 X.2.1 dX5_groupAmong_25 (by decide) (fun c6 => ?_) (fun c6 => ?_)
        · have h := h.1 c6
          refine lv_iinc (v := (x3 + 1)) (lv' := [(3, .int (x3 + 1)), (0, .ref a0), (1, .int x1), (2, .int x2)]) X.1 X.2.1 dX5_groupAmong_30 hl (k := 3) rfl rfl (by decide) rfl (fun ls hl => ?_)
          refine lv_goto (tgt := 2) X.1 X.2.1 dX5_groupAmong_33 (by decide) ?_
          exact ih (x3 + 1) σ4 _ _ ls h w (lv_sub hl [1, 2, 3, 0] rfl)
        · have h := h.2 c6
          exact hk28 x3 σ4 _ _ ls h w (lv_sub hl [3] rfl)
set_option maxHeartbeats 4000000 in
set_option maxRecDepth 100000 in
theorem ct_X5_groupAmong (l : Launch) (D : va_G) (g : tw_G) (hT : tw_T g) (sz : Nat) (σ : tw_S) (a0 : Nat) (h0 : tw_is g 5 a0) (x1 : Int32) (x2 : Int32) (Q : Int32 → tw_S → Prop) (h : wp_X5_groupAmong g σ a0 x1 x2 Q) : tw_Mi l yX5_groupAmong wsX5_groupAmong RM_X5_groupAmong D g sz σ [.ref a0, .int x1, .int x2] Q := by
  refine Met.ofW (cc := cX5_groupAmong) (maxL := 4) (ret := (some .int)) (by decide) rfl ?_
  intro p e s m args below meth c s₁ B hml hv
  obtain ⟨rfl, hsz, hP, hK, hD0⟩ := hv
  subst hsz
  have hr := B.returns
  have hlk := B.notSynchronized
  have X : CallFix p m c cX5_groupAmong 4 s _ wsX5_groupAmong RX5 := ⟨B.exec, B.bytes, hml, findClass_of_methodNamed B.named, atoms_spec (ws := wsX5_groupAmong) B.pre⟩
  have w := tw_w0 hP hD0
  have hl := lv_entry ([.ref a0, .int x1, .int x2]) (n := 4) (Nat.le_of_ble_eq_true rfl)
  rw [lg_entry_eq]
  generalize (lg_sl ([.ref a0, .int x1, .int x2]) ++ List.replicate (4 - (lg_sl ([.ref a0, .int x1, .int x2])).length) Slot.unset).toArray = ls at hl ⊢
  have hl : lv_has ls 4 [(0, .ref a0), (1, .int x1), (2, .int x2)] := hl
  unfold wp_X5_groupAmong at h
  refine lv_iconst (v := 0) X.1 X.2.1 dX5_groupAmong_0 (by decide) ?_
  refine lv_istore_n (lv' := [(3, .int (0 : Int32)), (0, .ref a0), (1, .int x1), (2, .int x2)]) X.1 X.2.1 dX5_groupAmong_1 rfl hl (by decide) rfl (fun ls hl => ?_)
  obtain ⟨n2, h⟩ := h
  refine lp_X5_groupAmong_2 X hr hlk hK hT h0 (fun v7 σ8 H locs ls h w hl => ?_) (fun σ9 H locs ls h w hl => ?_) n2 (0 : Int32) σ _ _ ls h w (lv_sub hl [1, 2, 3, 0] rfl)
  · skip
    refine lv_iload_n X.1 X.2.1 dX5_groupAmong_28 rfl (lv_at hl 0 rfl) ?_
    exact tw_iret X hr hlk w h dX5_groupAmong_29
  · skip
    refine lv_iload_n X.1 X.2.1 dX5_groupAmong_36 rfl (lv_at hl 0 rfl) ?_
    exact tw_iret X hr hlk w h dX5_groupAmong_37

abbrev RM_X5_splitGroups : Room := { frames := 4, cells := 0, slots := 0, locals := 88 }
theorem iw_X5_splitGroups_5 : ∀ w ∈ wsX50, w ∈ wsX5_splitGroups := fun w h => List.mem_cons_of_mem _ (List.mem_append_right _ (h))
def wl_X5_splitGroups_4 (g : tw_G) (a0 : Nat) (Q : Int32 → tw_S → Prop) (k61 : Int32 → tw_S → Prop) : Nat → Int32 → Int32 → tw_S → Prop
  | 0, _, _, _ => False
  | n + 1, x1, x2, σ => (((tw_I σ a0 14) ≤ x2) → k61 x1 σ) ∧ (¬ ((tw_I σ a0 14) ≤ x2) → (((150 : Int32) ≤ x2) → k61 x1 σ) ∧ (¬ ((150 : Int32) ≤ x2) → wp_X5_groupAmong g σ a0 x1 x2 (fun r4 σ3 => ((¬ r4 = x1) → vp_in x2 150 ∧ ∀ σ7, σ7 = (tw_sA σ3 (tw_R g a0 8) (upd (tw_A σ3 (tw_R g a0 8)) x2.toNatClampNeg r4)) → wl_X5_splitGroups_4 g a0 Q k61 n x1 (x2 + 1) σ7) ∧ ((r4 = x1) → (((150 : Int32) ≤ x1) → vp_in x2 150 ∧ ∀ σ10, σ10 = (tw_sA σ3 (tw_R g a0 8) (upd (tw_A σ3 (tw_R g a0 8)) x2.toNatClampNeg r4)) → wl_X5_splitGroups_4 g a0 Q k61 n x1 (x2 + 1) σ10) ∧ (¬ ((150 : Int32) ≤ x1) → vp_in x1 150 ∧ ∀ σ12, σ12 = (tw_sA σ3 (tw_R g a0 9) (upd (tw_A σ3 (tw_R g a0 9)) x1.toNatClampNeg x2)) → vp_in x2 150 ∧ ∀ σ14, σ14 = (tw_sA σ12 (tw_R g a0 8) (upd (tw_A σ12 (tw_R g a0 8)) x2.toNatClampNeg r4)) → wl_X5_splitGroups_4 g a0 Q k61 n (x1 + 1) (x2 + 1) σ14)))))
def wp_X5_splitGroups (g : tw_G) (σ : tw_S) (a0 : Nat) (Q : Int32 → tw_S → Prop) : Prop := ∃ n4, wl_X5_splitGroups_4 g a0 Q (fun v15 σ16 => ∀ σ17, σ17 = (tw_sA σ16 (tw_R g a0 7) (va_cpy (tw_A σ16 (tw_R g a0 8)) (tw_A σ16 (tw_R g a0 7)) (0 : Int32).toNatClampNeg (0 : Int32).toNatClampNeg (150 : Int32).toNatClampNeg)) → Q v15 σ17) n4 (0 : Int32) (0 : Int32) σ
set_option maxHeartbeats 4000000 in
set_option maxRecDepth 100000 in
theorem lp_X5_splitGroups_4 {p : Program} {l : Launch} {e : Env} {s : State} {m : MethodId} {args : Array Value} {below : List Frame} {meth : Method} {c : Code} {D : va_G} {g : tw_G} (X : CallFix p m c cX5_splitGroups 4 s args wsX5_splitGroups RX5) (hr : meth.sig.returnType = (some .int)) (hlk : meth.locks = false) (hK : tw_k D g s) (hT : tw_T g) {a0 : Nat} (h0 : tw_is g 5 a0) {Q : Int32 → tw_S → Prop} {k61 : Int32 → tw_S → Prop}
    (hk61 : ∀ (x1 : Int32) (σ : tw_S) (H : Heap) (locs : List Loc) (ls : Array Slot), k61 x1 σ → tw_w D g (tw_F g s.heap.size) s σ H locs → lv_has ls 4 [(0, .ref a0), (1, .int x1)] → W p l e RM_X5_splitGroups s m args below meth c H locs 0 0 (tw_Qi Q D g below args s) (F0 m 61 ls []))
    : ∀ (n : Nat) (x1 : Int32) (x2 : Int32) (σ : tw_S) (H : Heap) (locs : List Loc) (ls : Array Slot), wl_X5_splitGroups_4 g a0 Q k61 n x1 x2 σ → tw_w D g (tw_F g s.heap.size) s σ H locs → lv_has ls 4 [(0, .ref a0), (1, .int x1), (2, .int x2)] → W p l e RM_X5_splitGroups s m args below meth c H locs 0 0 (tw_Qi Q D g below args s) (F0 m 4 ls []) := by
  intro n
  induction n with
  | zero =>
    intro x1 x2 σ H locs ls h w hl
    exact False.elim h
  | succ n ih =>
    intro x1 x2 σ H locs ls h w hl
    rw [wl_X5_splitGroups_4] at h
    refine lv_iload_n X.1 X.2.1 dX5_splitGroups_4 rfl (lv_at hl 2 rfl) ?_
    refine lv_aload_n X.1 X.2.1 dX5_splitGroups_5 rfl (lv_at hl 0 rfl) ?_
    refine tw_get X hK w 5 iw_X5_splitGroups_5 h0 (by decide) rfl 14 (by decide) (List.mem_of_getElem? (i := 1) rfl) rfl dX5_splitGroups_6 ?_
    refine lv_icmp_ge (tgt := 61) X.1 X.2.1 dX5_splitGroups_9 (by decide) (fun c1 => ?_) (fun c1 => ?_)
    · have h := h.1 c1
      exact hk61 x1 σ _ _ ls h w (lv_sub hl [0, 1] rfl)
    · have h := h.2 c1
      refine lv_iload_n X.1 X.2.1 dX5_splitGroups_12 rfl (lv_at hl 2 rfl) ?_
      refine lv_sipush (v := 150) X.1 X.2.1 dX5_splitGroups_13 (by decide) ?_
      refine lv_icmp_ge (tgt := 61) X.1 X.2.1 dX5_splitGroups_16 (by decide) (fun c2 => ?_) (fun c2 => ?_)
      · have h := h.1 c2
        exact hk61 x1 σ _ _ ls h w (lv_sub hl [0, 1] rfl)
      · have h := h.2 c2
        refine lv_aload_n X.1 X.2.1 dX5_splitGroups_19 rfl (lv_at hl 0 rfl) ?_
        refine lv_iload_n X.1 X.2.1 dX5_splitGroups_20 rfl (lv_at hl 1 rfl) ?_
        refine lv_iload_n X.1 X.2.1 dX5_splitGroups_21 rfl (lv_at hl 2 rfl) ?_
        refine tw_ci w (va_runV (As := [.int x1, .int x2]) (rest := []) X (ct_X5_groupAmong l D g hT _ σ a0 h0 x1 x2 _ h) (cwV 2 X.2.2.2.2 gX5_splitGroups_X5_groupAmong rfl rfl rfl (by decide +kernel) ⟨Nat.le_of_ble_eq_true rfl, Nat.le_of_ble_eq_true rfl⟩) (tw_preV hK w h0 (by decide) rfl [.int x1, .int x2]) rfl rfl hl.1 rfl (lv_room (Nat.le_of_ble_eq_true rfl)) dX5_splitGroups_22 ⟨Nat.zero_le _, Nat.zero_le _⟩) (fun r4 σ3 H locs h w => ?_)
        refine lv_istore_n (lv' := [(3, .int r4), (0, .ref a0), (1, .int x1), (2, .int x2)]) X.1 X.2.1 dX5_splitGroups_25 rfl hl (by decide) rfl (fun ls hl => ?_)
        refine lv_iload_n X.1 X.2.1 dX5_splitGroups_26 rfl (lv_at hl 0 rfl) ?_
        refine lv_iload_n X.1 X.2.1 dX5_splitGroups_27 rfl (lv_at hl 2 rfl) ?_
        refine lv_icmp_ne (tgt := 48) X.1 X.2.1 dX5_splitGroups_28 (by decide) (fun c5 => ?_) (fun c5 => ?_)
        · have h := h.1 c5
          refine lv_aload_n X.1 X.2.1 dX5_splitGroups_48 rfl (lv_at hl 1 rfl) ?_
          refine tw_get X hK w 5 iw_X5_splitGroups_5 h0 (by decide) rfl 8 (by decide) (List.mem_of_getElem? (i := 3) rfl) rfl dX5_splitGroups_49 ?_
          refine lv_iload_n X.1 X.2.1 dX5_splitGroups_52 rfl (lv_at hl 3 rfl) ?_
          refine lv_iload_n X.1 X.2.1 dX5_splitGroups_53 rfl (lv_at hl 0 rfl) ?_
          obtain ⟨hi6, h⟩ := h
          refine tw_iast X hK w (tw_t_5_8 hT h0) (tw_n_5_8 hT h0) hi6 dX5_splitGroups_54 (fun σ7 H locs eσ7 w => ?_)
          have h := h _ eσ7
          refine lv_iinc (v := (x2 + 1)) (lv' := [(2, .int (x2 + 1)), (3, .int r4), (0, .ref a0), (1, .int x1)]) X.1 X.2.1 dX5_splitGroups_55 hl (k := 3) rfl rfl (by decide) rfl (fun ls hl => ?_)
          refine lv_goto (tgt := 4) X.1 X.2.1 dX5_splitGroups_58 (by decide) ?_
          exact ih x1 (x2 + 1) σ7 _ _ ls h w (lv_sub hl [2, 3, 0] rfl)
        · have h := h.2 c5
          refine lv_iload_n X.1 X.2.1 dX5_splitGroups_31 rfl (lv_at hl 2 rfl) ?_
          refine lv_sipush (v := 150) X.1 X.2.1 dX5_splitGroups_32 (by decide) ?_
          refine lv_icmp_ge (tgt := 48) X.1 X.2.1 dX5_splitGroups_35 (by decide) (fun c8 => ?_) (fun c8 => ?_)
          · have h := h.1 c8
            refine lv_aload_n X.1 X.2.1 dX5_splitGroups_48 rfl (lv_at hl 1 rfl) ?_
            refine tw_get X hK w 5 iw_X5_splitGroups_5 h0 (by decide) rfl 8 (by decide) (List.mem_of_getElem? (i := 3) rfl) rfl dX5_splitGroups_49 ?_
            refine lv_iload_n X.1 X.2.1 dX5_splitGroups_52 rfl (lv_at hl 3 rfl) ?_
            refine lv_iload_n X.1 X.2.1 dX5_splitGroups_53 rfl (lv_at hl 0 rfl) ?_
            obtain ⟨hi9, h⟩ := h
            refine tw_iast X hK w (tw_t_5_8 hT h0) (tw_n_5_8 hT h0) hi9 dX5_splitGroups_54 (fun σ10 H locs eσ10 w => ?_)
            have h := h _ eσ10
            refine lv_iinc (v := (x2 + 1)) (lv' := [(2, .int (x2 + 1)), (3, .int r4), (0, .ref a0), (1, .int x1)]) X.1 X.2.1 dX5_splitGroups_55 hl (k := 3) rfl rfl (by decide) rfl (fun ls hl => ?_)
            refine lv_goto (tgt := 4) X.1 X.2.1 dX5_splitGroups_58 (by decide) ?_
            exact ih x1 (x2 + 1) σ10 _ _ ls h w (lv_sub hl [2, 3, 0] rfl)
          · have h := h.2 c8
            refine lv_aload_n X.1 X.2.1 dX5_splitGroups_38 rfl (lv_at hl 1 rfl) ?_
            refine tw_get X hK w 5 iw_X5_splitGroups_5 h0 (by decide) rfl 9 (by decide) (List.mem_of_getElem? (i := 2) rfl) rfl dX5_splitGroups_39 ?_
            refine lv_iload_n X.1 X.2.1 dX5_splitGroups_42 rfl (lv_at hl 2 rfl) ?_
            refine lv_iload_n X.1 X.2.1 dX5_splitGroups_43 rfl (lv_at hl 3 rfl) ?_
            obtain ⟨hi11, h⟩ := h
            refine tw_iast X hK w (tw_t_5_9 hT h0) (tw_n_5_9 hT h0) hi11 dX5_splitGroups_44 (fun σ12 H locs eσ12 w => ?_)
            have h := h _ eσ12
            refine lv_iinc (v := (x1 + 1)) (lv' := [(1, .int (x1 + 1)), (3, .int r4), (0, .ref a0), (2, .int x2)]) X.1 X.2.1 dX5_splitGroups_45 hl (k := 2) rfl rfl (by decide) rfl (fun ls hl => ?_)
            refine lv_aload_n X.1 X.2.1 dX5_splitGroups_48 rfl (lv_at hl 2 rfl) ?_
            refine tw_get X hK w 5 iw_X5_splitGroups_5 h0 (by decide) rfl 8 (by decide) (List.mem_of_getElem? (i := 3) rfl) rfl dX5_splitGroups_49 ?_
            refine lv_iload_n X.1 X.2.1 dX5_splitGroups_52 rfl (lv_at hl 3 rfl) ?_
            refine lv_iload_n X.1 X.2.1 dX5_splitGroups_53 rfl (lv_at hl 1 rfl) ?_
            obtain ⟨hi13, h⟩ := h
            refine tw_iast X hK w (tw_t_5_8 hT h0) (tw_n_5_8 hT h0) hi13 dX5_splitGroups_54 (fun σ14 H locs eσ14 w => ?_)
            have h := h _ eσ14
            refine lv_iinc (v := (x2 + 1)) (lv' := [(2, .int (x2 + 1)), (1, .int (x1 + 1)), (3, .int r4), (0, .ref a0)]) X.1 X.2.1 dX5_splitGroups_55 hl (k := 3) rfl rfl (by decide) rfl (fun ls hl => ?_)
            refine lv_goto (tgt := 4) X.1 X.2.1 dX5_splitGroups_58 (by decide) ?_
            exact ih (x1 + 1) (x2 + 1) σ14 _ _ ls h w (lv_sub hl [3, 1, 0] rfl)
set_option maxHeartbeats 4000000 in
set_option maxRecDepth 100000 in
theorem ct_X5_splitGroups (l : Launch) (D : va_G) (g : tw_G) (hT : tw_T g) (sz : Nat) (σ : tw_S) (a0 : Nat) (h0 : tw_is g 5 a0) (Q : Int32 → tw_S → Prop) (h : wp_X5_splitGroups g σ a0 Q) : tw_Mi l yX5_splitGroups wsX5_splitGroups RM_X5_splitGroups D g sz σ [.ref a0] Q := by
  refine Met.ofW (cc := cX5_splitGroups) (maxL := 4) (ret := (some .int)) (by decide) rfl ?_
  intro p e s m args below meth c s₁ B hml hv
  obtain ⟨rfl, hsz, hP, hK, hD0⟩ := hv
  subst hsz
  have hr := B.returns
  have hlk := B.notSynchronized
  have X : CallFix p m c cX5_splitGroups 4 s _ wsX5_splitGroups RX5 := ⟨B.exec, B.bytes, hml, findClass_of_methodNamed B.named, atoms_spec (ws := wsX5_splitGroups) B.pre⟩
  have w := tw_w0 hP hD0
  have hl := lv_entry ([.ref a0]) (n := 4) (Nat.le_of_ble_eq_true rfl)
  rw [lg_entry_eq]
  generalize (lg_sl ([.ref a0]) ++ List.replicate (4 - (lg_sl ([.ref a0])).length) Slot.unset).toArray = ls at hl ⊢
  have hl : lv_has ls 4 [(0, .ref a0)] := hl
  unfold wp_X5_splitGroups at h
  refine lv_iconst (v := 0) X.1 X.2.1 dX5_splitGroups_0 (by decide) ?_
  refine lv_istore_n (lv' := [(1, .int (0 : Int32)), (0, .ref a0)]) X.1 X.2.1 dX5_splitGroups_1 rfl hl (by decide) rfl (fun ls hl => ?_)
  refine lv_iconst (v := 0) X.1 X.2.1 dX5_splitGroups_2 (by decide) ?_
  refine lv_istore_n (lv' := [(2, .int (0 : Int32)), (1, .int (0 : Int32)), (0, .ref a0)]) X.1 X.2.1 dX5_splitGroups_3 rfl hl (by decide) rfl (fun ls hl => ?_)
  obtain ⟨n4, h⟩ := h
  refine lp_X5_splitGroups_4 X hr hlk hK hT h0 (fun v15 σ16 H locs ls h w hl => ?_) n4 (0 : Int32) (0 : Int32) σ _ _ ls h w (lv_sub hl [2, 1, 0] rfl)
  · skip
    refine lv_aload_n X.1 X.2.1 dX5_splitGroups_61 rfl (lv_at hl 0 rfl) ?_
    refine tw_get X hK w 5 iw_X5_splitGroups_5 h0 (by decide) rfl 8 (by decide) (List.mem_of_getElem? (i := 3) rfl) rfl dX5_splitGroups_62 ?_
    refine lv_iconst (v := 0) X.1 X.2.1 dX5_splitGroups_65 (by decide) ?_
    refine lv_aload_n X.1 X.2.1 dX5_splitGroups_66 rfl (lv_at hl 0 rfl) ?_
    refine tw_get X hK w 5 iw_X5_splitGroups_5 h0 (by decide) rfl 7 (by decide) (List.mem_of_getElem? (i := 4) rfl) rfl dX5_splitGroups_67 ?_
    refine lv_iconst (v := 0) X.1 X.2.1 dX5_splitGroups_70 (by decide) ?_
    refine lv_sipush (v := 150) X.1 X.2.1 dX5_splitGroups_71 (by decide) ?_
    refine tw_copy X hK w hl.1 (List.mem_of_getElem? (i := 5) rfl) (List.mem_of_getElem? (i := 6) rfl) (List.mem_of_getElem? (i := 7) rfl) (List.mem_of_getElem? (i := 8) rfl) (tw_t_5_8 hT h0) (tw_n_5_8 hT h0) (tw_t_5_7 hT h0) (tw_n_5_7 hT h0) (by decide) (by decide) (by decide) (by decide) (by decide) (Nat.le_of_ble_eq_true rfl) (Nat.le_of_ble_eq_true rfl) dX5_splitGroups_74 (fun σ17 H locs eσ17 w => ?_)
    have h := h _ eσ17
    refine lv_iload_n X.1 X.2.1 dX5_splitGroups_77 rfl (lv_at hl 1 rfl) ?_
    exact tw_iret X hr hlk w h dX5_splitGroups_78

abbrev RM_X5_leastSize : Room := { frames := 5, cells := 0, slots := 0, locals := 111 }
theorem iw_X5_leastSize_5 : ∀ w ∈ wsX50, w ∈ wsX5_leastSize := fun w h => List.mem_cons_of_mem _ (List.mem_append_right _ (h))
def wl_X5_leastSize_13 (g : tw_G) (a0 : Nat) (Q : Int32 → tw_S → Prop) (k33 : tw_S → Prop) (k47 : tw_S → Prop) : Nat → Int32 → tw_S → Prop
  | 0, _, _ => False
  | n + 1, x1, σ => (((150 : Int32) < x1) → k47  σ) ∧ (¬ ((150 : Int32) < x1) → wp_X5_splitGroups g σ a0 (fun r5 σ4 => ((¬ r5 = (tw_I σ4 a0 15)) → ∀ σ7, σ7 = (tw_sI σ4 a0 15 r5) → wl_X5_leastSize_13 g a0 Q k33 k47 n (x1 + 1) σ7) ∧ ((r5 = (tw_I σ4 a0 15)) → k33  σ4)))
def wp_X5_leastSize (g : tw_G) (σ : tw_S) (a0 : Nat) (Q : Int32 → tw_S → Prop) : Prop := ((¬ (tw_I σ a0 15) = 0) → Q (tw_I σ a0 15) σ) ∧ (((tw_I σ a0 15) = 0) → wp_X5_groupByGoodness g σ a0 (fun σ2 => ∃ n13, wl_X5_leastSize_13 g a0 Q (fun σ8 => Q (tw_I σ8 a0 15) σ8) (fun σ9 => Q (tw_I σ9 a0 15) σ9) n13 (0 : Int32) σ2))
set_option maxHeartbeats 4000000 in
set_option maxRecDepth 100000 in
theorem lp_X5_leastSize_13 {p : Program} {l : Launch} {e : Env} {s : State} {m : MethodId} {args : Array Value} {below : List Frame} {meth : Method} {c : Code} {D : va_G} {g : tw_G} (X : CallFix p m c cX5_leastSize 3 s args wsX5_leastSize RX5) (hr : meth.sig.returnType = (some .int)) (hlk : meth.locks = false) (hK : tw_k D g s) (hT : tw_T g) {a0 : Nat} (h0 : tw_is g 5 a0) {Q : Int32 → tw_S → Prop} {k33 : tw_S → Prop} {k47 : tw_S → Prop}
    (hk33 : ∀  (σ : tw_S) (H : Heap) (locs : List Loc) (ls : Array Slot), k33  σ → tw_w D g (tw_F g s.heap.size) s σ H locs → lv_has ls 3 [(0, .ref a0)] → W p l e RM_X5_leastSize s m args below meth c H locs 0 0 (tw_Qi Q D g below args s) (F0 m 33 ls []))
    (hk47 : ∀  (σ : tw_S) (H : Heap) (locs : List Loc) (ls : Array Slot), k47  σ → tw_w D g (tw_F g s.heap.size) s σ H locs → lv_has ls 3 [(0, .ref a0)] → W p l e RM_X5_leastSize s m args below meth c H locs 0 0 (tw_Qi Q D g below args s) (F0 m 47 ls []))
    : ∀ (n : Nat) (x1 : Int32) (σ : tw_S) (H : Heap) (locs : List Loc) (ls : Array Slot), wl_X5_leastSize_13 g a0 Q k33 k47 n x1 σ → tw_w D g (tw_F g s.heap.size) s σ H locs → lv_has ls 3 [(0, .ref a0), (1, .int x1)] → W p l e RM_X5_leastSize s m args below meth c H locs 0 0 (tw_Qi Q D g below args s) (F0 m 13 ls []) := by
  intro n
  induction n with
  | zero =>
    intro x1 σ H locs ls h w hl
    exact False.elim h
  | succ n ih =>
    intro x1 σ H locs ls h w hl
    rw [wl_X5_leastSize_13] at h
    refine lv_iload_n X.1 X.2.1 dX5_leastSize_13 rfl (lv_at hl 1 rfl) ?_
    refine lv_sipush (v := 150) X.1 X.2.1 dX5_leastSize_14 (by decide) ?_
    refine lv_icmp_gt (tgt := 47) X.1 X.2.1 dX5_leastSize_17 (by decide) (fun c3 => ?_) (fun c3 => ?_)
    · have h := h.1 c3
      exact hk47  σ _ _ ls h w (lv_sub hl [0] rfl)
    · have h := h.2 c3
      refine lv_aload_n X.1 X.2.1 dX5_leastSize_20 rfl (lv_at hl 0 rfl) ?_
      refine tw_ci w (va_runV (As := []) (rest := []) X (ct_X5_splitGroups l D g hT _ σ a0 h0 _ h) (cwV 0 X.2.2.2.2 gX5_leastSize_X5_splitGroups rfl rfl rfl (by decide +kernel) ⟨Nat.le_of_ble_eq_true rfl, Nat.le_of_ble_eq_true rfl⟩) (tw_preV hK w h0 (by decide) rfl []) rfl rfl hl.1 rfl (lv_room (Nat.le_of_ble_eq_true rfl)) dX5_leastSize_21 ⟨Nat.zero_le _, Nat.zero_le _⟩) (fun r5 σ4 H locs h w => ?_)
      refine lv_istore_n (lv' := [(2, .int r5), (0, .ref a0), (1, .int x1)]) X.1 X.2.1 dX5_leastSize_24 rfl hl (by decide) rfl (fun ls hl => ?_)
      refine lv_iload_n X.1 X.2.1 dX5_leastSize_25 rfl (lv_at hl 0 rfl) ?_
      refine lv_aload_n X.1 X.2.1 dX5_leastSize_26 rfl (lv_at hl 1 rfl) ?_
      refine tw_get X hK w 5 iw_X5_leastSize_5 h0 (by decide) rfl 15 (by decide) (List.mem_of_getElem? (i := 1) rfl) rfl dX5_leastSize_27 ?_
      refine lv_icmp_ne (tgt := 36) X.1 X.2.1 dX5_leastSize_30 (by decide) (fun c6 => ?_) (fun c6 => ?_)
      · have h := h.1 c6
        refine lv_aload_n X.1 X.2.1 dX5_leastSize_36 rfl (lv_at hl 1 rfl) ?_
        refine lv_iload_n X.1 X.2.1 dX5_leastSize_37 rfl (lv_at hl 0 rfl) ?_
        refine tw_putI X hK w 5 iw_X5_leastSize_5 tyX5 tyX5_ok nmX5 h0 (by decide) rfl 15 (by decide) (List.mem_of_getElem? (i := 1) rfl) rfl (ty := .int) (by decide +kernel) rfl rfl (Nat.le_of_ble_eq_true rfl) (tw_f_5_15 g _ _ _) dX5_leastSize_38 (fun σ7 H locs eσ7 w => ?_)
        have h := h _ eσ7
        refine lv_iinc (v := (x1 + 1)) (lv' := [(1, .int (x1 + 1)), (2, .int r5), (0, .ref a0)]) X.1 X.2.1 dX5_leastSize_41 hl (k := 2) rfl rfl (by decide) rfl (fun ls hl => ?_)
        refine lv_goto (tgt := 13) X.1 X.2.1 dX5_leastSize_44 (by decide) ?_
        exact ih (x1 + 1) σ7 _ _ ls h w (lv_sub hl [2, 0] rfl)
      · have h := h.2 c6
        exact hk33  σ4 _ _ ls h w (lv_sub hl [1] rfl)
set_option maxHeartbeats 4000000 in
set_option maxRecDepth 100000 in
theorem ct_X5_leastSize (l : Launch) (D : va_G) (g : tw_G) (hT : tw_T g) (sz : Nat) (σ : tw_S) (a0 : Nat) (h0 : tw_is g 5 a0) (Q : Int32 → tw_S → Prop) (h : wp_X5_leastSize g σ a0 Q) : tw_Mi l yX5_leastSize wsX5_leastSize RM_X5_leastSize D g sz σ [.ref a0] Q := by
  refine Met.ofW (cc := cX5_leastSize) (maxL := 3) (ret := (some .int)) (by decide) rfl ?_
  intro p e s m args below meth c s₁ B hml hv
  obtain ⟨rfl, hsz, hP, hK, hD0⟩ := hv
  subst hsz
  have hr := B.returns
  have hlk := B.notSynchronized
  have X : CallFix p m c cX5_leastSize 3 s _ wsX5_leastSize RX5 := ⟨B.exec, B.bytes, hml, findClass_of_methodNamed B.named, atoms_spec (ws := wsX5_leastSize) B.pre⟩
  have w := tw_w0 hP hD0
  have hl := lv_entry ([.ref a0]) (n := 3) (Nat.le_of_ble_eq_true rfl)
  rw [lg_entry_eq]
  generalize (lg_sl ([.ref a0]) ++ List.replicate (3 - (lg_sl ([.ref a0])).length) Slot.unset).toArray = ls at hl ⊢
  have hl : lv_has ls 3 [(0, .ref a0)] := hl
  unfold wp_X5_leastSize at h
  refine lv_aload_n X.1 X.2.1 dX5_leastSize_0 rfl (lv_at hl 0 rfl) ?_
  refine tw_get X hK w 5 iw_X5_leastSize_5 h0 (by decide) rfl 15 (by decide) (List.mem_of_getElem? (i := 1) rfl) rfl dX5_leastSize_1 ?_
  refine lv_if_ne (tgt := 47) X.1 X.2.1 dX5_leastSize_4 (by decide) (fun c1 => ?_) (fun c1 => ?_)
  · have h := h.1 c1
    refine lv_aload_n X.1 X.2.1 dX5_leastSize_47 rfl (lv_at hl 0 rfl) ?_
    refine tw_get X hK w 5 iw_X5_leastSize_5 h0 (by decide) rfl 15 (by decide) (List.mem_of_getElem? (i := 1) rfl) rfl dX5_leastSize_48 ?_
    exact tw_iret X hr hlk w h dX5_leastSize_51
  · have h := h.2 c1
    refine lv_aload_n X.1 X.2.1 dX5_leastSize_7 rfl (lv_at hl 0 rfl) ?_
    refine tw_cv w (va_runV (As := []) (rest := []) X (ct_X5_groupByGoodness l D g hT _ σ a0 h0 _ h) (cwV 0 X.2.2.2.2 gX5_leastSize_X5_groupByGoodness rfl rfl rfl (by decide +kernel) ⟨Nat.le_of_ble_eq_true rfl, Nat.le_of_ble_eq_true rfl⟩) (tw_preV hK w h0 (by decide) rfl []) rfl rfl hl.1 rfl (lv_room (Nat.le_of_ble_eq_true rfl)) dX5_leastSize_8 ⟨Nat.zero_le _, Nat.zero_le _⟩) (fun σ2 H locs h w => ?_)
    refine lv_iconst (v := 0) X.1 X.2.1 dX5_leastSize_11 (by decide) ?_
    refine lv_istore_n (lv' := [(1, .int (0 : Int32)), (0, .ref a0)]) X.1 X.2.1 dX5_leastSize_12 rfl hl (by decide) rfl (fun ls hl => ?_)
    obtain ⟨n13, h⟩ := h
    refine lp_X5_leastSize_13 X hr hlk hK hT h0 (fun σ8 H locs ls h w hl => ?_) (fun σ9 H locs ls h w hl => ?_) n13 (0 : Int32) σ2 _ _ ls h w (lv_sub hl [1, 0] rfl)
    · skip
      refine lv_goto (tgt := 47) X.1 X.2.1 dX5_leastSize_33 (by decide) ?_
      refine lv_aload_n X.1 X.2.1 dX5_leastSize_47 rfl (lv_at hl 0 rfl) ?_
      refine tw_get X hK w 5 iw_X5_leastSize_5 h0 (by decide) rfl 15 (by decide) (List.mem_of_getElem? (i := 1) rfl) rfl dX5_leastSize_48 ?_
      exact tw_iret X hr hlk w h dX5_leastSize_51
    · skip
      refine lv_aload_n X.1 X.2.1 dX5_leastSize_47 rfl (lv_at hl 0 rfl) ?_
      refine tw_get X hK w 5 iw_X5_leastSize_5 h0 (by decide) rfl 15 (by decide) (List.mem_of_getElem? (i := 1) rfl) rfl dX5_leastSize_48 ?_
      exact tw_iret X hr hlk w h dX5_leastSize_51

abbrev RM_X4_isMet : Room := { frames := 0, cells := 0, slots := 0, locals := 0 }
theorem iw_X4_isMet_4 : ∀ w ∈ wsX40, w ∈ wsX4_isMet := fun w h => List.mem_cons_of_mem _ (List.mem_append_right _ (h))
def wp_X4_isMet (g : tw_G) (σ : tw_S) (a0 : Nat) (x1 : Int32) (Q : Int32 → tw_S → Prop) : Prop := vp_in (x1 >>> ((5 : Int32) &&& 31)) 704 ∧ ((¬ (((tw_A σ (tw_R g a0 1) (x1 >>> ((5 : Int32) &&& 31)).toNatClampNeg) >>> ((x1 &&& (31 : Int32)) &&& 31)) &&& (1 : Int32)) = (1 : Int32)) → Q (0 : Int32) σ) ∧ (((((tw_A σ (tw_R g a0 1) (x1 >>> ((5 : Int32) &&& 31)).toNatClampNeg) >>> ((x1 &&& (31 : Int32)) &&& 31)) &&& (1 : Int32)) = (1 : Int32)) → Q (1 : Int32) σ)
set_option maxHeartbeats 4000000 in
set_option maxRecDepth 100000 in
theorem ct_X4_isMet (l : Launch) (D : va_G) (g : tw_G) (hT : tw_T g) (sz : Nat) (σ : tw_S) (a0 : Nat) (h0 : tw_is g 4 a0) (x1 : Int32) (Q : Int32 → tw_S → Prop) (h : wp_X4_isMet g σ a0 x1 Q) : tw_Mi l yX4_isMet wsX4_isMet RM_X4_isMet D g sz σ [.ref a0, .int x1] Q := by
  refine Met.ofW (cc := cX4_isMet) (maxL := 2) (ret := (some .boolean)) (by decide) rfl ?_
  intro p e s m args below meth c s₁ B hml hv
  obtain ⟨rfl, hsz, hP, hK, hD0⟩ := hv
  subst hsz
  have hr := B.returns
  have hlk := B.notSynchronized
  have X : CallFix p m c cX4_isMet 2 s _ wsX4_isMet RX4 := ⟨B.exec, B.bytes, hml, findClass_of_methodNamed B.named, atoms_spec (ws := wsX4_isMet) B.pre⟩
  have w := tw_w0 hP hD0
  have hl := lv_entry ([.ref a0, .int x1]) (n := 2) (Nat.le_of_ble_eq_true rfl)
  rw [lg_entry_eq]
  generalize (lg_sl ([.ref a0, .int x1]) ++ List.replicate (2 - (lg_sl ([.ref a0, .int x1])).length) Slot.unset).toArray = ls at hl ⊢
  have hl : lv_has ls 2 [(0, .ref a0), (1, .int x1)] := hl
  unfold wp_X4_isMet at h
  refine lv_aload_n X.1 X.2.1 dX4_isMet_0 rfl (lv_at hl 0 rfl) ?_
  refine tw_get X hK w 4 iw_X4_isMet_4 h0 (by decide) rfl 1 (by decide) (List.mem_of_getElem? (i := 1) rfl) rfl dX4_isMet_1 ?_
  refine lv_iload_n X.1 X.2.1 dX4_isMet_4 rfl (lv_at hl 1 rfl) ?_
  refine lv_iconst (v := 5) X.1 X.2.1 dX4_isMet_5 (by decide) ?_
  refine lv_ishr X.1 X.2.1 dX4_isMet_6 ?_
  obtain ⟨hi1, h⟩ := h
  refine tw_iald X hK w (tw_t_4_1 hT h0) (tw_n_4_1 hT h0) hi1 dX4_isMet_7 ?_
  refine lv_iload_n X.1 X.2.1 dX4_isMet_8 rfl (lv_at hl 1 rfl) ?_
  refine lv_bipush (v := 31) X.1 X.2.1 dX4_isMet_9 (by decide) ?_
  refine lv_iand X.1 X.2.1 dX4_isMet_11 ?_
  refine lv_ishr X.1 X.2.1 dX4_isMet_12 ?_
  refine lv_iconst (v := 1) X.1 X.2.1 dX4_isMet_13 (by decide) ?_
  refine lv_iand X.1 X.2.1 dX4_isMet_14 ?_
  refine lv_iconst (v := 1) X.1 X.2.1 dX4_isMet_15 (by decide) ?_
  refine lv_icmp_ne (tgt := 23) X.1 X.2.1 dX4_isMet_16 (by decide) (fun c2 => ?_) (fun c2 => ?_)
  · have h := h.1 c2
    refine lv_iconst (v := 0) X.1 X.2.1 dX4_isMet_23 (by decide) ?_
    exact tw_zret X hr hlk w (by decide) h dX4_isMet_24
  · have h := h.2 c2
    refine lv_iconst (v := 1) X.1 X.2.1 dX4_isMet_19 (by decide) ?_
    refine lv_goto (tgt := 24) X.1 X.2.1 dX4_isMet_20 (by decide) ?_
    exact tw_zret X hr hlk w (by decide) h dX4_isMet_24

abbrev RM_X4_meet : Room := { frames := 1, cells := 0, slots := 0, locals := 21 }
theorem iw_X4_meet_4 : ∀ w ∈ wsX40, w ∈ wsX4_meet := fun w h => List.mem_cons_of_mem _ (List.mem_append_right _ (h))
def wp_X4_meet (g : tw_G) (σ : tw_S) (a0 : Nat) (x1 : Int32) (x2 : Int32) (x3 : Int32) (Q : tw_S → Prop) : Prop := ∀ z1, z1 = (((150 : Int32) * x1) + x2) → ((x1 < 0) → Q σ) ∧ (¬ (x1 < 0) → ((x2 < 0) → Q σ) ∧ (¬ (x2 < 0) → (((22500 : Int32) ≤ z1) → Q σ) ∧ (¬ ((22500 : Int32) ≤ z1) → (((22500 : Int32) ≤ (tw_I σ a0 2)) → Q σ) ∧ (¬ ((22500 : Int32) ≤ (tw_I σ a0 2)) → wp_X4_isMet g σ a0 z1 (fun r7 σ6 => ((r7 = 0) → vp_in (z1 >>> ((5 : Int32) &&& 31)) 704 ∧ vp_in (z1 >>> ((5 : Int32) &&& 31)) 704 ∧ ∀ σ11, σ11 = (tw_sA σ6 (tw_R g a0 1) (upd (tw_A σ6 (tw_R g a0 1)) (z1 >>> ((5 : Int32) &&& 31)).toNatClampNeg ((tw_A σ6 (tw_R g a0 1) (z1 >>> ((5 : Int32) &&& 31)).toNatClampNeg) ||| ((1 : Int32) <<< ((z1 &&& (31 : Int32)) &&& 31))))) → vp_in (tw_I σ11 a0 2) 22500 ∧ ∀ σ13, σ13 = (tw_sB σ11 (tw_R g a0 0) (vp_updL (tw_B σ11 (tw_R g a0 0)) (tw_I σ11 a0 2).toNatClampNeg (((x3.toInt64) <<< ((15 : Int32).toInt64 &&& 63)) ||| (z1.toInt64)))) → ∀ σ14, σ14 = (tw_sI σ13 a0 2 ((tw_I σ13 a0 2) + (1 : Int32))) → Q σ14) ∧ (¬ (r7 = 0) → Q σ6))))))
set_option maxHeartbeats 4000000 in
set_option maxRecDepth 100000 in
theorem ct_X4_meet (l : Launch) (D : va_G) (g : tw_G) (hT : tw_T g) (sz : Nat) (σ : tw_S) (a0 : Nat) (h0 : tw_is g 4 a0) (x1 : Int32) (x2 : Int32) (x3 : Int32) (Q : tw_S → Prop) (h : wp_X4_meet g σ a0 x1 x2 x3 Q) : tw_Mv l yX4_meet wsX4_meet RM_X4_meet D g sz σ [.ref a0, .int x1, .int x2, .int x3] Q := by
  refine Met.ofW (cc := cX4_meet) (maxL := 5) (ret := none) (by decide) rfl ?_
  intro p e s m args below meth c s₁ B hml hv
  obtain ⟨rfl, hsz, hP, hK, hD0⟩ := hv
  subst hsz
  have hr := B.returns
  have hlk := B.notSynchronized
  have X : CallFix p m c cX4_meet 5 s _ wsX4_meet RX4 := ⟨B.exec, B.bytes, hml, findClass_of_methodNamed B.named, atoms_spec (ws := wsX4_meet) B.pre⟩
  have w := tw_w0 hP hD0
  have hl := lv_entry ([.ref a0, .int x1, .int x2, .int x3]) (n := 5) (Nat.le_of_ble_eq_true rfl)
  rw [lg_entry_eq]
  generalize (lg_sl ([.ref a0, .int x1, .int x2, .int x3]) ++ List.replicate (5 - (lg_sl ([.ref a0, .int x1, .int x2, .int x3])).length) Slot.unset).toArray = ls at hl ⊢
  have hl : lv_has ls 5 [(0, .ref a0), (1, .int x1), (2, .int x2), (3, .int x3)] := hl
  unfold wp_X4_meet at h
  refine lv_sipush (v := 150) X.1 X.2.1 dX4_meet_0 (by decide) ?_
  refine lv_iload_n X.1 X.2.1 dX4_meet_3 rfl (lv_at hl 1 rfl) ?_
  refine lv_imul X.1 X.2.1 dX4_meet_4 ?_
  refine lv_iload_n X.1 X.2.1 dX4_meet_5 rfl (lv_at hl 2 rfl) ?_
  refine lv_iadd X.1 X.2.1 dX4_meet_6 ?_
  refine lv_topi (fun z1 ez1 => ?_)
  have h := h _ ez1
  refine lv_istore (lv' := [(4, .int z1), (0, .ref a0), (1, .int x1), (2, .int x2), (3, .int x3)]) X.1 X.2.1 dX4_meet_7 hl (by decide) rfl (fun ls hl => ?_)
  refine lv_iload_n X.1 X.2.1 dX4_meet_9 rfl (lv_at hl 2 rfl) ?_
  refine lv_if_lt (tgt := 44) X.1 X.2.1 dX4_meet_10 (by decide) (fun c2 => ?_) (fun c2 => ?_)
  · have h := h.1 c2
    exact tw_vret X hr hlk w h dX4_meet_44
  · have h := h.2 c2
    refine lv_iload_n X.1 X.2.1 dX4_meet_13 rfl (lv_at hl 3 rfl) ?_
    refine lv_if_lt (tgt := 44) X.1 X.2.1 dX4_meet_14 (by decide) (fun c3 => ?_) (fun c3 => ?_)
    · have h := h.1 c3
      exact tw_vret X hr hlk w h dX4_meet_44
    · have h := h.2 c3
      refine lv_iload X.1 X.2.1 dX4_meet_17 (lv_at hl 0 rfl) ?_
      refine lv_sipush (v := 22500) X.1 X.2.1 dX4_meet_19 (by decide) ?_
      refine lv_icmp_ge (tgt := 44) X.1 X.2.1 dX4_meet_22 (by decide) (fun c4 => ?_) (fun c4 => ?_)
      · have h := h.1 c4
        exact tw_vret X hr hlk w h dX4_meet_44
      · have h := h.2 c4
        refine lv_aload_n X.1 X.2.1 dX4_meet_25 rfl (lv_at hl 1 rfl) ?_
        refine tw_get X hK w 4 iw_X4_meet_4 h0 (by decide) rfl 2 (by decide) (List.mem_of_getElem? (i := 1) rfl) rfl dX4_meet_26 ?_
        refine lv_sipush (v := 22500) X.1 X.2.1 dX4_meet_29 (by decide) ?_
        refine lv_icmp_ge (tgt := 44) X.1 X.2.1 dX4_meet_32 (by decide) (fun c5 => ?_) (fun c5 => ?_)
        · have h := h.1 c5
          exact tw_vret X hr hlk w h dX4_meet_44
        · have h := h.2 c5
          refine lv_aload_n X.1 X.2.1 dX4_meet_35 rfl (lv_at hl 1 rfl) ?_
          refine lv_iload X.1 X.2.1 dX4_meet_36 (lv_at hl 0 rfl) ?_
          refine tw_ci w (va_runV (As := [.int z1]) (rest := []) X (ct_X4_isMet l D g hT _ σ a0 h0 z1 _ h) (cwV 1 X.2.2.2.2 gX4_meet_X4_isMet rfl rfl rfl (by decide +kernel) ⟨Nat.le_of_ble_eq_true rfl, Nat.le_of_ble_eq_true rfl⟩) (tw_preV hK w h0 (by decide) rfl [.int z1]) rfl rfl hl.1 rfl (lv_room (Nat.le_of_ble_eq_true rfl)) dX4_meet_38 ⟨Nat.zero_le _, Nat.zero_le _⟩) (fun r7 σ6 H locs h w => ?_)
          refine lv_if_eq (tgt := 45) X.1 X.2.1 dX4_meet_41 (by decide) (fun c8 => ?_) (fun c8 => ?_)
          · have h := h.1 c8
            refine lv_aload_n X.1 X.2.1 dX4_meet_45 rfl (lv_at hl 1 rfl) ?_
            refine tw_get X hK w 4 iw_X4_meet_4 h0 (by decide) rfl 1 (by decide) (List.mem_of_getElem? (i := 2) rfl) rfl dX4_meet_46 ?_
            refine lv_iload X.1 X.2.1 dX4_meet_49 (lv_at hl 0 rfl) ?_
            refine lv_iconst (v := 5) X.1 X.2.1 dX4_meet_51 (by decide) ?_
            refine lv_ishr X.1 X.2.1 dX4_meet_52 ?_
            refine lv_dup2_11 X.1 X.2.1 dX4_meet_53 rfl rfl ?_
            obtain ⟨hi9, h⟩ := h
            refine tw_iald X hK w (tw_t_4_1 hT h0) (tw_n_4_1 hT h0) hi9 dX4_meet_54 ?_
            refine lv_iconst (v := 1) X.1 X.2.1 dX4_meet_55 (by decide) ?_
            refine lv_iload X.1 X.2.1 dX4_meet_56 (lv_at hl 0 rfl) ?_
            refine lv_bipush (v := 31) X.1 X.2.1 dX4_meet_58 (by decide) ?_
            refine lv_iand X.1 X.2.1 dX4_meet_60 ?_
            refine lv_ishl X.1 X.2.1 dX4_meet_61 ?_
            refine lv_ior X.1 X.2.1 dX4_meet_62 ?_
            obtain ⟨hi10, h⟩ := h
            refine tw_iast X hK w (tw_t_4_1 hT h0) (tw_n_4_1 hT h0) hi10 dX4_meet_63 (fun σ11 H locs eσ11 w => ?_)
            have h := h _ eσ11
            refine lv_aload_n X.1 X.2.1 dX4_meet_64 rfl (lv_at hl 1 rfl) ?_
            refine tw_get X hK w 4 iw_X4_meet_4 h0 (by decide) rfl 0 (by decide) (List.mem_of_getElem? (i := 3) rfl) rfl dX4_meet_65 ?_
            refine lv_aload_n X.1 X.2.1 dX4_meet_68 rfl (lv_at hl 1 rfl) ?_
            refine tw_get X hK w 4 iw_X4_meet_4 h0 (by decide) rfl 2 (by decide) (List.mem_of_getElem? (i := 1) rfl) rfl dX4_meet_69 ?_
            refine lv_iload_n X.1 X.2.1 dX4_meet_72 rfl (lv_at hl 4 rfl) ?_
            refine lv_i2l (v := (x3.toInt64)) X.1 X.2.1 dX4_meet_73 rfl ?_
            refine lv_bipush (v := 15) X.1 X.2.1 dX4_meet_74 (by decide) ?_
            refine lv_lshl (v := ((x3.toInt64) <<< ((15 : Int32).toInt64 &&& 63))) X.1 X.2.1 dX4_meet_76 rfl ?_
            refine lv_iload X.1 X.2.1 dX4_meet_77 (lv_at hl 0 rfl) ?_
            refine lv_i2l (v := (z1.toInt64)) X.1 X.2.1 dX4_meet_79 rfl ?_
            refine lv_lor X.1 X.2.1 dX4_meet_80 ?_
            obtain ⟨hi12, h⟩ := h
            refine tw_last X hK w (tw_t_4_0 hT h0) (tw_n_4_0 hT h0) hi12 dX4_meet_81 (fun σ13 H locs eσ13 w => ?_)
            have h := h _ eσ13
            refine lv_aload_n X.1 X.2.1 dX4_meet_82 rfl (lv_at hl 1 rfl) ?_
            refine lv_dup X.1 X.2.1 dX4_meet_83 rfl ?_
            refine tw_get X hK w 4 iw_X4_meet_4 h0 (by decide) rfl 2 (by decide) (List.mem_of_getElem? (i := 1) rfl) rfl dX4_meet_84 ?_
            refine lv_iconst (v := 1) X.1 X.2.1 dX4_meet_87 (by decide) ?_
            refine lv_iadd X.1 X.2.1 dX4_meet_88 ?_
            refine tw_putI X hK w 4 iw_X4_meet_4 tyX4 tyX4_ok nmX4 h0 (by decide) rfl 2 (by decide) (List.mem_of_getElem? (i := 1) rfl) rfl (ty := .int) (by decide +kernel) rfl rfl (Nat.le_of_ble_eq_true rfl) (tw_f_4_2 g _ _ _) dX4_meet_89 (fun σ14 H locs eσ14 w => ?_)
            have h := h _ eσ14
            exact tw_vret X hr hlk w h dX4_meet_92
          · have h := h.2 c8
            exact tw_vret X hr hlk w h dX4_meet_44

abbrev RM_X4_fits : Room := { frames := 0, cells := 0, slots := 0, locals := 0 }
def wp_X4_fits (g : tw_G) (σ : tw_S) (x0 : Int32) (x1 : Int32) (x2 : Int32) (Q : Int32 → tw_S → Prop) : Prop := (x0 = 0 → ((x1 = 0) → Q (0 : Int32) σ) ∧ (¬ (x1 = 0) → ((x2 = 0) → Q (0 : Int32) σ) ∧ (¬ (x2 = 0) → Q (1 : Int32) σ))) ∧ (¬ x0 = 0 → (x0 = 1 → ((¬ x1 = 0) → Q (1 : Int32) σ) ∧ ((x1 = 0) → ((x2 = 0) → Q (0 : Int32) σ) ∧ (¬ (x2 = 0) → Q (1 : Int32) σ))) ∧ (¬ x0 = 1 → (x0 = 2 → ((x1 = 0) → Q (0 : Int32) σ) ∧ (¬ (x1 = 0) → ((¬ x2 = 0) → Q (0 : Int32) σ) ∧ ((x2 = 0) → Q (1 : Int32) σ))) ∧ (¬ x0 = 2 → ((x1 = x2) → Q (0 : Int32) σ) ∧ (¬ (x1 = x2) → Q (1 : Int32) σ))))
set_option maxHeartbeats 4000000 in
set_option maxRecDepth 100000 in
theorem ct_X4_fits (l : Launch) (D : va_G) (g : tw_G) (hT : tw_T g) (sz : Nat) (σ : tw_S) (x0 : Int32) (x1 : Int32) (x2 : Int32) (Q : Int32 → tw_S → Prop) (h : wp_X4_fits g σ x0 x1 x2 Q) : tw_Mi l yX4_fits wsX4_fits RM_X4_fits D g sz σ [.int x0, .int x1, .int x2] Q := by
  refine Met.ofW (cc := cX4_fits) (maxL := 3) (ret := (some .boolean)) (by decide) rfl ?_
  intro p e s m args below meth c s₁ B hml hv
  obtain ⟨rfl, hsz, hP, hK, hD0⟩ := hv
  subst hsz
  have hr := B.returns
  have hlk := B.notSynchronized
  have X : CallFix p m c cX4_fits 3 s _ wsX4_fits RX4 := ⟨B.exec, B.bytes, hml, findClass_of_methodNamed B.named, atoms_spec (ws := wsX4_fits) B.pre⟩
  have w := tw_w0 hP hD0
  have hl := lv_entry ([.int x0, .int x1, .int x2]) (n := 3) (Nat.le_of_ble_eq_true rfl)
  rw [lg_entry_eq]
  generalize (lg_sl ([.int x0, .int x1, .int x2]) ++ List.replicate (3 - (lg_sl ([.int x0, .int x1, .int x2])).length) Slot.unset).toArray = ls at hl ⊢
  have hl : lv_has ls 3 [(0, .int x0), (1, .int x1), (2, .int x2)] := hl
  unfold wp_X4_fits at h
  refine lv_iload_n X.1 X.2.1 dX4_fits_0 rfl (lv_at hl 0 rfl) ?_
  by_cases c1 : x0 = 0
  · have h := h.1 c1
    refine lv_tableIn (off := 27) (tgt := 28) X.1 X.2.1 dX4_fits_1 (by rw [c1] <;> decide) (by rw [c1] <;> decide) (by rw [c1] <;> decide) (by decide) ?_
    refine lv_iload_n X.1 X.2.1 dX4_fits_28 rfl (lv_at hl 1 rfl) ?_
    refine lv_if_eq (tgt := 40) X.1 X.2.1 dX4_fits_29 (by decide) (fun c2 => ?_) (fun c2 => ?_)
    · have h := h.1 c2
      refine lv_iconst (v := 0) X.1 X.2.1 dX4_fits_40 (by decide) ?_
      exact tw_zret X hr hlk w (by decide) h dX4_fits_41
    · have h := h.2 c2
      refine lv_iload_n X.1 X.2.1 dX4_fits_32 rfl (lv_at hl 2 rfl) ?_
      refine lv_if_eq (tgt := 40) X.1 X.2.1 dX4_fits_33 (by decide) (fun c3 => ?_) (fun c3 => ?_)
      · have h := h.1 c3
        refine lv_iconst (v := 0) X.1 X.2.1 dX4_fits_40 (by decide) ?_
        exact tw_zret X hr hlk w (by decide) h dX4_fits_41
      · have h := h.2 c3
        refine lv_iconst (v := 1) X.1 X.2.1 dX4_fits_36 (by decide) ?_
        refine lv_goto (tgt := 41) X.1 X.2.1 dX4_fits_37 (by decide) ?_
        exact tw_zret X hr hlk w (by decide) h dX4_fits_41
  · have h := h.2 c1
    by_cases c4 : x0 = 1
    · have h := h.1 c4
      refine lv_tableIn (off := 41) (tgt := 42) X.1 X.2.1 dX4_fits_1 (by rw [c4] <;> decide) (by rw [c4] <;> decide) (by rw [c4] <;> decide) (by decide) ?_
      refine lv_iload_n X.1 X.2.1 dX4_fits_42 rfl (lv_at hl 1 rfl) ?_
      refine lv_if_ne (tgt := 50) X.1 X.2.1 dX4_fits_43 (by decide) (fun c5 => ?_) (fun c5 => ?_)
      · have h := h.1 c5
        refine lv_iconst (v := 1) X.1 X.2.1 dX4_fits_50 (by decide) ?_
        refine lv_goto (tgt := 55) X.1 X.2.1 dX4_fits_51 (by decide) ?_
        exact tw_zret X hr hlk w (by decide) h dX4_fits_55
      · have h := h.2 c5
        refine lv_iload_n X.1 X.2.1 dX4_fits_46 rfl (lv_at hl 2 rfl) ?_
        refine lv_if_eq (tgt := 54) X.1 X.2.1 dX4_fits_47 (by decide) (fun c6 => ?_) (fun c6 => ?_)
        · have h := h.1 c6
          refine lv_iconst (v := 0) X.1 X.2.1 dX4_fits_54 (by decide) ?_
          exact tw_zret X hr hlk w (by decide) h dX4_fits_55
        · have h := h.2 c6
          refine lv_iconst (v := 1) X.1 X.2.1 dX4_fits_50 (by decide) ?_
          refine lv_goto (tgt := 55) X.1 X.2.1 dX4_fits_51 (by decide) ?_
          exact tw_zret X hr hlk w (by decide) h dX4_fits_55
    · have h := h.2 c4
      by_cases c7 : x0 = 2
      · have h := h.1 c7
        refine lv_tableIn (off := 55) (tgt := 56) X.1 X.2.1 dX4_fits_1 (by rw [c7] <;> decide) (by rw [c7] <;> decide) (by rw [c7] <;> decide) (by decide) ?_
        refine lv_iload_n X.1 X.2.1 dX4_fits_56 rfl (lv_at hl 1 rfl) ?_
        refine lv_if_eq (tgt := 68) X.1 X.2.1 dX4_fits_57 (by decide) (fun c8 => ?_) (fun c8 => ?_)
        · have h := h.1 c8
          refine lv_iconst (v := 0) X.1 X.2.1 dX4_fits_68 (by decide) ?_
          exact tw_zret X hr hlk w (by decide) h dX4_fits_69
        · have h := h.2 c8
          refine lv_iload_n X.1 X.2.1 dX4_fits_60 rfl (lv_at hl 2 rfl) ?_
          refine lv_if_ne (tgt := 68) X.1 X.2.1 dX4_fits_61 (by decide) (fun c9 => ?_) (fun c9 => ?_)
          · have h := h.1 c9
            refine lv_iconst (v := 0) X.1 X.2.1 dX4_fits_68 (by decide) ?_
            exact tw_zret X hr hlk w (by decide) h dX4_fits_69
          · have h := h.2 c9
            refine lv_iconst (v := 1) X.1 X.2.1 dX4_fits_64 (by decide) ?_
            refine lv_goto (tgt := 69) X.1 X.2.1 dX4_fits_65 (by decide) ?_
            exact tw_zret X hr hlk w (by decide) h dX4_fits_69
      · have h := h.2 c7
        have ec1 := lv_neT (a := 0) c1 rfl
        have ec4 := lv_neT (a := 1) c4 rfl
        have ec7 := lv_neT (a := 2) c7 rfl
        refine lv_tableOut (tgt := 70) X.1 X.2.1 dX4_fits_1 (by omega) (by decide) ?_
        refine lv_iload_n X.1 X.2.1 dX4_fits_70 rfl (lv_at hl 1 rfl) ?_
        refine lv_iload_n X.1 X.2.1 dX4_fits_71 rfl (lv_at hl 2 rfl) ?_
        refine lv_icmp_eq (tgt := 79) X.1 X.2.1 dX4_fits_72 (by decide) (fun c10 => ?_) (fun c10 => ?_)
        · have h := h.1 c10
          refine lv_iconst (v := 0) X.1 X.2.1 dX4_fits_79 (by decide) ?_
          exact tw_zret X hr hlk w (by decide) h dX4_fits_80
        · have h := h.2 c10
          refine lv_iconst (v := 1) X.1 X.2.1 dX4_fits_75 (by decide) ?_
          refine lv_goto (tgt := 80) X.1 X.2.1 dX4_fits_76 (by decide) ?_
          exact tw_zret X hr hlk w (by decide) h dX4_fits_80

abbrev RM_X4_firstWord : Room := { frames := 2, cells := 0, slots := 0, locals := 45 }
theorem iw_X4_firstWord_4 : ∀ w ∈ wsX40, w ∈ wsX4_firstWord := fun w h => List.mem_cons_of_mem _ (List.mem_append_left _ (List.mem_append_right _ (h)))
def wl_X4_firstWord_23 (g : tw_G) (a0 : Nat) (a1 : Nat) (a2 : Nat) (x3 : Int32) (Q : Int32 → tw_S → Prop) (k102 : Int32 → tw_S → Prop) (k159 : tw_S → Prop) : Nat → Int32 → tw_S → Prop
  | 0, _, _ => False
  | n + 1, x4, σ => (((tw_I σ a0 2) ≤ x4) → k159  σ) ∧ (¬ ((tw_I σ a0 2) ≤ x4) → (((22500 : Int32) ≤ x4) → k159  σ) ∧ (¬ ((22500 : Int32) ≤ x4) → vp_in x4 22500 ∧ ∀ z7, z7 = (((tw_B σ (tw_R g a0 0) x4.toNatClampNeg) &&& (32767 : Int64)).toInt32) → vp_in x4 22500 ∧ ∀ z9, z9 = (((tw_B σ (tw_R g a0 0) x4.toNatClampNeg) >>> ((15 : Int32).toInt64 &&& 63)).toInt32) → ∀ z10, z10 = (z7 - z7 / (150 : Int32) * (150 : Int32)) → wp_X5_isGood g σ a1 (z7 / (150 : Int32)) (fun r12 σ11 => wp_X5_isGood g σ11 a2 z10 (fun r14 σ13 => wp_X4_fits g σ13 x3 r12 r14 (fun r16 σ15 => ((r16 = 0) → wp_X5_next g σ15 a1 (z7 / (150 : Int32)) (0 : Int32) (fun r19 σ18 => wp_X5_next g σ18 a2 z10 (0 : Int32) (fun r21 σ20 => wp_X8_lengthen g σ20 z9 (0 : Int32) (fun r23 σ22 => wp_X4_meet g σ22 a0 r19 r21 r23 (fun σ24 => wp_X5_next g σ24 a1 (z7 / (150 : Int32)) (1 : Int32) (fun r26 σ25 => wp_X5_next g σ25 a2 z10 (1 : Int32) (fun r28 σ27 => wp_X8_lengthen g σ27 z9 (1 : Int32) (fun r30 σ29 => wp_X4_meet g σ29 a0 r26 r28 r30 (fun σ31 => wl_X4_firstWord_23 g a0 a1 a2 x3 Q k102 k159 n (x4 + 1) σ31))))))))) ∧ (¬ (r16 = 0) → k102 z9 σ15))))))
def wp_X4_firstWord (g : tw_G) (σ : tw_S) (a0 : Nat) (a1 : Nat) (a2 : Nat) (x3 : Int32) (Q : Int32 → tw_S → Prop) : Prop := wp_J7_fill_53178 g σ (tw_R g a0 1) 704 (0 : Int32) (fun σ1 => ∀ σ2, σ2 = (tw_sI σ1 a0 2 (0 : Int32)) → wp_X4_meet g σ2 a0 (0 : Int32) (0 : Int32) (1 : Int32) (fun σ3 => ∃ n23, wl_X4_firstWord_23 g a0 a1 a2 x3 Q (fun v32 σ33 => Q v32 σ33) (fun σ34 => Q (-1 : Int32) σ34) n23 (0 : Int32) σ3))
set_option maxHeartbeats 4000000 in
set_option maxRecDepth 100000 in
theorem lp_X4_firstWord_23 {p : Program} {l : Launch} {e : Env} {s : State} {m : MethodId} {args : Array Value} {below : List Frame} {meth : Method} {c : Code} {D : va_G} {g : tw_G} (X : CallFix p m c cX4_firstWord 9 s args wsX4_firstWord RX4) (hr : meth.sig.returnType = (some .int)) (hlk : meth.locks = false) (hK : tw_k D g s) (hT : tw_T g) {a0 : Nat} {a1 : Nat} {a2 : Nat} {x3 : Int32} (h0 : tw_is g 4 a0) (h1 : tw_is g 5 a1) (h2 : tw_is g 5 a2) {Q : Int32 → tw_S → Prop} {k102 : Int32 → tw_S → Prop} {k159 : tw_S → Prop}
    (hk102 : ∀ (x6 : Int32) (σ : tw_S) (H : Heap) (locs : List Loc) (ls : Array Slot), k102 x6 σ → tw_w D g (tw_F g s.heap.size) s σ H locs → lv_has ls 9 [(6, .int x6)] → W p l e RM_X4_firstWord s m args below meth c H locs 0 0 (tw_Qi Q D g below args s) (F0 m 102 ls []))
    (hk159 : ∀  (σ : tw_S) (H : Heap) (locs : List Loc) (ls : Array Slot), k159  σ → tw_w D g (tw_F g s.heap.size) s σ H locs → lv_has ls 9 [] → W p l e RM_X4_firstWord s m args below meth c H locs 0 0 (tw_Qi Q D g below args s) (F0 m 159 ls []))
    : ∀ (n : Nat) (x4 : Int32) (σ : tw_S) (H : Heap) (locs : List Loc) (ls : Array Slot), wl_X4_firstWord_23 g a0 a1 a2 x3 Q k102 k159 n x4 σ → tw_w D g (tw_F g s.heap.size) s σ H locs → lv_has ls 9 [(0, .ref a0), (1, .ref a1), (2, .ref a2), (3, .int x3), (4, .int x4)] → W p l e RM_X4_firstWord s m args below meth c H locs 0 0 (tw_Qi Q D g below args s) (F0 m 23 ls []) := by
  intro n
  induction n with
  | zero =>
    intro x4 σ H locs ls h w hl
    exact False.elim h
  | succ n ih =>
    intro x4 σ H locs ls h w hl
    rw [wl_X4_firstWord_23] at h
    refine lv_iload X.1 X.2.1 dX4_firstWord_23 (lv_at hl 4 rfl) ?_
    refine lv_aload_n X.1 X.2.1 dX4_firstWord_25 rfl (lv_at hl 0 rfl) ?_
    refine tw_get X hK w 4 iw_X4_firstWord_4 h0 (by decide) rfl 2 (by decide) (List.mem_of_getElem? (i := 2) rfl) rfl dX4_firstWord_26 ?_
    refine lv_icmp_ge (tgt := 159) X.1 X.2.1 dX4_firstWord_29 (by decide) (fun c4 => ?_) (fun c4 => ?_)
    · have h := h.1 c4
      exact hk159  σ _ _ ls h w (lv_sub hl [] rfl)
    · have h := h.2 c4
      refine lv_iload X.1 X.2.1 dX4_firstWord_32 (lv_at hl 4 rfl) ?_
      refine lv_sipush (v := 22500) X.1 X.2.1 dX4_firstWord_34 (by decide) ?_
      refine lv_icmp_ge (tgt := 159) X.1 X.2.1 dX4_firstWord_37 (by decide) (fun c5 => ?_) (fun c5 => ?_)
      · have h := h.1 c5
        exact hk159  σ _ _ ls h w (lv_sub hl [] rfl)
      · have h := h.2 c5
        refine lv_aload_n X.1 X.2.1 dX4_firstWord_40 rfl (lv_at hl 0 rfl) ?_
        refine tw_get X hK w 4 iw_X4_firstWord_4 h0 (by decide) rfl 0 (by decide) (List.mem_of_getElem? (i := 3) rfl) rfl dX4_firstWord_41 ?_
        refine lv_iload X.1 X.2.1 dX4_firstWord_44 (lv_at hl 4 rfl) ?_
        obtain ⟨hi6, h⟩ := h
        refine tw_lald X hK w (tw_t_4_0 hT h0) (tw_n_4_0 hT h0) hi6 dX4_firstWord_46 ?_
        refine lv_ldc2 (own := RX4) (v := 32767) X.1 X.2.1 X.2.2.2.1 (X.2.2.2.2 _ (List.mem_of_getElem? (i := 4) rfl)) dX4_firstWord_47 ?_
        refine lv_land X.1 X.2.1 dX4_firstWord_50 ?_
        refine lv_l2i (v := (((tw_B σ (tw_R g a0 0) x4.toNatClampNeg) &&& (32767 : Int64)).toInt32)) X.1 X.2.1 dX4_firstWord_51 rfl ?_
        refine lv_topi (fun z7 ez7 => ?_)
        have h := h _ ez7
        refine lv_istore (lv' := [(5, .int z7), (0, .ref a0), (1, .ref a1), (2, .ref a2), (3, .int x3), (4, .int x4)]) X.1 X.2.1 dX4_firstWord_52 hl (by decide) rfl (fun ls hl => ?_)
        refine lv_aload_n X.1 X.2.1 dX4_firstWord_54 rfl (lv_at hl 1 rfl) ?_
        refine tw_get X hK w 4 iw_X4_firstWord_4 h0 (by decide) rfl 0 (by decide) (List.mem_of_getElem? (i := 3) rfl) rfl dX4_firstWord_55 ?_
        refine lv_iload X.1 X.2.1 dX4_firstWord_58 (lv_at hl 5 rfl) ?_
        obtain ⟨hi8, h⟩ := h
        refine tw_lald X hK w (tw_t_4_0 hT h0) (tw_n_4_0 hT h0) hi8 dX4_firstWord_60 ?_
        refine lv_bipush (v := 15) X.1 X.2.1 dX4_firstWord_61 (by decide) ?_
        refine lv_lshr (v := ((tw_B σ (tw_R g a0 0) x4.toNatClampNeg) >>> ((15 : Int32).toInt64 &&& 63))) X.1 X.2.1 dX4_firstWord_63 rfl ?_
        refine lv_l2i (v := (((tw_B σ (tw_R g a0 0) x4.toNatClampNeg) >>> ((15 : Int32).toInt64 &&& 63)).toInt32)) X.1 X.2.1 dX4_firstWord_64 rfl ?_
        refine lv_topi (fun z9 ez9 => ?_)
        have h := h _ ez9
        refine lv_istore (lv' := [(6, .int z9), (5, .int z7), (0, .ref a0), (1, .ref a1), (2, .ref a2), (3, .int x3), (4, .int x4)]) X.1 X.2.1 dX4_firstWord_65 hl (by decide) rfl (fun ls hl => ?_)
        refine lv_iload X.1 X.2.1 dX4_firstWord_67 (lv_at hl 1 rfl) ?_
        refine lv_sipush (v := 150) X.1 X.2.1 dX4_firstWord_69 (by decide) ?_
        refine lv_idiv X.1 X.2.1 dX4_firstWord_72 (by decide) ?_
        refine lv_istore (lv' := [(7, .int (z7 / (150 : Int32))), (6, .int z9), (5, .int z7), (0, .ref a0), (1, .ref a1), (2, .ref a2), (3, .int x3), (4, .int x4)]) X.1 X.2.1 dX4_firstWord_73 hl (by decide) rfl (fun ls hl => ?_)
        refine lv_iload X.1 X.2.1 dX4_firstWord_75 (lv_at hl 2 rfl) ?_
        refine lv_sipush (v := 150) X.1 X.2.1 dX4_firstWord_77 (by decide) ?_
        refine lv_irem X.1 X.2.1 dX4_firstWord_80 (by decide) ?_
        refine lv_topi (fun z10 ez10 => ?_)
        have h := h _ ez10
        refine lv_istore (lv' := [(8, .int z10), (7, .int (z7 / (150 : Int32))), (6, .int z9), (5, .int z7), (0, .ref a0), (1, .ref a1), (2, .ref a2), (3, .int x3), (4, .int x4)]) X.1 X.2.1 dX4_firstWord_81 hl (by decide) rfl (fun ls hl => ?_)
        have hl := lv_sub (l' := [(8, .int z10), (7, .int (z7 / (150 : Int32))), (6, .int z9), (0, .ref a0), (1, .ref a1), (2, .ref a2), (3, .int x3), (4, .int x4)]) hl [0, 1, 2, 4, 5, 6, 7, 8] rfl
        refine lv_iload_n X.1 X.2.1 dX4_firstWord_83 rfl (lv_at hl 6 rfl) ?_
        refine lv_aload_n X.1 X.2.1 dX4_firstWord_84 rfl (lv_at hl 4 rfl) ?_
        refine lv_iload X.1 X.2.1 dX4_firstWord_85 (lv_at hl 1 rfl) ?_
        refine tw_ci w (va_runV (As := [.int (z7 / (150 : Int32))]) (rest := [.int x3]) X (ct_X5_isGood l D g hT _ σ a1 h1 (z7 / (150 : Int32)) _ h) (cwV 1 X.2.2.2.2 gX4_firstWord_X5_isGood rfl rfl rfl (by decide +kernel) ⟨Nat.le_of_ble_eq_true rfl, Nat.le_of_ble_eq_true rfl⟩) (tw_preV hK w h1 (by decide) rfl [.int (z7 / (150 : Int32))]) rfl rfl hl.1 rfl (lv_room (Nat.le_of_ble_eq_true rfl)) dX4_firstWord_87 ⟨Nat.zero_le _, Nat.zero_le _⟩) (fun r12 σ11 H locs h w => ?_)
        refine lv_aload_n X.1 X.2.1 dX4_firstWord_90 rfl (lv_at hl 5 rfl) ?_
        refine lv_iload X.1 X.2.1 dX4_firstWord_91 (lv_at hl 0 rfl) ?_
        refine tw_ci w (va_runV (As := [.int z10]) (rest := [.int r12, .int x3]) X (ct_X5_isGood l D g hT _ σ11 a2 h2 z10 _ h) (cwV 1 X.2.2.2.2 gX4_firstWord_X5_isGood rfl rfl rfl (by decide +kernel) ⟨Nat.le_of_ble_eq_true rfl, Nat.le_of_ble_eq_true rfl⟩) (tw_preV hK w h2 (by decide) rfl [.int z10]) rfl rfl hl.1 rfl (lv_room (Nat.le_of_ble_eq_true rfl)) dX4_firstWord_93 ⟨Nat.zero_le _, Nat.zero_le _⟩) (fun r14 σ13 H locs h w => ?_)
        refine tw_ci w (va_runS (As := [.int x3, .int r12, .int r14]) (rest := []) X (ct_X4_fits l D g hT _ σ13 x3 r12 r14 _ h) (va_cwS 3 X.2.2.2.2 gX4_firstWord_X4_fits rfl rfl rfl (by decide +kernel) ⟨Nat.le_of_ble_eq_true rfl, Nat.le_of_ble_eq_true rfl⟩) (tw_pre hK w [.int x3, .int r12, .int r14]) rfl rfl hl.1 rfl (lv_room (Nat.le_of_ble_eq_true rfl)) dX4_firstWord_96 ⟨Nat.zero_le _, Nat.zero_le _⟩) (fun r16 σ15 H locs h w => ?_)
        refine lv_if_eq (tgt := 105) X.1 X.2.1 dX4_firstWord_99 (by decide) (fun c17 => ?_) (fun c17 => ?_)
        · have h := h.1 c17
          refine lv_aload_n X.1 X.2.1 dX4_firstWord_105 rfl (lv_at hl 3 rfl) ?_
          refine lv_aload_n X.1 X.2.1 dX4_firstWord_106 rfl (lv_at hl 4 rfl) ?_
          refine lv_iload X.1 X.2.1 dX4_firstWord_107 (lv_at hl 1 rfl) ?_
          refine lv_iconst (v := 0) X.1 X.2.1 dX4_firstWord_109 (by decide) ?_
          refine tw_ci w (va_runV (As := [.int (z7 / (150 : Int32)), .int (0 : Int32)]) (rest := [.ref a0]) X (ct_X5_next l D g hT _ σ15 a1 h1 (z7 / (150 : Int32)) (0 : Int32) _ h) (cwV 2 X.2.2.2.2 gX4_firstWord_X5_next rfl rfl rfl (by decide +kernel) ⟨Nat.le_of_ble_eq_true rfl, Nat.le_of_ble_eq_true rfl⟩) (tw_preV hK w h1 (by decide) rfl [.int (z7 / (150 : Int32)), .int (0 : Int32)]) rfl rfl hl.1 rfl (lv_room (Nat.le_of_ble_eq_true rfl)) dX4_firstWord_110 ⟨Nat.zero_le _, Nat.zero_le _⟩) (fun r19 σ18 H locs h w => ?_)
          refine lv_aload_n X.1 X.2.1 dX4_firstWord_113 rfl (lv_at hl 5 rfl) ?_
          refine lv_iload X.1 X.2.1 dX4_firstWord_114 (lv_at hl 0 rfl) ?_
          refine lv_iconst (v := 0) X.1 X.2.1 dX4_firstWord_116 (by decide) ?_
          refine tw_ci w (va_runV (As := [.int z10, .int (0 : Int32)]) (rest := [.int r19, .ref a0]) X (ct_X5_next l D g hT _ σ18 a2 h2 z10 (0 : Int32) _ h) (cwV 2 X.2.2.2.2 gX4_firstWord_X5_next rfl rfl rfl (by decide +kernel) ⟨Nat.le_of_ble_eq_true rfl, Nat.le_of_ble_eq_true rfl⟩) (tw_preV hK w h2 (by decide) rfl [.int z10, .int (0 : Int32)]) rfl rfl hl.1 rfl (lv_room (Nat.le_of_ble_eq_true rfl)) dX4_firstWord_117 ⟨Nat.zero_le _, Nat.zero_le _⟩) (fun r21 σ20 H locs h w => ?_)
          refine lv_iload X.1 X.2.1 dX4_firstWord_120 (lv_at hl 2 rfl) ?_
          refine lv_iconst (v := 0) X.1 X.2.1 dX4_firstWord_122 (by decide) ?_
          refine tw_ci w (va_runSN (As := [.int z9, .int (0 : Int32)]) (rest := [.int r21, .int r19, .ref a0]) X (ct_X8_lengthen l D g hT _ σ20 z9 (0 : Int32) _ h) ⟨va_cnB 2 X.2.2.2.2 gX4_firstWord_X8_lengthen_n49 rfl rfl rfl (hK.2 _ (List.mem_of_getElem? (i := 10) rfl)) (X.2.2.2.2 _ (List.mem_of_getElem? (i := 38) rfl)) (by decide +kernel) ⟨Nat.le_of_ble_eq_true rfl, Nat.le_of_ble_eq_true rfl⟩, X.2.2.2.2 _ (List.mem_of_getElem? (i := 37) rfl), trivial⟩ (tw_pre hK w [.int z9, .int (0 : Int32)]) rfl rfl hl.1 rfl (lv_room (Nat.le_of_ble_eq_true rfl)) dX4_firstWord_123 ⟨Nat.zero_le _, Nat.zero_le _⟩) (fun r23 σ22 H locs h w => ?_)
          refine tw_cv w (va_runV (As := [.int r19, .int r21, .int r23]) (rest := []) X (ct_X4_meet l D g hT _ σ22 a0 h0 r19 r21 r23 _ h) (cwV 3 X.2.2.2.2 gX4_firstWord_X4_meet rfl rfl rfl (by decide +kernel) ⟨Nat.le_of_ble_eq_true rfl, Nat.le_of_ble_eq_true rfl⟩) (tw_preV hK w h0 (by decide) rfl [.int r19, .int r21, .int r23]) rfl rfl hl.1 rfl (lv_room (Nat.le_of_ble_eq_true rfl)) dX4_firstWord_126 ⟨Nat.zero_le _, Nat.zero_le _⟩) (fun σ24 H locs h w => ?_)
          refine lv_aload_n X.1 X.2.1 dX4_firstWord_129 rfl (lv_at hl 3 rfl) ?_
          refine lv_aload_n X.1 X.2.1 dX4_firstWord_130 rfl (lv_at hl 4 rfl) ?_
          refine lv_iload X.1 X.2.1 dX4_firstWord_131 (lv_at hl 1 rfl) ?_
          refine lv_iconst (v := 1) X.1 X.2.1 dX4_firstWord_133 (by decide) ?_
          refine tw_ci w (va_runV (As := [.int (z7 / (150 : Int32)), .int (1 : Int32)]) (rest := [.ref a0]) X (ct_X5_next l D g hT _ σ24 a1 h1 (z7 / (150 : Int32)) (1 : Int32) _ h) (cwV 2 X.2.2.2.2 gX4_firstWord_X5_next rfl rfl rfl (by decide +kernel) ⟨Nat.le_of_ble_eq_true rfl, Nat.le_of_ble_eq_true rfl⟩) (tw_preV hK w h1 (by decide) rfl [.int (z7 / (150 : Int32)), .int (1 : Int32)]) rfl rfl hl.1 rfl (lv_room (Nat.le_of_ble_eq_true rfl)) dX4_firstWord_134 ⟨Nat.zero_le _, Nat.zero_le _⟩) (fun r26 σ25 H locs h w => ?_)
          refine lv_aload_n X.1 X.2.1 dX4_firstWord_137 rfl (lv_at hl 5 rfl) ?_
          refine lv_iload X.1 X.2.1 dX4_firstWord_138 (lv_at hl 0 rfl) ?_
          refine lv_iconst (v := 1) X.1 X.2.1 dX4_firstWord_140 (by decide) ?_
          refine tw_ci w (va_runV (As := [.int z10, .int (1 : Int32)]) (rest := [.int r26, .ref a0]) X (ct_X5_next l D g hT _ σ25 a2 h2 z10 (1 : Int32) _ h) (cwV 2 X.2.2.2.2 gX4_firstWord_X5_next rfl rfl rfl (by decide +kernel) ⟨Nat.le_of_ble_eq_true rfl, Nat.le_of_ble_eq_true rfl⟩) (tw_preV hK w h2 (by decide) rfl [.int z10, .int (1 : Int32)]) rfl rfl hl.1 rfl (lv_room (Nat.le_of_ble_eq_true rfl)) dX4_firstWord_141 ⟨Nat.zero_le _, Nat.zero_le _⟩) (fun r28 σ27 H locs h w => ?_)
          refine lv_iload X.1 X.2.1 dX4_firstWord_144 (lv_at hl 2 rfl) ?_
          refine lv_iconst (v := 1) X.1 X.2.1 dX4_firstWord_146 (by decide) ?_
          refine tw_ci w (va_runSN (As := [.int z9, .int (1 : Int32)]) (rest := [.int r28, .int r26, .ref a0]) X (ct_X8_lengthen l D g hT _ σ27 z9 (1 : Int32) _ h) ⟨va_cnB 2 X.2.2.2.2 gX4_firstWord_X8_lengthen_n49 rfl rfl rfl (hK.2 _ (List.mem_of_getElem? (i := 10) rfl)) (X.2.2.2.2 _ (List.mem_of_getElem? (i := 38) rfl)) (by decide +kernel) ⟨Nat.le_of_ble_eq_true rfl, Nat.le_of_ble_eq_true rfl⟩, X.2.2.2.2 _ (List.mem_of_getElem? (i := 37) rfl), trivial⟩ (tw_pre hK w [.int z9, .int (1 : Int32)]) rfl rfl hl.1 rfl (lv_room (Nat.le_of_ble_eq_true rfl)) dX4_firstWord_147 ⟨Nat.zero_le _, Nat.zero_le _⟩) (fun r30 σ29 H locs h w => ?_)
          refine tw_cv w (va_runV (As := [.int r26, .int r28, .int r30]) (rest := []) X (ct_X4_meet l D g hT _ σ29 a0 h0 r26 r28 r30 _ h) (cwV 3 X.2.2.2.2 gX4_firstWord_X4_meet rfl rfl rfl (by decide +kernel) ⟨Nat.le_of_ble_eq_true rfl, Nat.le_of_ble_eq_true rfl⟩) (tw_preV hK w h0 (by decide) rfl [.int r26, .int r28, .int r30]) rfl rfl hl.1 rfl (lv_room (Nat.le_of_ble_eq_true rfl)) dX4_firstWord_150 ⟨Nat.zero_le _, Nat.zero_le _⟩) (fun σ31 H locs h w => ?_)
          refine lv_iinc (v := (x4 + 1)) (lv' := [(4, .int (x4 + 1)), (8, .int z10), (7, .int (z7 / (150 : Int32))), (6, .int z9), (0, .ref a0), (1, .ref a1), (2, .ref a2), (3, .int x3)]) X.1 X.2.1 dX4_firstWord_153 hl (k := 7) rfl rfl (by decide) rfl (fun ls hl => ?_)
          refine lv_goto (tgt := 23) X.1 X.2.1 dX4_firstWord_156 (by decide) ?_
          exact ih (x4 + 1) σ31 _ _ ls h w (lv_sub hl [4, 5, 6, 7, 0] rfl)
        · have h := h.2 c17
          exact hk102 z9 σ15 _ _ ls h w (lv_sub hl [2] rfl)
set_option maxHeartbeats 4000000 in
set_option maxRecDepth 100000 in
theorem ct_X4_firstWord (l : Launch) (D : va_G) (g : tw_G) (hT : tw_T g) (sz : Nat) (σ : tw_S) (a0 : Nat) (h0 : tw_is g 4 a0) (a1 : Nat) (h1 : tw_is g 5 a1) (a2 : Nat) (h2 : tw_is g 5 a2) (x3 : Int32) (Q : Int32 → tw_S → Prop) (h : wp_X4_firstWord g σ a0 a1 a2 x3 Q) : tw_Mi l yX4_firstWord wsX4_firstWord RM_X4_firstWord D g sz σ [.ref a0, .ref a1, .ref a2, .int x3] Q := by
  refine Met.ofW (cc := cX4_firstWord) (maxL := 9) (ret := (some .int)) (by decide) rfl ?_
  intro p e s m args below meth c s₁ B hml hv
  obtain ⟨rfl, hsz, hP, hK, hD0⟩ := hv
  subst hsz
  have hr := B.returns
  have hlk := B.notSynchronized
  have X : CallFix p m c cX4_firstWord 9 s _ wsX4_firstWord RX4 := ⟨B.exec, B.bytes, hml, findClass_of_methodNamed B.named, atoms_spec (ws := wsX4_firstWord) B.pre⟩
  have w := tw_w0 hP hD0
  have hl := lv_entry ([.ref a0, .ref a1, .ref a2, .int x3]) (n := 9) (Nat.le_of_ble_eq_true rfl)
  rw [lg_entry_eq]
  generalize (lg_sl ([.ref a0, .ref a1, .ref a2, .int x3]) ++ List.replicate (9 - (lg_sl ([.ref a0, .ref a1, .ref a2, .int x3])).length) Slot.unset).toArray = ls at hl ⊢
  have hl : lv_has ls 9 [(0, .ref a0), (1, .ref a1), (2, .ref a2), (3, .int x3)] := hl
  unfold wp_X4_firstWord at h
  refine lv_aload_n X.1 X.2.1 dX4_firstWord_0 rfl (lv_at hl 0 rfl) ?_
  refine tw_get X hK w 4 iw_X4_firstWord_4 h0 (by decide) rfl 1 (by decide) (List.mem_of_getElem? (i := 1) rfl) rfl dX4_firstWord_1 ?_
  refine lv_iconst (v := 0) X.1 X.2.1 dX4_firstWord_4 (by decide) ?_
  refine tw_cv w (va_runS (As := [.ref (tw_R g a0 1), .int (0 : Int32)]) (rest := []) X (ct_J7_fill_53178 l D g hT _ σ (tw_R g a0 1) (tw_t_4_1 hT h0) 704 (tw_n_4_1 hT h0) (0 : Int32) _ h) (va_cwS 2 X.2.2.2.2 gX4_firstWord_J7_fill_53178 rfl rfl rfl (by decide +kernel) ⟨Nat.le_of_ble_eq_true rfl, Nat.le_of_ble_eq_true rfl⟩) (tw_pre hK w [.ref (tw_R g a0 1), .int (0 : Int32)]) rfl rfl hl.1 rfl (lv_room (Nat.le_of_ble_eq_true rfl)) dX4_firstWord_5 ⟨Nat.zero_le _, Nat.zero_le _⟩) (fun σ1 H locs h w => ?_)
  refine lv_aload_n X.1 X.2.1 dX4_firstWord_8 rfl (lv_at hl 0 rfl) ?_
  refine lv_iconst (v := 0) X.1 X.2.1 dX4_firstWord_9 (by decide) ?_
  refine tw_putI X hK w 4 iw_X4_firstWord_4 tyX4 tyX4_ok nmX4 h0 (by decide) rfl 2 (by decide) (List.mem_of_getElem? (i := 2) rfl) rfl (ty := .int) (by decide +kernel) rfl rfl (Nat.le_of_ble_eq_true rfl) (tw_f_4_2 g _ _ _) dX4_firstWord_10 (fun σ2 H locs eσ2 w => ?_)
  have h := h _ eσ2
  refine lv_aload_n X.1 X.2.1 dX4_firstWord_13 rfl (lv_at hl 0 rfl) ?_
  refine lv_iconst (v := 0) X.1 X.2.1 dX4_firstWord_14 (by decide) ?_
  refine lv_iconst (v := 0) X.1 X.2.1 dX4_firstWord_15 (by decide) ?_
  refine lv_iconst (v := 1) X.1 X.2.1 dX4_firstWord_16 (by decide) ?_
  refine tw_cv w (va_runV (As := [.int (0 : Int32), .int (0 : Int32), .int (1 : Int32)]) (rest := []) X (ct_X4_meet l D g hT _ σ2 a0 h0 (0 : Int32) (0 : Int32) (1 : Int32) _ h) (cwV 3 X.2.2.2.2 gX4_firstWord_X4_meet rfl rfl rfl (by decide +kernel) ⟨Nat.le_of_ble_eq_true rfl, Nat.le_of_ble_eq_true rfl⟩) (tw_preV hK w h0 (by decide) rfl [.int (0 : Int32), .int (0 : Int32), .int (1 : Int32)]) rfl rfl hl.1 rfl (lv_room (Nat.le_of_ble_eq_true rfl)) dX4_firstWord_17 ⟨Nat.zero_le _, Nat.zero_le _⟩) (fun σ3 H locs h w => ?_)
  refine lv_iconst (v := 0) X.1 X.2.1 dX4_firstWord_20 (by decide) ?_
  refine lv_istore (lv' := [(4, .int (0 : Int32)), (0, .ref a0), (1, .ref a1), (2, .ref a2), (3, .int x3)]) X.1 X.2.1 dX4_firstWord_21 hl (by decide) rfl (fun ls hl => ?_)
  obtain ⟨n23, h⟩ := h
  refine lp_X4_firstWord_23 X hr hlk hK hT h0 h1 h2 (fun v32 σ33 H locs ls h w hl => ?_) (fun σ34 H locs ls h w hl => ?_) n23 (0 : Int32) σ3 _ _ ls h w (lv_sub hl [1, 2, 3, 4, 0] rfl)
  · skip
    refine lv_iload X.1 X.2.1 dX4_firstWord_102 (lv_at hl 0 rfl) ?_
    exact tw_iret X hr hlk w h dX4_firstWord_104
  · skip
    refine lv_iconst (v := -1) X.1 X.2.1 dX4_firstWord_159 (by decide) ?_
    exact tw_iret X hr hlk w h dX4_firstWord_160

abbrev RM_X8_feed : Room := { frames := 1, cells := 0, slots := 0, locals := 21 }
theorem iw_X8_feed_8 : ∀ w ∈ wsX80, w ∈ wsX8_feed := fun w h => List.mem_cons_of_mem _ (List.mem_append_left _ (List.mem_append_right _ (h)))
def wp_X8_feed (g : tw_G) (σ : tw_S) (a0 : Nat) (x1 : Int32) (Q : Int32 → tw_S → Prop) : Prop := ((x1 < 0) → Q (-1000000002 : Int32) σ) ∧ (¬ (x1 < 0) → ((x1 ≤ (255 : Int32)) → wp_X6_add g σ (tw_R g a0 4) x1 (fun r4 σ3 => ((r4 = 0) → Q (-1000000004 : Int32) σ3) ∧ (¬ (r4 = 0) → wp_X6_length g σ3 (tw_R g a0 4) (fun r7 σ6 => Q r7 σ6)))) ∧ (¬ (x1 ≤ (255 : Int32)) → Q (-1000000002 : Int32) σ))
set_option maxHeartbeats 4000000 in
set_option maxRecDepth 100000 in
theorem ct_X8_feed (l : Launch) (D : va_G) (g : tw_G) (hT : tw_T g) (sz : Nat) (σ : tw_S) (a0 : Nat) (h0 : tw_is g 8 a0) (x1 : Int32) (Q : Int32 → tw_S → Prop) (h : wp_X8_feed g σ a0 x1 Q) : tw_Mi l yX8_feed wsX8_feed RM_X8_feed D g sz σ [.ref a0, .int x1] Q := by
  refine Met.ofW (cc := cX8_feed) (maxL := 2) (ret := (some .int)) (by decide) rfl ?_
  intro p e s m args below meth c s₁ B hml hv
  obtain ⟨rfl, hsz, hP, hK, hD0⟩ := hv
  subst hsz
  have hr := B.returns
  have hlk := B.notSynchronized
  have X : CallFix p m c cX8_feed 2 s _ wsX8_feed RX8 := ⟨B.exec, B.bytes, hml, findClass_of_methodNamed B.named, atoms_spec (ws := wsX8_feed) B.pre⟩
  have w := tw_w0 hP hD0
  have hl := lv_entry ([.ref a0, .int x1]) (n := 2) (Nat.le_of_ble_eq_true rfl)
  rw [lg_entry_eq]
  generalize (lg_sl ([.ref a0, .int x1]) ++ List.replicate (2 - (lg_sl ([.ref a0, .int x1])).length) Slot.unset).toArray = ls at hl ⊢
  have hl : lv_has ls 2 [(0, .ref a0), (1, .int x1)] := hl
  unfold wp_X8_feed at h
  refine lv_iload_n X.1 X.2.1 dX8_feed_0 rfl (lv_at hl 1 rfl) ?_
  refine lv_if_lt (tgt := 11) X.1 X.2.1 dX8_feed_1 (by decide) (fun c1 => ?_) (fun c1 => ?_)
  · have h := h.1 c1
    refine lv_ldc (own := RX8) (v := -1000000002) X.1 X.2.1 X.2.2.2.1 (X.2.2.2.2 _ (List.mem_of_getElem? (i := 1) rfl)) dX8_feed_11 ?_
    exact tw_iret X hr hlk w h dX8_feed_13
  · have h := h.2 c1
    refine lv_iload_n X.1 X.2.1 dX8_feed_4 rfl (lv_at hl 1 rfl) ?_
    refine lv_sipush (v := 255) X.1 X.2.1 dX8_feed_5 (by decide) ?_
    refine lv_icmp_le (tgt := 14) X.1 X.2.1 dX8_feed_8 (by decide) (fun c2 => ?_) (fun c2 => ?_)
    · have h := h.1 c2
      refine lv_aload_n X.1 X.2.1 dX8_feed_14 rfl (lv_at hl 0 rfl) ?_
      refine tw_get X hK w 8 iw_X8_feed_8 h0 (by decide) rfl 4 (by decide) (List.mem_of_getElem? (i := 2) rfl) rfl dX8_feed_15 ?_
      refine lv_iload_n X.1 X.2.1 dX8_feed_18 rfl (lv_at hl 1 rfl) ?_
      refine tw_ci w (va_runV (As := [.int x1]) (rest := []) X (ct_X6_add l D g hT _ σ (tw_R g a0 4) (tw_t_8_4 hT h0) x1 _ h) (cwV 1 X.2.2.2.2 gX8_feed_X6_add rfl rfl rfl (by decide +kernel) ⟨Nat.le_of_ble_eq_true rfl, Nat.le_of_ble_eq_true rfl⟩) (tw_preV hK w (tw_t_8_4 hT h0) (by decide) rfl [.int x1]) rfl rfl hl.1 rfl (lv_room (Nat.le_of_ble_eq_true rfl)) dX8_feed_19 ⟨Nat.zero_le _, Nat.zero_le _⟩) (fun r4 σ3 H locs h w => ?_)
      refine lv_if_eq (tgt := 35) X.1 X.2.1 dX8_feed_22 (by decide) (fun c5 => ?_) (fun c5 => ?_)
      · have h := h.1 c5
        refine lv_ldc (own := RX8) (v := -1000000004) X.1 X.2.1 X.2.2.2.1 (X.2.2.2.2 _ (List.mem_of_getElem? (i := 3) rfl)) dX8_feed_35 ?_
        exact tw_iret X hr hlk w h dX8_feed_37
      · have h := h.2 c5
        refine lv_aload_n X.1 X.2.1 dX8_feed_25 rfl (lv_at hl 0 rfl) ?_
        refine tw_get X hK w 8 iw_X8_feed_8 h0 (by decide) rfl 4 (by decide) (List.mem_of_getElem? (i := 2) rfl) rfl dX8_feed_26 ?_
        refine tw_ci w (va_runV (As := []) (rest := []) X (ct_X6_length l D g hT _ σ3 (tw_R g a0 4) (tw_t_8_4 hT h0) _ h) (cwV 0 X.2.2.2.2 gX8_feed_X6_length rfl rfl rfl (by decide +kernel) ⟨Nat.le_of_ble_eq_true rfl, Nat.le_of_ble_eq_true rfl⟩) (tw_preV hK w (tw_t_8_4 hT h0) (by decide) rfl []) rfl rfl hl.1 rfl (lv_room (Nat.le_of_ble_eq_true rfl)) dX8_feed_29 ⟨Nat.zero_le _, Nat.zero_le _⟩) (fun r7 σ6 H locs h w => ?_)
        refine lv_goto (tgt := 37) X.1 X.2.1 dX8_feed_32 (by decide) ?_
        exact tw_iret X hr hlk w h dX8_feed_37
    · have h := h.2 c2
      refine lv_ldc (own := RX8) (v := -1000000002) X.1 X.2.1 X.2.2.2.1 (X.2.2.2.2 _ (List.mem_of_getElem? (i := 1) rfl)) dX8_feed_11 ?_
      exact tw_iret X hr hlk w h dX8_feed_13

abbrev RM_X8_isMachine : Room := { frames := 0, cells := 0, slots := 0, locals := 0 }
def wp_X8_isMachine (g : tw_G) (σ : tw_S) (x0 : Int32) (Q : Int32 → tw_S → Prop) : Prop := ((x0 < 0) → Q (0 : Int32) σ) ∧ (¬ (x0 < 0) → (((2 : Int32) ≤ x0) → Q (0 : Int32) σ) ∧ (¬ ((2 : Int32) ≤ x0) → Q (1 : Int32) σ))
set_option maxHeartbeats 4000000 in
set_option maxRecDepth 100000 in
theorem ct_X8_isMachine (l : Launch) (D : va_G) (g : tw_G) (hT : tw_T g) (sz : Nat) (σ : tw_S) (x0 : Int32) (Q : Int32 → tw_S → Prop) (h : wp_X8_isMachine g σ x0 Q) : tw_Mi l yX8_isMachine wsX8_isMachine RM_X8_isMachine D g sz σ [.int x0] Q := by
  refine Met.ofW (cc := cX8_isMachine) (maxL := 1) (ret := (some .boolean)) (by decide) rfl ?_
  intro p e s m args below meth c s₁ B hml hv
  obtain ⟨rfl, hsz, hP, hK, hD0⟩ := hv
  subst hsz
  have hr := B.returns
  have hlk := B.notSynchronized
  have X : CallFix p m c cX8_isMachine 1 s _ wsX8_isMachine RX8 := ⟨B.exec, B.bytes, hml, findClass_of_methodNamed B.named, atoms_spec (ws := wsX8_isMachine) B.pre⟩
  have w := tw_w0 hP hD0
  have hl := lv_entry ([.int x0]) (n := 1) (Nat.le_of_ble_eq_true rfl)
  rw [lg_entry_eq]
  generalize (lg_sl ([.int x0]) ++ List.replicate (1 - (lg_sl ([.int x0])).length) Slot.unset).toArray = ls at hl ⊢
  have hl : lv_has ls 1 [(0, .int x0)] := hl
  unfold wp_X8_isMachine at h
  refine lv_iload_n X.1 X.2.1 dX8_isMachine_0 rfl (lv_at hl 0 rfl) ?_
  refine lv_if_lt (tgt := 13) X.1 X.2.1 dX8_isMachine_1 (by decide) (fun c1 => ?_) (fun c1 => ?_)
  · have h := h.1 c1
    refine lv_iconst (v := 0) X.1 X.2.1 dX8_isMachine_13 (by decide) ?_
    exact tw_zret X hr hlk w (by decide) h dX8_isMachine_14
  · have h := h.2 c1
    refine lv_iload_n X.1 X.2.1 dX8_isMachine_4 rfl (lv_at hl 0 rfl) ?_
    refine lv_iconst (v := 2) X.1 X.2.1 dX8_isMachine_5 (by decide) ?_
    refine lv_icmp_ge (tgt := 13) X.1 X.2.1 dX8_isMachine_6 (by decide) (fun c2 => ?_) (fun c2 => ?_)
    · have h := h.1 c2
      refine lv_iconst (v := 0) X.1 X.2.1 dX8_isMachine_13 (by decide) ?_
      exact tw_zret X hr hlk w (by decide) h dX8_isMachine_14
    · have h := h.2 c2
      refine lv_iconst (v := 1) X.1 X.2.1 dX8_isMachine_9 (by decide) ?_
      refine lv_goto (tgt := 14) X.1 X.2.1 dX8_isMachine_10 (by decide) ?_
      exact tw_zret X hr hlk w (by decide) h dX8_isMachine_14

abbrev RM_X8_machine : Room := { frames := 5, cells := 0, slots := 0, locals := 113 }
theorem iw_X8_machine_8 : ∀ w ∈ wsX80, w ∈ wsX8_machine := fun w h => List.mem_cons_of_mem _ (List.mem_append_left _ (List.mem_append_left _ (List.mem_append_left _ (List.mem_append_left _ (List.mem_append_right _ (h))))))
def wp_X8_machine (g : tw_G) (σ : tw_S) (a0 : Nat) (x1 : Int32) (Q : Int32 → tw_S → Prop) : Prop := wp_X8_isMachine g σ x1 (fun r2 σ1 => ((¬ r2 = 0) → wp_X6_readInto g σ1 (tw_R g a0 4) (tw_R g a0 5) (fun r5 σ4 => ((¬ r5 = 0) → wp_X6_place g σ4 (tw_R g a0 4) (fun r8 σ7 => ∀ σ9, σ9 = (tw_sI σ7 a0 12 r8) → wp_X6_clear g σ9 (tw_R g a0 4) (fun σ10 => wp_X2_remember g σ10 (tw_R g a0 1) (tw_R g a0 0) (fun σ11 => ((r5 = 0) → wp_X0_at g σ11 (tw_R g a0 0) x1 (fun y14 σ13 => wp_X3_become g σ13 y14 (tw_R g a0 5) (fun σ15 => wp_X3_size g σ15 (tw_R g a0 5) (fun r17 σ16 => Q r17 σ16)))) ∧ (¬ (r5 = 0) → Q ((-10 : Int32) - r5) σ11))))) ∧ ((r5 = 0) → ∀ σ18, σ18 = (tw_sI σ4 a0 12 (-1 : Int32)) → wp_X6_clear g σ18 (tw_R g a0 4) (fun σ19 => wp_X2_remember g σ19 (tw_R g a0 1) (tw_R g a0 0) (fun σ20 => ((r5 = 0) → wp_X0_at g σ20 (tw_R g a0 0) x1 (fun y23 σ22 => wp_X3_become g σ22 y23 (tw_R g a0 5) (fun σ24 => wp_X3_size g σ24 (tw_R g a0 5) (fun r26 σ25 => Q r26 σ25)))) ∧ (¬ (r5 = 0) → Q ((-10 : Int32) - r5) σ20)))))) ∧ ((r2 = 0) → Q (-1000000001 : Int32) σ1))
set_option maxHeartbeats 4000000 in
set_option maxRecDepth 100000 in
theorem ct_X8_machine (l : Launch) (D : va_G) (g : tw_G) (hT : tw_T g) (sz : Nat) (σ : tw_S) (a0 : Nat) (h0 : tw_is g 8 a0) (x1 : Int32) (Q : Int32 → tw_S → Prop) (h : wp_X8_machine g σ a0 x1 Q) : tw_Mi l yX8_machine wsX8_machine RM_X8_machine D g sz σ [.ref a0, .int x1] Q := by
  refine Met.ofW (cc := cX8_machine) (maxL := 3) (ret := (some .int)) (by decide) rfl ?_
  intro p e s m args below meth c s₁ B hml hv
  obtain ⟨rfl, hsz, hP, hK, hD0⟩ := hv
  subst hsz
  have hr := B.returns
  have hlk := B.notSynchronized
  have X : CallFix p m c cX8_machine 3 s _ wsX8_machine RX8 := ⟨B.exec, B.bytes, hml, findClass_of_methodNamed B.named, atoms_spec (ws := wsX8_machine) B.pre⟩
  have w := tw_w0 hP hD0
  have hl := lv_entry ([.ref a0, .int x1]) (n := 3) (Nat.le_of_ble_eq_true rfl)
  rw [lg_entry_eq]
  generalize (lg_sl ([.ref a0, .int x1]) ++ List.replicate (3 - (lg_sl ([.ref a0, .int x1])).length) Slot.unset).toArray = ls at hl ⊢
  have hl : lv_has ls 3 [(0, .ref a0), (1, .int x1)] := hl
  unfold wp_X8_machine at h
  refine lv_iload_n X.1 X.2.1 dX8_machine_0 rfl (lv_at hl 1 rfl) ?_
  refine tw_ci w (va_runS (As := [.int x1]) (rest := []) X (ct_X8_isMachine l D g hT _ σ x1 _ h) (va_cwS 1 X.2.2.2.2 gX8_machine_X8_isMachine rfl rfl rfl (by decide +kernel) ⟨Nat.le_of_ble_eq_true rfl, Nat.le_of_ble_eq_true rfl⟩) (tw_pre hK w [.int x1]) rfl rfl hl.1 rfl (lv_room (Nat.le_of_ble_eq_true rfl)) dX8_machine_1 ⟨Nat.zero_le _, Nat.zero_le _⟩) (fun r2 σ1 H locs h w => ?_)
  refine lv_if_ne (tgt := 10) X.1 X.2.1 dX8_machine_4 (by decide) (fun c3 => ?_) (fun c3 => ?_)
  · have h := h.1 c3
    refine lv_aload_n X.1 X.2.1 dX8_machine_10 rfl (lv_at hl 0 rfl) ?_
    refine tw_get X hK w 8 iw_X8_machine_8 h0 (by decide) rfl 4 (by decide) (List.mem_of_getElem? (i := 2) rfl) rfl dX8_machine_11 ?_
    refine lv_aload_n X.1 X.2.1 dX8_machine_14 rfl (lv_at hl 0 rfl) ?_
    refine tw_get X hK w 8 iw_X8_machine_8 h0 (by decide) rfl 5 (by decide) (List.mem_of_getElem? (i := 3) rfl) rfl dX8_machine_15 ?_
    refine tw_ci w (va_runV (As := [.ref (tw_R g a0 5)]) (rest := []) X (ct_X6_readInto l D g hT _ σ1 (tw_R g a0 4) (tw_t_8_4 hT h0) (tw_R g a0 5) (tw_t_8_5 hT h0) _ h) (cwV 1 X.2.2.2.2 gX8_machine_X6_readInto rfl rfl rfl (by decide +kernel) ⟨Nat.le_of_ble_eq_true rfl, Nat.le_of_ble_eq_true rfl⟩) (tw_preV hK w (tw_t_8_4 hT h0) (by decide) rfl [.ref (tw_R g a0 5)]) rfl rfl hl.1 rfl (lv_room (Nat.le_of_ble_eq_true rfl)) dX8_machine_18 ⟨Nat.zero_le _, Nat.zero_le _⟩) (fun r5 σ4 H locs h w => ?_)
    refine lv_istore_n (lv' := [(2, .int r5), (0, .ref a0), (1, .int x1)]) X.1 X.2.1 dX8_machine_21 rfl hl (by decide) rfl (fun ls hl => ?_)
    refine lv_aload_n X.1 X.2.1 dX8_machine_22 rfl (lv_at hl 1 rfl) ?_
    refine lv_iload_n X.1 X.2.1 dX8_machine_23 rfl (lv_at hl 0 rfl) ?_
    refine lv_if_ne (tgt := 31) X.1 X.2.1 dX8_machine_24 (by decide) (fun c6 => ?_) (fun c6 => ?_)
    · have h := h.1 c6
      refine lv_aload_n X.1 X.2.1 dX8_machine_31 rfl (lv_at hl 1 rfl) ?_
      refine tw_get X hK w 8 iw_X8_machine_8 h0 (by decide) rfl 4 (by decide) (List.mem_of_getElem? (i := 2) rfl) rfl dX8_machine_32 ?_
      refine tw_ci w (va_runV (As := []) (rest := [.ref a0]) X (ct_X6_place l D g hT _ σ4 (tw_R g a0 4) (tw_t_8_4 hT h0) _ h) (cwV 0 X.2.2.2.2 gX8_machine_X6_place rfl rfl rfl (by decide +kernel) ⟨Nat.le_of_ble_eq_true rfl, Nat.le_of_ble_eq_true rfl⟩) (tw_preV hK w (tw_t_8_4 hT h0) (by decide) rfl []) rfl rfl hl.1 rfl (lv_room (Nat.le_of_ble_eq_true rfl)) dX8_machine_35 ⟨Nat.zero_le _, Nat.zero_le _⟩) (fun r8 σ7 H locs h w => ?_)
      refine tw_putI X hK w 8 iw_X8_machine_8 tyX8 tyX8_ok nmX8 h0 (by decide) rfl 12 (by decide) (List.mem_of_getElem? (i := 4) rfl) rfl (ty := .int) (by decide +kernel) rfl rfl (Nat.le_of_ble_eq_true rfl) (tw_f_8_12 g _ _ _) dX8_machine_38 (fun σ9 H locs eσ9 w => ?_)
      have h := h _ eσ9
      refine lv_aload_n X.1 X.2.1 dX8_machine_41 rfl (lv_at hl 1 rfl) ?_
      refine tw_get X hK w 8 iw_X8_machine_8 h0 (by decide) rfl 4 (by decide) (List.mem_of_getElem? (i := 2) rfl) rfl dX8_machine_42 ?_
      refine tw_cv w (va_runV (As := []) (rest := []) X (ct_X6_clear l D g hT _ σ9 (tw_R g a0 4) (tw_t_8_4 hT h0) _ h) (cwV 0 X.2.2.2.2 gX8_machine_X6_clear rfl rfl rfl (by decide +kernel) ⟨Nat.le_of_ble_eq_true rfl, Nat.le_of_ble_eq_true rfl⟩) (tw_preV hK w (tw_t_8_4 hT h0) (by decide) rfl []) rfl rfl hl.1 rfl (lv_room (Nat.le_of_ble_eq_true rfl)) dX8_machine_45 ⟨Nat.zero_le _, Nat.zero_le _⟩) (fun σ10 H locs h w => ?_)
      refine lv_aload_n X.1 X.2.1 dX8_machine_48 rfl (lv_at hl 1 rfl) ?_
      refine tw_get X hK w 8 iw_X8_machine_8 h0 (by decide) rfl 1 (by decide) (List.mem_of_getElem? (i := 5) rfl) rfl dX8_machine_49 ?_
      refine lv_aload_n X.1 X.2.1 dX8_machine_52 rfl (lv_at hl 1 rfl) ?_
      refine tw_get X hK w 8 iw_X8_machine_8 h0 (by decide) rfl 0 (by decide) (List.mem_of_getElem? (i := 6) rfl) rfl dX8_machine_53 ?_
      refine tw_cv w (va_runV (As := [.ref (tw_R g a0 0)]) (rest := []) X (ct_X2_remember l D g hT _ σ10 (tw_R g a0 1) (tw_t_8_1 hT h0) (tw_R g a0 0) (tw_t_8_0 hT h0) _ h) (cwV 1 X.2.2.2.2 gX8_machine_X2_remember rfl rfl rfl (by decide +kernel) ⟨Nat.le_of_ble_eq_true rfl, Nat.le_of_ble_eq_true rfl⟩) (tw_preV hK w (tw_t_8_1 hT h0) (by decide) rfl [.ref (tw_R g a0 0)]) rfl rfl hl.1 rfl (lv_room (Nat.le_of_ble_eq_true rfl)) dX8_machine_56 ⟨Nat.zero_le _, Nat.zero_le _⟩) (fun σ11 H locs h w => ?_)
      refine lv_iload_n X.1 X.2.1 dX8_machine_59 rfl (lv_at hl 0 rfl) ?_
      refine lv_if_eq (tgt := 68) X.1 X.2.1 dX8_machine_60 (by decide) (fun c12 => ?_) (fun c12 => ?_)
      · have h := h.1 c12
        refine lv_aload_n X.1 X.2.1 dX8_machine_68 rfl (lv_at hl 1 rfl) ?_
        refine tw_get X hK w 8 iw_X8_machine_8 h0 (by decide) rfl 0 (by decide) (List.mem_of_getElem? (i := 6) rfl) rfl dX8_machine_69 ?_
        refine lv_iload_n X.1 X.2.1 dX8_machine_72 rfl (lv_at hl 2 rfl) ?_
        refine tw_cr w (va_runV (As := [.int x1]) (rest := []) X (ct_X0_at l D g hT _ σ11 (tw_R g a0 0) (tw_t_8_0 hT h0) x1 _ h) (cwV 1 X.2.2.2.2 gX8_machine_X0_at rfl rfl rfl (by decide +kernel) ⟨Nat.le_of_ble_eq_true rfl, Nat.le_of_ble_eq_true rfl⟩) (tw_preV hK w (tw_t_8_0 hT h0) (by decide) rfl [.int x1]) rfl rfl hl.1 rfl (lv_room (Nat.le_of_ble_eq_true rfl)) dX8_machine_73 ⟨Nat.zero_le _, Nat.zero_le _⟩) (fun y14 σ13 H locs hy14 h w => ?_)
        refine lv_aload_n X.1 X.2.1 dX8_machine_76 rfl (lv_at hl 1 rfl) ?_
        refine tw_get X hK w 8 iw_X8_machine_8 h0 (by decide) rfl 5 (by decide) (List.mem_of_getElem? (i := 3) rfl) rfl dX8_machine_77 ?_
        refine tw_cv w (va_runV (As := [.ref (tw_R g a0 5)]) (rest := []) X (ct_X3_become l D g hT _ σ13 y14 hy14 (tw_R g a0 5) (tw_t_8_5 hT h0) _ h) (cwV 1 X.2.2.2.2 gX8_machine_X3_become rfl rfl rfl (by decide +kernel) ⟨Nat.le_of_ble_eq_true rfl, Nat.le_of_ble_eq_true rfl⟩) (tw_preV hK w hy14 (by decide) rfl [.ref (tw_R g a0 5)]) rfl rfl hl.1 rfl (lv_room (Nat.le_of_ble_eq_true rfl)) dX8_machine_80 ⟨Nat.zero_le _, Nat.zero_le _⟩) (fun σ15 H locs h w => ?_)
        refine lv_aload_n X.1 X.2.1 dX8_machine_83 rfl (lv_at hl 1 rfl) ?_
        refine tw_get X hK w 8 iw_X8_machine_8 h0 (by decide) rfl 5 (by decide) (List.mem_of_getElem? (i := 3) rfl) rfl dX8_machine_84 ?_
        refine tw_ci w (va_runV (As := []) (rest := []) X (ct_X3_size l D g hT _ σ15 (tw_R g a0 5) (tw_t_8_5 hT h0) _ h) (cwV 0 X.2.2.2.2 gX8_machine_X3_size rfl rfl rfl (by decide +kernel) ⟨Nat.le_of_ble_eq_true rfl, Nat.le_of_ble_eq_true rfl⟩) (tw_preV hK w (tw_t_8_5 hT h0) (by decide) rfl []) rfl rfl hl.1 rfl (lv_room (Nat.le_of_ble_eq_true rfl)) dX8_machine_87 ⟨Nat.zero_le _, Nat.zero_le _⟩) (fun r17 σ16 H locs h w => ?_)
        exact tw_iret X hr hlk w h dX8_machine_90
      · have h := h.2 c12
        refine lv_bipush (v := -10) X.1 X.2.1 dX8_machine_63 (by decide) ?_
        refine lv_iload_n X.1 X.2.1 dX8_machine_65 rfl (lv_at hl 0 rfl) ?_
        refine lv_isub X.1 X.2.1 dX8_machine_66 ?_
        exact tw_iret X hr hlk w h dX8_machine_67
    · have h := h.2 c6
      refine lv_iconst (v := -1) X.1 X.2.1 dX8_machine_27 (by decide) ?_
      refine lv_goto (tgt := 38) X.1 X.2.1 dX8_machine_28 (by decide) ?_
      refine tw_putI X hK w 8 iw_X8_machine_8 tyX8 tyX8_ok nmX8 h0 (by decide) rfl 12 (by decide) (List.mem_of_getElem? (i := 4) rfl) rfl (ty := .int) (by decide +kernel) rfl rfl (Nat.le_of_ble_eq_true rfl) (tw_f_8_12 g _ _ _) dX8_machine_38 (fun σ18 H locs eσ18 w => ?_)
      have h := h _ eσ18
      refine lv_aload_n X.1 X.2.1 dX8_machine_41 rfl (lv_at hl 1 rfl) ?_
      refine tw_get X hK w 8 iw_X8_machine_8 h0 (by decide) rfl 4 (by decide) (List.mem_of_getElem? (i := 2) rfl) rfl dX8_machine_42 ?_
      refine tw_cv w (va_runV (As := []) (rest := []) X (ct_X6_clear l D g hT _ σ18 (tw_R g a0 4) (tw_t_8_4 hT h0) _ h) (cwV 0 X.2.2.2.2 gX8_machine_X6_clear rfl rfl rfl (by decide +kernel) ⟨Nat.le_of_ble_eq_true rfl, Nat.le_of_ble_eq_true rfl⟩) (tw_preV hK w (tw_t_8_4 hT h0) (by decide) rfl []) rfl rfl hl.1 rfl (lv_room (Nat.le_of_ble_eq_true rfl)) dX8_machine_45 ⟨Nat.zero_le _, Nat.zero_le _⟩) (fun σ19 H locs h w => ?_)
      refine lv_aload_n X.1 X.2.1 dX8_machine_48 rfl (lv_at hl 1 rfl) ?_
      refine tw_get X hK w 8 iw_X8_machine_8 h0 (by decide) rfl 1 (by decide) (List.mem_of_getElem? (i := 5) rfl) rfl dX8_machine_49 ?_
      refine lv_aload_n X.1 X.2.1 dX8_machine_52 rfl (lv_at hl 1 rfl) ?_
      refine tw_get X hK w 8 iw_X8_machine_8 h0 (by decide) rfl 0 (by decide) (List.mem_of_getElem? (i := 6) rfl) rfl dX8_machine_53 ?_
      refine tw_cv w (va_runV (As := [.ref (tw_R g a0 0)]) (rest := []) X (ct_X2_remember l D g hT _ σ19 (tw_R g a0 1) (tw_t_8_1 hT h0) (tw_R g a0 0) (tw_t_8_0 hT h0) _ h) (cwV 1 X.2.2.2.2 gX8_machine_X2_remember rfl rfl rfl (by decide +kernel) ⟨Nat.le_of_ble_eq_true rfl, Nat.le_of_ble_eq_true rfl⟩) (tw_preV hK w (tw_t_8_1 hT h0) (by decide) rfl [.ref (tw_R g a0 0)]) rfl rfl hl.1 rfl (lv_room (Nat.le_of_ble_eq_true rfl)) dX8_machine_56 ⟨Nat.zero_le _, Nat.zero_le _⟩) (fun σ20 H locs h w => ?_)
      refine lv_iload_n X.1 X.2.1 dX8_machine_59 rfl (lv_at hl 0 rfl) ?_
      refine lv_if_eq (tgt := 68) X.1 X.2.1 dX8_machine_60 (by decide) (fun c21 => ?_) (fun c21 => ?_)
      · have h := h.1 c21
        refine lv_aload_n X.1 X.2.1 dX8_machine_68 rfl (lv_at hl 1 rfl) ?_
        refine tw_get X hK w 8 iw_X8_machine_8 h0 (by decide) rfl 0 (by decide) (List.mem_of_getElem? (i := 6) rfl) rfl dX8_machine_69 ?_
        refine lv_iload_n X.1 X.2.1 dX8_machine_72 rfl (lv_at hl 2 rfl) ?_
        refine tw_cr w (va_runV (As := [.int x1]) (rest := []) X (ct_X0_at l D g hT _ σ20 (tw_R g a0 0) (tw_t_8_0 hT h0) x1 _ h) (cwV 1 X.2.2.2.2 gX8_machine_X0_at rfl rfl rfl (by decide +kernel) ⟨Nat.le_of_ble_eq_true rfl, Nat.le_of_ble_eq_true rfl⟩) (tw_preV hK w (tw_t_8_0 hT h0) (by decide) rfl [.int x1]) rfl rfl hl.1 rfl (lv_room (Nat.le_of_ble_eq_true rfl)) dX8_machine_73 ⟨Nat.zero_le _, Nat.zero_le _⟩) (fun y23 σ22 H locs hy23 h w => ?_)
        refine lv_aload_n X.1 X.2.1 dX8_machine_76 rfl (lv_at hl 1 rfl) ?_
        refine tw_get X hK w 8 iw_X8_machine_8 h0 (by decide) rfl 5 (by decide) (List.mem_of_getElem? (i := 3) rfl) rfl dX8_machine_77 ?_
        refine tw_cv w (va_runV (As := [.ref (tw_R g a0 5)]) (rest := []) X (ct_X3_become l D g hT _ σ22 y23 hy23 (tw_R g a0 5) (tw_t_8_5 hT h0) _ h) (cwV 1 X.2.2.2.2 gX8_machine_X3_become rfl rfl rfl (by decide +kernel) ⟨Nat.le_of_ble_eq_true rfl, Nat.le_of_ble_eq_true rfl⟩) (tw_preV hK w hy23 (by decide) rfl [.ref (tw_R g a0 5)]) rfl rfl hl.1 rfl (lv_room (Nat.le_of_ble_eq_true rfl)) dX8_machine_80 ⟨Nat.zero_le _, Nat.zero_le _⟩) (fun σ24 H locs h w => ?_)
        refine lv_aload_n X.1 X.2.1 dX8_machine_83 rfl (lv_at hl 1 rfl) ?_
        refine tw_get X hK w 8 iw_X8_machine_8 h0 (by decide) rfl 5 (by decide) (List.mem_of_getElem? (i := 3) rfl) rfl dX8_machine_84 ?_
        refine tw_ci w (va_runV (As := []) (rest := []) X (ct_X3_size l D g hT _ σ24 (tw_R g a0 5) (tw_t_8_5 hT h0) _ h) (cwV 0 X.2.2.2.2 gX8_machine_X3_size rfl rfl rfl (by decide +kernel) ⟨Nat.le_of_ble_eq_true rfl, Nat.le_of_ble_eq_true rfl⟩) (tw_preV hK w (tw_t_8_5 hT h0) (by decide) rfl []) rfl rfl hl.1 rfl (lv_room (Nat.le_of_ble_eq_true rfl)) dX8_machine_87 ⟨Nat.zero_le _, Nat.zero_le _⟩) (fun r26 σ25 H locs h w => ?_)
        exact tw_iret X hr hlk w h dX8_machine_90
      · have h := h.2 c21
        refine lv_bipush (v := -10) X.1 X.2.1 dX8_machine_63 (by decide) ?_
        refine lv_iload_n X.1 X.2.1 dX8_machine_65 rfl (lv_at hl 0 rfl) ?_
        refine lv_isub X.1 X.2.1 dX8_machine_66 ?_
        exact tw_iret X hr hlk w h dX8_machine_67
  · have h := h.2 c3
    refine lv_ldc (own := RX8) (v := -1000000001) X.1 X.2.1 X.2.2.2.1 (X.2.2.2.2 _ (List.mem_of_getElem? (i := 1) rfl)) dX8_machine_7 ?_
    exact tw_iret X hr hlk w h dX8_machine_9

abbrev RM_X8_fault : Room := { frames := 0, cells := 0, slots := 0, locals := 0 }
theorem iw_X8_fault_8 : ∀ w ∈ wsX80, w ∈ wsX8_fault := fun w h => List.mem_cons_of_mem _ (List.mem_append_right _ (h))
def wp_X8_fault (g : tw_G) (σ : tw_S) (a0 : Nat) (Q : Int32 → tw_S → Prop) : Prop := Q (tw_I σ a0 12) σ
set_option maxHeartbeats 4000000 in
set_option maxRecDepth 100000 in
theorem ct_X8_fault (l : Launch) (D : va_G) (g : tw_G) (hT : tw_T g) (sz : Nat) (σ : tw_S) (a0 : Nat) (h0 : tw_is g 8 a0) (Q : Int32 → tw_S → Prop) (h : wp_X8_fault g σ a0 Q) : tw_Mi l yX8_fault wsX8_fault RM_X8_fault D g sz σ [.ref a0] Q := by
  refine Met.ofW (cc := cX8_fault) (maxL := 1) (ret := (some .int)) (by decide) rfl ?_
  intro p e s m args below meth c s₁ B hml hv
  obtain ⟨rfl, hsz, hP, hK, hD0⟩ := hv
  subst hsz
  have hr := B.returns
  have hlk := B.notSynchronized
  have X : CallFix p m c cX8_fault 1 s _ wsX8_fault RX8 := ⟨B.exec, B.bytes, hml, findClass_of_methodNamed B.named, atoms_spec (ws := wsX8_fault) B.pre⟩
  have w := tw_w0 hP hD0
  have hl := lv_entry ([.ref a0]) (n := 1) (Nat.le_of_ble_eq_true rfl)
  rw [lg_entry_eq]
  generalize (lg_sl ([.ref a0]) ++ List.replicate (1 - (lg_sl ([.ref a0])).length) Slot.unset).toArray = ls at hl ⊢
  have hl : lv_has ls 1 [(0, .ref a0)] := hl
  unfold wp_X8_fault at h
  refine lv_aload_n X.1 X.2.1 dX8_fault_0 rfl (lv_at hl 0 rfl) ?_
  refine tw_get X hK w 8 iw_X8_fault_8 h0 (by decide) rfl 12 (by decide) (List.mem_of_getElem? (i := 1) rfl) rfl dX8_fault_1 ?_
  exact tw_iret X hr hlk w h dX8_fault_4

abbrev RM_X8_hasMoveOf : Room := { frames := 1, cells := 0, slots := 0, locals := 21 }
theorem iw_X8_hasMoveOf_8 : ∀ w ∈ wsX80, w ∈ wsX8_hasMoveOf := fun w h => List.mem_cons_of_mem _ (List.mem_append_left _ (List.mem_append_left _ (List.mem_append_right _ (h))))
def wp_X8_hasMoveOf (g : tw_G) (σ : tw_S) (a0 : Nat) (x1 : Int32) (x2 : Int32) (x3 : Int32) (Q : Int32 → tw_S → Prop) : Prop := wp_X8_isMachine g σ x1 (fun r2 σ1 => ((r2 = 0) → Q (0 : Int32) σ1) ∧ (¬ (r2 = 0) → wp_X0_at g σ1 (tw_R g a0 0) x1 (fun y5 σ4 => wp_X3_hasState g σ4 y5 x2 (fun r7 σ6 => ((r7 = 0) → Q (0 : Int32) σ6) ∧ (¬ (r7 = 0) → wp_X8_isSign g σ6 x3 (fun r10 σ9 => ((r10 = 0) → Q (0 : Int32) σ9) ∧ (¬ (r10 = 0) → Q (1 : Int32) σ9)))))))
set_option maxHeartbeats 4000000 in
set_option maxRecDepth 100000 in
theorem ct_X8_hasMoveOf (l : Launch) (D : va_G) (g : tw_G) (hT : tw_T g) (sz : Nat) (σ : tw_S) (a0 : Nat) (h0 : tw_is g 8 a0) (x1 : Int32) (x2 : Int32) (x3 : Int32) (Q : Int32 → tw_S → Prop) (h : wp_X8_hasMoveOf g σ a0 x1 x2 x3 Q) : tw_Mi l yX8_hasMoveOf wsX8_hasMoveOf RM_X8_hasMoveOf D g sz σ [.ref a0, .int x1, .int x2, .int x3] Q := by
  refine Met.ofW (cc := cX8_hasMoveOf) (maxL := 4) (ret := (some .boolean)) (by decide) rfl ?_
  intro p e s m args below meth c s₁ B hml hv
  obtain ⟨rfl, hsz, hP, hK, hD0⟩ := hv
  subst hsz
  have hr := B.returns
  have hlk := B.notSynchronized
  have X : CallFix p m c cX8_hasMoveOf 4 s _ wsX8_hasMoveOf RX8 := ⟨B.exec, B.bytes, hml, findClass_of_methodNamed B.named, atoms_spec (ws := wsX8_hasMoveOf) B.pre⟩
  have w := tw_w0 hP hD0
  have hl := lv_entry ([.ref a0, .int x1, .int x2, .int x3]) (n := 4) (Nat.le_of_ble_eq_true rfl)
  rw [lg_entry_eq]
  generalize (lg_sl ([.ref a0, .int x1, .int x2, .int x3]) ++ List.replicate (4 - (lg_sl ([.ref a0, .int x1, .int x2, .int x3])).length) Slot.unset).toArray = ls at hl ⊢
  have hl : lv_has ls 4 [(0, .ref a0), (1, .int x1), (2, .int x2), (3, .int x3)] := hl
  unfold wp_X8_hasMoveOf at h
  refine lv_iload_n X.1 X.2.1 dX8_hasMoveOf_0 rfl (lv_at hl 1 rfl) ?_
  refine tw_ci w (va_runS (As := [.int x1]) (rest := []) X (ct_X8_isMachine l D g hT _ σ x1 _ h) (va_cwS 1 X.2.2.2.2 gX8_hasMoveOf_X8_isMachine rfl rfl rfl (by decide +kernel) ⟨Nat.le_of_ble_eq_true rfl, Nat.le_of_ble_eq_true rfl⟩) (tw_pre hK w [.int x1]) rfl rfl hl.1 rfl (lv_room (Nat.le_of_ble_eq_true rfl)) dX8_hasMoveOf_1 ⟨Nat.zero_le _, Nat.zero_le _⟩) (fun r2 σ1 H locs h w => ?_)
  refine lv_if_eq (tgt := 33) X.1 X.2.1 dX8_hasMoveOf_4 (by decide) (fun c3 => ?_) (fun c3 => ?_)
  · have h := h.1 c3
    refine lv_iconst (v := 0) X.1 X.2.1 dX8_hasMoveOf_33 (by decide) ?_
    exact tw_zret X hr hlk w (by decide) h dX8_hasMoveOf_34
  · have h := h.2 c3
    refine lv_aload_n X.1 X.2.1 dX8_hasMoveOf_7 rfl (lv_at hl 0 rfl) ?_
    refine tw_get X hK w 8 iw_X8_hasMoveOf_8 h0 (by decide) rfl 0 (by decide) (List.mem_of_getElem? (i := 1) rfl) rfl dX8_hasMoveOf_8 ?_
    refine lv_iload_n X.1 X.2.1 dX8_hasMoveOf_11 rfl (lv_at hl 1 rfl) ?_
    refine tw_cr w (va_runV (As := [.int x1]) (rest := []) X (ct_X0_at l D g hT _ σ1 (tw_R g a0 0) (tw_t_8_0 hT h0) x1 _ h) (cwV 1 X.2.2.2.2 gX8_hasMoveOf_X0_at rfl rfl rfl (by decide +kernel) ⟨Nat.le_of_ble_eq_true rfl, Nat.le_of_ble_eq_true rfl⟩) (tw_preV hK w (tw_t_8_0 hT h0) (by decide) rfl [.int x1]) rfl rfl hl.1 rfl (lv_room (Nat.le_of_ble_eq_true rfl)) dX8_hasMoveOf_12 ⟨Nat.zero_le _, Nat.zero_le _⟩) (fun y5 σ4 H locs hy5 h w => ?_)
    refine lv_iload_n X.1 X.2.1 dX8_hasMoveOf_15 rfl (lv_at hl 2 rfl) ?_
    refine tw_ci w (va_runV (As := [.int x2]) (rest := []) X (ct_X3_hasState l D g hT _ σ4 y5 hy5 x2 _ h) (cwV 1 X.2.2.2.2 gX8_hasMoveOf_X3_hasState rfl rfl rfl (by decide +kernel) ⟨Nat.le_of_ble_eq_true rfl, Nat.le_of_ble_eq_true rfl⟩) (tw_preV hK w hy5 (by decide) rfl [.int x2]) rfl rfl hl.1 rfl (lv_room (Nat.le_of_ble_eq_true rfl)) dX8_hasMoveOf_16 ⟨Nat.zero_le _, Nat.zero_le _⟩) (fun r7 σ6 H locs h w => ?_)
    refine lv_if_eq (tgt := 33) X.1 X.2.1 dX8_hasMoveOf_19 (by decide) (fun c8 => ?_) (fun c8 => ?_)
    · have h := h.1 c8
      refine lv_iconst (v := 0) X.1 X.2.1 dX8_hasMoveOf_33 (by decide) ?_
      exact tw_zret X hr hlk w (by decide) h dX8_hasMoveOf_34
    · have h := h.2 c8
      refine lv_iload_n X.1 X.2.1 dX8_hasMoveOf_22 rfl (lv_at hl 3 rfl) ?_
      refine tw_ci w (va_runS (As := [.int x3]) (rest := []) X (ct_X8_isSign l D g hT _ σ6 x3 _ h) (va_cwS 1 X.2.2.2.2 gX8_hasMoveOf_X8_isSign rfl rfl rfl (by decide +kernel) ⟨Nat.le_of_ble_eq_true rfl, Nat.le_of_ble_eq_true rfl⟩) (tw_pre hK w [.int x3]) rfl rfl hl.1 rfl (lv_room (Nat.le_of_ble_eq_true rfl)) dX8_hasMoveOf_23 ⟨Nat.zero_le _, Nat.zero_le _⟩) (fun r10 σ9 H locs h w => ?_)
      refine lv_if_eq (tgt := 33) X.1 X.2.1 dX8_hasMoveOf_26 (by decide) (fun c11 => ?_) (fun c11 => ?_)
      · have h := h.1 c11
        refine lv_iconst (v := 0) X.1 X.2.1 dX8_hasMoveOf_33 (by decide) ?_
        exact tw_zret X hr hlk w (by decide) h dX8_hasMoveOf_34
      · have h := h.2 c11
        refine lv_iconst (v := 1) X.1 X.2.1 dX8_hasMoveOf_29 (by decide) ?_
        refine lv_goto (tgt := 34) X.1 X.2.1 dX8_hasMoveOf_30 (by decide) ?_
        exact tw_zret X hr hlk w (by decide) h dX8_hasMoveOf_34

abbrev RM_X8_isSide : Room := { frames := 0, cells := 0, slots := 0, locals := 0 }
def wp_X8_isSide (g : tw_G) (σ : tw_S) (x0 : Int32) (Q : Int32 → tw_S → Prop) : Prop := ((x0 = 0) → Q (1 : Int32) σ) ∧ (¬ (x0 = 0) → ((¬ x0 = (1 : Int32)) → Q (0 : Int32) σ) ∧ ((x0 = (1 : Int32)) → Q (1 : Int32) σ))
set_option maxHeartbeats 4000000 in
set_option maxRecDepth 100000 in
theorem ct_X8_isSide (l : Launch) (D : va_G) (g : tw_G) (hT : tw_T g) (sz : Nat) (σ : tw_S) (x0 : Int32) (Q : Int32 → tw_S → Prop) (h : wp_X8_isSide g σ x0 Q) : tw_Mi l yX8_isSide wsX8_isSide RM_X8_isSide D g sz σ [.int x0] Q := by
  refine Met.ofW (cc := cX8_isSide) (maxL := 1) (ret := (some .boolean)) (by decide) rfl ?_
  intro p e s m args below meth c s₁ B hml hv
  obtain ⟨rfl, hsz, hP, hK, hD0⟩ := hv
  subst hsz
  have hr := B.returns
  have hlk := B.notSynchronized
  have X : CallFix p m c cX8_isSide 1 s _ wsX8_isSide RX8 := ⟨B.exec, B.bytes, hml, findClass_of_methodNamed B.named, atoms_spec (ws := wsX8_isSide) B.pre⟩
  have w := tw_w0 hP hD0
  have hl := lv_entry ([.int x0]) (n := 1) (Nat.le_of_ble_eq_true rfl)
  rw [lg_entry_eq]
  generalize (lg_sl ([.int x0]) ++ List.replicate (1 - (lg_sl ([.int x0])).length) Slot.unset).toArray = ls at hl ⊢
  have hl : lv_has ls 1 [(0, .int x0)] := hl
  unfold wp_X8_isSide at h
  refine lv_iload_n X.1 X.2.1 dX8_isSide_0 rfl (lv_at hl 0 rfl) ?_
  refine lv_if_eq (tgt := 9) X.1 X.2.1 dX8_isSide_1 (by decide) (fun c1 => ?_) (fun c1 => ?_)
  · have h := h.1 c1
    refine lv_iconst (v := 1) X.1 X.2.1 dX8_isSide_9 (by decide) ?_
    refine lv_goto (tgt := 14) X.1 X.2.1 dX8_isSide_10 (by decide) ?_
    exact tw_zret X hr hlk w (by decide) h dX8_isSide_14
  · have h := h.2 c1
    refine lv_iload_n X.1 X.2.1 dX8_isSide_4 rfl (lv_at hl 0 rfl) ?_
    refine lv_iconst (v := 1) X.1 X.2.1 dX8_isSide_5 (by decide) ?_
    refine lv_icmp_ne (tgt := 13) X.1 X.2.1 dX8_isSide_6 (by decide) (fun c2 => ?_) (fun c2 => ?_)
    · have h := h.1 c2
      refine lv_iconst (v := 0) X.1 X.2.1 dX8_isSide_13 (by decide) ?_
      exact tw_zret X hr hlk w (by decide) h dX8_isSide_14
    · have h := h.2 c2
      refine lv_iconst (v := 1) X.1 X.2.1 dX8_isSide_9 (by decide) ?_
      refine lv_goto (tgt := 14) X.1 X.2.1 dX8_isSide_10 (by decide) ?_
      exact tw_zret X hr hlk w (by decide) h dX8_isSide_14

abbrev RM_X8_change : Room := { frames := 4, cells := 0, slots := 0, locals := 90 }
theorem iw_X8_change_8 : ∀ w ∈ wsX80, w ∈ wsX8_change := fun w h => List.mem_cons_of_mem _ (List.mem_append_left _ (List.mem_append_left _ (List.mem_append_left _ (List.mem_append_right _ (h)))))
def wp_X8_change (g : tw_G) (σ : tw_S) (a0 : Nat) (a1 : Nat) (x2 : Int32) (x3 : Int32) (x4 : Int32) (Q : Int32 → tw_S → Prop) : Prop := wp_X2_remember g σ (tw_R g a0 1) (tw_R g a0 0) (fun σ1 => wp_X3_at g σ1 a1 x2 x3 (fun r3 σ2 => wp_X3_put g σ2 a1 x2 x3 x4 (fun σ4 => Q r3 σ4)))
set_option maxHeartbeats 4000000 in
set_option maxRecDepth 100000 in
theorem ct_X8_change (l : Launch) (D : va_G) (g : tw_G) (hT : tw_T g) (sz : Nat) (σ : tw_S) (a0 : Nat) (h0 : tw_is g 8 a0) (a1 : Nat) (h1 : tw_is g 3 a1) (x2 : Int32) (x3 : Int32) (x4 : Int32) (Q : Int32 → tw_S → Prop) (h : wp_X8_change g σ a0 a1 x2 x3 x4 Q) : tw_Mi l yX8_change wsX8_change RM_X8_change D g sz σ [.ref a0, .ref a1, .int x2, .int x3, .int x4] Q := by
  refine Met.ofW (cc := cX8_change) (maxL := 6) (ret := (some .int)) (by decide) rfl ?_
  intro p e s m args below meth c s₁ B hml hv
  obtain ⟨rfl, hsz, hP, hK, hD0⟩ := hv
  subst hsz
  have hr := B.returns
  have hlk := B.notSynchronized
  have X : CallFix p m c cX8_change 6 s _ wsX8_change RX8 := ⟨B.exec, B.bytes, hml, findClass_of_methodNamed B.named, atoms_spec (ws := wsX8_change) B.pre⟩
  have w := tw_w0 hP hD0
  have hl := lv_entry ([.ref a0, .ref a1, .int x2, .int x3, .int x4]) (n := 6) (Nat.le_of_ble_eq_true rfl)
  rw [lg_entry_eq]
  generalize (lg_sl ([.ref a0, .ref a1, .int x2, .int x3, .int x4]) ++ List.replicate (6 - (lg_sl ([.ref a0, .ref a1, .int x2, .int x3, .int x4])).length) Slot.unset).toArray = ls at hl ⊢
  have hl : lv_has ls 6 [(0, .ref a0), (1, .ref a1), (2, .int x2), (3, .int x3), (4, .int x4)] := hl
  unfold wp_X8_change at h
  refine lv_aload_n X.1 X.2.1 dX8_change_0 rfl (lv_at hl 0 rfl) ?_
  refine tw_get X hK w 8 iw_X8_change_8 h0 (by decide) rfl 1 (by decide) (List.mem_of_getElem? (i := 1) rfl) rfl dX8_change_1 ?_
  refine lv_aload_n X.1 X.2.1 dX8_change_4 rfl (lv_at hl 0 rfl) ?_
  refine tw_get X hK w 8 iw_X8_change_8 h0 (by decide) rfl 0 (by decide) (List.mem_of_getElem? (i := 2) rfl) rfl dX8_change_5 ?_
  refine tw_cv w (va_runV (As := [.ref (tw_R g a0 0)]) (rest := []) X (ct_X2_remember l D g hT _ σ (tw_R g a0 1) (tw_t_8_1 hT h0) (tw_R g a0 0) (tw_t_8_0 hT h0) _ h) (cwV 1 X.2.2.2.2 gX8_change_X2_remember rfl rfl rfl (by decide +kernel) ⟨Nat.le_of_ble_eq_true rfl, Nat.le_of_ble_eq_true rfl⟩) (tw_preV hK w (tw_t_8_1 hT h0) (by decide) rfl [.ref (tw_R g a0 0)]) rfl rfl hl.1 rfl (lv_room (Nat.le_of_ble_eq_true rfl)) dX8_change_8 ⟨Nat.zero_le _, Nat.zero_le _⟩) (fun σ1 H locs h w => ?_)
  refine lv_aload_n X.1 X.2.1 dX8_change_11 rfl (lv_at hl 1 rfl) ?_
  refine lv_iload_n X.1 X.2.1 dX8_change_12 rfl (lv_at hl 2 rfl) ?_
  refine lv_iload_n X.1 X.2.1 dX8_change_13 rfl (lv_at hl 3 rfl) ?_
  refine tw_ci w (va_runV (As := [.int x2, .int x3]) (rest := []) X (ct_X3_at l D g hT _ σ1 a1 h1 x2 x3 _ h) (cwV 2 X.2.2.2.2 gX8_change_X3_at rfl rfl rfl (by decide +kernel) ⟨Nat.le_of_ble_eq_true rfl, Nat.le_of_ble_eq_true rfl⟩) (tw_preV hK w h1 (by decide) rfl [.int x2, .int x3]) rfl rfl hl.1 rfl (lv_room (Nat.le_of_ble_eq_true rfl)) dX8_change_14 ⟨Nat.zero_le _, Nat.zero_le _⟩) (fun r3 σ2 H locs h w => ?_)
  refine lv_istore (lv' := [(5, .int r3), (0, .ref a0), (1, .ref a1), (2, .int x2), (3, .int x3), (4, .int x4)]) X.1 X.2.1 dX8_change_17 hl (by decide) rfl (fun ls hl => ?_)
  have hl := lv_sub (l' := [(5, .int r3), (1, .ref a1), (2, .int x2), (3, .int x3), (4, .int x4)]) hl [0, 2, 3, 4, 5] rfl
  refine lv_aload_n X.1 X.2.1 dX8_change_19 rfl (lv_at hl 1 rfl) ?_
  refine lv_iload_n X.1 X.2.1 dX8_change_20 rfl (lv_at hl 2 rfl) ?_
  refine lv_iload_n X.1 X.2.1 dX8_change_21 rfl (lv_at hl 3 rfl) ?_
  refine lv_iload X.1 X.2.1 dX8_change_22 (lv_at hl 4 rfl) ?_
  refine tw_cv w (va_runV (As := [.int x2, .int x3, .int x4]) (rest := []) X (ct_X3_put l D g hT _ σ2 a1 h1 x2 x3 x4 _ h) (cwV 3 X.2.2.2.2 gX8_change_X3_put rfl rfl rfl (by decide +kernel) ⟨Nat.le_of_ble_eq_true rfl, Nat.le_of_ble_eq_true rfl⟩) (tw_preV hK w h1 (by decide) rfl [.int x2, .int x3, .int x4]) rfl rfl hl.1 rfl (lv_room (Nat.le_of_ble_eq_true rfl)) dX8_change_24 ⟨Nat.zero_le _, Nat.zero_le _⟩) (fun σ4 H locs h w => ?_)
  refine lv_iload X.1 X.2.1 dX8_change_27 (lv_at hl 0 rfl) ?_
  exact tw_iret X hr hlk w h dX8_change_29

abbrev RM_X8_move : Room := { frames := 5, cells := 0, slots := 0, locals := 115 }
theorem iw_X8_move_8 : ∀ w ∈ wsX80, w ∈ wsX8_move := fun w h => List.mem_cons_of_mem _ (List.mem_append_left _ (List.mem_append_left _ (List.mem_append_left _ (List.mem_append_right _ (h)))))
def wp_X8_move (g : tw_G) (σ : tw_S) (a0 : Nat) (x1 : Int32) (x2 : Int32) (x3 : Int32) (x4 : Int32) (x5 : Int32) (Q : Int32 → tw_S → Prop) : Prop := wp_X8_hasMoveOf g σ a0 x1 x2 x3 (fun r2 σ1 => ((r2 = 0) → Q (-1000000001 : Int32) σ1) ∧ (¬ (r2 = 0) → wp_X0_at g σ1 (tw_R g a0 0) x1 (fun y5 σ4 => wp_X3_hasState g σ4 y5 x4 (fun r7 σ6 => ((¬ r7 = 0) → wp_X8_isSide g σ6 x5 (fun r10 σ9 => ((¬ r10 = 0) → wp_X0_at g σ9 (tw_R g a0 0) x1 (fun y13 σ12 => wp_X8_change g σ12 a0 y13 x2 x3 (((2 : Int32) * x4) + x5) (fun r15 σ14 => Q r15 σ14))) ∧ ((r10 = 0) → Q (-1000000002 : Int32) σ9))) ∧ ((r7 = 0) → Q (-1000000001 : Int32) σ6)))))
set_option maxHeartbeats 4000000 in
set_option maxRecDepth 100000 in
theorem ct_X8_move (l : Launch) (D : va_G) (g : tw_G) (hT : tw_T g) (sz : Nat) (σ : tw_S) (a0 : Nat) (h0 : tw_is g 8 a0) (x1 : Int32) (x2 : Int32) (x3 : Int32) (x4 : Int32) (x5 : Int32) (Q : Int32 → tw_S → Prop) (h : wp_X8_move g σ a0 x1 x2 x3 x4 x5 Q) : tw_Mi l yX8_move wsX8_move RM_X8_move D g sz σ [.ref a0, .int x1, .int x2, .int x3, .int x4, .int x5] Q := by
  refine Met.ofW (cc := cX8_move) (maxL := 6) (ret := (some .int)) (by decide) rfl ?_
  intro p e s m args below meth c s₁ B hml hv
  obtain ⟨rfl, hsz, hP, hK, hD0⟩ := hv
  subst hsz
  have hr := B.returns
  have hlk := B.notSynchronized
  have X : CallFix p m c cX8_move 6 s _ wsX8_move RX8 := ⟨B.exec, B.bytes, hml, findClass_of_methodNamed B.named, atoms_spec (ws := wsX8_move) B.pre⟩
  have w := tw_w0 hP hD0
  have hl := lv_entry ([.ref a0, .int x1, .int x2, .int x3, .int x4, .int x5]) (n := 6) (Nat.le_of_ble_eq_true rfl)
  rw [lg_entry_eq]
  generalize (lg_sl ([.ref a0, .int x1, .int x2, .int x3, .int x4, .int x5]) ++ List.replicate (6 - (lg_sl ([.ref a0, .int x1, .int x2, .int x3, .int x4, .int x5])).length) Slot.unset).toArray = ls at hl ⊢
  have hl : lv_has ls 6 [(0, .ref a0), (1, .int x1), (2, .int x2), (3, .int x3), (4, .int x4), (5, .int x5)] := hl
  unfold wp_X8_move at h
  refine lv_aload_n X.1 X.2.1 dX8_move_0 rfl (lv_at hl 0 rfl) ?_
  refine lv_iload_n X.1 X.2.1 dX8_move_1 rfl (lv_at hl 1 rfl) ?_
  refine lv_iload_n X.1 X.2.1 dX8_move_2 rfl (lv_at hl 2 rfl) ?_
  refine lv_iload_n X.1 X.2.1 dX8_move_3 rfl (lv_at hl 3 rfl) ?_
  refine tw_ci w (va_runV (As := [.int x1, .int x2, .int x3]) (rest := []) X (ct_X8_hasMoveOf l D g hT _ σ a0 h0 x1 x2 x3 _ h) (cwV 3 X.2.2.2.2 gX8_move_X8_hasMoveOf rfl rfl rfl (by decide +kernel) ⟨Nat.le_of_ble_eq_true rfl, Nat.le_of_ble_eq_true rfl⟩) (tw_preV hK w h0 (by decide) rfl [.int x1, .int x2, .int x3]) rfl rfl hl.1 rfl (lv_room (Nat.le_of_ble_eq_true rfl)) dX8_move_4 ⟨Nat.zero_le _, Nat.zero_le _⟩) (fun r2 σ1 H locs h w => ?_)
  refine lv_if_eq (tgt := 26) X.1 X.2.1 dX8_move_7 (by decide) (fun c3 => ?_) (fun c3 => ?_)
  · have h := h.1 c3
    refine lv_ldc (own := RX8) (v := -1000000001) X.1 X.2.1 X.2.2.2.1 (X.2.2.2.2 _ (List.mem_of_getElem? (i := 2) rfl)) dX8_move_26 ?_
    exact tw_iret X hr hlk w h dX8_move_28
  · have h := h.2 c3
    refine lv_aload_n X.1 X.2.1 dX8_move_10 rfl (lv_at hl 0 rfl) ?_
    refine tw_get X hK w 8 iw_X8_move_8 h0 (by decide) rfl 0 (by decide) (List.mem_of_getElem? (i := 1) rfl) rfl dX8_move_11 ?_
    refine lv_iload_n X.1 X.2.1 dX8_move_14 rfl (lv_at hl 1 rfl) ?_
    refine tw_cr w (va_runV (As := [.int x1]) (rest := []) X (ct_X0_at l D g hT _ σ1 (tw_R g a0 0) (tw_t_8_0 hT h0) x1 _ h) (cwV 1 X.2.2.2.2 gX8_move_X0_at rfl rfl rfl (by decide +kernel) ⟨Nat.le_of_ble_eq_true rfl, Nat.le_of_ble_eq_true rfl⟩) (tw_preV hK w (tw_t_8_0 hT h0) (by decide) rfl [.int x1]) rfl rfl hl.1 rfl (lv_room (Nat.le_of_ble_eq_true rfl)) dX8_move_15 ⟨Nat.zero_le _, Nat.zero_le _⟩) (fun y5 σ4 H locs hy5 h w => ?_)
    refine lv_iload X.1 X.2.1 dX8_move_18 (lv_at hl 4 rfl) ?_
    refine tw_ci w (va_runV (As := [.int x4]) (rest := []) X (ct_X3_hasState l D g hT _ σ4 y5 hy5 x4 _ h) (cwV 1 X.2.2.2.2 gX8_move_X3_hasState rfl rfl rfl (by decide +kernel) ⟨Nat.le_of_ble_eq_true rfl, Nat.le_of_ble_eq_true rfl⟩) (tw_preV hK w hy5 (by decide) rfl [.int x4]) rfl rfl hl.1 rfl (lv_room (Nat.le_of_ble_eq_true rfl)) dX8_move_20 ⟨Nat.zero_le _, Nat.zero_le _⟩) (fun r7 σ6 H locs h w => ?_)
    refine lv_if_ne (tgt := 29) X.1 X.2.1 dX8_move_23 (by decide) (fun c8 => ?_) (fun c8 => ?_)
    · have h := h.1 c8
      refine lv_iload X.1 X.2.1 dX8_move_29 (lv_at hl 5 rfl) ?_
      refine tw_ci w (va_runS (As := [.int x5]) (rest := []) X (ct_X8_isSide l D g hT _ σ6 x5 _ h) (va_cwS 1 X.2.2.2.2 gX8_move_X8_isSide rfl rfl rfl (by decide +kernel) ⟨Nat.le_of_ble_eq_true rfl, Nat.le_of_ble_eq_true rfl⟩) (tw_pre hK w [.int x5]) rfl rfl hl.1 rfl (lv_room (Nat.le_of_ble_eq_true rfl)) dX8_move_31 ⟨Nat.zero_le _, Nat.zero_le _⟩) (fun r10 σ9 H locs h w => ?_)
      refine lv_if_ne (tgt := 40) X.1 X.2.1 dX8_move_34 (by decide) (fun c11 => ?_) (fun c11 => ?_)
      · have h := h.1 c11
        refine lv_aload_n X.1 X.2.1 dX8_move_40 rfl (lv_at hl 0 rfl) ?_
        refine lv_aload_n X.1 X.2.1 dX8_move_41 rfl (lv_at hl 0 rfl) ?_
        refine tw_get X hK w 8 iw_X8_move_8 h0 (by decide) rfl 0 (by decide) (List.mem_of_getElem? (i := 1) rfl) rfl dX8_move_42 ?_
        refine lv_iload_n X.1 X.2.1 dX8_move_45 rfl (lv_at hl 1 rfl) ?_
        refine tw_cr w (va_runV (As := [.int x1]) (rest := [.ref a0]) X (ct_X0_at l D g hT _ σ9 (tw_R g a0 0) (tw_t_8_0 hT h0) x1 _ h) (cwV 1 X.2.2.2.2 gX8_move_X0_at rfl rfl rfl (by decide +kernel) ⟨Nat.le_of_ble_eq_true rfl, Nat.le_of_ble_eq_true rfl⟩) (tw_preV hK w (tw_t_8_0 hT h0) (by decide) rfl [.int x1]) rfl rfl hl.1 rfl (lv_room (Nat.le_of_ble_eq_true rfl)) dX8_move_46 ⟨Nat.zero_le _, Nat.zero_le _⟩) (fun y13 σ12 H locs hy13 h w => ?_)
        refine lv_iload_n X.1 X.2.1 dX8_move_49 rfl (lv_at hl 2 rfl) ?_
        refine lv_iload_n X.1 X.2.1 dX8_move_50 rfl (lv_at hl 3 rfl) ?_
        refine lv_iconst (v := 2) X.1 X.2.1 dX8_move_51 (by decide) ?_
        refine lv_iload X.1 X.2.1 dX8_move_52 (lv_at hl 4 rfl) ?_
        refine lv_imul X.1 X.2.1 dX8_move_54 ?_
        refine lv_iload X.1 X.2.1 dX8_move_55 (lv_at hl 5 rfl) ?_
        refine lv_iadd X.1 X.2.1 dX8_move_57 ?_
        refine tw_ci w (va_runV (As := [.ref y13, .int x2, .int x3, .int (((2 : Int32) * x4) + x5)]) (rest := []) X (ct_X8_change l D g hT _ σ12 a0 h0 y13 hy13 x2 x3 (((2 : Int32) * x4) + x5) _ h) (cwV 4 X.2.2.2.2 gX8_move_X8_change rfl rfl rfl (by decide +kernel) ⟨Nat.le_of_ble_eq_true rfl, Nat.le_of_ble_eq_true rfl⟩) (tw_preV hK w h0 (by decide) rfl [.ref y13, .int x2, .int x3, .int (((2 : Int32) * x4) + x5)]) rfl rfl hl.1 rfl (lv_room (Nat.le_of_ble_eq_true rfl)) dX8_move_58 ⟨Nat.zero_le _, Nat.zero_le _⟩) (fun r15 σ14 H locs h w => ?_)
        exact tw_iret X hr hlk w h dX8_move_61
      · have h := h.2 c11
        refine lv_ldc (own := RX8) (v := -1000000002) X.1 X.2.1 X.2.2.2.1 (X.2.2.2.2 _ (List.mem_of_getElem? (i := 3) rfl)) dX8_move_37 ?_
        exact tw_iret X hr hlk w h dX8_move_39
    · have h := h.2 c8
      refine lv_ldc (own := RX8) (v := -1000000001) X.1 X.2.1 X.2.2.2.1 (X.2.2.2.2 _ (List.mem_of_getElem? (i := 2) rfl)) dX8_move_26 ?_
      exact tw_iret X hr hlk w h dX8_move_28

abbrev RM_X8_none : Room := { frames := 5, cells := 0, slots := 0, locals := 115 }
theorem iw_X8_none_8 : ∀ w ∈ wsX80, w ∈ wsX8_none := fun w h => List.mem_cons_of_mem _ (List.mem_append_left _ (List.mem_append_left _ (List.mem_append_left _ (List.mem_append_right _ (h)))))
def wp_X8_none (g : tw_G) (σ : tw_S) (a0 : Nat) (x1 : Int32) (x2 : Int32) (x3 : Int32) (Q : Int32 → tw_S → Prop) : Prop := wp_X8_hasMoveOf g σ a0 x1 x2 x3 (fun r2 σ1 => ((¬ r2 = 0) → wp_X0_at g σ1 (tw_R g a0 0) x1 (fun y5 σ4 => wp_X3_at g σ4 y5 x2 x3 (fun r7 σ6 => ((¬ r7 = (-1 : Int32)) → wp_X0_at g σ6 (tw_R g a0 0) x1 (fun y10 σ9 => wp_X8_change g σ9 a0 y10 x2 x3 (-1 : Int32) (fun r12 σ11 => Q r12 σ11))) ∧ ((r7 = (-1 : Int32)) → Q (-1000000003 : Int32) σ6)))) ∧ ((r2 = 0) → Q (-1000000001 : Int32) σ1))
set_option maxHeartbeats 4000000 in
set_option maxRecDepth 100000 in
theorem ct_X8_none (l : Launch) (D : va_G) (g : tw_G) (hT : tw_T g) (sz : Nat) (σ : tw_S) (a0 : Nat) (h0 : tw_is g 8 a0) (x1 : Int32) (x2 : Int32) (x3 : Int32) (Q : Int32 → tw_S → Prop) (h : wp_X8_none g σ a0 x1 x2 x3 Q) : tw_Mi l yX8_none wsX8_none RM_X8_none D g sz σ [.ref a0, .int x1, .int x2, .int x3] Q := by
  refine Met.ofW (cc := cX8_none) (maxL := 4) (ret := (some .int)) (by decide) rfl ?_
  intro p e s m args below meth c s₁ B hml hv
  obtain ⟨rfl, hsz, hP, hK, hD0⟩ := hv
  subst hsz
  have hr := B.returns
  have hlk := B.notSynchronized
  have X : CallFix p m c cX8_none 4 s _ wsX8_none RX8 := ⟨B.exec, B.bytes, hml, findClass_of_methodNamed B.named, atoms_spec (ws := wsX8_none) B.pre⟩
  have w := tw_w0 hP hD0
  have hl := lv_entry ([.ref a0, .int x1, .int x2, .int x3]) (n := 4) (Nat.le_of_ble_eq_true rfl)
  rw [lg_entry_eq]
  generalize (lg_sl ([.ref a0, .int x1, .int x2, .int x3]) ++ List.replicate (4 - (lg_sl ([.ref a0, .int x1, .int x2, .int x3])).length) Slot.unset).toArray = ls at hl ⊢
  have hl : lv_has ls 4 [(0, .ref a0), (1, .int x1), (2, .int x2), (3, .int x3)] := hl
  unfold wp_X8_none at h
  refine lv_aload_n X.1 X.2.1 dX8_none_0 rfl (lv_at hl 0 rfl) ?_
  refine lv_iload_n X.1 X.2.1 dX8_none_1 rfl (lv_at hl 1 rfl) ?_
  refine lv_iload_n X.1 X.2.1 dX8_none_2 rfl (lv_at hl 2 rfl) ?_
  refine lv_iload_n X.1 X.2.1 dX8_none_3 rfl (lv_at hl 3 rfl) ?_
  refine tw_ci w (va_runV (As := [.int x1, .int x2, .int x3]) (rest := []) X (ct_X8_hasMoveOf l D g hT _ σ a0 h0 x1 x2 x3 _ h) (cwV 3 X.2.2.2.2 gX8_none_X8_hasMoveOf rfl rfl rfl (by decide +kernel) ⟨Nat.le_of_ble_eq_true rfl, Nat.le_of_ble_eq_true rfl⟩) (tw_preV hK w h0 (by decide) rfl [.int x1, .int x2, .int x3]) rfl rfl hl.1 rfl (lv_room (Nat.le_of_ble_eq_true rfl)) dX8_none_4 ⟨Nat.zero_le _, Nat.zero_le _⟩) (fun r2 σ1 H locs h w => ?_)
  refine lv_if_ne (tgt := 13) X.1 X.2.1 dX8_none_7 (by decide) (fun c3 => ?_) (fun c3 => ?_)
  · have h := h.1 c3
    refine lv_aload_n X.1 X.2.1 dX8_none_13 rfl (lv_at hl 0 rfl) ?_
    refine tw_get X hK w 8 iw_X8_none_8 h0 (by decide) rfl 0 (by decide) (List.mem_of_getElem? (i := 2) rfl) rfl dX8_none_14 ?_
    refine lv_iload_n X.1 X.2.1 dX8_none_17 rfl (lv_at hl 1 rfl) ?_
    refine tw_cr w (va_runV (As := [.int x1]) (rest := []) X (ct_X0_at l D g hT _ σ1 (tw_R g a0 0) (tw_t_8_0 hT h0) x1 _ h) (cwV 1 X.2.2.2.2 gX8_none_X0_at rfl rfl rfl (by decide +kernel) ⟨Nat.le_of_ble_eq_true rfl, Nat.le_of_ble_eq_true rfl⟩) (tw_preV hK w (tw_t_8_0 hT h0) (by decide) rfl [.int x1]) rfl rfl hl.1 rfl (lv_room (Nat.le_of_ble_eq_true rfl)) dX8_none_18 ⟨Nat.zero_le _, Nat.zero_le _⟩) (fun y5 σ4 H locs hy5 h w => ?_)
    refine lv_iload_n X.1 X.2.1 dX8_none_21 rfl (lv_at hl 2 rfl) ?_
    refine lv_iload_n X.1 X.2.1 dX8_none_22 rfl (lv_at hl 3 rfl) ?_
    refine tw_ci w (va_runV (As := [.int x2, .int x3]) (rest := []) X (ct_X3_at l D g hT _ σ4 y5 hy5 x2 x3 _ h) (cwV 2 X.2.2.2.2 gX8_none_X3_at rfl rfl rfl (by decide +kernel) ⟨Nat.le_of_ble_eq_true rfl, Nat.le_of_ble_eq_true rfl⟩) (tw_preV hK w hy5 (by decide) rfl [.int x2, .int x3]) rfl rfl hl.1 rfl (lv_room (Nat.le_of_ble_eq_true rfl)) dX8_none_23 ⟨Nat.zero_le _, Nat.zero_le _⟩) (fun r7 σ6 H locs h w => ?_)
    refine lv_iconst (v := -1) X.1 X.2.1 dX8_none_26 (by decide) ?_
    refine lv_icmp_ne (tgt := 33) X.1 X.2.1 dX8_none_27 (by decide) (fun c8 => ?_) (fun c8 => ?_)
    · have h := h.1 c8
      refine lv_aload_n X.1 X.2.1 dX8_none_33 rfl (lv_at hl 0 rfl) ?_
      refine lv_aload_n X.1 X.2.1 dX8_none_34 rfl (lv_at hl 0 rfl) ?_
      refine tw_get X hK w 8 iw_X8_none_8 h0 (by decide) rfl 0 (by decide) (List.mem_of_getElem? (i := 2) rfl) rfl dX8_none_35 ?_
      refine lv_iload_n X.1 X.2.1 dX8_none_38 rfl (lv_at hl 1 rfl) ?_
      refine tw_cr w (va_runV (As := [.int x1]) (rest := [.ref a0]) X (ct_X0_at l D g hT _ σ6 (tw_R g a0 0) (tw_t_8_0 hT h0) x1 _ h) (cwV 1 X.2.2.2.2 gX8_none_X0_at rfl rfl rfl (by decide +kernel) ⟨Nat.le_of_ble_eq_true rfl, Nat.le_of_ble_eq_true rfl⟩) (tw_preV hK w (tw_t_8_0 hT h0) (by decide) rfl [.int x1]) rfl rfl hl.1 rfl (lv_room (Nat.le_of_ble_eq_true rfl)) dX8_none_39 ⟨Nat.zero_le _, Nat.zero_le _⟩) (fun y10 σ9 H locs hy10 h w => ?_)
      refine lv_iload_n X.1 X.2.1 dX8_none_42 rfl (lv_at hl 2 rfl) ?_
      refine lv_iload_n X.1 X.2.1 dX8_none_43 rfl (lv_at hl 3 rfl) ?_
      refine lv_iconst (v := -1) X.1 X.2.1 dX8_none_44 (by decide) ?_
      refine tw_ci w (va_runV (As := [.ref y10, .int x2, .int x3, .int (-1 : Int32)]) (rest := []) X (ct_X8_change l D g hT _ σ9 a0 h0 y10 hy10 x2 x3 (-1 : Int32) _ h) (cwV 4 X.2.2.2.2 gX8_none_X8_change rfl rfl rfl (by decide +kernel) ⟨Nat.le_of_ble_eq_true rfl, Nat.le_of_ble_eq_true rfl⟩) (tw_preV hK w h0 (by decide) rfl [.ref y10, .int x2, .int x3, .int (-1 : Int32)]) rfl rfl hl.1 rfl (lv_room (Nat.le_of_ble_eq_true rfl)) dX8_none_45 ⟨Nat.zero_le _, Nat.zero_le _⟩) (fun r12 σ11 H locs h w => ?_)
      exact tw_iret X hr hlk w h dX8_none_48
    · have h := h.2 c8
      refine lv_ldc (own := RX8) (v := -1000000003) X.1 X.2.1 X.2.2.2.1 (X.2.2.2.2 _ (List.mem_of_getElem? (i := 3) rfl)) dX8_none_30 ?_
      exact tw_iret X hr hlk w h dX8_none_32
  · have h := h.2 c3
    refine lv_ldc (own := RX8) (v := -1000000001) X.1 X.2.1 X.2.2.2.1 (X.2.2.2.2 _ (List.mem_of_getElem? (i := 1) rfl)) dX8_none_10 ?_
    exact tw_iret X hr hlk w h dX8_none_12

abbrev RM_X8_states : Room := { frames := 4, cells := 0, slots := 0, locals := 90 }
theorem iw_X8_states_8 : ∀ w ∈ wsX80, w ∈ wsX8_states := fun w h => List.mem_cons_of_mem _ (List.mem_append_left _ (List.mem_append_left _ (List.mem_append_left _ (List.mem_append_right _ (h)))))
def wp_X8_states (g : tw_G) (σ : tw_S) (a0 : Nat) (x1 : Int32) (x2 : Int32) (Q : Int32 → tw_S → Prop) : Prop := wp_X8_isMachine g σ x1 (fun r2 σ1 => ((¬ r2 = 0) → ((x2 < (1 : Int32)) → Q (-1000000002 : Int32) σ1) ∧ (¬ (x2 < (1 : Int32)) → ((x2 ≤ (4 : Int32)) → wp_X2_remember g σ1 (tw_R g a0 1) (tw_R g a0 0) (fun σ6 => wp_X0_at g σ6 (tw_R g a0 0) x1 (fun y8 σ7 => wp_X3_size g σ7 y8 (fun r10 σ9 => wp_X0_at g σ9 (tw_R g a0 0) x1 (fun y12 σ11 => wp_X3_empty g σ11 y12 x2 (fun σ13 => Q r10 σ13)))))) ∧ (¬ (x2 ≤ (4 : Int32)) → Q (-1000000002 : Int32) σ1))) ∧ ((r2 = 0) → Q (-1000000001 : Int32) σ1))
set_option maxHeartbeats 4000000 in
set_option maxRecDepth 100000 in
theorem ct_X8_states (l : Launch) (D : va_G) (g : tw_G) (hT : tw_T g) (sz : Nat) (σ : tw_S) (a0 : Nat) (h0 : tw_is g 8 a0) (x1 : Int32) (x2 : Int32) (Q : Int32 → tw_S → Prop) (h : wp_X8_states g σ a0 x1 x2 Q) : tw_Mi l yX8_states wsX8_states RM_X8_states D g sz σ [.ref a0, .int x1, .int x2] Q := by
  refine Met.ofW (cc := cX8_states) (maxL := 4) (ret := (some .int)) (by decide) rfl ?_
  intro p e s m args below meth c s₁ B hml hv
  obtain ⟨rfl, hsz, hP, hK, hD0⟩ := hv
  subst hsz
  have hr := B.returns
  have hlk := B.notSynchronized
  have X : CallFix p m c cX8_states 4 s _ wsX8_states RX8 := ⟨B.exec, B.bytes, hml, findClass_of_methodNamed B.named, atoms_spec (ws := wsX8_states) B.pre⟩
  have w := tw_w0 hP hD0
  have hl := lv_entry ([.ref a0, .int x1, .int x2]) (n := 4) (Nat.le_of_ble_eq_true rfl)
  rw [lg_entry_eq]
  generalize (lg_sl ([.ref a0, .int x1, .int x2]) ++ List.replicate (4 - (lg_sl ([.ref a0, .int x1, .int x2])).length) Slot.unset).toArray = ls at hl ⊢
  have hl : lv_has ls 4 [(0, .ref a0), (1, .int x1), (2, .int x2)] := hl
  unfold wp_X8_states at h
  refine lv_iload_n X.1 X.2.1 dX8_states_0 rfl (lv_at hl 1 rfl) ?_
  refine tw_ci w (va_runS (As := [.int x1]) (rest := []) X (ct_X8_isMachine l D g hT _ σ x1 _ h) (va_cwS 1 X.2.2.2.2 gX8_states_X8_isMachine rfl rfl rfl (by decide +kernel) ⟨Nat.le_of_ble_eq_true rfl, Nat.le_of_ble_eq_true rfl⟩) (tw_pre hK w [.int x1]) rfl rfl hl.1 rfl (lv_room (Nat.le_of_ble_eq_true rfl)) dX8_states_1 ⟨Nat.zero_le _, Nat.zero_le _⟩) (fun r2 σ1 H locs h w => ?_)
  refine lv_if_ne (tgt := 10) X.1 X.2.1 dX8_states_4 (by decide) (fun c3 => ?_) (fun c3 => ?_)
  · have h := h.1 c3
    refine lv_iload_n X.1 X.2.1 dX8_states_10 rfl (lv_at hl 2 rfl) ?_
    refine lv_iconst (v := 1) X.1 X.2.1 dX8_states_11 (by decide) ?_
    refine lv_icmp_lt (tgt := 20) X.1 X.2.1 dX8_states_12 (by decide) (fun c4 => ?_) (fun c4 => ?_)
    · have h := h.1 c4
      refine lv_ldc (own := RX8) (v := -1000000002) X.1 X.2.1 X.2.2.2.1 (X.2.2.2.2 _ (List.mem_of_getElem? (i := 2) rfl)) dX8_states_20 ?_
      exact tw_iret X hr hlk w h dX8_states_22
    · have h := h.2 c4
      refine lv_iload_n X.1 X.2.1 dX8_states_15 rfl (lv_at hl 2 rfl) ?_
      refine lv_iconst (v := 4) X.1 X.2.1 dX8_states_16 (by decide) ?_
      refine lv_icmp_le (tgt := 23) X.1 X.2.1 dX8_states_17 (by decide) (fun c5 => ?_) (fun c5 => ?_)
      · have h := h.1 c5
        refine lv_aload_n X.1 X.2.1 dX8_states_23 rfl (lv_at hl 0 rfl) ?_
        refine tw_get X hK w 8 iw_X8_states_8 h0 (by decide) rfl 1 (by decide) (List.mem_of_getElem? (i := 3) rfl) rfl dX8_states_24 ?_
        refine lv_aload_n X.1 X.2.1 dX8_states_27 rfl (lv_at hl 0 rfl) ?_
        refine tw_get X hK w 8 iw_X8_states_8 h0 (by decide) rfl 0 (by decide) (List.mem_of_getElem? (i := 4) rfl) rfl dX8_states_28 ?_
        refine tw_cv w (va_runV (As := [.ref (tw_R g a0 0)]) (rest := []) X (ct_X2_remember l D g hT _ σ1 (tw_R g a0 1) (tw_t_8_1 hT h0) (tw_R g a0 0) (tw_t_8_0 hT h0) _ h) (cwV 1 X.2.2.2.2 gX8_states_X2_remember rfl rfl rfl (by decide +kernel) ⟨Nat.le_of_ble_eq_true rfl, Nat.le_of_ble_eq_true rfl⟩) (tw_preV hK w (tw_t_8_1 hT h0) (by decide) rfl [.ref (tw_R g a0 0)]) rfl rfl hl.1 rfl (lv_room (Nat.le_of_ble_eq_true rfl)) dX8_states_31 ⟨Nat.zero_le _, Nat.zero_le _⟩) (fun σ6 H locs h w => ?_)
        refine lv_aload_n X.1 X.2.1 dX8_states_34 rfl (lv_at hl 0 rfl) ?_
        refine tw_get X hK w 8 iw_X8_states_8 h0 (by decide) rfl 0 (by decide) (List.mem_of_getElem? (i := 4) rfl) rfl dX8_states_35 ?_
        refine lv_iload_n X.1 X.2.1 dX8_states_38 rfl (lv_at hl 1 rfl) ?_
        refine tw_cr w (va_runV (As := [.int x1]) (rest := []) X (ct_X0_at l D g hT _ σ6 (tw_R g a0 0) (tw_t_8_0 hT h0) x1 _ h) (cwV 1 X.2.2.2.2 gX8_states_X0_at rfl rfl rfl (by decide +kernel) ⟨Nat.le_of_ble_eq_true rfl, Nat.le_of_ble_eq_true rfl⟩) (tw_preV hK w (tw_t_8_0 hT h0) (by decide) rfl [.int x1]) rfl rfl hl.1 rfl (lv_room (Nat.le_of_ble_eq_true rfl)) dX8_states_39 ⟨Nat.zero_le _, Nat.zero_le _⟩) (fun y8 σ7 H locs hy8 h w => ?_)
        refine tw_ci w (va_runV (As := []) (rest := []) X (ct_X3_size l D g hT _ σ7 y8 hy8 _ h) (cwV 0 X.2.2.2.2 gX8_states_X3_size rfl rfl rfl (by decide +kernel) ⟨Nat.le_of_ble_eq_true rfl, Nat.le_of_ble_eq_true rfl⟩) (tw_preV hK w hy8 (by decide) rfl []) rfl rfl hl.1 rfl (lv_room (Nat.le_of_ble_eq_true rfl)) dX8_states_42 ⟨Nat.zero_le _, Nat.zero_le _⟩) (fun r10 σ9 H locs h w => ?_)
        refine lv_istore_n (lv' := [(3, .int r10), (0, .ref a0), (1, .int x1), (2, .int x2)]) X.1 X.2.1 dX8_states_45 rfl hl (by decide) rfl (fun ls hl => ?_)
        refine lv_aload_n X.1 X.2.1 dX8_states_46 rfl (lv_at hl 1 rfl) ?_
        refine tw_get X hK w 8 iw_X8_states_8 h0 (by decide) rfl 0 (by decide) (List.mem_of_getElem? (i := 4) rfl) rfl dX8_states_47 ?_
        refine lv_iload_n X.1 X.2.1 dX8_states_50 rfl (lv_at hl 2 rfl) ?_
        refine tw_cr w (va_runV (As := [.int x1]) (rest := []) X (ct_X0_at l D g hT _ σ9 (tw_R g a0 0) (tw_t_8_0 hT h0) x1 _ h) (cwV 1 X.2.2.2.2 gX8_states_X0_at rfl rfl rfl (by decide +kernel) ⟨Nat.le_of_ble_eq_true rfl, Nat.le_of_ble_eq_true rfl⟩) (tw_preV hK w (tw_t_8_0 hT h0) (by decide) rfl [.int x1]) rfl rfl hl.1 rfl (lv_room (Nat.le_of_ble_eq_true rfl)) dX8_states_51 ⟨Nat.zero_le _, Nat.zero_le _⟩) (fun y12 σ11 H locs hy12 h w => ?_)
        refine lv_iload_n X.1 X.2.1 dX8_states_54 rfl (lv_at hl 3 rfl) ?_
        refine tw_cv w (va_runV (As := [.int x2]) (rest := []) X (ct_X3_empty l D g hT _ σ11 y12 hy12 x2 _ h) (cwV 1 X.2.2.2.2 gX8_states_X3_empty rfl rfl rfl (by decide +kernel) ⟨Nat.le_of_ble_eq_true rfl, Nat.le_of_ble_eq_true rfl⟩) (tw_preV hK w hy12 (by decide) rfl [.int x2]) rfl rfl hl.1 rfl (lv_room (Nat.le_of_ble_eq_true rfl)) dX8_states_55 ⟨Nat.zero_le _, Nat.zero_le _⟩) (fun σ13 H locs h w => ?_)
        refine lv_iload_n X.1 X.2.1 dX8_states_58 rfl (lv_at hl 0 rfl) ?_
        exact tw_iret X hr hlk w h dX8_states_59
      · have h := h.2 c5
        refine lv_ldc (own := RX8) (v := -1000000002) X.1 X.2.1 X.2.2.2.1 (X.2.2.2.2 _ (List.mem_of_getElem? (i := 2) rfl)) dX8_states_20 ?_
        exact tw_iret X hr hlk w h dX8_states_22
  · have h := h.2 c3
    refine lv_ldc (own := RX8) (v := -1000000001) X.1 X.2.1 X.2.2.2.1 (X.2.2.2.2 _ (List.mem_of_getElem? (i := 1) rfl)) dX8_states_7 ?_
    exact tw_iret X hr hlk w h dX8_states_9

abbrev RM_X8_drift : Room := { frames := 4, cells := 0, slots := 0, locals := 90 }
theorem iw_X8_drift_8 : ∀ w ∈ wsX80, w ∈ wsX8_drift := fun w h => List.mem_cons_of_mem _ (List.mem_append_left _ (List.mem_append_left _ (List.mem_append_left _ (List.mem_append_right _ (h)))))
def wp_X8_drift (g : tw_G) (σ : tw_S) (a0 : Nat) (x1 : Int32) (x2 : Int32) (Q : Int32 → tw_S → Prop) : Prop := wp_X8_isMachine g σ x1 (fun r2 σ1 => ((¬ r2 = 0) → ((x2 < (1 : Int32)) → Q (-1000000002 : Int32) σ1) ∧ (¬ (x2 < (1 : Int32)) → ((x2 ≤ (999999 : Int32)) → wp_X2_remember g σ1 (tw_R g a0 1) (tw_R g a0 0) (fun σ6 => wp_X0_at g σ6 (tw_R g a0 0) x1 (fun y8 σ7 => wp_X3_drawLots g σ7 y8 x2 (fun σ9 => wp_X0_at g σ9 (tw_R g a0 0) x1 (fun y11 σ10 => wp_X3_countMoves g σ10 y11 (fun r13 σ12 => Q r13 σ12)))))) ∧ (¬ (x2 ≤ (999999 : Int32)) → Q (-1000000002 : Int32) σ1))) ∧ ((r2 = 0) → Q (-1000000001 : Int32) σ1))
set_option maxHeartbeats 4000000 in
set_option maxRecDepth 100000 in
theorem ct_X8_drift (l : Launch) (D : va_G) (g : tw_G) (hT : tw_T g) (sz : Nat) (σ : tw_S) (a0 : Nat) (h0 : tw_is g 8 a0) (x1 : Int32) (x2 : Int32) (Q : Int32 → tw_S → Prop) (h : wp_X8_drift g σ a0 x1 x2 Q) : tw_Mi l yX8_drift wsX8_drift RM_X8_drift D g sz σ [.ref a0, .int x1, .int x2] Q := by
  refine Met.ofW (cc := cX8_drift) (maxL := 3) (ret := (some .int)) (by decide) rfl ?_
  intro p e s m args below meth c s₁ B hml hv
  obtain ⟨rfl, hsz, hP, hK, hD0⟩ := hv
  subst hsz
  have hr := B.returns
  have hlk := B.notSynchronized
  have X : CallFix p m c cX8_drift 3 s _ wsX8_drift RX8 := ⟨B.exec, B.bytes, hml, findClass_of_methodNamed B.named, atoms_spec (ws := wsX8_drift) B.pre⟩
  have w := tw_w0 hP hD0
  have hl := lv_entry ([.ref a0, .int x1, .int x2]) (n := 3) (Nat.le_of_ble_eq_true rfl)
  rw [lg_entry_eq]
  generalize (lg_sl ([.ref a0, .int x1, .int x2]) ++ List.replicate (3 - (lg_sl ([.ref a0, .int x1, .int x2])).length) Slot.unset).toArray = ls at hl ⊢
  have hl : lv_has ls 3 [(0, .ref a0), (1, .int x1), (2, .int x2)] := hl
  unfold wp_X8_drift at h
  refine lv_iload_n X.1 X.2.1 dX8_drift_0 rfl (lv_at hl 1 rfl) ?_
  refine tw_ci w (va_runS (As := [.int x1]) (rest := []) X (ct_X8_isMachine l D g hT _ σ x1 _ h) (va_cwS 1 X.2.2.2.2 gX8_drift_X8_isMachine rfl rfl rfl (by decide +kernel) ⟨Nat.le_of_ble_eq_true rfl, Nat.le_of_ble_eq_true rfl⟩) (tw_pre hK w [.int x1]) rfl rfl hl.1 rfl (lv_room (Nat.le_of_ble_eq_true rfl)) dX8_drift_1 ⟨Nat.zero_le _, Nat.zero_le _⟩) (fun r2 σ1 H locs h w => ?_)
  refine lv_if_ne (tgt := 10) X.1 X.2.1 dX8_drift_4 (by decide) (fun c3 => ?_) (fun c3 => ?_)
  · have h := h.1 c3
    refine lv_iload_n X.1 X.2.1 dX8_drift_10 rfl (lv_at hl 2 rfl) ?_
    refine lv_iconst (v := 1) X.1 X.2.1 dX8_drift_11 (by decide) ?_
    refine lv_icmp_lt (tgt := 21) X.1 X.2.1 dX8_drift_12 (by decide) (fun c4 => ?_) (fun c4 => ?_)
    · have h := h.1 c4
      refine lv_ldc (own := RX8) (v := -1000000002) X.1 X.2.1 X.2.2.2.1 (X.2.2.2.2 _ (List.mem_of_getElem? (i := 3) rfl)) dX8_drift_21 ?_
      exact tw_iret X hr hlk w h dX8_drift_23
    · have h := h.2 c4
      refine lv_iload_n X.1 X.2.1 dX8_drift_15 rfl (lv_at hl 2 rfl) ?_
      refine lv_ldc (own := RX8) (v := 999999) X.1 X.2.1 X.2.2.2.1 (X.2.2.2.2 _ (List.mem_of_getElem? (i := 2) rfl)) dX8_drift_16 ?_
      refine lv_icmp_le (tgt := 24) X.1 X.2.1 dX8_drift_18 (by decide) (fun c5 => ?_) (fun c5 => ?_)
      · have h := h.1 c5
        refine lv_aload_n X.1 X.2.1 dX8_drift_24 rfl (lv_at hl 0 rfl) ?_
        refine tw_get X hK w 8 iw_X8_drift_8 h0 (by decide) rfl 1 (by decide) (List.mem_of_getElem? (i := 4) rfl) rfl dX8_drift_25 ?_
        refine lv_aload_n X.1 X.2.1 dX8_drift_28 rfl (lv_at hl 0 rfl) ?_
        refine tw_get X hK w 8 iw_X8_drift_8 h0 (by decide) rfl 0 (by decide) (List.mem_of_getElem? (i := 5) rfl) rfl dX8_drift_29 ?_
        refine tw_cv w (va_runV (As := [.ref (tw_R g a0 0)]) (rest := []) X (ct_X2_remember l D g hT _ σ1 (tw_R g a0 1) (tw_t_8_1 hT h0) (tw_R g a0 0) (tw_t_8_0 hT h0) _ h) (cwV 1 X.2.2.2.2 gX8_drift_X2_remember rfl rfl rfl (by decide +kernel) ⟨Nat.le_of_ble_eq_true rfl, Nat.le_of_ble_eq_true rfl⟩) (tw_preV hK w (tw_t_8_1 hT h0) (by decide) rfl [.ref (tw_R g a0 0)]) rfl rfl hl.1 rfl (lv_room (Nat.le_of_ble_eq_true rfl)) dX8_drift_32 ⟨Nat.zero_le _, Nat.zero_le _⟩) (fun σ6 H locs h w => ?_)
        refine lv_aload_n X.1 X.2.1 dX8_drift_35 rfl (lv_at hl 0 rfl) ?_
        refine tw_get X hK w 8 iw_X8_drift_8 h0 (by decide) rfl 0 (by decide) (List.mem_of_getElem? (i := 5) rfl) rfl dX8_drift_36 ?_
        refine lv_iload_n X.1 X.2.1 dX8_drift_39 rfl (lv_at hl 1 rfl) ?_
        refine tw_cr w (va_runV (As := [.int x1]) (rest := []) X (ct_X0_at l D g hT _ σ6 (tw_R g a0 0) (tw_t_8_0 hT h0) x1 _ h) (cwV 1 X.2.2.2.2 gX8_drift_X0_at rfl rfl rfl (by decide +kernel) ⟨Nat.le_of_ble_eq_true rfl, Nat.le_of_ble_eq_true rfl⟩) (tw_preV hK w (tw_t_8_0 hT h0) (by decide) rfl [.int x1]) rfl rfl hl.1 rfl (lv_room (Nat.le_of_ble_eq_true rfl)) dX8_drift_40 ⟨Nat.zero_le _, Nat.zero_le _⟩) (fun y8 σ7 H locs hy8 h w => ?_)
        refine lv_iload_n X.1 X.2.1 dX8_drift_43 rfl (lv_at hl 2 rfl) ?_
        refine tw_cv w (va_runV (As := [.int x2]) (rest := []) X (ct_X3_drawLots l D g hT _ σ7 y8 hy8 x2 _ h) (cwV 1 X.2.2.2.2 gX8_drift_X3_drawLots rfl rfl rfl (by decide +kernel) ⟨Nat.le_of_ble_eq_true rfl, Nat.le_of_ble_eq_true rfl⟩) (tw_preV hK w hy8 (by decide) rfl [.int x2]) rfl rfl hl.1 rfl (lv_room (Nat.le_of_ble_eq_true rfl)) dX8_drift_44 ⟨Nat.zero_le _, Nat.zero_le _⟩) (fun σ9 H locs h w => ?_)
        refine lv_aload_n X.1 X.2.1 dX8_drift_47 rfl (lv_at hl 0 rfl) ?_
        refine tw_get X hK w 8 iw_X8_drift_8 h0 (by decide) rfl 0 (by decide) (List.mem_of_getElem? (i := 5) rfl) rfl dX8_drift_48 ?_
        refine lv_iload_n X.1 X.2.1 dX8_drift_51 rfl (lv_at hl 1 rfl) ?_
        refine tw_cr w (va_runV (As := [.int x1]) (rest := []) X (ct_X0_at l D g hT _ σ9 (tw_R g a0 0) (tw_t_8_0 hT h0) x1 _ h) (cwV 1 X.2.2.2.2 gX8_drift_X0_at rfl rfl rfl (by decide +kernel) ⟨Nat.le_of_ble_eq_true rfl, Nat.le_of_ble_eq_true rfl⟩) (tw_preV hK w (tw_t_8_0 hT h0) (by decide) rfl [.int x1]) rfl rfl hl.1 rfl (lv_room (Nat.le_of_ble_eq_true rfl)) dX8_drift_52 ⟨Nat.zero_le _, Nat.zero_le _⟩) (fun y11 σ10 H locs hy11 h w => ?_)
        refine tw_ci w (va_runV (As := []) (rest := []) X (ct_X3_countMoves l D g hT _ σ10 y11 hy11 _ h) (cwV 0 X.2.2.2.2 gX8_drift_X3_countMoves rfl rfl rfl (by decide +kernel) ⟨Nat.le_of_ble_eq_true rfl, Nat.le_of_ble_eq_true rfl⟩) (tw_preV hK w hy11 (by decide) rfl []) rfl rfl hl.1 rfl (lv_room (Nat.le_of_ble_eq_true rfl)) dX8_drift_55 ⟨Nat.zero_le _, Nat.zero_le _⟩) (fun r13 σ12 H locs h w => ?_)
        exact tw_iret X hr hlk w h dX8_drift_58
      · have h := h.2 c5
        refine lv_ldc (own := RX8) (v := -1000000002) X.1 X.2.1 X.2.2.2.1 (X.2.2.2.2 _ (List.mem_of_getElem? (i := 3) rfl)) dX8_drift_21 ?_
        exact tw_iret X hr hlk w h dX8_drift_23
  · have h := h.2 c3
    refine lv_ldc (own := RX8) (v := -1000000001) X.1 X.2.1 X.2.2.2.1 (X.2.2.2.2 _ (List.mem_of_getElem? (i := 1) rfl)) dX8_drift_7 ?_
    exact tw_iret X hr hlk w h dX8_drift_9
