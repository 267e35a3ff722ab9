abbrev RM_X9_oftenOver : Room := { frames := 0, cells := 0, slots := 0, locals := 0 }
theorem iw_X9_oftenOver_9 : ∀ w ∈ wsX90, w ∈ wsX9_oftenOver := fun w h => List.mem_cons_of_mem _ (List.mem_append_right _ (h))
def wl_X9_oftenOver_4 (g : tw_G) (a0 : Nat) (x1 : Int32) (Q : Int32 → tw_S → Prop) (k36 : Int32 → tw_S → Prop) : Nat → Int32 → Int32 → tw_S → Prop
  | 0, _, _, _ => False
  | n + 1, x2, x3, σ => (((tw_I σ a0 19) ≤ x3) → k36 x2 σ) ∧ (¬ ((tw_I σ a0 19) ≤ x3) → vp_in x3 128 ∧ ((¬ (tw_A σ (tw_R g a0 17) x3.toNatClampNeg) = x1) → wl_X9_oftenOver_4 g a0 x1 Q k36 n (x2 + (0 : Int32)) (x3 + 1) σ) ∧ (((tw_A σ (tw_R g a0 17) x3.toNatClampNeg) = x1) → wl_X9_oftenOver_4 g a0 x1 Q k36 n (x2 + (1 : Int32)) (x3 + 1) σ))
def wp_X9_oftenOver (g : tw_G) (σ : tw_S) (a0 : Nat) (x1 : Int32) (Q : Int32 → tw_S → Prop) : Prop := ∃ n4, wl_X9_oftenOver_4 g a0 x1 Q (fun v4 σ5 => Q v4 σ5) n4 (0 : Int32) (0 : Int32) σ
set_option maxHeartbeats 4000000 in
set_option maxRecDepth 100000 in
theorem lp_X9_oftenOver_4 {p : Program} {l : Launch} {e : Env} {s : State} {m : MethodId} {args : Array Value} {below : List Frame} {meth : Method} {c : Code} {D : va_G} {g : tw_G} (X : CallFix p m c cX9_oftenOver 4 s args wsX9_oftenOver RX9) (hr : meth.sig.returnType = (some .int)) (hlk : meth.locks = false) (hK : tw_k D g s) (hT : tw_T g) {a0 : Nat} {x1 : Int32} (h0 : tw_is g 9 a0) {Q : Int32 → tw_S → Prop} {k36 : Int32 → tw_S → Prop}
    (hk36 : ∀ (x2 : Int32) (σ : tw_S) (H : Heap) (locs : List Loc) (ls : Array Slot), k36 x2 σ → tw_w D g (tw_F g s.heap.size) s σ H locs → lv_has ls 4 [(2, .int x2)] → W p l e RM_X9_oftenOver s m args below meth c H locs 0 0 (tw_Qi Q D g below args s) (F0 m 36 ls []))
    : ∀ (n : Nat) (x2 : Int32) (x3 : Int32) (σ : tw_S) (H : Heap) (locs : List Loc) (ls : Array Slot), wl_X9_oftenOver_4 g a0 x1 Q k36 n x2 x3 σ → tw_w D g (tw_F g s.heap.size) s σ H locs → lv_has ls 4 [(0, .ref a0), (1, .int x1), (2, .int x2), (3, .int x3)] → W p l e RM_X9_oftenOver s m args below meth c H locs 0 0 (tw_Qi Q D g below args s) (F0 m 4 ls []) := by
  intro n
  induction n with
  | zero =>
    intro x2 x3 σ H locs ls h w hl
    exact False.elim h
  | succ n ih =>
    intro x2 x3 σ H locs ls h w hl
    rw [wl_X9_oftenOver_4] at h
    refine lv_iload_n X.1 X.2.1 dX9_oftenOver_4 rfl (lv_at hl 3 rfl) ?_
    refine lv_aload_n X.1 X.2.1 dX9_oftenOver_5 rfl (lv_at hl 0 rfl) ?_
    refine tw_get X hK w 9 iw_X9_oftenOver_9 h0 (by decide) rfl 19 (by decide) (List.mem_of_getElem? (i := 1) rfl) rfl dX9_oftenOver_6 ?_
    refine lv_icmp_ge (tgt := 36) X.1 X.2.1 dX9_oftenOver_9 (by decide) (fun c1 => ?_) (fun c1 => ?_)
    · have h := h.1 c1
      exact hk36 x2 σ _ _ ls h w (lv_sub hl [2] rfl)
    · have h := h.2 c1
      refine lv_iload_n X.1 X.2.1 dX9_oftenOver_12 rfl (lv_at hl 2 rfl) ?_
      refine lv_aload_n X.1 X.2.1 dX9_oftenOver_13 rfl (lv_at hl 0 rfl) ?_
      refine tw_get X hK w 9 iw_X9_oftenOver_9 h0 (by decide) rfl 17 (by decide) (List.mem_of_getElem? (i := 2) rfl) rfl dX9_oftenOver_14 ?_
      refine lv_iload_n X.1 X.2.1 dX9_oftenOver_17 rfl (lv_at hl 3 rfl) ?_
      obtain ⟨hi2, h⟩ := h
      refine tw_iald X hK w (tw_t_9_17 hT h0) (tw_n_9_17 hT h0) hi2 dX9_oftenOver_18 ?_
      refine lv_iload_n X.1 X.2.1 dX9_oftenOver_19 rfl (lv_at hl 1 rfl) ?_
      refine lv_icmp_ne (tgt := 27) X.1 X.2.1 dX9_oftenOver_20 (by decide) (fun c3 => ?_) (fun c3 => ?_)
      · have h := h.1 c3
        refine lv_iconst (v := 0) X.1 X.2.1 dX9_oftenOver_27 (by decide) ?_
        refine lv_iadd X.1 X.2.1 dX9_oftenOver_28 ?_
        refine lv_istore_n (lv' := [(2, .int (x2 + (0 : Int32))), (0, .ref a0), (1, .int x1), (3, .int x3)]) X.1 X.2.1 dX9_oftenOver_29 rfl hl (by decide) rfl (fun ls hl => ?_)
        refine lv_iinc (v := (x3 + 1)) (lv' := [(3, .int (x3 + 1)), (2, .int (x2 + (0 : Int32))), (0, .ref a0), (1, .int x1)]) X.1 X.2.1 dX9_oftenOver_30 hl (k := 3) rfl rfl (by decide) rfl (fun ls hl => ?_)
        refine lv_goto (tgt := 4) X.1 X.2.1 dX9_oftenOver_33 (by decide) ?_
        exact ih (x2 + (0 : Int32)) (x3 + 1) σ _ _ ls h w (lv_sub hl [2, 3, 1, 0] rfl)
      · have h := h.2 c3
        refine lv_iconst (v := 1) X.1 X.2.1 dX9_oftenOver_23 (by decide) ?_
        refine lv_goto (tgt := 28) X.1 X.2.1 dX9_oftenOver_24 (by decide) ?_
        refine lv_iadd X.1 X.2.1 dX9_oftenOver_28 ?_
        refine lv_istore_n (lv' := [(2, .int (x2 + (1 : Int32))), (0, .ref a0), (1, .int x1), (3, .int x3)]) X.1 X.2.1 dX9_oftenOver_29 rfl hl (by decide) rfl (fun ls hl => ?_)
        refine lv_iinc (v := (x3 + 1)) (lv' := [(3, .int (x3 + 1)), (2, .int (x2 + (1 : Int32))), (0, .ref a0), (1, .int x1)]) X.1 X.2.1 dX9_oftenOver_30 hl (k := 3) rfl rfl (by decide) rfl (fun ls hl => ?_)
        refine lv_goto (tgt := 4) X.1 X.2.1 dX9_oftenOver_33 (by decide) ?_
        exact ih (x2 + (1 : Int32)) (x3 + 1) σ _ _ ls h w (lv_sub hl [2, 3, 1, 0] rfl)
set_option maxHeartbeats 4000000 in
set_option maxRecDepth 100000 in
theorem ct_X9_oftenOver (l : Launch) (D : va_G) (g : tw_G) (hT : tw_T g) (sz : Nat) (σ : tw_S) (a0 : Nat) (h0 : tw_is g 9 a0) (x1 : Int32) (Q : Int32 → tw_S → Prop) (h : wp_X9_oftenOver g σ a0 x1 Q) : tw_Mi l yX9_oftenOver wsX9_oftenOver RM_X9_oftenOver D g sz σ [.ref a0, .int x1] Q := by
  refine Met.ofW (cc := cX9_oftenOver) (maxL := 4) (ret := (some .int)) (by decide) rfl ?_
  intro p e s m args below meth c s₁ B hml hv
  obtain ⟨rfl, hsz, hP, hK, hD0⟩ := hv
  subst hsz
  have hr := B.returns
  have hlk := B.notSynchronized
  have X : CallFix p m c cX9_oftenOver 4 s _ wsX9_oftenOver RX9 := ⟨B.exec, B.bytes, hml, findClass_of_methodNamed B.named, atoms_spec (ws := wsX9_oftenOver) B.pre⟩
  have w := tw_w0 hP hD0
  have hl := lv_entry ([.ref a0, .int x1]) (n := 4) (Nat.le_of_ble_eq_true rfl)
  rw [lg_entry_eq]
  generalize (lg_sl ([.ref a0, .int x1]) ++ List.replicate (4 - (lg_sl ([.ref a0, .int x1])).length) Slot.unset).toArray = ls at hl ⊢
  have hl : lv_has ls 4 [(0, .ref a0), (1, .int x1)] := hl
  unfold wp_X9_oftenOver at h
  refine lv_iconst (v := 0) X.1 X.2.1 dX9_oftenOver_0 (by decide) ?_
  refine lv_istore_n (lv' := [(2, .int (0 : Int32)), (0, .ref a0), (1, .int x1)]) X.1 X.2.1 dX9_oftenOver_1 rfl hl (by decide) rfl (fun ls hl => ?_)
  refine lv_iconst (v := 0) X.1 X.2.1 dX9_oftenOver_2 (by decide) ?_
  refine lv_istore_n (lv' := [(3, .int (0 : Int32)), (2, .int (0 : Int32)), (0, .ref a0), (1, .int x1)]) X.1 X.2.1 dX9_oftenOver_3 rfl hl (by decide) rfl (fun ls hl => ?_)
  obtain ⟨n4, h⟩ := h
  refine lp_X9_oftenOver_4 X hr hlk hK hT h0 (fun v4 σ5 H locs ls h w hl => ?_) n4 (0 : Int32) (0 : Int32) σ _ _ ls h w (lv_sub hl [2, 3, 1, 0] rfl)
  · skip
    refine lv_iload_n X.1 X.2.1 dX9_oftenOver_36 rfl (lv_at hl 0 rfl) ?_
    exact tw_iret X hr hlk w h dX9_oftenOver_37

abbrev RM_X9_run : Room := { frames := 2, cells := 0, slots := 0, locals := 47 }
theorem iw_X9_run_9 : ∀ w ∈ wsX90, w ∈ wsX9_run := fun w h => List.mem_cons_of_mem _ (List.mem_append_right _ (h))
def wl_X9_run_41 (g : tw_G) (a0 : Nat) (x2 : Int32) (Q : Int32 → tw_S → Prop) (k109 : Int32 → Int32 → tw_S → Prop) : Nat → Int32 → Int32 → Int32 → Int32 → tw_S → Prop
  | 0, _, _, _, _, _ => False
  | n + 1, x3, x4, x5, x6, σ => (((tw_I σ a0 12) < x6) → k109 x3 x4 σ) ∧ (¬ ((tw_I σ a0 12) < x6) → wp_X9_oftenOver g σ a0 x6 (fun r10 σ9 => ((r10 ≤ 0) → ((r10 ≤ x5) → ((r10 ≤ x5) → wl_X9_run_41 g a0 x2 Q k109 n (x3 + (0 : Int32)) x4 x5 (x6 + 1) σ9) ∧ (¬ (r10 ≤ x5) → wl_X9_run_41 g a0 x2 Q k109 n (x3 + (0 : Int32)) x4 r10 (x6 + 1) σ9)) ∧ (¬ (r10 ≤ x5) → ((r10 ≤ x5) → wl_X9_run_41 g a0 x2 Q k109 n (x3 + (0 : Int32)) x6 x5 (x6 + 1) σ9) ∧ (¬ (r10 ≤ x5) → wl_X9_run_41 g a0 x2 Q k109 n (x3 + (0 : Int32)) x6 r10 (x6 + 1) σ9))) ∧ (¬ (r10 ≤ 0) → ((r10 ≤ x5) → ((r10 ≤ x5) → wl_X9_run_41 g a0 x2 Q k109 n (x3 + (1 : Int32)) x4 x5 (x6 + 1) σ9) ∧ (¬ (r10 ≤ x5) → wl_X9_run_41 g a0 x2 Q k109 n (x3 + (1 : Int32)) x4 r10 (x6 + 1) σ9)) ∧ (¬ (r10 ≤ x5) → ((r10 ≤ x5) → wl_X9_run_41 g a0 x2 Q k109 n (x3 + (1 : Int32)) x6 x5 (x6 + 1) σ9) ∧ (¬ (r10 ≤ x5) → wl_X9_run_41 g a0 x2 Q k109 n (x3 + (1 : Int32)) x6 r10 (x6 + 1) σ9)))))
def wp_X9_run (g : tw_G) (σ : tw_S) (a0 : Nat) (x1 : Int32) (x2 : Int32) (Q : Int32 → tw_S → Prop) : Prop := wp_X9_isMachine g σ x1 (fun r2 σ1 => ((¬ r2 = 0) → wp_X9_in g σ1 (x2.toInt64) (0 : Int64) (5 : Int64) (fun r5 σ4 => ((¬ r5 = 0) → wp_X9_runs g σ4 a0 x1 (fun σ7 => ∃ n41, wl_X9_run_41 g a0 x2 Q (fun v18 v19 σ20 => ((¬ x2 = 0) → ((¬ x2 = (1 : Int32)) → ((¬ x2 = (2 : Int32)) → ((¬ x2 = (3 : Int32)) → ((¬ x2 = (4 : Int32)) → Q v19 σ20) ∧ ((x2 = (4 : Int32)) → Q v18 σ20)) ∧ ((x2 = (3 : Int32)) → Q (tw_I σ20 a0 16) σ20)) ∧ ((x2 = (2 : Int32)) → Q (tw_I σ20 a0 15) σ20)) ∧ ((x2 = (1 : Int32)) → Q (tw_I σ20 a0 14) σ20)) ∧ ((x2 = 0) → ((¬ (tw_I σ20 a0 14) = 0) → Q (0 : Int32) σ20) ∧ (((tw_I σ20 a0 14) = 0) → Q (1 : Int32) σ20))) n41 (0 : Int32) (-1 : Int32) (0 : Int32) (0 : Int32) σ7)) ∧ ((r5 = 0) → Q (-1000000002 : Int32) σ4))) ∧ ((r2 = 0) → Q (-1000000001 : Int32) σ1))
set_option maxHeartbeats 4000000 in
set_option maxRecDepth 100000 in
theorem lp_X9_run_41 {p : Program} {l : Launch} {e : Env} {s : State} {m : MethodId} {args : Array Value} {below : List Frame} {meth : Method} {c : Code} {D : va_G} {g : tw_G} (X : CallFix p m c cX9_run 8 s args wsX9_run RX9) (hr : meth.sig.returnType = (some .int)) (hlk : meth.locks = false) (hK : tw_k D g s) (hT : tw_T g) {a0 : Nat} {x2 : Int32} (h0 : tw_is g 9 a0) {Q : Int32 → tw_S → Prop} {k109 : Int32 → Int32 → tw_S → Prop}
    (hk109 : ∀ (x3 : Int32) (x4 : Int32) (σ : tw_S) (H : Heap) (locs : List Loc) (ls : Array Slot), k109 x3 x4 σ → tw_w D g (tw_F g s.heap.size) s σ H locs → lv_has ls 8 [(0, .ref a0), (2, .int x2), (3, .int x3), (4, .int x4)] → W p l e RM_X9_run s m args below meth c H locs 0 0 (tw_Qi Q D g below args s) (F0 m 109 ls []))
    : ∀ (n : Nat) (x3 : Int32) (x4 : Int32) (x5 : Int32) (x6 : Int32) (σ : tw_S) (H : Heap) (locs : List Loc) (ls : Array Slot), wl_X9_run_41 g a0 x2 Q k109 n x3 x4 x5 x6 σ → tw_w D g (tw_F g s.heap.size) s σ H locs → lv_has ls 8 [(0, .ref a0), (2, .int x2), (3, .int x3), (4, .int x4), (5, .int x5), (6, .int x6)] → W p l e RM_X9_run s m args below meth c H locs 0 0 (tw_Qi Q D g below args s) (F0 m 41 ls []) := by
  intro n
  induction n with
  | zero =>
    intro x3 x4 x5 x6 σ H locs ls h w hl
    exact False.elim h
  | succ n ih =>
    intro x3 x4 x5 x6 σ H locs ls h w hl
    rw [wl_X9_run_41] at h
    refine lv_iload X.1 X.2.1 dX9_run_41 (lv_at hl 5 rfl) ?_
    refine lv_aload_n X.1 X.2.1 dX9_run_43 rfl (lv_at hl 0 rfl) ?_
    refine tw_get X hK w 9 iw_X9_run_9 h0 (by decide) rfl 12 (by decide) (List.mem_of_getElem? (i := 4) rfl) rfl dX9_run_44 ?_
    refine lv_icmp_gt (tgt := 109) X.1 X.2.1 dX9_run_47 (by decide) (fun c8 => ?_) (fun c8 => ?_)
    · have h := h.1 c8
      exact hk109 x3 x4 σ _ _ ls h w (lv_sub hl [0, 1, 2, 3] rfl)
    · have h := h.2 c8
      refine lv_aload_n X.1 X.2.1 dX9_run_50 rfl (lv_at hl 0 rfl) ?_
      refine lv_iload X.1 X.2.1 dX9_run_51 (lv_at hl 5 rfl) ?_
      refine tw_ci w (va_runV (As := [.int x6]) (rest := []) X (ct_X9_oftenOver l D g hT _ σ a0 h0 x6 _ h) (cwV 1 X.2.2.2.2 gX9_run_X9_oftenOver rfl rfl rfl (by decide +kernel) ⟨Nat.le_of_ble_eq_true rfl, Nat.le_of_ble_eq_true rfl⟩) (tw_preV hK w h0 (by decide) rfl [.int x6]) rfl rfl hl.1 rfl (lv_room (Nat.le_of_ble_eq_true rfl)) dX9_run_53 ⟨Nat.zero_le _, Nat.zero_le _⟩) (fun r10 σ9 H locs h w => ?_)
      refine lv_istore (lv' := [(7, .int r10), (0, .ref a0), (2, .int x2), (3, .int x3), (4, .int x4), (5, .int x5), (6, .int x6)]) X.1 X.2.1 dX9_run_56 hl (by decide) rfl (fun ls hl => ?_)
      refine lv_iload_n X.1 X.2.1 dX9_run_58 rfl (lv_at hl 3 rfl) ?_
      refine lv_iload X.1 X.2.1 dX9_run_59 (lv_at hl 0 rfl) ?_
      refine lv_if_le (tgt := 68) X.1 X.2.1 dX9_run_61 (by decide) (fun c11 => ?_) (fun c11 => ?_)
      · have h := h.1 c11
        refine lv_iconst (v := 0) X.1 X.2.1 dX9_run_68 (by decide) ?_
        refine lv_iadd X.1 X.2.1 dX9_run_69 ?_
        refine lv_istore_n (lv' := [(3, .int (x3 + (0 : Int32))), (7, .int r10), (0, .ref a0), (2, .int x2), (4, .int x4), (5, .int x5), (6, .int x6)]) X.1 X.2.1 dX9_run_70 rfl hl (by decide) rfl (fun ls hl => ?_)
        refine lv_iload X.1 X.2.1 dX9_run_71 (lv_at hl 1 rfl) ?_
        refine lv_iload X.1 X.2.1 dX9_run_73 (lv_at hl 5 rfl) ?_
        refine lv_icmp_le (tgt := 83) X.1 X.2.1 dX9_run_75 (by decide) (fun c12 => ?_) (fun c12 => ?_)
        · have h := h.1 c12
          refine lv_iload X.1 X.2.1 dX9_run_83 (lv_at hl 4 rfl) ?_
          refine lv_istore (lv' := [(4, .int x4), (3, .int (x3 + (0 : Int32))), (7, .int r10), (0, .ref a0), (2, .int x2), (5, .int x5), (6, .int x6)]) X.1 X.2.1 dX9_run_85 hl (by decide) rfl (fun ls hl => ?_)
          refine lv_iload X.1 X.2.1 dX9_run_87 (lv_at hl 2 rfl) ?_
          refine lv_iload X.1 X.2.1 dX9_run_89 (lv_at hl 5 rfl) ?_
          refine lv_icmp_le (tgt := 99) X.1 X.2.1 dX9_run_91 (by decide) (fun c13 => ?_) (fun c13 => ?_)
          · have h := h.1 c13
            refine lv_iload X.1 X.2.1 dX9_run_99 (lv_at hl 5 rfl) ?_
            refine lv_istore (lv' := [(5, .int x5), (4, .int x4), (3, .int (x3 + (0 : Int32))), (7, .int r10), (0, .ref a0), (2, .int x2), (6, .int x6)]) X.1 X.2.1 dX9_run_101 hl (by decide) rfl (fun ls hl => ?_)
            have hl := lv_sub (l' := [(5, .int x5), (4, .int x4), (3, .int (x3 + (0 : Int32))), (0, .ref a0), (2, .int x2), (6, .int x6)]) hl [0, 1, 2, 4, 5, 6] rfl
            refine lv_iinc (v := (x6 + 1)) (lv' := [(6, .int (x6 + 1)), (5, .int x5), (4, .int x4), (3, .int (x3 + (0 : Int32))), (0, .ref a0), (2, .int x2)]) X.1 X.2.1 dX9_run_103 hl (k := 5) rfl rfl (by decide) rfl (fun ls hl => ?_)
            refine lv_goto (tgt := 41) X.1 X.2.1 dX9_run_106 (by decide) ?_
            exact ih (x3 + (0 : Int32)) x4 x5 (x6 + 1) σ9 _ _ ls h w (lv_sub hl [4, 5, 3, 2, 1, 0] rfl)
          · have h := h.2 c13
            refine lv_iload X.1 X.2.1 dX9_run_94 (lv_at hl 2 rfl) ?_
            refine lv_goto (tgt := 101) X.1 X.2.1 dX9_run_96 (by decide) ?_
            refine lv_istore (lv' := [(5, .int r10), (4, .int x4), (3, .int (x3 + (0 : Int32))), (7, .int r10), (0, .ref a0), (2, .int x2), (6, .int x6)]) X.1 X.2.1 dX9_run_101 hl (by decide) rfl (fun ls hl => ?_)
            have hl := lv_sub (l' := [(5, .int r10), (4, .int x4), (3, .int (x3 + (0 : Int32))), (0, .ref a0), (2, .int x2), (6, .int x6)]) hl [0, 1, 2, 4, 5, 6] rfl
            refine lv_iinc (v := (x6 + 1)) (lv' := [(6, .int (x6 + 1)), (5, .int r10), (4, .int x4), (3, .int (x3 + (0 : Int32))), (0, .ref a0), (2, .int x2)]) X.1 X.2.1 dX9_run_103 hl (k := 5) rfl rfl (by decide) rfl (fun ls hl => ?_)
            refine lv_goto (tgt := 41) X.1 X.2.1 dX9_run_106 (by decide) ?_
            exact ih (x3 + (0 : Int32)) x4 r10 (x6 + 1) σ9 _ _ ls h w (lv_sub hl [4, 5, 3, 2, 1, 0] rfl)
        · have h := h.2 c12
          refine lv_iload X.1 X.2.1 dX9_run_78 (lv_at hl 6 rfl) ?_
          refine lv_goto (tgt := 85) X.1 X.2.1 dX9_run_80 (by decide) ?_
          refine lv_istore (lv' := [(4, .int x6), (3, .int (x3 + (0 : Int32))), (7, .int r10), (0, .ref a0), (2, .int x2), (5, .int x5), (6, .int x6)]) X.1 X.2.1 dX9_run_85 hl (by decide) rfl (fun ls hl => ?_)
          refine lv_iload X.1 X.2.1 dX9_run_87 (lv_at hl 2 rfl) ?_
          refine lv_iload X.1 X.2.1 dX9_run_89 (lv_at hl 5 rfl) ?_
          refine lv_icmp_le (tgt := 99) X.1 X.2.1 dX9_run_91 (by decide) (fun c14 => ?_) (fun c14 => ?_)
          · have h := h.1 c14
            refine lv_iload X.1 X.2.1 dX9_run_99 (lv_at hl 5 rfl) ?_
            refine lv_istore (lv' := [(5, .int x5), (4, .int x6), (3, .int (x3 + (0 : Int32))), (7, .int r10), (0, .ref a0), (2, .int x2), (6, .int x6)]) X.1 X.2.1 dX9_run_101 hl (by decide) rfl (fun ls hl => ?_)
            have hl := lv_sub (l' := [(5, .int x5), (4, .int x6), (3, .int (x3 + (0 : Int32))), (0, .ref a0), (2, .int x2), (6, .int x6)]) hl [0, 1, 2, 4, 5, 6] rfl
            refine lv_iinc (v := (x6 + 1)) (lv' := [(6, .int (x6 + 1)), (5, .int x5), (4, .int x6), (3, .int (x3 + (0 : Int32))), (0, .ref a0), (2, .int x2)]) X.1 X.2.1 dX9_run_103 hl (k := 5) rfl rfl (by decide) rfl (fun ls hl => ?_)
            refine lv_goto (tgt := 41) X.1 X.2.1 dX9_run_106 (by decide) ?_
            exact ih (x3 + (0 : Int32)) x6 x5 (x6 + 1) σ9 _ _ ls h w (lv_sub hl [4, 5, 3, 2, 1, 0] rfl)
          · have h := h.2 c14
            refine lv_iload X.1 X.2.1 dX9_run_94 (lv_at hl 2 rfl) ?_
            refine lv_goto (tgt := 101) X.1 X.2.1 dX9_run_96 (by decide) ?_
            refine lv_istore (lv' := [(5, .int r10), (4, .int x6), (3, .int (x3 + (0 : Int32))), (7, .int r10), (0, .ref a0), (2, .int x2), (6, .int x6)]) X.1 X.2.1 dX9_run_101 hl (by decide) rfl (fun ls hl => ?_)
            have hl := lv_sub (l' := [(5, .int r10), (4, .int x6), (3, .int (x3 + (0 : Int32))), (0, .ref a0), (2, .int x2), (6, .int x6)]) hl [0, 1, 2, 4, 5, 6] rfl
            refine lv_iinc (v := (x6 + 1)) (lv' := [(6, .int (x6 + 1)), (5, .int r10), (4, .int x6), (3, .int (x3 + (0 : Int32))), (0, .ref a0), (2, .int x2)]) X.1 X.2.1 dX9_run_103 hl (k := 5) rfl rfl (by decide) rfl (fun ls hl => ?_)
            refine lv_goto (tgt := 41) X.1 X.2.1 dX9_run_106 (by decide) ?_
            exact ih (x3 + (0 : Int32)) x6 r10 (x6 + 1) σ9 _ _ ls h w (lv_sub hl [4, 5, 3, 2, 1, 0] rfl)
      · have h := h.2 c11
        refine lv_iconst (v := 1) X.1 X.2.1 dX9_run_64 (by decide) ?_
        refine lv_goto (tgt := 69) X.1 X.2.1 dX9_run_65 (by decide) ?_
        refine lv_iadd X.1 X.2.1 dX9_run_69 ?_
        refine lv_istore_n (lv' := [(3, .int (x3 + (1 : Int32))), (7, .int r10), (0, .ref a0), (2, .int x2), (4, .int x4), (5, .int x5), (6, .int x6)]) X.1 X.2.1 dX9_run_70 rfl hl (by decide) rfl (fun ls hl => ?_)
        refine lv_iload X.1 X.2.1 dX9_run_71 (lv_at hl 1 rfl) ?_
        refine lv_iload X.1 X.2.1 dX9_run_73 (lv_at hl 5 rfl) ?_
        refine lv_icmp_le (tgt := 83) X.1 X.2.1 dX9_run_75 (by decide) (fun c15 => ?_) (fun c15 => ?_)
        · have h := h.1 c15
          refine lv_iload X.1 X.2.1 dX9_run_83 (lv_at hl 4 rfl) ?_
          refine lv_istore (lv' := [(4, .int x4), (3, .int (x3 + (1 : Int32))), (7, .int r10), (0, .ref a0), (2, .int x2), (5, .int x5), (6, .int x6)]) X.1 X.2.1 dX9_run_85 hl (by decide) rfl (fun ls hl => ?_)
          refine lv_iload X.1 X.2.1 dX9_run_87 (lv_at hl 2 rfl) ?_
          refine lv_iload X.1 X.2.1 dX9_run_89 (lv_at hl 5 rfl) ?_
          refine lv_icmp_le (tgt := 99) X.1 X.2.1 dX9_run_91 (by decide) (fun c16 => ?_) (fun c16 => ?_)
          · have h := h.1 c16
            refine lv_iload X.1 X.2.1 dX9_run_99 (lv_at hl 5 rfl) ?_
            refine lv_istore (lv' := [(5, .int x5), (4, .int x4), (3, .int (x3 + (1 : Int32))), (7, .int r10), (0, .ref a0), (2, .int x2), (6, .int x6)]) X.1 X.2.1 dX9_run_101 hl (by decide) rfl (fun ls hl => ?_)
            have hl := lv_sub (l' := [(5, .int x5), (4, .int x4), (3, .int (x3 + (1 : Int32))), (0, .ref a0), (2, .int x2), (6, .int x6)]) hl [0, 1, 2, 4, 5, 6] rfl
            refine lv_iinc (v := (x6 + 1)) (lv' := [(6, .int (x6 + 1)), (5, .int x5), (4, .int x4), (3, .int (x3 + (1 : Int32))), (0, .ref a0), (2, .int x2)]) X.1 X.2.1 dX9_run_103 hl (k := 5) rfl rfl (by decide) rfl (fun ls hl => ?_)
            refine lv_goto (tgt := 41) X.1 X.2.1 dX9_run_106 (by decide) ?_
            exact ih (x3 + (1 : Int32)) x4 x5 (x6 + 1) σ9 _ _ ls h w (lv_sub hl [4, 5, 3, 2, 1, 0] rfl)
          · have h := h.2 c16
            refine lv_iload X.1 X.2.1 dX9_run_94 (lv_at hl 2 rfl) ?_
            refine lv_goto (tgt := 101) X.1 X.2.1 dX9_run_96 (by decide) ?_
            refine lv_istore (lv' := [(5, .int r10), (4, .int x4), (3, .int (x3 + (1 : Int32))), (7, .int r10), (0, .ref a0), (2, .int x2), (6, .int x6)]) X.1 X.2.1 dX9_run_101 hl (by decide) rfl (fun ls hl => ?_)
            have hl := lv_sub (l' := [(5, .int r10), (4, .int x4), (3, .int (x3 + (1 : Int32))), (0, .ref a0), (2, .int x2), (6, .int x6)]) hl [0, 1, 2, 4, 5, 6] rfl
            refine lv_iinc (v := (x6 + 1)) (lv' := [(6, .int (x6 + 1)), (5, .int r10), (4, .int x4), (3, .int (x3 + (1 : Int32))), (0, .ref a0), (2, .int x2)]) X.1 X.2.1 dX9_run_103 hl (k := 5) rfl rfl (by decide) rfl (fun ls hl => ?_)
            refine lv_goto (tgt := 41) X.1 X.2.1 dX9_run_106 (by decide) ?_
            exact ih (x3 + (1 : Int32)) x4 r10 (x6 + 1) σ9 _ _ ls h w (lv_sub hl [4, 5, 3, 2, 1, 0] rfl)
        · have h := h.2 c15
          refine lv_iload X.1 X.2.1 dX9_run_78 (lv_at hl 6 rfl) ?_
          refine lv_goto (tgt := 85) X.1 X.2.1 dX9_run_80 (by decide) ?_
          refine lv_istore (lv' := [(4, .int x6), (3, .int (x3 + (1 : Int32))), (7, .int r10), (0, .ref a0), (2, .int x2), (5, .int x5), (6, .int x6)]) X.1 X.2.1 dX9_run_85 hl (by decide) rfl (fun ls hl => ?_)
          refine lv_iload X.1 X.2.1 dX9_run_87 (lv_at hl 2 rfl) ?_
          refine lv_iload X.1 X.2.1 dX9_run_89 (lv_at hl 5 rfl) ?_
          refine lv_icmp_le (tgt := 99) X.1 X.2.1 dX9_run_91 (by decide) (fun c17 => ?_) (fun c17 => ?_)
          · have h := h.1 c17
            refine lv_iload X.1 X.2.1 dX9_run_99 (lv_at hl 5 rfl) ?_
            refine lv_istore (lv' := [(5, .int x5), (4, .int x6), (3, .int (x3 + (1 : Int32))), (7, .int r10), (0, .ref a0), (2, .int x2), (6, .int x6)]) X.1 X.2.1 dX9_run_101 hl (by decide) rfl (fun ls hl => ?_)
            have hl := lv_sub (l' := [(5, .int x5), (4, .int x6), (3, .int (x3 + (1 : Int32))), (0, .ref a0), (2, .int x2), (6, .int x6)]) hl [0, 1, 2, 4, 5, 6] rfl
            refine lv_iinc (v := (x6 + 1)) (lv' := [(6, .int (x6 + 1)), (5, .int x5), (4, .int x6), (3, .int (x3 + (1 : Int32))), (0, .ref a0), (2, .int x2)]) X.1 X.2.1 dX9_run_103 hl (k := 5) rfl rfl (by decide) rfl (fun ls hl => ?_)
            refine lv_goto (tgt := 41) X.1 X.2.1 dX9_run_106 (by decide) ?_
            exact ih (x3 + (1 : Int32)) x6 x5 (x6 + 1) σ9 _ _ ls h w (lv_sub hl [4, 5, 3, 2, 1, 0] rfl)
          · have h := h.2 c17
            refine lv_iload X.1 X.2.1 dX9_run_94 (lv_at hl 2 rfl) ?_
            refine lv_goto (tgt := 101) X.1 X.2.1 dX9_run_96 (by decide) ?_
            refine lv_istore (lv' := [(5, .int r10), (4, .int x6), (3, .int (x3 + (1 : Int32))), (7, .int r10), (0, .ref a0), (2, .int x2), (6, .int x6)]) X.1 X.2.1 dX9_run_101 hl (by decide) rfl (fun ls hl => ?_)
            have hl := lv_sub (l' := [(5, .int r10), (4, .int x6), (3, .int (x3 + (1 : Int32))), (0, .ref a0), (2, .int x2), (6, .int x6)]) hl [0, 1, 2, 4, 5, 6] rfl
            refine lv_iinc (v := (x6 + 1)) (lv' := [(6, .int (x6 + 1)), (5, .int r10), (4, .int x6), (3, .int (x3 + (1 : Int32))), (0, .ref a0), (2, .int x2)]) X.1 X.2.1 dX9_run_103 hl (k := 5) rfl rfl (by decide) rfl (fun ls hl => ?_)
            refine lv_goto (tgt := 41) X.1 X.2.1 dX9_run_106 (by decide) ?_
            exact ih (x3 + (1 : Int32)) x6 r10 (x6 + 1) σ9 _ _ ls h w (lv_sub hl [4, 5, 3, 2, 1, 0] rfl)
set_option maxHeartbeats 4000000 in
set_option maxRecDepth 100000 in
theorem ct_X9_run (l : Launch) (D : va_G) (g : tw_G) (hT : tw_T g) (sz : Nat) (σ : tw_S) (a0 : Nat) (h0 : tw_is g 9 a0) (x1 : Int32) (x2 : Int32) (Q : Int32 → tw_S → Prop) (h : wp_X9_run g σ a0 x1 x2 Q) : tw_Mi l yX9_run wsX9_run RM_X9_run D g sz σ [.ref a0, .int x1, .int x2] Q := by
  refine Met.ofW (cc := cX9_run) (maxL := 8) (ret := (some .int)) (by decide) rfl ?_
  intro p e s m args below meth c s₁ B hml hv
  obtain ⟨rfl, hsz, hP, hK, hD0⟩ := hv
  subst hsz
  have hr := B.returns
  have hlk := B.notSynchronized
  have X : CallFix p m c cX9_run 8 s _ wsX9_run RX9 := ⟨B.exec, B.bytes, hml, findClass_of_methodNamed B.named, atoms_spec (ws := wsX9_run) B.pre⟩
  have w := tw_w0 hP hD0
  have hl := lv_entry ([.ref a0, .int x1, .int x2]) (n := 8) (Nat.le_of_ble_eq_true rfl)
  rw [lg_entry_eq]
  generalize (lg_sl ([.ref a0, .int x1, .int x2]) ++ List.replicate (8 - (lg_sl ([.ref a0, .int x1, .int x2])).length) Slot.unset).toArray = ls at hl ⊢
  have hl : lv_has ls 8 [(0, .ref a0), (1, .int x1), (2, .int x2)] := hl
  unfold wp_X9_run at h
  refine lv_iload_n X.1 X.2.1 dX9_run_0 rfl (lv_at hl 1 rfl) ?_
  refine tw_ci w (va_runS (As := [.int x1]) (rest := []) X (ct_X9_isMachine l D g hT _ σ x1 _ h) (va_cwS 1 X.2.2.2.2 gX9_run_X9_isMachine rfl rfl rfl (by decide +kernel) ⟨Nat.le_of_ble_eq_true rfl, Nat.le_of_ble_eq_true rfl⟩) (tw_pre hK w [.int x1]) rfl rfl hl.1 rfl (lv_room (Nat.le_of_ble_eq_true rfl)) dX9_run_1 ⟨Nat.zero_le _, Nat.zero_le _⟩) (fun r2 σ1 H locs h w => ?_)
  refine lv_if_ne (tgt := 10) X.1 X.2.1 dX9_run_4 (by decide) (fun c3 => ?_) (fun c3 => ?_)
  · have h := h.1 c3
    refine lv_iload_n X.1 X.2.1 dX9_run_10 rfl (lv_at hl 2 rfl) ?_
    refine lv_i2l (v := (x2.toInt64)) X.1 X.2.1 dX9_run_11 rfl ?_
    refine lv_lconst (v := 0) X.1 X.2.1 dX9_run_12 (by decide) ?_
    refine lv_ldc2 (own := RX9) (v := 5) X.1 X.2.1 X.2.2.2.1 (X.2.2.2.2 _ (List.mem_of_getElem? (i := 2) rfl)) dX9_run_13 ?_
    refine tw_ci w (va_runS (As := [.long (x2.toInt64), .long (0 : Int64), .long (5 : Int64)]) (rest := []) X (ct_X9_in l D g hT _ σ1 (x2.toInt64) (0 : Int64) (5 : Int64) _ h) (va_cwS 3 X.2.2.2.2 gX9_run_X9_in rfl rfl rfl (by decide +kernel) ⟨Nat.le_of_ble_eq_true rfl, Nat.le_of_ble_eq_true rfl⟩) (tw_pre hK w [.long (x2.toInt64), .long (0 : Int64), .long (5 : Int64)]) rfl rfl hl.1 rfl (lv_room (Nat.le_of_ble_eq_true rfl)) dX9_run_16 ⟨Nat.zero_le _, Nat.zero_le _⟩) (fun r5 σ4 H locs h w => ?_)
    refine lv_if_ne (tgt := 25) X.1 X.2.1 dX9_run_19 (by decide) (fun c6 => ?_) (fun c6 => ?_)
    · have h := h.1 c6
      refine lv_aload_n X.1 X.2.1 dX9_run_25 rfl (lv_at hl 0 rfl) ?_
      refine lv_iload_n X.1 X.2.1 dX9_run_26 rfl (lv_at hl 1 rfl) ?_
      refine tw_cv w (va_runV (As := [.int x1]) (rest := []) X (ct_X9_runs l D g hT _ σ4 a0 h0 x1 _ h) (cwV 1 X.2.2.2.2 gX9_run_X9_runs rfl rfl rfl (by decide +kernel) ⟨Nat.le_of_ble_eq_true rfl, Nat.le_of_ble_eq_true rfl⟩) (tw_preV hK w h0 (by decide) rfl [.int x1]) rfl rfl hl.1 rfl (lv_room (Nat.le_of_ble_eq_true rfl)) dX9_run_27 ⟨Nat.zero_le _, Nat.zero_le _⟩) (fun σ7 H locs h w => ?_)
      refine lv_iconst (v := 0) X.1 X.2.1 dX9_run_30 (by decide) ?_
      refine lv_istore_n (lv' := [(3, .int (0 : Int32)), (0, .ref a0), (1, .int x1), (2, .int x2)]) X.1 X.2.1 dX9_run_31 rfl hl (by decide) rfl (fun ls hl => ?_)
      have hl := lv_sub (l' := [(3, .int (0 : Int32)), (0, .ref a0), (2, .int x2)]) hl [0, 1, 3] rfl
      refine lv_iconst (v := -1) X.1 X.2.1 dX9_run_32 (by decide) ?_
      refine lv_istore (lv' := [(4, .int (-1 : Int32)), (3, .int (0 : Int32)), (0, .ref a0), (2, .int x2)]) X.1 X.2.1 dX9_run_33 hl (by decide) rfl (fun ls hl => ?_)
      refine lv_iconst (v := 0) X.1 X.2.1 dX9_run_35 (by decide) ?_
      refine lv_istore (lv' := [(5, .int (0 : Int32)), (4, .int (-1 : Int32)), (3, .int (0 : Int32)), (0, .ref a0), (2, .int x2)]) X.1 X.2.1 dX9_run_36 hl (by decide) rfl (fun ls hl => ?_)
      refine lv_iconst (v := 0) X.1 X.2.1 dX9_run_38 (by decide) ?_
      refine lv_istore (lv' := [(6, .int (0 : Int32)), (5, .int (0 : Int32)), (4, .int (-1 : Int32)), (3, .int (0 : Int32)), (0, .ref a0), (2, .int x2)]) X.1 X.2.1 dX9_run_39 hl (by decide) rfl (fun ls hl => ?_)
      obtain ⟨n41, h⟩ := h
      refine lp_X9_run_41 X hr hlk hK hT h0 (fun v18 v19 σ20 H locs ls h w hl => ?_) n41 (0 : Int32) (-1 : Int32) (0 : Int32) (0 : Int32) σ7 _ _ ls h w (lv_sub hl [4, 5, 3, 2, 1, 0] rfl)
      · skip
        refine lv_iload_n X.1 X.2.1 dX9_run_109 rfl (lv_at hl 1 rfl) ?_
        refine lv_if_ne (tgt := 128) X.1 X.2.1 dX9_run_110 (by decide) (fun c21 => ?_) (fun c21 => ?_)
        · have h := h.1 c21
          refine lv_iload_n X.1 X.2.1 dX9_run_128 rfl (lv_at hl 1 rfl) ?_
          refine lv_iconst (v := 1) X.1 X.2.1 dX9_run_129 (by decide) ?_
          refine lv_icmp_ne (tgt := 140) X.1 X.2.1 dX9_run_130 (by decide) (fun c22 => ?_) (fun c22 => ?_)
          · have h := h.1 c22
            refine lv_iload_n X.1 X.2.1 dX9_run_140 rfl (lv_at hl 1 rfl) ?_
            refine lv_iconst (v := 2) X.1 X.2.1 dX9_run_141 (by decide) ?_
            refine lv_icmp_ne (tgt := 152) X.1 X.2.1 dX9_run_142 (by decide) (fun c23 => ?_) (fun c23 => ?_)
            · have h := h.1 c23
              refine lv_iload_n X.1 X.2.1 dX9_run_152 rfl (lv_at hl 1 rfl) ?_
              refine lv_iconst (v := 3) X.1 X.2.1 dX9_run_153 (by decide) ?_
              refine lv_icmp_ne (tgt := 164) X.1 X.2.1 dX9_run_154 (by decide) (fun c24 => ?_) (fun c24 => ?_)
              · have h := h.1 c24
                refine lv_iload_n X.1 X.2.1 dX9_run_164 rfl (lv_at hl 1 rfl) ?_
                refine lv_iconst (v := 4) X.1 X.2.1 dX9_run_165 (by decide) ?_
                refine lv_icmp_ne (tgt := 173) X.1 X.2.1 dX9_run_166 (by decide) (fun c25 => ?_) (fun c25 => ?_)
                · have h := h.1 c25
                  refine lv_iload X.1 X.2.1 dX9_run_173 (lv_at hl 3 rfl) ?_
                  exact tw_iret X hr hlk w h dX9_run_175
                · have h := h.2 c25
                  refine lv_iload_n X.1 X.2.1 dX9_run_169 rfl (lv_at hl 2 rfl) ?_
                  refine lv_goto (tgt := 175) X.1 X.2.1 dX9_run_170 (by decide) ?_
                  exact tw_iret X hr hlk w h dX9_run_175
              · have h := h.2 c24
                refine lv_aload_n X.1 X.2.1 dX9_run_157 rfl (lv_at hl 0 rfl) ?_
                refine tw_get X hK w 9 iw_X9_run_9 h0 (by decide) rfl 16 (by decide) (List.mem_of_getElem? (i := 7) rfl) rfl dX9_run_158 ?_
                refine lv_goto (tgt := 175) X.1 X.2.1 dX9_run_161 (by decide) ?_
                exact tw_iret X hr hlk w h dX9_run_175
            · have h := h.2 c23
              refine lv_aload_n X.1 X.2.1 dX9_run_145 rfl (lv_at hl 0 rfl) ?_
              refine tw_get X hK w 9 iw_X9_run_9 h0 (by decide) rfl 15 (by decide) (List.mem_of_getElem? (i := 6) rfl) rfl dX9_run_146 ?_
              refine lv_goto (tgt := 175) X.1 X.2.1 dX9_run_149 (by decide) ?_
              exact tw_iret X hr hlk w h dX9_run_175
          · have h := h.2 c22
            refine lv_aload_n X.1 X.2.1 dX9_run_133 rfl (lv_at hl 0 rfl) ?_
            refine tw_get X hK w 9 iw_X9_run_9 h0 (by decide) rfl 14 (by decide) (List.mem_of_getElem? (i := 5) rfl) rfl dX9_run_134 ?_
            refine lv_goto (tgt := 175) X.1 X.2.1 dX9_run_137 (by decide) ?_
            exact tw_iret X hr hlk w h dX9_run_175
        · have h := h.2 c21
          refine lv_aload_n X.1 X.2.1 dX9_run_113 rfl (lv_at hl 0 rfl) ?_
          refine tw_get X hK w 9 iw_X9_run_9 h0 (by decide) rfl 14 (by decide) (List.mem_of_getElem? (i := 5) rfl) rfl dX9_run_114 ?_
          refine lv_if_ne (tgt := 124) X.1 X.2.1 dX9_run_117 (by decide) (fun c26 => ?_) (fun c26 => ?_)
          · have h := h.1 c26
            refine lv_iconst (v := 0) X.1 X.2.1 dX9_run_124 (by decide) ?_
            refine lv_goto (tgt := 175) X.1 X.2.1 dX9_run_125 (by decide) ?_
            exact tw_iret X hr hlk w h dX9_run_175
          · have h := h.2 c26
            refine lv_iconst (v := 1) X.1 X.2.1 dX9_run_120 (by decide) ?_
            refine lv_goto (tgt := 175) X.1 X.2.1 dX9_run_121 (by decide) ?_
            exact tw_iret X hr hlk w h dX9_run_175
    · have h := h.2 c6
      refine lv_ldc (own := RX9) (v := -1000000002) X.1 X.2.1 X.2.2.2.1 (X.2.2.2.2 _ (List.mem_of_getElem? (i := 3) rfl)) dX9_run_22 ?_
      exact tw_iret X hr hlk w h dX9_run_24
  · have h := h.2 c3
    refine lv_ldc (own := RX9) (v := -1000000001) X.1 X.2.1 X.2.2.2.1 (X.2.2.2.2 _ (List.mem_of_getElem? (i := 1) rfl)) dX9_run_7 ?_
    exact tw_iret X hr hlk w h dX9_run_9

abbrev RM_X9_crossed : Room := { frames := 2, cells := 0, slots := 0, locals := 47 }
theorem iw_X9_crossed_9 : ∀ w ∈ wsX90, w ∈ wsX9_crossed := fun w h => List.mem_cons_of_mem _ (List.mem_append_right _ (h))
def wl_X9_crossed_57 (g : tw_G) (a0 : Nat) (x2 : Int32) (x3 : Int32) (Q : Int32 → tw_S → Prop) (k124 : Int32 → tw_S → Prop) : Nat → Int32 → Int32 → Int32 → tw_S → Prop
  | 0, _, _, _, _ => False
  | n + 1, x4, x5, x6, σ => (((tw_I σ a0 19) ≤ x6) → k124 x4 σ) ∧ (¬ ((tw_I σ a0 19) ≤ x6) → vp_in x6 128 ∧ ((¬ (tw_A σ (tw_R g a0 17) x6.toNatClampNeg) = x2) → vp_in x6 128 ∧ ((¬ (tw_A σ (tw_R g a0 17) x6.toNatClampNeg) = x2) → wl_X9_crossed_57 g a0 x2 x3 Q k124 n x4 (x5 + (0 : Int32)) (x6 + 1) σ) ∧ (((tw_A σ (tw_R g a0 17) x6.toNatClampNeg) = x2) → wl_X9_crossed_57 g a0 x2 x3 Q k124 n x4 (x5 + (1 : Int32)) (x6 + 1) σ)) ∧ (((tw_A σ (tw_R g a0 17) x6.toNatClampNeg) = x2) → ((¬ x5 = x3) → vp_in x6 128 ∧ ((¬ (tw_A σ (tw_R g a0 17) x6.toNatClampNeg) = x2) → wl_X9_crossed_57 g a0 x2 x3 Q k124 n x4 (x5 + (0 : Int32)) (x6 + 1) σ) ∧ (((tw_A σ (tw_R g a0 17) x6.toNatClampNeg) = x2) → wl_X9_crossed_57 g a0 x2 x3 Q k124 n x4 (x5 + (1 : Int32)) (x6 + 1) σ)) ∧ ((x5 = x3) → vp_in x6 128 ∧ ∀ z19, z19 = (tw_A σ (tw_R g a0 18) x6.toNatClampNeg) → vp_in x6 128 ∧ ((¬ (tw_A σ (tw_R g a0 17) x6.toNatClampNeg) = x2) → wl_X9_crossed_57 g a0 x2 x3 Q k124 n z19 (x5 + (0 : Int32)) (x6 + 1) σ) ∧ (((tw_A σ (tw_R g a0 17) x6.toNatClampNeg) = x2) → wl_X9_crossed_57 g a0 x2 x3 Q k124 n z19 (x5 + (1 : Int32)) (x6 + 1) σ))))
def wp_X9_crossed (g : tw_G) (σ : tw_S) (a0 : Nat) (x1 : Int32) (x2 : Int32) (x3 : Int32) (Q : Int32 → tw_S → Prop) : Prop := wp_X9_isMachine g σ x1 (fun r2 σ1 => ((¬ r2 = 0) → wp_X9_in g σ1 (x2.toInt64) (0 : Int64) ((tw_I σ1 a0 12).toInt64) (fun r5 σ4 => ((r5 = 0) → Q (-1000000002 : Int32) σ4) ∧ (¬ (r5 = 0) → (((-1 : Int32) ≤ x3) → wp_X9_runs g σ4 a0 x1 (fun σ8 => ((¬ x3 = (-1 : Int32)) → ∃ n57, wl_X9_crossed_57 g a0 x2 x3 Q (fun v22 σ23 => Q v22 σ23) n57 (-1 : Int32) (0 : Int32) (0 : Int32) σ8) ∧ ((x3 = (-1 : Int32)) → wp_X9_oftenOver g σ8 a0 x2 (fun r25 σ24 => Q r25 σ24)))) ∧ (¬ ((-1 : Int32) ≤ x3) → Q (-1000000002 : Int32) σ4)))) ∧ ((r2 = 0) → Q (-1000000001 : Int32) σ1))
set_option maxHeartbeats 4000000 in
set_option maxRecDepth 100000 in
theorem lp_X9_crossed_57 {p : Program} {l : Launch} {e : Env} {s : State} {m : MethodId} {args : Array Value} {below : List Frame} {meth : Method} {c : Code} {D : va_G} {g : tw_G} (X : CallFix p m c cX9_crossed 7 s args wsX9_crossed RX9) (hr : meth.sig.returnType = (some .int)) (hlk : meth.locks = false) (hK : tw_k D g s) (hT : tw_T g) {a0 : Nat} {x2 : Int32} {x3 : Int32} (h0 : tw_is g 9 a0) {Q : Int32 → tw_S → Prop} {k124 : Int32 → tw_S → Prop}
    (hk124 : ∀ (x4 : Int32) (σ : tw_S) (H : Heap) (locs : List Loc) (ls : Array Slot), k124 x4 σ → tw_w D g (tw_F g s.heap.size) s σ H locs → lv_has ls 7 [(4, .int x4)] → W p l e RM_X9_crossed s m args below meth c H locs 0 0 (tw_Qi Q D g below args s) (F0 m 124 ls []))
    : ∀ (n : Nat) (x4 : Int32) (x5 : Int32) (x6 : Int32) (σ : tw_S) (H : Heap) (locs : List Loc) (ls : Array Slot), wl_X9_crossed_57 g a0 x2 x3 Q k124 n x4 x5 x6 σ → tw_w D g (tw_F g s.heap.size) s σ H locs → lv_has ls 7 [(0, .ref a0), (2, .int x2), (3, .int x3), (4, .int x4), (5, .int x5), (6, .int x6)] → W p l e RM_X9_crossed s m args below meth c H locs 0 0 (tw_Qi Q D g below args s) (F0 m 57 ls []) := by
  intro n
  induction n with
  | zero =>
    intro x4 x5 x6 σ H locs ls h w hl
    exact False.elim h
  | succ n ih =>
    intro x4 x5 x6 σ H locs ls h w hl
    rw [wl_X9_crossed_57] at h
    refine lv_iload X.1 X.2.1 dX9_crossed_57 (lv_at hl 5 rfl) ?_
    refine lv_aload_n X.1 X.2.1 dX9_crossed_59 rfl (lv_at hl 0 rfl) ?_
    refine tw_get X hK w 9 iw_X9_crossed_9 h0 (by decide) rfl 19 (by decide) (List.mem_of_getElem? (i := 4) rfl) rfl dX9_crossed_60 ?_
    refine lv_icmp_ge (tgt := 124) X.1 X.2.1 dX9_crossed_63 (by decide) (fun c10 => ?_) (fun c10 => ?_)
    · have h := h.1 c10
      exact hk124 x4 σ _ _ ls h w (lv_sub hl [3] rfl)
    · have h := h.2 c10
      refine lv_aload_n X.1 X.2.1 dX9_crossed_66 rfl (lv_at hl 0 rfl) ?_
      refine tw_get X hK w 9 iw_X9_crossed_9 h0 (by decide) rfl 17 (by decide) (List.mem_of_getElem? (i := 5) rfl) rfl dX9_crossed_67 ?_
      refine lv_iload X.1 X.2.1 dX9_crossed_70 (lv_at hl 5 rfl) ?_
      obtain ⟨hi11, h⟩ := h
      refine tw_iald X hK w (tw_t_9_17 hT h0) (tw_n_9_17 hT h0) hi11 dX9_crossed_72 ?_
      refine lv_iload_n X.1 X.2.1 dX9_crossed_73 rfl (lv_at hl 1 rfl) ?_
      refine lv_icmp_ne (tgt := 93) X.1 X.2.1 dX9_crossed_74 (by decide) (fun c12 => ?_) (fun c12 => ?_)
      · have h := h.1 c12
        refine lv_iload X.1 X.2.1 dX9_crossed_93 (lv_at hl 3 rfl) ?_
        refine lv_istore (lv' := [(4, .int x4), (0, .ref a0), (2, .int x2), (3, .int x3), (5, .int x5), (6, .int x6)]) X.1 X.2.1 dX9_crossed_95 hl (by decide) rfl (fun ls hl => ?_)
        refine lv_iload X.1 X.2.1 dX9_crossed_97 (lv_at hl 4 rfl) ?_
        refine lv_aload_n X.1 X.2.1 dX9_crossed_99 rfl (lv_at hl 1 rfl) ?_
        refine tw_get X hK w 9 iw_X9_crossed_9 h0 (by decide) rfl 17 (by decide) (List.mem_of_getElem? (i := 5) rfl) rfl dX9_crossed_100 ?_
        refine lv_iload X.1 X.2.1 dX9_crossed_103 (lv_at hl 5 rfl) ?_
        obtain ⟨hi13, h⟩ := h
        refine tw_iald X hK w (tw_t_9_17 hT h0) (tw_n_9_17 hT h0) hi13 dX9_crossed_105 ?_
        refine lv_iload_n X.1 X.2.1 dX9_crossed_106 rfl (lv_at hl 2 rfl) ?_
        refine lv_icmp_ne (tgt := 114) X.1 X.2.1 dX9_crossed_107 (by decide) (fun c14 => ?_) (fun c14 => ?_)
        · have h := h.1 c14
          refine lv_iconst (v := 0) X.1 X.2.1 dX9_crossed_114 (by decide) ?_
          refine lv_iadd X.1 X.2.1 dX9_crossed_115 ?_
          refine lv_istore (lv' := [(5, .int (x5 + (0 : Int32))), (4, .int x4), (0, .ref a0), (2, .int x2), (3, .int x3), (6, .int x6)]) X.1 X.2.1 dX9_crossed_116 hl (by decide) rfl (fun ls hl => ?_)
          refine lv_iinc (v := (x6 + 1)) (lv' := [(6, .int (x6 + 1)), (5, .int (x5 + (0 : Int32))), (4, .int x4), (0, .ref a0), (2, .int x2), (3, .int x3)]) X.1 X.2.1 dX9_crossed_118 hl (k := 5) rfl rfl (by decide) rfl (fun ls hl => ?_)
          refine lv_goto (tgt := 57) X.1 X.2.1 dX9_crossed_121 (by decide) ?_
          exact ih x4 (x5 + (0 : Int32)) (x6 + 1) σ _ _ ls h w (lv_sub hl [3, 4, 5, 2, 1, 0] rfl)
        · have h := h.2 c14
          refine lv_iconst (v := 1) X.1 X.2.1 dX9_crossed_110 (by decide) ?_
          refine lv_goto (tgt := 115) X.1 X.2.1 dX9_crossed_111 (by decide) ?_
          refine lv_iadd X.1 X.2.1 dX9_crossed_115 ?_
          refine lv_istore (lv' := [(5, .int (x5 + (1 : Int32))), (4, .int x4), (0, .ref a0), (2, .int x2), (3, .int x3), (6, .int x6)]) X.1 X.2.1 dX9_crossed_116 hl (by decide) rfl (fun ls hl => ?_)
          refine lv_iinc (v := (x6 + 1)) (lv' := [(6, .int (x6 + 1)), (5, .int (x5 + (1 : Int32))), (4, .int x4), (0, .ref a0), (2, .int x2), (3, .int x3)]) X.1 X.2.1 dX9_crossed_118 hl (k := 5) rfl rfl (by decide) rfl (fun ls hl => ?_)
          refine lv_goto (tgt := 57) X.1 X.2.1 dX9_crossed_121 (by decide) ?_
          exact ih x4 (x5 + (1 : Int32)) (x6 + 1) σ _ _ ls h w (lv_sub hl [3, 4, 5, 2, 1, 0] rfl)
      · have h := h.2 c12
        refine lv_iload X.1 X.2.1 dX9_crossed_77 (lv_at hl 4 rfl) ?_
        refine lv_iload_n X.1 X.2.1 dX9_crossed_79 rfl (lv_at hl 2 rfl) ?_
        refine lv_icmp_ne (tgt := 93) X.1 X.2.1 dX9_crossed_80 (by decide) (fun c15 => ?_) (fun c15 => ?_)
        · have h := h.1 c15
          refine lv_iload X.1 X.2.1 dX9_crossed_93 (lv_at hl 3 rfl) ?_
          refine lv_istore (lv' := [(4, .int x4), (0, .ref a0), (2, .int x2), (3, .int x3), (5, .int x5), (6, .int x6)]) X.1 X.2.1 dX9_crossed_95 hl (by decide) rfl (fun ls hl => ?_)
          refine lv_iload X.1 X.2.1 dX9_crossed_97 (lv_at hl 4 rfl) ?_
          refine lv_aload_n X.1 X.2.1 dX9_crossed_99 rfl (lv_at hl 1 rfl) ?_
          refine tw_get X hK w 9 iw_X9_crossed_9 h0 (by decide) rfl 17 (by decide) (List.mem_of_getElem? (i := 5) rfl) rfl dX9_crossed_100 ?_
          refine lv_iload X.1 X.2.1 dX9_crossed_103 (lv_at hl 5 rfl) ?_
          obtain ⟨hi16, h⟩ := h
          refine tw_iald X hK w (tw_t_9_17 hT h0) (tw_n_9_17 hT h0) hi16 dX9_crossed_105 ?_
          refine lv_iload_n X.1 X.2.1 dX9_crossed_106 rfl (lv_at hl 2 rfl) ?_
          refine lv_icmp_ne (tgt := 114) X.1 X.2.1 dX9_crossed_107 (by decide) (fun c17 => ?_) (fun c17 => ?_)
          · have h := h.1 c17
            refine lv_iconst (v := 0) X.1 X.2.1 dX9_crossed_114 (by decide) ?_
            refine lv_iadd X.1 X.2.1 dX9_crossed_115 ?_
            refine lv_istore (lv' := [(5, .int (x5 + (0 : Int32))), (4, .int x4), (0, .ref a0), (2, .int x2), (3, .int x3), (6, .int x6)]) X.1 X.2.1 dX9_crossed_116 hl (by decide) rfl (fun ls hl => ?_)
            refine lv_iinc (v := (x6 + 1)) (lv' := [(6, .int (x6 + 1)), (5, .int (x5 + (0 : Int32))), (4, .int x4), (0, .ref a0), (2, .int x2), (3, .int x3)]) X.1 X.2.1 dX9_crossed_118 hl (k := 5) rfl rfl (by decide) rfl (fun ls hl => ?_)
            refine lv_goto (tgt := 57) X.1 X.2.1 dX9_crossed_121 (by decide) ?_
            exact ih x4 (x5 + (0 : Int32)) (x6 + 1) σ _ _ ls h w (lv_sub hl [3, 4, 5, 2, 1, 0] rfl)
          · have h := h.2 c17
            refine lv_iconst (v := 1) X.1 X.2.1 dX9_crossed_110 (by decide) ?_
            refine lv_goto (tgt := 115) X.1 X.2.1 dX9_crossed_111 (by decide) ?_
            refine lv_iadd X.1 X.2.1 dX9_crossed_115 ?_
            refine lv_istore (lv' := [(5, .int (x5 + (1 : Int32))), (4, .int x4), (0, .ref a0), (2, .int x2), (3, .int x3), (6, .int x6)]) X.1 X.2.1 dX9_crossed_116 hl (by decide) rfl (fun ls hl => ?_)
            refine lv_iinc (v := (x6 + 1)) (lv' := [(6, .int (x6 + 1)), (5, .int (x5 + (1 : Int32))), (4, .int x4), (0, .ref a0), (2, .int x2), (3, .int x3)]) X.1 X.2.1 dX9_crossed_118 hl (k := 5) rfl rfl (by decide) rfl (fun ls hl => ?_)
            refine lv_goto (tgt := 57) X.1 X.2.1 dX9_crossed_121 (by decide) ?_
            exact ih x4 (x5 + (1 : Int32)) (x6 + 1) σ _ _ ls h w (lv_sub hl [3, 4, 5, 2, 1, 0] rfl)
        · have h := h.2 c15
          refine lv_aload_n X.1 X.2.1 dX9_crossed_83 rfl (lv_at hl 0 rfl) ?_
          refine tw_get X hK w 9 iw_X9_crossed_9 h0 (by decide) rfl 18 (by decide) (List.mem_of_getElem? (i := 6) rfl) rfl dX9_crossed_84 ?_
          refine lv_iload X.1 X.2.1 dX9_crossed_87 (lv_at hl 5 rfl) ?_
          obtain ⟨hi18, h⟩ := h
          refine tw_iald X hK w (tw_t_9_18 hT h0) (tw_n_9_18 hT h0) hi18 dX9_crossed_89 ?_
          refine lv_goto (tgt := 95) X.1 X.2.1 dX9_crossed_90 (by decide) ?_
          refine lv_topi (fun z19 ez19 => ?_)
          have h := h _ ez19
          refine lv_istore (lv' := [(4, .int z19), (0, .ref a0), (2, .int x2), (3, .int x3), (5, .int x5), (6, .int x6)]) X.1 X.2.1 dX9_crossed_95 hl (by decide) rfl (fun ls hl => ?_)
          refine lv_iload X.1 X.2.1 dX9_crossed_97 (lv_at hl 4 rfl) ?_
          refine lv_aload_n X.1 X.2.1 dX9_crossed_99 rfl (lv_at hl 1 rfl) ?_
          refine tw_get X hK w 9 iw_X9_crossed_9 h0 (by decide) rfl 17 (by decide) (List.mem_of_getElem? (i := 5) rfl) rfl dX9_crossed_100 ?_
          refine lv_iload X.1 X.2.1 dX9_crossed_103 (lv_at hl 5 rfl) ?_
          obtain ⟨hi20, h⟩ := h
          refine tw_iald X hK w (tw_t_9_17 hT h0) (tw_n_9_17 hT h0) hi20 dX9_crossed_105 ?_
          refine lv_iload_n X.1 X.2.1 dX9_crossed_106 rfl (lv_at hl 2 rfl) ?_
          refine lv_icmp_ne (tgt := 114) X.1 X.2.1 dX9_crossed_107 (by decide) (fun c21 => ?_) (fun c21 => ?_)
          · have h := h.1 c21
            refine lv_iconst (v := 0) X.1 X.2.1 dX9_crossed_114 (by decide) ?_
            refine lv_iadd X.1 X.2.1 dX9_crossed_115 ?_
            refine lv_istore (lv' := [(5, .int (x5 + (0 : Int32))), (4, .int z19), (0, .ref a0), (2, .int x2), (3, .int x3), (6, .int x6)]) X.1 X.2.1 dX9_crossed_116 hl (by decide) rfl (fun ls hl => ?_)
            refine lv_iinc (v := (x6 + 1)) (lv' := [(6, .int (x6 + 1)), (5, .int (x5 + (0 : Int32))), (4, .int z19), (0, .ref a0), (2, .int x2), (3, .int x3)]) X.1 X.2.1 dX9_crossed_118 hl (k := 5) rfl rfl (by decide) rfl (fun ls hl => ?_)
            refine lv_goto (tgt := 57) X.1 X.2.1 dX9_crossed_121 (by decide) ?_
            exact ih z19 (x5 + (0 : Int32)) (x6 + 1) σ _ _ ls h w (lv_sub hl [3, 4, 5, 2, 1, 0] rfl)
          · have h := h.2 c21
            refine lv_iconst (v := 1) X.1 X.2.1 dX9_crossed_110 (by decide) ?_
            refine lv_goto (tgt := 115) X.1 X.2.1 dX9_crossed_111 (by decide) ?_
            refine lv_iadd X.1 X.2.1 dX9_crossed_115 ?_
            refine lv_istore (lv' := [(5, .int (x5 + (1 : Int32))), (4, .int z19), (0, .ref a0), (2, .int x2), (3, .int x3), (6, .int x6)]) X.1 X.2.1 dX9_crossed_116 hl (by decide) rfl (fun ls hl => ?_)
            refine lv_iinc (v := (x6 + 1)) (lv' := [(6, .int (x6 + 1)), (5, .int (x5 + (1 : Int32))), (4, .int z19), (0, .ref a0), (2, .int x2), (3, .int x3)]) X.1 X.2.1 dX9_crossed_118 hl (k := 5) rfl rfl (by decide) rfl (fun ls hl => ?_)
            refine lv_goto (tgt := 57) X.1 X.2.1 dX9_crossed_121 (by decide) ?_
            exact ih z19 (x5 + (1 : Int32)) (x6 + 1) σ _ _ ls h w (lv_sub hl [3, 4, 5, 2, 1, 0] rfl)
set_option maxHeartbeats 4000000 in
set_option maxRecDepth 100000 in
theorem ct_X9_crossed (l : Launch) (D : va_G) (g : tw_G) (hT : tw_T g) (sz : Nat) (σ : tw_S) (a0 : Nat) (h0 : tw_is g 9 a0) (x1 : Int32) (x2 : Int32) (x3 : Int32) (Q : Int32 → tw_S → Prop) (h : wp_X9_crossed g σ a0 x1 x2 x3 Q) : tw_Mi l yX9_crossed wsX9_crossed RM_X9_crossed D g sz σ [.ref a0, .int x1, .int x2, .int x3] Q := by
  refine Met.ofW (cc := cX9_crossed) (maxL := 7) (ret := (some .int)) (by decide) rfl ?_
  intro p e s m args below meth c s₁ B hml hv
  obtain ⟨rfl, hsz, hP, hK, hD0⟩ := hv
  subst hsz
  have hr := B.returns
  have hlk := B.notSynchronized
  have X : CallFix p m c cX9_crossed 7 s _ wsX9_crossed RX9 := ⟨B.exec, B.bytes, hml, findClass_of_methodNamed B.named, atoms_spec (ws := wsX9_crossed) B.pre⟩
  have w := tw_w0 hP hD0
  have hl := lv_entry ([.ref a0, .int x1, .int x2, .int x3]) (n := 7) (Nat.le_of_ble_eq_true rfl)
  rw [lg_entry_eq]
  generalize (lg_sl ([.ref a0, .int x1, .int x2, .int x3]) ++ List.replicate (7 - (lg_sl ([.ref a0, .int x1, .int x2, .int x3])).length) Slot.unset).toArray = ls at hl ⊢
  have hl : lv_has ls 7 [(0, .ref a0), (1, .int x1), (2, .int x2), (3, .int x3)] := hl
  unfold wp_X9_crossed at h
  refine lv_iload_n X.1 X.2.1 dX9_crossed_0 rfl (lv_at hl 1 rfl) ?_
  refine tw_ci w (va_runS (As := [.int x1]) (rest := []) X (ct_X9_isMachine l D g hT _ σ x1 _ h) (va_cwS 1 X.2.2.2.2 gX9_crossed_X9_isMachine rfl rfl rfl (by decide +kernel) ⟨Nat.le_of_ble_eq_true rfl, Nat.le_of_ble_eq_true rfl⟩) (tw_pre hK w [.int x1]) rfl rfl hl.1 rfl (lv_room (Nat.le_of_ble_eq_true rfl)) dX9_crossed_1 ⟨Nat.zero_le _, Nat.zero_le _⟩) (fun r2 σ1 H locs h w => ?_)
  refine lv_if_ne (tgt := 10) X.1 X.2.1 dX9_crossed_4 (by decide) (fun c3 => ?_) (fun c3 => ?_)
  · have h := h.1 c3
    refine lv_iload_n X.1 X.2.1 dX9_crossed_10 rfl (lv_at hl 2 rfl) ?_
    refine lv_i2l (v := (x2.toInt64)) X.1 X.2.1 dX9_crossed_11 rfl ?_
    refine lv_lconst (v := 0) X.1 X.2.1 dX9_crossed_12 (by decide) ?_
    refine lv_aload_n X.1 X.2.1 dX9_crossed_13 rfl (lv_at hl 0 rfl) ?_
    refine tw_get X hK w 9 iw_X9_crossed_9 h0 (by decide) rfl 12 (by decide) (List.mem_of_getElem? (i := 2) rfl) rfl dX9_crossed_14 ?_
    refine lv_i2l (v := ((tw_I σ1 a0 12).toInt64)) X.1 X.2.1 dX9_crossed_17 rfl ?_
    refine tw_ci w (va_runS (As := [.long (x2.toInt64), .long (0 : Int64), .long ((tw_I σ1 a0 12).toInt64)]) (rest := []) X (ct_X9_in l D g hT _ σ1 (x2.toInt64) (0 : Int64) ((tw_I σ1 a0 12).toInt64) _ h) (va_cwS 3 X.2.2.2.2 gX9_crossed_X9_in rfl rfl rfl (by decide +kernel) ⟨Nat.le_of_ble_eq_true rfl, Nat.le_of_ble_eq_true rfl⟩) (tw_pre hK w [.long (x2.toInt64), .long (0 : Int64), .long ((tw_I σ1 a0 12).toInt64)]) rfl rfl hl.1 rfl (lv_room (Nat.le_of_ble_eq_true rfl)) dX9_crossed_18 ⟨Nat.zero_le _, Nat.zero_le _⟩) (fun r5 σ4 H locs h w => ?_)
    refine lv_if_eq (tgt := 29) X.1 X.2.1 dX9_crossed_21 (by decide) (fun c6 => ?_) (fun c6 => ?_)
    · have h := h.1 c6
      refine lv_ldc (own := RX9) (v := -1000000002) X.1 X.2.1 X.2.2.2.1 (X.2.2.2.2 _ (List.mem_of_getElem? (i := 3) rfl)) dX9_crossed_29 ?_
      exact tw_iret X hr hlk w h dX9_crossed_31
    · have h := h.2 c6
      refine lv_iload_n X.1 X.2.1 dX9_crossed_24 rfl (lv_at hl 3 rfl) ?_
      refine lv_iconst (v := -1) X.1 X.2.1 dX9_crossed_25 (by decide) ?_
      refine lv_icmp_ge (tgt := 32) X.1 X.2.1 dX9_crossed_26 (by decide) (fun c7 => ?_) (fun c7 => ?_)
      · have h := h.1 c7
        refine lv_aload_n X.1 X.2.1 dX9_crossed_32 rfl (lv_at hl 0 rfl) ?_
        refine lv_iload_n X.1 X.2.1 dX9_crossed_33 rfl (lv_at hl 1 rfl) ?_
        refine tw_cv w (va_runV (As := [.int x1]) (rest := []) X (ct_X9_runs l D g hT _ σ4 a0 h0 x1 _ h) (cwV 1 X.2.2.2.2 gX9_crossed_X9_runs rfl rfl rfl (by decide +kernel) ⟨Nat.le_of_ble_eq_true rfl, Nat.le_of_ble_eq_true rfl⟩) (tw_preV hK w h0 (by decide) rfl [.int x1]) rfl rfl hl.1 rfl (lv_room (Nat.le_of_ble_eq_true rfl)) dX9_crossed_34 ⟨Nat.zero_le _, Nat.zero_le _⟩) (fun σ8 H locs h w => ?_)
        refine lv_iload_n X.1 X.2.1 dX9_crossed_37 rfl (lv_at hl 3 rfl) ?_
        refine lv_iconst (v := -1) X.1 X.2.1 dX9_crossed_38 (by decide) ?_
        refine lv_icmp_ne (tgt := 48) X.1 X.2.1 dX9_crossed_39 (by decide) (fun c9 => ?_) (fun c9 => ?_)
        · have h := h.1 c9
          refine lv_iconst (v := -1) X.1 X.2.1 dX9_crossed_48 (by decide) ?_
          refine lv_istore (lv' := [(4, .int (-1 : Int32)), (0, .ref a0), (1, .int x1), (2, .int x2), (3, .int x3)]) X.1 X.2.1 dX9_crossed_49 hl (by decide) rfl (fun ls hl => ?_)
          have hl := lv_sub (l' := [(4, .int (-1 : Int32)), (0, .ref a0), (2, .int x2), (3, .int x3)]) hl [0, 1, 3, 4] rfl
          refine lv_iconst (v := 0) X.1 X.2.1 dX9_crossed_51 (by decide) ?_
          refine lv_istore (lv' := [(5, .int (0 : Int32)), (4, .int (-1 : Int32)), (0, .ref a0), (2, .int x2), (3, .int x3)]) X.1 X.2.1 dX9_crossed_52 hl (by decide) rfl (fun ls hl => ?_)
          refine lv_iconst (v := 0) X.1 X.2.1 dX9_crossed_54 (by decide) ?_
          refine lv_istore (lv' := [(6, .int (0 : Int32)), (5, .int (0 : Int32)), (4, .int (-1 : Int32)), (0, .ref a0), (2, .int x2), (3, .int x3)]) X.1 X.2.1 dX9_crossed_55 hl (by decide) rfl (fun ls hl => ?_)
          obtain ⟨n57, h⟩ := h
          refine lp_X9_crossed_57 X hr hlk hK hT h0 (fun v22 σ23 H locs ls h w hl => ?_) n57 (-1 : Int32) (0 : Int32) (0 : Int32) σ8 _ _ ls h w (lv_sub hl [3, 4, 5, 2, 1, 0] rfl)
          · skip
            refine lv_iload X.1 X.2.1 dX9_crossed_124 (lv_at hl 0 rfl) ?_
            exact tw_iret X hr hlk w h dX9_crossed_126
        · have h := h.2 c9
          refine lv_aload_n X.1 X.2.1 dX9_crossed_42 rfl (lv_at hl 0 rfl) ?_
          refine lv_iload_n X.1 X.2.1 dX9_crossed_43 rfl (lv_at hl 2 rfl) ?_
          refine tw_ci w (va_runV (As := [.int x2]) (rest := []) X (ct_X9_oftenOver l D g hT _ σ8 a0 h0 x2 _ h) (cwV 1 X.2.2.2.2 gX9_crossed_X9_oftenOver rfl rfl rfl (by decide +kernel) ⟨Nat.le_of_ble_eq_true rfl, Nat.le_of_ble_eq_true rfl⟩) (tw_preV hK w h0 (by decide) rfl [.int x2]) rfl rfl hl.1 rfl (lv_room (Nat.le_of_ble_eq_true rfl)) dX9_crossed_44 ⟨Nat.zero_le _, Nat.zero_le _⟩) (fun r25 σ24 H locs h w => ?_)
          exact tw_iret X hr hlk w h dX9_crossed_47
      · have h := h.2 c7
        refine lv_ldc (own := RX9) (v := -1000000002) X.1 X.2.1 X.2.2.2.1 (X.2.2.2.2 _ (List.mem_of_getElem? (i := 3) rfl)) dX9_crossed_29 ?_
        exact tw_iret X hr hlk w h dX9_crossed_31
  · have h := h.2 c3
    refine lv_ldc (own := RX9) (v := -1000000001) X.1 X.2.1 X.2.2.2.1 (X.2.2.2.2 _ (List.mem_of_getElem? (i := 1) rfl)) dX9_crossed_7 ?_
    exact tw_iret X hr hlk w h dX9_crossed_9

abbrev RM_X9_goesOff : Room := { frames := 1, cells := 0, slots := 0, locals := 23 }
theorem iw_X9_goesOff_9 : ∀ w ∈ wsX90, w ∈ wsX9_goesOff := fun w h => List.mem_cons_of_mem _ (List.mem_append_right _ (h))
def wl_X9_goesOff_3 (g : tw_G) (a0 : Nat) (x1 : Int32) (x2 : Int32) (x3 : Int32) (x4 : Int32) (x5 : Int32) (Q : Int32 → tw_S → Prop) (k23 : tw_S → Prop) : Nat → Int32 → tw_S → Prop
  | 0, _, _ => False
  | n + 1, x6, σ => ((x3 ≤ x6) → k23  σ) ∧ (¬ (x3 ≤ x6) → vp_in x6 26 ∧ ∀ σ3, σ3 = (tw_sA σ (tw_R g a0 13) (upd (tw_A σ (tw_R g a0 13)) x6.toNatClampNeg (0 : Int32))) → wl_X9_goesOff_3 g a0 x1 x2 x3 x4 x5 Q k23 n (x6 + 1) σ3)
def wl_X9_goesOff_41 (g : tw_G) (a0 : Nat) (x1 : Int32) (x2 : Int32) (x3 : Int32) (Q : Int32 → tw_S → Prop) (k92 : tw_S → Prop) (k130 : Int32 → tw_S → Prop) (k136 : tw_S → Prop) : Nat → Int32 → Int32 → tw_S → Prop
  | 0, _, _, _ => False
  | n + 1, x6, x7, σ => vp_in x6 26 ∧ ((¬ (((tw_A σ (tw_R g a0 13) x6.toNatClampNeg) >>> (x7 &&& 31)) &&& (1 : Int32)) = 0) → k136  σ) ∧ (((((tw_A σ (tw_R g a0 13) x6.toNatClampNeg) >>> (x7 &&& 31)) &&& (1 : Int32)) = 0) → vp_in x6 26 ∧ vp_in x6 26 ∧ ∀ σ10, σ10 = (tw_sA σ (tw_R g a0 13) (upd (tw_A σ (tw_R g a0 13)) x6.toNatClampNeg ((tw_A σ (tw_R g a0 13) x6.toNatClampNeg) ||| ((1 : Int32) <<< (x7 &&& 31))))) → vp_in x6 24 ∧ wp_X9_moveAt g σ10 a0 x1 x7 (tw_A σ10 (tw_R g a0 11) x6.toNatClampNeg) (fun r13 σ12 => ((¬ r13 = (-1 : Int32)) → ((¬ (r13 - r13 / (2 : Int32) * (2 : Int32)) = (1 : Int32)) → (((x6 + (-1 : Int32)) < x2) → k130 r13 σ12) ∧ (¬ ((x6 + (-1 : Int32)) < x2) → (((x6 + (-1 : Int32)) < x3) → wl_X9_goesOff_41 g a0 x1 x2 x3 Q k92 k130 k136 n (x6 + (-1 : Int32)) (r13 / (2 : Int32)) σ12) ∧ (¬ ((x6 + (-1 : Int32)) < x3) → k130 r13 σ12))) ∧ (((r13 - r13 / (2 : Int32) * (2 : Int32)) = (1 : Int32)) → (((x6 + (1 : Int32)) < x2) → k130 r13 σ12) ∧ (¬ ((x6 + (1 : Int32)) < x2) → (((x6 + (1 : Int32)) < x3) → wl_X9_goesOff_41 g a0 x1 x2 x3 Q k92 k130 k136 n (x6 + (1 : Int32)) (r13 / (2 : Int32)) σ12) ∧ (¬ ((x6 + (1 : Int32)) < x3) → k130 r13 σ12)))) ∧ ((r13 = (-1 : Int32)) → k92  σ12)))
def wp_X9_goesOff (g : tw_G) (σ : tw_S) (a0 : Nat) (x1 : Int32) (x2 : Int32) (x3 : Int32) (x4 : Int32) (x5 : Int32) (Q : Int32 → tw_S → Prop) : Prop := ∃ n3, wl_X9_goesOff_3 g a0 x1 x2 x3 x4 x5 Q (fun σ4 => ((¬ x5 = 0) → ∃ n41, wl_X9_goesOff_41 g a0 x1 x2 x3 Q (fun σ20 => Q (-1 : Int32) σ20) (fun v21 σ22 => Q v21 σ22) (fun σ23 => Q (-1 : Int32) σ23) n41 (x3 - (1 : Int32)) x4 σ4) ∧ ((x5 = 0) → ∃ n41, wl_X9_goesOff_41 g a0 x1 x2 x3 Q (fun σ24 => Q (-1 : Int32) σ24) (fun v25 σ26 => Q v25 σ26) (fun σ27 => Q (-1 : Int32) σ27) n41 x2 x4 σ4)) n3 x2 σ
set_option maxHeartbeats 4000000 in
set_option maxRecDepth 100000 in
theorem lp_X9_goesOff_3 {p : Program} {l : Launch} {e : Env} {s : State} {m : MethodId} {args : Array Value} {below : List Frame} {meth : Method} {c : Code} {D : va_G} {g : tw_G} (X : CallFix p m c cX9_goesOff 9 s args wsX9_goesOff RX9) (hr : meth.sig.returnType = (some .int)) (hlk : meth.locks = false) (hK : tw_k D g s) (hT : tw_T g) {a0 : Nat} {x1 : Int32} {x2 : Int32} {x3 : Int32} {x4 : Int32} {x5 : Int32} (h0 : tw_is g 9 a0) {Q : Int32 → tw_S → Prop} {k23 : tw_S → Prop}
    (hk23 : ∀  (σ : tw_S) (H : Heap) (locs : List Loc) (ls : Array Slot), k23  σ → tw_w D g (tw_F g s.heap.size) s σ H locs → lv_has ls 9 [(0, .ref a0), (1, .int x1), (2, .int x2), (3, .int x3), (4, .int x4), (5, .int x5)] → W p l e RM_X9_goesOff s m args below meth c H locs 0 0 (tw_Qi Q D g below args s) (F0 m 23 ls []))
    : ∀ (n : Nat) (x6 : Int32) (σ : tw_S) (H : Heap) (locs : List Loc) (ls : Array Slot), wl_X9_goesOff_3 g a0 x1 x2 x3 x4 x5 Q k23 n x6 σ → tw_w D g (tw_F g s.heap.size) s σ H locs → lv_has ls 9 [(0, .ref a0), (1, .int x1), (2, .int x2), (3, .int x3), (4, .int x4), (5, .int x5), (6, .int x6)] → W p l e RM_X9_goesOff s m args below meth c H locs 0 0 (tw_Qi Q D g below args s) (F0 m 3 ls []) := by
  intro n
  induction n with
  | zero =>
    intro x6 σ H locs ls h w hl
    exact False.elim h
  | succ n ih =>
    intro x6 σ H locs ls h w hl
    rw [wl_X9_goesOff_3] at h
    refine lv_iload X.1 X.2.1 dX9_goesOff_3 (lv_at hl 6 rfl) ?_
    refine lv_iload_n X.1 X.2.1 dX9_goesOff_5 rfl (lv_at hl 3 rfl) ?_
    refine lv_icmp_ge (tgt := 23) X.1 X.2.1 dX9_goesOff_6 (by decide) (fun c1 => ?_) (fun c1 => ?_)
    · have h := h.1 c1
      exact hk23  σ _ _ ls h w (lv_sub hl [0, 1, 2, 3, 4, 5] rfl)
    · have h := h.2 c1
      refine lv_aload_n X.1 X.2.1 dX9_goesOff_9 rfl (lv_at hl 0 rfl) ?_
      refine tw_get X hK w 9 iw_X9_goesOff_9 h0 (by decide) rfl 13 (by decide) (List.mem_of_getElem? (i := 1) rfl) rfl dX9_goesOff_10 ?_
      refine lv_iload X.1 X.2.1 dX9_goesOff_13 (lv_at hl 6 rfl) ?_
      refine lv_iconst (v := 0) X.1 X.2.1 dX9_goesOff_15 (by decide) ?_
      obtain ⟨hi2, h⟩ := h
      refine tw_iast X hK w (tw_t_9_13 hT h0) (tw_n_9_13 hT h0) hi2 dX9_goesOff_16 (fun σ3 H locs eσ3 w => ?_)
      have h := h _ eσ3
      refine lv_iinc (v := (x6 + 1)) (lv' := [(6, .int (x6 + 1)), (0, .ref a0), (1, .int x1), (2, .int x2), (3, .int x3), (4, .int x4), (5, .int x5)]) X.1 X.2.1 dX9_goesOff_17 hl (k := 6) rfl rfl (by decide) rfl (fun ls hl => ?_)
      refine lv_goto (tgt := 3) X.1 X.2.1 dX9_goesOff_20 (by decide) ?_
      exact ih (x6 + 1) σ3 _ _ ls h w (lv_sub hl [1, 2, 3, 4, 5, 6, 0] rfl)
set_option maxHeartbeats 4000000 in
set_option maxRecDepth 100000 in
theorem lp_X9_goesOff_41 {p : Program} {l : Launch} {e : Env} {s : State} {m : MethodId} {args : Array Value} {below : List Frame} {meth : Method} {c : Code} {D : va_G} {g : tw_G} (X : CallFix p m c cX9_goesOff 9 s args wsX9_goesOff RX9) (hr : meth.sig.returnType = (some .int)) (hlk : meth.locks = false) (hK : tw_k D g s) (hT : tw_T g) {a0 : Nat} {x1 : Int32} {x2 : Int32} {x3 : Int32} (h0 : tw_is g 9 a0) {Q : Int32 → tw_S → Prop} {k92 : tw_S → Prop} {k130 : Int32 → tw_S → Prop} {k136 : tw_S → Prop}
    (hk92 : ∀  (σ : tw_S) (H : Heap) (locs : List Loc) (ls : Array Slot), k92  σ → tw_w D g (tw_F g s.heap.size) s σ H locs → lv_has ls 9 [] → W p l e RM_X9_goesOff s m args below meth c H locs 0 0 (tw_Qi Q D g below args s) (F0 m 92 ls []))
    (hk130 : ∀ (x8 : Int32) (σ : tw_S) (H : Heap) (locs : List Loc) (ls : Array Slot), k130 x8 σ → tw_w D g (tw_F g s.heap.size) s σ H locs → lv_has ls 9 [(8, .int x8)] → W p l e RM_X9_goesOff s m args below meth c H locs 0 0 (tw_Qi Q D g below args s) (F0 m 130 ls []))
    (hk136 : ∀  (σ : tw_S) (H : Heap) (locs : List Loc) (ls : Array Slot), k136  σ → tw_w D g (tw_F g s.heap.size) s σ H locs → lv_has ls 9 [] → W p l e RM_X9_goesOff s m args below meth c H locs 0 0 (tw_Qi Q D g below args s) (F0 m 136 ls []))
    : ∀ (n : Nat) (x6 : Int32) (x7 : Int32) (σ : tw_S) (H : Heap) (locs : List Loc) (ls : Array Slot), wl_X9_goesOff_41 g a0 x1 x2 x3 Q k92 k130 k136 n x6 x7 σ → tw_w D g (tw_F g s.heap.size) s σ H locs → lv_has ls 9 [(0, .ref a0), (1, .int x1), (2, .int x2), (3, .int x3), (6, .int x6), (7, .int x7)] → W p l e RM_X9_goesOff s m args below meth c H locs 0 0 (tw_Qi Q D g below args s) (F0 m 41 ls []) := by
  intro n
  induction n with
  | zero =>
    intro x6 x7 σ H locs ls h w hl
    exact False.elim h
  | succ n ih =>
    intro x6 x7 σ H locs ls h w hl
    rw [wl_X9_goesOff_41] at h
    refine lv_aload_n X.1 X.2.1 dX9_goesOff_41 rfl (lv_at hl 0 rfl) ?_
    refine tw_get X hK w 9 iw_X9_goesOff_9 h0 (by decide) rfl 13 (by decide) (List.mem_of_getElem? (i := 1) rfl) rfl dX9_goesOff_42 ?_
    refine lv_iload X.1 X.2.1 dX9_goesOff_45 (lv_at hl 4 rfl) ?_
    obtain ⟨hi6, h⟩ := h
    refine tw_iald X hK w (tw_t_9_13 hT h0) (tw_n_9_13 hT h0) hi6 dX9_goesOff_47 ?_
    refine lv_iload X.1 X.2.1 dX9_goesOff_48 (lv_at hl 5 rfl) ?_
    refine lv_ishr X.1 X.2.1 dX9_goesOff_50 ?_
    refine lv_iconst (v := 1) X.1 X.2.1 dX9_goesOff_51 (by decide) ?_
    refine lv_iand X.1 X.2.1 dX9_goesOff_52 ?_
    refine lv_if_ne (tgt := 136) X.1 X.2.1 dX9_goesOff_53 (by decide) (fun c7 => ?_) (fun c7 => ?_)
    · have h := h.1 c7
      exact hk136  σ _ _ ls h w (lv_sub hl [] rfl)
    · have h := h.2 c7
      refine lv_aload_n X.1 X.2.1 dX9_goesOff_56 rfl (lv_at hl 0 rfl) ?_
      refine tw_get X hK w 9 iw_X9_goesOff_9 h0 (by decide) rfl 13 (by decide) (List.mem_of_getElem? (i := 1) rfl) rfl dX9_goesOff_57 ?_
      refine lv_iload X.1 X.2.1 dX9_goesOff_60 (lv_at hl 4 rfl) ?_
      refine lv_dup2_11 X.1 X.2.1 dX9_goesOff_62 rfl rfl ?_
      obtain ⟨hi8, h⟩ := h
      refine tw_iald X hK w (tw_t_9_13 hT h0) (tw_n_9_13 hT h0) hi8 dX9_goesOff_63 ?_
      refine lv_iconst (v := 1) X.1 X.2.1 dX9_goesOff_64 (by decide) ?_
      refine lv_iload X.1 X.2.1 dX9_goesOff_65 (lv_at hl 5 rfl) ?_
      refine lv_ishl X.1 X.2.1 dX9_goesOff_67 ?_
      refine lv_ior X.1 X.2.1 dX9_goesOff_68 ?_
      obtain ⟨hi9, h⟩ := h
      refine tw_iast X hK w (tw_t_9_13 hT h0) (tw_n_9_13 hT h0) hi9 dX9_goesOff_69 (fun σ10 H locs eσ10 w => ?_)
      have h := h _ eσ10
      refine lv_aload_n X.1 X.2.1 dX9_goesOff_70 rfl (lv_at hl 0 rfl) ?_
      refine lv_iload_n X.1 X.2.1 dX9_goesOff_71 rfl (lv_at hl 1 rfl) ?_
      refine lv_iload X.1 X.2.1 dX9_goesOff_72 (lv_at hl 5 rfl) ?_
      refine lv_aload_n X.1 X.2.1 dX9_goesOff_74 rfl (lv_at hl 0 rfl) ?_
      refine tw_get X hK w 9 iw_X9_goesOff_9 h0 (by decide) rfl 11 (by decide) (List.mem_of_getElem? (i := 2) rfl) rfl dX9_goesOff_75 ?_
      refine lv_iload X.1 X.2.1 dX9_goesOff_78 (lv_at hl 4 rfl) ?_
      obtain ⟨hi11, h⟩ := h
      refine tw_iald X hK w (tw_t_9_11 hT h0) (tw_n_9_11 hT h0) hi11 dX9_goesOff_80 ?_
      refine tw_ci w (va_runV (As := [.int x1, .int x7, .int (tw_A σ10 (tw_R g a0 11) x6.toNatClampNeg)]) (rest := []) X (ct_X9_moveAt l D g hT _ σ10 a0 h0 x1 x7 (tw_A σ10 (tw_R g a0 11) x6.toNatClampNeg) _ h) (cwV 3 X.2.2.2.2 gX9_goesOff_X9_moveAt rfl rfl rfl (by decide +kernel) ⟨Nat.le_of_ble_eq_true rfl, Nat.le_of_ble_eq_true rfl⟩) (tw_preV hK w h0 (by decide) rfl [.int x1, .int x7, .int (tw_A σ10 (tw_R g a0 11) x6.toNatClampNeg)]) rfl rfl hl.1 rfl (lv_room (Nat.le_of_ble_eq_true rfl)) dX9_goesOff_81 ⟨Nat.zero_le _, Nat.zero_le _⟩) (fun r13 σ12 H locs h w => ?_)
      refine lv_istore (lv' := [(8, .int r13), (0, .ref a0), (1, .int x1), (2, .int x2), (3, .int x3), (6, .int x6), (7, .int x7)]) X.1 X.2.1 dX9_goesOff_84 hl (by decide) rfl (fun ls hl => ?_)
      have hl := lv_sub (l' := [(8, .int r13), (0, .ref a0), (1, .int x1), (2, .int x2), (3, .int x3), (6, .int x6)]) hl [0, 1, 2, 3, 4, 5] rfl
      refine lv_iload X.1 X.2.1 dX9_goesOff_86 (lv_at hl 0 rfl) ?_
      refine lv_iconst (v := -1) X.1 X.2.1 dX9_goesOff_88 (by decide) ?_
      refine lv_icmp_ne (tgt := 94) X.1 X.2.1 dX9_goesOff_89 (by decide) (fun c14 => ?_) (fun c14 => ?_)
      · have h := h.1 c14
        refine lv_iload X.1 X.2.1 dX9_goesOff_94 (lv_at hl 5 rfl) ?_
        refine lv_iload X.1 X.2.1 dX9_goesOff_96 (lv_at hl 0 rfl) ?_
        refine lv_iconst (v := 2) X.1 X.2.1 dX9_goesOff_98 (by decide) ?_
        refine lv_irem X.1 X.2.1 dX9_goesOff_99 (by decide) ?_
        refine lv_iconst (v := 1) X.1 X.2.1 dX9_goesOff_100 (by decide) ?_
        refine lv_icmp_ne (tgt := 108) X.1 X.2.1 dX9_goesOff_101 (by decide) (fun c15 => ?_) (fun c15 => ?_)
        · have h := h.1 c15
          refine lv_iconst (v := -1) X.1 X.2.1 dX9_goesOff_108 (by decide) ?_
          refine lv_iadd X.1 X.2.1 dX9_goesOff_109 ?_
          refine lv_istore (lv' := [(6, .int (x6 + (-1 : Int32))), (8, .int r13), (0, .ref a0), (1, .int x1), (2, .int x2), (3, .int x3)]) X.1 X.2.1 dX9_goesOff_110 hl (by decide) rfl (fun ls hl => ?_)
          refine lv_iload X.1 X.2.1 dX9_goesOff_112 (lv_at hl 1 rfl) ?_
          refine lv_iconst (v := 2) X.1 X.2.1 dX9_goesOff_114 (by decide) ?_
          refine lv_idiv X.1 X.2.1 dX9_goesOff_115 (by decide) ?_
          refine lv_istore (lv' := [(7, .int (r13 / (2 : Int32))), (6, .int (x6 + (-1 : Int32))), (8, .int r13), (0, .ref a0), (1, .int x1), (2, .int x2), (3, .int x3)]) X.1 X.2.1 dX9_goesOff_116 hl (by decide) rfl (fun ls hl => ?_)
          refine lv_iload X.1 X.2.1 dX9_goesOff_118 (lv_at hl 1 rfl) ?_
          refine lv_iload_n X.1 X.2.1 dX9_goesOff_120 rfl (lv_at hl 5 rfl) ?_
          refine lv_icmp_lt (tgt := 130) X.1 X.2.1 dX9_goesOff_121 (by decide) (fun c16 => ?_) (fun c16 => ?_)
          · have h := h.1 c16
            exact hk130 r13 σ12 _ _ ls h w (lv_sub hl [2] rfl)
          · have h := h.2 c16
            refine lv_iload X.1 X.2.1 dX9_goesOff_124 (lv_at hl 1 rfl) ?_
            refine lv_iload_n X.1 X.2.1 dX9_goesOff_126 rfl (lv_at hl 6 rfl) ?_
            refine lv_icmp_lt (tgt := 133) X.1 X.2.1 dX9_goesOff_127 (by decide) (fun c17 => ?_) (fun c17 => ?_)
            · have h := h.1 c17
              refine lv_goto (tgt := 41) X.1 X.2.1 dX9_goesOff_133 (by decide) ?_
              exact ih (x6 + (-1 : Int32)) (r13 / (2 : Int32)) σ12 _ _ ls h w (lv_sub hl [3, 4, 5, 6, 1, 0] rfl)
            · have h := h.2 c17
              exact hk130 r13 σ12 _ _ ls h w (lv_sub hl [2] rfl)
        · have h := h.2 c15
          refine lv_iconst (v := 1) X.1 X.2.1 dX9_goesOff_104 (by decide) ?_
          refine lv_goto (tgt := 109) X.1 X.2.1 dX9_goesOff_105 (by decide) ?_
          refine lv_iadd X.1 X.2.1 dX9_goesOff_109 ?_
          refine lv_istore (lv' := [(6, .int (x6 + (1 : Int32))), (8, .int r13), (0, .ref a0), (1, .int x1), (2, .int x2), (3, .int x3)]) X.1 X.2.1 dX9_goesOff_110 hl (by decide) rfl (fun ls hl => ?_)
          refine lv_iload X.1 X.2.1 dX9_goesOff_112 (lv_at hl 1 rfl) ?_
          refine lv_iconst (v := 2) X.1 X.2.1 dX9_goesOff_114 (by decide) ?_
          refine lv_idiv X.1 X.2.1 dX9_goesOff_115 (by decide) ?_
          refine lv_istore (lv' := [(7, .int (r13 / (2 : Int32))), (6, .int (x6 + (1 : Int32))), (8, .int r13), (0, .ref a0), (1, .int x1), (2, .int x2), (3, .int x3)]) X.1 X.2.1 dX9_goesOff_116 hl (by decide) rfl (fun ls hl => ?_)
          refine lv_iload X.1 X.2.1 dX9_goesOff_118 (lv_at hl 1 rfl) ?_
          refine lv_iload_n X.1 X.2.1 dX9_goesOff_120 rfl (lv_at hl 5 rfl) ?_
          refine lv_icmp_lt (tgt := 130) X.1 X.2.1 dX9_goesOff_121 (by decide) (fun c18 => ?_) (fun c18 => ?_)
          · have h := h.1 c18
            exact hk130 r13 σ12 _ _ ls h w (lv_sub hl [2] rfl)
          · have h := h.2 c18
            refine lv_iload X.1 X.2.1 dX9_goesOff_124 (lv_at hl 1 rfl) ?_
            refine lv_iload_n X.1 X.2.1 dX9_goesOff_126 rfl (lv_at hl 6 rfl) ?_
            refine lv_icmp_lt (tgt := 133) X.1 X.2.1 dX9_goesOff_127 (by decide) (fun c19 => ?_) (fun c19 => ?_)
            · have h := h.1 c19
              refine lv_goto (tgt := 41) X.1 X.2.1 dX9_goesOff_133 (by decide) ?_
              exact ih (x6 + (1 : Int32)) (r13 / (2 : Int32)) σ12 _ _ ls h w (lv_sub hl [3, 4, 5, 6, 1, 0] rfl)
            · have h := h.2 c19
              exact hk130 r13 σ12 _ _ ls h w (lv_sub hl [2] rfl)
      · have h := h.2 c14
        exact hk92  σ12 _ _ ls h w (lv_sub hl [] rfl)
set_option maxHeartbeats 4000000 in
set_option maxRecDepth 100000 in
theorem ct_X9_goesOff (l : Launch) (D : va_G) (g : tw_G) (hT : tw_T g) (sz : Nat) (σ : tw_S) (a0 : Nat) (h0 : tw_is g 9 a0) (x1 : Int32) (x2 : Int32) (x3 : Int32) (x4 : Int32) (x5 : Int32) (Q : Int32 → tw_S → Prop) (h : wp_X9_goesOff g σ a0 x1 x2 x3 x4 x5 Q) : tw_Mi l yX9_goesOff wsX9_goesOff RM_X9_goesOff D g sz σ [.ref a0, .int x1, .int x2, .int x3, .int x4, .int x5] Q := by
  refine Met.ofW (cc := cX9_goesOff) (maxL := 9) (ret := (some .int)) (by decide) rfl ?_
  intro p e s m args below meth c s₁ B hml hv
  obtain ⟨rfl, hsz, hP, hK, hD0⟩ := hv
  subst hsz
  have hr := B.returns
  have hlk := B.notSynchronized
  have X : CallFix p m c cX9_goesOff 9 s _ wsX9_goesOff RX9 := ⟨B.exec, B.bytes, hml, findClass_of_methodNamed B.named, atoms_spec (ws := wsX9_goesOff) B.pre⟩
  have w := tw_w0 hP hD0
  have hl := lv_entry ([.ref a0, .int x1, .int x2, .int x3, .int x4, .int x5]) (n := 9) (Nat.le_of_ble_eq_true rfl)
  rw [lg_entry_eq]
  generalize (lg_sl ([.ref a0, .int x1, .int x2, .int x3, .int x4, .int x5]) ++ List.replicate (9 - (lg_sl ([.ref a0, .int x1, .int x2, .int x3, .int x4, .int x5])).length) Slot.unset).toArray = ls at hl ⊢
  have hl : lv_has ls 9 [(0, .ref a0), (1, .int x1), (2, .int x2), (3, .int x3), (4, .int x4), (5, .int x5)] := hl
  unfold wp_X9_goesOff at h
  refine lv_iload_n X.1 X.2.1 dX9_goesOff_0 rfl (lv_at hl 2 rfl) ?_
  refine lv_istore (lv' := [(6, .int x2), (0, .ref a0), (1, .int x1), (2, .int x2), (3, .int x3), (4, .int x4), (5, .int x5)]) X.1 X.2.1 dX9_goesOff_1 hl (by decide) rfl (fun ls hl => ?_)
  obtain ⟨n3, h⟩ := h
  refine lp_X9_goesOff_3 X hr hlk hK hT h0 (fun σ4 H locs ls h w hl => ?_) n3 x2 σ _ _ ls h w (lv_sub hl [1, 2, 3, 4, 5, 6, 0] rfl)
  · skip
    refine lv_iload X.1 X.2.1 dX9_goesOff_23 (lv_at hl 5 rfl) ?_
    refine lv_if_ne (tgt := 32) X.1 X.2.1 dX9_goesOff_25 (by decide) (fun c5 => ?_) (fun c5 => ?_)
    · have h := h.1 c5
      refine lv_iload_n X.1 X.2.1 dX9_goesOff_32 rfl (lv_at hl 3 rfl) ?_
      refine lv_iconst (v := 1) X.1 X.2.1 dX9_goesOff_33 (by decide) ?_
      refine lv_isub X.1 X.2.1 dX9_goesOff_34 ?_
      refine lv_istore (lv' := [(6, .int (x3 - (1 : Int32))), (0, .ref a0), (1, .int x1), (2, .int x2), (3, .int x3), (4, .int x4), (5, .int x5)]) X.1 X.2.1 dX9_goesOff_35 hl (by decide) rfl (fun ls hl => ?_)
      have hl := lv_sub (l' := [(6, .int (x3 - (1 : Int32))), (0, .ref a0), (1, .int x1), (2, .int x2), (3, .int x3), (4, .int x4)]) hl [0, 1, 2, 3, 4, 5] rfl
      refine lv_iload X.1 X.2.1 dX9_goesOff_37 (lv_at hl 5 rfl) ?_
      refine lv_istore (lv' := [(7, .int x4), (6, .int (x3 - (1 : Int32))), (0, .ref a0), (1, .int x1), (2, .int x2), (3, .int x3), (4, .int x4)]) X.1 X.2.1 dX9_goesOff_39 hl (by decide) rfl (fun ls hl => ?_)
      have hl := lv_sub (l' := [(7, .int x4), (6, .int (x3 - (1 : Int32))), (0, .ref a0), (1, .int x1), (2, .int x2), (3, .int x3)]) hl [0, 1, 2, 3, 4, 5] rfl
      obtain ⟨n41, h⟩ := h
      refine lp_X9_goesOff_41 X hr hlk hK hT h0 (fun σ20 H locs ls h w hl => ?_) (fun v21 σ22 H locs ls h w hl => ?_) (fun σ23 H locs ls h w hl => ?_) n41 (x3 - (1 : Int32)) x4 σ4 _ _ ls h w (lv_sub hl [2, 3, 4, 5, 1, 0] rfl)
      · skip
        refine lv_iconst (v := -1) X.1 X.2.1 dX9_goesOff_92 (by decide) ?_
        exact tw_iret X hr hlk w h dX9_goesOff_93
      · skip
        refine lv_iload X.1 X.2.1 dX9_goesOff_130 (lv_at hl 0 rfl) ?_
        exact tw_iret X hr hlk w h dX9_goesOff_132
      · skip
        refine lv_iconst (v := -1) X.1 X.2.1 dX9_goesOff_136 (by decide) ?_
        exact tw_iret X hr hlk w h dX9_goesOff_137
    · have h := h.2 c5
      refine lv_iload_n X.1 X.2.1 dX9_goesOff_28 rfl (lv_at hl 2 rfl) ?_
      refine lv_goto (tgt := 35) X.1 X.2.1 dX9_goesOff_29 (by decide) ?_
      refine lv_istore (lv' := [(6, .int x2), (0, .ref a0), (1, .int x1), (2, .int x2), (3, .int x3), (4, .int x4), (5, .int x5)]) X.1 X.2.1 dX9_goesOff_35 hl (by decide) rfl (fun ls hl => ?_)
      have hl := lv_sub (l' := [(6, .int x2), (0, .ref a0), (1, .int x1), (2, .int x2), (3, .int x3), (4, .int x4)]) hl [0, 1, 2, 3, 4, 5] rfl
      refine lv_iload X.1 X.2.1 dX9_goesOff_37 (lv_at hl 5 rfl) ?_
      refine lv_istore (lv' := [(7, .int x4), (6, .int x2), (0, .ref a0), (1, .int x1), (2, .int x2), (3, .int x3), (4, .int x4)]) X.1 X.2.1 dX9_goesOff_39 hl (by decide) rfl (fun ls hl => ?_)
      have hl := lv_sub (l' := [(7, .int x4), (6, .int x2), (0, .ref a0), (1, .int x1), (2, .int x2), (3, .int x3)]) hl [0, 1, 2, 3, 4, 5] rfl
      obtain ⟨n41, h⟩ := h
      refine lp_X9_goesOff_41 X hr hlk hK hT h0 (fun σ24 H locs ls h w hl => ?_) (fun v25 σ26 H locs ls h w hl => ?_) (fun σ27 H locs ls h w hl => ?_) n41 x2 x4 σ4 _ _ ls h w (lv_sub hl [2, 3, 4, 5, 1, 0] rfl)
      · skip
        refine lv_iconst (v := -1) X.1 X.2.1 dX9_goesOff_92 (by decide) ?_
        exact tw_iret X hr hlk w h dX9_goesOff_93
      · skip
        refine lv_iload X.1 X.2.1 dX9_goesOff_130 (lv_at hl 0 rfl) ?_
        exact tw_iret X hr hlk w h dX9_goesOff_132
      · skip
        refine lv_iconst (v := -1) X.1 X.2.1 dX9_goesOff_136 (by decide) ?_
        exact tw_iret X hr hlk w h dX9_goesOff_137

abbrev RM_X9_isPiece : Room := { frames := 1, cells := 0, slots := 0, locals := 25 }
theorem iw_X9_isPiece_9 : ∀ w ∈ wsX90, w ∈ wsX9_isPiece := fun w h => List.mem_cons_of_mem _ (List.mem_append_right _ (h))
def wp_X9_isPiece (g : tw_G) (σ : tw_S) (a0 : Nat) (x1 : Int32) (x2 : Int32) (Q : Int32 → tw_S → Prop) : Prop := wp_X9_in g σ (x1.toInt64) (0 : Int64) ((tw_I σ a0 12).toInt64) (fun r2 σ1 => ((r2 = 0) → Q (0 : Int32) σ1) ∧ (¬ (r2 = 0) → wp_X9_in g σ1 (x2.toInt64) ((x1 + (1 : Int32)).toInt64) ((tw_I σ1 a0 12).toInt64) (fun r5 σ4 => ((r5 = 0) → Q (0 : Int32) σ4) ∧ (¬ (r5 = 0) → Q (1 : Int32) σ4))))
set_option maxHeartbeats 4000000 in
set_option maxRecDepth 100000 in
theorem ct_X9_isPiece (l : Launch) (D : va_G) (g : tw_G) (hT : tw_T g) (sz : Nat) (σ : tw_S) (a0 : Nat) (h0 : tw_is g 9 a0) (x1 : Int32) (x2 : Int32) (Q : Int32 → tw_S → Prop) (h : wp_X9_isPiece g σ a0 x1 x2 Q) : tw_Mi l yX9_isPiece wsX9_isPiece RM_X9_isPiece D g sz σ [.ref a0, .int x1, .int x2] Q := by
  refine Met.ofW (cc := cX9_isPiece) (maxL := 3) (ret := (some .boolean)) (by decide) rfl ?_
  intro p e s m args below meth c s₁ B hml hv
  obtain ⟨rfl, hsz, hP, hK, hD0⟩ := hv
  subst hsz
  have hr := B.returns
  have hlk := B.notSynchronized
  have X : CallFix p m c cX9_isPiece 3 s _ wsX9_isPiece RX9 := ⟨B.exec, B.bytes, hml, findClass_of_methodNamed B.named, atoms_spec (ws := wsX9_isPiece) B.pre⟩
  have w := tw_w0 hP hD0
  have hl := lv_entry ([.ref a0, .int x1, .int x2]) (n := 3) (Nat.le_of_ble_eq_true rfl)
  rw [lg_entry_eq]
  generalize (lg_sl ([.ref a0, .int x1, .int x2]) ++ List.replicate (3 - (lg_sl ([.ref a0, .int x1, .int x2])).length) Slot.unset).toArray = ls at hl ⊢
  have hl : lv_has ls 3 [(0, .ref a0), (1, .int x1), (2, .int x2)] := hl
  unfold wp_X9_isPiece at h
  refine lv_iload_n X.1 X.2.1 dX9_isPiece_0 rfl (lv_at hl 1 rfl) ?_
  refine lv_i2l (v := (x1.toInt64)) X.1 X.2.1 dX9_isPiece_1 rfl ?_
  refine lv_lconst (v := 0) X.1 X.2.1 dX9_isPiece_2 (by decide) ?_
  refine lv_aload_n X.1 X.2.1 dX9_isPiece_3 rfl (lv_at hl 0 rfl) ?_
  refine tw_get X hK w 9 iw_X9_isPiece_9 h0 (by decide) rfl 12 (by decide) (List.mem_of_getElem? (i := 1) rfl) rfl dX9_isPiece_4 ?_
  refine lv_i2l (v := ((tw_I σ a0 12).toInt64)) X.1 X.2.1 dX9_isPiece_7 rfl ?_
  refine tw_ci w (va_runS (As := [.long (x1.toInt64), .long (0 : Int64), .long ((tw_I σ a0 12).toInt64)]) (rest := []) X (ct_X9_in l D g hT _ σ (x1.toInt64) (0 : Int64) ((tw_I σ a0 12).toInt64) _ h) (va_cwS 3 X.2.2.2.2 gX9_isPiece_X9_in rfl rfl rfl (by decide +kernel) ⟨Nat.le_of_ble_eq_true rfl, Nat.le_of_ble_eq_true rfl⟩) (tw_pre hK w [.long (x1.toInt64), .long (0 : Int64), .long ((tw_I σ a0 12).toInt64)]) rfl rfl hl.1 rfl (lv_room (Nat.le_of_ble_eq_true rfl)) dX9_isPiece_8 ⟨Nat.zero_le _, Nat.zero_le _⟩) (fun r2 σ1 H locs h w => ?_)
  refine lv_if_eq (tgt := 35) X.1 X.2.1 dX9_isPiece_11 (by decide) (fun c3 => ?_) (fun c3 => ?_)
  · have h := h.1 c3
    refine lv_iconst (v := 0) X.1 X.2.1 dX9_isPiece_35 (by decide) ?_
    exact tw_zret X hr hlk w (by decide) h dX9_isPiece_36
  · have h := h.2 c3
    refine lv_iload_n X.1 X.2.1 dX9_isPiece_14 rfl (lv_at hl 2 rfl) ?_
    refine lv_i2l (v := (x2.toInt64)) X.1 X.2.1 dX9_isPiece_15 rfl ?_
    refine lv_iload_n X.1 X.2.1 dX9_isPiece_16 rfl (lv_at hl 1 rfl) ?_
    refine lv_iconst (v := 1) X.1 X.2.1 dX9_isPiece_17 (by decide) ?_
    refine lv_iadd X.1 X.2.1 dX9_isPiece_18 ?_
    refine lv_i2l (v := ((x1 + (1 : Int32)).toInt64)) X.1 X.2.1 dX9_isPiece_19 rfl ?_
    refine lv_aload_n X.1 X.2.1 dX9_isPiece_20 rfl (lv_at hl 0 rfl) ?_
    refine tw_get X hK w 9 iw_X9_isPiece_9 h0 (by decide) rfl 12 (by decide) (List.mem_of_getElem? (i := 1) rfl) rfl dX9_isPiece_21 ?_
    refine lv_i2l (v := ((tw_I σ1 a0 12).toInt64)) X.1 X.2.1 dX9_isPiece_24 rfl ?_
    refine tw_ci w (va_runS (As := [.long (x2.toInt64), .long ((x1 + (1 : Int32)).toInt64), .long ((tw_I σ1 a0 12).toInt64)]) (rest := []) X (ct_X9_in l D g hT _ σ1 (x2.toInt64) ((x1 + (1 : Int32)).toInt64) ((tw_I σ1 a0 12).toInt64) _ h) (va_cwS 3 X.2.2.2.2 gX9_isPiece_X9_in rfl rfl rfl (by decide +kernel) ⟨Nat.le_of_ble_eq_true rfl, Nat.le_of_ble_eq_true rfl⟩) (tw_pre hK w [.long (x2.toInt64), .long ((x1 + (1 : Int32)).toInt64), .long ((tw_I σ1 a0 12).toInt64)]) rfl rfl hl.1 rfl (lv_room (Nat.le_of_ble_eq_true rfl)) dX9_isPiece_25 ⟨Nat.zero_le _, Nat.zero_le _⟩) (fun r5 σ4 H locs h w => ?_)
    refine lv_if_eq (tgt := 35) X.1 X.2.1 dX9_isPiece_28 (by decide) (fun c6 => ?_) (fun c6 => ?_)
    · have h := h.1 c6
      refine lv_iconst (v := 0) X.1 X.2.1 dX9_isPiece_35 (by decide) ?_
      exact tw_zret X hr hlk w (by decide) h dX9_isPiece_36
    · have h := h.2 c6
      refine lv_iconst (v := 1) X.1 X.2.1 dX9_isPiece_31 (by decide) ?_
      refine lv_goto (tgt := 36) X.1 X.2.1 dX9_isPiece_32 (by decide) ?_
      exact tw_zret X hr hlk w (by decide) h dX9_isPiece_36

abbrev RM_X9_table : Room := { frames := 2, cells := 0, slots := 0, locals := 51 }
def wp_X9_table (g : tw_G) (σ : tw_S) (a0 : Nat) (x1 : Int32) (x2 : Int32) (x3 : Int32) (x4 : Int32) (x5 : Int32) (Q : Int32 → tw_S → Prop) : Prop := wp_X9_isMachine g σ x1 (fun r2 σ1 => ((r2 = 0) → Q (-1000000001 : Int32) σ1) ∧ (¬ (r2 = 0) → wp_X9_isState g σ1 a0 x1 x4 (fun r5 σ4 => ((¬ r5 = 0) → wp_X9_in g σ4 (x5.toInt64) (0 : Int64) (1 : Int64) (fun r8 σ7 => ((r8 = 0) → Q (-1000000002 : Int32) σ7) ∧ (¬ (r8 = 0) → wp_X9_isPiece g σ7 a0 x2 x3 (fun r11 σ10 => ((¬ r11 = 0) → wp_X9_goesOff g σ10 a0 x1 x2 x3 x4 x5 (fun r14 σ13 => Q r14 σ13)) ∧ ((r11 = 0) → Q (-1000000002 : Int32) σ10))))) ∧ ((r5 = 0) → Q (-1000000001 : Int32) σ4))))
set_option maxHeartbeats 4000000 in
set_option maxRecDepth 100000 in
theorem ct_X9_table (l : Launch) (D : va_G) (g : tw_G) (hT : tw_T g) (sz : Nat) (σ : tw_S) (a0 : Nat) (h0 : tw_is g 9 a0) (x1 : Int32) (x2 : Int32) (x3 : Int32) (x4 : Int32) (x5 : Int32) (Q : Int32 → tw_S → Prop) (h : wp_X9_table g σ a0 x1 x2 x3 x4 x5 Q) : tw_Mi l yX9_table wsX9_table RM_X9_table D g sz σ [.ref a0, .int x1, .int x2, .int x3, .int x4, .int x5] Q := by
  refine Met.ofW (cc := cX9_table) (maxL := 6) (ret := (some .int)) (by decide) rfl ?_
  intro p e s m args below meth c s₁ B hml hv
  obtain ⟨rfl, hsz, hP, hK, hD0⟩ := hv
  subst hsz
  have hr := B.returns
  have hlk := B.notSynchronized
  have X : CallFix p m c cX9_table 6 s _ wsX9_table RX9 := ⟨B.exec, B.bytes, hml, findClass_of_methodNamed B.named, atoms_spec (ws := wsX9_table) B.pre⟩
  have w := tw_w0 hP hD0
  have hl := lv_entry ([.ref a0, .int x1, .int x2, .int x3, .int x4, .int x5]) (n := 6) (Nat.le_of_ble_eq_true rfl)
  rw [lg_entry_eq]
  generalize (lg_sl ([.ref a0, .int x1, .int x2, .int x3, .int x4, .int x5]) ++ List.replicate (6 - (lg_sl ([.ref a0, .int x1, .int x2, .int x3, .int x4, .int x5])).length) Slot.unset).toArray = ls at hl ⊢
  have hl : lv_has ls 6 [(0, .ref a0), (1, .int x1), (2, .int x2), (3, .int x3), (4, .int x4), (5, .int x5)] := hl
  unfold wp_X9_table at h
  refine lv_iload_n X.1 X.2.1 dX9_table_0 rfl (lv_at hl 1 rfl) ?_
  refine tw_ci w (va_runS (As := [.int x1]) (rest := []) X (ct_X9_isMachine l D g hT _ σ x1 _ h) (va_cwS 1 X.2.2.2.2 gX9_table_X9_isMachine rfl rfl rfl (by decide +kernel) ⟨Nat.le_of_ble_eq_true rfl, Nat.le_of_ble_eq_true rfl⟩) (tw_pre hK w [.int x1]) rfl rfl hl.1 rfl (lv_room (Nat.le_of_ble_eq_true rfl)) dX9_table_1 ⟨Nat.zero_le _, Nat.zero_le _⟩) (fun r2 σ1 H locs h w => ?_)
  refine lv_if_eq (tgt := 17) X.1 X.2.1 dX9_table_4 (by decide) (fun c3 => ?_) (fun c3 => ?_)
  · have h := h.1 c3
    refine lv_ldc (own := RX9) (v := -1000000001) X.1 X.2.1 X.2.2.2.1 (X.2.2.2.2 _ (List.mem_of_getElem? (i := 1) rfl)) dX9_table_17 ?_
    exact tw_iret X hr hlk w h dX9_table_19
  · have h := h.2 c3
    refine lv_aload_n X.1 X.2.1 dX9_table_7 rfl (lv_at hl 0 rfl) ?_
    refine lv_iload_n X.1 X.2.1 dX9_table_8 rfl (lv_at hl 1 rfl) ?_
    refine lv_iload X.1 X.2.1 dX9_table_9 (lv_at hl 4 rfl) ?_
    refine tw_ci w (va_runV (As := [.int x1, .int x4]) (rest := []) X (ct_X9_isState l D g hT _ σ1 a0 h0 x1 x4 _ h) (cwV 2 X.2.2.2.2 gX9_table_X9_isState rfl rfl rfl (by decide +kernel) ⟨Nat.le_of_ble_eq_true rfl, Nat.le_of_ble_eq_true rfl⟩) (tw_preV hK w h0 (by decide) rfl [.int x1, .int x4]) rfl rfl hl.1 rfl (lv_room (Nat.le_of_ble_eq_true rfl)) dX9_table_11 ⟨Nat.zero_le _, Nat.zero_le _⟩) (fun r5 σ4 H locs h w => ?_)
    refine lv_if_ne (tgt := 20) X.1 X.2.1 dX9_table_14 (by decide) (fun c6 => ?_) (fun c6 => ?_)
    · have h := h.1 c6
      refine lv_iload X.1 X.2.1 dX9_table_20 (lv_at hl 5 rfl) ?_
      refine lv_i2l (v := (x5.toInt64)) X.1 X.2.1 dX9_table_22 rfl ?_
      refine lv_lconst (v := 0) X.1 X.2.1 dX9_table_23 (by decide) ?_
      refine lv_lconst (v := 1) X.1 X.2.1 dX9_table_24 (by decide) ?_
      refine tw_ci w (va_runS (As := [.long (x5.toInt64), .long (0 : Int64), .long (1 : Int64)]) (rest := []) X (ct_X9_in l D g hT _ σ4 (x5.toInt64) (0 : Int64) (1 : Int64) _ h) (va_cwS 3 X.2.2.2.2 gX9_table_X9_in rfl rfl rfl (by decide +kernel) ⟨Nat.le_of_ble_eq_true rfl, Nat.le_of_ble_eq_true rfl⟩) (tw_pre hK w [.long (x5.toInt64), .long (0 : Int64), .long (1 : Int64)]) rfl rfl hl.1 rfl (lv_room (Nat.le_of_ble_eq_true rfl)) dX9_table_25 ⟨Nat.zero_le _, Nat.zero_le _⟩) (fun r8 σ7 H locs h w => ?_)
      refine lv_if_eq (tgt := 40) X.1 X.2.1 dX9_table_28 (by decide) (fun c9 => ?_) (fun c9 => ?_)
      · have h := h.1 c9
        refine lv_ldc (own := RX9) (v := -1000000002) X.1 X.2.1 X.2.2.2.1 (X.2.2.2.2 _ (List.mem_of_getElem? (i := 2) rfl)) dX9_table_40 ?_
        exact tw_iret X hr hlk w h dX9_table_42
      · have h := h.2 c9
        refine lv_aload_n X.1 X.2.1 dX9_table_31 rfl (lv_at hl 0 rfl) ?_
        refine lv_iload_n X.1 X.2.1 dX9_table_32 rfl (lv_at hl 2 rfl) ?_
        refine lv_iload_n X.1 X.2.1 dX9_table_33 rfl (lv_at hl 3 rfl) ?_
        refine tw_ci w (va_runV (As := [.int x2, .int x3]) (rest := []) X (ct_X9_isPiece l D g hT _ σ7 a0 h0 x2 x3 _ h) (cwV 2 X.2.2.2.2 gX9_table_X9_isPiece rfl rfl rfl (by decide +kernel) ⟨Nat.le_of_ble_eq_true rfl, Nat.le_of_ble_eq_true rfl⟩) (tw_preV hK w h0 (by decide) rfl [.int x2, .int x3]) rfl rfl hl.1 rfl (lv_room (Nat.le_of_ble_eq_true rfl)) dX9_table_34 ⟨Nat.zero_le _, Nat.zero_le _⟩) (fun r11 σ10 H locs h w => ?_)
        refine lv_if_ne (tgt := 43) X.1 X.2.1 dX9_table_37 (by decide) (fun c12 => ?_) (fun c12 => ?_)
        · have h := h.1 c12
          refine lv_aload_n X.1 X.2.1 dX9_table_43 rfl (lv_at hl 0 rfl) ?_
          refine lv_iload_n X.1 X.2.1 dX9_table_44 rfl (lv_at hl 1 rfl) ?_
          refine lv_iload_n X.1 X.2.1 dX9_table_45 rfl (lv_at hl 2 rfl) ?_
          refine lv_iload_n X.1 X.2.1 dX9_table_46 rfl (lv_at hl 3 rfl) ?_
          refine lv_iload X.1 X.2.1 dX9_table_47 (lv_at hl 4 rfl) ?_
          refine lv_iload X.1 X.2.1 dX9_table_49 (lv_at hl 5 rfl) ?_
          refine tw_ci w (va_runV (As := [.int x1, .int x2, .int x3, .int x4, .int x5]) (rest := []) X (ct_X9_goesOff l D g hT _ σ10 a0 h0 x1 x2 x3 x4 x5 _ h) (cwV 5 X.2.2.2.2 gX9_table_X9_goesOff rfl rfl rfl (by decide +kernel) ⟨Nat.le_of_ble_eq_true rfl, Nat.le_of_ble_eq_true rfl⟩) (tw_preV hK w h0 (by decide) rfl [.int x1, .int x2, .int x3, .int x4, .int x5]) rfl rfl hl.1 rfl (lv_room (Nat.le_of_ble_eq_true rfl)) dX9_table_51 ⟨Nat.zero_le _, Nat.zero_le _⟩) (fun r14 σ13 H locs h w => ?_)
          exact tw_iret X hr hlk w h dX9_table_54
        · have h := h.2 c12
          refine lv_ldc (own := RX9) (v := -1000000002) X.1 X.2.1 X.2.2.2.1 (X.2.2.2.2 _ (List.mem_of_getElem? (i := 2) rfl)) dX9_table_40 ?_
          exact tw_iret X hr hlk w h dX9_table_42
    · have h := h.2 c6
      refine lv_ldc (own := RX9) (v := -1000000001) X.1 X.2.1 X.2.2.2.1 (X.2.2.2.2 _ (List.mem_of_getElem? (i := 1) rfl)) dX9_table_17 ?_
      exact tw_iret X hr hlk w h dX9_table_19

abbrev RM_X9_alike : Room := { frames := 2, cells := 0, slots := 0, locals := 51 }
def wl_X9_alike_39 (g : tw_G) (a0 : Nat) (x1 : Int32) (x2 : Int32) (x3 : Int32) (x4 : Int32) (x5 : Int32) (Q : Int32 → tw_S → Prop) (k104 : Int32 → tw_S → Prop) : Nat → Int32 → Int32 → tw_S → Prop
  | 0, _, _, _ => False
  | n + 1, x6, x7, σ => wp_X9_states0 g σ a0 x1 (fun r11 σ10 => ((((2 : Int32) * r11) ≤ x7) → k104 x6 σ10) ∧ (¬ (((2 : Int32) * r11) ≤ x7) → ((x6 = 0) → wl_X9_alike_39 g a0 x1 x2 x3 x4 x5 Q k104 n (0 : Int32) (x7 + 1) σ10) ∧ (¬ (x6 = 0) → wp_X9_goesOff g σ10 a0 x1 x2 x3 (x7 / (2 : Int32)) (x7 - x7 / (2 : Int32) * (2 : Int32)) (fun r15 σ14 => wp_X9_goesOff g σ14 a0 x1 x4 x5 (x7 / (2 : Int32)) (x7 - x7 / (2 : Int32) * (2 : Int32)) (fun r17 σ16 => ((¬ r15 = r17) → wl_X9_alike_39 g a0 x1 x2 x3 x4 x5 Q k104 n (0 : Int32) (x7 + 1) σ16) ∧ ((r15 = r17) → wl_X9_alike_39 g a0 x1 x2 x3 x4 x5 Q k104 n (1 : Int32) (x7 + 1) σ16))))))
def wp_X9_alike (g : tw_G) (σ : tw_S) (a0 : Nat) (x1 : Int32) (x2 : Int32) (x3 : Int32) (x4 : Int32) (x5 : Int32) (Q : Int32 → tw_S → Prop) : Prop := wp_X9_isMachine g σ x1 (fun r2 σ1 => ((¬ r2 = 0) → wp_X9_isPiece g σ1 a0 x2 x3 (fun r5 σ4 => ((r5 = 0) → Q (-1000000002 : Int32) σ4) ∧ (¬ (r5 = 0) → wp_X9_isPiece g σ4 a0 x4 x5 (fun r8 σ7 => ((¬ r8 = 0) → ∃ n39, wl_X9_alike_39 g a0 x1 x2 x3 x4 x5 Q (fun v19 σ20 => ((v19 = 0) → Q (0 : Int32) σ20) ∧ (¬ (v19 = 0) → Q (1 : Int32) σ20)) n39 (1 : Int32) (0 : Int32) σ7) ∧ ((r8 = 0) → Q (-1000000002 : Int32) σ7))))) ∧ ((r2 = 0) → Q (-1000000001 : Int32) σ1))
set_option maxHeartbeats 4000000 in
set_option maxRecDepth 100000 in
theorem lp_X9_alike_39 {p : Program} {l : Launch} {e : Env} {s : State} {m : MethodId} {args : Array Value} {below : List Frame} {meth : Method} {c : Code} {D : va_G} {g : tw_G} (X : CallFix p m c cX9_alike 8 s args wsX9_alike RX9) (hr : meth.sig.returnType = (some .int)) (hlk : meth.locks = false) (hK : tw_k D g s) (hT : tw_T g) {a0 : Nat} {x1 : Int32} {x2 : Int32} {x3 : Int32} {x4 : Int32} {x5 : Int32} (h0 : tw_is g 9 a0) {Q : Int32 → tw_S → Prop} {k104 : Int32 → tw_S → Prop}
    (hk104 : ∀ (x6 : Int32) (σ : tw_S) (H : Heap) (locs : List Loc) (ls : Array Slot), k104 x6 σ → tw_w D g (tw_F g s.heap.size) s σ H locs → lv_has ls 8 [(6, .int x6)] → W p l e RM_X9_alike s m args below meth c H locs 0 0 (tw_Qi Q D g below args s) (F0 m 104 ls []))
    : ∀ (n : Nat) (x6 : Int32) (x7 : Int32) (σ : tw_S) (H : Heap) (locs : List Loc) (ls : Array Slot), wl_X9_alike_39 g a0 x1 x2 x3 x4 x5 Q k104 n x6 x7 σ → tw_w D g (tw_F g s.heap.size) s σ H locs → lv_has ls 8 [(0, .ref a0), (1, .int x1), (2, .int x2), (3, .int x3), (4, .int x4), (5, .int x5), (6, .int x6), (7, .int x7)] → W p l e RM_X9_alike s m args below meth c H locs 0 0 (tw_Qi Q D g below args s) (F0 m 39 ls []) := by
  intro n
  induction n with
  | zero =>
    intro x6 x7 σ H locs ls h w hl
    exact False.elim h
  | succ n ih =>
    intro x6 x7 σ H locs ls h w hl
    rw [wl_X9_alike_39] at h
    refine lv_iload X.1 X.2.1 dX9_alike_39 (lv_at hl 7 rfl) ?_
    refine lv_iconst (v := 2) X.1 X.2.1 dX9_alike_41 (by decide) ?_
    refine lv_aload_n X.1 X.2.1 dX9_alike_42 rfl (lv_at hl 0 rfl) ?_
    refine lv_iload_n X.1 X.2.1 dX9_alike_43 rfl (lv_at hl 1 rfl) ?_
    refine tw_ci w (va_runV (As := [.int x1]) (rest := [.int (2 : Int32), .int x7]) X (ct_X9_states0 l D g hT _ σ a0 h0 x1 _ h) (cwV 1 X.2.2.2.2 gX9_alike_X9_states0 rfl rfl rfl (by decide +kernel) ⟨Nat.le_of_ble_eq_true rfl, Nat.le_of_ble_eq_true rfl⟩) (tw_preV hK w h0 (by decide) rfl [.int x1]) rfl rfl hl.1 rfl (lv_room (Nat.le_of_ble_eq_true rfl)) dX9_alike_44 ⟨Nat.zero_le _, Nat.zero_le _⟩) (fun r11 σ10 H locs h w => ?_)
    refine lv_imul X.1 X.2.1 dX9_alike_47 ?_
    refine lv_icmp_ge (tgt := 104) X.1 X.2.1 dX9_alike_48 (by decide) (fun c12 => ?_) (fun c12 => ?_)
    · have h := h.1 c12
      exact hk104 x6 σ10 _ _ ls h w (lv_sub hl [6] rfl)
    · have h := h.2 c12
      refine lv_iload X.1 X.2.1 dX9_alike_51 (lv_at hl 6 rfl) ?_
      refine lv_if_eq (tgt := 95) X.1 X.2.1 dX9_alike_53 (by decide) (fun c13 => ?_) (fun c13 => ?_)
      · have h := h.1 c13
        refine lv_iconst (v := 0) X.1 X.2.1 dX9_alike_95 (by decide) ?_
        refine lv_istore (lv' := [(6, .int (0 : Int32)), (0, .ref a0), (1, .int x1), (2, .int x2), (3, .int x3), (4, .int x4), (5, .int x5), (7, .int x7)]) X.1 X.2.1 dX9_alike_96 hl (by decide) rfl (fun ls hl => ?_)
        refine lv_iinc (v := (x7 + 1)) (lv' := [(7, .int (x7 + 1)), (6, .int (0 : Int32)), (0, .ref a0), (1, .int x1), (2, .int x2), (3, .int x3), (4, .int x4), (5, .int x5)]) X.1 X.2.1 dX9_alike_98 hl (k := 7) rfl rfl (by decide) rfl (fun ls hl => ?_)
        refine lv_goto (tgt := 39) X.1 X.2.1 dX9_alike_101 (by decide) ?_
        exact ih (0 : Int32) (x7 + 1) σ10 _ _ ls h w (lv_sub hl [2, 3, 4, 5, 6, 7, 1, 0] rfl)
      · have h := h.2 c13
        refine lv_aload_n X.1 X.2.1 dX9_alike_56 rfl (lv_at hl 0 rfl) ?_
        refine lv_iload_n X.1 X.2.1 dX9_alike_57 rfl (lv_at hl 1 rfl) ?_
        refine lv_iload_n X.1 X.2.1 dX9_alike_58 rfl (lv_at hl 2 rfl) ?_
        refine lv_iload_n X.1 X.2.1 dX9_alike_59 rfl (lv_at hl 3 rfl) ?_
        refine lv_iload X.1 X.2.1 dX9_alike_60 (lv_at hl 7 rfl) ?_
        refine lv_iconst (v := 2) X.1 X.2.1 dX9_alike_62 (by decide) ?_
        refine lv_idiv X.1 X.2.1 dX9_alike_63 (by decide) ?_
        refine lv_iload X.1 X.2.1 dX9_alike_64 (lv_at hl 7 rfl) ?_
        refine lv_iconst (v := 2) X.1 X.2.1 dX9_alike_66 (by decide) ?_
        refine lv_irem X.1 X.2.1 dX9_alike_67 (by decide) ?_
        refine tw_ci w (va_runV (As := [.int x1, .int x2, .int x3, .int (x7 / (2 : Int32)), .int (x7 - x7 / (2 : Int32) * (2 : Int32))]) (rest := []) X (ct_X9_goesOff l D g hT _ σ10 a0 h0 x1 x2 x3 (x7 / (2 : Int32)) (x7 - x7 / (2 : Int32) * (2 : Int32)) _ h) (cwV 5 X.2.2.2.2 gX9_alike_X9_goesOff rfl rfl rfl (by decide +kernel) ⟨Nat.le_of_ble_eq_true rfl, Nat.le_of_ble_eq_true rfl⟩) (tw_preV hK w h0 (by decide) rfl [.int x1, .int x2, .int x3, .int (x7 / (2 : Int32)), .int (x7 - x7 / (2 : Int32) * (2 : Int32))]) rfl rfl hl.1 rfl (lv_room (Nat.le_of_ble_eq_true rfl)) dX9_alike_68 ⟨Nat.zero_le _, Nat.zero_le _⟩) (fun r15 σ14 H locs h w => ?_)
        refine lv_aload_n X.1 X.2.1 dX9_alike_71 rfl (lv_at hl 0 rfl) ?_
        refine lv_iload_n X.1 X.2.1 dX9_alike_72 rfl (lv_at hl 1 rfl) ?_
        refine lv_iload X.1 X.2.1 dX9_alike_73 (lv_at hl 4 rfl) ?_
        refine lv_iload X.1 X.2.1 dX9_alike_75 (lv_at hl 5 rfl) ?_
        refine lv_iload X.1 X.2.1 dX9_alike_77 (lv_at hl 7 rfl) ?_
        refine lv_iconst (v := 2) X.1 X.2.1 dX9_alike_79 (by decide) ?_
        refine lv_idiv X.1 X.2.1 dX9_alike_80 (by decide) ?_
        refine lv_iload X.1 X.2.1 dX9_alike_81 (lv_at hl 7 rfl) ?_
        refine lv_iconst (v := 2) X.1 X.2.1 dX9_alike_83 (by decide) ?_
        refine lv_irem X.1 X.2.1 dX9_alike_84 (by decide) ?_
        refine tw_ci w (va_runV (As := [.int x1, .int x4, .int x5, .int (x7 / (2 : Int32)), .int (x7 - x7 / (2 : Int32) * (2 : Int32))]) (rest := [.int r15]) X (ct_X9_goesOff l D g hT _ σ14 a0 h0 x1 x4 x5 (x7 / (2 : Int32)) (x7 - x7 / (2 : Int32) * (2 : Int32)) _ h) (cwV 5 X.2.2.2.2 gX9_alike_X9_goesOff rfl rfl rfl (by decide +kernel) ⟨Nat.le_of_ble_eq_true rfl, Nat.le_of_ble_eq_true rfl⟩) (tw_preV hK w h0 (by decide) rfl [.int x1, .int x4, .int x5, .int (x7 / (2 : Int32)), .int (x7 - x7 / (2 : Int32) * (2 : Int32))]) rfl rfl hl.1 rfl (lv_room (Nat.le_of_ble_eq_true rfl)) dX9_alike_85 ⟨Nat.zero_le _, Nat.zero_le _⟩) (fun r17 σ16 H locs h w => ?_)
        refine lv_icmp_ne (tgt := 95) X.1 X.2.1 dX9_alike_88 (by decide) (fun c18 => ?_) (fun c18 => ?_)
        · have h := h.1 c18
          refine lv_iconst (v := 0) X.1 X.2.1 dX9_alike_95 (by decide) ?_
          refine lv_istore (lv' := [(6, .int (0 : Int32)), (0, .ref a0), (1, .int x1), (2, .int x2), (3, .int x3), (4, .int x4), (5, .int x5), (7, .int x7)]) X.1 X.2.1 dX9_alike_96 hl (by decide) rfl (fun ls hl => ?_)
          refine lv_iinc (v := (x7 + 1)) (lv' := [(7, .int (x7 + 1)), (6, .int (0 : Int32)), (0, .ref a0), (1, .int x1), (2, .int x2), (3, .int x3), (4, .int x4), (5, .int x5)]) X.1 X.2.1 dX9_alike_98 hl (k := 7) rfl rfl (by decide) rfl (fun ls hl => ?_)
          refine lv_goto (tgt := 39) X.1 X.2.1 dX9_alike_101 (by decide) ?_
          exact ih (0 : Int32) (x7 + 1) σ16 _ _ ls h w (lv_sub hl [2, 3, 4, 5, 6, 7, 1, 0] rfl)
        · have h := h.2 c18
          refine lv_iconst (v := 1) X.1 X.2.1 dX9_alike_91 (by decide) ?_
          refine lv_goto (tgt := 96) X.1 X.2.1 dX9_alike_92 (by decide) ?_
          refine lv_istore (lv' := [(6, .int (1 : Int32)), (0, .ref a0), (1, .int x1), (2, .int x2), (3, .int x3), (4, .int x4), (5, .int x5), (7, .int x7)]) X.1 X.2.1 dX9_alike_96 hl (by decide) rfl (fun ls hl => ?_)
          refine lv_iinc (v := (x7 + 1)) (lv' := [(7, .int (x7 + 1)), (6, .int (1 : Int32)), (0, .ref a0), (1, .int x1), (2, .int x2), (3, .int x3), (4, .int x4), (5, .int x5)]) X.1 X.2.1 dX9_alike_98 hl (k := 7) rfl rfl (by decide) rfl (fun ls hl => ?_)
          refine lv_goto (tgt := 39) X.1 X.2.1 dX9_alike_101 (by decide) ?_
          exact ih (1 : Int32) (x7 + 1) σ16 _ _ ls h w (lv_sub hl [2, 3, 4, 5, 6, 7, 1, 0] rfl)
set_option maxHeartbeats 4000000 in
set_option maxRecDepth 100000 in
theorem ct_X9_alike (l : Launch) (D : va_G) (g : tw_G) (hT : tw_T g) (sz : Nat) (σ : tw_S) (a0 : Nat) (h0 : tw_is g 9 a0) (x1 : Int32) (x2 : Int32) (x3 : Int32) (x4 : Int32) (x5 : Int32) (Q : Int32 → tw_S → Prop) (h : wp_X9_alike g σ a0 x1 x2 x3 x4 x5 Q) : tw_Mi l yX9_alike wsX9_alike RM_X9_alike D g sz σ [.ref a0, .int x1, .int x2, .int x3, .int x4, .int x5] Q := by
  refine Met.ofW (cc := cX9_alike) (maxL := 8) (ret := (some .int)) (by decide) rfl ?_
  intro p e s m args below meth c s₁ B hml hv
  obtain ⟨rfl, hsz, hP, hK, hD0⟩ := hv
  subst hsz
  have hr := B.returns
  have hlk := B.notSynchronized
  have X : CallFix p m c cX9_alike 8 s _ wsX9_alike RX9 := ⟨B.exec, B.bytes, hml, findClass_of_methodNamed B.named, atoms_spec (ws := wsX9_alike) B.pre⟩
  have w := tw_w0 hP hD0
  have hl := lv_entry ([.ref a0, .int x1, .int x2, .int x3, .int x4, .int x5]) (n := 8) (Nat.le_of_ble_eq_true rfl)
  rw [lg_entry_eq]
  generalize (lg_sl ([.ref a0, .int x1, .int x2, .int x3, .int x4, .int x5]) ++ List.replicate (8 - (lg_sl ([.ref a0, .int x1, .int x2, .int x3, .int x4, .int x5])).length) Slot.unset).toArray = ls at hl ⊢
  have hl : lv_has ls 8 [(0, .ref a0), (1, .int x1), (2, .int x2), (3, .int x3), (4, .int x4), (5, .int x5)] := hl
  unfold wp_X9_alike at h
  refine lv_iload_n X.1 X.2.1 dX9_alike_0 rfl (lv_at hl 1 rfl) ?_
  refine tw_ci w (va_runS (As := [.int x1]) (rest := []) X (ct_X9_isMachine l D g hT _ σ x1 _ h) (va_cwS 1 X.2.2.2.2 gX9_alike_X9_isMachine rfl rfl rfl (by decide +kernel) ⟨Nat.le_of_ble_eq_true rfl, Nat.le_of_ble_eq_true rfl⟩) (tw_pre hK w [.int x1]) rfl rfl hl.1 rfl (lv_room (Nat.le_of_ble_eq_true rfl)) dX9_alike_1 ⟨Nat.zero_le _, Nat.zero_le _⟩) (fun r2 σ1 H locs h w => ?_)
  refine lv_if_ne (tgt := 10) X.1 X.2.1 dX9_alike_4 (by decide) (fun c3 => ?_) (fun c3 => ?_)
  · have h := h.1 c3
    refine lv_aload_n X.1 X.2.1 dX9_alike_10 rfl (lv_at hl 0 rfl) ?_
    refine lv_iload_n X.1 X.2.1 dX9_alike_11 rfl (lv_at hl 2 rfl) ?_
    refine lv_iload_n X.1 X.2.1 dX9_alike_12 rfl (lv_at hl 3 rfl) ?_
    refine tw_ci w (va_runV (As := [.int x2, .int x3]) (rest := []) X (ct_X9_isPiece l D g hT _ σ1 a0 h0 x2 x3 _ h) (cwV 2 X.2.2.2.2 gX9_alike_X9_isPiece rfl rfl rfl (by decide +kernel) ⟨Nat.le_of_ble_eq_true rfl, Nat.le_of_ble_eq_true rfl⟩) (tw_preV hK w h0 (by decide) rfl [.int x2, .int x3]) rfl rfl hl.1 rfl (lv_room (Nat.le_of_ble_eq_true rfl)) dX9_alike_13 ⟨Nat.zero_le _, Nat.zero_le _⟩) (fun r5 σ4 H locs h w => ?_)
    refine lv_if_eq (tgt := 30) X.1 X.2.1 dX9_alike_16 (by decide) (fun c6 => ?_) (fun c6 => ?_)
    · have h := h.1 c6
      refine lv_ldc (own := RX9) (v := -1000000002) X.1 X.2.1 X.2.2.2.1 (X.2.2.2.2 _ (List.mem_of_getElem? (i := 2) rfl)) dX9_alike_30 ?_
      exact tw_iret X hr hlk w h dX9_alike_32
    · have h := h.2 c6
      refine lv_aload_n X.1 X.2.1 dX9_alike_19 rfl (lv_at hl 0 rfl) ?_
      refine lv_iload X.1 X.2.1 dX9_alike_20 (lv_at hl 4 rfl) ?_
      refine lv_iload X.1 X.2.1 dX9_alike_22 (lv_at hl 5 rfl) ?_
      refine tw_ci w (va_runV (As := [.int x4, .int x5]) (rest := []) X (ct_X9_isPiece l D g hT _ σ4 a0 h0 x4 x5 _ h) (cwV 2 X.2.2.2.2 gX9_alike_X9_isPiece rfl rfl rfl (by decide +kernel) ⟨Nat.le_of_ble_eq_true rfl, Nat.le_of_ble_eq_true rfl⟩) (tw_preV hK w h0 (by decide) rfl [.int x4, .int x5]) rfl rfl hl.1 rfl (lv_room (Nat.le_of_ble_eq_true rfl)) dX9_alike_24 ⟨Nat.zero_le _, Nat.zero_le _⟩) (fun r8 σ7 H locs h w => ?_)
      refine lv_if_ne (tgt := 33) X.1 X.2.1 dX9_alike_27 (by decide) (fun c9 => ?_) (fun c9 => ?_)
      · have h := h.1 c9
        refine lv_iconst (v := 1) X.1 X.2.1 dX9_alike_33 (by decide) ?_
        refine lv_istore (lv' := [(6, .int (1 : Int32)), (0, .ref a0), (1, .int x1), (2, .int x2), (3, .int x3), (4, .int x4), (5, .int x5)]) X.1 X.2.1 dX9_alike_34 hl (by decide) rfl (fun ls hl => ?_)
        refine lv_iconst (v := 0) X.1 X.2.1 dX9_alike_36 (by decide) ?_
        refine lv_istore (lv' := [(7, .int (0 : Int32)), (6, .int (1 : Int32)), (0, .ref a0), (1, .int x1), (2, .int x2), (3, .int x3), (4, .int x4), (5, .int x5)]) X.1 X.2.1 dX9_alike_37 hl (by decide) rfl (fun ls hl => ?_)
        obtain ⟨n39, h⟩ := h
        refine lp_X9_alike_39 X hr hlk hK hT h0 (fun v19 σ20 H locs ls h w hl => ?_) n39 (1 : Int32) (0 : Int32) σ7 _ _ ls h w (lv_sub hl [2, 3, 4, 5, 6, 7, 1, 0] rfl)
        · skip
          refine lv_iload X.1 X.2.1 dX9_alike_104 (lv_at hl 0 rfl) ?_
          refine lv_if_eq (tgt := 113) X.1 X.2.1 dX9_alike_106 (by decide) (fun c21 => ?_) (fun c21 => ?_)
          · have h := h.1 c21
            refine lv_iconst (v := 0) X.1 X.2.1 dX9_alike_113 (by decide) ?_
            exact tw_iret X hr hlk w h dX9_alike_114
          · have h := h.2 c21
            refine lv_iconst (v := 1) X.1 X.2.1 dX9_alike_109 (by decide) ?_
            refine lv_goto (tgt := 114) X.1 X.2.1 dX9_alike_110 (by decide) ?_
            exact tw_iret X hr hlk w h dX9_alike_114
      · have h := h.2 c9
        refine lv_ldc (own := RX9) (v := -1000000002) X.1 X.2.1 X.2.2.2.1 (X.2.2.2.2 _ (List.mem_of_getElem? (i := 2) rfl)) dX9_alike_30 ?_
        exact tw_iret X hr hlk w h dX9_alike_32
  · have h := h.2 c3
    refine lv_ldc (own := RX9) (v := -1000000001) X.1 X.2.1 X.2.2.2.1 (X.2.2.2.2 _ (List.mem_of_getElem? (i := 1) rfl)) dX9_alike_7 ?_
    exact tw_iret X hr hlk w h dX9_alike_9

abbrev RM_X9_isLike : Room := { frames := 1, cells := 0, slots := 0, locals := 22 }
theorem iw_X9_isLike_9 : ∀ w ∈ wsX90, w ∈ wsX9_isLike := fun w h => List.mem_cons_of_mem _ (List.mem_append_right _ (h))
def wl_X9_isLike_25 (g : tw_G) (a0 : Nat) (x1 : Int32) (x2 : Int32) (x3 : Int32) (Q : Int32 → tw_S → Prop) (k94 : Int32 → tw_S → Prop) : Nat → Int32 → Int32 → tw_S → Prop
  | 0, _, _, _ => False
  | n + 1, x4, x5, σ => (((2 : Int32) ≤ x5) → k94 x4 σ) ∧ (¬ ((2 : Int32) ≤ x5) → ((x4 = 0) → wl_X9_isLike_25 g a0 x1 x2 x3 Q k94 n (0 : Int32) (x5 + 1) σ) ∧ (¬ (x4 = 0) → wp_X9_at g σ a0 x1 x2 (fun r7 σ6 => vp_in (((2 : Int32) * r7) + x5) 604 ∧ vp_in (tw_A σ6 (tw_R g a0 22) (((2 : Int32) * r7) + x5).toNatClampNeg) 151 ∧ wp_X9_at g σ6 a0 x1 x3 (fun r11 σ10 => vp_in (((2 : Int32) * r11) + x5) 604 ∧ vp_in (tw_A σ10 (tw_R g a0 22) (((2 : Int32) * r11) + x5).toNatClampNeg) 151 ∧ ((¬ (tw_A σ6 (tw_R g a0 26) (tw_A σ6 (tw_R g a0 22) (((2 : Int32) * r7) + x5).toNatClampNeg).toNatClampNeg) = (tw_A σ10 (tw_R g a0 26) (tw_A σ10 (tw_R g a0 22) (((2 : Int32) * r11) + x5).toNatClampNeg).toNatClampNeg)) → wl_X9_isLike_25 g a0 x1 x2 x3 Q k94 n (0 : Int32) (x5 + 1) σ10) ∧ (((tw_A σ6 (tw_R g a0 26) (tw_A σ6 (tw_R g a0 22) (((2 : Int32) * r7) + x5).toNatClampNeg).toNatClampNeg) = (tw_A σ10 (tw_R g a0 26) (tw_A σ10 (tw_R g a0 22) (((2 : Int32) * r11) + x5).toNatClampNeg).toNatClampNeg)) → wl_X9_isLike_25 g a0 x1 x2 x3 Q k94 n (1 : Int32) (x5 + 1) σ10)))))
def wp_X9_isLike (g : tw_G) (σ : tw_S) (a0 : Nat) (x1 : Int32) (x2 : Int32) (x3 : Int32) (Q : Int32 → tw_S → Prop) : Prop := vp_in x2 151 ∧ vp_in x3 151 ∧ ((¬ (tw_A σ (tw_R g a0 26) x2.toNatClampNeg) = (tw_A σ (tw_R g a0 26) x3.toNatClampNeg)) → ∃ n25, wl_X9_isLike_25 g a0 x1 x2 x3 Q (fun v15 σ16 => narrow .boolean (.int v15) = .int v15 ∧ Q v15 σ16) n25 (0 : Int32) (0 : Int32) σ) ∧ (((tw_A σ (tw_R g a0 26) x2.toNatClampNeg) = (tw_A σ (tw_R g a0 26) x3.toNatClampNeg)) → ∃ n25, wl_X9_isLike_25 g a0 x1 x2 x3 Q (fun v17 σ18 => narrow .boolean (.int v17) = .int v17 ∧ Q v17 σ18) n25 (1 : Int32) (0 : Int32) σ)
set_option maxHeartbeats 4000000 in
set_option maxRecDepth 100000 in
theorem lp_X9_isLike_25 {p : Program} {l : Launch} {e : Env} {s : State} {m : MethodId} {args : Array Value} {below : List Frame} {meth : Method} {c : Code} {D : va_G} {g : tw_G} (X : CallFix p m c cX9_isLike 6 s args wsX9_isLike RX9) (hr : meth.sig.returnType = (some .boolean)) (hlk : meth.locks = false) (hK : tw_k D g s) (hT : tw_T g) {a0 : Nat} {x1 : Int32} {x2 : Int32} {x3 : Int32} (h0 : tw_is g 9 a0) {Q : Int32 → tw_S → Prop} {k94 : Int32 → tw_S → Prop}
    (hk94 : ∀ (x4 : Int32) (σ : tw_S) (H : Heap) (locs : List Loc) (ls : Array Slot), k94 x4 σ → tw_w D g (tw_F g s.heap.size) s σ H locs → lv_has ls 6 [(4, .int x4)] → W p l e RM_X9_isLike s m args below meth c H locs 0 0 (tw_Qi Q D g below args s) (F0 m 94 ls []))
    : ∀ (n : Nat) (x4 : Int32) (x5 : Int32) (σ : tw_S) (H : Heap) (locs : List Loc) (ls : Array Slot), wl_X9_isLike_25 g a0 x1 x2 x3 Q k94 n x4 x5 σ → tw_w D g (tw_F g s.heap.size) s σ H locs → lv_has ls 6 [(0, .ref a0), (1, .int x1), (2, .int x2), (3, .int x3), (4, .int x4), (5, .int x5)] → W p l e RM_X9_isLike s m args below meth c H locs 0 0 (tw_Qi Q D g below args s) (F0 m 25 ls []) := by
  intro n
  induction n with
  | zero =>
    intro x4 x5 σ H locs ls h w hl
    exact False.elim h
  | succ n ih =>
    intro x4 x5 σ H locs ls h w hl
    rw [wl_X9_isLike_25] at h
    refine lv_iload X.1 X.2.1 dX9_isLike_25 (lv_at hl 5 rfl) ?_
    refine lv_iconst (v := 2) X.1 X.2.1 dX9_isLike_27 (by decide) ?_
    refine lv_icmp_ge (tgt := 94) X.1 X.2.1 dX9_isLike_28 (by decide) (fun c4 => ?_) (fun c4 => ?_)
    · have h := h.1 c4
      exact hk94 x4 σ _ _ ls h w (lv_sub hl [4] rfl)
    · have h := h.2 c4
      refine lv_iload X.1 X.2.1 dX9_isLike_31 (lv_at hl 4 rfl) ?_
      refine lv_if_eq (tgt := 85) X.1 X.2.1 dX9_isLike_33 (by decide) (fun c5 => ?_) (fun c5 => ?_)
      · have h := h.1 c5
        refine lv_iconst (v := 0) X.1 X.2.1 dX9_isLike_85 (by decide) ?_
        refine lv_istore (lv' := [(4, .int (0 : Int32)), (0, .ref a0), (1, .int x1), (2, .int x2), (3, .int x3), (5, .int x5)]) X.1 X.2.1 dX9_isLike_86 hl (by decide) rfl (fun ls hl => ?_)
        refine lv_iinc (v := (x5 + 1)) (lv' := [(5, .int (x5 + 1)), (4, .int (0 : Int32)), (0, .ref a0), (1, .int x1), (2, .int x2), (3, .int x3)]) X.1 X.2.1 dX9_isLike_88 hl (k := 5) rfl rfl (by decide) rfl (fun ls hl => ?_)
        refine lv_goto (tgt := 25) X.1 X.2.1 dX9_isLike_91 (by decide) ?_
        exact ih (0 : Int32) (x5 + 1) σ _ _ ls h w (lv_sub hl [2, 3, 4, 5, 1, 0] rfl)
      · have h := h.2 c5
        refine lv_aload_n X.1 X.2.1 dX9_isLike_36 rfl (lv_at hl 0 rfl) ?_
        refine tw_get X hK w 9 iw_X9_isLike_9 h0 (by decide) rfl 26 (by decide) (List.mem_of_getElem? (i := 1) rfl) rfl dX9_isLike_37 ?_
        refine lv_aload_n X.1 X.2.1 dX9_isLike_40 rfl (lv_at hl 0 rfl) ?_
        refine tw_get X hK w 9 iw_X9_isLike_9 h0 (by decide) rfl 22 (by decide) (List.mem_of_getElem? (i := 2) rfl) rfl dX9_isLike_41 ?_
        refine lv_iconst (v := 2) X.1 X.2.1 dX9_isLike_44 (by decide) ?_
        refine lv_aload_n X.1 X.2.1 dX9_isLike_45 rfl (lv_at hl 0 rfl) ?_
        refine lv_iload_n X.1 X.2.1 dX9_isLike_46 rfl (lv_at hl 1 rfl) ?_
        refine lv_iload_n X.1 X.2.1 dX9_isLike_47 rfl (lv_at hl 2 rfl) ?_
        refine tw_ci w (va_runV (As := [.int x1, .int x2]) (rest := [.int (2 : Int32), .ref (tw_R g a0 22), .ref (tw_R g a0 26)]) X (ct_X9_at l D g hT _ σ a0 h0 x1 x2 _ h) (cwV 2 X.2.2.2.2 gX9_isLike_X9_at rfl rfl rfl (by decide +kernel) ⟨Nat.le_of_ble_eq_true rfl, Nat.le_of_ble_eq_true rfl⟩) (tw_preV hK w h0 (by decide) rfl [.int x1, .int x2]) rfl rfl hl.1 rfl (lv_room (Nat.le_of_ble_eq_true rfl)) dX9_isLike_48 ⟨Nat.zero_le _, Nat.zero_le _⟩) (fun r7 σ6 H locs h w => ?_)
        refine lv_imul X.1 X.2.1 dX9_isLike_51 ?_
        refine lv_iload X.1 X.2.1 dX9_isLike_52 (lv_at hl 5 rfl) ?_
        refine lv_iadd X.1 X.2.1 dX9_isLike_54 ?_
        obtain ⟨hi8, h⟩ := h
        refine tw_iald X hK w (tw_t_9_22 hT h0) (tw_n_9_22 hT h0) hi8 dX9_isLike_55 ?_
        obtain ⟨hi9, h⟩ := h
        refine tw_iald X hK w (tw_t_9_26 hT h0) (tw_n_9_26 hT h0) hi9 dX9_isLike_56 ?_
        refine lv_aload_n X.1 X.2.1 dX9_isLike_57 rfl (lv_at hl 0 rfl) ?_
        refine tw_get X hK w 9 iw_X9_isLike_9 h0 (by decide) rfl 26 (by decide) (List.mem_of_getElem? (i := 1) rfl) rfl dX9_isLike_58 ?_
        refine lv_aload_n X.1 X.2.1 dX9_isLike_61 rfl (lv_at hl 0 rfl) ?_
        refine tw_get X hK w 9 iw_X9_isLike_9 h0 (by decide) rfl 22 (by decide) (List.mem_of_getElem? (i := 2) rfl) rfl dX9_isLike_62 ?_
        refine lv_iconst (v := 2) X.1 X.2.1 dX9_isLike_65 (by decide) ?_
        refine lv_aload_n X.1 X.2.1 dX9_isLike_66 rfl (lv_at hl 0 rfl) ?_
        refine lv_iload_n X.1 X.2.1 dX9_isLike_67 rfl (lv_at hl 1 rfl) ?_
        refine lv_iload_n X.1 X.2.1 dX9_isLike_68 rfl (lv_at hl 3 rfl) ?_
        refine tw_ci w (va_runV (As := [.int x1, .int x3]) (rest := [.int (2 : Int32), .ref (tw_R g a0 22), .ref (tw_R g a0 26), .int (tw_A σ6 (tw_R g a0 26) (tw_A σ6 (tw_R g a0 22) (((2 : Int32) * r7) + x5).toNatClampNeg).toNatClampNeg)]) X (ct_X9_at l D g hT _ σ6 a0 h0 x1 x3 _ h) (cwV 2 X.2.2.2.2 gX9_isLike_X9_at rfl rfl rfl (by decide +kernel) ⟨Nat.le_of_ble_eq_true rfl, Nat.le_of_ble_eq_true rfl⟩) (tw_preV hK w h0 (by decide) rfl [.int x1, .int x3]) rfl rfl hl.1 rfl (lv_room (Nat.le_of_ble_eq_true rfl)) dX9_isLike_69 ⟨Nat.zero_le _, Nat.zero_le _⟩) (fun r11 σ10 H locs h w => ?_)
        refine lv_imul X.1 X.2.1 dX9_isLike_72 ?_
        refine lv_iload X.1 X.2.1 dX9_isLike_73 (lv_at hl 5 rfl) ?_
        refine lv_iadd X.1 X.2.1 dX9_isLike_75 ?_
        obtain ⟨hi12, h⟩ := h
        refine tw_iald X hK w (tw_t_9_22 hT h0) (tw_n_9_22 hT h0) hi12 dX9_isLike_76 ?_
        obtain ⟨hi13, h⟩ := h
        refine tw_iald X hK w (tw_t_9_26 hT h0) (tw_n_9_26 hT h0) hi13 dX9_isLike_77 ?_
        refine lv_icmp_ne (tgt := 85) X.1 X.2.1 dX9_isLike_78 (by decide) (fun c14 => ?_) (fun c14 => ?_)
        · have h := h.1 c14
          refine lv_iconst (v := 0) X.1 X.2.1 dX9_isLike_85 (by decide) ?_
          refine lv_istore (lv' := [(4, .int (0 : Int32)), (0, .ref a0), (1, .int x1), (2, .int x2), (3, .int x3), (5, .int x5)]) X.1 X.2.1 dX9_isLike_86 hl (by decide) rfl (fun ls hl => ?_)
          refine lv_iinc (v := (x5 + 1)) (lv' := [(5, .int (x5 + 1)), (4, .int (0 : Int32)), (0, .ref a0), (1, .int x1), (2, .int x2), (3, .int x3)]) X.1 X.2.1 dX9_isLike_88 hl (k := 5) rfl rfl (by decide) rfl (fun ls hl => ?_)
          refine lv_goto (tgt := 25) X.1 X.2.1 dX9_isLike_91 (by decide) ?_
          exact ih (0 : Int32) (x5 + 1) σ10 _ _ ls h w (lv_sub hl [2, 3, 4, 5, 1, 0] rfl)
        · have h := h.2 c14
          refine lv_iconst (v := 1) X.1 X.2.1 dX9_isLike_81 (by decide) ?_
          refine lv_goto (tgt := 86) X.1 X.2.1 dX9_isLike_82 (by decide) ?_
          refine lv_istore (lv' := [(4, .int (1 : Int32)), (0, .ref a0), (1, .int x1), (2, .int x2), (3, .int x3), (5, .int x5)]) X.1 X.2.1 dX9_isLike_86 hl (by decide) rfl (fun ls hl => ?_)
          refine lv_iinc (v := (x5 + 1)) (lv' := [(5, .int (x5 + 1)), (4, .int (1 : Int32)), (0, .ref a0), (1, .int x1), (2, .int x2), (3, .int x3)]) X.1 X.2.1 dX9_isLike_88 hl (k := 5) rfl rfl (by decide) rfl (fun ls hl => ?_)
          refine lv_goto (tgt := 25) X.1 X.2.1 dX9_isLike_91 (by decide) ?_
          exact ih (1 : Int32) (x5 + 1) σ10 _ _ ls h w (lv_sub hl [2, 3, 4, 5, 1, 0] rfl)
set_option maxHeartbeats 4000000 in
set_option maxRecDepth 100000 in
theorem ct_X9_isLike (l : Launch) (D : va_G) (g : tw_G) (hT : tw_T g) (sz : Nat) (σ : tw_S) (a0 : Nat) (h0 : tw_is g 9 a0) (x1 : Int32) (x2 : Int32) (x3 : Int32) (Q : Int32 → tw_S → Prop) (h : wp_X9_isLike g σ a0 x1 x2 x3 Q) : tw_Mi l yX9_isLike wsX9_isLike RM_X9_isLike D g sz σ [.ref a0, .int x1, .int x2, .int x3] Q := by
  refine Met.ofW (cc := cX9_isLike) (maxL := 6) (ret := (some .boolean)) (by decide) rfl ?_
  intro p e s m args below meth c s₁ B hml hv
  obtain ⟨rfl, hsz, hP, hK, hD0⟩ := hv
  subst hsz
  have hr := B.returns
  have hlk := B.notSynchronized
  have X : CallFix p m c cX9_isLike 6 s _ wsX9_isLike RX9 := ⟨B.exec, B.bytes, hml, findClass_of_methodNamed B.named, atoms_spec (ws := wsX9_isLike) B.pre⟩
  have w := tw_w0 hP hD0
  have hl := lv_entry ([.ref a0, .int x1, .int x2, .int x3]) (n := 6) (Nat.le_of_ble_eq_true rfl)
  rw [lg_entry_eq]
  generalize (lg_sl ([.ref a0, .int x1, .int x2, .int x3]) ++ List.replicate (6 - (lg_sl ([.ref a0, .int x1, .int x2, .int x3])).length) Slot.unset).toArray = ls at hl ⊢
  have hl : lv_has ls 6 [(0, .ref a0), (1, .int x1), (2, .int x2), (3, .int x3)] := hl
  unfold wp_X9_isLike at h
  refine lv_aload_n X.1 X.2.1 dX9_isLike_0 rfl (lv_at hl 0 rfl) ?_
  refine tw_get X hK w 9 iw_X9_isLike_9 h0 (by decide) rfl 26 (by decide) (List.mem_of_getElem? (i := 1) rfl) rfl dX9_isLike_1 ?_
  refine lv_iload_n X.1 X.2.1 dX9_isLike_4 rfl (lv_at hl 2 rfl) ?_
  obtain ⟨hi1, h⟩ := h
  refine tw_iald X hK w (tw_t_9_26 hT h0) (tw_n_9_26 hT h0) hi1 dX9_isLike_5 ?_
  refine lv_aload_n X.1 X.2.1 dX9_isLike_6 rfl (lv_at hl 0 rfl) ?_
  refine tw_get X hK w 9 iw_X9_isLike_9 h0 (by decide) rfl 26 (by decide) (List.mem_of_getElem? (i := 1) rfl) rfl dX9_isLike_7 ?_
  refine lv_iload_n X.1 X.2.1 dX9_isLike_10 rfl (lv_at hl 3 rfl) ?_
  obtain ⟨hi2, h⟩ := h
  refine tw_iald X hK w (tw_t_9_26 hT h0) (tw_n_9_26 hT h0) hi2 dX9_isLike_11 ?_
  refine lv_icmp_ne (tgt := 19) X.1 X.2.1 dX9_isLike_12 (by decide) (fun c3 => ?_) (fun c3 => ?_)
  · have h := h.1 c3
    refine lv_iconst (v := 0) X.1 X.2.1 dX9_isLike_19 (by decide) ?_
    refine lv_istore (lv' := [(4, .int (0 : Int32)), (0, .ref a0), (1, .int x1), (2, .int x2), (3, .int x3)]) X.1 X.2.1 dX9_isLike_20 hl (by decide) rfl (fun ls hl => ?_)
    refine lv_iconst (v := 0) X.1 X.2.1 dX9_isLike_22 (by decide) ?_
    refine lv_istore (lv' := [(5, .int (0 : Int32)), (4, .int (0 : Int32)), (0, .ref a0), (1, .int x1), (2, .int x2), (3, .int x3)]) X.1 X.2.1 dX9_isLike_23 hl (by decide) rfl (fun ls hl => ?_)
    obtain ⟨n25, h⟩ := h
    refine lp_X9_isLike_25 X hr hlk hK hT h0 (fun v15 σ16 H locs ls h w hl => ?_) n25 (0 : Int32) (0 : Int32) σ _ _ ls h w (lv_sub hl [2, 3, 4, 5, 1, 0] rfl)
    · skip
      refine lv_iload X.1 X.2.1 dX9_isLike_94 (lv_at hl 0 rfl) ?_
      exact tw_zret X hr hlk w h.1 h.2 dX9_isLike_96
  · have h := h.2 c3
    refine lv_iconst (v := 1) X.1 X.2.1 dX9_isLike_15 (by decide) ?_
    refine lv_goto (tgt := 20) X.1 X.2.1 dX9_isLike_16 (by decide) ?_
    refine lv_istore (lv' := [(4, .int (1 : Int32)), (0, .ref a0), (1, .int x1), (2, .int x2), (3, .int x3)]) X.1 X.2.1 dX9_isLike_20 hl (by decide) rfl (fun ls hl => ?_)
    refine lv_iconst (v := 0) X.1 X.2.1 dX9_isLike_22 (by decide) ?_
    refine lv_istore (lv' := [(5, .int (0 : Int32)), (4, .int (1 : Int32)), (0, .ref a0), (1, .int x1), (2, .int x2), (3, .int x3)]) X.1 X.2.1 dX9_isLike_23 hl (by decide) rfl (fun ls hl => ?_)
    obtain ⟨n25, h⟩ := h
    refine lp_X9_isLike_25 X hr hlk hK hT h0 (fun v17 σ18 H locs ls h w hl => ?_) n25 (1 : Int32) (0 : Int32) σ _ _ ls h w (lv_sub hl [2, 3, 4, 5, 1, 0] rfl)
    · skip
      refine lv_iload X.1 X.2.1 dX9_isLike_94 (lv_at hl 0 rfl) ?_
      exact tw_zret X hr hlk w h.1 h.2 dX9_isLike_96

abbrev RM_X9_least : Room := { frames := 2, cells := 0, slots := 0, locals := 47 }
theorem iw_X9_least_9 : ∀ w ∈ wsX90, w ∈ wsX9_least := fun w h => List.mem_cons_of_mem _ (List.mem_append_right _ (h))
def wl_X9_least_7 (g : tw_G) (a0 : Nat) (x1 : Int32) (x2 : Int32) (x3 : Int32) (Q : Int32 → tw_S → Prop) (k43 : tw_S → Prop) : Nat → Int32 → tw_S → Prop
  | 0, _, _ => False
  | n + 1, x4, σ => vp_in x1 2 ∧ (((tw_A σ (tw_R g a0 20) x1.toNatClampNeg) ≤ x4) → k43  σ) ∧ (¬ ((tw_A σ (tw_R g a0 20) x1.toNatClampNeg) ≤ x4) → wp_X9_at g σ a0 x1 x4 (fun r4 σ3 => vp_in r4 302 ∧ vp_in x4 151 ∧ ∀ σ7, σ7 = (tw_sA σ3 (tw_R g a0 26) (upd (tw_A σ3 (tw_R g a0 26)) x4.toNatClampNeg (tw_A σ3 (tw_R g a0 23) r4.toNatClampNeg))) → wl_X9_least_7 g a0 x1 x2 x3 Q k43 n (x4 + 1) σ7))
def wl_X9_least_76 (g : tw_G) (a0 : Nat) (x1 : Int32) (x2 : Int32) (x3 : Int32) (x4 : Int32) (Q : Int32 → tw_S → Prop) (k108 : Int32 → tw_S → Prop) : Nat → Int32 → Int32 → tw_S → Prop
  | 0, _, _, _ => False
  | n + 1, x5, x6, σ => ((x6 < 0) → k108 x5 σ) ∧ (¬ (x6 < 0) → wp_X9_isLike g σ a0 x1 x6 x4 (fun r14 σ13 => ((r14 = 0) → wl_X9_least_76 g a0 x1 x2 x3 x4 Q k108 n x5 (x6 + (-1)) σ13) ∧ (¬ (r14 = 0) → wl_X9_least_76 g a0 x1 x2 x3 x4 Q k108 n x6 (x6 + (-1)) σ13)))
def wl_X9_least_55 (g : tw_G) (a0 : Nat) (x1 : Int32) (x2 : Int32) (Q : Int32 → tw_S → Prop) (k138 : Int32 → tw_S → Prop) : Nat → Int32 → Int32 → tw_S → Prop
  | 0, _, _, _ => False
  | n + 1, x3, x4, σ => vp_in x1 2 ∧ (((tw_A σ (tw_R g a0 20) x1.toNatClampNeg) ≤ x4) → k138 x3 σ) ∧ (¬ ((tw_A σ (tw_R g a0 20) x1.toNatClampNeg) ≤ x4) → ∃ n76, wl_X9_least_76 g a0 x1 x2 x3 x4 Q (fun v16 σ17 => vp_in x4 151 ∧ ∀ σ19, σ19 = (tw_sA σ17 (tw_R g a0 27) (upd (tw_A σ17 (tw_R g a0 27)) x4.toNatClampNeg v16)) → ((¬ v16 = x4) → wl_X9_least_55 g a0 x1 x2 Q k138 n (x3 + (0 : Int32)) (x4 + 1) σ19) ∧ ((v16 = x4) → wl_X9_least_55 g a0 x1 x2 Q k138 n (x3 + (1 : Int32)) (x4 + 1) σ19)) n76 x4 (x4 - (1 : Int32)) σ)
def wl_X9_least_141 (g : tw_G) (a0 : Nat) (x1 : Int32) (x2 : Int32) (x3 : Int32) (Q : Int32 → tw_S → Prop) (k172 : tw_S → Prop) : Nat → Int32 → tw_S → Prop
  | 0, _, _ => False
  | n + 1, x4, σ => vp_in x1 2 ∧ (((tw_A σ (tw_R g a0 20) x1.toNatClampNeg) ≤ x4) → k172  σ) ∧ (¬ ((tw_A σ (tw_R g a0 20) x1.toNatClampNeg) ≤ x4) → vp_in x4 151 ∧ vp_in x4 151 ∧ ∀ σ27, σ27 = (tw_sA σ (tw_R g a0 26) (upd (tw_A σ (tw_R g a0 26)) x4.toNatClampNeg (tw_A σ (tw_R g a0 27) x4.toNatClampNeg))) → wl_X9_least_141 g a0 x1 x2 x3 Q k172 n (x4 + 1) σ27)
def wl_X9_least_43 (g : tw_G) (a0 : Nat) (x1 : Int32) (Q : Int32 → tw_S → Prop) (k175 : Int32 → tw_S → Prop) : Nat → Int32 → Int32 → tw_S → Prop
  | 0, _, _, _ => False
  | n + 1, x2, x3, σ => ((x3 ≤ x2) → k175 x3 σ) ∧ (¬ (x3 ≤ x2) → ∃ n55, wl_X9_least_55 g a0 x1 x3 Q (fun v21 σ22 => ∃ n141, wl_X9_least_141 g a0 x1 x3 v21 Q (fun σ28 => wl_X9_least_43 g a0 x1 Q k175 n x3 v21 σ28) n141 (0 : Int32) σ22) n55 (0 : Int32) (0 : Int32) σ)
def wp_X9_least (g : tw_G) (σ : tw_S) (a0 : Nat) (x1 : Int32) (Q : Int32 → tw_S → Prop) : Prop := ∃ n7, wl_X9_least_7 g a0 x1 (0 : Int32) (1 : Int32) Q (fun σ8 => ∃ n43, wl_X9_least_43 g a0 x1 Q (fun v29 σ30 => Q v29 σ30) n43 (0 : Int32) (1 : Int32) σ8) n7 (0 : Int32) σ
set_option maxHeartbeats 4000000 in
set_option maxRecDepth 100000 in
theorem lp_X9_least_7 {p : Program} {l : Launch} {e : Env} {s : State} {m : MethodId} {args : Array Value} {below : List Frame} {meth : Method} {c : Code} {D : va_G} {g : tw_G} (X : CallFix p m c cX9_least 7 s args wsX9_least RX9) (hr : meth.sig.returnType = (some .int)) (hlk : meth.locks = false) (hK : tw_k D g s) (hT : tw_T g) {a0 : Nat} {x1 : Int32} {x2 : Int32} {x3 : Int32} (h0 : tw_is g 9 a0) {Q : Int32 → tw_S → Prop} {k43 : tw_S → Prop}
    (hk43 : ∀  (σ : tw_S) (H : Heap) (locs : List Loc) (ls : Array Slot), k43  σ → tw_w D g (tw_F g s.heap.size) s σ H locs → lv_has ls 7 [(0, .ref a0), (1, .int x1), (2, .int x2), (3, .int x3)] → W p l e RM_X9_least s m args below meth c H locs 0 0 (tw_Qi Q D g below args s) (F0 m 43 ls []))
    : ∀ (n : Nat) (x4 : Int32) (σ : tw_S) (H : Heap) (locs : List Loc) (ls : Array Slot), wl_X9_least_7 g a0 x1 x2 x3 Q k43 n x4 σ → tw_w D g (tw_F g s.heap.size) s σ H locs → lv_has ls 7 [(0, .ref a0), (1, .int x1), (2, .int x2), (3, .int x3), (4, .int x4)] → W p l e RM_X9_least s m args below meth c H locs 0 0 (tw_Qi Q D g below args s) (F0 m 7 ls []) := by
  intro n
  induction n with
  | zero =>
    intro x4 σ H locs ls h w hl
    exact False.elim h
  | succ n ih =>
    intro x4 σ H locs ls h w hl
    rw [wl_X9_least_7] at h
    refine lv_iload X.1 X.2.1 dX9_least_7 (lv_at hl 4 rfl) ?_
    refine lv_aload_n X.1 X.2.1 dX9_least_9 rfl (lv_at hl 0 rfl) ?_
    refine tw_get X hK w 9 iw_X9_least_9 h0 (by decide) rfl 20 (by decide) (List.mem_of_getElem? (i := 1) rfl) rfl dX9_least_10 ?_
    refine lv_iload_n X.1 X.2.1 dX9_least_13 rfl (lv_at hl 1 rfl) ?_
    obtain ⟨hi1, h⟩ := h
    refine tw_iald X hK w (tw_t_9_20 hT h0) (tw_n_9_20 hT h0) hi1 dX9_least_14 ?_
    refine lv_icmp_ge (tgt := 43) X.1 X.2.1 dX9_least_15 (by decide) (fun c2 => ?_) (fun c2 => ?_)
    · have h := h.1 c2
      exact hk43  σ _ _ ls h w (lv_sub hl [0, 1, 2, 3] rfl)
    · have h := h.2 c2
      refine lv_aload_n X.1 X.2.1 dX9_least_18 rfl (lv_at hl 0 rfl) ?_
      refine tw_get X hK w 9 iw_X9_least_9 h0 (by decide) rfl 26 (by decide) (List.mem_of_getElem? (i := 2) rfl) rfl dX9_least_19 ?_
      refine lv_iload X.1 X.2.1 dX9_least_22 (lv_at hl 4 rfl) ?_
      refine lv_aload_n X.1 X.2.1 dX9_least_24 rfl (lv_at hl 0 rfl) ?_
      refine tw_get X hK w 9 iw_X9_least_9 h0 (by decide) rfl 23 (by decide) (List.mem_of_getElem? (i := 3) rfl) rfl dX9_least_25 ?_
      refine lv_aload_n X.1 X.2.1 dX9_least_28 rfl (lv_at hl 0 rfl) ?_
      refine lv_iload_n X.1 X.2.1 dX9_least_29 rfl (lv_at hl 1 rfl) ?_
      refine lv_iload X.1 X.2.1 dX9_least_30 (lv_at hl 4 rfl) ?_
      refine tw_ci w (va_runV (As := [.int x1, .int x4]) (rest := [.ref (tw_R g a0 23), .int x4, .ref (tw_R g a0 26)]) X (ct_X9_at l D g hT _ σ a0 h0 x1 x4 _ h) (cwV 2 X.2.2.2.2 gX9_least_X9_at rfl rfl rfl (by decide +kernel) ⟨Nat.le_of_ble_eq_true rfl, Nat.le_of_ble_eq_true rfl⟩) (tw_preV hK w h0 (by decide) rfl [.int x1, .int x4]) rfl rfl hl.1 rfl (lv_room (Nat.le_of_ble_eq_true rfl)) dX9_least_32 ⟨Nat.zero_le _, Nat.zero_le _⟩) (fun r4 σ3 H locs h w => ?_)
      obtain ⟨hi5, h⟩ := h
      refine tw_iald X hK w (tw_t_9_23 hT h0) (tw_n_9_23 hT h0) hi5 dX9_least_35 ?_
      obtain ⟨hi6, h⟩ := h
      refine tw_iast X hK w (tw_t_9_26 hT h0) (tw_n_9_26 hT h0) hi6 dX9_least_36 (fun σ7 H locs eσ7 w => ?_)
      have h := h _ eσ7
      refine lv_iinc (v := (x4 + 1)) (lv' := [(4, .int (x4 + 1)), (0, .ref a0), (1, .int x1), (2, .int x2), (3, .int x3)]) X.1 X.2.1 dX9_least_37 hl (k := 4) rfl rfl (by decide) rfl (fun ls hl => ?_)
      refine lv_goto (tgt := 7) X.1 X.2.1 dX9_least_40 (by decide) ?_
      exact ih (x4 + 1) σ7 _ _ ls h w (lv_sub hl [1, 2, 3, 4, 0] rfl)
set_option maxHeartbeats 4000000 in
set_option maxRecDepth 100000 in
theorem lp_X9_least_76 {p : Program} {l : Launch} {e : Env} {s : State} {m : MethodId} {args : Array Value} {below : List Frame} {meth : Method} {c : Code} {D : va_G} {g : tw_G} (X : CallFix p m c cX9_least 7 s args wsX9_least RX9) (hr : meth.sig.returnType = (some .int)) (hlk : meth.locks = false) (hK : tw_k D g s) (hT : tw_T g) {a0 : Nat} {x1 : Int32} {x2 : Int32} {x3 : Int32} {x4 : Int32} (h0 : tw_is g 9 a0) {Q : Int32 → tw_S → Prop} {k108 : Int32 → tw_S → Prop}
    (hk108 : ∀ (x5 : Int32) (σ : tw_S) (H : Heap) (locs : List Loc) (ls : Array Slot), k108 x5 σ → tw_w D g (tw_F g s.heap.size) s σ H locs → lv_has ls 7 [(0, .ref a0), (1, .int x1), (2, .int x2), (3, .int x3), (4, .int x4), (5, .int x5)] → W p l e RM_X9_least s m args below meth c H locs 0 0 (tw_Qi Q D g below args s) (F0 m 108 ls []))
    : ∀ (n : Nat) (x5 : Int32) (x6 : Int32) (σ : tw_S) (H : Heap) (locs : List Loc) (ls : Array Slot), wl_X9_least_76 g a0 x1 x2 x3 x4 Q k108 n x5 x6 σ → tw_w D g (tw_F g s.heap.size) s σ H locs → lv_has ls 7 [(0, .ref a0), (1, .int x1), (2, .int x2), (3, .int x3), (4, .int x4), (5, .int x5), (6, .int x6)] → W p l e RM_X9_least s m args below meth c H locs 0 0 (tw_Qi Q D g below args s) (F0 m 76 ls []) := by
  intro n
  induction n with
  | zero =>
    intro x5 x6 σ H locs ls h w hl
    exact False.elim h
  | succ n ih =>
    intro x5 x6 σ H locs ls h w hl
    rw [wl_X9_least_76] at h
    refine lv_iload X.1 X.2.1 dX9_least_76 (lv_at hl 6 rfl) ?_
    refine lv_if_lt (tgt := 108) X.1 X.2.1 dX9_least_78 (by decide) (fun c12 => ?_) (fun c12 => ?_)
    · have h := h.1 c12
      exact hk108 x5 σ _ _ ls h w (lv_sub hl [0, 1, 2, 3, 4, 5] rfl)
    · have h := h.2 c12
      refine lv_aload_n X.1 X.2.1 dX9_least_81 rfl (lv_at hl 0 rfl) ?_
      refine lv_iload_n X.1 X.2.1 dX9_least_82 rfl (lv_at hl 1 rfl) ?_
      refine lv_iload X.1 X.2.1 dX9_least_83 (lv_at hl 6 rfl) ?_
      refine lv_iload X.1 X.2.1 dX9_least_85 (lv_at hl 4 rfl) ?_
      refine tw_ci w (va_runV (As := [.int x1, .int x6, .int x4]) (rest := []) X (ct_X9_isLike l D g hT _ σ a0 h0 x1 x6 x4 _ h) (cwV 3 X.2.2.2.2 gX9_least_X9_isLike rfl rfl rfl (by decide +kernel) ⟨Nat.le_of_ble_eq_true rfl, Nat.le_of_ble_eq_true rfl⟩) (tw_preV hK w h0 (by decide) rfl [.int x1, .int x6, .int x4]) rfl rfl hl.1 rfl (lv_room (Nat.le_of_ble_eq_true rfl)) dX9_least_87 ⟨Nat.zero_le _, Nat.zero_le _⟩) (fun r14 σ13 H locs h w => ?_)
      refine lv_if_eq (tgt := 98) X.1 X.2.1 dX9_least_90 (by decide) (fun c15 => ?_) (fun c15 => ?_)
      · have h := h.1 c15
        refine lv_iload X.1 X.2.1 dX9_least_98 (lv_at hl 5 rfl) ?_
        refine lv_istore (lv' := [(5, .int x5), (0, .ref a0), (1, .int x1), (2, .int x2), (3, .int x3), (4, .int x4), (6, .int x6)]) X.1 X.2.1 dX9_least_100 hl (by decide) rfl (fun ls hl => ?_)
        refine lv_iinc (v := (x6 + (-1))) (lv' := [(6, .int (x6 + (-1))), (5, .int x5), (0, .ref a0), (1, .int x1), (2, .int x2), (3, .int x3), (4, .int x4)]) X.1 X.2.1 dX9_least_102 hl (k := 6) rfl rfl (by decide) rfl (fun ls hl => ?_)
        refine lv_goto (tgt := 76) X.1 X.2.1 dX9_least_105 (by decide) ?_
        exact ih x5 (x6 + (-1)) σ13 _ _ ls h w (lv_sub hl [2, 3, 4, 5, 6, 1, 0] rfl)
      · have h := h.2 c15
        refine lv_iload X.1 X.2.1 dX9_least_93 (lv_at hl 6 rfl) ?_
        refine lv_goto (tgt := 100) X.1 X.2.1 dX9_least_95 (by decide) ?_
        refine lv_istore (lv' := [(5, .int x6), (0, .ref a0), (1, .int x1), (2, .int x2), (3, .int x3), (4, .int x4), (6, .int x6)]) X.1 X.2.1 dX9_least_100 hl (by decide) rfl (fun ls hl => ?_)
        refine lv_iinc (v := (x6 + (-1))) (lv' := [(6, .int (x6 + (-1))), (5, .int x6), (0, .ref a0), (1, .int x1), (2, .int x2), (3, .int x3), (4, .int x4)]) X.1 X.2.1 dX9_least_102 hl (k := 6) rfl rfl (by decide) rfl (fun ls hl => ?_)
        refine lv_goto (tgt := 76) X.1 X.2.1 dX9_least_105 (by decide) ?_
        exact ih x6 (x6 + (-1)) σ13 _ _ ls h w (lv_sub hl [2, 3, 4, 5, 6, 1, 0] rfl)
set_option maxHeartbeats 4000000 in
set_option maxRecDepth 100000 in
theorem lp_X9_least_55 {p : Program} {l : Launch} {e : Env} {s : State} {m : MethodId} {args : Array Value} {below : List Frame} {meth : Method} {c : Code} {D : va_G} {g : tw_G} (X : CallFix p m c cX9_least 7 s args wsX9_least RX9) (hr : meth.sig.returnType = (some .int)) (hlk : meth.locks = false) (hK : tw_k D g s) (hT : tw_T g) {a0 : Nat} {x1 : Int32} {x2 : Int32} (h0 : tw_is g 9 a0) {Q : Int32 → tw_S → Prop} {k138 : Int32 → tw_S → Prop}
    (hk138 : ∀ (x3 : Int32) (σ : tw_S) (H : Heap) (locs : List Loc) (ls : Array Slot), k138 x3 σ → tw_w D g (tw_F g s.heap.size) s σ H locs → lv_has ls 7 [(0, .ref a0), (1, .int x1), (2, .int x2), (3, .int x3)] → W p l e RM_X9_least s m args below meth c H locs 0 0 (tw_Qi Q D g below args s) (F0 m 138 ls []))
    : ∀ (n : Nat) (x3 : Int32) (x4 : Int32) (σ : tw_S) (H : Heap) (locs : List Loc) (ls : Array Slot), wl_X9_least_55 g a0 x1 x2 Q k138 n x3 x4 σ → tw_w D g (tw_F g s.heap.size) s σ H locs → lv_has ls 7 [(0, .ref a0), (1, .int x1), (2, .int x2), (3, .int x3), (4, .int x4)] → W p l e RM_X9_least s m args below meth c H locs 0 0 (tw_Qi Q D g below args s) (F0 m 55 ls []) := by
  intro n
  induction n with
  | zero =>
    intro x3 x4 σ H locs ls h w hl
    exact False.elim h
  | succ n ih =>
    intro x3 x4 σ H locs ls h w hl
    rw [wl_X9_least_55] at h
    refine lv_iload X.1 X.2.1 dX9_least_55 (lv_at hl 4 rfl) ?_
    refine lv_aload_n X.1 X.2.1 dX9_least_57 rfl (lv_at hl 0 rfl) ?_
    refine tw_get X hK w 9 iw_X9_least_9 h0 (by decide) rfl 20 (by decide) (List.mem_of_getElem? (i := 1) rfl) rfl dX9_least_58 ?_
    refine lv_iload_n X.1 X.2.1 dX9_least_61 rfl (lv_at hl 1 rfl) ?_
    obtain ⟨hi10, h⟩ := h
    refine tw_iald X hK w (tw_t_9_20 hT h0) (tw_n_9_20 hT h0) hi10 dX9_least_62 ?_
    refine lv_icmp_ge (tgt := 138) X.1 X.2.1 dX9_least_63 (by decide) (fun c11 => ?_) (fun c11 => ?_)
    · have h := h.1 c11
      exact hk138 x3 σ _ _ ls h w (lv_sub hl [0, 1, 2, 3] rfl)
    · have h := h.2 c11
      refine lv_iload X.1 X.2.1 dX9_least_66 (lv_at hl 4 rfl) ?_
      refine lv_istore (lv' := [(5, .int x4), (0, .ref a0), (1, .int x1), (2, .int x2), (3, .int x3), (4, .int x4)]) X.1 X.2.1 dX9_least_68 hl (by decide) rfl (fun ls hl => ?_)
      refine lv_iload X.1 X.2.1 dX9_least_70 (lv_at hl 5 rfl) ?_
      refine lv_iconst (v := 1) X.1 X.2.1 dX9_least_72 (by decide) ?_
      refine lv_isub X.1 X.2.1 dX9_least_73 ?_
      refine lv_istore (lv' := [(6, .int (x4 - (1 : Int32))), (5, .int x4), (0, .ref a0), (1, .int x1), (2, .int x2), (3, .int x3), (4, .int x4)]) X.1 X.2.1 dX9_least_74 hl (by decide) rfl (fun ls hl => ?_)
      obtain ⟨n76, h⟩ := h
      refine lp_X9_least_76 X hr hlk hK hT h0 (fun v16 σ17 H locs ls h w hl => ?_) n76 x4 (x4 - (1 : Int32)) σ _ _ ls h w (lv_sub hl [2, 3, 4, 5, 6, 1, 0] rfl)
      · skip
        refine lv_aload_n X.1 X.2.1 dX9_least_108 rfl (lv_at hl 0 rfl) ?_
        refine tw_get X hK w 9 iw_X9_least_9 h0 (by decide) rfl 27 (by decide) (List.mem_of_getElem? (i := 4) rfl) rfl dX9_least_109 ?_
        refine lv_iload X.1 X.2.1 dX9_least_112 (lv_at hl 4 rfl) ?_
        refine lv_iload X.1 X.2.1 dX9_least_114 (lv_at hl 5 rfl) ?_
        obtain ⟨hi18, h⟩ := h
        refine tw_iast X hK w (tw_t_9_27 hT h0) (tw_n_9_27 hT h0) hi18 dX9_least_116 (fun σ19 H locs eσ19 w => ?_)
        have h := h _ eσ19
        refine lv_iload_n X.1 X.2.1 dX9_least_117 rfl (lv_at hl 3 rfl) ?_
        refine lv_iload X.1 X.2.1 dX9_least_118 (lv_at hl 5 rfl) ?_
        refine lv_iload X.1 X.2.1 dX9_least_120 (lv_at hl 4 rfl) ?_
        refine lv_icmp_ne (tgt := 129) X.1 X.2.1 dX9_least_122 (by decide) (fun c20 => ?_) (fun c20 => ?_)
        · have h := h.1 c20
          refine lv_iconst (v := 0) X.1 X.2.1 dX9_least_129 (by decide) ?_
          refine lv_iadd X.1 X.2.1 dX9_least_130 ?_
          refine lv_istore_n (lv' := [(3, .int (x3 + (0 : Int32))), (0, .ref a0), (1, .int x1), (2, .int x2), (4, .int x4), (5, .int v16)]) X.1 X.2.1 dX9_least_131 rfl hl (by decide) rfl (fun ls hl => ?_)
          have hl := lv_sub (l' := [(3, .int (x3 + (0 : Int32))), (0, .ref a0), (1, .int x1), (2, .int x2), (4, .int x4)]) hl [0, 1, 2, 3, 4] rfl
          refine lv_iinc (v := (x4 + 1)) (lv' := [(4, .int (x4 + 1)), (3, .int (x3 + (0 : Int32))), (0, .ref a0), (1, .int x1), (2, .int x2)]) X.1 X.2.1 dX9_least_132 hl (k := 4) rfl rfl (by decide) rfl (fun ls hl => ?_)
          refine lv_goto (tgt := 55) X.1 X.2.1 dX9_least_135 (by decide) ?_
          exact ih (x3 + (0 : Int32)) (x4 + 1) σ19 _ _ ls h w (lv_sub hl [2, 3, 4, 1, 0] rfl)
        · have h := h.2 c20
          refine lv_iconst (v := 1) X.1 X.2.1 dX9_least_125 (by decide) ?_
          refine lv_goto (tgt := 130) X.1 X.2.1 dX9_least_126 (by decide) ?_
          refine lv_iadd X.1 X.2.1 dX9_least_130 ?_
          refine lv_istore_n (lv' := [(3, .int (x3 + (1 : Int32))), (0, .ref a0), (1, .int x1), (2, .int x2), (4, .int x4), (5, .int v16)]) X.1 X.2.1 dX9_least_131 rfl hl (by decide) rfl (fun ls hl => ?_)
          have hl := lv_sub (l' := [(3, .int (x3 + (1 : Int32))), (0, .ref a0), (1, .int x1), (2, .int x2), (4, .int x4)]) hl [0, 1, 2, 3, 4] rfl
          refine lv_iinc (v := (x4 + 1)) (lv' := [(4, .int (x4 + 1)), (3, .int (x3 + (1 : Int32))), (0, .ref a0), (1, .int x1), (2, .int x2)]) X.1 X.2.1 dX9_least_132 hl (k := 4) rfl rfl (by decide) rfl (fun ls hl => ?_)
          refine lv_goto (tgt := 55) X.1 X.2.1 dX9_least_135 (by decide) ?_
          exact ih (x3 + (1 : Int32)) (x4 + 1) σ19 _ _ ls h w (lv_sub hl [2, 3, 4, 1, 0] rfl)
set_option maxHeartbeats 4000000 in
set_option maxRecDepth 100000 in
theorem lp_X9_least_141 {p : Program} {l : Launch} {e : Env} {s : State} {m : MethodId} {args : Array Value} {below : List Frame} {meth : Method} {c : Code} {D : va_G} {g : tw_G} (X : CallFix p m c cX9_least 7 s args wsX9_least RX9) (hr : meth.sig.returnType = (some .int)) (hlk : meth.locks = false) (hK : tw_k D g s) (hT : tw_T g) {a0 : Nat} {x1 : Int32} {x2 : Int32} {x3 : Int32} (h0 : tw_is g 9 a0) {Q : Int32 → tw_S → Prop} {k172 : tw_S → Prop}
    (hk172 : ∀  (σ : tw_S) (H : Heap) (locs : List Loc) (ls : Array Slot), k172  σ → tw_w D g (tw_F g s.heap.size) s σ H locs → lv_has ls 7 [(0, .ref a0), (1, .int x1), (2, .int x2), (3, .int x3)] → W p l e RM_X9_least s m args below meth c H locs 0 0 (tw_Qi Q D g below args s) (F0 m 172 ls []))
    : ∀ (n : Nat) (x4 : Int32) (σ : tw_S) (H : Heap) (locs : List Loc) (ls : Array Slot), wl_X9_least_141 g a0 x1 x2 x3 Q k172 n x4 σ → tw_w D g (tw_F g s.heap.size) s σ H locs → lv_has ls 7 [(0, .ref a0), (1, .int x1), (2, .int x2), (3, .int x3), (4, .int x4)] → W p l e RM_X9_least s m args below meth c H locs 0 0 (tw_Qi Q D g below args s) (F0 m 141 ls []) := by
  intro n
  induction n with
  | zero =>
    intro x4 σ H locs ls h w hl
    exact False.elim h
  | succ n ih =>
    intro x4 σ H locs ls h w hl
    rw [wl_X9_least_141] at h
    refine lv_iload X.1 X.2.1 dX9_least_141 (lv_at hl 4 rfl) ?_
    refine lv_aload_n X.1 X.2.1 dX9_least_143 rfl (lv_at hl 0 rfl) ?_
    refine tw_get X hK w 9 iw_X9_least_9 h0 (by decide) rfl 20 (by decide) (List.mem_of_getElem? (i := 1) rfl) rfl dX9_least_144 ?_
    refine lv_iload_n X.1 X.2.1 dX9_least_147 rfl (lv_at hl 1 rfl) ?_
    obtain ⟨hi23, h⟩ := h
    refine tw_iald X hK w (tw_t_9_20 hT h0) (tw_n_9_20 hT h0) hi23 dX9_least_148 ?_
    refine lv_icmp_ge (tgt := 172) X.1 X.2.1 dX9_least_149 (by decide) (fun c24 => ?_) (fun c24 => ?_)
    · have h := h.1 c24
      exact hk172  σ _ _ ls h w (lv_sub hl [0, 1, 2, 3] rfl)
    · have h := h.2 c24
      refine lv_aload_n X.1 X.2.1 dX9_least_152 rfl (lv_at hl 0 rfl) ?_
      refine tw_get X hK w 9 iw_X9_least_9 h0 (by decide) rfl 26 (by decide) (List.mem_of_getElem? (i := 2) rfl) rfl dX9_least_153 ?_
      refine lv_iload X.1 X.2.1 dX9_least_156 (lv_at hl 4 rfl) ?_
      refine lv_aload_n X.1 X.2.1 dX9_least_158 rfl (lv_at hl 0 rfl) ?_
      refine tw_get X hK w 9 iw_X9_least_9 h0 (by decide) rfl 27 (by decide) (List.mem_of_getElem? (i := 4) rfl) rfl dX9_least_159 ?_
      refine lv_iload X.1 X.2.1 dX9_least_162 (lv_at hl 4 rfl) ?_
      obtain ⟨hi25, h⟩ := h
      refine tw_iald X hK w (tw_t_9_27 hT h0) (tw_n_9_27 hT h0) hi25 dX9_least_164 ?_
      obtain ⟨hi26, h⟩ := h
      refine tw_iast X hK w (tw_t_9_26 hT h0) (tw_n_9_26 hT h0) hi26 dX9_least_165 (fun σ27 H locs eσ27 w => ?_)
      have h := h _ eσ27
      refine lv_iinc (v := (x4 + 1)) (lv' := [(4, .int (x4 + 1)), (0, .ref a0), (1, .int x1), (2, .int x2), (3, .int x3)]) X.1 X.2.1 dX9_least_166 hl (k := 4) rfl rfl (by decide) rfl (fun ls hl => ?_)
      refine lv_goto (tgt := 141) X.1 X.2.1 dX9_least_169 (by decide) ?_
      exact ih (x4 + 1) σ27 _ _ ls h w (lv_sub hl [1, 2, 3, 4, 0] rfl)
set_option maxHeartbeats 4000000 in
set_option maxRecDepth 100000 in
theorem lp_X9_least_43 {p : Program} {l : Launch} {e : Env} {s : State} {m : MethodId} {args : Array Value} {below : List Frame} {meth : Method} {c : Code} {D : va_G} {g : tw_G} (X : CallFix p m c cX9_least 7 s args wsX9_least RX9) (hr : meth.sig.returnType = (some .int)) (hlk : meth.locks = false) (hK : tw_k D g s) (hT : tw_T g) {a0 : Nat} {x1 : Int32} (h0 : tw_is g 9 a0) {Q : Int32 → tw_S → Prop} {k175 : Int32 → tw_S → Prop}
    (hk175 : ∀ (x3 : Int32) (σ : tw_S) (H : Heap) (locs : List Loc) (ls : Array Slot), k175 x3 σ → tw_w D g (tw_F g s.heap.size) s σ H locs → lv_has ls 7 [(3, .int x3)] → W p l e RM_X9_least s m args below meth c H locs 0 0 (tw_Qi Q D g below args s) (F0 m 175 ls []))
    : ∀ (n : Nat) (x2 : Int32) (x3 : Int32) (σ : tw_S) (H : Heap) (locs : List Loc) (ls : Array Slot), wl_X9_least_43 g a0 x1 Q k175 n x2 x3 σ → tw_w D g (tw_F g s.heap.size) s σ H locs → lv_has ls 7 [(0, .ref a0), (1, .int x1), (2, .int x2), (3, .int x3)] → W p l e RM_X9_least s m args below meth c H locs 0 0 (tw_Qi Q D g below args s) (F0 m 43 ls []) := by
  intro n
  induction n with
  | zero =>
    intro x2 x3 σ H locs ls h w hl
    exact False.elim h
  | succ n ih =>
    intro x2 x3 σ H locs ls h w hl
    rw [wl_X9_least_43] at h
    refine lv_iload_n X.1 X.2.1 dX9_least_43 rfl (lv_at hl 3 rfl) ?_
    refine lv_iload_n X.1 X.2.1 dX9_least_44 rfl (lv_at hl 2 rfl) ?_
    refine lv_icmp_le (tgt := 175) X.1 X.2.1 dX9_least_45 (by decide) (fun c9 => ?_) (fun c9 => ?_)
    · have h := h.1 c9
      exact hk175 x3 σ _ _ ls h w (lv_sub hl [3] rfl)
    · have h := h.2 c9
      refine lv_iload_n X.1 X.2.1 dX9_least_48 rfl (lv_at hl 3 rfl) ?_
      refine lv_istore_n (lv' := [(2, .int x3), (0, .ref a0), (1, .int x1), (3, .int x3)]) X.1 X.2.1 dX9_least_49 rfl hl (by decide) rfl (fun ls hl => ?_)
      have hl := lv_sub (l' := [(2, .int x3), (0, .ref a0), (1, .int x1)]) hl [0, 1, 2] rfl
      refine lv_iconst (v := 0) X.1 X.2.1 dX9_least_50 (by decide) ?_
      refine lv_istore_n (lv' := [(3, .int (0 : Int32)), (2, .int x3), (0, .ref a0), (1, .int x1)]) X.1 X.2.1 dX9_least_51 rfl hl (by decide) rfl (fun ls hl => ?_)
      refine lv_iconst (v := 0) X.1 X.2.1 dX9_least_52 (by decide) ?_
      refine lv_istore (lv' := [(4, .int (0 : Int32)), (3, .int (0 : Int32)), (2, .int x3), (0, .ref a0), (1, .int x1)]) X.1 X.2.1 dX9_least_53 hl (by decide) rfl (fun ls hl => ?_)
      obtain ⟨n55, h⟩ := h
      refine lp_X9_least_55 X hr hlk hK hT h0 (fun v21 σ22 H locs ls h w hl => ?_) n55 (0 : Int32) (0 : Int32) σ _ _ ls h w (lv_sub hl [3, 4, 2, 1, 0] rfl)
      · skip
        refine lv_iconst (v := 0) X.1 X.2.1 dX9_least_138 (by decide) ?_
        refine lv_istore (lv' := [(4, .int (0 : Int32)), (0, .ref a0), (1, .int x1), (2, .int x3), (3, .int v21)]) X.1 X.2.1 dX9_least_139 hl (by decide) rfl (fun ls hl => ?_)
        obtain ⟨n141, h⟩ := h
        refine lp_X9_least_141 X hr hlk hK hT h0 (fun σ28 H locs ls h w hl => ?_) n141 (0 : Int32) σ22 _ _ ls h w (lv_sub hl [1, 2, 3, 4, 0] rfl)
        · skip
          refine lv_goto (tgt := 43) X.1 X.2.1 dX9_least_172 (by decide) ?_
          exact ih x3 v21 σ28 _ _ ls h w (lv_sub hl [0, 1, 2, 3] rfl)
set_option maxHeartbeats 4000000 in
set_option maxRecDepth 100000 in
theorem ct_X9_least (l : Launch) (D : va_G) (g : tw_G) (hT : tw_T g) (sz : Nat) (σ : tw_S) (a0 : Nat) (h0 : tw_is g 9 a0) (x1 : Int32) (Q : Int32 → tw_S → Prop) (h : wp_X9_least g σ a0 x1 Q) : tw_Mi l yX9_least wsX9_least RM_X9_least D g sz σ [.ref a0, .int x1] Q := by
  refine Met.ofW (cc := cX9_least) (maxL := 7) (ret := (some .int)) (by decide) rfl ?_
  intro p e s m args below meth c s₁ B hml hv
  obtain ⟨rfl, hsz, hP, hK, hD0⟩ := hv
  subst hsz
  have hr := B.returns
  have hlk := B.notSynchronized
  have X : CallFix p m c cX9_least 7 s _ wsX9_least RX9 := ⟨B.exec, B.bytes, hml, findClass_of_methodNamed B.named, atoms_spec (ws := wsX9_least) B.pre⟩
  have w := tw_w0 hP hD0
  have hl := lv_entry ([.ref a0, .int x1]) (n := 7) (Nat.le_of_ble_eq_true rfl)
  rw [lg_entry_eq]
  generalize (lg_sl ([.ref a0, .int x1]) ++ List.replicate (7 - (lg_sl ([.ref a0, .int x1])).length) Slot.unset).toArray = ls at hl ⊢
  have hl : lv_has ls 7 [(0, .ref a0), (1, .int x1)] := hl
  unfold wp_X9_least at h
  refine lv_iconst (v := 0) X.1 X.2.1 dX9_least_0 (by decide) ?_
  refine lv_istore_n (lv' := [(2, .int (0 : Int32)), (0, .ref a0), (1, .int x1)]) X.1 X.2.1 dX9_least_1 rfl hl (by decide) rfl (fun ls hl => ?_)
  refine lv_iconst (v := 1) X.1 X.2.1 dX9_least_2 (by decide) ?_
  refine lv_istore_n (lv' := [(3, .int (1 : Int32)), (2, .int (0 : Int32)), (0, .ref a0), (1, .int x1)]) X.1 X.2.1 dX9_least_3 rfl hl (by decide) rfl (fun ls hl => ?_)
  refine lv_iconst (v := 0) X.1 X.2.1 dX9_least_4 (by decide) ?_
  refine lv_istore (lv' := [(4, .int (0 : Int32)), (3, .int (1 : Int32)), (2, .int (0 : Int32)), (0, .ref a0), (1, .int x1)]) X.1 X.2.1 dX9_least_5 hl (by decide) rfl (fun ls hl => ?_)
  obtain ⟨n7, h⟩ := h
  refine lp_X9_least_7 X hr hlk hK hT h0 (fun σ8 H locs ls h w hl => ?_) n7 (0 : Int32) σ _ _ ls h w (lv_sub hl [3, 4, 2, 1, 0] rfl)
  · skip
    obtain ⟨n43, h⟩ := h
    refine lp_X9_least_43 X hr hlk hK hT h0 (fun v29 σ30 H locs ls h w hl => ?_) n43 (0 : Int32) (1 : Int32) σ8 _ _ ls h w (lv_sub hl [0, 1, 2, 3] rfl)
    · skip
      refine lv_iload_n X.1 X.2.1 dX9_least_175 rfl (lv_at hl 0 rfl) ?_
      exact tw_iret X hr hlk w h dX9_least_176

abbrev RM_X9_firstOf : Room := { frames := 1, cells := 0, slots := 0, locals := 22 }
theorem iw_X9_firstOf_9 : ∀ w ∈ wsX90, w ∈ wsX9_firstOf := fun w h => List.mem_cons_of_mem _ (List.mem_append_right _ (h))
def wl_X9_firstOf_12 (g : tw_G) (a0 : Nat) (x1 : Int32) (x2 : Int32) (Q : Int32 → tw_S → Prop) (k46 : Int32 → tw_S → Prop) : Nat → Int32 → Int32 → tw_S → Prop
  | 0, _, _, _ => False
  | n + 1, x3, x4, σ => ((x4 < 0) → k46 x3 σ) ∧ (¬ (x4 < 0) → wp_X9_at g σ a0 x1 x4 (fun r5 σ4 => vp_in r5 302 ∧ ((¬ (tw_A σ4 (tw_R g a0 23) r5.toNatClampNeg) = x2) → wl_X9_firstOf_12 g a0 x1 x2 Q k46 n x3 (x4 + (-1)) σ4) ∧ (((tw_A σ4 (tw_R g a0 23) r5.toNatClampNeg) = x2) → wl_X9_firstOf_12 g a0 x1 x2 Q k46 n x4 (x4 + (-1)) σ4)))
def wl_X9_firstOf_62 (g : tw_G) (a0 : Nat) (x1 : Int32) (Q : Int32 → tw_S → Prop) (k144 : Int64 → Int64 → Int32 → tw_S → Prop) : Nat → Int32 → Int64 → Int64 → Int32 → tw_S → Prop
  | 0, _, _, _, _, _ => False
  | n + 1, x3, x4, x6, x8, σ => wp_X9_at g σ a0 x1 x3 (fun r12 σ11 => vp_in r12 302 ∧ (((tw_A σ11 (tw_R g a0 24) r12.toNatClampNeg) = (-1 : Int32)) → k144 x4 x6 x8 σ11) ∧ (¬ ((tw_A σ11 (tw_R g a0 24) r12.toNatClampNeg) = (-1 : Int32)) → wp_X9_at g σ11 a0 x1 x3 (fun r16 σ15 => vp_in r16 302 ∧ ∀ z18, z18 = (tw_A σ15 (tw_R g a0 24) r16.toNatClampNeg) → (((25 : Int32) ≤ x8) → (((25 : Int32) ≤ x8) → wl_X9_firstOf_62 g a0 x1 Q k144 n (z18 / (2 : Int32)) (x4 + (0 : Int64)) (x6 * (1 : Int64)) (x8 + 1) σ15) ∧ (¬ ((25 : Int32) ≤ x8) → wl_X9_firstOf_62 g a0 x1 Q k144 n (z18 / (2 : Int32)) (x4 + (0 : Int64)) (x6 * (2 : Int64)) (x8 + 1) σ15)) ∧ (¬ ((25 : Int32) ≤ x8) → ∀ z21, z21 = (x4 + (x6 * ((z18 - z18 / (2 : Int32) * (2 : Int32)).toInt64))) → (((25 : Int32) ≤ x8) → wl_X9_firstOf_62 g a0 x1 Q k144 n (z18 / (2 : Int32)) z21 (x6 * (1 : Int64)) (x8 + 1) σ15) ∧ (¬ ((25 : Int32) ≤ x8) → wl_X9_firstOf_62 g a0 x1 Q k144 n (z18 / (2 : Int32)) z21 (x6 * (2 : Int64)) (x8 + 1) σ15)))))
def wp_X9_firstOf (g : tw_G) (σ : tw_S) (a0 : Nat) (x1 : Int32) (x2 : Int32) (Q : Int32 → tw_S → Prop) : Prop := vp_in x1 2 ∧ ∀ z2, z2 = ((tw_A σ (tw_R g a0 20) x1.toNatClampNeg) - (1 : Int32)) → ∃ n12, wl_X9_firstOf_12 g a0 x1 x2 Q (fun v8 σ9 => ((¬ v8 = (-1 : Int32)) → ∃ n62, wl_X9_firstOf_62 g a0 x1 Q (fun v23 v24 v25 σ26 => ((v25 ≤ (24 : Int32)) → Q ((v23 + v24).toInt32) σ26) ∧ (¬ (v25 ≤ (24 : Int32)) → Q (0 : Int32) σ26)) n62 v8 (0 : Int64) (1 : Int64) (0 : Int32) σ9) ∧ ((v8 = (-1 : Int32)) → Q (-1 : Int32) σ9)) n12 (-1 : Int32) z2 σ
set_option maxHeartbeats 4000000 in
set_option maxRecDepth 100000 in
theorem lp_X9_firstOf_12 {p : Program} {l : Launch} {e : Env} {s : State} {m : MethodId} {args : Array Value} {below : List Frame} {meth : Method} {c : Code} {D : va_G} {g : tw_G} (X : CallFix p m c cX9_firstOf 10 s args wsX9_firstOf RX9) (hr : meth.sig.returnType = (some .int)) (hlk : meth.locks = false) (hK : tw_k D g s) (hT : tw_T g) {a0 : Nat} {x1 : Int32} {x2 : Int32} (h0 : tw_is g 9 a0) {Q : Int32 → tw_S → Prop} {k46 : Int32 → tw_S → Prop}
    (hk46 : ∀ (x3 : Int32) (σ : tw_S) (H : Heap) (locs : List Loc) (ls : Array Slot), k46 x3 σ → tw_w D g (tw_F g s.heap.size) s σ H locs → lv_has ls 10 [(0, .ref a0), (1, .int x1), (3, .int x3)] → W p l e RM_X9_firstOf s m args below meth c H locs 0 0 (tw_Qi Q D g below args s) (F0 m 46 ls []))
    : ∀ (n : Nat) (x3 : Int32) (x4 : Int32) (σ : tw_S) (H : Heap) (locs : List Loc) (ls : Array Slot), wl_X9_firstOf_12 g a0 x1 x2 Q k46 n x3 x4 σ → tw_w D g (tw_F g s.heap.size) s σ H locs → lv_has ls 10 [(0, .ref a0), (1, .int x1), (2, .int x2), (3, .int x3), (4, .int x4)] → W p l e RM_X9_firstOf s m args below meth c H locs 0 0 (tw_Qi Q D g below args s) (F0 m 12 ls []) := by
  intro n
  induction n with
  | zero =>
    intro x3 x4 σ H locs ls h w hl
    exact False.elim h
  | succ n ih =>
    intro x3 x4 σ H locs ls h w hl
    rw [wl_X9_firstOf_12] at h
    refine lv_iload X.1 X.2.1 dX9_firstOf_12 (lv_at hl 4 rfl) ?_
    refine lv_if_lt (tgt := 46) X.1 X.2.1 dX9_firstOf_14 (by decide) (fun c3 => ?_) (fun c3 => ?_)
    · have h := h.1 c3
      exact hk46 x3 σ _ _ ls h w (lv_sub hl [0, 1, 3] rfl)
    · have h := h.2 c3
      refine lv_aload_n X.1 X.2.1 dX9_firstOf_17 rfl (lv_at hl 0 rfl) ?_
      refine tw_get X hK w 9 iw_X9_firstOf_9 h0 (by decide) rfl 23 (by decide) (List.mem_of_getElem? (i := 2) rfl) rfl dX9_firstOf_18 ?_
      refine lv_aload_n X.1 X.2.1 dX9_firstOf_21 rfl (lv_at hl 0 rfl) ?_
      refine lv_iload_n X.1 X.2.1 dX9_firstOf_22 rfl (lv_at hl 1 rfl) ?_
      refine lv_iload X.1 X.2.1 dX9_firstOf_23 (lv_at hl 4 rfl) ?_
      refine tw_ci w (va_runV (As := [.int x1, .int x4]) (rest := [.ref (tw_R g a0 23)]) X (ct_X9_at l D g hT _ σ a0 h0 x1 x4 _ h) (cwV 2 X.2.2.2.2 gX9_firstOf_X9_at rfl rfl rfl (by decide +kernel) ⟨Nat.le_of_ble_eq_true rfl, Nat.le_of_ble_eq_true rfl⟩) (tw_preV hK w h0 (by decide) rfl [.int x1, .int x4]) rfl rfl hl.1 rfl (lv_room (Nat.le_of_ble_eq_true rfl)) dX9_firstOf_25 ⟨Nat.zero_le _, Nat.zero_le _⟩) (fun r5 σ4 H locs h w => ?_)
      obtain ⟨hi6, h⟩ := h
      refine tw_iald X hK w (tw_t_9_23 hT h0) (tw_n_9_23 hT h0) hi6 dX9_firstOf_28 ?_
      refine lv_iload_n X.1 X.2.1 dX9_firstOf_29 rfl (lv_at hl 2 rfl) ?_
      refine lv_icmp_ne (tgt := 38) X.1 X.2.1 dX9_firstOf_30 (by decide) (fun c7 => ?_) (fun c7 => ?_)
      · have h := h.1 c7
        refine lv_iload_n X.1 X.2.1 dX9_firstOf_38 rfl (lv_at hl 3 rfl) ?_
        refine lv_istore_n (lv' := [(3, .int x3), (0, .ref a0), (1, .int x1), (2, .int x2), (4, .int x4)]) X.1 X.2.1 dX9_firstOf_39 rfl hl (by decide) rfl (fun ls hl => ?_)
        refine lv_iinc (v := (x4 + (-1))) (lv' := [(4, .int (x4 + (-1))), (3, .int x3), (0, .ref a0), (1, .int x1), (2, .int x2)]) X.1 X.2.1 dX9_firstOf_40 hl (k := 4) rfl rfl (by decide) rfl (fun ls hl => ?_)
        refine lv_goto (tgt := 12) X.1 X.2.1 dX9_firstOf_43 (by decide) ?_
        exact ih x3 (x4 + (-1)) σ4 _ _ ls h w (lv_sub hl [2, 3, 4, 1, 0] rfl)
      · have h := h.2 c7
        refine lv_iload X.1 X.2.1 dX9_firstOf_33 (lv_at hl 4 rfl) ?_
        refine lv_goto (tgt := 39) X.1 X.2.1 dX9_firstOf_35 (by decide) ?_
        refine lv_istore_n (lv' := [(3, .int x4), (0, .ref a0), (1, .int x1), (2, .int x2), (4, .int x4)]) X.1 X.2.1 dX9_firstOf_39 rfl hl (by decide) rfl (fun ls hl => ?_)
        refine lv_iinc (v := (x4 + (-1))) (lv' := [(4, .int (x4 + (-1))), (3, .int x4), (0, .ref a0), (1, .int x1), (2, .int x2)]) X.1 X.2.1 dX9_firstOf_40 hl (k := 4) rfl rfl (by decide) rfl (fun ls hl => ?_)
        refine lv_goto (tgt := 12) X.1 X.2.1 dX9_firstOf_43 (by decide) ?_
        exact ih x4 (x4 + (-1)) σ4 _ _ ls h w (lv_sub hl [2, 3, 4, 1, 0] rfl)
set_option maxHeartbeats 4000000 in
set_option maxRecDepth 100000 in
theorem lp_X9_firstOf_62 {p : Program} {l : Launch} {e : Env} {s : State} {m : MethodId} {args : Array Value} {below : List Frame} {meth : Method} {c : Code} {D : va_G} {g : tw_G} (X : CallFix p m c cX9_firstOf 10 s args wsX9_firstOf RX9) (hr : meth.sig.returnType = (some .int)) (hlk : meth.locks = false) (hK : tw_k D g s) (hT : tw_T g) {a0 : Nat} {x1 : Int32} (h0 : tw_is g 9 a0) {Q : Int32 → tw_S → Prop} {k144 : Int64 → Int64 → Int32 → tw_S → Prop}
    (hk144 : ∀ (x4 : Int64) (x6 : Int64) (x8 : Int32) (σ : tw_S) (H : Heap) (locs : List Loc) (ls : Array Slot), k144 x4 x6 x8 σ → tw_w D g (tw_F g s.heap.size) s σ H locs → lv_has ls 10 [(4, .long x4), (6, .long x6), (8, .int x8)] → W p l e RM_X9_firstOf s m args below meth c H locs 0 0 (tw_Qi Q D g below args s) (F0 m 144 ls []))
    : ∀ (n : Nat) (x3 : Int32) (x4 : Int64) (x6 : Int64) (x8 : Int32) (σ : tw_S) (H : Heap) (locs : List Loc) (ls : Array Slot), wl_X9_firstOf_62 g a0 x1 Q k144 n x3 x4 x6 x8 σ → tw_w D g (tw_F g s.heap.size) s σ H locs → lv_has ls 10 [(0, .ref a0), (1, .int x1), (3, .int x3), (4, .long x4), (6, .long x6), (8, .int x8)] → W p l e RM_X9_firstOf s m args below meth c H locs 0 0 (tw_Qi Q D g below args s) (F0 m 62 ls []) := by
  intro n
  induction n with
  | zero =>
    intro x3 x4 x6 x8 σ H locs ls h w hl
    exact False.elim h
  | succ n ih =>
    intro x3 x4 x6 x8 σ H locs ls h w hl
    rw [wl_X9_firstOf_62] at h
    refine lv_aload_n X.1 X.2.1 dX9_firstOf_62 rfl (lv_at hl 0 rfl) ?_
    refine tw_get X hK w 9 iw_X9_firstOf_9 h0 (by decide) rfl 24 (by decide) (List.mem_of_getElem? (i := 3) rfl) rfl dX9_firstOf_63 ?_
    refine lv_aload_n X.1 X.2.1 dX9_firstOf_66 rfl (lv_at hl 0 rfl) ?_
    refine lv_iload_n X.1 X.2.1 dX9_firstOf_67 rfl (lv_at hl 1 rfl) ?_
    refine lv_iload_n X.1 X.2.1 dX9_firstOf_68 rfl (lv_at hl 2 rfl) ?_
    refine tw_ci w (va_runV (As := [.int x1, .int x3]) (rest := [.ref (tw_R g a0 24)]) X (ct_X9_at l D g hT _ σ a0 h0 x1 x3 _ h) (cwV 2 X.2.2.2.2 gX9_firstOf_X9_at rfl rfl rfl (by decide +kernel) ⟨Nat.le_of_ble_eq_true rfl, Nat.le_of_ble_eq_true rfl⟩) (tw_preV hK w h0 (by decide) rfl [.int x1, .int x3]) rfl rfl hl.1 rfl (lv_room (Nat.le_of_ble_eq_true rfl)) dX9_firstOf_69 ⟨Nat.zero_le _, Nat.zero_le _⟩) (fun r12 σ11 H locs h w => ?_)
    obtain ⟨hi13, h⟩ := h
    refine tw_iald X hK w (tw_t_9_24 hT h0) (tw_n_9_24 hT h0) hi13 dX9_firstOf_72 ?_
    refine lv_iconst (v := -1) X.1 X.2.1 dX9_firstOf_73 (by decide) ?_
    refine lv_icmp_eq (tgt := 144) X.1 X.2.1 dX9_firstOf_74 (by decide) (fun c14 => ?_) (fun c14 => ?_)
    · have h := h.1 c14
      exact hk144 x4 x6 x8 σ11 _ _ ls h w (lv_sub hl [3, 4, 5] rfl)
    · have h := h.2 c14
      refine lv_aload_n X.1 X.2.1 dX9_firstOf_77 rfl (lv_at hl 0 rfl) ?_
      refine tw_get X hK w 9 iw_X9_firstOf_9 h0 (by decide) rfl 24 (by decide) (List.mem_of_getElem? (i := 3) rfl) rfl dX9_firstOf_78 ?_
      refine lv_aload_n X.1 X.2.1 dX9_firstOf_81 rfl (lv_at hl 0 rfl) ?_
      refine lv_iload_n X.1 X.2.1 dX9_firstOf_82 rfl (lv_at hl 1 rfl) ?_
      refine lv_iload_n X.1 X.2.1 dX9_firstOf_83 rfl (lv_at hl 2 rfl) ?_
      refine tw_ci w (va_runV (As := [.int x1, .int x3]) (rest := [.ref (tw_R g a0 24)]) X (ct_X9_at l D g hT _ σ11 a0 h0 x1 x3 _ h) (cwV 2 X.2.2.2.2 gX9_firstOf_X9_at rfl rfl rfl (by decide +kernel) ⟨Nat.le_of_ble_eq_true rfl, Nat.le_of_ble_eq_true rfl⟩) (tw_preV hK w h0 (by decide) rfl [.int x1, .int x3]) rfl rfl hl.1 rfl (lv_room (Nat.le_of_ble_eq_true rfl)) dX9_firstOf_84 ⟨Nat.zero_le _, Nat.zero_le _⟩) (fun r16 σ15 H locs h w => ?_)
      obtain ⟨hi17, h⟩ := h
      refine tw_iald X hK w (tw_t_9_24 hT h0) (tw_n_9_24 hT h0) hi17 dX9_firstOf_87 ?_
      refine lv_topi (fun z18 ez18 => ?_)
      have h := h _ ez18
      refine lv_istore (lv' := [(9, .int z18), (0, .ref a0), (1, .int x1), (3, .int x3), (4, .long x4), (6, .long x6), (8, .int x8)]) X.1 X.2.1 dX9_firstOf_88 hl (by decide) rfl (fun ls hl => ?_)
      have hl := lv_sub (l' := [(9, .int z18), (0, .ref a0), (1, .int x1), (4, .long x4), (6, .long x6), (8, .int x8)]) hl [0, 1, 2, 4, 5, 6] rfl
      refine lv_lload X.1 X.2.1 dX9_firstOf_90 (lv_at hl 3 rfl) ?_
      refine lv_iload X.1 X.2.1 dX9_firstOf_92 (lv_at hl 5 rfl) ?_
      refine lv_bipush (v := 25) X.1 X.2.1 dX9_firstOf_94 (by decide) ?_
      refine lv_icmp_ge (tgt := 110) X.1 X.2.1 dX9_firstOf_96 (by decide) (fun c19 => ?_) (fun c19 => ?_)
      · have h := h.1 c19
        refine lv_lconst (v := 0) X.1 X.2.1 dX9_firstOf_110 (by decide) ?_
        refine lv_ladd X.1 X.2.1 dX9_firstOf_111 ?_
        refine lv_lstore (lv' := [(4, .long (x4 + (0 : Int64))), (9, .int z18), (0, .ref a0), (1, .int x1), (6, .long x6), (8, .int x8)]) X.1 X.2.1 dX9_firstOf_112 hl (by decide) rfl (fun ls hl => ?_)
        refine lv_lload X.1 X.2.1 dX9_firstOf_114 (lv_at hl 4 rfl) ?_
        refine lv_iload X.1 X.2.1 dX9_firstOf_116 (lv_at hl 5 rfl) ?_
        refine lv_bipush (v := 25) X.1 X.2.1 dX9_firstOf_118 (by decide) ?_
        refine lv_icmp_ge (tgt := 129) X.1 X.2.1 dX9_firstOf_120 (by decide) (fun c20 => ?_) (fun c20 => ?_)
        · have h := h.1 c20
          refine lv_lconst (v := 1) X.1 X.2.1 dX9_firstOf_129 (by decide) ?_
          refine lv_lmul X.1 X.2.1 dX9_firstOf_130 ?_
          refine lv_lstore (lv' := [(6, .long (x6 * (1 : Int64))), (4, .long (x4 + (0 : Int64))), (9, .int z18), (0, .ref a0), (1, .int x1), (8, .int x8)]) X.1 X.2.1 dX9_firstOf_131 hl (by decide) rfl (fun ls hl => ?_)
          refine lv_iinc (v := (x8 + 1)) (lv' := [(8, .int (x8 + 1)), (6, .long (x6 * (1 : Int64))), (4, .long (x4 + (0 : Int64))), (9, .int z18), (0, .ref a0), (1, .int x1)]) X.1 X.2.1 dX9_firstOf_133 hl (k := 5) rfl rfl (by decide) rfl (fun ls hl => ?_)
          refine lv_iload X.1 X.2.1 dX9_firstOf_136 (lv_at hl 3 rfl) ?_
          refine lv_iconst (v := 2) X.1 X.2.1 dX9_firstOf_138 (by decide) ?_
          refine lv_idiv X.1 X.2.1 dX9_firstOf_139 (by decide) ?_
          refine lv_istore_n (lv' := [(3, .int (z18 / (2 : Int32))), (8, .int (x8 + 1)), (6, .long (x6 * (1 : Int64))), (4, .long (x4 + (0 : Int64))), (9, .int z18), (0, .ref a0), (1, .int x1)]) X.1 X.2.1 dX9_firstOf_140 rfl hl (by decide) rfl (fun ls hl => ?_)
          have hl := lv_sub (l' := [(3, .int (z18 / (2 : Int32))), (8, .int (x8 + 1)), (6, .long (x6 * (1 : Int64))), (4, .long (x4 + (0 : Int64))), (0, .ref a0), (1, .int x1)]) hl [0, 1, 2, 3, 5, 6] rfl
          refine lv_goto (tgt := 62) X.1 X.2.1 dX9_firstOf_141 (by decide) ?_
          exact ih (z18 / (2 : Int32)) (x4 + (0 : Int64)) (x6 * (1 : Int64)) (x8 + 1) σ15 _ _ ls h w (lv_sub hl [4, 5, 0, 3, 2, 1] rfl)
        · have h := h.2 c20
          refine lv_ldc2 (own := RX9) (v := 2) X.1 X.2.1 X.2.2.2.1 (X.2.2.2.2 _ (List.mem_of_getElem? (i := 4) rfl)) dX9_firstOf_123 ?_
          refine lv_goto (tgt := 130) X.1 X.2.1 dX9_firstOf_126 (by decide) ?_
          refine lv_lmul X.1 X.2.1 dX9_firstOf_130 ?_
          refine lv_lstore (lv' := [(6, .long (x6 * (2 : Int64))), (4, .long (x4 + (0 : Int64))), (9, .int z18), (0, .ref a0), (1, .int x1), (8, .int x8)]) X.1 X.2.1 dX9_firstOf_131 hl (by decide) rfl (fun ls hl => ?_)
          refine lv_iinc (v := (x8 + 1)) (lv' := [(8, .int (x8 + 1)), (6, .long (x6 * (2 : Int64))), (4, .long (x4 + (0 : Int64))), (9, .int z18), (0, .ref a0), (1, .int x1)]) X.1 X.2.1 dX9_firstOf_133 hl (k := 5) rfl rfl (by decide) rfl (fun ls hl => ?_)
          refine lv_iload X.1 X.2.1 dX9_firstOf_136 (lv_at hl 3 rfl) ?_
          refine lv_iconst (v := 2) X.1 X.2.1 dX9_firstOf_138 (by decide) ?_
          refine lv_idiv X.1 X.2.1 dX9_firstOf_139 (by decide) ?_
          refine lv_istore_n (lv' := [(3, .int (z18 / (2 : Int32))), (8, .int (x8 + 1)), (6, .long (x6 * (2 : Int64))), (4, .long (x4 + (0 : Int64))), (9, .int z18), (0, .ref a0), (1, .int x1)]) X.1 X.2.1 dX9_firstOf_140 rfl hl (by decide) rfl (fun ls hl => ?_)
          have hl := lv_sub (l' := [(3, .int (z18 / (2 : Int32))), (8, .int (x8 + 1)), (6, .long (x6 * (2 : Int64))), (4, .long (x4 + (0 : Int64))), (0, .ref a0), (1, .int x1)]) hl [0, 1, 2, 3, 5, 6] rfl
          refine lv_goto (tgt := 62) X.1 X.2.1 dX9_firstOf_141 (by decide) ?_
          exact ih (z18 / (2 : Int32)) (x4 + (0 : Int64)) (x6 * (2 : Int64)) (x8 + 1) σ15 _ _ ls h w (lv_sub hl [4, 5, 0, 3, 2, 1] rfl)
      · have h := h.2 c19
        refine lv_lload X.1 X.2.1 dX9_firstOf_99 (lv_at hl 4 rfl) ?_
        refine lv_iload X.1 X.2.1 dX9_firstOf_101 (lv_at hl 0 rfl) ?_
        refine lv_iconst (v := 2) X.1 X.2.1 dX9_firstOf_103 (by decide) ?_
        refine lv_irem X.1 X.2.1 dX9_firstOf_104 (by decide) ?_
        refine lv_i2l (v := ((z18 - z18 / (2 : Int32) * (2 : Int32)).toInt64)) X.1 X.2.1 dX9_firstOf_105 rfl ?_
        refine lv_lmul X.1 X.2.1 dX9_firstOf_106 ?_
        refine lv_goto (tgt := 111) X.1 X.2.1 dX9_firstOf_107 (by decide) ?_
        refine lv_ladd X.1 X.2.1 dX9_firstOf_111 ?_
        refine lv_topl (fun z21 ez21 => ?_)
        have h := h _ ez21
        refine lv_lstore (lv' := [(4, .long z21), (9, .int z18), (0, .ref a0), (1, .int x1), (6, .long x6), (8, .int x8)]) X.1 X.2.1 dX9_firstOf_112 hl (by decide) rfl (fun ls hl => ?_)
        refine lv_lload X.1 X.2.1 dX9_firstOf_114 (lv_at hl 4 rfl) ?_
        refine lv_iload X.1 X.2.1 dX9_firstOf_116 (lv_at hl 5 rfl) ?_
        refine lv_bipush (v := 25) X.1 X.2.1 dX9_firstOf_118 (by decide) ?_
        refine lv_icmp_ge (tgt := 129) X.1 X.2.1 dX9_firstOf_120 (by decide) (fun c22 => ?_) (fun c22 => ?_)
        · have h := h.1 c22
          refine lv_lconst (v := 1) X.1 X.2.1 dX9_firstOf_129 (by decide) ?_
          refine lv_lmul X.1 X.2.1 dX9_firstOf_130 ?_
          refine lv_lstore (lv' := [(6, .long (x6 * (1 : Int64))), (4, .long z21), (9, .int z18), (0, .ref a0), (1, .int x1), (8, .int x8)]) X.1 X.2.1 dX9_firstOf_131 hl (by decide) rfl (fun ls hl => ?_)
          refine lv_iinc (v := (x8 + 1)) (lv' := [(8, .int (x8 + 1)), (6, .long (x6 * (1 : Int64))), (4, .long z21), (9, .int z18), (0, .ref a0), (1, .int x1)]) X.1 X.2.1 dX9_firstOf_133 hl (k := 5) rfl rfl (by decide) rfl (fun ls hl => ?_)
          refine lv_iload X.1 X.2.1 dX9_firstOf_136 (lv_at hl 3 rfl) ?_
          refine lv_iconst (v := 2) X.1 X.2.1 dX9_firstOf_138 (by decide) ?_
          refine lv_idiv X.1 X.2.1 dX9_firstOf_139 (by decide) ?_
          refine lv_istore_n (lv' := [(3, .int (z18 / (2 : Int32))), (8, .int (x8 + 1)), (6, .long (x6 * (1 : Int64))), (4, .long z21), (9, .int z18), (0, .ref a0), (1, .int x1)]) X.1 X.2.1 dX9_firstOf_140 rfl hl (by decide) rfl (fun ls hl => ?_)
          have hl := lv_sub (l' := [(3, .int (z18 / (2 : Int32))), (8, .int (x8 + 1)), (6, .long (x6 * (1 : Int64))), (4, .long z21), (0, .ref a0), (1, .int x1)]) hl [0, 1, 2, 3, 5, 6] rfl
          refine lv_goto (tgt := 62) X.1 X.2.1 dX9_firstOf_141 (by decide) ?_
          exact ih (z18 / (2 : Int32)) z21 (x6 * (1 : Int64)) (x8 + 1) σ15 _ _ ls h w (lv_sub hl [4, 5, 0, 3, 2, 1] rfl)
        · have h := h.2 c22
          refine lv_ldc2 (own := RX9) (v := 2) X.1 X.2.1 X.2.2.2.1 (X.2.2.2.2 _ (List.mem_of_getElem? (i := 4) rfl)) dX9_firstOf_123 ?_
          refine lv_goto (tgt := 130) X.1 X.2.1 dX9_firstOf_126 (by decide) ?_
          refine lv_lmul X.1 X.2.1 dX9_firstOf_130 ?_
          refine lv_lstore (lv' := [(6, .long (x6 * (2 : Int64))), (4, .long z21), (9, .int z18), (0, .ref a0), (1, .int x1), (8, .int x8)]) X.1 X.2.1 dX9_firstOf_131 hl (by decide) rfl (fun ls hl => ?_)
          refine lv_iinc (v := (x8 + 1)) (lv' := [(8, .int (x8 + 1)), (6, .long (x6 * (2 : Int64))), (4, .long z21), (9, .int z18), (0, .ref a0), (1, .int x1)]) X.1 X.2.1 dX9_firstOf_133 hl (k := 5) rfl rfl (by decide) rfl (fun ls hl => ?_)
          refine lv_iload X.1 X.2.1 dX9_firstOf_136 (lv_at hl 3 rfl) ?_
          refine lv_iconst (v := 2) X.1 X.2.1 dX9_firstOf_138 (by decide) ?_
          refine lv_idiv X.1 X.2.1 dX9_firstOf_139 (by decide) ?_
          refine lv_istore_n (lv' := [(3, .int (z18 / (2 : Int32))), (8, .int (x8 + 1)), (6, .long (x6 * (2 : Int64))), (4, .long z21), (9, .int z18), (0, .ref a0), (1, .int x1)]) X.1 X.2.1 dX9_firstOf_140 rfl hl (by decide) rfl (fun ls hl => ?_)
          have hl := lv_sub (l' := [(3, .int (z18 / (2 : Int32))), (8, .int (x8 + 1)), (6, .long (x6 * (2 : Int64))), (4, .long z21), (0, .ref a0), (1, .int x1)]) hl [0, 1, 2, 3, 5, 6] rfl
          refine lv_goto (tgt := 62) X.1 X.2.1 dX9_firstOf_141 (by decide) ?_
          exact ih (z18 / (2 : Int32)) z21 (x6 * (2 : Int64)) (x8 + 1) σ15 _ _ ls h w (lv_sub hl [4, 5, 0, 3, 2, 1] rfl)
set_option maxHeartbeats 4000000 in
set_option maxRecDepth 100000 in
theorem ct_X9_firstOf (l : Launch) (D : va_G) (g : tw_G) (hT : tw_T g) (sz : Nat) (σ : tw_S) (a0 : Nat) (h0 : tw_is g 9 a0) (x1 : Int32) (x2 : Int32) (Q : Int32 → tw_S → Prop) (h : wp_X9_firstOf g σ a0 x1 x2 Q) : tw_Mi l yX9_firstOf wsX9_firstOf RM_X9_firstOf D g sz σ [.ref a0, .int x1, .int x2] Q := by
  refine Met.ofW (cc := cX9_firstOf) (maxL := 10) (ret := (some .int)) (by decide) rfl ?_
  intro p e s m args below meth c s₁ B hml hv
  obtain ⟨rfl, hsz, hP, hK, hD0⟩ := hv
  subst hsz
  have hr := B.returns
  have hlk := B.notSynchronized
  have X : CallFix p m c cX9_firstOf 10 s _ wsX9_firstOf RX9 := ⟨B.exec, B.bytes, hml, findClass_of_methodNamed B.named, atoms_spec (ws := wsX9_firstOf) B.pre⟩
  have w := tw_w0 hP hD0
  have hl := lv_entry ([.ref a0, .int x1, .int x2]) (n := 10) (Nat.le_of_ble_eq_true rfl)
  rw [lg_entry_eq]
  generalize (lg_sl ([.ref a0, .int x1, .int x2]) ++ List.replicate (10 - (lg_sl ([.ref a0, .int x1, .int x2])).length) Slot.unset).toArray = ls at hl ⊢
  have hl : lv_has ls 10 [(0, .ref a0), (1, .int x1), (2, .int x2)] := hl
  unfold wp_X9_firstOf at h
  refine lv_iconst (v := -1) X.1 X.2.1 dX9_firstOf_0 (by decide) ?_
  refine lv_istore_n (lv' := [(3, .int (-1 : Int32)), (0, .ref a0), (1, .int x1), (2, .int x2)]) X.1 X.2.1 dX9_firstOf_1 rfl hl (by decide) rfl (fun ls hl => ?_)
  refine lv_aload_n X.1 X.2.1 dX9_firstOf_2 rfl (lv_at hl 1 rfl) ?_
  refine tw_get X hK w 9 iw_X9_firstOf_9 h0 (by decide) rfl 20 (by decide) (List.mem_of_getElem? (i := 1) rfl) rfl dX9_firstOf_3 ?_
  refine lv_iload_n X.1 X.2.1 dX9_firstOf_6 rfl (lv_at hl 2 rfl) ?_
  obtain ⟨hi1, h⟩ := h
  refine tw_iald X hK w (tw_t_9_20 hT h0) (tw_n_9_20 hT h0) hi1 dX9_firstOf_7 ?_
  refine lv_iconst (v := 1) X.1 X.2.1 dX9_firstOf_8 (by decide) ?_
  refine lv_isub X.1 X.2.1 dX9_firstOf_9 ?_
  refine lv_topi (fun z2 ez2 => ?_)
  have h := h _ ez2
  refine lv_istore (lv' := [(4, .int z2), (3, .int (-1 : Int32)), (0, .ref a0), (1, .int x1), (2, .int x2)]) X.1 X.2.1 dX9_firstOf_10 hl (by decide) rfl (fun ls hl => ?_)
  obtain ⟨n12, h⟩ := h
  refine lp_X9_firstOf_12 X hr hlk hK hT h0 (fun v8 σ9 H locs ls h w hl => ?_) n12 (-1 : Int32) z2 σ _ _ ls h w (lv_sub hl [2, 3, 4, 1, 0] rfl)
  · skip
    refine lv_iload_n X.1 X.2.1 dX9_firstOf_46 rfl (lv_at hl 2 rfl) ?_
    refine lv_iconst (v := -1) X.1 X.2.1 dX9_firstOf_47 (by decide) ?_
    refine lv_icmp_ne (tgt := 53) X.1 X.2.1 dX9_firstOf_48 (by decide) (fun c10 => ?_) (fun c10 => ?_)
    · have h := h.1 c10
      refine lv_lconst (v := 0) X.1 X.2.1 dX9_firstOf_53 (by decide) ?_
      refine lv_lstore (lv' := [(4, .long (0 : Int64)), (0, .ref a0), (1, .int x1), (3, .int v8)]) X.1 X.2.1 dX9_firstOf_54 hl (by decide) rfl (fun ls hl => ?_)
      refine lv_lconst (v := 1) X.1 X.2.1 dX9_firstOf_56 (by decide) ?_
      refine lv_lstore (lv' := [(6, .long (1 : Int64)), (4, .long (0 : Int64)), (0, .ref a0), (1, .int x1), (3, .int v8)]) X.1 X.2.1 dX9_firstOf_57 hl (by decide) rfl (fun ls hl => ?_)
      refine lv_iconst (v := 0) X.1 X.2.1 dX9_firstOf_59 (by decide) ?_
      refine lv_istore (lv' := [(8, .int (0 : Int32)), (6, .long (1 : Int64)), (4, .long (0 : Int64)), (0, .ref a0), (1, .int x1), (3, .int v8)]) X.1 X.2.1 dX9_firstOf_60 hl (by decide) rfl (fun ls hl => ?_)
      obtain ⟨n62, h⟩ := h
      refine lp_X9_firstOf_62 X hr hlk hK hT h0 (fun v23 v24 v25 σ26 H locs ls h w hl => ?_) n62 v8 (0 : Int64) (1 : Int64) (0 : Int32) σ9 _ _ ls h w (lv_sub hl [3, 4, 5, 2, 1, 0] rfl)
      · skip
        refine lv_iload X.1 X.2.1 dX9_firstOf_144 (lv_at hl 2 rfl) ?_
        refine lv_bipush (v := 24) X.1 X.2.1 dX9_firstOf_146 (by decide) ?_
        refine lv_icmp_le (tgt := 155) X.1 X.2.1 dX9_firstOf_148 (by decide) (fun c27 => ?_) (fun c27 => ?_)
        · have h := h.1 c27
          refine lv_lload X.1 X.2.1 dX9_firstOf_155 (lv_at hl 0 rfl) ?_
          refine lv_lload X.1 X.2.1 dX9_firstOf_157 (lv_at hl 1 rfl) ?_
          refine lv_ladd X.1 X.2.1 dX9_firstOf_159 ?_
          refine lv_l2i (v := ((v23 + v24).toInt32)) X.1 X.2.1 dX9_firstOf_160 rfl ?_
          exact tw_iret X hr hlk w h dX9_firstOf_161
        · have h := h.2 c27
          refine lv_iconst (v := 0) X.1 X.2.1 dX9_firstOf_151 (by decide) ?_
          refine lv_goto (tgt := 161) X.1 X.2.1 dX9_firstOf_152 (by decide) ?_
          exact tw_iret X hr hlk w h dX9_firstOf_161
    · have h := h.2 c10
      refine lv_iconst (v := -1) X.1 X.2.1 dX9_firstOf_51 (by decide) ?_
      exact tw_iret X hr hlk w h dX9_firstOf_52

abbrev RM_X9_ofMachine : Room := { frames := 4, cells := 0, slots := 0, locals := 100 }
theorem iw_X9_ofMachine_9 : ∀ w ∈ wsX90, w ∈ wsX9_ofMachine := fun w h => List.mem_cons_of_mem _ (List.mem_append_right _ (h))
def wp_X9_ofMachine (g : tw_G) (σ : tw_S) (a0 : Nat) (x1 : Int32) (x2 : Int32) (Q : Int32 → tw_S → Prop) : Prop := wp_X9_isMachine g σ x1 (fun r2 σ1 => ((¬ r2 = 0) → wp_X9_in g σ1 (x2.toInt64) (0 : Int64) (5 : Int64) (fun r5 σ4 => ((¬ r5 = 0) → (((2 : Int32) ≤ x2) → wp_X9_lays g σ4 a0 x1 (fun r9 σ8 => ((¬ r9 = 0) → ((¬ x2 = (2 : Int32)) → ((¬ x2 = (3 : Int32)) → wp_X9_firstOf g σ8 a0 x1 ((5 : Int32) - x2) (fun r14 σ13 => Q r14 σ13)) ∧ ((x2 = (3 : Int32)) → wp_X9_least g σ8 a0 x1 (fun r16 σ15 => Q r16 σ15))) ∧ ((x2 = (2 : Int32)) → vp_in x1 2 ∧ Q (tw_A σ8 (tw_R g a0 20) x1.toNatClampNeg) σ8)) ∧ ((r9 = 0) → Q (-1000000004 : Int32) σ8))) ∧ (¬ ((2 : Int32) ≤ x2) → ((¬ x2 = 0) → wp_X9_movesOf g σ4 a0 x1 (fun r20 σ19 => Q r20 σ19)) ∧ ((x2 = 0) → wp_X9_states0 g σ4 a0 x1 (fun r22 σ21 => Q r22 σ21)))) ∧ ((r5 = 0) → Q (-1000000002 : Int32) σ4))) ∧ ((r2 = 0) → Q (-1000000001 : Int32) σ1))
set_option maxHeartbeats 4000000 in
set_option maxRecDepth 100000 in
theorem ct_X9_ofMachine (l : Launch) (D : va_G) (g : tw_G) (hT : tw_T g) (sz : Nat) (σ : tw_S) (a0 : Nat) (h0 : tw_is g 9 a0) (x1 : Int32) (x2 : Int32) (Q : Int32 → tw_S → Prop) (h : wp_X9_ofMachine g σ a0 x1 x2 Q) : tw_Mi l yX9_ofMachine wsX9_ofMachine RM_X9_ofMachine D g sz σ [.ref a0, .int x1, .int x2] Q := by
  refine Met.ofW (cc := cX9_ofMachine) (maxL := 3) (ret := (some .int)) (by decide) rfl ?_
  intro p e s m args below meth c s₁ B hml hv
  obtain ⟨rfl, hsz, hP, hK, hD0⟩ := hv
  subst hsz
  have hr := B.returns
  have hlk := B.notSynchronized
  have X : CallFix p m c cX9_ofMachine 3 s _ wsX9_ofMachine RX9 := ⟨B.exec, B.bytes, hml, findClass_of_methodNamed B.named, atoms_spec (ws := wsX9_ofMachine) B.pre⟩
  have w := tw_w0 hP hD0
  have hl := lv_entry ([.ref a0, .int x1, .int x2]) (n := 3) (Nat.le_of_ble_eq_true rfl)
  rw [lg_entry_eq]
  generalize (lg_sl ([.ref a0, .int x1, .int x2]) ++ List.replicate (3 - (lg_sl ([.ref a0, .int x1, .int x2])).length) Slot.unset).toArray = ls at hl ⊢
  have hl : lv_has ls 3 [(0, .ref a0), (1, .int x1), (2, .int x2)] := hl
  unfold wp_X9_ofMachine at h
  refine lv_iload_n X.1 X.2.1 dX9_ofMachine_0 rfl (lv_at hl 1 rfl) ?_
  refine tw_ci w (va_runS (As := [.int x1]) (rest := []) X (ct_X9_isMachine l D g hT _ σ x1 _ h) (va_cwS 1 X.2.2.2.2 gX9_ofMachine_X9_isMachine rfl rfl rfl (by decide +kernel) ⟨Nat.le_of_ble_eq_true rfl, Nat.le_of_ble_eq_true rfl⟩) (tw_pre hK w [.int x1]) rfl rfl hl.1 rfl (lv_room (Nat.le_of_ble_eq_true rfl)) dX9_ofMachine_1 ⟨Nat.zero_le _, Nat.zero_le _⟩) (fun r2 σ1 H locs h w => ?_)
  refine lv_if_ne (tgt := 10) X.1 X.2.1 dX9_ofMachine_4 (by decide) (fun c3 => ?_) (fun c3 => ?_)
  · have h := h.1 c3
    refine lv_iload_n X.1 X.2.1 dX9_ofMachine_10 rfl (lv_at hl 2 rfl) ?_
    refine lv_i2l (v := (x2.toInt64)) X.1 X.2.1 dX9_ofMachine_11 rfl ?_
    refine lv_lconst (v := 0) X.1 X.2.1 dX9_ofMachine_12 (by decide) ?_
    refine lv_ldc2 (own := RX9) (v := 5) X.1 X.2.1 X.2.2.2.1 (X.2.2.2.2 _ (List.mem_of_getElem? (i := 2) rfl)) dX9_ofMachine_13 ?_
    refine tw_ci w (va_runS (As := [.long (x2.toInt64), .long (0 : Int64), .long (5 : Int64)]) (rest := []) X (ct_X9_in l D g hT _ σ1 (x2.toInt64) (0 : Int64) (5 : Int64) _ h) (va_cwS 3 X.2.2.2.2 gX9_ofMachine_X9_in rfl rfl rfl (by decide +kernel) ⟨Nat.le_of_ble_eq_true rfl, Nat.le_of_ble_eq_true rfl⟩) (tw_pre hK w [.long (x2.toInt64), .long (0 : Int64), .long (5 : Int64)]) rfl rfl hl.1 rfl (lv_room (Nat.le_of_ble_eq_true rfl)) dX9_ofMachine_16 ⟨Nat.zero_le _, Nat.zero_le _⟩) (fun r5 σ4 H locs h w => ?_)
    refine lv_if_ne (tgt := 25) X.1 X.2.1 dX9_ofMachine_19 (by decide) (fun c6 => ?_) (fun c6 => ?_)
    · have h := h.1 c6
      refine lv_iload_n X.1 X.2.1 dX9_ofMachine_25 rfl (lv_at hl 2 rfl) ?_
      refine lv_iconst (v := 2) X.1 X.2.1 dX9_ofMachine_26 (by decide) ?_
      refine lv_icmp_ge (tgt := 48) X.1 X.2.1 dX9_ofMachine_27 (by decide) (fun c7 => ?_) (fun c7 => ?_)
      · have h := h.1 c7
        refine lv_aload_n X.1 X.2.1 dX9_ofMachine_48 rfl (lv_at hl 0 rfl) ?_
        refine lv_iload_n X.1 X.2.1 dX9_ofMachine_49 rfl (lv_at hl 1 rfl) ?_
        refine tw_ci w (va_runV (As := [.int x1]) (rest := []) X (ct_X9_lays l D g hT _ σ4 a0 h0 x1 _ h) (cwV 1 X.2.2.2.2 gX9_ofMachine_X9_lays rfl rfl rfl (by decide +kernel) ⟨Nat.le_of_ble_eq_true rfl, Nat.le_of_ble_eq_true rfl⟩) (tw_preV hK w h0 (by decide) rfl [.int x1]) rfl rfl hl.1 rfl (lv_room (Nat.le_of_ble_eq_true rfl)) dX9_ofMachine_50 ⟨Nat.zero_le _, Nat.zero_le _⟩) (fun r9 σ8 H locs h w => ?_)
        refine lv_if_ne (tgt := 59) X.1 X.2.1 dX9_ofMachine_53 (by decide) (fun c10 => ?_) (fun c10 => ?_)
        · have h := h.1 c10
          refine lv_iload_n X.1 X.2.1 dX9_ofMachine_59 rfl (lv_at hl 2 rfl) ?_
          refine lv_iconst (v := 2) X.1 X.2.1 dX9_ofMachine_60 (by decide) ?_
          refine lv_icmp_ne (tgt := 73) X.1 X.2.1 dX9_ofMachine_61 (by decide) (fun c11 => ?_) (fun c11 => ?_)
          · have h := h.1 c11
            refine lv_iload_n X.1 X.2.1 dX9_ofMachine_73 rfl (lv_at hl 2 rfl) ?_
            refine lv_iconst (v := 3) X.1 X.2.1 dX9_ofMachine_74 (by decide) ?_
            refine lv_icmp_ne (tgt := 86) X.1 X.2.1 dX9_ofMachine_75 (by decide) (fun c12 => ?_) (fun c12 => ?_)
            · have h := h.1 c12
              refine lv_aload_n X.1 X.2.1 dX9_ofMachine_86 rfl (lv_at hl 0 rfl) ?_
              refine lv_iload_n X.1 X.2.1 dX9_ofMachine_87 rfl (lv_at hl 1 rfl) ?_
              refine lv_iconst (v := 5) X.1 X.2.1 dX9_ofMachine_88 (by decide) ?_
              refine lv_iload_n X.1 X.2.1 dX9_ofMachine_89 rfl (lv_at hl 2 rfl) ?_
              refine lv_isub X.1 X.2.1 dX9_ofMachine_90 ?_
              refine tw_ci w (va_runV (As := [.int x1, .int ((5 : Int32) - x2)]) (rest := []) X (ct_X9_firstOf l D g hT _ σ8 a0 h0 x1 ((5 : Int32) - x2) _ h) (cwV 2 X.2.2.2.2 gX9_ofMachine_X9_firstOf rfl rfl rfl (by decide +kernel) ⟨Nat.le_of_ble_eq_true rfl, Nat.le_of_ble_eq_true rfl⟩) (tw_preV hK w h0 (by decide) rfl [.int x1, .int ((5 : Int32) - x2)]) rfl rfl hl.1 rfl (lv_room (Nat.le_of_ble_eq_true rfl)) dX9_ofMachine_91 ⟨Nat.zero_le _, Nat.zero_le _⟩) (fun r14 σ13 H locs h w => ?_)
              exact tw_iret X hr hlk w h dX9_ofMachine_94
            · have h := h.2 c12
              refine lv_aload_n X.1 X.2.1 dX9_ofMachine_78 rfl (lv_at hl 0 rfl) ?_
              refine lv_iload_n X.1 X.2.1 dX9_ofMachine_79 rfl (lv_at hl 1 rfl) ?_
              refine tw_ci w (va_runV (As := [.int x1]) (rest := []) X (ct_X9_least l D g hT _ σ8 a0 h0 x1 _ h) (cwV 1 X.2.2.2.2 gX9_ofMachine_X9_least rfl rfl rfl (by decide +kernel) ⟨Nat.le_of_ble_eq_true rfl, Nat.le_of_ble_eq_true rfl⟩) (tw_preV hK w h0 (by decide) rfl [.int x1]) rfl rfl hl.1 rfl (lv_room (Nat.le_of_ble_eq_true rfl)) dX9_ofMachine_80 ⟨Nat.zero_le _, Nat.zero_le _⟩) (fun r16 σ15 H locs h w => ?_)
              refine lv_goto (tgt := 94) X.1 X.2.1 dX9_ofMachine_83 (by decide) ?_
              exact tw_iret X hr hlk w h dX9_ofMachine_94
          · have h := h.2 c11
            refine lv_aload_n X.1 X.2.1 dX9_ofMachine_64 rfl (lv_at hl 0 rfl) ?_
            refine tw_get X hK w 9 iw_X9_ofMachine_9 h0 (by decide) rfl 20 (by decide) (List.mem_of_getElem? (i := 5) rfl) rfl dX9_ofMachine_65 ?_
            refine lv_iload_n X.1 X.2.1 dX9_ofMachine_68 rfl (lv_at hl 1 rfl) ?_
            obtain ⟨hi17, h⟩ := h
            refine tw_iald X hK w (tw_t_9_20 hT h0) (tw_n_9_20 hT h0) hi17 dX9_ofMachine_69 ?_
            refine lv_goto (tgt := 94) X.1 X.2.1 dX9_ofMachine_70 (by decide) ?_
            exact tw_iret X hr hlk w h dX9_ofMachine_94
        · have h := h.2 c10
          refine lv_ldc (own := RX9) (v := -1000000004) X.1 X.2.1 X.2.2.2.1 (X.2.2.2.2 _ (List.mem_of_getElem? (i := 4) rfl)) dX9_ofMachine_56 ?_
          exact tw_iret X hr hlk w h dX9_ofMachine_58
      · have h := h.2 c7
        refine lv_iload_n X.1 X.2.1 dX9_ofMachine_30 rfl (lv_at hl 2 rfl) ?_
        refine lv_if_ne (tgt := 42) X.1 X.2.1 dX9_ofMachine_31 (by decide) (fun c18 => ?_) (fun c18 => ?_)
        · have h := h.1 c18
          refine lv_aload_n X.1 X.2.1 dX9_ofMachine_42 rfl (lv_at hl 0 rfl) ?_
          refine lv_iload_n X.1 X.2.1 dX9_ofMachine_43 rfl (lv_at hl 1 rfl) ?_
          refine tw_ci w (va_runV (As := [.int x1]) (rest := []) X (ct_X9_movesOf l D g hT _ σ4 a0 h0 x1 _ h) (cwV 1 X.2.2.2.2 gX9_ofMachine_X9_movesOf rfl rfl rfl (by decide +kernel) ⟨Nat.le_of_ble_eq_true rfl, Nat.le_of_ble_eq_true rfl⟩) (tw_preV hK w h0 (by decide) rfl [.int x1]) rfl rfl hl.1 rfl (lv_room (Nat.le_of_ble_eq_true rfl)) dX9_ofMachine_44 ⟨Nat.zero_le _, Nat.zero_le _⟩) (fun r20 σ19 H locs h w => ?_)
          exact tw_iret X hr hlk w h dX9_ofMachine_47
        · have h := h.2 c18
          refine lv_aload_n X.1 X.2.1 dX9_ofMachine_34 rfl (lv_at hl 0 rfl) ?_
          refine lv_iload_n X.1 X.2.1 dX9_ofMachine_35 rfl (lv_at hl 1 rfl) ?_
          refine tw_ci w (va_runV (As := [.int x1]) (rest := []) X (ct_X9_states0 l D g hT _ σ4 a0 h0 x1 _ h) (cwV 1 X.2.2.2.2 gX9_ofMachine_X9_states0 rfl rfl rfl (by decide +kernel) ⟨Nat.le_of_ble_eq_true rfl, Nat.le_of_ble_eq_true rfl⟩) (tw_preV hK w h0 (by decide) rfl [.int x1]) rfl rfl hl.1 rfl (lv_room (Nat.le_of_ble_eq_true rfl)) dX9_ofMachine_36 ⟨Nat.zero_le _, Nat.zero_le _⟩) (fun r22 σ21 H locs h w => ?_)
          refine lv_goto (tgt := 47) X.1 X.2.1 dX9_ofMachine_39 (by decide) ?_
          exact tw_iret X hr hlk w h dX9_ofMachine_47
    · have h := h.2 c6
      refine lv_ldc (own := RX9) (v := -1000000002) X.1 X.2.1 X.2.2.2.1 (X.2.2.2.2 _ (List.mem_of_getElem? (i := 3) rfl)) dX9_ofMachine_22 ?_
      exact tw_iret X hr hlk w h dX9_ofMachine_24
  · have h := h.2 c3
    refine lv_ldc (own := RX9) (v := -1000000001) X.1 X.2.1 X.2.2.2.1 (X.2.2.2.2 _ (List.mem_of_getElem? (i := 1) rfl)) dX9_ofMachine_7 ?_
    exact tw_iret X hr hlk w h dX9_ofMachine_9
