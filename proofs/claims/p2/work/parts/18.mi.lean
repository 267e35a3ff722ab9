abbrev RM_X9_oneWay : Room := { frames := 4, cells := 0, slots := 0, locals := 100 }
theorem iw_X9_oneWay_9 : ∀ w ∈ wsX90, w ∈ wsX9_oneWay := fun w h => List.mem_cons_of_mem _ (List.mem_append_right _ (h))
def wp_X9_oneWay (g : tw_G) (σ : tw_S) (a0 : Nat) (x1 : Int32) (x2 : Int32) (x3 : Int32) (Q : Int32 → tw_S → Prop) : Prop := wp_X9_isMachine g σ x1 (fun r2 σ1 => ((¬ r2 = 0) → wp_X9_lays g σ1 a0 x1 (fun r5 σ4 => ((¬ r5 = 0) → vp_in x1 2 ∧ wp_X9_in g σ4 (x2.toInt64) (0 : Int64) (((tw_A σ4 (tw_R g a0 20) x1.toNatClampNeg) - (1 : Int32)).toInt64) (fun r9 σ8 => ((¬ r9 = 0) → wp_X9_states0 g σ8 a0 x1 (fun r12 σ11 => wp_X9_in g σ11 (x3.toInt64) (0 : Int64) (((3 : Int32) + r12).toInt64) (fun r14 σ13 => ((¬ r14 = 0) → (((2 : Int32) ≤ x3) → ((¬ x3 = (2 : Int32)) → wp_X9_at g σ13 a0 x1 x2 (fun r19 σ18 => vp_in ((((5 : Int32) * r19) + x3) - (3 : Int32)) 1510 ∧ Q (tw_A σ18 (tw_R g a0 21) ((((5 : Int32) * r19) + x3) - (3 : Int32)).toNatClampNeg) σ18)) ∧ ((x3 = (2 : Int32)) → wp_X9_at g σ13 a0 x1 x2 (fun r22 σ21 => vp_in r22 302 ∧ Q (tw_A σ21 (tw_R g a0 23) r22.toNatClampNeg) σ21))) ∧ (¬ ((2 : Int32) ≤ x3) → wp_X9_at g σ13 a0 x1 x2 (fun r25 σ24 => vp_in (((2 : Int32) * r25) + x3) 604 ∧ Q (tw_A σ24 (tw_R g a0 22) (((2 : Int32) * r25) + x3).toNatClampNeg) σ24))) ∧ ((r14 = 0) → Q (-1000000002 : Int32) σ13)))) ∧ ((r9 = 0) → Q (-1000000001 : Int32) σ8))) ∧ ((r5 = 0) → Q (-1000000004 : Int32) σ4))) ∧ ((r2 = 0) → Q (-1000000001 : Int32) σ1))
set_option maxHeartbeats 4000000 in
set_option maxRecDepth 100000 in
theorem ct_X9_oneWay (l : Launch) (D : va_G) (g : tw_G) (hT : tw_T g) (sz : Nat) (σ : tw_S) (a0 : Nat) (h0 : tw_is g 9 a0) (x1 : Int32) (x2 : Int32) (x3 : Int32) (Q : Int32 → tw_S → Prop) (h : wp_X9_oneWay g σ a0 x1 x2 x3 Q) : tw_Mi l yX9_oneWay wsX9_oneWay RM_X9_oneWay D g sz σ [.ref a0, .int x1, .int x2, .int x3] Q := by
  refine Met.ofW (cc := cX9_oneWay) (maxL := 4) (ret := (some .int)) (by decide) rfl ?_
  intro p e s m args below meth c s₁ B hml hv
  obtain ⟨rfl, hsz, hP, hK, hD0⟩ := hv
  subst hsz
  have hr := B.returns
  have hlk := B.notSynchronized
  have X : CallFix p m c cX9_oneWay 4 s _ wsX9_oneWay RX9 := ⟨B.exec, B.bytes, hml, findClass_of_methodNamed B.named, atoms_spec (ws := wsX9_oneWay) B.pre⟩
  have w := tw_w0 hP hD0
  have hl := lv_entry ([.ref a0, .int x1, .int x2, .int x3]) (n := 4) (Nat.le_of_ble_eq_true rfl)
  rw [lg_entry_eq]
  generalize (lg_sl ([.ref a0, .int x1, .int x2, .int x3]) ++ List.replicate (4 - (lg_sl ([.ref a0, .int x1, .int x2, .int x3])).length) Slot.unset).toArray = ls at hl ⊢
  have hl : lv_has ls 4 [(0, .ref a0), (1, .int x1), (2, .int x2), (3, .int x3)] := hl
  unfold wp_X9_oneWay at h
  refine lv_iload_n X.1 X.2.1 dX9_oneWay_0 rfl (lv_at hl 1 rfl) ?_
  refine tw_ci w (va_runS (As := [.int x1]) (rest := []) X (ct_X9_isMachine l D g hT _ σ x1 _ h) (va_cwS 1 X.2.2.2.2 gX9_oneWay_X9_isMachine rfl rfl rfl (by decide +kernel) ⟨Nat.le_of_ble_eq_true rfl, Nat.le_of_ble_eq_true rfl⟩) (tw_pre hK w [.int x1]) rfl rfl hl.1 rfl (lv_room (Nat.le_of_ble_eq_true rfl)) dX9_oneWay_1 ⟨Nat.zero_le _, Nat.zero_le _⟩) (fun r2 σ1 H locs h w => ?_)
  refine lv_if_ne (tgt := 10) X.1 X.2.1 dX9_oneWay_4 (by decide) (fun c3 => ?_) (fun c3 => ?_)
  · have h := h.1 c3
    refine lv_aload_n X.1 X.2.1 dX9_oneWay_10 rfl (lv_at hl 0 rfl) ?_
    refine lv_iload_n X.1 X.2.1 dX9_oneWay_11 rfl (lv_at hl 1 rfl) ?_
    refine tw_ci w (va_runV (As := [.int x1]) (rest := []) X (ct_X9_lays l D g hT _ σ1 a0 h0 x1 _ h) (cwV 1 X.2.2.2.2 gX9_oneWay_X9_lays rfl rfl rfl (by decide +kernel) ⟨Nat.le_of_ble_eq_true rfl, Nat.le_of_ble_eq_true rfl⟩) (tw_preV hK w h0 (by decide) rfl [.int x1]) rfl rfl hl.1 rfl (lv_room (Nat.le_of_ble_eq_true rfl)) dX9_oneWay_12 ⟨Nat.zero_le _, Nat.zero_le _⟩) (fun r5 σ4 H locs h w => ?_)
    refine lv_if_ne (tgt := 21) X.1 X.2.1 dX9_oneWay_15 (by decide) (fun c6 => ?_) (fun c6 => ?_)
    · have h := h.1 c6
      refine lv_iload_n X.1 X.2.1 dX9_oneWay_21 rfl (lv_at hl 2 rfl) ?_
      refine lv_i2l (v := (x2.toInt64)) X.1 X.2.1 dX9_oneWay_22 rfl ?_
      refine lv_lconst (v := 0) X.1 X.2.1 dX9_oneWay_23 (by decide) ?_
      refine lv_aload_n X.1 X.2.1 dX9_oneWay_24 rfl (lv_at hl 0 rfl) ?_
      refine tw_get X hK w 9 iw_X9_oneWay_9 h0 (by decide) rfl 20 (by decide) (List.mem_of_getElem? (i := 3) rfl) rfl dX9_oneWay_25 ?_
      refine lv_iload_n X.1 X.2.1 dX9_oneWay_28 rfl (lv_at hl 1 rfl) ?_
      obtain ⟨hi7, h⟩ := h
      refine tw_iald X hK w (tw_t_9_20 hT h0) (tw_n_9_20 hT h0) hi7 dX9_oneWay_29 ?_
      refine lv_iconst (v := 1) X.1 X.2.1 dX9_oneWay_30 (by decide) ?_
      refine lv_isub X.1 X.2.1 dX9_oneWay_31 ?_
      refine lv_i2l (v := (((tw_A σ4 (tw_R g a0 20) x1.toNatClampNeg) - (1 : Int32)).toInt64)) X.1 X.2.1 dX9_oneWay_32 rfl ?_
      refine tw_ci w (va_runS (As := [.long (x2.toInt64), .long (0 : Int64), .long (((tw_A σ4 (tw_R g a0 20) x1.toNatClampNeg) - (1 : Int32)).toInt64)]) (rest := []) X (ct_X9_in l D g hT _ σ4 (x2.toInt64) (0 : Int64) (((tw_A σ4 (tw_R g a0 20) x1.toNatClampNeg) - (1 : Int32)).toInt64) _ h) (va_cwS 3 X.2.2.2.2 gX9_oneWay_X9_in rfl rfl rfl (by decide +kernel) ⟨Nat.le_of_ble_eq_true rfl, Nat.le_of_ble_eq_true rfl⟩) (tw_pre hK w [.long (x2.toInt64), .long (0 : Int64), .long (((tw_A σ4 (tw_R g a0 20) x1.toNatClampNeg) - (1 : Int32)).toInt64)]) rfl rfl hl.1 rfl (lv_room (Nat.le_of_ble_eq_true rfl)) dX9_oneWay_33 ⟨Nat.zero_le _, Nat.zero_le _⟩) (fun r9 σ8 H locs h w => ?_)
      refine lv_if_ne (tgt := 42) X.1 X.2.1 dX9_oneWay_36 (by decide) (fun c10 => ?_) (fun c10 => ?_)
      · have h := h.1 c10
        refine lv_iload_n X.1 X.2.1 dX9_oneWay_42 rfl (lv_at hl 3 rfl) ?_
        refine lv_i2l (v := (x3.toInt64)) X.1 X.2.1 dX9_oneWay_43 rfl ?_
        refine lv_lconst (v := 0) X.1 X.2.1 dX9_oneWay_44 (by decide) ?_
        refine lv_iconst (v := 3) X.1 X.2.1 dX9_oneWay_45 (by decide) ?_
        refine lv_aload_n X.1 X.2.1 dX9_oneWay_46 rfl (lv_at hl 0 rfl) ?_
        refine lv_iload_n X.1 X.2.1 dX9_oneWay_47 rfl (lv_at hl 1 rfl) ?_
        refine tw_ci w (va_runV (As := [.int x1]) (rest := [.int (3 : Int32), .long (0 : Int64), .long (x3.toInt64)]) X (ct_X9_states0 l D g hT _ σ8 a0 h0 x1 _ h) (cwV 1 X.2.2.2.2 gX9_oneWay_X9_states0 rfl rfl rfl (by decide +kernel) ⟨Nat.le_of_ble_eq_true rfl, Nat.le_of_ble_eq_true rfl⟩) (tw_preV hK w h0 (by decide) rfl [.int x1]) rfl rfl hl.1 rfl (lv_room (Nat.le_of_ble_eq_true rfl)) dX9_oneWay_48 ⟨Nat.zero_le _, Nat.zero_le _⟩) (fun r12 σ11 H locs h w => ?_)
        refine lv_iadd X.1 X.2.1 dX9_oneWay_51 ?_
        refine lv_i2l (v := (((3 : Int32) + r12).toInt64)) X.1 X.2.1 dX9_oneWay_52 rfl ?_
        refine tw_ci w (va_runS (As := [.long (x3.toInt64), .long (0 : Int64), .long (((3 : Int32) + r12).toInt64)]) (rest := []) X (ct_X9_in l D g hT _ σ11 (x3.toInt64) (0 : Int64) (((3 : Int32) + r12).toInt64) _ h) (va_cwS 3 X.2.2.2.2 gX9_oneWay_X9_in rfl rfl rfl (by decide +kernel) ⟨Nat.le_of_ble_eq_true rfl, Nat.le_of_ble_eq_true rfl⟩) (tw_pre hK w [.long (x3.toInt64), .long (0 : Int64), .long (((3 : Int32) + r12).toInt64)]) rfl rfl hl.1 rfl (lv_room (Nat.le_of_ble_eq_true rfl)) dX9_oneWay_53 ⟨Nat.zero_le _, Nat.zero_le _⟩) (fun r14 σ13 H locs h w => ?_)
        refine lv_if_ne (tgt := 62) X.1 X.2.1 dX9_oneWay_56 (by decide) (fun c15 => ?_) (fun c15 => ?_)
        · have h := h.1 c15
          refine lv_iload_n X.1 X.2.1 dX9_oneWay_62 rfl (lv_at hl 3 rfl) ?_
          refine lv_iconst (v := 2) X.1 X.2.1 dX9_oneWay_63 (by decide) ?_
          refine lv_icmp_ge (tgt := 85) X.1 X.2.1 dX9_oneWay_64 (by decide) (fun c16 => ?_) (fun c16 => ?_)
          · have h := h.1 c16
            refine lv_iload_n X.1 X.2.1 dX9_oneWay_85 rfl (lv_at hl 3 rfl) ?_
            refine lv_iconst (v := 2) X.1 X.2.1 dX9_oneWay_86 (by decide) ?_
            refine lv_icmp_ne (tgt := 104) X.1 X.2.1 dX9_oneWay_87 (by decide) (fun c17 => ?_) (fun c17 => ?_)
            · have h := h.1 c17
              refine lv_aload_n X.1 X.2.1 dX9_oneWay_104 rfl (lv_at hl 0 rfl) ?_
              refine tw_get X hK w 9 iw_X9_oneWay_9 h0 (by decide) rfl 21 (by decide) (List.mem_of_getElem? (i := 7) rfl) rfl dX9_oneWay_105 ?_
              refine lv_iconst (v := 5) X.1 X.2.1 dX9_oneWay_108 (by decide) ?_
              refine lv_aload_n X.1 X.2.1 dX9_oneWay_109 rfl (lv_at hl 0 rfl) ?_
              refine lv_iload_n X.1 X.2.1 dX9_oneWay_110 rfl (lv_at hl 1 rfl) ?_
              refine lv_iload_n X.1 X.2.1 dX9_oneWay_111 rfl (lv_at hl 2 rfl) ?_
              refine tw_ci w (va_runV (As := [.int x1, .int x2]) (rest := [.int (5 : Int32), .ref (tw_R g a0 21)]) X (ct_X9_at l D g hT _ σ13 a0 h0 x1 x2 _ h) (cwV 2 X.2.2.2.2 gX9_oneWay_X9_at rfl rfl rfl (by decide +kernel) ⟨Nat.le_of_ble_eq_true rfl, Nat.le_of_ble_eq_true rfl⟩) (tw_preV hK w h0 (by decide) rfl [.int x1, .int x2]) rfl rfl hl.1 rfl (lv_room (Nat.le_of_ble_eq_true rfl)) dX9_oneWay_112 ⟨Nat.zero_le _, Nat.zero_le _⟩) (fun r19 σ18 H locs h w => ?_)
              refine lv_imul X.1 X.2.1 dX9_oneWay_115 ?_
              refine lv_iload_n X.1 X.2.1 dX9_oneWay_116 rfl (lv_at hl 3 rfl) ?_
              refine lv_iadd X.1 X.2.1 dX9_oneWay_117 ?_
              refine lv_iconst (v := 3) X.1 X.2.1 dX9_oneWay_118 (by decide) ?_
              refine lv_isub X.1 X.2.1 dX9_oneWay_119 ?_
              obtain ⟨hi20, h⟩ := h
              refine tw_iald X hK w (tw_t_9_21 hT h0) (tw_n_9_21 hT h0) hi20 dX9_oneWay_120 ?_
              exact tw_iret X hr hlk w h dX9_oneWay_121
            · have h := h.2 c17
              refine lv_aload_n X.1 X.2.1 dX9_oneWay_90 rfl (lv_at hl 0 rfl) ?_
              refine tw_get X hK w 9 iw_X9_oneWay_9 h0 (by decide) rfl 23 (by decide) (List.mem_of_getElem? (i := 6) rfl) rfl dX9_oneWay_91 ?_
              refine lv_aload_n X.1 X.2.1 dX9_oneWay_94 rfl (lv_at hl 0 rfl) ?_
              refine lv_iload_n X.1 X.2.1 dX9_oneWay_95 rfl (lv_at hl 1 rfl) ?_
              refine lv_iload_n X.1 X.2.1 dX9_oneWay_96 rfl (lv_at hl 2 rfl) ?_
              refine tw_ci w (va_runV (As := [.int x1, .int x2]) (rest := [.ref (tw_R g a0 23)]) X (ct_X9_at l D g hT _ σ13 a0 h0 x1 x2 _ h) (cwV 2 X.2.2.2.2 gX9_oneWay_X9_at rfl rfl rfl (by decide +kernel) ⟨Nat.le_of_ble_eq_true rfl, Nat.le_of_ble_eq_true rfl⟩) (tw_preV hK w h0 (by decide) rfl [.int x1, .int x2]) rfl rfl hl.1 rfl (lv_room (Nat.le_of_ble_eq_true rfl)) dX9_oneWay_97 ⟨Nat.zero_le _, Nat.zero_le _⟩) (fun r22 σ21 H locs h w => ?_)
              obtain ⟨hi23, h⟩ := h
              refine tw_iald X hK w (tw_t_9_23 hT h0) (tw_n_9_23 hT h0) hi23 dX9_oneWay_100 ?_
              refine lv_goto (tgt := 121) X.1 X.2.1 dX9_oneWay_101 (by decide) ?_
              exact tw_iret X hr hlk w h dX9_oneWay_121
          · have h := h.2 c16
            refine lv_aload_n X.1 X.2.1 dX9_oneWay_67 rfl (lv_at hl 0 rfl) ?_
            refine tw_get X hK w 9 iw_X9_oneWay_9 h0 (by decide) rfl 22 (by decide) (List.mem_of_getElem? (i := 5) rfl) rfl dX9_oneWay_68 ?_
            refine lv_iconst (v := 2) X.1 X.2.1 dX9_oneWay_71 (by decide) ?_
            refine lv_aload_n X.1 X.2.1 dX9_oneWay_72 rfl (lv_at hl 0 rfl) ?_
            refine lv_iload_n X.1 X.2.1 dX9_oneWay_73 rfl (lv_at hl 1 rfl) ?_
            refine lv_iload_n X.1 X.2.1 dX9_oneWay_74 rfl (lv_at hl 2 rfl) ?_
            refine tw_ci w (va_runV (As := [.int x1, .int x2]) (rest := [.int (2 : Int32), .ref (tw_R g a0 22)]) X (ct_X9_at l D g hT _ σ13 a0 h0 x1 x2 _ h) (cwV 2 X.2.2.2.2 gX9_oneWay_X9_at rfl rfl rfl (by decide +kernel) ⟨Nat.le_of_ble_eq_true rfl, Nat.le_of_ble_eq_true rfl⟩) (tw_preV hK w h0 (by decide) rfl [.int x1, .int x2]) rfl rfl hl.1 rfl (lv_room (Nat.le_of_ble_eq_true rfl)) dX9_oneWay_75 ⟨Nat.zero_le _, Nat.zero_le _⟩) (fun r25 σ24 H locs h w => ?_)
            refine lv_imul X.1 X.2.1 dX9_oneWay_78 ?_
            refine lv_iload_n X.1 X.2.1 dX9_oneWay_79 rfl (lv_at hl 3 rfl) ?_
            refine lv_iadd X.1 X.2.1 dX9_oneWay_80 ?_
            obtain ⟨hi26, h⟩ := h
            refine tw_iald X hK w (tw_t_9_22 hT h0) (tw_n_9_22 hT h0) hi26 dX9_oneWay_81 ?_
            refine lv_goto (tgt := 121) X.1 X.2.1 dX9_oneWay_82 (by decide) ?_
            exact tw_iret X hr hlk w h dX9_oneWay_121
        · have h := h.2 c15
          refine lv_ldc (own := RX9) (v := -1000000002) X.1 X.2.1 X.2.2.2.1 (X.2.2.2.2 _ (List.mem_of_getElem? (i := 4) rfl)) dX9_oneWay_59 ?_
          exact tw_iret X hr hlk w h dX9_oneWay_61
      · have h := h.2 c10
        refine lv_ldc (own := RX9) (v := -1000000001) X.1 X.2.1 X.2.2.2.1 (X.2.2.2.2 _ (List.mem_of_getElem? (i := 1) rfl)) dX9_oneWay_39 ?_
        exact tw_iret X hr hlk w h dX9_oneWay_41
    · have h := h.2 c6
      refine lv_ldc (own := RX9) (v := -1000000004) X.1 X.2.1 X.2.2.2.1 (X.2.2.2.2 _ (List.mem_of_getElem? (i := 2) rfl)) dX9_oneWay_18 ?_
      exact tw_iret X hr hlk w h dX9_oneWay_20
  · have h := h.2 c3
    refine lv_ldc (own := RX9) (v := -1000000001) X.1 X.2.1 X.2.2.2.1 (X.2.2.2.2 _ (List.mem_of_getElem? (i := 1) rfl)) dX9_oneWay_7 ?_
    exact tw_iret X hr hlk w h dX9_oneWay_9

abbrev RM_X9_taken : Room := { frames := 4, cells := 0, slots := 0, locals := 100 }
theorem iw_X9_taken_9 : ∀ w ∈ wsX90, w ∈ wsX9_taken := fun w h => List.mem_cons_of_mem _ (List.mem_append_right _ (h))
def wl_X9_taken_38 (g : tw_G) (a0 : Nat) (x1 : Int32) (x2 : Int32) (Q : Int32 → tw_S → Prop) (k69 : tw_S → Prop) : Nat → Int32 → tw_S → Prop
  | 0, _, _ => False
  | n + 1, x3, σ => vp_in x1 2 ∧ (((tw_A σ (tw_R g a0 20) x1.toNatClampNeg) ≤ x3) → k69  σ) ∧ (¬ ((tw_A σ (tw_R g a0 20) x1.toNatClampNeg) ≤ x3) → ((¬ x3 = 0) → vp_in x3 151 ∧ ∀ σ14, σ14 = (tw_sA σ (tw_R g a0 28) (upd (tw_A σ (tw_R g a0 28)) x3.toNatClampNeg (0 : Int32))) → wl_X9_taken_38 g a0 x1 x2 Q k69 n (x3 + 1) σ14) ∧ ((x3 = 0) → vp_in x3 151 ∧ ∀ σ16, σ16 = (tw_sA σ (tw_R g a0 28) (upd (tw_A σ (tw_R g a0 28)) x3.toNatClampNeg (1 : Int32))) → wl_X9_taken_38 g a0 x1 x2 Q k69 n (x3 + 1) σ16))
def wl_X9_taken_79 (g : tw_G) (a0 : Nat) (x1 : Int32) (x2 : Int32) (x3 : Int32) (Q : Int32 → tw_S → Prop) (k104 : tw_S → Prop) : Nat → Int32 → tw_S → Prop
  | 0, _, _ => False
  | n + 1, x4, σ => vp_in x1 2 ∧ (((tw_A σ (tw_R g a0 20) x1.toNatClampNeg) ≤ x4) → k104  σ) ∧ (¬ ((tw_A σ (tw_R g a0 20) x1.toNatClampNeg) ≤ x4) → vp_in x4 151 ∧ ∀ σ22, σ22 = (tw_sA σ (tw_R g a0 29) (upd (tw_A σ (tw_R g a0 29)) x4.toNatClampNeg (0 : Int32))) → wl_X9_taken_79 g a0 x1 x2 x3 Q k104 n (x4 + 1) σ22)
def wl_X9_taken_107 (g : tw_G) (a0 : Nat) (x1 : Int32) (x2 : Int32) (x3 : Int32) (Q : Int32 → tw_S → Prop) (k164 : tw_S → Prop) : Nat → Int32 → tw_S → Prop
  | 0, _, _ => False
  | n + 1, x4, σ => vp_in x1 2 ∧ ((((2 : Int32) * (tw_A σ (tw_R g a0 20) x1.toNatClampNeg)) ≤ x4) → k164  σ) ∧ (¬ (((2 : Int32) * (tw_A σ (tw_R g a0 20) x1.toNatClampNeg)) ≤ x4) → wp_X9_at g σ a0 x1 (x4 / (2 : Int32)) (fun r27 σ26 => vp_in (((2 : Int32) * r27) + (x4 - x4 / (2 : Int32) * (2 : Int32))) 604 ∧ vp_in (tw_A σ26 (tw_R g a0 22) (((2 : Int32) * r27) + (x4 - x4 / (2 : Int32) * (2 : Int32))).toNatClampNeg) 151 ∧ vp_in (x4 / (2 : Int32)) 151 ∧ vp_in (tw_A σ26 (tw_R g a0 22) (((2 : Int32) * r27) + (x4 - x4 / (2 : Int32) * (2 : Int32))).toNatClampNeg) 151 ∧ ∀ σ32, σ32 = (tw_sA σ26 (tw_R g a0 29) (upd (tw_A σ26 (tw_R g a0 29)) (tw_A σ26 (tw_R g a0 22) (((2 : Int32) * r27) + (x4 - x4 / (2 : Int32) * (2 : Int32))).toNatClampNeg).toNatClampNeg ((tw_A σ26 (tw_R g a0 29) (tw_A σ26 (tw_R g a0 22) (((2 : Int32) * r27) + (x4 - x4 / (2 : Int32) * (2 : Int32))).toNatClampNeg).toNatClampNeg) + (tw_A σ26 (tw_R g a0 28) (x4 / (2 : Int32)).toNatClampNeg)))) → wl_X9_taken_107 g a0 x1 x2 x3 Q k164 n (x4 + 1) σ32))
def wl_X9_taken_167 (g : tw_G) (a0 : Nat) (x1 : Int32) (x2 : Int32) (x3 : Int32) (Q : Int32 → tw_S → Prop) (k198 : tw_S → Prop) : Nat → Int32 → tw_S → Prop
  | 0, _, _ => False
  | n + 1, x4, σ => vp_in x1 2 ∧ (((tw_A σ (tw_R g a0 20) x1.toNatClampNeg) ≤ x4) → k198  σ) ∧ (¬ ((tw_A σ (tw_R g a0 20) x1.toNatClampNeg) ≤ x4) → vp_in x4 151 ∧ vp_in x4 151 ∧ ∀ σ38, σ38 = (tw_sA σ (tw_R g a0 28) (upd (tw_A σ (tw_R g a0 28)) x4.toNatClampNeg (tw_A σ (tw_R g a0 29) x4.toNatClampNeg))) → wl_X9_taken_167 g a0 x1 x2 x3 Q k198 n (x4 + 1) σ38)
def wl_X9_taken_71 (g : tw_G) (a0 : Nat) (x1 : Int32) (x2 : Int32) (Q : Int32 → tw_S → Prop) (k204 : tw_S → Prop) : Nat → Int32 → tw_S → Prop
  | 0, _, _ => False
  | n + 1, x3, σ => ((x2 ≤ x3) → k204  σ) ∧ (¬ (x2 ≤ x3) → ∃ n79, wl_X9_taken_79 g a0 x1 x2 x3 Q (fun σ23 => ∃ n107, wl_X9_taken_107 g a0 x1 x2 x3 Q (fun σ33 => ∃ n167, wl_X9_taken_167 g a0 x1 x2 x3 Q (fun σ39 => wl_X9_taken_71 g a0 x1 x2 Q k204 n (x3 + 1) σ39) n167 (0 : Int32) σ33) n107 (0 : Int32) σ23) n79 (0 : Int32) σ)
def wl_X9_taken_209 (g : tw_G) (a0 : Nat) (x1 : Int32) (Q : Int32 → tw_S → Prop) (k256 : Int32 → tw_S → Prop) : Nat → Int32 → Int32 → tw_S → Prop
  | 0, _, _, _ => False
  | n + 1, x3, x4, σ => vp_in x1 2 ∧ (((tw_A σ (tw_R g a0 20) x1.toNatClampNeg) ≤ x4) → k256 x3 σ) ∧ (¬ ((tw_A σ (tw_R g a0 20) x1.toNatClampNeg) ≤ x4) → wp_X9_at g σ a0 x1 x4 (fun r44 σ43 => vp_in r44 302 ∧ ((¬ (tw_A σ43 (tw_R g a0 23) r44.toNatClampNeg) = (1 : Int32)) → wl_X9_taken_209 g a0 x1 Q k256 n (x3 + (0 : Int32)) (x4 + 1) σ43) ∧ (((tw_A σ43 (tw_R g a0 23) r44.toNatClampNeg) = (1 : Int32)) → vp_in x4 151 ∧ ∀ z48, z48 = (x3 + (tw_A σ43 (tw_R g a0 28) x4.toNatClampNeg)) → wl_X9_taken_209 g a0 x1 Q k256 n z48 (x4 + 1) σ43)))
def wp_X9_taken (g : tw_G) (σ : tw_S) (a0 : Nat) (x1 : Int32) (x2 : Int32) (Q : Int32 → tw_S → Prop) : Prop := wp_X9_isMachine g σ x1 (fun r2 σ1 => ((¬ r2 = 0) → wp_X9_in g σ1 (x2.toInt64) (0 : Int64) (24 : Int64) (fun r5 σ4 => ((¬ r5 = 0) → wp_X9_lays g σ4 a0 x1 (fun r8 σ7 => ((¬ r8 = 0) → ∃ n38, wl_X9_taken_38 g a0 x1 x2 Q (fun σ17 => ∃ n71, wl_X9_taken_71 g a0 x1 x2 Q (fun σ40 => ∃ n209, wl_X9_taken_209 g a0 x1 Q (fun v49 σ50 => Q v49 σ50) n209 (0 : Int32) (0 : Int32) σ40) n71 (0 : Int32) σ17) n38 (0 : Int32) σ7) ∧ ((r8 = 0) → Q (-1000000004 : Int32) σ7))) ∧ ((r5 = 0) → Q (-1000000002 : Int32) σ4))) ∧ ((r2 = 0) → Q (-1000000001 : Int32) σ1))
set_option maxHeartbeats 4000000 in
set_option maxRecDepth 100000 in
theorem lp_X9_taken_38 {p : Program} {l : Launch} {e : Env} {s : State} {m : MethodId} {args : Array Value} {below : List Frame} {meth : Method} {c : Code} {D : va_G} {g : tw_G} (X : CallFix p m c cX9_taken 5 s args wsX9_taken RX9) (hr : meth.sig.returnType = (some .int)) (hlk : meth.locks = false) (hK : tw_k D g s) (hT : tw_T g) {a0 : Nat} {x1 : Int32} {x2 : Int32} (h0 : tw_is g 9 a0) {Q : Int32 → tw_S → Prop} {k69 : tw_S → Prop}
    (hk69 : ∀  (σ : tw_S) (H : Heap) (locs : List Loc) (ls : Array Slot), k69  σ → tw_w D g (tw_F g s.heap.size) s σ H locs → lv_has ls 5 [(0, .ref a0), (1, .int x1), (2, .int x2)] → W p l e RM_X9_taken s m args below meth c H locs 0 0 (tw_Qi Q D g below args s) (F0 m 69 ls []))
    : ∀ (n : Nat) (x3 : Int32) (σ : tw_S) (H : Heap) (locs : List Loc) (ls : Array Slot), wl_X9_taken_38 g a0 x1 x2 Q k69 n x3 σ → tw_w D g (tw_F g s.heap.size) s σ H locs → lv_has ls 5 [(0, .ref a0), (1, .int x1), (2, .int x2), (3, .int x3)] → W p l e RM_X9_taken s m args below meth c H locs 0 0 (tw_Qi Q D g below args s) (F0 m 38 ls []) := by
  intro n
  induction n with
  | zero =>
    intro x3 σ H locs ls h w hl
    exact False.elim h
  | succ n ih =>
    intro x3 σ H locs ls h w hl
    rw [wl_X9_taken_38] at h
    refine lv_iload_n X.1 X.2.1 dX9_taken_38 rfl (lv_at hl 3 rfl) ?_
    refine lv_aload_n X.1 X.2.1 dX9_taken_39 rfl (lv_at hl 0 rfl) ?_
    refine tw_get X hK w 9 iw_X9_taken_9 h0 (by decide) rfl 20 (by decide) (List.mem_of_getElem? (i := 5) rfl) rfl dX9_taken_40 ?_
    refine lv_iload_n X.1 X.2.1 dX9_taken_43 rfl (lv_at hl 1 rfl) ?_
    obtain ⟨hi10, h⟩ := h
    refine tw_iald X hK w (tw_t_9_20 hT h0) (tw_n_9_20 hT h0) hi10 dX9_taken_44 ?_
    refine lv_icmp_ge (tgt := 69) X.1 X.2.1 dX9_taken_45 (by decide) (fun c11 => ?_) (fun c11 => ?_)
    · have h := h.1 c11
      exact hk69  σ _ _ ls h w (lv_sub hl [0, 1, 2] rfl)
    · have h := h.2 c11
      refine lv_aload_n X.1 X.2.1 dX9_taken_48 rfl (lv_at hl 0 rfl) ?_
      refine tw_get X hK w 9 iw_X9_taken_9 h0 (by decide) rfl 28 (by decide) (List.mem_of_getElem? (i := 6) rfl) rfl dX9_taken_49 ?_
      refine lv_iload_n X.1 X.2.1 dX9_taken_52 rfl (lv_at hl 3 rfl) ?_
      refine lv_iload_n X.1 X.2.1 dX9_taken_53 rfl (lv_at hl 3 rfl) ?_
      refine lv_if_ne (tgt := 61) X.1 X.2.1 dX9_taken_54 (by decide) (fun c12 => ?_) (fun c12 => ?_)
      · have h := h.1 c12
        refine lv_iconst (v := 0) X.1 X.2.1 dX9_taken_61 (by decide) ?_
        obtain ⟨hi13, h⟩ := h
        refine tw_iast X hK w (tw_t_9_28 hT h0) (tw_n_9_28 hT h0) hi13 dX9_taken_62 (fun σ14 H locs eσ14 w => ?_)
        have h := h _ eσ14
        refine lv_iinc (v := (x3 + 1)) (lv' := [(3, .int (x3 + 1)), (0, .ref a0), (1, .int x1), (2, .int x2)]) X.1 X.2.1 dX9_taken_63 hl (k := 3) rfl rfl (by decide) rfl (fun ls hl => ?_)
        refine lv_goto (tgt := 38) X.1 X.2.1 dX9_taken_66 (by decide) ?_
        exact ih (x3 + 1) σ14 _ _ ls h w (lv_sub hl [1, 2, 3, 0] rfl)
      · have h := h.2 c12
        refine lv_iconst (v := 1) X.1 X.2.1 dX9_taken_57 (by decide) ?_
        refine lv_goto (tgt := 62) X.1 X.2.1 dX9_taken_58 (by decide) ?_
        obtain ⟨hi15, h⟩ := h
        refine tw_iast X hK w (tw_t_9_28 hT h0) (tw_n_9_28 hT h0) hi15 dX9_taken_62 (fun σ16 H locs eσ16 w => ?_)
        have h := h _ eσ16
        refine lv_iinc (v := (x3 + 1)) (lv' := [(3, .int (x3 + 1)), (0, .ref a0), (1, .int x1), (2, .int x2)]) X.1 X.2.1 dX9_taken_63 hl (k := 3) rfl rfl (by decide) rfl (fun ls hl => ?_)
        refine lv_goto (tgt := 38) X.1 X.2.1 dX9_taken_66 (by decide) ?_
        exact ih (x3 + 1) σ16 _ _ ls h w (lv_sub hl [1, 2, 3, 0] rfl)
set_option maxHeartbeats 4000000 in
set_option maxRecDepth 100000 in
theorem lp_X9_taken_79 {p : Program} {l : Launch} {e : Env} {s : State} {m : MethodId} {args : Array Value} {below : List Frame} {meth : Method} {c : Code} {D : va_G} {g : tw_G} (X : CallFix p m c cX9_taken 5 s args wsX9_taken RX9) (hr : meth.sig.returnType = (some .int)) (hlk : meth.locks = false) (hK : tw_k D g s) (hT : tw_T g) {a0 : Nat} {x1 : Int32} {x2 : Int32} {x3 : Int32} (h0 : tw_is g 9 a0) {Q : Int32 → tw_S → Prop} {k104 : tw_S → Prop}
    (hk104 : ∀  (σ : tw_S) (H : Heap) (locs : List Loc) (ls : Array Slot), k104  σ → tw_w D g (tw_F g s.heap.size) s σ H locs → lv_has ls 5 [(0, .ref a0), (1, .int x1), (2, .int x2), (3, .int x3)] → W p l e RM_X9_taken s m args below meth c H locs 0 0 (tw_Qi Q D g below args s) (F0 m 104 ls []))
    : ∀ (n : Nat) (x4 : Int32) (σ : tw_S) (H : Heap) (locs : List Loc) (ls : Array Slot), wl_X9_taken_79 g a0 x1 x2 x3 Q k104 n x4 σ → tw_w D g (tw_F g s.heap.size) s σ H locs → lv_has ls 5 [(0, .ref a0), (1, .int x1), (2, .int x2), (3, .int x3), (4, .int x4)] → W p l e RM_X9_taken s m args below meth c H locs 0 0 (tw_Qi Q D g below args s) (F0 m 79 ls []) := by
  intro n
  induction n with
  | zero =>
    intro x4 σ H locs ls h w hl
    exact False.elim h
  | succ n ih =>
    intro x4 σ H locs ls h w hl
    rw [wl_X9_taken_79] at h
    refine lv_iload X.1 X.2.1 dX9_taken_79 (lv_at hl 4 rfl) ?_
    refine lv_aload_n X.1 X.2.1 dX9_taken_81 rfl (lv_at hl 0 rfl) ?_
    refine tw_get X hK w 9 iw_X9_taken_9 h0 (by decide) rfl 20 (by decide) (List.mem_of_getElem? (i := 5) rfl) rfl dX9_taken_82 ?_
    refine lv_iload_n X.1 X.2.1 dX9_taken_85 rfl (lv_at hl 1 rfl) ?_
    obtain ⟨hi19, h⟩ := h
    refine tw_iald X hK w (tw_t_9_20 hT h0) (tw_n_9_20 hT h0) hi19 dX9_taken_86 ?_
    refine lv_icmp_ge (tgt := 104) X.1 X.2.1 dX9_taken_87 (by decide) (fun c20 => ?_) (fun c20 => ?_)
    · have h := h.1 c20
      exact hk104  σ _ _ ls h w (lv_sub hl [0, 1, 2, 3] rfl)
    · have h := h.2 c20
      refine lv_aload_n X.1 X.2.1 dX9_taken_90 rfl (lv_at hl 0 rfl) ?_
      refine tw_get X hK w 9 iw_X9_taken_9 h0 (by decide) rfl 29 (by decide) (List.mem_of_getElem? (i := 7) rfl) rfl dX9_taken_91 ?_
      refine lv_iload X.1 X.2.1 dX9_taken_94 (lv_at hl 4 rfl) ?_
      refine lv_iconst (v := 0) X.1 X.2.1 dX9_taken_96 (by decide) ?_
      obtain ⟨hi21, h⟩ := h
      refine tw_iast X hK w (tw_t_9_29 hT h0) (tw_n_9_29 hT h0) hi21 dX9_taken_97 (fun σ22 H locs eσ22 w => ?_)
      have h := h _ eσ22
      refine lv_iinc (v := (x4 + 1)) (lv' := [(4, .int (x4 + 1)), (0, .ref a0), (1, .int x1), (2, .int x2), (3, .int x3)]) X.1 X.2.1 dX9_taken_98 hl (k := 4) rfl rfl (by decide) rfl (fun ls hl => ?_)
      refine lv_goto (tgt := 79) X.1 X.2.1 dX9_taken_101 (by decide) ?_
      exact ih (x4 + 1) σ22 _ _ ls h w (lv_sub hl [1, 2, 3, 4, 0] rfl)
set_option maxHeartbeats 4000000 in
set_option maxRecDepth 100000 in
theorem lp_X9_taken_107 {p : Program} {l : Launch} {e : Env} {s : State} {m : MethodId} {args : Array Value} {below : List Frame} {meth : Method} {c : Code} {D : va_G} {g : tw_G} (X : CallFix p m c cX9_taken 5 s args wsX9_taken RX9) (hr : meth.sig.returnType = (some .int)) (hlk : meth.locks = false) (hK : tw_k D g s) (hT : tw_T g) {a0 : Nat} {x1 : Int32} {x2 : Int32} {x3 : Int32} (h0 : tw_is g 9 a0) {Q : Int32 → tw_S → Prop} {k164 : tw_S → Prop}
    (hk164 : ∀  (σ : tw_S) (H : Heap) (locs : List Loc) (ls : Array Slot), k164  σ → tw_w D g (tw_F g s.heap.size) s σ H locs → lv_has ls 5 [(0, .ref a0), (1, .int x1), (2, .int x2), (3, .int x3)] → W p l e RM_X9_taken s m args below meth c H locs 0 0 (tw_Qi Q D g below args s) (F0 m 164 ls []))
    : ∀ (n : Nat) (x4 : Int32) (σ : tw_S) (H : Heap) (locs : List Loc) (ls : Array Slot), wl_X9_taken_107 g a0 x1 x2 x3 Q k164 n x4 σ → tw_w D g (tw_F g s.heap.size) s σ H locs → lv_has ls 5 [(0, .ref a0), (1, .int x1), (2, .int x2), (3, .int x3), (4, .int x4)] → W p l e RM_X9_taken s m args below meth c H locs 0 0 (tw_Qi Q D g below args s) (F0 m 107 ls []) := by
  intro n
  induction n with
  | zero =>
    intro x4 σ H locs ls h w hl
    exact False.elim h
  | succ n ih =>
    intro x4 σ H locs ls h w hl
    rw [wl_X9_taken_107] at h
    refine lv_iload X.1 X.2.1 dX9_taken_107 (lv_at hl 4 rfl) ?_
    refine lv_iconst (v := 2) X.1 X.2.1 dX9_taken_109 (by decide) ?_
    refine lv_aload_n X.1 X.2.1 dX9_taken_110 rfl (lv_at hl 0 rfl) ?_
    refine tw_get X hK w 9 iw_X9_taken_9 h0 (by decide) rfl 20 (by decide) (List.mem_of_getElem? (i := 5) rfl) rfl dX9_taken_111 ?_
    refine lv_iload_n X.1 X.2.1 dX9_taken_114 rfl (lv_at hl 1 rfl) ?_
    obtain ⟨hi24, h⟩ := h
    refine tw_iald X hK w (tw_t_9_20 hT h0) (tw_n_9_20 hT h0) hi24 dX9_taken_115 ?_
    refine lv_imul X.1 X.2.1 dX9_taken_116 ?_
    refine lv_icmp_ge (tgt := 164) X.1 X.2.1 dX9_taken_117 (by decide) (fun c25 => ?_) (fun c25 => ?_)
    · have h := h.1 c25
      exact hk164  σ _ _ ls h w (lv_sub hl [0, 1, 2, 3] rfl)
    · have h := h.2 c25
      refine lv_aload_n X.1 X.2.1 dX9_taken_120 rfl (lv_at hl 0 rfl) ?_
      refine tw_get X hK w 9 iw_X9_taken_9 h0 (by decide) rfl 29 (by decide) (List.mem_of_getElem? (i := 7) rfl) rfl dX9_taken_121 ?_
      refine lv_aload_n X.1 X.2.1 dX9_taken_124 rfl (lv_at hl 0 rfl) ?_
      refine tw_get X hK w 9 iw_X9_taken_9 h0 (by decide) rfl 22 (by decide) (List.mem_of_getElem? (i := 8) rfl) rfl dX9_taken_125 ?_
      refine lv_iconst (v := 2) X.1 X.2.1 dX9_taken_128 (by decide) ?_
      refine lv_aload_n X.1 X.2.1 dX9_taken_129 rfl (lv_at hl 0 rfl) ?_
      refine lv_iload_n X.1 X.2.1 dX9_taken_130 rfl (lv_at hl 1 rfl) ?_
      refine lv_iload X.1 X.2.1 dX9_taken_131 (lv_at hl 4 rfl) ?_
      refine lv_iconst (v := 2) X.1 X.2.1 dX9_taken_133 (by decide) ?_
      refine lv_idiv X.1 X.2.1 dX9_taken_134 (by decide) ?_
      refine tw_ci w (va_runV (As := [.int x1, .int (x4 / (2 : Int32))]) (rest := [.int (2 : Int32), .ref (tw_R g a0 22), .ref (tw_R g a0 29)]) X (ct_X9_at l D g hT _ σ a0 h0 x1 (x4 / (2 : Int32)) _ h) (cwV 2 X.2.2.2.2 gX9_taken_X9_at rfl rfl rfl (by decide +kernel) ⟨Nat.le_of_ble_eq_true rfl, Nat.le_of_ble_eq_true rfl⟩) (tw_preV hK w h0 (by decide) rfl [.int x1, .int (x4 / (2 : Int32))]) rfl rfl hl.1 rfl (lv_room (Nat.le_of_ble_eq_true rfl)) dX9_taken_135 ⟨Nat.zero_le _, Nat.zero_le _⟩) (fun r27 σ26 H locs h w => ?_)
      refine lv_imul X.1 X.2.1 dX9_taken_138 ?_
      refine lv_iload X.1 X.2.1 dX9_taken_139 (lv_at hl 4 rfl) ?_
      refine lv_iconst (v := 2) X.1 X.2.1 dX9_taken_141 (by decide) ?_
      refine lv_irem X.1 X.2.1 dX9_taken_142 (by decide) ?_
      refine lv_iadd X.1 X.2.1 dX9_taken_143 ?_
      obtain ⟨hi28, h⟩ := h
      refine tw_iald X hK w (tw_t_9_22 hT h0) (tw_n_9_22 hT h0) hi28 dX9_taken_144 ?_
      refine lv_dup2_11 X.1 X.2.1 dX9_taken_145 rfl rfl ?_
      obtain ⟨hi29, h⟩ := h
      refine tw_iald X hK w (tw_t_9_29 hT h0) (tw_n_9_29 hT h0) hi29 dX9_taken_146 ?_
      refine lv_aload_n X.1 X.2.1 dX9_taken_147 rfl (lv_at hl 0 rfl) ?_
      refine tw_get X hK w 9 iw_X9_taken_9 h0 (by decide) rfl 28 (by decide) (List.mem_of_getElem? (i := 6) rfl) rfl dX9_taken_148 ?_
      refine lv_iload X.1 X.2.1 dX9_taken_151 (lv_at hl 4 rfl) ?_
      refine lv_iconst (v := 2) X.1 X.2.1 dX9_taken_153 (by decide) ?_
      refine lv_idiv X.1 X.2.1 dX9_taken_154 (by decide) ?_
      obtain ⟨hi30, h⟩ := h
      refine tw_iald X hK w (tw_t_9_28 hT h0) (tw_n_9_28 hT h0) hi30 dX9_taken_155 ?_
      refine lv_iadd X.1 X.2.1 dX9_taken_156 ?_
      obtain ⟨hi31, h⟩ := h
      refine tw_iast X hK w (tw_t_9_29 hT h0) (tw_n_9_29 hT h0) hi31 dX9_taken_157 (fun σ32 H locs eσ32 w => ?_)
      have h := h _ eσ32
      refine lv_iinc (v := (x4 + 1)) (lv' := [(4, .int (x4 + 1)), (0, .ref a0), (1, .int x1), (2, .int x2), (3, .int x3)]) X.1 X.2.1 dX9_taken_158 hl (k := 4) rfl rfl (by decide) rfl (fun ls hl => ?_)
      refine lv_goto (tgt := 107) X.1 X.2.1 dX9_taken_161 (by decide) ?_
      exact ih (x4 + 1) σ32 _ _ ls h w (lv_sub hl [1, 2, 3, 4, 0] rfl)
set_option maxHeartbeats 4000000 in
set_option maxRecDepth 100000 in
theorem lp_X9_taken_167 {p : Program} {l : Launch} {e : Env} {s : State} {m : MethodId} {args : Array Value} {below : List Frame} {meth : Method} {c : Code} {D : va_G} {g : tw_G} (X : CallFix p m c cX9_taken 5 s args wsX9_taken RX9) (hr : meth.sig.returnType = (some .int)) (hlk : meth.locks = false) (hK : tw_k D g s) (hT : tw_T g) {a0 : Nat} {x1 : Int32} {x2 : Int32} {x3 : Int32} (h0 : tw_is g 9 a0) {Q : Int32 → tw_S → Prop} {k198 : tw_S → Prop}
    (hk198 : ∀  (σ : tw_S) (H : Heap) (locs : List Loc) (ls : Array Slot), k198  σ → tw_w D g (tw_F g s.heap.size) s σ H locs → lv_has ls 5 [(0, .ref a0), (1, .int x1), (2, .int x2), (3, .int x3)] → W p l e RM_X9_taken s m args below meth c H locs 0 0 (tw_Qi Q D g below args s) (F0 m 198 ls []))
    : ∀ (n : Nat) (x4 : Int32) (σ : tw_S) (H : Heap) (locs : List Loc) (ls : Array Slot), wl_X9_taken_167 g a0 x1 x2 x3 Q k198 n x4 σ → tw_w D g (tw_F g s.heap.size) s σ H locs → lv_has ls 5 [(0, .ref a0), (1, .int x1), (2, .int x2), (3, .int x3), (4, .int x4)] → W p l e RM_X9_taken s m args below meth c H locs 0 0 (tw_Qi Q D g below args s) (F0 m 167 ls []) := by
  intro n
  induction n with
  | zero =>
    intro x4 σ H locs ls h w hl
    exact False.elim h
  | succ n ih =>
    intro x4 σ H locs ls h w hl
    rw [wl_X9_taken_167] at h
    refine lv_iload X.1 X.2.1 dX9_taken_167 (lv_at hl 4 rfl) ?_
    refine lv_aload_n X.1 X.2.1 dX9_taken_169 rfl (lv_at hl 0 rfl) ?_
    refine tw_get X hK w 9 iw_X9_taken_9 h0 (by decide) rfl 20 (by decide) (List.mem_of_getElem? (i := 5) rfl) rfl dX9_taken_170 ?_
    refine lv_iload_n X.1 X.2.1 dX9_taken_173 rfl (lv_at hl 1 rfl) ?_
    obtain ⟨hi34, h⟩ := h
    refine tw_iald X hK w (tw_t_9_20 hT h0) (tw_n_9_20 hT h0) hi34 dX9_taken_174 ?_
    refine lv_icmp_ge (tgt := 198) X.1 X.2.1 dX9_taken_175 (by decide) (fun c35 => ?_) (fun c35 => ?_)
    · have h := h.1 c35
      exact hk198  σ _ _ ls h w (lv_sub hl [0, 1, 2, 3] rfl)
    · have h := h.2 c35
      refine lv_aload_n X.1 X.2.1 dX9_taken_178 rfl (lv_at hl 0 rfl) ?_
      refine tw_get X hK w 9 iw_X9_taken_9 h0 (by decide) rfl 28 (by decide) (List.mem_of_getElem? (i := 6) rfl) rfl dX9_taken_179 ?_
      refine lv_iload X.1 X.2.1 dX9_taken_182 (lv_at hl 4 rfl) ?_
      refine lv_aload_n X.1 X.2.1 dX9_taken_184 rfl (lv_at hl 0 rfl) ?_
      refine tw_get X hK w 9 iw_X9_taken_9 h0 (by decide) rfl 29 (by decide) (List.mem_of_getElem? (i := 7) rfl) rfl dX9_taken_185 ?_
      refine lv_iload X.1 X.2.1 dX9_taken_188 (lv_at hl 4 rfl) ?_
      obtain ⟨hi36, h⟩ := h
      refine tw_iald X hK w (tw_t_9_29 hT h0) (tw_n_9_29 hT h0) hi36 dX9_taken_190 ?_
      obtain ⟨hi37, h⟩ := h
      refine tw_iast X hK w (tw_t_9_28 hT h0) (tw_n_9_28 hT h0) hi37 dX9_taken_191 (fun σ38 H locs eσ38 w => ?_)
      have h := h _ eσ38
      refine lv_iinc (v := (x4 + 1)) (lv' := [(4, .int (x4 + 1)), (0, .ref a0), (1, .int x1), (2, .int x2), (3, .int x3)]) X.1 X.2.1 dX9_taken_192 hl (k := 4) rfl rfl (by decide) rfl (fun ls hl => ?_)
      refine lv_goto (tgt := 167) X.1 X.2.1 dX9_taken_195 (by decide) ?_
      exact ih (x4 + 1) σ38 _ _ ls h w (lv_sub hl [1, 2, 3, 4, 0] rfl)
set_option maxHeartbeats 4000000 in
set_option maxRecDepth 100000 in
theorem lp_X9_taken_71 {p : Program} {l : Launch} {e : Env} {s : State} {m : MethodId} {args : Array Value} {below : List Frame} {meth : Method} {c : Code} {D : va_G} {g : tw_G} (X : CallFix p m c cX9_taken 5 s args wsX9_taken RX9) (hr : meth.sig.returnType = (some .int)) (hlk : meth.locks = false) (hK : tw_k D g s) (hT : tw_T g) {a0 : Nat} {x1 : Int32} {x2 : Int32} (h0 : tw_is g 9 a0) {Q : Int32 → tw_S → Prop} {k204 : tw_S → Prop}
    (hk204 : ∀  (σ : tw_S) (H : Heap) (locs : List Loc) (ls : Array Slot), k204  σ → tw_w D g (tw_F g s.heap.size) s σ H locs → lv_has ls 5 [(0, .ref a0), (1, .int x1)] → W p l e RM_X9_taken s m args below meth c H locs 0 0 (tw_Qi Q D g below args s) (F0 m 204 ls []))
    : ∀ (n : Nat) (x3 : Int32) (σ : tw_S) (H : Heap) (locs : List Loc) (ls : Array Slot), wl_X9_taken_71 g a0 x1 x2 Q k204 n x3 σ → tw_w D g (tw_F g s.heap.size) s σ H locs → lv_has ls 5 [(0, .ref a0), (1, .int x1), (2, .int x2), (3, .int x3)] → W p l e RM_X9_taken s m args below meth c H locs 0 0 (tw_Qi Q D g below args s) (F0 m 71 ls []) := by
  intro n
  induction n with
  | zero =>
    intro x3 σ H locs ls h w hl
    exact False.elim h
  | succ n ih =>
    intro x3 σ H locs ls h w hl
    rw [wl_X9_taken_71] at h
    refine lv_iload_n X.1 X.2.1 dX9_taken_71 rfl (lv_at hl 3 rfl) ?_
    refine lv_iload_n X.1 X.2.1 dX9_taken_72 rfl (lv_at hl 2 rfl) ?_
    refine lv_icmp_ge (tgt := 204) X.1 X.2.1 dX9_taken_73 (by decide) (fun c18 => ?_) (fun c18 => ?_)
    · have h := h.1 c18
      exact hk204  σ _ _ ls h w (lv_sub hl [0, 1] rfl)
    · have h := h.2 c18
      refine lv_iconst (v := 0) X.1 X.2.1 dX9_taken_76 (by decide) ?_
      refine lv_istore (lv' := [(4, .int (0 : Int32)), (0, .ref a0), (1, .int x1), (2, .int x2), (3, .int x3)]) X.1 X.2.1 dX9_taken_77 hl (by decide) rfl (fun ls hl => ?_)
      obtain ⟨n79, h⟩ := h
      refine lp_X9_taken_79 X hr hlk hK hT h0 (fun σ23 H locs ls h w hl => ?_) n79 (0 : Int32) σ _ _ ls h w (lv_sub hl [1, 2, 3, 4, 0] rfl)
      · skip
        refine lv_iconst (v := 0) X.1 X.2.1 dX9_taken_104 (by decide) ?_
        refine lv_istore (lv' := [(4, .int (0 : Int32)), (0, .ref a0), (1, .int x1), (2, .int x2), (3, .int x3)]) X.1 X.2.1 dX9_taken_105 hl (by decide) rfl (fun ls hl => ?_)
        obtain ⟨n107, h⟩ := h
        refine lp_X9_taken_107 X hr hlk hK hT h0 (fun σ33 H locs ls h w hl => ?_) n107 (0 : Int32) σ23 _ _ ls h w (lv_sub hl [1, 2, 3, 4, 0] rfl)
        · skip
          refine lv_iconst (v := 0) X.1 X.2.1 dX9_taken_164 (by decide) ?_
          refine lv_istore (lv' := [(4, .int (0 : Int32)), (0, .ref a0), (1, .int x1), (2, .int x2), (3, .int x3)]) X.1 X.2.1 dX9_taken_165 hl (by decide) rfl (fun ls hl => ?_)
          obtain ⟨n167, h⟩ := h
          refine lp_X9_taken_167 X hr hlk hK hT h0 (fun σ39 H locs ls h w hl => ?_) n167 (0 : Int32) σ33 _ _ ls h w (lv_sub hl [1, 2, 3, 4, 0] rfl)
          · skip
            refine lv_iinc (v := (x3 + 1)) (lv' := [(3, .int (x3 + 1)), (0, .ref a0), (1, .int x1), (2, .int x2)]) X.1 X.2.1 dX9_taken_198 hl (k := 3) rfl rfl (by decide) rfl (fun ls hl => ?_)
            refine lv_goto (tgt := 71) X.1 X.2.1 dX9_taken_201 (by decide) ?_
            exact ih (x3 + 1) σ39 _ _ ls h w (lv_sub hl [1, 2, 3, 0] rfl)
set_option maxHeartbeats 4000000 in
set_option maxRecDepth 100000 in
theorem lp_X9_taken_209 {p : Program} {l : Launch} {e : Env} {s : State} {m : MethodId} {args : Array Value} {below : List Frame} {meth : Method} {c : Code} {D : va_G} {g : tw_G} (X : CallFix p m c cX9_taken 5 s args wsX9_taken RX9) (hr : meth.sig.returnType = (some .int)) (hlk : meth.locks = false) (hK : tw_k D g s) (hT : tw_T g) {a0 : Nat} {x1 : Int32} (h0 : tw_is g 9 a0) {Q : Int32 → tw_S → Prop} {k256 : Int32 → tw_S → Prop}
    (hk256 : ∀ (x3 : Int32) (σ : tw_S) (H : Heap) (locs : List Loc) (ls : Array Slot), k256 x3 σ → tw_w D g (tw_F g s.heap.size) s σ H locs → lv_has ls 5 [(3, .int x3)] → W p l e RM_X9_taken s m args below meth c H locs 0 0 (tw_Qi Q D g below args s) (F0 m 256 ls []))
    : ∀ (n : Nat) (x3 : Int32) (x4 : Int32) (σ : tw_S) (H : Heap) (locs : List Loc) (ls : Array Slot), wl_X9_taken_209 g a0 x1 Q k256 n x3 x4 σ → tw_w D g (tw_F g s.heap.size) s σ H locs → lv_has ls 5 [(0, .ref a0), (1, .int x1), (3, .int x3), (4, .int x4)] → W p l e RM_X9_taken s m args below meth c H locs 0 0 (tw_Qi Q D g below args s) (F0 m 209 ls []) := by
  intro n
  induction n with
  | zero =>
    intro x3 x4 σ H locs ls h w hl
    exact False.elim h
  | succ n ih =>
    intro x3 x4 σ H locs ls h w hl
    rw [wl_X9_taken_209] at h
    refine lv_iload X.1 X.2.1 dX9_taken_209 (lv_at hl 3 rfl) ?_
    refine lv_aload_n X.1 X.2.1 dX9_taken_211 rfl (lv_at hl 0 rfl) ?_
    refine tw_get X hK w 9 iw_X9_taken_9 h0 (by decide) rfl 20 (by decide) (List.mem_of_getElem? (i := 5) rfl) rfl dX9_taken_212 ?_
    refine lv_iload_n X.1 X.2.1 dX9_taken_215 rfl (lv_at hl 1 rfl) ?_
    obtain ⟨hi41, h⟩ := h
    refine tw_iald X hK w (tw_t_9_20 hT h0) (tw_n_9_20 hT h0) hi41 dX9_taken_216 ?_
    refine lv_icmp_ge (tgt := 256) X.1 X.2.1 dX9_taken_217 (by decide) (fun c42 => ?_) (fun c42 => ?_)
    · have h := h.1 c42
      exact hk256 x3 σ _ _ ls h w (lv_sub hl [2] rfl)
    · have h := h.2 c42
      refine lv_iload_n X.1 X.2.1 dX9_taken_220 rfl (lv_at hl 2 rfl) ?_
      refine lv_aload_n X.1 X.2.1 dX9_taken_221 rfl (lv_at hl 0 rfl) ?_
      refine tw_get X hK w 9 iw_X9_taken_9 h0 (by decide) rfl 23 (by decide) (List.mem_of_getElem? (i := 9) rfl) rfl dX9_taken_222 ?_
      refine lv_aload_n X.1 X.2.1 dX9_taken_225 rfl (lv_at hl 0 rfl) ?_
      refine lv_iload_n X.1 X.2.1 dX9_taken_226 rfl (lv_at hl 1 rfl) ?_
      refine lv_iload X.1 X.2.1 dX9_taken_227 (lv_at hl 3 rfl) ?_
      refine tw_ci w (va_runV (As := [.int x1, .int x4]) (rest := [.ref (tw_R g a0 23), .int x3]) X (ct_X9_at l D g hT _ σ a0 h0 x1 x4 _ h) (cwV 2 X.2.2.2.2 gX9_taken_X9_at rfl rfl rfl (by decide +kernel) ⟨Nat.le_of_ble_eq_true rfl, Nat.le_of_ble_eq_true rfl⟩) (tw_preV hK w h0 (by decide) rfl [.int x1, .int x4]) rfl rfl hl.1 rfl (lv_room (Nat.le_of_ble_eq_true rfl)) dX9_taken_229 ⟨Nat.zero_le _, Nat.zero_le _⟩) (fun r44 σ43 H locs h w => ?_)
      obtain ⟨hi45, h⟩ := h
      refine tw_iald X hK w (tw_t_9_23 hT h0) (tw_n_9_23 hT h0) hi45 dX9_taken_232 ?_
      refine lv_iconst (v := 1) X.1 X.2.1 dX9_taken_233 (by decide) ?_
      refine lv_icmp_ne (tgt := 247) X.1 X.2.1 dX9_taken_234 (by decide) (fun c46 => ?_) (fun c46 => ?_)
      · have h := h.1 c46
        refine lv_iconst (v := 0) X.1 X.2.1 dX9_taken_247 (by decide) ?_
        refine lv_iadd X.1 X.2.1 dX9_taken_248 ?_
        refine lv_istore_n (lv' := [(3, .int (x3 + (0 : Int32))), (0, .ref a0), (1, .int x1), (4, .int x4)]) X.1 X.2.1 dX9_taken_249 rfl hl (by decide) rfl (fun ls hl => ?_)
        refine lv_iinc (v := (x4 + 1)) (lv' := [(4, .int (x4 + 1)), (3, .int (x3 + (0 : Int32))), (0, .ref a0), (1, .int x1)]) X.1 X.2.1 dX9_taken_250 hl (k := 3) rfl rfl (by decide) rfl (fun ls hl => ?_)
        refine lv_goto (tgt := 209) X.1 X.2.1 dX9_taken_253 (by decide) ?_
        exact ih (x3 + (0 : Int32)) (x4 + 1) σ43 _ _ ls h w (lv_sub hl [2, 3, 1, 0] rfl)
      · have h := h.2 c46
        refine lv_aload_n X.1 X.2.1 dX9_taken_237 rfl (lv_at hl 0 rfl) ?_
        refine tw_get X hK w 9 iw_X9_taken_9 h0 (by decide) rfl 28 (by decide) (List.mem_of_getElem? (i := 6) rfl) rfl dX9_taken_238 ?_
        refine lv_iload X.1 X.2.1 dX9_taken_241 (lv_at hl 3 rfl) ?_
        obtain ⟨hi47, h⟩ := h
        refine tw_iald X hK w (tw_t_9_28 hT h0) (tw_n_9_28 hT h0) hi47 dX9_taken_243 ?_
        refine lv_goto (tgt := 248) X.1 X.2.1 dX9_taken_244 (by decide) ?_
        refine lv_iadd X.1 X.2.1 dX9_taken_248 ?_
        refine lv_topi (fun z48 ez48 => ?_)
        have h := h _ ez48
        refine lv_istore_n (lv' := [(3, .int z48), (0, .ref a0), (1, .int x1), (4, .int x4)]) X.1 X.2.1 dX9_taken_249 rfl hl (by decide) rfl (fun ls hl => ?_)
        refine lv_iinc (v := (x4 + 1)) (lv' := [(4, .int (x4 + 1)), (3, .int z48), (0, .ref a0), (1, .int x1)]) X.1 X.2.1 dX9_taken_250 hl (k := 3) rfl rfl (by decide) rfl (fun ls hl => ?_)
        refine lv_goto (tgt := 209) X.1 X.2.1 dX9_taken_253 (by decide) ?_
        exact ih z48 (x4 + 1) σ43 _ _ ls h w (lv_sub hl [2, 3, 1, 0] rfl)
set_option maxHeartbeats 4000000 in
set_option maxRecDepth 100000 in
theorem ct_X9_taken (l : Launch) (D : va_G) (g : tw_G) (hT : tw_T g) (sz : Nat) (σ : tw_S) (a0 : Nat) (h0 : tw_is g 9 a0) (x1 : Int32) (x2 : Int32) (Q : Int32 → tw_S → Prop) (h : wp_X9_taken g σ a0 x1 x2 Q) : tw_Mi l yX9_taken wsX9_taken RM_X9_taken D g sz σ [.ref a0, .int x1, .int x2] Q := by
  refine Met.ofW (cc := cX9_taken) (maxL := 5) (ret := (some .int)) (by decide) rfl ?_
  intro p e s m args below meth c s₁ B hml hv
  obtain ⟨rfl, hsz, hP, hK, hD0⟩ := hv
  subst hsz
  have hr := B.returns
  have hlk := B.notSynchronized
  have X : CallFix p m c cX9_taken 5 s _ wsX9_taken RX9 := ⟨B.exec, B.bytes, hml, findClass_of_methodNamed B.named, atoms_spec (ws := wsX9_taken) B.pre⟩
  have w := tw_w0 hP hD0
  have hl := lv_entry ([.ref a0, .int x1, .int x2]) (n := 5) (Nat.le_of_ble_eq_true rfl)
  rw [lg_entry_eq]
  generalize (lg_sl ([.ref a0, .int x1, .int x2]) ++ List.replicate (5 - (lg_sl ([.ref a0, .int x1, .int x2])).length) Slot.unset).toArray = ls at hl ⊢
  have hl : lv_has ls 5 [(0, .ref a0), (1, .int x1), (2, .int x2)] := hl
  unfold wp_X9_taken at h
  refine lv_iload_n X.1 X.2.1 dX9_taken_0 rfl (lv_at hl 1 rfl) ?_
  refine tw_ci w (va_runS (As := [.int x1]) (rest := []) X (ct_X9_isMachine l D g hT _ σ x1 _ h) (va_cwS 1 X.2.2.2.2 gX9_taken_X9_isMachine rfl rfl rfl (by decide +kernel) ⟨Nat.le_of_ble_eq_true rfl, Nat.le_of_ble_eq_true rfl⟩) (tw_pre hK w [.int x1]) rfl rfl hl.1 rfl (lv_room (Nat.le_of_ble_eq_true rfl)) dX9_taken_1 ⟨Nat.zero_le _, Nat.zero_le _⟩) (fun r2 σ1 H locs h w => ?_)
  refine lv_if_ne (tgt := 10) X.1 X.2.1 dX9_taken_4 (by decide) (fun c3 => ?_) (fun c3 => ?_)
  · have h := h.1 c3
    refine lv_iload_n X.1 X.2.1 dX9_taken_10 rfl (lv_at hl 2 rfl) ?_
    refine lv_i2l (v := (x2.toInt64)) X.1 X.2.1 dX9_taken_11 rfl ?_
    refine lv_lconst (v := 0) X.1 X.2.1 dX9_taken_12 (by decide) ?_
    refine lv_ldc2 (own := RX9) (v := 24) X.1 X.2.1 X.2.2.2.1 (X.2.2.2.2 _ (List.mem_of_getElem? (i := 2) rfl)) dX9_taken_13 ?_
    refine tw_ci w (va_runS (As := [.long (x2.toInt64), .long (0 : Int64), .long (24 : Int64)]) (rest := []) X (ct_X9_in l D g hT _ σ1 (x2.toInt64) (0 : Int64) (24 : Int64) _ h) (va_cwS 3 X.2.2.2.2 gX9_taken_X9_in rfl rfl rfl (by decide +kernel) ⟨Nat.le_of_ble_eq_true rfl, Nat.le_of_ble_eq_true rfl⟩) (tw_pre hK w [.long (x2.toInt64), .long (0 : Int64), .long (24 : Int64)]) rfl rfl hl.1 rfl (lv_room (Nat.le_of_ble_eq_true rfl)) dX9_taken_16 ⟨Nat.zero_le _, Nat.zero_le _⟩) (fun r5 σ4 H locs h w => ?_)
    refine lv_if_ne (tgt := 25) X.1 X.2.1 dX9_taken_19 (by decide) (fun c6 => ?_) (fun c6 => ?_)
    · have h := h.1 c6
      refine lv_aload_n X.1 X.2.1 dX9_taken_25 rfl (lv_at hl 0 rfl) ?_
      refine lv_iload_n X.1 X.2.1 dX9_taken_26 rfl (lv_at hl 1 rfl) ?_
      refine tw_ci w (va_runV (As := [.int x1]) (rest := []) X (ct_X9_lays l D g hT _ σ4 a0 h0 x1 _ h) (cwV 1 X.2.2.2.2 gX9_taken_X9_lays rfl rfl rfl (by decide +kernel) ⟨Nat.le_of_ble_eq_true rfl, Nat.le_of_ble_eq_true rfl⟩) (tw_preV hK w h0 (by decide) rfl [.int x1]) rfl rfl hl.1 rfl (lv_room (Nat.le_of_ble_eq_true rfl)) dX9_taken_27 ⟨Nat.zero_le _, Nat.zero_le _⟩) (fun r8 σ7 H locs h w => ?_)
      refine lv_if_ne (tgt := 36) X.1 X.2.1 dX9_taken_30 (by decide) (fun c9 => ?_) (fun c9 => ?_)
      · have h := h.1 c9
        refine lv_iconst (v := 0) X.1 X.2.1 dX9_taken_36 (by decide) ?_
        refine lv_istore_n (lv' := [(3, .int (0 : Int32)), (0, .ref a0), (1, .int x1), (2, .int x2)]) X.1 X.2.1 dX9_taken_37 rfl hl (by decide) rfl (fun ls hl => ?_)
        obtain ⟨n38, h⟩ := h
        refine lp_X9_taken_38 X hr hlk hK hT h0 (fun σ17 H locs ls h w hl => ?_) n38 (0 : Int32) σ7 _ _ ls h w (lv_sub hl [1, 2, 3, 0] rfl)
        · skip
          refine lv_iconst (v := 0) X.1 X.2.1 dX9_taken_69 (by decide) ?_
          refine lv_istore_n (lv' := [(3, .int (0 : Int32)), (0, .ref a0), (1, .int x1), (2, .int x2)]) X.1 X.2.1 dX9_taken_70 rfl hl (by decide) rfl (fun ls hl => ?_)
          obtain ⟨n71, h⟩ := h
          refine lp_X9_taken_71 X hr hlk hK hT h0 (fun σ40 H locs ls h w hl => ?_) n71 (0 : Int32) σ17 _ _ ls h w (lv_sub hl [1, 2, 3, 0] rfl)
          · skip
            refine lv_iconst (v := 0) X.1 X.2.1 dX9_taken_204 (by decide) ?_
            refine lv_istore_n (lv' := [(3, .int (0 : Int32)), (0, .ref a0), (1, .int x1)]) X.1 X.2.1 dX9_taken_205 rfl hl (by decide) rfl (fun ls hl => ?_)
            refine lv_iconst (v := 0) X.1 X.2.1 dX9_taken_206 (by decide) ?_
            refine lv_istore (lv' := [(4, .int (0 : Int32)), (3, .int (0 : Int32)), (0, .ref a0), (1, .int x1)]) X.1 X.2.1 dX9_taken_207 hl (by decide) rfl (fun ls hl => ?_)
            obtain ⟨n209, h⟩ := h
            refine lp_X9_taken_209 X hr hlk hK hT h0 (fun v49 σ50 H locs ls h w hl => ?_) n209 (0 : Int32) (0 : Int32) σ40 _ _ ls h w (lv_sub hl [2, 3, 1, 0] rfl)
            · skip
              refine lv_iload_n X.1 X.2.1 dX9_taken_256 rfl (lv_at hl 0 rfl) ?_
              exact tw_iret X hr hlk w h dX9_taken_257
      · have h := h.2 c9
        refine lv_ldc (own := RX9) (v := -1000000004) X.1 X.2.1 X.2.2.2.1 (X.2.2.2.2 _ (List.mem_of_getElem? (i := 4) rfl)) dX9_taken_33 ?_
        exact tw_iret X hr hlk w h dX9_taken_35
    · have h := h.2 c6
      refine lv_ldc (own := RX9) (v := -1000000002) X.1 X.2.1 X.2.2.2.1 (X.2.2.2.2 _ (List.mem_of_getElem? (i := 3) rfl)) dX9_taken_22 ?_
      exact tw_iret X hr hlk w h dX9_taken_24
  · have h := h.2 c3
    refine lv_ldc (own := RX9) (v := -1000000001) X.1 X.2.1 X.2.2.2.1 (X.2.2.2.2 _ (List.mem_of_getElem? (i := 1) rfl)) dX9_taken_7 ?_
    exact tw_iret X hr hlk w h dX9_taken_9

abbrev RM_X9_first : Room := { frames := 5, cells := 0, slots := 0, locals := 121 }
def wp_X9_first (g : tw_G) (σ : tw_S) (a0 : Nat) (x1 : Int32) (Q : Int32 → tw_S → Prop) : Prop := wp_X9_in g σ (x1.toInt64) (0 : Int64) (3 : Int64) (fun r2 σ1 => ((¬ r2 = 0) → wp_X9_laysBoth g σ1 a0 (fun r5 σ4 => ((r5 = 0) → Q (-1000000004 : Int32) σ4) ∧ (¬ (r5 = 0) → wp_X9_firstBy g σ4 a0 x1 (fun r8 σ7 => Q r8 σ7)))) ∧ ((r2 = 0) → Q (-1000000001 : Int32) σ1))
set_option maxHeartbeats 4000000 in
set_option maxRecDepth 100000 in
theorem ct_X9_first (l : Launch) (D : va_G) (g : tw_G) (hT : tw_T g) (sz : Nat) (σ : tw_S) (a0 : Nat) (h0 : tw_is g 9 a0) (x1 : Int32) (Q : Int32 → tw_S → Prop) (h : wp_X9_first g σ a0 x1 Q) : tw_Mi l yX9_first wsX9_first RM_X9_first D g sz σ [.ref a0, .int x1] Q := by
  refine Met.ofW (cc := cX9_first) (maxL := 2) (ret := (some .int)) (by decide) rfl ?_
  intro p e s m args below meth c s₁ B hml hv
  obtain ⟨rfl, hsz, hP, hK, hD0⟩ := hv
  subst hsz
  have hr := B.returns
  have hlk := B.notSynchronized
  have X : CallFix p m c cX9_first 2 s _ wsX9_first RX9 := ⟨B.exec, B.bytes, hml, findClass_of_methodNamed B.named, atoms_spec (ws := wsX9_first) B.pre⟩
  have w := tw_w0 hP hD0
  have hl := lv_entry ([.ref a0, .int x1]) (n := 2) (Nat.le_of_ble_eq_true rfl)
  rw [lg_entry_eq]
  generalize (lg_sl ([.ref a0, .int x1]) ++ List.replicate (2 - (lg_sl ([.ref a0, .int x1])).length) Slot.unset).toArray = ls at hl ⊢
  have hl : lv_has ls 2 [(0, .ref a0), (1, .int x1)] := hl
  unfold wp_X9_first at h
  refine lv_iload_n X.1 X.2.1 dX9_first_0 rfl (lv_at hl 1 rfl) ?_
  refine lv_i2l (v := (x1.toInt64)) X.1 X.2.1 dX9_first_1 rfl ?_
  refine lv_lconst (v := 0) X.1 X.2.1 dX9_first_2 (by decide) ?_
  refine lv_ldc2 (own := RX9) (v := 3) X.1 X.2.1 X.2.2.2.1 (X.2.2.2.2 _ (List.mem_of_getElem? (i := 1) rfl)) dX9_first_3 ?_
  refine tw_ci w (va_runS (As := [.long (x1.toInt64), .long (0 : Int64), .long (3 : Int64)]) (rest := []) X (ct_X9_in l D g hT _ σ (x1.toInt64) (0 : Int64) (3 : Int64) _ h) (va_cwS 3 X.2.2.2.2 gX9_first_X9_in rfl rfl rfl (by decide +kernel) ⟨Nat.le_of_ble_eq_true rfl, Nat.le_of_ble_eq_true rfl⟩) (tw_pre hK w [.long (x1.toInt64), .long (0 : Int64), .long (3 : Int64)]) rfl rfl hl.1 rfl (lv_room (Nat.le_of_ble_eq_true rfl)) dX9_first_6 ⟨Nat.zero_le _, Nat.zero_le _⟩) (fun r2 σ1 H locs h w => ?_)
  refine lv_if_ne (tgt := 15) X.1 X.2.1 dX9_first_9 (by decide) (fun c3 => ?_) (fun c3 => ?_)
  · have h := h.1 c3
    refine lv_aload_n X.1 X.2.1 dX9_first_15 rfl (lv_at hl 0 rfl) ?_
    refine tw_ci w (va_runV (As := []) (rest := []) X (ct_X9_laysBoth l D g hT _ σ1 a0 h0 _ h) (cwV 0 X.2.2.2.2 gX9_first_X9_laysBoth rfl rfl rfl (by decide +kernel) ⟨Nat.le_of_ble_eq_true rfl, Nat.le_of_ble_eq_true rfl⟩) (tw_preV hK w h0 (by decide) rfl []) rfl rfl hl.1 rfl (lv_room (Nat.le_of_ble_eq_true rfl)) dX9_first_16 ⟨Nat.zero_le _, Nat.zero_le _⟩) (fun r5 σ4 H locs h w => ?_)
    refine lv_if_eq (tgt := 30) X.1 X.2.1 dX9_first_19 (by decide) (fun c6 => ?_) (fun c6 => ?_)
    · have h := h.1 c6
      refine lv_ldc (own := RX9) (v := -1000000004) X.1 X.2.1 X.2.2.2.1 (X.2.2.2.2 _ (List.mem_of_getElem? (i := 3) rfl)) dX9_first_30 ?_
      exact tw_iret X hr hlk w h dX9_first_32
    · have h := h.2 c6
      refine lv_aload_n X.1 X.2.1 dX9_first_22 rfl (lv_at hl 0 rfl) ?_
      refine lv_iload_n X.1 X.2.1 dX9_first_23 rfl (lv_at hl 1 rfl) ?_
      refine tw_ci w (va_runV (As := [.int x1]) (rest := []) X (ct_X9_firstBy l D g hT _ σ4 a0 h0 x1 _ h) (cwV 1 X.2.2.2.2 gX9_first_X9_firstBy rfl rfl rfl (by decide +kernel) ⟨Nat.le_of_ble_eq_true rfl, Nat.le_of_ble_eq_true rfl⟩) (tw_preV hK w h0 (by decide) rfl [.int x1]) rfl rfl hl.1 rfl (lv_room (Nat.le_of_ble_eq_true rfl)) dX9_first_24 ⟨Nat.zero_le _, Nat.zero_le _⟩) (fun r8 σ7 H locs h w => ?_)
      refine lv_goto (tgt := 32) X.1 X.2.1 dX9_first_27 (by decide) ?_
      exact tw_iret X hr hlk w h dX9_first_32
  · have h := h.2 c3
    refine lv_ldc (own := RX9) (v := -1000000001) X.1 X.2.1 X.2.2.2.1 (X.2.2.2.2 _ (List.mem_of_getElem? (i := 2) rfl)) dX9_first_12 ?_
    exact tw_iret X hr hlk w h dX9_first_14

abbrev RM_X9_turned : Room := { frames := 2, cells := 0, slots := 0, locals := 47 }
theorem iw_X9_turned_9 : ∀ w ∈ wsX90, w ∈ wsX9_turned := fun w h => List.mem_cons_of_mem _ (List.mem_append_right _ (h))
def wl_X9_turned_33 (g : tw_G) (a0 : Nat) (x1 : Int32) (x2 : Int32) (x3 : Int32) (Q : Int32 → tw_S → Prop) (k59 : tw_S → Prop) : Nat → Int32 → tw_S → Prop
  | 0, _, _ => False
  | n + 1, x4, σ => ((x3 ≤ x4) → k59  σ) ∧ (¬ (x3 ≤ x4) → vp_in x4 24 ∧ vp_in x4 24 ∧ ∀ σ10, σ10 = (tw_sA σ (tw_R g a0 33) (upd (tw_A σ (tw_R g a0 33)) x4.toNatClampNeg (tw_A σ (tw_R g a0 11) x4.toNatClampNeg))) → wl_X9_turned_33 g a0 x1 x2 x3 Q k59 n (x4 + 1) σ10)
def wl_X9_turned_81 (g : tw_G) (a0 : Nat) (x1 : Int32) (x2 : Int32) (x3 : Int32) (x4 : Int32) (x5 : Int32) (Q : Int32 → tw_S → Prop) (k107 : tw_S → Prop) : Nat → Int32 → tw_S → Prop
  | 0, _, _ => False
  | n + 1, x6, σ => ((x2 ≤ x6) → k107  σ) ∧ (¬ (x2 ≤ x6) → vp_in x6 24 ∧ ∀ σ16, σ16 = (tw_sA σ (tw_R g a0 11) (upd (tw_A σ (tw_R g a0 11)) x6.toNatClampNeg ((x5 >>> (x6 &&& 31)) &&& (1 : Int32)))) → wl_X9_turned_81 g a0 x1 x2 x3 x4 x5 Q k107 n (x6 + 1) σ16)
def wl_X9_turned_129 (g : tw_G) (a0 : Nat) (x1 : Int32) (x2 : Int32) (x3 : Int32) (x4 : Int32) (x5 : Int32) (x6 : Int32) (Q : Int32 → tw_S → Prop) (k159 : tw_S → Prop) : Nat → Int32 → tw_S → Prop
  | 0, _, _ => False
  | n + 1, x7, σ => ((x2 ≤ x7) → k159  σ) ∧ (¬ (x2 ≤ x7) → vp_in x7 24 ∧ ∀ σ22, σ22 = (tw_sA σ (tw_R g a0 11) (upd (tw_A σ (tw_R g a0 11)) x7.toNatClampNeg ((x5 >>> (((x2 - (1 : Int32)) - x7) &&& 31)) &&& (1 : Int32)))) → wl_X9_turned_129 g a0 x1 x2 x3 x4 x5 x6 Q k159 n (x7 + 1) σ22)
def wl_X9_turned_70 (g : tw_G) (a0 : Nat) (x1 : Int32) (x2 : Int32) (x3 : Int32) (Q : Int32 → tw_S → Prop) (k192 : Int32 → tw_S → Prop) : Nat → Int32 → Int32 → tw_S → Prop
  | 0, _, _, _ => False
  | n + 1, x4, x5, σ => ((((1 : Int32) <<< (x2 &&& 31)) ≤ x5) → k192 x4 σ) ∧ (¬ (((1 : Int32) <<< (x2 &&& 31)) ≤ x5) → ∃ n81, wl_X9_turned_81 g a0 x1 x2 x3 x4 x5 Q (fun σ17 => wp_X9_runs g σ17 a0 x1 (fun σ18 => ((¬ (tw_I σ18 a0 14) = 0) → ∃ n129, wl_X9_turned_129 g a0 x1 x2 x3 x4 x5 (0 : Int32) Q (fun σ23 => wp_X9_runs g σ23 a0 x1 (fun σ24 => (((0 : Int32) = 0) → wl_X9_turned_70 g a0 x1 x2 x3 Q k192 n (x4 + (0 : Int32)) (x5 + 1) σ24) ∧ (¬ ((0 : Int32) = 0) → ((¬ (tw_I σ24 a0 14) = 0) → wl_X9_turned_70 g a0 x1 x2 x3 Q k192 n (x4 + (0 : Int32)) (x5 + 1) σ24) ∧ (((tw_I σ24 a0 14) = 0) → wl_X9_turned_70 g a0 x1 x2 x3 Q k192 n (x4 + (1 : Int32)) (x5 + 1) σ24)))) n129 (0 : Int32) σ18) ∧ (((tw_I σ18 a0 14) = 0) → ∃ n129, wl_X9_turned_129 g a0 x1 x2 x3 x4 x5 (1 : Int32) Q (fun σ27 => wp_X9_runs g σ27 a0 x1 (fun σ28 => (((1 : Int32) = 0) → wl_X9_turned_70 g a0 x1 x2 x3 Q k192 n (x4 + (0 : Int32)) (x5 + 1) σ28) ∧ (¬ ((1 : Int32) = 0) → ((¬ (tw_I σ28 a0 14) = 0) → wl_X9_turned_70 g a0 x1 x2 x3 Q k192 n (x4 + (0 : Int32)) (x5 + 1) σ28) ∧ (((tw_I σ28 a0 14) = 0) → wl_X9_turned_70 g a0 x1 x2 x3 Q k192 n (x4 + (1 : Int32)) (x5 + 1) σ28)))) n129 (0 : Int32) σ18))) n81 (0 : Int32) σ)
def wl_X9_turned_200 (g : tw_G) (a0 : Nat) (x3 : Int32) (x4 : Int32) (Q : Int32 → tw_S → Prop) (k226 : tw_S → Prop) : Nat → Int32 → tw_S → Prop
  | 0, _, _ => False
  | n + 1, x5, σ => ((x3 ≤ x5) → k226  σ) ∧ (¬ (x3 ≤ x5) → vp_in x5 24 ∧ vp_in x5 24 ∧ ∀ σ37, σ37 = (tw_sA σ (tw_R g a0 11) (upd (tw_A σ (tw_R g a0 11)) x5.toNatClampNeg (tw_A σ (tw_R g a0 33) x5.toNatClampNeg))) → wl_X9_turned_200 g a0 x3 x4 Q k226 n (x5 + 1) σ37)
def wp_X9_turned (g : tw_G) (σ : tw_S) (a0 : Nat) (x1 : Int32) (x2 : Int32) (Q : Int32 → tw_S → Prop) : Prop := wp_X9_isMachine g σ x1 (fun r2 σ1 => ((¬ r2 = 0) → wp_X9_in g σ1 (x2.toInt64) (0 : Int64) (6 : Int64) (fun r5 σ4 => ((¬ r5 = 0) → ∃ n33, wl_X9_turned_33 g a0 x1 x2 (tw_I σ4 a0 12) Q (fun σ11 => ∀ σ12, σ12 = (tw_sI σ11 a0 12 x2) → ∃ n70, wl_X9_turned_70 g a0 x1 x2 (tw_I σ4 a0 12) Q (fun v31 σ32 => ∀ σ33, σ33 = (tw_sI σ32 a0 12 (tw_I σ4 a0 12)) → ∃ n200, wl_X9_turned_200 g a0 (tw_I σ4 a0 12) v31 Q (fun σ38 => Q v31 σ38) n200 (0 : Int32) σ33) n70 (0 : Int32) (0 : Int32) σ12) n33 (0 : Int32) σ4) ∧ ((r5 = 0) → Q (-1000000002 : Int32) σ4))) ∧ ((r2 = 0) → Q (-1000000001 : Int32) σ1))
set_option maxHeartbeats 4000000 in
set_option maxRecDepth 100000 in
theorem lp_X9_turned_33 {p : Program} {l : Launch} {e : Env} {s : State} {m : MethodId} {args : Array Value} {below : List Frame} {meth : Method} {c : Code} {D : va_G} {g : tw_G} (X : CallFix p m c cX9_turned 8 s args wsX9_turned RX9) (hr : meth.sig.returnType = (some .int)) (hlk : meth.locks = false) (hK : tw_k D g s) (hT : tw_T g) {a0 : Nat} {x1 : Int32} {x2 : Int32} {x3 : Int32} (h0 : tw_is g 9 a0) {Q : Int32 → tw_S → Prop} {k59 : tw_S → Prop}
    (hk59 : ∀  (σ : tw_S) (H : Heap) (locs : List Loc) (ls : Array Slot), k59  σ → tw_w D g (tw_F g s.heap.size) s σ H locs → lv_has ls 8 [(0, .ref a0), (1, .int x1), (2, .int x2), (3, .int x3)] → W p l e RM_X9_turned s m args below meth c H locs 0 0 (tw_Qi Q D g below args s) (F0 m 59 ls []))
    : ∀ (n : Nat) (x4 : Int32) (σ : tw_S) (H : Heap) (locs : List Loc) (ls : Array Slot), wl_X9_turned_33 g a0 x1 x2 x3 Q k59 n x4 σ → tw_w D g (tw_F g s.heap.size) s σ H locs → lv_has ls 8 [(0, .ref a0), (1, .int x1), (2, .int x2), (3, .int x3), (4, .int x4)] → W p l e RM_X9_turned s m args below meth c H locs 0 0 (tw_Qi Q D g below args s) (F0 m 33 ls []) := by
  intro n
  induction n with
  | zero =>
    intro x4 σ H locs ls h w hl
    exact False.elim h
  | succ n ih =>
    intro x4 σ H locs ls h w hl
    rw [wl_X9_turned_33] at h
    refine lv_iload X.1 X.2.1 dX9_turned_33 (lv_at hl 4 rfl) ?_
    refine lv_iload_n X.1 X.2.1 dX9_turned_35 rfl (lv_at hl 3 rfl) ?_
    refine lv_icmp_ge (tgt := 59) X.1 X.2.1 dX9_turned_36 (by decide) (fun c7 => ?_) (fun c7 => ?_)
    · have h := h.1 c7
      exact hk59  σ _ _ ls h w (lv_sub hl [0, 1, 2, 3] rfl)
    · have h := h.2 c7
      refine lv_aload_n X.1 X.2.1 dX9_turned_39 rfl (lv_at hl 0 rfl) ?_
      refine tw_get X hK w 9 iw_X9_turned_9 h0 (by decide) rfl 33 (by decide) (List.mem_of_getElem? (i := 5) rfl) rfl dX9_turned_40 ?_
      refine lv_iload X.1 X.2.1 dX9_turned_43 (lv_at hl 4 rfl) ?_
      refine lv_aload_n X.1 X.2.1 dX9_turned_45 rfl (lv_at hl 0 rfl) ?_
      refine tw_get X hK w 9 iw_X9_turned_9 h0 (by decide) rfl 11 (by decide) (List.mem_of_getElem? (i := 6) rfl) rfl dX9_turned_46 ?_
      refine lv_iload X.1 X.2.1 dX9_turned_49 (lv_at hl 4 rfl) ?_
      obtain ⟨hi8, h⟩ := h
      refine tw_iald X hK w (tw_t_9_11 hT h0) (tw_n_9_11 hT h0) hi8 dX9_turned_51 ?_
      obtain ⟨hi9, h⟩ := h
      refine tw_iast X hK w (tw_t_9_33 hT h0) (tw_n_9_33 hT h0) hi9 dX9_turned_52 (fun σ10 H locs eσ10 w => ?_)
      have h := h _ eσ10
      refine lv_iinc (v := (x4 + 1)) (lv' := [(4, .int (x4 + 1)), (0, .ref a0), (1, .int x1), (2, .int x2), (3, .int x3)]) X.1 X.2.1 dX9_turned_53 hl (k := 4) rfl rfl (by decide) rfl (fun ls hl => ?_)
      refine lv_goto (tgt := 33) X.1 X.2.1 dX9_turned_56 (by decide) ?_
      exact ih (x4 + 1) σ10 _ _ ls h w (lv_sub hl [1, 2, 3, 4, 0] rfl)
set_option maxHeartbeats 4000000 in
set_option maxRecDepth 100000 in
theorem lp_X9_turned_81 {p : Program} {l : Launch} {e : Env} {s : State} {m : MethodId} {args : Array Value} {below : List Frame} {meth : Method} {c : Code} {D : va_G} {g : tw_G} (X : CallFix p m c cX9_turned 8 s args wsX9_turned RX9) (hr : meth.sig.returnType = (some .int)) (hlk : meth.locks = false) (hK : tw_k D g s) (hT : tw_T g) {a0 : Nat} {x1 : Int32} {x2 : Int32} {x3 : Int32} {x4 : Int32} {x5 : Int32} (h0 : tw_is g 9 a0) {Q : Int32 → tw_S → Prop} {k107 : tw_S → Prop}
    (hk107 : ∀  (σ : tw_S) (H : Heap) (locs : List Loc) (ls : Array Slot), k107  σ → tw_w D g (tw_F g s.heap.size) s σ H locs → lv_has ls 8 [(0, .ref a0), (1, .int x1), (2, .int x2), (3, .int x3), (4, .int x4), (5, .int x5)] → W p l e RM_X9_turned s m args below meth c H locs 0 0 (tw_Qi Q D g below args s) (F0 m 107 ls []))
    : ∀ (n : Nat) (x6 : Int32) (σ : tw_S) (H : Heap) (locs : List Loc) (ls : Array Slot), wl_X9_turned_81 g a0 x1 x2 x3 x4 x5 Q k107 n x6 σ → tw_w D g (tw_F g s.heap.size) s σ H locs → lv_has ls 8 [(0, .ref a0), (1, .int x1), (2, .int x2), (3, .int x3), (4, .int x4), (5, .int x5), (6, .int x6)] → W p l e RM_X9_turned s m args below meth c H locs 0 0 (tw_Qi Q D g below args s) (F0 m 81 ls []) := by
  intro n
  induction n with
  | zero =>
    intro x6 σ H locs ls h w hl
    exact False.elim h
  | succ n ih =>
    intro x6 σ H locs ls h w hl
    rw [wl_X9_turned_81] at h
    refine lv_iload X.1 X.2.1 dX9_turned_81 (lv_at hl 6 rfl) ?_
    refine lv_iload_n X.1 X.2.1 dX9_turned_83 rfl (lv_at hl 2 rfl) ?_
    refine lv_icmp_ge (tgt := 107) X.1 X.2.1 dX9_turned_84 (by decide) (fun c14 => ?_) (fun c14 => ?_)
    · have h := h.1 c14
      exact hk107  σ _ _ ls h w (lv_sub hl [0, 1, 2, 3, 4, 5] rfl)
    · have h := h.2 c14
      refine lv_aload_n X.1 X.2.1 dX9_turned_87 rfl (lv_at hl 0 rfl) ?_
      refine tw_get X hK w 9 iw_X9_turned_9 h0 (by decide) rfl 11 (by decide) (List.mem_of_getElem? (i := 6) rfl) rfl dX9_turned_88 ?_
      refine lv_iload X.1 X.2.1 dX9_turned_91 (lv_at hl 6 rfl) ?_
      refine lv_iload X.1 X.2.1 dX9_turned_93 (lv_at hl 5 rfl) ?_
      refine lv_iload X.1 X.2.1 dX9_turned_95 (lv_at hl 6 rfl) ?_
      refine lv_ishr X.1 X.2.1 dX9_turned_97 ?_
      refine lv_iconst (v := 1) X.1 X.2.1 dX9_turned_98 (by decide) ?_
      refine lv_iand X.1 X.2.1 dX9_turned_99 ?_
      obtain ⟨hi15, h⟩ := h
      refine tw_iast X hK w (tw_t_9_11 hT h0) (tw_n_9_11 hT h0) hi15 dX9_turned_100 (fun σ16 H locs eσ16 w => ?_)
      have h := h _ eσ16
      refine lv_iinc (v := (x6 + 1)) (lv' := [(6, .int (x6 + 1)), (0, .ref a0), (1, .int x1), (2, .int x2), (3, .int x3), (4, .int x4), (5, .int x5)]) X.1 X.2.1 dX9_turned_101 hl (k := 6) rfl rfl (by decide) rfl (fun ls hl => ?_)
      refine lv_goto (tgt := 81) X.1 X.2.1 dX9_turned_104 (by decide) ?_
      exact ih (x6 + 1) σ16 _ _ ls h w (lv_sub hl [1, 2, 3, 4, 5, 6, 0] rfl)
set_option maxHeartbeats 4000000 in
set_option maxRecDepth 100000 in
theorem lp_X9_turned_129 {p : Program} {l : Launch} {e : Env} {s : State} {m : MethodId} {args : Array Value} {below : List Frame} {meth : Method} {c : Code} {D : va_G} {g : tw_G} (X : CallFix p m c cX9_turned 8 s args wsX9_turned RX9) (hr : meth.sig.returnType = (some .int)) (hlk : meth.locks = false) (hK : tw_k D g s) (hT : tw_T g) {a0 : Nat} {x1 : Int32} {x2 : Int32} {x3 : Int32} {x4 : Int32} {x5 : Int32} {x6 : Int32} (h0 : tw_is g 9 a0) {Q : Int32 → tw_S → Prop} {k159 : tw_S → Prop}
    (hk159 : ∀  (σ : tw_S) (H : Heap) (locs : List Loc) (ls : Array Slot), k159  σ → tw_w D g (tw_F g s.heap.size) s σ H locs → lv_has ls 8 [(0, .ref a0), (1, .int x1), (2, .int x2), (3, .int x3), (4, .int x4), (5, .int x5), (6, .int x6)] → W p l e RM_X9_turned s m args below meth c H locs 0 0 (tw_Qi Q D g below args s) (F0 m 159 ls []))
    : ∀ (n : Nat) (x7 : Int32) (σ : tw_S) (H : Heap) (locs : List Loc) (ls : Array Slot), wl_X9_turned_129 g a0 x1 x2 x3 x4 x5 x6 Q k159 n x7 σ → tw_w D g (tw_F g s.heap.size) s σ H locs → lv_has ls 8 [(0, .ref a0), (1, .int x1), (2, .int x2), (3, .int x3), (4, .int x4), (5, .int x5), (6, .int x6), (7, .int x7)] → W p l e RM_X9_turned s m args below meth c H locs 0 0 (tw_Qi Q D g below args s) (F0 m 129 ls []) := by
  intro n
  induction n with
  | zero =>
    intro x7 σ H locs ls h w hl
    exact False.elim h
  | succ n ih =>
    intro x7 σ H locs ls h w hl
    rw [wl_X9_turned_129] at h
    refine lv_iload X.1 X.2.1 dX9_turned_129 (lv_at hl 7 rfl) ?_
    refine lv_iload_n X.1 X.2.1 dX9_turned_131 rfl (lv_at hl 2 rfl) ?_
    refine lv_icmp_ge (tgt := 159) X.1 X.2.1 dX9_turned_132 (by decide) (fun c20 => ?_) (fun c20 => ?_)
    · have h := h.1 c20
      exact hk159  σ _ _ ls h w (lv_sub hl [0, 1, 2, 3, 4, 5, 6] rfl)
    · have h := h.2 c20
      refine lv_aload_n X.1 X.2.1 dX9_turned_135 rfl (lv_at hl 0 rfl) ?_
      refine tw_get X hK w 9 iw_X9_turned_9 h0 (by decide) rfl 11 (by decide) (List.mem_of_getElem? (i := 6) rfl) rfl dX9_turned_136 ?_
      refine lv_iload X.1 X.2.1 dX9_turned_139 (lv_at hl 7 rfl) ?_
      refine lv_iload X.1 X.2.1 dX9_turned_141 (lv_at hl 5 rfl) ?_
      refine lv_iload_n X.1 X.2.1 dX9_turned_143 rfl (lv_at hl 2 rfl) ?_
      refine lv_iconst (v := 1) X.1 X.2.1 dX9_turned_144 (by decide) ?_
      refine lv_isub X.1 X.2.1 dX9_turned_145 ?_
      refine lv_iload X.1 X.2.1 dX9_turned_146 (lv_at hl 7 rfl) ?_
      refine lv_isub X.1 X.2.1 dX9_turned_148 ?_
      refine lv_ishr X.1 X.2.1 dX9_turned_149 ?_
      refine lv_iconst (v := 1) X.1 X.2.1 dX9_turned_150 (by decide) ?_
      refine lv_iand X.1 X.2.1 dX9_turned_151 ?_
      obtain ⟨hi21, h⟩ := h
      refine tw_iast X hK w (tw_t_9_11 hT h0) (tw_n_9_11 hT h0) hi21 dX9_turned_152 (fun σ22 H locs eσ22 w => ?_)
      have h := h _ eσ22
      refine lv_iinc (v := (x7 + 1)) (lv' := [(7, .int (x7 + 1)), (0, .ref a0), (1, .int x1), (2, .int x2), (3, .int x3), (4, .int x4), (5, .int x5), (6, .int x6)]) X.1 X.2.1 dX9_turned_153 hl (k := 7) rfl rfl (by decide) rfl (fun ls hl => ?_)
      refine lv_goto (tgt := 129) X.1 X.2.1 dX9_turned_156 (by decide) ?_
      exact ih (x7 + 1) σ22 _ _ ls h w (lv_sub hl [1, 2, 3, 4, 5, 6, 7, 0] rfl)
set_option maxHeartbeats 4000000 in
set_option maxRecDepth 100000 in
theorem lp_X9_turned_70 {p : Program} {l : Launch} {e : Env} {s : State} {m : MethodId} {args : Array Value} {below : List Frame} {meth : Method} {c : Code} {D : va_G} {g : tw_G} (X : CallFix p m c cX9_turned 8 s args wsX9_turned RX9) (hr : meth.sig.returnType = (some .int)) (hlk : meth.locks = false) (hK : tw_k D g s) (hT : tw_T g) {a0 : Nat} {x1 : Int32} {x2 : Int32} {x3 : Int32} (h0 : tw_is g 9 a0) {Q : Int32 → tw_S → Prop} {k192 : Int32 → tw_S → Prop}
    (hk192 : ∀ (x4 : Int32) (σ : tw_S) (H : Heap) (locs : List Loc) (ls : Array Slot), k192 x4 σ → tw_w D g (tw_F g s.heap.size) s σ H locs → lv_has ls 8 [(0, .ref a0), (3, .int x3), (4, .int x4)] → W p l e RM_X9_turned s m args below meth c H locs 0 0 (tw_Qi Q D g below args s) (F0 m 192 ls []))
    : ∀ (n : Nat) (x4 : Int32) (x5 : Int32) (σ : tw_S) (H : Heap) (locs : List Loc) (ls : Array Slot), wl_X9_turned_70 g a0 x1 x2 x3 Q k192 n x4 x5 σ → tw_w D g (tw_F g s.heap.size) s σ H locs → lv_has ls 8 [(0, .ref a0), (1, .int x1), (2, .int x2), (3, .int x3), (4, .int x4), (5, .int x5)] → W p l e RM_X9_turned s m args below meth c H locs 0 0 (tw_Qi Q D g below args s) (F0 m 70 ls []) := by
  intro n
  induction n with
  | zero =>
    intro x4 x5 σ H locs ls h w hl
    exact False.elim h
  | succ n ih =>
    intro x4 x5 σ H locs ls h w hl
    rw [wl_X9_turned_70] at h
    refine lv_iload X.1 X.2.1 dX9_turned_70 (lv_at hl 5 rfl) ?_
    refine lv_iconst (v := 1) X.1 X.2.1 dX9_turned_72 (by decide) ?_
    refine lv_iload_n X.1 X.2.1 dX9_turned_73 rfl (lv_at hl 2 rfl) ?_
    refine lv_ishl X.1 X.2.1 dX9_turned_74 ?_
    refine lv_icmp_ge (tgt := 192) X.1 X.2.1 dX9_turned_75 (by decide) (fun c13 => ?_) (fun c13 => ?_)
    · have h := h.1 c13
      exact hk192 x4 σ _ _ ls h w (lv_sub hl [0, 3, 4] rfl)
    · have h := h.2 c13
      refine lv_iconst (v := 0) X.1 X.2.1 dX9_turned_78 (by decide) ?_
      refine lv_istore (lv' := [(6, .int (0 : Int32)), (0, .ref a0), (1, .int x1), (2, .int x2), (3, .int x3), (4, .int x4), (5, .int x5)]) X.1 X.2.1 dX9_turned_79 hl (by decide) rfl (fun ls hl => ?_)
      obtain ⟨n81, h⟩ := h
      refine lp_X9_turned_81 X hr hlk hK hT h0 (fun σ17 H locs ls h w hl => ?_) n81 (0 : Int32) σ _ _ ls h w (lv_sub hl [1, 2, 3, 4, 5, 6, 0] rfl)
      · skip
        refine lv_aload_n X.1 X.2.1 dX9_turned_107 rfl (lv_at hl 0 rfl) ?_
        refine lv_iload_n X.1 X.2.1 dX9_turned_108 rfl (lv_at hl 1 rfl) ?_
        refine tw_cv w (va_runV (As := [.int x1]) (rest := []) X (ct_X9_runs l D g hT _ σ17 a0 h0 x1 _ h) (cwV 1 X.2.2.2.2 gX9_turned_X9_runs rfl rfl rfl (by decide +kernel) ⟨Nat.le_of_ble_eq_true rfl, Nat.le_of_ble_eq_true rfl⟩) (tw_preV hK w h0 (by decide) rfl [.int x1]) rfl rfl hl.1 rfl (lv_room (Nat.le_of_ble_eq_true rfl)) dX9_turned_109 ⟨Nat.zero_le _, Nat.zero_le _⟩) (fun σ18 H locs h w => ?_)
        refine lv_aload_n X.1 X.2.1 dX9_turned_112 rfl (lv_at hl 0 rfl) ?_
        refine tw_get X hK w 9 iw_X9_turned_9 h0 (by decide) rfl 14 (by decide) (List.mem_of_getElem? (i := 7) rfl) rfl dX9_turned_113 ?_
        refine lv_if_ne (tgt := 123) X.1 X.2.1 dX9_turned_116 (by decide) (fun c19 => ?_) (fun c19 => ?_)
        · have h := h.1 c19
          refine lv_iconst (v := 0) X.1 X.2.1 dX9_turned_123 (by decide) ?_
          refine lv_istore (lv' := [(6, .int (0 : Int32)), (0, .ref a0), (1, .int x1), (2, .int x2), (3, .int x3), (4, .int x4), (5, .int x5)]) X.1 X.2.1 dX9_turned_124 hl (by decide) rfl (fun ls hl => ?_)
          refine lv_iconst (v := 0) X.1 X.2.1 dX9_turned_126 (by decide) ?_
          refine lv_istore (lv' := [(7, .int (0 : Int32)), (6, .int (0 : Int32)), (0, .ref a0), (1, .int x1), (2, .int x2), (3, .int x3), (4, .int x4), (5, .int x5)]) X.1 X.2.1 dX9_turned_127 hl (by decide) rfl (fun ls hl => ?_)
          obtain ⟨n129, h⟩ := h
          refine lp_X9_turned_129 X hr hlk hK hT h0 (fun σ23 H locs ls h w hl => ?_) n129 (0 : Int32) σ18 _ _ ls h w (lv_sub hl [2, 3, 4, 5, 6, 7, 1, 0] rfl)
          · skip
            refine lv_aload_n X.1 X.2.1 dX9_turned_159 rfl (lv_at hl 0 rfl) ?_
            refine lv_iload_n X.1 X.2.1 dX9_turned_160 rfl (lv_at hl 1 rfl) ?_
            refine tw_cv w (va_runV (As := [.int x1]) (rest := []) X (ct_X9_runs l D g hT _ σ23 a0 h0 x1 _ h) (cwV 1 X.2.2.2.2 gX9_turned_X9_runs rfl rfl rfl (by decide +kernel) ⟨Nat.le_of_ble_eq_true rfl, Nat.le_of_ble_eq_true rfl⟩) (tw_preV hK w h0 (by decide) rfl [.int x1]) rfl rfl hl.1 rfl (lv_room (Nat.le_of_ble_eq_true rfl)) dX9_turned_161 ⟨Nat.zero_le _, Nat.zero_le _⟩) (fun σ24 H locs h w => ?_)
            refine lv_iload X.1 X.2.1 dX9_turned_164 (lv_at hl 4 rfl) ?_
            refine lv_iload X.1 X.2.1 dX9_turned_166 (lv_at hl 6 rfl) ?_
            refine lv_if_eq (tgt := 182) X.1 X.2.1 dX9_turned_168 (by decide) (fun c25 => ?_) (fun c25 => ?_)
            · have h := h.1 c25
              refine lv_iconst (v := 0) X.1 X.2.1 dX9_turned_182 (by decide) ?_
              refine lv_iadd X.1 X.2.1 dX9_turned_183 ?_
              refine lv_istore (lv' := [(4, .int (x4 + (0 : Int32))), (0, .ref a0), (1, .int x1), (2, .int x2), (3, .int x3), (5, .int x5), (6, .int (0 : Int32))]) X.1 X.2.1 dX9_turned_184 hl (by decide) rfl (fun ls hl => ?_)
              have hl := lv_sub (l' := [(4, .int (x4 + (0 : Int32))), (0, .ref a0), (1, .int x1), (2, .int x2), (3, .int x3), (5, .int x5)]) hl [0, 1, 2, 3, 4, 5] rfl
              refine lv_iinc (v := (x5 + 1)) (lv' := [(5, .int (x5 + 1)), (4, .int (x4 + (0 : Int32))), (0, .ref a0), (1, .int x1), (2, .int x2), (3, .int x3)]) X.1 X.2.1 dX9_turned_186 hl (k := 5) rfl rfl (by decide) rfl (fun ls hl => ?_)
              refine lv_goto (tgt := 70) X.1 X.2.1 dX9_turned_189 (by decide) ?_
              exact ih (x4 + (0 : Int32)) (x5 + 1) σ24 _ _ ls h w (lv_sub hl [2, 3, 4, 5, 1, 0] rfl)
            · have h := h.2 c25
              refine lv_aload_n X.1 X.2.1 dX9_turned_171 rfl (lv_at hl 0 rfl) ?_
              refine tw_get X hK w 9 iw_X9_turned_9 h0 (by decide) rfl 14 (by decide) (List.mem_of_getElem? (i := 7) rfl) rfl dX9_turned_172 ?_
              refine lv_if_ne (tgt := 182) X.1 X.2.1 dX9_turned_175 (by decide) (fun c26 => ?_) (fun c26 => ?_)
              · have h := h.1 c26
                refine lv_iconst (v := 0) X.1 X.2.1 dX9_turned_182 (by decide) ?_
                refine lv_iadd X.1 X.2.1 dX9_turned_183 ?_
                refine lv_istore (lv' := [(4, .int (x4 + (0 : Int32))), (0, .ref a0), (1, .int x1), (2, .int x2), (3, .int x3), (5, .int x5), (6, .int (0 : Int32))]) X.1 X.2.1 dX9_turned_184 hl (by decide) rfl (fun ls hl => ?_)
                have hl := lv_sub (l' := [(4, .int (x4 + (0 : Int32))), (0, .ref a0), (1, .int x1), (2, .int x2), (3, .int x3), (5, .int x5)]) hl [0, 1, 2, 3, 4, 5] rfl
                refine lv_iinc (v := (x5 + 1)) (lv' := [(5, .int (x5 + 1)), (4, .int (x4 + (0 : Int32))), (0, .ref a0), (1, .int x1), (2, .int x2), (3, .int x3)]) X.1 X.2.1 dX9_turned_186 hl (k := 5) rfl rfl (by decide) rfl (fun ls hl => ?_)
                refine lv_goto (tgt := 70) X.1 X.2.1 dX9_turned_189 (by decide) ?_
                exact ih (x4 + (0 : Int32)) (x5 + 1) σ24 _ _ ls h w (lv_sub hl [2, 3, 4, 5, 1, 0] rfl)
              · have h := h.2 c26
                refine lv_iconst (v := 1) X.1 X.2.1 dX9_turned_178 (by decide) ?_
                refine lv_goto (tgt := 183) X.1 X.2.1 dX9_turned_179 (by decide) ?_
                refine lv_iadd X.1 X.2.1 dX9_turned_183 ?_
                refine lv_istore (lv' := [(4, .int (x4 + (1 : Int32))), (0, .ref a0), (1, .int x1), (2, .int x2), (3, .int x3), (5, .int x5), (6, .int (0 : Int32))]) X.1 X.2.1 dX9_turned_184 hl (by decide) rfl (fun ls hl => ?_)
                have hl := lv_sub (l' := [(4, .int (x4 + (1 : Int32))), (0, .ref a0), (1, .int x1), (2, .int x2), (3, .int x3), (5, .int x5)]) hl [0, 1, 2, 3, 4, 5] rfl
                refine lv_iinc (v := (x5 + 1)) (lv' := [(5, .int (x5 + 1)), (4, .int (x4 + (1 : Int32))), (0, .ref a0), (1, .int x1), (2, .int x2), (3, .int x3)]) X.1 X.2.1 dX9_turned_186 hl (k := 5) rfl rfl (by decide) rfl (fun ls hl => ?_)
                refine lv_goto (tgt := 70) X.1 X.2.1 dX9_turned_189 (by decide) ?_
                exact ih (x4 + (1 : Int32)) (x5 + 1) σ24 _ _ ls h w (lv_sub hl [2, 3, 4, 5, 1, 0] rfl)
        · have h := h.2 c19
          refine lv_iconst (v := 1) X.1 X.2.1 dX9_turned_119 (by decide) ?_
          refine lv_goto (tgt := 124) X.1 X.2.1 dX9_turned_120 (by decide) ?_
          refine lv_istore (lv' := [(6, .int (1 : Int32)), (0, .ref a0), (1, .int x1), (2, .int x2), (3, .int x3), (4, .int x4), (5, .int x5)]) X.1 X.2.1 dX9_turned_124 hl (by decide) rfl (fun ls hl => ?_)
          refine lv_iconst (v := 0) X.1 X.2.1 dX9_turned_126 (by decide) ?_
          refine lv_istore (lv' := [(7, .int (0 : Int32)), (6, .int (1 : Int32)), (0, .ref a0), (1, .int x1), (2, .int x2), (3, .int x3), (4, .int x4), (5, .int x5)]) X.1 X.2.1 dX9_turned_127 hl (by decide) rfl (fun ls hl => ?_)
          obtain ⟨n129, h⟩ := h
          refine lp_X9_turned_129 X hr hlk hK hT h0 (fun σ27 H locs ls h w hl => ?_) n129 (0 : Int32) σ18 _ _ ls h w (lv_sub hl [2, 3, 4, 5, 6, 7, 1, 0] rfl)
          · skip
            refine lv_aload_n X.1 X.2.1 dX9_turned_159 rfl (lv_at hl 0 rfl) ?_
            refine lv_iload_n X.1 X.2.1 dX9_turned_160 rfl (lv_at hl 1 rfl) ?_
            refine tw_cv w (va_runV (As := [.int x1]) (rest := []) X (ct_X9_runs l D g hT _ σ27 a0 h0 x1 _ h) (cwV 1 X.2.2.2.2 gX9_turned_X9_runs rfl rfl rfl (by decide +kernel) ⟨Nat.le_of_ble_eq_true rfl, Nat.le_of_ble_eq_true rfl⟩) (tw_preV hK w h0 (by decide) rfl [.int x1]) rfl rfl hl.1 rfl (lv_room (Nat.le_of_ble_eq_true rfl)) dX9_turned_161 ⟨Nat.zero_le _, Nat.zero_le _⟩) (fun σ28 H locs h w => ?_)
            refine lv_iload X.1 X.2.1 dX9_turned_164 (lv_at hl 4 rfl) ?_
            refine lv_iload X.1 X.2.1 dX9_turned_166 (lv_at hl 6 rfl) ?_
            refine lv_if_eq (tgt := 182) X.1 X.2.1 dX9_turned_168 (by decide) (fun c29 => ?_) (fun c29 => ?_)
            · have h := h.1 c29
              refine lv_iconst (v := 0) X.1 X.2.1 dX9_turned_182 (by decide) ?_
              refine lv_iadd X.1 X.2.1 dX9_turned_183 ?_
              refine lv_istore (lv' := [(4, .int (x4 + (0 : Int32))), (0, .ref a0), (1, .int x1), (2, .int x2), (3, .int x3), (5, .int x5), (6, .int (1 : Int32))]) X.1 X.2.1 dX9_turned_184 hl (by decide) rfl (fun ls hl => ?_)
              have hl := lv_sub (l' := [(4, .int (x4 + (0 : Int32))), (0, .ref a0), (1, .int x1), (2, .int x2), (3, .int x3), (5, .int x5)]) hl [0, 1, 2, 3, 4, 5] rfl
              refine lv_iinc (v := (x5 + 1)) (lv' := [(5, .int (x5 + 1)), (4, .int (x4 + (0 : Int32))), (0, .ref a0), (1, .int x1), (2, .int x2), (3, .int x3)]) X.1 X.2.1 dX9_turned_186 hl (k := 5) rfl rfl (by decide) rfl (fun ls hl => ?_)
              refine lv_goto (tgt := 70) X.1 X.2.1 dX9_turned_189 (by decide) ?_
              exact ih (x4 + (0 : Int32)) (x5 + 1) σ28 _ _ ls h w (lv_sub hl [2, 3, 4, 5, 1, 0] rfl)
            · have h := h.2 c29
              refine lv_aload_n X.1 X.2.1 dX9_turned_171 rfl (lv_at hl 0 rfl) ?_
              refine tw_get X hK w 9 iw_X9_turned_9 h0 (by decide) rfl 14 (by decide) (List.mem_of_getElem? (i := 7) rfl) rfl dX9_turned_172 ?_
              refine lv_if_ne (tgt := 182) X.1 X.2.1 dX9_turned_175 (by decide) (fun c30 => ?_) (fun c30 => ?_)
              · have h := h.1 c30
                refine lv_iconst (v := 0) X.1 X.2.1 dX9_turned_182 (by decide) ?_
                refine lv_iadd X.1 X.2.1 dX9_turned_183 ?_
                refine lv_istore (lv' := [(4, .int (x4 + (0 : Int32))), (0, .ref a0), (1, .int x1), (2, .int x2), (3, .int x3), (5, .int x5), (6, .int (1 : Int32))]) X.1 X.2.1 dX9_turned_184 hl (by decide) rfl (fun ls hl => ?_)
                have hl := lv_sub (l' := [(4, .int (x4 + (0 : Int32))), (0, .ref a0), (1, .int x1), (2, .int x2), (3, .int x3), (5, .int x5)]) hl [0, 1, 2, 3, 4, 5] rfl
                refine lv_iinc (v := (x5 + 1)) (lv' := [(5, .int (x5 + 1)), (4, .int (x4 + (0 : Int32))), (0, .ref a0), (1, .int x1), (2, .int x2), (3, .int x3)]) X.1 X.2.1 dX9_turned_186 hl (k := 5) rfl rfl (by decide) rfl (fun ls hl => ?_)
                refine lv_goto (tgt := 70) X.1 X.2.1 dX9_turned_189 (by decide) ?_
                exact ih (x4 + (0 : Int32)) (x5 + 1) σ28 _ _ ls h w (lv_sub hl [2, 3, 4, 5, 1, 0] rfl)
              · have h := h.2 c30
                refine lv_iconst (v := 1) X.1 X.2.1 dX9_turned_178 (by decide) ?_
                refine lv_goto (tgt := 183) X.1 X.2.1 dX9_turned_179 (by decide) ?_
                refine lv_iadd X.1 X.2.1 dX9_turned_183 ?_
                refine lv_istore (lv' := [(4, .int (x4 + (1 : Int32))), (0, .ref a0), (1, .int x1), (2, .int x2), (3, .int x3), (5, .int x5), (6, .int (1 : Int32))]) X.1 X.2.1 dX9_turned_184 hl (by decide) rfl (fun ls hl => ?_)
                have hl := lv_sub (l' := [(4, .int (x4 + (1 : Int32))), (0, .ref a0), (1, .int x1), (2, .int x2), (3, .int x3), (5, .int x5)]) hl [0, 1, 2, 3, 4, 5] rfl
                refine lv_iinc (v := (x5 + 1)) (lv' := [(5, .int (x5 + 1)), (4, .int (x4 + (1 : Int32))), (0, .ref a0), (1, .int x1), (2, .int x2), (3, .int x3)]) X.1 X.2.1 dX9_turned_186 hl (k := 5) rfl rfl (by decide) rfl (fun ls hl => ?_)
                refine lv_goto (tgt := 70) X.1 X.2.1 dX9_turned_189 (by decide) ?_
                exact ih (x4 + (1 : Int32)) (x5 + 1) σ28 _ _ ls h w (lv_sub hl [2, 3, 4, 5, 1, 0] rfl)
set_option maxHeartbeats 4000000 in
set_option maxRecDepth 100000 in
theorem lp_X9_turned_200 {p : Program} {l : Launch} {e : Env} {s : State} {m : MethodId} {args : Array Value} {below : List Frame} {meth : Method} {c : Code} {D : va_G} {g : tw_G} (X : CallFix p m c cX9_turned 8 s args wsX9_turned RX9) (hr : meth.sig.returnType = (some .int)) (hlk : meth.locks = false) (hK : tw_k D g s) (hT : tw_T g) {a0 : Nat} {x3 : Int32} {x4 : Int32} (h0 : tw_is g 9 a0) {Q : Int32 → tw_S → Prop} {k226 : tw_S → Prop}
    (hk226 : ∀  (σ : tw_S) (H : Heap) (locs : List Loc) (ls : Array Slot), k226  σ → tw_w D g (tw_F g s.heap.size) s σ H locs → lv_has ls 8 [(4, .int x4)] → W p l e RM_X9_turned s m args below meth c H locs 0 0 (tw_Qi Q D g below args s) (F0 m 226 ls []))
    : ∀ (n : Nat) (x5 : Int32) (σ : tw_S) (H : Heap) (locs : List Loc) (ls : Array Slot), wl_X9_turned_200 g a0 x3 x4 Q k226 n x5 σ → tw_w D g (tw_F g s.heap.size) s σ H locs → lv_has ls 8 [(0, .ref a0), (3, .int x3), (4, .int x4), (5, .int x5)] → W p l e RM_X9_turned s m args below meth c H locs 0 0 (tw_Qi Q D g below args s) (F0 m 200 ls []) := by
  intro n
  induction n with
  | zero =>
    intro x5 σ H locs ls h w hl
    exact False.elim h
  | succ n ih =>
    intro x5 σ H locs ls h w hl
    rw [wl_X9_turned_200] at h
    refine lv_iload X.1 X.2.1 dX9_turned_200 (lv_at hl 3 rfl) ?_
    refine lv_iload_n X.1 X.2.1 dX9_turned_202 rfl (lv_at hl 1 rfl) ?_
    refine lv_icmp_ge (tgt := 226) X.1 X.2.1 dX9_turned_203 (by decide) (fun c34 => ?_) (fun c34 => ?_)
    · have h := h.1 c34
      exact hk226  σ _ _ ls h w (lv_sub hl [2] rfl)
    · have h := h.2 c34
      refine lv_aload_n X.1 X.2.1 dX9_turned_206 rfl (lv_at hl 0 rfl) ?_
      refine tw_get X hK w 9 iw_X9_turned_9 h0 (by decide) rfl 11 (by decide) (List.mem_of_getElem? (i := 6) rfl) rfl dX9_turned_207 ?_
      refine lv_iload X.1 X.2.1 dX9_turned_210 (lv_at hl 3 rfl) ?_
      refine lv_aload_n X.1 X.2.1 dX9_turned_212 rfl (lv_at hl 0 rfl) ?_
      refine tw_get X hK w 9 iw_X9_turned_9 h0 (by decide) rfl 33 (by decide) (List.mem_of_getElem? (i := 5) rfl) rfl dX9_turned_213 ?_
      refine lv_iload X.1 X.2.1 dX9_turned_216 (lv_at hl 3 rfl) ?_
      obtain ⟨hi35, h⟩ := h
      refine tw_iald X hK w (tw_t_9_33 hT h0) (tw_n_9_33 hT h0) hi35 dX9_turned_218 ?_
      obtain ⟨hi36, h⟩ := h
      refine tw_iast X hK w (tw_t_9_11 hT h0) (tw_n_9_11 hT h0) hi36 dX9_turned_219 (fun σ37 H locs eσ37 w => ?_)
      have h := h _ eσ37
      refine lv_iinc (v := (x5 + 1)) (lv' := [(5, .int (x5 + 1)), (0, .ref a0), (3, .int x3), (4, .int x4)]) X.1 X.2.1 dX9_turned_220 hl (k := 3) rfl rfl (by decide) rfl (fun ls hl => ?_)
      refine lv_goto (tgt := 200) X.1 X.2.1 dX9_turned_223 (by decide) ?_
      exact ih (x5 + 1) σ37 _ _ ls h w (lv_sub hl [1, 2, 3, 0] rfl)
set_option maxHeartbeats 4000000 in
set_option maxRecDepth 100000 in
theorem ct_X9_turned (l : Launch) (D : va_G) (g : tw_G) (hT : tw_T g) (sz : Nat) (σ : tw_S) (a0 : Nat) (h0 : tw_is g 9 a0) (x1 : Int32) (x2 : Int32) (Q : Int32 → tw_S → Prop) (h : wp_X9_turned g σ a0 x1 x2 Q) : tw_Mi l yX9_turned wsX9_turned RM_X9_turned D g sz σ [.ref a0, .int x1, .int x2] Q := by
  refine Met.ofW (cc := cX9_turned) (maxL := 8) (ret := (some .int)) (by decide) rfl ?_
  intro p e s m args below meth c s₁ B hml hv
  obtain ⟨rfl, hsz, hP, hK, hD0⟩ := hv
  subst hsz
  have hr := B.returns
  have hlk := B.notSynchronized
  have X : CallFix p m c cX9_turned 8 s _ wsX9_turned RX9 := ⟨B.exec, B.bytes, hml, findClass_of_methodNamed B.named, atoms_spec (ws := wsX9_turned) B.pre⟩
  have w := tw_w0 hP hD0
  have hl := lv_entry ([.ref a0, .int x1, .int x2]) (n := 8) (Nat.le_of_ble_eq_true rfl)
  rw [lg_entry_eq]
  generalize (lg_sl ([.ref a0, .int x1, .int x2]) ++ List.replicate (8 - (lg_sl ([.ref a0, .int x1, .int x2])).length) Slot.unset).toArray = ls at hl ⊢
  have hl : lv_has ls 8 [(0, .ref a0), (1, .int x1), (2, .int x2)] := hl
  unfold wp_X9_turned at h
  refine lv_iload_n X.1 X.2.1 dX9_turned_0 rfl (lv_at hl 1 rfl) ?_
  refine tw_ci w (va_runS (As := [.int x1]) (rest := []) X (ct_X9_isMachine l D g hT _ σ x1 _ h) (va_cwS 1 X.2.2.2.2 gX9_turned_X9_isMachine rfl rfl rfl (by decide +kernel) ⟨Nat.le_of_ble_eq_true rfl, Nat.le_of_ble_eq_true rfl⟩) (tw_pre hK w [.int x1]) rfl rfl hl.1 rfl (lv_room (Nat.le_of_ble_eq_true rfl)) dX9_turned_1 ⟨Nat.zero_le _, Nat.zero_le _⟩) (fun r2 σ1 H locs h w => ?_)
  refine lv_if_ne (tgt := 10) X.1 X.2.1 dX9_turned_4 (by decide) (fun c3 => ?_) (fun c3 => ?_)
  · have h := h.1 c3
    refine lv_iload_n X.1 X.2.1 dX9_turned_10 rfl (lv_at hl 2 rfl) ?_
    refine lv_i2l (v := (x2.toInt64)) X.1 X.2.1 dX9_turned_11 rfl ?_
    refine lv_lconst (v := 0) X.1 X.2.1 dX9_turned_12 (by decide) ?_
    refine lv_ldc2 (own := RX9) (v := 6) X.1 X.2.1 X.2.2.2.1 (X.2.2.2.2 _ (List.mem_of_getElem? (i := 2) rfl)) dX9_turned_13 ?_
    refine tw_ci w (va_runS (As := [.long (x2.toInt64), .long (0 : Int64), .long (6 : Int64)]) (rest := []) X (ct_X9_in l D g hT _ σ1 (x2.toInt64) (0 : Int64) (6 : Int64) _ h) (va_cwS 3 X.2.2.2.2 gX9_turned_X9_in rfl rfl rfl (by decide +kernel) ⟨Nat.le_of_ble_eq_true rfl, Nat.le_of_ble_eq_true rfl⟩) (tw_pre hK w [.long (x2.toInt64), .long (0 : Int64), .long (6 : Int64)]) rfl rfl hl.1 rfl (lv_room (Nat.le_of_ble_eq_true rfl)) dX9_turned_16 ⟨Nat.zero_le _, Nat.zero_le _⟩) (fun r5 σ4 H locs h w => ?_)
    refine lv_if_ne (tgt := 25) X.1 X.2.1 dX9_turned_19 (by decide) (fun c6 => ?_) (fun c6 => ?_)
    · have h := h.1 c6
      refine lv_aload_n X.1 X.2.1 dX9_turned_25 rfl (lv_at hl 0 rfl) ?_
      refine tw_get X hK w 9 iw_X9_turned_9 h0 (by decide) rfl 12 (by decide) (List.mem_of_getElem? (i := 4) rfl) rfl dX9_turned_26 ?_
      refine lv_istore_n (lv' := [(3, .int (tw_I σ4 a0 12)), (0, .ref a0), (1, .int x1), (2, .int x2)]) X.1 X.2.1 dX9_turned_29 rfl hl (by decide) rfl (fun ls hl => ?_)
      refine lv_iconst (v := 0) X.1 X.2.1 dX9_turned_30 (by decide) ?_
      refine lv_istore (lv' := [(4, .int (0 : Int32)), (3, .int (tw_I σ4 a0 12)), (0, .ref a0), (1, .int x1), (2, .int x2)]) X.1 X.2.1 dX9_turned_31 hl (by decide) rfl (fun ls hl => ?_)
      obtain ⟨n33, h⟩ := h
      refine lp_X9_turned_33 X hr hlk hK hT h0 (fun σ11 H locs ls h w hl => ?_) n33 (0 : Int32) σ4 _ _ ls h w (lv_sub hl [2, 3, 4, 1, 0] rfl)
      · skip
        refine lv_aload_n X.1 X.2.1 dX9_turned_59 rfl (lv_at hl 0 rfl) ?_
        refine lv_iload_n X.1 X.2.1 dX9_turned_60 rfl (lv_at hl 2 rfl) ?_
        refine tw_putI X hK w 9 iw_X9_turned_9 tyX9 tyX9_ok nmX9 h0 (by decide) rfl 12 (by decide) (List.mem_of_getElem? (i := 4) rfl) rfl (ty := .int) (by decide +kernel) rfl rfl (Nat.le_of_ble_eq_true rfl) (tw_f_9_12 g _ _ _) dX9_turned_61 (fun σ12 H locs eσ12 w => ?_)
        have h := h _ eσ12
        refine lv_iconst (v := 0) X.1 X.2.1 dX9_turned_64 (by decide) ?_
        refine lv_istore (lv' := [(4, .int (0 : Int32)), (0, .ref a0), (1, .int x1), (2, .int x2), (3, .int (tw_I σ4 a0 12))]) X.1 X.2.1 dX9_turned_65 hl (by decide) rfl (fun ls hl => ?_)
        refine lv_iconst (v := 0) X.1 X.2.1 dX9_turned_67 (by decide) ?_
        refine lv_istore (lv' := [(5, .int (0 : Int32)), (4, .int (0 : Int32)), (0, .ref a0), (1, .int x1), (2, .int x2), (3, .int (tw_I σ4 a0 12))]) X.1 X.2.1 dX9_turned_68 hl (by decide) rfl (fun ls hl => ?_)
        obtain ⟨n70, h⟩ := h
        refine lp_X9_turned_70 X hr hlk hK hT h0 (fun v31 σ32 H locs ls h w hl => ?_) n70 (0 : Int32) (0 : Int32) σ12 _ _ ls h w (lv_sub hl [2, 3, 4, 5, 1, 0] rfl)
        · skip
          refine lv_aload_n X.1 X.2.1 dX9_turned_192 rfl (lv_at hl 0 rfl) ?_
          refine lv_iload_n X.1 X.2.1 dX9_turned_193 rfl (lv_at hl 1 rfl) ?_
          refine tw_putI X hK w 9 iw_X9_turned_9 tyX9 tyX9_ok nmX9 h0 (by decide) rfl 12 (by decide) (List.mem_of_getElem? (i := 4) rfl) rfl (ty := .int) (by decide +kernel) rfl rfl (Nat.le_of_ble_eq_true rfl) (tw_f_9_12 g _ _ _) dX9_turned_194 (fun σ33 H locs eσ33 w => ?_)
          have h := h _ eσ33
          refine lv_iconst (v := 0) X.1 X.2.1 dX9_turned_197 (by decide) ?_
          refine lv_istore (lv' := [(5, .int (0 : Int32)), (0, .ref a0), (3, .int (tw_I σ4 a0 12)), (4, .int v31)]) X.1 X.2.1 dX9_turned_198 hl (by decide) rfl (fun ls hl => ?_)
          obtain ⟨n200, h⟩ := h
          refine lp_X9_turned_200 X hr hlk hK hT h0 (fun σ38 H locs ls h w hl => ?_) n200 (0 : Int32) σ33 _ _ ls h w (lv_sub hl [1, 2, 3, 0] rfl)
          · skip
            refine lv_iload X.1 X.2.1 dX9_turned_226 (lv_at hl 0 rfl) ?_
            exact tw_iret X hr hlk w h dX9_turned_228
    · have h := h.2 c6
      refine lv_ldc (own := RX9) (v := -1000000002) X.1 X.2.1 X.2.2.2.1 (X.2.2.2.2 _ (List.mem_of_getElem? (i := 3) rfl)) dX9_turned_22 ?_
      exact tw_iret X hr hlk w h dX9_turned_24
  · have h := h.2 c3
    refine lv_ldc (own := RX9) (v := -1000000001) X.1 X.2.1 X.2.2.2.1 (X.2.2.2.2 _ (List.mem_of_getElem? (i := 1) rfl)) dX9_turned_7 ?_
    exact tw_iret X hr hlk w h dX9_turned_9

abbrev RM_X9_keep : Room := { frames := 1, cells := 0, slots := 0, locals := 25 }
theorem iw_X9_keep_9 : ∀ w ∈ wsX90, w ∈ wsX9_keep := fun w h => List.mem_cons_of_mem _ (List.mem_append_right _ (h))
def wl_X9_keep_15 (g : tw_G) (a0 : Nat) (x1 : Int32) (Q : Int32 → tw_S → Prop) (k44 : tw_S → Prop) : Nat → Int32 → tw_S → Prop
  | 0, _, _ => False
  | n + 1, x2, σ => (((34 : Int32) ≤ x2) → k44  σ) ∧ (¬ ((34 : Int32) ≤ x2) → vp_in x2 34 ∧ vp_in (((34 : Int32) * x1) + x2) 68 ∧ ∀ σ7, σ7 = (tw_sA σ (tw_R g a0 34) (upd (tw_A σ (tw_R g a0 34)) (((34 : Int32) * x1) + x2).toNatClampNeg (tw_A σ (tw_R g a0 0) x2.toNatClampNeg))) → wl_X9_keep_15 g a0 x1 Q k44 n (x2 + 1) σ7)
def wp_X9_keep (g : tw_G) (σ : tw_S) (a0 : Nat) (x1 : Int32) (Q : Int32 → tw_S → Prop) : Prop := wp_X9_in g σ (x1.toInt64) (0 : Int64) (1 : Int64) (fun r2 σ1 => ((¬ r2 = 0) → ∃ n15, wl_X9_keep_15 g a0 x1 Q (fun σ8 => ∀ σ9, σ9 = (tw_sI σ8 a0 35 ((tw_I σ8 a0 35) ||| ((1 : Int32) <<< (x1 &&& 31)))) → ∀ σ10, σ10 = (tw_sI σ9 a0 9 (0 : Int32)) → Q (1 : Int32) σ10) n15 (0 : Int32) σ1) ∧ ((r2 = 0) → Q (-1000000001 : Int32) σ1))
set_option maxHeartbeats 4000000 in
set_option maxRecDepth 100000 in
theorem lp_X9_keep_15 {p : Program} {l : Launch} {e : Env} {s : State} {m : MethodId} {args : Array Value} {below : List Frame} {meth : Method} {c : Code} {D : va_G} {g : tw_G} (X : CallFix p m c cX9_keep 3 s args wsX9_keep RX9) (hr : meth.sig.returnType = (some .int)) (hlk : meth.locks = false) (hK : tw_k D g s) (hT : tw_T g) {a0 : Nat} {x1 : Int32} (h0 : tw_is g 9 a0) {Q : Int32 → tw_S → Prop} {k44 : tw_S → Prop}
    (hk44 : ∀  (σ : tw_S) (H : Heap) (locs : List Loc) (ls : Array Slot), k44  σ → tw_w D g (tw_F g s.heap.size) s σ H locs → lv_has ls 3 [(0, .ref a0), (1, .int x1)] → W p l e RM_X9_keep s m args below meth c H locs 0 0 (tw_Qi Q D g below args s) (F0 m 44 ls []))
    : ∀ (n : Nat) (x2 : Int32) (σ : tw_S) (H : Heap) (locs : List Loc) (ls : Array Slot), wl_X9_keep_15 g a0 x1 Q k44 n x2 σ → tw_w D g (tw_F g s.heap.size) s σ H locs → lv_has ls 3 [(0, .ref a0), (1, .int x1), (2, .int x2)] → W p l e RM_X9_keep s m args below meth c H locs 0 0 (tw_Qi Q D g below args s) (F0 m 15 ls []) := by
  intro n
  induction n with
  | zero =>
    intro x2 σ H locs ls h w hl
    exact False.elim h
  | succ n ih =>
    intro x2 σ H locs ls h w hl
    rw [wl_X9_keep_15] at h
    refine lv_iload_n X.1 X.2.1 dX9_keep_15 rfl (lv_at hl 2 rfl) ?_
    refine lv_bipush (v := 34) X.1 X.2.1 dX9_keep_16 (by decide) ?_
    refine lv_icmp_ge (tgt := 44) X.1 X.2.1 dX9_keep_18 (by decide) (fun c4 => ?_) (fun c4 => ?_)
    · have h := h.1 c4
      exact hk44  σ _ _ ls h w (lv_sub hl [0, 1] rfl)
    · have h := h.2 c4
      refine lv_aload_n X.1 X.2.1 dX9_keep_21 rfl (lv_at hl 0 rfl) ?_
      refine tw_get X hK w 9 iw_X9_keep_9 h0 (by decide) rfl 34 (by decide) (List.mem_of_getElem? (i := 2) rfl) rfl dX9_keep_22 ?_
      refine lv_bipush (v := 34) X.1 X.2.1 dX9_keep_25 (by decide) ?_
      refine lv_iload_n X.1 X.2.1 dX9_keep_27 rfl (lv_at hl 1 rfl) ?_
      refine lv_imul X.1 X.2.1 dX9_keep_28 ?_
      refine lv_iload_n X.1 X.2.1 dX9_keep_29 rfl (lv_at hl 2 rfl) ?_
      refine lv_iadd X.1 X.2.1 dX9_keep_30 ?_
      refine lv_aload_n X.1 X.2.1 dX9_keep_31 rfl (lv_at hl 0 rfl) ?_
      refine tw_get X hK w 9 iw_X9_keep_9 h0 (by decide) rfl 0 (by decide) (List.mem_of_getElem? (i := 3) rfl) rfl dX9_keep_32 ?_
      refine lv_iload_n X.1 X.2.1 dX9_keep_35 rfl (lv_at hl 2 rfl) ?_
      obtain ⟨hi5, h⟩ := h
      refine tw_iald X hK w (tw_t_9_0 hT h0) (tw_n_9_0 hT h0) hi5 dX9_keep_36 ?_
      obtain ⟨hi6, h⟩ := h
      refine tw_iast X hK w (tw_t_9_34 hT h0) (tw_n_9_34 hT h0) hi6 dX9_keep_37 (fun σ7 H locs eσ7 w => ?_)
      have h := h _ eσ7
      refine lv_iinc (v := (x2 + 1)) (lv' := [(2, .int (x2 + 1)), (0, .ref a0), (1, .int x1)]) X.1 X.2.1 dX9_keep_38 hl (k := 2) rfl rfl (by decide) rfl (fun ls hl => ?_)
      refine lv_goto (tgt := 15) X.1 X.2.1 dX9_keep_41 (by decide) ?_
      exact ih (x2 + 1) σ7 _ _ ls h w (lv_sub hl [1, 2, 0] rfl)
set_option maxHeartbeats 4000000 in
set_option maxRecDepth 100000 in
theorem ct_X9_keep (l : Launch) (D : va_G) (g : tw_G) (hT : tw_T g) (sz : Nat) (σ : tw_S) (a0 : Nat) (h0 : tw_is g 9 a0) (x1 : Int32) (Q : Int32 → tw_S → Prop) (h : wp_X9_keep g σ a0 x1 Q) : tw_Mi l yX9_keep wsX9_keep RM_X9_keep D g sz σ [.ref a0, .int x1] Q := by
  refine Met.ofW (cc := cX9_keep) (maxL := 3) (ret := (some .int)) (by decide) rfl ?_
  intro p e s m args below meth c s₁ B hml hv
  obtain ⟨rfl, hsz, hP, hK, hD0⟩ := hv
  subst hsz
  have hr := B.returns
  have hlk := B.notSynchronized
  have X : CallFix p m c cX9_keep 3 s _ wsX9_keep RX9 := ⟨B.exec, B.bytes, hml, findClass_of_methodNamed B.named, atoms_spec (ws := wsX9_keep) B.pre⟩
  have w := tw_w0 hP hD0
  have hl := lv_entry ([.ref a0, .int x1]) (n := 3) (Nat.le_of_ble_eq_true rfl)
  rw [lg_entry_eq]
  generalize (lg_sl ([.ref a0, .int x1]) ++ List.replicate (3 - (lg_sl ([.ref a0, .int x1])).length) Slot.unset).toArray = ls at hl ⊢
  have hl : lv_has ls 3 [(0, .ref a0), (1, .int x1)] := hl
  unfold wp_X9_keep at h
  refine lv_iload_n X.1 X.2.1 dX9_keep_0 rfl (lv_at hl 1 rfl) ?_
  refine lv_i2l (v := (x1.toInt64)) X.1 X.2.1 dX9_keep_1 rfl ?_
  refine lv_lconst (v := 0) X.1 X.2.1 dX9_keep_2 (by decide) ?_
  refine lv_lconst (v := 1) X.1 X.2.1 dX9_keep_3 (by decide) ?_
  refine tw_ci w (va_runS (As := [.long (x1.toInt64), .long (0 : Int64), .long (1 : Int64)]) (rest := []) X (ct_X9_in l D g hT _ σ (x1.toInt64) (0 : Int64) (1 : Int64) _ h) (va_cwS 3 X.2.2.2.2 gX9_keep_X9_in rfl rfl rfl (by decide +kernel) ⟨Nat.le_of_ble_eq_true rfl, Nat.le_of_ble_eq_true rfl⟩) (tw_pre hK w [.long (x1.toInt64), .long (0 : Int64), .long (1 : Int64)]) rfl rfl hl.1 rfl (lv_room (Nat.le_of_ble_eq_true rfl)) dX9_keep_4 ⟨Nat.zero_le _, Nat.zero_le _⟩) (fun r2 σ1 H locs h w => ?_)
  refine lv_if_ne (tgt := 13) X.1 X.2.1 dX9_keep_7 (by decide) (fun c3 => ?_) (fun c3 => ?_)
  · have h := h.1 c3
    refine lv_iconst (v := 0) X.1 X.2.1 dX9_keep_13 (by decide) ?_
    refine lv_istore_n (lv' := [(2, .int (0 : Int32)), (0, .ref a0), (1, .int x1)]) X.1 X.2.1 dX9_keep_14 rfl hl (by decide) rfl (fun ls hl => ?_)
    obtain ⟨n15, h⟩ := h
    refine lp_X9_keep_15 X hr hlk hK hT h0 (fun σ8 H locs ls h w hl => ?_) n15 (0 : Int32) σ1 _ _ ls h w (lv_sub hl [1, 2, 0] rfl)
    · skip
      refine lv_aload_n X.1 X.2.1 dX9_keep_44 rfl (lv_at hl 0 rfl) ?_
      refine lv_dup X.1 X.2.1 dX9_keep_45 rfl ?_
      refine tw_get X hK w 9 iw_X9_keep_9 h0 (by decide) rfl 35 (by decide) (List.mem_of_getElem? (i := 4) rfl) rfl dX9_keep_46 ?_
      refine lv_iconst (v := 1) X.1 X.2.1 dX9_keep_49 (by decide) ?_
      refine lv_iload_n X.1 X.2.1 dX9_keep_50 rfl (lv_at hl 1 rfl) ?_
      refine lv_ishl X.1 X.2.1 dX9_keep_51 ?_
      refine lv_ior X.1 X.2.1 dX9_keep_52 ?_
      refine tw_putI X hK w 9 iw_X9_keep_9 tyX9 tyX9_ok nmX9 h0 (by decide) rfl 35 (by decide) (List.mem_of_getElem? (i := 4) rfl) rfl (ty := .int) (by decide +kernel) rfl rfl (Nat.le_of_ble_eq_true rfl) (tw_f_9_35 g _ _ _) dX9_keep_53 (fun σ9 H locs eσ9 w => ?_)
      have h := h _ eσ9
      refine lv_aload_n X.1 X.2.1 dX9_keep_56 rfl (lv_at hl 0 rfl) ?_
      refine lv_iconst (v := 0) X.1 X.2.1 dX9_keep_57 (by decide) ?_
      refine tw_putI X hK w 9 iw_X9_keep_9 tyX9 tyX9_ok nmX9 h0 (by decide) rfl 9 (by decide) (List.mem_of_getElem? (i := 5) rfl) rfl (ty := .int) (by decide +kernel) rfl rfl (Nat.le_of_ble_eq_true rfl) (tw_f_9_9 g _ _ _) dX9_keep_58 (fun σ10 H locs eσ10 w => ?_)
      have h := h _ eσ10
      refine lv_iconst (v := 1) X.1 X.2.1 dX9_keep_61 (by decide) ?_
      exact tw_iret X hr hlk w h dX9_keep_62
  · have h := h.2 c3
    refine lv_ldc (own := RX9) (v := -1000000001) X.1 X.2.1 X.2.2.2.1 (X.2.2.2.2 _ (List.mem_of_getElem? (i := 1) rfl)) dX9_keep_10 ?_
    exact tw_iret X hr hlk w h dX9_keep_12

abbrev RM_X9_goBack : Room := { frames := 1, cells := 0, slots := 0, locals := 25 }
theorem iw_X9_goBack_9 : ∀ w ∈ wsX90, w ∈ wsX9_goBack := fun w h => List.mem_cons_of_mem _ (List.mem_append_right _ (h))
def wl_X9_goBack_29 (g : tw_G) (a0 : Nat) (x1 : Int32) (Q : Int32 → tw_S → Prop) (k58 : tw_S → Prop) : Nat → Int32 → tw_S → Prop
  | 0, _, _ => False
  | n + 1, x2, σ => (((34 : Int32) ≤ x2) → k58  σ) ∧ (¬ ((34 : Int32) ≤ x2) → vp_in (((34 : Int32) * x1) + x2) 68 ∧ vp_in x2 34 ∧ ∀ σ8, σ8 = (tw_sA σ (tw_R g a0 0) (upd (tw_A σ (tw_R g a0 0)) x2.toNatClampNeg (tw_A σ (tw_R g a0 34) (((34 : Int32) * x1) + x2).toNatClampNeg))) → wl_X9_goBack_29 g a0 x1 Q k58 n (x2 + 1) σ8)
def wp_X9_goBack (g : tw_G) (σ : tw_S) (a0 : Nat) (x1 : Int32) (Q : Int32 → tw_S → Prop) : Prop := wp_X9_in g σ (x1.toInt64) (0 : Int64) (1 : Int64) (fun r2 σ1 => ((¬ r2 = 0) → ((¬ (((tw_I σ1 a0 35) >>> (x1 &&& 31)) &&& (1 : Int32)) = 0) → ∃ n29, wl_X9_goBack_29 g a0 x1 Q (fun σ9 => ∀ σ10, σ10 = (tw_sI σ9 a0 9 (0 : Int32)) → Q (1 : Int32) σ10) n29 (0 : Int32) σ1) ∧ (((((tw_I σ1 a0 35) >>> (x1 &&& 31)) &&& (1 : Int32)) = 0) → Q (-1000000003 : Int32) σ1)) ∧ ((r2 = 0) → Q (-1000000001 : Int32) σ1))
set_option maxHeartbeats 4000000 in
set_option maxRecDepth 100000 in
theorem lp_X9_goBack_29 {p : Program} {l : Launch} {e : Env} {s : State} {m : MethodId} {args : Array Value} {below : List Frame} {meth : Method} {c : Code} {D : va_G} {g : tw_G} (X : CallFix p m c cX9_goBack 3 s args wsX9_goBack RX9) (hr : meth.sig.returnType = (some .int)) (hlk : meth.locks = false) (hK : tw_k D g s) (hT : tw_T g) {a0 : Nat} {x1 : Int32} (h0 : tw_is g 9 a0) {Q : Int32 → tw_S → Prop} {k58 : tw_S → Prop}
    (hk58 : ∀  (σ : tw_S) (H : Heap) (locs : List Loc) (ls : Array Slot), k58  σ → tw_w D g (tw_F g s.heap.size) s σ H locs → lv_has ls 3 [(0, .ref a0)] → W p l e RM_X9_goBack s m args below meth c H locs 0 0 (tw_Qi Q D g below args s) (F0 m 58 ls []))
    : ∀ (n : Nat) (x2 : Int32) (σ : tw_S) (H : Heap) (locs : List Loc) (ls : Array Slot), wl_X9_goBack_29 g a0 x1 Q k58 n x2 σ → tw_w D g (tw_F g s.heap.size) s σ H locs → lv_has ls 3 [(0, .ref a0), (1, .int x1), (2, .int x2)] → W p l e RM_X9_goBack s m args below meth c H locs 0 0 (tw_Qi Q D g below args s) (F0 m 29 ls []) := by
  intro n
  induction n with
  | zero =>
    intro x2 σ H locs ls h w hl
    exact False.elim h
  | succ n ih =>
    intro x2 σ H locs ls h w hl
    rw [wl_X9_goBack_29] at h
    refine lv_iload_n X.1 X.2.1 dX9_goBack_29 rfl (lv_at hl 2 rfl) ?_
    refine lv_bipush (v := 34) X.1 X.2.1 dX9_goBack_30 (by decide) ?_
    refine lv_icmp_ge (tgt := 58) X.1 X.2.1 dX9_goBack_32 (by decide) (fun c5 => ?_) (fun c5 => ?_)
    · have h := h.1 c5
      exact hk58  σ _ _ ls h w (lv_sub hl [0] rfl)
    · have h := h.2 c5
      refine lv_aload_n X.1 X.2.1 dX9_goBack_35 rfl (lv_at hl 0 rfl) ?_
      refine tw_get X hK w 9 iw_X9_goBack_9 h0 (by decide) rfl 0 (by decide) (List.mem_of_getElem? (i := 4) rfl) rfl dX9_goBack_36 ?_
      refine lv_iload_n X.1 X.2.1 dX9_goBack_39 rfl (lv_at hl 2 rfl) ?_
      refine lv_aload_n X.1 X.2.1 dX9_goBack_40 rfl (lv_at hl 0 rfl) ?_
      refine tw_get X hK w 9 iw_X9_goBack_9 h0 (by decide) rfl 34 (by decide) (List.mem_of_getElem? (i := 5) rfl) rfl dX9_goBack_41 ?_
      refine lv_bipush (v := 34) X.1 X.2.1 dX9_goBack_44 (by decide) ?_
      refine lv_iload_n X.1 X.2.1 dX9_goBack_46 rfl (lv_at hl 1 rfl) ?_
      refine lv_imul X.1 X.2.1 dX9_goBack_47 ?_
      refine lv_iload_n X.1 X.2.1 dX9_goBack_48 rfl (lv_at hl 2 rfl) ?_
      refine lv_iadd X.1 X.2.1 dX9_goBack_49 ?_
      obtain ⟨hi6, h⟩ := h
      refine tw_iald X hK w (tw_t_9_34 hT h0) (tw_n_9_34 hT h0) hi6 dX9_goBack_50 ?_
      obtain ⟨hi7, h⟩ := h
      refine tw_iast X hK w (tw_t_9_0 hT h0) (tw_n_9_0 hT h0) hi7 dX9_goBack_51 (fun σ8 H locs eσ8 w => ?_)
      have h := h _ eσ8
      refine lv_iinc (v := (x2 + 1)) (lv' := [(2, .int (x2 + 1)), (0, .ref a0), (1, .int x1)]) X.1 X.2.1 dX9_goBack_52 hl (k := 2) rfl rfl (by decide) rfl (fun ls hl => ?_)
      refine lv_goto (tgt := 29) X.1 X.2.1 dX9_goBack_55 (by decide) ?_
      exact ih (x2 + 1) σ8 _ _ ls h w (lv_sub hl [1, 2, 0] rfl)
set_option maxHeartbeats 4000000 in
set_option maxRecDepth 100000 in
theorem ct_X9_goBack (l : Launch) (D : va_G) (g : tw_G) (hT : tw_T g) (sz : Nat) (σ : tw_S) (a0 : Nat) (h0 : tw_is g 9 a0) (x1 : Int32) (Q : Int32 → tw_S → Prop) (h : wp_X9_goBack g σ a0 x1 Q) : tw_Mi l yX9_goBack wsX9_goBack RM_X9_goBack D g sz σ [.ref a0, .int x1] Q := by
  refine Met.ofW (cc := cX9_goBack) (maxL := 3) (ret := (some .int)) (by decide) rfl ?_
  intro p e s m args below meth c s₁ B hml hv
  obtain ⟨rfl, hsz, hP, hK, hD0⟩ := hv
  subst hsz
  have hr := B.returns
  have hlk := B.notSynchronized
  have X : CallFix p m c cX9_goBack 3 s _ wsX9_goBack RX9 := ⟨B.exec, B.bytes, hml, findClass_of_methodNamed B.named, atoms_spec (ws := wsX9_goBack) B.pre⟩
  have w := tw_w0 hP hD0
  have hl := lv_entry ([.ref a0, .int x1]) (n := 3) (Nat.le_of_ble_eq_true rfl)
  rw [lg_entry_eq]
  generalize (lg_sl ([.ref a0, .int x1]) ++ List.replicate (3 - (lg_sl ([.ref a0, .int x1])).length) Slot.unset).toArray = ls at hl ⊢
  have hl : lv_has ls 3 [(0, .ref a0), (1, .int x1)] := hl
  unfold wp_X9_goBack at h
  refine lv_iload_n X.1 X.2.1 dX9_goBack_0 rfl (lv_at hl 1 rfl) ?_
  refine lv_i2l (v := (x1.toInt64)) X.1 X.2.1 dX9_goBack_1 rfl ?_
  refine lv_lconst (v := 0) X.1 X.2.1 dX9_goBack_2 (by decide) ?_
  refine lv_lconst (v := 1) X.1 X.2.1 dX9_goBack_3 (by decide) ?_
  refine tw_ci w (va_runS (As := [.long (x1.toInt64), .long (0 : Int64), .long (1 : Int64)]) (rest := []) X (ct_X9_in l D g hT _ σ (x1.toInt64) (0 : Int64) (1 : Int64) _ h) (va_cwS 3 X.2.2.2.2 gX9_goBack_X9_in rfl rfl rfl (by decide +kernel) ⟨Nat.le_of_ble_eq_true rfl, Nat.le_of_ble_eq_true rfl⟩) (tw_pre hK w [.long (x1.toInt64), .long (0 : Int64), .long (1 : Int64)]) rfl rfl hl.1 rfl (lv_room (Nat.le_of_ble_eq_true rfl)) dX9_goBack_4 ⟨Nat.zero_le _, Nat.zero_le _⟩) (fun r2 σ1 H locs h w => ?_)
  refine lv_if_ne (tgt := 13) X.1 X.2.1 dX9_goBack_7 (by decide) (fun c3 => ?_) (fun c3 => ?_)
  · have h := h.1 c3
    refine lv_aload_n X.1 X.2.1 dX9_goBack_13 rfl (lv_at hl 0 rfl) ?_
    refine tw_get X hK w 9 iw_X9_goBack_9 h0 (by decide) rfl 35 (by decide) (List.mem_of_getElem? (i := 2) rfl) rfl dX9_goBack_14 ?_
    refine lv_iload_n X.1 X.2.1 dX9_goBack_17 rfl (lv_at hl 1 rfl) ?_
    refine lv_ishr X.1 X.2.1 dX9_goBack_18 ?_
    refine lv_iconst (v := 1) X.1 X.2.1 dX9_goBack_19 (by decide) ?_
    refine lv_iand X.1 X.2.1 dX9_goBack_20 ?_
    refine lv_if_ne (tgt := 27) X.1 X.2.1 dX9_goBack_21 (by decide) (fun c4 => ?_) (fun c4 => ?_)
    · have h := h.1 c4
      refine lv_iconst (v := 0) X.1 X.2.1 dX9_goBack_27 (by decide) ?_
      refine lv_istore_n (lv' := [(2, .int (0 : Int32)), (0, .ref a0), (1, .int x1)]) X.1 X.2.1 dX9_goBack_28 rfl hl (by decide) rfl (fun ls hl => ?_)
      obtain ⟨n29, h⟩ := h
      refine lp_X9_goBack_29 X hr hlk hK hT h0 (fun σ9 H locs ls h w hl => ?_) n29 (0 : Int32) σ1 _ _ ls h w (lv_sub hl [1, 2, 0] rfl)
      · skip
        refine lv_aload_n X.1 X.2.1 dX9_goBack_58 rfl (lv_at hl 0 rfl) ?_
        refine lv_iconst (v := 0) X.1 X.2.1 dX9_goBack_59 (by decide) ?_
        refine tw_putI X hK w 9 iw_X9_goBack_9 tyX9 tyX9_ok nmX9 h0 (by decide) rfl 9 (by decide) (List.mem_of_getElem? (i := 6) rfl) rfl (ty := .int) (by decide +kernel) rfl rfl (Nat.le_of_ble_eq_true rfl) (tw_f_9_9 g _ _ _) dX9_goBack_60 (fun σ10 H locs eσ10 w => ?_)
        have h := h _ eσ10
        refine lv_iconst (v := 1) X.1 X.2.1 dX9_goBack_63 (by decide) ?_
        exact tw_iret X hr hlk w h dX9_goBack_64
    · have h := h.2 c4
      refine lv_ldc (own := RX9) (v := -1000000003) X.1 X.2.1 X.2.2.2.1 (X.2.2.2.2 _ (List.mem_of_getElem? (i := 3) rfl)) dX9_goBack_24 ?_
      exact tw_iret X hr hlk w h dX9_goBack_26
  · have h := h.2 c3
    refine lv_ldc (own := RX9) (v := -1000000001) X.1 X.2.1 X.2.2.2.1 (X.2.2.2.2 _ (List.mem_of_getElem? (i := 1) rfl)) dX9_goBack_10 ?_
    exact tw_iret X hr hlk w h dX9_goBack_12
