abbrev RM_X9_isBy : Room := { frames := 0, cells := 0, slots := 0, locals := 0 }
def wp_X9_isBy (g : tw_G) (σ : tw_S) (x0 : Int32) (x1 : Int32) (x2 : Int32) (Q : Int32 → tw_S → Prop) : Prop := ((¬ x0 = 0) → ((¬ x0 = (1 : Int32)) → ((¬ x0 = (2 : Int32)) → ((x1 = x2) → Q (0 : Int32) σ) ∧ (¬ (x1 = x2) → Q (1 : Int32) σ)) ∧ ((x0 = (2 : Int32)) → ((¬ x1 = (1 : Int32)) → Q (0 : Int32) σ) ∧ ((x1 = (1 : Int32)) → ((¬ x2 = 0) → Q (0 : Int32) σ) ∧ ((x2 = 0) → Q (1 : Int32) σ)))) ∧ ((x0 = (1 : Int32)) → (((x1 + x2) ≤ 0) → Q (0 : Int32) σ) ∧ (¬ ((x1 + x2) ≤ 0) → Q (1 : Int32) σ))) ∧ ((x0 = 0) → ((¬ (x1 + x2) = (2 : Int32)) → Q (0 : Int32) σ) ∧ (((x1 + x2) = (2 : Int32)) → Q (1 : Int32) σ))
set_option maxHeartbeats 4000000 in
set_option maxRecDepth 100000 in
theorem ct_X9_isBy (l : Launch) (D : va_G) (g : tw_G) (hT : tw_T g) (sz : Nat) (σ : tw_S) (x0 : Int32) (x1 : Int32) (x2 : Int32) (Q : Int32 → tw_S → Prop) (h : wp_X9_isBy g σ x0 x1 x2 Q) : tw_Mi l yX9_isBy wsX9_isBy RM_X9_isBy D g sz σ [.int x0, .int x1, .int x2] Q := by
  refine Met.ofW (cc := cX9_isBy) (maxL := 3) (ret := (some .boolean)) (by decide) rfl ?_
  intro p e s m args below meth c s₁ B hml hv
  obtain ⟨rfl, hsz, hP, hK, hD0⟩ := hv
  subst hsz
  have hr := B.returns
  have hlk := B.notSynchronized
  have X : CallFix p m c cX9_isBy 3 s _ wsX9_isBy RX9 := ⟨B.exec, B.bytes, hml, findClass_of_methodNamed B.named, atoms_spec (ws := wsX9_isBy) B.pre⟩
  have w := tw_w0 hP hD0
  have hl := lv_entry ([.int x0, .int x1, .int x2]) (n := 3) (Nat.le_of_ble_eq_true rfl)
  rw [lg_entry_eq]
  generalize (lg_sl ([.int x0, .int x1, .int x2]) ++ List.replicate (3 - (lg_sl ([.int x0, .int x1, .int x2])).length) Slot.unset).toArray = ls at hl ⊢
  have hl : lv_has ls 3 [(0, .int x0), (1, .int x1), (2, .int x2)] := hl
  unfold wp_X9_isBy at h
  refine lv_iload_n X.1 X.2.1 dX9_isBy_0 rfl (lv_at hl 0 rfl) ?_
  refine lv_if_ne (tgt := 19) X.1 X.2.1 dX9_isBy_1 (by decide) (fun c1 => ?_) (fun c1 => ?_)
  · have h := h.1 c1
    refine lv_iload_n X.1 X.2.1 dX9_isBy_19 rfl (lv_at hl 0 rfl) ?_
    refine lv_iconst (v := 1) X.1 X.2.1 dX9_isBy_20 (by decide) ?_
    refine lv_icmp_ne (tgt := 38) X.1 X.2.1 dX9_isBy_21 (by decide) (fun c2 => ?_) (fun c2 => ?_)
    · have h := h.1 c2
      refine lv_iload_n X.1 X.2.1 dX9_isBy_38 rfl (lv_at hl 0 rfl) ?_
      refine lv_iconst (v := 2) X.1 X.2.1 dX9_isBy_39 (by decide) ?_
      refine lv_icmp_ne (tgt := 60) X.1 X.2.1 dX9_isBy_40 (by decide) (fun c3 => ?_) (fun c3 => ?_)
      · have h := h.1 c3
        refine lv_iload_n X.1 X.2.1 dX9_isBy_60 rfl (lv_at hl 1 rfl) ?_
        refine lv_iload_n X.1 X.2.1 dX9_isBy_61 rfl (lv_at hl 2 rfl) ?_
        refine lv_icmp_eq (tgt := 69) X.1 X.2.1 dX9_isBy_62 (by decide) (fun c4 => ?_) (fun c4 => ?_)
        · have h := h.1 c4
          refine lv_iconst (v := 0) X.1 X.2.1 dX9_isBy_69 (by decide) ?_
          exact tw_zret X hr hlk w (by decide) h dX9_isBy_70
        · have h := h.2 c4
          refine lv_iconst (v := 1) X.1 X.2.1 dX9_isBy_65 (by decide) ?_
          refine lv_goto (tgt := 70) X.1 X.2.1 dX9_isBy_66 (by decide) ?_
          exact tw_zret X hr hlk w (by decide) h dX9_isBy_70
      · have h := h.2 c3
        refine lv_iload_n X.1 X.2.1 dX9_isBy_43 rfl (lv_at hl 1 rfl) ?_
        refine lv_iconst (v := 1) X.1 X.2.1 dX9_isBy_44 (by decide) ?_
        refine lv_icmp_ne (tgt := 56) X.1 X.2.1 dX9_isBy_45 (by decide) (fun c5 => ?_) (fun c5 => ?_)
        · have h := h.1 c5
          refine lv_iconst (v := 0) X.1 X.2.1 dX9_isBy_56 (by decide) ?_
          refine lv_goto (tgt := 70) X.1 X.2.1 dX9_isBy_57 (by decide) ?_
          exact tw_zret X hr hlk w (by decide) h dX9_isBy_70
        · have h := h.2 c5
          refine lv_iload_n X.1 X.2.1 dX9_isBy_48 rfl (lv_at hl 2 rfl) ?_
          refine lv_if_ne (tgt := 56) X.1 X.2.1 dX9_isBy_49 (by decide) (fun c6 => ?_) (fun c6 => ?_)
          · have h := h.1 c6
            refine lv_iconst (v := 0) X.1 X.2.1 dX9_isBy_56 (by decide) ?_
            refine lv_goto (tgt := 70) X.1 X.2.1 dX9_isBy_57 (by decide) ?_
            exact tw_zret X hr hlk w (by decide) h dX9_isBy_70
          · have h := h.2 c6
            refine lv_iconst (v := 1) X.1 X.2.1 dX9_isBy_52 (by decide) ?_
            refine lv_goto (tgt := 70) X.1 X.2.1 dX9_isBy_53 (by decide) ?_
            exact tw_zret X hr hlk w (by decide) h dX9_isBy_70
    · have h := h.2 c2
      refine lv_iload_n X.1 X.2.1 dX9_isBy_24 rfl (lv_at hl 1 rfl) ?_
      refine lv_iload_n X.1 X.2.1 dX9_isBy_25 rfl (lv_at hl 2 rfl) ?_
      refine lv_iadd X.1 X.2.1 dX9_isBy_26 ?_
      refine lv_if_le (tgt := 34) X.1 X.2.1 dX9_isBy_27 (by decide) (fun c7 => ?_) (fun c7 => ?_)
      · have h := h.1 c7
        refine lv_iconst (v := 0) X.1 X.2.1 dX9_isBy_34 (by decide) ?_
        refine lv_goto (tgt := 70) X.1 X.2.1 dX9_isBy_35 (by decide) ?_
        exact tw_zret X hr hlk w (by decide) h dX9_isBy_70
      · have h := h.2 c7
        refine lv_iconst (v := 1) X.1 X.2.1 dX9_isBy_30 (by decide) ?_
        refine lv_goto (tgt := 70) X.1 X.2.1 dX9_isBy_31 (by decide) ?_
        exact tw_zret X hr hlk w (by decide) h dX9_isBy_70
  · have h := h.2 c1
    refine lv_iload_n X.1 X.2.1 dX9_isBy_4 rfl (lv_at hl 1 rfl) ?_
    refine lv_iload_n X.1 X.2.1 dX9_isBy_5 rfl (lv_at hl 2 rfl) ?_
    refine lv_iadd X.1 X.2.1 dX9_isBy_6 ?_
    refine lv_iconst (v := 2) X.1 X.2.1 dX9_isBy_7 (by decide) ?_
    refine lv_icmp_ne (tgt := 15) X.1 X.2.1 dX9_isBy_8 (by decide) (fun c8 => ?_) (fun c8 => ?_)
    · have h := h.1 c8
      refine lv_iconst (v := 0) X.1 X.2.1 dX9_isBy_15 (by decide) ?_
      refine lv_goto (tgt := 70) X.1 X.2.1 dX9_isBy_16 (by decide) ?_
      exact tw_zret X hr hlk w (by decide) h dX9_isBy_70
    · have h := h.2 c8
      refine lv_iconst (v := 1) X.1 X.2.1 dX9_isBy_11 (by decide) ?_
      refine lv_goto (tgt := 70) X.1 X.2.1 dX9_isBy_12 (by decide) ?_
      exact tw_zret X hr hlk w (by decide) h dX9_isBy_70

abbrev RM_X9_wordTo : Room := { frames := 0, cells := 0, slots := 0, locals := 0 }
theorem iw_X9_wordTo_9 : ∀ w ∈ wsX90, w ∈ wsX9_wordTo := fun w h => List.mem_cons_of_mem _ (List.mem_append_right _ (h))
def wl_X9_wordTo_10 (g : tw_G) (a0 : Nat) (Q : Int32 → tw_S → Prop) (k80 : Int64 → Int64 → Int32 → tw_S → Prop) : Nat → Int32 → Int64 → Int64 → Int32 → tw_S → Prop
  | 0, _, _, _, _, _ => False
  | n + 1, x2, x3, x5, x7, σ => vp_in x2 22500 ∧ (((tw_A σ (tw_R g a0 31) x2.toNatClampNeg) = (-1 : Int32)) → k80 x3 x5 x7 σ) ∧ (¬ ((tw_A σ (tw_R g a0 31) x2.toNatClampNeg) = (-1 : Int32)) → (((25 : Int32) ≤ x7) → (((25 : Int32) ≤ x7) → vp_in x2 22500 ∧ ∀ z6, z6 = ((tw_A σ (tw_R g a0 31) x2.toNatClampNeg) / (2 : Int32)) → wl_X9_wordTo_10 g a0 Q k80 n z6 (x3 + (0 : Int64)) (x5 * (1 : Int64)) (x7 + 1) σ) ∧ (¬ ((25 : Int32) ≤ x7) → vp_in x2 22500 ∧ ∀ z8, z8 = ((tw_A σ (tw_R g a0 31) x2.toNatClampNeg) / (2 : Int32)) → wl_X9_wordTo_10 g a0 Q k80 n z8 (x3 + (0 : Int64)) (x5 * (2 : Int64)) (x7 + 1) σ)) ∧ (¬ ((25 : Int32) ≤ x7) → vp_in x2 22500 ∧ ∀ z10, z10 = ((tw_A σ (tw_R g a0 31) x2.toNatClampNeg) - (tw_A σ (tw_R g a0 31) x2.toNatClampNeg) / (2 : Int32) * (2 : Int32)) → ∀ z11, z11 = (x3 + (x5 * (z10.toInt64))) → (((25 : Int32) ≤ x7) → vp_in x2 22500 ∧ ∀ z14, z14 = ((tw_A σ (tw_R g a0 31) x2.toNatClampNeg) / (2 : Int32)) → wl_X9_wordTo_10 g a0 Q k80 n z14 z11 (x5 * (1 : Int64)) (x7 + 1) σ) ∧ (¬ ((25 : Int32) ≤ x7) → vp_in x2 22500 ∧ ∀ z16, z16 = ((tw_A σ (tw_R g a0 31) x2.toNatClampNeg) / (2 : Int32)) → wl_X9_wordTo_10 g a0 Q k80 n z16 z11 (x5 * (2 : Int64)) (x7 + 1) σ)))
def wp_X9_wordTo (g : tw_G) (σ : tw_S) (a0 : Nat) (x1 : Int32) (Q : Int32 → tw_S → Prop) : Prop := ∃ n10, wl_X9_wordTo_10 g a0 Q (fun v17 v18 v19 σ20 => ((v19 ≤ (24 : Int32)) → Q ((v17 + v18).toInt32) σ20) ∧ (¬ (v19 ≤ (24 : Int32)) → Q (0 : Int32) σ20)) n10 x1 (0 : Int64) (1 : Int64) (0 : Int32) σ
set_option maxHeartbeats 4000000 in
set_option maxRecDepth 100000 in
theorem lp_X9_wordTo_10 {p : Program} {l : Launch} {e : Env} {s : State} {m : MethodId} {args : Array Value} {below : List Frame} {meth : Method} {c : Code} {D : va_G} {g : tw_G} (X : CallFix p m c cX9_wordTo 8 s args wsX9_wordTo RX9) (hr : meth.sig.returnType = (some .int)) (hlk : meth.locks = false) (hK : tw_k D g s) (hT : tw_T g) {a0 : Nat} (h0 : tw_is g 9 a0) {Q : Int32 → tw_S → Prop} {k80 : Int64 → Int64 → Int32 → tw_S → Prop}
    (hk80 : ∀ (x3 : Int64) (x5 : Int64) (x7 : Int32) (σ : tw_S) (H : Heap) (locs : List Loc) (ls : Array Slot), k80 x3 x5 x7 σ → tw_w D g (tw_F g s.heap.size) s σ H locs → lv_has ls 8 [(3, .long x3), (5, .long x5), (7, .int x7)] → W p l e RM_X9_wordTo s m args below meth c H locs 0 0 (tw_Qi Q D g below args s) (F0 m 80 ls []))
    : ∀ (n : Nat) (x2 : Int32) (x3 : Int64) (x5 : Int64) (x7 : Int32) (σ : tw_S) (H : Heap) (locs : List Loc) (ls : Array Slot), wl_X9_wordTo_10 g a0 Q k80 n x2 x3 x5 x7 σ → tw_w D g (tw_F g s.heap.size) s σ H locs → lv_has ls 8 [(0, .ref a0), (2, .int x2), (3, .long x3), (5, .long x5), (7, .int x7)] → W p l e RM_X9_wordTo s m args below meth c H locs 0 0 (tw_Qi Q D g below args s) (F0 m 10 ls []) := by
  intro n
  induction n with
  | zero =>
    intro x2 x3 x5 x7 σ H locs ls h w hl
    exact False.elim h
  | succ n ih =>
    intro x2 x3 x5 x7 σ H locs ls h w hl
    rw [wl_X9_wordTo_10] at h
    refine lv_aload_n X.1 X.2.1 dX9_wordTo_10 rfl (lv_at hl 0 rfl) ?_
    refine tw_get X hK w 9 iw_X9_wordTo_9 h0 (by decide) rfl 31 (by decide) (List.mem_of_getElem? (i := 1) rfl) rfl dX9_wordTo_11 ?_
    refine lv_iload_n X.1 X.2.1 dX9_wordTo_14 rfl (lv_at hl 1 rfl) ?_
    obtain ⟨hi1, h⟩ := h
    refine tw_iald X hK w (tw_t_9_31 hT h0) (tw_n_9_31 hT h0) hi1 dX9_wordTo_15 ?_
    refine lv_iconst (v := -1) X.1 X.2.1 dX9_wordTo_16 (by decide) ?_
    refine lv_icmp_eq (tgt := 80) X.1 X.2.1 dX9_wordTo_17 (by decide) (fun c2 => ?_) (fun c2 => ?_)
    · have h := h.1 c2
      exact hk80 x3 x5 x7 σ _ _ ls h w (lv_sub hl [2, 3, 4] rfl)
    · have h := h.2 c2
      refine lv_lload_n X.1 X.2.1 dX9_wordTo_20 rfl (lv_at hl 2 rfl) ?_
      refine lv_iload X.1 X.2.1 dX9_wordTo_21 (lv_at hl 4 rfl) ?_
      refine lv_bipush (v := 25) X.1 X.2.1 dX9_wordTo_23 (by decide) ?_
      refine lv_icmp_ge (tgt := 43) X.1 X.2.1 dX9_wordTo_25 (by decide) (fun c3 => ?_) (fun c3 => ?_)
      · have h := h.1 c3
        refine lv_lconst (v := 0) X.1 X.2.1 dX9_wordTo_43 (by decide) ?_
        refine lv_ladd X.1 X.2.1 dX9_wordTo_44 ?_
        refine lv_lstore_n (lv' := [(3, .long (x3 + (0 : Int64))), (0, .ref a0), (2, .int x2), (5, .long x5), (7, .int x7)]) X.1 X.2.1 dX9_wordTo_45 rfl hl (by decide) rfl (fun ls hl => ?_)
        refine lv_lload X.1 X.2.1 dX9_wordTo_46 (lv_at hl 3 rfl) ?_
        refine lv_iload X.1 X.2.1 dX9_wordTo_48 (lv_at hl 4 rfl) ?_
        refine lv_bipush (v := 25) X.1 X.2.1 dX9_wordTo_50 (by decide) ?_
        refine lv_icmp_ge (tgt := 61) X.1 X.2.1 dX9_wordTo_52 (by decide) (fun c4 => ?_) (fun c4 => ?_)
        · have h := h.1 c4
          refine lv_lconst (v := 1) X.1 X.2.1 dX9_wordTo_61 (by decide) ?_
          refine lv_lmul X.1 X.2.1 dX9_wordTo_62 ?_
          refine lv_lstore (lv' := [(5, .long (x5 * (1 : Int64))), (3, .long (x3 + (0 : Int64))), (0, .ref a0), (2, .int x2), (7, .int x7)]) X.1 X.2.1 dX9_wordTo_63 hl (by decide) rfl (fun ls hl => ?_)
          refine lv_iinc (v := (x7 + 1)) (lv' := [(7, .int (x7 + 1)), (5, .long (x5 * (1 : Int64))), (3, .long (x3 + (0 : Int64))), (0, .ref a0), (2, .int x2)]) X.1 X.2.1 dX9_wordTo_65 hl (k := 4) rfl rfl (by decide) rfl (fun ls hl => ?_)
          refine lv_aload_n X.1 X.2.1 dX9_wordTo_68 rfl (lv_at hl 3 rfl) ?_
          refine tw_get X hK w 9 iw_X9_wordTo_9 h0 (by decide) rfl 31 (by decide) (List.mem_of_getElem? (i := 1) rfl) rfl dX9_wordTo_69 ?_
          refine lv_iload_n X.1 X.2.1 dX9_wordTo_72 rfl (lv_at hl 4 rfl) ?_
          obtain ⟨hi5, h⟩ := h
          refine tw_iald X hK w (tw_t_9_31 hT h0) (tw_n_9_31 hT h0) hi5 dX9_wordTo_73 ?_
          refine lv_iconst (v := 2) X.1 X.2.1 dX9_wordTo_74 (by decide) ?_
          refine lv_idiv X.1 X.2.1 dX9_wordTo_75 (by decide) ?_
          refine lv_topi (fun z6 ez6 => ?_)
          have h := h _ ez6
          refine lv_istore_n (lv' := [(2, .int z6), (7, .int (x7 + 1)), (5, .long (x5 * (1 : Int64))), (3, .long (x3 + (0 : Int64))), (0, .ref a0)]) X.1 X.2.1 dX9_wordTo_76 rfl hl (by decide) rfl (fun ls hl => ?_)
          refine lv_goto (tgt := 10) X.1 X.2.1 dX9_wordTo_77 (by decide) ?_
          exact ih z6 (x3 + (0 : Int64)) (x5 * (1 : Int64)) (x7 + 1) σ _ _ ls h w (lv_sub hl [4, 0, 3, 2, 1] rfl)
        · have h := h.2 c4
          refine lv_ldc2 (own := RX9) (v := 2) X.1 X.2.1 X.2.2.2.1 (X.2.2.2.2 _ (List.mem_of_getElem? (i := 2) rfl)) dX9_wordTo_55 ?_
          refine lv_goto (tgt := 62) X.1 X.2.1 dX9_wordTo_58 (by decide) ?_
          refine lv_lmul X.1 X.2.1 dX9_wordTo_62 ?_
          refine lv_lstore (lv' := [(5, .long (x5 * (2 : Int64))), (3, .long (x3 + (0 : Int64))), (0, .ref a0), (2, .int x2), (7, .int x7)]) X.1 X.2.1 dX9_wordTo_63 hl (by decide) rfl (fun ls hl => ?_)
          refine lv_iinc (v := (x7 + 1)) (lv' := [(7, .int (x7 + 1)), (5, .long (x5 * (2 : Int64))), (3, .long (x3 + (0 : Int64))), (0, .ref a0), (2, .int x2)]) X.1 X.2.1 dX9_wordTo_65 hl (k := 4) rfl rfl (by decide) rfl (fun ls hl => ?_)
          refine lv_aload_n X.1 X.2.1 dX9_wordTo_68 rfl (lv_at hl 3 rfl) ?_
          refine tw_get X hK w 9 iw_X9_wordTo_9 h0 (by decide) rfl 31 (by decide) (List.mem_of_getElem? (i := 1) rfl) rfl dX9_wordTo_69 ?_
          refine lv_iload_n X.1 X.2.1 dX9_wordTo_72 rfl (lv_at hl 4 rfl) ?_
          obtain ⟨hi7, h⟩ := h
          refine tw_iald X hK w (tw_t_9_31 hT h0) (tw_n_9_31 hT h0) hi7 dX9_wordTo_73 ?_
          refine lv_iconst (v := 2) X.1 X.2.1 dX9_wordTo_74 (by decide) ?_
          refine lv_idiv X.1 X.2.1 dX9_wordTo_75 (by decide) ?_
          refine lv_topi (fun z8 ez8 => ?_)
          have h := h _ ez8
          refine lv_istore_n (lv' := [(2, .int z8), (7, .int (x7 + 1)), (5, .long (x5 * (2 : Int64))), (3, .long (x3 + (0 : Int64))), (0, .ref a0)]) X.1 X.2.1 dX9_wordTo_76 rfl hl (by decide) rfl (fun ls hl => ?_)
          refine lv_goto (tgt := 10) X.1 X.2.1 dX9_wordTo_77 (by decide) ?_
          exact ih z8 (x3 + (0 : Int64)) (x5 * (2 : Int64)) (x7 + 1) σ _ _ ls h w (lv_sub hl [4, 0, 3, 2, 1] rfl)
      · have h := h.2 c3
        refine lv_lload X.1 X.2.1 dX9_wordTo_28 (lv_at hl 3 rfl) ?_
        refine lv_aload_n X.1 X.2.1 dX9_wordTo_30 rfl (lv_at hl 0 rfl) ?_
        refine tw_get X hK w 9 iw_X9_wordTo_9 h0 (by decide) rfl 31 (by decide) (List.mem_of_getElem? (i := 1) rfl) rfl dX9_wordTo_31 ?_
        refine lv_iload_n X.1 X.2.1 dX9_wordTo_34 rfl (lv_at hl 1 rfl) ?_
        obtain ⟨hi9, h⟩ := h
        refine tw_iald X hK w (tw_t_9_31 hT h0) (tw_n_9_31 hT h0) hi9 dX9_wordTo_35 ?_
        refine lv_iconst (v := 2) X.1 X.2.1 dX9_wordTo_36 (by decide) ?_
        refine lv_irem X.1 X.2.1 dX9_wordTo_37 (by decide) ?_
        refine lv_topi (fun z10 ez10 => ?_)
        have h := h _ ez10
        refine lv_i2l (v := (z10.toInt64)) X.1 X.2.1 dX9_wordTo_38 rfl ?_
        refine lv_lmul X.1 X.2.1 dX9_wordTo_39 ?_
        refine lv_goto (tgt := 44) X.1 X.2.1 dX9_wordTo_40 (by decide) ?_
        refine lv_ladd X.1 X.2.1 dX9_wordTo_44 ?_
        refine lv_topl (fun z11 ez11 => ?_)
        have h := h _ ez11
        refine lv_lstore_n (lv' := [(3, .long z11), (0, .ref a0), (2, .int x2), (5, .long x5), (7, .int x7)]) X.1 X.2.1 dX9_wordTo_45 rfl hl (by decide) rfl (fun ls hl => ?_)
        refine lv_lload X.1 X.2.1 dX9_wordTo_46 (lv_at hl 3 rfl) ?_
        refine lv_iload X.1 X.2.1 dX9_wordTo_48 (lv_at hl 4 rfl) ?_
        refine lv_bipush (v := 25) X.1 X.2.1 dX9_wordTo_50 (by decide) ?_
        refine lv_icmp_ge (tgt := 61) X.1 X.2.1 dX9_wordTo_52 (by decide) (fun c12 => ?_) (fun c12 => ?_)
        · have h := h.1 c12
          refine lv_lconst (v := 1) X.1 X.2.1 dX9_wordTo_61 (by decide) ?_
          refine lv_lmul X.1 X.2.1 dX9_wordTo_62 ?_
          refine lv_lstore (lv' := [(5, .long (x5 * (1 : Int64))), (3, .long z11), (0, .ref a0), (2, .int x2), (7, .int x7)]) X.1 X.2.1 dX9_wordTo_63 hl (by decide) rfl (fun ls hl => ?_)
          refine lv_iinc (v := (x7 + 1)) (lv' := [(7, .int (x7 + 1)), (5, .long (x5 * (1 : Int64))), (3, .long z11), (0, .ref a0), (2, .int x2)]) X.1 X.2.1 dX9_wordTo_65 hl (k := 4) rfl rfl (by decide) rfl (fun ls hl => ?_)
          refine lv_aload_n X.1 X.2.1 dX9_wordTo_68 rfl (lv_at hl 3 rfl) ?_
          refine tw_get X hK w 9 iw_X9_wordTo_9 h0 (by decide) rfl 31 (by decide) (List.mem_of_getElem? (i := 1) rfl) rfl dX9_wordTo_69 ?_
          refine lv_iload_n X.1 X.2.1 dX9_wordTo_72 rfl (lv_at hl 4 rfl) ?_
          obtain ⟨hi13, h⟩ := h
          refine tw_iald X hK w (tw_t_9_31 hT h0) (tw_n_9_31 hT h0) hi13 dX9_wordTo_73 ?_
          refine lv_iconst (v := 2) X.1 X.2.1 dX9_wordTo_74 (by decide) ?_
          refine lv_idiv X.1 X.2.1 dX9_wordTo_75 (by decide) ?_
          refine lv_topi (fun z14 ez14 => ?_)
          have h := h _ ez14
          refine lv_istore_n (lv' := [(2, .int z14), (7, .int (x7 + 1)), (5, .long (x5 * (1 : Int64))), (3, .long z11), (0, .ref a0)]) X.1 X.2.1 dX9_wordTo_76 rfl hl (by decide) rfl (fun ls hl => ?_)
          refine lv_goto (tgt := 10) X.1 X.2.1 dX9_wordTo_77 (by decide) ?_
          exact ih z14 z11 (x5 * (1 : Int64)) (x7 + 1) σ _ _ ls h w (lv_sub hl [4, 0, 3, 2, 1] rfl)
        · have h := h.2 c12
          refine lv_ldc2 (own := RX9) (v := 2) X.1 X.2.1 X.2.2.2.1 (X.2.2.2.2 _ (List.mem_of_getElem? (i := 2) rfl)) dX9_wordTo_55 ?_
          refine lv_goto (tgt := 62) X.1 X.2.1 dX9_wordTo_58 (by decide) ?_
          refine lv_lmul X.1 X.2.1 dX9_wordTo_62 ?_
          refine lv_lstore (lv' := [(5, .long (x5 * (2 : Int64))), (3, .long z11), (0, .ref a0), (2, .int x2), (7, .int x7)]) X.1 X.2.1 dX9_wordTo_63 hl (by decide) rfl (fun ls hl => ?_)
          refine lv_iinc (v := (x7 + 1)) (lv' := [(7, .int (x7 + 1)), (5, .long (x5 * (2 : Int64))), (3, .long z11), (0, .ref a0), (2, .int x2)]) X.1 X.2.1 dX9_wordTo_65 hl (k := 4) rfl rfl (by decide) rfl (fun ls hl => ?_)
          refine lv_aload_n X.1 X.2.1 dX9_wordTo_68 rfl (lv_at hl 3 rfl) ?_
          refine tw_get X hK w 9 iw_X9_wordTo_9 h0 (by decide) rfl 31 (by decide) (List.mem_of_getElem? (i := 1) rfl) rfl dX9_wordTo_69 ?_
          refine lv_iload_n X.1 X.2.1 dX9_wordTo_72 rfl (lv_at hl 4 rfl) ?_
          obtain ⟨hi15, h⟩ := h
          refine tw_iald X hK w (tw_t_9_31 hT h0) (tw_n_9_31 hT h0) hi15 dX9_wordTo_73 ?_
          refine lv_iconst (v := 2) X.1 X.2.1 dX9_wordTo_74 (by decide) ?_
          refine lv_idiv X.1 X.2.1 dX9_wordTo_75 (by decide) ?_
          refine lv_topi (fun z16 ez16 => ?_)
          have h := h _ ez16
          refine lv_istore_n (lv' := [(2, .int z16), (7, .int (x7 + 1)), (5, .long (x5 * (2 : Int64))), (3, .long z11), (0, .ref a0)]) X.1 X.2.1 dX9_wordTo_76 rfl hl (by decide) rfl (fun ls hl => ?_)
          refine lv_goto (tgt := 10) X.1 X.2.1 dX9_wordTo_77 (by decide) ?_
          exact ih z16 z11 (x5 * (2 : Int64)) (x7 + 1) σ _ _ ls h w (lv_sub hl [4, 0, 3, 2, 1] rfl)
set_option maxHeartbeats 4000000 in
set_option maxRecDepth 100000 in
theorem ct_X9_wordTo (l : Launch) (D : va_G) (g : tw_G) (hT : tw_T g) (sz : Nat) (σ : tw_S) (a0 : Nat) (h0 : tw_is g 9 a0) (x1 : Int32) (Q : Int32 → tw_S → Prop) (h : wp_X9_wordTo g σ a0 x1 Q) : tw_Mi l yX9_wordTo wsX9_wordTo RM_X9_wordTo D g sz σ [.ref a0, .int x1] Q := by
  refine Met.ofW (cc := cX9_wordTo) (maxL := 8) (ret := (some .int)) (by decide) rfl ?_
  intro p e s m args below meth c s₁ B hml hv
  obtain ⟨rfl, hsz, hP, hK, hD0⟩ := hv
  subst hsz
  have hr := B.returns
  have hlk := B.notSynchronized
  have X : CallFix p m c cX9_wordTo 8 s _ wsX9_wordTo RX9 := ⟨B.exec, B.bytes, hml, findClass_of_methodNamed B.named, atoms_spec (ws := wsX9_wordTo) B.pre⟩
  have w := tw_w0 hP hD0
  have hl := lv_entry ([.ref a0, .int x1]) (n := 8) (Nat.le_of_ble_eq_true rfl)
  rw [lg_entry_eq]
  generalize (lg_sl ([.ref a0, .int x1]) ++ List.replicate (8 - (lg_sl ([.ref a0, .int x1])).length) Slot.unset).toArray = ls at hl ⊢
  have hl : lv_has ls 8 [(0, .ref a0), (1, .int x1)] := hl
  unfold wp_X9_wordTo at h
  refine lv_iload_n X.1 X.2.1 dX9_wordTo_0 rfl (lv_at hl 1 rfl) ?_
  refine lv_istore_n (lv' := [(2, .int x1), (0, .ref a0), (1, .int x1)]) X.1 X.2.1 dX9_wordTo_1 rfl hl (by decide) rfl (fun ls hl => ?_)
  have hl := lv_sub (l' := [(2, .int x1), (0, .ref a0)]) hl [0, 1] rfl
  refine lv_lconst (v := 0) X.1 X.2.1 dX9_wordTo_2 (by decide) ?_
  refine lv_lstore_n (lv' := [(3, .long (0 : Int64)), (2, .int x1), (0, .ref a0)]) X.1 X.2.1 dX9_wordTo_3 rfl hl (by decide) rfl (fun ls hl => ?_)
  refine lv_lconst (v := 1) X.1 X.2.1 dX9_wordTo_4 (by decide) ?_
  refine lv_lstore (lv' := [(5, .long (1 : Int64)), (3, .long (0 : Int64)), (2, .int x1), (0, .ref a0)]) X.1 X.2.1 dX9_wordTo_5 hl (by decide) rfl (fun ls hl => ?_)
  refine lv_iconst (v := 0) X.1 X.2.1 dX9_wordTo_7 (by decide) ?_
  refine lv_istore (lv' := [(7, .int (0 : Int32)), (5, .long (1 : Int64)), (3, .long (0 : Int64)), (2, .int x1), (0, .ref a0)]) X.1 X.2.1 dX9_wordTo_8 hl (by decide) rfl (fun ls hl => ?_)
  obtain ⟨n10, h⟩ := h
  refine lp_X9_wordTo_10 X hr hlk hK hT h0 (fun v17 v18 v19 σ20 H locs ls h w hl => ?_) n10 x1 (0 : Int64) (1 : Int64) (0 : Int32) σ _ _ ls h w (lv_sub hl [4, 3, 2, 1, 0] rfl)
  · skip
    refine lv_iload X.1 X.2.1 dX9_wordTo_80 (lv_at hl 2 rfl) ?_
    refine lv_bipush (v := 24) X.1 X.2.1 dX9_wordTo_82 (by decide) ?_
    refine lv_icmp_le (tgt := 91) X.1 X.2.1 dX9_wordTo_84 (by decide) (fun c21 => ?_) (fun c21 => ?_)
    · have h := h.1 c21
      refine lv_lload_n X.1 X.2.1 dX9_wordTo_91 rfl (lv_at hl 0 rfl) ?_
      refine lv_lload X.1 X.2.1 dX9_wordTo_92 (lv_at hl 1 rfl) ?_
      refine lv_ladd X.1 X.2.1 dX9_wordTo_94 ?_
      refine lv_l2i (v := ((v17 + v18).toInt32)) X.1 X.2.1 dX9_wordTo_95 rfl ?_
      exact tw_iret X hr hlk w h dX9_wordTo_96
    · have h := h.2 c21
      refine lv_iconst (v := 0) X.1 X.2.1 dX9_wordTo_87 (by decide) ?_
      refine lv_goto (tgt := 96) X.1 X.2.1 dX9_wordTo_88 (by decide) ?_
      exact tw_iret X hr hlk w h dX9_wordTo_96

abbrev RM_X9_firstBy : Room := { frames := 1, cells := 0, slots := 0, locals := 27 }
theorem iw_X9_firstBy_9 : ∀ w ∈ wsX90, w ∈ wsX9_firstBy := fun w h => List.mem_cons_of_mem _ (List.mem_append_right _ (h))
def wl_X9_firstBy_2 (g : tw_G) (a0 : Nat) (x1 : Int32) (Q : Int32 → tw_S → Prop) (k22 : tw_S → Prop) : Nat → Int32 → tw_S → Prop
  | 0, _, _ => False
  | n + 1, x2, σ => (((22500 : Int32) ≤ x2) → k22  σ) ∧ (¬ ((22500 : Int32) ≤ x2) → vp_in x2 22500 ∧ ∀ σ3, σ3 = (tw_sA σ (tw_R g a0 32) (upd (tw_A σ (tw_R g a0 32)) x2.toNatClampNeg (0 : Int32))) → wl_X9_firstBy_2 g a0 x1 Q k22 n (x2 + 1) σ3)
def wl_X9_firstBy_116 (g : tw_G) (a0 : Nat) (x1 : Int32) (x3 : Int32) (x4 : Int32) (x5 : Int32) (Q : Int32 → tw_S → Prop) (k210 : Int32 → tw_S → Prop) : Nat → Int32 → Int32 → tw_S → Prop
  | 0, _, _, _ => False
  | n + 1, x2, x6, σ => (((2 : Int32) ≤ x6) → k210 x2 σ) ∧ (¬ ((2 : Int32) ≤ x6) → wp_X9_at g σ a0 (0 : Int32) x4 (fun r24 σ23 => vp_in (((2 : Int32) * r24) + x6) 604 ∧ wp_X9_at g σ23 a0 (1 : Int32) x5 (fun r27 σ26 => vp_in (((2 : Int32) * r27) + x6) 604 ∧ ∀ z29, z29 = (((150 : Int32) * (tw_A σ23 (tw_R g a0 22) (((2 : Int32) * r24) + x6).toNatClampNeg)) + (tw_A σ26 (tw_R g a0 22) (((2 : Int32) * r27) + x6).toNatClampNeg)) → vp_in z29 22500 ∧ ((¬ (tw_A σ26 (tw_R g a0 32) z29.toNatClampNeg) = 0) → wl_X9_firstBy_116 g a0 x1 x3 x4 x5 Q k210 n x2 (x6 + 1) σ26) ∧ (((tw_A σ26 (tw_R g a0 32) z29.toNatClampNeg) = 0) → vp_in z29 22500 ∧ ∀ σ33, σ33 = (tw_sA σ26 (tw_R g a0 32) (upd (tw_A σ26 (tw_R g a0 32)) z29.toNatClampNeg (1 : Int32))) → vp_in x2 22500 ∧ ∀ σ35, σ35 = (tw_sA σ33 (tw_R g a0 30) (upd (tw_A σ33 (tw_R g a0 30)) x2.toNatClampNeg z29)) → vp_in x2 22500 ∧ ∀ σ37, σ37 = (tw_sA σ35 (tw_R g a0 31) (upd (tw_A σ35 (tw_R g a0 31)) x2.toNatClampNeg (((2 : Int32) * x3) + x6))) → wl_X9_firstBy_116 g a0 x1 x3 x4 x5 Q k210 n (x2 + 1) (x6 + 1) σ37))))
def wl_X9_firstBy_47 (g : tw_G) (a0 : Nat) (x1 : Int32) (Q : Int32 → tw_S → Prop) (k107 : Int32 → tw_S → Prop) (k216 : tw_S → Prop) : Nat → Int32 → Int32 → tw_S → Prop
  | 0, _, _, _ => False
  | n + 1, x2, x3, σ => ((x2 ≤ x3) → k216  σ) ∧ (¬ (x2 ≤ x3) → vp_in x3 22500 ∧ ∀ z10, z10 = ((tw_A σ (tw_R g a0 30) x3.toNatClampNeg) / (150 : Int32)) → vp_in x3 22500 ∧ ∀ z12, z12 = ((tw_A σ (tw_R g a0 30) x3.toNatClampNeg) - (tw_A σ (tw_R g a0 30) x3.toNatClampNeg) / (150 : Int32) * (150 : Int32)) → wp_X9_at g σ a0 (0 : Int32) z10 (fun r14 σ13 => vp_in r14 302 ∧ wp_X9_at g σ13 a0 (1 : Int32) z12 (fun r17 σ16 => vp_in r17 302 ∧ wp_X9_isBy g σ16 x1 (tw_A σ13 (tw_R g a0 23) r14.toNatClampNeg) (tw_A σ16 (tw_R g a0 23) r17.toNatClampNeg) (fun r20 σ19 => ((r20 = 0) → ∃ n116, wl_X9_firstBy_116 g a0 x1 x3 z10 z12 Q (fun v38 σ39 => wl_X9_firstBy_47 g a0 x1 Q k107 k216 n v38 (x3 + 1) σ39) n116 x2 (0 : Int32) σ19) ∧ (¬ (r20 = 0) → k107 x3 σ19)))))
def wp_X9_firstBy (g : tw_G) (σ : tw_S) (a0 : Nat) (x1 : Int32) (Q : Int32 → tw_S → Prop) : Prop := ∃ n2, wl_X9_firstBy_2 g a0 x1 Q (fun σ4 => ∀ σ5, σ5 = (tw_sA σ4 (tw_R g a0 30) (upd (tw_A σ4 (tw_R g a0 30)) (0 : Int32).toNatClampNeg (0 : Int32))) → ∀ σ6, σ6 = (tw_sA σ5 (tw_R g a0 31) (upd (tw_A σ5 (tw_R g a0 31)) (0 : Int32).toNatClampNeg (-1 : Int32))) → ∀ σ7, σ7 = (tw_sA σ6 (tw_R g a0 32) (upd (tw_A σ6 (tw_R g a0 32)) (0 : Int32).toNatClampNeg (1 : Int32))) → ∃ n47, wl_X9_firstBy_47 g a0 x1 Q (fun v40 σ41 => wp_X9_wordTo g σ41 a0 v40 (fun r43 σ42 => Q r43 σ42)) (fun σ44 => Q (-1 : Int32) σ44) n47 (1 : Int32) (0 : Int32) σ7) n2 (0 : Int32) σ
set_option maxHeartbeats 4000000 in
set_option maxRecDepth 100000 in
theorem lp_X9_firstBy_2 {p : Program} {l : Launch} {e : Env} {s : State} {m : MethodId} {args : Array Value} {below : List Frame} {meth : Method} {c : Code} {D : va_G} {g : tw_G} (X : CallFix p m c cX9_firstBy 8 s args wsX9_firstBy RX9) (hr : meth.sig.returnType = (some .int)) (hlk : meth.locks = false) (hK : tw_k D g s) (hT : tw_T g) {a0 : Nat} {x1 : Int32} (h0 : tw_is g 9 a0) {Q : Int32 → tw_S → Prop} {k22 : tw_S → Prop}
    (hk22 : ∀  (σ : tw_S) (H : Heap) (locs : List Loc) (ls : Array Slot), k22  σ → tw_w D g (tw_F g s.heap.size) s σ H locs → lv_has ls 8 [(0, .ref a0), (1, .int x1)] → W p l e RM_X9_firstBy s m args below meth c H locs 0 0 (tw_Qi Q D g below args s) (F0 m 22 ls []))
    : ∀ (n : Nat) (x2 : Int32) (σ : tw_S) (H : Heap) (locs : List Loc) (ls : Array Slot), wl_X9_firstBy_2 g a0 x1 Q k22 n x2 σ → tw_w D g (tw_F g s.heap.size) s σ H locs → lv_has ls 8 [(0, .ref a0), (1, .int x1), (2, .int x2)] → W p l e RM_X9_firstBy s m args below meth c H locs 0 0 (tw_Qi Q D g below args s) (F0 m 2 ls []) := by
  intro n
  induction n with
  | zero =>
    intro x2 σ H locs ls h w hl
    exact False.elim h
  | succ n ih =>
    intro x2 σ H locs ls h w hl
    rw [wl_X9_firstBy_2] at h
    refine lv_iload_n X.1 X.2.1 dX9_firstBy_2 rfl (lv_at hl 2 rfl) ?_
    refine lv_sipush (v := 22500) X.1 X.2.1 dX9_firstBy_3 (by decide) ?_
    refine lv_icmp_ge (tgt := 22) X.1 X.2.1 dX9_firstBy_6 (by decide) (fun c1 => ?_) (fun c1 => ?_)
    · have h := h.1 c1
      exact hk22  σ _ _ ls h w (lv_sub hl [0, 1] rfl)
    · have h := h.2 c1
      refine lv_aload_n X.1 X.2.1 dX9_firstBy_9 rfl (lv_at hl 0 rfl) ?_
      refine tw_get X hK w 9 iw_X9_firstBy_9 h0 (by decide) rfl 32 (by decide) (List.mem_of_getElem? (i := 1) rfl) rfl dX9_firstBy_10 ?_
      refine lv_iload_n X.1 X.2.1 dX9_firstBy_13 rfl (lv_at hl 2 rfl) ?_
      refine lv_iconst (v := 0) X.1 X.2.1 dX9_firstBy_14 (by decide) ?_
      obtain ⟨hi2, h⟩ := h
      refine tw_iast X hK w (tw_t_9_32 hT h0) (tw_n_9_32 hT h0) hi2 dX9_firstBy_15 (fun σ3 H locs eσ3 w => ?_)
      have h := h _ eσ3
      refine lv_iinc (v := (x2 + 1)) (lv' := [(2, .int (x2 + 1)), (0, .ref a0), (1, .int x1)]) X.1 X.2.1 dX9_firstBy_16 hl (k := 2) rfl rfl (by decide) rfl (fun ls hl => ?_)
      refine lv_goto (tgt := 2) X.1 X.2.1 dX9_firstBy_19 (by decide) ?_
      exact ih (x2 + 1) σ3 _ _ ls h w (lv_sub hl [1, 2, 0] rfl)
set_option maxHeartbeats 4000000 in
set_option maxRecDepth 100000 in
theorem lp_X9_firstBy_116 {p : Program} {l : Launch} {e : Env} {s : State} {m : MethodId} {args : Array Value} {below : List Frame} {meth : Method} {c : Code} {D : va_G} {g : tw_G} (X : CallFix p m c cX9_firstBy 8 s args wsX9_firstBy RX9) (hr : meth.sig.returnType = (some .int)) (hlk : meth.locks = false) (hK : tw_k D g s) (hT : tw_T g) {a0 : Nat} {x1 : Int32} {x3 : Int32} {x4 : Int32} {x5 : Int32} (h0 : tw_is g 9 a0) {Q : Int32 → tw_S → Prop} {k210 : Int32 → tw_S → Prop}
    (hk210 : ∀ (x2 : Int32) (σ : tw_S) (H : Heap) (locs : List Loc) (ls : Array Slot), k210 x2 σ → tw_w D g (tw_F g s.heap.size) s σ H locs → lv_has ls 8 [(0, .ref a0), (1, .int x1), (2, .int x2), (3, .int x3)] → W p l e RM_X9_firstBy s m args below meth c H locs 0 0 (tw_Qi Q D g below args s) (F0 m 210 ls []))
    : ∀ (n : Nat) (x2 : Int32) (x6 : Int32) (σ : tw_S) (H : Heap) (locs : List Loc) (ls : Array Slot), wl_X9_firstBy_116 g a0 x1 x3 x4 x5 Q k210 n x2 x6 σ → tw_w D g (tw_F g s.heap.size) s σ H locs → lv_has ls 8 [(0, .ref a0), (1, .int x1), (2, .int x2), (3, .int x3), (4, .int x4), (5, .int x5), (6, .int x6)] → W p l e RM_X9_firstBy s m args below meth c H locs 0 0 (tw_Qi Q D g below args s) (F0 m 116 ls []) := by
  intro n
  induction n with
  | zero =>
    intro x2 x6 σ H locs ls h w hl
    exact False.elim h
  | succ n ih =>
    intro x2 x6 σ H locs ls h w hl
    rw [wl_X9_firstBy_116] at h
    refine lv_iload X.1 X.2.1 dX9_firstBy_116 (lv_at hl 6 rfl) ?_
    refine lv_iconst (v := 2) X.1 X.2.1 dX9_firstBy_118 (by decide) ?_
    refine lv_icmp_ge (tgt := 210) X.1 X.2.1 dX9_firstBy_119 (by decide) (fun c22 => ?_) (fun c22 => ?_)
    · have h := h.1 c22
      exact hk210 x2 σ _ _ ls h w (lv_sub hl [0, 1, 2, 3] rfl)
    · have h := h.2 c22
      refine lv_sipush (v := 150) X.1 X.2.1 dX9_firstBy_122 (by decide) ?_
      refine lv_aload_n X.1 X.2.1 dX9_firstBy_125 rfl (lv_at hl 0 rfl) ?_
      refine tw_get X hK w 9 iw_X9_firstBy_9 h0 (by decide) rfl 22 (by decide) (List.mem_of_getElem? (i := 5) rfl) rfl dX9_firstBy_126 ?_
      refine lv_iconst (v := 2) X.1 X.2.1 dX9_firstBy_129 (by decide) ?_
      refine lv_aload_n X.1 X.2.1 dX9_firstBy_130 rfl (lv_at hl 0 rfl) ?_
      refine lv_iconst (v := 0) X.1 X.2.1 dX9_firstBy_131 (by decide) ?_
      refine lv_iload X.1 X.2.1 dX9_firstBy_132 (lv_at hl 4 rfl) ?_
      refine tw_ci w (va_runV (As := [.int (0 : Int32), .int x4]) (rest := [.int (2 : Int32), .ref (tw_R g a0 22), .int (150 : Int32)]) X (ct_X9_at l D g hT _ σ a0 h0 (0 : Int32) x4 _ h) (cwV 2 X.2.2.2.2 gX9_firstBy_X9_at rfl rfl rfl (by decide +kernel) ⟨Nat.le_of_ble_eq_true rfl, Nat.le_of_ble_eq_true rfl⟩) (tw_preV hK w h0 (by decide) rfl [.int (0 : Int32), .int x4]) rfl rfl hl.1 rfl (lv_room (Nat.le_of_ble_eq_true rfl)) dX9_firstBy_134 ⟨Nat.zero_le _, Nat.zero_le _⟩) (fun r24 σ23 H locs h w => ?_)
      refine lv_imul X.1 X.2.1 dX9_firstBy_137 ?_
      refine lv_iload X.1 X.2.1 dX9_firstBy_138 (lv_at hl 6 rfl) ?_
      refine lv_iadd X.1 X.2.1 dX9_firstBy_140 ?_
      obtain ⟨hi25, h⟩ := h
      refine tw_iald X hK w (tw_t_9_22 hT h0) (tw_n_9_22 hT h0) hi25 dX9_firstBy_141 ?_
      refine lv_imul X.1 X.2.1 dX9_firstBy_142 ?_
      refine lv_aload_n X.1 X.2.1 dX9_firstBy_143 rfl (lv_at hl 0 rfl) ?_
      refine tw_get X hK w 9 iw_X9_firstBy_9 h0 (by decide) rfl 22 (by decide) (List.mem_of_getElem? (i := 5) rfl) rfl dX9_firstBy_144 ?_
      refine lv_iconst (v := 2) X.1 X.2.1 dX9_firstBy_147 (by decide) ?_
      refine lv_aload_n X.1 X.2.1 dX9_firstBy_148 rfl (lv_at hl 0 rfl) ?_
      refine lv_iconst (v := 1) X.1 X.2.1 dX9_firstBy_149 (by decide) ?_
      refine lv_iload X.1 X.2.1 dX9_firstBy_150 (lv_at hl 5 rfl) ?_
      refine tw_ci w (va_runV (As := [.int (1 : Int32), .int x5]) (rest := [.int (2 : Int32), .ref (tw_R g a0 22), .int ((150 : Int32) * (tw_A σ23 (tw_R g a0 22) (((2 : Int32) * r24) + x6).toNatClampNeg))]) X (ct_X9_at l D g hT _ σ23 a0 h0 (1 : Int32) x5 _ h) (cwV 2 X.2.2.2.2 gX9_firstBy_X9_at rfl rfl rfl (by decide +kernel) ⟨Nat.le_of_ble_eq_true rfl, Nat.le_of_ble_eq_true rfl⟩) (tw_preV hK w h0 (by decide) rfl [.int (1 : Int32), .int x5]) rfl rfl hl.1 rfl (lv_room (Nat.le_of_ble_eq_true rfl)) dX9_firstBy_152 ⟨Nat.zero_le _, Nat.zero_le _⟩) (fun r27 σ26 H locs h w => ?_)
      refine lv_imul X.1 X.2.1 dX9_firstBy_155 ?_
      refine lv_iload X.1 X.2.1 dX9_firstBy_156 (lv_at hl 6 rfl) ?_
      refine lv_iadd X.1 X.2.1 dX9_firstBy_158 ?_
      obtain ⟨hi28, h⟩ := h
      refine tw_iald X hK w (tw_t_9_22 hT h0) (tw_n_9_22 hT h0) hi28 dX9_firstBy_159 ?_
      refine lv_iadd X.1 X.2.1 dX9_firstBy_160 ?_
      refine lv_topi (fun z29 ez29 => ?_)
      have h := h _ ez29
      refine lv_istore (lv' := [(7, .int z29), (0, .ref a0), (1, .int x1), (2, .int x2), (3, .int x3), (4, .int x4), (5, .int x5), (6, .int x6)]) X.1 X.2.1 dX9_firstBy_161 hl (by decide) rfl (fun ls hl => ?_)
      refine lv_aload_n X.1 X.2.1 dX9_firstBy_163 rfl (lv_at hl 1 rfl) ?_
      refine tw_get X hK w 9 iw_X9_firstBy_9 h0 (by decide) rfl 32 (by decide) (List.mem_of_getElem? (i := 1) rfl) rfl dX9_firstBy_164 ?_
      refine lv_iload X.1 X.2.1 dX9_firstBy_167 (lv_at hl 0 rfl) ?_
      obtain ⟨hi30, h⟩ := h
      refine tw_iald X hK w (tw_t_9_32 hT h0) (tw_n_9_32 hT h0) hi30 dX9_firstBy_169 ?_
      refine lv_if_ne (tgt := 204) X.1 X.2.1 dX9_firstBy_170 (by decide) (fun c31 => ?_) (fun c31 => ?_)
      · have h := h.1 c31
        refine lv_iinc (v := (x6 + 1)) (lv' := [(6, .int (x6 + 1)), (7, .int z29), (0, .ref a0), (1, .int x1), (2, .int x2), (3, .int x3), (4, .int x4), (5, .int x5)]) X.1 X.2.1 dX9_firstBy_204 hl (k := 7) rfl rfl (by decide) rfl (fun ls hl => ?_)
        refine lv_goto (tgt := 116) X.1 X.2.1 dX9_firstBy_207 (by decide) ?_
        exact ih x2 (x6 + 1) σ26 _ _ ls h w (lv_sub hl [2, 3, 4, 5, 6, 7, 0] rfl)
      · have h := h.2 c31
        refine lv_aload_n X.1 X.2.1 dX9_firstBy_173 rfl (lv_at hl 1 rfl) ?_
        refine tw_get X hK w 9 iw_X9_firstBy_9 h0 (by decide) rfl 32 (by decide) (List.mem_of_getElem? (i := 1) rfl) rfl dX9_firstBy_174 ?_
        refine lv_iload X.1 X.2.1 dX9_firstBy_177 (lv_at hl 0 rfl) ?_
        refine lv_iconst (v := 1) X.1 X.2.1 dX9_firstBy_179 (by decide) ?_
        obtain ⟨hi32, h⟩ := h
        refine tw_iast X hK w (tw_t_9_32 hT h0) (tw_n_9_32 hT h0) hi32 dX9_firstBy_180 (fun σ33 H locs eσ33 w => ?_)
        have h := h _ eσ33
        refine lv_aload_n X.1 X.2.1 dX9_firstBy_181 rfl (lv_at hl 1 rfl) ?_
        refine tw_get X hK w 9 iw_X9_firstBy_9 h0 (by decide) rfl 30 (by decide) (List.mem_of_getElem? (i := 2) rfl) rfl dX9_firstBy_182 ?_
        refine lv_iload_n X.1 X.2.1 dX9_firstBy_185 rfl (lv_at hl 3 rfl) ?_
        refine lv_iload X.1 X.2.1 dX9_firstBy_186 (lv_at hl 0 rfl) ?_
        obtain ⟨hi34, h⟩ := h
        refine tw_iast X hK w (tw_t_9_30 hT h0) (tw_n_9_30 hT h0) hi34 dX9_firstBy_188 (fun σ35 H locs eσ35 w => ?_)
        have h := h _ eσ35
        refine lv_aload_n X.1 X.2.1 dX9_firstBy_189 rfl (lv_at hl 1 rfl) ?_
        refine tw_get X hK w 9 iw_X9_firstBy_9 h0 (by decide) rfl 31 (by decide) (List.mem_of_getElem? (i := 3) rfl) rfl dX9_firstBy_190 ?_
        refine lv_iload_n X.1 X.2.1 dX9_firstBy_193 rfl (lv_at hl 3 rfl) ?_
        refine lv_iconst (v := 2) X.1 X.2.1 dX9_firstBy_194 (by decide) ?_
        refine lv_iload_n X.1 X.2.1 dX9_firstBy_195 rfl (lv_at hl 4 rfl) ?_
        refine lv_imul X.1 X.2.1 dX9_firstBy_196 ?_
        refine lv_iload X.1 X.2.1 dX9_firstBy_197 (lv_at hl 7 rfl) ?_
        refine lv_iadd X.1 X.2.1 dX9_firstBy_199 ?_
        obtain ⟨hi36, h⟩ := h
        refine tw_iast X hK w (tw_t_9_31 hT h0) (tw_n_9_31 hT h0) hi36 dX9_firstBy_200 (fun σ37 H locs eσ37 w => ?_)
        have h := h _ eσ37
        refine lv_iinc (v := (x2 + 1)) (lv' := [(2, .int (x2 + 1)), (7, .int z29), (0, .ref a0), (1, .int x1), (3, .int x3), (4, .int x4), (5, .int x5), (6, .int x6)]) X.1 X.2.1 dX9_firstBy_201 hl (k := 3) rfl rfl (by decide) rfl (fun ls hl => ?_)
        refine lv_iinc (v := (x6 + 1)) (lv' := [(6, .int (x6 + 1)), (2, .int (x2 + 1)), (7, .int z29), (0, .ref a0), (1, .int x1), (3, .int x3), (4, .int x4), (5, .int x5)]) X.1 X.2.1 dX9_firstBy_204 hl (k := 7) rfl rfl (by decide) rfl (fun ls hl => ?_)
        refine lv_goto (tgt := 116) X.1 X.2.1 dX9_firstBy_207 (by decide) ?_
        exact ih (x2 + 1) (x6 + 1) σ37 _ _ ls h w (lv_sub hl [3, 4, 1, 5, 6, 7, 0] rfl)
set_option maxHeartbeats 4000000 in
set_option maxRecDepth 100000 in
theorem lp_X9_firstBy_47 {p : Program} {l : Launch} {e : Env} {s : State} {m : MethodId} {args : Array Value} {below : List Frame} {meth : Method} {c : Code} {D : va_G} {g : tw_G} (X : CallFix p m c cX9_firstBy 8 s args wsX9_firstBy RX9) (hr : meth.sig.returnType = (some .int)) (hlk : meth.locks = false) (hK : tw_k D g s) (hT : tw_T g) {a0 : Nat} {x1 : Int32} (h0 : tw_is g 9 a0) {Q : Int32 → tw_S → Prop} {k107 : Int32 → tw_S → Prop} {k216 : tw_S → Prop}
    (hk107 : ∀ (x3 : Int32) (σ : tw_S) (H : Heap) (locs : List Loc) (ls : Array Slot), k107 x3 σ → tw_w D g (tw_F g s.heap.size) s σ H locs → lv_has ls 8 [(0, .ref a0), (3, .int x3)] → W p l e RM_X9_firstBy s m args below meth c H locs 0 0 (tw_Qi Q D g below args s) (F0 m 107 ls []))
    (hk216 : ∀  (σ : tw_S) (H : Heap) (locs : List Loc) (ls : Array Slot), k216  σ → tw_w D g (tw_F g s.heap.size) s σ H locs → lv_has ls 8 [] → W p l e RM_X9_firstBy s m args below meth c H locs 0 0 (tw_Qi Q D g below args s) (F0 m 216 ls []))
    : ∀ (n : Nat) (x2 : Int32) (x3 : Int32) (σ : tw_S) (H : Heap) (locs : List Loc) (ls : Array Slot), wl_X9_firstBy_47 g a0 x1 Q k107 k216 n x2 x3 σ → tw_w D g (tw_F g s.heap.size) s σ H locs → lv_has ls 8 [(0, .ref a0), (1, .int x1), (2, .int x2), (3, .int x3)] → W p l e RM_X9_firstBy s m args below meth c H locs 0 0 (tw_Qi Q D g below args s) (F0 m 47 ls []) := by
  intro n
  induction n with
  | zero =>
    intro x2 x3 σ H locs ls h w hl
    exact False.elim h
  | succ n ih =>
    intro x2 x3 σ H locs ls h w hl
    rw [wl_X9_firstBy_47] at h
    refine lv_iload_n X.1 X.2.1 dX9_firstBy_47 rfl (lv_at hl 3 rfl) ?_
    refine lv_iload_n X.1 X.2.1 dX9_firstBy_48 rfl (lv_at hl 2 rfl) ?_
    refine lv_icmp_ge (tgt := 216) X.1 X.2.1 dX9_firstBy_49 (by decide) (fun c8 => ?_) (fun c8 => ?_)
    · have h := h.1 c8
      exact hk216  σ _ _ ls h w (lv_sub hl [] rfl)
    · have h := h.2 c8
      refine lv_aload_n X.1 X.2.1 dX9_firstBy_52 rfl (lv_at hl 0 rfl) ?_
      refine tw_get X hK w 9 iw_X9_firstBy_9 h0 (by decide) rfl 30 (by decide) (List.mem_of_getElem? (i := 2) rfl) rfl dX9_firstBy_53 ?_
      refine lv_iload_n X.1 X.2.1 dX9_firstBy_56 rfl (lv_at hl 3 rfl) ?_
      obtain ⟨hi9, h⟩ := h
      refine tw_iald X hK w (tw_t_9_30 hT h0) (tw_n_9_30 hT h0) hi9 dX9_firstBy_57 ?_
      refine lv_sipush (v := 150) X.1 X.2.1 dX9_firstBy_58 (by decide) ?_
      refine lv_idiv X.1 X.2.1 dX9_firstBy_61 (by decide) ?_
      refine lv_topi (fun z10 ez10 => ?_)
      have h := h _ ez10
      refine lv_istore (lv' := [(4, .int z10), (0, .ref a0), (1, .int x1), (2, .int x2), (3, .int x3)]) X.1 X.2.1 dX9_firstBy_62 hl (by decide) rfl (fun ls hl => ?_)
      refine lv_aload_n X.1 X.2.1 dX9_firstBy_64 rfl (lv_at hl 1 rfl) ?_
      refine tw_get X hK w 9 iw_X9_firstBy_9 h0 (by decide) rfl 30 (by decide) (List.mem_of_getElem? (i := 2) rfl) rfl dX9_firstBy_65 ?_
      refine lv_iload_n X.1 X.2.1 dX9_firstBy_68 rfl (lv_at hl 4 rfl) ?_
      obtain ⟨hi11, h⟩ := h
      refine tw_iald X hK w (tw_t_9_30 hT h0) (tw_n_9_30 hT h0) hi11 dX9_firstBy_69 ?_
      refine lv_sipush (v := 150) X.1 X.2.1 dX9_firstBy_70 (by decide) ?_
      refine lv_irem X.1 X.2.1 dX9_firstBy_73 (by decide) ?_
      refine lv_topi (fun z12 ez12 => ?_)
      have h := h _ ez12
      refine lv_istore (lv' := [(5, .int z12), (4, .int z10), (0, .ref a0), (1, .int x1), (2, .int x2), (3, .int x3)]) X.1 X.2.1 dX9_firstBy_74 hl (by decide) rfl (fun ls hl => ?_)
      refine lv_iload_n X.1 X.2.1 dX9_firstBy_76 rfl (lv_at hl 3 rfl) ?_
      refine lv_aload_n X.1 X.2.1 dX9_firstBy_77 rfl (lv_at hl 2 rfl) ?_
      refine tw_get X hK w 9 iw_X9_firstBy_9 h0 (by decide) rfl 23 (by decide) (List.mem_of_getElem? (i := 4) rfl) rfl dX9_firstBy_78 ?_
      refine lv_aload_n X.1 X.2.1 dX9_firstBy_81 rfl (lv_at hl 2 rfl) ?_
      refine lv_iconst (v := 0) X.1 X.2.1 dX9_firstBy_82 (by decide) ?_
      refine lv_iload X.1 X.2.1 dX9_firstBy_83 (lv_at hl 1 rfl) ?_
      refine tw_ci w (va_runV (As := [.int (0 : Int32), .int z10]) (rest := [.ref (tw_R g a0 23), .int x1]) X (ct_X9_at l D g hT _ σ a0 h0 (0 : Int32) z10 _ h) (cwV 2 X.2.2.2.2 gX9_firstBy_X9_at rfl rfl rfl (by decide +kernel) ⟨Nat.le_of_ble_eq_true rfl, Nat.le_of_ble_eq_true rfl⟩) (tw_preV hK w h0 (by decide) rfl [.int (0 : Int32), .int z10]) rfl rfl hl.1 rfl (lv_room (Nat.le_of_ble_eq_true rfl)) dX9_firstBy_85 ⟨Nat.zero_le _, Nat.zero_le _⟩) (fun r14 σ13 H locs h w => ?_)
      obtain ⟨hi15, h⟩ := h
      refine tw_iald X hK w (tw_t_9_23 hT h0) (tw_n_9_23 hT h0) hi15 dX9_firstBy_88 ?_
      refine lv_aload_n X.1 X.2.1 dX9_firstBy_89 rfl (lv_at hl 2 rfl) ?_
      refine tw_get X hK w 9 iw_X9_firstBy_9 h0 (by decide) rfl 23 (by decide) (List.mem_of_getElem? (i := 4) rfl) rfl dX9_firstBy_90 ?_
      refine lv_aload_n X.1 X.2.1 dX9_firstBy_93 rfl (lv_at hl 2 rfl) ?_
      refine lv_iconst (v := 1) X.1 X.2.1 dX9_firstBy_94 (by decide) ?_
      refine lv_iload X.1 X.2.1 dX9_firstBy_95 (lv_at hl 0 rfl) ?_
      refine tw_ci w (va_runV (As := [.int (1 : Int32), .int z12]) (rest := [.ref (tw_R g a0 23), .int (tw_A σ13 (tw_R g a0 23) r14.toNatClampNeg), .int x1]) X (ct_X9_at l D g hT _ σ13 a0 h0 (1 : Int32) z12 _ h) (cwV 2 X.2.2.2.2 gX9_firstBy_X9_at rfl rfl rfl (by decide +kernel) ⟨Nat.le_of_ble_eq_true rfl, Nat.le_of_ble_eq_true rfl⟩) (tw_preV hK w h0 (by decide) rfl [.int (1 : Int32), .int z12]) rfl rfl hl.1 rfl (lv_room (Nat.le_of_ble_eq_true rfl)) dX9_firstBy_97 ⟨Nat.zero_le _, Nat.zero_le _⟩) (fun r17 σ16 H locs h w => ?_)
      obtain ⟨hi18, h⟩ := h
      refine tw_iald X hK w (tw_t_9_23 hT h0) (tw_n_9_23 hT h0) hi18 dX9_firstBy_100 ?_
      refine tw_ci w (va_runS (As := [.int x1, .int (tw_A σ13 (tw_R g a0 23) r14.toNatClampNeg), .int (tw_A σ16 (tw_R g a0 23) r17.toNatClampNeg)]) (rest := []) X (ct_X9_isBy l D g hT _ σ16 x1 (tw_A σ13 (tw_R g a0 23) r14.toNatClampNeg) (tw_A σ16 (tw_R g a0 23) r17.toNatClampNeg) _ h) (va_cwS 3 X.2.2.2.2 gX9_firstBy_X9_isBy rfl rfl rfl (by decide +kernel) ⟨Nat.le_of_ble_eq_true rfl, Nat.le_of_ble_eq_true rfl⟩) (tw_pre hK w [.int x1, .int (tw_A σ13 (tw_R g a0 23) r14.toNatClampNeg), .int (tw_A σ16 (tw_R g a0 23) r17.toNatClampNeg)]) rfl rfl hl.1 rfl (lv_room (Nat.le_of_ble_eq_true rfl)) dX9_firstBy_101 ⟨Nat.zero_le _, Nat.zero_le _⟩) (fun r20 σ19 H locs h w => ?_)
      refine lv_if_eq (tgt := 113) X.1 X.2.1 dX9_firstBy_104 (by decide) (fun c21 => ?_) (fun c21 => ?_)
      · have h := h.1 c21
        refine lv_iconst (v := 0) X.1 X.2.1 dX9_firstBy_113 (by decide) ?_
        refine lv_istore (lv' := [(6, .int (0 : Int32)), (5, .int z12), (4, .int z10), (0, .ref a0), (1, .int x1), (2, .int x2), (3, .int x3)]) X.1 X.2.1 dX9_firstBy_114 hl (by decide) rfl (fun ls hl => ?_)
        obtain ⟨n116, h⟩ := h
        refine lp_X9_firstBy_116 X hr hlk hK hT h0 (fun v38 σ39 H locs ls h w hl => ?_) n116 x2 (0 : Int32) σ19 _ _ ls h w (lv_sub hl [3, 4, 5, 6, 2, 1, 0] rfl)
        · skip
          refine lv_iinc (v := (x3 + 1)) (lv' := [(3, .int (x3 + 1)), (0, .ref a0), (1, .int x1), (2, .int v38)]) X.1 X.2.1 dX9_firstBy_210 hl (k := 3) rfl rfl (by decide) rfl (fun ls hl => ?_)
          refine lv_goto (tgt := 47) X.1 X.2.1 dX9_firstBy_213 (by decide) ?_
          exact ih v38 (x3 + 1) σ39 _ _ ls h w (lv_sub hl [1, 2, 3, 0] rfl)
      · have h := h.2 c21
        exact hk107 x3 σ19 _ _ ls h w (lv_sub hl [2, 5] rfl)
set_option maxHeartbeats 4000000 in
set_option maxRecDepth 100000 in
theorem ct_X9_firstBy (l : Launch) (D : va_G) (g : tw_G) (hT : tw_T g) (sz : Nat) (σ : tw_S) (a0 : Nat) (h0 : tw_is g 9 a0) (x1 : Int32) (Q : Int32 → tw_S → Prop) (h : wp_X9_firstBy g σ a0 x1 Q) : tw_Mi l yX9_firstBy wsX9_firstBy RM_X9_firstBy D g sz σ [.ref a0, .int x1] Q := by
  refine Met.ofW (cc := cX9_firstBy) (maxL := 8) (ret := (some .int)) (by decide) rfl ?_
  intro p e s m args below meth c s₁ B hml hv
  obtain ⟨rfl, hsz, hP, hK, hD0⟩ := hv
  subst hsz
  have hr := B.returns
  have hlk := B.notSynchronized
  have X : CallFix p m c cX9_firstBy 8 s _ wsX9_firstBy RX9 := ⟨B.exec, B.bytes, hml, findClass_of_methodNamed B.named, atoms_spec (ws := wsX9_firstBy) B.pre⟩
  have w := tw_w0 hP hD0
  have hl := lv_entry ([.ref a0, .int x1]) (n := 8) (Nat.le_of_ble_eq_true rfl)
  rw [lg_entry_eq]
  generalize (lg_sl ([.ref a0, .int x1]) ++ List.replicate (8 - (lg_sl ([.ref a0, .int x1])).length) Slot.unset).toArray = ls at hl ⊢
  have hl : lv_has ls 8 [(0, .ref a0), (1, .int x1)] := hl
  unfold wp_X9_firstBy at h
  refine lv_iconst (v := 0) X.1 X.2.1 dX9_firstBy_0 (by decide) ?_
  refine lv_istore_n (lv' := [(2, .int (0 : Int32)), (0, .ref a0), (1, .int x1)]) X.1 X.2.1 dX9_firstBy_1 rfl hl (by decide) rfl (fun ls hl => ?_)
  obtain ⟨n2, h⟩ := h
  refine lp_X9_firstBy_2 X hr hlk hK hT h0 (fun σ4 H locs ls h w hl => ?_) n2 (0 : Int32) σ _ _ ls h w (lv_sub hl [1, 2, 0] rfl)
  · skip
    refine lv_iconst (v := 1) X.1 X.2.1 dX9_firstBy_22 (by decide) ?_
    refine lv_istore_n (lv' := [(2, .int (1 : Int32)), (0, .ref a0), (1, .int x1)]) X.1 X.2.1 dX9_firstBy_23 rfl hl (by decide) rfl (fun ls hl => ?_)
    refine lv_aload_n X.1 X.2.1 dX9_firstBy_24 rfl (lv_at hl 1 rfl) ?_
    refine tw_get X hK w 9 iw_X9_firstBy_9 h0 (by decide) rfl 30 (by decide) (List.mem_of_getElem? (i := 2) rfl) rfl dX9_firstBy_25 ?_
    refine lv_iconst (v := 0) X.1 X.2.1 dX9_firstBy_28 (by decide) ?_
    refine lv_iconst (v := 0) X.1 X.2.1 dX9_firstBy_29 (by decide) ?_
    refine tw_iast X hK w (tw_t_9_30 hT h0) (tw_n_9_30 hT h0) (by unfold vp_in; decide) dX9_firstBy_30 (fun σ5 H locs eσ5 w => ?_)
    have h := h _ eσ5
    refine lv_aload_n X.1 X.2.1 dX9_firstBy_31 rfl (lv_at hl 1 rfl) ?_
    refine tw_get X hK w 9 iw_X9_firstBy_9 h0 (by decide) rfl 31 (by decide) (List.mem_of_getElem? (i := 3) rfl) rfl dX9_firstBy_32 ?_
    refine lv_iconst (v := 0) X.1 X.2.1 dX9_firstBy_35 (by decide) ?_
    refine lv_iconst (v := -1) X.1 X.2.1 dX9_firstBy_36 (by decide) ?_
    refine tw_iast X hK w (tw_t_9_31 hT h0) (tw_n_9_31 hT h0) (by unfold vp_in; decide) dX9_firstBy_37 (fun σ6 H locs eσ6 w => ?_)
    have h := h _ eσ6
    refine lv_aload_n X.1 X.2.1 dX9_firstBy_38 rfl (lv_at hl 1 rfl) ?_
    refine tw_get X hK w 9 iw_X9_firstBy_9 h0 (by decide) rfl 32 (by decide) (List.mem_of_getElem? (i := 1) rfl) rfl dX9_firstBy_39 ?_
    refine lv_iconst (v := 0) X.1 X.2.1 dX9_firstBy_42 (by decide) ?_
    refine lv_iconst (v := 1) X.1 X.2.1 dX9_firstBy_43 (by decide) ?_
    refine tw_iast X hK w (tw_t_9_32 hT h0) (tw_n_9_32 hT h0) (by unfold vp_in; decide) dX9_firstBy_44 (fun σ7 H locs eσ7 w => ?_)
    have h := h _ eσ7
    refine lv_iconst (v := 0) X.1 X.2.1 dX9_firstBy_45 (by decide) ?_
    refine lv_istore_n (lv' := [(3, .int (0 : Int32)), (2, .int (1 : Int32)), (0, .ref a0), (1, .int x1)]) X.1 X.2.1 dX9_firstBy_46 rfl hl (by decide) rfl (fun ls hl => ?_)
    obtain ⟨n47, h⟩ := h
    refine lp_X9_firstBy_47 X hr hlk hK hT h0 (fun v40 σ41 H locs ls h w hl => ?_) (fun σ44 H locs ls h w hl => ?_) n47 (1 : Int32) (0 : Int32) σ7 _ _ ls h w (lv_sub hl [2, 3, 1, 0] rfl)
    · skip
      refine lv_aload_n X.1 X.2.1 dX9_firstBy_107 rfl (lv_at hl 0 rfl) ?_
      refine lv_iload_n X.1 X.2.1 dX9_firstBy_108 rfl (lv_at hl 1 rfl) ?_
      refine tw_ci w (va_runV (As := [.int v40]) (rest := []) X (ct_X9_wordTo l D g hT _ σ41 a0 h0 v40 _ h) (cwV 1 X.2.2.2.2 gX9_firstBy_X9_wordTo rfl rfl rfl (by decide +kernel) ⟨Nat.le_of_ble_eq_true rfl, Nat.le_of_ble_eq_true rfl⟩) (tw_preV hK w h0 (by decide) rfl [.int v40]) rfl rfl hl.1 rfl (lv_room (Nat.le_of_ble_eq_true rfl)) dX9_firstBy_109 ⟨Nat.zero_le _, Nat.zero_le _⟩) (fun r43 σ42 H locs h w => ?_)
      exact tw_iret X hr hlk w h dX9_firstBy_112
    · skip
      refine lv_iconst (v := -1) X.1 X.2.1 dX9_firstBy_216 (by decide) ?_
      exact tw_iret X hr hlk w h dX9_firstBy_217

abbrev RM_X9_told : Room := { frames := 5, cells := 0, slots := 0, locals := 121 }
theorem iw_X9_told_9 : ∀ w ∈ wsX90, w ∈ wsX9_told := fun w h => List.mem_cons_of_mem _ (List.mem_append_right _ (h))
def wp_X9_told (g : tw_G) (σ : tw_S) (a0 : Nat) (x1 : Int32) (Q : Int32 → tw_S → Prop) : Prop := (x1 = 0 → Q (tw_I σ a0 12) σ) ∧ (¬ x1 = 0 → (x1 = 1 → wp_X9_numberOf g σ a0 (fun r4 σ3 => Q r4 σ3)) ∧ (¬ x1 = 1 → (x1 = 2 → Q (tw_I σ a0 2) σ) ∧ (¬ x1 = 2 → (x1 = 3 → Q (tw_I σ a0 9) σ) ∧ (¬ x1 = 3 → (x1 = 4 → wp_X9_laysBoth g σ a0 (fun r9 σ8 => ((r9 = 0) → Q (-1000000004 : Int32) σ8) ∧ (¬ (r9 = 0) → wp_X9_firstBy g σ8 a0 (3 : Int32) (fun r12 σ11 => ((¬ r12 = (-1 : Int32)) → Q (0 : Int32) σ11) ∧ ((r12 = (-1 : Int32)) → Q (1 : Int32) σ11))))) ∧ (¬ x1 = 4 → Q (-1000000002 : Int32) σ)))))
set_option maxHeartbeats 4000000 in
set_option maxRecDepth 100000 in
theorem ct_X9_told (l : Launch) (D : va_G) (g : tw_G) (hT : tw_T g) (sz : Nat) (σ : tw_S) (a0 : Nat) (h0 : tw_is g 9 a0) (x1 : Int32) (Q : Int32 → tw_S → Prop) (h : wp_X9_told g σ a0 x1 Q) : tw_Mi l yX9_told wsX9_told RM_X9_told D g sz σ [.ref a0, .int x1] Q := by
  refine Met.ofW (cc := cX9_told) (maxL := 2) (ret := (some .int)) (by decide) rfl ?_
  intro p e s m args below meth c s₁ B hml hv
  obtain ⟨rfl, hsz, hP, hK, hD0⟩ := hv
  subst hsz
  have hr := B.returns
  have hlk := B.notSynchronized
  have X : CallFix p m c cX9_told 2 s _ wsX9_told RX9 := ⟨B.exec, B.bytes, hml, findClass_of_methodNamed B.named, atoms_spec (ws := wsX9_told) B.pre⟩
  have w := tw_w0 hP hD0
  have hl := lv_entry ([.ref a0, .int x1]) (n := 2) (Nat.le_of_ble_eq_true rfl)
  rw [lg_entry_eq]
  generalize (lg_sl ([.ref a0, .int x1]) ++ List.replicate (2 - (lg_sl ([.ref a0, .int x1])).length) Slot.unset).toArray = ls at hl ⊢
  have hl : lv_has ls 2 [(0, .ref a0), (1, .int x1)] := hl
  unfold wp_X9_told at h
  refine lv_iload_n X.1 X.2.1 dX9_told_0 rfl (lv_at hl 1 rfl) ?_
  by_cases c1 : x1 = 0
  · have h := h.1 c1
    refine lv_tableIn (off := 35) (tgt := 36) X.1 X.2.1 dX9_told_1 (by rw [c1] <;> decide) (by rw [c1] <;> decide) (by rw [c1] <;> decide) (by decide) ?_
    refine lv_aload_n X.1 X.2.1 dX9_told_36 rfl (lv_at hl 0 rfl) ?_
    refine tw_get X hK w 9 iw_X9_told_9 h0 (by decide) rfl 12 (by decide) (List.mem_of_getElem? (i := 1) rfl) rfl dX9_told_37 ?_
    exact tw_iret X hr hlk w h dX9_told_40
  · have h := h.2 c1
    by_cases c2 : x1 = 1
    · have h := h.1 c2
      refine lv_tableIn (off := 40) (tgt := 41) X.1 X.2.1 dX9_told_1 (by rw [c2] <;> decide) (by rw [c2] <;> decide) (by rw [c2] <;> decide) (by decide) ?_
      refine lv_aload_n X.1 X.2.1 dX9_told_41 rfl (lv_at hl 0 rfl) ?_
      refine tw_ci w (va_runV (As := []) (rest := []) X (ct_X9_numberOf l D g hT _ σ a0 h0 _ h) (cwV 0 X.2.2.2.2 gX9_told_X9_numberOf rfl rfl rfl (by decide +kernel) ⟨Nat.le_of_ble_eq_true rfl, Nat.le_of_ble_eq_true rfl⟩) (tw_preV hK w h0 (by decide) rfl []) rfl rfl hl.1 rfl (lv_room (Nat.le_of_ble_eq_true rfl)) dX9_told_42 ⟨Nat.zero_le _, Nat.zero_le _⟩) (fun r4 σ3 H locs h w => ?_)
      exact tw_iret X hr hlk w h dX9_told_45
    · have h := h.2 c2
      by_cases c5 : x1 = 2
      · have h := h.1 c5
        refine lv_tableIn (off := 45) (tgt := 46) X.1 X.2.1 dX9_told_1 (by rw [c5] <;> decide) (by rw [c5] <;> decide) (by rw [c5] <;> decide) (by decide) ?_
        refine lv_aload_n X.1 X.2.1 dX9_told_46 rfl (lv_at hl 0 rfl) ?_
        refine tw_get X hK w 9 iw_X9_told_9 h0 (by decide) rfl 2 (by decide) (List.mem_of_getElem? (i := 2) rfl) rfl dX9_told_47 ?_
        exact tw_iret X hr hlk w h dX9_told_50
      · have h := h.2 c5
        by_cases c6 : x1 = 3
        · have h := h.1 c6
          refine lv_tableIn (off := 50) (tgt := 51) X.1 X.2.1 dX9_told_1 (by rw [c6] <;> decide) (by rw [c6] <;> decide) (by rw [c6] <;> decide) (by decide) ?_
          refine lv_aload_n X.1 X.2.1 dX9_told_51 rfl (lv_at hl 0 rfl) ?_
          refine tw_get X hK w 9 iw_X9_told_9 h0 (by decide) rfl 9 (by decide) (List.mem_of_getElem? (i := 3) rfl) rfl dX9_told_52 ?_
          exact tw_iret X hr hlk w h dX9_told_55
        · have h := h.2 c6
          by_cases c7 : x1 = 4
          · have h := h.1 c7
            refine lv_tableIn (off := 55) (tgt := 56) X.1 X.2.1 dX9_told_1 (by rw [c7] <;> decide) (by rw [c7] <;> decide) (by rw [c7] <;> decide) (by decide) ?_
            refine lv_aload_n X.1 X.2.1 dX9_told_56 rfl (lv_at hl 0 rfl) ?_
            refine tw_ci w (va_runV (As := []) (rest := []) X (ct_X9_laysBoth l D g hT _ σ a0 h0 _ h) (cwV 0 X.2.2.2.2 gX9_told_X9_laysBoth rfl rfl rfl (by decide +kernel) ⟨Nat.le_of_ble_eq_true rfl, Nat.le_of_ble_eq_true rfl⟩) (tw_preV hK w h0 (by decide) rfl []) rfl rfl hl.1 rfl (lv_room (Nat.le_of_ble_eq_true rfl)) dX9_told_57 ⟨Nat.zero_le _, Nat.zero_le _⟩) (fun r9 σ8 H locs h w => ?_)
            refine lv_if_eq (tgt := 80) X.1 X.2.1 dX9_told_60 (by decide) (fun c10 => ?_) (fun c10 => ?_)
            · have h := h.1 c10
              refine lv_ldc (own := RX9) (v := -1000000004) X.1 X.2.1 X.2.2.2.1 (X.2.2.2.2 _ (List.mem_of_getElem? (i := 4) rfl)) dX9_told_80 ?_
              exact tw_iret X hr hlk w h dX9_told_82
            · have h := h.2 c10
              refine lv_aload_n X.1 X.2.1 dX9_told_63 rfl (lv_at hl 0 rfl) ?_
              refine lv_iconst (v := 3) X.1 X.2.1 dX9_told_64 (by decide) ?_
              refine tw_ci w (va_runV (As := [.int (3 : Int32)]) (rest := []) X (ct_X9_firstBy l D g hT _ σ8 a0 h0 (3 : Int32) _ h) (cwV 1 X.2.2.2.2 gX9_told_X9_firstBy rfl rfl rfl (by decide +kernel) ⟨Nat.le_of_ble_eq_true rfl, Nat.le_of_ble_eq_true rfl⟩) (tw_preV hK w h0 (by decide) rfl [.int (3 : Int32)]) rfl rfl hl.1 rfl (lv_room (Nat.le_of_ble_eq_true rfl)) dX9_told_65 ⟨Nat.zero_le _, Nat.zero_le _⟩) (fun r12 σ11 H locs h w => ?_)
              refine lv_iconst (v := -1) X.1 X.2.1 dX9_told_68 (by decide) ?_
              refine lv_icmp_ne (tgt := 76) X.1 X.2.1 dX9_told_69 (by decide) (fun c13 => ?_) (fun c13 => ?_)
              · have h := h.1 c13
                refine lv_iconst (v := 0) X.1 X.2.1 dX9_told_76 (by decide) ?_
                refine lv_goto (tgt := 82) X.1 X.2.1 dX9_told_77 (by decide) ?_
                exact tw_iret X hr hlk w h dX9_told_82
              · have h := h.2 c13
                refine lv_iconst (v := 1) X.1 X.2.1 dX9_told_72 (by decide) ?_
                refine lv_goto (tgt := 82) X.1 X.2.1 dX9_told_73 (by decide) ?_
                exact tw_iret X hr hlk w h dX9_told_82
          · have h := h.2 c7
            have ec1 := lv_neT (a := 0) c1 rfl
            have ec2 := lv_neT (a := 1) c2 rfl
            have ec5 := lv_neT (a := 2) c5 rfl
            have ec6 := lv_neT (a := 3) c6 rfl
            have ec7 := lv_neT (a := 4) c7 rfl
            refine lv_tableOut (tgt := 83) X.1 X.2.1 dX9_told_1 (by omega) (by decide) ?_
            refine lv_ldc (own := RX9) (v := -1000000002) X.1 X.2.1 X.2.2.2.1 (X.2.2.2.2 _ (List.mem_of_getElem? (i := 5) rfl)) dX9_told_83 ?_
            exact tw_iret X hr hlk w h dX9_told_85

abbrev RM_X9_signAt : Room := { frames := 0, cells := 0, slots := 0, locals := 0 }
theorem iw_X9_signAt_9 : ∀ w ∈ wsX90, w ∈ wsX9_signAt := fun w h => List.mem_cons_of_mem _ (List.mem_append_right _ (h))
def wp_X9_signAt (g : tw_G) (σ : tw_S) (a0 : Nat) (x1 : Int32) (Q : Int32 → tw_S → Prop) : Prop := ((¬ x1 = 0) → ((¬ x1 = ((tw_I σ a0 12) + (1 : Int32))) → vp_in (x1 - (1 : Int32)) 24 ∧ Q (tw_A σ (tw_R g a0 11) (x1 - (1 : Int32)).toNatClampNeg) σ) ∧ ((x1 = ((tw_I σ a0 12) + (1 : Int32))) → Q (3 : Int32) σ)) ∧ ((x1 = 0) → Q (2 : Int32) σ)
set_option maxHeartbeats 4000000 in
set_option maxRecDepth 100000 in
theorem ct_X9_signAt (l : Launch) (D : va_G) (g : tw_G) (hT : tw_T g) (sz : Nat) (σ : tw_S) (a0 : Nat) (h0 : tw_is g 9 a0) (x1 : Int32) (Q : Int32 → tw_S → Prop) (h : wp_X9_signAt g σ a0 x1 Q) : tw_Mi l yX9_signAt wsX9_signAt RM_X9_signAt D g sz σ [.ref a0, .int x1] Q := by
  refine Met.ofW (cc := cX9_signAt) (maxL := 2) (ret := (some .int)) (by decide) rfl ?_
  intro p e s m args below meth c s₁ B hml hv
  obtain ⟨rfl, hsz, hP, hK, hD0⟩ := hv
  subst hsz
  have hr := B.returns
  have hlk := B.notSynchronized
  have X : CallFix p m c cX9_signAt 2 s _ wsX9_signAt RX9 := ⟨B.exec, B.bytes, hml, findClass_of_methodNamed B.named, atoms_spec (ws := wsX9_signAt) B.pre⟩
  have w := tw_w0 hP hD0
  have hl := lv_entry ([.ref a0, .int x1]) (n := 2) (Nat.le_of_ble_eq_true rfl)
  rw [lg_entry_eq]
  generalize (lg_sl ([.ref a0, .int x1]) ++ List.replicate (2 - (lg_sl ([.ref a0, .int x1])).length) Slot.unset).toArray = ls at hl ⊢
  have hl : lv_has ls 2 [(0, .ref a0), (1, .int x1)] := hl
  unfold wp_X9_signAt at h
  refine lv_iload_n X.1 X.2.1 dX9_signAt_0 rfl (lv_at hl 1 rfl) ?_
  refine lv_if_ne (tgt := 8) X.1 X.2.1 dX9_signAt_1 (by decide) (fun c1 => ?_) (fun c1 => ?_)
  · have h := h.1 c1
    refine lv_iload_n X.1 X.2.1 dX9_signAt_8 rfl (lv_at hl 1 rfl) ?_
    refine lv_aload_n X.1 X.2.1 dX9_signAt_9 rfl (lv_at hl 0 rfl) ?_
    refine tw_get X hK w 9 iw_X9_signAt_9 h0 (by decide) rfl 12 (by decide) (List.mem_of_getElem? (i := 1) rfl) rfl dX9_signAt_10 ?_
    refine lv_iconst (v := 1) X.1 X.2.1 dX9_signAt_13 (by decide) ?_
    refine lv_iadd X.1 X.2.1 dX9_signAt_14 ?_
    refine lv_icmp_ne (tgt := 22) X.1 X.2.1 dX9_signAt_15 (by decide) (fun c2 => ?_) (fun c2 => ?_)
    · have h := h.1 c2
      refine lv_aload_n X.1 X.2.1 dX9_signAt_22 rfl (lv_at hl 0 rfl) ?_
      refine tw_get X hK w 9 iw_X9_signAt_9 h0 (by decide) rfl 11 (by decide) (List.mem_of_getElem? (i := 2) rfl) rfl dX9_signAt_23 ?_
      refine lv_iload_n X.1 X.2.1 dX9_signAt_26 rfl (lv_at hl 1 rfl) ?_
      refine lv_iconst (v := 1) X.1 X.2.1 dX9_signAt_27 (by decide) ?_
      refine lv_isub X.1 X.2.1 dX9_signAt_28 ?_
      obtain ⟨hi3, h⟩ := h
      refine tw_iald X hK w (tw_t_9_11 hT h0) (tw_n_9_11 hT h0) hi3 dX9_signAt_29 ?_
      exact tw_iret X hr hlk w h dX9_signAt_30
    · have h := h.2 c2
      refine lv_iconst (v := 3) X.1 X.2.1 dX9_signAt_18 (by decide) ?_
      refine lv_goto (tgt := 30) X.1 X.2.1 dX9_signAt_19 (by decide) ?_
      exact tw_iret X hr hlk w h dX9_signAt_30
  · have h := h.2 c1
    refine lv_iconst (v := 2) X.1 X.2.1 dX9_signAt_4 (by decide) ?_
    refine lv_goto (tgt := 30) X.1 X.2.1 dX9_signAt_5 (by decide) ?_
    exact tw_iret X hr hlk w h dX9_signAt_30

abbrev RM_X9_runs : Room := { frames := 1, cells := 0, slots := 0, locals := 23 }
theorem iw_X9_runs_9 : ∀ w ∈ wsX90, w ∈ wsX9_runs := fun w h => List.mem_cons_of_mem _ (List.mem_append_right _ (h))
def wl_X9_runs_2 (g : tw_G) (a0 : Nat) (x1 : Int32) (Q : tw_S → Prop) (k21 : tw_S → Prop) : Nat → Int32 → tw_S → Prop
  | 0, _, _ => False
  | n + 1, x2, σ => (((26 : Int32) ≤ x2) → k21  σ) ∧ (¬ ((26 : Int32) ≤ x2) → vp_in x2 26 ∧ ∀ σ3, σ3 = (tw_sA σ (tw_R g a0 13) (upd (tw_A σ (tw_R g a0 13)) x2.toNatClampNeg (0 : Int32))) → wl_X9_runs_2 g a0 x1 Q k21 n (x2 + 1) σ3)
def wl_X9_runs_50 (g : tw_G) (a0 : Nat) (x1 : Int32) (Q : tw_S → Prop) (k249 : tw_S → Prop) : Nat → Int32 → tw_S → Prop
  | 0, _, _ => False
  | n + 1, x2, σ => ((¬ (tw_I σ a0 14) = (-1 : Int32)) → k249  σ) ∧ (((tw_I σ a0 14) = (-1 : Int32)) → wp_X9_signAt g σ a0 x2 (fun r12 σ11 => wp_X9_moveAt g σ11 a0 x1 (tw_I σ a0 16) r12 (fun r14 σ13 => ((¬ r14 = (-1 : Int32)) → ((¬ (r14 - r14 / (2 : Int32) * (2 : Int32)) = (1 : Int32)) → ∀ σ17, σ17 = (tw_sI σ13 a0 16 (r14 / (2 : Int32))) → ∀ σ18, σ18 = (tw_sI σ17 a0 15 ((tw_I σ17 a0 15) + (1 : Int32))) → ((0 ≤ (x2 + (-1 : Int32))) → (((x2 + (-1 : Int32)) ≤ ((tw_I σ18 a0 12) + (1 : Int32))) → ∀ σ21, σ21 = (tw_sI σ18 a0 14 (-1 : Int32)) → ((¬ (tw_I σ21 a0 14) = (-1 : Int32)) → wl_X9_runs_50 g a0 x1 Q k249 n x2 σ21) ∧ (((tw_I σ21 a0 14) = (-1 : Int32)) → (((x2 + (-1 : Int32)) ≤ x2) → vp_in (tw_I σ21 a0 19) 128 ∧ ∀ σ25, σ25 = (tw_sA σ21 (tw_R g a0 17) (upd (tw_A σ21 (tw_R g a0 17)) (tw_I σ21 a0 19).toNatClampNeg (x2 + (-1 : Int32)))) → vp_in (tw_I σ25 a0 19) 128 ∧ ∀ σ27, σ27 = (tw_sA σ25 (tw_R g a0 18) (upd (tw_A σ25 (tw_R g a0 18)) (tw_I σ25 a0 19).toNatClampNeg (tw_I σ25 a0 16))) → ∀ σ28, σ28 = (tw_sI σ27 a0 19 ((tw_I σ27 a0 19) + (1 : Int32))) → vp_in (x2 + (-1 : Int32)) 26 ∧ ((¬ (((tw_A σ28 (tw_R g a0 13) (x2 + (-1 : Int32)).toNatClampNeg) >>> ((tw_I σ28 a0 16) &&& 31)) &&& (1 : Int32)) = (1 : Int32)) → ∀ σ31, σ31 = (tw_sI σ28 a0 14 (-1 : Int32)) → vp_in (x2 + (-1 : Int32)) 26 ∧ vp_in (x2 + (-1 : Int32)) 26 ∧ ∀ σ34, σ34 = (tw_sA σ31 (tw_R g a0 13) (upd (tw_A σ31 (tw_R g a0 13)) (x2 + (-1 : Int32)).toNatClampNeg ((tw_A σ31 (tw_R g a0 13) (x2 + (-1 : Int32)).toNatClampNeg) ||| ((1 : Int32) <<< ((tw_I σ31 a0 16) &&& 31))))) → wl_X9_runs_50 g a0 x1 Q k249 n (x2 + (-1 : Int32)) σ34) ∧ (((((tw_A σ28 (tw_R g a0 13) (x2 + (-1 : Int32)).toNatClampNeg) >>> ((tw_I σ28 a0 16) &&& 31)) &&& (1 : Int32)) = (1 : Int32)) → ∀ σ35, σ35 = (tw_sI σ28 a0 14 (3 : Int32)) → vp_in (x2 + (-1 : Int32)) 26 ∧ vp_in (x2 + (-1 : Int32)) 26 ∧ ∀ σ38, σ38 = (tw_sA σ35 (tw_R g a0 13) (upd (tw_A σ35 (tw_R g a0 13)) (x2 + (-1 : Int32)).toNatClampNeg ((tw_A σ35 (tw_R g a0 13) (x2 + (-1 : Int32)).toNatClampNeg) ||| ((1 : Int32) <<< ((tw_I σ35 a0 16) &&& 31))))) → wl_X9_runs_50 g a0 x1 Q k249 n (x2 + (-1 : Int32)) σ38)) ∧ (¬ ((x2 + (-1 : Int32)) ≤ x2) → vp_in (tw_I σ21 a0 19) 128 ∧ ∀ σ40, σ40 = (tw_sA σ21 (tw_R g a0 17) (upd (tw_A σ21 (tw_R g a0 17)) (tw_I σ21 a0 19).toNatClampNeg x2)) → vp_in (tw_I σ40 a0 19) 128 ∧ ∀ σ42, σ42 = (tw_sA σ40 (tw_R g a0 18) (upd (tw_A σ40 (tw_R g a0 18)) (tw_I σ40 a0 19).toNatClampNeg (tw_I σ40 a0 16))) → ∀ σ43, σ43 = (tw_sI σ42 a0 19 ((tw_I σ42 a0 19) + (1 : Int32))) → vp_in (x2 + (-1 : Int32)) 26 ∧ ((¬ (((tw_A σ43 (tw_R g a0 13) (x2 + (-1 : Int32)).toNatClampNeg) >>> ((tw_I σ43 a0 16) &&& 31)) &&& (1 : Int32)) = (1 : Int32)) → ∀ σ46, σ46 = (tw_sI σ43 a0 14 (-1 : Int32)) → vp_in (x2 + (-1 : Int32)) 26 ∧ vp_in (x2 + (-1 : Int32)) 26 ∧ ∀ σ49, σ49 = (tw_sA σ46 (tw_R g a0 13) (upd (tw_A σ46 (tw_R g a0 13)) (x2 + (-1 : Int32)).toNatClampNeg ((tw_A σ46 (tw_R g a0 13) (x2 + (-1 : Int32)).toNatClampNeg) ||| ((1 : Int32) <<< ((tw_I σ46 a0 16) &&& 31))))) → wl_X9_runs_50 g a0 x1 Q k249 n (x2 + (-1 : Int32)) σ49) ∧ (((((tw_A σ43 (tw_R g a0 13) (x2 + (-1 : Int32)).toNatClampNeg) >>> ((tw_I σ43 a0 16) &&& 31)) &&& (1 : Int32)) = (1 : Int32)) → ∀ σ50, σ50 = (tw_sI σ43 a0 14 (3 : Int32)) → vp_in (x2 + (-1 : Int32)) 26 ∧ vp_in (x2 + (-1 : Int32)) 26 ∧ ∀ σ53, σ53 = (tw_sA σ50 (tw_R g a0 13) (upd (tw_A σ50 (tw_R g a0 13)) (x2 + (-1 : Int32)).toNatClampNeg ((tw_A σ50 (tw_R g a0 13) (x2 + (-1 : Int32)).toNatClampNeg) ||| ((1 : Int32) <<< ((tw_I σ50 a0 16) &&& 31))))) → wl_X9_runs_50 g a0 x1 Q k249 n (x2 + (-1 : Int32)) σ53)))) ∧ (¬ ((x2 + (-1 : Int32)) ≤ ((tw_I σ18 a0 12) + (1 : Int32))) → ∀ σ54, σ54 = (tw_sI σ18 a0 14 (0 : Int32)) → ((¬ (tw_I σ54 a0 14) = (-1 : Int32)) → wl_X9_runs_50 g a0 x1 Q k249 n x2 σ54) ∧ (((tw_I σ54 a0 14) = (-1 : Int32)) → (((x2 + (-1 : Int32)) ≤ x2) → vp_in (tw_I σ54 a0 19) 128 ∧ ∀ σ58, σ58 = (tw_sA σ54 (tw_R g a0 17) (upd (tw_A σ54 (tw_R g a0 17)) (tw_I σ54 a0 19).toNatClampNeg (x2 + (-1 : Int32)))) → vp_in (tw_I σ58 a0 19) 128 ∧ ∀ σ60, σ60 = (tw_sA σ58 (tw_R g a0 18) (upd (tw_A σ58 (tw_R g a0 18)) (tw_I σ58 a0 19).toNatClampNeg (tw_I σ58 a0 16))) → ∀ σ61, σ61 = (tw_sI σ60 a0 19 ((tw_I σ60 a0 19) + (1 : Int32))) → vp_in (x2 + (-1 : Int32)) 26 ∧ ((¬ (((tw_A σ61 (tw_R g a0 13) (x2 + (-1 : Int32)).toNatClampNeg) >>> ((tw_I σ61 a0 16) &&& 31)) &&& (1 : Int32)) = (1 : Int32)) → ∀ σ64, σ64 = (tw_sI σ61 a0 14 (-1 : Int32)) → vp_in (x2 + (-1 : Int32)) 26 ∧ vp_in (x2 + (-1 : Int32)) 26 ∧ ∀ σ67, σ67 = (tw_sA σ64 (tw_R g a0 13) (upd (tw_A σ64 (tw_R g a0 13)) (x2 + (-1 : Int32)).toNatClampNeg ((tw_A σ64 (tw_R g a0 13) (x2 + (-1 : Int32)).toNatClampNeg) ||| ((1 : Int32) <<< ((tw_I σ64 a0 16) &&& 31))))) → wl_X9_runs_50 g a0 x1 Q k249 n (x2 + (-1 : Int32)) σ67) ∧ (((((tw_A σ61 (tw_R g a0 13) (x2 + (-1 : Int32)).toNatClampNeg) >>> ((tw_I σ61 a0 16) &&& 31)) &&& (1 : Int32)) = (1 : Int32)) → ∀ σ68, σ68 = (tw_sI σ61 a0 14 (3 : Int32)) → vp_in (x2 + (-1 : Int32)) 26 ∧ vp_in (x2 + (-1 : Int32)) 26 ∧ ∀ σ71, σ71 = (tw_sA σ68 (tw_R g a0 13) (upd (tw_A σ68 (tw_R g a0 13)) (x2 + (-1 : Int32)).toNatClampNeg ((tw_A σ68 (tw_R g a0 13) (x2 + (-1 : Int32)).toNatClampNeg) ||| ((1 : Int32) <<< ((tw_I σ68 a0 16) &&& 31))))) → wl_X9_runs_50 g a0 x1 Q k249 n (x2 + (-1 : Int32)) σ71)) ∧ (¬ ((x2 + (-1 : Int32)) ≤ x2) → vp_in (tw_I σ54 a0 19) 128 ∧ ∀ σ73, σ73 = (tw_sA σ54 (tw_R g a0 17) (upd (tw_A σ54 (tw_R g a0 17)) (tw_I σ54 a0 19).toNatClampNeg x2)) → vp_in (tw_I σ73 a0 19) 128 ∧ ∀ σ75, σ75 = (tw_sA σ73 (tw_R g a0 18) (upd (tw_A σ73 (tw_R g a0 18)) (tw_I σ73 a0 19).toNatClampNeg (tw_I σ73 a0 16))) → ∀ σ76, σ76 = (tw_sI σ75 a0 19 ((tw_I σ75 a0 19) + (1 : Int32))) → vp_in (x2 + (-1 : Int32)) 26 ∧ ((¬ (((tw_A σ76 (tw_R g a0 13) (x2 + (-1 : Int32)).toNatClampNeg) >>> ((tw_I σ76 a0 16) &&& 31)) &&& (1 : Int32)) = (1 : Int32)) → ∀ σ79, σ79 = (tw_sI σ76 a0 14 (-1 : Int32)) → vp_in (x2 + (-1 : Int32)) 26 ∧ vp_in (x2 + (-1 : Int32)) 26 ∧ ∀ σ82, σ82 = (tw_sA σ79 (tw_R g a0 13) (upd (tw_A σ79 (tw_R g a0 13)) (x2 + (-1 : Int32)).toNatClampNeg ((tw_A σ79 (tw_R g a0 13) (x2 + (-1 : Int32)).toNatClampNeg) ||| ((1 : Int32) <<< ((tw_I σ79 a0 16) &&& 31))))) → wl_X9_runs_50 g a0 x1 Q k249 n (x2 + (-1 : Int32)) σ82) ∧ (((((tw_A σ76 (tw_R g a0 13) (x2 + (-1 : Int32)).toNatClampNeg) >>> ((tw_I σ76 a0 16) &&& 31)) &&& (1 : Int32)) = (1 : Int32)) → ∀ σ83, σ83 = (tw_sI σ76 a0 14 (3 : Int32)) → vp_in (x2 + (-1 : Int32)) 26 ∧ vp_in (x2 + (-1 : Int32)) 26 ∧ ∀ σ86, σ86 = (tw_sA σ83 (tw_R g a0 13) (upd (tw_A σ83 (tw_R g a0 13)) (x2 + (-1 : Int32)).toNatClampNeg ((tw_A σ83 (tw_R g a0 13) (x2 + (-1 : Int32)).toNatClampNeg) ||| ((1 : Int32) <<< ((tw_I σ83 a0 16) &&& 31))))) → wl_X9_runs_50 g a0 x1 Q k249 n (x2 + (-1 : Int32)) σ86))))) ∧ (¬ (0 ≤ (x2 + (-1 : Int32))) → ∀ σ87, σ87 = (tw_sI σ18 a0 14 (2 : Int32)) → ((¬ (tw_I σ87 a0 14) = (-1 : Int32)) → wl_X9_runs_50 g a0 x1 Q k249 n x2 σ87) ∧ (((tw_I σ87 a0 14) = (-1 : Int32)) → (((x2 + (-1 : Int32)) ≤ x2) → vp_in (tw_I σ87 a0 19) 128 ∧ ∀ σ91, σ91 = (tw_sA σ87 (tw_R g a0 17) (upd (tw_A σ87 (tw_R g a0 17)) (tw_I σ87 a0 19).toNatClampNeg (x2 + (-1 : Int32)))) → vp_in (tw_I σ91 a0 19) 128 ∧ ∀ σ93, σ93 = (tw_sA σ91 (tw_R g a0 18) (upd (tw_A σ91 (tw_R g a0 18)) (tw_I σ91 a0 19).toNatClampNeg (tw_I σ91 a0 16))) → ∀ σ94, σ94 = (tw_sI σ93 a0 19 ((tw_I σ93 a0 19) + (1 : Int32))) → vp_in (x2 + (-1 : Int32)) 26 ∧ ((¬ (((tw_A σ94 (tw_R g a0 13) (x2 + (-1 : Int32)).toNatClampNeg) >>> ((tw_I σ94 a0 16) &&& 31)) &&& (1 : Int32)) = (1 : Int32)) → ∀ σ97, σ97 = (tw_sI σ94 a0 14 (-1 : Int32)) → vp_in (x2 + (-1 : Int32)) 26 ∧ vp_in (x2 + (-1 : Int32)) 26 ∧ ∀ σ100, σ100 = (tw_sA σ97 (tw_R g a0 13) (upd (tw_A σ97 (tw_R g a0 13)) (x2 + (-1 : Int32)).toNatClampNeg ((tw_A σ97 (tw_R g a0 13) (x2 + (-1 : Int32)).toNatClampNeg) ||| ((1 : Int32) <<< ((tw_I σ97 a0 16) &&& 31))))) → wl_X9_runs_50 g a0 x1 Q k249 n (x2 + (-1 : Int32)) σ100) ∧ (((((tw_A σ94 (tw_R g a0 13) (x2 + (-1 : Int32)).toNatClampNeg) >>> ((tw_I σ94 a0 16) &&& 31)) &&& (1 : Int32)) = (1 : Int32)) → ∀ σ101, σ101 = (tw_sI σ94 a0 14 (3 : Int32)) → vp_in (x2 + (-1 : Int32)) 26 ∧ vp_in (x2 + (-1 : Int32)) 26 ∧ ∀ σ104, σ104 = (tw_sA σ101 (tw_R g a0 13) (upd (tw_A σ101 (tw_R g a0 13)) (x2 + (-1 : Int32)).toNatClampNeg ((tw_A σ101 (tw_R g a0 13) (x2 + (-1 : Int32)).toNatClampNeg) ||| ((1 : Int32) <<< ((tw_I σ101 a0 16) &&& 31))))) → wl_X9_runs_50 g a0 x1 Q k249 n (x2 + (-1 : Int32)) σ104)) ∧ (¬ ((x2 + (-1 : Int32)) ≤ x2) → vp_in (tw_I σ87 a0 19) 128 ∧ ∀ σ106, σ106 = (tw_sA σ87 (tw_R g a0 17) (upd (tw_A σ87 (tw_R g a0 17)) (tw_I σ87 a0 19).toNatClampNeg x2)) → vp_in (tw_I σ106 a0 19) 128 ∧ ∀ σ108, σ108 = (tw_sA σ106 (tw_R g a0 18) (upd (tw_A σ106 (tw_R g a0 18)) (tw_I σ106 a0 19).toNatClampNeg (tw_I σ106 a0 16))) → ∀ σ109, σ109 = (tw_sI σ108 a0 19 ((tw_I σ108 a0 19) + (1 : Int32))) → vp_in (x2 + (-1 : Int32)) 26 ∧ ((¬ (((tw_A σ109 (tw_R g a0 13) (x2 + (-1 : Int32)).toNatClampNeg) >>> ((tw_I σ109 a0 16) &&& 31)) &&& (1 : Int32)) = (1 : Int32)) → ∀ σ112, σ112 = (tw_sI σ109 a0 14 (-1 : Int32)) → vp_in (x2 + (-1 : Int32)) 26 ∧ vp_in (x2 + (-1 : Int32)) 26 ∧ ∀ σ115, σ115 = (tw_sA σ112 (tw_R g a0 13) (upd (tw_A σ112 (tw_R g a0 13)) (x2 + (-1 : Int32)).toNatClampNeg ((tw_A σ112 (tw_R g a0 13) (x2 + (-1 : Int32)).toNatClampNeg) ||| ((1 : Int32) <<< ((tw_I σ112 a0 16) &&& 31))))) → wl_X9_runs_50 g a0 x1 Q k249 n (x2 + (-1 : Int32)) σ115) ∧ (((((tw_A σ109 (tw_R g a0 13) (x2 + (-1 : Int32)).toNatClampNeg) >>> ((tw_I σ109 a0 16) &&& 31)) &&& (1 : Int32)) = (1 : Int32)) → ∀ σ116, σ116 = (tw_sI σ109 a0 14 (3 : Int32)) → vp_in (x2 + (-1 : Int32)) 26 ∧ vp_in (x2 + (-1 : Int32)) 26 ∧ ∀ σ119, σ119 = (tw_sA σ116 (tw_R g a0 13) (upd (tw_A σ116 (tw_R g a0 13)) (x2 + (-1 : Int32)).toNatClampNeg ((tw_A σ116 (tw_R g a0 13) (x2 + (-1 : Int32)).toNatClampNeg) ||| ((1 : Int32) <<< ((tw_I σ116 a0 16) &&& 31))))) → wl_X9_runs_50 g a0 x1 Q k249 n (x2 + (-1 : Int32)) σ119))))) ∧ (((r14 - r14 / (2 : Int32) * (2 : Int32)) = (1 : Int32)) → ∀ σ120, σ120 = (tw_sI σ13 a0 16 (r14 / (2 : Int32))) → ∀ σ121, σ121 = (tw_sI σ120 a0 15 ((tw_I σ120 a0 15) + (1 : Int32))) → ((0 ≤ (x2 + (1 : Int32))) → (((x2 + (1 : Int32)) ≤ ((tw_I σ121 a0 12) + (1 : Int32))) → ∀ σ124, σ124 = (tw_sI σ121 a0 14 (-1 : Int32)) → ((¬ (tw_I σ124 a0 14) = (-1 : Int32)) → wl_X9_runs_50 g a0 x1 Q k249 n x2 σ124) ∧ (((tw_I σ124 a0 14) = (-1 : Int32)) → (((x2 + (1 : Int32)) ≤ x2) → vp_in (tw_I σ124 a0 19) 128 ∧ ∀ σ128, σ128 = (tw_sA σ124 (tw_R g a0 17) (upd (tw_A σ124 (tw_R g a0 17)) (tw_I σ124 a0 19).toNatClampNeg (x2 + (1 : Int32)))) → vp_in (tw_I σ128 a0 19) 128 ∧ ∀ σ130, σ130 = (tw_sA σ128 (tw_R g a0 18) (upd (tw_A σ128 (tw_R g a0 18)) (tw_I σ128 a0 19).toNatClampNeg (tw_I σ128 a0 16))) → ∀ σ131, σ131 = (tw_sI σ130 a0 19 ((tw_I σ130 a0 19) + (1 : Int32))) → vp_in (x2 + (1 : Int32)) 26 ∧ ((¬ (((tw_A σ131 (tw_R g a0 13) (x2 + (1 : Int32)).toNatClampNeg) >>> ((tw_I σ131 a0 16) &&& 31)) &&& (1 : Int32)) = (1 : Int32)) → ∀ σ134, σ134 = (tw_sI σ131 a0 14 (-1 : Int32)) → vp_in (x2 + (1 : Int32)) 26 ∧ vp_in (x2 + (1 : Int32)) 26 ∧ ∀ σ137, σ137 = (tw_sA σ134 (tw_R g a0 13) (upd (tw_A σ134 (tw_R g a0 13)) (x2 + (1 : Int32)).toNatClampNeg ((tw_A σ134 (tw_R g a0 13) (x2 + (1 : Int32)).toNatClampNeg) ||| ((1 : Int32) <<< ((tw_I σ134 a0 16) &&& 31))))) → wl_X9_runs_50 g a0 x1 Q k249 n (x2 + (1 : Int32)) σ137) ∧ (((((tw_A σ131 (tw_R g a0 13) (x2 + (1 : Int32)).toNatClampNeg) >>> ((tw_I σ131 a0 16) &&& 31)) &&& (1 : Int32)) = (1 : Int32)) → ∀ σ138, σ138 = (tw_sI σ131 a0 14 (3 : Int32)) → vp_in (x2 + (1 : Int32)) 26 ∧ vp_in (x2 + (1 : Int32)) 26 ∧ ∀ σ141, σ141 = (tw_sA σ138 (tw_R g a0 13) (upd (tw_A σ138 (tw_R g a0 13)) (x2 + (1 : Int32)).toNatClampNeg ((tw_A σ138 (tw_R g a0 13) (x2 + (1 : Int32)).toNatClampNeg) ||| ((1 : Int32) <<< ((tw_I σ138 a0 16) &&& 31))))) → wl_X9_runs_50 g a0 x1 Q k249 n (x2 + (1 : Int32)) σ141)) ∧ (¬ ((x2 + (1 : Int32)) ≤ x2) → vp_in (tw_I σ124 a0 19) 128 ∧ ∀ σ143, σ143 = (tw_sA σ124 (tw_R g a0 17) (upd (tw_A σ124 (tw_R g a0 17)) (tw_I σ124 a0 19).toNatClampNeg x2)) → vp_in (tw_I σ143 a0 19) 128 ∧ ∀ σ145, σ145 = (tw_sA σ143 (tw_R g a0 18) (upd (tw_A σ143 (tw_R g a0 18)) (tw_I σ143 a0 19).toNatClampNeg (tw_I σ143 a0 16))) → ∀ σ146, σ146 = (tw_sI σ145 a0 19 ((tw_I σ145 a0 19) + (1 : Int32))) → vp_in (x2 + (1 : Int32)) 26 ∧ ((¬ (((tw_A σ146 (tw_R g a0 13) (x2 + (1 : Int32)).toNatClampNeg) >>> ((tw_I σ146 a0 16) &&& 31)) &&& (1 : Int32)) = (1 : Int32)) → ∀ σ149, σ149 = (tw_sI σ146 a0 14 (-1 : Int32)) → vp_in (x2 + (1 : Int32)) 26 ∧ vp_in (x2 + (1 : Int32)) 26 ∧ ∀ σ152, σ152 = (tw_sA σ149 (tw_R g a0 13) (upd (tw_A σ149 (tw_R g a0 13)) (x2 + (1 : Int32)).toNatClampNeg ((tw_A σ149 (tw_R g a0 13) (x2 + (1 : Int32)).toNatClampNeg) ||| ((1 : Int32) <<< ((tw_I σ149 a0 16) &&& 31))))) → wl_X9_runs_50 g a0 x1 Q k249 n (x2 + (1 : Int32)) σ152) ∧ (((((tw_A σ146 (tw_R g a0 13) (x2 + (1 : Int32)).toNatClampNeg) >>> ((tw_I σ146 a0 16) &&& 31)) &&& (1 : Int32)) = (1 : Int32)) → ∀ σ153, σ153 = (tw_sI σ146 a0 14 (3 : Int32)) → vp_in (x2 + (1 : Int32)) 26 ∧ vp_in (x2 + (1 : Int32)) 26 ∧ ∀ σ156, σ156 = (tw_sA σ153 (tw_R g a0 13) (upd (tw_A σ153 (tw_R g a0 13)) (x2 + (1 : Int32)).toNatClampNeg ((tw_A σ153 (tw_R g a0 13) (x2 + (1 : Int32)).toNatClampNeg) ||| ((1 : Int32) <<< ((tw_I σ153 a0 16) &&& 31))))) → wl_X9_runs_50 g a0 x1 Q k249 n (x2 + (1 : Int32)) σ156)))) ∧ (¬ ((x2 + (1 : Int32)) ≤ ((tw_I σ121 a0 12) + (1 : Int32))) → ∀ σ157, σ157 = (tw_sI σ121 a0 14 (0 : Int32)) → ((¬ (tw_I σ157 a0 14) = (-1 : Int32)) → wl_X9_runs_50 g a0 x1 Q k249 n x2 σ157) ∧ (((tw_I σ157 a0 14) = (-1 : Int32)) → (((x2 + (1 : Int32)) ≤ x2) → vp_in (tw_I σ157 a0 19) 128 ∧ ∀ σ161, σ161 = (tw_sA σ157 (tw_R g a0 17) (upd (tw_A σ157 (tw_R g a0 17)) (tw_I σ157 a0 19).toNatClampNeg (x2 + (1 : Int32)))) → vp_in (tw_I σ161 a0 19) 128 ∧ ∀ σ163, σ163 = (tw_sA σ161 (tw_R g a0 18) (upd (tw_A σ161 (tw_R g a0 18)) (tw_I σ161 a0 19).toNatClampNeg (tw_I σ161 a0 16))) → ∀ σ164, σ164 = (tw_sI σ163 a0 19 ((tw_I σ163 a0 19) + (1 : Int32))) → vp_in (x2 + (1 : Int32)) 26 ∧ ((¬ (((tw_A σ164 (tw_R g a0 13) (x2 + (1 : Int32)).toNatClampNeg) >>> ((tw_I σ164 a0 16) &&& 31)) &&& (1 : Int32)) = (1 : Int32)) → ∀ σ167, σ167 = (tw_sI σ164 a0 14 (-1 : Int32)) → vp_in (x2 + (1 : Int32)) 26 ∧ vp_in (x2 + (1 : Int32)) 26 ∧ ∀ σ170, σ170 = (tw_sA σ167 (tw_R g a0 13) (upd (tw_A σ167 (tw_R g a0 13)) (x2 + (1 : Int32)).toNatClampNeg ((tw_A σ167 (tw_R g a0 13) (x2 + (1 : Int32)).toNatClampNeg) ||| ((1 : Int32) <<< ((tw_I σ167 a0 16) &&& 31))))) → wl_X9_runs_50 g a0 x1 Q k249 n (x2 + (1 : Int32)) σ170) ∧ (((((tw_A σ164 (tw_R g a0 13) (x2 + (1 : Int32)).toNatClampNeg) >>> ((tw_I σ164 a0 16) &&& 31)) &&& (1 : Int32)) = (1 : Int32)) → ∀ σ171, σ171 = (tw_sI σ164 a0 14 (3 : Int32)) → vp_in (x2 + (1 : Int32)) 26 ∧ vp_in (x2 + (1 : Int32)) 26 ∧ ∀ σ174, σ174 = (tw_sA σ171 (tw_R g a0 13) (upd (tw_A σ171 (tw_R g a0 13)) (x2 + (1 : Int32)).toNatClampNeg ((tw_A σ171 (tw_R g a0 13) (x2 + (1 : Int32)).toNatClampNeg) ||| ((1 : Int32) <<< ((tw_I σ171 a0 16) &&& 31))))) → wl_X9_runs_50 g a0 x1 Q k249 n (x2 + (1 : Int32)) σ174)) ∧ (¬ ((x2 + (1 : Int32)) ≤ x2) → vp_in (tw_I σ157 a0 19) 128 ∧ ∀ σ176, σ176 = (tw_sA σ157 (tw_R g a0 17) (upd (tw_A σ157 (tw_R g a0 17)) (tw_I σ157 a0 19).toNatClampNeg x2)) → vp_in (tw_I σ176 a0 19) 128 ∧ ∀ σ178, σ178 = (tw_sA σ176 (tw_R g a0 18) (upd (tw_A σ176 (tw_R g a0 18)) (tw_I σ176 a0 19).toNatClampNeg (tw_I σ176 a0 16))) → ∀ σ179, σ179 = (tw_sI σ178 a0 19 ((tw_I σ178 a0 19) + (1 : Int32))) → vp_in (x2 + (1 : Int32)) 26 ∧ ((¬ (((tw_A σ179 (tw_R g a0 13) (x2 + (1 : Int32)).toNatClampNeg) >>> ((tw_I σ179 a0 16) &&& 31)) &&& (1 : Int32)) = (1 : Int32)) → ∀ σ182, σ182 = (tw_sI σ179 a0 14 (-1 : Int32)) → vp_in (x2 + (1 : Int32)) 26 ∧ vp_in (x2 + (1 : Int32)) 26 ∧ ∀ σ185, σ185 = (tw_sA σ182 (tw_R g a0 13) (upd (tw_A σ182 (tw_R g a0 13)) (x2 + (1 : Int32)).toNatClampNeg ((tw_A σ182 (tw_R g a0 13) (x2 + (1 : Int32)).toNatClampNeg) ||| ((1 : Int32) <<< ((tw_I σ182 a0 16) &&& 31))))) → wl_X9_runs_50 g a0 x1 Q k249 n (x2 + (1 : Int32)) σ185) ∧ (((((tw_A σ179 (tw_R g a0 13) (x2 + (1 : Int32)).toNatClampNeg) >>> ((tw_I σ179 a0 16) &&& 31)) &&& (1 : Int32)) = (1 : Int32)) → ∀ σ186, σ186 = (tw_sI σ179 a0 14 (3 : Int32)) → vp_in (x2 + (1 : Int32)) 26 ∧ vp_in (x2 + (1 : Int32)) 26 ∧ ∀ σ189, σ189 = (tw_sA σ186 (tw_R g a0 13) (upd (tw_A σ186 (tw_R g a0 13)) (x2 + (1 : Int32)).toNatClampNeg ((tw_A σ186 (tw_R g a0 13) (x2 + (1 : Int32)).toNatClampNeg) ||| ((1 : Int32) <<< ((tw_I σ186 a0 16) &&& 31))))) → wl_X9_runs_50 g a0 x1 Q k249 n (x2 + (1 : Int32)) σ189))))) ∧ (¬ (0 ≤ (x2 + (1 : Int32))) → ∀ σ190, σ190 = (tw_sI σ121 a0 14 (2 : Int32)) → ((¬ (tw_I σ190 a0 14) = (-1 : Int32)) → wl_X9_runs_50 g a0 x1 Q k249 n x2 σ190) ∧ (((tw_I σ190 a0 14) = (-1 : Int32)) → (((x2 + (1 : Int32)) ≤ x2) → vp_in (tw_I σ190 a0 19) 128 ∧ ∀ σ194, σ194 = (tw_sA σ190 (tw_R g a0 17) (upd (tw_A σ190 (tw_R g a0 17)) (tw_I σ190 a0 19).toNatClampNeg (x2 + (1 : Int32)))) → vp_in (tw_I σ194 a0 19) 128 ∧ ∀ σ196, σ196 = (tw_sA σ194 (tw_R g a0 18) (upd (tw_A σ194 (tw_R g a0 18)) (tw_I σ194 a0 19).toNatClampNeg (tw_I σ194 a0 16))) → ∀ σ197, σ197 = (tw_sI σ196 a0 19 ((tw_I σ196 a0 19) + (1 : Int32))) → vp_in (x2 + (1 : Int32)) 26 ∧ ((¬ (((tw_A σ197 (tw_R g a0 13) (x2 + (1 : Int32)).toNatClampNeg) >>> ((tw_I σ197 a0 16) &&& 31)) &&& (1 : Int32)) = (1 : Int32)) → ∀ σ200, σ200 = (tw_sI σ197 a0 14 (-1 : Int32)) → vp_in (x2 + (1 : Int32)) 26 ∧ vp_in (x2 + (1 : Int32)) 26 ∧ ∀ σ203, σ203 = (tw_sA σ200 (tw_R g a0 13) (upd (tw_A σ200 (tw_R g a0 13)) (x2 + (1 : Int32)).toNatClampNeg ((tw_A σ200 (tw_R g a0 13) (x2 + (1 : Int32)).toNatClampNeg) ||| ((1 : Int32) <<< ((tw_I σ200 a0 16) &&& 31))))) → wl_X9_runs_50 g a0 x1 Q k249 n (x2 + (1 : Int32)) σ203) ∧ (((((tw_A σ197 (tw_R g a0 13) (x2 + (1 : Int32)).toNatClampNeg) >>> ((tw_I σ197 a0 16) &&& 31)) &&& (1 : Int32)) = (1 : Int32)) → ∀ σ204, σ204 = (tw_sI σ197 a0 14 (3 : Int32)) → vp_in (x2 + (1 : Int32)) 26 ∧ vp_in (x2 + (1 : Int32)) 26 ∧ ∀ σ207, σ207 = (tw_sA σ204 (tw_R g a0 13) (upd (tw_A σ204 (tw_R g a0 13)) (x2 + (1 : Int32)).toNatClampNeg ((tw_A σ204 (tw_R g a0 13) (x2 + (1 : Int32)).toNatClampNeg) ||| ((1 : Int32) <<< ((tw_I σ204 a0 16) &&& 31))))) → wl_X9_runs_50 g a0 x1 Q k249 n (x2 + (1 : Int32)) σ207)) ∧ (¬ ((x2 + (1 : Int32)) ≤ x2) → vp_in (tw_I σ190 a0 19) 128 ∧ ∀ σ209, σ209 = (tw_sA σ190 (tw_R g a0 17) (upd (tw_A σ190 (tw_R g a0 17)) (tw_I σ190 a0 19).toNatClampNeg x2)) → vp_in (tw_I σ209 a0 19) 128 ∧ ∀ σ211, σ211 = (tw_sA σ209 (tw_R g a0 18) (upd (tw_A σ209 (tw_R g a0 18)) (tw_I σ209 a0 19).toNatClampNeg (tw_I σ209 a0 16))) → ∀ σ212, σ212 = (tw_sI σ211 a0 19 ((tw_I σ211 a0 19) + (1 : Int32))) → vp_in (x2 + (1 : Int32)) 26 ∧ ((¬ (((tw_A σ212 (tw_R g a0 13) (x2 + (1 : Int32)).toNatClampNeg) >>> ((tw_I σ212 a0 16) &&& 31)) &&& (1 : Int32)) = (1 : Int32)) → ∀ σ215, σ215 = (tw_sI σ212 a0 14 (-1 : Int32)) → vp_in (x2 + (1 : Int32)) 26 ∧ vp_in (x2 + (1 : Int32)) 26 ∧ ∀ σ218, σ218 = (tw_sA σ215 (tw_R g a0 13) (upd (tw_A σ215 (tw_R g a0 13)) (x2 + (1 : Int32)).toNatClampNeg ((tw_A σ215 (tw_R g a0 13) (x2 + (1 : Int32)).toNatClampNeg) ||| ((1 : Int32) <<< ((tw_I σ215 a0 16) &&& 31))))) → wl_X9_runs_50 g a0 x1 Q k249 n (x2 + (1 : Int32)) σ218) ∧ (((((tw_A σ212 (tw_R g a0 13) (x2 + (1 : Int32)).toNatClampNeg) >>> ((tw_I σ212 a0 16) &&& 31)) &&& (1 : Int32)) = (1 : Int32)) → ∀ σ219, σ219 = (tw_sI σ212 a0 14 (3 : Int32)) → vp_in (x2 + (1 : Int32)) 26 ∧ vp_in (x2 + (1 : Int32)) 26 ∧ ∀ σ222, σ222 = (tw_sA σ219 (tw_R g a0 13) (upd (tw_A σ219 (tw_R g a0 13)) (x2 + (1 : Int32)).toNatClampNeg ((tw_A σ219 (tw_R g a0 13) (x2 + (1 : Int32)).toNatClampNeg) ||| ((1 : Int32) <<< ((tw_I σ219 a0 16) &&& 31))))) → wl_X9_runs_50 g a0 x1 Q k249 n (x2 + (1 : Int32)) σ222)))))) ∧ ((r14 = (-1 : Int32)) → ∀ σ223, σ223 = (tw_sI σ13 a0 14 (1 : Int32)) → wl_X9_runs_50 g a0 x1 Q k249 n x2 σ223))))
def wp_X9_runs (g : tw_G) (σ : tw_S) (a0 : Nat) (x1 : Int32) (Q : tw_S → Prop) : Prop := ∃ n2, wl_X9_runs_2 g a0 x1 Q (fun σ4 => ∀ σ5, σ5 = (tw_sI σ4 a0 15 (0 : Int32)) → ∀ σ6, σ6 = (tw_sI σ5 a0 19 (0 : Int32)) → ∀ σ7, σ7 = (tw_sI σ6 a0 16 (0 : Int32)) → ∀ σ8, σ8 = (tw_sI σ7 a0 14 (-1 : Int32)) → ∀ σ9, σ9 = (tw_sA σ8 (tw_R g a0 13) (upd (tw_A σ8 (tw_R g a0 13)) (0 : Int32).toNatClampNeg (1 : Int32))) → ∃ n50, wl_X9_runs_50 g a0 x1 Q (fun σ224 => Q σ224) n50 (0 : Int32) σ9) n2 (0 : Int32) σ
set_option maxHeartbeats 4000000 in
set_option maxRecDepth 100000 in
theorem lp_X9_runs_2 {p : Program} {l : Launch} {e : Env} {s : State} {m : MethodId} {args : Array Value} {below : List Frame} {meth : Method} {c : Code} {D : va_G} {g : tw_G} (X : CallFix p m c cX9_runs 5 s args wsX9_runs RX9) (hr : meth.sig.returnType = none) (hlk : meth.locks = false) (hK : tw_k D g s) (hT : tw_T g) {a0 : Nat} {x1 : Int32} (h0 : tw_is g 9 a0) {Q : tw_S → Prop} {k21 : tw_S → Prop}
    (hk21 : ∀  (σ : tw_S) (H : Heap) (locs : List Loc) (ls : Array Slot), k21  σ → tw_w D g (tw_F g s.heap.size) s σ H locs → lv_has ls 5 [(0, .ref a0), (1, .int x1)] → W p l e RM_X9_runs s m args below meth c H locs 0 0 (tw_Qv Q D g below args s) (F0 m 21 ls []))
    : ∀ (n : Nat) (x2 : Int32) (σ : tw_S) (H : Heap) (locs : List Loc) (ls : Array Slot), wl_X9_runs_2 g a0 x1 Q k21 n x2 σ → tw_w D g (tw_F g s.heap.size) s σ H locs → lv_has ls 5 [(0, .ref a0), (1, .int x1), (2, .int x2)] → W p l e RM_X9_runs s m args below meth c H locs 0 0 (tw_Qv Q D g below args s) (F0 m 2 ls []) := by
  intro n
  induction n with
  | zero =>
    intro x2 σ H locs ls h w hl
    exact False.elim h
  | succ n ih =>
    intro x2 σ H locs ls h w hl
    rw [wl_X9_runs_2] at h
    refine lv_iload_n X.1 X.2.1 dX9_runs_2 rfl (lv_at hl 2 rfl) ?_
    refine lv_bipush (v := 26) X.1 X.2.1 dX9_runs_3 (by decide) ?_
    refine lv_icmp_ge (tgt := 21) X.1 X.2.1 dX9_runs_5 (by decide) (fun c1 => ?_) (fun c1 => ?_)
    · have h := h.1 c1
      exact hk21  σ _ _ ls h w (lv_sub hl [0, 1] rfl)
    · have h := h.2 c1
      refine lv_aload_n X.1 X.2.1 dX9_runs_8 rfl (lv_at hl 0 rfl) ?_
      refine tw_get X hK w 9 iw_X9_runs_9 h0 (by decide) rfl 13 (by decide) (List.mem_of_getElem? (i := 1) rfl) rfl dX9_runs_9 ?_
      refine lv_iload_n X.1 X.2.1 dX9_runs_12 rfl (lv_at hl 2 rfl) ?_
      refine lv_iconst (v := 0) X.1 X.2.1 dX9_runs_13 (by decide) ?_
      obtain ⟨hi2, h⟩ := h
      refine tw_iast X hK w (tw_t_9_13 hT h0) (tw_n_9_13 hT h0) hi2 dX9_runs_14 (fun σ3 H locs eσ3 w => ?_)
      have h := h _ eσ3
      refine lv_iinc (v := (x2 + 1)) (lv' := [(2, .int (x2 + 1)), (0, .ref a0), (1, .int x1)]) X.1 X.2.1 dX9_runs_15 hl (k := 2) rfl rfl (by decide) rfl (fun ls hl => ?_)
      refine lv_goto (tgt := 2) X.1 X.2.1 dX9_runs_18 (by decide) ?_
      exact ih (x2 + 1) σ3 _ _ ls h w (lv_sub hl [1, 2, 0] rfl)
set_option maxHeartbeats 4000000 in
set_option maxRecDepth 100000 in
theorem lp_X9_runs_50 {p : Program} {l : Launch} {e : Env} {s : State} {m : MethodId} {args : Array Value} {below : List Frame} {meth : Method} {c : Code} {D : va_G} {g : tw_G} (X : CallFix p m c cX9_runs 5 s args wsX9_runs RX9) (hr : meth.sig.returnType = none) (hlk : meth.locks = false) (hK : tw_k D g s) (hT : tw_T g) {a0 : Nat} {x1 : Int32} (h0 : tw_is g 9 a0) {Q : tw_S → Prop} {k249 : tw_S → Prop}
    (hk249 : ∀  (σ : tw_S) (H : Heap) (locs : List Loc) (ls : Array Slot), k249  σ → tw_w D g (tw_F g s.heap.size) s σ H locs → lv_has ls 5 [] → W p l e RM_X9_runs s m args below meth c H locs 0 0 (tw_Qv Q D g below args s) (F0 m 249 ls []))
    : ∀ (n : Nat) (x2 : Int32) (σ : tw_S) (H : Heap) (locs : List Loc) (ls : Array Slot), wl_X9_runs_50 g a0 x1 Q k249 n x2 σ → tw_w D g (tw_F g s.heap.size) s σ H locs → lv_has ls 5 [(0, .ref a0), (1, .int x1), (2, .int x2)] → W p l e RM_X9_runs s m args below meth c H locs 0 0 (tw_Qv Q D g below args s) (F0 m 50 ls []) := by
  intro n
  induction n with
  | zero =>
    intro x2 σ H locs ls h w hl
    exact False.elim h
  | succ n ih =>
    intro x2 σ H locs ls h w hl
    rw [wl_X9_runs_50] at h
    refine lv_aload_n X.1 X.2.1 dX9_runs_50 rfl (lv_at hl 0 rfl) ?_
    refine tw_get X hK w 9 iw_X9_runs_9 h0 (by decide) rfl 14 (by decide) (List.mem_of_getElem? (i := 5) rfl) rfl dX9_runs_51 ?_
    refine lv_iconst (v := -1) X.1 X.2.1 dX9_runs_54 (by decide) ?_
    refine lv_icmp_ne (tgt := 249) X.1 X.2.1 dX9_runs_55 (by decide) (fun c10 => ?_) (fun c10 => ?_)
    · have h := h.1 c10
      exact hk249  σ _ _ ls h w (lv_sub hl [] rfl)
    · have h := h.2 c10
      refine lv_aload_n X.1 X.2.1 dX9_runs_58 rfl (lv_at hl 0 rfl) ?_
      refine lv_iload_n X.1 X.2.1 dX9_runs_59 rfl (lv_at hl 1 rfl) ?_
      refine lv_aload_n X.1 X.2.1 dX9_runs_60 rfl (lv_at hl 0 rfl) ?_
      refine tw_get X hK w 9 iw_X9_runs_9 h0 (by decide) rfl 16 (by decide) (List.mem_of_getElem? (i := 4) rfl) rfl dX9_runs_61 ?_
      refine lv_aload_n X.1 X.2.1 dX9_runs_64 rfl (lv_at hl 0 rfl) ?_
      refine lv_iload_n X.1 X.2.1 dX9_runs_65 rfl (lv_at hl 2 rfl) ?_
      refine tw_ci w (va_runV (As := [.int x2]) (rest := [.int (tw_I σ a0 16), .int x1, .ref a0]) X (ct_X9_signAt l D g hT _ σ a0 h0 x2 _ h) (cwV 1 X.2.2.2.2 gX9_runs_X9_signAt rfl rfl rfl (by decide +kernel) ⟨Nat.le_of_ble_eq_true rfl, Nat.le_of_ble_eq_true rfl⟩) (tw_preV hK w h0 (by decide) rfl [.int x2]) rfl rfl hl.1 rfl (lv_room (Nat.le_of_ble_eq_true rfl)) dX9_runs_66 ⟨Nat.zero_le _, Nat.zero_le _⟩) (fun r12 σ11 H locs h w => ?_)
      refine tw_ci w (va_runV (As := [.int x1, .int (tw_I σ a0 16), .int r12]) (rest := []) X (ct_X9_moveAt l D g hT _ σ11 a0 h0 x1 (tw_I σ a0 16) r12 _ h) (cwV 3 X.2.2.2.2 gX9_runs_X9_moveAt rfl rfl rfl (by decide +kernel) ⟨Nat.le_of_ble_eq_true rfl, Nat.le_of_ble_eq_true rfl⟩) (tw_preV hK w h0 (by decide) rfl [.int x1, .int (tw_I σ a0 16), .int r12]) rfl rfl hl.1 rfl (lv_room (Nat.le_of_ble_eq_true rfl)) dX9_runs_69 ⟨Nat.zero_le _, Nat.zero_le _⟩) (fun r14 σ13 H locs h w => ?_)
      refine lv_istore_n (lv' := [(3, .int r14), (0, .ref a0), (1, .int x1), (2, .int x2)]) X.1 X.2.1 dX9_runs_72 rfl hl (by decide) rfl (fun ls hl => ?_)
      refine lv_iload_n X.1 X.2.1 dX9_runs_73 rfl (lv_at hl 0 rfl) ?_
      refine lv_iconst (v := -1) X.1 X.2.1 dX9_runs_74 (by decide) ?_
      refine lv_icmp_ne (tgt := 86) X.1 X.2.1 dX9_runs_75 (by decide) (fun c15 => ?_) (fun c15 => ?_)
      · have h := h.1 c15
        refine lv_iload_n X.1 X.2.1 dX9_runs_86 rfl (lv_at hl 3 rfl) ?_
        refine lv_iload_n X.1 X.2.1 dX9_runs_87 rfl (lv_at hl 0 rfl) ?_
        refine lv_iconst (v := 2) X.1 X.2.1 dX9_runs_88 (by decide) ?_
        refine lv_irem X.1 X.2.1 dX9_runs_89 (by decide) ?_
        refine lv_iconst (v := 1) X.1 X.2.1 dX9_runs_90 (by decide) ?_
        refine lv_icmp_ne (tgt := 98) X.1 X.2.1 dX9_runs_91 (by decide) (fun c16 => ?_) (fun c16 => ?_)
        · have h := h.1 c16
          refine lv_iconst (v := -1) X.1 X.2.1 dX9_runs_98 (by decide) ?_
          refine lv_iadd X.1 X.2.1 dX9_runs_99 ?_
          refine lv_istore (lv' := [(4, .int (x2 + (-1 : Int32))), (3, .int r14), (0, .ref a0), (1, .int x1), (2, .int x2)]) X.1 X.2.1 dX9_runs_100 hl (by decide) rfl (fun ls hl => ?_)
          refine lv_aload_n X.1 X.2.1 dX9_runs_102 rfl (lv_at hl 2 rfl) ?_
          refine lv_iload_n X.1 X.2.1 dX9_runs_103 rfl (lv_at hl 1 rfl) ?_
          refine lv_iconst (v := 2) X.1 X.2.1 dX9_runs_104 (by decide) ?_
          refine lv_idiv X.1 X.2.1 dX9_runs_105 (by decide) ?_
          refine tw_putI X hK w 9 iw_X9_runs_9 tyX9 tyX9_ok nmX9 h0 (by decide) rfl 16 (by decide) (List.mem_of_getElem? (i := 4) rfl) rfl (ty := .int) (by decide +kernel) rfl rfl (Nat.le_of_ble_eq_true rfl) (tw_f_9_16 g _ _ _) dX9_runs_106 (fun σ17 H locs eσ17 w => ?_)
          have h := h _ eσ17
          refine lv_aload_n X.1 X.2.1 dX9_runs_109 rfl (lv_at hl 2 rfl) ?_
          refine lv_dup X.1 X.2.1 dX9_runs_110 rfl ?_
          refine tw_get X hK w 9 iw_X9_runs_9 h0 (by decide) rfl 15 (by decide) (List.mem_of_getElem? (i := 2) rfl) rfl dX9_runs_111 ?_
          refine lv_iconst (v := 1) X.1 X.2.1 dX9_runs_114 (by decide) ?_
          refine lv_iadd X.1 X.2.1 dX9_runs_115 ?_
          refine tw_putI X hK w 9 iw_X9_runs_9 tyX9 tyX9_ok nmX9 h0 (by decide) rfl 15 (by decide) (List.mem_of_getElem? (i := 2) rfl) rfl (ty := .int) (by decide +kernel) rfl rfl (Nat.le_of_ble_eq_true rfl) (tw_f_9_15 g _ _ _) dX9_runs_116 (fun σ18 H locs eσ18 w => ?_)
          have h := h _ eσ18
          refine lv_aload_n X.1 X.2.1 dX9_runs_119 rfl (lv_at hl 2 rfl) ?_
          refine lv_iload X.1 X.2.1 dX9_runs_120 (lv_at hl 0 rfl) ?_
          refine lv_if_ge (tgt := 129) X.1 X.2.1 dX9_runs_122 (by decide) (fun c19 => ?_) (fun c19 => ?_)
          · have h := h.1 c19
            refine lv_iload X.1 X.2.1 dX9_runs_129 (lv_at hl 0 rfl) ?_
            refine lv_aload_n X.1 X.2.1 dX9_runs_131 rfl (lv_at hl 2 rfl) ?_
            refine tw_get X hK w 9 iw_X9_runs_9 h0 (by decide) rfl 12 (by decide) (List.mem_of_getElem? (i := 6) rfl) rfl dX9_runs_132 ?_
            refine lv_iconst (v := 1) X.1 X.2.1 dX9_runs_135 (by decide) ?_
            refine lv_iadd X.1 X.2.1 dX9_runs_136 ?_
            refine lv_icmp_le (tgt := 144) X.1 X.2.1 dX9_runs_137 (by decide) (fun c20 => ?_) (fun c20 => ?_)
            · have h := h.1 c20
              refine lv_iconst (v := -1) X.1 X.2.1 dX9_runs_144 (by decide) ?_
              refine tw_putI X hK w 9 iw_X9_runs_9 tyX9 tyX9_ok nmX9 h0 (by decide) rfl 14 (by decide) (List.mem_of_getElem? (i := 5) rfl) rfl (ty := .int) (by decide +kernel) rfl rfl (Nat.le_of_ble_eq_true rfl) (tw_f_9_14 g _ _ _) dX9_runs_145 (fun σ21 H locs eσ21 w => ?_)
              have h := h _ eσ21
              refine lv_aload_n X.1 X.2.1 dX9_runs_148 rfl (lv_at hl 2 rfl) ?_
              refine tw_get X hK w 9 iw_X9_runs_9 h0 (by decide) rfl 14 (by decide) (List.mem_of_getElem? (i := 5) rfl) rfl dX9_runs_149 ?_
              refine lv_iconst (v := -1) X.1 X.2.1 dX9_runs_152 (by decide) ?_
              refine lv_icmp_ne (tgt := 246) X.1 X.2.1 dX9_runs_153 (by decide) (fun c22 => ?_) (fun c22 => ?_)
              · have h := h.1 c22
                refine lv_goto (tgt := 50) X.1 X.2.1 dX9_runs_246 (by decide) ?_
                exact ih x2 σ21 _ _ ls h w (lv_sub hl [2, 3, 4] rfl)
              · have h := h.2 c22
                refine lv_aload_n X.1 X.2.1 dX9_runs_156 rfl (lv_at hl 2 rfl) ?_
                refine tw_get X hK w 9 iw_X9_runs_9 h0 (by decide) rfl 17 (by decide) (List.mem_of_getElem? (i := 7) rfl) rfl dX9_runs_157 ?_
                refine lv_aload_n X.1 X.2.1 dX9_runs_160 rfl (lv_at hl 2 rfl) ?_
                refine tw_get X hK w 9 iw_X9_runs_9 h0 (by decide) rfl 19 (by decide) (List.mem_of_getElem? (i := 3) rfl) rfl dX9_runs_161 ?_
                refine lv_iload_n X.1 X.2.1 dX9_runs_164 rfl (lv_at hl 4 rfl) ?_
                refine lv_iload X.1 X.2.1 dX9_runs_165 (lv_at hl 0 rfl) ?_
                refine lv_icmp_ge (tgt := 174) X.1 X.2.1 dX9_runs_167 (by decide) (fun c23 => ?_) (fun c23 => ?_)
                · have h := h.1 c23
                  refine lv_iload X.1 X.2.1 dX9_runs_174 (lv_at hl 0 rfl) ?_
                  obtain ⟨hi24, h⟩ := h
                  refine tw_iast X hK w (tw_t_9_17 hT h0) (tw_n_9_17 hT h0) hi24 dX9_runs_176 (fun σ25 H locs eσ25 w => ?_)
                  have h := h _ eσ25
                  refine lv_aload_n X.1 X.2.1 dX9_runs_177 rfl (lv_at hl 2 rfl) ?_
                  refine tw_get X hK w 9 iw_X9_runs_9 h0 (by decide) rfl 18 (by decide) (List.mem_of_getElem? (i := 8) rfl) rfl dX9_runs_178 ?_
                  refine lv_aload_n X.1 X.2.1 dX9_runs_181 rfl (lv_at hl 2 rfl) ?_
                  refine tw_get X hK w 9 iw_X9_runs_9 h0 (by decide) rfl 19 (by decide) (List.mem_of_getElem? (i := 3) rfl) rfl dX9_runs_182 ?_
                  refine lv_aload_n X.1 X.2.1 dX9_runs_185 rfl (lv_at hl 2 rfl) ?_
                  refine tw_get X hK w 9 iw_X9_runs_9 h0 (by decide) rfl 16 (by decide) (List.mem_of_getElem? (i := 4) rfl) rfl dX9_runs_186 ?_
                  obtain ⟨hi26, h⟩ := h
                  refine tw_iast X hK w (tw_t_9_18 hT h0) (tw_n_9_18 hT h0) hi26 dX9_runs_189 (fun σ27 H locs eσ27 w => ?_)
                  have h := h _ eσ27
                  refine lv_aload_n X.1 X.2.1 dX9_runs_190 rfl (lv_at hl 2 rfl) ?_
                  refine lv_dup X.1 X.2.1 dX9_runs_191 rfl ?_
                  refine tw_get X hK w 9 iw_X9_runs_9 h0 (by decide) rfl 19 (by decide) (List.mem_of_getElem? (i := 3) rfl) rfl dX9_runs_192 ?_
                  refine lv_iconst (v := 1) X.1 X.2.1 dX9_runs_195 (by decide) ?_
                  refine lv_iadd X.1 X.2.1 dX9_runs_196 ?_
                  refine tw_putI X hK w 9 iw_X9_runs_9 tyX9 tyX9_ok nmX9 h0 (by decide) rfl 19 (by decide) (List.mem_of_getElem? (i := 3) rfl) rfl (ty := .int) (by decide +kernel) rfl rfl (Nat.le_of_ble_eq_true rfl) (tw_f_9_19 g _ _ _) dX9_runs_197 (fun σ28 H locs eσ28 w => ?_)
                  have h := h _ eσ28
                  refine lv_aload_n X.1 X.2.1 dX9_runs_200 rfl (lv_at hl 2 rfl) ?_
                  refine lv_aload_n X.1 X.2.1 dX9_runs_201 rfl (lv_at hl 2 rfl) ?_
                  refine tw_get X hK w 9 iw_X9_runs_9 h0 (by decide) rfl 13 (by decide) (List.mem_of_getElem? (i := 1) rfl) rfl dX9_runs_202 ?_
                  refine lv_iload X.1 X.2.1 dX9_runs_205 (lv_at hl 0 rfl) ?_
                  obtain ⟨hi29, h⟩ := h
                  refine tw_iald X hK w (tw_t_9_13 hT h0) (tw_n_9_13 hT h0) hi29 dX9_runs_207 ?_
                  refine lv_aload_n X.1 X.2.1 dX9_runs_208 rfl (lv_at hl 2 rfl) ?_
                  refine tw_get X hK w 9 iw_X9_runs_9 h0 (by decide) rfl 16 (by decide) (List.mem_of_getElem? (i := 4) rfl) rfl dX9_runs_209 ?_
                  refine lv_ishr X.1 X.2.1 dX9_runs_212 ?_
                  refine lv_iconst (v := 1) X.1 X.2.1 dX9_runs_213 (by decide) ?_
                  refine lv_iand X.1 X.2.1 dX9_runs_214 ?_
                  refine lv_iconst (v := 1) X.1 X.2.1 dX9_runs_215 (by decide) ?_
                  refine lv_icmp_ne (tgt := 223) X.1 X.2.1 dX9_runs_216 (by decide) (fun c30 => ?_) (fun c30 => ?_)
                  · have h := h.1 c30
                    refine lv_iconst (v := -1) X.1 X.2.1 dX9_runs_223 (by decide) ?_
                    refine tw_putI X hK w 9 iw_X9_runs_9 tyX9 tyX9_ok nmX9 h0 (by decide) rfl 14 (by decide) (List.mem_of_getElem? (i := 5) rfl) rfl (ty := .int) (by decide +kernel) rfl rfl (Nat.le_of_ble_eq_true rfl) (tw_f_9_14 g _ _ _) dX9_runs_224 (fun σ31 H locs eσ31 w => ?_)
                    have h := h _ eσ31
                    refine lv_aload_n X.1 X.2.1 dX9_runs_227 rfl (lv_at hl 2 rfl) ?_
                    refine tw_get X hK w 9 iw_X9_runs_9 h0 (by decide) rfl 13 (by decide) (List.mem_of_getElem? (i := 1) rfl) rfl dX9_runs_228 ?_
                    refine lv_iload X.1 X.2.1 dX9_runs_231 (lv_at hl 0 rfl) ?_
                    refine lv_dup2_11 X.1 X.2.1 dX9_runs_233 rfl rfl ?_
                    obtain ⟨hi32, h⟩ := h
                    refine tw_iald X hK w (tw_t_9_13 hT h0) (tw_n_9_13 hT h0) hi32 dX9_runs_234 ?_
                    refine lv_iconst (v := 1) X.1 X.2.1 dX9_runs_235 (by decide) ?_
                    refine lv_aload_n X.1 X.2.1 dX9_runs_236 rfl (lv_at hl 2 rfl) ?_
                    refine tw_get X hK w 9 iw_X9_runs_9 h0 (by decide) rfl 16 (by decide) (List.mem_of_getElem? (i := 4) rfl) rfl dX9_runs_237 ?_
                    refine lv_ishl X.1 X.2.1 dX9_runs_240 ?_
                    refine lv_ior X.1 X.2.1 dX9_runs_241 ?_
                    obtain ⟨hi33, h⟩ := h
                    refine tw_iast X hK w (tw_t_9_13 hT h0) (tw_n_9_13 hT h0) hi33 dX9_runs_242 (fun σ34 H locs eσ34 w => ?_)
                    have h := h _ eσ34
                    refine lv_iload X.1 X.2.1 dX9_runs_243 (lv_at hl 0 rfl) ?_
                    refine lv_istore_n (lv' := [(2, .int (x2 + (-1 : Int32))), (4, .int (x2 + (-1 : Int32))), (3, .int r14), (0, .ref a0), (1, .int x1)]) X.1 X.2.1 dX9_runs_245 rfl hl (by decide) rfl (fun ls hl => ?_)
                    have hl := lv_sub (l' := [(2, .int (x2 + (-1 : Int32))), (0, .ref a0), (1, .int x1)]) hl [0, 3, 4] rfl
                    refine lv_goto (tgt := 50) X.1 X.2.1 dX9_runs_246 (by decide) ?_
                    exact ih (x2 + (-1 : Int32)) σ34 _ _ ls h w (lv_sub hl [1, 2, 0] rfl)
                  · have h := h.2 c30
                    refine lv_iconst (v := 3) X.1 X.2.1 dX9_runs_219 (by decide) ?_
                    refine lv_goto (tgt := 224) X.1 X.2.1 dX9_runs_220 (by decide) ?_
                    refine tw_putI X hK w 9 iw_X9_runs_9 tyX9 tyX9_ok nmX9 h0 (by decide) rfl 14 (by decide) (List.mem_of_getElem? (i := 5) rfl) rfl (ty := .int) (by decide +kernel) rfl rfl (Nat.le_of_ble_eq_true rfl) (tw_f_9_14 g _ _ _) dX9_runs_224 (fun σ35 H locs eσ35 w => ?_)
                    have h := h _ eσ35
                    refine lv_aload_n X.1 X.2.1 dX9_runs_227 rfl (lv_at hl 2 rfl) ?_
                    refine tw_get X hK w 9 iw_X9_runs_9 h0 (by decide) rfl 13 (by decide) (List.mem_of_getElem? (i := 1) rfl) rfl dX9_runs_228 ?_
                    refine lv_iload X.1 X.2.1 dX9_runs_231 (lv_at hl 0 rfl) ?_
                    refine lv_dup2_11 X.1 X.2.1 dX9_runs_233 rfl rfl ?_
                    obtain ⟨hi36, h⟩ := h
                    refine tw_iald X hK w (tw_t_9_13 hT h0) (tw_n_9_13 hT h0) hi36 dX9_runs_234 ?_
                    refine lv_iconst (v := 1) X.1 X.2.1 dX9_runs_235 (by decide) ?_
                    refine lv_aload_n X.1 X.2.1 dX9_runs_236 rfl (lv_at hl 2 rfl) ?_
                    refine tw_get X hK w 9 iw_X9_runs_9 h0 (by decide) rfl 16 (by decide) (List.mem_of_getElem? (i := 4) rfl) rfl dX9_runs_237 ?_
                    refine lv_ishl X.1 X.2.1 dX9_runs_240 ?_
                    refine lv_ior X.1 X.2.1 dX9_runs_241 ?_
                    obtain ⟨hi37, h⟩ := h
                    refine tw_iast X hK w (tw_t_9_13 hT h0) (tw_n_9_13 hT h0) hi37 dX9_runs_242 (fun σ38 H locs eσ38 w => ?_)
                    have h := h _ eσ38
                    refine lv_iload X.1 X.2.1 dX9_runs_243 (lv_at hl 0 rfl) ?_
                    refine lv_istore_n (lv' := [(2, .int (x2 + (-1 : Int32))), (4, .int (x2 + (-1 : Int32))), (3, .int r14), (0, .ref a0), (1, .int x1)]) X.1 X.2.1 dX9_runs_245 rfl hl (by decide) rfl (fun ls hl => ?_)
                    have hl := lv_sub (l' := [(2, .int (x2 + (-1 : Int32))), (0, .ref a0), (1, .int x1)]) hl [0, 3, 4] rfl
                    refine lv_goto (tgt := 50) X.1 X.2.1 dX9_runs_246 (by decide) ?_
                    exact ih (x2 + (-1 : Int32)) σ38 _ _ ls h w (lv_sub hl [1, 2, 0] rfl)
                · have h := h.2 c23
                  refine lv_iload_n X.1 X.2.1 dX9_runs_170 rfl (lv_at hl 4 rfl) ?_
                  refine lv_goto (tgt := 176) X.1 X.2.1 dX9_runs_171 (by decide) ?_
                  obtain ⟨hi39, h⟩ := h
                  refine tw_iast X hK w (tw_t_9_17 hT h0) (tw_n_9_17 hT h0) hi39 dX9_runs_176 (fun σ40 H locs eσ40 w => ?_)
                  have h := h _ eσ40
                  refine lv_aload_n X.1 X.2.1 dX9_runs_177 rfl (lv_at hl 2 rfl) ?_
                  refine tw_get X hK w 9 iw_X9_runs_9 h0 (by decide) rfl 18 (by decide) (List.mem_of_getElem? (i := 8) rfl) rfl dX9_runs_178 ?_
                  refine lv_aload_n X.1 X.2.1 dX9_runs_181 rfl (lv_at hl 2 rfl) ?_
                  refine tw_get X hK w 9 iw_X9_runs_9 h0 (by decide) rfl 19 (by decide) (List.mem_of_getElem? (i := 3) rfl) rfl dX9_runs_182 ?_
                  refine lv_aload_n X.1 X.2.1 dX9_runs_185 rfl (lv_at hl 2 rfl) ?_
                  refine tw_get X hK w 9 iw_X9_runs_9 h0 (by decide) rfl 16 (by decide) (List.mem_of_getElem? (i := 4) rfl) rfl dX9_runs_186 ?_
                  obtain ⟨hi41, h⟩ := h
                  refine tw_iast X hK w (tw_t_9_18 hT h0) (tw_n_9_18 hT h0) hi41 dX9_runs_189 (fun σ42 H locs eσ42 w => ?_)
                  have h := h _ eσ42
                  refine lv_aload_n X.1 X.2.1 dX9_runs_190 rfl (lv_at hl 2 rfl) ?_
                  refine lv_dup X.1 X.2.1 dX9_runs_191 rfl ?_
                  refine tw_get X hK w 9 iw_X9_runs_9 h0 (by decide) rfl 19 (by decide) (List.mem_of_getElem? (i := 3) rfl) rfl dX9_runs_192 ?_
                  refine lv_iconst (v := 1) X.1 X.2.1 dX9_runs_195 (by decide) ?_
                  refine lv_iadd X.1 X.2.1 dX9_runs_196 ?_
                  refine tw_putI X hK w 9 iw_X9_runs_9 tyX9 tyX9_ok nmX9 h0 (by decide) rfl 19 (by decide) (List.mem_of_getElem? (i := 3) rfl) rfl (ty := .int) (by decide +kernel) rfl rfl (Nat.le_of_ble_eq_true rfl) (tw_f_9_19 g _ _ _) dX9_runs_197 (fun σ43 H locs eσ43 w => ?_)
                  have h := h _ eσ43
                  refine lv_aload_n X.1 X.2.1 dX9_runs_200 rfl (lv_at hl 2 rfl) ?_
                  refine lv_aload_n X.1 X.2.1 dX9_runs_201 rfl (lv_at hl 2 rfl) ?_
                  refine tw_get X hK w 9 iw_X9_runs_9 h0 (by decide) rfl 13 (by decide) (List.mem_of_getElem? (i := 1) rfl) rfl dX9_runs_202 ?_
                  refine lv_iload X.1 X.2.1 dX9_runs_205 (lv_at hl 0 rfl) ?_
                  obtain ⟨hi44, h⟩ := h
                  refine tw_iald X hK w (tw_t_9_13 hT h0) (tw_n_9_13 hT h0) hi44 dX9_runs_207 ?_
                  refine lv_aload_n X.1 X.2.1 dX9_runs_208 rfl (lv_at hl 2 rfl) ?_
                  refine tw_get X hK w 9 iw_X9_runs_9 h0 (by decide) rfl 16 (by decide) (List.mem_of_getElem? (i := 4) rfl) rfl dX9_runs_209 ?_
                  refine lv_ishr X.1 X.2.1 dX9_runs_212 ?_
                  refine lv_iconst (v := 1) X.1 X.2.1 dX9_runs_213 (by decide) ?_
                  refine lv_iand X.1 X.2.1 dX9_runs_214 ?_
                  refine lv_iconst (v := 1) X.1 X.2.1 dX9_runs_215 (by decide) ?_
                  refine lv_icmp_ne (tgt := 223) X.1 X.2.1 dX9_runs_216 (by decide) (fun c45 => ?_) (fun c45 => ?_)
                  · have h := h.1 c45
                    refine lv_iconst (v := -1) X.1 X.2.1 dX9_runs_223 (by decide) ?_
                    refine tw_putI X hK w 9 iw_X9_runs_9 tyX9 tyX9_ok nmX9 h0 (by decide) rfl 14 (by decide) (List.mem_of_getElem? (i := 5) rfl) rfl (ty := .int) (by decide +kernel) rfl rfl (Nat.le_of_ble_eq_true rfl) (tw_f_9_14 g _ _ _) dX9_runs_224 (fun σ46 H locs eσ46 w => ?_)
                    have h := h _ eσ46
                    refine lv_aload_n X.1 X.2.1 dX9_runs_227 rfl (lv_at hl 2 rfl) ?_
                    refine tw_get X hK w 9 iw_X9_runs_9 h0 (by decide) rfl 13 (by decide) (List.mem_of_getElem? (i := 1) rfl) rfl dX9_runs_228 ?_
                    refine lv_iload X.1 X.2.1 dX9_runs_231 (lv_at hl 0 rfl) ?_
                    refine lv_dup2_11 X.1 X.2.1 dX9_runs_233 rfl rfl ?_
                    obtain ⟨hi47, h⟩ := h
                    refine tw_iald X hK w (tw_t_9_13 hT h0) (tw_n_9_13 hT h0) hi47 dX9_runs_234 ?_
                    refine lv_iconst (v := 1) X.1 X.2.1 dX9_runs_235 (by decide) ?_
                    refine lv_aload_n X.1 X.2.1 dX9_runs_236 rfl (lv_at hl 2 rfl) ?_
                    refine tw_get X hK w 9 iw_X9_runs_9 h0 (by decide) rfl 16 (by decide) (List.mem_of_getElem? (i := 4) rfl) rfl dX9_runs_237 ?_
                    refine lv_ishl X.1 X.2.1 dX9_runs_240 ?_
                    refine lv_ior X.1 X.2.1 dX9_runs_241 ?_
                    obtain ⟨hi48, h⟩ := h
                    refine tw_iast X hK w (tw_t_9_13 hT h0) (tw_n_9_13 hT h0) hi48 dX9_runs_242 (fun σ49 H locs eσ49 w => ?_)
                    have h := h _ eσ49
                    refine lv_iload X.1 X.2.1 dX9_runs_243 (lv_at hl 0 rfl) ?_
                    refine lv_istore_n (lv' := [(2, .int (x2 + (-1 : Int32))), (4, .int (x2 + (-1 : Int32))), (3, .int r14), (0, .ref a0), (1, .int x1)]) X.1 X.2.1 dX9_runs_245 rfl hl (by decide) rfl (fun ls hl => ?_)
                    have hl := lv_sub (l' := [(2, .int (x2 + (-1 : Int32))), (0, .ref a0), (1, .int x1)]) hl [0, 3, 4] rfl
                    refine lv_goto (tgt := 50) X.1 X.2.1 dX9_runs_246 (by decide) ?_
                    exact ih (x2 + (-1 : Int32)) σ49 _ _ ls h w (lv_sub hl [1, 2, 0] rfl)
                  · have h := h.2 c45
                    refine lv_iconst (v := 3) X.1 X.2.1 dX9_runs_219 (by decide) ?_
                    refine lv_goto (tgt := 224) X.1 X.2.1 dX9_runs_220 (by decide) ?_
                    refine tw_putI X hK w 9 iw_X9_runs_9 tyX9 tyX9_ok nmX9 h0 (by decide) rfl 14 (by decide) (List.mem_of_getElem? (i := 5) rfl) rfl (ty := .int) (by decide +kernel) rfl rfl (Nat.le_of_ble_eq_true rfl) (tw_f_9_14 g _ _ _) dX9_runs_224 (fun σ50 H locs eσ50 w => ?_)
                    have h := h _ eσ50
                    refine lv_aload_n X.1 X.2.1 dX9_runs_227 rfl (lv_at hl 2 rfl) ?_
                    refine tw_get X hK w 9 iw_X9_runs_9 h0 (by decide) rfl 13 (by decide) (List.mem_of_getElem? (i := 1) rfl) rfl dX9_runs_228 ?_
                    refine lv_iload X.1 X.2.1 dX9_runs_231 (lv_at hl 0 rfl) ?_
                    refine lv_dup2_11 X.1 X.2.1 dX9_runs_233 rfl rfl ?_
                    obtain ⟨hi51, h⟩ := h
                    refine tw_iald X hK w (tw_t_9_13 hT h0) (tw_n_9_13 hT h0) hi51 dX9_runs_234 ?_
                    refine lv_iconst (v := 1) X.1 X.2.1 dX9_runs_235 (by decide) ?_
                    refine lv_aload_n X.1 X.2.1 dX9_runs_236 rfl (lv_at hl 2 rfl) ?_
                    refine tw_get X hK w 9 iw_X9_runs_9 h0 (by decide) rfl 16 (by decide) (List.mem_of_getElem? (i := 4) rfl) rfl dX9_runs_237 ?_
                    refine lv_ishl X.1 X.2.1 dX9_runs_240 ?_
                    refine lv_ior X.1 X.2.1 dX9_runs_241 ?_
                    obtain ⟨hi52, h⟩ := h
                    refine tw_iast X hK w (tw_t_9_13 hT h0) (tw_n_9_13 hT h0) hi52 dX9_runs_242 (fun σ53 H locs eσ53 w => ?_)
                    have h := h _ eσ53
                    refine lv_iload X.1 X.2.1 dX9_runs_243 (lv_at hl 0 rfl) ?_
                    refine lv_istore_n (lv' := [(2, .int (x2 + (-1 : Int32))), (4, .int (x2 + (-1 : Int32))), (3, .int r14), (0, .ref a0), (1, .int x1)]) X.1 X.2.1 dX9_runs_245 rfl hl (by decide) rfl (fun ls hl => ?_)
                    have hl := lv_sub (l' := [(2, .int (x2 + (-1 : Int32))), (0, .ref a0), (1, .int x1)]) hl [0, 3, 4] rfl
                    refine lv_goto (tgt := 50) X.1 X.2.1 dX9_runs_246 (by decide) ?_
                    exact ih (x2 + (-1 : Int32)) σ53 _ _ ls h w (lv_sub hl [1, 2, 0] rfl)
            · have h := h.2 c20
              refine lv_iconst (v := 0) X.1 X.2.1 dX9_runs_140 (by decide) ?_
              refine lv_goto (tgt := 145) X.1 X.2.1 dX9_runs_141 (by decide) ?_
              refine tw_putI X hK w 9 iw_X9_runs_9 tyX9 tyX9_ok nmX9 h0 (by decide) rfl 14 (by decide) (List.mem_of_getElem? (i := 5) rfl) rfl (ty := .int) (by decide +kernel) rfl rfl (Nat.le_of_ble_eq_true rfl) (tw_f_9_14 g _ _ _) dX9_runs_145 (fun σ54 H locs eσ54 w => ?_)
              have h := h _ eσ54
              refine lv_aload_n X.1 X.2.1 dX9_runs_148 rfl (lv_at hl 2 rfl) ?_
              refine tw_get X hK w 9 iw_X9_runs_9 h0 (by decide) rfl 14 (by decide) (List.mem_of_getElem? (i := 5) rfl) rfl dX9_runs_149 ?_
              refine lv_iconst (v := -1) X.1 X.2.1 dX9_runs_152 (by decide) ?_
              refine lv_icmp_ne (tgt := 246) X.1 X.2.1 dX9_runs_153 (by decide) (fun c55 => ?_) (fun c55 => ?_)
              · have h := h.1 c55
                refine lv_goto (tgt := 50) X.1 X.2.1 dX9_runs_246 (by decide) ?_
                exact ih x2 σ54 _ _ ls h w (lv_sub hl [2, 3, 4] rfl)
              · have h := h.2 c55
                refine lv_aload_n X.1 X.2.1 dX9_runs_156 rfl (lv_at hl 2 rfl) ?_
                refine tw_get X hK w 9 iw_X9_runs_9 h0 (by decide) rfl 17 (by decide) (List.mem_of_getElem? (i := 7) rfl) rfl dX9_runs_157 ?_
                refine lv_aload_n X.1 X.2.1 dX9_runs_160 rfl (lv_at hl 2 rfl) ?_
                refine tw_get X hK w 9 iw_X9_runs_9 h0 (by decide) rfl 19 (by decide) (List.mem_of_getElem? (i := 3) rfl) rfl dX9_runs_161 ?_
                refine lv_iload_n X.1 X.2.1 dX9_runs_164 rfl (lv_at hl 4 rfl) ?_
                refine lv_iload X.1 X.2.1 dX9_runs_165 (lv_at hl 0 rfl) ?_
                refine lv_icmp_ge (tgt := 174) X.1 X.2.1 dX9_runs_167 (by decide) (fun c56 => ?_) (fun c56 => ?_)
                · have h := h.1 c56
                  refine lv_iload X.1 X.2.1 dX9_runs_174 (lv_at hl 0 rfl) ?_
                  obtain ⟨hi57, h⟩ := h
                  refine tw_iast X hK w (tw_t_9_17 hT h0) (tw_n_9_17 hT h0) hi57 dX9_runs_176 (fun σ58 H locs eσ58 w => ?_)
                  have h := h _ eσ58
                  refine lv_aload_n X.1 X.2.1 dX9_runs_177 rfl (lv_at hl 2 rfl) ?_
                  refine tw_get X hK w 9 iw_X9_runs_9 h0 (by decide) rfl 18 (by decide) (List.mem_of_getElem? (i := 8) rfl) rfl dX9_runs_178 ?_
                  refine lv_aload_n X.1 X.2.1 dX9_runs_181 rfl (lv_at hl 2 rfl) ?_
                  refine tw_get X hK w 9 iw_X9_runs_9 h0 (by decide) rfl 19 (by decide) (List.mem_of_getElem? (i := 3) rfl) rfl dX9_runs_182 ?_
                  refine lv_aload_n X.1 X.2.1 dX9_runs_185 rfl (lv_at hl 2 rfl) ?_
                  refine tw_get X hK w 9 iw_X9_runs_9 h0 (by decide) rfl 16 (by decide) (List.mem_of_getElem? (i := 4) rfl) rfl dX9_runs_186 ?_
                  obtain ⟨hi59, h⟩ := h
                  refine tw_iast X hK w (tw_t_9_18 hT h0) (tw_n_9_18 hT h0) hi59 dX9_runs_189 (fun σ60 H locs eσ60 w => ?_)
                  have h := h _ eσ60
                  refine lv_aload_n X.1 X.2.1 dX9_runs_190 rfl (lv_at hl 2 rfl) ?_
                  refine lv_dup X.1 X.2.1 dX9_runs_191 rfl ?_
                  refine tw_get X hK w 9 iw_X9_runs_9 h0 (by decide) rfl 19 (by decide) (List.mem_of_getElem? (i := 3) rfl) rfl dX9_runs_192 ?_
                  refine lv_iconst (v := 1) X.1 X.2.1 dX9_runs_195 (by decide) ?_
                  refine lv_iadd X.1 X.2.1 dX9_runs_196 ?_
                  refine tw_putI X hK w 9 iw_X9_runs_9 tyX9 tyX9_ok nmX9 h0 (by decide) rfl 19 (by decide) (List.mem_of_getElem? (i := 3) rfl) rfl (ty := .int) (by decide +kernel) rfl rfl (Nat.le_of_ble_eq_true rfl) (tw_f_9_19 g _ _ _) dX9_runs_197 (fun σ61 H locs eσ61 w => ?_)
                  have h := h _ eσ61
                  refine lv_aload_n X.1 X.2.1 dX9_runs_200 rfl (lv_at hl 2 rfl) ?_
                  refine lv_aload_n X.1 X.2.1 dX9_runs_201 rfl (lv_at hl 2 rfl) ?_
                  refine tw_get X hK w 9 iw_X9_runs_9 h0 (by decide) rfl 13 (by decide) (List.mem_of_getElem? (i := 1) rfl) rfl dX9_runs_202 ?_
                  refine lv_iload X.1 X.2.1 dX9_runs_205 (lv_at hl 0 rfl) ?_
                  obtain ⟨hi62, h⟩ := h
                  refine tw_iald X hK w (tw_t_9_13 hT h0) (tw_n_9_13 hT h0) hi62 dX9_runs_207 ?_
                  refine lv_aload_n X.1 X.2.1 dX9_runs_208 rfl (lv_at hl 2 rfl) ?_
                  refine tw_get X hK w 9 iw_X9_runs_9 h0 (by decide) rfl 16 (by decide) (List.mem_of_getElem? (i := 4) rfl) rfl dX9_runs_209 ?_
                  refine lv_ishr X.1 X.2.1 dX9_runs_212 ?_
                  refine lv_iconst (v := 1) X.1 X.2.1 dX9_runs_213 (by decide) ?_
                  refine lv_iand X.1 X.2.1 dX9_runs_214 ?_
                  refine lv_iconst (v := 1) X.1 X.2.1 dX9_runs_215 (by decide) ?_
                  refine lv_icmp_ne (tgt := 223) X.1 X.2.1 dX9_runs_216 (by decide) (fun c63 => ?_) (fun c63 => ?_)
                  · have h := h.1 c63
                    refine lv_iconst (v := -1) X.1 X.2.1 dX9_runs_223 (by decide) ?_
                    refine tw_putI X hK w 9 iw_X9_runs_9 tyX9 tyX9_ok nmX9 h0 (by decide) rfl 14 (by decide) (List.mem_of_getElem? (i := 5) rfl) rfl (ty := .int) (by decide +kernel) rfl rfl (Nat.le_of_ble_eq_true rfl) (tw_f_9_14 g _ _ _) dX9_runs_224 (fun σ64 H locs eσ64 w => ?_)
                    have h := h _ eσ64
                    refine lv_aload_n X.1 X.2.1 dX9_runs_227 rfl (lv_at hl 2 rfl) ?_
                    refine tw_get X hK w 9 iw_X9_runs_9 h0 (by decide) rfl 13 (by decide) (List.mem_of_getElem? (i := 1) rfl) rfl dX9_runs_228 ?_
                    refine lv_iload X.1 X.2.1 dX9_runs_231 (lv_at hl 0 rfl) ?_
                    refine lv_dup2_11 X.1 X.2.1 dX9_runs_233 rfl rfl ?_
                    obtain ⟨hi65, h⟩ := h
                    refine tw_iald X hK w (tw_t_9_13 hT h0) (tw_n_9_13 hT h0) hi65 dX9_runs_234 ?_
                    refine lv_iconst (v := 1) X.1 X.2.1 dX9_runs_235 (by decide) ?_
                    refine lv_aload_n X.1 X.2.1 dX9_runs_236 rfl (lv_at hl 2 rfl) ?_
                    refine tw_get X hK w 9 iw_X9_runs_9 h0 (by decide) rfl 16 (by decide) (List.mem_of_getElem? (i := 4) rfl) rfl dX9_runs_237 ?_
                    refine lv_ishl X.1 X.2.1 dX9_runs_240 ?_
                    refine lv_ior X.1 X.2.1 dX9_runs_241 ?_
                    obtain ⟨hi66, h⟩ := h
                    refine tw_iast X hK w (tw_t_9_13 hT h0) (tw_n_9_13 hT h0) hi66 dX9_runs_242 (fun σ67 H locs eσ67 w => ?_)
                    have h := h _ eσ67
                    refine lv_iload X.1 X.2.1 dX9_runs_243 (lv_at hl 0 rfl) ?_
                    refine lv_istore_n (lv' := [(2, .int (x2 + (-1 : Int32))), (4, .int (x2 + (-1 : Int32))), (3, .int r14), (0, .ref a0), (1, .int x1)]) X.1 X.2.1 dX9_runs_245 rfl hl (by decide) rfl (fun ls hl => ?_)
                    have hl := lv_sub (l' := [(2, .int (x2 + (-1 : Int32))), (0, .ref a0), (1, .int x1)]) hl [0, 3, 4] rfl
                    refine lv_goto (tgt := 50) X.1 X.2.1 dX9_runs_246 (by decide) ?_
                    exact ih (x2 + (-1 : Int32)) σ67 _ _ ls h w (lv_sub hl [1, 2, 0] rfl)
                  · have h := h.2 c63
                    refine lv_iconst (v := 3) X.1 X.2.1 dX9_runs_219 (by decide) ?_
                    refine lv_goto (tgt := 224) X.1 X.2.1 dX9_runs_220 (by decide) ?_
                    refine tw_putI X hK w 9 iw_X9_runs_9 tyX9 tyX9_ok nmX9 h0 (by decide) rfl 14 (by decide) (List.mem_of_getElem? (i := 5) rfl) rfl (ty := .int) (by decide +kernel) rfl rfl (Nat.le_of_ble_eq_true rfl) (tw_f_9_14 g _ _ _) dX9_runs_224 (fun σ68 H locs eσ68 w => ?_)
                    have h := h _ eσ68
                    refine lv_aload_n X.1 X.2.1 dX9_runs_227 rfl (lv_at hl 2 rfl) ?_
                    refine tw_get X hK w 9 iw_X9_runs_9 h0 (by decide) rfl 13 (by decide) (List.mem_of_getElem? (i := 1) rfl) rfl dX9_runs_228 ?_
                    refine lv_iload X.1 X.2.1 dX9_runs_231 (lv_at hl 0 rfl) ?_
                    refine lv_dup2_11 X.1 X.2.1 dX9_runs_233 rfl rfl ?_
                    obtain ⟨hi69, h⟩ := h
                    refine tw_iald X hK w (tw_t_9_13 hT h0) (tw_n_9_13 hT h0) hi69 dX9_runs_234 ?_
                    refine lv_iconst (v := 1) X.1 X.2.1 dX9_runs_235 (by decide) ?_
                    refine lv_aload_n X.1 X.2.1 dX9_runs_236 rfl (lv_at hl 2 rfl) ?_
                    refine tw_get X hK w 9 iw_X9_runs_9 h0 (by decide) rfl 16 (by decide) (List.mem_of_getElem? (i := 4) rfl) rfl dX9_runs_237 ?_
                    refine lv_ishl X.1 X.2.1 dX9_runs_240 ?_
                    refine lv_ior X.1 X.2.1 dX9_runs_241 ?_
                    obtain ⟨hi70, h⟩ := h
                    refine tw_iast X hK w (tw_t_9_13 hT h0) (tw_n_9_13 hT h0) hi70 dX9_runs_242 (fun σ71 H locs eσ71 w => ?_)
                    have h := h _ eσ71
                    refine lv_iload X.1 X.2.1 dX9_runs_243 (lv_at hl 0 rfl) ?_
                    refine lv_istore_n (lv' := [(2, .int (x2 + (-1 : Int32))), (4, .int (x2 + (-1 : Int32))), (3, .int r14), (0, .ref a0), (1, .int x1)]) X.1 X.2.1 dX9_runs_245 rfl hl (by decide) rfl (fun ls hl => ?_)
                    have hl := lv_sub (l' := [(2, .int (x2 + (-1 : Int32))), (0, .ref a0), (1, .int x1)]) hl [0, 3, 4] rfl
                    refine lv_goto (tgt := 50) X.1 X.2.1 dX9_runs_246 (by decide) ?_
                    exact ih (x2 + (-1 : Int32)) σ71 _ _ ls h w (lv_sub hl [1, 2, 0] rfl)
                · have h := h.2 c56
                  refine lv_iload_n X.1 X.2.1 dX9_runs_170 rfl (lv_at hl 4 rfl) ?_
                  refine lv_goto (tgt := 176) X.1 X.2.1 dX9_runs_171 (by decide) ?_
                  obtain ⟨hi72, h⟩ := h
                  refine tw_iast X hK w (tw_t_9_17 hT h0) (tw_n_9_17 hT h0) hi72 dX9_runs_176 (fun σ73 H locs eσ73 w => ?_)
                  have h := h _ eσ73
                  refine lv_aload_n X.1 X.2.1 dX9_runs_177 rfl (lv_at hl 2 rfl) ?_
                  refine tw_get X hK w 9 iw_X9_runs_9 h0 (by decide) rfl 18 (by decide) (List.mem_of_getElem? (i := 8) rfl) rfl dX9_runs_178 ?_
                  refine lv_aload_n X.1 X.2.1 dX9_runs_181 rfl (lv_at hl 2 rfl) ?_
                  refine tw_get X hK w 9 iw_X9_runs_9 h0 (by decide) rfl 19 (by decide) (List.mem_of_getElem? (i := 3) rfl) rfl dX9_runs_182 ?_
                  refine lv_aload_n X.1 X.2.1 dX9_runs_185 rfl (lv_at hl 2 rfl) ?_
                  refine tw_get X hK w 9 iw_X9_runs_9 h0 (by decide) rfl 16 (by decide) (List.mem_of_getElem? (i := 4) rfl) rfl dX9_runs_186 ?_
                  obtain ⟨hi74, h⟩ := h
                  refine tw_iast X hK w (tw_t_9_18 hT h0) (tw_n_9_18 hT h0) hi74 dX9_runs_189 (fun σ75 H locs eσ75 w => ?_)
                  have h := h _ eσ75
                  refine lv_aload_n X.1 X.2.1 dX9_runs_190 rfl (lv_at hl 2 rfl) ?_
                  refine lv_dup X.1 X.2.1 dX9_runs_191 rfl ?_
                  refine tw_get X hK w 9 iw_X9_runs_9 h0 (by decide) rfl 19 (by decide) (List.mem_of_getElem? (i := 3) rfl) rfl dX9_runs_192 ?_
                  refine lv_iconst (v := 1) X.1 X.2.1 dX9_runs_195 (by decide) ?_
                  refine lv_iadd X.1 X.2.1 dX9_runs_196 ?_
                  refine tw_putI X hK w 9 iw_X9_runs_9 tyX9 tyX9_ok nmX9 h0 (by decide) rfl 19 (by decide) (List.mem_of_getElem? (i := 3) rfl) rfl (ty := .int) (by decide +kernel) rfl rfl (Nat.le_of_ble_eq_true rfl) (tw_f_9_19 g _ _ _) dX9_runs_197 (fun σ76 H locs eσ76 w => ?_)
                  have h := h _ eσ76
                  refine lv_aload_n X.1 X.2.1 dX9_runs_200 rfl (lv_at hl 2 rfl) ?_
                  refine lv_aload_n X.1 X.2.1 dX9_runs_201 rfl (lv_at hl 2 rfl) ?_
                  refine tw_get X hK w 9 iw_X9_runs_9 h0 (by decide) rfl 13 (by decide) (List.mem_of_getElem? (i := 1) rfl) rfl dX9_runs_202 ?_
                  refine lv_iload X.1 X.2.1 dX9_runs_205 (lv_at hl 0 rfl) ?_
                  obtain ⟨hi77, h⟩ := h
                  refine tw_iald X hK w (tw_t_9_13 hT h0) (tw_n_9_13 hT h0) hi77 dX9_runs_207 ?_
                  refine lv_aload_n X.1 X.2.1 dX9_runs_208 rfl (lv_at hl 2 rfl) ?_
                  refine tw_get X hK w 9 iw_X9_runs_9 h0 (by decide) rfl 16 (by decide) (List.mem_of_getElem? (i := 4) rfl) rfl dX9_runs_209 ?_
                  refine lv_ishr X.1 X.2.1 dX9_runs_212 ?_
                  refine lv_iconst (v := 1) X.1 X.2.1 dX9_runs_213 (by decide) ?_
                  refine lv_iand X.1 X.2.1 dX9_runs_214 ?_
                  refine lv_iconst (v := 1) X.1 X.2.1 dX9_runs_215 (by decide) ?_
                  refine lv_icmp_ne (tgt := 223) X.1 X.2.1 dX9_runs_216 (by decide) (fun c78 => ?_) (fun c78 => ?_)
                  · have h := h.1 c78
                    refine lv_iconst (v := -1) X.1 X.2.1 dX9_runs_223 (by decide) ?_
                    refine tw_putI X hK w 9 iw_X9_runs_9 tyX9 tyX9_ok nmX9 h0 (by decide) rfl 14 (by decide) (List.mem_of_getElem? (i := 5) rfl) rfl (ty := .int) (by decide +kernel) rfl rfl (Nat.le_of_ble_eq_true rfl) (tw_f_9_14 g _ _ _) dX9_runs_224 (fun σ79 H locs eσ79 w => ?_)
                    have h := h _ eσ79
                    refine lv_aload_n X.1 X.2.1 dX9_runs_227 rfl (lv_at hl 2 rfl) ?_
                    refine tw_get X hK w 9 iw_X9_runs_9 h0 (by decide) rfl 13 (by decide) (List.mem_of_getElem? (i := 1) rfl) rfl dX9_runs_228 ?_
                    refine lv_iload X.1 X.2.1 dX9_runs_231 (lv_at hl 0 rfl) ?_
                    refine lv_dup2_11 X.1 X.2.1 dX9_runs_233 rfl rfl ?_
                    obtain ⟨hi80, h⟩ := h
                    refine tw_iald X hK w (tw_t_9_13 hT h0) (tw_n_9_13 hT h0) hi80 dX9_runs_234 ?_
                    refine lv_iconst (v := 1) X.1 X.2.1 dX9_runs_235 (by decide) ?_
                    refine lv_aload_n X.1 X.2.1 dX9_runs_236 rfl (lv_at hl 2 rfl) ?_
                    refine tw_get X hK w 9 iw_X9_runs_9 h0 (by decide) rfl 16 (by decide) (List.mem_of_getElem? (i := 4) rfl) rfl dX9_runs_237 ?_
                    refine lv_ishl X.1 X.2.1 dX9_runs_240 ?_
                    refine lv_ior X.1 X.2.1 dX9_runs_241 ?_
                    obtain ⟨hi81, h⟩ := h
                    refine tw_iast X hK w (tw_t_9_13 hT h0) (tw_n_9_13 hT h0) hi81 dX9_runs_242 (fun σ82 H locs eσ82 w => ?_)
                    have h := h _ eσ82
                    refine lv_iload X.1 X.2.1 dX9_runs_243 (lv_at hl 0 rfl) ?_
                    refine lv_istore_n (lv' := [(2, .int (x2 + (-1 : Int32))), (4, .int (x2 + (-1 : Int32))), (3, .int r14), (0, .ref a0), (1, .int x1)]) X.1 X.2.1 dX9_runs_245 rfl hl (by decide) rfl (fun ls hl => ?_)
                    have hl := lv_sub (l' := [(2, .int (x2 + (-1 : Int32))), (0, .ref a0), (1, .int x1)]) hl [0, 3, 4] rfl
                    refine lv_goto (tgt := 50) X.1 X.2.1 dX9_runs_246 (by decide) ?_
                    exact ih (x2 + (-1 : Int32)) σ82 _ _ ls h w (lv_sub hl [1, 2, 0] rfl)
                  · have h := h.2 c78
                    refine lv_iconst (v := 3) X.1 X.2.1 dX9_runs_219 (by decide) ?_
                    refine lv_goto (tgt := 224) X.1 X.2.1 dX9_runs_220 (by decide) ?_
                    refine tw_putI X hK w 9 iw_X9_runs_9 tyX9 tyX9_ok nmX9 h0 (by decide) rfl 14 (by decide) (List.mem_of_getElem? (i := 5) rfl) rfl (ty := .int) (by decide +kernel) rfl rfl (Nat.le_of_ble_eq_true rfl) (tw_f_9_14 g _ _ _) dX9_runs_224 (fun σ83 H locs eσ83 w => ?_)
                    have h := h _ eσ83
                    refine lv_aload_n X.1 X.2.1 dX9_runs_227 rfl (lv_at hl 2 rfl) ?_
                    refine tw_get X hK w 9 iw_X9_runs_9 h0 (by decide) rfl 13 (by decide) (List.mem_of_getElem? (i := 1) rfl) rfl dX9_runs_228 ?_
                    refine lv_iload X.1 X.2.1 dX9_runs_231 (lv_at hl 0 rfl) ?_
                    refine lv_dup2_11 X.1 X.2.1 dX9_runs_233 rfl rfl ?_
                    obtain ⟨hi84, h⟩ := h
                    refine tw_iald X hK w (tw_t_9_13 hT h0) (tw_n_9_13 hT h0) hi84 dX9_runs_234 ?_
                    refine lv_iconst (v := 1) X.1 X.2.1 dX9_runs_235 (by decide) ?_
                    refine lv_aload_n X.1 X.2.1 dX9_runs_236 rfl (lv_at hl 2 rfl) ?_
                    refine tw_get X hK w 9 iw_X9_runs_9 h0 (by decide) rfl 16 (by decide) (List.mem_of_getElem? (i := 4) rfl) rfl dX9_runs_237 ?_
                    refine lv_ishl X.1 X.2.1 dX9_runs_240 ?_
                    refine lv_ior X.1 X.2.1 dX9_runs_241 ?_
                    obtain ⟨hi85, h⟩ := h
                    refine tw_iast X hK w (tw_t_9_13 hT h0) (tw_n_9_13 hT h0) hi85 dX9_runs_242 (fun σ86 H locs eσ86 w => ?_)
                    have h := h _ eσ86
                    refine lv_iload X.1 X.2.1 dX9_runs_243 (lv_at hl 0 rfl) ?_
                    refine lv_istore_n (lv' := [(2, .int (x2 + (-1 : Int32))), (4, .int (x2 + (-1 : Int32))), (3, .int r14), (0, .ref a0), (1, .int x1)]) X.1 X.2.1 dX9_runs_245 rfl hl (by decide) rfl (fun ls hl => ?_)
                    have hl := lv_sub (l' := [(2, .int (x2 + (-1 : Int32))), (0, .ref a0), (1, .int x1)]) hl [0, 3, 4] rfl
                    refine lv_goto (tgt := 50) X.1 X.2.1 dX9_runs_246 (by decide) ?_
                    exact ih (x2 + (-1 : Int32)) σ86 _ _ ls h w (lv_sub hl [1, 2, 0] rfl)
          · have h := h.2 c19
            refine lv_iconst (v := 2) X.1 X.2.1 dX9_runs_125 (by decide) ?_
            refine lv_goto (tgt := 145) X.1 X.2.1 dX9_runs_126 (by decide) ?_
            refine tw_putI X hK w 9 iw_X9_runs_9 tyX9 tyX9_ok nmX9 h0 (by decide) rfl 14 (by decide) (List.mem_of_getElem? (i := 5) rfl) rfl (ty := .int) (by decide +kernel) rfl rfl (Nat.le_of_ble_eq_true rfl) (tw_f_9_14 g _ _ _) dX9_runs_145 (fun σ87 H locs eσ87 w => ?_)
            have h := h _ eσ87
            refine lv_aload_n X.1 X.2.1 dX9_runs_148 rfl (lv_at hl 2 rfl) ?_
            refine tw_get X hK w 9 iw_X9_runs_9 h0 (by decide) rfl 14 (by decide) (List.mem_of_getElem? (i := 5) rfl) rfl dX9_runs_149 ?_
            refine lv_iconst (v := -1) X.1 X.2.1 dX9_runs_152 (by decide) ?_
            refine lv_icmp_ne (tgt := 246) X.1 X.2.1 dX9_runs_153 (by decide) (fun c88 => ?_) (fun c88 => ?_)
            · have h := h.1 c88
              refine lv_goto (tgt := 50) X.1 X.2.1 dX9_runs_246 (by decide) ?_
              exact ih x2 σ87 _ _ ls h w (lv_sub hl [2, 3, 4] rfl)
            · have h := h.2 c88
              refine lv_aload_n X.1 X.2.1 dX9_runs_156 rfl (lv_at hl 2 rfl) ?_
              refine tw_get X hK w 9 iw_X9_runs_9 h0 (by decide) rfl 17 (by decide) (List.mem_of_getElem? (i := 7) rfl) rfl dX9_runs_157 ?_
              refine lv_aload_n X.1 X.2.1 dX9_runs_160 rfl (lv_at hl 2 rfl) ?_
              refine tw_get X hK w 9 iw_X9_runs_9 h0 (by decide) rfl 19 (by decide) (List.mem_of_getElem? (i := 3) rfl) rfl dX9_runs_161 ?_
              refine lv_iload_n X.1 X.2.1 dX9_runs_164 rfl (lv_at hl 4 rfl) ?_
              refine lv_iload X.1 X.2.1 dX9_runs_165 (lv_at hl 0 rfl) ?_
              refine lv_icmp_ge (tgt := 174) X.1 X.2.1 dX9_runs_167 (by decide) (fun c89 => ?_) (fun c89 => ?_)
              · have h := h.1 c89
                refine lv_iload X.1 X.2.1 dX9_runs_174 (lv_at hl 0 rfl) ?_
                obtain ⟨hi90, h⟩ := h
                refine tw_iast X hK w (tw_t_9_17 hT h0) (tw_n_9_17 hT h0) hi90 dX9_runs_176 (fun σ91 H locs eσ91 w => ?_)
                have h := h _ eσ91
                refine lv_aload_n X.1 X.2.1 dX9_runs_177 rfl (lv_at hl 2 rfl) ?_
                refine tw_get X hK w 9 iw_X9_runs_9 h0 (by decide) rfl 18 (by decide) (List.mem_of_getElem? (i := 8) rfl) rfl dX9_runs_178 ?_
                refine lv_aload_n X.1 X.2.1 dX9_runs_181 rfl (lv_at hl 2 rfl) ?_
                refine tw_get X hK w 9 iw_X9_runs_9 h0 (by decide) rfl 19 (by decide) (List.mem_of_getElem? (i := 3) rfl) rfl dX9_runs_182 ?_
                refine lv_aload_n X.1 X.2.1 dX9_runs_185 rfl (lv_at hl 2 rfl) ?_
                refine tw_get X hK w 9 iw_X9_runs_9 h0 (by decide) rfl 16 (by decide) (List.mem_of_getElem? (i := 4) rfl) rfl dX9_runs_186 ?_
                obtain ⟨hi92, h⟩ := h
                refine tw_iast X hK w (tw_t_9_18 hT h0) (tw_n_9_18 hT h0) hi92 dX9_runs_189 (fun σ93 H locs eσ93 w => ?_)
                have h := h _ eσ93
                refine lv_aload_n X.1 X.2.1 dX9_runs_190 rfl (lv_at hl 2 rfl) ?_
                refine lv_dup X.1 X.2.1 dX9_runs_191 rfl ?_
                refine tw_get X hK w 9 iw_X9_runs_9 h0 (by decide) rfl 19 (by decide) (List.mem_of_getElem? (i := 3) rfl) rfl dX9_runs_192 ?_
                refine lv_iconst (v := 1) X.1 X.2.1 dX9_runs_195 (by decide) ?_
                refine lv_iadd X.1 X.2.1 dX9_runs_196 ?_
                refine tw_putI X hK w 9 iw_X9_runs_9 tyX9 tyX9_ok nmX9 h0 (by decide) rfl 19 (by decide) (List.mem_of_getElem? (i := 3) rfl) rfl (ty := .int) (by decide +kernel) rfl rfl (Nat.le_of_ble_eq_true rfl) (tw_f_9_19 g _ _ _) dX9_runs_197 (fun σ94 H locs eσ94 w => ?_)
                have h := h _ eσ94
                refine lv_aload_n X.1 X.2.1 dX9_runs_200 rfl (lv_at hl 2 rfl) ?_
                refine lv_aload_n X.1 X.2.1 dX9_runs_201 rfl (lv_at hl 2 rfl) ?_
                refine tw_get X hK w 9 iw_X9_runs_9 h0 (by decide) rfl 13 (by decide) (List.mem_of_getElem? (i := 1) rfl) rfl dX9_runs_202 ?_
                refine lv_iload X.1 X.2.1 dX9_runs_205 (lv_at hl 0 rfl) ?_
                obtain ⟨hi95, h⟩ := h
                refine tw_iald X hK w (tw_t_9_13 hT h0) (tw_n_9_13 hT h0) hi95 dX9_runs_207 ?_
                refine lv_aload_n X.1 X.2.1 dX9_runs_208 rfl (lv_at hl 2 rfl) ?_
                refine tw_get X hK w 9 iw_X9_runs_9 h0 (by decide) rfl 16 (by decide) (List.mem_of_getElem? (i := 4) rfl) rfl dX9_runs_209 ?_
                refine lv_ishr X.1 X.2.1 dX9_runs_212 ?_
                refine lv_iconst (v := 1) X.1 X.2.1 dX9_runs_213 (by decide) ?_
                refine lv_iand X.1 X.2.1 dX9_runs_214 ?_
                refine lv_iconst (v := 1) X.1 X.2.1 dX9_runs_215 (by decide) ?_
                refine lv_icmp_ne (tgt := 223) X.1 X.2.1 dX9_runs_216 (by decide) (fun c96 => ?_) (fun c96 => ?_)
                · have h := h.1 c96
                  refine lv_iconst (v := -1) X.1 X.2.1 dX9_runs_223 (by decide) ?_
                  refine tw_putI X hK w 9 iw_X9_runs_9 tyX9 tyX9_ok nmX9 h0 (by decide) rfl 14 (by decide) (List.mem_of_getElem? (i := 5) rfl) rfl (ty := .int) (by decide +kernel) rfl rfl (Nat.le_of_ble_eq_true rfl) (tw_f_9_14 g _ _ _) dX9_runs_224 (fun σ97 H locs eσ97 w => ?_)
                  have h := h _ eσ97
                  refine lv_aload_n X.1 X.2.1 dX9_runs_227 rfl (lv_at hl 2 rfl) ?_
                  refine tw_get X hK w 9 iw_X9_runs_9 h0 (by decide) rfl 13 (by decide) (List.mem_of_getElem? (i := 1) rfl) rfl dX9_runs_228 ?_
                  refine lv_iload X.1 X.2.1 dX9_runs_231 (lv_at hl 0 rfl) ?_
                  refine lv_dup2_11 X.1 X.2.1 dX9_runs_233 rfl rfl ?_
                  obtain ⟨hi98, h⟩ := h
                  refine tw_iald X hK w (tw_t_9_13 hT h0) (tw_n_9_13 hT h0) hi98 dX9_runs_234 ?_
                  refine lv_iconst (v := 1) X.1 X.2.1 dX9_runs_235 (by decide) ?_
                  refine lv_aload_n X.1 X.2.1 dX9_runs_236 rfl (lv_at hl 2 rfl) ?_
                  refine tw_get X hK w 9 iw_X9_runs_9 h0 (by decide) rfl 16 (by decide) (List.mem_of_getElem? (i := 4) rfl) rfl dX9_runs_237 ?_
                  refine lv_ishl X.1 X.2.1 dX9_runs_240 ?_
                  refine lv_ior X.1 X.2.1 dX9_runs_241 ?_
                  obtain ⟨hi99, h⟩ := h
                  refine tw_iast X hK w (tw_t_9_13 hT h0) (tw_n_9_13 hT h0) hi99 dX9_runs_242 (fun σ100 H locs eσ100 w => ?_)
                  have h := h _ eσ100
                  refine lv_iload X.1 X.2.1 dX9_runs_243 (lv_at hl 0 rfl) ?_
                  refine lv_istore_n (lv' := [(2, .int (x2 + (-1 : Int32))), (4, .int (x2 + (-1 : Int32))), (3, .int r14), (0, .ref a0), (1, .int x1)]) X.1 X.2.1 dX9_runs_245 rfl hl (by decide) rfl (fun ls hl => ?_)
                  have hl := lv_sub (l' := [(2, .int (x2 + (-1 : Int32))), (0, .ref a0), (1, .int x1)]) hl [0, 3, 4] rfl
                  refine lv_goto (tgt := 50) X.1 X.2.1 dX9_runs_246 (by decide) ?_
                  exact ih (x2 + (-1 : Int32)) σ100 _ _ ls h w (lv_sub hl [1, 2, 0] rfl)
                · have h := h.2 c96
                  refine lv_iconst (v := 3) X.1 X.2.1 dX9_runs_219 (by decide) ?_
                  refine lv_goto (tgt := 224) X.1 X.2.1 dX9_runs_220 (by decide) ?_
                  refine tw_putI X hK w 9 iw_X9_runs_9 tyX9 tyX9_ok nmX9 h0 (by decide) rfl 14 (by decide) (List.mem_of_getElem? (i := 5) rfl) rfl (ty := .int) (by decide +kernel) rfl rfl (Nat.le_of_ble_eq_true rfl) (tw_f_9_14 g _ _ _) dX9_runs_224 (fun σ101 H locs eσ101 w => ?_)
                  have h := h _ eσ101
                  refine lv_aload_n X.1 X.2.1 dX9_runs_227 rfl (lv_at hl 2 rfl) ?_
                  refine tw_get X hK w 9 iw_X9_runs_9 h0 (by decide) rfl 13 (by decide) (List.mem_of_getElem? (i := 1) rfl) rfl dX9_runs_228 ?_
                  refine lv_iload X.1 X.2.1 dX9_runs_231 (lv_at hl 0 rfl) ?_
                  refine lv_dup2_11 X.1 X.2.1 dX9_runs_233 rfl rfl ?_
                  obtain ⟨hi102, h⟩ := h
                  refine tw_iald X hK w (tw_t_9_13 hT h0) (tw_n_9_13 hT h0) hi102 dX9_runs_234 ?_
                  refine lv_iconst (v := 1) X.1 X.2.1 dX9_runs_235 (by decide) ?_
                  refine lv_aload_n X.1 X.2.1 dX9_runs_236 rfl (lv_at hl 2 rfl) ?_
                  refine tw_get X hK w 9 iw_X9_runs_9 h0 (by decide) rfl 16 (by decide) (List.mem_of_getElem? (i := 4) rfl) rfl dX9_runs_237 ?_
                  refine lv_ishl X.1 X.2.1 dX9_runs_240 ?_
                  refine lv_ior X.1 X.2.1 dX9_runs_241 ?_
                  obtain ⟨hi103, h⟩ := h
                  refine tw_iast X hK w (tw_t_9_13 hT h0) (tw_n_9_13 hT h0) hi103 dX9_runs_242 (fun σ104 H locs eσ104 w => ?_)
                  have h := h _ eσ104
                  refine lv_iload X.1 X.2.1 dX9_runs_243 (lv_at hl 0 rfl) ?_
                  refine lv_istore_n (lv' := [(2, .int (x2 + (-1 : Int32))), (4, .int (x2 + (-1 : Int32))), (3, .int r14), (0, .ref a0), (1, .int x1)]) X.1 X.2.1 dX9_runs_245 rfl hl (by decide) rfl (fun ls hl => ?_)
                  have hl := lv_sub (l' := [(2, .int (x2 + (-1 : Int32))), (0, .ref a0), (1, .int x1)]) hl [0, 3, 4] rfl
                  refine lv_goto (tgt := 50) X.1 X.2.1 dX9_runs_246 (by decide) ?_
                  exact ih (x2 + (-1 : Int32)) σ104 _ _ ls h w (lv_sub hl [1, 2, 0] rfl)
              · have h := h.2 c89
                refine lv_iload_n X.1 X.2.1 dX9_runs_170 rfl (lv_at hl 4 rfl) ?_
                refine lv_goto (tgt := 176) X.1 X.2.1 dX9_runs_171 (by decide) ?_
                obtain ⟨hi105, h⟩ := h
                refine tw_iast X hK w (tw_t_9_17 hT h0) (tw_n_9_17 hT h0) hi105 dX9_runs_176 (fun σ106 H locs eσ106 w => ?_)
                have h := h _ eσ106
                refine lv_aload_n X.1 X.2.1 dX9_runs_177 rfl (lv_at hl 2 rfl) ?_
                refine tw_get X hK w 9 iw_X9_runs_9 h0 (by decide) rfl 18 (by decide) (List.mem_of_getElem? (i := 8) rfl) rfl dX9_runs_178 ?_
                refine lv_aload_n X.1 X.2.1 dX9_runs_181 rfl (lv_at hl 2 rfl) ?_
                refine tw_get X hK w 9 iw_X9_runs_9 h0 (by decide) rfl 19 (by decide) (List.mem_of_getElem? (i := 3) rfl) rfl dX9_runs_182 ?_
                refine lv_aload_n X.1 X.2.1 dX9_runs_185 rfl (lv_at hl 2 rfl) ?_
                refine tw_get X hK w 9 iw_X9_runs_9 h0 (by decide) rfl 16 (by decide) (List.mem_of_getElem? (i := 4) rfl) rfl dX9_runs_186 ?_
                obtain ⟨hi107, h⟩ := h
                refine tw_iast X hK w (tw_t_9_18 hT h0) (tw_n_9_18 hT h0) hi107 dX9_runs_189 (fun σ108 H locs eσ108 w => ?_)
                have h := h _ eσ108
                refine lv_aload_n X.1 X.2.1 dX9_runs_190 rfl (lv_at hl 2 rfl) ?_
                refine lv_dup X.1 X.2.1 dX9_runs_191 rfl ?_
                refine tw_get X hK w 9 iw_X9_runs_9 h0 (by decide) rfl 19 (by decide) (List.mem_of_getElem? (i := 3) rfl) rfl dX9_runs_192 ?_
                refine lv_iconst (v := 1) X.1 X.2.1 dX9_runs_195 (by decide) ?_
                refine lv_iadd X.1 X.2.1 dX9_runs_196 ?_
                refine tw_putI X hK w 9 iw_X9_runs_9 tyX9 tyX9_ok nmX9 h0 (by decide) rfl 19 (by decide) (List.mem_of_getElem? (i := 3) rfl) rfl (ty := .int) (by decide +kernel) rfl rfl (Nat.le_of_ble_eq_true rfl) (tw_f_9_19 g _ _ _) dX9_runs_197 (fun σ109 H locs eσ109 w => ?_)
                have h := h _ eσ109
                refine lv_aload_n X.1 X.2.1 dX9_runs_200 rfl (lv_at hl 2 rfl) ?_
                refine lv_aload_n X.1 X.2.1 dX9_runs_201 rfl (lv_at hl 2 rfl) ?_
                refine tw_get X hK w 9 iw_X9_runs_9 h0 (by decide) rfl 13 (by decide) (List.mem_of_getElem? (i := 1) rfl) rfl dX9_runs_202 ?_
                refine lv_iload X.1 X.2.1 dX9_runs_205 (lv_at hl 0 rfl) ?_
                obtain ⟨hi110, h⟩ := h
                refine tw_iald X hK w (tw_t_9_13 hT h0) (tw_n_9_13 hT h0) hi110 dX9_runs_207 ?_
                refine lv_aload_n X.1 X.2.1 dX9_runs_208 rfl (lv_at hl 2 rfl) ?_
                refine tw_get X hK w 9 iw_X9_runs_9 h0 (by decide) rfl 16 (by decide) (List.mem_of_getElem? (i := 4) rfl) rfl dX9_runs_209 ?_
                refine lv_ishr X.1 X.2.1 dX9_runs_212 ?_
                refine lv_iconst (v := 1) X.1 X.2.1 dX9_runs_213 (by decide) ?_
                refine lv_iand X.1 X.2.1 dX9_runs_214 ?_
                refine lv_iconst (v := 1) X.1 X.2.1 dX9_runs_215 (by decide) ?_
                refine lv_icmp_ne (tgt := 223) X.1 X.2.1 dX9_runs_216 (by decide) (fun c111 => ?_) (fun c111 => ?_)
                · have h := h.1 c111
                  refine lv_iconst (v := -1) X.1 X.2.1 dX9_runs_223 (by decide) ?_
                  refine tw_putI X hK w 9 iw_X9_runs_9 tyX9 tyX9_ok nmX9 h0 (by decide) rfl 14 (by decide) (List.mem_of_getElem? (i := 5) rfl) rfl (ty := .int) (by decide +kernel) rfl rfl (Nat.le_of_ble_eq_true rfl) (tw_f_9_14 g _ _ _) dX9_runs_224 (fun σ112 H locs eσ112 w => ?_)
                  have h := h _ eσ112
                  refine lv_aload_n X.1 X.2.1 dX9_runs_227 rfl (lv_at hl 2 rfl) ?_
                  refine tw_get X hK w 9 iw_X9_runs_9 h0 (by decide) rfl 13 (by decide) (List.mem_of_getElem? (i := 1) rfl) rfl dX9_runs_228 ?_
                  refine lv_iload X.1 X.2.1 dX9_runs_231 (lv_at hl 0 rfl) ?_
                  refine lv_dup2_11 X.1 X.2.1 dX9_runs_233 rfl rfl ?_
                  obtain ⟨hi113, h⟩ := h
                  refine tw_iald X hK w (tw_t_9_13 hT h0) (tw_n_9_13 hT h0) hi113 dX9_runs_234 ?_
                  refine lv_iconst (v := 1) X.1 X.2.1 dX9_runs_235 (by decide) ?_
                  refine lv_aload_n X.1 X.2.1 dX9_runs_236 rfl (lv_at hl 2 rfl) ?_
                  refine tw_get X hK w 9 iw_X9_runs_9 h0 (by decide) rfl 16 (by decide) (List.mem_of_getElem? (i := 4) rfl) rfl dX9_runs_237 ?_
                  refine lv_ishl X.1 X.2.1 dX9_runs_240 ?_
                  refine lv_ior X.1 X.2.1 dX9_runs_241 ?_
                  obtain ⟨hi114, h⟩ := h
                  refine tw_iast X hK w (tw_t_9_13 hT h0) (tw_n_9_13 hT h0) hi114 dX9_runs_242 (fun σ115 H locs eσ115 w => ?_)
                  have h := h _ eσ115
                  refine lv_iload X.1 X.2.1 dX9_runs_243 (lv_at hl 0 rfl) ?_
                  refine lv_istore_n (lv' := [(2, .int (x2 + (-1 : Int32))), (4, .int (x2 + (-1 : Int32))), (3, .int r14), (0, .ref a0), (1, .int x1)]) X.1 X.2.1 dX9_runs_245 rfl hl (by decide) rfl (fun ls hl => ?_)
                  have hl := lv_sub (l' := [(2, .int (x2 + (-1 : Int32))), (0, .ref a0), (1, .int x1)]) hl [0, 3, 4] rfl
                  refine lv_goto (tgt := 50) X.1 X.2.1 dX9_runs_246 (by decide) ?_
                  exact ih (x2 + (-1 : Int32)) σ115 _ _ ls h w (lv_sub hl [1, 2, 0] rfl)
                · have h := h.2 c111
                  refine lv_iconst (v := 3) X.1 X.2.1 dX9_runs_219 (by decide) ?_
                  refine lv_goto (tgt := 224) X.1 X.2.1 dX9_runs_220 (by decide) ?_
                  refine tw_putI X hK w 9 iw_X9_runs_9 tyX9 tyX9_ok nmX9 h0 (by decide) rfl 14 (by decide) (List.mem_of_getElem? (i := 5) rfl) rfl (ty := .int) (by decide +kernel) rfl rfl (Nat.le_of_ble_eq_true rfl) (tw_f_9_14 g _ _ _) dX9_runs_224 (fun σ116 H locs eσ116 w => ?_)
                  have h := h _ eσ116
                  refine lv_aload_n X.1 X.2.1 dX9_runs_227 rfl (lv_at hl 2 rfl) ?_
                  refine tw_get X hK w 9 iw_X9_runs_9 h0 (by decide) rfl 13 (by decide) (List.mem_of_getElem? (i := 1) rfl) rfl dX9_runs_228 ?_
                  refine lv_iload X.1 X.2.1 dX9_runs_231 (lv_at hl 0 rfl) ?_
                  refine lv_dup2_11 X.1 X.2.1 dX9_runs_233 rfl rfl ?_
                  obtain ⟨hi117, h⟩ := h
                  refine tw_iald X hK w (tw_t_9_13 hT h0) (tw_n_9_13 hT h0) hi117 dX9_runs_234 ?_
                  refine lv_iconst (v := 1) X.1 X.2.1 dX9_runs_235 (by decide) ?_
                  refine lv_aload_n X.1 X.2.1 dX9_runs_236 rfl (lv_at hl 2 rfl) ?_
                  refine tw_get X hK w 9 iw_X9_runs_9 h0 (by decide) rfl 16 (by decide) (List.mem_of_getElem? (i := 4) rfl) rfl dX9_runs_237 ?_
                  refine lv_ishl X.1 X.2.1 dX9_runs_240 ?_
                  refine lv_ior X.1 X.2.1 dX9_runs_241 ?_
                  obtain ⟨hi118, h⟩ := h
                  refine tw_iast X hK w (tw_t_9_13 hT h0) (tw_n_9_13 hT h0) hi118 dX9_runs_242 (fun σ119 H locs eσ119 w => ?_)
                  have h := h _ eσ119
                  refine lv_iload X.1 X.2.1 dX9_runs_243 (lv_at hl 0 rfl) ?_
                  refine lv_istore_n (lv' := [(2, .int (x2 + (-1 : Int32))), (4, .int (x2 + (-1 : Int32))), (3, .int r14), (0, .ref a0), (1, .int x1)]) X.1 X.2.1 dX9_runs_245 rfl hl (by decide) rfl (fun ls hl => ?_)
                  have hl := lv_sub (l' := [(2, .int (x2 + (-1 : Int32))), (0, .ref a0), (1, .int x1)]) hl [0, 3, 4] rfl
                  refine lv_goto (tgt := 50) X.1 X.2.1 dX9_runs_246 (by decide) ?_
                  exact ih (x2 + (-1 : Int32)) σ119 _ _ ls h w (lv_sub hl [1, 2, 0] rfl)
        · have h := h.2 c16
          refine lv_iconst (v := 1) X.1 X.2.1 dX9_runs_94 (by decide) ?_
          refine lv_goto (tgt := 99) X.1 X.2.1 dX9_runs_95 (by decide) ?_
          refine lv_iadd X.1 X.2.1 dX9_runs_99 ?_
          refine lv_istore (lv' := [(4, .int (x2 + (1 : Int32))), (3, .int r14), (0, .ref a0), (1, .int x1), (2, .int x2)]) X.1 X.2.1 dX9_runs_100 hl (by decide) rfl (fun ls hl => ?_)
          refine lv_aload_n X.1 X.2.1 dX9_runs_102 rfl (lv_at hl 2 rfl) ?_
          refine lv_iload_n X.1 X.2.1 dX9_runs_103 rfl (lv_at hl 1 rfl) ?_
          refine lv_iconst (v := 2) X.1 X.2.1 dX9_runs_104 (by decide) ?_
          refine lv_idiv X.1 X.2.1 dX9_runs_105 (by decide) ?_
          refine tw_putI X hK w 9 iw_X9_runs_9 tyX9 tyX9_ok nmX9 h0 (by decide) rfl 16 (by decide) (List.mem_of_getElem? (i := 4) rfl) rfl (ty := .int) (by decide +kernel) rfl rfl (Nat.le_of_ble_eq_true rfl) (tw_f_9_16 g _ _ _) dX9_runs_106 (fun σ120 H locs eσ120 w => ?_)
          have h := h _ eσ120
          refine lv_aload_n X.1 X.2.1 dX9_runs_109 rfl (lv_at hl 2 rfl) ?_
          refine lv_dup X.1 X.2.1 dX9_runs_110 rfl ?_
          refine tw_get X hK w 9 iw_X9_runs_9 h0 (by decide) rfl 15 (by decide) (List.mem_of_getElem? (i := 2) rfl) rfl dX9_runs_111 ?_
          refine lv_iconst (v := 1) X.1 X.2.1 dX9_runs_114 (by decide) ?_
          refine lv_iadd X.1 X.2.1 dX9_runs_115 ?_
          refine tw_putI X hK w 9 iw_X9_runs_9 tyX9 tyX9_ok nmX9 h0 (by decide) rfl 15 (by decide) (List.mem_of_getElem? (i := 2) rfl) rfl (ty := .int) (by decide +kernel) rfl rfl (Nat.le_of_ble_eq_true rfl) (tw_f_9_15 g _ _ _) dX9_runs_116 (fun σ121 H locs eσ121 w => ?_)
          have h := h _ eσ121
          refine lv_aload_n X.1 X.2.1 dX9_runs_119 rfl (lv_at hl 2 rfl) ?_
          refine lv_iload X.1 X.2.1 dX9_runs_120 (lv_at hl 0 rfl) ?_
          refine lv_if_ge (tgt := 129) X.1 X.2.1 dX9_runs_122 (by decide) (fun c122 => ?_) (fun c122 => ?_)
          · have h := h.1 c122
            refine lv_iload X.1 X.2.1 dX9_runs_129 (lv_at hl 0 rfl) ?_
            refine lv_aload_n X.1 X.2.1 dX9_runs_131 rfl (lv_at hl 2 rfl) ?_
            refine tw_get X hK w 9 iw_X9_runs_9 h0 (by decide) rfl 12 (by decide) (List.mem_of_getElem? (i := 6) rfl) rfl dX9_runs_132 ?_
            refine lv_iconst (v := 1) X.1 X.2.1 dX9_runs_135 (by decide) ?_
            refine lv_iadd X.1 X.2.1 dX9_runs_136 ?_
            refine lv_icmp_le (tgt := 144) X.1 X.2.1 dX9_runs_137 (by decide) (fun c123 => ?_) (fun c123 => ?_)
            · have h := h.1 c123
              refine lv_iconst (v := -1) X.1 X.2.1 dX9_runs_144 (by decide) ?_
              refine tw_putI X hK w 9 iw_X9_runs_9 tyX9 tyX9_ok nmX9 h0 (by decide) rfl 14 (by decide) (List.mem_of_getElem? (i := 5) rfl) rfl (ty := .int) (by decide +kernel) rfl rfl (Nat.le_of_ble_eq_true rfl) (tw_f_9_14 g _ _ _) dX9_runs_145 (fun σ124 H locs eσ124 w => ?_)
              have h := h _ eσ124
              refine lv_aload_n X.1 X.2.1 dX9_runs_148 rfl (lv_at hl 2 rfl) ?_
              refine tw_get X hK w 9 iw_X9_runs_9 h0 (by decide) rfl 14 (by decide) (List.mem_of_getElem? (i := 5) rfl) rfl dX9_runs_149 ?_
              refine lv_iconst (v := -1) X.1 X.2.1 dX9_runs_152 (by decide) ?_
              refine lv_icmp_ne (tgt := 246) X.1 X.2.1 dX9_runs_153 (by decide) (fun c125 => ?_) (fun c125 => ?_)
              · have h := h.1 c125
                refine lv_goto (tgt := 50) X.1 X.2.1 dX9_runs_246 (by decide) ?_
                exact ih x2 σ124 _ _ ls h w (lv_sub hl [2, 3, 4] rfl)
              · have h := h.2 c125
                refine lv_aload_n X.1 X.2.1 dX9_runs_156 rfl (lv_at hl 2 rfl) ?_
                refine tw_get X hK w 9 iw_X9_runs_9 h0 (by decide) rfl 17 (by decide) (List.mem_of_getElem? (i := 7) rfl) rfl dX9_runs_157 ?_
                refine lv_aload_n X.1 X.2.1 dX9_runs_160 rfl (lv_at hl 2 rfl) ?_
                refine tw_get X hK w 9 iw_X9_runs_9 h0 (by decide) rfl 19 (by decide) (List.mem_of_getElem? (i := 3) rfl) rfl dX9_runs_161 ?_
                refine lv_iload_n X.1 X.2.1 dX9_runs_164 rfl (lv_at hl 4 rfl) ?_
                refine lv_iload X.1 X.2.1 dX9_runs_165 (lv_at hl 0 rfl) ?_
                refine lv_icmp_ge (tgt := 174) X.1 X.2.1 dX9_runs_167 (by decide) (fun c126 => ?_) (fun c126 => ?_)
                · have h := h.1 c126
                  refine lv_iload X.1 X.2.1 dX9_runs_174 (lv_at hl 0 rfl) ?_
                  obtain ⟨hi127, h⟩ := h
                  refine tw_iast X hK w (tw_t_9_17 hT h0) (tw_n_9_17 hT h0) hi127 dX9_runs_176 (fun σ128 H locs eσ128 w => ?_)
                  have h := h _ eσ128
                  refine lv_aload_n X.1 X.2.1 dX9_runs_177 rfl (lv_at hl 2 rfl) ?_
                  refine tw_get X hK w 9 iw_X9_runs_9 h0 (by decide) rfl 18 (by decide) (List.mem_of_getElem? (i := 8) rfl) rfl dX9_runs_178 ?_
                  refine lv_aload_n X.1 X.2.1 dX9_runs_181 rfl (lv_at hl 2 rfl) ?_
                  refine tw_get X hK w 9 iw_X9_runs_9 h0 (by decide) rfl 19 (by decide) (List.mem_of_getElem? (i := 3) rfl) rfl dX9_runs_182 ?_
                  refine lv_aload_n X.1 X.2.1 dX9_runs_185 rfl (lv_at hl 2 rfl) ?_
                  refine tw_get X hK w 9 iw_X9_runs_9 h0 (by decide) rfl 16 (by decide) (List.mem_of_getElem? (i := 4) rfl) rfl dX9_runs_186 ?_
                  obtain ⟨hi129, h⟩ := h
                  refine tw_iast X hK w (tw_t_9_18 hT h0) (tw_n_9_18 hT h0) hi129 dX9_runs_189 (fun σ130 H locs eσ130 w => ?_)
                  have h := h _ eσ130
                  refine lv_aload_n X.1 X.2.1 dX9_runs_190 rfl (lv_at hl 2 rfl) ?_
                  refine lv_dup X.1 X.2.1 dX9_runs_191 rfl ?_
                  refine tw_get X hK w 9 iw_X9_runs_9 h0 (by decide) rfl 19 (by decide) (List.mem_of_getElem? (i := 3) rfl) rfl dX9_runs_192 ?_
                  refine lv_iconst (v := 1) X.1 X.2.1 dX9_runs_195 (by decide) ?_
                  refine lv_iadd X.1 X.2.1 dX9_runs_196 ?_
                  refine tw_putI X hK w 9 iw_X9_runs_9 tyX9 tyX9_ok nmX9 h0 (by decide) rfl 19 (by decide) (List.mem_of_getElem? (i := 3) rfl) rfl (ty := .int) (by decide +kernel) rfl rfl (Nat.le_of_ble_eq_true rfl) (tw_f_9_19 g _ _ _) dX9_runs_197 (fun σ131 H locs eσ131 w => ?_)
                  have h := h _ eσ131
                  refine lv_aload_n X.1 X.2.1 dX9_runs_200 rfl (lv_at hl 2 rfl) ?_
                  refine lv_aload_n X.1 X.2.1 dX9_runs_201 rfl (lv_at hl 2 rfl) ?_
                  refine tw_get X hK w 9 iw_X9_runs_9 h0 (by decide) rfl 13 (by decide) (List.mem_of_getElem? (i := 1) rfl) rfl dX9_runs_202 ?_
                  refine lv_iload X.1 X.2.1 dX9_runs_205 (lv_at hl 0 rfl) ?_
                  obtain ⟨hi132, h⟩ := h
                  refine tw_iald X hK w (tw_t_9_13 hT h0) (tw_n_9_13 hT h0) hi132 dX9_runs_207 ?_
                  refine lv_aload_n X.1 X.2.1 dX9_runs_208 rfl (lv_at hl 2 rfl) ?_
                  refine tw_get X hK w 9 iw_X9_runs_9 h0 (by decide) rfl 16 (by decide) (List.mem_of_getElem? (i := 4) rfl) rfl dX9_runs_209 ?_
                  refine lv_ishr X.1 X.2.1 dX9_runs_212 ?_
                  refine lv_iconst (v := 1) X.1 X.2.1 dX9_runs_213 (by decide) ?_
                  refine lv_iand X.1 X.2.1 dX9_runs_214 ?_
                  refine lv_iconst (v := 1) X.1 X.2.1 dX9_runs_215 (by decide) ?_
                  refine lv_icmp_ne (tgt := 223) X.1 X.2.1 dX9_runs_216 (by decide) (fun c133 => ?_) (fun c133 => ?_)
                  · have h := h.1 c133
                    refine lv_iconst (v := -1) X.1 X.2.1 dX9_runs_223 (by decide) ?_
                    refine tw_putI X hK w 9 iw_X9_runs_9 tyX9 tyX9_ok nmX9 h0 (by decide) rfl 14 (by decide) (List.mem_of_getElem? (i := 5) rfl) rfl (ty := .int) (by decide +kernel) rfl rfl (Nat.le_of_ble_eq_true rfl) (tw_f_9_14 g _ _ _) dX9_runs_224 (fun σ134 H locs eσ134 w => ?_)
                    have h := h _ eσ134
                    refine lv_aload_n X.1 X.2.1 dX9_runs_227 rfl (lv_at hl 2 rfl) ?_
                    refine tw_get X hK w 9 iw_X9_runs_9 h0 (by decide) rfl 13 (by decide) (List.mem_of_getElem? (i := 1) rfl) rfl dX9_runs_228 ?_
                    refine lv_iload X.1 X.2.1 dX9_runs_231 (lv_at hl 0 rfl) ?_
                    refine lv_dup2_11 X.1 X.2.1 dX9_runs_233 rfl rfl ?_
                    obtain ⟨hi135, h⟩ := h
                    refine tw_iald X hK w (tw_t_9_13 hT h0) (tw_n_9_13 hT h0) hi135 dX9_runs_234 ?_
                    refine lv_iconst (v := 1) X.1 X.2.1 dX9_runs_235 (by decide) ?_
                    refine lv_aload_n X.1 X.2.1 dX9_runs_236 rfl (lv_at hl 2 rfl) ?_
                    refine tw_get X hK w 9 iw_X9_runs_9 h0 (by decide) rfl 16 (by decide) (List.mem_of_getElem? (i := 4) rfl) rfl dX9_runs_237 ?_
                    refine lv_ishl X.1 X.2.1 dX9_runs_240 ?_
                    refine lv_ior X.1 X.2.1 dX9_runs_241 ?_
                    obtain ⟨hi136, h⟩ := h
                    refine tw_iast X hK w (tw_t_9_13 hT h0) (tw_n_9_13 hT h0) hi136 dX9_runs_242 (fun σ137 H locs eσ137 w => ?_)
                    have h := h _ eσ137
                    refine lv_iload X.1 X.2.1 dX9_runs_243 (lv_at hl 0 rfl) ?_
                    refine lv_istore_n (lv' := [(2, .int (x2 + (1 : Int32))), (4, .int (x2 + (1 : Int32))), (3, .int r14), (0, .ref a0), (1, .int x1)]) X.1 X.2.1 dX9_runs_245 rfl hl (by decide) rfl (fun ls hl => ?_)
                    have hl := lv_sub (l' := [(2, .int (x2 + (1 : Int32))), (0, .ref a0), (1, .int x1)]) hl [0, 3, 4] rfl
                    refine lv_goto (tgt := 50) X.1 X.2.1 dX9_runs_246 (by decide) ?_
                    exact ih (x2 + (1 : Int32)) σ137 _ _ ls h w (lv_sub hl [1, 2, 0] rfl)
                  · have h := h.2 c133
                    refine lv_iconst (v := 3) X.1 X.2.1 dX9_runs_219 (by decide) ?_
                    refine lv_goto (tgt := 224) X.1 X.2.1 dX9_runs_220 (by decide) ?_
                    refine tw_putI X hK w 9 iw_X9_runs_9 tyX9 tyX9_ok nmX9 h0 (by decide) rfl 14 (by decide) (List.mem_of_getElem? (i := 5) rfl) rfl (ty := .int) (by decide +kernel) rfl rfl (Nat.le_of_ble_eq_true rfl) (tw_f_9_14 g _ _ _) dX9_runs_224 (fun σ138 H locs eσ138 w => ?_)
                    have h := h _ eσ138
                    refine lv_aload_n X.1 X.2.1 dX9_runs_227 rfl (lv_at hl 2 rfl) ?_
                    refine tw_get X hK w 9 iw_X9_runs_9 h0 (by decide) rfl 13 (by decide) (List.mem_of_getElem? (i := 1) rfl) rfl dX9_runs_228 ?_
                    refine lv_iload X.1 X.2.1 dX9_runs_231 (lv_at hl 0 rfl) ?_
                    refine lv_dup2_11 X.1 X.2.1 dX9_runs_233 rfl rfl ?_
                    obtain ⟨hi139, h⟩ := h
                    refine tw_iald X hK w (tw_t_9_13 hT h0) (tw_n_9_13 hT h0) hi139 dX9_runs_234 ?_
                    refine lv_iconst (v := 1) X.1 X.2.1 dX9_runs_235 (by decide) ?_
                    refine lv_aload_n X.1 X.2.1 dX9_runs_236 rfl (lv_at hl 2 rfl) ?_
                    refine tw_get X hK w 9 iw_X9_runs_9 h0 (by decide) rfl 16 (by decide) (List.mem_of_getElem? (i := 4) rfl) rfl dX9_runs_237 ?_
                    refine lv_ishl X.1 X.2.1 dX9_runs_240 ?_
                    refine lv_ior X.1 X.2.1 dX9_runs_241 ?_
                    obtain ⟨hi140, h⟩ := h
                    refine tw_iast X hK w (tw_t_9_13 hT h0) (tw_n_9_13 hT h0) hi140 dX9_runs_242 (fun σ141 H locs eσ141 w => ?_)
                    have h := h _ eσ141
                    refine lv_iload X.1 X.2.1 dX9_runs_243 (lv_at hl 0 rfl) ?_
                    refine lv_istore_n (lv' := [(2, .int (x2 + (1 : Int32))), (4, .int (x2 + (1 : Int32))), (3, .int r14), (0, .ref a0), (1, .int x1)]) X.1 X.2.1 dX9_runs_245 rfl hl (by decide) rfl (fun ls hl => ?_)
                    have hl := lv_sub (l' := [(2, .int (x2 + (1 : Int32))), (0, .ref a0), (1, .int x1)]) hl [0, 3, 4] rfl
                    refine lv_goto (tgt := 50) X.1 X.2.1 dX9_runs_246 (by decide) ?_
                    exact ih (x2 + (1 : Int32)) σ141 _ _ ls h w (lv_sub hl [1, 2, 0] rfl)
                · have h := h.2 c126
                  refine lv_iload_n X.1 X.2.1 dX9_runs_170 rfl (lv_at hl 4 rfl) ?_
                  refine lv_goto (tgt := 176) X.1 X.2.1 dX9_runs_171 (by decide) ?_
                  obtain ⟨hi142, h⟩ := h
                  refine tw_iast X hK w (tw_t_9_17 hT h0) (tw_n_9_17 hT h0) hi142 dX9_runs_176 (fun σ143 H locs eσ143 w => ?_)
                  have h := h _ eσ143
                  refine lv_aload_n X.1 X.2.1 dX9_runs_177 rfl (lv_at hl 2 rfl) ?_
                  refine tw_get X hK w 9 iw_X9_runs_9 h0 (by decide) rfl 18 (by decide) (List.mem_of_getElem? (i := 8) rfl) rfl dX9_runs_178 ?_
                  refine lv_aload_n X.1 X.2.1 dX9_runs_181 rfl (lv_at hl 2 rfl) ?_
                  refine tw_get X hK w 9 iw_X9_runs_9 h0 (by decide) rfl 19 (by decide) (List.mem_of_getElem? (i := 3) rfl) rfl dX9_runs_182 ?_
                  refine lv_aload_n X.1 X.2.1 dX9_runs_185 rfl (lv_at hl 2 rfl) ?_
                  refine tw_get X hK w 9 iw_X9_runs_9 h0 (by decide) rfl 16 (by decide) (List.mem_of_getElem? (i := 4) rfl) rfl dX9_runs_186 ?_
                  obtain ⟨hi144, h⟩ := h
                  refine tw_iast X hK w (tw_t_9_18 hT h0) (tw_n_9_18 hT h0) hi144 dX9_runs_189 (fun σ145 H locs eσ145 w => ?_)
                  have h := h _ eσ145
                  refine lv_aload_n X.1 X.2.1 dX9_runs_190 rfl (lv_at hl 2 rfl) ?_
                  refine lv_dup X.1 X.2.1 dX9_runs_191 rfl ?_
                  refine tw_get X hK w 9 iw_X9_runs_9 h0 (by decide) rfl 19 (by decide) (List.mem_of_getElem? (i := 3) rfl) rfl dX9_runs_192 ?_
                  refine lv_iconst (v := 1) X.1 X.2.1 dX9_runs_195 (by decide) ?_
                  refine lv_iadd X.1 X.2.1 dX9_runs_196 ?_
                  refine tw_putI X hK w 9 iw_X9_runs_9 tyX9 tyX9_ok nmX9 h0 (by decide) rfl 19 (by decide) (List.mem_of_getElem? (i := 3) rfl) rfl (ty := .int) (by decide +kernel) rfl rfl (Nat.le_of_ble_eq_true rfl) (tw_f_9_19 g _ _ _) dX9_runs_197 (fun σ146 H locs eσ146 w => ?_)
                  have h := h _ eσ146
                  refine lv_aload_n X.1 X.2.1 dX9_runs_200 rfl (lv_at hl 2 rfl) ?_
                  refine lv_aload_n X.1 X.2.1 dX9_runs_201 rfl (lv_at hl 2 rfl) ?_
                  refine tw_get X hK w 9 iw_X9_runs_9 h0 (by decide) rfl 13 (by decide) (List.mem_of_getElem? (i := 1) rfl) rfl dX9_runs_202 ?_
                  refine lv_iload X.1 X.2.1 dX9_runs_205 (lv_at hl 0 rfl) ?_
                  obtain ⟨hi147, h⟩ := h
                  refine tw_iald X hK w (tw_t_9_13 hT h0) (tw_n_9_13 hT h0) hi147 dX9_runs_207 ?_
                  refine lv_aload_n X.1 X.2.1 dX9_runs_208 rfl (lv_at hl 2 rfl) ?_
                  refine tw_get X hK w 9 iw_X9_runs_9 h0 (by decide) rfl 16 (by decide) (List.mem_of_getElem? (i := 4) rfl) rfl dX9_runs_209 ?_
                  refine lv_ishr X.1 X.2.1 dX9_runs_212 ?_
                  refine lv_iconst (v := 1) X.1 X.2.1 dX9_runs_213 (by decide) ?_
                  refine lv_iand X.1 X.2.1 dX9_runs_214 ?_
                  refine lv_iconst (v := 1) X.1 X.2.1 dX9_runs_215 (by decide) ?_
                  refine lv_icmp_ne (tgt := 223) X.1 X.2.1 dX9_runs_216 (by decide) (fun c148 => ?_) (fun c148 => ?_)
                  · have h := h.1 c148
                    refine lv_iconst (v := -1) X.1 X.2.1 dX9_runs_223 (by decide) ?_
                    refine tw_putI X hK w 9 iw_X9_runs_9 tyX9 tyX9_ok nmX9 h0 (by decide) rfl 14 (by decide) (List.mem_of_getElem? (i := 5) rfl) rfl (ty := .int) (by decide +kernel) rfl rfl (Nat.le_of_ble_eq_true rfl) (tw_f_9_14 g _ _ _) dX9_runs_224 (fun σ149 H locs eσ149 w => ?_)
                    have h := h _ eσ149
                    refine lv_aload_n X.1 X.2.1 dX9_runs_227 rfl (lv_at hl 2 rfl) ?_
                    refine tw_get X hK w 9 iw_X9_runs_9 h0 (by decide) rfl 13 (by decide) (List.mem_of_getElem? (i := 1) rfl) rfl dX9_runs_228 ?_
                    refine lv_iload X.1 X.2.1 dX9_runs_231 (lv_at hl 0 rfl) ?_
                    refine lv_dup2_11 X.1 X.2.1 dX9_runs_233 rfl rfl ?_
                    obtain ⟨hi150, h⟩ := h
                    refine tw_iald X hK w (tw_t_9_13 hT h0) (tw_n_9_13 hT h0) hi150 dX9_runs_234 ?_
                    refine lv_iconst (v := 1) X.1 X.2.1 dX9_runs_235 (by decide) ?_
                    refine lv_aload_n X.1 X.2.1 dX9_runs_236 rfl (lv_at hl 2 rfl) ?_
                    refine tw_get X hK w 9 iw_X9_runs_9 h0 (by decide) rfl 16 (by decide) (List.mem_of_getElem? (i := 4) rfl) rfl dX9_runs_237 ?_
                    refine lv_ishl X.1 X.2.1 dX9_runs_240 ?_
                    refine lv_ior X.1 X.2.1 dX9_runs_241 ?_
                    obtain ⟨hi151, h⟩ := h
                    refine tw_iast X hK w (tw_t_9_13 hT h0) (tw_n_9_13 hT h0) hi151 dX9_runs_242 (fun σ152 H locs eσ152 w => ?_)
                    have h := h _ eσ152
                    refine lv_iload X.1 X.2.1 dX9_runs_243 (lv_at hl 0 rfl) ?_
                    refine lv_istore_n (lv' := [(2, .int (x2 + (1 : Int32))), (4, .int (x2 + (1 : Int32))), (3, .int r14), (0, .ref a0), (1, .int x1)]) X.1 X.2.1 dX9_runs_245 rfl hl (by decide) rfl (fun ls hl => ?_)
                    have hl := lv_sub (l' := [(2, .int (x2 + (1 : Int32))), (0, .ref a0), (1, .int x1)]) hl [0, 3, 4] rfl
                    refine lv_goto (tgt := 50) X.1 X.2.1 dX9_runs_246 (by decide) ?_
                    exact ih (x2 + (1 : Int32)) σ152 _ _ ls h w (lv_sub hl [1, 2, 0] rfl)
                  · have h := h.2 c148
                    refine lv_iconst (v := 3) X.1 X.2.1 dX9_runs_219 (by decide) ?_
                    refine lv_goto (tgt := 224) X.1 X.2.1 dX9_runs_220 (by decide) ?_
                    refine tw_putI X hK w 9 iw_X9_runs_9 tyX9 tyX9_ok nmX9 h0 (by decide) rfl 14 (by decide) (List.mem_of_getElem? (i := 5) rfl) rfl (ty := .int) (by decide +kernel) rfl rfl (Nat.le_of_ble_eq_true rfl) (tw_f_9_14 g _ _ _) dX9_runs_224 (fun σ153 H locs eσ153 w => ?_)
                    have h := h _ eσ153
                    refine lv_aload_n X.1 X.2.1 dX9_runs_227 rfl (lv_at hl 2 rfl) ?_
                    refine tw_get X hK w 9 iw_X9_runs_9 h0 (by decide) rfl 13 (by decide) (List.mem_of_getElem? (i := 1) rfl) rfl dX9_runs_228 ?_
                    refine lv_iload X.1 X.2.1 dX9_runs_231 (lv_at hl 0 rfl) ?_
                    refine lv_dup2_11 X.1 X.2.1 dX9_runs_233 rfl rfl ?_
                    obtain ⟨hi154, h⟩ := h
                    refine tw_iald X hK w (tw_t_9_13 hT h0) (tw_n_9_13 hT h0) hi154 dX9_runs_234 ?_
                    refine lv_iconst (v := 1) X.1 X.2.1 dX9_runs_235 (by decide) ?_
                    refine lv_aload_n X.1 X.2.1 dX9_runs_236 rfl (lv_at hl 2 rfl) ?_
                    refine tw_get X hK w 9 iw_X9_runs_9 h0 (by decide) rfl 16 (by decide) (List.mem_of_getElem? (i := 4) rfl) rfl dX9_runs_237 ?_
                    refine lv_ishl X.1 X.2.1 dX9_runs_240 ?_
                    refine lv_ior X.1 X.2.1 dX9_runs_241 ?_
                    obtain ⟨hi155, h⟩ := h
                    refine tw_iast X hK w (tw_t_9_13 hT h0) (tw_n_9_13 hT h0) hi155 dX9_runs_242 (fun σ156 H locs eσ156 w => ?_)
                    have h := h _ eσ156
                    refine lv_iload X.1 X.2.1 dX9_runs_243 (lv_at hl 0 rfl) ?_
                    refine lv_istore_n (lv' := [(2, .int (x2 + (1 : Int32))), (4, .int (x2 + (1 : Int32))), (3, .int r14), (0, .ref a0), (1, .int x1)]) X.1 X.2.1 dX9_runs_245 rfl hl (by decide) rfl (fun ls hl => ?_)
                    have hl := lv_sub (l' := [(2, .int (x2 + (1 : Int32))), (0, .ref a0), (1, .int x1)]) hl [0, 3, 4] rfl
                    refine lv_goto (tgt := 50) X.1 X.2.1 dX9_runs_246 (by decide) ?_
                    exact ih (x2 + (1 : Int32)) σ156 _ _ ls h w (lv_sub hl [1, 2, 0] rfl)
            · have h := h.2 c123
              refine lv_iconst (v := 0) X.1 X.2.1 dX9_runs_140 (by decide) ?_
              refine lv_goto (tgt := 145) X.1 X.2.1 dX9_runs_141 (by decide) ?_
              refine tw_putI X hK w 9 iw_X9_runs_9 tyX9 tyX9_ok nmX9 h0 (by decide) rfl 14 (by decide) (List.mem_of_getElem? (i := 5) rfl) rfl (ty := .int) (by decide +kernel) rfl rfl (Nat.le_of_ble_eq_true rfl) (tw_f_9_14 g _ _ _) dX9_runs_145 (fun σ157 H locs eσ157 w => ?_)
              have h := h _ eσ157
              refine lv_aload_n X.1 X.2.1 dX9_runs_148 rfl (lv_at hl 2 rfl) ?_
              refine tw_get X hK w 9 iw_X9_runs_9 h0 (by decide) rfl 14 (by decide) (List.mem_of_getElem? (i := 5) rfl) rfl dX9_runs_149 ?_
              refine lv_iconst (v := -1) X.1 X.2.1 dX9_runs_152 (by decide) ?_
              refine lv_icmp_ne (tgt := 246) X.1 X.2.1 dX9_runs_153 (by decide) (fun c158 => ?_) (fun c158 => ?_)
              · have h := h.1 c158
                refine lv_goto (tgt := 50) X.1 X.2.1 dX9_runs_246 (by decide) ?_
                exact ih x2 σ157 _ _ ls h w (lv_sub hl [2, 3, 4] rfl)
              · have h := h.2 c158
                refine lv_aload_n X.1 X.2.1 dX9_runs_156 rfl (lv_at hl 2 rfl) ?_
                refine tw_get X hK w 9 iw_X9_runs_9 h0 (by decide) rfl 17 (by decide) (List.mem_of_getElem? (i := 7) rfl) rfl dX9_runs_157 ?_
                refine lv_aload_n X.1 X.2.1 dX9_runs_160 rfl (lv_at hl 2 rfl) ?_
                refine tw_get X hK w 9 iw_X9_runs_9 h0 (by decide) rfl 19 (by decide) (List.mem_of_getElem? (i := 3) rfl) rfl dX9_runs_161 ?_
                refine lv_iload_n X.1 X.2.1 dX9_runs_164 rfl (lv_at hl 4 rfl) ?_
                refine lv_iload X.1 X.2.1 dX9_runs_165 (lv_at hl 0 rfl) ?_
                refine lv_icmp_ge (tgt := 174) X.1 X.2.1 dX9_runs_167 (by decide) (fun c159 => ?_) (fun c159 => ?_)
                · have h := h.1 c159
                  refine lv_iload X.1 X.2.1 dX9_runs_174 (lv_at hl 0 rfl) ?_
                  obtain ⟨hi160, h⟩ := h
                  refine tw_iast X hK w (tw_t_9_17 hT h0) (tw_n_9_17 hT h0) hi160 dX9_runs_176 (fun σ161 H locs eσ161 w => ?_)
                  have h := h _ eσ161
                  refine lv_aload_n X.1 X.2.1 dX9_runs_177 rfl (lv_at hl 2 rfl) ?_
                  refine tw_get X hK w 9 iw_X9_runs_9 h0 (by decide) rfl 18 (by decide) (List.mem_of_getElem? (i := 8) rfl) rfl dX9_runs_178 ?_
                  refine lv_aload_n X.1 X.2.1 dX9_runs_181 rfl (lv_at hl 2 rfl) ?_
                  refine tw_get X hK w 9 iw_X9_runs_9 h0 (by decide) rfl 19 (by decide) (List.mem_of_getElem? (i := 3) rfl) rfl dX9_runs_182 ?_
                  refine lv_aload_n X.1 X.2.1 dX9_runs_185 rfl (lv_at hl 2 rfl) ?_
                  refine tw_get X hK w 9 iw_X9_runs_9 h0 (by decide) rfl 16 (by decide) (List.mem_of_getElem? (i := 4) rfl) rfl dX9_runs_186 ?_
                  obtain ⟨hi162, h⟩ := h
                  refine tw_iast X hK w (tw_t_9_18 hT h0) (tw_n_9_18 hT h0) hi162 dX9_runs_189 (fun σ163 H locs eσ163 w => ?_)
                  have h := h _ eσ163
                  refine lv_aload_n X.1 X.2.1 dX9_runs_190 rfl (lv_at hl 2 rfl) ?_
                  refine lv_dup X.1 X.2.1 dX9_runs_191 rfl ?_
                  refine tw_get X hK w 9 iw_X9_runs_9 h0 (by decide) rfl 19 (by decide) (List.mem_of_getElem? (i := 3) rfl) rfl dX9_runs_192 ?_
                  refine lv_iconst (v := 1) X.1 X.2.1 dX9_runs_195 (by decide) ?_
                  refine lv_iadd X.1 X.2.1 dX9_runs_196 ?_
                  refine tw_putI X hK w 9 iw_X9_runs_9 tyX9 tyX9_ok nmX9 h0 (by decide) rfl 19 (by decide) (List.mem_of_getElem? (i := 3) rfl) rfl (ty := .int) (by decide +kernel) rfl rfl (Nat.le_of_ble_eq_true rfl) (tw_f_9_19 g _ _ _) dX9_runs_197 (fun σ164 H locs eσ164 w => ?_)
                  have h := h _ eσ164
                  refine lv_aload_n X.1 X.2.1 dX9_runs_200 rfl (lv_at hl 2 rfl) ?_
                  refine lv_aload_n X.1 X.2.1 dX9_runs_201 rfl (lv_at hl 2 rfl) ?_
                  refine tw_get X hK w 9 iw_X9_runs_9 h0 (by decide) rfl 13 (by decide) (List.mem_of_getElem? (i := 1) rfl) rfl dX9_runs_202 ?_
                  refine lv_iload X.1 X.2.1 dX9_runs_205 (lv_at hl 0 rfl) ?_
                  obtain ⟨hi165, h⟩ := h
                  refine tw_iald X hK w (tw_t_9_13 hT h0) (tw_n_9_13 hT h0) hi165 dX9_runs_207 ?_
                  refine lv_aload_n X.1 X.2.1 dX9_runs_208 rfl (lv_at hl 2 rfl) ?_
                  refine tw_get X hK w 9 iw_X9_runs_9 h0 (by decide) rfl 16 (by decide) (List.mem_of_getElem? (i := 4) rfl) rfl dX9_runs_209 ?_
                  refine lv_ishr X.1 X.2.1 dX9_runs_212 ?_
                  refine lv_iconst (v := 1) X.1 X.2.1 dX9_runs_213 (by decide) ?_
                  refine lv_iand X.1 X.2.1 dX9_runs_214 ?_
                  refine lv_iconst (v := 1) X.1 X.2.1 dX9_runs_215 (by decide) ?_
                  refine lv_icmp_ne (tgt := 223) X.1 X.2.1 dX9_runs_216 (by decide) (fun c166 => ?_) (fun c166 => ?_)
                  · have h := h.1 c166
                    refine lv_iconst (v := -1) X.1 X.2.1 dX9_runs_223 (by decide) ?_
                    refine tw_putI X hK w 9 iw_X9_runs_9 tyX9 tyX9_ok nmX9 h0 (by decide) rfl 14 (by decide) (List.mem_of_getElem? (i := 5) rfl) rfl (ty := .int) (by decide +kernel) rfl rfl (Nat.le_of_ble_eq_true rfl) (tw_f_9_14 g _ _ _) dX9_runs_224 (fun σ167 H locs eσ167 w => ?_)
                    have h := h _ eσ167
                    refine lv_aload_n X.1 X.2.1 dX9_runs_227 rfl (lv_at hl 2 rfl) ?_
                    refine tw_get X hK w 9 iw_X9_runs_9 h0 (by decide) rfl 13 (by decide) (List.mem_of_getElem? (i := 1) rfl) rfl dX9_runs_228 ?_
                    refine lv_iload X.1 X.2.1 dX9_runs_231 (lv_at hl 0 rfl) ?_
                    refine lv_dup2_11 X.1 X.2.1 dX9_runs_233 rfl rfl ?_
                    obtain ⟨hi168, h⟩ := h
                    refine tw_iald X hK w (tw_t_9_13 hT h0) (tw_n_9_13 hT h0) hi168 dX9_runs_234 ?_
                    refine lv_iconst (v := 1) X.1 X.2.1 dX9_runs_235 (by decide) ?_
                    refine lv_aload_n X.1 X.2.1 dX9_runs_236 rfl (lv_at hl 2 rfl) ?_
                    refine tw_get X hK w 9 iw_X9_runs_9 h0 (by decide) rfl 16 (by decide) (List.mem_of_getElem? (i := 4) rfl) rfl dX9_runs_237 ?_
                    refine lv_ishl X.1 X.2.1 dX9_runs_240 ?_
                    refine lv_ior X.1 X.2.1 dX9_runs_241 ?_
                    obtain ⟨hi169, h⟩ := h
                    refine tw_iast X hK w (tw_t_9_13 hT h0) (tw_n_9_13 hT h0) hi169 dX9_runs_242 (fun σ170 H locs eσ170 w => ?_)
                    have h := h _ eσ170
                    refine lv_iload X.1 X.2.1 dX9_runs_243 (lv_at hl 0 rfl) ?_
                    refine lv_istore_n (lv' := [(2, .int (x2 + (1 : Int32))), (4, .int (x2 + (1 : Int32))), (3, .int r14), (0, .ref a0), (1, .int x1)]) X.1 X.2.1 dX9_runs_245 rfl hl (by decide) rfl (fun ls hl => ?_)
                    have hl := lv_sub (l' := [(2, .int (x2 + (1 : Int32))), (0, .ref a0), (1, .int x1)]) hl [0, 3, 4] rfl
                    refine lv_goto (tgt := 50) X.1 X.2.1 dX9_runs_246 (by decide) ?_
                    exact ih (x2 + (1 : Int32)) σ170 _ _ ls h w (lv_sub hl [1, 2, 0] rfl)
                  · have h := h.2 c166
                    refine lv_iconst (v := 3) X.1 X.2.1 dX9_runs_219 (by decide) ?_
                    refine lv_goto (tgt := 224) X.1 X.2.1 dX9_runs_220 (by decide) ?_
                    refine tw_putI X hK w 9 iw_X9_runs_9 tyX9 tyX9_ok nmX9 h0 (by decide) rfl 14 (by decide) (List.mem_of_getElem? (i := 5) rfl) rfl (ty := .int) (by decide +kernel) rfl rfl (Nat.le_of_ble_eq_true rfl) (tw_f_9_14 g _ _ _) dX9_runs_224 (fun σ171 H locs eσ171 w => ?_)
                    have h := h _ eσ171
                    refine lv_aload_n X.1 X.2.1 dX9_runs_227 rfl (lv_at hl 2 rfl) ?_
                    refine tw_get X hK w 9 iw_X9_runs_9 h0 (by decide) rfl 13 (by decide) (List.mem_of_getElem? (i := 1) rfl) rfl dX9_runs_228 ?_
                    refine lv_iload X.1 X.2.1 dX9_runs_231 (lv_at hl 0 rfl) ?_
                    refine lv_dup2_11 X.1 X.2.1 dX9_runs_233 rfl rfl ?_
                    obtain ⟨hi172, h⟩ := h
                    refine tw_iald X hK w (tw_t_9_13 hT h0) (tw_n_9_13 hT h0) hi172 dX9_runs_234 ?_
                    refine lv_iconst (v := 1) X.1 X.2.1 dX9_runs_235 (by decide) ?_
                    refine lv_aload_n X.1 X.2.1 dX9_runs_236 rfl (lv_at hl 2 rfl) ?_
                    refine tw_get X hK w 9 iw_X9_runs_9 h0 (by decide) rfl 16 (by decide) (List.mem_of_getElem? (i := 4) rfl) rfl dX9_runs_237 ?_
                    refine lv_ishl X.1 X.2.1 dX9_runs_240 ?_
                    refine lv_ior X.1 X.2.1 dX9_runs_241 ?_
                    obtain ⟨hi173, h⟩ := h
                    refine tw_iast X hK w (tw_t_9_13 hT h0) (tw_n_9_13 hT h0) hi173 dX9_runs_242 (fun σ174 H locs eσ174 w => ?_)
                    have h := h _ eσ174
                    refine lv_iload X.1 X.2.1 dX9_runs_243 (lv_at hl 0 rfl) ?_
                    refine lv_istore_n (lv' := [(2, .int (x2 + (1 : Int32))), (4, .int (x2 + (1 : Int32))), (3, .int r14), (0, .ref a0), (1, .int x1)]) X.1 X.2.1 dX9_runs_245 rfl hl (by decide) rfl (fun ls hl => ?_)
                    have hl := lv_sub (l' := [(2, .int (x2 + (1 : Int32))), (0, .ref a0), (1, .int x1)]) hl [0, 3, 4] rfl
                    refine lv_goto (tgt := 50) X.1 X.2.1 dX9_runs_246 (by decide) ?_
                    exact ih (x2 + (1 : Int32)) σ174 _ _ ls h w (lv_sub hl [1, 2, 0] rfl)
                · have h := h.2 c159
                  refine lv_iload_n X.1 X.2.1 dX9_runs_170 rfl (lv_at hl 4 rfl) ?_
                  refine lv_goto (tgt := 176) X.1 X.2.1 dX9_runs_171 (by decide) ?_
                  obtain ⟨hi175, h⟩ := h
                  refine tw_iast X hK w (tw_t_9_17 hT h0) (tw_n_9_17 hT h0) hi175 dX9_runs_176 (fun σ176 H locs eσ176 w => ?_)
                  have h := h _ eσ176
                  refine lv_aload_n X.1 X.2.1 dX9_runs_177 rfl (lv_at hl 2 rfl) ?_
                  refine tw_get X hK w 9 iw_X9_runs_9 h0 (by decide) rfl 18 (by decide) (List.mem_of_getElem? (i := 8) rfl) rfl dX9_runs_178 ?_
                  refine lv_aload_n X.1 X.2.1 dX9_runs_181 rfl (lv_at hl 2 rfl) ?_
                  refine tw_get X hK w 9 iw_X9_runs_9 h0 (by decide) rfl 19 (by decide) (List.mem_of_getElem? (i := 3) rfl) rfl dX9_runs_182 ?_
                  refine lv_aload_n X.1 X.2.1 dX9_runs_185 rfl (lv_at hl 2 rfl) ?_
                  refine tw_get X hK w 9 iw_X9_runs_9 h0 (by decide) rfl 16 (by decide) (List.mem_of_getElem? (i := 4) rfl) rfl dX9_runs_186 ?_
                  obtain ⟨hi177, h⟩ := h
                  refine tw_iast X hK w (tw_t_9_18 hT h0) (tw_n_9_18 hT h0) hi177 dX9_runs_189 (fun σ178 H locs eσ178 w => ?_)
                  have h := h _ eσ178
                  refine lv_aload_n X.1 X.2.1 dX9_runs_190 rfl (lv_at hl 2 rfl) ?_
                  refine lv_dup X.1 X.2.1 dX9_runs_191 rfl ?_
                  refine tw_get X hK w 9 iw_X9_runs_9 h0 (by decide) rfl 19 (by decide) (List.mem_of_getElem? (i := 3) rfl) rfl dX9_runs_192 ?_
                  refine lv_iconst (v := 1) X.1 X.2.1 dX9_runs_195 (by decide) ?_
                  refine lv_iadd X.1 X.2.1 dX9_runs_196 ?_
                  refine tw_putI X hK w 9 iw_X9_runs_9 tyX9 tyX9_ok nmX9 h0 (by decide) rfl 19 (by decide) (List.mem_of_getElem? (i := 3) rfl) rfl (ty := .int) (by decide +kernel) rfl rfl (Nat.le_of_ble_eq_true rfl) (tw_f_9_19 g _ _ _) dX9_runs_197 (fun σ179 H locs eσ179 w => ?_)
                  have h := h _ eσ179
                  refine lv_aload_n X.1 X.2.1 dX9_runs_200 rfl (lv_at hl 2 rfl) ?_
                  refine lv_aload_n X.1 X.2.1 dX9_runs_201 rfl (lv_at hl 2 rfl) ?_
                  refine tw_get X hK w 9 iw_X9_runs_9 h0 (by decide) rfl 13 (by decide) (List.mem_of_getElem? (i := 1) rfl) rfl dX9_runs_202 ?_
                  refine lv_iload X.1 X.2.1 dX9_runs_205 (lv_at hl 0 rfl) ?_
                  obtain ⟨hi180, h⟩ := h
                  refine tw_iald X hK w (tw_t_9_13 hT h0) (tw_n_9_13 hT h0) hi180 dX9_runs_207 ?_
                  refine lv_aload_n X.1 X.2.1 dX9_runs_208 rfl (lv_at hl 2 rfl) ?_
                  refine tw_get X hK w 9 iw_X9_runs_9 h0 (by decide) rfl 16 (by decide) (List.mem_of_getElem? (i := 4) rfl) rfl dX9_runs_209 ?_
                  refine lv_ishr X.1 X.2.1 dX9_runs_212 ?_
                  refine lv_iconst (v := 1) X.1 X.2.1 dX9_runs_213 (by decide) ?_
                  refine lv_iand X.1 X.2.1 dX9_runs_214 ?_
                  refine lv_iconst (v := 1) X.1 X.2.1 dX9_runs_215 (by decide) ?_
                  refine lv_icmp_ne (tgt := 223) X.1 X.2.1 dX9_runs_216 (by decide) (fun c181 => ?_) (fun c181 => ?_)
                  · have h := h.1 c181
                    refine lv_iconst (v := -1) X.1 X.2.1 dX9_runs_223 (by decide) ?_
                    refine tw_putI X hK w 9 iw_X9_runs_9 tyX9 tyX9_ok nmX9 h0 (by decide) rfl 14 (by decide) (List.mem_of_getElem? (i := 5) rfl) rfl (ty := .int) (by decide +kernel) rfl rfl (Nat.le_of_ble_eq_true rfl) (tw_f_9_14 g _ _ _) dX9_runs_224 (fun σ182 H locs eσ182 w => ?_)
                    have h := h _ eσ182
                    refine lv_aload_n X.1 X.2.1 dX9_runs_227 rfl (lv_at hl 2 rfl) ?_
                    refine tw_get X hK w 9 iw_X9_runs_9 h0 (by decide) rfl 13 (by decide) (List.mem_of_getElem? (i := 1) rfl) rfl dX9_runs_228 ?_
                    refine lv_iload X.1 X.2.1 dX9_runs_231 (lv_at hl 0 rfl) ?_
                    refine lv_dup2_11 X.1 X.2.1 dX9_runs_233 rfl rfl ?_
                    obtain ⟨hi183, h⟩ := h
                    refine tw_iald X hK w (tw_t_9_13 hT h0) (tw_n_9_13 hT h0) hi183 dX9_runs_234 ?_
                    refine lv_iconst (v := 1) X.1 X.2.1 dX9_runs_235 (by decide) ?_
                    refine lv_aload_n X.1 X.2.1 dX9_runs_236 rfl (lv_at hl 2 rfl) ?_
                    refine tw_get X hK w 9 iw_X9_runs_9 h0 (by decide) rfl 16 (by decide) (List.mem_of_getElem? (i := 4) rfl) rfl dX9_runs_237 ?_
                    refine lv_ishl X.1 X.2.1 dX9_runs_240 ?_
                    refine lv_ior X.1 X.2.1 dX9_runs_241 ?_
                    obtain ⟨hi184, h⟩ := h
                    refine tw_iast X hK w (tw_t_9_13 hT h0) (tw_n_9_13 hT h0) hi184 dX9_runs_242 (fun σ185 H locs eσ185 w => ?_)
                    have h := h _ eσ185
                    refine lv_iload X.1 X.2.1 dX9_runs_243 (lv_at hl 0 rfl) ?_
                    refine lv_istore_n (lv' := [(2, .int (x2 + (1 : Int32))), (4, .int (x2 + (1 : Int32))), (3, .int r14), (0, .ref a0), (1, .int x1)]) X.1 X.2.1 dX9_runs_245 rfl hl (by decide) rfl (fun ls hl => ?_)
                    have hl := lv_sub (l' := [(2, .int (x2 + (1 : Int32))), (0, .ref a0), (1, .int x1)]) hl [0, 3, 4] rfl
                    refine lv_goto (tgt := 50) X.1 X.2.1 dX9_runs_246 (by decide) ?_
                    exact ih (x2 + (1 : Int32)) σ185 _ _ ls h w (lv_sub hl [1, 2, 0] rfl)
                  · have h := h.2 c181
                    refine lv_iconst (v := 3) X.1 X.2.1 dX9_runs_219 (by decide) ?_
                    refine lv_goto (tgt := 224) X.1 X.2.1 dX9_runs_220 (by decide) ?_
                    refine tw_putI X hK w 9 iw_X9_runs_9 tyX9 tyX9_ok nmX9 h0 (by decide) rfl 14 (by decide) (List.mem_of_getElem? (i := 5) rfl) rfl (ty := .int) (by decide +kernel) rfl rfl (Nat.le_of_ble_eq_true rfl) (tw_f_9_14 g _ _ _) dX9_runs_224 (fun σ186 H locs eσ186 w => ?_)
                    have h := h _ eσ186
                    refine lv_aload_n X.1 X.2.1 dX9_runs_227 rfl (lv_at hl 2 rfl) ?_
                    refine tw_get X hK w 9 iw_X9_runs_9 h0 (by decide) rfl 13 (by decide) (List.mem_of_getElem? (i := 1) rfl) rfl dX9_runs_228 ?_
                    refine lv_iload X.1 X.2.1 dX9_runs_231 (lv_at hl 0 rfl) ?_
                    refine lv_dup2_11 X.1 X.2.1 dX9_runs_233 rfl rfl ?_
                    obtain ⟨hi187, h⟩ := h
                    refine tw_iald X hK w (tw_t_9_13 hT h0) (tw_n_9_13 hT h0) hi187 dX9_runs_234 ?_
                    refine lv_iconst (v := 1) X.1 X.2.1 dX9_runs_235 (by decide) ?_
                    refine lv_aload_n X.1 X.2.1 dX9_runs_236 rfl (lv_at hl 2 rfl) ?_
                    refine tw_get X hK w 9 iw_X9_runs_9 h0 (by decide) rfl 16 (by decide) (List.mem_of_getElem? (i := 4) rfl) rfl dX9_runs_237 ?_
                    refine lv_ishl X.1 X.2.1 dX9_runs_240 ?_
                    refine lv_ior X.1 X.2.1 dX9_runs_241 ?_
                    obtain ⟨hi188, h⟩ := h
                    refine tw_iast X hK w (tw_t_9_13 hT h0) (tw_n_9_13 hT h0) hi188 dX9_runs_242 (fun σ189 H locs eσ189 w => ?_)
                    have h := h _ eσ189
                    refine lv_iload X.1 X.2.1 dX9_runs_243 (lv_at hl 0 rfl) ?_
                    refine lv_istore_n (lv' := [(2, .int (x2 + (1 : Int32))), (4, .int (x2 + (1 : Int32))), (3, .int r14), (0, .ref a0), (1, .int x1)]) X.1 X.2.1 dX9_runs_245 rfl hl (by decide) rfl (fun ls hl => ?_)
                    have hl := lv_sub (l' := [(2, .int (x2 + (1 : Int32))), (0, .ref a0), (1, .int x1)]) hl [0, 3, 4] rfl
                    refine lv_goto (tgt := 50) X.1 X.2.1 dX9_runs_246 (by decide) ?_
                    exact ih (x2 + (1 : Int32)) σ189 _ _ ls h w (lv_sub hl [1, 2, 0] rfl)
          · have h := h.2 c122
            refine lv_iconst (v := 2) X.1 X.2.1 dX9_runs_125 (by decide) ?_
            refine lv_goto (tgt := 145) X.1 X.2.1 dX9_runs_126 (by decide) ?_
            refine tw_putI X hK w 9 iw_X9_runs_9 tyX9 tyX9_ok nmX9 h0 (by decide) rfl 14 (by decide) (List.mem_of_getElem? (i := 5) rfl) rfl (ty := .int) (by decide +kernel) rfl rfl (Nat.le_of_ble_eq_true rfl) (tw_f_9_14 g _ _ _) dX9_runs_145 (fun σ190 H locs eσ190 w => ?_)
            have h := h _ eσ190
            refine lv_aload_n X.1 X.2.1 dX9_runs_148 rfl (lv_at hl 2 rfl) ?_
            refine tw_get X hK w 9 iw_X9_runs_9 h0 (by decide) rfl 14 (by decide) (List.mem_of_getElem? (i := 5) rfl) rfl dX9_runs_149 ?_
            refine lv_iconst (v := -1) X.1 X.2.1 dX9_runs_152 (by decide) ?_
            refine lv_icmp_ne (tgt := 246) X.1 X.2.1 dX9_runs_153 (by decide) (fun c191 => ?_) (fun c191 => ?_)
            · have h := h.1 c191
              refine lv_goto (tgt := 50) X.1 X.2.1 dX9_runs_246 (by decide) ?_
              exact ih x2 σ190 _ _ ls h w (lv_sub hl [2, 3, 4] rfl)
            · have h := h.2 c191
              refine lv_aload_n X.1 X.2.1 dX9_runs_156 rfl (lv_at hl 2 rfl) ?_
              refine tw_get X hK w 9 iw_X9_runs_9 h0 (by decide) rfl 17 (by decide) (List.mem_of_getElem? (i := 7) rfl) rfl dX9_runs_157 ?_
              refine lv_aload_n X.1 X.2.1 dX9_runs_160 rfl (lv_at hl 2 rfl) ?_
              refine tw_get X hK w 9 iw_X9_runs_9 h0 (by decide) rfl 19 (by decide) (List.mem_of_getElem? (i := 3) rfl) rfl dX9_runs_161 ?_
              refine lv_iload_n X.1 X.2.1 dX9_runs_164 rfl (lv_at hl 4 rfl) ?_
              refine lv_iload X.1 X.2.1 dX9_runs_165 (lv_at hl 0 rfl) ?_
              refine lv_icmp_ge (tgt := 174) X.1 X.2.1 dX9_runs_167 (by decide) (fun c192 => ?_) (fun c192 => ?_)
              · have h := h.1 c192
                refine lv_iload X.1 X.2.1 dX9_runs_174 (lv_at hl 0 rfl) ?_
                obtain ⟨hi193, h⟩ := h
                refine tw_iast X hK w (tw_t_9_17 hT h0) (tw_n_9_17 hT h0) hi193 dX9_runs_176 (fun σ194 H locs eσ194 w => ?_)
                have h := h _ eσ194
                refine lv_aload_n X.1 X.2.1 dX9_runs_177 rfl (lv_at hl 2 rfl) ?_
                refine tw_get X hK w 9 iw_X9_runs_9 h0 (by decide) rfl 18 (by decide) (List.mem_of_getElem? (i := 8) rfl) rfl dX9_runs_178 ?_
                refine lv_aload_n X.1 X.2.1 dX9_runs_181 rfl (lv_at hl 2 rfl) ?_
                refine tw_get X hK w 9 iw_X9_runs_9 h0 (by decide) rfl 19 (by decide) (List.mem_of_getElem? (i := 3) rfl) rfl dX9_runs_182 ?_
                refine lv_aload_n X.1 X.2.1 dX9_runs_185 rfl (lv_at hl 2 rfl) ?_
                refine tw_get X hK w 9 iw_X9_runs_9 h0 (by decide) rfl 16 (by decide) (List.mem_of_getElem? (i := 4) rfl) rfl dX9_runs_186 ?_
                obtain ⟨hi195, h⟩ := h
                refine tw_iast X hK w (tw_t_9_18 hT h0) (tw_n_9_18 hT h0) hi195 dX9_runs_189 (fun σ196 H locs eσ196 w => ?_)
                have h := h _ eσ196
                refine lv_aload_n X.1 X.2.1 dX9_runs_190 rfl (lv_at hl 2 rfl) ?_
                refine lv_dup X.1 X.2.1 dX9_runs_191 rfl ?_
                refine tw_get X hK w 9 iw_X9_runs_9 h0 (by decide) rfl 19 (by decide) (List.mem_of_getElem? (i := 3) rfl) rfl dX9_runs_192 ?_
                refine lv_iconst (v := 1) X.1 X.2.1 dX9_runs_195 (by decide) ?_
                refine lv_iadd X.1 X.2.1 dX9_runs_196 ?_
                refine tw_putI X hK w 9 iw_X9_runs_9 tyX9 tyX9_ok nmX9 h0 (by decide) rfl 19 (by decide) (List.mem_of_getElem? (i := 3) rfl) rfl (ty := .int) (by decide +kernel) rfl rfl (Nat.le_of_ble_eq_true rfl) (tw_f_9_19 g _ _ _) dX9_runs_197 (fun σ197 H locs eσ197 w => ?_)
                have h := h _ eσ197
                refine lv_aload_n X.1 X.2.1 dX9_runs_200 rfl (lv_at hl 2 rfl) ?_
                refine lv_aload_n X.1 X.2.1 dX9_runs_201 rfl (lv_at hl 2 rfl) ?_
                refine tw_get X hK w 9 iw_X9_runs_9 h0 (by decide) rfl 13 (by decide) (List.mem_of_getElem? (i := 1) rfl) rfl dX9_runs_202 ?_
                refine lv_iload X.1 X.2.1 dX9_runs_205 (lv_at hl 0 rfl) ?_
                obtain ⟨hi198, h⟩ := h
                refine tw_iald X hK w (tw_t_9_13 hT h0) (tw_n_9_13 hT h0) hi198 dX9_runs_207 ?_
                refine lv_aload_n X.1 X.2.1 dX9_runs_208 rfl (lv_at hl 2 rfl) ?_
                refine tw_get X hK w 9 iw_X9_runs_9 h0 (by decide) rfl 16 (by decide) (List.mem_of_getElem? (i := 4) rfl) rfl dX9_runs_209 ?_
                refine lv_ishr X.1 X.2.1 dX9_runs_212 ?_
                refine lv_iconst (v := 1) X.1 X.2.1 dX9_runs_213 (by decide) ?_
                refine lv_iand X.1 X.2.1 dX9_runs_214 ?_
                refine lv_iconst (v := 1) X.1 X.2.1 dX9_runs_215 (by decide) ?_
                refine lv_icmp_ne (tgt := 223) X.1 X.2.1 dX9_runs_216 (by decide) (fun c199 => ?_) (fun c199 => ?_)
                · have h := h.1 c199
                  refine lv_iconst (v := -1) X.1 X.2.1 dX9_runs_223 (by decide) ?_
                  refine tw_putI X hK w 9 iw_X9_runs_9 tyX9 tyX9_ok nmX9 h0 (by decide) rfl 14 (by decide) (List.mem_of_getElem? (i := 5) rfl) rfl (ty := .int) (by decide +kernel) rfl rfl (Nat.le_of_ble_eq_true rfl) (tw_f_9_14 g _ _ _) dX9_runs_224 (fun σ200 H locs eσ200 w => ?_)
                  have h := h _ eσ200
                  refine lv_aload_n X.1 X.2.1 dX9_runs_227 rfl (lv_at hl 2 rfl) ?_
                  refine tw_get X hK w 9 iw_X9_runs_9 h0 (by decide) rfl 13 (by decide) (List.mem_of_getElem? (i := 1) rfl) rfl dX9_runs_228 ?_
                  refine lv_iload X.1 X.2.1 dX9_runs_231 (lv_at hl 0 rfl) ?_
                  refine lv_dup2_11 X.1 X.2.1 dX9_runs_233 rfl rfl ?_
                  obtain ⟨hi201, h⟩ := h
                  refine tw_iald X hK w (tw_t_9_13 hT h0) (tw_n_9_13 hT h0) hi201 dX9_runs_234 ?_
                  refine lv_iconst (v := 1) X.1 X.2.1 dX9_runs_235 (by decide) ?_
                  refine lv_aload_n X.1 X.2.1 dX9_runs_236 rfl (lv_at hl 2 rfl) ?_
                  refine tw_get X hK w 9 iw_X9_runs_9 h0 (by decide) rfl 16 (by decide) (List.mem_of_getElem? (i := 4) rfl) rfl dX9_runs_237 ?_
                  refine lv_ishl X.1 X.2.1 dX9_runs_240 ?_
                  refine lv_ior X.1 X.2.1 dX9_runs_241 ?_
                  obtain ⟨hi202, h⟩ := h
                  refine tw_iast X hK w (tw_t_9_13 hT h0) (tw_n_9_13 hT h0) hi202 dX9_runs_242 (fun σ203 H locs eσ203 w => ?_)
                  have h := h _ eσ203
                  refine lv_iload X.1 X.2.1 dX9_runs_243 (lv_at hl 0 rfl) ?_
                  refine lv_istore_n (lv' := [(2, .int (x2 + (1 : Int32))), (4, .int (x2 + (1 : Int32))), (3, .int r14), (0, .ref a0), (1, .int x1)]) X.1 X.2.1 dX9_runs_245 rfl hl (by decide) rfl (fun ls hl => ?_)
                  have hl := lv_sub (l' := [(2, .int (x2 + (1 : Int32))), (0, .ref a0), (1, .int x1)]) hl [0, 3, 4] rfl
                  refine lv_goto (tgt := 50) X.1 X.2.1 dX9_runs_246 (by decide) ?_
                  exact ih (x2 + (1 : Int32)) σ203 _ _ ls h w (lv_sub hl [1, 2, 0] rfl)
                · have h := h.2 c199
                  refine lv_iconst (v := 3) X.1 X.2.1 dX9_runs_219 (by decide) ?_
                  refine lv_goto (tgt := 224) X.1 X.2.1 dX9_runs_220 (by decide) ?_
                  refine tw_putI X hK w 9 iw_X9_runs_9 tyX9 tyX9_ok nmX9 h0 (by decide) rfl 14 (by decide) (List.mem_of_getElem? (i := 5) rfl) rfl (ty := .int) (by decide +kernel) rfl rfl (Nat.le_of_ble_eq_true rfl) (tw_f_9_14 g _ _ _) dX9_runs_224 (fun σ204 H locs eσ204 w => ?_)
                  have h := h _ eσ204
                  refine lv_aload_n X.1 X.2.1 dX9_runs_227 rfl (lv_at hl 2 rfl) ?_
                  refine tw_get X hK w 9 iw_X9_runs_9 h0 (by decide) rfl 13 (by decide) (List.mem_of_getElem? (i := 1) rfl) rfl dX9_runs_228 ?_
                  refine lv_iload X.1 X.2.1 dX9_runs_231 (lv_at hl 0 rfl) ?_
                  refine lv_dup2_11 X.1 X.2.1 dX9_runs_233 rfl rfl ?_
                  obtain ⟨hi205, h⟩ := h
                  refine tw_iald X hK w (tw_t_9_13 hT h0) (tw_n_9_13 hT h0) hi205 dX9_runs_234 ?_
                  refine lv_iconst (v := 1) X.1 X.2.1 dX9_runs_235 (by decide) ?_
                  refine lv_aload_n X.1 X.2.1 dX9_runs_236 rfl (lv_at hl 2 rfl) ?_
                  refine tw_get X hK w 9 iw_X9_runs_9 h0 (by decide) rfl 16 (by decide) (List.mem_of_getElem? (i := 4) rfl) rfl dX9_runs_237 ?_
                  refine lv_ishl X.1 X.2.1 dX9_runs_240 ?_
                  refine lv_ior X.1 X.2.1 dX9_runs_241 ?_
                  obtain ⟨hi206, h⟩ := h
                  refine tw_iast X hK w (tw_t_9_13 hT h0) (tw_n_9_13 hT h0) hi206 dX9_runs_242 (fun σ207 H locs eσ207 w => ?_)
                  have h := h _ eσ207
                  refine lv_iload X.1 X.2.1 dX9_runs_243 (lv_at hl 0 rfl) ?_
                  refine lv_istore_n (lv' := [(2, .int (x2 + (1 : Int32))), (4, .int (x2 + (1 : Int32))), (3, .int r14), (0, .ref a0), (1, .int x1)]) X.1 X.2.1 dX9_runs_245 rfl hl (by decide) rfl (fun ls hl => ?_)
                  have hl := lv_sub (l' := [(2, .int (x2 + (1 : Int32))), (0, .ref a0), (1, .int x1)]) hl [0, 3, 4] rfl
                  refine lv_goto (tgt := 50) X.1 X.2.1 dX9_runs_246 (by decide) ?_
                  exact ih (x2 + (1 : Int32)) σ207 _ _ ls h w (lv_sub hl [1, 2, 0] rfl)
              · have h := h.2 c192
                refine lv_iload_n X.1 X.2.1 dX9_runs_170 rfl (lv_at hl 4 rfl) ?_
                refine lv_goto (tgt := 176) X.1 X.2.1 dX9_runs_171 (by decide) ?_
                obtain ⟨hi208, h⟩ := h
                refine tw_iast X hK w (tw_t_9_17 hT h0) (tw_n_9_17 hT h0) hi208 dX9_runs_176 (fun σ209 H locs eσ209 w => ?_)
                have h := h _ eσ209
                refine lv_aload_n X.1 X.2.1 dX9_runs_177 rfl (lv_at hl 2 rfl) ?_
                refine tw_get X hK w 9 iw_X9_runs_9 h0 (by decide) rfl 18 (by decide) (List.mem_of_getElem? (i := 8) rfl) rfl dX9_runs_178 ?_
                refine lv_aload_n X.1 X.2.1 dX9_runs_181 rfl (lv_at hl 2 rfl) ?_
                refine tw_get X hK w 9 iw_X9_runs_9 h0 (by decide) rfl 19 (by decide) (List.mem_of_getElem? (i := 3) rfl) rfl dX9_runs_182 ?_
                refine lv_aload_n X.1 X.2.1 dX9_runs_185 rfl (lv_at hl 2 rfl) ?_
                refine tw_get X hK w 9 iw_X9_runs_9 h0 (by decide) rfl 16 (by decide) (List.mem_of_getElem? (i := 4) rfl) rfl dX9_runs_186 ?_
                obtain ⟨hi210, h⟩ := h
                refine tw_iast X hK w (tw_t_9_18 hT h0) (tw_n_9_18 hT h0) hi210 dX9_runs_189 (fun σ211 H locs eσ211 w => ?_)
                have h := h _ eσ211
                refine lv_aload_n X.1 X.2.1 dX9_runs_190 rfl (lv_at hl 2 rfl) ?_
                refine lv_dup X.1 X.2.1 dX9_runs_191 rfl ?_
                refine tw_get X hK w 9 iw_X9_runs_9 h0 (by decide) rfl 19 (by decide) (List.mem_of_getElem? (i := 3) rfl) rfl dX9_runs_192 ?_
                refine lv_iconst (v := 1) X.1 X.2.1 dX9_runs_195 (by decide) ?_
                refine lv_iadd X.1 X.2.1 dX9_runs_196 ?_
                refine tw_putI X hK w 9 iw_X9_runs_9 tyX9 tyX9_ok nmX9 h0 (by decide) rfl 19 (by decide) (List.mem_of_getElem? (i := 3) rfl) rfl (ty := .int) (by decide +kernel) rfl rfl (Nat.le_of_ble_eq_true rfl) (tw_f_9_19 g _ _ _) dX9_runs_197 (fun σ212 H locs eσ212 w => ?_)
                have h := h _ eσ212
                refine lv_aload_n X.1 X.2.1 dX9_runs_200 rfl (lv_at hl 2 rfl) ?_
                refine lv_aload_n X.1 X.2.1 dX9_runs_201 rfl (lv_at hl 2 rfl) ?_
                refine tw_get X hK w 9 iw_X9_runs_9 h0 (by decide) rfl 13 (by decide) (List.mem_of_getElem? (i := 1) rfl) rfl dX9_runs_202 ?_
                refine lv_iload X.1 X.2.1 dX9_runs_205 (lv_at hl 0 rfl) ?_
                obtain ⟨hi213, h⟩ := h
                refine tw_iald X hK w (tw_t_9_13 hT h0) (tw_n_9_13 hT h0) hi213 dX9_runs_207 ?_
                refine lv_aload_n X.1 X.2.1 dX9_runs_208 rfl (lv_at hl 2 rfl) ?_
                refine tw_get X hK w 9 iw_X9_runs_9 h0 (by decide) rfl 16 (by decide) (List.mem_of_getElem? (i := 4) rfl) rfl dX9_runs_209 ?_
                refine lv_ishr X.1 X.2.1 dX9_runs_212 ?_
                refine lv_iconst (v := 1) X.1 X.2.1 dX9_runs_213 (by decide) ?_
                refine lv_iand X.1 X.2.1 dX9_runs_214 ?_
                refine lv_iconst (v := 1) X.1 X.2.1 dX9_runs_215 (by decide) ?_
                refine lv_icmp_ne (tgt := 223) X.1 X.2.1 dX9_runs_216 (by decide) (fun c214 => ?_) (fun c214 => ?_)
                · have h := h.1 c214
                  refine lv_iconst (v := -1) X.1 X.2.1 dX9_runs_223 (by decide) ?_
                  refine tw_putI X hK w 9 iw_X9_runs_9 tyX9 tyX9_ok nmX9 h0 (by decide) rfl 14 (by decide) (List.mem_of_getElem? (i := 5) rfl) rfl (ty := .int) (by decide +kernel) rfl rfl (Nat.le_of_ble_eq_true rfl) (tw_f_9_14 g _ _ _) dX9_runs_224 (fun σ215 H locs eσ215 w => ?_)
                  have h := h _ eσ215
                  refine lv_aload_n X.1 X.2.1 dX9_runs_227 rfl (lv_at hl 2 rfl) ?_
                  refine tw_get X hK w 9 iw_X9_runs_9 h0 (by decide) rfl 13 (by decide) (List.mem_of_getElem? (i := 1) rfl) rfl dX9_runs_228 ?_
                  refine lv_iload X.1 X.2.1 dX9_runs_231 (lv_at hl 0 rfl) ?_
                  refine lv_dup2_11 X.1 X.2.1 dX9_runs_233 rfl rfl ?_
                  obtain ⟨hi216, h⟩ := h
                  refine tw_iald X hK w (tw_t_9_13 hT h0) (tw_n_9_13 hT h0) hi216 dX9_runs_234 ?_
                  refine lv_iconst (v := 1) X.1 X.2.1 dX9_runs_235 (by decide) ?_
                  refine lv_aload_n X.1 X.2.1 dX9_runs_236 rfl (lv_at hl 2 rfl) ?_
                  refine tw_get X hK w 9 iw_X9_runs_9 h0 (by decide) rfl 16 (by decide) (List.mem_of_getElem? (i := 4) rfl) rfl dX9_runs_237 ?_
                  refine lv_ishl X.1 X.2.1 dX9_runs_240 ?_
                  refine lv_ior X.1 X.2.1 dX9_runs_241 ?_
                  obtain ⟨hi217, h⟩ := h
                  refine tw_iast X hK w (tw_t_9_13 hT h0) (tw_n_9_13 hT h0) hi217 dX9_runs_242 (fun σ218 H locs eσ218 w => ?_)
                  have h := h _ eσ218
                  refine lv_iload X.1 X.2.1 dX9_runs_243 (lv_at hl 0 rfl) ?_
                  refine lv_istore_n (lv' := [(2, .int (x2 + (1 : Int32))), (4, .int (x2 + (1 : Int32))), (3, .int r14), (0, .ref a0), (1, .int x1)]) X.1 X.2.1 dX9_runs_245 rfl hl (by decide) rfl (fun ls hl => ?_)
                  have hl := lv_sub (l' := [(2, .int (x2 + (1 : Int32))), (0, .ref a0), (1, .int x1)]) hl [0, 3, 4] rfl
                  refine lv_goto (tgt := 50) X.1 X.2.1 dX9_runs_246 (by decide) ?_
                  exact ih (x2 + (1 : Int32)) σ218 _ _ ls h w (lv_sub hl [1, 2, 0] rfl)
                · have h := h.2 c214
                  refine lv_iconst (v := 3) X.1 X.2.1 dX9_runs_219 (by decide) ?_
                  refine lv_goto (tgt := 224) X.1 X.2.1 dX9_runs_220 (by decide) ?_
                  refine tw_putI X hK w 9 iw_X9_runs_9 tyX9 tyX9_ok nmX9 h0 (by decide) rfl 14 (by decide) (List.mem_of_getElem? (i := 5) rfl) rfl (ty := .int) (by decide +kernel) rfl rfl (Nat.le_of_ble_eq_true rfl) (tw_f_9_14 g _ _ _) dX9_runs_224 (fun σ219 H locs eσ219 w => ?_)
                  have h := h _ eσ219
                  refine lv_aload_n X.1 X.2.1 dX9_runs_227 rfl (lv_at hl 2 rfl) ?_
                  refine tw_get X hK w 9 iw_X9_runs_9 h0 (by decide) rfl 13 (by decide) (List.mem_of_getElem? (i := 1) rfl) rfl dX9_runs_228 ?_
                  refine lv_iload X.1 X.2.1 dX9_runs_231 (lv_at hl 0 rfl) ?_
                  refine lv_dup2_11 X.1 X.2.1 dX9_runs_233 rfl rfl ?_
                  obtain ⟨hi220, h⟩ := h
                  refine tw_iald X hK w (tw_t_9_13 hT h0) (tw_n_9_13 hT h0) hi220 dX9_runs_234 ?_
                  refine lv_iconst (v := 1) X.1 X.2.1 dX9_runs_235 (by decide) ?_
                  refine lv_aload_n X.1 X.2.1 dX9_runs_236 rfl (lv_at hl 2 rfl) ?_
                  refine tw_get X hK w 9 iw_X9_runs_9 h0 (by decide) rfl 16 (by decide) (List.mem_of_getElem? (i := 4) rfl) rfl dX9_runs_237 ?_
                  refine lv_ishl X.1 X.2.1 dX9_runs_240 ?_
                  refine lv_ior X.1 X.2.1 dX9_runs_241 ?_
                  obtain ⟨hi221, h⟩ := h
                  refine tw_iast X hK w (tw_t_9_13 hT h0) (tw_n_9_13 hT h0) hi221 dX9_runs_242 (fun σ222 H locs eσ222 w => ?_)
                  have h := h _ eσ222
                  refine lv_iload X.1 X.2.1 dX9_runs_243 (lv_at hl 0 rfl) ?_
                  refine lv_istore_n (lv' := [(2, .int (x2 + (1 : Int32))), (4, .int (x2 + (1 : Int32))), (3, .int r14), (0, .ref a0), (1, .int x1)]) X.1 X.2.1 dX9_runs_245 rfl hl (by decide) rfl (fun ls hl => ?_)
                  have hl := lv_sub (l' := [(2, .int (x2 + (1 : Int32))), (0, .ref a0), (1, .int x1)]) hl [0, 3, 4] rfl
                  refine lv_goto (tgt := 50) X.1 X.2.1 dX9_runs_246 (by decide) ?_
                  exact ih (x2 + (1 : Int32)) σ222 _ _ ls h w (lv_sub hl [1, 2, 0] rfl)
      · have h := h.2 c15
        refine lv_aload_n X.1 X.2.1 dX9_runs_78 rfl (lv_at hl 1 rfl) ?_
        refine lv_iconst (v := 1) X.1 X.2.1 dX9_runs_79 (by decide) ?_
        refine tw_putI X hK w 9 iw_X9_runs_9 tyX9 tyX9_ok nmX9 h0 (by decide) rfl 14 (by decide) (List.mem_of_getElem? (i := 5) rfl) rfl (ty := .int) (by decide +kernel) rfl rfl (Nat.le_of_ble_eq_true rfl) (tw_f_9_14 g _ _ _) dX9_runs_80 (fun σ223 H locs eσ223 w => ?_)
        have h := h _ eσ223
        refine lv_goto (tgt := 246) X.1 X.2.1 dX9_runs_83 (by decide) ?_
        refine lv_goto (tgt := 50) X.1 X.2.1 dX9_runs_246 (by decide) ?_
        exact ih x2 σ223 _ _ ls h w (lv_sub hl [1, 2, 3] rfl)
set_option maxHeartbeats 4000000 in
set_option maxRecDepth 100000 in
theorem ct_X9_runs (l : Launch) (D : va_G) (g : tw_G) (hT : tw_T g) (sz : Nat) (σ : tw_S) (a0 : Nat) (h0 : tw_is g 9 a0) (x1 : Int32) (Q : tw_S → Prop) (h : wp_X9_runs g σ a0 x1 Q) : tw_Mv l yX9_runs wsX9_runs RM_X9_runs D g sz σ [.ref a0, .int x1] Q := by
  refine Met.ofW (cc := cX9_runs) (maxL := 5) (ret := none) (by decide) rfl ?_
  intro p e s m args below meth c s₁ B hml hv
  obtain ⟨rfl, hsz, hP, hK, hD0⟩ := hv
  subst hsz
  have hr := B.returns
  have hlk := B.notSynchronized
  have X : CallFix p m c cX9_runs 5 s _ wsX9_runs RX9 := ⟨B.exec, B.bytes, hml, findClass_of_methodNamed B.named, atoms_spec (ws := wsX9_runs) B.pre⟩
  have w := tw_w0 hP hD0
  have hl := lv_entry ([.ref a0, .int x1]) (n := 5) (Nat.le_of_ble_eq_true rfl)
  rw [lg_entry_eq]
  generalize (lg_sl ([.ref a0, .int x1]) ++ List.replicate (5 - (lg_sl ([.ref a0, .int x1])).length) Slot.unset).toArray = ls at hl ⊢
  have hl : lv_has ls 5 [(0, .ref a0), (1, .int x1)] := hl
  unfold wp_X9_runs at h
  refine lv_iconst (v := 0) X.1 X.2.1 dX9_runs_0 (by decide) ?_
  refine lv_istore_n (lv' := [(2, .int (0 : Int32)), (0, .ref a0), (1, .int x1)]) X.1 X.2.1 dX9_runs_1 rfl hl (by decide) rfl (fun ls hl => ?_)
  obtain ⟨n2, h⟩ := h
  refine lp_X9_runs_2 X hr hlk hK hT h0 (fun σ4 H locs ls h w hl => ?_) n2 (0 : Int32) σ _ _ ls h w (lv_sub hl [1, 2, 0] rfl)
  · skip
    refine lv_aload_n X.1 X.2.1 dX9_runs_21 rfl (lv_at hl 0 rfl) ?_
    refine lv_iconst (v := 0) X.1 X.2.1 dX9_runs_22 (by decide) ?_
    refine tw_putI X hK w 9 iw_X9_runs_9 tyX9 tyX9_ok nmX9 h0 (by decide) rfl 15 (by decide) (List.mem_of_getElem? (i := 2) rfl) rfl (ty := .int) (by decide +kernel) rfl rfl (Nat.le_of_ble_eq_true rfl) (tw_f_9_15 g _ _ _) dX9_runs_23 (fun σ5 H locs eσ5 w => ?_)
    have h := h _ eσ5
    refine lv_aload_n X.1 X.2.1 dX9_runs_26 rfl (lv_at hl 0 rfl) ?_
    refine lv_iconst (v := 0) X.1 X.2.1 dX9_runs_27 (by decide) ?_
    refine tw_putI X hK w 9 iw_X9_runs_9 tyX9 tyX9_ok nmX9 h0 (by decide) rfl 19 (by decide) (List.mem_of_getElem? (i := 3) rfl) rfl (ty := .int) (by decide +kernel) rfl rfl (Nat.le_of_ble_eq_true rfl) (tw_f_9_19 g _ _ _) dX9_runs_28 (fun σ6 H locs eσ6 w => ?_)
    have h := h _ eσ6
    refine lv_aload_n X.1 X.2.1 dX9_runs_31 rfl (lv_at hl 0 rfl) ?_
    refine lv_iconst (v := 0) X.1 X.2.1 dX9_runs_32 (by decide) ?_
    refine tw_putI X hK w 9 iw_X9_runs_9 tyX9 tyX9_ok nmX9 h0 (by decide) rfl 16 (by decide) (List.mem_of_getElem? (i := 4) rfl) rfl (ty := .int) (by decide +kernel) rfl rfl (Nat.le_of_ble_eq_true rfl) (tw_f_9_16 g _ _ _) dX9_runs_33 (fun σ7 H locs eσ7 w => ?_)
    have h := h _ eσ7
    refine lv_aload_n X.1 X.2.1 dX9_runs_36 rfl (lv_at hl 0 rfl) ?_
    refine lv_iconst (v := -1) X.1 X.2.1 dX9_runs_37 (by decide) ?_
    refine tw_putI X hK w 9 iw_X9_runs_9 tyX9 tyX9_ok nmX9 h0 (by decide) rfl 14 (by decide) (List.mem_of_getElem? (i := 5) rfl) rfl (ty := .int) (by decide +kernel) rfl rfl (Nat.le_of_ble_eq_true rfl) (tw_f_9_14 g _ _ _) dX9_runs_38 (fun σ8 H locs eσ8 w => ?_)
    have h := h _ eσ8
    refine lv_iconst (v := 0) X.1 X.2.1 dX9_runs_41 (by decide) ?_
    refine lv_istore_n (lv' := [(2, .int (0 : Int32)), (0, .ref a0), (1, .int x1)]) X.1 X.2.1 dX9_runs_42 rfl hl (by decide) rfl (fun ls hl => ?_)
    refine lv_aload_n X.1 X.2.1 dX9_runs_43 rfl (lv_at hl 1 rfl) ?_
    refine tw_get X hK w 9 iw_X9_runs_9 h0 (by decide) rfl 13 (by decide) (List.mem_of_getElem? (i := 1) rfl) rfl dX9_runs_44 ?_
    refine lv_iconst (v := 0) X.1 X.2.1 dX9_runs_47 (by decide) ?_
    refine lv_iconst (v := 1) X.1 X.2.1 dX9_runs_48 (by decide) ?_
    refine tw_iast X hK w (tw_t_9_13 hT h0) (tw_n_9_13 hT h0) (by unfold vp_in; decide) dX9_runs_49 (fun σ9 H locs eσ9 w => ?_)
    have h := h _ eσ9
    obtain ⟨n50, h⟩ := h
    refine lp_X9_runs_50 X hr hlk hK hT h0 (fun σ224 H locs ls h w hl => ?_) n50 (0 : Int32) σ9 _ _ ls h w (lv_sub hl [1, 2, 0] rfl)
    · skip
      exact tw_vret X hr hlk w h dX9_runs_249
