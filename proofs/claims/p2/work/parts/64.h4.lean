/-! ===== the model in general: calls over words and images ===== -/
theorem cu5 {W : Nat → Int32 → Int32 → Int32 → Int32 → tw_S → Prop} (N : Nat) (hN : N < 2 ^ 30) (X : tw_S → Prop) (hs : ∀ n u w y x σ, inI x 0 N → X σ → (∀ v z t s, x.toInt < N → X s → W n v z t (x + 1) s) → W (n + 1) u w y x σ) (u w y : Int32) (x : Int32) (σ : tw_S) (hx : inI x 0 N) (h : X σ) : ∃ n, W n u w y x σ := by
  have key : ∀ (d : Nat) u w y x σ, inI x 0 N → X σ → N < x.toInt + d → W d u w y x σ := by
    intro d
    induction d with
    | zero => intro u w y x σ hx _ c; exact absurd c (by have := hx.2; omega)
    | succ d ih => intro u w y x σ hx h c; exact hs d u w y x σ hx h (fun v z t s c2 h2 => ih v z t _ s (i_inc hN hx c2).1 h2 (by rw [(i_inc hN hx c2).2]; omega))
  exact ⟨N + 1, key _ u w y x σ hx h (by have := hx.1; omega)⟩
theorem i_and1 (x : Int32) : inI (x &&& (1 : Int32)) 0 1 := by
  obtain ⟨j, hj, e⟩ := pk_andE x (m := 1) 1 rfl
  rw [e]
  have q : ∀ j, j < 2 → inI (nI j) 0 1 := by decide
  exact q j hj
section H4
variable {g : tw_G} {p : h_P} {σ σ2 : tw_S} {b k : Nat}
theorem h_isMachine2 {x : Int32} {Q : Int32 → tw_S → Prop} (h1 : inI x 0 1 → Q 1 σ) (h0 : ¬ inI x 0 1 → Q 0 σ) : wp_X9_isMachine g σ x Q := by
  unfold wp_X9_isMachine
  exact sp_inI (a := 0) (b := 1) rfl rfl (fun h => ⟨rfl, h1 h⟩) (fun h => ⟨rfl, h0 h⟩)
theorem h_numberOf (hM : MI g b p σ) {Q : Int32 → tw_S → Prop} (hQ : ∀ r, Q r σ) : wp_X9_numberOf g σ b Q := by
  unfold wp_X9_numberOf
  have e12 : tw_I σ b 12 = p.1 := hM.2.2.2.2.2.2.2.2.1
  have hp := hM.2.2.2.2.2.2.1
  refine cu3 24 (by decide) (fun _ s => s = σ) (fun n u w s hw e ih => ?_) 1 0 σ ⟨by decide, by decide⟩ rfl
  subst e
  rw [wl_X9_numberOf_4]
  refine ⟨fun _ => hQ _, fun c => ?_⟩
  have l : w.toInt < ((24 : Nat) : Int) := by
    rw [i_le, e12] at c
    have := hp.2
    omega
  exact ⟨vp_in_iff.mpr ⟨hw.1, l⟩, fun z _ => ih _ _ l rfl⟩
theorem mi_w {v : Int32} {i : Nat} (hM : MI g b p σ) (hv : inI v 0 1) : MI g b p (tw_sA σ (tw_R g b 11) (upd (tw_A σ (tw_R g b 11)) i v)) := by
  refine mi_A11 hM (fun j hj => ?_)
  unfold upd
  split
  · exact hv
  · exact (hM.2.2.2.2.1 j hj).1
theorem h_word (hM : MI g b p σ) {x : Int32} {Q : Int32 → tw_S → Prop} (h1 : inI x 1 33554431 → ∀ s, MI g b (f_word x, p.2) s → Q (f_word x) s) (h0 : ¬ inI x 1 33554431 → Q (-1000000002) σ) : wp_X9_word g σ b x Q := by
  unfold wp_X9_word
  refine sp_inI (a := 1) (b := 33554431) rfl rfl (fun c1 => ⟨fun _ => ?_, fun c => absurd c (by decide)⟩) (fun c1 => ⟨fun c => absurd rfl c, fun _ => h0 c1⟩)
  have h1 := h1 c1
  have e : f_word x = nI (Nat.log2 x.toInt.toNat) := if_pos c1
  rw [e] at h1
  obtain ⟨k, k1, k2, rfl, k3⟩ := inI_nI (lo := 1) (hi := 33554431) c1
  have ek : (nI k).toInt.toNat = k := by rw [nI_toInt k3]; rfl
  rw [ek] at h1
  have hN : Nat.log2 k ≤ 24 := lg_24 k1 k2
  refine lp_up (I := fun _ s => s = σ) (Nat.log2 k) ?_ ?_ 0 (Nat.zero_le _) σ rfl
  · intro n i s hi es ih
    rw [wl_X9_word_17, i_shr k3 (by omega), nI_1]
    refine ⟨fun c => absurd c (nI_ge (a := 1) ?_ ?_), fun _ => ih s es⟩
    · have h1 : 2 ^ (i + 1) ≤ 2 ^ Nat.log2 k := Nat.pow_le_pow_right (by decide) hi
      have h2 := lg_le k1
      have h3 : 2 ^ (i + 1) = 2 * 2 ^ i := by rw [Nat.pow_succ, Nat.mul_comm]
      have h4 : 2 ≤ k / 2 ^ i := (Nat.le_div_iff_mul_le (Nat.pow_pos (by decide))).mpr (by omega)
      omega
    · exact Nat.lt_of_le_of_lt (Nat.div_le_self _ _) k3
  · intro n s es
    subst es
    rw [wl_X9_word_17, i_shr k3 (by omega)]
    have h5 : k / 2 ^ Nat.log2 k ≤ 1 := by
      have h6 : k / 2 ^ Nat.log2 k < 2 := (Nat.div_lt_iff_lt_mul (Nat.pow_pos (by decide))).mpr (by
        have h7 := lg_lt (k := k)
        rw [Nat.pow_succ] at h7
        omega)
      omega
    refine ⟨fun _ s7 e7 => ?_, fun c => absurd (nI_le h5 (by decide)) c⟩
    have h7 : MI g b (nI (Nat.log2 k), p.2) s7 := by
      rw [e7]
      refine mi_12 hM ⟨?_, ?_⟩ <;> rw [nI_toInt (by omega)] <;> omega
    refine lp_up (I := fun _ s => MI g b (nI (Nat.log2 k), p.2) s) (Nat.log2 k) ?_ ?_ 0 (Nat.zero_le _) s7 h7
    · intro n i s hi h ih
      rw [wl_X9_word_37, nI_1]
      exact ⟨fun c => absurd c (nI_nle2 hi (by omega)), fun _ => ⟨vp_in_nI (by omega) (by decide), h_st (mi_w h (i_and1 _)) fun s10 _ h10 => ih s10 h10⟩⟩
    · intro n s h
      rw [wl_X9_word_37]
      exact ⟨fun _ => h1 s h, fun c => absurd (i_le.mpr (Int.le_refl _)) c⟩
theorem h_machine (hM : MI g b p σ) {x : Int32} {Q : Int32 → tw_S → Prop} (h1 : inI x 0 1 → ∀ r s, MI g b (p.1, 0, p.2.2) s → Q r s) (h0 : ¬ inI x 0 1 → Q (-1000000001) σ) : wp_X9_machine g σ b x Q := by
  unfold wp_X9_machine
  refine h_isMachine2 (fun hx => ⟨fun _ s4 e4 => ?_, fun c => absurd c (by decide)⟩) (fun hx => ⟨fun c => absurd rfl c, fun _ => h0 hx⟩)
  have h4 : MI g b p s4 := e4 ▸ mi_I hM rfl
  refine h_reads h4 (by rw [e4, mi_e]) fun r6 s5 hr6 h5 => h_here h5 fun r8 s7 h7 _ => ?_
  have T : ∀ (v : Int32) (σ12 : tw_S), σ12 = (tw_sI s7 b 4 v) → ∀ σ13, σ13 = (tw_sI σ12 b 2 (0 : Int32)) → ((¬ r6 = 0) → wp_X9_notes g σ13 b (fun σ15 => ∃ n85, wl_X9_machine_85 g b x Q (fun σ20 => Q (tw_A σ20 (tw_R g b 6) (0 : Int32).toNatClampNeg) σ20) n85 (0 : Int32) σ15)) ∧ ((r6 = 0) → Q ((-10 : Int32) - (tw_I σ13 b 5)) σ13) := by
    intro v s12 e12 s13 e13
    have h12 : MI g b p s12 := e12 ▸ mi_I h7.1 rfl
    have h13 : MI g b (p.1, 0, p.2.2) s13 := e13 ▸ mi_2 h12 ⟨by decide, by decide⟩
    have a13 : tw_A s13 (tw_R g b 6) = tw_A s7 (tw_R g b 6) := by rw [e13, tw_A_sI, e12, tw_A_sI]
    refine ⟨fun _ => h_notes h13 fun s15 h15 a15 => ?_, fun _ => h1 hx _ _ h13⟩
    rw [a13] at a15
    refine lp_up (I := fun _ s => MI g b (p.1, 0, p.2.2) s ∧ tw_A s (tw_R g b 6) = tw_A s7 (tw_R g b 6)) 17 ?_ ?_ 0 (by decide) s15 ⟨h15, a15⟩
    · intro n i s hi ⟨h, a⟩ ih
      obtain ⟨m, hm, rfl⟩ := i_2 (N := 1) (by decide) hx
      have em : ((17 : Int32) * nI m) + nI i = nI (17 * m + i) := by
        have e : (17 : Int32) * nI m = nI (17 * m) := pk_mul 17 m
        rw [e, nI_add]
      rw [wl_X9_machine_85, nI_1, em, nI_clamp (by omega), nI_clamp (by omega)]
      refine ⟨fun c => absurd c (nI_nle2 hi (by decide)), fun _ => ⟨vp_in_nI hi (by decide), vp_in_nI (by omega) (by decide), fun s19 e19 => ih s19 ⟨?_, by rw [e19, mi_q h rfl rfl (by decide), a]⟩⟩⟩
      rw [e19, a]
      exact mi_A0u h (okv_q (h7.2.2.2 i hi) (by omega))
    · intro n s ⟨h, a⟩
      rw [wl_X9_machine_85]
      exact ⟨fun _ => h1 hx _ _ h, fun c => absurd (by decide) c⟩
  exact ⟨fun _ => ⟨fun _ => ⟨fun _ => T _, fun _ => T _⟩, fun _ => T _⟩, fun _ => ⟨fun _ => ⟨fun _ => T _, fun _ => T _⟩, fun _ => T _⟩⟩
theorem kq : ∀ k, k < 4 → ∀ x, x < 2 → inI (nI k ||| ((1 : Int32) <<< (nI x &&& 31))) 0 3 ∧ ∀ j, j < 2 → ¬ j = x → (((nI k ||| ((1 : Int32) <<< (nI x &&& 31))) >>> (nI j &&& 31)) &&& (1 : Int32)) = ((nI k >>> (nI j &&& 31)) &&& (1 : Int32)) := by decide +kernel
theorem h_keep (hM : MI g b p σ) {x : Int32} {Q : Int32 → tw_S → Prop} (h1 : inI x 0 1 → ∀ s, MI g b (p.1, p.2.1, p.2.2 ||| ((1 : Int32) <<< (x &&& 31))) s → Q 1 s) (h0 : ¬ inI x 0 1 → Q (-1000000001) σ) : wp_X9_keep g σ b x Q := by
  unfold wp_X9_keep
  refine sp_inI (a := 0) (b := 1) rfl rfl (fun hx => ⟨fun _ => ?_, fun c => absurd c (by decide)⟩) (fun hx => ⟨fun c => absurd rfl c, fun _ => h0 hx⟩)
  have h1 := h1 hx
  obtain ⟨m, hm, rfl⟩ := i_2 (N := 1) (by decide) hx
  refine lp_up (I := fun i s => MI g b p s ∧ ∀ k, k < i → okv k (tw_A s (tw_R g b 34) (34 * m + k))) 34 ?_ ?_ 0 (by decide) σ ⟨hM, fun k hk => absurd hk (Nat.not_lt_zero _)⟩
  · intro n i s hi ⟨h, hk⟩ ih
    have em : ((34 : Int32) * nI m) + nI i = nI (34 * m + i) := by
      have e : (34 : Int32) * nI m = nI (34 * m) := pk_mul 34 m
      rw [e, nI_add]
    rw [wl_X9_keep_15, nI_1, em, nI_clamp (by omega), nI_clamp (by omega)]
    refine ⟨fun c => absurd c (nI_nle2 hi (by decide)), fun _ => ⟨vp_in_nI hi (by decide), vp_in_nI (by omega) (by decide), fun s7 e7 => ih s7 ⟨?_, fun k hki => ?_⟩⟩⟩
    · rw [e7]
      refine mi_A34 h (fun j hj hb k hk => ?_)
      unfold upd
      split
      · next e =>
        have : k = i := by omega
        rw [this]
        exact h.2.1 i hi
      · exact h.2.2.2.2.2.1 j hj hb k hk
    · rw [e7, mi_s]
      unfold upd
      by_cases c : k = i
      · subst c
        rw [if_pos rfl]
        exact h.2.1 k hi
      · rw [if_neg (by omega)]
        exact hk k (by omega)
  · intro n s ⟨h, hk⟩
    rw [wl_X9_keep_15]
    refine ⟨fun _ s9 e9 s10 e10 => h1 s10 ?_, fun c => absurd (by decide) c⟩
    have e35 : tw_I s b 35 = p.2.2 := h.2.2.2.2.2.2.2.2.2.2
    rw [e35] at e9
    have h9 : MI g b (p.1, p.2.1, p.2.2 ||| ((1 : Int32) <<< (nI m &&& 31))) s9 := by
      obtain ⟨t, ht, et⟩ := i_2 (N := 3) (by decide) h.2.2.2.2.2.2.2.1.2
      have q := kq t (by omega) m (by omega)
      rw [← et] at q
      obtain ⟨g0, g1, g2, g3, g4, g5, g6, g7, g8, g9, g10⟩ := h
      rw [e9]
      refine ⟨g0, g1, by rw [mi_n (by decide)]; exact g2, by rw [mi_n (by decide)]; exact g3, g4, fun j hj hb k hkk => ?_, g6, ⟨g7.1, q.1⟩, by rw [mi_n (by decide)]; exact g8, by rw [mi_n (by decide)]; exact g9, mi_e⟩
      by_cases c : j = m
      · rw [c]
        exact hk k hkk
      · refine g5 j hj (fun z => hb ?_) k hkk
        rw [← z]
        exact q.2 j hj c
    rw [e10]
    refine mi_9 h9 ⟨by decide, by decide⟩ (fun j hj => absurd hj ?_)
    have := e_0
    omega
theorem h_goBack (hM : MI g b p σ) {x : Int32} {Q : Int32 → tw_S → Prop} (h1 : inI x 0 1 → ¬ ((p.2.2 >>> (x &&& 31)) &&& (1 : Int32)) = 0 → ∀ s, MI g b p s → Q 1 s) (h2 : inI x 0 1 → ((p.2.2 >>> (x &&& 31)) &&& (1 : Int32)) = 0 → Q (-1000000003) σ) (h0 : ¬ inI x 0 1 → Q (-1000000001) σ) : wp_X9_goBack g σ b x Q := by
  unfold wp_X9_goBack
  have e35 : tw_I σ b 35 = p.2.2 := hM.2.2.2.2.2.2.2.2.2.2
  refine sp_inI (a := 0) (b := 1) rfl rfl (fun hx => ⟨fun _ => ⟨fun c => ?_, fun c => h2 hx (by rw [e35] at c; exact c)⟩, fun c => absurd c (by decide)⟩) (fun hx => ⟨fun c => absurd rfl c, fun _ => h0 hx⟩)
  rw [e35] at c
  have hk1 := h1 hx c
  clear h1 h2 h0
  obtain ⟨m, hm, rfl⟩ := i_2 (N := 1) (by decide) hx
  refine lp_up (I := fun i s => MI g b p s) 34 ?_ ?_ 0 (by decide) σ hM
  · intro n i s hi h ih
    have em : ((34 : Int32) * nI m) + nI i = nI (34 * m + i) := by
      have e : (34 : Int32) * nI m = nI (34 * m) := pk_mul 34 m
      rw [e, nI_add]
    rw [wl_X9_goBack_29, nI_1, em, nI_clamp (by omega), nI_clamp (by omega)]
    exact ⟨fun c => absurd c (nI_nle2 hi (by decide)), fun _ => ⟨vp_in_nI (by omega) (by decide), vp_in_nI hi (by decide), h_st (mi_A0u h (h.2.2.2.2.2.1 m (by omega) c i hi)) fun s8 _ h8 => ih s8 h8⟩⟩
  · intro n s h
    rw [wl_X9_goBack_29]
    refine ⟨fun _ s10 e10 => hk1 s10 ?_, fun c => absurd (by decide) c⟩
    rw [e10]
    refine mi_9 h ⟨by decide, by decide⟩ (fun j hj => absurd hj ?_)
    have := e_0
    omega
theorem h_oftenOver {x : Int32} (hc : inI (tw_I σ b 19) 0 104) {Q : Int32 → tw_S → Prop} (hQ : ∀ r, Q r σ) : wp_X9_oftenOver g σ b x Q := by
  unfold wp_X9_oftenOver
  refine cu3 104 (by decide) (fun _ s => s = σ) (fun n u w s hw e ih => ?_) 0 0 σ ⟨by decide, by decide⟩ rfl
  subst e
  rw [wl_X9_oftenOver_4]
  refine ⟨fun _ => hQ _, fun c => ?_⟩
  have l : w.toInt < ((104 : Nat) : Int) := by
    rw [i_le] at c
    have := hc.2
    omega
  exact ⟨vp_in_iff.mpr ⟨hw.1, by show _ < ((128 : Nat) : Int); omega⟩, fun _ => ih _ _ l rfl, fun _ => ih _ _ l rfl⟩
theorem h_run (hM : MI g b p σ) {x z : Int32} {Q : Int32 → tw_S → Prop} (hQ : ∀ r s, MI g b p s → Q r s) : wp_X9_run g σ b x z Q := by
  unfold wp_X9_run
  refine h_isMachine fun r2 hr2 k2 => ⟨fun c2 => h_in fun r5 hr5 k5 => ⟨fun c5 => h_runs hM (k2 (h_r1 hr2 c2)) fun s7 h7 c7 => ?_, fun _ => hQ _ _ hM⟩, fun _ => hQ _ _ hM⟩
  have e12 : tw_I s7 b 12 = p.1 := h7.2.2.2.2.2.2.2.2.1
  have hp := h7.2.2.2.2.2.2.1
  refine cu5 25 (by decide) (fun s => s = s7) (fun n u v t w s hw e ih => ?_) 0 (-1) 0 0 s7 ⟨by decide, by decide⟩ rfl
  subst e
  rw [wl_X9_run_41]
  refine ⟨fun _ => ⟨fun _ => ⟨fun _ => ⟨fun _ => ⟨fun _ => ⟨fun _ => hQ _ _ h7, fun _ => hQ _ _ h7⟩, fun _ => hQ _ _ h7⟩, fun _ => hQ _ _ h7⟩, fun _ => hQ _ _ h7⟩, fun _ => ⟨fun _ => hQ _ _ h7, fun _ => hQ _ _ h7⟩⟩, fun c => ?_⟩
  have l : w.toInt < ((25 : Nat) : Int) := by
    rw [i_lt, e12] at c
    have := hp.2
    omega
  exact h_oftenOver c7 fun r10 => ⟨fun _ => ⟨fun _ => ⟨fun _ => ih _ _ _ _ l rfl, fun _ => ih _ _ _ _ l rfl⟩, fun _ => ⟨fun _ => ih _ _ _ _ l rfl, fun _ => ih _ _ _ _ l rfl⟩⟩, fun _ => ⟨fun _ => ⟨fun _ => ih _ _ _ _ l rfl, fun _ => ih _ _ _ _ l rfl⟩, fun _ => ⟨fun _ => ih _ _ _ _ l rfl, fun _ => ih _ _ _ _ l rfl⟩⟩⟩
theorem h_crossed (hM : MI g b p σ) {x z w : Int32} {Q : Int32 → tw_S → Prop} (hQ : ∀ r s, MI g b p s → Q r s) : wp_X9_crossed g σ b x z w Q := by
  unfold wp_X9_crossed
  refine h_isMachine fun r2 hr2 k2 => ⟨fun c2 => h_in fun r5 hr5 k5 => ⟨fun _ => hQ _ _ hM, fun c5 => ⟨fun _ => h_runs hM (k2 (h_r1 hr2 c2)) fun s8 h8 c8 => ⟨fun _ => ?_, fun _ => h_oftenOver c8 fun r => hQ _ _ h8⟩, fun _ => hQ _ _ hM⟩⟩, fun _ => hQ _ _ hM⟩
  refine cu4 104 (by decide) (fun _ _ s => s = s8) (fun n u v w s hw e ih => ?_) (-1) 0 0 s8 ⟨by decide, by decide⟩ rfl
  subst e
  rw [wl_X9_crossed_57]
  refine ⟨fun _ => hQ _ _ h8, fun c => ?_⟩
  have l : w.toInt < ((104 : Nat) : Int) := by
    rw [i_le] at c
    have := c8.2
    omega
  have v1 : vp_in w 128 := vp_in_iff.mpr ⟨hw.1, by show _ < ((128 : Nat) : Int); omega⟩
  exact ⟨v1, fun _ => ⟨v1, fun _ => ih _ _ _ l rfl, fun _ => ih _ _ _ l rfl⟩, fun _ => ⟨fun _ => ⟨v1, fun _ => ih _ _ _ l rfl, fun _ => ih _ _ _ l rfl⟩, fun _ => ⟨v1, fun z19 _ => ⟨v1, fun _ => ih _ _ _ l rfl, fun _ => ih _ _ _ l rfl⟩⟩⟩⟩
theorem h_isPiece (hM : MI g b p σ) {x z : Int32} {Q : Int32 → tw_S → Prop} (hQ : ∀ r, (¬ r = 0 → 0 ≤ x.toInt ∧ x.toInt < z.toInt ∧ z.toInt ≤ 24) → Q r σ) : wp_X9_isPiece g σ b x z Q := by
  unfold wp_X9_isPiece
  have e12 : tw_I σ b 12 = p.1 := hM.2.2.2.2.2.2.2.2.1
  have hp := hM.2.2.2.2.2.2.1
  refine h_in fun r2 hr2 k2 => ⟨fun _ => hQ _ (fun c => absurd rfl c), fun c2 => h_in fun r5 hr5 k5 => ⟨fun _ => hQ _ (fun c => absurd rfl c), fun c5 => hQ _ (fun _ => ?_)⟩⟩
  have a := k2 (h_r1 hr2 c2)
  have d := k5 (h_r1 hr5 c5)
  rw [j_i] at a
  rw [j_i, j_i] at d
  rw [e12] at a d
  have e0 : (0 : Int64).toInt = 0 := rfl
  have := hp.2
  have q := (i_inc (N := 100) (x := x) (by decide) ⟨by omega, by omega⟩ (by show _ < ((100 : Nat) : Int); omega)).2
  exact ⟨by omega, by omega, by omega⟩
end H4
