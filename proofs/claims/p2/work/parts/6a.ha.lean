/-! ===== the model in general: what is asked of a one-way, calls ===== -/
section HA
variable {g : tw_G} {p : h_P} {σ σ2 : tw_S} {b k : Nat}
theorem h_rem2 {w : Nat} (hw : w < 2 ^ 31) : nI w - nI (w / 2) * (2 : Int32) = nI (w % 2) := by
  have h := pk_rem (a := w) (d := 2) hw (by decide) (by decide)
  rw [pk_div (a := w) (d := 2) hw (by decide) (by decide)] at h
  exact h
theorem h_taken (hM : MI g b p σ) {x z : Int32} {Q : Int32 → tw_S → Prop} (hQ : ∀ r s, MI g b p s → Q r s) : wp_X9_taken g σ b x z Q := by
  unfold wp_X9_taken
  refine h_isMachine fun r2 hr2 k2 => ⟨fun c2 => h_in fun r5 hr5 k5 => ⟨fun c5 => ?_, fun _ => hQ _ _ hM⟩, fun _ => hQ _ _ hM⟩
  obtain ⟨m, hm, rfl⟩ := i_2 (N := 1) (by decide) (k2 (h_r1 hr2 c2))
  have hz := k5 (h_r1 hr5 c5)
  have e00 : (0 : Int64).toInt = 0 := rfl
  have e24 : (24 : Int64).toInt = 24 := rfl
  obtain ⟨l, hl, rfl⟩ := i_2 (x := z) (N := 24) (by decide) ⟨by omega, by show _ ≤ ((24 : Nat) : Int); omega⟩
  refine h_lays hM (by omega) fun r8 s7 hr8 h7 k8 => ⟨fun c8 => ?_, fun _ => hQ _ _ h7⟩
  obtain ⟨⟨F, f1, hF, e20, hn, hf⟩, _⟩ := k8 (h_r1 hr8 c8)
  have vm : vp_in (nI m) 2 := vp_in_nI (by omega) (by decide)
  have cm : (nI m).toNatClampNeg = m := nI_clamp (by omega)
  have K20 : ∀ {s}, KQ g b p s7 s → tw_A s (tw_R g b 20) m = nI F := fun h => by rw [h.2.1]; exact e20
  have Kn : ∀ {s}, KQ g b p s7 s → ∀ i, i < 2 * F → inI (tw_A s (tw_R g b 22) (302 * m + i)) 0 (F - 1 : Int) := fun h => by rw [h.2.2.1]; exact hn
  have e2F : (2 : Int32) * nI F = nI (2 * F) := pk_mul 2 F
  have I0 : ∀ {i : Nat}, nI i ≤ nI i := i_le.mpr (Int.le_refl _)
  refine lp_up (I := fun _ s => KQ g b p s7 s) F ?_ ?_ 0 (Nat.zero_le _) s7 ⟨h7, rfl, rfl, rfl, rfl⟩
  · intro n i s hi h ih
    have v : vp_in (nI i) 151 := vp_in_nI (by omega) (by decide)
    rw [wl_X9_taken_38, nI_1, cm, K20 h]
    exact ⟨vm, fun c => absurd c (nI_nle2 hi (by omega)), fun _ => ⟨fun _ => ⟨v, kq_st (kq_A h rfl) fun s14 _ h14 => ih s14 h14⟩, fun _ => ⟨v, kq_st (kq_A h rfl) fun s14 _ h14 => ih s14 h14⟩⟩⟩
  · intro n s h
    rw [wl_X9_taken_38, cm, K20 h]
    refine ⟨vm, fun _ => ?_, fun c => absurd I0 c⟩
    refine lp_up (I := fun _ s => KQ g b p s7 s) l ?_ ?_ 0 (Nat.zero_le _) s h
    · intro n2 i s2 hi h ih
      rw [wl_X9_taken_71, nI_1]
      refine ⟨fun c => absurd c (nI_nle2 hi (by omega)), fun _ => ?_⟩
      refine lp_up (I := fun _ s => KQ g b p s7 s) F ?_ ?_ 0 (Nat.zero_le _) s2 h
      · intro n3 j s3 hj h ih3
        rw [wl_X9_taken_79, nI_1, cm, K20 h]
        exact ⟨vm, fun c => absurd c (nI_nle2 hj (by omega)), fun _ => ⟨vp_in_nI (by omega) (by decide), kq_st (kq_A h rfl) fun s _ h => ih3 s h⟩⟩
      · intro n3 s3 h
        rw [wl_X9_taken_79, cm, K20 h]
        refine ⟨vm, fun _ => ?_, fun c => absurd I0 c⟩
        refine lp_up (I := fun _ s => KQ g b p s7 s) (2 * F) ?_ ?_ 0 (Nat.zero_le _) s3 h
        · intro n4 j s4 hj h ih4
          obtain ⟨t, ht, et⟩ := h_nx (i := 0) hF (Kn h) (a := j / 2) (l := j % 2) (by omega) (by omega)
          rw [wl_X9_taken_107, nI_1, cm, K20 h, e2F, h_half2 (w := j) (by omega), h_rem2 (w := j) (by omega)]
          refine ⟨vm, fun c => absurd c (nI_nle2 hj (by omega)), fun _ => h_at ?_⟩
          rw [at2, nI_clamp (n := 2 * (151 * m + j / 2) + j % 2) (by omega), et]
          exact ⟨vp_in_nI (by omega) (by decide), vp_in_nI (by omega) (by decide), vp_in_nI (by omega) (by decide), vp_in_nI (by omega) (by decide), kq_st (kq_A h rfl) fun s _ h => ih4 s h⟩
        · intro n4 s4 h
          rw [wl_X9_taken_107, cm, K20 h, e2F]
          refine ⟨vm, fun _ => ?_, fun c => absurd I0 c⟩
          refine lp_up (I := fun _ s => KQ g b p s7 s) F ?_ ?_ 0 (Nat.zero_le _) s4 h
          · intro n5 j s5 hj h ih5
            rw [wl_X9_taken_167, nI_1, cm, K20 h]
            exact ⟨vm, fun c => absurd c (nI_nle2 hj (by omega)), fun _ => ⟨vp_in_nI (by omega) (by decide), vp_in_nI (by omega) (by decide), kq_st (kq_A h rfl) fun s _ h => ih5 s h⟩⟩
          · intro n5 s5 h
            rw [wl_X9_taken_167, cm, K20 h]
            exact ⟨vm, fun _ => ih s5 h, fun c => absurd I0 c⟩
    · intro n2 s2 h
      rw [wl_X9_taken_71]
      refine ⟨fun _ => ?_, fun c => absurd I0 c⟩
      refine lpu (I := fun _ _ s => s = s2) F ?_ ?_ 0 (Nat.zero_le _) 0 s2 rfl
      · intro n3 i u s3 hi e ih
        subst e
        rw [wl_X9_taken_209, nI_1, cm, K20 h]
        refine ⟨vm, fun c => absurd c (nI_nle2 hi (by omega)), fun _ => h_at ?_⟩
        exact ⟨vp_in_nI (by omega) (by decide), fun _ => ih _ _ rfl, fun _ => ⟨vp_in_nI (by omega) (by decide), fun z48 _ => ih _ _ rfl⟩⟩
      · intro n3 u s3 e
        subst e
        rw [wl_X9_taken_209, cm, K20 h]
        exact ⟨vm, fun _ => hQ _ _ h.1, fun c => absurd I0 c⟩
theorem h_oneWay (hM : MI g b p σ) {x z w : Int32} {Q : Int32 → tw_S → Prop} (hQ : ∀ r s, MI g b p s → Q r s) : wp_X9_oneWay g σ b x z w Q := by
  unfold wp_X9_oneWay
  refine h_isMachine fun r2 hr2 k2 => ⟨fun c2 => ?_, fun _ => hQ _ _ hM⟩
  have hx := k2 (h_r1 hr2 c2)
  obtain ⟨m, hm, rfl⟩ := i_2 (N := 1) (by decide) hx
  refine h_lays hM (by omega) fun r5 s4 hr5 h4 k5 => ⟨fun c5 => ?_, fun _ => hQ _ _ h4⟩
  obtain ⟨⟨F, f1, hF, e20, hn, hf⟩, _⟩ := k5 (h_r1 hr5 c5)
  rw [nI_clamp (n := m) (by omega), e20]
  refine ⟨vp_in_nI (by omega) (by decide), h_in fun r9 hr9 k9 => ⟨fun c9 => h_states0 h4 hx fun r12 h12 => h_in fun r14 hr14 k14 => ⟨fun c14 => ?_, fun _ => hQ _ _ h4⟩, fun _ => hQ _ _ h4⟩⟩
  have a := k9 (h_r1 hr9 c9)
  have d := k14 (h_r1 hr14 c14)
  rw [j_i] at a d
  have q : (nI F - 1).toInt = (F : Int) - 1 := pk_sub_toInt (a := F) (b := 1) (by omega) (by decide)
  have e0 : (0 : Int64).toInt = 0 := rfl
  obtain ⟨k, hk, rfl⟩ := i_2 (x := z) (N := 149) (by decide) ⟨by omega, by show _ ≤ ((149 : Nat) : Int); omega⟩
  obtain ⟨t, t1, t4, rfl, _⟩ := inI_nI (lo := 1) (hi := 4) h12
  have e3 : (3 : Int32) + nI t = nI (3 + t) := nI_add 3 t
  rw [e3, nI_toInt (n := 3 + t) (by omega)] at d
  obtain ⟨v, hv, rfl⟩ := i_2 (x := w) (N := 7) (by decide) ⟨by omega, by show _ ≤ ((7 : Nat) : Int); omega⟩
  have ev : (nI v).toInt = (v : Int) := nI_toInt (by omega)
  refine ⟨fun c => ⟨fun c3 => h_at ?_, fun _ => h_at ⟨vp_in_nI (by omega) (by decide), hQ _ _ h4⟩⟩, fun c => h_at ?_⟩
  · have v2 : (v : Int) ≠ 2 := fun e => c3 (i_eq.mpr (by rw [ev, e]; rfl))
    rw [i_le, ev, e_2] at c
    have es : nI (5 * (151 * m + k) + v) - (3 : Int32) = nI (5 * (151 * m + k) + v - 3) := pk_sub (b := 3) (by omega)
    rw [at5, es]
    exact ⟨vp_in_nI (by omega) (by decide), hQ _ _ h4⟩
  · rw [i_le, ev, e_2] at c
    rw [at2]
    exact ⟨vp_in_nI (by omega) (by decide), hQ _ _ h4⟩
theorem h_ofMachine (hM : MI g b p σ) {x z : Int32} {Q : Int32 → tw_S → Prop} (hQ : ∀ r s, MI g b p s → Q r s) : wp_X9_ofMachine g σ b x z Q := by
  unfold wp_X9_ofMachine
  refine h_isMachine fun r2 hr2 k2 => ⟨fun c2 => h_in fun r5 hr5 k5 => ⟨fun c5 => ⟨fun _ => ?_, fun _ => ⟨fun _ => h_movesOf (k2 (h_r1 hr2 c2)) fun r => hQ _ _ hM, fun _ => h_states0 hM (k2 (h_r1 hr2 c2)) fun r _ => hQ _ _ hM⟩⟩, fun _ => hQ _ _ hM⟩, fun _ => hQ _ _ hM⟩
  obtain ⟨m, hm, rfl⟩ := i_2 (N := 1) (by decide) (k2 (h_r1 hr2 c2))
  exact h_lays hM (by omega) fun r9 s8 hr9 h8 k9 => ⟨fun c9 => ⟨fun _ => ⟨fun _ => h_firstOf h8 (by omega) (k9 (h_r1 hr9 c9)).1 fun r => hQ _ _ h8, fun _ => h_least h8 (by omega) (k9 (h_r1 hr9 c9)).1 fun r s h => hQ _ _ h⟩, fun _ => ⟨vp_in_nI (by omega) (by decide), hQ _ _ h8⟩⟩, fun _ => hQ _ _ h8⟩
end HA
