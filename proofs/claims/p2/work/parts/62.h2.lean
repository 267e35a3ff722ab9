/-! ===== the model in general: machines, undoing, words, images ===== -/
theorem okv_q {i j : Nat} {v : Int32} (h : okv i v) (e : i % 17 = j % 17) : okv j v := ⟨fun z => h.1 (e.trans z), h.2⟩
theorem e_34 : (34 : Int32).toInt = 34 := rfl
theorem e_17 : (17 : Int32).toInt = 17 := rfl
theorem e_272 : (272 : Int32).toInt = 272 := rfl
theorem nI_nle2 {i N : Nat} (h : i < N) (hN : N < 2 ^ 31) : ¬ nI N ≤ nI i := by
  rw [i_le, nI_toInt hN, nI_toInt (by omega)]
  omega
theorem lj_rem {a d : Int64} (ha : 0 ≤ a.toInt) (ha2 : a.toInt < 4611686018427387904) (hd : 0 < d.toInt) : (a - a / d * d).toInt = a.toInt % d.toInt := by
  have q0 : 0 ≤ a.toInt / d.toInt := Int.ediv_nonneg ha (by omega)
  have q1 : a.toInt / d.toInt ≤ a.toInt := Int.ediv_le_self _ ha
  have q2 : a.toInt / d.toInt * d.toInt ≤ a.toInt := Int.ediv_mul_le _ (by omega)
  have q3 : 0 ≤ a.toInt / d.toInt * d.toInt := Int.mul_nonneg q0 (by omega)
  have h1 : (a / d).toInt = a.toInt / d.toInt := by
    rw [Int64.toInt_div, Int.tdiv_eq_ediv_of_nonneg ha]
    exact Int.bmod_eq_of_le (by omega) (by omega)
  have h2 : (a / d * d).toInt = a.toInt / d.toInt * d.toInt := by
    rw [Int64.toInt_mul, h1]
    exact Int.bmod_eq_of_le (by omega) (by omega)
  have h3 : (a - a / d * d).toInt = a.toInt - a.toInt / d.toInt * d.toInt := by
    rw [Int64.toInt_sub, h2]
    exact Int.bmod_eq_of_le (by omega) (by omega)
  rw [h3, Int.emod_def, Int.mul_comm]
section H2
variable {g : tw_G} {p : h_P} {σ σ2 : tw_S} {b k : Nat}
theorem h_n48 {u : Nat} (hu : u ≤ 7) {A6 : Nat → Int32} {Q K : tw_S → Prop} (hM : MI g b p σ) (h9 : tw_I σ b 9 = nI u) (h6 : tw_A σ (tw_R g b 6) = A6) (hK : ∀ s, MI g b p s → tw_A s (tw_R g b 6) = A6 → K s) : ∃ n, wl_X9_notes_48 g b Q (fun σ6 => ∀ σ7, σ7 = (tw_sI σ6 b 9 ((tw_I σ6 b 9) + (1 : Int32))) → K σ7) n (0 : Int32) σ := by
  refine lp_up (I := fun i s => MI g b p s ∧ tw_I s b 9 = nI u ∧ tw_A s (tw_R g b 6) = A6 ∧ ∀ k, k < i → okv k (tw_A s (tw_R g b 8) (34 * u + k))) 34 ?_ ?_ 0 (by decide) σ ⟨hM, h9, h6, fun k hk => absurd hk (Nat.not_lt_zero _)⟩
  · intro n i s hi ⟨h, e9, e6, hk⟩ ih
    have em : ((34 : Int32) * nI u) + nI i = nI (34 * u + i) := by
      have e : (34 : Int32) * nI u = nI (34 * u) := pk_mul 34 u
      rw [e, nI_add]
    rw [wl_X9_notes_48, nI_1, e9, em]
    refine ⟨fun c => absurd c (nI_nle2 hi (by decide)), fun _ => ⟨vp_in_nI hi (by decide), vp_in_nI (by omega) (by decide), fun s5 e5 => ?_⟩⟩
    rw [nI_clamp (by omega), nI_clamp (by omega)] at e5
    have e9i : (tw_I s b 9).toInt = (u : Int) := by rw [e9, nI_toInt (by omega)]
    refine ih s5 ⟨?_, by rw [e5, tw_I_sA, e9], by rw [e5, mi_q h rfl rfl (by decide), e6], fun k hki => ?_⟩
    · rw [e5]
      refine mi_A8 h (fun j hj => ?_)
      unfold upd
      rw [if_neg (by omega)]
      exact h.2.2.2.1 j hj
    · rw [e5, mi_s]
      unfold upd
      by_cases c : k = i
      · subst c
        rw [if_pos rfl]
        exact h.2.1 k hi
      · rw [if_neg (by omega)]
        exact hk k (by omega)
  · intro n s ⟨h, e9, e6, hk⟩
    rw [wl_X9_notes_48]
    refine ⟨fun _ s7 e7 => hK s7 ?_ ?_, fun c => absurd (by decide) c⟩
    · rw [e7, e9, nI_1]
      have e9i : (tw_I s b 9).toInt = (u : Int) := by rw [e9, nI_toInt (by omega)]
      have e1i : (nI (u + 1)).toInt = ((u + 1 : Nat) : Int) := nI_toInt (by omega)
      refine mi_9 h ⟨by omega, by omega⟩ (fun j hj => ?_)
      by_cases c : j < 34 * u
      · exact h.2.2.2.1 j (by omega)
      · obtain ⟨t, rfl⟩ : ∃ t, j = 34 * u + t := ⟨j - 34 * u, by omega⟩
        exact okv_q (hk t (by omega)) (by omega)
    · rw [e7]; exact e6
theorem h_notes (hM : MI g b p σ) {Q : tw_S → Prop} (hQ : ∀ s, MI g b p s → tw_A s (tw_R g b 6) = tw_A σ (tw_R g b 6) → Q s) : wp_X9_notes g σ b Q := by
  unfold wp_X9_notes
  obtain ⟨u, hu, e9⟩ := i_2 (N := 8) (by decide) hM.2.2.1
  refine ⟨fun c => h_n48 (u := u) ?_ hM e9 rfl hQ, fun c => ?_⟩
  · refine Nat.le_of_lt_succ (Nat.lt_of_le_of_ne hu (fun e => c ?_))
    rw [e9, e]; rfl
  · have K : ∀ s, MI g b p s → tw_I s b 9 = nI 8 → tw_A s (tw_R g b 6) = tw_A σ (tw_R g b 6) → ∀ σ13, σ13 = (tw_sI s b 9 (7 : Int32)) → ∃ n48, wl_X9_notes_48 g b Q (fun σ14 => ∀ σ15, σ15 = (tw_sI σ14 b 9 ((tw_I σ14 b 9) + (1 : Int32))) → Q σ15) n48 (0 : Int32) σ13 := by
      intro s h e6 e6b s13 e13
      have e9i : (tw_I s b 9).toInt = 8 := by rw [e6]; rfl
      have h13 : MI g b p s13 := by
        rw [e13]
        refine mi_9 h ⟨by decide, by decide⟩ (fun j hj => h.2.2.2.1 j ?_)
        have e7 : (7 : Int32).toInt = 7 := rfl
        omega
      exact h_n48 (u := 7) (by decide) h13 (by rw [e13, mi_e]; rfl) (by rw [e13]; exact e6b) hQ
    refine lp_up (I := fun i s => MI g b p s ∧ tw_I s b 9 = nI 8 ∧ tw_A s (tw_R g b 6) = tw_A σ (tw_R g b 6) ∧ 34 ≤ i) 272 ?_ ?_ 34 (by decide) σ ⟨hM, c, rfl, Nat.le_refl _⟩
    · intro n i s hi ⟨h, e9, e6, h34⟩ ih
      have es : nI i - (34 : Int32) = nI (i - 34) := pk_sub (b := 34) h34
      rw [wl_X9_notes_12, nI_1, es]
      refine ⟨fun c => absurd c (nI_nle2 hi (by decide)), fun _ => ⟨vp_in_nI hi (by decide), vp_in_nI (by omega) (by decide), fun s11 e11 => ?_⟩⟩
      rw [nI_clamp (by omega), nI_clamp (by omega)] at e11
      have e9i : (tw_I s b 9).toInt = 8 := by rw [e9]; rfl
      refine ih s11 ⟨?_, by rw [e11, tw_I_sA, e9], by rw [e11, mi_q h rfl rfl (by decide), e6], by omega⟩
      rw [e11]
      refine mi_A8 h (fun j hj => ?_)
      unfold upd
      split
      · next e => exact okv_q (h.2.2.2.1 i (by omega)) (by omega)
      · exact h.2.2.2.1 j hj
    · intro n s ⟨h, e9, e6, _⟩
      rw [wl_X9_notes_12]
      exact ⟨fun _ => K s h e9 e6, fun c => absurd (by decide) c⟩
theorem h_171 {x : Int32} (hx : inI x 0 1) {i : Nat} (hi : i < 16) : ∃ j : Nat, j < 34 ∧ ¬ j % 17 = 0 ∧ (((17 : Int32) * x) + (1 : Int32)) + nI i = nI j := by
  obtain ⟨m, hm, rfl⟩ := i_2 (N := 1) (by decide) hx
  have e1 : (17 : Int32) * nI m = nI (17 * m) := pk_mul 17 m
  have q : ∀ m, m < 2 → ∀ i, i < 16 → ¬ (17 * m + 1 + i) % 17 = 0 := by decide
  refine ⟨17 * m + 1 + i, by omega, q m (by omega) i hi, ?_⟩
  rw [e1, nI_1, nI_add]
theorem h_wipes (hM : MI g b p σ) {x z : Int32} (hx : inI x 0 1) (hz : inI z 1 4) {Q : tw_S → Prop} (hQ : ∀ s, MI g b p s → Q s) : wp_X9_wipes g σ b x z Q := by
  unfold wp_X9_wipes
  obtain ⟨m, hm, rfl⟩ := i_2 (N := 1) (by decide) hx
  have e1 : (17 : Int32) * nI m = nI (17 * m) := pk_mul 17 m
  refine ⟨by rw [e1]; exact vp_in_nI (by omega) (by decide), h_st (mi_A0u hM (okv_m hz)) fun s2 _ h2 => ?_⟩
  refine lp_up (I := fun _ s => MI g b p s) 16 ?_ ?_ 0 (by decide) s2 h2
  · intro n i s hi h ih
    obtain ⟨j, hj, hn, e⟩ := h_171 hx hi
    rw [wl_X9_wipes_12, nI_1, e, nI_clamp (by omega)]
    exact ⟨fun c => absurd c (nI_nle2 hi (by decide)), fun _ => ⟨vp_in_nI hj (by decide), h_st (mi_A0u h (okv_n hn ⟨by decide, by decide⟩)) fun s5 _ h5 => ih s5 h5⟩⟩
  · intro n s h
    rw [wl_X9_wipes_12]
    exact ⟨fun _ => hQ s h, fun c => absurd (by decide) c⟩
theorem h_movesOf {x : Int32} (hx : inI x 0 1) {Q : Int32 → tw_S → Prop} (hQ : ∀ r, Q r σ) : wp_X9_movesOf g σ b x Q := by
  unfold wp_X9_movesOf
  refine cu3 16 (by decide) (fun _ s => s = σ) (fun n u w s hw e ih => ?_) 0 0 σ ⟨by decide, by decide⟩ rfl
  subst e
  rw [wl_X9_movesOf_4]
  refine ⟨fun _ => hQ _, fun c => ?_⟩
  have l : w.toInt < ((16 : Nat) : Int) := i_l rfl c
  obtain ⟨i, hi, rfl⟩ := i_2 (N := 16) (by decide) hw
  rw [nI_toInt (by omega)] at l
  obtain ⟨j, hj, hn, e⟩ := h_171 hx (i := i) (by omega)
  rw [e]
  exact ⟨vp_in_nI hj (by decide), fun _ => ih _ _ (by rw [nI_toInt (by omega)]; exact l) rfl, fun _ => ih _ _ (by rw [nI_toInt (by omega)]; exact l) rfl⟩
/-- lots: the number stays between 0 and the divisor -/
def lotI (b : Nat) (σ : tw_S) : Prop := 0 ≤ (tw_J σ b 10).toInt ∧ (tw_J σ b 10).toInt < 2147483647
theorem h_lots (hM : MI g b p σ) (hl : lotI b σ) {x : Int32} {N : Nat} (hx : inI x 1 N) (hN : N < 100) {Q : Int32 → tw_S → Prop} (hQ : ∀ r s, MI g b p s → lotI b s → 0 ≤ r.toInt → r.toInt < x.toInt → Q r s) : wp_X9_lots g σ b x Q := by
  unfold wp_X9_lots
  intro z1 e1 s2 e2
  have eM : (2147483647 : Int64).toInt = 2147483647 := rfl
  have eF : (16807 : Int64).toInt = 16807 := rfl
  have h0 := hl.1
  have h1 := hl.2
  have x1 := hx.1
  have x2 := hx.2
  have m1 : (tw_J σ b 10 * (16807 : Int64)).toInt = (tw_J σ b 10).toInt * 16807 := by
    rw [Int64.toInt_mul, eF]
    exact Int.bmod_eq_of_le (by omega) (by omega)
  have z : z1.toInt = ((tw_J σ b 10).toInt * 16807) % 2147483647 := by
    rw [e1, lj_rem (by omega) (by omega) (by rw [eM]; decide), m1, eM]
  have j2 : tw_J s2 b 10 = z1 := by rw [e2, tw_J_sJ, if_pos rfl, if_pos rfl]
  have l2 : lotI b s2 := by
    refine ⟨?_, ?_⟩
    · rw [j2, z]; exact Int.emod_nonneg _ (by decide)
    · rw [j2, z]; exact Int.emod_lt_of_pos _ (by decide)
  have ex : x.toInt64.toInt = x.toInt := j_i x
  refine ⟨fun c => ?_, fun z3 e3 => ?_⟩
  · rw [c] at ex
    have e0 : (0 : Int64).toInt = 0 := rfl
    omega
  · have l20 := l2.1
    have l21 := l2.2
    have e4 : z3.toInt = (tw_J s2 b 10).toInt % x.toInt := by
      rw [e3, lj_rem (by omega) (by omega) (by omega), ex]
    have b0 : 0 ≤ (tw_J s2 b 10).toInt % x.toInt := Int.emod_nonneg _ (by omega)
    have b1 : (tw_J s2 b 10).toInt % x.toInt < x.toInt := Int.emod_lt_of_pos _ (by omega)
    have e5 : z3.toInt32.toInt = z3.toInt := by
      rw [Int64.toInt_toInt32]
      exact Int.bmod_eq_of_le (by omega) (by omega)
    exact hQ _ s2 (e2 ▸ mi_J hM) l2 (by omega) (by omega)
theorem h_drift (hM : MI g b p σ) {x z : Int32} {Q : Int32 → tw_S → Prop} (hQ : ∀ r s, MI g b p s → Q r s) : wp_X9_drift g σ b x z Q := by
  unfold wp_X9_drift
  refine h_isMachine fun r2 hr2 k2 => ⟨fun c2 => h_in fun r5 hr5 k5 => ⟨fun c5 => h_notes hM fun s7 h7 _ s8 e8 => ?_, fun _ => hQ _ _ hM⟩, fun _ => hQ _ _ hM⟩
  have hx := k2 (h_r1 hr2 c2)
  have hz := k5 (h_r1 hr5 c5)
  have e1 : (1 : Int64).toInt = 1 := rfl
  have e9 : (999999 : Int64).toInt = 999999 := rfl
  have h8 : MI g b p s8 := e8 ▸ mi_J h7
  have l8 : lotI b s8 := by
    have : tw_J s8 b 10 = z.toInt64 := by rw [e8, tw_J_sJ, if_pos rfl, if_pos rfl]
    refine ⟨?_, ?_⟩ <;> rw [this, j_i] <;> omega
  refine h_states0 h8 hx fun r10 h10 => ?_
  obtain ⟨t, ht1, ht, rfl, _⟩ := inI_nI (lo := 1) (hi := 4) h10
  have e4 : (4 : Int32) * nI t = nI (4 * t) := pk_mul 4 t
  refine lp_up (I := fun _ s => MI g b p s ∧ lotI b s) (4 * t) ?_ ?_ 0 (Nat.zero_le _) s8 ⟨h8, l8⟩
  · intro n i s hi ⟨h, l⟩ ih
    obtain ⟨j, hj, hn, e⟩ := h_171 hx (i := i) (by omega)
    rw [wl_X9_drift_44, nI_1, e, e4, nI_clamp (by omega)]
    refine ⟨fun c => absurd c (nI_nle2 hi (by omega)), fun _ => h_lots h l (N := 5) ⟨by decide, by decide⟩ (by decide) fun r13 s12 h12 l12 _ _ => ⟨fun _ => ⟨vp_in_nI hj (by decide), fun s16 e16 => ih s16 ⟨e16 ▸ mi_A0u h12 (okv_n hn ⟨by decide, by decide⟩), e16 ▸ l12⟩⟩, fun _ => h_lots h12 l12 h10 (by decide) fun r18 s17 h17 l17 a1 a2 => h_lots h17 l17 (N := 2) ⟨by decide, by decide⟩ (by decide) fun r20 s19 h19 l19 b1 b2 z21 e21 => ⟨vp_in_nI hj (by decide), fun s23 e23 => ih s23 ⟨e23 ▸ mi_A0u h19 (okv_n hn ?_), e23 ▸ l19⟩⟩⟩⟩
    have et : (nI t).toInt = (t : Int) := nI_toInt (by omega)
    have e2 : (2 : Int32).toInt = 2 := rfl
    obtain ⟨u, hu, rfl⟩ := i_2 (x := r18) (N := 3) (by decide) ⟨a1, by omega⟩
    obtain ⟨v, hv, rfl⟩ := i_2 (x := r20) (N := 1) (by decide) ⟨b1, by omega⟩
    have q : ∀ u, u < 4 → ∀ v, v < 2 → inI (((2 : Int32) * nI u) + nI v) (-1) 7 := by decide
    rw [e21]
    exact q u (by omega) v (by omega)
  · intro n s ⟨h, l⟩
    rw [wl_X9_drift_44, e4]
    exact ⟨fun _ => h_movesOf hx fun r => hQ _ _ h, fun c => absurd (i_le.mpr (Int.le_refl _)) c⟩
theorem h_fault (hM : MI g b p σ) {Q : Int32 → tw_S → Prop} (hQ : ∀ r s, MI g b p s → Q r s) : wp_X9_fault g σ b Q := hQ _ _ hM
theorem h_move (hM : MI g b p σ) {x z w y v : Int32} {Q : Int32 → tw_S → Prop} (hQ : ∀ r s, MI g b p s → Q r s) : wp_X9_move g σ b x z w y v Q := by
  unfold wp_X9_move
  refine h_isSpot hM fun r2 k2 => ⟨fun _ => hQ _ _ hM, fun c2 => h_isState hM (k2 c2).1 fun r5 hr5 k5 => ⟨fun c5 => h_in fun r8 hr8 k8 => ⟨fun c8 => h_moveAt hM (k2 c2).1 (k2 c2).2.1 (k2 c2).2.2 fun r11 _ => h_notes hM fun s12 h12 _ => ?_, fun _ => hQ _ _ hM⟩, fun _ => hQ _ _ hM⟩⟩
  obtain ⟨j, hj, hn, e⟩ := h_ix (k2 c2).1 (k2 c2).2.1 (k2 c2).2.2
  rw [e, nI_clamp (by omega)]
  refine ⟨vp_in_nI hj (by decide), h_st (mi_A0u h12 (okv_n hn ?_)) fun s _ h => hQ _ _ h⟩
  obtain ⟨u, hu, rfl⟩ := i_2 (N := 3) (by decide) (k5 (h_r1 hr5 c5))
  obtain ⟨t, ht, rfl⟩ := i_2 (x := v) (N := 1) (by decide) (k8 (h_r1 hr8 c8))
  have q : ∀ u, u < 4 → ∀ v, v < 2 → inI (((2 : Int32) * nI u) + nI v) (-1) 7 := by decide
  exact q u (by omega) t (by omega)
theorem h_none (hM : MI g b p σ) {x z w : Int32} {Q : Int32 → tw_S → Prop} (hQ : ∀ r s, MI g b p s → Q r s) : wp_X9_none g σ b x z w Q := by
  unfold wp_X9_none
  refine h_isSpot hM fun r2 k2 => ⟨fun c2 => h_moveAt hM (k2 c2).1 (k2 c2).2.1 (k2 c2).2.2 fun r5 _ => ⟨fun _ => h_notes hM fun s7 h7 _ => ?_, fun _ => hQ _ _ hM⟩, fun _ => hQ _ _ hM⟩
  obtain ⟨j, hj, hn, e⟩ := h_ix (k2 c2).1 (k2 c2).2.1 (k2 c2).2.2
  rw [e, nI_clamp (by omega)]
  exact ⟨vp_in_nI hj (by decide), h_st (mi_A0u h7 (okv_n hn ⟨by decide, by decide⟩)) fun s _ h => hQ _ _ h⟩
theorem h_states (hM : MI g b p σ) {x z : Int32} {Q : Int32 → tw_S → Prop} (hQ : ∀ r s, MI g b p s → Q r s) : wp_X9_states g σ b x z Q := by
  unfold wp_X9_states
  exact h_isMachine fun r2 hr2 k2 => ⟨fun c2 => h_in fun r5 hr5 k5 => ⟨fun c5 => h_notes hM fun s7 h7 _ => h_states0 h7 (k2 (h_r1 hr2 c2)) fun r9 _ => h_wipes h7 (k2 (h_r1 hr2 c2)) (k5 (h_r1 hr5 c5)) fun s h => hQ _ _ h, fun _ => hQ _ _ hM⟩, fun _ => hQ _ _ hM⟩
theorem h_moveOf (hM : MI g b p σ) {x z w : Int32} {Q : Int32 → tw_S → Prop} (hQ : ∀ r s, MI g b p s → Q r s) : wp_X9_moveOf g σ b x z w Q := by
  unfold wp_X9_moveOf
  exact h_isSpot hM fun r2 k2 => ⟨fun _ => hQ _ _ hM, fun c2 => h_moveAt hM (k2 c2).1 (k2 c2).2.1 (k2 c2).2.2 fun r5 _ => hQ _ _ hM⟩
theorem h_swap (hM : MI g b p σ) {Q : Int32 → tw_S → Prop} (hQ : ∀ r s, MI g b p s → Q r s) : wp_X9_swap g σ b Q := by
  unfold wp_X9_swap
  refine h_notes hM fun s1 h1 _ => ?_
  refine cu3 17 (by decide) (fun _ s => MI g b p s) (fun n u w s hw h ih => ?_) 1 0 s1 ⟨by decide, by decide⟩ h1
  rw [wl_X9_swap_8]
  refine ⟨fun _ => ⟨fun _ => hQ _ _ h, fun _ => hQ _ _ h⟩, fun c => ?_⟩
  have l : w.toInt < ((17 : Nat) : Int) := i_l rfl c
  obtain ⟨i, hi, rfl⟩ := i_2 (N := 17) (by decide) hw
  have l2 : i < 17 := by rw [nI_toInt (by omega)] at l; omega
  have e : (17 : Int32) + nI i = nI (17 + i) := nI_add 17 i
  rw [e, nI_clamp (by omega), nI_clamp (by omega)]
  have v1 : vp_in (nI i) 34 := vp_in_nI (by omega) (by decide)
  have v2 : vp_in (nI (17 + i)) 34 := vp_in_nI (by omega) (by decide)
  refine ⟨v1, fun z4 e4 => ?_⟩
  have S : ∀ s8, s8 = (tw_sA s (tw_R g b 0) (upd (tw_A s (tw_R g b 0)) i (tw_A s (tw_R g b 0) (17 + i)))) → ∀ r, vp_in (nI (17 + i)) 34 ∧ ∀ σ10, σ10 = (tw_sA s8 (tw_R g b 0) (upd (tw_A s8 (tw_R g b 0)) (17 + i) z4)) → wl_X9_swap_8 g b Q (fun v23 σ24 => ((v23 = 0) → Q (1 : Int32) σ24) ∧ (¬ (v23 = 0) → Q (0 : Int32) σ24)) n r (nI i + 1) σ10 := by
    intro s8 e8 r
    have h8 : MI g b p s8 := e8 ▸ mi_A0u h (okv_q (h.2.1 (17 + i) (by omega)) (by omega))
    refine ⟨v2, h_st (mi_A0u h8 ?_) fun s10 _ h10 => ih r s10 l h10⟩
    rw [e4]
    exact okv_q (h.2.1 i (by omega)) (by omega)
  exact ⟨fun _ => ⟨v2, v1, fun s8 e8 => S s8 e8 0⟩, fun _ => ⟨v2, fun _ => ⟨v2, v1, fun s8 e8 => S s8 e8 0⟩, fun _ => ⟨v2, v1, fun s8 e8 => S s8 e8 1⟩⟩⟩
theorem h_undo (hM : MI g b p σ) {Q : Int32 → tw_S → Prop} (hQ : ∀ r s, MI g b p s → Q r s) : wp_X9_undo g σ b Q := by
  unfold wp_X9_undo
  refine ⟨fun c s2 e2 => ?_, fun _ => hQ _ _ hM⟩
  obtain ⟨u, hu, e9⟩ := i_2 (N := 8) (by decide) hM.2.2.1
  have u1 : 1 ≤ u := by
    refine Nat.one_le_iff_ne_zero.mpr (fun e => c ?_)
    rw [e9, e]; rfl
  obtain ⟨t, rfl⟩ : ∃ t, u = t + 1 := ⟨u - 1, by omega⟩
  have e9i : (tw_I σ b 9).toInt = ((t + 1 : Nat) : Int) := by rw [e9, nI_toInt (by omega)]
  have et : tw_I σ b 9 - 1 = nI t := by rw [e9]; exact nI_pred t
  have eti : (nI t).toInt = (t : Int) := nI_toInt (by omega)
  rw [et] at e2
  have h2 : MI g b p s2 := by
    rw [e2]
    exact mi_9 hM ⟨by omega, by omega⟩ (fun j hj => hM.2.2.2.1 j (by omega))
  refine lp_up (I := fun _ s => MI g b p s ∧ tw_I s b 9 = nI t ∧ tw_A s (tw_R g b 8) = tw_A σ (tw_R g b 8)) 34 ?_ ?_ 0 (by decide) s2 ⟨h2, by rw [e2, mi_e], by rw [e2]; rfl⟩
  · intro n i s hi ⟨h, i9, i8⟩ ih
    have em : ((34 : Int32) * nI t) + nI i = nI (34 * t + i) := by
      have e : (34 : Int32) * nI t = nI (34 * t) := pk_mul 34 t
      rw [e, nI_add]
    rw [wl_X9_undo_22, nI_1, i9, em, nI_clamp (by omega), nI_clamp (by omega)]
    refine ⟨fun c => absurd c (nI_nle2 hi (by decide)), fun _ => ⟨vp_in_nI (by omega) (by decide), vp_in_nI hi (by decide), fun s6 e6 => ih s6 ⟨?_, by rw [e6, tw_I_sA, i9], by rw [e6, mi_q h rfl rfl (by decide), i8]⟩⟩⟩
    rw [e6, i8]
    exact mi_A0u h (okv_q (hM.2.2.2.1 (34 * t + i) (by omega)) (by omega))
  · intro n s ⟨h, _, _⟩
    rw [wl_X9_undo_22]
    exact ⟨fun _ => hQ _ _ h, fun c => absurd (by decide) c⟩
theorem h_feed (hM : MI g b p σ) {x : Int32} {Q : Int32 → tw_S → Prop} (h1 : inI x 0 255 → inI p.2.1 0 239 → ∀ s, MI g b (p.1, p.2.1 + 1, p.2.2) s → Q (p.2.1 + 1) s) (h2 : inI x 0 255 → ¬ inI p.2.1 0 239 → Q (-1000000004) σ) (h3 : ¬ inI x 0 255 → Q (-1000000002) σ) : wp_X9_feed g σ b x Q := by
  unfold wp_X9_feed
  have e2 : tw_I σ b 2 = p.2.1 := hM.2.2.2.2.2.2.2.2.2.1
  have hp := hM.2.2.2.2.2.2.2.1.1
  refine sp_inI (a := 0) (b := 255) rfl rfl (fun hx => ⟨fun _ => ⟨fun c => ?_, fun c => h2 hx (fun z => ?_)⟩, fun c => absurd c (by decide)⟩) (fun hx => ⟨fun c => absurd rfl c, fun _ => h3 hx⟩)
  · rw [e2] at c ⊢
    have hn : inI p.2.1 0 239 := by
      have : p.2.1.toInt ≠ 240 := fun e => c (i_eq.mpr (e.trans e_240.symm))
      exact ⟨hp.1, by have := hp.2; omega⟩
    refine ⟨vp_in_iff.mpr ⟨hn.1, by show _ < ((240 : Nat) : Int); have := hn.2; omega⟩, fun s6 e6 s7 e7 => ?_⟩
    have h6 : MI g b p s6 := e6 ▸ mi_A hM rfl
    have e62 : tw_I s6 b 2 = p.2.1 := h6.2.2.2.2.2.2.2.2.2.1
    rw [e62] at e7
    have h7 : MI g b (p.1, p.2.1 + 1, p.2.2) s7 := e7 ▸ mi_2 h6 (i_inc (N := 240) (by decide) hp (by show _ < ((240 : Nat) : Int); have := hn.2; omega)).1
    have e72 : tw_I s7 b 2 = p.2.1 + 1 := h7.2.2.2.2.2.2.2.2.2.1
    rw [e72]
    exact h1 hx hn s7 h7
  · rw [e2] at c
    rw [c] at z
    exact absurd z.2 (by decide)
theorem h_letter (hM : MI g b p σ) {x : Int32} {Q : Int32 → tw_S → Prop} (h1 : inI x 97 98 → inI p.1 0 23 → ∀ s, MI g b (p.1 + 1, p.2) s → Q (p.1 + 1) s) (h2 : inI x 97 98 → ¬ inI p.1 0 23 → Q (-1000000004) σ) (h3 : ¬ inI x 97 98 → Q (-1000000002) σ) : wp_X9_letter g σ b x Q := by
  unfold wp_X9_letter
  have e2 : tw_I σ b 12 = p.1 := hM.2.2.2.2.2.2.2.2.1
  have hp := hM.2.2.2.2.2.2.1
  refine sp_inI (a := 97) (b := 98) rfl rfl (fun hx => ⟨fun _ => ⟨fun c => ?_, fun c => h2 hx (fun z => ?_)⟩, fun c => absurd c (by decide)⟩) (fun hx => ⟨fun c => absurd rfl c, fun _ => h3 hx⟩)
  · rw [e2] at c ⊢
    have hn : inI p.1 0 23 := by
      have : p.1.toInt ≠ 24 := fun e => c (i_eq.mpr (e.trans e_24.symm))
      exact ⟨hp.1, by have := hp.2; omega⟩
    refine ⟨vp_in_iff.mpr ⟨hn.1, by show _ < ((24 : Nat) : Int); have := hn.2; omega⟩, fun s6 e6 s7 e7 => ?_⟩
    have h6 : MI g b p s6 := by
      rw [e6]
      refine mi_A11 hM (fun i hi => ?_)
      unfold upd
      split
      · obtain ⟨j, j1, j2, rfl, _⟩ := inI_nI (lo := 97) (hi := 98) hx
        have q : ∀ j, j < 99 → 97 ≤ j → inI (nI j - (97 : Int32)) 0 1 := by decide
        exact q j (by omega) j1
      · exact (hM.2.2.2.2.1 i hi).1
    have e62 : tw_I s6 b 12 = p.1 := h6.2.2.2.2.2.2.2.2.1
    rw [e62] at e7
    have h7 : MI g b (p.1 + 1, p.2) s7 := e7 ▸ mi_12 h6 (i_inc (N := 24) (by decide) hp (by show _ < ((24 : Nat) : Int); have := hn.2; omega)).1
    have e72 : tw_I s7 b 12 = p.1 + 1 := h7.2.2.2.2.2.2.2.2.1
    rw [e72]
    exact h1 hx hn s7 h7
  · rw [e2] at c
    rw [c] at z
    exact absurd z.2 (by decide)
theorem h_wipe (hM : MI g b p σ) {Q : Int32 → tw_S → Prop} (hQ : ∀ s, MI g b (0, p.2) s → Q p.1 s) : wp_X9_wipe g σ b Q := by
  unfold wp_X9_wipe
  intro s1 e1
  have e2 : tw_I σ b 12 = p.1 := hM.2.2.2.2.2.2.2.2.1
  rw [e2]
  exact hQ s1 (e1 ▸ mi_12 hM ⟨by decide, by decide⟩)
end H2
