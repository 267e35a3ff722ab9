/-! ===== the model in general: pieces, words turned ===== -/
section H5
variable {g : tw_G} {p : h_P} {σ σ2 : tw_S} {b k : Nat}
def GI (g : tw_G) (b : Nat) (p : h_P) (i j : Nat) (x q : Int32) (s : tw_S) : Prop := MI g b p s ∧ (i : Int) ≤ x.toInt ∧ x.toInt < j ∧ inI q 0 3 ∧ ∀ t, i ≤ t → t < j → inI (tw_A s (tw_R g b 13) t) 0 15
theorem h_go41 {i j : Nat} (hj : j ≤ 24) {m : Int32} (hm : inI m 0 1) {Q : Int32 → tw_S → Prop} {K1 K3 : tw_S → Prop} {K2 : Int32 → tw_S → Prop} (h1 : ∀ s, MI g b p s → K1 s) (h2 : ∀ r s, MI g b p s → K2 r s) (h3 : ∀ s, MI g b p s → K3 s) (x q : Int32) (h : GI g b p i j x q σ) : ∃ n, wl_X9_goesOff_41 g b m (nI i) (nI j) Q K1 K2 K3 n x q σ := by
  refine cm3 (fun x q s => GI g b p i j x q s) (fun _ _ s => 104 - bs (tw_A s (tw_R g b 13)) 26) (fun n x q s hG ih => ?_) x q σ h
  obtain ⟨hM, a1, a2, hq, hb⟩ := hG
  obtain ⟨t, ht, rfl⟩ := i_2 (x := x) (N := 23) (by decide) ⟨by omega, by show _ ≤ ((23 : Nat) : Int); omega⟩
  rw [nI_toInt (by omega)] at a1 a2
  have v : vp_in (nI t) 26 := vp_in_nI (by omega) (by decide)
  have cl : (nI t).toNatClampNeg = t := nI_clamp (by omega)
  rw [wl_X9_goesOff_41, cl]
  have bb := bq2 (hb t (by omega) (by omega)) hq
  refine ⟨v, fun _ => h3 _ hM, fun c => ⟨v, v, fun s10 e10 => ?_⟩⟩
  have h10 : MI g b p s10 := e10 ▸ mi_A hM rfl
  have b10 : tw_A s10 (tw_R g b 13) = upd (tw_A s (tw_R g b 13)) t (tw_A s (tw_R g b 13) t ||| ((1 : Int32) <<< (q &&& 31))) := by rw [e10, mi_s]
  have q1 := bs_upd (tw_A s (tw_R g b 13)) t (tw_A s (tw_R g b 13) t ||| ((1 : Int32) <<< (q &&& 31))) 26 (by omega)
  have q2 := bb.2.2 c
  have q3 := bs_le (tw_A s10 (tw_R g b 13)) 26
  have q4 : bs (tw_A s10 (tw_R g b 13)) 26 = bs (tw_A s (tw_R g b 13)) 26 + 1 := by rw [b10]; omega
  have hw := (h10.2.2.2.2.1 t (by omega)).1
  refine ⟨vp_in_nI (by omega) (by decide), h_moveAt h10 hm hq ⟨hw.1, by have := hw.2; omega⟩ fun r13 h13 => ⟨fun c13 => ?_, fun _ => h1 _ h10⟩⟩
  have R : ∀ d : Int32, ¬ (nI t + d) < nI i → (nI t + d) < nI j → wl_X9_goesOff_41 g b m (nI i) (nI j) Q K1 K2 K3 n (nI t + d) (r13 / (2 : Int32)) s10 := by
    intro d c1 c2
    rw [i_lt, nI_toInt (by omega)] at c1 c2
    refine ih _ _ s10 ⟨h10, by omega, c2, h_half h13 c13, fun k k1 k2 => ?_⟩ ?_
    · rw [b10]
      unfold upd
      split
      · exact bb.2.1
      · exact hb k k1 k2
    · show 104 - bs (tw_A s10 (tw_R g b 13)) 26 < 104 - bs (tw_A s (tw_R g b 13)) 26
      omega
  exact ⟨fun _ => ⟨fun _ => h2 _ _ h10, fun c1 => ⟨fun c2 => R _ c1 c2, fun _ => h2 _ _ h10⟩⟩, fun _ => ⟨fun _ => h2 _ _ h10, fun c1 => ⟨fun c2 => R _ c1 c2, fun _ => h2 _ _ h10⟩⟩⟩
theorem h_goesOff (hM : MI g b p σ) {m x z q d : Int32} (hm : inI m 0 1) (hx : 0 ≤ x.toInt ∧ x.toInt < z.toInt ∧ z.toInt ≤ 24) (hq : inI q 0 3) {Q : Int32 → tw_S → Prop} (hQ : ∀ r s, MI g b p s → Q r s) : wp_X9_goesOff g σ b m x z q d Q := by
  unfold wp_X9_goesOff
  obtain ⟨i, hi, rfl⟩ := i_2 (x := x) (N := 24) (by decide) ⟨hx.1, by show _ ≤ ((24 : Nat) : Int); omega⟩
  obtain ⟨j, hj, rfl⟩ := i_2 (x := z) (N := 24) (by decide) ⟨by omega, hx.2.2⟩
  have hij : i < j := by
    have := hx.2.1
    rw [nI_toInt (by omega), nI_toInt (by omega)] at this
    omega
  refine lp_up (I := fun k s => MI g b p s ∧ i ≤ k ∧ ∀ t, i ≤ t → t < k → tw_A s (tw_R g b 13) t = 0) j ?_ ?_ i (by omega) σ ⟨hM, Nat.le_refl _, fun t h1 h2 => absurd h2 (by omega)⟩
  · intro n k s hk ⟨h, ik, hz⟩ ih
    rw [wl_X9_goesOff_3, nI_1, nI_clamp (by omega)]
    refine ⟨fun c => absurd c (nI_nle2 hk (by omega)), fun _ => ⟨vp_in_nI (by omega) (by decide), fun s3 e3 => ih s3 ⟨e3 ▸ mi_A h rfl, by omega, fun t h1 h2 => ?_⟩⟩⟩
    rw [e3, mi_s]
    unfold upd
    split
    · rfl
    · exact hz t h1 (by omega)
  · intro n s ⟨h, _, hz⟩
    rw [wl_X9_goesOff_3]
    have B : ∀ t, i ≤ t → t < j → inI (tw_A s (tw_R g b 13) t) 0 15 := fun t h1 h2 => by rw [hz t h1 h2]; exact ⟨by decide, by decide⟩
    have ei : (nI i).toInt = (i : Int) := nI_toInt (by omega)
    have es : nI j - (1 : Int32) = nI (j - 1) := pk_sub (b := 1) (by omega)
    have ej : (nI (j - 1)).toInt = ((j - 1 : Nat) : Int) := nI_toInt (by omega)
    rw [es]
    exact ⟨fun _ => ⟨fun _ => h_go41 hj hm (fun s hs => hQ _ _ hs) (fun r s hs => hQ _ _ hs) (fun s hs => hQ _ _ hs) _ _ ⟨h, by omega, by omega, hq, B⟩, fun _ => h_go41 hj hm (fun s hs => hQ _ _ hs) (fun r s hs => hQ _ _ hs) (fun s hs => hQ _ _ hs) _ _ ⟨h, by omega, by omega, hq, B⟩⟩, fun c => absurd (i_le.mpr (Int.le_refl _)) c⟩
theorem h_table (hM : MI g b p σ) {x1 x2 x3 x4 x5 : Int32} {Q : Int32 → tw_S → Prop} (hQ : ∀ r s, MI g b p s → Q r s) : wp_X9_table g σ b x1 x2 x3 x4 x5 Q := by
  unfold wp_X9_table
  exact h_isMachine fun r2 hr2 k2 => ⟨fun _ => hQ _ _ hM, fun c2 => h_isState hM (k2 (h_r1 hr2 c2)) fun r5 hr5 k5 => ⟨fun c5 => h_in fun r8 hr8 k8 => ⟨fun _ => hQ _ _ hM, fun c8 => h_isPiece hM fun r11 k11 => ⟨fun c11 => h_goesOff hM (k2 (h_r1 hr2 c2)) (k11 c11) (k5 (h_r1 hr5 c5)) fun r s h => hQ _ _ h, fun _ => hQ _ _ hM⟩⟩, fun _ => hQ _ _ hM⟩⟩
theorem h_alike (hM : MI g b p σ) {x1 x2 x3 x4 x5 : Int32} {Q : Int32 → tw_S → Prop} (hQ : ∀ r s, MI g b p s → Q r s) : wp_X9_alike g σ b x1 x2 x3 x4 x5 Q := by
  unfold wp_X9_alike
  refine h_isMachine fun r2 hr2 k2 => ⟨fun c2 => h_isPiece hM fun r5 k5 => ⟨fun _ => hQ _ _ hM, fun c5 => h_isPiece hM fun r8 k8 => ⟨fun c8 => ?_, fun _ => hQ _ _ hM⟩⟩, fun _ => hQ _ _ hM⟩
  have hm := k2 (h_r1 hr2 c2)
  refine cu3 8 (by decide) (fun _ s => MI g b p s) (fun n u w s hw h ih => ?_) 1 0 σ ⟨by decide, by decide⟩ hM
  rw [wl_X9_alike_39]
  refine h_states0 h hm fun r11 h11 => ⟨fun _ => ⟨fun _ => hQ _ _ h, fun _ => hQ _ _ h⟩, fun c => ?_⟩
  obtain ⟨t, t1, t4, rfl, _⟩ := inI_nI (lo := 1) (hi := 4) h11
  have e2 : (2 : Int32) * nI t = nI (2 * t) := pk_mul 2 t
  rw [e2, i_le, nI_toInt (by omega)] at c
  have l : w.toInt < ((8 : Nat) : Int) := by omega
  obtain ⟨j, hj, rfl⟩ := i_2 (x := w) (N := 7) (by decide) ⟨hw.1, by show _ ≤ ((7 : Nat) : Int); omega⟩
  have q : ∀ j, j < 8 → inI (nI j / (2 : Int32)) 0 3 := by decide
  have hq := q j (by omega)
  exact ⟨fun _ => ih _ _ l h, fun _ => h_goesOff h hm (k5 c5) hq fun r15 s14 h14 => h_goesOff h14 hm (k8 c8) hq fun r17 s16 h16 => ⟨fun _ => ih _ _ l h16, fun _ => ih _ _ l h16⟩⟩
theorem h_turned (hM : MI g b p σ) {x z : Int32} {Q : Int32 → tw_S → Prop} (hQ : ∀ r s, MI g b p s → Q r s) : wp_X9_turned g σ b x z Q := by
  unfold wp_X9_turned
  refine h_isMachine fun r2 hr2 k2 => ⟨fun c2 => h_in fun r5 hr5 k5 => ⟨fun c5 => ?_, fun _ => hQ _ _ hM⟩, fun _ => hQ _ _ hM⟩
  have hm := k2 (h_r1 hr2 c2)
  have hz := k5 (h_r1 hr5 c5)
  have e06 : (0 : Int64).toInt = 0 := rfl
  have e66 : (6 : Int64).toInt = 6 := rfl
  have hz : inI z 0 6 := ⟨by omega, by omega⟩
  obtain ⟨l, hl, rfl⟩ := i_2 (N := 6) (by decide) hz
  have e12 : tw_I σ b 12 = p.1 := hM.2.2.2.2.2.2.2.2.1
  have hp := hM.2.2.2.2.2.2.1
  rw [e12]
  obtain ⟨n, hn, en⟩ := i_2 (N := 24) (by decide) hp
  rw [en]
  refine lp_up (I := fun _ s => MI g b p s) n ?_ ?_ 0 (Nat.zero_le _) σ hM
  · intro m i s hi h ih
    rw [wl_X9_turned_33, nI_1, nI_clamp (by omega)]
    refine ⟨fun c => absurd c (nI_nle2 hi (by omega)), fun _ => ⟨vp_in_nI (by omega) (by decide), vp_in_nI (by omega) (by decide), h_st (mi_A33 h (fun j hj => ?_)) fun s10 _ h10 => ih s10 h10⟩⟩
    unfold upd
    split
    · exact (h.2.2.2.2.1 i (by omega)).1
    · exact (h.2.2.2.2.1 j hj).2
  · intro m s h
    rw [wl_X9_turned_33]
    refine ⟨fun _ s12 e12 => ?_, fun c => absurd (i_le.mpr (Int.le_refl _)) c⟩
    have h12 : MI g b (nI l, p.2) s12 := by
      rw [e12]
      refine mi_12 h ⟨?_, ?_⟩ <;> rw [nI_toInt (by omega)] <;> omega
    have L81 : ∀ {y4 y5 : Int32} {K : tw_S → Prop} (s : tw_S), MI g b (nI l, p.2) s → (∀ s, MI g b (nI l, p.2) s → K s) → ∃ f, wl_X9_turned_81 g b x (nI l) (nI n) y4 y5 Q K f 0 s := by
      intro y4 y5 K s h hK
      refine lp_up (I := fun _ s => MI g b (nI l, p.2) s) l ?_ ?_ 0 (Nat.zero_le _) s h
      · intro m i s hi h ih
        rw [wl_X9_turned_81, nI_1]
        exact ⟨fun c => absurd c (nI_nle2 hi (by omega)), fun _ => ⟨vp_in_nI (by omega) (by decide), h_st (mi_w h (i_and1 _)) fun s10 _ h10 => ih s10 h10⟩⟩
      · intro m s h
        rw [wl_X9_turned_81]
        exact ⟨fun _ => hK s h, fun c => absurd (i_le.mpr (Int.le_refl _)) c⟩
    have L129 : ∀ {y4 y5 y6 : Int32} {K : tw_S → Prop} (s : tw_S), MI g b (nI l, p.2) s → (∀ s, MI g b (nI l, p.2) s → K s) → ∃ f, wl_X9_turned_129 g b x (nI l) (nI n) y4 y5 y6 Q K f 0 s := by
      intro y4 y5 y6 K s h hK
      refine lp_up (I := fun _ s => MI g b (nI l, p.2) s) l ?_ ?_ 0 (Nat.zero_le _) s h
      · intro m i s hi h ih
        rw [wl_X9_turned_129, nI_1]
        exact ⟨fun c => absurd c (nI_nle2 hi (by omega)), fun _ => ⟨vp_in_nI (by omega) (by decide), h_st (mi_w h (i_and1 _)) fun s10 _ h10 => ih s10 h10⟩⟩
      · intro m s h
        rw [wl_X9_turned_129]
        exact ⟨fun _ => hK s h, fun c => absurd (i_le.mpr (Int.le_refl _)) c⟩
    have q : ∀ l, l < 7 → ((1 : Int32) <<< (nI l &&& 31)).toInt ≤ 64 := by decide
    have ql := q l (by omega)
    refine cu3 64 (by decide) (fun _ s => MI g b (nI l, p.2) s) (fun m u w s hw h ih => ?_) 0 0 s12 ⟨by decide, by decide⟩ h12
    rw [wl_X9_turned_70]
    refine ⟨fun _ s33 e33 => ?_, fun c => ?_⟩
    · have h33 : MI g b p s33 := by
        have := mi_12 (v := nI n) h (by rw [← en]; exact hp)
        rw [e33]
        have ep : ((nI n, (nI l, p.2).2) : h_P) = p := by rw [← en]
        rw [← ep]
        exact this
      refine lp_up (I := fun _ s => MI g b p s) n ?_ ?_ 0 (Nat.zero_le _) s33 h33
      · intro m i s hi h ih
        rw [wl_X9_turned_200, nI_1, nI_clamp (by omega)]
        exact ⟨fun c => absurd c (nI_nle2 hi (by omega)), fun _ => ⟨vp_in_nI (by omega) (by decide), vp_in_nI (by omega) (by decide), h_st (mi_w h (h.2.2.2.2.1 i (by omega)).2) fun s10 _ h10 => ih s10 h10⟩⟩
      · intro m s h
        rw [wl_X9_turned_200]
        exact ⟨fun _ => hQ _ s h, fun c => absurd (i_le.mpr (Int.le_refl _)) c⟩
    · have lw : w.toInt < ((64 : Nat) : Int) := by
        rw [i_le] at c
        omega
      exact L81 s h fun s17 h17 => h_runs h17 hm fun s18 h18 _ => ⟨fun _ => L129 s18 h18 fun s23 h23 => h_runs h23 hm fun s24 h24 _ => ⟨fun _ => ih _ _ lw h24, fun _ => ⟨fun _ => ih _ _ lw h24, fun _ => ih _ _ lw h24⟩⟩, fun _ => L129 s18 h18 fun s23 h23 => h_runs h23 hm fun s24 h24 _ => ⟨fun _ => ih _ _ lw h24, fun _ => ⟨fun _ => ih _ _ lw h24, fun _ => ih _ _ lw h24⟩⟩⟩
end H5
