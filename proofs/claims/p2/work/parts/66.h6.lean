/-! ===== the model in general: one-ways ===== -/
/-- bits seen: 16 values, each new bit fewer left -/
theorem sq2 {v q : Int32} (hv : inI v 0 15) (hq : inI q 0 3) (c : ((v >>> (q &&& 31)) &&& (1 : Int32)) = 0) : inI (v ||| ((1 : Int32) <<< (q &&& 31))) 0 15 ∧ 4 - pcN (v ||| ((1 : Int32) <<< (q &&& 31))).toInt.toNat < 4 - pcN v.toInt.toNat := by
  have h := bq2 hv hq
  have := h.2.2 c
  have := pcN_le (v ||| ((1 : Int32) <<< (q &&& 31))).toInt.toNat
  exact ⟨h.2.1, by omega⟩
theorem i_ne1 {x : Int32} {N : Int} (h : inI x (-1) N) (c : ¬ x = -1) : inI x 0 N := by
  have : x.toInt ≠ -1 := fun e => c (i_eq.mpr e)
  exact ⟨by have := h.1; omega, h.2⟩
theorem at_e {m k : Nat} : ((151 : Int32) * nI m) + nI k = nI (151 * m + k) := by
  have e : (151 : Int32) * nI m = nI (151 * m) := pk_mul 151 m
  rw [e, nI_add]
theorem at5 {a t : Nat} : ((5 : Int32) * nI a) + nI t = nI (5 * a + t) := by
  have e : (5 : Int32) * nI a = nI (5 * a) := pk_mul 5 a
  rw [e, nI_add]
theorem at2 {a t : Nat} : ((2 : Int32) * nI a) + nI t = nI (2 * a + t) := by
  have e : (2 : Int32) * nI a = nI (2 * a) := pk_mul 2 a
  rw [e, nI_add]
section H6
variable {g : tw_G} {p : h_P} {σ σ2 : tw_S} {b k : Nat}
/-- what a beginning does: states or none -/
def okd (f : Nat → Int32) (a : Nat) : Prop := ∀ t, t < 5 → inI (f (5 * a + t)) (-1) 3
theorem h_offRight (hM : MI g b p σ) {x z q w : Int32} (hx : inI x 0 1) (hz : inI z 0 3) (hq : inI q (-1) 3) (hw : w = -1 ∨ ∃ a : Nat, a < 302 ∧ w = nI a ∧ okd (tw_A σ (tw_R g b 21)) a) {Q : Int32 → tw_S → Prop} (hQ : ∀ r, inI r (-1) 3 → Q r σ) : wp_X9_offRight g σ b x z q w Q := by
  unfold wp_X9_offRight
  have m1 : inI (-1 : Int32) (-1) 3 := ⟨by decide, by decide⟩
  refine cm3 (fun u v s => s = σ ∧ inI u (-1) 3 ∧ inI v 0 15) (fun _ v _ => 4 - pcN v.toInt.toNat) (fun n u v s hI ih => ?_) q 0 σ ⟨rfl, hq, ⟨by decide, by decide⟩⟩
  obtain ⟨rfl, hu, hv⟩ := hI
  rw [wl_X9_offRight_6]
  refine ⟨fun _ => hQ _ m1, fun c1 => ⟨fun _ => hQ _ m1, fun c2 z3 e3 => ?_⟩⟩
  have u0 := i_ne1 hu c1
  have sq := sq2 hv u0 c2
  rw [← e3] at sq
  refine h_moveAt hM hx u0 hz fun r5 h5 => ⟨fun c5 => ⟨fun _ => ⟨fun c6 => ?_, fun _ => ih _ _ _ ⟨rfl, m1, sq.1⟩ sq.2⟩, fun _ => hQ _ ⟨by have := (h_half h5 c5).1; omega, (h_half h5 c5).2⟩⟩, fun _ => hQ _ m1⟩
  obtain ⟨a, ha, ew, hd⟩ := hw.resolve_left c6
  obtain ⟨t, ht, et⟩ := i_2 (N := 3) (by decide) (h_half h5 c5)
  have ei : (((5 : Int32) * w) + (1 : Int32)) + (r5 / (2 : Int32)) = nI (5 * a + (1 + t)) := by
    have e5 : (5 : Int32) * nI a = nI (5 * a) := pk_mul 5 a
    rw [ew, et, e5, nI_1, nI_add]
    congr 1
    omega
  rw [ei, nI_clamp (by omega)]
  refine ⟨vp_in_nI (by omega) (by decide), fun z10 e10 => ih _ _ _ ⟨rfl, ?_, sq.1⟩ sq.2⟩
  rw [e10]
  exact hd (1 + t) (by omega)
/-- what tries leaves: five states or none, nothing else changed -/
theorem h_tries (hM : MI g b p σ) {x z q w : Int32} (hx : inI x 0 1) (hz : inI z 0 3) (hq : inI q (-1) 3) (hw : w = -1 ∨ ∃ a : Nat, a < 302 ∧ w = nI a ∧ okd (tw_A σ (tw_R g b 21)) a) {Q : tw_S → Prop} (hQ : ∀ s, MI g b p s → (∀ j, j ∈ m_sl → j ≠ 25 → tw_A s (tw_R g b j) = tw_A σ (tw_R g b j)) → okd (tw_A s (tw_R g b 25)) 0 → Q s) : wp_X9_tries g σ b x z q w Q := by
  unfold wp_X9_tries
  have m1 : inI (-1 : Int32) (-1) 3 := ⟨by decide, by decide⟩
  have L : ∀ s, MI g b p s → (∀ j, j ∈ m_sl → j ≠ 25 → tw_A s (tw_R g b j) = tw_A σ (tw_R g b j)) → inI (tw_A s (tw_R g b 25) 0) (-1) 3 → ∃ n, wl_X9_tries_27 g b x z w Q (fun s => Q s) n 0 s := by
    intro s h hf h0
    refine lp_up (I := fun i s => MI g b p s ∧ (∀ j, j ∈ m_sl → j ≠ 25 → tw_A s (tw_R g b j) = tw_A σ (tw_R g b j)) ∧ ∀ t, t < i + 1 → inI (tw_A s (tw_R g b 25) t) (-1) 3) 4 ?_ ?_ 0 (by decide) s ⟨h, hf, fun t ht => ?_⟩
    · intro n i s hi ⟨h, hf, ht⟩ ih
      have ei : (1 : Int32) + nI i = nI (1 + i) := nI_add 1 i
      rw [wl_X9_tries_27, nI_1, ei, nI_clamp (by omega)]
      have W : ∀ v, inI v (-1) 3 → ∀ s2, s2 = tw_sA s (tw_R g b 25) (upd (tw_A s (tw_R g b 25)) (1 + i) v) → wl_X9_tries_27 g b x z w Q (fun s => Q s) n (nI (i + 1)) s2 := by
        intro v hv s2 e2
        refine ih s2 ⟨e2 ▸ mi_A h rfl, fun j hj hj2 => ?_, fun t ht2 => ?_⟩
        · rw [e2, mi_q h rfl (List.contains_iff_mem.mpr hj) hj2]
          exact hf j hj hj2
        · rw [e2, mi_s]
          unfold upd
          split
          · exact hv
          · exact ht t (by omega)
      have hi3 : inI (nI i) 0 3 := by
        have e := nI_toInt (n := i) (by omega)
        exact ⟨by omega, by omega⟩
      refine ⟨fun c => absurd c (nI_nle2 hi (by decide)), fun _ => h_isState h hx fun r7 hr7 k7 => ⟨fun _ => ⟨vp_in_nI (by omega) (by decide), W _ m1⟩, fun c7 => h_offRight h hx hz ⟨by have := hi3.1; omega, hi3.2⟩ ?_ fun r12 h12 => ⟨vp_in_nI (by omega) (by decide), W _ h12⟩⟩⟩
      rw [hf 21 (by decide) (by decide)]
      exact hw
    · intro n s ⟨h, hf, ht⟩
      rw [wl_X9_tries_27]
      exact ⟨fun _ => hQ s h hf (fun t h5 => by rw [Nat.mul_zero, Nat.zero_add]; exact ht t h5), fun c => absurd (by decide) c⟩
    · obtain rfl : t = 0 := by omega
      exact h0
  have Z : ∀ v, inI v (-1) 3 → ∀ s4, s4 = tw_sA σ (tw_R g b 25) (upd (tw_A σ (tw_R g b 25)) (0 : Int32).toNatClampNeg v) → ∃ n, wl_X9_tries_27 g b x z w Q (fun s => Q s) n 0 s4 := by
    intro v hv s4 e4
    refine L s4 (e4 ▸ mi_A hM rfl) (fun j hj hj2 => by rw [e4, mi_q hM rfl (List.contains_iff_mem.mpr hj) hj2]) ?_
    rw [e4, mi_s]
    exact hv
  exact ⟨fun _ => h_offRight hM hx hz hq hw fun r3 h3 => Z r3 h3, fun _ => Z _ m1⟩
theorem h_isGood (hM : MI g b p σ) {m k : Nat} (hm : m < 2) (hk : k < 151) (hd : okd (tw_A σ (tw_R g b 21)) (151 * m + k)) {Q : Int32 → tw_S → Prop} (hQ : ∀ r, Q r σ) : wp_X9_isGood g σ b (nI m) (nI k) Q := by
  unfold wp_X9_isGood wp_X9_at
  have hx : inI (nI m) 0 1 := by
    have e := nI_toInt (n := m) (by omega)
    exact ⟨by omega, by omega⟩
  have m1 : inI (-1 : Int32) (-1) 3 := ⟨by decide, by decide⟩
  rw [at_e]
  have e5 : (5 : Int32) * nI (151 * m + k) = nI (5 * (151 * m + k)) := pk_mul 5 _
  show vp_in ((5 : Int32) * nI (151 * m + k)) 1510 ∧ ∀ z4, z4 = (tw_A σ (tw_R g b 21) ((5 : Int32) * nI (151 * m + k)).toNatClampNeg) → ∃ n17, wl_X9_isGood_17 g b (nI m) (nI k) Q (fun σ22 => Q (1 : Int32) σ22) (fun σ23 => Q (0 : Int32) σ23) n17 z4 (0 : Int32) σ
  rw [e5, nI_clamp (by omega)]
  refine ⟨vp_in_nI (by omega) (by decide), fun z4 e4 => ?_⟩
  refine cm3 (fun u v s => s = σ ∧ inI u (-1) 3 ∧ inI v 0 15) (fun _ v _ => 4 - pcN v.toInt.toNat) (fun n u v s hI ih => ?_) z4 0 σ ⟨rfl, ?_, ⟨by decide, by decide⟩⟩
  · obtain ⟨rfl, hu, hv⟩ := hI
    rw [wl_X9_isGood_17]
    refine ⟨fun _ => hQ _, fun c1 => ⟨fun _ => hQ _, fun c2 z7 e7 => ?_⟩⟩
    have u0 := i_ne1 hu c1
    have sq := sq2 hv u0 c2
    rw [← e7] at sq
    refine h_moveAt hM hx u0 ⟨by decide, by decide⟩ fun r9 h9 => ⟨fun c9 => ⟨fun c => absurd c9 c, fun _ => ih _ _ _ ⟨rfl, m1, sq.1⟩ sq.2⟩, fun c9 => ⟨fun _ => ⟨fun _ => ?_, fun c => absurd c c9⟩, fun _ => hQ _⟩⟩
    unfold wp_X9_at
    obtain ⟨t, ht, et⟩ := i_2 (N := 3) (by decide) (h_half h9 c9)
    have ei : (((5 : Int32) * (((151 : Int32) * nI m) + nI k)) + (1 : Int32)) + (r9 / (2 : Int32)) = nI (5 * (151 * m + k) + (1 + t)) := by
      rw [at_e, e5, et, nI_1, nI_add]
      congr 1
      omega
    rw [ei, nI_clamp (by omega)]
    refine ⟨vp_in_nI (by omega) (by decide), fun z10 e10 => ih _ _ _ ⟨rfl, ?_, sq.1⟩ sq.2⟩
    rw [e10]
    exact hd (1 + t) (by omega)
  · rw [e4]
    exact hd 0 (by decide)
end H6
