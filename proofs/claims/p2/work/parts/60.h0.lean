/-! ===== the model in general: the invariant ===== -/
/-- letters of the word, letters of the text, the kept images' bits -/
abbrev h_P : Type := Int32 × Int32 × Int32
/-- what stands at a place of a machine's row -/
def okv (i : Nat) (v : Int32) : Prop := (i % 17 = 0 → inI v 1 4) ∧ inI v (-1) 7
def MI (g : tw_G) (b : Nat) (p : h_P) (σ : tw_S) : Prop := m_d g b ∧ (∀ i, i < 34 → okv i (tw_A σ (tw_R g b 0) i)) ∧ inI (tw_I σ b 9) 0 8 ∧ (∀ i : Nat, (i : Int) < 34 * (tw_I σ b 9).toInt → okv i (tw_A σ (tw_R g b 8) i)) ∧ (∀ i, i < 24 → inI (tw_A σ (tw_R g b 11) i) 0 1 ∧ inI (tw_A σ (tw_R g b 33) i) 0 1) ∧ (∀ j, j < 2 → ¬ ((p.2.2 >>> (nI j &&& 31)) &&& (1 : Int32)) = 0 → ∀ k, k < 34 → okv k (tw_A σ (tw_R g b 34) (34 * j + k))) ∧ inI p.1 0 24 ∧ (inI p.2.1 0 240 ∧ inI p.2.2 0 3) ∧ tw_I σ b 12 = p.1 ∧ tw_I σ b 2 = p.2.1 ∧ tw_I σ b 35 = p.2.2
section H0
variable {g : tw_G} {p : h_P} {σ σ2 : tw_S} {b k : Nat}
def hf (k : Nat) : Bool := !([2, 9, 12, 35].contains k)
def hr (k : Nat) : Bool := m_sl.contains k && !([0, 8, 11, 33, 34].contains k)
theorem mi_I {v : Int32} (hM : MI g b p σ) (hk : hf k = true) : MI g b p (tw_sI σ b k v) := by
  have f : ∀ j, hf j = false → j ≠ k := fun j h e => by
    rw [← e, h] at hk
    exact absurd hk (by decide)
  have q : ∀ j, hf j = false → tw_I (tw_sI σ b k v) b j = tw_I σ b j := fun j h => by rw [tw_I_sI, if_pos rfl, if_neg (f j h)]
  obtain ⟨h0, h1, h2, h3, h4, h5, h6, h7, h8, h9, h10⟩ := hM
  refine ⟨h0, h1, ?_, ?_, h4, h5, h6, h7, ?_, ?_, ?_⟩
  · rw [q 9 rfl]; exact h2
  · rw [q 9 rfl]; exact h3
  · rw [q 12 rfl]; exact h8
  · rw [q 2 rfl]; exact h9
  · rw [q 35 rfl]; exact h10
theorem mi_ne (hM : MI g b p σ) {i j : Nat} (hi : m_sl.contains i = true) (hj : m_sl.contains j = true) (h : i ≠ j) : tw_R g b i ≠ tw_R g b j := hM.1 i j (List.contains_iff_mem.mp hi) (List.contains_iff_mem.mp hj) h
theorem mi_q {f : Nat → Int32} (hM : MI g b p σ) {j : Nat} (hk : m_sl.contains k = true) (hj : m_sl.contains j = true) (h : j ≠ k) : tw_A (tw_sA σ (tw_R g b k) f) (tw_R g b j) = tw_A σ (tw_R g b j) := by
  rw [tw_A_sA, if_neg (mi_ne hM hj hk h)]
theorem mi_s {f : Nat → Int32} : tw_A (tw_sA σ (tw_R g b k) f) (tw_R g b k) = f := by rw [tw_A_sA, if_pos rfl]
theorem mi_A {f : Nat → Int32} (hM : MI g b p σ) (hk : hr k = true) : MI g b p (tw_sA σ (tw_R g b k) f) := by
  have hM0 := hM
  rw [hr, Bool.and_eq_true] at hk
  have q : ∀ j, m_sl.contains j = true → [0, 8, 11, 33, 34].contains j = true → tw_A (tw_sA σ (tw_R g b k) f) (tw_R g b j) = tw_A σ (tw_R g b j) := fun j hj h => mi_q hM0 hk.1 hj (fun e => by
    have h2 := hk.2
    rw [← e, h] at h2
    exact absurd h2 (by decide))
  obtain ⟨h0, h1, h2, h3, h4, h5, h6, h7, h8, h9, h10⟩ := hM
  refine ⟨h0, ?_, h2, ?_, ?_, ?_, h6, h7, h8, h9, h10⟩
  · rw [q 0 rfl rfl]; exact h1
  · rw [q 8 rfl rfl]; exact h3
  · rw [q 11 rfl rfl, q 33 rfl rfl]; exact h4
  · rw [q 34 rfl rfl]; exact h5
theorem mi_A0 {f : Nat → Int32} (hM : MI g b p σ) (hf : ∀ i, i < 34 → okv i (f i)) : MI g b p (tw_sA σ (tw_R g b 0) f) := by
  have hM0 := hM
  obtain ⟨h0, h1, h2, h3, h4, h5, h6, h7, h8, h9, h10⟩ := hM
  refine ⟨h0, ?_, h2, ?_, ?_, ?_, h6, h7, h8, h9, h10⟩
  · rw [mi_s]; exact hf
  · rw [mi_q hM0 rfl rfl (by decide)]; exact h3
  · rw [mi_q hM0 rfl rfl (by decide), mi_q hM0 rfl rfl (by decide)]; exact h4
  · rw [mi_q hM0 rfl rfl (by decide)]; exact h5
theorem mi_A11 {f : Nat → Int32} (hM : MI g b p σ) (hf : ∀ i, i < 24 → inI (f i) 0 1) : MI g b p (tw_sA σ (tw_R g b 11) f) := by
  have hM0 := hM
  obtain ⟨h0, h1, h2, h3, h4, h5, h6, h7, h8, h9, h10⟩ := hM
  refine ⟨h0, ?_, h2, ?_, ?_, ?_, h6, h7, h8, h9, h10⟩
  · rw [mi_q hM0 rfl rfl (by decide)]; exact h1
  · rw [mi_q hM0 rfl rfl (by decide)]; exact h3
  · rw [mi_s, mi_q hM0 rfl rfl (by decide)]; exact fun i hi => ⟨hf i hi, (h4 i hi).2⟩
  · rw [mi_q hM0 rfl rfl (by decide)]; exact h5
theorem mi_A33 {f : Nat → Int32} (hM : MI g b p σ) (hf : ∀ i, i < 24 → inI (f i) 0 1) : MI g b p (tw_sA σ (tw_R g b 33) f) := by
  have hM0 := hM
  obtain ⟨h0, h1, h2, h3, h4, h5, h6, h7, h8, h9, h10⟩ := hM
  refine ⟨h0, ?_, h2, ?_, ?_, ?_, h6, h7, h8, h9, h10⟩
  · rw [mi_q hM0 rfl rfl (by decide)]; exact h1
  · rw [mi_q hM0 rfl rfl (by decide)]; exact h3
  · rw [mi_s, mi_q hM0 rfl rfl (by decide)]; exact fun i hi => ⟨(h4 i hi).1, hf i hi⟩
  · rw [mi_q hM0 rfl rfl (by decide)]; exact h5
theorem mi_A34 {f : Nat → Int32} (hM : MI g b p σ) (hf : ∀ j, j < 2 → ¬ ((p.2.2 >>> (nI j &&& 31)) &&& (1 : Int32)) = 0 → ∀ k, k < 34 → okv k (f (34 * j + k))) : MI g b p (tw_sA σ (tw_R g b 34) f) := by
  have hM0 := hM
  obtain ⟨h0, h1, h2, h3, h4, h5, h6, h7, h8, h9, h10⟩ := hM
  refine ⟨h0, ?_, h2, ?_, ?_, ?_, h6, h7, h8, h9, h10⟩
  · rw [mi_q hM0 rfl rfl (by decide)]; exact h1
  · rw [mi_q hM0 rfl rfl (by decide)]; exact h3
  · rw [mi_q hM0 rfl rfl (by decide), mi_q hM0 rfl rfl (by decide)]; exact h4
  · rw [mi_s]; exact hf
theorem mi_A8 {f : Nat → Int32} (hM : MI g b p σ) (hf : ∀ i : Nat, (i : Int) < 34 * (tw_I σ b 9).toInt → okv i (f i)) : MI g b p (tw_sA σ (tw_R g b 8) f) := by
  have hM0 := hM
  obtain ⟨h0, h1, h2, h3, h4, h5, h6, h7, h8, h9, h10⟩ := hM
  refine ⟨h0, ?_, h2, ?_, ?_, ?_, h6, h7, h8, h9, h10⟩
  · rw [mi_q hM0 rfl rfl (by decide)]; exact h1
  · rw [mi_s]; exact hf
  · rw [mi_q hM0 rfl rfl (by decide), mi_q hM0 rfl rfl (by decide)]; exact h4
  · rw [mi_q hM0 rfl rfl (by decide)]; exact h5
theorem mi_J {v : Int64} (hM : MI g b p σ) : MI g b p (tw_sJ σ b k v) := hM
theorem mi_n {v : Int32} {j : Nat} (h : j ≠ k) : tw_I (tw_sI σ b k v) b j = tw_I σ b j := by rw [tw_I_sI, if_pos rfl, if_neg h]
theorem mi_e {v : Int32} : tw_I (tw_sI σ b k v) b k = v := by rw [tw_I_sI, if_pos rfl, if_pos rfl]
theorem mi_12 {v : Int32} (hM : MI g b p σ) (hv : inI v 0 24) : MI g b (v, p.2) (tw_sI σ b 12 v) := by
  obtain ⟨h0, h1, h2, h3, h4, h5, h6, h7, h8, h9, h10⟩ := hM
  exact ⟨h0, h1, by rw [mi_n (by decide)]; exact h2, by rw [mi_n (by decide)]; exact h3, h4, h5, hv, h7, mi_e, by rw [mi_n (by decide)]; exact h9, by rw [mi_n (by decide)]; exact h10⟩
theorem mi_2 {v : Int32} (hM : MI g b p σ) (hv : inI v 0 240) : MI g b (p.1, v, p.2.2) (tw_sI σ b 2 v) := by
  obtain ⟨h0, h1, h2, h3, h4, h5, h6, h7, h8, h9, h10⟩ := hM
  exact ⟨h0, h1, by rw [mi_n (by decide)]; exact h2, by rw [mi_n (by decide)]; exact h3, h4, h5, h6, ⟨hv, h7.2⟩, by rw [mi_n (by decide)]; exact h8, mi_e, by rw [mi_n (by decide)]; exact h10⟩
/-- fewer to be undone -/
theorem mi_9 {v : Int32} (hM : MI g b p σ) (hv : inI v 0 8) (hl : ∀ i : Nat, (i : Int) < 34 * v.toInt → okv i (tw_A σ (tw_R g b 8) i)) : MI g b p (tw_sI σ b 9 v) := by
  obtain ⟨h0, h1, h2, h3, h4, h5, h6, h7, h8, h9, h10⟩ := hM
  have e : tw_I (tw_sI σ b 9 v) b 9 = v := by rw [tw_I_sI, if_pos rfl, if_pos rfl]
  refine ⟨h0, h1, ?_, ?_, h4, h5, h6, h7, by rw [mi_n (by decide)]; exact h8, by rw [mi_n (by decide)]; exact h9, by rw [mi_n (by decide)]; exact h10⟩
  · rw [e]; exact hv
  · rw [e]; exact hl
theorem h_st {e : tw_S} {T : tw_S → Prop} (h : MI g b p e) (h2 : ∀ s, s = e → MI g b p s → T s) : ∀ s, s = e → T s := fun s hs => h2 s hs (hs ▸ h)
/-! small calls -/
theorem h_in {x : Int32} {lo hi : Int64} {Q : Int32 → tw_S → Prop} (hQ : ∀ r, (r = 0 ∨ r = 1) → (r = 1 → lo.toInt ≤ x.toInt ∧ x.toInt ≤ hi.toInt) → Q r σ) : wp_X9_in g σ x.toInt64 lo hi Q := by
  refine sp_in (fun c1 c2 => hQ 1 (Or.inr rfl) (fun _ => ?_)) (fun c => hQ 0 (Or.inl rfl) (fun e => absurd e (by decide)))
  rw [j_i] at c1 c2
  exact ⟨c1, c2⟩
theorem h_nb {r : Int32} (h : r = 0 ∨ r = 1) : narrow .boolean (.int r) = .int r := by
  rcases h with rfl | rfl <;> rfl
theorem h_r1 {r : Int32} (h : r = 0 ∨ r = 1) (c : ¬ r = 0) : r = 1 := h.resolve_left c
theorem h_isMachine {x : Int32} {Q : Int32 → tw_S → Prop} (hQ : ∀ r, (r = 0 ∨ r = 1) → (r = 1 → inI x 0 1) → Q r σ) : wp_X9_isMachine g σ x Q := by
  unfold wp_X9_isMachine
  exact h_in fun r h h1 => ⟨h_nb h, hQ r h (fun e => h1 e)⟩
theorem i_2 {x : Int32} {N : Nat} (hN : N < 2 ^ 31) (h : inI x 0 N) : ∃ j : Nat, j ≤ N ∧ x = nI j := by
  obtain ⟨j, _, hj, e, _⟩ := inI_nI (lo := 0) (hi := N) h
  exact ⟨j, hj, e⟩
theorem q17 : ∀ m, m < 2 → (17 : Int32) * nI m = nI (17 * m) := fun m _ => pk_mul 17 m
theorem h_states0 (hM : MI g b p σ) {x : Int32} (hx : inI x 0 1) {Q : Int32 → tw_S → Prop} (hQ : ∀ r, inI r 1 4 → Q r σ) : wp_X9_states0 g σ b x Q := by
  unfold wp_X9_states0
  obtain ⟨m, hm, rfl⟩ := i_2 (N := 1) (by decide) hx
  have e : (17 : Int32) * nI m = nI (17 * m) := pk_mul 17 m
  rw [e, nI_clamp (by omega)]
  exact ⟨vp_in_nI (by omega) (by decide), hQ _ ((hM.2.1 (17 * m) (by omega)).1 (by omega))⟩
theorem h_isState (hM : MI g b p σ) {x z : Int32} (hx : inI x 0 1) {Q : Int32 → tw_S → Prop} (hQ : ∀ r, (r = 0 ∨ r = 1) → (r = 1 → inI z 0 3) → Q r σ) : wp_X9_isState g σ b x z Q := by
  unfold wp_X9_isState
  refine h_states0 hM hx fun r2 h2 => h_in fun r4 h4 h5 => ⟨h_nb h4, hQ r4 h4 (fun e => ?_)⟩
  have h6 := h5 e
  obtain ⟨j, hj1, hj, rfl, _⟩ := inI_nI (lo := 1) (hi := 4) h2
  have q : ∀ j, j < 5 → 1 ≤ j → ((nI j - 1).toInt64).toInt ≤ 3 := by decide
  have q2 := q j (by omega) hj1
  have e0 : (0 : Int64).toInt = 0 := rfl
  exact ⟨by omega, by omega⟩
theorem h_ix {x z w : Int32} (hx : inI x 0 1) (hz : inI z 0 3) (hw : inI w 0 3) : ∃ j : Nat, j < 34 ∧ ¬ j % 17 = 0 ∧ ((((17 : Int32) * x) + (1 : Int32)) + ((4 : Int32) * z)) + w = nI j := by
  obtain ⟨m, hm, rfl⟩ := i_2 (N := 1) (by decide) hx
  obtain ⟨i, hi, rfl⟩ := i_2 (N := 3) (by decide) hz
  obtain ⟨k, hk, rfl⟩ := i_2 (N := 3) (by decide) hw
  have e1 : (17 : Int32) * nI m = nI (17 * m) := pk_mul 17 m
  have e2 : (4 : Int32) * nI i = nI (4 * i) := pk_mul 4 i
  have q : ∀ m, m < 2 → ∀ i, i < 4 → ∀ k, k < 4 → ¬ (17 * m + 1 + 4 * i + k) % 17 = 0 := by decide
  refine ⟨17 * m + 1 + 4 * i + k, by omega, q m (by omega) i (by omega) k (by omega), ?_⟩
  rw [e1, e2, nI_1, nI_add, nI_add]
theorem h_moveAt (hM : MI g b p σ) {x z w : Int32} (hx : inI x 0 1) (hz : inI z 0 3) (hw : inI w 0 3) {Q : Int32 → tw_S → Prop} (hQ : ∀ r, inI r (-1) 7 → Q r σ) : wp_X9_moveAt g σ b x z w Q := by
  unfold wp_X9_moveAt
  obtain ⟨j, hj, _, e⟩ := h_ix hx hz hw
  rw [e, nI_clamp (by omega)]
  exact ⟨vp_in_nI hj (by decide), hQ _ (hM.2.1 j hj).2⟩
theorem h_half {r : Int32} (h : inI r (-1) 7) (c : ¬ r = -1) : inI (r / (2 : Int32)) 0 3 := by
  have hr : r.toInt ≠ -1 := fun e => c (i_eq.mpr e)
  obtain ⟨j, _, hj, rfl, _⟩ := inI_nI (x := r) (lo := 0) (hi := 7) ⟨by have := h.1; omega, h.2⟩
  have q : ∀ j, j < 8 → inI (nI j / (2 : Int32)) 0 3 := by decide
  exact q j (by omega)
theorem h_isSpot (hM : MI g b p σ) {x z w : Int32} {Q : Int32 → tw_S → Prop} (hQ : ∀ r, (¬ r = 0 → inI x 0 1 ∧ inI z 0 3 ∧ inI w 0 3) → Q r σ) : wp_X9_isSpot g σ b x z w Q := by
  unfold wp_X9_isSpot
  exact h_isMachine fun r h h1 => ⟨fun _ => hQ _ (fun c => absurd rfl c), fun c => h_isState hM (h1 (h_r1 h c)) fun r5 h5 h6 => ⟨fun _ => hQ _ (fun c => absurd rfl c), fun c5 => h_in fun r8 h8 h9 => ⟨fun _ => hQ _ (fun c => absurd rfl c), fun c8 => hQ _ (fun _ => ⟨h1 (h_r1 h c), h6 (h_r1 h5 c5), h9 (h_r1 h8 c8)⟩)⟩⟩⟩
theorem okv_n {i : Nat} {v : Int32} (h : ¬ i % 17 = 0) (hv : inI v (-1) 7) : okv i v := ⟨fun e => absurd e h, hv⟩
theorem okv_m {i : Nat} {v : Int32} (hv : inI v 1 4) : okv i v := ⟨fun _ => hv, ⟨by have := hv.1; omega, by have := hv.2; omega⟩⟩
theorem mi_A0u {j : Nat} {v : Int32} (hM : MI g b p σ) (hv : okv j v) : MI g b p (tw_sA σ (tw_R g b 0) (upd (tw_A σ (tw_R g b 0)) j v)) := by
  refine mi_A0 hM (fun i hi => ?_)
  unfold upd
  split
  · next e => rw [e]; exact hv
  · exact hM.2.1 i hi
end H0
