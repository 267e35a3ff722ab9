/-! ===== the model in general: the text ===== -/
section H1
variable {g : tw_G} {p : h_P} {σ σ2 : tw_S} {b k : Nat}
def TI (g : tw_G) (b : Nat) (p : h_P) (c : Int) (σ : tw_S) : Prop := MI g b p σ ∧ 0 ≤ c ∧ inI (tw_I σ b 3) c 240 ∧ ∀ i, i < 17 → okv i (tw_A σ (tw_R g b 6) i)
theorem ti_3 {c d : Int} {v : Int32} (h : TI g b p c σ) (hd : 0 ≤ d) (hv : inI v d 240) : TI g b p d (tw_sI σ b 3 v) := ⟨mi_I h.1 rfl, hd, by rw [mi_e]; exact hv, h.2.2.2⟩
theorem ti_I {c : Int} {v : Int32} (h : TI g b p c σ) (hk : hf k = true) (h3 : k ≠ 3) : TI g b p c (tw_sI σ b k v) := ⟨mi_I h.1 hk, h.2.1, by rw [mi_n (Ne.symm h3)]; exact h.2.2.1, h.2.2.2⟩
theorem ti_w {c d : Int} (h : TI g b p c σ) (hd : 0 ≤ d) (hc : d ≤ c) : TI g b p d σ := ⟨h.1, hd, ⟨by have := h.2.2.1.1; omega, h.2.2.1.2⟩, h.2.2.2⟩
theorem ti_6 {c : Int} {j : Nat} {v : Int32} (h : TI g b p c σ) (hv : okv j v) : TI g b p c (tw_sA σ (tw_R g b 6) (upd (tw_A σ (tw_R g b 6)) j v)) := by
  refine ⟨mi_A h.1 rfl, h.2.1, h.2.2.1, fun i hi => ?_⟩
  rw [mi_s]
  unfold upd
  split
  · next e => rw [e]; exact hv
  · exact h.2.2.2 i hi
/-- a step on in the text -/
theorem ti_inc {c : Int} (h : TI g b p c σ) (hl : (tw_I σ b 3).toInt < 240) : TI g b p (c + 1) (tw_sI σ b 3 (tw_I σ b 3 + 1)) := by
  have q := i_inc (N := 240) (x := tw_I σ b 3) (by decide) ⟨by have := h.2.1; have := h.2.2.1.1; omega, h.2.2.1.2⟩ hl
  have := h.2.1
  have := h.2.2.1.1
  exact ti_3 h (by omega) ⟨by omega, q.1.2⟩
theorem h_here {c : Int} (h : TI g b p c σ) {Q : Int32 → tw_S → Prop} (hQ : ∀ r s, TI g b p c s → (r = -1 ∨ (tw_I s b 3).toInt < 240) → Q r s) : wp_X9_here g σ b Q := by
  unfold wp_X9_here
  refine cu1 (TI g b p c) (fun s => (240 - (tw_I s b 3).toInt).toNat) (fun n s h ih => ?_) σ h
  have e2 : tw_I s b 2 = p.2.1 := h.1.2.2.2.2.2.2.2.2.2.1
  have hf := h.1.2.2.2.2.2.2.2.1.1
  have hp := h.2.2.1
  have h0 := h.2.1
  have V : ¬ (tw_I s b 2) ≤ (tw_I s b 3) → (tw_I s b 3).toInt < 240 ∧ vp_in (tw_I s b 3) 240 := by
    intro c
    rw [i_le, e2] at c
    have := hf.2
    exact ⟨by omega, vp_in_iff.mpr ⟨by have := hp.1; omega, by show _ < ((240 : Nat) : Int); omega⟩⟩
  have K : ((tw_I s b 2 ≤ tw_I s b 3) → Q (-1 : Int32) s) ∧ (¬ (tw_I s b 2 ≤ tw_I s b 3) → vp_in (tw_I s b 3) 240 ∧ Q (tw_A s (tw_R g b 1) (tw_I s b 3).toNatClampNeg) s) := ⟨fun _ => hQ _ _ h (Or.inl rfl), fun c => ⟨(V c).2, hQ _ _ h (Or.inr (V c).1)⟩⟩
  rw [wl_X9_here_0]
  refine ⟨fun _ => K, fun c => ⟨(V c).2, fun _ => K, fun _ s4 e4 => ih s4 ?_ ?_⟩⟩
  · rw [e4]
    exact ti_w (ti_inc h (V c).1) h0 (by omega)
  · have l := (V c).1
    have q := i_inc (N := 240) (x := tw_I s b 3) (by decide) ⟨by have := hp.1; omega, hp.2⟩ l
    show (240 - (tw_I s4 b 3).toInt).toNat < (240 - (tw_I s b 3).toInt).toNat
    rw [e4, mi_e, q.2]
    omega
theorem h_must {c : Int} (h : TI g b p c σ) {x : Int32} (hx : ¬ x = -1) {Q : Int32 → tw_S → Prop} (hQ : ∀ r s, (r = 0 ∨ r = 1) → TI g b p c s → Q r s) : wp_X9_must g σ b x Q := by
  unfold wp_X9_must wp_X9_wrong
  refine h_here h fun r s hs hp => ⟨fun e s4 e4 => hQ _ _ (Or.inr rfl) ?_, fun _ s5 e5 => ⟨rfl, hQ _ _ (Or.inl rfl) (e5 ▸ ti_I hs rfl (by decide))⟩⟩
  rw [e4]
  exact ti_w (ti_inc hs (hp.resolve_left (fun z => hx (e.symm.trans z)))) h.2.1 (by omega)
theorem h_isFigure {c : Int} (h : TI g b p c σ) {x z : Int32} {Q : Int32 → tw_S → Prop} (hQ : ∀ r s, (r = 0 ∨ r = 1) → TI g b p c s → (r = 1 → x.toInt ≤ (tw_I s b 7).toInt ∧ (tw_I s b 7).toInt ≤ z.toInt) → Q r s) : wp_X9_isFigure g σ b x z Q := by
  unfold wp_X9_isFigure wp_X9_wrong
  refine h_here h fun r s hs hp s3 e3 => ?_
  have h3 : TI g b p c s3 := e3 ▸ ti_I hs rfl (by decide)
  have f3 : tw_I s3 b 7 = r - 48 := by rw [e3, mi_e]
  have p3 : tw_I s3 b 3 = tw_I s b 3 := by rw [e3, mi_n (by decide)]
  refine h_in fun r5 h5 k5 => ⟨fun c5 => h_in fun r8 h8 k8 => ⟨fun c8 s10 e10 => ?_, fun _ s11 e11 => ⟨rfl, hQ _ _ (Or.inl rfl) (e11 ▸ ti_I h3 rfl (by decide)) (fun e => absurd e (by decide))⟩⟩, fun _ s11 e11 => ⟨rfl, hQ _ _ (Or.inl rfl) (e11 ▸ ti_I h3 rfl (by decide)) (fun e => absurd e (by decide))⟩⟩
  have hl : (tw_I s3 b 3).toInt < 240 := by
    rw [p3]
    refine hp.resolve_left (fun e => ?_)
    have k := (k5 (h_r1 h5 c5)).1
    rw [f3, e] at k
    exact absurd k (by decide)
  refine hQ _ _ (Or.inr rfl) ?_ (fun _ => ?_)
  · rw [e10]
    exact ti_w (ti_inc h3 hl) h.2.1 (by omega)
  · rw [e10, mi_n (by decide)]
    have k := k8 (h_r1 h8 c8)
    rw [j_i, j_i] at k
    exact k
theorem h_signOf {x : Int32} {Q : Int32 → tw_S → Prop} (hQ : ∀ r, inI r (-1) 3 → (x = -1 → r = -1) → Q r σ) : wp_X9_signOf g σ x Q := by
  unfold wp_X9_signOf
  refine ⟨fun _ => ⟨fun _ => ⟨fun _ => ⟨fun _ => hQ _ ⟨by decide, by decide⟩ (fun _ => rfl), fun c => hQ _ ⟨by decide, by decide⟩ (fun e => ?_)⟩, fun c => hQ _ ⟨by decide, by decide⟩ (fun e => ?_)⟩, fun c => hQ _ ⟨by decide, by decide⟩ (fun e => ?_)⟩, fun c => hQ _ ⟨by decide, by decide⟩ (fun e => ?_)⟩ <;> exact absurd (c.symm.trans e) (by decide)
theorem h_r0 {c : Int} (h : TI g b p c σ) : ∃ j : Nat, 1 ≤ j ∧ j ≤ 4 ∧ tw_A σ (tw_R g b 6) (0 : Int32).toNatClampNeg = nI j := by
  obtain ⟨j, h1, h2, e, _⟩ := inI_nI (lo := 1) (hi := 4) ((h.2.2.2 0 (by decide)).1 rfl)
  exact ⟨j, h1, h2, e⟩
theorem h_id {T : tw_S → Prop} {c : Int} {e : tw_S} (h : TI g b p c e) (h2 : ∀ s, s = e → TI g b p c s → T s) : ∀ s, s = e → T s := fun s hs => h2 s hs (hs ▸ h)
/-- a figure below the states of what is read -/
theorem h_fig {c : Int} (h : TI g b p c σ) {Q : Int32 → tw_S → Prop} (hQ : ∀ r s, (r = 0 ∨ r = 1) → TI g b p c s → (r = 1 → inI (tw_I s b 7) 0 3) → Q r s) : wp_X9_isFigure g σ b (0 : Int32) ((tw_A σ (tw_R g b 6) (0 : Int32).toNatClampNeg) - (1 : Int32)) Q := by
  obtain ⟨j, h1, h2, e⟩ := h_r0 h
  rw [e]
  have q : ∀ j, j < 5 → 1 ≤ j → (nI j - 1).toInt ≤ 3 := by decide
  have q2 := q j (by omega) h1
  refine h_isFigure h fun r s hr hs hf => hQ r s hr hs (fun e => ?_)
  have := hf e
  have := e_0
  exact ⟨by omega, by omega⟩
theorem h_tail {c : Int} (h : TI g b p c σ) {j : Nat} (hj1 : 1 ≤ j) (hj : j ≤ 16) {v : Int32} (hv : inI v 0 3) {d : Int32} (hd : d = 0 ∨ d = 1) {Q : Int32 → tw_S → Prop} (hQ : ∀ r s, (r = 0 ∨ r = 1) → TI g b p c s → Q r s) : vp_in (nI j) 17 ∧ ∀ σ24, σ24 = (tw_sA σ (tw_R g b 6) (upd (tw_A σ (tw_R g b 6)) (nI j).toNatClampNeg (((2 : Int32) * v) + d))) → wp_X9_must g σ24 b (59 : Int32) (fun r26 σ25 => narrow .boolean (.int r26) = .int r26 ∧ Q r26 σ25) := by
  refine ⟨vp_in_nI (by omega) (by decide), fun s e => ?_⟩
  rw [nI_clamp (by omega)] at e
  obtain ⟨i, hi, rfl⟩ := i_2 (N := 3) (by decide) hv
  have q : ∀ i, i < 4 → inI (((2 : Int32) * nI i) + 0) (-1) 7 ∧ inI (((2 : Int32) * nI i) + 1) (-1) 7 := by decide
  have hs : TI g b p c s := by
    rw [e]
    refine ti_6 h (okv_n (by omega) ?_)
    rcases hd with rfl | rfl
    · exact (q i (by omega)).1
    · exact (q i (by omega)).2
  exact h_must hs (by decide) fun r s2 hr h2 => ⟨h_nb hr, hQ r s2 hr h2⟩
theorem h_readsMove {c : Int} (h : TI g b p c σ) (hl : (tw_I σ b 3).toInt < 240) {Q : Int32 → tw_S → Prop} (hQ : ∀ r s, (r = 0 ∨ r = 1) → TI g b p (c + 1) s → Q r s) : wp_X9_readsMove g σ b Q := by
  unfold wp_X9_readsMove wp_X9_wrong
  intro s1 e1
  have h1 : TI g b p (c + 1) s1 := e1 ▸ ti_inc h hl
  have W : ∀ s, TI g b p (c + 1) s → ∀ (v : Int32) s5, s5 = tw_sI s b 5 v → narrow .boolean (.int 0) = .int 0 ∧ Q 0 s5 := fun s hs v s5 e5 => ⟨rfl, hQ _ _ (Or.inl rfl) (e5 ▸ ti_I hs rfl (by decide))⟩
  refine h_fig h1 fun r3 s2 hr3 h2 hf2 => ⟨fun c3 => h_here h2 fun r6 s5 h5 hp5 => h_signOf fun r8 k8 m8 => ⟨fun c8 z10 e10 => ?_, fun _ s5b e5 => W s5 h5 _ s5b e5⟩, fun _ => hQ _ _ (Or.inl rfl) h2⟩
  have f2 := hf2 (h_r1 hr3 c3)
  have n8 : r8.toInt ≠ -1 := fun e => c8 (i_eq.mpr e)
  obtain ⟨i, hi, ei⟩ := i_2 (N := 3) (by decide) f2
  obtain ⟨k, hk, ek⟩ := i_2 (x := r8) (N := 3) (by decide) ⟨by have := k8.1; omega, k8.2⟩
  have ez : z10 = nI (1 + 4 * i + k) := by
    have e4 : (4 : Int32) * nI i = nI (4 * i) := pk_mul 4 i
    have e5 : (1 : Int32) + nI (4 * i) = nI (1 + 4 * i) := nI_add 1 (4 * i)
    rw [e10, ei, ek, e4, e5, nI_add]
  have l5 : (tw_I s5 b 3).toInt < 240 := hp5.resolve_left (fun e => c8 (m8 e))
  rw [ez]
  refine ⟨vp_in_nI (by omega) (by decide), fun _ => h_id (ti_w (ti_inc h5 l5) (by have := h.2.1; omega) (by omega)) fun s13 _ h13 => h_fig h13 fun r15 s14 hr15 h14 hf14 => ⟨fun c15 => ?_, fun _ => hQ _ _ (Or.inl rfl) h14⟩, fun _ s5b e5 => W s5 h5 _ s5b e5⟩
  have f14 := hf14 (h_r1 hr15 c15)
  have T : ∀ s d, (d = 0 ∨ d = 1) → TI g b p (c + 1) s → vp_in (nI (1 + 4 * i + k)) 17 ∧ ∀ σ24, σ24 = (tw_sA s (tw_R g b 6) (upd (tw_A s (tw_R g b 6)) (nI (1 + 4 * i + k)).toNatClampNeg (((2 : Int32) * (tw_I s14 b 7)) + d))) → wp_X9_must g σ24 b (59 : Int32) (fun r26 σ25 => narrow .boolean (.int r26) = .int r26 ∧ Q r26 σ25) := fun s d hd hs => h_tail hs (by omega) (by omega) f14 hd hQ
  have T2 : ∀ s, TI g b p (c + 1) s → (tw_I s b 3).toInt < 240 → ∀ x : Int32, ∀ σ21, σ21 = tw_sI s b 3 (tw_I s b 3 + 1) → ((x = 0 → vp_in (nI (1 + 4 * i + k)) 17 ∧ ∀ σ24, σ24 = (tw_sA σ21 (tw_R g b 6) (upd (tw_A σ21 (tw_R g b 6)) (nI (1 + 4 * i + k)).toNatClampNeg (((2 : Int32) * (tw_I s14 b 7)) + (0 : Int32)))) → wp_X9_must g σ24 b (59 : Int32) (fun r26 σ25 => narrow .boolean (.int r26) = .int r26 ∧ Q r26 σ25)) ∧ (¬ x = 0 → vp_in (nI (1 + 4 * i + k)) 17 ∧ ∀ σ24, σ24 = (tw_sA σ21 (tw_R g b 6) (upd (tw_A σ21 (tw_R g b 6)) (nI (1 + 4 * i + k)).toNatClampNeg (((2 : Int32) * (tw_I s14 b 7)) + (1 : Int32)))) → wp_X9_must g σ24 b (59 : Int32) (fun r26 σ25 => narrow .boolean (.int r26) = .int r26 ∧ Q r26 σ25))) := by
    intro s hs hl x s21 e21
    have h21 : TI g b p (c + 1) s21 := by
      rw [e21]
      exact ti_w (ti_inc hs hl) (by have := h.2.1; omega) (by omega)
    exact ⟨fun _ => T s21 0 (Or.inl rfl) h21, fun _ => T s21 1 (Or.inr rfl) h21⟩
  have N : ∀ s, TI g b p (c + 1) s → ∀ x : Int32, wp_X9_here g s b (fun r32 σ31 => ((r32 = (108 : Int32)) → ∀ σ34, σ34 = (tw_sI σ31 b 3 ((tw_I σ31 b 3) + (1 : Int32))) → ((x = 0) → vp_in (nI (1 + 4 * i + k)) 17 ∧ ∀ σ37, σ37 = (tw_sA σ34 (tw_R g b 6) (upd (tw_A σ34 (tw_R g b 6)) (nI (1 + 4 * i + k)).toNatClampNeg (((2 : Int32) * (tw_I s14 b 7)) + (0 : Int32)))) → wp_X9_must g σ37 b (59 : Int32) (fun r39 σ38 => narrow .boolean (.int r39) = .int r39 ∧ Q r39 σ38)) ∧ (¬ (x = 0) → vp_in (nI (1 + 4 * i + k)) 17 ∧ ∀ σ41, σ41 = (tw_sA σ34 (tw_R g b 6) (upd (tw_A σ34 (tw_R g b 6)) (nI (1 + 4 * i + k)).toNatClampNeg (((2 : Int32) * (tw_I s14 b 7)) + (1 : Int32)))) → wp_X9_must g σ41 b (59 : Int32) (fun r43 σ42 => narrow .boolean (.int r43) = .int r43 ∧ Q r43 σ42))) ∧ (¬ (r32 = (108 : Int32)) → ∀ σ44, σ44 = tw_sI σ31 b 5 (1 : Int32) → narrow .boolean (.int 0) = .int 0 ∧ Q (0 : Int32) σ44)) := fun s hs x => h_here hs fun r32 s31 h31 hp31 => ⟨fun c32 => T2 s31 h31 (hp31.resolve_left (fun e => absurd (c32.symm.trans e) (by decide))) x, fun _ s44 e44 => W s31 h31 _ s44 e44⟩
  refine h_here h14 fun r18 s17 h17 hp17 => ⟨fun _ => ⟨fun cc => absurd rfl cc, fun _ => N s17 h17 0⟩, fun c18 => ⟨fun _ => T2 s17 h17 (hp17.resolve_left (fun e => absurd (c18.symm.trans e) (by decide))) 1, fun cc => absurd cc (by decide)⟩⟩
theorem h_reads (hM : MI g b p σ) (hp : tw_I σ b 3 = 0) {Q : Int32 → tw_S → Prop} (hQ : ∀ r s, (r = 0 ∨ r = 1) → TI g b p 0 s → Q r s) : wp_X9_reads g σ b Q := by
  unfold wp_X9_reads
  refine h_st (mi_A hM rfl) fun s1 e1 h1 => ?_
  have w1 : tw_I s1 b 3 = 0 := by rw [e1, tw_I_sA, hp]
  have r1 : tw_A s1 (tw_R g b 6) 0 = 1 := by rw [e1, mi_s]; rfl
  have B : ∀ s5, TI g b p 0 s5 → wp_X9_here g s5 b (fun r7 σ6 => ((¬ r7 = (-1 : Int32)) → wp_X9_must g σ6 b (113 : Int32) (fun r10 σ9 => ((r10 = 0) → Q (0 : Int32) σ9) ∧ (¬ (r10 = 0) → wp_X9_isFigure g σ9 b (1 : Int32) (4 : Int32) (fun r13 σ12 => ((¬ r13 = 0) → ∀ σ15, σ15 = (tw_sA σ12 (tw_R g b 6) (upd (tw_A σ12 (tw_R g b 6)) (0 : Int32).toNatClampNeg (tw_I σ12 b 7))) → wp_X9_must g σ15 b (59 : Int32) (fun r17 σ16 => ((¬ r17 = 0) → ∃ n79, wl_X9_reads_79 g b Q (fun σ31 => wp_X9_wrong g σ31 b (3 : Int32) (fun r33 σ32 => narrow .boolean (.int r33) = .int r33 ∧ Q r33 σ32)) (fun σ34 => wp_X9_wrong g σ34 b (1 : Int32) (fun r36 σ35 => narrow .boolean (.int r36) = .int r36 ∧ Q r36 σ35)) (fun σ37 => Q (0 : Int32) σ37) (fun σ38 => Q (1 : Int32) σ38) n79  σ16) ∧ ((r17 = 0) → Q (0 : Int32) σ16))) ∧ ((r13 = 0) → Q (0 : Int32) σ12))))) ∧ ((r7 = (-1 : Int32)) → Q (1 : Int32) σ6)) := by
    intro s5 h5
    refine h_here h5 fun r7 s6 h6 _ => ⟨fun _ => h_must h6 (by decide) fun r10 s9 hr10 h9 => ⟨fun _ => hQ _ _ (Or.inl rfl) h9, fun _ => h_isFigure h9 fun r13 s12 hr13 h12 hf => ⟨fun c13 s15 e15 => ?_, fun _ => hQ _ _ (Or.inl rfl) h12⟩⟩, fun _ => hQ _ _ (Or.inr rfl) h6⟩
    have f := hf (h_r1 hr13 c13)
    have h15 : TI g b p 0 s15 := by
      rw [e15]
      exact ti_6 (j := 0) h12 (okv_m ⟨by have := e_1; omega, by have := e_4; omega⟩)
    refine h_must h15 (by decide) fun r17 s16 hr17 h16 => ⟨fun _ => ?_, fun _ => hQ _ _ (Or.inl rfl) h16⟩
    refine cu1 (TI g b p 0) (fun s => (240 - (tw_I s b 3).toInt).toNat) (fun n s h ih => ?_) s16 h16
    rw [wl_X9_reads_79]
    have hc : TI g b p (tw_I s b 3).toInt s := ⟨h.1, h.2.2.1.1, ⟨Int.le_refl _, h.2.2.1.2⟩, h.2.2.2⟩
    have U : ∀ {d : Int} (s2 : tw_S) (v : Int32), TI g b p d s2 → wp_X9_wrong g s2 b v (fun r33 σ32 => narrow .boolean (.int r33) = .int r33 ∧ Q r33 σ32) := fun s2 v h2 s3 e3 => ⟨rfl, hQ _ _ (Or.inl rfl) (e3 ▸ ti_I (ti_w h2 (Int.le_refl _) h2.2.1) rfl (by decide))⟩
    refine h_here hc fun r20 s19 h19 _ => ⟨fun _ => hQ _ _ (Or.inr rfl) (ti_w h19 (Int.le_refl _) h19.2.1), fun _ => h_here h19 fun r23 s22 h22 _ => ⟨fun _ => h_here h22 fun r26 s25 h25 hp25 => ⟨fun c26 => h_readsMove h25 (hp25.resolve_left (fun e => absurd (c26.symm.trans e) (by decide))) fun r29 s28 hr29 h28 => ⟨fun _ => ih s28 (ti_w h28 (Int.le_refl _) h28.2.1) ?_, fun _ => hQ _ _ (Or.inl rfl) (ti_w h28 (Int.le_refl _) h28.2.1)⟩, fun _ => U s25 _ h25⟩, fun _ => U s22 _ h22⟩⟩
    have := h28.2.2.1.1
    have := h28.2.2.1.2
    show (240 - (tw_I s28 b 3).toInt).toNat < (240 - (tw_I s b 3).toInt).toNat
    omega
  have L : ∀ d i : Nat, i + d = 17 → 1 ≤ i → ∀ s, MI g b p s → tw_I s b 3 = 0 → (∀ j, j < i → okv j (tw_A s (tw_R g b 6) j)) → wl_X9_reads_9 g b Q (fun s5 => wp_X9_here g s5 b (fun r7 σ6 => ((¬ r7 = (-1 : Int32)) → wp_X9_must g σ6 b (113 : Int32) (fun r10 σ9 => ((r10 = 0) → Q (0 : Int32) σ9) ∧ (¬ (r10 = 0) → wp_X9_isFigure g σ9 b (1 : Int32) (4 : Int32) (fun r13 σ12 => ((¬ r13 = 0) → ∀ σ15, σ15 = (tw_sA σ12 (tw_R g b 6) (upd (tw_A σ12 (tw_R g b 6)) (0 : Int32).toNatClampNeg (tw_I σ12 b 7))) → wp_X9_must g σ15 b (59 : Int32) (fun r17 σ16 => ((¬ r17 = 0) → ∃ n79, wl_X9_reads_79 g b Q (fun σ31 => wp_X9_wrong g σ31 b (3 : Int32) (fun r33 σ32 => narrow .boolean (.int r33) = .int r33 ∧ Q r33 σ32)) (fun σ34 => wp_X9_wrong g σ34 b (1 : Int32) (fun r36 σ35 => narrow .boolean (.int r36) = .int r36 ∧ Q r36 σ35)) (fun σ37 => Q (0 : Int32) σ37) (fun σ38 => Q (1 : Int32) σ38) n79  σ16) ∧ ((r17 = 0) → Q (0 : Int32) σ16))) ∧ ((r13 = 0) → Q (0 : Int32) σ12))))) ∧ ((r7 = (-1 : Int32)) → Q (1 : Int32) σ6))) (d + 1) (nI i) s := by
    intro d
    induction d with
    | zero =>
      intro i hi _ s h w r
      obtain rfl : i = 17 := by omega
      rw [wl_X9_reads_9]
      exact ⟨fun _ => B s ⟨h, Int.le_refl _, by rw [w]; exact ⟨by decide, by decide⟩, r⟩, fun c => absurd (by decide) c⟩
    | succ d ih =>
      intro i hi i1 s h w r
      rw [wl_X9_reads_9, nI_1]
      refine ⟨fun c => ?_, fun _ => ⟨vp_in_nI (by omega) (by decide), h_st (mi_A h rfl) fun s4 e4 h4 => ih (i + 1) (by omega) (by omega) s4 h4 (by rw [e4, tw_I_sA, w]) (fun j hj => ?_)⟩⟩
      · rw [i_le, nI_toInt (by omega)] at c
        have e17 : (17 : Int32).toInt = 17 := rfl
        omega
      · rw [e4, mi_s, nI_clamp (by omega)]
        unfold upd
        split
        · next e => exact okv_n (by omega) ⟨by decide, by decide⟩
        · exact r j (by omega)
  exact ⟨17, L 16 1 (by decide) (by decide) s1 h1 w1 (fun j hj => by
    obtain rfl : j = 0 := by omega
    rw [r1]
    exact okv_m ⟨by decide, by decide⟩)⟩
end H1
