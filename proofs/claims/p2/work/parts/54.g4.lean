/-! ===== the class in general: words, the run ===== -/
section G4
variable {g : tw_G} {P : g_P} {σ σ2 : tw_S} {a b y c k : Nat}
theorem xg_wlen {Q : Int32 → tw_S → Prop} (hQ : ∀ r, Q r σ) : wp_X7_length g σ a Q := hQ _
theorem xg_letterAt {x : Int32} {Q : Int32 → tw_S → Prop} (hQ : ∀ r, Q r σ) : wp_X7_letterAt g σ a x Q := by
  unfold wp_X7_letterAt
  repeat' (first | assumption | (with_reducible apply hQ) | (with_reducible apply ih) | (with_reducible apply And.intro) | (with_reducible refine x_st (g := g) (P := P) ?_ ?_) | (with_reducible apply xg_isMachine) | (with_reducible apply xg_isSide) | (with_reducible apply xg_isSign) | (with_reducible apply xg_stateOf) | (with_reducible apply xg_sideOf) | (with_reducible apply xg_shift) | (with_reducible apply xg_lengthen) | (with_reducible apply xg_tell) | (with_reducible apply xg_at) | (with_reducible apply xg_size) | (with_reducible apply xg_hasState) | (with_reducible apply xg_put) | (with_reducible apply xg_become) | (with_reducible apply xg_empty) | (with_reducible apply xg_isLike) | (with_reducible apply xg_countMoves) | (with_reducible apply xg_drawLot) | (with_reducible apply xg_drawMove) | (with_reducible apply xg_drawLots) | (with_reducible apply xg_0at) | (with_reducible apply xg_0become) | (with_reducible apply xg_changePlaces) | (with_reducible apply xg_remember) | (with_reducible apply xg_stepBack) | (with_reducible apply xg_hsize) | (with_reducible apply xg_forget) | (with_reducible apply xg_wlen) | (with_reducible exact rfl) | (first | exact v_l (by decide) (by assumption) (by assumption) | exact v_g (by decide) (by assumption) (by assumption) | exact v_5 (by assumption) (by assumption) | exact v_51 (by assumption) (by assumption) (by assumption) (by assumption) | exact v_2 (by assumption) (by assumption) (by assumption) (by assumption) | exact absurd rfl (by assumption) | (rw [vp_in_iff]; simp only [i_lt, i_le, inI, e_0, e_1, e_2, e_4, e_5, e_8, e_16, e_24, e_26, e_96, e_104, e_150, e_240, e_3125, e_22500, e_m1] at *; omega)) | (intro _) | (with_reducible apply xi_J) | (with_reducible apply xi_B) | (with_reducible apply xi_513z) | (with_reducible apply xi_513o) | (with_reducible apply xi_I) | (with_reducible apply xi_Aq) | (exact (rfl : xf _ _ = true)) | (exact (rfl : xq _ _ = true)) | (exact (rfl : (_ : Int32) = _)) | (exact i_l rfl (by assumption)) | (exact i_l2 rfl (by assumption)))
theorem xg_signAt {x : Int32} {Q : Int32 → tw_S → Prop} (hQ : ∀ r, Q r σ) : wp_X7_signAt g σ a x Q := by
  unfold wp_X7_signAt
  repeat' (first | assumption | (with_reducible apply hQ) | (with_reducible apply ih) | (with_reducible apply And.intro) | (with_reducible refine x_st (g := g) (P := P) ?_ ?_) | (with_reducible apply xg_isMachine) | (with_reducible apply xg_isSide) | (with_reducible apply xg_isSign) | (with_reducible apply xg_stateOf) | (with_reducible apply xg_sideOf) | (with_reducible apply xg_shift) | (with_reducible apply xg_lengthen) | (with_reducible apply xg_tell) | (with_reducible apply xg_at) | (with_reducible apply xg_size) | (with_reducible apply xg_hasState) | (with_reducible apply xg_put) | (with_reducible apply xg_become) | (with_reducible apply xg_empty) | (with_reducible apply xg_isLike) | (with_reducible apply xg_countMoves) | (with_reducible apply xg_drawLot) | (with_reducible apply xg_drawMove) | (with_reducible apply xg_drawLots) | (with_reducible apply xg_0at) | (with_reducible apply xg_0become) | (with_reducible apply xg_changePlaces) | (with_reducible apply xg_remember) | (with_reducible apply xg_stepBack) | (with_reducible apply xg_hsize) | (with_reducible apply xg_forget) | (with_reducible apply xg_wlen) | (with_reducible apply xg_letterAt) | (with_reducible exact rfl) | (first | exact v_l (by decide) (by assumption) (by assumption) | exact v_g (by decide) (by assumption) (by assumption) | exact v_5 (by assumption) (by assumption) | exact v_51 (by assumption) (by assumption) (by assumption) (by assumption) | exact v_2 (by assumption) (by assumption) (by assumption) (by assumption) | exact absurd rfl (by assumption) | (rw [vp_in_iff]; simp only [i_lt, i_le, inI, e_0, e_1, e_2, e_4, e_5, e_8, e_16, e_24, e_26, e_96, e_104, e_150, e_240, e_3125, e_22500, e_m1] at *; omega)) | (intro _) | (with_reducible apply xi_J) | (with_reducible apply xi_B) | (with_reducible apply xi_513z) | (with_reducible apply xi_513o) | (with_reducible apply xi_I) | (with_reducible apply xi_Aq) | (exact (rfl : xf _ _ = true)) | (exact (rfl : xq _ _ = true)) | (exact (rfl : (_ : Int32) = _)) | (exact i_l rfl (by assumption)) | (exact i_l2 rfl (by assumption)))
theorem xg_number (hX : XI g P σ) (ha : tw_is g 7 a) {Q : Int32 → tw_S → Prop} (hQ : ∀ r, Q r σ) : wp_X7_number g σ a Q := by
  unfold wp_X7_number
  have hw := (hX.2.2.1 a ha).2
  refine cu3 24 (by decide) (fun _ s => s = σ) (fun n u x s hx hX ih => ?_) 1 0 σ ⟨by decide, by decide⟩ rfl
  subst hX
  rw [wl_X7_number_4]
  refine ⟨fun _ => hQ _, fun c => xg_letterAt fun r z _ => ih _ _ ?_ rfl⟩
  rw [i_le] at c
  show _ < ((24 : Nat) : Int)
  omega
/-- the trial word -/
theorem x_add (hX : XI g P σ) (ha : tw_is g 7 a) (hw : a ≠ P.1) {x : Int32} {Q : Int32 → tw_S → Prop} (hQ : ∀ r s, XI g P s → Q r s) : wp_X7_add g σ a x Q := by
  unfold wp_X7_add
  have hl := hX.2.2.1 a ha
  refine ⟨fun _ => hQ _ _ hX, fun c1 => ⟨fun c2 => ⟨?_, fun s4 e4 s5 e5 => hQ _ s5 ?_⟩, fun _ => hQ _ _ hX⟩⟩
  · rw [vp_in_iff]
    rw [i_lt] at c2
    have := hl.1; have := e_24
    exact ⟨by omega, by show _ < ((24 : Nat) : Int); omega⟩
  · have h4 : XI g P s4 := e4 ▸ xi_Aq hX ha rfl
    have ee : tw_I s4 a 1 = tw_I σ a 1 := by rw [e4, tw_I_sA]
    rw [e5, ee]
    rw [i_lt, e_24] at c2
    exact xi_71 h4 ha hw (i_inc (N := 24) (by decide) hl c2).1
theorem i_dec {x : Int32} (h : inI x (-1) 24) (h2 : ¬ x < 0) : inI (x + (-1)) (-1) 24 ∧ (x + (-1)).toInt = x.toInt - 1 := by
  rw [i_lt] at h2
  have := e_0
  obtain ⟨j, _, hj, rfl, _⟩ := inI_nI (x := x) (lo := 0) (hi := 24) ⟨by omega, h.2⟩
  have q : ∀ j, j < 25 → (nI j + (-1)).toInt = (j : Int) - 1 := by decide
  have q2 := q j (by omega)
  have e2 : (nI j).toInt = (j : Int) := nI_toInt (by omega)
  exact ⟨⟨by omega, by omega⟩, by omega⟩
theorem x_wl {x : Int32} {Q K : tw_S → Prop} (ha : tw_is g 7 a) (hw : a ≠ P.1) (hK : ∀ s, XI g P s → K s) : ∀ (d : Nat) (u w : Int32) s, inI w (-1) 24 → XI g P s → w.toInt + 1 < d → wl_X7_become_10 g a x Q K d u w s := by
  intro d
  induction d with
  | zero => intro u w s hw _ c; exact absurd c (by have := hw.1; omega)
  | succ d ih =>
    intro u w s hx h c
    rw [wl_X7_become_10]
    refine ⟨fun _ => hK _ h, fun c1 z3 _ => ?_⟩
    have r : ∀ v s2, XI g P s2 → wl_X7_become_10 g a x Q K d v (w + (-1)) s2 := fun v s2 h2 => ih v _ s2 (i_dec hx c1).1 h2 (by rw [(i_dec hx c1).2]; omega)
    exact ⟨fun _ => ⟨fun _ => r _ _ h, fun _ => ⟨fun _ => r _ _ h, fun _ => r _ _ h⟩⟩, fun _ => x_add h ha hw fun _ s2 h2 => ⟨fun _ => r _ _ h2, fun _ => ⟨fun _ => r _ _ h2, fun _ => r _ _ h2⟩⟩⟩
theorem x_wbecome (hX : XI g P σ) (ha : tw_is g 7 a) (hw : a ≠ P.1) {x : Int32} {Q : tw_S → Prop} (hQ : ∀ s, XI g P s → Q s) : wp_X7_become g σ a x Q := by
  unfold wp_X7_become
  exact x_st (xi_71 hX ha hw ⟨by decide, by decide⟩) fun s1 _ h1 => ⟨26, x_wl ha hw hQ 26 _ _ s1 ⟨by decide, by decide⟩ h1 (by decide)⟩
theorem x_turnl {Q K : tw_S → Prop} (ha : tw_is g 7 a) (hK : ∀ s, XI g P s → K s) : ∀ (d : Nat) (u w : Int32) s, 0 ≤ u.toInt → u.toInt ≤ 24 → w.toInt ≤ 24 → XI g P s → 24 < u.toInt + d → wl_X7_turn_9 g a Q K d u w s := by
  intro d
  induction d with
  | zero => intro u w s _ h _ _ c; exact absurd c (by omega)
  | succ d ih =>
    intro u w s h0 h1 h2 h c
    rw [wl_X7_turn_9]
    refine ⟨fun _ => hK _ h, fun c1 => ⟨fun _ => hK _ h, fun c2 => ?_⟩⟩
    have c1' := c1
    have c2' := c2
    rw [i_le] at c1' c2'
    have e24 := e_24
    have hu : inI u 0 24 := ⟨h0, h1⟩
    have hwi : inI w (-1) 24 := ⟨by omega, h2⟩
    have hw0 : ¬ w < 0 := fun z => by rw [i_lt] at z; have := e_0; omega
    have v1 : vp_in u 24 := vp_in_iff.mpr ⟨h0, by show _ < ((24 : Nat) : Int); omega⟩
    have v2 : vp_in w 24 := vp_in_iff.mpr ⟨by omega, by show _ < ((24 : Nat) : Int); omega⟩
    have q1 := i_inc (N := 24) (by decide) hu (by show _ < ((24 : Nat) : Int); omega)
    have q2 := i_dec hwi hw0
    refine ⟨v1, fun z5 _ => ⟨v2, v1, x_st (xi_Aq h ha rfl) fun s8 _ h8 => ⟨v2, x_st (xi_Aq h8 ha rfl) fun s10 _ h10 => ih _ _ s10 ?_ ?_ ?_ h10 ?_⟩⟩⟩
    · omega
    · omega
    · omega
    · omega
theorem x_turn (hX : XI g P σ) (ha : tw_is g 7 a) {Q : tw_S → Prop} (hQ : ∀ s, XI g P s → Q s) : wp_X7_turn g σ a Q := by
  unfold wp_X7_turn
  intro z1 e1
  refine ⟨26, x_turnl ha hQ 26 _ _ σ (by decide) (by decide) ?_ hX (by decide)⟩
  obtain ⟨j, _, hj, e, _⟩ := inI_nI (lo := 0) (hi := 24) (hX.2.2.1 a ha)
  have q : ∀ j, j < 25 → (nI j - 1).toInt ≤ 24 := by decide
  rw [e1, e]
  exact q j (by omega)
/-! the run -/
theorem xg_note (hX : XI g P σ) (ha : tw_is g 1 a) {x : Int32} {Q : tw_S → Prop} (hQ : ∀ s, XI g P s → Q s) : wp_X1_note g σ a x Q := by
  unfold wp_X1_note
  refine ⟨fun _ => hQ _ hX, fun c1 => ⟨fun _ => hQ _ hX, fun c2 => ⟨v_g (by decide) c1 c2, fun s4 e4 => ⟨?_, ?_⟩⟩⟩⟩
  · rw [e4, tw_I_sA]
    exact v_g (by decide) c1 c2
  · have h4 : XI g P s4 := e4 ▸ xi_Aq hX ha rfl
    exact x_st (xi_Aq h4 ha rfl) fun s6 _ h6 => x_st (xi_I h6 ha rfl) fun s7 _ h7 => hQ s7 h7
theorem xg_arrive (hX : XI g P σ) (ha : tw_is g 1 a) {Q : tw_S → Prop} (hQ : ∀ s, XI g P s → Q s) : wp_X1_arrive g σ a b Q := by
  unfold wp_X1_arrive wp_X7_length
  refine ⟨fun c1 => ⟨fun _ => x_st (xi_I hX ha rfl) fun s _ h => hQ s h, fun _ => ⟨fun c2 => ?_, fun _ => x_st (xi_I hX ha rfl) fun s _ h => hQ s h⟩⟩, fun _ => x_st (xi_I hX ha rfl) fun s _ h => hQ s h⟩
  have v : vp_in (tw_I σ a 5) 26 := by
    rw [i_le] at c1
    rw [i_lt] at c2
    have := e_0; have := e_26
    exact vp_in_iff.mpr ⟨by omega, by show _ < ((26 : Nat) : Int); omega⟩
  exact ⟨v, fun _ => ⟨v, v, x_st (xi_Aq hX ha rfl) fun s _ h => hQ s h⟩, fun _ => x_st (xi_I hX ha rfl) fun s _ h => hQ s h⟩
theorem xg_step (hX : XI g P σ) (ha : tw_is g 1 a) (hb : tw_is g 3 b) {Q : tw_S → Prop} (hQ : ∀ s, XI g P s → Q s) : wp_X1_step g σ a b c Q := by
  unfold wp_X1_step
  exact xg_signAt fun r2 => xg_at hX hb fun r4 => ⟨fun _ => xg_stateOf fun r7 => x_st (xi_I hX ha rfl) fun s8 _ h8 => xg_shift fun r10 => x_st (xi_I h8 ha rfl) fun s11 _ h11 z12 _ => xg_note h11 ha fun s13 h13 => xg_arrive h13 ha hQ, fun _ => x_st (xi_I hX ha rfl) fun s15 _ h15 => hQ _ h15⟩
theorem xg_follow (hX : XI g P σ) (ha : tw_is g 1 a) (hb : tw_is g 3 b) {Q : tw_S → Prop} (hQ : ∀ s, XI g P s → Q s) : wp_X1_follow g σ a b c Q := by
  unfold wp_X1_follow
  refine x_fill hX ha (d := 10) (n := 26) (by decide) rfl (by decide) fun s1 h1 => ?_
  refine x_st (xi_I h1 ha rfl) fun s2 _ h2 => x_st (xi_I h2 ha rfl) fun s3 _ h3 => x_st (xi_I h3 ha rfl) fun s4 _ h4 => x_st (xi_I h4 ha rfl) fun s5 _ h5 => xg_arrive h5 ha fun s6 h6 => ?_
  refine cu2 104 (by decide) (XI g P) (fun n x s hx hX ih => ?_) 0 s6 ⟨by decide, by decide⟩ h6
  rw [wl_X1_follow_35]
  exact ⟨fun _ => hQ _ hX, fun c => ⟨fun _ => hQ _ hX, fun _ => xg_step hX ha hb fun s9 h9 => ih s9 (i_l rfl c) h9⟩⟩
theorem xg_isTaken {Q : Int32 → tw_S → Prop} (h0 : Q 0 σ) (h1 : Q 1 σ) : wp_X1_isTaken g σ a Q := ⟨fun _ => h0, fun _ => h1⟩
theorem xg_ending {Q : Int32 → tw_S → Prop} (hQ : ∀ r, Q r σ) : wp_X1_ending g σ a Q := hQ _
theorem xg_steps {Q : Int32 → tw_S → Prop} (hQ : ∀ r, Q r σ) : wp_X1_steps g σ a Q := hQ _
theorem xg_lastState {Q : Int32 → tw_S → Prop} (hQ : ∀ r, Q r σ) : wp_X1_lastState g σ a Q := hQ _
theorem xg_howOften {x : Int32} {Q : Int32 → tw_S → Prop} (hQ : ∀ r, Q r σ) : wp_X1_howOften g σ a x Q := by
  unfold wp_X1_howOften
  refine cu3 104 (by decide) (fun _ s => s = σ) (fun n u x s hx hX ih => ?_) 0 0 σ ⟨by decide, by decide⟩ rfl
  subst hX
  rw [wl_X1_howOften_4]
  repeat' (first | assumption | (with_reducible apply hQ) | (with_reducible apply ih) | (with_reducible apply And.intro) | (with_reducible refine x_st (g := g) (P := P) ?_ ?_) | (with_reducible apply xg_isMachine) | (with_reducible apply xg_isSide) | (with_reducible apply xg_isSign) | (with_reducible apply xg_stateOf) | (with_reducible apply xg_sideOf) | (with_reducible apply xg_shift) | (with_reducible apply xg_lengthen) | (with_reducible apply xg_tell) | (with_reducible apply xg_at) | (with_reducible apply xg_size) | (with_reducible apply xg_hasState) | (with_reducible apply xg_put) | (with_reducible apply xg_become) | (with_reducible apply xg_empty) | (with_reducible apply xg_isLike) | (with_reducible apply xg_countMoves) | (with_reducible apply xg_drawLot) | (with_reducible apply xg_drawMove) | (with_reducible apply xg_drawLots) | (with_reducible apply xg_0at) | (with_reducible apply xg_0become) | (with_reducible apply xg_changePlaces) | (with_reducible apply xg_remember) | (with_reducible apply xg_stepBack) | (with_reducible apply xg_hsize) | (with_reducible apply xg_forget) | (with_reducible apply xg_wlen) | (with_reducible apply xg_letterAt) | (with_reducible apply xg_signAt) | (with_reducible apply xg_number) | (with_reducible apply xg_note) | (with_reducible apply xg_arrive) | (with_reducible apply xg_step) | (with_reducible apply xg_follow) | (with_reducible apply xg_isTaken) | (with_reducible apply xg_ending) | (with_reducible apply xg_steps) | (with_reducible apply xg_lastState) | (with_reducible exact rfl) | (first | exact v_l (by decide) (by assumption) (by assumption) | exact v_g (by decide) (by assumption) (by assumption) | exact v_5 (by assumption) (by assumption) | exact v_51 (by assumption) (by assumption) (by assumption) (by assumption) | exact v_2 (by assumption) (by assumption) (by assumption) (by assumption) | exact absurd rfl (by assumption) | (rw [vp_in_iff]; simp only [i_lt, i_le, inI, e_0, e_1, e_2, e_4, e_5, e_8, e_16, e_24, e_26, e_96, e_104, e_150, e_240, e_3125, e_22500, e_m1] at *; omega)) | (intro _) | (with_reducible apply xi_J) | (with_reducible apply xi_B) | (with_reducible apply xi_513z) | (with_reducible apply xi_513o) | (with_reducible apply xi_I) | (with_reducible apply xi_Aq) | (exact (rfl : xf _ _ = true)) | (exact (rfl : xq _ _ = true)) | (exact (rfl : (_ : Int32) = _)) | (exact i_l rfl (by assumption)) | (exact i_l2 rfl (by assumption)))
theorem xg_stateAt {x z : Int32} {Q : Int32 → tw_S → Prop} (hQ : ∀ r, Q r σ) : wp_X1_stateAt g σ a x z Q := by
  unfold wp_X1_stateAt
  refine cu3 104 (by decide) (fun _ s => s = σ) (fun n u x s hx hX ih => ?_) 0 0 σ ⟨by decide, by decide⟩ rfl
  subst hX
  rw [wl_X1_stateAt_5]
  repeat' (first | assumption | (with_reducible apply hQ) | (with_reducible apply ih) | (with_reducible apply And.intro) | (with_reducible refine x_st (g := g) (P := P) ?_ ?_) | (with_reducible apply xg_isMachine) | (with_reducible apply xg_isSide) | (with_reducible apply xg_isSign) | (with_reducible apply xg_stateOf) | (with_reducible apply xg_sideOf) | (with_reducible apply xg_shift) | (with_reducible apply xg_lengthen) | (with_reducible apply xg_tell) | (with_reducible apply xg_at) | (with_reducible apply xg_size) | (with_reducible apply xg_hasState) | (with_reducible apply xg_put) | (with_reducible apply xg_become) | (with_reducible apply xg_empty) | (with_reducible apply xg_isLike) | (with_reducible apply xg_countMoves) | (with_reducible apply xg_drawLot) | (with_reducible apply xg_drawMove) | (with_reducible apply xg_drawLots) | (with_reducible apply xg_0at) | (with_reducible apply xg_0become) | (with_reducible apply xg_changePlaces) | (with_reducible apply xg_remember) | (with_reducible apply xg_stepBack) | (with_reducible apply xg_hsize) | (with_reducible apply xg_forget) | (with_reducible apply xg_wlen) | (with_reducible apply xg_letterAt) | (with_reducible apply xg_signAt) | (with_reducible apply xg_number) | (with_reducible apply xg_note) | (with_reducible apply xg_arrive) | (with_reducible apply xg_step) | (with_reducible apply xg_follow) | (with_reducible apply xg_isTaken) | (with_reducible apply xg_ending) | (with_reducible apply xg_steps) | (with_reducible apply xg_lastState) | (with_reducible apply xg_howOften) | (with_reducible exact rfl) | (first | exact v_l (by decide) (by assumption) (by assumption) | exact v_g (by decide) (by assumption) (by assumption) | exact v_5 (by assumption) (by assumption) | exact v_51 (by assumption) (by assumption) (by assumption) (by assumption) | exact v_2 (by assumption) (by assumption) (by assumption) (by assumption) | exact absurd rfl (by assumption) | (rw [vp_in_iff]; simp only [i_lt, i_le, inI, e_0, e_1, e_2, e_4, e_5, e_8, e_16, e_24, e_26, e_96, e_104, e_150, e_240, e_3125, e_22500, e_m1] at *; omega)) | (intro _) | (with_reducible apply xi_J) | (with_reducible apply xi_B) | (with_reducible apply xi_513z) | (with_reducible apply xi_513o) | (with_reducible apply xi_I) | (with_reducible apply xi_Aq) | (exact (rfl : xf _ _ = true)) | (exact (rfl : xq _ _ = true)) | (exact (rfl : (_ : Int32) = _)) | (exact i_l rfl (by assumption)) | (exact i_l2 rfl (by assumption)))
theorem xg_countGaps {x : Int32} (hx : x.toInt ≤ 24) {Q : Int32 → tw_S → Prop} (hQ : ∀ r, Q r σ) : wp_X1_countGaps g σ a x Q := by
  unfold wp_X1_countGaps
  refine cu3 25 (by decide) (fun _ s => s = σ) (fun n u w s hw hX ih => ?_) 0 0 σ ⟨by decide, by decide⟩ rfl
  subst hX
  rw [wl_X1_countGaps_4]
  refine ⟨fun _ => hQ _, fun c => ?_⟩
  have l : w.toInt < ((25 : Nat) : Int) := by rw [i_lt] at c; omega
  exact xg_howOften fun r => ⟨fun _ => ih _ _ l rfl, fun _ => ih _ _ l rfl⟩
theorem xg_busiestGap {x : Int32} (hx : x.toInt ≤ 24) {Q : Int32 → tw_S → Prop} (hQ : ∀ r, Q r σ) : wp_X1_busiestGap g σ a x Q := by
  unfold wp_X1_busiestGap
  refine cu4 25 (by decide) (fun _ _ s => s = σ) (fun n u v w s hw hX ih => ?_) (-1) 0 0 σ ⟨by decide, by decide⟩ rfl
  subst hX
  rw [wl_X1_busiestGap_7]
  refine ⟨fun _ => hQ _, fun c => ?_⟩
  have l : w.toInt < ((25 : Nat) : Int) := by rw [i_lt] at c; omega
  exact xg_howOften fun r => ⟨fun _ => ih _ _ _ l rfl, fun _ => ih _ _ _ l rfl⟩
end G4
