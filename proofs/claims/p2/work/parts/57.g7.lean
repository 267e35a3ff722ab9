/-! ===== the class in general: its calls ===== -/
/-- the object, and what the numbers of P speak of -/
def g_A (g : tw_G) (P : g_P) (a : Nat) : Prop := tw_is g 8 a ∧ P.1 = tw_R g a 6 ∧ P.2.2.1 = tw_R g a 4 ∧ P.2.2.2.2.1 = tw_R g a 3
section G7
variable {g : tw_G} {P : g_P} {σ σ2 : tw_S} {a b c y k : Nat}
theorem k8_0 (hX : XI g P σ) (hA : g_A g P a) : tw_is g 0 (tw_R g a 0) := kd hX hA.1 (d := 0) (n := 0) (by decide)
theorem k8_1 (hX : XI g P σ) (hA : g_A g P a) : tw_is g 2 (tw_R g a 1) := kd hX hA.1 (d := 2) (n := 0) (by decide)
theorem k8_4 (hX : XI g P σ) (hA : g_A g P a) : tw_is g 6 (tw_R g a 4) := kd hX hA.1 (d := 6) (n := 0) (by decide)
theorem k8_5 (hX : XI g P σ) (hA : g_A g P a) : tw_is g 3 (tw_R g a 5) := kd hX hA.1 (d := 3) (n := 0) (by decide)
theorem k8_6 (hX : XI g P σ) (hA : g_A g P a) : tw_is g 7 (tw_R g a 6) := kd hX hA.1 (d := 7) (n := 0) (by decide)
theorem k8_7 (hX : XI g P σ) (hA : g_A g P a) : tw_is g 7 (tw_R g a 7) := kd hX hA.1 (d := 7) (n := 0) (by decide)
theorem k8_8 (hX : XI g P σ) (hA : g_A g P a) : tw_is g 1 (tw_R g a 8) := kd hX hA.1 (d := 1) (n := 0) (by decide)
theorem k8_9 (hX : XI g P σ) (hA : g_A g P a) : tw_is g 5 (tw_R g a 9) := kd hX hA.1 (d := 5) (n := 0) (by decide)
theorem k8_10 (hX : XI g P σ) (hA : g_A g P a) : tw_is g 5 (tw_R g a 10) := kd hX hA.1 (d := 5) (n := 0) (by decide)
theorem k8_11 (hX : XI g P σ) (hA : g_A g P a) : tw_is g 4 (tw_R g a 11) := kd hX hA.1 (d := 4) (n := 0) (by decide)
theorem k8_ne (hX : XI g P σ) (hA : g_A g P a) : tw_R g a 7 ≠ P.1 := by
  rw [hA.2.1]
  intro e
  have e2 := hX.1.2.1 (8, 7, 7, 0) (by decide) (8, 6, 7, 0) (by decide) a a hA.1 hA.1 e
  exact absurd e2.2.1 (by decide)
theorem xg_hasMoveOf (hX : XI g P σ) (hA : g_A g P a) {x z w : Int32} {Q : Int32 → tw_S → Prop} (hQ : ∀ r, Q r σ) : wp_X8_hasMoveOf g σ a x z w Q := by
  unfold wp_X8_hasMoveOf
  exact xg_isMachine fun r => ⟨fun _ => hQ _, fun _ => xg_0at hX (k8_0 hX hA) fun y hy => xg_hasState fun r7 => ⟨fun _ => hQ _, fun _ => xg_isSign fun r10 => ⟨fun _ => hQ _, fun _ => hQ _⟩⟩⟩
theorem xg_change (hX : XI g P σ) (hA : g_A g P a) (hb : tw_is g 3 b) {x z w : Int32} {Q : Int32 → tw_S → Prop} (hQ : ∀ r s, XI g P s → Q r s) : wp_X8_change g σ a b x z w Q := by
  unfold wp_X8_change
  exact xg_remember hX (k8_1 hX hA) (k8_0 hX hA) fun s1 h1 => xg_at h1 hb fun r3 => xg_put h1 hb fun s4 h4 => hQ _ _ h4
theorem y_move (hX : XI g P σ) (hA : g_A g P a) {x1 x2 x3 x4 x5 : Int32} {Q : Int32 → tw_S → Prop} (hQ : ∀ r s, XI g P s → Q r s) : wp_X8_move g σ a x1 x2 x3 x4 x5 Q := by
  unfold wp_X8_move
  exact xg_hasMoveOf hX hA fun r2 => ⟨fun _ => hQ _ _ hX, fun _ => xg_0at hX (k8_0 hX hA) fun y5 h5 => xg_hasState fun r7 => ⟨fun _ => xg_isSide fun r10 => ⟨fun _ => xg_0at hX (k8_0 hX hA) fun y13 h13 => xg_change hX hA h13 fun r s h => hQ _ _ h, fun _ => hQ _ _ hX⟩, fun _ => hQ _ _ hX⟩⟩
theorem y_none (hX : XI g P σ) (hA : g_A g P a) {x1 x2 x3 : Int32} {Q : Int32 → tw_S → Prop} (hQ : ∀ r s, XI g P s → Q r s) : wp_X8_none g σ a x1 x2 x3 Q := by
  unfold wp_X8_none
  exact xg_hasMoveOf hX hA fun r2 => ⟨fun _ => xg_0at hX (k8_0 hX hA) fun y5 h5 => xg_at hX h5 fun r7 => ⟨fun _ => xg_0at hX (k8_0 hX hA) fun y13 h13 => xg_change hX hA h13 fun r s h => hQ _ _ h, fun _ => hQ _ _ hX⟩, fun _ => hQ _ _ hX⟩
theorem y_states (hX : XI g P σ) (hA : g_A g P a) {x1 x2 : Int32} {Q : Int32 → tw_S → Prop} (hQ : ∀ r s, XI g P s → Q r s) : wp_X8_states g σ a x1 x2 Q := by
  unfold wp_X8_states
  exact xg_isMachine fun r2 => ⟨fun _ => ⟨fun _ => hQ _ _ hX, fun _ => ⟨fun _ => xg_remember hX (k8_1 hX hA) (k8_0 hX hA) fun s6 h6 => xg_0at h6 (k8_0 hX hA) fun y8 h8 => xg_size fun r10 => xg_0at h6 (k8_0 hX hA) fun y12 h12 => xg_empty h6 h12 fun s13 h13 => hQ _ _ h13, fun _ => hQ _ _ hX⟩⟩, fun _ => hQ _ _ hX⟩
theorem y_drift (hX : XI g P σ) (hA : g_A g P a) {x1 x2 : Int32} {Q : Int32 → tw_S → Prop} (hQ : ∀ r s, XI g P s → Q r s) : wp_X8_drift g σ a x1 x2 Q := by
  unfold wp_X8_drift
  exact xg_isMachine fun r2 => ⟨fun _ => ⟨fun _ => hQ _ _ hX, fun _ => ⟨fun _ => xg_remember hX (k8_1 hX hA) (k8_0 hX hA) fun s6 h6 => xg_0at h6 (k8_0 hX hA) fun y8 h8 => xg_drawLots h6 h8 fun s9 h9 => xg_0at h9 (k8_0 hX hA) fun y12 h12 => xg_countMoves fun r13 => hQ _ _ h9, fun _ => hQ _ _ hX⟩⟩, fun _ => hQ _ _ hX⟩
theorem y_swap (hX : XI g P σ) (hA : g_A g P a) {Q : Int32 → tw_S → Prop} (hQ : ∀ r s, XI g P s → Q r s) : wp_X8_swap g σ a Q := by
  unfold wp_X8_swap
  exact xg_remember hX (k8_1 hX hA) (k8_0 hX hA) fun s1 h1 => xg_0at h1 (k8_0 hX hA) fun y3 h3 => xg_0at h1 (k8_0 hX hA) fun y5 h5 => xg_isLike fun r7 => xg_changePlaces h1 (k8_0 hX hA) (k8_5 hX hA) fun s8 h8 => ⟨fun _ => hQ _ _ h8, fun _ => hQ _ _ h8⟩
theorem y_undo (hX : XI g P σ) (hA : g_A g P a) {Q : Int32 → tw_S → Prop} (hQ : ∀ r s, XI g P s → Q r s) : wp_X8_undo g σ a Q := by
  unfold wp_X8_undo
  exact xg_stepBack hX (k8_1 hX hA) (k8_0 hX hA) fun r2 s1 h1 => ⟨fun _ => hQ _ _ h1, fun _ => xg_hsize fun r5 => hQ _ _ h1⟩
theorem y_moveOf (hX : XI g P σ) (hA : g_A g P a) {x1 x2 x3 : Int32} {Q : Int32 → tw_S → Prop} (hQ : ∀ r s, XI g P s → Q r s) : wp_X8_moveOf g σ a x1 x2 x3 Q := by
  unfold wp_X8_moveOf
  exact xg_hasMoveOf hX hA fun r2 => ⟨fun _ => hQ _ _ hX, fun _ => xg_0at hX (k8_0 hX hA) fun y5 h5 => xg_at hX h5 fun r7 => hQ _ _ hX⟩
theorem xg_byRule (hX : XI g P σ) (hA : g_A g P a) {x : Int32} {Q : Int32 → tw_S → Prop} (hQ : ∀ r s, XI g P s → Q r s) : wp_X8_firstByRule g σ a x Q := by
  unfold wp_X8_firstByRule
  refine xg_0at hX (k8_0 hX hA) fun y2 hy2 => xg_make hX (k8_9 hX hA) hy2 fun s3 h3 => xg_0at h3 (k8_0 hX hA) fun y5 hy5 => xg_make h3 (k8_10 hX hA) hy5 fun s6 h6 => ?_
  have m : wp_X4_firstWord g s6 (tw_R g a 11) (tw_R g a 9) (tw_R g a 10) x Q := xg_meetFirst h6 (k8_11 hX hA) (k8_9 hX hA) (k8_10 hX hA) hQ
  exact xg_isTooMany h6 (k8_9 hX hA) fun r8 => ⟨fun _ => ⟨fun _ => m, fun _ => hQ _ _ h6⟩, fun _ => xg_isTooMany h6 (k8_10 hX hA) fun r14 => ⟨fun _ => ⟨fun _ => m, fun _ => hQ _ _ h6⟩, fun _ => ⟨fun _ => m, fun _ => hQ _ _ h6⟩⟩⟩
theorem y_told (hX : XI g P σ) (hA : g_A g P a) {x : Int32} {Q : Int32 → tw_S → Prop} (hQ : ∀ r s, XI g P s → Q r s) : wp_X8_told g σ a x Q := by
  unfold wp_X8_told
  exact ⟨fun _ => xg_wlen fun r => hQ _ _ hX, fun _ => ⟨fun _ => xg_number hX (k8_6 hX hA) fun r => hQ _ _ hX, fun _ => ⟨fun _ => hQ _ _ hX, fun _ => ⟨fun _ => xg_hsize fun r => hQ _ _ hX, fun _ => ⟨fun _ => xg_byRule hX hA fun r s h => xg_tell fun r17 => hQ _ _ h, fun _ => hQ _ _ hX⟩⟩⟩⟩⟩
theorem y_run (hX : XI g P σ) (hA : g_A g P a) {x1 x2 : Int32} {Q : Int32 → tw_S → Prop} (hQ : ∀ r s, XI g P s → Q r s) : wp_X8_run g σ a x1 x2 Q := by
  unfold wp_X8_run wp_X7_length
  exact xg_isMachine fun r2 => ⟨fun _ => ⟨fun _ => hQ _ _ hX, fun _ => ⟨fun _ => xg_0at hX (k8_0 hX hA) fun y7 h7 => xg_follow hX (k8_8 hX hA) h7 fun s8 h8 => ⟨fun _ => xg_isTaken ⟨fun _ => hQ _ _ h8, fun _ => hQ _ _ h8⟩ ⟨fun _ => hQ _ _ h8, fun _ => hQ _ _ h8⟩, fun _ => ⟨fun _ => xg_ending fun r => hQ _ _ h8, fun _ => ⟨fun _ => xg_steps fun r => hQ _ _ h8, fun _ => ⟨fun _ => xg_lastState fun r => hQ _ _ h8, fun _ => ⟨fun _ => xg_countGaps (h8.2.2.1 _ (k8_6 hX hA)).2 fun r => hQ _ _ h8, fun _ => xg_busiestGap (h8.2.2.1 _ (k8_6 hX hA)).2 fun r => hQ _ _ h8⟩⟩⟩⟩⟩, fun _ => hQ _ _ hX⟩⟩, fun _ => hQ _ _ hX⟩
theorem y_crossed (hX : XI g P σ) (hA : g_A g P a) {x1 x2 x3 : Int32} {Q : Int32 → tw_S → Prop} (hQ : ∀ r s, XI g P s → Q r s) : wp_X8_crossed g σ a x1 x2 x3 Q := by
  unfold wp_X8_crossed
  exact xg_isMachine fun r2 => ⟨fun _ => ⟨fun _ => hQ _ _ hX, fun _ => xg_wlen fun r6 => ⟨fun _ => hQ _ _ hX, fun _ => ⟨fun _ => xg_0at hX (k8_0 hX hA) fun y10 h10 => xg_follow hX (k8_8 hX hA) h10 fun s11 h11 => ⟨fun _ => xg_stateAt fun r => hQ _ _ h11, fun _ => xg_howOften fun r => hQ _ _ h11⟩, fun _ => hQ _ _ hX⟩⟩⟩, fun _ => hQ _ _ hX⟩
theorem xg_isPiece {x z : Int32} {Q : Int32 → tw_S → Prop} (hQ : ∀ r, Q r σ) : wp_X8_isPiece g σ a x z Q := ⟨fun _ => hQ _, fun _ => ⟨fun _ => hQ _, fun _ => ⟨fun _ => hQ _, fun _ => hQ _⟩⟩⟩
theorem xg_goOffPiece (hX : XI g P σ) (hb : tw_is g 3 b) {x2 x3 x4 x5 : Int32} {Q : Int32 → tw_S → Prop} (hQ : ∀ r, Q r σ) : wp_X8_goOffPiece g σ a b x2 x3 x4 x5 Q := by
  unfold wp_X8_goOffPiece
  have L : ∀ u w, ∃ n, wl_X8_goOffPiece_21 g a b x2 x3 Q (fun s => Q (-1 : Int32) s) (fun v s => Q v s) (fun s => Q (-1 : Int32) s) n u w (0 : Int32) σ := by
    intro u w
    refine cu4 96 (by decide) (fun _ _ s => s = σ) (fun n u v w s hw e ih => ?_) u w 0 σ ⟨by decide, by decide⟩ rfl
    subst e
    rw [wl_X8_goOffPiece_21]
    exact ⟨fun _ => hQ _, fun c => xg_letterAt fun r4 => xg_at hX hb fun r6 => ⟨fun _ => xg_stateOf fun r9 => xg_shift fun r11 => ⟨fun _ => hQ _, fun _ => ⟨fun _ => ih _ _ _ (i_l rfl c) rfl, fun _ => hQ _⟩⟩, fun _ => hQ _⟩⟩
  exact ⟨fun _ => L _ _, fun _ => L _ _⟩
theorem y_table (hX : XI g P σ) (hA : g_A g P a) {x1 x2 x3 x4 x5 : Int32} {Q : Int32 → tw_S → Prop} (hQ : ∀ r s, XI g P s → Q r s) : wp_X8_table g σ a x1 x2 x3 x4 x5 Q := by
  unfold wp_X8_table
  exact xg_isMachine fun r2 => ⟨fun _ => hQ _ _ hX, fun _ => xg_0at hX (k8_0 hX hA) fun y5 h5 => xg_hasState fun r7 => ⟨fun _ => xg_isSide fun r10 => ⟨fun _ => hQ _ _ hX, fun _ => xg_isPiece fun r13 => ⟨fun _ => xg_0at hX (k8_0 hX hA) fun y16 h16 => xg_goOffPiece hX h16 fun r => hQ _ _ hX, fun _ => hQ _ _ hX⟩⟩, fun _ => hQ _ _ hX⟩⟩
theorem y_alike (hX : XI g P σ) (hA : g_A g P a) {x1 x2 x3 x4 x5 : Int32} {Q : Int32 → tw_S → Prop} (hQ : ∀ r s, XI g P s → Q r s) : wp_X8_alike g σ a x1 x2 x3 x4 x5 Q := by
  unfold wp_X8_alike
  refine xg_isMachine fun r2 => ⟨fun _ => xg_isPiece fun r5 => ⟨fun _ => hQ _ _ hX, fun _ => xg_isPiece fun r8 => ⟨fun _ => xg_0at hX (k8_0 hX hA) fun y11 h11 => ?_, fun _ => hQ _ _ hX⟩⟩, fun _ => hQ _ _ hX⟩
  refine cu2 4 (by decide) (fun s => s = σ) (fun n w s hw e ih => ?_) 0 σ ⟨by decide, by decide⟩ rfl
  subst e
  rw [wl_X8_alike_46]
  unfold wp_X3_size
  refine ⟨fun _ => hQ _ _ hX, fun c => ?_⟩
  have l : w.toInt < ((4 : Nat) : Int) := by
    rw [i_le] at c
    have := (hX.2.1 _ h11).2
    omega
  refine cu2 2 (by decide) (fun z => z = s) (fun n v z hv e ih2 => ?_) 0 s ⟨by decide, by decide⟩ rfl
  subst e
  rw [wl_X8_alike_59]
  exact ⟨fun _ => ih _ l rfl, fun c2 => xg_goOffPiece hX h11 fun r17 => xg_goOffPiece hX h11 fun r19 => ⟨fun _ => ih2 _ (i_l2 rfl c2) rfl, fun _ => hQ _ _ hX⟩⟩
theorem x_wayFor (hX : XI g P σ) (hA : g_A g P a) {x : Int32} {Q : Nat → tw_S → Prop} (hQ : ∀ y s, tw_is g 5 y → XI g P s → Q y s) : wp_X8_oneWayFor g σ a x Q := by
  unfold wp_X8_oneWayFor
  exact ⟨fun _ => xg_0at hX (k8_0 hX hA) fun y3 h3 => xg_make hX (k8_10 hX hA) h3 fun s4 h4 => hQ _ _ (k8_10 hX hA) h4, fun _ => xg_0at hX (k8_0 hX hA) fun y3 h3 => xg_make hX (k8_9 hX hA) h3 fun s4 h4 => hQ _ _ (k8_9 hX hA) h4⟩
theorem y_ofMachine (hX : XI g P σ) (hA : g_A g P a) {x1 x2 : Int32} {Q : Int32 → tw_S → Prop} (hQ : ∀ r s, XI g P s → Q r s) : wp_X8_ofMachine g σ a x1 x2 Q := by
  unfold wp_X8_ofMachine
  exact xg_isMachine fun r2 => ⟨fun _ => ⟨fun _ => hQ _ _ hX, fun _ => ⟨fun _ => xg_0at hX (k8_0 hX hA) fun y7 h7 => ⟨fun _ => x_wayFor hX hA fun y10 s9 hy10 h9 => xg_isTooMany h9 hy10 fun r12 => ⟨fun _ => ⟨fun _ => xg_osize fun r => hQ _ _ h9, fun _ => ⟨fun _ => xg_leastSize h9 hy10 fun r s h => hQ _ _ h, fun _ => ⟨fun _ => xg_firstWord fun r => hQ _ _ h9, fun _ => xg_firstWord fun r => hQ _ _ h9⟩⟩⟩, fun _ => hQ _ _ h9⟩, fun _ => ⟨fun _ => xg_countMoves fun r => hQ _ _ hX, fun _ => xg_size fun r => hQ _ _ hX⟩⟩, fun _ => hQ _ _ hX⟩⟩, fun _ => hQ _ _ hX⟩
theorem y_oneWay (hX : XI g P σ) (hA : g_A g P a) {x1 x2 x3 : Int32} {Q : Int32 → tw_S → Prop} (hQ : ∀ r s, XI g P s → Q r s) : wp_X8_oneWay g σ a x1 x2 x3 Q := by
  unfold wp_X8_oneWay
  exact xg_isMachine fun r2 => ⟨fun _ => x_wayFor hX hA fun y5 s4 hy5 h4 => xg_isTooMany h4 hy5 fun r7 => ⟨fun _ => xg_ohasState fun r10 => ⟨fun _ => ⟨fun _ => hQ _ _ h4, fun _ => xg_0at h4 (k8_0 hX hA) fun y14 h14 => xg_size fun r16 => ⟨fun _ => ⟨fun _ => ⟨fun _ => ⟨fun _ => xg_comesBack fun r => hQ _ _ h4, fun _ => xg_firstOff fun r => hQ _ _ h4⟩, fun _ => xg_isGood fun r => ⟨fun _ => hQ _ _ h4, fun _ => hQ _ _ h4⟩⟩, fun _ => xg_next h4 hy5 fun r => hQ _ _ h4⟩, fun _ => hQ _ _ h4⟩⟩, fun _ => hQ _ _ h4⟩, fun _ => hQ _ _ h4⟩, fun _ => hQ _ _ hX⟩
theorem y_taken (hX : XI g P σ) (hA : g_A g P a) {x1 x2 : Int32} {Q : Int32 → tw_S → Prop} (hQ : ∀ r s, XI g P s → Q r s) : wp_X8_taken g σ a x1 x2 Q := by
  unfold wp_X8_taken
  exact xg_isMachine fun r2 => ⟨fun _ => ⟨fun _ => hQ _ _ hX, fun _ => ⟨fun c => x_wayFor hX hA fun y7 s6 hy7 h6 => xg_isTooMany h6 hy7 fun r9 => ⟨fun _ => xg_countWords h6 hy7 (by rw [i_le, e_24] at c; exact c) fun r s h => hQ _ _ h, fun _ => hQ _ _ h6⟩, fun _ => hQ _ _ hX⟩⟩, fun _ => hQ _ _ hX⟩
theorem y_first (hX : XI g P σ) (hA : g_A g P a) {x : Int32} {Q : Int32 → tw_S → Prop} (hQ : ∀ r s, XI g P s → Q r s) : wp_X8_first g σ a x Q := by
  unfold wp_X8_first
  exact ⟨fun _ => hQ _ _ hX, fun _ => ⟨fun _ => xg_byRule hX hA fun r s h => hQ _ _ h, fun _ => hQ _ _ hX⟩⟩
theorem x_bothWays (hX : XI g P σ) (hA : g_A g P a) (hb : tw_is g 3 b) {x : Int32} {Q : Int32 → tw_S → Prop} (hQ : ∀ r s, XI g P s → Q r s) : wp_X8_isTakenBothWays g σ a b x Q := by
  unfold wp_X8_isTakenBothWays
  refine x_wbecome hX (k8_7 hX hA) (k8_ne hX hA) fun s1 h1 => xg_follow h1 (k8_8 hX hA) hb fun s2 h2 => ?_
  have T : wp_X7_turn g s2 (tw_R g a 7) (fun σ6 => wp_X1_follow g σ6 (tw_R g a 8) b (tw_R g a 7) (fun σ7 => wp_X1_isTaken g σ7 (tw_R g a 8) (fun r9 σ8 => narrow .boolean (.int r9) = .int r9 ∧ Q r9 σ8))) := x_turn h2 (k8_7 hX hA) fun s6 h6 => xg_follow h6 (k8_8 hX hA) hb fun s7 h7 => xg_isTaken ⟨rfl, hQ _ _ h7⟩ ⟨rfl, hQ _ _ h7⟩
  exact xg_isTaken ⟨fun c => absurd rfl c, fun _ => hQ _ _ h2⟩ ⟨fun _ => T, fun c => absurd c (by decide)⟩
theorem y_turned (hX : XI g P σ) (hA : g_A g P a) {x1 x2 : Int32} {Q : Int32 → tw_S → Prop} (hQ : ∀ r s, XI g P s → Q r s) : wp_X8_turned g σ a x1 x2 Q := by
  unfold wp_X8_turned
  refine xg_isMachine fun r2 => ⟨fun _ => ⟨fun _ => hQ _ _ hX, fun c1 => ⟨fun c2 z6 e6 => ?_, fun _ => hQ _ _ hX⟩⟩, fun _ => hQ _ _ hX⟩
  obtain ⟨j, hj, rfl⟩ := nI_of2 (M := 6) (n := 6) rfl c1 c2
  have q : ∀ j, j < 7 → inI ((1 : Int32) <<< (nI j &&& 31)) 0 128 ∧ ((2 : Int32) <<< (nI j &&& 31)).toInt ≤ 128 := by decide
  have q1 := q j (by omega)
  refine cu3 128 (by decide) (fun _ s => XI g P s) (fun n u w s hw hX ih => ?_) 0 z6 σ (e6 ▸ q1.1) hX
  rw [wl_X8_turned_30]
  refine ⟨fun _ => hQ _ _ hX, fun c => ?_⟩
  have l : w.toInt < ((128 : Nat) : Int) := by
    rw [i_le] at c
    have := q1.2
    omega
  exact xg_0at hX (k8_0 hX hA) fun y9 h9 => x_bothWays hX hA h9 fun r11 s10 h10 => ⟨fun _ => ih _ _ l h10, fun _ => ih _ _ l h10⟩
theorem y_fault (hX : XI g P σ) {Q : Int32 → tw_S → Prop} (hQ : ∀ r s, XI g P s → Q r s) : wp_X8_fault g σ a Q := hQ _ _ hX
/-! those that change the word's length, the text's, the flags -/
theorem y_feed (hX : XI g P σ) (hA : g_A g P a) {x : Int32} {Q : Int32 → tw_S → Prop} (h1 : inI x 0 255 → inI P.2.2.2.1 0 239 → ∀ s, XI g (P.1, P.2.1, P.2.2.1, P.2.2.2.1 + 1, P.2.2.2.2) s → Q (P.2.2.2.1 + 1) s) (h2 : inI x 0 255 → ¬ inI P.2.2.2.1 0 239 → Q (-1000000004) σ) (h3 : ¬ inI x 0 255 → Q (-1000000002) σ) : wp_X8_feed g σ a x Q := by
  unfold wp_X8_feed wp_X6_length
  have e0 := e_0
  have e255 : (255 : Int32).toInt = 255 := rfl
  refine ⟨fun c => h3 (fun z => ?_), fun c1 => ⟨fun c2 => ?_, fun c => h3 (fun z => ?_)⟩⟩
  · rw [i_lt] at c; have := z.1; omega
  · have hx : inI x 0 255 := by
      rw [i_lt] at c1
      rw [i_le] at c2
      exact ⟨by omega, by omega⟩
    rw [← hA.2.2.1]
    refine x_tadd hX (fun z s h => ⟨fun c => absurd c (by decide), fun _ => ?_⟩) (fun z => ⟨fun _ => h2 hx z, fun c => absurd rfl c⟩)
    have e : tw_I s P.2.2.1 1 = P.2.2.2.1 + 1 := h.2.2.2.2.2.2.2.2.2.1
    rw [e]
    exact h1 hx z s h
  · rw [i_le] at c; have := z.2; omega
theorem y_machine (hX : XI g P σ) (hA : g_A g P a) {x : Int32} {Q : Int32 → tw_S → Prop} (h1 : inI x 0 1 → ∀ r s, XI g (P.1, P.2.1, P.2.2.1, 0, P.2.2.2.2) s → Q r s) (h0 : ¬ inI x 0 1 → Q (-1000000001) σ) : wp_X8_machine g σ a x Q := by
  unfold wp_X8_machine wp_X6_place
  refine x_isMachine (fun hx => ⟨fun _ => ?_, fun c => absurd c (by decide)⟩) (fun hx => ⟨fun c => absurd rfl c, fun _ => h0 hx⟩)
  refine x_readInto hX (k8_4 hX hA) (k8_5 hX hA) fun r5 s4 h4 => ?_
  have C : ∀ s, XI g P s → wp_X6_clear g s (tw_R g a 4) (fun σ19 => wp_X2_remember g σ19 (tw_R g a 1) (tw_R g a 0) (fun σ20 => ((r5 = 0) → wp_X0_at g σ20 (tw_R g a 0) x (fun y23 σ22 => wp_X3_become g σ22 y23 (tw_R g a 5) (fun σ24 => wp_X3_size g σ24 (tw_R g a 5) (fun r26 σ25 => Q r26 σ25)))) ∧ (¬ (r5 = 0) → Q ((-10 : Int32) - r5) σ20))) := by
    intro s h
    rw [← hA.2.2.1]
    exact x_tclear h fun s19 h19 => xg_remember h19 (k8_1 hX hA) (k8_0 hX hA) fun s20 h20 => ⟨fun _ => xg_0at h20 (k8_0 hX hA) fun y hy => xg_become h20 hy (k8_5 hX hA) fun s24 h24 => xg_size fun r => h1 hx _ _ h24, fun _ => h1 hx _ _ h20⟩
  exact ⟨fun _ => x_st (xi_I h4 hA.1 rfl) fun s9 _ h9 => C _ h9, fun _ => x_st (xi_I h4 hA.1 rfl) fun s9 _ h9 => C _ h9⟩
end G7
