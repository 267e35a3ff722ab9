/-! ===== the class in general: machines, history, text, words, the run ===== -/
section G2
variable {g : tw_G} {P : g_P} {σ σ2 : tw_S} {a b y c k : Nat}
def xq (c k : Nat) : Bool := tw_tl.any (fun q => q.1 == c && q.2.1 == k) && xr9 c k
theorem xq_ex (h : xq c k = true) : (∃ d n, (c, k, d, n) ∈ tw_tl) ∧ xr9 c k = true := by
  rw [xq, Bool.and_eq_true, List.any_eq_true] at h
  obtain ⟨⟨q, hq, h1⟩, h2⟩ := h
  rw [Bool.and_eq_true, beq_iff_eq, beq_iff_eq] at h1
  refine ⟨⟨q.2.2.1, q.2.2.2, ?_⟩, h2⟩
  rw [← h1.1, ← h1.2]
  exact hq
theorem xi_Aq {f : Nat → Int32} (hX : XI g P σ) (ha : tw_is g c a) (h : xq c k = true) : XI g P (tw_sA σ (tw_R g a k) f) := by
  obtain ⟨⟨d, n, hq⟩, h2⟩ := xq_ex h
  exact xi_A hX ha hq h2
theorem xi_513z (hX : XI g P σ) (ha : tw_is g 5 a) : XI g P (tw_sI σ a 13 (0 : Int32)) := xi_Iv hX ha (fun z => absurd z.1 (by decide)) (fun z => absurd z.1 (by decide)) (fun z => absurd z (by decide)) (fun z => absurd z (by decide)) (fun _ _ => ⟨by decide, by decide⟩) (fun z => absurd z (by decide)) (fun z => absurd z (by decide))
theorem xi_513o (hX : XI g P σ) (ha : tw_is g 5 a) : XI g P (tw_sI σ a 13 (1 : Int32)) := xi_Iv hX ha (fun z => absurd z.1 (by decide)) (fun z => absurd z.1 (by decide)) (fun z => absurd z (by decide)) (fun z => absurd z (by decide)) (fun _ _ => ⟨by decide, by decide⟩) (fun z => absurd z (by decide)) (fun z => absurd z (by decide))
theorem xi_31 {v : Int32} (hX : XI g P σ) (ha : tw_is g 3 a) (h : inI v 1 4) : XI g P (tw_sI σ a 1 v) := xi_Iv hX ha (fun z => absurd z.1 (by decide)) (fun z => absurd z.1 (by decide)) (fun _ _ => h) (fun z => absurd z (by decide)) (fun z => absurd z (by decide)) (fun z => absurd z (by decide)) (fun z => absurd z (by decide))
theorem xi_62 {v : Int32} (hX : XI g P σ) (ha : tw_is g 6 a) (h : inI v 0 240) : XI g P (tw_sI σ a 2 v) := xi_Iv hX ha (fun z => absurd z.2 (by decide)) (fun z => absurd z.1 (by decide)) (fun z => absurd z (by decide)) (fun z => absurd z (by decide)) (fun z => absurd z (by decide)) (fun _ _ => h) (fun z => absurd z (by decide))
theorem xi_42 {v : Int32} (hX : XI g P σ) (ha : tw_is g 4 a) (h : inI v 0 22500) : XI g P (tw_sI σ a 2 v) := xi_Iv hX ha (fun z => absurd z.1 (by decide)) (fun z => absurd z.1 (by decide)) (fun z => absurd z (by decide)) (fun z => absurd z (by decide)) (fun z => absurd z (by decide)) (fun z => absurd z (by decide)) (fun _ _ => h)
theorem xi_71 {v : Int32} (hX : XI g P σ) (ha : tw_is g 7 a) (hw : a ≠ P.1) (h : inI v 0 24) : XI g P (tw_sI σ a 1 v) := xi_Iv hX ha (fun z => absurd z.1 (by decide)) (fun z => hw z.2.2) (fun z => absurd z (by decide)) (fun _ _ => h) (fun z => absurd z (by decide)) (fun z => absurd z (by decide)) (fun z => absurd z (by decide))
theorem xg_isMachine {x : Int32} {Q : Int32 → tw_S → Prop} (hQ : ∀ r, Q r σ) : wp_X8_isMachine g σ x Q := x_isMachine (fun _ => hQ _) (fun _ => hQ _)
theorem xg_isSide {x : Int32} {Q : Int32 → tw_S → Prop} (hQ : ∀ r, Q r σ) : wp_X8_isSide g σ x Q := x_isSide (fun _ => hQ _) (fun _ => hQ _)
theorem xg_isSign {x : Int32} {Q : Int32 → tw_S → Prop} (hQ : ∀ r, Q r σ) : wp_X8_isSign g σ x Q := x_isSign (fun _ => hQ _) (fun _ => hQ _)
theorem xg_stateOf {x : Int32} {Q : Int32 → tw_S → Prop} (hQ : ∀ r, Q r σ) : wp_X8_stateOf g σ x Q := hQ _
theorem xg_sideOf {x : Int32} {Q : Int32 → tw_S → Prop} (hQ : ∀ r, Q r σ) : wp_X8_sideOf g σ x Q := hQ _
theorem xg_shift {x : Int32} {Q : Int32 → tw_S → Prop} (hQ : ∀ r, Q r σ) : wp_X8_shift g σ x Q := ⟨fun _ => hQ _, fun _ => hQ _⟩
theorem xg_lengthen {x z : Int32} {Q : Int32 → tw_S → Prop} (hQ : ∀ r, Q r σ) : wp_X8_lengthen g σ x z Q := fun _ _ => ⟨fun _ => hQ _, fun _ => ⟨fun _ => hQ _, fun _ => hQ _⟩⟩
theorem xg_tell {x : Int32} {Q : Int32 → tw_S → Prop} (hQ : ∀ r, Q r σ) : wp_X8_tellWhetherNone g σ x Q := ⟨fun _ => ⟨fun _ => hQ _, fun _ => hQ _⟩, fun _ => hQ _⟩
theorem xg_at (hX : XI g P σ) (ha : tw_is g 3 a) {s z : Int32} {Q : Int32 → tw_S → Prop} (hQ : ∀ r, Q r σ) : wp_X3_at g σ a s z Q := g_at (hX.2.1 a ha) hQ
theorem xg_size {Q : Int32 → tw_S → Prop} (hQ : ∀ r, Q r σ) : wp_X3_size g σ a Q := hQ _
theorem xg_hasState {s : Int32} {Q : Int32 → tw_S → Prop} (hQ : ∀ r, Q r σ) : wp_X3_hasState g σ a s Q := g_hasState (fun _ _ => hQ _) (hQ _)
theorem xg_put (hX : XI g P σ) (ha : tw_is g 3 a) {s z v : Int32} {Q : tw_S → Prop} (hQ : ∀ s, XI g P s → Q s) : wp_X3_put g σ a s z v Q := g_put (hX.2.1 a ha) (hQ _ hX) (fun _ => hQ _ (xi_Aq hX ha rfl))
theorem xg_become (hX : XI g P σ) (ha : tw_is g 3 a) (hb : tw_is g 3 b) {Q : tw_S → Prop} (hQ : ∀ s, XI g P s → Q s) : wp_X3_become g σ a b Q := g_become (fun _ => hQ _ (xi_Aq (xi_31 hX ha (hX.2.1 b hb)) ha rfl))
theorem xg_empty (hX : XI g P σ) (ha : tw_is g 3 a) {x : Int32} {Q : tw_S → Prop} (hQ : ∀ s, XI g P s → Q s) : wp_X3_empty g σ a x Q := g_empty (fun _ _ hv => hQ _ (xi_Aq (xi_31 hX ha hv) ha rfl))
theorem xg_isLike {Q : Int32 → tw_S → Prop} (hQ : ∀ r, Q r σ) : wp_X3_isLike g σ a b Q := by
  unfold wp_X3_isLike
  refine cu2 16 (by decide) (fun s => s = σ) (fun n x s hx hX ih => ?_) 0 σ ⟨by decide, by decide⟩ rfl
  subst hX
  rw [wl_X3_isLike_2]
  repeat' (first | assumption | (with_reducible apply hQ) | (with_reducible apply ih) | (with_reducible apply And.intro) | (with_reducible refine x_st (g := g) (P := P) ?_ ?_) | (with_reducible apply xg_isMachine) | (with_reducible apply xg_isSide) | (with_reducible apply xg_isSign) | (with_reducible apply xg_stateOf) | (with_reducible apply xg_sideOf) | (with_reducible apply xg_shift) | (with_reducible apply xg_lengthen) | (with_reducible apply xg_tell) | (with_reducible apply xg_at) | (with_reducible apply xg_size) | (with_reducible apply xg_hasState) | (with_reducible apply xg_put) | (with_reducible apply xg_become) | (with_reducible apply xg_empty) | (with_reducible exact rfl) | (first | exact v_l (by decide) (by assumption) (by assumption) | exact v_g (by decide) (by assumption) (by assumption) | exact v_5 (by assumption) (by assumption) | exact v_51 (by assumption) (by assumption) (by assumption) (by assumption) | exact v_2 (by assumption) (by assumption) (by assumption) (by assumption) | exact absurd rfl (by assumption) | (rw [vp_in_iff]; simp only [i_lt, i_le, inI, e_0, e_1, e_2, e_4, e_5, e_8, e_16, e_24, e_26, e_96, e_104, e_150, e_240, e_3125, e_22500, e_m1] at *; omega)) | (intro _) | (with_reducible apply xi_J) | (with_reducible apply xi_B) | (with_reducible apply xi_513z) | (with_reducible apply xi_513o) | (with_reducible apply xi_I) | (with_reducible apply xi_Aq) | (exact (rfl : xf _ _ = true)) | (exact (rfl : xq _ _ = true)) | (exact (rfl : (_ : Int32) = _)) | (exact i_l rfl (by assumption)) | (exact i_l2 rfl (by assumption)))
theorem xg_countMoves {Q : Int32 → tw_S → Prop} (hQ : ∀ r, Q r σ) : wp_X3_countMoves g σ a Q := by
  unfold wp_X3_countMoves
  refine cu3 16 (by decide) (fun _ s => s = σ) (fun n u x s hx hX ih => ?_) 0 0 σ ⟨by decide, by decide⟩ rfl
  subst hX
  rw [wl_X3_countMoves_4]
  repeat' (first | assumption | (with_reducible apply hQ) | (with_reducible apply ih) | (with_reducible apply And.intro) | (with_reducible refine x_st (g := g) (P := P) ?_ ?_) | (with_reducible apply xg_isMachine) | (with_reducible apply xg_isSide) | (with_reducible apply xg_isSign) | (with_reducible apply xg_stateOf) | (with_reducible apply xg_sideOf) | (with_reducible apply xg_shift) | (with_reducible apply xg_lengthen) | (with_reducible apply xg_tell) | (with_reducible apply xg_at) | (with_reducible apply xg_size) | (with_reducible apply xg_hasState) | (with_reducible apply xg_put) | (with_reducible apply xg_become) | (with_reducible apply xg_empty) | (with_reducible apply xg_isLike) | (with_reducible exact rfl) | (first | exact v_l (by decide) (by assumption) (by assumption) | exact v_g (by decide) (by assumption) (by assumption) | exact v_5 (by assumption) (by assumption) | exact v_51 (by assumption) (by assumption) (by assumption) (by assumption) | exact v_2 (by assumption) (by assumption) (by assumption) (by assumption) | exact absurd rfl (by assumption) | (rw [vp_in_iff]; simp only [i_lt, i_le, inI, e_0, e_1, e_2, e_4, e_5, e_8, e_16, e_24, e_26, e_96, e_104, e_150, e_240, e_3125, e_22500, e_m1] at *; omega)) | (intro _) | (with_reducible apply xi_J) | (with_reducible apply xi_B) | (with_reducible apply xi_513z) | (with_reducible apply xi_513o) | (with_reducible apply xi_I) | (with_reducible apply xi_Aq) | (exact (rfl : xf _ _ = true)) | (exact (rfl : xq _ _ = true)) | (exact (rfl : (_ : Int32) = _)) | (exact i_l rfl (by assumption)) | (exact i_l2 rfl (by assumption)))
theorem xg_drawLot (hX : XI g P σ) {x : Int32} {Q : Int32 → tw_S → Prop} (hQ : ∀ r s, XI g P s → Q r s) : wp_X3_drawLot g σ a x Q := by
  unfold wp_X3_drawLot
  intro z1 _ s2 e2
  have h2 : XI g P s2 := e2 ▸ xi_J hX
  refine ⟨fun _ => hQ _ _ h2, fun c => ⟨fun c2 => c ?_, fun _ _ => hQ _ _ h2⟩⟩
  rw [i_le, ← j_i x, c2]
  decide
theorem xg_drawMove (hX : XI g P σ) {Q : Int32 → tw_S → Prop} (hQ : ∀ r s, XI g P s → Q r s) : wp_X3_drawMove g σ a Q := by
  unfold wp_X3_drawMove
  repeat' (first | assumption | (with_reducible apply hQ) | (with_reducible apply ih) | (with_reducible apply And.intro) | (with_reducible refine x_st (g := g) (P := P) ?_ ?_) | (with_reducible apply xg_isMachine) | (with_reducible apply xg_isSide) | (with_reducible apply xg_isSign) | (with_reducible apply xg_stateOf) | (with_reducible apply xg_sideOf) | (with_reducible apply xg_shift) | (with_reducible apply xg_lengthen) | (with_reducible apply xg_tell) | (with_reducible apply xg_at) | (with_reducible apply xg_size) | (with_reducible apply xg_hasState) | (with_reducible apply xg_put) | (with_reducible apply xg_become) | (with_reducible apply xg_empty) | (with_reducible apply xg_isLike) | (with_reducible apply xg_countMoves) | (with_reducible apply xg_drawLot) | (with_reducible exact rfl) | (first | exact v_l (by decide) (by assumption) (by assumption) | exact v_g (by decide) (by assumption) (by assumption) | exact v_5 (by assumption) (by assumption) | exact v_51 (by assumption) (by assumption) (by assumption) (by assumption) | exact v_2 (by assumption) (by assumption) (by assumption) (by assumption) | exact absurd rfl (by assumption) | (rw [vp_in_iff]; simp only [i_lt, i_le, inI, e_0, e_1, e_2, e_4, e_5, e_8, e_16, e_24, e_26, e_96, e_104, e_150, e_240, e_3125, e_22500, e_m1] at *; omega)) | (intro _) | (with_reducible apply xi_J) | (with_reducible apply xi_B) | (with_reducible apply xi_513z) | (with_reducible apply xi_513o) | (with_reducible apply xi_I) | (with_reducible apply xi_Aq) | (exact (rfl : xf _ _ = true)) | (exact (rfl : xq _ _ = true)) | (exact (rfl : (_ : Int32) = _)) | (exact i_l rfl (by assumption)) | (exact i_l2 rfl (by assumption)))
theorem xl_drawLots18 (hX : XI g P σ) (ha : tw_is g 3 a) {x : Int32} {Q K : tw_S → Prop} (hQ : ∀ s, XI g P s → K s) : ∃ n, wl_X3_drawLots_18 g a x Q K n 0 σ := by
  refine cu2 4 (by decide) (XI g P) (fun n x s hx hX ih => ?_) 0 σ ⟨by decide, by decide⟩ hX
  rw [wl_X3_drawLots_18]
  repeat' (first | assumption | (with_reducible apply hQ) | (with_reducible apply ih) | (with_reducible apply And.intro) | (with_reducible refine x_st (g := g) (P := P) ?_ ?_) | (with_reducible apply xg_isMachine) | (with_reducible apply xg_isSide) | (with_reducible apply xg_isSign) | (with_reducible apply xg_stateOf) | (with_reducible apply xg_sideOf) | (with_reducible apply xg_shift) | (with_reducible apply xg_lengthen) | (with_reducible apply xg_tell) | (with_reducible apply xg_at) | (with_reducible apply xg_size) | (with_reducible apply xg_hasState) | (with_reducible apply xg_put) | (with_reducible apply xg_become) | (with_reducible apply xg_empty) | (with_reducible apply xg_isLike) | (with_reducible apply xg_countMoves) | (with_reducible apply xg_drawLot) | (with_reducible apply xg_drawMove) | (with_reducible exact rfl) | (first | exact v_l (by decide) (by assumption) (by assumption) | exact v_g (by decide) (by assumption) (by assumption) | exact v_5 (by assumption) (by assumption) | exact v_51 (by assumption) (by assumption) (by assumption) (by assumption) | exact v_2 (by assumption) (by assumption) (by assumption) (by assumption) | exact absurd rfl (by assumption) | (rw [vp_in_iff]; simp only [i_lt, i_le, inI, e_0, e_1, e_2, e_4, e_5, e_8, e_16, e_24, e_26, e_96, e_104, e_150, e_240, e_3125, e_22500, e_m1] at *; omega)) | (intro _) | (with_reducible apply xi_J) | (with_reducible apply xi_B) | (with_reducible apply xi_513z) | (with_reducible apply xi_513o) | (with_reducible apply xi_I) | (with_reducible apply xi_Aq) | (exact (rfl : xf _ _ = true)) | (exact (rfl : xq _ _ = true)) | (exact (rfl : (_ : Int32) = _)) | (exact i_l rfl (by assumption)) | (exact i_l2 rfl (by assumption)))
theorem xg_drawLots (hX : XI g P σ) (ha : tw_is g 3 a) {x : Int32} {Q : tw_S → Prop} (hQ : ∀ s, XI g P s → Q s) : wp_X3_drawLots g σ a x Q := by
  unfold wp_X3_drawLots
  intro s1 e1
  have h1 : XI g P s1 := e1 ▸ xi_J hX
  refine cu2 4 (by decide) (XI g P) (fun n x s hx hX ih => ?_) 0 s1 ⟨by decide, by decide⟩ h1
  rw [wl_X3_drawLots_8]
  refine ⟨fun _ => hQ _ hX, fun c => xl_drawLots18 hX ha (fun s2 h2 => ih s2 ?_ h2)⟩
  rw [i_le] at c
  have := (hX.2.1 a ha).2
  show _ < ((4 : Nat) : Int)
  omega
theorem xg_0at (hX : XI g P σ) (ha : tw_is g 0 a) {x : Int32} {Q : Nat → tw_S → Prop} (hQ : ∀ y, tw_is g 3 y → Q y σ) : wp_X0_at g σ a x Q := ⟨fun _ => hQ _ (kd hX ha (d := 3) (n := 0) (by decide)), fun _ => hQ _ (kd hX ha (d := 3) (n := 0) (by decide))⟩
theorem xg_0become (hX : XI g P σ) (ha : tw_is g 0 a) (hb : tw_is g 0 b) {Q : tw_S → Prop} (hQ : ∀ s, XI g P s → Q s) : wp_X0_become g σ a b Q := by
  have k1 : tw_is g 3 (tw_R g a 0) := kd hX ha (d := 3) (n := 0) (by decide)
  have k2 : tw_is g 3 (tw_R g a 1) := kd hX ha (d := 3) (n := 0) (by decide)
  have k3 : tw_is g 3 (tw_R g b 0) := kd hX hb (d := 3) (n := 0) (by decide)
  have k4 : tw_is g 3 (tw_R g b 1) := kd hX hb (d := 3) (n := 0) (by decide)
  unfold wp_X0_become
  repeat' (first | assumption | (with_reducible apply hQ) | (with_reducible apply ih) | (with_reducible apply And.intro) | (with_reducible refine x_st (g := g) (P := P) ?_ ?_) | (with_reducible apply xg_isMachine) | (with_reducible apply xg_isSide) | (with_reducible apply xg_isSign) | (with_reducible apply xg_stateOf) | (with_reducible apply xg_sideOf) | (with_reducible apply xg_shift) | (with_reducible apply xg_lengthen) | (with_reducible apply xg_tell) | (with_reducible apply xg_at) | (with_reducible apply xg_size) | (with_reducible apply xg_hasState) | (with_reducible apply xg_put) | (with_reducible apply xg_become) | (with_reducible apply xg_empty) | (with_reducible apply xg_isLike) | (with_reducible apply xg_countMoves) | (with_reducible apply xg_drawLot) | (with_reducible apply xg_drawMove) | (with_reducible apply xg_drawLots) | (with_reducible apply xg_0at) | (with_reducible exact rfl) | (first | exact v_l (by decide) (by assumption) (by assumption) | exact v_g (by decide) (by assumption) (by assumption) | exact v_5 (by assumption) (by assumption) | exact v_51 (by assumption) (by assumption) (by assumption) (by assumption) | exact v_2 (by assumption) (by assumption) (by assumption) (by assumption) | exact absurd rfl (by assumption) | (rw [vp_in_iff]; simp only [i_lt, i_le, inI, e_0, e_1, e_2, e_4, e_5, e_8, e_16, e_24, e_26, e_96, e_104, e_150, e_240, e_3125, e_22500, e_m1] at *; omega)) | (intro _) | (with_reducible apply xi_J) | (with_reducible apply xi_B) | (with_reducible apply xi_513z) | (with_reducible apply xi_513o) | (with_reducible apply xi_I) | (with_reducible apply xi_Aq) | (exact (rfl : xf _ _ = true)) | (exact (rfl : xq _ _ = true)) | (exact (rfl : (_ : Int32) = _)) | (exact i_l rfl (by assumption)) | (exact i_l2 rfl (by assumption)))
theorem xg_changePlaces (hX : XI g P σ) (ha : tw_is g 0 a) (hb : tw_is g 3 b) {Q : tw_S → Prop} (hQ : ∀ s, XI g P s → Q s) : wp_X0_changePlaces g σ a b Q := by
  have k1 : tw_is g 3 (tw_R g a 0) := kd hX ha (d := 3) (n := 0) (by decide)
  have k2 : tw_is g 3 (tw_R g a 1) := kd hX ha (d := 3) (n := 0) (by decide)
  unfold wp_X0_changePlaces
  repeat' (first | assumption | (with_reducible apply hQ) | (with_reducible apply ih) | (with_reducible apply And.intro) | (with_reducible refine x_st (g := g) (P := P) ?_ ?_) | (with_reducible apply xg_isMachine) | (with_reducible apply xg_isSide) | (with_reducible apply xg_isSign) | (with_reducible apply xg_stateOf) | (with_reducible apply xg_sideOf) | (with_reducible apply xg_shift) | (with_reducible apply xg_lengthen) | (with_reducible apply xg_tell) | (with_reducible apply xg_at) | (with_reducible apply xg_size) | (with_reducible apply xg_hasState) | (with_reducible apply xg_put) | (with_reducible apply xg_become) | (with_reducible apply xg_empty) | (with_reducible apply xg_isLike) | (with_reducible apply xg_countMoves) | (with_reducible apply xg_drawLot) | (with_reducible apply xg_drawMove) | (with_reducible apply xg_drawLots) | (with_reducible apply xg_0at) | (with_reducible apply xg_0become) | (with_reducible exact rfl) | (first | exact v_l (by decide) (by assumption) (by assumption) | exact v_g (by decide) (by assumption) (by assumption) | exact v_5 (by assumption) (by assumption) | exact v_51 (by assumption) (by assumption) (by assumption) (by assumption) | exact v_2 (by assumption) (by assumption) (by assumption) (by assumption) | exact absurd rfl (by assumption) | (rw [vp_in_iff]; simp only [i_lt, i_le, inI, e_0, e_1, e_2, e_4, e_5, e_8, e_16, e_24, e_26, e_96, e_104, e_150, e_240, e_3125, e_22500, e_m1] at *; omega)) | (intro _) | (with_reducible apply xi_J) | (with_reducible apply xi_B) | (with_reducible apply xi_513z) | (with_reducible apply xi_513o) | (with_reducible apply xi_I) | (with_reducible apply xi_Aq) | (exact (rfl : xf _ _ = true)) | (exact (rfl : xq _ _ = true)) | (exact (rfl : (_ : Int32) = _)) | (exact i_l rfl (by assumption)) | (exact i_l2 rfl (by assumption)))
theorem x_slotAt (hX : XI g P σ) (ha : tw_is g 2 a) {x : Int32} {Q : Option Nat → tw_S → Prop} (h0 : Q none σ) (h1 : ∀ y, tw_is g 0 y → Q (some y) σ) : wp_X2_slotAt g σ a x Q := by
  unfold wp_X2_slotAt
  refine ⟨fun _ => h0, fun c1 => ⟨fun _ => h0, fun c2 => ?_⟩⟩
  obtain ⟨j, hj, rfl⟩ := i_of (N := 8) (by decide) c1 c2
  refine ⟨vp_in_nI hj (by decide), h1 _ ?_⟩
  have k1 := hX.1.1.1 (2, 0, 13, 8) (by decide) a ha
  refine kdE hX k1.1 ?_
  rw [k1.2 (by decide), nI_clamp (by omega)]
  exact hj
theorem xg_remember (hX : XI g P σ) (ha : tw_is g 2 a) (hb : tw_is g 0 b) {Q : tw_S → Prop} (hQ : ∀ s, XI g P s → Q s) : wp_X2_remember g σ a b Q := by
  unfold wp_X2_remember
  refine x_slotAt hX ha ⟨fun _ z4 _ => x_st (xi_I hX ha rfl) fun s5 _ h5 z6 _ => x_st (xi_I h5 ha rfl) fun s7 _ h7 => hQ _ h7, fun _ c => (nomatch c)⟩ (fun y hy => ⟨fun c => (nomatch c), fun y2 e => ?_⟩)
  obtain rfl : y = y2 := Option.some.inj e
  exact xg_0become hX hy hb fun s8 h8 z9 _ => x_st (xi_I h8 ha rfl) fun s10 _ h10 z11 _ => x_st (xi_I h10 ha rfl) fun s12 _ h12 => hQ _ h12
theorem xg_stepBack (hX : XI g P σ) (ha : tw_is g 2 a) (hb : tw_is g 0 b) {Q : Int32 → tw_S → Prop} (hQ : ∀ r s, XI g P s → Q r s) : wp_X2_stepBack g σ a b Q := by
  unfold wp_X2_stepBack
  refine ⟨fun _ => x_st (xi_I hX ha rfl) fun s2 _ h2 z3 _ => x_st (xi_I h2 ha rfl) fun s4 _ h4 => ?_, fun _ => hQ _ _ hX⟩
  refine x_slotAt h4 ha ⟨fun _ => hQ _ _ h4, fun _ c => (nomatch c)⟩ (fun y hy => ⟨fun c => (nomatch c), fun y2 e => ?_⟩)
  obtain rfl : y = y2 := Option.some.inj e
  exact xg_0become h4 hb hy fun s8 h8 => hQ _ _ h8
theorem xg_hsize {Q : Int32 → tw_S → Prop} (hQ : ∀ r, Q r σ) : wp_X2_size g σ a Q := hQ _
theorem xg_forget (hX : XI g P σ) (ha : tw_is g 2 a) {Q : tw_S → Prop} (hQ : ∀ s, XI g P s → Q s) : wp_X2_forget g σ a Q := x_st (xi_I hX ha rfl) fun s _ h => hQ s h
end G2
