/-! ===== the model on a fresh object: the calls that need no lays ===== -/
section M1
variable {g : tw_G} {τ : tw_S} {a0 : Nat}
theorem m_isMachine {x : Int32} {Q : Int32 → tw_S → Prop} (h1 : inI x 0 1 → Q 1 τ) (h0 : ¬ inI x 0 1 → Q 0 τ) : wp_X9_isMachine g τ x Q :=
  sp_inI (a := 0) (b := 1) rfl rfl (fun h => ⟨nb1, h1 h⟩) (fun h => ⟨nb0, h0 h⟩)
theorem m_ix17 {q : Nat} : (17 : Int32) * nI q = nI (17 * q) := pk_mul 17 q
theorem m_states0 {q : Nat} (hq : q < 2) {Q : Int32 → tw_S → Prop} (h : Q (tw_A τ (tw_R g a0 0) (17 * q)) τ) : wp_X9_states0 g τ a0 (nI q) Q := by
  unfold wp_X9_states0
  rw [m_ix17, nI_clamp (by omega)]
  exact ⟨vp_in_nI (by omega) (by decide), h⟩
theorem m_now1 {q : Nat} (hq : q < 2) : sm_now (17 * q) = 1 := by
  have : q = 0 ∨ q = 1 := by omega
  rcases this with rfl | rfl <;> rfl
theorem m_isState {q : Nat} (hq : q < 2) {x : Int32} {Q : Int32 → tw_S → Prop} (hn : tw_A τ (tw_R g a0 0) = sm_now) (h1 : inI x 0 0 → Q 1 τ) (h0 : ¬ inI x 0 0 → Q 0 τ) : wp_X9_isState g τ a0 (nI q) x Q := by
  refine m_states0 hq ?_
  rw [hn, m_now1 hq]
  exact sp_inI (a := 0) (b := 0) rfl rfl (fun h => ⟨nb1, h1 h⟩) (fun h => ⟨nb0, h0 h⟩)
theorem m_cell {q s c : Nat} : ((((17 : Int32) * nI q) + 1) + (4 * nI s)) + nI c = nI (17 * q + 1 + 4 * s + c) := by
  have e4 : (4 : Int32) * nI s = nI (4 * s) := pk_mul 4 s
  rw [m_ix17, e4, nI_1, nI_add, nI_add]
theorem m_moveAt {q s c : Nat} (hq : q < 2) (hs : s < 4) (hc : c < 4) {Q : Int32 → tw_S → Prop} (h : Q (tw_A τ (tw_R g a0 0) (17 * q + 1 + 4 * s + c)) τ) : wp_X9_moveAt g τ a0 (nI q) (nI s) (nI c) Q := by
  unfold wp_X9_moveAt
  rw [m_cell, nI_clamp (by omega)]
  exact ⟨vp_in_nI (by omega) (by decide), h⟩
theorem m_nowm {q s c : Nat} (hq : q < 2) (hs : s < 4) (hc : c < 4) : sm_now (17 * q + 1 + 4 * s + c) = -1 := by
  have h2 : q = 0 ∨ q = 1 := by omega
  unfold sm_now
  rcases h2 with rfl | rfl
  · rw [if_pos (by omega), if_neg (by omega)]
  · rw [if_pos (by omega), if_neg (by omega)]
theorem m_moveAt1 {q s c : Nat} (hq : q < 2) (hs : s < 4) (hc : c < 4) {Q : Int32 → tw_S → Prop} (hn : tw_A τ (tw_R g a0 0) = sm_now) (h : Q (-1) τ) : wp_X9_moveAt g τ a0 (nI q) (nI s) (nI c) Q := by
  refine m_moveAt hq hs hc ?_
  rw [hn, m_nowm hq hs hc]
  exact h
theorem m_two {x : Int32} (h : inI x 0 1) : ∃ q : Nat, q < 2 ∧ x = nI q := by
  obtain ⟨j, _, h2, h3, _⟩ := inI_nI (lo := 0) (hi := 1) h
  exact ⟨j, by omega, h3⟩
theorem m_zero {x : Int32} (h : inI x 0 0) : x = nI 0 := by
  rw [i_eq]
  have e : (nI 0).toInt = 0 := rfl
  rw [e]
  omega
theorem m_four {x : Int32} (h : inI x 0 3) : ∃ q : Nat, q < 4 ∧ x = nI q := by
  obtain ⟨j, _, h2, h3, _⟩ := inI_nI (lo := 0) (hi := 3) h
  exact ⟨j, by omega, h3⟩
theorem m1_feed (h2 : tw_I τ a0 2 = 0) {x : Int32} {Q : Int32 → tw_S → Prop} (hQ : ∀ τ2, Q (f_feed x) τ2) : wp_X9_feed g τ a0 x Q := by
  unfold wp_X9_feed
  refine sp_inI (a := 0) (b := 255) rfl rfl (fun h => ?_) (fun h => ?_)
  · have e : f_feed x = 1 := if_pos h
    rw [e] at hQ
    simp only [h2]
    refine ⟨fun _ => ⟨fun _ => ⟨by unfold vp_in; decide, fun σ6 e6 σ7 e7 => ?_⟩, fun c => absurd c (by decide)⟩, fun c => absurd c (by decide)⟩
    have z : tw_I σ7 a0 2 = 1 := by simp [e7, e6, tw_I_sI, tw_I_sJ, tw_I_sA, tw_I_sB, tw_J_sI, tw_J_sJ, tw_J_sA, tw_J_sB, tw_A_sI, tw_A_sJ, tw_A_sA, tw_A_sB, tw_B_sI, tw_B_sJ, tw_B_sA, tw_B_sB, h2]
    rw [z]
    exact hQ _
  · have e : f_feed x = (-1000000002) := if_neg h
    rw [e] at hQ
    exact ⟨fun c => absurd rfl c, fun _ => hQ _⟩
theorem m1_fault (h4 : tw_I τ a0 4 = -1) {Q : Int32 → tw_S → Prop} (hQ : ∀ τ2, Q (-1) τ2) : wp_X9_fault g τ a0 Q := by
  unfold wp_X9_fault
  rw [h4]
  exact hQ _
theorem m_isSpot (hn : tw_A τ (tw_R g a0 0) = sm_now) {x s c : Int32} {Q : Int32 → tw_S → Prop} (h1 : inI x 0 1 → inI s 0 0 → inI c 0 3 → Q 1 τ) (h0 : ¬ (inI x 0 1 ∧ inI s 0 0 ∧ inI c 0 3) → Q 0 τ) : wp_X9_isSpot g τ a0 x s c Q := by
  unfold wp_X9_isSpot
  refine m_isMachine (fun c1 => ?_) (fun c1 => ?_)
  · refine ⟨fun c => absurd c (by decide), fun _ => ?_⟩
    obtain ⟨q, hq, rfl⟩ := m_two c1
    refine m_isState hq hn (fun c2 => ?_) (fun c2 => ?_)
    · refine ⟨fun c => absurd c (by decide), fun _ => ?_⟩
      refine sp_inI (a := 0) (b := 3) rfl rfl (fun c3 => ?_) (fun c3 => ?_)
      · exact ⟨fun c => absurd c (by decide), fun _ => h1 c1 c2 c3⟩
      · exact ⟨fun _ => h0 (fun z => c3 z.2.2), fun c => absurd rfl c⟩
    · exact ⟨fun _ => h0 (fun z => c2 z.2.1), fun c => absurd rfl c⟩
  · exact ⟨fun _ => h0 (fun z => c1 z.1), fun c => absurd rfl c⟩
/-- notes: some state comes, ints but the ninth and rows but 'ahead' stay -/
theorem m1_notes (h9 : tw_I τ a0 9 = 0) (hd : m_d g a0) {Q : tw_S → Prop} (hQ : ∀ τ2, (∀ k, k ≠ 9 → tw_I τ2 a0 k = tw_I τ a0 k) → (∀ k, tw_J τ2 a0 k = tw_J τ a0 k) → (∀ k ∈ m_sl, k ≠ 8 → tw_A τ2 (tw_R g a0 k) = tw_A τ (tw_R g a0 k)) → Q τ2) : wp_X9_notes g τ a0 Q := by
  unfold wp_X9_notes
  rw [h9]
  refine ⟨fun _ => ?_, fun c => absurd c (by decide)⟩
  refine lp_up (I := fun i σ => (∀ k, tw_I σ a0 k = tw_I τ a0 k) ∧ (∀ k, tw_J σ a0 k = tw_J τ a0 k) ∧ ∀ k ∈ m_sl, k ≠ 8 → tw_A σ (tw_R g a0 k) = tw_A τ (tw_R g a0 k)) 34 ?_ ?_ 0 (by decide) τ ⟨fun _ => rfl, fun _ => rfl, fun _ _ _ => rfl⟩
  · intro n i σ hi ⟨i1, i2, i3⟩ ih
    rw [wl_X9_notes_48]
    refine ⟨fun c => absurd c (nI_ge (b := 34) hi (by decide)), fun _ => ?_⟩
    have e9 : (34 : Int32) * tw_I σ a0 9 + nI i = nI i := by
      rw [i1 9, h9]
      show (0 : Int32) + nI i = nI i
      simp
    rw [e9, nI_1]
    refine ⟨vp_in_nI hi (by decide), vp_in_nI (by omega) (by decide), fun σ5 e5 => ih σ5 ⟨fun k => ?_, fun k => ?_, fun k hk h8 => ?_⟩⟩
    · rw [e5, tw_I_sA]; exact i1 k
    · rw [e5, tw_J_sA]; exact i2 k
    · rw [e5, tw_A_sA, if_neg (hd k 8 hk (by decide) h8)]; exact i3 k hk h8
  · intro n σ ⟨i1, i2, i3⟩
    rw [wl_X9_notes_48]
    refine ⟨fun _ σ7 e7 => hQ σ7 (fun k hk => ?_) (fun k => ?_) (fun k hk h8 => ?_), fun c => absurd (nI_le (Nat.le_refl 34) (by decide)) c⟩
    · rw [e7, tw_I_sI, if_pos rfl, if_neg hk]; exact i1 k
    · rw [e7, tw_J_sI]; exact i2 k
    · rw [e7, tw_A_sI]; exact i3 k hk h8
theorem m1_move (hn : tw_A τ (tw_R g a0 0) = sm_now) (h9 : tw_I τ a0 9 = 0) (hd : m_d g a0) {m s c t d : Int32} {Q : Int32 → tw_S → Prop} (hQ : ∀ τ2, Q (f_move m s c t d) τ2) : wp_X9_move g τ a0 m s c t d Q := by
  unfold wp_X9_move
  refine m_isSpot hn (fun c1 c2 c3 => ?_) (fun c0 => ?_)
  · refine ⟨fun c => absurd c (by decide), fun _ => ?_⟩
    obtain ⟨q, hq, rfl⟩ := m_two c1
    refine m_isState hq hn (fun c4 => ?_) (fun c4 => ?_)
    · refine ⟨fun _ => ?_, fun c => absurd c (by decide)⟩
      refine sp_inI (a := 0) (b := 1) rfl rfl (fun c5 => ?_) (fun c5 => ?_)
      · refine ⟨fun _ => ?_, fun c => absurd c (by decide)⟩
        have e : f_move (nI q) s c t d = -1 := by rw [f_move, if_pos ⟨c1, c2, c3, c4⟩, if_pos c5]
        rw [e] at hQ
        obtain rfl := m_zero c2
        obtain ⟨j, hj, rfl⟩ := m_four c3
        refine m_moveAt1 hq (by decide) hj hn ?_
        refine m1_notes h9 hd fun τ2 _ _ _ => ?_
        rw [m_cell]
        exact ⟨vp_in_nI (by omega) (by decide), fun σ14 _ => hQ _⟩
      · refine ⟨fun c => absurd rfl c, fun _ => ?_⟩
        have e : f_move (nI q) s c t d = (-1000000002) := by rw [f_move, if_pos ⟨c1, c2, c3, c4⟩, if_neg c5]
        rw [e] at hQ
        exact hQ _
    · refine ⟨fun c => absurd rfl c, fun _ => ?_⟩
      have e : f_move (nI q) s c t d = (-1000000001) := by rw [f_move, if_neg (fun z => c4 z.2.2.2)]
      rw [e] at hQ
      exact hQ _
  · refine ⟨fun _ => ?_, fun c => absurd rfl c⟩
    have e : f_move m s c t d = (-1000000001) := by rw [f_move, if_neg (fun z => c0 ⟨z.1, z.2.1, z.2.2.1⟩)]
    rw [e] at hQ
    exact hQ _
theorem m1_none (hn : tw_A τ (tw_R g a0 0) = sm_now) {m s c : Int32} {Q : Int32 → tw_S → Prop} (hQ : ∀ τ2, Q (f_none m s c) τ2) : wp_X9_none g τ a0 m s c Q := by
  unfold wp_X9_none
  refine m_isSpot hn (fun c1 c2 c3 => ?_) (fun c0 => ?_)
  · refine ⟨fun _ => ?_, fun c => absurd c (by decide)⟩
    have e : f_none m s c = (-1000000003) := if_pos ⟨c1, c2, c3⟩
    rw [e] at hQ
    obtain ⟨q, hq, rfl⟩ := m_two c1
    obtain rfl := m_zero c2
    obtain ⟨j, hj, rfl⟩ := m_four c3
    exact m_moveAt1 hq (by decide) hj hn ⟨fun c => absurd rfl c, fun _ => hQ _⟩
  · have e : f_none m s c = (-1000000001) := if_neg c0
    rw [e] at hQ
    exact ⟨fun c => absurd rfl c, fun _ => hQ _⟩
theorem m1_moveOf (hn : tw_A τ (tw_R g a0 0) = sm_now) {m s c : Int32} {Q : Int32 → tw_S → Prop} (hQ : ∀ τ2, Q (f_moveOf m s c) τ2) : wp_X9_moveOf g τ a0 m s c Q := by
  unfold wp_X9_moveOf
  refine m_isSpot hn (fun c1 c2 c3 => ?_) (fun c0 => ?_)
  · refine ⟨fun c => absurd c (by decide), fun _ => ?_⟩
    have e : f_moveOf m s c = -1 := if_pos ⟨c1, c2, c3⟩
    rw [e] at hQ
    obtain ⟨q, hq, rfl⟩ := m_two c1
    obtain rfl := m_zero c2
    obtain ⟨j, hj, rfl⟩ := m_four c3
    exact m_moveAt1 hq (by decide) hj hn (hQ _)
  · have e : f_moveOf m s c = (-1000000001) := if_neg c0
    rw [e] at hQ
    exact ⟨fun _ => hQ _, fun c => absurd rfl c⟩
theorem m1_states (hn : tw_A τ (tw_R g a0 0) = sm_now) (h9 : tw_I τ a0 9 = 0) (hd : m_d g a0) {m n : Int32} {Q : Int32 → tw_S → Prop} (hQ : ∀ τ2, Q (f_states m n) τ2) : wp_X9_states g τ a0 m n Q := by
  unfold wp_X9_states
  refine m_isMachine (fun c1 => ?_) (fun c1 => ?_)
  · refine ⟨fun _ => ?_, fun c => absurd c (by decide)⟩
    refine sp_inI (a := 1) (b := 4) rfl rfl (fun c2 => ?_) (fun c2 => ?_)
    · refine ⟨fun _ => ?_, fun c => absurd c (by decide)⟩
      have e : f_states m n = 1 := by rw [f_states, if_pos c1, if_pos c2]
      rw [e] at hQ
      obtain ⟨q, hq, rfl⟩ := m_two c1
      refine m1_notes h9 hd fun τ2 _ _ h3 => ?_
      refine m_states0 hq ?_
      rw [h3 0 (by decide) (by decide), hn, m_now1 hq]
      exact wf_wipes g τ2 a0 q n _ hq (hQ _)
    · have e : f_states m n = (-1000000002) := by rw [f_states, if_pos c1, if_neg c2]
      rw [e] at hQ
      exact ⟨fun c => absurd rfl c, fun _ => hQ _⟩
  · have e : f_states m n = (-1000000001) := if_neg c1
    rw [e] at hQ
    exact ⟨fun c => absurd rfl c, fun _ => hQ _⟩
theorem m1_undo (h9 : tw_I τ a0 9 = 0) {Q : Int32 → tw_S → Prop} (hQ : ∀ τ2, Q (-1000000003) τ2) : wp_X9_undo g τ a0 Q := by
  unfold wp_X9_undo
  exact ⟨fun c => absurd h9 c, fun _ => hQ _⟩
theorem m1_letter (h12 : tw_I τ a0 12 = 0) {x : Int32} {Q : Int32 → tw_S → Prop} (hQ : ∀ τ2, Q (f_letter x) τ2) : wp_X9_letter g τ a0 x Q := by
  unfold wp_X9_letter
  refine sp_inI (a := 97) (b := 98) rfl rfl (fun h => ?_) (fun h => ?_)
  · have e : f_letter x = 1 := if_pos h
    rw [e] at hQ
    simp only [h12]
    refine ⟨fun _ => ⟨fun _ => ⟨by unfold vp_in; decide, fun σ6 e6 σ7 e7 => ?_⟩, fun c => absurd c (by decide)⟩, fun c => absurd c (by decide)⟩
    have z : tw_I σ7 a0 12 = 1 := by simp [e7, e6, tw_I_sI, tw_I_sJ, tw_I_sA, tw_I_sB, tw_J_sI, tw_J_sJ, tw_J_sA, tw_J_sB, tw_A_sI, tw_A_sJ, tw_A_sA, tw_A_sB, tw_B_sI, tw_B_sJ, tw_B_sA, tw_B_sB, h12]
    rw [z]
    exact hQ _
  · have e : f_letter x = (-1000000002) := if_neg h
    rw [e] at hQ
    exact ⟨fun c => absurd rfl c, fun _ => hQ _⟩
theorem m1_wipe (h12 : tw_I τ a0 12 = 0) {Q : Int32 → tw_S → Prop} (hQ : ∀ τ2, Q 0 τ2) : wp_X9_wipe g τ a0 Q := by
  unfold wp_X9_wipe
  intro σ1 _
  rw [h12]
  exact hQ _
theorem m1_keep (hd : m_d g a0) {i : Int32} {Q : Int32 → tw_S → Prop} (hQ : ∀ τ2, Q (f_keep i) τ2) : wp_X9_keep g τ a0 i Q := by
  unfold wp_X9_keep
  refine sp_inI (a := 0) (b := 1) rfl rfl (fun h => ?_) (fun h => ?_)
  · have e : f_keep i = 1 := if_pos h
    rw [e] at hQ
    refine ⟨fun _ => ?_, fun c => absurd c (by decide)⟩
    obtain ⟨q, hq, rfl⟩ := m_two h
    have e34 : ∀ k : Nat, (34 : Int32) * nI q + nI k = nI (34 * q + k) := fun k => by
      have e1 : (34 : Int32) * nI q = nI (34 * q) := pk_mul 34 q
      rw [e1, nI_add]
    refine lp_up (I := fun _ _ => True) 34 ?_ ?_ 0 (by decide) τ trivial
    · intro n k σ hk _ ih
      rw [wl_X9_keep_15]
      refine ⟨fun c => absurd c (nI_ge (b := 34) hk (by decide)), fun _ => ⟨vp_in_nI hk (by decide), ?_, fun σ7 _ => ?_⟩⟩
      · rw [e34]; exact vp_in_nI (by omega) (by decide)
      · rw [nI_1]; exact ih _ trivial
    · intro n σ _
      rw [wl_X9_keep_15]
      exact ⟨fun _ σ9 _ σ10 _ => hQ _, fun c => absurd (nI_le (Nat.le_refl 34) (by decide)) c⟩
  · have e : f_keep i = (-1000000001) := if_neg h
    rw [e] at hQ
    exact ⟨fun c => absurd rfl c, fun _ => hQ _⟩
theorem m1_goBack (h35 : tw_I τ a0 35 = 0) {i : Int32} {Q : Int32 → tw_S → Prop} (hQ : ∀ τ2, Q (f_goBack i) τ2) : wp_X9_goBack g τ a0 i Q := by
  unfold wp_X9_goBack
  refine sp_inI (a := 0) (b := 1) rfl rfl (fun h => ?_) (fun h => ?_)
  · have e : f_goBack i = (-1000000003) := if_pos h
    rw [e] at hQ
    obtain ⟨q, hq, rfl⟩ := m_two h
    have z : ((tw_I τ a0 35 >>> (nI q &&& 31)) &&& (1 : Int32)) = 0 := by
      rw [h35]
      have : q = 0 ∨ q = 1 := by omega
      rcases this with rfl | rfl <;> rfl
    exact ⟨fun _ => ⟨fun c => absurd z c, fun _ => hQ _⟩, fun c => absurd c (by decide)⟩
  · have e : f_goBack i = (-1000000001) := if_neg h
    rw [e] at hQ
    exact ⟨fun c => absurd rfl c, fun _ => hQ _⟩
end M1
