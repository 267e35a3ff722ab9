/-! ===== the class on a fresh object: asking one way ===== -/
def o_T (g : tw_G) (a : Nat) (σ : tw_S) : Prop := tw_I σ a 14 = 1 ∧ tw_A σ (tw_R g a 4) 0 = 0 ∧ tw_A σ (tw_R g a 4) 1 = 0 ∧ tw_A σ (tw_R g a 5) 0 = 0
section X5
variable {g : tw_G} {σ0 σ σ2 : tw_S} {a0 a y m : Nat}
theorem oS_T (h : o_S g a σ) : o_T g a σ := ⟨h.2.1, h.2.2.2.1, h.2.2.2.2.1, h.2.2.2.2.2.1⟩
theorem oT_sA (h : o_T g a σ) {r : Nat} (h4 : tw_R g a 4 ≠ r) (h5 : tw_R g a 5 ≠ r) {f : Nat → Int32} : o_T g a (tw_sA σ r f) := by
  obtain ⟨p1, p2, p3, p4⟩ := h
  refine ⟨p1, ?_, ?_, ?_⟩
  · rw [tw_A_sA, if_neg h4]; exact p2
  · rw [tw_A_sA, if_neg h4]; exact p3
  · rw [tw_A_sA, if_neg h5]; exact p4
theorem x_split (h : tw_I σ a 14 = 1) {Q : Int32 → tw_S → Prop} (hQ : ∀ σ2, (∀ b k, tw_I σ2 b k = tw_I σ b k) → Q 1 σ2) : wp_X5_splitGroups g σ a Q := by
  refine ⟨2, ?_⟩
  rw [wl_X5_splitGroups_4, h]
  refine ⟨fun c => absurd c (by decide), fun _ => ⟨fun c => absurd c (by decide), fun _ => ⟨1, ?_⟩⟩⟩
  rw [wl_X5_groupAmong_2]
  refine ⟨fun _ => ⟨fun c => absurd rfl c, fun _ => ⟨fun c => absurd c (by decide), fun _ => ⟨by unfold vp_in; decide, fun σ12 e12 => ⟨by unfold vp_in; decide, fun σ14 e14 => ?_⟩⟩⟩⟩, fun c => absurd (by decide) c⟩
  have i14 : tw_I σ14 a 14 = 1 := by rw [e14, tw_I_sA, e12, tw_I_sA]; exact h
  rw [wl_X5_splitGroups_4, i14]
  refine ⟨fun _ σ17 e17 => ?_, fun c => absurd (by decide) c⟩
  have e : (0 : Int32) + 1 = 1 := by decide
  rw [e]
  exact hQ σ17 fun b k => by rw [e17, tw_I_sA, e14, tw_I_sA, e12, tw_I_sA]
theorem x_least (h14 : tw_I σ a 14 = 1) (h15 : tw_I σ a 15 = 0) (h5 : tw_A σ (tw_R g a 5) 0 = 0) {Q : Int32 → tw_S → Prop} (hQ : ∀ σ2, Q 1 σ2) : wp_X5_leastSize g σ a Q := by
  unfold wp_X5_leastSize
  refine ⟨fun c => absurd h15 c, fun _ => ⟨2, ?_⟩⟩
  have h5 : tw_A σ (tw_R g a 5) (0 : Int32).toNatClampNeg = 0 := h5
  rw [wl_X5_groupByGoodness_2, h14, h5]
  refine ⟨fun c => absurd c (by decide), fun _ => ⟨fun c => absurd c (by decide), fun _ => ⟨by unfold vp_in; decide, fun _ => ⟨by unfold vp_in; decide, fun σ6 e6 => ?_⟩, fun c => absurd rfl c⟩⟩⟩
  have i14 : tw_I σ6 a 14 = 1 := by rw [e6, tw_I_sA]; exact h14
  have i15 : tw_I σ6 a 15 = 0 := by rw [e6, tw_I_sA]; exact h15
  rw [wl_X5_groupByGoodness_2, i14]
  refine ⟨fun _ => ⟨2, ?_⟩, fun c => absurd (by decide) c⟩
  rw [wl_X5_leastSize_13]
  refine ⟨fun c => absurd c (by decide), fun _ => x_split i14 fun σ4 k4 => ⟨fun _ σ7 e7 => ?_, fun c => ?_⟩⟩
  · have j14 : tw_I σ7 a 14 = 1 := by rw [e7, tw_I_sI, if_pos rfl, if_neg (by decide), k4]; exact i14
    have j15 : tw_I σ7 a 15 = 1 := by rw [e7, tw_I_sI, if_pos rfl, if_pos rfl]
    rw [wl_X5_leastSize_13]
    refine ⟨fun c => absurd c (by decide), fun _ => x_split j14 fun σ8 k8 => ⟨fun c => absurd (by rw [k8]; exact j15.symm) c, fun _ => ?_⟩⟩
    rw [k8, j15]
    exact hQ _
  · rw [k4, i15] at c
    exact absurd c (by decide)
theorem x_firstWord (h14 : tw_I σ a 14 = 1) (h5 : tw_A σ (tw_R g a 5) 0 = 0) (h6 : tw_A σ (tw_R g a 6) 0 = 1) {x : Int32} {Q : Int32 → tw_S → Prop} (hQ : ∀ σ2, Q (if x = 0 then 1 else -1) σ2) : wp_X5_firstWord g σ a x Q := by
  refine ⟨2, ?_⟩
  have h5 : tw_A σ (tw_R g a 5) (0 : Int32).toNatClampNeg = 0 := h5
  have h6 : tw_A σ (tw_R g a 6) (0 : Int32).toNatClampNeg = 1 := h6
  rw [wl_X5_firstWord_2, h14, h5]
  refine ⟨fun c => absurd c (by decide), fun _ => ⟨fun c => absurd c (by decide), fun _ => ⟨by unfold vp_in; decide, fun c => ?_, fun c => ?_⟩⟩⟩
  · rw [if_neg (fun z => c z.symm)] at hQ
    rw [wl_X5_firstWord_2, h14]
    exact ⟨fun _ => hQ _, fun c => absurd (by decide) c⟩
  · rw [if_pos c.symm] at hQ
    rw [h6]
    exact ⟨by unfold vp_in; decide, hQ _⟩
theorem x_onext (T : o_T g a σ) {i : Nat} (hi : i < 2) {Q : Int32 → tw_S → Prop} (hQ : Q 0 σ) : wp_X5_next g σ a 0 (nI i) Q := by
  unfold wp_X5_next
  have h2 : i = 0 ∨ i = 1 := by omega
  rcases h2 with rfl | rfl
  · have e : tw_A σ (tw_R g a 4) (((2 : Int32) * 0) + nI 0).toNatClampNeg = 0 := T.2.1
    refine x_ohas0 T.1 ⟨fun c => absurd c (by decide), fun _ => ⟨fun c => absurd c (by decide), fun _ => ⟨fun c => absurd c (by decide), fun _ => ⟨by unfold vp_in; decide, ?_⟩⟩⟩⟩
    rw [e]; exact hQ
  · have e : tw_A σ (tw_R g a 4) (((2 : Int32) * 0) + nI 1).toNatClampNeg = 0 := T.2.2.1
    refine x_ohas0 T.1 ⟨fun c => absurd c (by decide), fun _ => ⟨fun c => absurd c (by decide), fun _ => ⟨fun c => absurd c (by decide), fun _ => ⟨by unfold vp_in; decide, ?_⟩⟩⟩⟩
    rw [e]; exact hQ
theorem x_isGood (T : o_T g a σ) {Q : Int32 → tw_S → Prop} (hQ : Q 0 σ) : wp_X5_isGood g σ a 0 Q := by
  unfold wp_X5_isGood
  have e : tw_A σ (tw_R g a 5) (0 : Int32).toNatClampNeg = 0 := T.2.2.2
  exact x_ohas0 T.1 ⟨fun c => absurd c (by decide), fun _ => ⟨by unfold vp_in; decide, fun _ => hQ, fun c => absurd e c⟩⟩
theorem x_more (hd : o_d g a) (T : o_T g a σ) {Q : tw_S → Prop} (hQ : ∀ σ2, o_T g a σ2 → Q σ2) : wp_X5_countOneLetterMore g σ a Q := by
  have n4 : ∀ i, i < 12 → i ≠ 4 → i ≠ 0 → tw_R g a 4 ≠ tw_R g a i := fun i hi h h0 => o_ne hd (by decide) hi h.symm (by decide) h0
  have n5 : ∀ i, i < 12 → i ≠ 5 → i ≠ 0 → tw_R g a 5 ≠ tw_R g a i := fun i hi h h0 => o_ne hd (by decide) hi h.symm (by decide) h0
  unfold wp_X5_countOneLetterMore
  refine wf_fill g σ _ 150 _ _ (by decide) ⟨2, ?_⟩
  have T1 := oT_sA T (n4 11 (by decide) (by decide) (by decide)) (n5 11 (by decide) (by decide) (by decide)) (f := fun j => if j < 150 then 0 else tw_A σ (tw_R g a 11) j)
  rw [wl_X5_countOneLetterMore_10, T1.1]
  refine ⟨fun c => absurd c (by decide), fun _ => ⟨fun c => absurd c (by decide), fun _ => ?_⟩⟩
  refine lp_up (I := fun _ σ3 => o_T g a σ3) 2 ?_ ?_ 0 (by decide) _ T1
  · intro n i σ3 hi T3 ih
    rw [wl_X5_countOneLetterMore_27, nI_1]
    refine ⟨fun c => absurd c (nI_ge (b := 2) hi (by decide)), fun _ => x_onext T3 hi (x_ohas0 T3.1 ⟨fun c => absurd c (by decide), fun _ => ⟨by unfold vp_in; decide, by unfold vp_in; decide, by unfold vp_in; decide, fun σ13 e13 => ih σ13 ?_⟩⟩)⟩
    rw [e13]
    exact oT_sA T3 (n4 11 (by decide) (by decide) (by decide)) (n5 11 (by decide) (by decide) (by decide))
  · intro n σ3 T3
    rw [wl_X5_countOneLetterMore_27]
    refine ⟨fun _ => ?_, fun c => absurd (nI_le (Nat.le_refl 2) (by decide)) c⟩
    rw [wl_X5_countOneLetterMore_10, T3.1]
    refine ⟨fun _ σ16 e16 => hQ σ16 ?_, fun c => absurd (by decide) c⟩
    rw [e16]
    exact oT_sA T3 (n4 10 (by decide) (by decide) (by decide)) (n5 10 (by decide) (by decide) (by decide))
theorem x_countWords (hd : o_d g a) (T : o_T g a σ) {j : Nat} (hj : j ≤ 24) {Q : Int32 → tw_S → Prop} (hQ : ∀ σ2, Q 0 σ2) : wp_X5_countWords g σ a (nI j) Q := by
  have n4 : tw_R g a 4 ≠ tw_R g a 10 := o_ne hd (by decide) (by decide) (by decide) (by decide) (by decide)
  have n5 : tw_R g a 5 ≠ tw_R g a 10 := o_ne hd (by decide) (by decide) (by decide) (by decide) (by decide)
  unfold wp_X5_countWords
  refine wf_fill g σ _ 150 _ _ (by decide) ?_
  intro σ2 e2
  have T2 : o_T g a σ2 := by rw [e2]; exact oT_sA (oT_sA T n4 n5) n4 n5
  refine lp_up (I := fun _ σ3 => o_T g a σ3) j ?_ ?_ 0 (Nat.zero_le _) σ2 T2
  · intro n i σ3 hi T3 ih
    rw [wl_X5_countWords_17, nI_1]
    exact ⟨fun c => absurd c (nI_ge hi (by omega)), fun _ => x_more hd T3 fun σ4 T4 => ih σ4 T4⟩
  · intro n σ3 T3
    rw [wl_X5_countWords_17]
    refine ⟨fun _ => ⟨2, ?_⟩, fun c => absurd (nI_le (Nat.le_refl _) (by omega)) c⟩
    have e5 : tw_A σ3 (tw_R g a 5) (0 : Int32).toNatClampNeg = 0 := T3.2.2.2
    rw [wl_X5_countWords_36, T3.1, e5]
    refine ⟨fun c => absurd c (by decide), fun _ => ⟨fun c => absurd c (by decide), fun _ => ⟨by unfold vp_in; decide, fun _ => ?_, fun c => absurd rfl c⟩⟩⟩
    rw [wl_X5_countWords_36, T3.1]
    exact ⟨fun _ => hQ _, fun c => absurd (by decide) c⟩
/-! where two go on together -/
theorem x_fits {x : Int32} {Q : Int32 → tw_S → Prop} (hQ : Q 0 σ) : wp_X4_fits g σ x 0 0 Q := by
  unfold wp_X4_fits
  exact ⟨fun _ => ⟨fun _ => hQ, fun c => absurd rfl c⟩, fun _ => ⟨fun _ => ⟨fun c => absurd rfl c, fun _ => ⟨fun _ => hQ, fun c => absurd rfl c⟩⟩, fun _ => ⟨fun _ => ⟨fun _ => hQ, fun c => absurd rfl c⟩, fun _ => ⟨fun _ => hQ, fun c => absurd rfl c⟩⟩⟩⟩
theorem x_meet2 (h2 : tw_I σ m 2 = 1) (h1 : tw_A σ (tw_R g m 1) 0 = 1) {x : Int32} {Q : tw_S → Prop} (hQ : Q σ) : wp_X4_meet g σ m 0 0 x Q := by
  unfold wp_X4_meet
  intro z1 e1
  have e1 : z1 = 0 := by rw [e1]; decide
  subst e1
  rw [h2]
  refine ⟨fun c => absurd c (by decide), fun _ => ⟨fun c => absurd c (by decide), fun _ => ⟨fun c => absurd c (by decide), fun _ => ⟨fun c => absurd c (by decide), fun _ => ?_⟩⟩⟩⟩
  unfold wp_X4_isMet
  have r : tw_A σ (tw_R g m 1) ((0 : Int32) >>> ((5 : Int32) &&& 31)).toNatClampNeg = 1 := h1
  rw [r]
  exact ⟨by unfold vp_in; decide, fun c => absurd (by decide) c, fun _ => ⟨fun c => absurd c (by decide), fun _ => hQ⟩⟩
theorem x_meet1 (h2 : tw_I σ m 2 = 0) (h1 : tw_A σ (tw_R g m 1) 0 = 0) {Q : tw_S → Prop} (hQ : ∀ σ11 σ13 σ14 f h v, σ11 = tw_sA σ (tw_R g m 1) f → σ13 = tw_sB σ11 (tw_R g m 0) h → σ14 = tw_sI σ13 m 2 v → tw_I σ14 m 2 = 1 → tw_A σ14 (tw_R g m 1) 0 = 1 → tw_B σ14 (tw_R g m 0) 0 = 32768 → Q σ14) : wp_X4_meet g σ m 0 0 1 Q := by
  unfold wp_X4_meet
  intro z1 e1
  have e1 : z1 = 0 := by rw [e1]; decide
  subst e1
  have r : tw_A σ (tw_R g m 1) ((0 : Int32) >>> ((5 : Int32) &&& 31)).toNatClampNeg = 0 := h1
  rw [h2]
  refine ⟨fun c => absurd c (by decide), fun _ => ⟨fun c => absurd c (by decide), fun _ => ⟨fun c => absurd c (by decide), fun _ => ⟨fun c => absurd c (by decide), fun _ => ?_⟩⟩⟩⟩
  unfold wp_X4_isMet
  rw [r]
  refine ⟨by unfold vp_in; decide, fun _ => ⟨fun _ => ⟨by unfold vp_in; decide, by unfold vp_in; decide, fun σ11 e11 => ?_⟩, fun c => absurd rfl c⟩, fun c => absurd c (by decide)⟩
  have i11 : tw_I σ11 m 2 = 0 := by rw [e11, tw_I_sA]; exact h2
  rw [i11]
  refine ⟨by unfold vp_in; decide, fun σ13 e13 σ14 e14 => ?_⟩
  refine hQ σ11 σ13 σ14 _ _ _ e11 e13 e14 ?_ ?_ ?_
  · rw [e14, tw_I_sI, if_pos rfl, if_pos rfl, e13, tw_I_sB, i11]; rfl
  · rw [e14, tw_A_sI, e13, tw_A_sB, e11, tw_A_sA, if_pos rfl, r]
    exact pk_us
  · rw [e14, tw_B_sI, e13, tw_B_sB, if_pos rfl]
    show (if (0 : Nat) = 0 then _ else _) = (32768 : Int64)
    rw [if_pos rfl]
    decide
theorem x_meet {a1 a2 : Nat} (T1 : o_T g a1 σ) (T2 : o_T g a2 σ) (d14 : tw_R g a1 4 ≠ tw_R g m 1) (d15 : tw_R g a1 5 ≠ tw_R g m 1) (d24 : tw_R g a2 4 ≠ tw_R g m 1) (d25 : tw_R g a2 5 ≠ tw_R g m 1) {x : Int32} {Q : Int32 → tw_S → Prop} (hQ : ∀ σ2, Q (-1) σ2) : wp_X4_firstWord g σ m a1 a2 x Q := by
  unfold wp_X4_firstWord
  refine wf_fill g σ _ 704 _ _ (by decide) ?_
  intro σ2 e2
  have sI : ∀ {a σ v}, o_T g a σ → o_T g a (tw_sI σ m 2 v) := fun {a σ v} h => ⟨by rw [tw_I_sI, if_neg (show ¬ (14 : Nat) = 2 by decide)]; have := h.1; simp [this], h.2.1, h.2.2.1, h.2.2.2⟩
  have sB : ∀ {a σ r v}, o_T g a σ → o_T g a (tw_sB σ r v) := fun {a σ r v} h => h
  have U1 : o_T g a1 σ2 := by rw [e2]; exact sI (oT_sA T1 d14 d15)
  have U2 : o_T g a2 σ2 := by rw [e2]; exact sI (oT_sA T2 d24 d25)
  refine x_meet1 ?_ ?_ fun σ11 σ13 σ14 f h v e11 e13 e14 i2 r1 b0 => ⟨2, ?_⟩
  · rw [e2, tw_I_sI, if_pos rfl, if_pos rfl]
  · rw [e2, tw_A_sI, tw_A_sA, if_pos rfl]; rfl
  · have V1 : o_T g a1 σ14 := by rw [e14, e13, e11]; exact sI (sB (oT_sA U1 d14 d15))
    have V2 : o_T g a2 σ14 := by rw [e14, e13, e11]; exact sI (sB (oT_sA U2 d24 d25))
    have b0 : tw_B σ14 (tw_R g m 0) (0 : Int32).toNatClampNeg = 32768 := b0
    rw [wl_X4_firstWord_23, i2, b0]
    refine ⟨fun c => absurd c (by decide), fun _ => ⟨fun c => absurd c (by decide), fun _ => ⟨by unfold vp_in; decide, fun z7 e7 => ⟨by unfold vp_in; decide, fun z9 e9 z10 e10 => ?_⟩⟩⟩⟩
    have e7 : z7 = 0 := by rw [e7]; decide
    subst e7
    have e10 : z10 = 0 := by rw [e10]; decide
    subst e10
    have ed : (0 : Int32) / 150 = 0 := by decide
    rw [ed]
    refine x_isGood V1 (x_isGood V2 (x_fits ⟨fun _ => ?_, fun c => absurd rfl c⟩))
    refine x_onext (i := 0) V1 (by decide) (x_onext (i := 0) V2 (by decide) (x_lengthen fun r => x_meet2 i2 r1 ?_))
    refine x_onext (i := 1) V1 (by decide) (x_onext (i := 1) V2 (by decide) (x_lengthen fun r => x_meet2 i2 r1 ?_))
    rw [wl_X4_firstWord_23, i2]
    exact ⟨fun _ => hQ _, fun c => absurd (by decide) c⟩
end X5
