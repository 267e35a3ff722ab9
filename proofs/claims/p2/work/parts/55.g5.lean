/-! ===== the class in general: one-ways ===== -/
section G5
variable {g : tw_G} {P : g_P} {σ σ2 : tw_S} {a b y c k : Nat}
theorem x_hs {x : Int32} {Q : Int32 → tw_S → Prop} (h0 : Q 0 σ) (h1 : ¬ x < 0 → ¬ (150 : Int32) ≤ x → Q 1 σ) : wp_X5_hasState g σ a x Q := ⟨fun _ => h0, fun c1 => ⟨fun _ => h0, fun _ => ⟨fun _ => h0, fun c3 => h1 c1 c3⟩⟩⟩
theorem xg_firstOff {x : Int32} {Q : Int32 → tw_S → Prop} (hQ : ∀ r, Q r σ) : wp_X5_firstOff g σ a x Q := x_hs ⟨fun _ => hQ _, fun c => absurd rfl c⟩ (fun c1 c2 => ⟨fun _ => hQ _, fun _ => ⟨v_5 c1 c2, hQ _⟩⟩)
theorem xg_comesBack {x z : Int32} {Q : Int32 → tw_S → Prop} (hQ : ∀ r, Q r σ) : wp_X5_comesBack g σ a x z Q := by
  unfold wp_X5_comesBack
  refine x_hs ⟨fun _ => ⟨fun _ => hQ _, fun c => absurd rfl c⟩, fun c => absurd rfl c⟩ (fun c1 c2 => ⟨fun c => absurd c (by decide), fun _ => ⟨fun _ => ⟨fun _ => hQ _, fun c => absurd rfl c⟩, fun c3 => ⟨fun _ => ⟨fun _ => hQ _, fun c => absurd rfl c⟩, fun c4 => ⟨fun c => absurd c (by decide), fun _ => ⟨v_51 c1 c2 c3 c4, hQ _⟩⟩⟩⟩⟩)
theorem xg_goOff (hX : XI g P σ) (ha : tw_is g 5 a) {x z w : Int32} {Q : Int32 → tw_S → Prop} (hQ : ∀ r, Q r σ) : wp_X5_goOff g σ a x z w Q := by
  have k0 : tw_is g 3 (tw_R g a 0) := kd hX ha (d := 3) (n := 0) (by decide)
  unfold wp_X5_goOff
  refine cu3 4 (by decide) (fun _ s => s = σ) (fun n u x s hx e ih => ?_) w 0 σ ⟨by decide, by decide⟩ rfl
  subst e
  rw [wl_X5_goOff_6]
  refine ⟨fun _ => hQ _, fun c => ⟨fun _ => hQ _, fun _ => xg_at hX k0 fun r4 => ⟨fun _ => xg_sideOf fun r7 => ⟨fun _ => xg_stateOf fun r10 => xg_comesBack fun r12 => ih _ _ (i_l rfl c) rfl, fun _ => xg_stateOf fun r => hQ _⟩, fun _ => hQ _⟩⟩⟩
theorem xg_findBehind (hX : XI g P σ) (ha : tw_is g 5 a) {x z : Int32} {Q : tw_S → Prop} (hQ : ∀ s, XI g P s → Q s) : wp_X5_findBehind g σ a x z Q := by
  unfold wp_X5_findBehind
  have L : ∀ s, XI g P s → ∃ n, wl_X5_findBehind_28 g a x z Q (fun s => Q s) n (1 : Int32) s := by
    intro s h
    refine cu2 5 (by decide) (XI g P) (fun n w s hx hX ih => ?_) 1 s ⟨by decide, by decide⟩ h
    rw [wl_X5_findBehind_28]
    exact ⟨fun _ => hQ _ hX, fun c => xg_goOff hX ha fun r => ⟨v_l (by decide) hx c, x_st (xi_Aq hX ha rfl) fun s11 _ h11 => ih s11 (i_l rfl c) h11⟩⟩
  exact ⟨fun _ => xg_firstOff fun r3 => xg_goOff hX ha fun r5 => x_st (xi_Aq hX ha rfl) fun s6 _ h6 => L _ h6, fun _ => xg_goOff hX ha fun r5 => x_st (xi_Aq hX ha rfl) fun s6 _ h6 => L _ h6⟩
theorem xg_codeOfFound {Q : Int32 → tw_S → Prop} (hQ : ∀ r, Q r σ) : wp_X5_codeOfFound g σ a Q := by
  unfold wp_X5_codeOfFound
  refine cu3 5 (by decide) (fun _ s => s = σ) (fun n u x s hx e ih => ?_) 0 0 σ ⟨by decide, by decide⟩ rfl
  subst e
  rw [wl_X5_codeOfFound_4]
  exact ⟨fun _ => hQ _, fun c => ⟨v_l (by decide) hx c, fun z _ => ih _ _ (i_l rfl c) rfl⟩⟩
theorem xg_addFound (hX : XI g P σ) (ha : tw_is g 5 a) {x : Int32} {Q : tw_S → Prop} (hQ : ∀ s, XI g P s → Q s) : wp_X5_addFound g σ a x Q := by
  unfold wp_X5_addFound
  refine x_st (xi_I hX ha rfl) fun s1 _ h1 => x_hs ⟨fun _ => hQ _ h1, fun c => absurd rfl c⟩ (fun c1 c2 => ⟨fun c => absurd c (by decide), fun _ => ?_⟩)
  have v : vp_in (tw_I σ a 14) 150 := v_g (by decide) c1 c2
  obtain ⟨j, hj, e⟩ := i_of (N := 150) (by decide) c1 c2
  have e5 : (5 : Int32) * tw_I σ a 14 = nI (5 * j) := by rw [e]; exact pk_mul 5 j
  refine ⟨?_, ?_, x_st (xi_Aq h1 ha rfl) fun s7 _ h7 => ⟨v, x_st (xi_Aq h7 ha rfl) fun s9 _ h9 => hQ _ h9⟩⟩
  · rw [e5]; exact nI_pos (by omega)
  · rw [e5, nI_clamp (by omega)]
    have e55 : (5 : Int32).toNatClampNeg = 5 := rfl
    rw [e55]
    omega
theorem x_numberOfFound (hX : XI g P σ) (ha : tw_is g 5 a) {x : Int32} {Q : Int32 → tw_S → Prop} (hQ : ∀ r s, inI r (-1) 149 → XI g P s → Q r s) : wp_X5_numberOfFound g σ a x Q := by
  unfold wp_X5_numberOfFound
  have m1 : inI (-1 : Int32) (-1) 149 := ⟨by decide, by decide⟩
  refine xg_codeOfFound fun r2 => ⟨fun _ => hQ _ _ m1 hX, fun c1 => ⟨fun c2 => ?_, fun _ => hQ _ _ m1 hX⟩⟩
  have v : vp_in r2 3125 := by
    rw [i_lt] at c1 c2
    have := e_0; have := e_3125
    exact vp_in_iff.mpr ⟨by omega, by show _ < ((3125 : Nat) : Int); omega⟩
  refine ⟨v, fun _ => ⟨v, hQ _ _ (hX.2.2.2.2.2.2.1 a ha _) hX⟩, fun _ => ⟨fun _ => x_st (xi_513o hX ha) fun s _ h => hQ _ _ m1 h, fun c3 => ⟨fun c4 => ⟨v, fun s12 e12 => ?_⟩, fun _ => x_st (xi_513o hX ha) fun s _ h => hQ _ _ m1 h⟩⟩⟩
  have h12 : XI g P s12 := by
    rw [e12]
    refine xi_A5 hX ha (Or.inl rfl) (fun i => ?_)
    unfold upd
    split
    · rw [i_lt] at c3 c4
      have := e_0; have := e_150
      exact ⟨by omega, by omega⟩
    · exact hX.2.2.2.2.2.2.1 a ha i
  exact xg_addFound h12 ha fun s13 h13 => ⟨v, hQ _ _ (h13.2.2.2.2.2.2.1 a ha _) h13⟩
theorem xg_markGoods (hX : XI g P σ) (ha : tw_is g 5 a) {Q : tw_S → Prop} (hQ : ∀ s, XI g P s → Q s) : wp_X5_markGoods g σ a Q := by
  unfold wp_X5_markGoods
  refine cu2 150 (by decide) (XI g P) (fun n w s hx hX ih => ?_) 0 σ ⟨by decide, by decide⟩ hX
  rw [wl_X5_markGoods_2]
  exact ⟨fun _ => hQ _ hX, fun _ => ⟨fun _ => hQ _ hX, fun c => xg_firstOff fun r4 => xg_goOff hX ha fun r6 => ⟨fun _ => ⟨v_l (by decide) hx c, x_st (xi_Aq hX ha rfl) fun s9 _ h9 => ih s9 (i_l rfl c) h9⟩, fun _ => ⟨v_l (by decide) hx c, x_st (xi_Aq hX ha rfl) fun s9 _ h9 => ih s9 (i_l rfl c) h9⟩⟩⟩⟩
theorem x_make93 (hX : XI g P σ) (ha : tw_is g 5 a) {x : Int32} (hx0 : ¬ x < 0) (hx1 : ¬ (150 : Int32) ≤ x) {Q K : tw_S → Prop} (hK : ∀ s, XI g P s → K s) : ∃ n, wl_X5_make_93 g a x Q K n 0 σ := by
  refine cu2 2 (by decide) (XI g P) (fun n w s hx hX ih => ?_) 0 σ ⟨by decide, by decide⟩ hX
  rw [wl_X5_make_93]
  refine ⟨fun _ => hK _ hX, fun c => xg_findBehind hX ha fun s15 h15 => ⟨v_g (by decide) hx0 hx1, xg_lengthen fun r18 => x_numberOfFound h15 ha fun r20 s19 hr h19 => ⟨v_2 hx0 hx1 (i_n0 hx) c, x_st (xi_A5 h19 ha (Or.inr rfl) (fun i => ?_)) fun s22 _ h22 => ih s22 (i_l rfl c) h22⟩⟩⟩
  unfold upd
  split
  · exact hr
  · exact h19.2.2.2.2.2.2.2.1 a ha i
theorem x_make69 (hX : XI g P σ) (ha : tw_is g 5 a) {Q K : tw_S → Prop} (hK : ∀ s, XI g P s → K s) : ∃ n, wl_X5_make_69 g a Q K n 0 σ := by
  refine cu2 150 (by decide) (XI g P) (fun n w s hx hX ih => ?_) 0 σ ⟨by decide, by decide⟩ hX
  rw [wl_X5_make_69]
  exact ⟨fun _ => hK _ hX, fun _ => ⟨fun _ => hK _ hX, fun c => ⟨fun _ => hK _ hX, fun _ => x_make93 hX ha (i_n0 hx) c fun s23 h23 => ih s23 (i_l rfl c) h23⟩⟩⟩
theorem xg_make (hX : XI g P σ) (ha : tw_is g 5 a) (hb : tw_is g 3 b) {Q : tw_S → Prop} (hQ : ∀ s, XI g P s → Q s) : wp_X5_make g σ a b Q := by
  have k0 : tw_is g 3 (tw_R g a 0) := kd hX ha (d := 3) (n := 0) (by decide)
  have f3 : ∀ {s : tw_S} {K : tw_S → Prop}, XI g P s → (∀ s, XI g P s → K s) → wp_J7_fill_53178 g s (tw_R g a 3) 3125 (-1 : Int32) K := fun {s K} h hK => by
    refine wf_fill g s _ 3125 _ _ (by decide) (hK _ (xi_A5 h ha (Or.inl rfl) (fun i => ?_)))
    split
    · exact ⟨by decide, by decide⟩
    · exact h.2.2.2.2.2.2.1 a ha i
  have B : ∀ s, XI g P s → wp_X3_become g s (tw_R g a 0) b (fun σ2 => ∀ σ3, σ3 = (tw_sI σ2 a 12 (1 : Int32)) → ∀ σ4, σ4 = (tw_sI σ3 a 13 (0 : Int32)) → ∀ σ5, σ5 = (tw_sI σ4 a 14 (0 : Int32)) → ∀ σ6, σ6 = (tw_sI σ5 a 15 (0 : Int32)) → wp_J7_fill_53178 g σ6 (tw_R g a 3) 3125 (-1 : Int32) (fun σ7 => wp_X5_findBehind g σ7 a (-1 : Int32) (2 : Int32) (fun σ8 => wp_X5_numberOfFound g σ8 a (1 : Int32) (fun r10 σ9 => ∃ n69, wl_X5_make_69 g a Q (fun σ24 => wp_X5_markGoods g σ24 a (fun σ25 => Q σ25)) n69 (0 : Int32) σ9)))) := fun s h => xg_become h k0 hb fun s2 h2 => x_st (xi_I h2 ha rfl) fun s3 _ h3 => x_st (xi_513z h3 ha) fun s4 _ h4 => x_st (xi_I h4 ha rfl) fun s5 _ h5 => x_st (xi_I h5 ha rfl) fun s6 _ h6 => f3 h6 fun s7 h7 => xg_findBehind h7 ha fun s8 h8 => x_numberOfFound h8 ha fun r s9 _ h9 => x_make69 h9 ha fun s24 h24 => xg_markGoods h24 ha hQ
  unfold wp_X5_make
  exact ⟨fun _ => B _ hX, fun _ => xg_isLike fun r => ⟨fun _ => B _ hX, fun _ => hQ _ hX⟩⟩
theorem x_isTooMany (hX : XI g P σ) (ha : tw_is g 5 a) {Q : Int32 → tw_S → Prop} (hQ : ∀ r, Q r σ) : wp_X5_isTooMany g σ a Q := by
  unfold wp_X5_isTooMany
  have h := hX.2.2.2.1 a ha
  obtain ⟨j, _, hj, e, _⟩ := inI_nI (lo := 0) (hi := 1) h
  have hj2 : j = 0 ∨ j = 1 := by omega
  refine ⟨?_, hQ _⟩
  rw [e]
  rcases hj2 with rfl | rfl
  · exact rfl
  · exact rfl
theorem xg_isTooMany (hX : XI g P σ) (ha : tw_is g 5 a) {Q : Int32 → tw_S → Prop} (hQ : ∀ r, Q r σ) : wp_X5_isTooMany g σ a Q := x_isTooMany hX ha hQ
theorem xg_osize {Q : Int32 → tw_S → Prop} (hQ : ∀ r, Q r σ) : wp_X5_size g σ a Q := hQ _
theorem xg_ohasState {x : Int32} {Q : Int32 → tw_S → Prop} (hQ : ∀ r, Q r σ) : wp_X5_hasState g σ a x Q := x_hs (hQ _) (fun _ _ => hQ _)
theorem x_next (hX : XI g P σ) (ha : tw_is g 5 a) {x z : Int32} {Q : Int32 → tw_S → Prop} (hQ : ∀ r, inI r (-1) 149 → Q r σ) : wp_X5_next g σ a x z Q := by
  unfold wp_X5_next
  have m1 : inI (-1 : Int32) (-1) 149 := ⟨by decide, by decide⟩
  exact x_hs ⟨fun _ => hQ _ m1, fun c => absurd rfl c⟩ (fun c1 c2 => ⟨fun c => absurd c (by decide), fun _ => ⟨fun _ => hQ _ m1, fun c3 => ⟨fun _ => hQ _ m1, fun c4 => ⟨v_2 c1 c2 c3 c4, hQ _ (hX.2.2.2.2.2.2.2.1 a ha _)⟩⟩⟩⟩)
theorem xg_next (hX : XI g P σ) (ha : tw_is g 5 a) {x z : Int32} {Q : Int32 → tw_S → Prop} (hQ : ∀ r, Q r σ) : wp_X5_next g σ a x z Q := x_next hX ha (fun r _ => hQ r)
theorem xg_isGood {x : Int32} {Q : Int32 → tw_S → Prop} (hQ : ∀ r, Q r σ) : wp_X5_isGood g σ a x Q := x_hs ⟨fun _ => hQ _, fun c => absurd rfl c⟩ (fun c1 c2 => ⟨fun _ => hQ _, fun _ => ⟨v_g (by decide) c1 c2, fun _ => hQ _, fun _ => hQ _⟩⟩)
theorem xg_firstWord {x : Int32} {Q : Int32 → tw_S → Prop} (hQ : ∀ r, Q r σ) : wp_X5_firstWord g σ a x Q := by
  unfold wp_X5_firstWord
  refine cu2 150 (by decide) (fun s => s = σ) (fun n w s hx e ih => ?_) 0 σ ⟨by decide, by decide⟩ rfl
  subst e
  rw [wl_X5_firstWord_2]
  exact ⟨fun _ => hQ _, fun _ => ⟨fun _ => hQ _, fun c => ⟨v_l (by decide) hx c, fun _ => ih _ (i_l rfl c) rfl, fun _ => ⟨v_l (by decide) hx c, hQ _⟩⟩⟩⟩
theorem x_more27 (hX : XI g P σ) (ha : tw_is g 5 a) {x : Int32} (hx0 : ¬ x < 0) (hx1 : ¬ (150 : Int32) ≤ x) {Q K : tw_S → Prop} (hK : ∀ s, XI g P s → K s) : ∃ n, wl_X5_countOneLetterMore_27 g a x Q K n 0 σ := by
  refine cu2 2 (by decide) (XI g P) (fun n w s hx hX ih => ?_) 0 σ ⟨by decide, by decide⟩ hX
  rw [wl_X5_countOneLetterMore_27]
  exact ⟨fun _ => hK _ hX, fun c => xg_next hX ha fun r6 => x_hs ⟨fun _ => ih _ (i_l rfl c) hX, fun c => absurd rfl c⟩ (fun c1 c2 => ⟨fun c => absurd c (by decide), fun _ => ⟨v_g (by decide) c1 c2, v_g (by decide) hx0 hx1, v_g (by decide) c1 c2, x_st (xi_Aq hX ha rfl) fun s13 _ h13 => ih _ (i_l rfl c) h13⟩⟩)⟩
theorem xg_more (hX : XI g P σ) (ha : tw_is g 5 a) {Q : tw_S → Prop} (hQ : ∀ s, XI g P s → Q s) : wp_X5_countOneLetterMore g σ a Q := by
  unfold wp_X5_countOneLetterMore
  refine x_fill hX ha (d := 10) (n := 150) (by decide) rfl (by decide) fun s1 h1 => ?_
  refine cu2 150 (by decide) (XI g P) (fun n w s hx hX ih => ?_) 0 s1 ⟨by decide, by decide⟩ h1
  rw [wl_X5_countOneLetterMore_10]
  have E : ∀ σ16, σ16 = (tw_sA s (tw_R g a 10) (va_cpy (tw_A s (tw_R g a 11)) (tw_A s (tw_R g a 10)) (0 : Int32).toNatClampNeg (0 : Int32).toNatClampNeg (150 : Int32).toNatClampNeg)) → Q σ16 := x_st (xi_Aq hX ha rfl) fun s16 _ h16 => hQ _ h16
  exact ⟨fun _ => E, fun _ => ⟨fun _ => E, fun c => x_more27 hX ha (i_n0 hx) c fun s14 h14 => ih _ (i_l rfl c) h14⟩⟩
theorem xg_countWords (hX : XI g P σ) (ha : tw_is g 5 a) {x : Int32} (hx : x.toInt ≤ 24) {Q : Int32 → tw_S → Prop} (hQ : ∀ r s, XI g P s → Q r s) : wp_X5_countWords g σ a x Q := by
  unfold wp_X5_countWords
  refine x_fill hX ha (d := 10) (n := 150) (by decide) rfl (by decide) fun s1 h1 => x_st (xi_Aq h1 ha rfl) fun s2 _ h2 => ?_
  have L : ∀ s, XI g P s → ∃ n, wl_X5_countWords_36 g a Q (fun v s => Q v s) n (0 : Int32) (0 : Int32) s := by
    intro s h
    refine cu3 150 (by decide) (fun _ s => XI g P s) (fun n u w s hw hX ih => ?_) 0 0 s ⟨by decide, by decide⟩ h
    rw [wl_X5_countWords_36]
    exact ⟨fun _ => hQ _ _ hX, fun _ => ⟨fun _ => hQ _ _ hX, fun c => ⟨v_l (by decide) hw c, fun _ => ih _ _ (i_l rfl c) hX, fun _ => ⟨v_l (by decide) hw c, fun z _ => ih _ _ (i_l rfl c) hX⟩⟩⟩⟩
  refine cu2 24 (by decide) (XI g P) (fun n w s hw hX ih => ?_) 0 s2 ⟨by decide, by decide⟩ h2
  rw [wl_X5_countWords_17]
  refine ⟨fun _ => L _ hX, fun c => xg_more hX ha fun s4 h4 => ih _ ?_ h4⟩
  rw [i_le] at c
  show _ < ((24 : Nat) : Int)
  omega
theorem xg_byGood (hX : XI g P σ) (ha : tw_is g 5 a) {Q : tw_S → Prop} (hQ : ∀ s, XI g P s → Q s) : wp_X5_groupByGoodness g σ a Q := by
  unfold wp_X5_groupByGoodness
  refine cu2 150 (by decide) (XI g P) (fun n w s hx hX ih => ?_) 0 σ ⟨by decide, by decide⟩ hX
  rw [wl_X5_groupByGoodness_2]
  exact ⟨fun _ => hQ _ hX, fun _ => ⟨fun _ => hQ _ hX, fun c => ⟨v_l (by decide) hx c, fun _ => ⟨v_l (by decide) hx c, x_st (xi_Aq hX ha rfl) fun s9 _ h9 => ih s9 (i_l rfl c) h9⟩, fun _ => ⟨v_l (by decide) hx c, x_st (xi_Aq hX ha rfl) fun s9 _ h9 => ih s9 (i_l rfl c) h9⟩⟩⟩⟩
theorem xg_groupOf {x : Int32} {Q : Int32 → tw_S → Prop} (hQ : ∀ r, Q r σ) : wp_X5_groupOf g σ a x Q := x_hs ⟨fun _ => hQ _, fun c => absurd rfl c⟩ (fun c1 c2 => ⟨fun _ => hQ _, fun _ => ⟨v_g (by decide) c1 c2, hQ _⟩⟩)
theorem xg_goTogether (hX : XI g P σ) (ha : tw_is g 5 a) {x z : Int32} {Q : Int32 → tw_S → Prop} (hQ : ∀ r, Q r σ) : wp_X5_goTogether g σ a x z Q := by
  unfold wp_X5_goTogether
  exact xg_groupOf fun r2 => xg_groupOf fun r4 => ⟨fun _ => hQ _, fun _ => xg_next hX ha fun r7 => xg_groupOf fun r9 => xg_next hX ha fun r11 => xg_groupOf fun r13 => ⟨fun _ => hQ _, fun _ => xg_next hX ha fun r16 => xg_groupOf fun r18 => xg_next hX ha fun r20 => xg_groupOf fun r22 => ⟨fun _ => hQ _, fun _ => hQ _⟩⟩⟩
theorem x_groupAmong (hX : XI g P σ) (ha : tw_is g 5 a) {x z : Int32} {Q : Int32 → tw_S → Prop} (hQ : ∀ r, Q r σ) : wp_X5_groupAmong g σ a x z Q := by
  unfold wp_X5_groupAmong
  refine cu2 150 (by decide) (fun s => s = σ) (fun n w s hx e ih => ?_) 0 σ ⟨by decide, by decide⟩ rfl
  subst e
  rw [wl_X5_groupAmong_2]
  exact ⟨fun _ => hQ _, fun _ => ⟨fun _ => hQ _, fun c => ⟨v_l (by decide) hx c, xg_goTogether hX ha fun r5 => ⟨fun _ => ih _ (i_l rfl c) rfl, fun _ => hQ _⟩⟩⟩⟩
theorem xg_split (hX : XI g P σ) (ha : tw_is g 5 a) {Q : Int32 → tw_S → Prop} (hQ : ∀ r s, XI g P s → Q r s) : wp_X5_splitGroups g σ a Q := by
  unfold wp_X5_splitGroups
  refine cu3 150 (by decide) (fun u s => inI u 0 150 ∧ XI g P s) (fun n u w s hw hI ih => ?_) 0 0 σ ⟨by decide, by decide⟩ ⟨⟨by decide, by decide⟩, hX⟩
  obtain ⟨hu, hX⟩ := hI
  rw [wl_X5_splitGroups_4]
  have E : ∀ σ17, σ17 = (tw_sA s (tw_R g a 7) (va_cpy (tw_A s (tw_R g a 8)) (tw_A s (tw_R g a 7)) (0 : Int32).toNatClampNeg (0 : Int32).toNatClampNeg (150 : Int32).toNatClampNeg)) → Q u σ17 := x_st (xi_Aq hX ha rfl) fun s16 _ h16 => hQ _ _ h16
  refine ⟨fun _ => E, fun _ => ⟨fun _ => E, fun c => x_groupAmong hX ha fun r4 => ⟨fun _ => ⟨v_l (by decide) hw c, x_st (xi_Aq hX ha rfl) fun s7 _ h7 => ih _ _ (i_l rfl c) ⟨hu, h7⟩⟩, fun _ => ⟨fun _ => ⟨v_l (by decide) hw c, x_st (xi_Aq hX ha rfl) fun s7 _ h7 => ih _ _ (i_l rfl c) ⟨hu, h7⟩⟩, fun c2 => ⟨v_l (by decide) hu c2, x_st (xi_Aq hX ha rfl) fun s12 _ h12 => ⟨v_l (by decide) hw c, x_st (xi_Aq h12 ha rfl) fun s14 _ h14 => ih _ _ (i_l rfl c) ⟨(i_inc (N := 150) (by decide) hu (i_l rfl c2)).1, h14⟩⟩⟩⟩⟩⟩⟩
theorem xg_leastSize (hX : XI g P σ) (ha : tw_is g 5 a) {Q : Int32 → tw_S → Prop} (hQ : ∀ r s, XI g P s → Q r s) : wp_X5_leastSize g σ a Q := by
  unfold wp_X5_leastSize
  refine ⟨fun _ => hQ _ _ hX, fun _ => xg_byGood hX ha fun s2 h2 => ?_⟩
  refine cu2 151 (by decide) (XI g P) (fun n w s hx hX ih => ?_) 0 s2 ⟨by decide, by decide⟩ h2
  rw [wl_X5_leastSize_13]
  exact ⟨fun _ => hQ _ _ hX, fun c => xg_split hX ha fun r5 s4 h4 => ⟨fun _ => x_st (xi_I h4 ha rfl) fun s7 _ h7 => ih _ (i_l2 rfl c) h7, fun _ => hQ _ _ h4⟩⟩
end G5
