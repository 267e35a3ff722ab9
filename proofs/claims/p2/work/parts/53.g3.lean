/-! ===== the class in general: the text ===== -/
section G3
variable {g : tw_G} {P : g_P} {σ σ2 : tw_S} {a b y c k : Nat}
theorem x_up (hX : XI g P σ) (ha : tw_is g 6 a) {Q : Int32 → tw_S → Prop} (hQ : ∀ r s, XI g P s → (r = -1 ∨ (tw_I s a 2).toInt < 240) → Q r s) : wp_X6_upcoming g σ a Q := by
  unfold wp_X6_upcoming
  refine cu1 (XI g P) (fun s => (240 - (tw_I s a 2).toInt).toNat) (fun n s hX ih => ?_) σ hX
  have hp := hX.2.2.2.2.1 a ha
  have K : ((tw_I s a 1 ≤ tw_I s a 2) → Q (-1 : Int32) s) ∧ (¬ (tw_I s a 1 ≤ tw_I s a 2) → (((240 : Int32) ≤ tw_I s a 2) → Q (-1 : Int32) s) ∧ (¬ ((240 : Int32) ≤ tw_I s a 2) → vp_in (tw_I s a 2) 240 ∧ Q (tw_A s (tw_R g a 0) (tw_I s a 2).toNatClampNeg) s)) :=
    ⟨fun _ => hQ _ _ hX (Or.inl rfl), fun _ => ⟨fun _ => hQ _ _ hX (Or.inl rfl), fun c => ⟨v_l (by decide) hp c, hQ _ _ hX (Or.inr (i_l rfl c))⟩⟩⟩
  rw [wl_X6_upcoming_0]
  refine ⟨fun _ => K, fun _ => ⟨fun _ => K, fun c => ⟨v_l (by decide) hp c, fun _ => K, fun _ s5 e5 => ih s5 ?_ ?_⟩⟩⟩
  · rw [e5]
    exact xi_62 hX ha (i_inc (N := 240) (by decide) hp (i_l rfl c)).1
  · have e : tw_I s5 a 2 = tw_I s a 2 + 1 := by rw [e5, tw_I_sI, if_pos rfl, if_pos rfl]
    have l : (tw_I s a 2).toInt < 240 := i_l rfl c
    show (240 - (tw_I s5 a 2).toInt).toNat < (240 - (tw_I s a 2).toInt).toNat
    rw [e, (i_inc (N := 240) (by decide) hp l).2]
    omega
theorem x_blame (hX : XI g P σ) (ha : tw_is g 6 a) {x : Int32} {Q : tw_S → Prop} (hQ : ∀ s, XI g P s → tw_I s a 2 = tw_I σ a 2 → Q s) : wp_X6_blame g σ a x Q := by
  unfold wp_X6_blame
  refine ⟨fun _ => hQ _ hX rfl, fun _ s e => hQ s (e ▸ xi_I hX ha rfl) ?_⟩
  rw [e, tw_I_sI, if_pos rfl, if_neg (by decide)]
theorem x_passIf (hX : XI g P σ) (ha : tw_is g 6 a) {x : Int32} (hp : x = 0 ∨ (tw_I σ a 2).toInt < 240) {Q : tw_S → Prop} (hQ : ∀ s, XI g P s → Q s) : wp_X6_passIf g σ a x Q := by
  unfold wp_X6_passIf wp_X6_blame
  refine ⟨fun c1 => ⟨fun _ => hQ _ hX, fun _ s e => hQ s ?_⟩, fun _ => ⟨fun c => ⟨fun _ => hQ _ hX, fun c2 => absurd c2 c⟩, fun c s2 e2 => ⟨fun _ => hQ s2 (e2 ▸ xi_I hX ha rfl), fun c2 => ?_⟩⟩⟩
  · rw [e]
    exact xi_62 hX ha (i_inc (N := 240) (by decide) (hX.2.2.2.2.1 a ha) (hp.resolve_left c1)).1
  · rw [e2, tw_I_sI, if_pos rfl, if_pos rfl] at c2
    exact absurd c2 (by decide)
theorem x_takeLetter (hX : XI g P σ) (ha : tw_is g 6 a) {x : Int32} (hx : ¬ x = -1) {Q : tw_S → Prop} (hQ : ∀ s, XI g P s → Q s) : wp_X6_takeLetter g σ a x Q := by
  unfold wp_X6_takeLetter
  refine x_up hX ha (fun r s h hp => ⟨fun _ => x_passIf h ha (Or.inl rfl) hQ, fun c => x_passIf h ha (Or.inr (hp.resolve_left (fun e => hx (c.symm.trans e)))) hQ⟩)
theorem x_takeFigure (hX : XI g P σ) (ha : tw_is g 6 a) {x z : Int32} {Q : Int32 → tw_S → Prop} (hQ : ∀ r s, XI g P s → Q r s) : wp_X6_takeFigure g σ a x z Q := by
  unfold wp_X6_takeFigure
  refine x_up hX ha (fun r s h hp => ?_)
  by_cases hr : r = -1
  · subst hr
    exact ⟨fun _ => ⟨fun _ => x_passIf h ha (Or.inl rfl) (hQ _), fun c => absurd rfl c⟩, fun c => absurd (by decide) c⟩
  · have hp := hp.resolve_left hr
    have pp : ∀ {s2 : tw_S} {x : Int32} {K : tw_S → Prop}, XI g P s2 → tw_I s2 a 2 = tw_I s a 2 → (∀ s, XI g P s → K s) → wp_X6_passIf g s2 a x K := fun h2 e hK => x_passIf h2 ha (Or.inr (by rw [e]; exact hp)) hK
    have pb : ∀ {x : Int32} {K : tw_S → Prop}, (∀ s2, XI g P s2 → tw_I s2 a 2 = tw_I s a 2 → K s2) → wp_X6_blame g s a x K := fun hK => x_blame h ha hK
    repeat' (first | assumption | exact rfl | (with_reducible apply hQ) | (with_reducible apply pp) | (with_reducible apply pb) | (with_reducible apply And.intro) | (intro _))
theorem x_signOf {x : Int32} {Q : Int32 → tw_S → Prop} (hQ : ∀ r, (x = -1 → r = -1) → Q r σ) : wp_X6_signOf g σ x Q := by
  unfold wp_X6_signOf
  refine ⟨fun c => hQ _ (fun e => ?_), fun _ => ⟨fun c => hQ _ (fun e => ?_), fun _ => ⟨fun c => hQ _ (fun e => ?_), fun _ => ⟨fun c => hQ _ (fun e => ?_), fun _ => hQ _ (fun _ => rfl)⟩⟩⟩⟩ <;> exact absurd (c.symm.trans e) (by decide)
theorem x_takeSign (hX : XI g P σ) (ha : tw_is g 6 a) (hb : tw_is g 3 b) {x : Int32} {Q : Int32 → tw_S → Prop} (hQ : ∀ r s, XI g P s → Q r s) : wp_X6_takeSign g σ a b x Q := by
  unfold wp_X6_takeSign
  refine x_up hX ha (fun r s h hp => x_signOf (fun r4 h4 => xg_at h hb (fun r6 => ?_)))
  have hp2 : ∀ s2, tw_I s2 a 2 = tw_I s a 2 → ¬ r4 = -1 → (1 : Int32) = 0 ∨ (tw_I s2 a 2).toInt < 240 := fun s2 e c => Or.inr (by rw [e]; exact hp.resolve_left (fun e => c (h4 e)))
  exact ⟨fun _ => ⟨fun _ => x_passIf h ha (Or.inl rfl) (hQ _), fun c => x_passIf h ha (hp2 _ rfl c) (hQ _)⟩, fun _ => x_blame h ha (fun s2 h2 e2 => ⟨fun _ => x_passIf h2 ha (Or.inl rfl) (hQ _), fun c => x_passIf h2 ha (hp2 _ e2 c) (hQ _)⟩)⟩
theorem x_takeSide (hX : XI g P σ) (ha : tw_is g 6 a) {Q : Int32 → tw_S → Prop} (hQ : ∀ r s, XI g P s → Q r s) : wp_X6_takeSide g σ a Q := by
  unfold wp_X6_takeSide
  refine x_up hX ha (fun r s h hp => ?_)
  have q : ∀ s2, XI g P s2 → ((¬ r = (114 : Int32)) → Q (0 : Int32) s2) ∧ ((r = (114 : Int32)) → Q (1 : Int32) s2) := fun s2 h2 => ⟨fun _ => hQ _ _ h2, fun _ => hQ _ _ h2⟩
  exact ⟨fun c => x_passIf h ha (Or.inr (hp.resolve_left (fun e => absurd (c.symm.trans e) (by decide)))) q, fun _ => ⟨fun _ => x_passIf h ha (Or.inl rfl) q, fun c => x_passIf h ha (Or.inr (hp.resolve_left (fun e => absurd (c.symm.trans e) (by decide)))) q⟩⟩
theorem x_readSize (hX : XI g P σ) (ha : tw_is g 6 a) (hb : tw_is g 3 b) {Q : tw_S → Prop} (hQ : ∀ s, XI g P s → Q s) : wp_X6_readSize g σ a b Q := by
  unfold wp_X6_readSize
  exact x_takeLetter hX ha (by decide) fun s1 h1 => x_takeFigure h1 ha fun r s2 h2 => x_takeLetter h2 ha (by decide) fun s4 h4 => ⟨fun _ => hQ _ h4, fun _ => xg_empty h4 hb hQ⟩
theorem x_readMove (hX : XI g P σ) (ha : tw_is g 6 a) (hb : tw_is g 3 b) {Q : tw_S → Prop} (hQ : ∀ s, XI g P s → Q s) : wp_X6_readMove g σ a b Q := by
  unfold wp_X6_readMove
  refine x_up hX ha (fun r s h _ => ⟨fun _ => ?_, fun _ => x_blame h ha fun s2 h2 _ => ?_⟩)
  · exact x_takeLetter h ha (by decide) fun s1 h1 => xg_size fun r6 => x_takeFigure h1 ha fun r8 s7 h7 => x_takeSign h7 ha hb fun r10 s9 h9 => xg_size fun r12 => x_takeFigure h9 ha fun r14 s13 h13 => x_takeSide h13 ha fun r16 s15 h15 => x_takeLetter h15 ha (by decide) fun s17 h17 => ⟨fun _ => hQ _ h17, fun _ => xg_put h17 hb hQ⟩
  · exact x_takeLetter h2 ha (by decide) fun s1 h1 => xg_size fun r6 => x_takeFigure h1 ha fun r8 s7 h7 => x_takeSign h7 ha hb fun r10 s9 h9 => xg_size fun r12 => x_takeFigure h9 ha fun r14 s13 h13 => x_takeSide h13 ha fun r16 s15 h15 => x_takeLetter h15 ha (by decide) fun s17 h17 => ⟨fun _ => hQ _ h17, fun _ => xg_put h17 hb hQ⟩
theorem x_readInto (hX : XI g P σ) (ha : tw_is g 6 a) (hb : tw_is g 3 b) {Q : Int32 → tw_S → Prop} (hQ : ∀ r s, XI g P s → Q r s) : wp_X6_readInto g σ a b Q := by
  unfold wp_X6_readInto
  have L : ∀ s, XI g P s → ∃ n, wl_X6_readInto_30 g a b Q (fun s13 => Q (tw_I s13 a 3) s13) n (0 : Int32) s := by
    intro s h
    refine cu2 240 (by decide) (XI g P) (fun n x s hx hX ih => ?_) 0 s ⟨by decide, by decide⟩ h
    rw [wl_X6_readInto_30]
    exact ⟨fun _ => hQ _ _ hX, fun c => ⟨fun _ => hQ _ _ hX, fun _ => x_up hX ha fun r s9 h9 _ => ⟨fun _ => hQ _ _ h9, fun _ => x_readMove h9 ha hb fun s12 h12 => ih s12 (i_l rfl c) h12⟩⟩⟩
  refine x_st (xi_62 hX ha ⟨by decide, by decide⟩) fun s1 _ h1 => x_st (xi_I h1 ha rfl) fun s2 _ h2 => ?_
  exact xg_empty h2 hb fun s3 h3 => x_up h3 ha fun r s4 h4 _ => ⟨fun _ => L _ h4, fun _ => x_readSize h4 ha hb fun s14 h14 => L _ h14⟩
/-! the text's length, the word's length, the flags: what changes them -/
theorem xi_61 {v : Int32} (hX : XI g P σ) : XI g (P.1, P.2.1, P.2.2.1, v, P.2.2.2.2) (tw_sI σ P.2.2.1 1 v) := by
  have w := xW hX
  have t := xTx hX
  obtain ⟨h0, h1, h2, h3, h4, h5, h6, h7, h8, h9, h10⟩ := hX
  refine ⟨h0, fun y hy => ?_, fun y hy => ?_, fun y hy => ?_, fun y hy => ?_, fun y hy => ?_, h6, h7, ?_, ?_, h10⟩
  · rw [xs_I t hy (by decide)]; exact h1 y hy
  · rw [xs_I t hy (by decide)]; exact h2 y hy
  · rw [xs_I t hy (by decide)]; exact h3 y hy
  · rw [xs_I t hy (by decide)]; exact h4 y hy
  · rw [xs_I t hy (by decide)]; exact h5 y hy
  · show tw_I (tw_sI σ P.2.2.1 1 v) P.1 1 = P.2.1
    rw [xs_I t w (by decide)]; exact h8
  · show tw_I (tw_sI σ P.2.2.1 1 v) P.2.2.1 1 = v
    rw [tw_I_sI, if_pos rfl, if_pos rfl]
theorem xi_71w {v : Int32} (hX : XI g P σ) (hv : inI v 0 24) : XI g (P.1, v, P.2.2) (tw_sI σ P.1 1 v) := by
  have w := xW hX
  have t := xTx hX
  obtain ⟨h0, h1, h2, h3, h4, h5, h6, h7, h8, h9, h10⟩ := hX
  refine ⟨h0, fun y hy => ?_, fun y hy => ?_, fun y hy => ?_, fun y hy => ?_, fun y hy => ?_, h6, h7, ?_, ?_, h10⟩
  · rw [xs_I w hy (by decide)]; exact h1 y hy
  · rw [tw_I_sI]
    split
    · rw [if_pos rfl]; exact hv
    · exact h2 y hy
  · rw [xs_I w hy (by decide)]; exact h3 y hy
  · rw [xs_I w hy (by decide)]; exact h4 y hy
  · rw [xs_I w hy (by decide)]; exact h5 y hy
  · show tw_I (tw_sI σ P.1 1 v) P.1 1 = v
    rw [tw_I_sI, if_pos rfl, if_pos rfl]
  · show tw_I (tw_sI σ P.1 1 v) P.2.2.1 1 = P.2.2.2.1
    rw [xs_I w t (by decide)]; exact h9
theorem xi_83 {f : Nat → Int32} (hX : XI g P σ) : XI g (P.1, P.2.1, P.2.2.1, P.2.2.2.1, P.2.2.2.2.1, f) (tw_sA σ P.2.2.2.2.1 f) := by
  have hX0 := hX
  obtain ⟨h0, h1, h2, h3, h4, h5, h6, h7, h8, h9, h10⟩ := hX
  obtain ⟨z, hz, e1, e2, e3⟩ := h0.2.2
  refine ⟨h0, h1, h2, h3, h4, h5, fun y hy => ?_, fun y hy => ?_, h8, h9, ?_⟩
  · rw [e3, xs_A hX0 hz (c := 8) (k := 3) (d := 12) (n := 2) (by decide) hy (e := 5) (j := 3) (d2 := 10) (n2 := 3125) (by decide) (by simp)]; exact h6 y hy
  · rw [e3, xs_A hX0 hz (c := 8) (k := 3) (d := 12) (n := 2) (by decide) hy (e := 5) (j := 4) (d2 := 10) (n2 := 300) (by decide) (by simp)]; exact h7 y hy
  · show tw_A (tw_sA σ P.2.2.2.2.1 f) P.2.2.2.2.1 = f
    rw [tw_A_sA, if_pos rfl]
theorem x_tadd (hX : XI g P σ) {x : Int32} {Q : Int32 → tw_S → Prop} (h1 : inI P.2.2.2.1 0 239 → ∀ s, XI g (P.1, P.2.1, P.2.2.1, P.2.2.2.1 + 1, P.2.2.2.2) s → Q 1 s) (h0 : ¬ inI P.2.2.2.1 0 239 → Q 0 σ) : wp_X6_add g σ P.2.2.1 x Q := by
  have t := xTx hX
  have e : tw_I σ P.2.2.1 1 = P.2.2.2.1 := hX.2.2.2.2.2.2.2.2.2.1
  unfold wp_X6_add
  refine ⟨fun c => h0 (fun z => ?_), fun c1 => ⟨fun c2 => ⟨?_, fun s4 e4 s5 e5 => h1 ?_ s5 ?_⟩, fun c => h0 (fun z => ?_)⟩⟩
  · rw [e, i_lt] at c
    have := z.1; have := e_0; omega
  · rw [vp_in_iff]
    rw [i_lt] at c1 c2
    have := e_0; have := e_240
    exact ⟨by omega, by show _ < ((240 : Nat) : Int); omega⟩
  · rw [e, i_lt] at c1 c2
    have := e_0; have := e_240
    exact ⟨by omega, by omega⟩
  · have h4 : XI g P s4 := e4 ▸ xi_Aq hX t rfl
    have ee : tw_I s4 P.2.2.1 1 = P.2.2.2.1 := h4.2.2.2.2.2.2.2.2.2.1
    rw [e5, ee]
    exact xi_61 h4
  · rw [e, i_lt] at c
    have := z.2; have := e_240; omega
theorem x_tclear (hX : XI g P σ) {Q : tw_S → Prop} (hQ : ∀ s, XI g (P.1, P.2.1, P.2.2.1, 0, P.2.2.2.2) s → Q s) : wp_X6_clear g σ P.2.2.1 Q := fun s e => hQ s (e ▸ xi_61 hX)
end G3
