/-! ===== the class in general: the meeting ===== -/
section G6
variable {g : tw_G} {P : g_P} {σ σ2 : tw_S} {a b c y k : Nat}
theorem xv_meet (hX : XI g P σ) (ha : tw_is g 4 a) {x z w : Int32} (hx : inI x (-1) 149) (hz : inI z (-1) 149) {Q : tw_S → Prop} (hQ : ∀ s, XI g P s → Q s) : wp_X4_meet g σ a x z w Q := by
  unfold wp_X4_meet wp_X4_isMet
  intro z1 e1
  refine ⟨fun _ => hQ _ hX, fun c1 => ⟨fun _ => hQ _ hX, fun c2 => ⟨fun _ => hQ _ hX, fun c3 => ⟨fun _ => hQ _ hX, fun c4 => ?_⟩⟩⟩⟩
  have hl := hX.2.2.2.2.2.1 a ha
  have v4 : vp_in (tw_I σ a 2) 22500 := v_l (by decide) hl c4
  rw [i_lt] at c1 c2
  have e0 := e_0
  obtain ⟨i, _, hi, ei, _⟩ := inI_nI (x := x) (lo := 0) (hi := 149) ⟨by omega, hx.2⟩
  obtain ⟨j, _, hj, ej, _⟩ := inI_nI (x := z) (lo := 0) (hi := 149) ⟨by omega, hz.2⟩
  have em : (150 : Int32) * nI i = nI (150 * i) := pk_mul 150 i
  have e2 : z1 = nI (150 * i + j) := by rw [e1, ei, ej, em, nI_add]
  have e3 : z1 >>> ((5 : Int32) &&& 31) = nI ((150 * i + j) / 2 ^ 5) := by
    rw [e2]
    exact i_shr (i := 5) (by omega) (by decide)
  have v : vp_in (z1 >>> ((5 : Int32) &&& 31)) 704 := by
    rw [e3]
    exact vp_in_nI (by omega) (by decide)
  have R : ∀ s6, s6 = σ → vp_in (z1 >>> ((5 : Int32) &&& 31)) 704 ∧ vp_in (z1 >>> ((5 : Int32) &&& 31)) 704 ∧ ∀ σ11, σ11 = (tw_sA s6 (tw_R g a 1) (upd (tw_A s6 (tw_R g a 1)) (z1 >>> ((5 : Int32) &&& 31)).toNatClampNeg ((tw_A s6 (tw_R g a 1) (z1 >>> ((5 : Int32) &&& 31)).toNatClampNeg) ||| ((1 : Int32) <<< ((z1 &&& (31 : Int32)) &&& 31))))) → vp_in (tw_I σ11 a 2) 22500 ∧ ∀ σ13, σ13 = (tw_sB σ11 (tw_R g a 0) (vp_updL (tw_B σ11 (tw_R g a 0)) (tw_I σ11 a 2).toNatClampNeg (((w.toInt64) <<< ((15 : Int32).toInt64 &&& 63)) ||| (z1.toInt64)))) → ∀ σ14, σ14 = (tw_sI σ13 a 2 ((tw_I σ13 a 2) + (1 : Int32))) → Q σ14 := by
    intro s6 e6
    subst e6
    refine ⟨v, v, fun s11 e11 => ?_⟩
    have h11 : XI g P s11 := e11 ▸ xi_Aq hX ha rfl
    have q11 : tw_I s11 a 2 = tw_I s6 a 2 := by rw [e11, tw_I_sA]
    refine ⟨by rw [q11]; exact v4, fun s13 e13 s14 e14 => hQ _ ?_⟩
    have h13 : XI g P s13 := e13 ▸ xi_B h11
    have q13 : tw_I s13 a 2 = tw_I s6 a 2 := by rw [e13, tw_I_sB, q11]
    rw [e14, q13]
    exact xi_42 h13 ha (i_inc (N := 22500) (by decide) hl (i_l rfl c4)).1
  exact ⟨v, fun _ => ⟨fun _ => R σ rfl, fun c => absurd rfl c⟩, fun _ => ⟨fun c => absurd c (by decide), fun _ => hQ _ hX⟩⟩
theorem xg_fits {x z w : Int32} {Q : Int32 → tw_S → Prop} (hQ : ∀ r, Q r σ) : wp_X4_fits g σ x z w Q := by
  unfold wp_X4_fits
  repeat' (first | (with_reducible apply hQ) | (with_reducible apply And.intro) | (intro _))
theorem xg_meetFirst (hX : XI g P σ) (ha : tw_is g 4 a) (hb : tw_is g 5 b) (hc : tw_is g 5 c) {x : Int32} {Q : Int32 → tw_S → Prop} (hQ : ∀ r s, XI g P s → Q r s) : wp_X4_firstWord g σ a b c x Q := by
  unfold wp_X4_firstWord
  refine x_fill hX ha (d := 10) (n := 704) (by decide) rfl (by decide) fun s1 h1 => x_st (xi_42 h1 ha ⟨by decide, by decide⟩) fun s2 _ h2 => xv_meet h2 ha ⟨by decide, by decide⟩ ⟨by decide, by decide⟩ fun s3 h3 => ?_
  refine cu2 22500 (by decide) (XI g P) (fun n w s hx hX ih => ?_) 0 s3 ⟨by decide, by decide⟩ h3
  rw [wl_X4_firstWord_23]
  refine ⟨fun _ => hQ _ _ hX, fun _ => ⟨fun _ => hQ _ _ hX, fun cc => ⟨v_l (by decide) hx cc, fun z7 _ => ⟨v_l (by decide) hx cc, fun z9 _ z10 _ => xg_isGood fun r12 => xg_isGood fun r14 => xg_fits fun r16 => ⟨fun _ => ?_, fun _ => hQ _ _ hX⟩⟩⟩⟩⟩
  exact x_next hX hb fun r19 h19 => x_next hX hc fun r21 h21 => xg_lengthen fun r23 => xv_meet hX ha h19 h21 fun s24 h24 => x_next h24 hb fun r26 h26 => x_next h24 hc fun r28 h28 => xg_lengthen fun r30 => xv_meet h24 ha h26 h28 fun s31 h31 => ih s31 (i_l rfl cc) h31
end G6
