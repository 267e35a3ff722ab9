/-! ===== the class on a fresh object: ofMachine, oneWay, taken, first, told ===== -/
/-- how the two are apart -/
def x_K (g : tw_G) (a0 : Nat) : Prop := o_d g (tw_R g a0 9) ∧ o_d g (tw_R g a0 10) ∧ (∀ i, i < 12 → tw_R g (tw_R g (tw_R g a0 0) 1) 0 ≠ o_r g (tw_R g a0 9) i) ∧ tw_R g a0 10 ≠ tw_R g a0 9 ∧ (∀ i, i < 12 → tw_R g (tw_R g a0 9) 4 ≠ o_r g (tw_R g a0 10) i ∧ tw_R g (tw_R g a0 9) 5 ≠ o_r g (tw_R g a0 10) i) ∧ (tw_R g (tw_R g a0 9) 4 ≠ tw_R g (tw_R g a0 11) 1 ∧ tw_R g (tw_R g a0 9) 5 ≠ tw_R g (tw_R g a0 11) 1 ∧ tw_R g (tw_R g a0 10) 4 ≠ tw_R g (tw_R g a0 11) 1 ∧ tw_R g (tw_R g a0 10) 5 ≠ tw_R g (tw_R g a0 11) 1)
/-- nothing made yet -/
def x_0 (g : tw_G) (a0 : Nat) (σ : tw_S) : Prop := tw_I σ (tw_R g a0 9) 12 = 0 ∧ tw_I σ (tw_R g a0 10) 12 = 0
section X6
variable {g : tw_G} {σ0 σ σ2 : tw_S} {a0 a y m : Nat}
theorem x_oneWayFor (K : x_K g a0) (Z : x_0 g a0 σ) (F : x_F g a0 σ) {q : Nat} (hq : q < 2) {Q : Nat → tw_S → Prop} (hQ : ∀ a σ2, o_d g a → o_f g a σ σ2 → o_S g a σ2 → Q a σ2) : wp_X8_oneWayFor g σ a0 (nI q) Q := by
  unfold wp_X8_oneWayFor
  have h2 : q = 0 ∨ q = 1 := by omega
  rcases h2 with rfl | rfl
  · exact ⟨fun c => absurd rfl c, fun _ => x_at0 hq (x_make K.1 Z.1 F.1 fun σ2 f s => hQ _ σ2 K.1 f s)⟩
  · exact ⟨fun _ => x_at0 hq (x_make K.2.1 Z.2 F.2 fun σ2 f s => hQ _ σ2 K.2.1 f s), fun c => absurd c (by decide)⟩
theorem x_tooMany (h : tw_I σ a 13 = 0) {Q : Int32 → tw_S → Prop} (hQ : Q 0 σ) : wp_X5_isTooMany g σ a Q := by
  unfold wp_X5_isTooMany
  rw [h]
  exact ⟨rfl, hQ⟩
theorem x1_ofMachine (K : x_K g a0) (Z : x_0 g a0 σ) (F : x_F g a0 σ) {m w : Int32} {Q : Int32 → tw_S → Prop} (hQ : ∀ σ2, Q (f_ofMachine m w) σ2) : wp_X8_ofMachine g σ a0 m w Q := by
  unfold wp_X8_ofMachine
  refine x_isMachine (fun c1 => ⟨fun _ => ?_, fun c => absurd c (by decide)⟩) (fun c1 => ⟨fun c => absurd rfl c, fun _ => ?_⟩)
  · obtain ⟨q, hq, rfl⟩ := m_two c1
    refine x_bd (a := 0) (b := 5) rfl rfl (fun c2 => ?_) (fun c2 => ?_)
    · have e : f_ofMachine (nI q) w = (if w = 1 then 0 else if w = 4 then -1 else 1) := by rw [f_ofMachine, if_pos c1, if_pos c2]
      rw [e] at hQ
      have M := xF_q F hq
      refine x_at0 hq ?_
      obtain ⟨j, _, hj, rfl, _⟩ := inI_nI (lo := 0) (hi := 5) c2
      have hj : j = 0 ∨ j = 1 ∨ j = 2 ∨ j = 3 ∨ j = 4 ∨ j = 5 := by omega
      rcases hj with rfl | rfl | rfl | rfl | rfl | rfl
      · refine ⟨fun c => absurd c (by decide), fun _ => ⟨fun c => absurd rfl c, fun _ => ?_⟩⟩
        unfold wp_X3_size
        rw [M.1]
        exact hQ _
      · exact ⟨fun c => absurd c (by decide), fun _ => ⟨fun _ => x_countMoves M (hQ _), fun c => absurd c (by decide)⟩⟩
      · refine ⟨fun _ => x_oneWayFor K Z F hq fun a σ2 d f s => x_tooMany s.1 ⟨fun _ => ⟨fun _ => ?_, fun c => absurd rfl c⟩, fun c => absurd rfl c⟩, fun c => absurd (by decide) c⟩
        unfold wp_X5_size
        rw [s.2.1]
        exact hQ _
      · exact ⟨fun _ => x_oneWayFor K Z F hq fun a σ2 d f s => x_tooMany s.1 ⟨fun _ => ⟨fun c => absurd c (by decide), fun _ => ⟨fun _ => x_least s.2.1 s.2.2.1 s.2.2.2.2.2.1 fun _ => hQ _, fun c => absurd rfl c⟩⟩, fun c => absurd rfl c⟩, fun c => absurd (by decide) c⟩
      · exact ⟨fun _ => x_oneWayFor K Z F hq fun a σ2 d f s => x_tooMany s.1 ⟨fun _ => ⟨fun c => absurd c (by decide), fun _ => ⟨fun c => absurd c (by decide), fun _ => ⟨fun _ => x_firstWord s.2.1 s.2.2.2.2.2.1 s.2.2.2.2.2.2.1 fun _ => hQ _, fun c => absurd rfl c⟩⟩⟩, fun c => absurd rfl c⟩, fun c => absurd (by decide) c⟩
      · exact ⟨fun _ => x_oneWayFor K Z F hq fun a σ2 d f s => x_tooMany s.1 ⟨fun _ => ⟨fun c => absurd c (by decide), fun _ => ⟨fun c => absurd c (by decide), fun _ => ⟨fun c => absurd c (by decide), fun _ => x_firstWord s.2.1 s.2.2.2.2.2.1 s.2.2.2.2.2.2.1 fun _ => hQ _⟩⟩⟩, fun c => absurd rfl c⟩, fun c => absurd (by decide) c⟩
    · have e : f_ofMachine (nI q) w = (-1000000002) := by rw [f_ofMachine, if_pos c1, if_neg c2]
      rw [e] at hQ
      exact hQ _
  · have e : f_ofMachine m w = (-1000000001) := if_neg c1
    rw [e] at hQ
    exact hQ _
theorem x1_oneWay (K : x_K g a0) (Z : x_0 g a0 σ) (F : x_F g a0 σ) {m s w : Int32} {Q : Int32 → tw_S → Prop} (hQ : ∀ σ2, Q (f_oneWay m s w) σ2) : wp_X8_oneWay g σ a0 m s w Q := by
  unfold wp_X8_oneWay
  refine x_isMachine (fun c1 => ⟨fun _ => ?_, fun c => absurd c (by decide)⟩) (fun c1 => ⟨fun c => absurd rfl c, fun _ => ?_⟩)
  · obtain ⟨q, hq, rfl⟩ := m_two c1
    refine x_oneWayFor K Z F hq fun a σ2 d f S => x_tooMany S.1 ⟨fun _ => ?_, fun c => absurd rfl c⟩
    have T := oS_T S
    refine x_ohas S.2.1 (fun c2 => ⟨fun _ => ?_, fun c => absurd c (by decide)⟩) (fun c2 => ⟨fun c => absurd rfl c, fun _ => ?_⟩)
    · obtain rfl := m_zero c2
      have e0 : (0 : Int32).toInt = 0 := rfl
      have e5 : ((4 : Int32) + 1).toInt = 5 := by decide
      have ko : ¬ inI w 0 4 → Q ((-1000000002)) σ2 := fun c3 => by
        have e : f_oneWay (nI q) (nI 0) w = (-1000000002) := by rw [f_oneWay, if_pos c1, if_pos c2, if_neg c3]
        rw [e] at hQ
        exact hQ _
      refine ⟨fun c => ko fun z => ?_, fun c => x_at0 hq ?_⟩
      · rw [i_lt] at c; have := z.1; omega
      · unfold wp_X3_size
        rw [f.2.1 _ (xF_q F hq).1]
        refine ⟨fun c3 => ?_, fun c3 => ko fun z => ?_⟩
        · have c4 : inI w 0 4 := by
            rw [i_lt] at c c3
            exact ⟨by omega, by omega⟩
          have e : f_oneWay (nI q) (nI 0) w = (if w = 3 ∨ w = 4 then -1 else 0) := by rw [f_oneWay, if_pos c1, if_pos c2, if_pos c4]
          rw [e] at hQ
          clear c c3
          obtain ⟨j, _, hj, rfl, _⟩ := inI_nI (lo := 0) (hi := 4) c4
          have hj : j = 0 ∨ j = 1 ∨ j = 2 ∨ j = 3 ∨ j = 4 := by omega
          rcases hj with rfl | rfl | rfl | rfl | rfl
          · exact ⟨fun c => absurd c (by decide), fun _ => x_onext (i := 0) T (by decide) (hQ _)⟩
          · exact ⟨fun c => absurd c (by decide), fun _ => x_onext (i := 1) T (by decide) (hQ _)⟩
          · exact ⟨fun _ => ⟨fun c => absurd rfl c, fun _ => x_isGood T ⟨fun _ => hQ _, fun c => absurd rfl c⟩⟩, fun c => absurd (by decide) c⟩
          · refine ⟨fun _ => ⟨fun _ => ⟨fun c => absurd rfl c, fun _ => ?_⟩, fun c => absurd c (by decide)⟩, fun c => absurd (by decide) c⟩
            unfold wp_X5_firstOff
            have r : tw_A σ2 (tw_R g a 1) ((5 : Int32) * nI 0).toNatClampNeg = -1 := S.2.2.2.2.2.2.2 0 (by decide)
            refine x_ohas0 S.2.1 ⟨fun c => absurd c (by decide), fun _ => ⟨by unfold vp_in; decide, ?_⟩⟩
            rw [r]
            exact hQ _
          · refine ⟨fun _ => ⟨fun _ => ⟨fun _ => ?_, fun c => absurd c (by decide)⟩, fun c => absurd c (by decide)⟩, fun c => absurd (by decide) c⟩
            unfold wp_X5_comesBack
            have r : tw_A σ2 (tw_R g a 1) ((((5 : Int32) * nI 0) + 1) + (nI 4 - 4)).toNatClampNeg = -1 := S.2.2.2.2.2.2.2 1 (by decide)
            refine x_ohas0 S.2.1 ⟨fun c => absurd c (by decide), fun _ => ⟨fun c => absurd c (by decide), fun _ => ⟨fun c => absurd c (by decide), fun _ => ⟨fun c => absurd c (by decide), fun _ => ⟨by unfold vp_in; decide, ?_⟩⟩⟩⟩⟩
            rw [r]
            exact hQ _
        · rw [i_lt] at c3; have := z.2; omega
    · have e : f_oneWay (nI q) s w = (-1000000001) := by rw [f_oneWay, if_pos c1, if_neg c2]
      rw [e] at hQ
      exact hQ _
  · have e : f_oneWay m s w = (-1000000001) := if_neg c1
    rw [e] at hQ
    exact hQ _
theorem x1_taken (K : x_K g a0) (Z : x_0 g a0 σ) (F : x_F g a0 σ) {m w : Int32} {Q : Int32 → tw_S → Prop} (hQ : ∀ σ2, Q (f_taken m w) σ2) : wp_X8_taken g σ a0 m w Q := by
  unfold wp_X8_taken
  refine x_isMachine (fun c1 => ⟨fun _ => ?_, fun c => absurd c (by decide)⟩) (fun c1 => ⟨fun c => absurd rfl c, fun _ => ?_⟩)
  · obtain ⟨q, hq, rfl⟩ := m_two c1
    refine x_bd (a := 0) (b := 24) rfl rfl (fun c2 => ?_) (fun c2 => ?_)
    · have e : f_taken (nI q) w = 0 := by rw [f_taken, if_pos c1, if_pos c2]
      rw [e] at hQ
      obtain ⟨j, _, hj, rfl, _⟩ := inI_nI (lo := 0) (hi := 24) c2
      have hj : j ≤ 24 := hj
      exact x_oneWayFor K Z F hq fun a σ2 d f S => x_tooMany S.1 ⟨fun _ => x_countWords d (oS_T S) hj hQ, fun c => absurd rfl c⟩
    · have e : f_taken (nI q) w = (-1000000002) := by rw [f_taken, if_pos c1, if_neg c2]
      rw [e] at hQ
      exact hQ _
  · have e : f_taken m w = (-1000000001) := if_neg c1
    rw [e] at hQ
    exact hQ _
theorem x_firstByRule (K : x_K g a0) (Z : x_0 g a0 σ) (F : x_F g a0 σ) {w : Int32} {Q : Int32 → tw_S → Prop} (hQ : ∀ σ2, Q (-1) σ2) : wp_X8_firstByRule g σ a0 w Q := by
  unfold wp_X8_firstByRule
  refine x_at0 (q := 0) (by decide) (x_make K.1 Z.1 F.1 fun σ3 f3 s3 => ?_)
  have M3 : x_M g (tw_R g (tw_R g a0 0) 1) σ3 := of_M f3 F.2 K.2.2.1
  have z3 : tw_I σ3 (tw_R g a0 10) 12 = 0 := by rw [f3.1 _ _ K.2.2.2.1 (by decide)]; exact Z.2
  refine x_at0 (q := 1) (by decide) (x_make K.2.1 z3 M3 fun σ6 f6 s6 => ?_)
  have n : tw_R g a0 9 ≠ tw_R g a0 10 := K.2.2.2.1.symm
  have t3 : tw_I σ6 (tw_R g a0 9) 13 = 0 := by rw [f6.1 _ _ n (by decide)]; exact s3.1
  have T3 : o_T g (tw_R g a0 9) σ6 := by
    obtain ⟨p1, p2, p3, p4⟩ := oS_T s3
    refine ⟨?_, ?_, ?_, ?_⟩
    · rw [f6.1 _ _ n (by decide)]; exact p1
    · rw [f6.2.2 _ fun i hi => (K.2.2.2.2.1 i hi).1]; exact p2
    · rw [f6.2.2 _ fun i hi => (K.2.2.2.2.1 i hi).1]; exact p3
    · rw [f6.2.2 _ fun i hi => (K.2.2.2.2.1 i hi).2]; exact p4
  obtain ⟨d1, d2, d3, d4⟩ := K.2.2.2.2.2
  exact x_tooMany t3 ⟨fun c => absurd rfl c, fun _ => x_tooMany s6.1 ⟨fun _ => ⟨fun _ => x_meet T3 (oS_T s6) d1 d2 d3 d4 hQ, fun c => absurd rfl c⟩, fun c => absurd rfl c⟩⟩
theorem x1_first (K : x_K g a0) (Z : x_0 g a0 σ) (F : x_F g a0 σ) {w : Int32} {Q : Int32 → tw_S → Prop} (hQ : ∀ σ2, Q (f_first w) σ2) : wp_X8_first g σ a0 w Q := by
  unfold wp_X8_first
  have e0 : (0 : Int32).toInt = 0 := rfl
  have e2 : (4 : Int32).toInt = 4 := rfl
  by_cases c1 : inI w 0 3
  · have e : f_first w = -1 := if_pos c1
    rw [e] at hQ
    refine ⟨fun c => ?_, fun _ => ⟨fun _ => x_firstByRule K Z F hQ, fun c => ?_⟩⟩
    · rw [i_lt] at c; have := c1.1; omega
    · rw [i_lt] at c; have := c1.2; omega
  · have e : f_first w = (-1000000001) := if_neg c1
    rw [e] at hQ
    refine ⟨fun _ => hQ _, fun c => ⟨fun c2 => absurd ⟨?_, ?_⟩ c1, fun _ => hQ _⟩⟩
    · rw [i_lt] at c; omega
    · rw [i_lt] at c2; omega
theorem x1_told (K : x_K g a0) (Z : x_0 g a0 σ) (F : x_F g a0 σ) (h4 : tw_I σ (tw_R g a0 4) 1 = 0) (h6 : tw_I σ (tw_R g a0 6) 1 = 0) (h1 : tw_I σ (tw_R g a0 1) 1 = 0) {w : Int32} {Q : Int32 → tw_S → Prop} (hQ : ∀ σ2, Q (f_told w) σ2) : wp_X8_told g σ a0 w Q := by
  unfold wp_X8_told wp_X7_length wp_X6_length wp_X2_size
  unfold f_told at hQ
  rw [h4, h6, h1]
  refine ⟨fun c => ?_, fun c0 => ⟨fun c => ?_, fun c1 => ⟨fun c => ?_, fun c2 => ⟨fun c => ?_, fun c3 => ⟨fun c => ?_, fun c4 => ?_⟩⟩⟩⟩⟩
  · rw [if_pos c] at hQ; exact hQ _
  · rw [if_neg c0, if_pos c] at hQ
    refine ⟨1, ?_⟩
    rw [wl_X7_number_4, h6]
    exact ⟨fun _ => hQ _, fun c => absurd (by decide) c⟩
  · rw [if_neg c0, if_neg c1, if_pos c] at hQ; exact hQ _
  · rw [if_neg c0, if_neg c1, if_neg c2, if_pos c] at hQ; exact hQ _
  · rw [if_neg c0, if_neg c1, if_neg c2, if_neg c3, if_pos c] at hQ
    refine x_firstByRule K Z F fun σ2 => ?_
    unfold wp_X8_tellWhetherNone
    exact ⟨fun _ => ⟨fun c => absurd rfl c, fun _ => hQ _⟩, fun c => absurd c (by decide)⟩
  · rw [if_neg c0, if_neg c1, if_neg c2, if_neg c3, if_neg c4] at hQ; exact hQ _
end X6
