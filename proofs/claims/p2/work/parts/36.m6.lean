/-! ===== ofMachine, oneWay, taken on a fresh object ===== -/
section M7
variable {g : tw_G} {τ σ σ2 : tw_S} {a0 q : Nat}
theorem m1_movesOf (hq : q < 2) (hn : tw_A τ (tw_R g a0 0) = sm_now) {Q : Int32 → tw_S → Prop} (hQ : Q 0 τ) : wp_X9_movesOf g τ a0 (nI q) Q := by
  refine lp_up (W := fun n i σ => wl_X9_movesOf_4 g a0 (nI q) _ _ n 0 i σ) (I := fun _ σ3 => σ3 = τ) 16 ?_ ?_ 0 (by decide) τ rfl
  · intro n2 i σ3 hi e3 ih
    subst e3
    show wl_X9_movesOf_4 g a0 (nI q) _ _ (n2 + 1) 0 (nI i) σ3
    have ih := ih σ3 rfl
    have en : sm_now (17 * q + 1 + i) = -1 := by
      have h2 : q = 0 ∨ q = 1 := by omega
      unfold sm_now
      rcases h2 with rfl | rfl
      · rw [if_pos (by omega), if_neg (by omega)]
      · rw [if_pos (by omega), if_neg (by omega)]
    rw [wl_X9_movesOf_4, m_c17, nI_1, nI_clamp (by omega), hn, en]
    exact ⟨fun c => absurd c (nI_ge (b := 16) hi (by decide)), fun _ => ⟨vp_in_nI (by omega) (by decide), fun c => absurd rfl c, fun _ => ih⟩⟩
  · intro n2 σ3 e3
    subst e3
    show wl_X9_movesOf_4 g a0 (nI q) _ _ (n2 + 1) 0 (nI 16) σ3
    rw [wl_X9_movesOf_4]
    exact ⟨fun _ => hQ, fun c => absurd (nI_le (Nat.le_refl 16) (by decide)) c⟩
theorem m1_least (hd : m_d g a0) (hq : q < 2) (F : m_F g a0 q τ) {Q : Int32 → tw_S → Prop} (hQ : ∀ τ2, Q 1 τ2) : wp_X9_least g τ a0 (nI q) Q := by
  have v : vp_in (nI q) 2 := vp_in_nI hq (by decide)
  have f1 := F.1
  unfold wp_X9_least
  refine ⟨2, ?_⟩
  rw [wl_X9_least_7, nI_clamp (by omega), f1]
  refine ⟨v, fun c => absurd c (by decide), fun _ => ?_⟩
  refine m_at (x := 0) ⟨vp_in_nI (by omega) (by decide), by unfold vp_in; decide, fun σ7 e7 => ?_⟩
  have a7 : tw_A σ7 (tw_R g a0 20) q = 1 := by rw [e7, tw_A_sA, if_neg (hd 20 26 (by decide) (by decide) (by decide))]; exact f1
  rw [wl_X9_least_7, nI_clamp (by omega), a7]
  refine ⟨v, fun _ => ⟨2, ?_⟩, fun c => absurd (by decide) c⟩
  rw [wl_X9_least_43]
  refine ⟨fun c => absurd c (by decide), fun _ => ⟨2, ?_⟩⟩
  rw [wl_X9_least_55, nI_clamp (by omega), a7]
  refine ⟨v, fun c => absurd c (by decide), fun _ => ⟨1, ?_⟩⟩
  rw [wl_X9_least_76]
  refine ⟨fun _ => ⟨by unfold vp_in; decide, fun σ19 e19 => ⟨fun c => absurd rfl c, fun _ => ?_⟩⟩, fun c => absurd (by decide) c⟩
  have a19 : tw_A σ19 (tw_R g a0 20) q = 1 := by rw [e19, tw_A_sA, if_neg (hd 20 27 (by decide) (by decide) (by decide))]; exact a7
  rw [wl_X9_least_55, nI_clamp (by omega), a19]
  refine ⟨v, fun _ => ⟨2, ?_⟩, fun c => absurd (by decide) c⟩
  rw [wl_X9_least_141, nI_clamp (by omega), a19]
  refine ⟨v, fun c => absurd c (by decide), fun _ => ⟨by unfold vp_in; decide, by unfold vp_in; decide, fun σ27 e27 => ?_⟩⟩
  have a27 : tw_A σ27 (tw_R g a0 20) q = 1 := by rw [e27, tw_A_sA, if_neg (hd 20 26 (by decide) (by decide) (by decide))]; exact a19
  rw [wl_X9_least_141, nI_clamp (by omega), a27]
  refine ⟨v, fun _ => ?_, fun c => absurd (by decide) c⟩
  rw [wl_X9_least_43]
  exact ⟨fun _ => hQ _, fun c => absurd (by decide) c⟩
theorem m1_firstOf (hq : q < 2) (F : m_F g a0 q τ) {x : Int32} (hx : x = 0 ∨ x = 1) {Q : Int32 → tw_S → Prop} (hQ : ∀ τ2, Q (if x = 0 then 1 else -1) τ2) : wp_X9_firstOf g τ a0 (nI q) x Q := by
  have v : vp_in (nI q) 2 := vp_in_nI hq (by decide)
  obtain ⟨f1, _, _, _, f5, f6⟩ := F
  unfold wp_X9_firstOf
  rw [nI_clamp (by omega), f1]
  refine ⟨v, fun z2 e2 => ⟨2, ?_⟩⟩
  have e2 : z2 = nI 0 := e2
  subst e2
  rw [wl_X9_firstOf_12]
  refine ⟨fun c => absurd c (by decide), fun _ => ?_⟩
  refine m_at (x := 0) ?_
  rw [nI_clamp (by omega)]
  have f5 : tw_A τ (tw_R g a0 23) (151 * q + 0) = 0 := f5
  have f6 : tw_A τ (tw_R g a0 24) (151 * q + 0) = -1 := f6
  rw [f5]
  refine ⟨vp_in_nI (by omega) (by decide), fun c => ?_, fun c => ?_⟩
  · rw [wl_X9_firstOf_12]
    refine ⟨fun _ => ⟨fun c => absurd rfl c, fun _ => ?_⟩, fun c => absurd (by decide) c⟩
    have h := hQ τ
    rw [if_neg (fun z => c z.symm)] at h
    exact h
  · have h := hQ τ
    rw [if_pos c.symm] at h
    rw [wl_X9_firstOf_12]
    refine ⟨fun _ => ⟨fun _ => ⟨1, ?_⟩, fun c => absurd c (by decide)⟩, fun c => absurd (by decide) c⟩
    rw [wl_X9_firstOf_62]
    refine m_at (x := 0) ?_
    rw [nI_clamp (by omega), f6]
    exact ⟨vp_in_nI (by omega) (by decide), fun _ => ⟨fun _ => h, fun c => absurd (by decide) c⟩, fun c => absurd rfl c⟩
theorem m1_ofMachine (hd : m_d g a0) (hn : tw_A τ (tw_R g a0 0) = sm_now) {m w : Int32} {Q : Int32 → tw_S → Prop} (hQ : ∀ τ2, Q (f_ofMachine m w) τ2) : wp_X9_ofMachine g τ a0 m w Q := by
  unfold wp_X9_ofMachine
  refine m_isMachine (fun c1 => ?_) (fun c1 => ?_)
  · refine ⟨fun _ => ?_, fun c => absurd c (by decide)⟩
    refine sp_inI (a := 0) (b := 5) rfl rfl (fun c2 => ?_) (fun c2 => ?_)
    · refine ⟨fun _ => ?_, fun c => absurd c (by decide)⟩
      have e : f_ofMachine m w = (if w = 1 then 0 else if w = 4 then -1 else 1) := by rw [f_ofMachine, if_pos c1, if_pos c2]
      rw [e] at hQ
      obtain ⟨q, hq, rfl⟩ := m_two c1
      obtain ⟨j, _, hj, rfl, _⟩ := inI_nI (lo := 0) (hi := 5) c2
      have hj : j = 0 ∨ j = 1 ∨ j = 2 ∨ j = 3 ∨ j = 4 ∨ j = 5 := by omega
      rcases hj with rfl | rfl | rfl | rfl | rfl | rfl
      · refine ⟨fun c => absurd c (by decide), fun _ => ⟨fun c => absurd rfl c, fun _ => ?_⟩⟩
        refine m_states0 hq ?_
        rw [hn, m_now1 hq]
        exact hQ _
      · exact ⟨fun c => absurd c (by decide), fun _ => ⟨fun _ => m1_movesOf hq hn (hQ _), fun c => absurd c (by decide)⟩⟩
      · refine ⟨fun _ => m1_lays hd hq hn fun τ2 _ _ F => ⟨fun _ => ⟨fun c => absurd rfl c, fun _ => ?_⟩, fun c => absurd c (by decide)⟩, fun c => absurd (by decide) c⟩
        rw [nI_clamp (by omega), F.1]
        exact ⟨vp_in_nI hq (by decide), hQ _⟩
      · exact ⟨fun _ => m1_lays hd hq hn fun τ2 _ _ F => ⟨fun _ => ⟨fun _ => ⟨fun c => absurd rfl c, fun _ => m1_least hd hq F hQ⟩, fun c => absurd c (by decide)⟩, fun c => absurd c (by decide)⟩, fun c => absurd (by decide) c⟩
      · exact ⟨fun _ => m1_lays hd hq hn fun τ2 _ _ F => ⟨fun _ => ⟨fun _ => ⟨fun _ => m1_firstOf (x := (5 : Int32) - nI 4) hq F (Or.inr rfl) hQ, fun c => absurd c (by decide)⟩, fun c => absurd c (by decide)⟩, fun c => absurd c (by decide)⟩, fun c => absurd (by decide) c⟩
      · exact ⟨fun _ => m1_lays hd hq hn fun τ2 _ _ F => ⟨fun _ => ⟨fun _ => ⟨fun _ => m1_firstOf (x := (5 : Int32) - nI 5) hq F (Or.inl rfl) hQ, fun c => absurd c (by decide)⟩, fun c => absurd c (by decide)⟩, fun c => absurd c (by decide)⟩, fun c => absurd (by decide) c⟩
    · have e : f_ofMachine m w = (-1000000002) := by rw [f_ofMachine, if_pos c1, if_neg c2]
      rw [e] at hQ
      exact ⟨fun c => absurd rfl c, fun _ => hQ _⟩
  · have e : f_ofMachine m w = (-1000000001) := if_neg c1
    rw [e] at hQ
    exact ⟨fun c => absurd rfl c, fun _ => hQ _⟩
theorem m1_oneWay (hd : m_d g a0) (hn : tw_A τ (tw_R g a0 0) = sm_now) {m s w : Int32} {Q : Int32 → tw_S → Prop} (hQ : ∀ τ2, Q (f_oneWay m s w) τ2) : wp_X9_oneWay g τ a0 m s w Q := by
  unfold wp_X9_oneWay
  refine m_isMachine (fun c1 => ?_) (fun c1 => ?_)
  · refine ⟨fun _ => ?_, fun c => absurd c (by decide)⟩
    obtain ⟨q, hq, rfl⟩ := m_two c1
    refine m1_lays hd hq hn fun τ2 k2 _ F => ⟨fun _ => ?_, fun c => absurd c (by decide)⟩
    obtain ⟨f1, f2, f3, f4, f5, f6⟩ := F
    rw [nI_clamp (by omega), f1]
    refine ⟨vp_in_nI hq (by decide), ?_⟩
    refine sp_inI (a := 0) (b := 0) rfl rfl (fun c2 => ?_) (fun c2 => ?_)
    · refine ⟨fun _ => ?_, fun c => absurd c (by decide)⟩
      refine m_states0 hq ?_
      rw [k2.2 0 (by decide) (by decide), hn, m_now1 hq]
      refine sp_inI (a := 0) (b := 4) rfl rfl (fun c3 => ?_) (fun c3 => ?_)
      · have e : f_oneWay (nI q) s w = (if w = 3 ∨ w = 4 then -1 else 0) := by rw [f_oneWay, if_pos c1, if_pos c2, if_pos c3]
        rw [e] at hQ
        refine ⟨fun _ => ?_, fun c => absurd c (by decide)⟩
        obtain rfl := m_zero c2
        have e5 : ∀ i : Nat, (((5 : Int32) * nI (151 * q + 0)) + nI (i + 3)) - 3 = nI (755 * q + i) := fun i => by
          have z : (5 : Int32) * nI (151 * q + 0) = nI (5 * (151 * q + 0)) := pk_mul 5 _
          have z3 : (3 : Int32) = nI 3 := rfl
          rw [z, nI_add, z3, pk_sub (by omega)]
          congr 1
          omega
        have e2q : ∀ i : Nat, ((2 : Int32) * nI (151 * q + 0)) + nI i = nI (302 * q + i) := fun i => by
          have z : (2 : Int32) * nI (151 * q + 0) = nI (2 * (151 * q + 0)) := pk_mul 2 _
          rw [z, nI_add]
          congr 1
          omega
        obtain ⟨j, _, hj, rfl, _⟩ := inI_nI (lo := 0) (hi := 4) c3
        have hj : j = 0 ∨ j = 1 ∨ j = 2 ∨ j = 3 ∨ j = 4 := by omega
        rcases hj with rfl | rfl | rfl | rfl | rfl
        · refine ⟨fun c => absurd c (by decide), fun _ => m_at (x := 0) ?_⟩
          rw [e2q, nI_clamp (by omega)]
          have f3 : tw_A τ2 (tw_R g a0 22) (302 * q + 0) = 0 := f3
          rw [f3]
          exact ⟨vp_in_nI (by omega) (by decide), hQ _⟩
        · refine ⟨fun c => absurd c (by decide), fun _ => m_at (x := 0) ?_⟩
          rw [e2q, nI_clamp (by omega), f4]
          exact ⟨vp_in_nI (by omega) (by decide), hQ _⟩
        · refine ⟨fun _ => ⟨fun c => absurd rfl c, fun _ => m_at (x := 0) ?_⟩, fun c => absurd (by decide) c⟩
          rw [nI_clamp (by omega)]
          have f5 : tw_A τ2 (tw_R g a0 23) (151 * q + 0) = 0 := f5
          rw [f5]
          exact ⟨vp_in_nI (by omega) (by decide), hQ _⟩
        · refine ⟨fun _ => ⟨fun _ => m_at (x := 0) ?_, fun c => absurd c (by decide)⟩, fun c => absurd (by decide) c⟩
          rw [e5 0, nI_clamp (by omega), f2 0 (by decide)]
          exact ⟨vp_in_nI (by omega) (by decide), hQ _⟩
        · refine ⟨fun _ => ⟨fun _ => m_at (x := 0) ?_, fun c => absurd c (by decide)⟩, fun c => absurd (by decide) c⟩
          rw [e5 1, nI_clamp (by omega), f2 1 (by decide)]
          exact ⟨vp_in_nI (by omega) (by decide), hQ _⟩
      · have e : f_oneWay (nI q) s w = (-1000000002) := by rw [f_oneWay, if_pos c1, if_pos c2, if_neg c3]
        rw [e] at hQ
        exact ⟨fun c => absurd rfl c, fun _ => hQ _⟩
    · have e : f_oneWay (nI q) s w = (-1000000001) := by rw [f_oneWay, if_pos c1, if_neg c2]
      rw [e] at hQ
      exact ⟨fun c => absurd rfl c, fun _ => hQ _⟩
  · have e : f_oneWay m s w = (-1000000001) := if_neg c1
    rw [e] at hQ
    exact ⟨fun c => absurd rfl c, fun _ => hQ _⟩
/-- what taken keeps -/
def m_T (g : tw_G) (a0 q : Nat) (σ : tw_S) : Prop := tw_A σ (tw_R g a0 20) q = 1 ∧ tw_A σ (tw_R g a0 22) (302 * q) = 0 ∧ tw_A σ (tw_R g a0 22) (302 * q + 1) = 0 ∧ tw_A σ (tw_R g a0 23) (151 * q) = 0
theorem mT_28 (hd : m_d g a0) (h : m_T g a0 q σ) {f : Nat → Int32} (e : σ2 = tw_sA σ (tw_R g a0 28) f) : m_T g a0 q σ2 := by
  subst e
  refine ⟨?_, ?_, ?_, ?_⟩
  · rw [tw_A_sA, if_neg (hd 20 28 (by decide) (by decide) (by decide))]; exact h.1
  · rw [tw_A_sA, if_neg (hd 22 28 (by decide) (by decide) (by decide))]; exact h.2.1
  · rw [tw_A_sA, if_neg (hd 22 28 (by decide) (by decide) (by decide))]; exact h.2.2.1
  · rw [tw_A_sA, if_neg (hd 23 28 (by decide) (by decide) (by decide))]; exact h.2.2.2
theorem mT_29 (hd : m_d g a0) (h : m_T g a0 q σ) {f : Nat → Int32} (e : σ2 = tw_sA σ (tw_R g a0 29) f) : m_T g a0 q σ2 := by
  subst e
  refine ⟨?_, ?_, ?_, ?_⟩
  · rw [tw_A_sA, if_neg (hd 20 29 (by decide) (by decide) (by decide))]; exact h.1
  · rw [tw_A_sA, if_neg (hd 22 29 (by decide) (by decide) (by decide))]; exact h.2.1
  · rw [tw_A_sA, if_neg (hd 22 29 (by decide) (by decide) (by decide))]; exact h.2.2.1
  · rw [tw_A_sA, if_neg (hd 23 29 (by decide) (by decide) (by decide))]; exact h.2.2.2
theorem m1_taken (hd : m_d g a0) (hn : tw_A τ (tw_R g a0 0) = sm_now) {m w : Int32} {Q : Int32 → tw_S → Prop} (hQ : ∀ τ2, Q (f_taken m w) τ2) : wp_X9_taken g τ a0 m w Q := by
  unfold wp_X9_taken
  refine m_isMachine (fun c1 => ?_) (fun c1 => ?_)
  · refine ⟨fun _ => ?_, fun c => absurd c (by decide)⟩
    refine sp_inI (a := 0) (b := 24) rfl rfl (fun c2 => ?_) (fun c2 => ?_)
    · refine ⟨fun _ => ?_, fun c => absurd c (by decide)⟩
      have e : f_taken m w = 0 := by rw [f_taken, if_pos c1, if_pos c2]
      rw [e] at hQ
      obtain ⟨q, hq, rfl⟩ := m_two c1
      obtain ⟨j, _, hj, rfl, _⟩ := inI_nI (lo := 0) (hi := 24) c2
      have hj : j ≤ 24 := hj
      have v : vp_in (nI q) 2 := vp_in_nI hq (by decide)
      refine m1_lays hd hq hn fun τ2 _ _ F => ⟨fun _ => ⟨2, ?_⟩, fun c => absurd c (by decide)⟩
      have T : m_T g a0 q τ2 := ⟨F.1, F.2.2.1, F.2.2.2.1, F.2.2.2.2.1⟩
      rw [wl_X9_taken_38, nI_clamp (by omega), T.1]
      refine ⟨v, fun c => absurd c (by decide), fun _ => ⟨fun c => absurd rfl c, fun _ => ⟨by unfold vp_in; decide, fun σ16 e16 => ?_⟩⟩⟩
      have T := mT_28 hd T e16
      rw [wl_X9_taken_38, nI_clamp (by omega), T.1]
      refine ⟨v, fun _ => ?_, fun c => absurd (by decide) c⟩
      refine lp_up (I := fun _ σ => m_T g a0 q σ) j ?_ ?_ 0 (Nat.zero_le _) σ16 T
      · intro n i σ hi T ih
        rw [wl_X9_taken_71, nI_1]
        refine ⟨fun c => absurd c (nI_ge hi (by omega)), fun _ => ⟨2, ?_⟩⟩
        rw [wl_X9_taken_79, nI_clamp (by omega), T.1]
        refine ⟨v, fun c => absurd c (by decide), fun _ => ⟨by unfold vp_in; decide, fun σ22 e22 => ?_⟩⟩
        have T := mT_29 hd T e22
        rw [wl_X9_taken_79, nI_clamp (by omega), T.1]
        refine ⟨v, fun _ => ?_, fun c => absurd (by decide) c⟩
        refine lp_up (I := fun _ σ => m_T g a0 q σ) 2 ?_ ?_ 0 (by decide) σ22 T
        · intro n2 i2 σ3 hi2 T ih2
          rw [wl_X9_taken_107, nI_clamp (by omega), T.1, nI_1]
          have h2 : i2 = 0 ∨ i2 = 1 := by omega
          have d2 : nI i2 / 2 = nI 0 := by rcases h2 with rfl | rfl <;> rfl
          have r2 : nI i2 - nI i2 / 2 * 2 = nI i2 := by rcases h2 with rfl | rfl <;> rfl
          refine ⟨v, fun c => absurd c (nI_ge (b := 2) hi2 (by decide)), fun _ => ?_⟩
          rw [r2, d2]
          refine m_at (x := 0) ?_
          have e2q : ((2 : Int32) * nI (151 * q + 0)) + nI i2 = nI (302 * q + i2) := by
            have z : (2 : Int32) * nI (151 * q + 0) = nI (2 * (151 * q + 0)) := pk_mul 2 _
            rw [z, nI_add]
            congr 1
            omega
          have a22 : tw_A σ3 (tw_R g a0 22) (302 * q + i2) = 0 := by
            rcases h2 with rfl | rfl
            · exact T.2.1
            · exact T.2.2.1
          rw [e2q, nI_clamp (by omega), a22]
          exact ⟨vp_in_nI (by omega) (by decide), by unfold vp_in; decide, by unfold vp_in; decide, by unfold vp_in; decide, fun σ32 e32 => ih2 σ32 (mT_29 hd T e32)⟩
        · intro n2 σ3 T
          rw [wl_X9_taken_107, nI_clamp (by omega), T.1]
          refine ⟨v, fun _ => ⟨2, ?_⟩, fun c => absurd (nI_le (Nat.le_refl 2) (by decide)) c⟩
          rw [wl_X9_taken_167, nI_clamp (by omega), T.1]
          refine ⟨v, fun c => absurd c (by decide), fun _ => ⟨by unfold vp_in; decide, by unfold vp_in; decide, fun σ38 e38 => ?_⟩⟩
          have T := mT_28 hd T e38
          rw [wl_X9_taken_167, nI_clamp (by omega), T.1]
          exact ⟨v, fun _ => ih σ38 T, fun c => absurd (by decide) c⟩
      · intro n σ T
        rw [wl_X9_taken_71]
        refine ⟨fun _ => ⟨2, ?_⟩, fun c => absurd (nI_le (Nat.le_refl _) (by omega)) c⟩
        rw [wl_X9_taken_209, nI_clamp (by omega), T.1]
        refine ⟨v, fun c => absurd c (by decide), fun _ => m_at (x := 0) ?_⟩
        rw [nI_clamp (by omega)]
        have f5 : tw_A σ (tw_R g a0 23) (151 * q + 0) = 0 := T.2.2.2
        rw [f5]
        refine ⟨vp_in_nI (by omega) (by decide), fun _ => ?_, fun c => absurd c (by decide)⟩
        rw [wl_X9_taken_209, nI_clamp (by omega), T.1]
        exact ⟨v, fun _ => hQ _, fun c => absurd (by decide) c⟩
    · have e : f_taken m w = (-1000000002) := by rw [f_taken, if_pos c1, if_neg c2]
      rw [e] at hQ
      exact ⟨fun c => absurd rfl c, fun _ => hQ _⟩
  · have e : f_taken m w = (-1000000001) := if_neg c1
    rw [e] at hQ
    exact ⟨fun c => absurd rfl c, fun _ => hQ _⟩
end M7
