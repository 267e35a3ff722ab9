/-! ===== what stays of the model: ints and rows but those of two lists ===== -/
def m_k (g : tw_G) (a0 : Nat) (KI KA : List Nat) (τ τ2 : tw_S) : Prop := (∀ k, k ∉ KI → tw_I τ2 a0 k = tw_I τ a0 k) ∧ ∀ k ∈ m_sl, k ∉ KA → tw_A τ2 (tw_R g a0 k) = tw_A τ (tw_R g a0 k)
section M2
variable {g : tw_G} {τ σ σ2 : tw_S} {a0 : Nat} {KI KA : List Nat}
theorem mk_rf : m_k g a0 KI KA τ τ := ⟨fun _ _ => rfl, fun _ _ _ => rfl⟩
theorem mk_tr (h1 : m_k g a0 KI KA τ σ) (h2 : m_k g a0 KI KA σ σ2) : m_k g a0 KI KA τ σ2 := ⟨fun k hk => (h2.1 k hk).trans (h1.1 k hk), fun k hm hk => (h2.2 k hm hk).trans (h1.2 k hm hk)⟩
theorem mk_wk {LI LA : List Nat} (h : m_k g a0 KI KA τ σ) (h1 : ∀ k ∈ KI, k ∈ LI) (h2 : ∀ k ∈ KA, k ∈ LA) : m_k g a0 LI LA τ σ := ⟨fun k hk => h.1 k (fun z => hk (h1 k z)), fun k hm hk => h.2 k hm (fun z => hk (h2 k z))⟩
theorem mk_sI (h : m_k g a0 KI KA τ σ) (k : Nat) (hk : k ∈ KI) {v : Int32} (e : σ2 = tw_sI σ a0 k v) : m_k g a0 KI KA τ σ2 := by
  subst e
  refine ⟨fun j hj => ?_, fun j hm hj => h.2 j hm hj⟩
  have hne : ¬ j = k := fun z => hj (by rw [z]; exact hk)
  rw [tw_I_sI, if_pos rfl, if_neg hne]
  exact h.1 j hj
theorem mk_sJ (h : m_k g a0 KI KA τ σ) {k : Nat} {v : Int64} (e : σ2 = tw_sJ σ a0 k v) : m_k g a0 KI KA τ σ2 := by
  subst e
  exact ⟨fun j hj => h.1 j hj, fun j hm hj => h.2 j hm hj⟩
theorem mk_sA (hd : m_d g a0) (h : m_k g a0 KI KA τ σ) (k : Nat) (hm : k ∈ m_sl) (hk : k ∈ KA) {f : Nat → Int32} (e : σ2 = tw_sA σ (tw_R g a0 k) f) : m_k g a0 KI KA τ σ2 := by
  subst e
  refine ⟨fun j hj => h.1 j hj, fun j hmj hj => ?_⟩
  rw [tw_A_sA, if_neg (hd j k hmj hm (fun z => hj (z ▸ hk)))]
  exact h.2 j hmj hj
theorem m_here0 {Q : Int32 → tw_S → Prop} (h : tw_I σ a0 2 ≤ tw_I σ a0 3) (hQ : Q (-1) σ) : wp_X9_here g σ a0 Q := by
  refine ⟨1, ?_⟩
  rw [wl_X9_here_0]
  exact ⟨fun _ => ⟨fun _ => hQ, fun c => absurd h c⟩, fun c => absurd h c⟩
theorem m1_reads (h : tw_I τ a0 2 ≤ tw_I τ a0 3) (hd : m_d g a0) {Q : Int32 → tw_S → Prop} (hQ : ∀ τ2, m_k g a0 [] [6] τ τ2 → tw_A τ2 (tw_R g a0 6) 0 = 1 → Q 1 τ2) : wp_X9_reads g τ a0 Q := by
  unfold wp_X9_reads
  intro σ1 e1
  have k1 : m_k g a0 [] [6] τ σ1 := mk_sA hd mk_rf 6 (by decide) (by decide) e1
  have z1 : tw_A σ1 (tw_R g a0 6) 0 = 1 := by
    rw [e1, tw_A_sA, if_pos rfl]
    rfl
  refine lp_up (I := fun i σ => 1 ≤ i ∧ m_k g a0 [] [6] τ σ ∧ tw_A σ (tw_R g a0 6) 0 = 1) 17 ?_ ?_ 1 (by decide) σ1 ⟨Nat.le_refl 1, k1, z1⟩
  · intro n i σ hi ⟨i0, i1, i2⟩ ih
    rw [wl_X9_reads_9]
    refine ⟨fun c => absurd c (nI_ge (b := 17) hi (by decide)), fun _ => ⟨vp_in_nI hi (by decide), fun σ4 e4 => ?_⟩⟩
    rw [nI_1]
    refine ih σ4 ⟨by omega, mk_sA hd i1 6 (by decide) (by decide) e4, ?_⟩
    rw [e4, tw_A_sA, if_pos rfl, nI_clamp (by omega), pk_un (by omega)]
    exact i2
  · intro n σ ⟨_, i1, i2⟩
    rw [wl_X9_reads_9]
    refine ⟨fun _ => ?_, fun c => absurd (nI_le (Nat.le_refl 17) (by decide)) c⟩
    refine m_here0 (by rw [i1.1 2 (by decide), i1.1 3 (by decide)]; exact h) ?_
    exact ⟨fun c => absurd rfl c, fun _ => hQ _ i1 i2⟩
theorem m1_machine (h2 : tw_I τ a0 2 = 0) (h9 : tw_I τ a0 9 = 0) (hd : m_d g a0) {m : Int32} {Q : Int32 → tw_S → Prop} (hQ : ∀ τ2, Q (f_machine m) τ2) : wp_X9_machine g τ a0 m Q := by
  unfold wp_X9_machine
  refine m_isMachine (fun c1 => ?_) (fun c1 => ?_)
  · have e : f_machine m = 1 := if_pos c1
    rw [e] at hQ
    obtain ⟨q, hq, rfl⟩ := m_two c1
    refine ⟨fun _ σ4 e4 => ?_, fun c => absurd c (by decide)⟩
    have i2 : tw_I σ4 a0 2 = 0 := by simp [e4, tw_I_sI, h2]
    have i3 : tw_I σ4 a0 3 = 0 := by simp [e4, tw_I_sI]
    refine m1_reads (by rw [i2, i3]; decide) hd (fun τ2 k2 z2 => ?_)
    refine m_here0 (by rw [k2.1 2 (by decide), k2.1 3 (by decide), i2, i3]; decide) ?_
    refine ⟨fun c => absurd rfl c, fun _ => ⟨fun c => absurd c (by decide), fun _ σ43 e43 σ44 e44 => ⟨fun _ => ?_, fun c => absurd c (by decide)⟩⟩⟩
    refine m1_notes (by simp [e44, e43, tw_I_sI, k2.1 9 (by decide), e4, h9]) hd fun τ3 _ _ n3 => ?_
    have z3 : tw_A τ3 (tw_R g a0 6) 0 = 1 := by
      rw [n3 6 (by decide) (by decide), e44, tw_A_sI, e43, tw_A_sI]
      exact z2
    refine lp_up (I := fun _ σ => tw_A σ (tw_R g a0 6) 0 = 1) 17 ?_ ?_ 0 (by decide) τ3 z3
    · intro n k σ hk i1 ih
      rw [wl_X9_machine_85, m_ix17, nI_add]
      refine ⟨fun c => absurd c (nI_ge (b := 17) hk (by decide)), fun _ => ⟨vp_in_nI hk (by decide), vp_in_nI (by omega) (by decide), fun σ19 e19 => ?_⟩⟩
      rw [nI_1]
      refine ih σ19 ?_
      rw [e19, tw_A_sA, if_neg (hd 6 0 (by decide) (by decide) (by decide))]
      exact i1
    · intro n σ i1
      rw [wl_X9_machine_85]
      refine ⟨fun _ => ?_, fun c => absurd (nI_le (Nat.le_refl 17) (by decide)) c⟩
      have z : tw_A σ (tw_R g a0 6) (0 : Int32).toNatClampNeg = 1 := i1
      rw [z]
      exact hQ _
  · have e : f_machine m = (-1000000001) := if_neg c1
    rw [e] at hQ
    exact ⟨fun c => absurd rfl c, fun _ => hQ _⟩
theorem m_now17 {i : Nat} (h : i < 17) : sm_now (17 + i) = sm_now i := by
  unfold sm_now
  by_cases h0 : i = 0
  · subst h0; rfl
  · rw [if_pos (by omega), if_neg (by omega), if_pos (by omega), if_neg (by omega)]
theorem m1_swap (hn : tw_A τ (tw_R g a0 0) = sm_now) (h9 : tw_I τ a0 9 = 0) (hd : m_d g a0) {Q : Int32 → tw_S → Prop} (hQ : ∀ τ2, Q 0 τ2) : wp_X9_swap g τ a0 Q := by
  unfold wp_X9_swap
  refine m1_notes h9 hd fun τ2 _ _ n3 => ?_
  have hn2 : tw_A τ2 (tw_R g a0 0) = sm_now := (n3 0 (by decide) (by decide)).trans hn
  refine lp_up (W := fun n i σ => wl_X9_swap_8 g a0 Q _ n 1 i σ) (I := fun _ σ => tw_A σ (tw_R g a0 0) = sm_now) 17 ?_ ?_ 0 (by decide) τ2 hn2
  · intro n i σ hi i1 ih
    have e17 : (17 : Int32) + nI i = nI (17 + i) := nI_add 17 i
    have ih := fun σ2 (h : tw_A σ2 (tw_R g a0 0) = sm_now) => ih σ2 h
    show wl_X9_swap_8 g a0 Q _ (n + 1) 1 (nI i) σ
    rw [wl_X9_swap_8, e17, nI_1, i1, nI_clamp (by omega), nI_clamp (by omega)]
    have v1 : vp_in (nI i) 34 := vp_in_nI (by omega) (by decide)
    have v2 : vp_in (nI (17 + i)) 34 := vp_in_nI (by omega) (by decide)
    refine ⟨fun c => absurd c (nI_ge (b := 17) hi (by decide)), fun _ => ⟨v1, fun z4 e4 => ⟨fun c => absurd c (by decide), fun _ => ⟨v2, fun c => absurd ?_ c, fun _ => ⟨v2, v1, fun σ20 e20 => ⟨v2, fun σ22 e22 => ih σ22 ?_⟩⟩⟩⟩⟩⟩
    · rw [e4, m_now17 hi]
    · rw [e22, tw_A_sA, if_pos rfl, e20, tw_A_sA, if_pos rfl, e4]
      funext j
      simp only [upd]
      by_cases h1 : j = 17 + i
      · rw [if_pos h1, h1, m_now17 hi]
      · rw [if_neg h1]
        by_cases h2 : j = i
        · rw [if_pos h2, h2, m_now17 hi]
        · rw [if_neg h2]
  · intro n σ i1
    show wl_X9_swap_8 g a0 Q _ (n + 1) 1 (nI 17) σ
    rw [wl_X9_swap_8]
    exact ⟨fun _ => ⟨fun c => absurd c (by decide), fun _ => hQ _⟩, fun c => absurd (nI_le (Nat.le_refl 17) (by decide)) c⟩
theorem m1_runs (hd : m_d g a0) (hn : tw_A τ (tw_R g a0 0) = sm_now) {q : Nat} (hq : q < 2) {Q : tw_S → Prop} (hQ : ∀ τ2, m_k g a0 [14, 15, 16, 19] [13] τ τ2 → tw_I τ2 a0 14 = 1 → tw_I τ2 a0 15 = 0 → tw_I τ2 a0 16 = 0 → tw_I τ2 a0 19 = 0 → Q τ2) : wp_X9_runs g τ a0 (nI q) Q := by
  unfold wp_X9_runs
  refine lp_up (I := fun _ σ => m_k g a0 [14, 15, 16, 19] [13] τ σ) 26 ?_ ?_ 0 (by decide) τ mk_rf
  · intro n i σ hi i1 ih
    rw [wl_X9_runs_2, nI_1]
    exact ⟨fun c => absurd c (nI_ge (b := 26) hi (by decide)), fun _ => ⟨vp_in_nI hi (by decide), fun σ3 e3 => ih σ3 (mk_sA hd i1 13 (by decide) (by decide) e3)⟩⟩
  · intro n σ i1
    rw [wl_X9_runs_2]
    refine ⟨fun _ σ5 e5 σ6 e6 σ7 e7 σ8 e8 σ9 e9 => ?_, fun c => absurd (nI_le (Nat.le_refl 26) (by decide)) c⟩
    have k9 : m_k g a0 [14, 15, 16, 19] [13] τ σ9 := mk_sA hd (mk_sI (mk_sI (mk_sI (mk_sI i1 15 (by decide) e5) 19 (by decide) e6) 16 (by decide) e7) 14 (by decide) e8) 13 (by decide) (by decide) e9
    have i14 : tw_I σ9 a0 14 = -1 := by simp [e9, e8, e7, e6, e5, tw_I_sI, tw_I_sJ, tw_I_sA, tw_I_sB, tw_J_sI, tw_J_sJ, tw_J_sA, tw_J_sB, tw_A_sI, tw_A_sJ, tw_A_sA, tw_A_sB, tw_B_sI, tw_B_sJ, tw_B_sA, tw_B_sB]
    have i15 : tw_I σ9 a0 15 = 0 := by simp [e9, e8, e7, e6, e5, tw_I_sI, tw_I_sJ, tw_I_sA, tw_I_sB, tw_J_sI, tw_J_sJ, tw_J_sA, tw_J_sB, tw_A_sI, tw_A_sJ, tw_A_sA, tw_A_sB, tw_B_sI, tw_B_sJ, tw_B_sA, tw_B_sB]
    have i16 : tw_I σ9 a0 16 = 0 := by simp [e9, e8, e7, e6, e5, tw_I_sI, tw_I_sJ, tw_I_sA, tw_I_sB, tw_J_sI, tw_J_sJ, tw_J_sA, tw_J_sB, tw_A_sI, tw_A_sJ, tw_A_sA, tw_A_sB, tw_B_sI, tw_B_sJ, tw_B_sA, tw_B_sB]
    have i19 : tw_I σ9 a0 19 = 0 := by simp [e9, e8, e7, e6, e5, tw_I_sI, tw_I_sJ, tw_I_sA, tw_I_sB, tw_J_sI, tw_J_sJ, tw_J_sA, tw_J_sB, tw_A_sI, tw_A_sJ, tw_A_sA, tw_A_sB, tw_B_sI, tw_B_sJ, tw_B_sA, tw_B_sB]
    have hn9 : tw_A σ9 (tw_R g a0 0) = sm_now := (k9.2 0 (by decide) (by decide)).trans hn
    refine ⟨2, ?_⟩
    rw [wl_X9_runs_50]
    refine ⟨fun c => absurd i14 c, fun _ => ?_⟩
    refine ⟨fun c => absurd rfl c, fun _ => ?_⟩
    rw [i16]
    refine m_moveAt1 (s := 0) (c := 2) hq (by decide) (by decide) hn9 ?_
    refine ⟨fun c => absurd rfl c, fun _ σ223 e => ?_⟩
    rw [wl_X9_runs_50]
    have j14 : tw_I σ223 a0 14 = 1 := by simp [e, tw_I_sI]
    refine ⟨fun _ => hQ σ223 (mk_sI k9 14 (by decide) e) j14 ?_ ?_ ?_, fun c => absurd (j14.symm.trans c) (by decide)⟩
    · simp [e, tw_I_sI, i15]
    · simp [e, tw_I_sI, i16]
    · simp [e, tw_I_sI, i19]
theorem m_often0 (h : tw_I σ a0 19 = 0) {x : Int32} {Q : Int32 → tw_S → Prop} (hQ : Q 0 σ) : wp_X9_oftenOver g σ a0 x Q := by
  refine ⟨1, ?_⟩
  rw [wl_X9_oftenOver_4, h]
  exact ⟨fun _ => hQ, fun c => absurd (by decide) c⟩
theorem m1_run (hd : m_d g a0) (hn : tw_A τ (tw_R g a0 0) = sm_now) (h12 : tw_I τ a0 12 = 0) {m w : Int32} {Q : Int32 → tw_S → Prop} (hQ : ∀ τ2, Q (f_run m w) τ2) : wp_X9_run g τ a0 m w Q := by
  unfold wp_X9_run
  refine m_isMachine (fun c1 => ?_) (fun c1 => ?_)
  · refine ⟨fun _ => ?_, fun c => absurd c (by decide)⟩
    refine sp_inI (a := 0) (b := 5) rfl rfl (fun c2 => ?_) (fun c2 => ?_)
    · refine ⟨fun _ => ?_, fun c => absurd c (by decide)⟩
      have e : f_run m w = (if w = 1 then 1 else if w = 5 then -1 else 0) := by rw [f_run, if_pos c1, if_pos c2]
      rw [e] at hQ
      obtain ⟨q, hq, rfl⟩ := m_two c1
      refine m1_runs hd hn hq fun τ2 k2 i14 i15 i16 i19 => ?_
      have i12 : tw_I τ2 a0 12 = 0 := (k2.1 12 (by decide)).trans h12
      refine ⟨2, ?_⟩
      rw [wl_X9_run_41, i12]
      refine ⟨fun c => absurd c (by decide), fun _ => ?_⟩
      refine m_often0 i19 ?_
      refine ⟨fun _ => ⟨fun _ => ⟨fun _ => ?_, fun c => absurd (by decide) c⟩, fun c => absurd (by decide) c⟩, fun c => absurd (by decide) c⟩
      rw [wl_X9_run_41, i12, i14, i15, i16]
      refine ⟨fun _ => ?_, fun c => absurd (by decide) c⟩
      obtain ⟨j, _, hj, rfl, _⟩ := inI_nI (lo := 0) (hi := 5) c2
      have hj : j = 0 ∨ j = 1 ∨ j = 2 ∨ j = 3 ∨ j = 4 ∨ j = 5 := by omega
      have hq := hQ τ2
      rcases hj with rfl | rfl | rfl | rfl | rfl | rfl
      · exact ⟨fun c => absurd rfl c, fun _ => ⟨fun _ => hq, fun c => absurd c (by decide)⟩⟩
      · exact ⟨fun _ => ⟨fun c => absurd rfl c, fun _ => hq⟩, fun c => absurd c (by decide)⟩
      · exact ⟨fun _ => ⟨fun _ => ⟨fun c => absurd rfl c, fun _ => hq⟩, fun c => absurd c (by decide)⟩, fun c => absurd c (by decide)⟩
      · exact ⟨fun _ => ⟨fun _ => ⟨fun _ => ⟨fun c => absurd rfl c, fun _ => hq⟩, fun c => absurd c (by decide)⟩, fun c => absurd c (by decide)⟩, fun c => absurd c (by decide)⟩
      · exact ⟨fun _ => ⟨fun _ => ⟨fun _ => ⟨fun _ => ⟨fun c => absurd rfl c, fun _ => hq⟩, fun c => absurd c (by decide)⟩, fun c => absurd c (by decide)⟩, fun c => absurd c (by decide)⟩, fun c => absurd c (by decide)⟩
      · exact ⟨fun _ => ⟨fun _ => ⟨fun _ => ⟨fun _ => ⟨fun _ => hq, fun c => absurd c (by decide)⟩, fun c => absurd c (by decide)⟩, fun c => absurd c (by decide)⟩, fun c => absurd c (by decide)⟩, fun c => absurd c (by decide)⟩
    · have e : f_run m w = (-1000000002) := by rw [f_run, if_pos c1, if_neg c2]
      rw [e] at hQ
      exact ⟨fun c => absurd rfl c, fun _ => hQ _⟩
  · have e : f_run m w = (-1000000001) := if_neg c1
    rw [e] at hQ
    exact ⟨fun c => absurd rfl c, fun _ => hQ _⟩
theorem m1_crossed (hd : m_d g a0) (hn : tw_A τ (tw_R g a0 0) = sm_now) (h12 : tw_I τ a0 12 = 0) {m p k : Int32} {Q : Int32 → tw_S → Prop} (hQ : ∀ τ2, Q (f_crossed m p k) τ2) : wp_X9_crossed g τ a0 m p k Q := by
  unfold wp_X9_crossed
  refine m_isMachine (fun c1 => ?_) (fun c1 => ?_)
  · refine ⟨fun _ => ?_, fun c => absurd c (by decide)⟩
    rw [h12]
    refine sp_inI (a := 0) (b := 0) rfl rfl (fun c2 => ?_) (fun c2 => ?_)
    · refine ⟨fun c => absurd c (by decide), fun _ => ⟨fun c3 => ?_, fun c3 => ?_⟩⟩
      · have c4 : -1 ≤ k.toInt := i_le.mp c3
        have e : f_crossed m p k = (if k = -1 then 0 else -1) := by rw [f_crossed, if_pos c1, if_pos ⟨c2, c4⟩]
        rw [e] at hQ
        obtain ⟨q, hq, rfl⟩ := m_two c1
        refine m1_runs hd hn hq fun τ2 k2 i14 i15 i16 i19 => ?_
        refine ⟨fun c5 => ?_, fun c5 => ?_⟩
        · rw [if_neg c5] at hQ
          refine ⟨1, ?_⟩
          rw [wl_X9_crossed_57, i19]
          exact ⟨fun _ => hQ _, fun c => absurd (by decide) c⟩
        · rw [if_pos c5] at hQ
          exact m_often0 i19 (hQ _)
      · have c4 : ¬ -1 ≤ k.toInt := fun z => c3 (i_le.mpr z)
        have e : f_crossed m p k = (-1000000002) := by rw [f_crossed, if_pos c1, if_neg (fun z => c4 z.2)]
        rw [e] at hQ
        exact hQ _
    · have e : f_crossed m p k = (-1000000002) := by rw [f_crossed, if_pos c1, if_neg (fun z => c2 z.1)]
      rw [e] at hQ
      exact ⟨fun _ => hQ _, fun c => absurd rfl c⟩
  · have e : f_crossed m p k = (-1000000001) := if_neg c1
    rw [e] at hQ
    exact ⟨fun c => absurd rfl c, fun _ => hQ _⟩
theorem m_isPiece0 (h12 : tw_I σ a0 12 = 0) {i j : Int32} {Q : Int32 → tw_S → Prop} (hQ : Q 0 σ) : wp_X9_isPiece g σ a0 i j Q := by
  unfold wp_X9_isPiece
  rw [h12]
  refine sp_inI (a := 0) (b := 0) rfl rfl (fun c2 => ?_) (fun c2 => ?_)
  · refine ⟨fun c => absurd c (by decide), fun _ => ?_⟩
    obtain rfl := m_zero c2
    rw [h12]
    refine sp_in (fun c3 c4 => ?_) (fun _ => ⟨fun _ => hQ, fun c => absurd rfl c⟩)
    have z1 : ((nI 0 + 1 : Int32).toInt64).toInt = 1 := rfl
    have z2 : ((0 : Int32).toInt64).toInt = 0 := rfl
    rw [z1] at c3
    rw [z2] at c4
    omega
  · exact ⟨fun _ => hQ, fun c => absurd rfl c⟩
theorem m1_table (hn : tw_A τ (tw_R g a0 0) = sm_now) (h12 : tw_I τ a0 12 = 0) {m i j s d : Int32} {Q : Int32 → tw_S → Prop} (hQ : ∀ τ2, Q (f_table m s) τ2) : wp_X9_table g τ a0 m i j s d Q := by
  unfold wp_X9_table
  refine m_isMachine (fun c1 => ?_) (fun c1 => ?_)
  · refine ⟨fun c => absurd c (by decide), fun _ => ?_⟩
    obtain ⟨q, hq, rfl⟩ := m_two c1
    refine m_isState hq hn (fun c2 => ?_) (fun c2 => ?_)
    · have e : f_table (nI q) s = (-1000000002) := if_pos ⟨c1, c2⟩
      rw [e] at hQ
      refine ⟨fun _ => ?_, fun c => absurd c (by decide)⟩
      refine sp_inI (a := 0) (b := 1) rfl rfl (fun c3 => ?_) (fun c3 => ?_)
      · refine ⟨fun c => absurd c (by decide), fun _ => ?_⟩
        exact m_isPiece0 h12 ⟨fun c => absurd rfl c, fun _ => hQ _⟩
      · exact ⟨fun _ => hQ _, fun c => absurd rfl c⟩
    · have e : f_table (nI q) s = (-1000000001) := if_neg (fun z => c2 z.2)
      rw [e] at hQ
      exact ⟨fun c => absurd rfl c, fun _ => hQ _⟩
  · have e : f_table m s = (-1000000001) := if_neg (fun z => c1 z.1)
    rw [e] at hQ
    exact ⟨fun _ => hQ _, fun c => absurd rfl c⟩
theorem m1_alike (h12 : tw_I τ a0 12 = 0) {m i j a b : Int32} {Q : Int32 → tw_S → Prop} (hQ : ∀ τ2, Q (f_alike m) τ2) : wp_X9_alike g τ a0 m i j a b Q := by
  unfold wp_X9_alike
  refine m_isMachine (fun c1 => ?_) (fun c1 => ?_)
  · have e : f_alike m = (-1000000002) := if_pos c1
    rw [e] at hQ
    refine ⟨fun _ => ?_, fun c => absurd c (by decide)⟩
    exact m_isPiece0 h12 ⟨fun _ => hQ _, fun c => absurd rfl c⟩
  · have e : f_alike m = (-1000000001) := if_neg c1
    rw [e] at hQ
    exact ⟨fun c => absurd rfl c, fun _ => hQ _⟩
theorem m_shl {j : Nat} (hj : j ≤ 6) : (1 : Int32) <<< (nI j &&& 31) = nI (2 ^ j) := by
  have h : j = 0 ∨ j = 1 ∨ j = 2 ∨ j = 3 ∨ j = 4 ∨ j = 5 ∨ j = 6 := by omega
  rcases h with rfl | rfl | rfl | rfl | rfl | rfl | rfl <;> rfl
theorem m1_turned (hd : m_d g a0) (hn : tw_A τ (tw_R g a0 0) = sm_now) (h12 : tw_I τ a0 12 = 0) {m w : Int32} {Q : Int32 → tw_S → Prop} (hQ : ∀ τ2, Q (f_turned m w) τ2) : wp_X9_turned g τ a0 m w Q := by
  unfold wp_X9_turned
  refine m_isMachine (fun c1 => ?_) (fun c1 => ?_)
  · refine ⟨fun _ => ?_, fun c => absurd c (by decide)⟩
    refine sp_inI (a := 0) (b := 6) rfl rfl (fun c2 => ?_) (fun c2 => ?_)
    · refine ⟨fun _ => ?_, fun c => absurd c (by decide)⟩
      have e : f_turned m w = 0 := by rw [f_turned, if_pos c1, if_pos c2]
      rw [e] at hQ
      obtain ⟨q, hq, rfl⟩ := m_two c1
      obtain ⟨j, _, hj, rfl, _⟩ := inI_nI (lo := 0) (hi := 6) c2
      have hj : j ≤ 6 := hj
      rw [h12]
      refine ⟨1, ?_⟩
      rw [wl_X9_turned_33]
      refine ⟨fun _ σ12 e12 => ?_, fun c => absurd (by decide) c⟩
      have hn12 : tw_A σ12 (tw_R g a0 0) = sm_now := by rw [e12, tw_A_sI]; exact hn
      have p6 : (2 : Nat) ^ j ≤ 64 := by
        have h : j = 0 ∨ j = 1 ∨ j = 2 ∨ j = 3 ∨ j = 4 ∨ j = 5 ∨ j = 6 := by omega
        rcases h with rfl | rfl | rfl | rfl | rfl | rfl | rfl <;> decide
      refine lp_up (W := fun n i σ => wl_X9_turned_70 g a0 (nI q) (nI j) 0 Q _ n 0 i σ) (I := fun _ σ => tw_A σ (tw_R g a0 0) = sm_now) (2 ^ j) ?_ ?_ 0 (Nat.zero_le _) σ12 hn12
      · intro n i σ hi i1 ih
        show wl_X9_turned_70 g a0 (nI q) (nI j) 0 Q _ (n + 1) 0 (nI i) σ
        rw [wl_X9_turned_70, m_shl hj, nI_1]
        have e00 : (0 : Int32) + 0 = 0 := rfl
        rw [e00]
        refine ⟨fun c => absurd c (nI_ge hi (by omega)), fun _ => ?_⟩
        refine lp_up (I := fun _ σ => tw_A σ (tw_R g a0 0) = sm_now) j ?_ ?_ 0 (Nat.zero_le _) σ i1
        · intro n2 i2 σ16 hi2 j1 ih2
          rw [wl_X9_turned_81, nI_1]
          refine ⟨fun c => absurd c (nI_ge hi2 (by omega)), fun _ => ⟨vp_in_nI (by omega) (by decide), fun σ17 e17 => ih2 σ17 ?_⟩⟩
          rw [e17, tw_A_sA, if_neg (hd 0 11 (by decide) (by decide) (by decide))]
          exact j1
        · intro n2 σ17 j1
          rw [wl_X9_turned_81]
          refine ⟨fun _ => ?_, fun c => absurd (nI_le (Nat.le_refl j) (by omega)) c⟩
          refine m1_runs hd j1 hq fun τ2 k2 i14 _ _ _ => ?_
          refine ⟨fun _ => ?_, fun c => absurd (i14.symm.trans c) (by decide)⟩
          have j2 : tw_A τ2 (tw_R g a0 0) = sm_now := (k2.2 0 (by decide) (by decide)).trans j1
          refine lp_up (I := fun _ σ => tw_A σ (tw_R g a0 0) = sm_now) j ?_ ?_ 0 (Nat.zero_le _) τ2 j2
          · intro n3 i3 σ22 hi3 j3 ih3
            rw [wl_X9_turned_129, nI_1]
            refine ⟨fun c => absurd c (nI_ge hi3 (by omega)), fun _ => ⟨vp_in_nI (by omega) (by decide), fun σ23 e23 => ih3 σ23 ?_⟩⟩
            rw [e23, tw_A_sA, if_neg (hd 0 11 (by decide) (by decide) (by decide))]
            exact j3
          · intro n3 σ23 j3
            rw [wl_X9_turned_129]
            refine ⟨fun _ => ?_, fun c => absurd (nI_le (Nat.le_refl j) (by omega)) c⟩
            refine m1_runs hd j3 hq fun τ3 k3 _ _ _ _ => ?_
            exact ⟨fun _ => ih τ3 ((k3.2 0 (by decide) (by decide)).trans j3), fun c => absurd rfl c⟩
      · intro n σ i1
        show wl_X9_turned_70 g a0 (nI q) (nI j) 0 Q _ (n + 1) 0 (nI (2 ^ j)) σ
        rw [wl_X9_turned_70, m_shl hj]
        refine ⟨fun _ σ33 e33 => ⟨1, ?_⟩, fun c => absurd (nI_le (Nat.le_refl _) (by omega)) c⟩
        rw [wl_X9_turned_200]
        exact ⟨fun _ => hQ _, fun c => absurd (by decide) c⟩
    · have e : f_turned m w = (-1000000002) := by rw [f_turned, if_pos c1, if_neg c2]
      rw [e] at hQ
      exact ⟨fun c => absurd rfl c, fun _ => hQ _⟩
  · have e : f_turned m w = (-1000000001) := if_neg c1
    rw [e] at hQ
    exact ⟨fun c => absurd rfl c, fun _ => hQ _⟩
end M2
