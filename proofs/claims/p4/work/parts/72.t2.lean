/-! ===== the class reads a text: moves, the whole ===== -/
section T2
variable {g : tw_G} {ε : e_P} {P : g_P} {σ s : tw_S} {a b c y n p q : Nat} {z k : Int32} {mv : Nat → Int32}
theorem c_size {Q : Int32 → tw_S → Prop} (h : Q (tw_I σ y 1) σ) : wp_X3_size g σ y Q := h
theorem z_1 {x : Int32} (hz : inI z 1 4) (h : inI x (0 : Int32).toInt (z - 1).toInt) : inI x 0 3 ∧ x.toInt < z.toInt := by
  obtain ⟨j, j1, j4, rfl, _⟩ := inI_nI (lo := 1) (hi := 4) hz
  have e : (nI j - 1).toInt = (j : Int) - 1 := pk_sub_toInt (a := j) (b := 1) (by omega) (by decide)
  have e2 : (nI j).toInt = (j : Int) := nI_toInt (by omega)
  have := h.1
  have := h.2
  have := e_0
  exact ⟨⟨by omega, by omega⟩, by omega⟩
set_option maxHeartbeats 1000000 in
theorem c_move (h : CB g ε P y n z mv 0 q s) (hqp : t_s ε.1 n q = t_s ε.1 n p) (hp : p ≤ n) (hz : inI z 1 4) {Q : tw_S → Prop} (hT : t_move (t_at ε.1 n) (t_s ε.1 n) z mv (fun k q => ∀ s, CB g ε P y n z mv k q s → ¬ k = 0 → t_s ε.1 n q = q → Q s) (fun mv2 p2 => ∀ s, CB g ε P y n z mv2 0 p2 s → Q s) p) : wp_X6_readMove g s P.2.2.1 y Q := by
  unfold wp_X6_readMove
  unfold t_move at hT
  have ss := t_s_s (f := ε.1) hp
  refine c_up h fun s1 h1 => ?_
  rw [hqp] at h1 ⊢
  refine ⟨fun c => ?_, fun c => ?_⟩
  · rw [if_neg c] at hT
    refine c_letter h1 ss (by decide) (fun c1 s4 h4 => ?_) (fun c1 s4 h4 => ?_)
    · rw [t_letter, if_pos c1, t_fig] at hT
      refine c_size ?_
      rw [cb_z h4]
      refine c_fig h4 (fun d1 d2 s7 h7 => ?_) (fun d1 d2 s7 h7 => ?_) (fun d1 s7 h7 => ?_)
      · rw [if_pos d1, if_pos d2, t_sign] at hT
        have hx := z_1 hz d2
        refine c_sign h7 hx.1 hx.2 (fun e1 s9 h9 => ?_) (fun e1 e2 s9 h9 => ?_) (fun e1 e2 s9 h9 => ?_)
        · rw [if_pos e1] at hT
          have hk : ¬ (1 : Int32) = 0 := by decide
          have hs := t_s_s (f := ε.1) (cb_le h7)
          have hq := fun s h2 => hT s h2 hk hs
          exact xg_size fun _ => ff_fig h9 hk hs fun _ _ h4 => ff_side h4 hk hs fun _ _ h5 => ff_letter h5 hk hs fun _ h6 => ⟨fun _ => hq _ h6, fun w => absurd ((cb_k h6).symm.trans w) hk⟩
        · rw [if_neg e1, if_pos e2, t_fig] at hT
          have hc := i_ne1 (t_so_in _) e1
          refine c_size ?_
          rw [cb_z h9]
          refine c_fig h9 (fun f1 f2 s13 h13 => ?_) (fun f1 f2 s13 h13 => ?_) (fun f1 s13 h13 => ?_)
          · rw [if_pos f1, if_pos f2, t_side] at hT
            refine c_side h13 (fun g1 s15 h15 => ?_) (fun g1 g2 s15 h15 => ?_) (fun g1 g2 s15 h15 => ?_)
            · rw [if_pos g1, t_letter] at hT
              refine c_letter h15 rfl (by decide) (fun i1 s17 h17 => ?_) (fun i1 s17 h17 => ?_)
              · rw [if_pos i1] at hT
                exact ⟨fun w => absurd (cb_k h17) w, fun _ => c_put h17 hx.1 hx.2 hc fun s19 h19 => hT s19 h19⟩
              · rw [if_neg i1] at hT
                have hk : ¬ (1 : Int32) = 0 := by decide
                have hs := t_s_s (f := ε.1) (cb_le h15)
                have hq := fun s h2 => hT s h2 hk hs
                exact ⟨fun _ => hq _ h17, fun w => absurd ((cb_k h17).symm.trans w) hk⟩
            · rw [if_neg g1, if_pos g2, t_letter] at hT
              refine c_letter h15 rfl (by decide) (fun i1 s17 h17 => ?_) (fun i1 s17 h17 => ?_)
              · rw [if_pos i1] at hT
                exact ⟨fun w => absurd (cb_k h17) w, fun _ => c_put h17 hx.1 hx.2 hc fun s19 h19 => hT s19 h19⟩
              · rw [if_neg i1] at hT
                have hk : ¬ (1 : Int32) = 0 := by decide
                have hs := t_s_s (f := ε.1) (cb_le h15)
                have hq := fun s h2 => hT s h2 hk hs
                exact ⟨fun _ => hq _ h17, fun w => absurd ((cb_k h17).symm.trans w) hk⟩
            · rw [if_neg g1, if_neg g2] at hT
              have hk : ¬ (1 : Int32) = 0 := by decide
              have hs := t_s_s (f := ε.1) (cb_le h13)
              have hq := fun s h2 => hT s h2 hk hs
              exact ff_letter h15 hk hs fun _ h6 => ⟨fun _ => hq _ h6, fun w => absurd ((cb_k h6).symm.trans w) hk⟩
          · rw [if_pos f1, if_neg f2] at hT
            have hk : ¬ (2 : Int32) = 0 := by decide
            have hs := t_s_s (f := ε.1) (cb_le h9)
            have hq := fun s h2 => hT s h2 hk hs
            exact ff_side h13 hk hs fun _ _ h5 => ff_letter h5 hk hs fun _ h6 => ⟨fun _ => hq _ h6, fun w => absurd ((cb_k h6).symm.trans w) hk⟩
          · rw [if_neg f1] at hT
            have hk : ¬ (1 : Int32) = 0 := by decide
            have hs := t_s_s (f := ε.1) (cb_le h9)
            have hq := fun s h2 => hT s h2 hk hs
            exact ff_side h13 hk hs fun _ _ h5 => ff_letter h5 hk hs fun _ h6 => ⟨fun _ => hq _ h6, fun w => absurd ((cb_k h6).symm.trans w) hk⟩
        · rw [if_neg e1, if_neg e2] at hT
          have hk : ¬ (4 : Int32) = 0 := by decide
          have hs := t_s_s (f := ε.1) (cb_le h7)
          have hq := fun s h2 => hT s h2 hk hs
          exact xg_size fun _ => ff_fig h9 hk hs fun _ _ h4 => ff_side h4 hk hs fun _ _ h5 => ff_letter h5 hk hs fun _ h6 => ⟨fun _ => hq _ h6, fun w => absurd ((cb_k h6).symm.trans w) hk⟩
      · rw [if_pos d1, if_neg d2] at hT
        have hk : ¬ (2 : Int32) = 0 := by decide
        have hs := t_s_s (f := ε.1) (cb_le h4)
        have hq := fun s h2 => hT s h2 hk hs
        exact ff_sign h7 hk hs fun _ _ h3 => xg_size fun _ => ff_fig h3 hk hs fun _ _ h4 => ff_side h4 hk hs fun _ _ h5 => ff_letter h5 hk hs fun _ h6 => ⟨fun _ => hq _ h6, fun w => absurd ((cb_k h6).symm.trans w) hk⟩
      · rw [if_neg d1] at hT
        have hk : ¬ (1 : Int32) = 0 := by decide
        have hs := t_s_s (f := ε.1) (cb_le h4)
        have hq := fun s h2 => hT s h2 hk hs
        exact ff_sign h7 hk hs fun _ _ h3 => xg_size fun _ => ff_fig h3 hk hs fun _ _ h4 => ff_side h4 hk hs fun _ _ h5 => ff_letter h5 hk hs fun _ h6 => ⟨fun _ => hq _ h6, fun w => absurd ((cb_k h6).symm.trans w) hk⟩
    · rw [t_letter, if_neg c1] at hT
      have hk : ¬ (1 : Int32) = 0 := by decide
      have hs := ss
      have hq := fun s h2 => hT s h2 hk hs
      exact xg_size fun _ => ff_fig h4 hk hs fun _ _ h2 => ff_sign h2 hk hs fun _ _ h3 => xg_size fun _ => ff_fig h3 hk hs fun _ _ h4 => ff_side h4 hk hs fun _ _ h5 => ff_letter h5 hk hs fun _ h6 => ⟨fun _ => hq _ h6, fun w => absurd ((cb_k h6).symm.trans w) hk⟩
  · rw [if_pos c] at hT
    refine c_blame0 h1 fun s20 h20 => ?_
    have hk : ¬ (3 : Int32) = 0 := by decide
    have hs := ss
    have hq := fun s h2 => hT s h2 hk hs
    exact ff_letter h20 hk hs fun _ h1 => xg_size fun _ => ff_fig h1 hk hs fun _ _ h2 => ff_sign h2 hk hs fun _ _ h3 => xg_size fun _ => ff_fig h3 hk hs fun _ _ h4 => ff_side h4 hk hs fun _ _ h5 => ff_letter h5 hk hs fun _ h6 => ⟨fun _ => hq _ h6, fun w => absurd ((cb_k h6).symm.trans w) hk⟩
theorem c_loopF (h : CB g ε P y n z mv k q s) (hk : ¬ k = 0) {Q : Int32 → tw_S → Prop} (hQ : Q k s) (d : Nat) (x : Int32) : wl_X6_readInto_30 g P.2.2.1 y Q (fun σ13 => Q (tw_I σ13 P.2.2.1 3) σ13) (d + 1) x s := by
  rw [wl_X6_readInto_30]
  have e : Q (tw_I s P.2.2.1 3) s := by rw [cb_k h]; exact hQ
  exact ⟨fun _ => e, fun _ => ⟨fun _ => e, fun c => absurd ((cb_k h).symm.trans c) hk⟩⟩
theorem c_loop (hz : inI z 1 4) {Q : Int32 → tw_S → Prop} : ∀ (d i : Nat) (mv : Nat → Int32) (p q : Nat) (s : tw_S), i + d = 240 → CB g ε P y n z mv 0 q s → t_s ε.1 n q = t_s ε.1 n p → p ≤ n → t_loop (t_at ε.1 n) (t_s ε.1 n) z (fun k q => ∀ z mv s, CB g ε P y n z mv k q s → ¬ k = 0 → t_s ε.1 n q = q → Q k s) (∀ mv p s, CB g ε P y n z mv 0 p s → Q 0 s) d mv p → wl_X6_readInto_30 g P.2.2.1 y Q (fun σ13 => Q (tw_I σ13 P.2.2.1 3) σ13) (d + 1) (nI i) s := by
  intro d
  induction d with
  | zero =>
    intro i mv p q s hi h hqp hp hT
    obtain rfl : i = 240 := by omega
    rw [wl_X6_readInto_30]
    refine ⟨fun _ => ?_, fun c => absurd (i_le.mpr (Int.le_refl _)) c⟩
    rw [cb_k h]
    exact hT mv q s h
  | succ d ih =>
    intro i mv p q s hi h hqp hp hT
    rw [t_loop] at hT
    rw [wl_X6_readInto_30, nI_1]
    refine ⟨fun c => absurd c (nI_nle2 (N := 240) (by omega) (by decide)), fun _ => ⟨fun c => absurd (cb_k h) c, fun _ => c_up h fun s9 h9 => ?_⟩⟩
    rw [hqp] at h9 ⊢
    refine ⟨fun c => ?_, fun c => ?_⟩
    · rw [if_pos c] at hT
      rw [cb_k h9]
      exact hT mv _ s9 h9
    · rw [if_neg c] at hT
      exact c_move h9 (t_s_s hp) hp hz (m_move (fun k q hk s hs h1 h2 => c_loopF hs h1 (hk z mv s hs h1 h2) _ _) (fun mv2 p2 h2 s hs => ih (i + 1) mv2 p2 p2 s (by omega) hs rfl (cb_le hs) h2) p hT)
theorem c_into (h : XI g ε P σ) (hy : tw_is g 3 y) (hn : n ≤ 240) (en : P.2.2.2.1 = nI n) {Q : Int32 → tw_S → Prop} (hT : t_text (t_at ε.1 n) (t_s ε.1 n) (fun k q => ∀ z mv s, CB g ε P y n z mv k q s → ¬ k = 0 → t_s ε.1 n q = q → Q k s) (fun z => ∀ mv p s, CB g ε P y n z mv 0 p s → Q 0 s)) : wp_X6_readInto g σ P.2.2.1 y Q := by
  unfold wp_X6_readInto
  intro s1 e1 s2 e2
  have t := xTx h
  have h1 : XI g ε P s1 := e1 ▸ xi_62 h t ⟨by decide, by decide⟩
  have h2 : XI g ε P s2 := e2 ▸ xi_I h1 t rfl
  have k2 : CB g ε P y n (tw_I s2 y 1) (tw_A s2 (tw_R g y 0)) 0 0 s2 := by
    refine ⟨h2, hy, ⟨hn, Nat.zero_le _⟩, en, ?_, ?_, rfl, fun _ _ => rfl⟩
    · rw [e2, tw_I_sI, if_pos rfl, if_neg (by decide), e1, tw_I_sI, if_pos rfl, if_pos rfl]; rfl
    · rw [e2, tw_I_sI, if_pos rfl, if_pos rfl]
  have ss := t_s_s (f := ε.1) (Nat.zero_le n)
  have one : inI (1 : Int32) 1 4 := ⟨by decide, by decide⟩
  refine c_empty k2 one fun s3 h3 => c_up h3 fun s4 h4 => ⟨fun c => ?_, fun c => ?_⟩
  · unfold t_text at hT
    rw [if_pos c] at hT
    have L : t_loop (t_at ε.1 n) (t_s ε.1 n) 1 (fun k q => ∀ z mv s, CB g ε P y n z mv k q s → ¬ k = 0 → t_s ε.1 n q = q → Q k s) (∀ mv p s, CB g ε P y n 1 mv 0 p s → Q 0 s) (239 + 1) (fun _ => -1) 0 := by
      rw [t_loop, if_pos c]
      exact hT
    exact ⟨_, c_loop one 240 0 _ 0 _ s4 (by decide) h4 ss (Nat.zero_le _) L⟩
  · unfold t_text at hT
    rw [if_neg c] at hT
    unfold wp_X6_readSize
    refine c_letter h4 ss (by decide) (fun c1 s5 h5 => ?_) (fun c1 s5 h5 => ?_)
    · rw [t_letter, if_pos c1, t_fig] at hT
      refine c_fig h5 (fun d1 d2 s6 h6 => ?_) (fun d1 d2 s6 h6 => ?_) (fun d1 s6 h6 => ?_)
      · rw [if_pos d1, if_pos d2, t_letter] at hT
        refine c_letter h6 rfl (by decide) (fun f1 s7 h7 => ?_) (fun f1 s7 h7 => ?_)
        · rw [if_pos f1] at hT
          exact ⟨fun w => absurd (cb_k h7) w, fun _ => c_empty h7 d2 fun s8 h8 => ⟨_, c_loop d2 240 0 _ _ _ s8 (by decide) h8 rfl (cb_le h8) hT⟩⟩
        · rw [if_neg f1] at hT
          have hk : ¬ (1 : Int32) = 0 := by decide
          exact ⟨fun _ => ⟨1, c_loopF h7 hk (hT _ _ s7 h7 hk (t_s_s (cb_le h6))) 0 0⟩, fun w => absurd ((cb_k h7).symm.trans w) hk⟩
      · rw [if_pos d1, if_neg d2] at hT
        have hk : ¬ (2 : Int32) = 0 := by decide
        have hs := t_s_s (f := ε.1) (cb_le h5)
        exact ff_letter h6 hk hs fun s7 h7 => ⟨fun _ => ⟨1, c_loopF h7 hk (hT _ _ s7 h7 hk hs) 0 0⟩, fun w => absurd ((cb_k h7).symm.trans w) hk⟩
      · rw [if_neg d1] at hT
        have hk : ¬ (1 : Int32) = 0 := by decide
        have hs := t_s_s (f := ε.1) (cb_le h5)
        exact ff_letter h6 hk hs fun s7 h7 => ⟨fun _ => ⟨1, c_loopF h7 hk (hT _ _ s7 h7 hk hs) 0 0⟩, fun w => absurd ((cb_k h7).symm.trans w) hk⟩
    · rw [t_letter, if_neg c1] at hT
      have hk : ¬ (1 : Int32) = 0 := by decide
      exact ff_fig h5 hk ss fun _ s6 h6 => ff_letter h6 hk ss fun s7 h7 => ⟨fun _ => ⟨1, c_loopF h7 hk (hT _ _ s7 h7 hk ss) 0 0⟩, fun w => absurd ((cb_k h7).symm.trans w) hk⟩
theorem z_remember (hX : XI g ε P σ) (hb : tw_is g 2 b) (hc : tw_is g 0 c) (ha : tw_is g 8 a) {Q : tw_S → Prop} (hQ : ∀ s, XI g ε P s → tw_I s (tw_R g a 5) 1 = tw_I σ (tw_R g a 5) 1 → Q s) : wp_X2_remember g σ b c Q := by
  unfold wp_X2_remember
  have hd : tw_is g 3 (tw_R g a 5) := kd hX ha (d := 3) (n := 0) (by decide)
  refine x_slotAt hX hb ⟨fun _ z4 _ s5 e5 z6 _ s7 e7 => hQ s7 ?_ ?_, fun _ c => (nomatch c)⟩ (fun y hy => ⟨fun c => (nomatch c), fun y2 e => ?_⟩)
  · have h5 : XI g ε P s5 := e5 ▸ xi_I hX hb rfl
    exact e7 ▸ xi_I h5 hb rfl
  · rw [e7, xs_I hb hd (by decide), e5, xs_I hb hd (by decide)]
  · obtain rfl : y = y2 := Option.some.inj e
    have k1 : tw_is g 3 (tw_R g y 0) := kd hX hy (d := 3) (n := 0) (by decide)
    have k2 : tw_is g 3 (tw_R g y 1) := kd hX hy (d := 3) (n := 0) (by decide)
    have k3 : tw_is g 3 (tw_R g c 0) := kd hX hc (d := 3) (n := 0) (by decide)
    have k4 : tw_is g 3 (tw_R g c 1) := kd hX hc (d := 3) (n := 0) (by decide)
    have n1 : tw_R g a 5 ≠ tw_R g y 0 := fun e => absurd (hX.1.2.1 (8, 5, 3, 0) (by decide) (0, 0, 3, 0) (by decide) a y ha hy e).1 (by decide)
    have n2 : tw_R g a 5 ≠ tw_R g y 1 := fun e => absurd (hX.1.2.1 (8, 5, 3, 0) (by decide) (0, 1, 3, 0) (by decide) a y ha hy e).1 (by decide)
    unfold wp_X0_become wp_X3_become
    intro t1 f1 t2 f2 t3 f3 t4 f4 z9 _ s10 e10 z11 _ s12 e12
    have x1 : XI g ε P t1 := f1 ▸ xi_31 hX k1 (hX.2.1 _ k3)
    have x2 : XI g ε P t2 := f2 ▸ xi_Aq x1 k1 rfl
    have x3 : XI g ε P t3 := f3 ▸ xi_31 x2 k2 (x2.2.1 _ k4)
    have x4 : XI g ε P t4 := f4 ▸ xi_Aq x3 k2 rfl
    have x5 : XI g ε P s10 := e10 ▸ xi_I x4 hb rfl
    refine hQ s12 (e12 ▸ xi_I x5 hb rfl) ?_
    rw [e12, xs_I hb hd (by decide), e10, xs_I hb hd (by decide), f4, tw_I_sA, f3, tw_I_sI, if_neg n2, f2, tw_I_sA, f1, tw_I_sI, if_neg n1]
theorem y_machine (hX : XI g ε P σ) (hA : g_A g P a) (h8 : ∀ y, tw_is g 8 y → y = a) (hn : n ≤ 240) (en : P.2.2.2.1 = nI n) {x : Int32} {Q : Int32 → tw_S → Prop} (h1 : inI x 0 1 → ∀ s, XI g (ε.1, (t_res ε.1 n).2) (P.1, P.2.1, P.2.2.1, 0, P.2.2.2.2) s → Q (t_res ε.1 n).1 s) (h0 : ¬ inI x 0 1 → Q (-1000000001) σ) : wp_X8_machine g σ a x Q := by
  unfold wp_X8_machine wp_X6_place
  refine x_isMachine (fun hx => ⟨fun _ => ?_, fun c => absurd c (by decide)⟩) (fun hx => ⟨fun c => absurd rfl c, fun _ => h0 hx⟩)
  have hy := k8_5 hX hA
  have hT := t_res_P (Φ := fun r => ∀ s, XI g (ε.1, r.2) (P.1, P.2.1, P.2.2.1, 0, P.2.2.2.2) s → Q r.1 s) (h1 hx)
  rw [← hA.2.2.1]
  refine c_into hX hy hn en (m_text (fun k q hF z mv s4 h4 hk hs => ?_) (fun z hF mv p s4 h4 => ?_) hT)
  · refine ⟨fun _ s9 e9 => ?_, fun c => absurd c hk⟩
    rw [cb_p h4] at e9
    have h9 : XI g (ε.1, nI q) P s9 := e9 ▸ xi_812 h4.1 hA.1 h8
    exact x_tclear h9 fun s10 h10 => xg_remember h10 (k8_1 hX hA) (k8_0 hX hA) fun s11 h11 => ⟨fun c => absurd c hk, fun _ => hF s11 h11⟩
  · refine ⟨fun c => absurd rfl c, fun _ s18 e18 s19 e19 => ?_⟩
    have h18 : XI g (ε.1, -1) P s18 := e18 ▸ xi_812 h4.1 hA.1 h8
    have d18 : tw_I s18 (tw_R g a 5) 1 = z := by rw [e18, xs_I hA.1 hy (by decide)]; exact cb_z h4
    have h19 : XI g (ε.1, -1) (P.1, P.2.1, P.2.2.1, 0, P.2.2.2.2) s19 := e19 ▸ xi_61 h18
    have d19 : tw_I s19 (tw_R g a 5) 1 = z := by rw [e19, xs_I (xTx h18) hy (by decide)]; exact d18
    refine z_remember h19 (k8_1 hX hA) (k8_0 hX hA) hA.1 fun s20 h20 d20 => ⟨fun _ => ?_, fun c => absurd rfl c⟩
    rw [d19] at d20
    have fin : ∀ y23, tw_is g 3 y23 → wp_X3_become g s20 y23 (tw_R g a 5) (fun σ24 => wp_X3_size g σ24 (tw_R g a 5) (fun r26 σ25 => Q r26 σ25)) := by
      intro y23 h23
      unfold wp_X3_become
      intro t1 f1 t2 f2
      have x1 : XI g (ε.1, -1) (P.1, P.2.1, P.2.2.1, 0, P.2.2.2.2) t1 := f1 ▸ xi_31 h20 h23 (h20.2.1 _ hy)
      have x2 : XI g (ε.1, -1) (P.1, P.2.1, P.2.2.1, 0, P.2.2.2.2) t2 := f2 ▸ xi_Aq x1 h23 rfl
      have d2 : tw_I t2 (tw_R g a 5) 1 = z := by
        rw [f2, tw_I_sA, f1, tw_I_sI, d20]
        by_cases cy : tw_R g a 5 = y23
        · rw [if_pos cy, if_pos rfl]
        · rw [if_neg cy]
      refine c_size ?_
      rw [d2]
      exact hF t2 x2
    exact xg_0at h20 (k8_0 hX hA) fun y23 h23 => fin y23 h23
end T2
