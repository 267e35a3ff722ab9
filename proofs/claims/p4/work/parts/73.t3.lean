/-! ===== the model reads a text ===== -/
section T3
variable {g : tw_G} {ε : e_P} {w : h_P} {σ s : tw_S} {b n p q : Nat} {z k : Int32} {mv : Nat → Int32}
def HB (g : tw_G) (b : Nat) (ε : e_P) (w : h_P) (n p : Nat) (s : tw_S) : Prop := TI g b ε w 0 s ∧ (n ≤ 240 ∧ p ≤ n) ∧ w.2.1 = nI n ∧ tw_I s b 3 = nI p
/-- what is read so far: z states, the moves mv -/
def DB (g : tw_G) (b : Nat) (ε : e_P) (w : h_P) (n : Nat) (z : Int32) (mv : Nat → Int32) (p : Nat) (s : tw_S) : Prop := HB g b ε w n p s ∧ tw_A s (tw_R g b 6) 0 = z ∧ ∀ i, i < 16 → tw_A s (tw_R g b 6) (1 + i) = mv i
/-- a fault: its number, its place -/
def DF (g : tw_G) (b : Nat) (ε : e_P) (w : h_P) (n : Nat) (k : Int32) (q : Nat) (s : tw_S) : Prop := HB g b ε w n q s ∧ tw_I s b 5 = k
theorem hb_fed (h : HB g b ε w n p s) : tw_I s b 2 = nI n := h.1.1.2.2.2.2.2.2.2.2.2.1.trans h.2.2.1
theorem hb_row (h : HB g b ε w n p s) : tw_A s (tw_R g b 1) = ε.1 := h.1.1.2.2.2.2.2.2.2.2.2.2.2.1
theorem hb_p (h : HB g b ε w n p s) : tw_I s b 3 = nI p := h.2.2.2
theorem hb_le (h : HB g b ε w n p s) : p ≤ n := h.2.1.2
theorem hb_place {p2 : Nat} (h : HB g b ε w n p s) (hp : p2 ≤ n) : HB g b ε w n p2 (tw_sI s b 3 (nI p2)) := by
  have hn := h.2.1.1
  have e := nI_toInt (n := p2) (by omega)
  exact ⟨ti_3 h.1 (Int.le_refl _) ⟨by omega, by omega⟩, ⟨hn, hp⟩, h.2.2.1, mi_e⟩
theorem hb_I {j : Nat} {v : Int32} (h : HB g b ε w n p s) (hj : hf j = true) (h3 : j ≠ 3) : HB g b ε w n p (tw_sI s b j v) := ⟨ti_I h.1 hj h3, h.2.1, h.2.2.1, by rw [mi_n (Ne.symm h3)]; exact h.2.2.2⟩
theorem h_up (h : HB g b ε w n p s) {Q : Int32 → tw_S → Prop} (hQ : ∀ s2, HB g b ε w n (t_s ε.1 n p) s2 → tw_I s2 b 5 = tw_I s b 5 → tw_A s2 = tw_A s → Q (t_at ε.1 n (t_s ε.1 n p)) s2) : wp_X9_here g s b Q := by
  unfold wp_X9_here
  obtain ⟨k5, e5⟩ : ∃ v, v = tw_I s b 5 := ⟨_, rfl⟩
  obtain ⟨ka, ea⟩ : ∃ v, v = tw_A s := ⟨_, rfl⟩
  rw [← e5, ← ea] at hQ
  have KF : ∀ p s, HB g b ε w n p s → tw_I s b 5 = k5 → tw_A s = ka → ¬ (p < n ∧ ε.1 p = 32) → (∀ s2, HB g b ε w n (t_s ε.1 n p) s2 → tw_I s2 b 5 = k5 → tw_A s2 = ka → Q (t_at ε.1 n (t_s ε.1 n p)) s2) → (((tw_I s b 2) ≤ (tw_I s b 3)) → Q (-1 : Int32) s) ∧ (¬ ((tw_I s b 2) ≤ (tw_I s b 3)) → vp_in (tw_I s b 3) 240 ∧ Q (tw_A s (tw_R g b 1) (tw_I s b 3).toNatClampNeg) s) := by
    intro p s h h5 ha hb hQ
    rw [t_s_n hb] at hQ
    have hq := hQ s h h5 ha
    have hn := h.2.1.1
    have hp := h.2.1.2
    rw [hb_fed h, hb_p h, hb_row h, nI_clamp (by omega)]
    refine ⟨fun c => ?_, fun c => ?_⟩
    · rw [i_le, nI_toInt (by omega), nI_toInt (by omega)] at c
      have e : t_at ε.1 n p = -1 := if_neg (by omega)
      rw [e] at hq
      exact hq
    · rw [i_le, nI_toInt (by omega), nI_toInt (by omega)] at c
      have e : t_at ε.1 n p = ε.1 p := if_pos (by omega)
      rw [e] at hq
      exact ⟨vp_in_nI (by omega) (by decide), hq⟩
  have key : ∀ d p s, n - p = d → HB g b ε w n p s → tw_I s b 5 = k5 → tw_A s = ka → (∀ s2, HB g b ε w n (t_s ε.1 n p) s2 → tw_I s2 b 5 = k5 → tw_A s2 = ka → Q (t_at ε.1 n (t_s ε.1 n p)) s2) → wl_X9_here_0 g b Q (fun σ5 => (((tw_I σ5 b 2) ≤ (tw_I σ5 b 3)) → Q (-1 : Int32) σ5) ∧ (¬ ((tw_I σ5 b 2) ≤ (tw_I σ5 b 3)) → vp_in (tw_I σ5 b 3) 240 ∧ Q (tw_A σ5 (tw_R g b 1) (tw_I σ5 b 3).toNatClampNeg) σ5)) (d + 1) s := by
    intro d
    induction d with
    | zero =>
      intro p s hd h h5 ha hQ
      have hn := h.2.1.1
      have hp := h.2.1.2
      rw [wl_X9_here_0]
      refine ⟨fun _ => KF p s h h5 ha (fun z => absurd z.1 (by omega)) hQ, fun c => absurd ?_ c⟩
      rw [hb_fed h, hb_p h, i_le, nI_toInt (by omega), nI_toInt (by omega)]
      omega
    | succ d ih =>
      intro p s hd h h5 ha hQ
      have hn := h.2.1.1
      have hp := h.2.1.2
      rw [wl_X9_here_0]
      refine ⟨fun c => KF p s h h5 ha (fun z => ?_) hQ, fun c => ⟨?_, fun c3 => KF p s h h5 ha (fun z => c3 ?_) hQ, fun c3 s4 e4 => ?_⟩⟩
      · rw [hb_fed h, hb_p h, i_le, nI_toInt (by omega), nI_toInt (by omega)] at c
        have := z.1
        omega
      · rw [hb_p h]
        exact vp_in_nI (by omega) (by decide)
      · rw [hb_row h, hb_p h, nI_clamp (by omega)]
        exact z.2
      · rw [hb_row h, hb_p h, nI_clamp (by omega)] at c3
        rw [hb_p h, nI_1] at e4
        rw [t_s_b (by omega) c3] at hQ
        exact ih (p + 1) s4 (by omega) (by rw [e4]; exact hb_place h (by omega)) (by rw [e4, mi_n (by decide)]; exact h5) (by rw [e4]; exact ha) hQ
  exact ⟨_, key (n - p) p s rfl h e5.symm ea.symm hQ⟩
theorem d_here (h : DB g b ε w n z mv p s) (hq : t_s ε.1 n p = q) {Q : Int32 → tw_S → Prop} (hQ : ∀ s2, DB g b ε w n z mv q s2 → Q (t_at ε.1 n q) s2) : wp_X9_here g s b Q := by
  subst hq
  exact h_up h.1 fun s2 h2 _ ea => hQ s2 ⟨h2, by rw [ea]; exact h.2.1, by rw [ea]; exact h.2.2⟩
theorem d_hereF (h : DF g b ε w n k q s) (hq : t_s ε.1 n q = q) {Q : Int32 → tw_S → Prop} (hQ : ∀ s2, DF g b ε w n k q s2 → Q (t_at ε.1 n q) s2) : wp_X9_here g s b Q := h_up h.1 fun s2 h2 e5 _ => by
  rw [hq] at h2 ⊢
  exact hQ s2 ⟨h2, by rw [e5]; exact h.2⟩
theorem db_place {p2 : Nat} (h : DB g b ε w n z mv p s) (hp : p2 ≤ n) : DB g b ε w n z mv p2 (tw_sI s b 3 (nI p2)) := ⟨hb_place h.1 hp, h.2⟩
theorem db_next (h : DB g b ε w n z mv p s) (hp : p < n) : DB g b ε w n z mv (p + 1) (tw_sI s b 3 (nI (p + 1))) := db_place h hp
theorem db_w (h : DB g b ε w n z mv p s) : DF g b ε w n k p (tw_sI s b 5 k) := ⟨hb_I h.1 rfl (by decide), mi_e⟩
theorem d_must (h : DB g b ε w n z mv p s) (hq : t_s ε.1 n p = q) {c : Int32} (hc : ¬ c = -1) {Q : Int32 → tw_S → Prop} (h1 : t_at ε.1 n q = c → ∀ s2, DB g b ε w n z mv (q + 1) s2 → Q 1 s2) (h0 : ¬ t_at ε.1 n q = c → ∀ s2, DF g b ε w n 1 q s2 → Q 0 s2) : wp_X9_must g s b c Q := by
  unfold wp_X9_must wp_X9_wrong
  refine d_here h hq fun s2 h2 => ⟨fun c1 s4 e4 => h1 c1 s4 ?_, fun c1 s5 e5 => ⟨rfl, h0 c1 s5 (by rw [e5]; exact db_w h2)⟩⟩
  rw [hb_p h2.1, nI_1] at e4
  rw [e4]
  exact db_next h2 (t_at_lt (f := ε.1) (by rw [c1]; exact hc))
theorem d_fig (h : DB g b ε w n z mv p s) {lo hi : Int32} {Q : Int32 → tw_S → Prop} (h1 : inI (t_at ε.1 n (t_s ε.1 n p) - 48) 0 9 → inI (t_at ε.1 n (t_s ε.1 n p) - 48) lo.toInt hi.toInt → ∀ s2, DB g b ε w n z mv (t_s ε.1 n p + 1) s2 → tw_I s2 b 7 = t_at ε.1 n (t_s ε.1 n p) - 48 → Q 1 s2) (h2 : inI (t_at ε.1 n (t_s ε.1 n p) - 48) 0 9 → ¬ inI (t_at ε.1 n (t_s ε.1 n p) - 48) lo.toInt hi.toInt → ∀ s2, DF g b ε w n 2 (t_s ε.1 n p) s2 → Q 0 s2) (h0 : ¬ inI (t_at ε.1 n (t_s ε.1 n p) - 48) 0 9 → ∀ s2, DF g b ε w n 1 (t_s ε.1 n p) s2 → Q 0 s2) : wp_X9_isFigure g s b lo hi Q := by
  unfold wp_X9_isFigure wp_X9_wrong
  refine d_here h rfl fun s1 k1 s3 e3 => ?_
  have k3 : DB g b ε w n z mv (t_s ε.1 n p) s3 := by
    rw [e3]
    exact ⟨hb_I k1.1 rfl (by decide), k1.2⟩
  have f3 : tw_I s3 b 7 = t_at ε.1 n (t_s ε.1 n p) - 48 := by rw [e3, mi_e]
  have lt : inI (t_at ε.1 n (t_s ε.1 n p) - 48) 0 9 → t_s ε.1 n p < n := fun c => t_at_lt (f := ε.1) (fun e => absurd c.1 (by rw [e]; decide))
  rw [← f3] at h1 h2 h0 lt
  refine sp_inI (a := 0) (b := 9) rfl rfl (fun c9 => ⟨fun _ => ?_, fun c => absurd c (by decide)⟩) (fun c9 => ⟨fun c => absurd rfl c, fun _ s13 e13 => ⟨rfl, h0 c9 s13 (by rw [e13]; exact db_w k3)⟩⟩)
  refine sp_inI (a := lo.toInt) (b := hi.toInt) (j_i lo) (j_i hi) (fun cl => ⟨fun _ s10 e10 => ?_, fun c => absurd c (by decide)⟩) (fun cl => ⟨fun c => absurd rfl c, fun _ s11 e11 => ⟨rfl, h2 c9 cl s11 (by rw [e11]; exact db_w k3)⟩⟩)
  rw [hb_p k3.1, nI_1] at e10
  exact h1 c9 cl s10 (by rw [e10]; exact db_next k3 (lt c9)) (by rw [e10, mi_n (by decide)])
theorem d_so {x : Int32} {Q : Int32 → tw_S → Prop} (hQ : Q (t_so x) σ) : wp_X9_signOf g σ x Q := by
  unfold wp_X9_signOf
  refine ⟨fun c97 => ⟨fun c98 => ⟨fun c40 => ⟨fun c41 => ?_, fun c => ?_⟩, fun c => ?_⟩, fun c => ?_⟩, fun c => ?_⟩
  · have e : t_so x = -1 := by
      unfold t_so
      rw [if_neg c97, if_neg c98, if_neg c40, if_neg c41]
    rw [e] at hQ
    exact hQ
  · rw [c, show t_so 41 = 3 from by decide] at hQ; exact hQ
  · rw [c, show t_so 40 = 2 from by decide] at hQ; exact hQ
  · rw [c, show t_so 98 = 1 from by decide] at hQ; exact hQ
  · rw [c, show t_so 97 = 0 from by decide] at hQ; exact hQ
theorem mv_7 {t d : Int32} (ht : inI t 0 3) (hd : d = 0 ∨ d = 1) : inI ((2 : Int32) * t + d) (-1) 7 := by
  obtain ⟨i, hi, rfl⟩ := i_2 (N := 3) (by decide) ht
  have q : ∀ i, i < 4 → inI (((2 : Int32) * nI i) + 0) (-1) 7 ∧ inI (((2 : Int32) * nI i) + 1) (-1) 7 := by decide
  rcases hd with rfl | rfl
  · exact (q i (by omega)).1
  · exact (q i (by omega)).2
theorem d_fin (h : DB g b ε w n z mv p s) {j : Nat} (hj : j < 16) {v : Int32} (hv : inI v (-1) 7) {Q : Int32 → tw_S → Prop} (hT : t_letter (t_at ε.1 n) (t_s ε.1 n) 59 (fun k q => ∀ s, DF g b ε w n k q s → t_s ε.1 n q = q → Q 0 s) (fun p2 => ∀ s, DB g b ε w n z (upd mv j v) p2 s → p < p2 → Q 1 s) p) : vp_in (nI (1 + j)) 17 ∧ ∀ σ24, σ24 = (tw_sA s (tw_R g b 6) (upd (tw_A s (tw_R g b 6)) (1 + j) v)) → wp_X9_must g σ24 b (59 : Int32) (fun r26 σ25 => narrow .boolean (.int r26) = .int r26 ∧ Q r26 σ25) := by
  refine ⟨vp_in_nI (by omega) (by decide), fun s2 e2 => ?_⟩
  have k2 : DB g b ε w n z (upd mv j v) p s2 := by
    obtain ⟨⟨h1, h2, h3, h4⟩, h5, h6⟩ := h
    rw [e2]
    refine ⟨⟨ti_6 h1 (okv_n (by omega) hv), h2, h3, h4⟩, ?_, fun i hi => ?_⟩
    · rw [mi_s]
      unfold upd
      rw [if_neg (by omega)]
      exact h5
    · rw [mi_s]
      unfold upd
      by_cases c : i = j
      · rw [if_pos (by omega), if_pos c]
      · rw [if_neg (by omega), if_neg c]
        exact h6 i hi
  rw [t_letter] at hT
  have ge := t_s_ge (f := ε.1) (hb_le h.1)
  refine d_must k2 rfl (by decide) (fun c s3 h3 => ⟨rfl, ?_⟩) (fun c s3 h3 => ⟨rfl, ?_⟩)
  · rw [if_pos c] at hT
    exact hT s3 h3 (by omega)
  · rw [if_neg c] at hT
    exact hT s3 h3 (t_s_s (hb_le h.1))
set_option maxHeartbeats 1000000 in
theorem d_move (h : DB g b ε w n z mv q s) (hl : t_at ε.1 n q = 109) (hz : inI z 1 4) {Q : Int32 → tw_S → Prop} (hT : t_fig (t_at ε.1 n) (t_s ε.1 n) 0 (z - 1) (fun k q => ∀ s, DF g b ε w n k q s → t_s ε.1 n q = q → Q 0 s) (fun s => t_sign (t_at ε.1 n) (t_s ε.1 n) mv s (fun k q => ∀ s, DF g b ε w n k q s → t_s ε.1 n q = q → Q 0 s) (fun c => t_fig (t_at ε.1 n) (t_s ε.1 n) 0 (z - 1) (fun k q => ∀ s, DF g b ε w n k q s → t_s ε.1 n q = q → Q 0 s) (fun t => t_side (t_at ε.1 n) (t_s ε.1 n) (fun k q => ∀ s, DF g b ε w n k q s → t_s ε.1 n q = q → Q 0 s) (fun d => t_letter (t_at ε.1 n) (t_s ε.1 n) 59 (fun k q => ∀ s, DF g b ε w n k q s → t_s ε.1 n q = q → Q 0 s) (fun p2 => ∀ sf, DB g b ε w n z (upd mv ((4 : Int32) * s + c).toNatClampNeg ((2 : Int32) * t + d)) p2 sf → q < p2 → Q 1 sf))))) (q + 1)) : wp_X9_readsMove g s b Q := by
  unfold wp_X9_readsMove wp_X9_wrong
  intro s1 e1
  rw [hb_p h.1, nI_1] at e1
  have k1 : DB g b ε w n z mv (q + 1) s1 := by
    rw [e1]
    exact db_next h (t_at_lt (f := ε.1) (by rw [hl]; decide))
  have c0 : (0 : Int32).toNatClampNeg = 0 := rfl
  rw [c0, k1.2.1]
  have g1 := t_s_ge (f := ε.1) (hb_le k1.1)
  rw [t_fig] at hT
  refine d_fig k1 (fun d1 d2 s2 h2 f2 => ⟨fun _ => ?_, fun c => absurd c (by decide)⟩) (fun d1 d2 s2 h2 => ⟨fun c => absurd rfl c, fun _ => ?_⟩) (fun d1 s2 h2 => ⟨fun c => absurd rfl c, fun _ => ?_⟩)
  · rw [if_pos d1, if_pos d2, t_sign] at hT
    have hx := z_1 hz d2
    rw [f2]
    have g2 := t_s_ge (f := ε.1) (hb_le h2.1)
    refine d_here h2 rfl fun s5 h5 => d_so ⟨fun e1 z10 e10 => ?_, fun e1 s74 e74 => ⟨rfl, ?_⟩⟩
    · have hc := i_ne1 (t_so_in _) e1
      obtain ⟨j, hj, ej⟩ := c_ix hx.1 hc
      have ez : z10 = nI (1 + j) := by
        have e3 : (1 : Int32) + nI j = nI (1 + j) := nI_add 1 j
        rw [e10, Int32.add_assoc, ej, e3]
      rw [ej, nI_clamp (by omega)] at hT
      rw [ez, nI_clamp (by omega), h5.2.2 j hj]
      refine ⟨vp_in_nI (by omega) (by decide), fun e2 s13 e13 => ?_, fun e2 s72 e72 => ⟨rfl, ?_⟩⟩
      · rw [if_neg e1, if_pos e2, t_fig] at hT
        rw [hb_p h5.1, nI_1] at e13
        have k13 : DB g b ε w n z mv (t_s ε.1 n (t_s ε.1 n (q + 1) + 1) + 1) s13 := by
          rw [e13]
          exact db_next h5 (t_so_lt (f := ε.1) e1)
        rw [k13.2.1]
        have g3 := t_s_ge (f := ε.1) (hb_le k13.1)
        refine d_fig k13 (fun f1 f2 s14 h14 f14 => ⟨fun _ => ?_, fun c => absurd c (by decide)⟩) (fun f1 f2 s14 h14 => ⟨fun c => absurd rfl c, fun _ => ?_⟩) (fun f1 s14 h14 => ⟨fun c => absurd rfl c, fun _ => ?_⟩)
        · rw [if_pos f1, if_pos f2, t_side] at hT
          have ht := z_1 hz f2
          rw [f14]
          have g4 := t_s_ge (f := ε.1) (hb_le h14.1)
          have ss := t_s_s (f := ε.1) (hb_le h14.1)
          refine d_here h14 rfl fun s17 h17 => ⟨fun i1 => ⟨fun c => absurd rfl c, fun _ => d_here h17 ss fun s31 h31 => ⟨fun i2 s34 e34 => ⟨fun _ => ?_, fun c => absurd rfl c⟩, fun i2 s44 e44 => ⟨rfl, ?_⟩⟩⟩, fun i1 => ⟨fun _ s47 e47 => ⟨fun c => absurd c (by decide), fun _ => ?_⟩, fun c => absurd c (by decide)⟩⟩
          · rw [if_neg i1, if_pos i2] at hT
            rw [hb_p h31.1, nI_1] at e34
            have k34 := db_next h31 (t_at_lt (f := ε.1) (by rw [i2]; decide))
            rw [← e34] at k34
            exact d_fin k34 hj (mv_7 ht.1 (Or.inl rfl)) (m_letter (fun _ _ h => h) (fun p2 h2 sf hf hlt => h2 sf hf (by omega)) _ hT)
          · rw [if_neg i1, if_neg i2] at hT
            exact hT s44 (by rw [e44]; exact db_w h31) ss
          · rw [if_pos i1] at hT
            rw [hb_p h17.1, nI_1] at e47
            have k47 := db_next h17 (t_at_lt (f := ε.1) (by rw [i1]; decide))
            rw [← e47] at k47
            exact d_fin k47 hj (mv_7 ht.1 (Or.inr rfl)) (m_letter (fun _ _ h => h) (fun p2 h2 sf hf hlt => h2 sf hf (by omega)) _ hT)
        · rw [if_pos f1, if_neg f2] at hT
          exact hT s14 h14 (t_s_s (hb_le k13.1))
        · rw [if_neg f1] at hT
          exact hT s14 h14 (t_s_s (hb_le k13.1))
      · rw [if_neg e1, if_neg e2] at hT
        exact hT s72 (by rw [e72]; exact db_w h5) (t_s_s (hb_le h2.1))
    · rw [if_pos e1] at hT
      exact hT s74 (by rw [e74]; exact db_w h5) (t_s_s (hb_le h2.1))
  · rw [if_pos d1, if_neg d2] at hT
    exact hT s2 h2 (t_s_s (hb_le k1.1))
  · rw [if_neg d1] at hT
    exact hT s2 h2 (t_s_s (hb_le k1.1))
theorem d_loop (hz : inI z 1 4) {Q : Int32 → tw_S → Prop} : ∀ (d : Nat) (mv : Nat → Int32) (p q : Nat) (s : tw_S), n - p ≤ d → DB g b ε w n z mv q s → t_s ε.1 n q = t_s ε.1 n p → p ≤ n → t_loop (t_at ε.1 n) (t_s ε.1 n) z (fun k q => ∀ s, DF g b ε w n k q s → t_s ε.1 n q = q → Q 0 s) (∀ mv p s, DB g b ε w n z mv p s → Q 1 s) d mv p → wl_X9_reads_79 g b Q (fun σ31 => wp_X9_wrong g σ31 b (3 : Int32) (fun r33 σ32 => narrow .boolean (.int r33) = .int r33 ∧ Q r33 σ32)) (fun σ34 => wp_X9_wrong g σ34 b (1 : Int32) (fun r36 σ35 => narrow .boolean (.int r36) = .int r36 ∧ Q r36 σ35)) (fun σ37 => Q (0 : Int32) σ37) (fun σ38 => Q (1 : Int32) σ38) (d + 1) s := by
  intro d
  induction d with
  | zero =>
    intro mv p q s hd h hqp hp hT
    rw [wl_X9_reads_79]
    have ge := t_s_ge (f := ε.1) hp
    have e : t_at ε.1 n (t_s ε.1 n p) = -1 := if_neg (by omega)
    exact d_here h hqp fun s19 h19 => ⟨fun _ => hT mv _ s19 h19, fun c => absurd e c⟩
  | succ d ih =>
    intro mv p q s hd h hqp hp hT
    rw [t_loop] at hT
    rw [wl_X9_reads_79]
    have ss := t_s_s (f := ε.1) hp
    have ge := t_s_ge (f := ε.1) hp
    refine d_here h hqp fun s19 h19 => ⟨fun c => ?_, fun c => d_here h19 ss fun s22 h22 => ⟨fun c2 => d_here h22 ss fun s25 h25 => ⟨fun c3 => ?_, fun c3 => ?_⟩, fun c2 => ?_⟩⟩
    · rw [if_pos c] at hT
      exact hT mv _ s19 h19
    · rw [if_neg c, t_move, if_neg c2, t_letter, if_pos c3] at hT
      have hf : ∀ (k : Int32) (q : Nat), (∀ s, DF g b ε w n k q s → t_s ε.1 n q = q → Q 0 s) → ∀ s, DF g b ε w n k q s → t_s ε.1 n q = q → ((¬ (0 : Int32) = 0) → wl_X9_reads_79 g b Q (fun σ31 => wp_X9_wrong g σ31 b (3 : Int32) (fun r33 σ32 => narrow .boolean (.int r33) = .int r33 ∧ Q r33 σ32)) (fun σ34 => wp_X9_wrong g σ34 b (1 : Int32) (fun r36 σ35 => narrow .boolean (.int r36) = .int r36 ∧ Q r36 σ35)) (fun σ37 => Q (0 : Int32) σ37) (fun σ38 => Q (1 : Int32) σ38) (d + 1) s) ∧ (((0 : Int32) = 0) → Q (0 : Int32) s) := fun k q h s h1 h2 => ⟨fun c => absurd rfl c, fun _ => h s h1 h2⟩
      refine d_move (Q := fun r29 σ28 => ((¬ r29 = 0) → wl_X9_reads_79 g b Q (fun σ31 => wp_X9_wrong g σ31 b (3 : Int32) (fun r33 σ32 => narrow .boolean (.int r33) = .int r33 ∧ Q r33 σ32)) (fun σ34 => wp_X9_wrong g σ34 b (1 : Int32) (fun r36 σ35 => narrow .boolean (.int r36) = .int r36 ∧ Q r36 σ35)) (fun σ37 => Q (0 : Int32) σ37) (fun σ38 => Q (1 : Int32) σ38) (d + 1) σ28) ∧ ((r29 = 0) → Q (0 : Int32) σ28)) h25 c3 hz ?_
      exact m_fig hf (fun s => m_sign hf fun c => m_fig hf fun t => m_side hf fun d2 => m_letter hf fun p2 h2 sf hsf hlt => ⟨fun _ => ih _ p2 p2 sf (by omega) hsf rfl (hb_le hsf.1) h2, fun c => absurd c (by decide)⟩) _ hT
    · rw [if_neg c, t_move, if_neg c2, t_letter, if_neg c3] at hT
      exact fun s36 e36 => ⟨rfl, hT s36 (by rw [e36]; exact db_w h25) ss⟩
    · rw [if_neg c, t_move, if_pos c2] at hT
      exact fun s33 e33 => ⟨rfl, hT s33 (by rw [e33]; exact db_w h22) ss⟩
theorem d_reads (hM : MI g b ε w σ) (hp0 : tw_I σ b 3 = 0) (hn : n ≤ 240) (en : w.2.1 = nI n) {Q : Int32 → tw_S → Prop} (hT : t_text (t_at ε.1 n) (t_s ε.1 n) (fun k q => ∀ s, DF g b ε w n k q s → t_s ε.1 n q = q → Q 0 s) (fun z => ∀ mv p s, DB g b ε w n z mv p s → Q 1 s)) : wp_X9_reads g σ b Q := by
  unfold wp_X9_reads
  have c0 : (0 : Int32).toNatClampNeg = 0 := rfl
  rw [c0]
  intro s1 e1
  refine lp_up (I := fun i s => MI g b ε w s ∧ tw_I s b 3 = 0 ∧ 1 ≤ i ∧ tw_A s (tw_R g b 6) 0 = 1 ∧ ∀ j, 1 ≤ j → j < i → tw_A s (tw_R g b 6) j = -1) 17 ?_ ?_ 1 (by decide) s1 ⟨e1 ▸ mi_A hM rfl, by rw [e1, tw_I_sA, hp0], Nat.le_refl _, by rw [e1, mi_s]; rfl, fun j h1 h2 => absurd h2 (by omega)⟩
  · intro f i s hi ⟨h, w3, i1, r0, rj⟩ ih
    rw [wl_X9_reads_9, nI_1, nI_clamp (by omega)]
    refine ⟨fun c => absurd c (nI_nle2 hi (by decide)), fun _ => ⟨vp_in_nI hi (by decide), fun s4 e4 => ih s4 ⟨e4 ▸ mi_A h rfl, by rw [e4, tw_I_sA, w3], by omega, ?_, fun j h1 h2 => ?_⟩⟩⟩
    · rw [e4, mi_s]
      unfold upd
      rw [if_neg (by omega)]
      exact r0
    · rw [e4, mi_s]
      unfold upd
      by_cases c : j = i
      · rw [if_pos c]
      · rw [if_neg c]
        exact rj j h1 (by omega)
  · intro f s ⟨h, w3, _, r0, rj⟩
    rw [wl_X9_reads_9]
    refine ⟨fun _ => ?_, fun c => absurd (by decide) c⟩
    have one : inI (1 : Int32) 1 4 := ⟨by decide, by decide⟩
    have ok : ∀ i, i < 17 → okv i (tw_A s (tw_R g b 6) i) := fun i hi => by
      by_cases c : i = 0
      · subst c
        rw [r0]
        exact okv_m one
      · rw [rj i (by omega) hi]
        exact okv_n (by omega) ⟨by decide, by decide⟩
    have k : DB g b ε w n 1 (fun _ => -1) 0 s := ⟨⟨⟨h, Int.le_refl _, by rw [w3]; exact ⟨by decide, by decide⟩, ok⟩, ⟨hn, Nat.zero_le _⟩, en, w3⟩, r0, fun i hi => rj (1 + i) (by omega) (by omega)⟩
    have ss := t_s_s (f := ε.1) (Nat.zero_le n)
    refine d_here k rfl fun s6 h6 => ⟨fun c => ?_, fun c => ?_⟩
    · unfold t_text at hT
      rw [if_neg c] at hT
      refine d_must h6 ss (by decide) (fun c1 s9 h9 => ⟨fun c => absurd c (by decide), fun _ => ?_⟩) (fun c1 s9 h9 => ⟨fun _ => ?_, fun c => absurd rfl c⟩)
      · rw [t_letter, if_pos c1, t_fig] at hT
        refine d_fig h9 (fun d1 d2 s12 h12 f12 => ⟨fun _ s15 e15 => ?_, fun c => absurd c (by decide)⟩) (fun d1 d2 s12 h12 => ⟨fun c => absurd rfl c, fun _ => ?_⟩) (fun d1 s12 h12 => ⟨fun c => absurd rfl c, fun _ => ?_⟩)
        · rw [if_pos d1, if_pos d2, t_letter] at hT
          rw [f12] at e15
          have k15 : DB g b ε w n (t_at ε.1 n (t_s ε.1 n (t_s ε.1 n 0 + 1)) - 48) (fun _ => -1) (t_s ε.1 n (t_s ε.1 n 0 + 1) + 1) s15 := by
            obtain ⟨⟨q1, q2, q3, q4⟩, q5, q6⟩ := h12
            rw [e15]
            refine ⟨⟨ti_6 q1 (okv_m d2), q2, q3, q4⟩, ?_, fun i hi => ?_⟩
            · rw [mi_s]
              exact if_pos rfl
            · rw [mi_s]
              unfold upd
              rw [if_neg (by omega)]
              exact q6 i hi
          refine d_must k15 rfl (by decide) (fun f1 s16 h16 => ⟨fun _ => ?_, fun c => absurd c (by decide)⟩) (fun f1 s16 h16 => ⟨fun c => absurd rfl c, fun _ => ?_⟩)
          · rw [if_pos f1] at hT
            exact ⟨_, d_loop d2 240 _ _ _ s16 (by omega) h16 rfl (hb_le h16.1) hT⟩
          · rw [if_neg f1] at hT
            exact hT s16 h16 (t_s_s (hb_le k15.1))
        · rw [if_pos d1, if_neg d2] at hT
          exact hT s12 h12 (t_s_s (hb_le h9.1))
        · rw [if_neg d1] at hT
          exact hT s12 h12 (t_s_s (hb_le h9.1))
      · rw [t_letter, if_neg c1] at hT
        exact hT s9 h9 ss
    · unfold t_text at hT
      rw [if_pos c] at hT
      exact hT _ _ s6 h6
theorem h_machine (hM : MI g b ε w σ) (hn : n ≤ 240) (en : w.2.1 = nI n) (hl : ∀ i, i < n → ¬ ε.1 i = -1) {x : Int32} {Q : Int32 → tw_S → Prop} (h1 : inI x 0 1 → ∀ s, MI g b (ε.1, (t_res ε.1 n).2) (w.1, 0, w.2.2) s → Q (t_res ε.1 n).1 s) (h0 : ¬ inI x 0 1 → Q (-1000000001) σ) : wp_X9_machine g σ b x Q := by
  unfold wp_X9_machine
  refine h_isMachine2 (fun hx => ⟨fun _ s4 e4 => ?_, fun c => absurd c (by decide)⟩) (fun hx => ⟨fun c => absurd rfl c, fun _ => h0 hx⟩)
  have h4 : MI g b ε w s4 := e4 ▸ mi_I hM rfl
  have hT := t_res_P (Φ := fun r => ∀ s, MI g b (ε.1, r.2) (w.1, 0, w.2.2) s → Q r.1 s) (h1 hx)
  refine d_reads h4 (by rw [e4, mi_e]) hn en (m_text (fun k q hF s5 h5 hs => ?_) (fun z hF mv p s5 h5 => ?_) hT)
  · refine d_hereF h5 hs fun s7 h7 => ?_
    have T : ∀ v, v = nI q → ∀ s12, s12 = (tw_sI s7 b 4 v) → ∀ s13, s13 = (tw_sI s12 b 2 (0 : Int32)) → Q ((-10 : Int32) - (tw_I s13 b 5)) s13 := by
      intro v ev s12 e12 s13 e13
      have h12 : MI g b (ε.1, nI q) w s12 := by rw [e12, ev]; exact mi_4 h7.1.1.1
      have h13 : MI g b (ε.1, nI q) (w.1, 0, w.2.2) s13 := e13 ▸ mi_2 h12 ⟨by decide, by decide⟩
      have e5 : tw_I s13 b 5 = k := by rw [e13, mi_n (by decide), e12, mi_n (by decide)]; exact h7.2
      rw [e5]
      exact hF s13 h13
    refine ⟨fun c => ⟨fun _ => ⟨fun _ s12 e12 s13 e13 => ⟨fun c => absurd rfl c, fun _ => T _ (hb_p h7.1) s12 e12 s13 e13⟩, fun c => absurd rfl c⟩, fun c => absurd rfl c⟩, fun c => ⟨fun _ => ⟨fun c => absurd c (by decide), fun _ s38 e38 s39 e39 => ⟨fun c => absurd rfl c, fun _ => T _ ?_ s38 e38 s39 e39⟩⟩, fun c => absurd rfl c⟩⟩
    rw [hb_fed h7.1]
    have qn : q = n := by
      have := hb_le h7.1
      by_cases cq : q < n
      · have e : t_at ε.1 n q = ε.1 q := if_pos cq
        rw [e] at c
        exact absurd c (hl q cq)
      · omega
    rw [qn]
  · refine d_here h5 rfl fun s7 h7 => ?_
    have T : ∀ s12, s12 = (tw_sI s7 b 4 (-1 : Int32)) → ∀ s13, s13 = (tw_sI s12 b 2 (0 : Int32)) → wp_X9_notes g s13 b (fun σ15 => ∃ n85, wl_X9_machine_85 g b x Q (fun σ20 => Q (tw_A σ20 (tw_R g b 6) (0 : Int32).toNatClampNeg) σ20) n85 (0 : Int32) σ15) := by
      intro s12 e12 s13 e13
      have h12 : MI g b (ε.1, -1) w s12 := e12 ▸ mi_4 h7.1.1.1
      have h13 : MI g b (ε.1, -1) (w.1, 0, w.2.2) s13 := e13 ▸ mi_2 h12 ⟨by decide, by decide⟩
      have a13 : tw_A s13 (tw_R g b 6) = tw_A s7 (tw_R g b 6) := by rw [e13, tw_A_sI, e12, tw_A_sI]
      refine h_notes h13 fun s15 h15 a15 => ?_
      rw [a13] at a15
      refine lp_up (I := fun _ s => MI g b (ε.1, -1) (w.1, 0, w.2.2) s ∧ tw_A s (tw_R g b 6) = tw_A s7 (tw_R g b 6)) 17 ?_ ?_ 0 (by decide) s15 ⟨h15, a15⟩
      · intro f i s hi ⟨h, a⟩ ih
        obtain ⟨m, hm, rfl⟩ := i_2 (N := 1) (by decide) hx
        have em : ((17 : Int32) * nI m) + nI i = nI (17 * m + i) := by
          have e : (17 : Int32) * nI m = nI (17 * m) := pk_mul 17 m
          rw [e, nI_add]
        rw [wl_X9_machine_85, nI_1, em, nI_clamp (by omega), nI_clamp (by omega)]
        refine ⟨fun c => absurd c (nI_nle2 hi (by decide)), fun _ => ⟨vp_in_nI hi (by decide), vp_in_nI (by omega) (by decide), fun s19 e19 => ih s19 ⟨?_, by rw [e19, mi_q h rfl rfl (by decide), a]⟩⟩⟩
        rw [e19, a]
        exact mi_A0u h (okv_q (h7.1.1.2.2.2 i hi) (by omega))
      · intro f s ⟨h, a⟩
        rw [wl_X9_machine_85]
        refine ⟨fun _ => ?_, fun c => absurd (by decide) c⟩
        have e : tw_A s (tw_R g b 6) (0 : Int32).toNatClampNeg = z := by rw [a]; exact h7.2.1
        rw [e]
        exact hF s h
    exact ⟨fun _ => ⟨fun c => absurd c (by decide), fun _ s26 e26 s27 e27 => ⟨fun _ => T s26 e26 s27 e27, fun c => absurd c (by decide)⟩⟩, fun _ => ⟨fun c => absurd c (by decide), fun _ s26 e26 s27 e27 => ⟨fun _ => T s26 e26 s27 e27, fun c => absurd c (by decide)⟩⟩⟩
end T3
