/-! ===== the class reads a text ===== -/
section T1
variable {g : tw_G} {ε : e_P} {P : g_P} {σ s : tw_S} {y n p q : Nat} {z k : Int32} {mv : Nat → Int32}
/-- the reading: n letters, the place p, the fault so far k; the draft y: z states, its moves mv -/
def CB (g : tw_G) (ε : e_P) (P : g_P) (y n : Nat) (z : Int32) (mv : Nat → Int32) (k : Int32) (p : Nat) (s : tw_S) : Prop := XI g ε P s ∧ tw_is g 3 y ∧ (n ≤ 240 ∧ p ≤ n) ∧ P.2.2.2.1 = nI n ∧ tw_I s P.2.2.1 2 = nI p ∧ tw_I s P.2.2.1 3 = k ∧ tw_I s y 1 = z ∧ ∀ i, i < 16 → tw_A s (tw_R g y 0) i = mv i
theorem cb_len (h : CB g ε P y n z mv k p s) : tw_I s P.2.2.1 1 = nI n := h.1.2.2.2.2.2.2.2.2.2.1.trans h.2.2.2.1
theorem cb_row (h : CB g ε P y n z mv k p s) : tw_A s (tw_R g P.2.2.1 0) = ε.1 := h.1.2.2.2.2.2.2.2.2.2.2.2.1
theorem cb_k (h : CB g ε P y n z mv k p s) : tw_I s P.2.2.1 3 = k := h.2.2.2.2.2.1
theorem cb_p (h : CB g ε P y n z mv k p s) : tw_I s P.2.2.1 2 = nI p := h.2.2.2.2.1
theorem cb_z (h : CB g ε P y n z mv k p s) : tw_I s y 1 = z := h.2.2.2.2.2.2.1
theorem cb_le (h : CB g ε P y n z mv k p s) : p ≤ n := h.2.2.1.2
theorem cb_place {p2 : Nat} (h : CB g ε P y n z mv k p s) (hp : p2 ≤ n) : CB g ε P y n z mv k p2 (tw_sI s P.2.2.1 2 (nI p2)) := by
  have t := xTx h.1
  have hn := h.2.2.1.1
  obtain ⟨h1, h2, h3, h4, h5, h6, h7, h8⟩ := h
  have e := nI_toInt (n := p2) (by omega)
  refine ⟨xi_62 h1 t ⟨by omega, by omega⟩, h2, ⟨h3.1, hp⟩, h4, ?_, ?_, ?_, h8⟩
  · rw [tw_I_sI, if_pos rfl, if_pos rfl]
  · rw [tw_I_sI, if_pos rfl, if_neg (by decide)]; exact h6
  · rw [xs_I t h2 (by decide)]; exact h7
theorem cb_fault {k2 : Int32} (h : CB g ε P y n z mv k p s) : CB g ε P y n z mv k2 p (tw_sI s P.2.2.1 3 k2) := by
  have t := xTx h.1
  obtain ⟨h1, h2, h3, h4, h5, h6, h7, h8⟩ := h
  refine ⟨xi_I h1 t rfl, h2, h3, h4, ?_, ?_, ?_, h8⟩
  · rw [tw_I_sI, if_pos rfl, if_neg (by decide)]; exact h5
  · rw [tw_I_sI, if_pos rfl, if_pos rfl]
  · rw [xs_I t h2 (by decide)]; exact h7
theorem c_up (h : CB g ε P y n z mv k p s) {Q : Int32 → tw_S → Prop} (hQ : ∀ s2, CB g ε P y n z mv k (t_s ε.1 n p) s2 → Q (t_at ε.1 n (t_s ε.1 n p)) s2) : wp_X6_upcoming g s P.2.2.1 Q := by
  unfold wp_X6_upcoming
  have KF : ∀ p s, CB g ε P y n z mv k p s → ¬ (p < n ∧ ε.1 p = 32) → (∀ s2, CB g ε P y n z mv k (t_s ε.1 n p) s2 → Q (t_at ε.1 n (t_s ε.1 n p)) s2) → (((tw_I s P.2.2.1 1) ≤ (tw_I s P.2.2.1 2)) → Q (-1 : Int32) s) ∧ (¬ ((tw_I s P.2.2.1 1) ≤ (tw_I s P.2.2.1 2)) → (((240 : Int32) ≤ (tw_I s P.2.2.1 2)) → Q (-1 : Int32) s) ∧ (¬ ((240 : Int32) ≤ (tw_I s P.2.2.1 2)) → vp_in (tw_I s P.2.2.1 2) 240 ∧ Q (tw_A s (tw_R g P.2.2.1 0) (tw_I s P.2.2.1 2).toNatClampNeg) s)) := by
    intro p s h hb hQ
    rw [t_s_n hb] at hQ
    have hq := hQ s h
    have hn := h.2.2.1.1
    have hp := h.2.2.1.2
    rw [cb_len h, cb_p h, cb_row h, nI_clamp (by omega)]
    refine ⟨fun c => ?_, fun c => ⟨fun c2 => ?_, fun c2 => ?_⟩⟩
    · rw [i_le, nI_toInt (by omega), nI_toInt (by omega)] at c
      have e : t_at ε.1 n p = -1 := if_neg (by omega)
      rw [e] at hq
      exact hq
    · rw [i_le, nI_toInt (by omega), nI_toInt (by omega)] at c
      rw [i_le, e_240, nI_toInt (by omega)] at c2
      omega
    · rw [i_le, nI_toInt (by omega), nI_toInt (by omega)] at c
      have e : t_at ε.1 n p = ε.1 p := if_pos (by omega)
      rw [e] at hq
      exact ⟨vp_in_nI (by omega) (by decide), hq⟩
  have key : ∀ d p s, n - p = d → CB g ε P y n z mv k p s → (∀ s2, CB g ε P y n z mv k (t_s ε.1 n p) s2 → Q (t_at ε.1 n (t_s ε.1 n p)) s2) → wl_X6_upcoming_0 g P.2.2.1 Q (fun σ6 => (((tw_I σ6 P.2.2.1 1) ≤ (tw_I σ6 P.2.2.1 2)) → Q (-1 : Int32) σ6) ∧ (¬ ((tw_I σ6 P.2.2.1 1) ≤ (tw_I σ6 P.2.2.1 2)) → (((240 : Int32) ≤ (tw_I σ6 P.2.2.1 2)) → Q (-1 : Int32) σ6) ∧ (¬ ((240 : Int32) ≤ (tw_I σ6 P.2.2.1 2)) → vp_in (tw_I σ6 P.2.2.1 2) 240 ∧ Q (tw_A σ6 (tw_R g P.2.2.1 0) (tw_I σ6 P.2.2.1 2).toNatClampNeg) σ6))) (d + 1) s := by
    intro d
    induction d with
    | zero =>
      intro p s hd h hQ
      have hn := h.2.2.1.1
      have hp := h.2.2.1.2
      rw [wl_X6_upcoming_0]
      refine ⟨fun _ => KF p s h (fun z => absurd z.1 (by omega)) hQ, fun c => absurd ?_ c⟩
      rw [cb_len h, cb_p h, i_le, nI_toInt (by omega), nI_toInt (by omega)]
      omega
    | succ d ih =>
      intro p s hd h hQ
      have hn := h.2.2.1.1
      have hp := h.2.2.1.2
      rw [wl_X6_upcoming_0]
      refine ⟨fun c => KF p s h (fun z => ?_) hQ, fun c => ⟨fun c2 => KF p s h (fun z => ?_) hQ, fun c2 => ⟨?_, fun c3 => KF p s h (fun z => c3 ?_) hQ, fun c3 s5 e5 => ?_⟩⟩⟩
      · rw [cb_len h, cb_p h, i_le, nI_toInt (by omega), nI_toInt (by omega)] at c
        have := z.1
        omega
      · rw [cb_p h, i_le, e_240, nI_toInt (by omega)] at c2
        have := z.1
        omega
      · rw [cb_p h]
        exact vp_in_nI (by omega) (by decide)
      · rw [cb_row h, cb_p h, nI_clamp (by omega)]
        exact z.2
      · rw [cb_row h, cb_p h, nI_clamp (by omega)] at c3
        rw [cb_p h, nI_1] at e5
        rw [t_s_b (by omega) c3] at hQ
        exact ih (p + 1) s5 (by omega) (by rw [e5]; exact cb_place h (by omega)) hQ
  exact ⟨_, key (n - p) p s rfl h hQ⟩
theorem c_blame0 (h : CB g ε P y n z mv 0 p s) {x : Int32} {Q : tw_S → Prop} (hQ : ∀ s2, CB g ε P y n z mv x p s2 → Q s2) : wp_X6_blame g s P.2.2.1 x Q := ⟨fun c => absurd (cb_k h) c, fun _ s2 e2 => hQ s2 (by rw [e2]; exact cb_fault h)⟩
theorem c_blameF (h : CB g ε P y n z mv k p s) (hk : ¬ k = 0) {x : Int32} {Q : tw_S → Prop} (hQ : Q s) : wp_X6_blame g s P.2.2.1 x Q := ⟨fun _ => hQ, fun c => absurd ((cb_k h).symm.trans c) hk⟩
theorem c_passF (h : CB g ε P y n z mv k p s) (hk : ¬ k = 0) {x : Int32} {Q : tw_S → Prop} (hQ : Q s) : wp_X6_passIf g s P.2.2.1 x Q := ⟨fun _ => ⟨fun _ => hQ, fun c => absurd ((cb_k h).symm.trans c) hk⟩, fun _ => c_blameF h hk ⟨fun _ => hQ, fun c => absurd ((cb_k h).symm.trans c) hk⟩⟩
theorem c_pass0 (h : CB g ε P y n z mv 0 p s) {Q : tw_S → Prop} (hQ : ∀ s2, CB g ε P y n z mv 1 p s2 → Q s2) : wp_X6_passIf g s P.2.2.1 0 Q := ⟨fun c => absurd rfl c, fun _ => c_blame0 h fun s2 h2 => ⟨fun _ => hQ s2 h2, fun c => absurd ((cb_k h2).symm.trans c) (by decide)⟩⟩
theorem c_pass1 (h : CB g ε P y n z mv 0 p s) (hp : p < n) {Q : tw_S → Prop} (hQ : ∀ s2, CB g ε P y n z mv 0 (p + 1) s2 → Q s2) : wp_X6_passIf g s P.2.2.1 1 Q := by
  refine ⟨fun _ => ⟨fun c => absurd (cb_k h) c, fun _ s3 e3 => hQ s3 ?_⟩, fun c => absurd c (by decide)⟩
  rw [cb_p h, nI_1] at e3
  rw [e3]
  exact cb_place h hp
/-! with a fault: nothing is read any more -/
theorem ff_up (h : CB g ε P y n z mv k q s) (hs : t_s ε.1 n q = q) {Q : Int32 → tw_S → Prop} (hQ : ∀ r s2, CB g ε P y n z mv k q s2 → Q r s2) : wp_X6_upcoming g s P.2.2.1 Q := c_up h fun s2 h2 => hQ _ s2 (by rw [hs] at h2; exact h2)
theorem ff_letter (h : CB g ε P y n z mv k q s) (hk : ¬ k = 0) (hs : t_s ε.1 n q = q) {c : Int32} {Q : tw_S → Prop} (hQ : ∀ s2, CB g ε P y n z mv k q s2 → Q s2) : wp_X6_takeLetter g s P.2.2.1 c Q := by
  unfold wp_X6_takeLetter
  exact ff_up h hs fun r s2 h2 => ⟨fun _ => c_passF h2 hk (hQ _ h2), fun _ => c_passF h2 hk (hQ _ h2)⟩
theorem ff_fig (h : CB g ε P y n z mv k q s) (hk : ¬ k = 0) (hs : t_s ε.1 n q = q) {lo hi : Int32} {Q : Int32 → tw_S → Prop} (hQ : ∀ r s2, CB g ε P y n z mv k q s2 → Q r s2) : wp_X6_takeFigure g s P.2.2.1 lo hi Q := by
  unfold wp_X6_takeFigure
  refine ff_up h hs fun r s2 h2 => ?_
  have hq := fun r => hQ r s2 h2
  have pp : ∀ {x : Int32} {K : tw_S → Prop}, K s2 → wp_X6_passIf g s2 P.2.2.1 x K := fun hK => c_passF h2 hk hK
  have pb : ∀ {x : Int32} {K : tw_S → Prop}, K s2 → wp_X6_blame g s2 P.2.2.1 x K := fun hK => c_blameF h2 hk hK
  repeat' (first | (with_reducible apply hq) | (with_reducible apply pp) | (with_reducible apply pb) | (with_reducible apply And.intro) | (intro _))
theorem ff_sign (h : CB g ε P y n z mv k q s) (hk : ¬ k = 0) (hs : t_s ε.1 n q = q) {x : Int32} {Q : Int32 → tw_S → Prop} (hQ : ∀ r s2, CB g ε P y n z mv k q s2 → Q r s2) : wp_X6_takeSign g s P.2.2.1 y x Q := by
  unfold wp_X6_takeSign
  refine ff_up h hs fun r s2 h2 => x_signOf (fun r4 _ => xg_at h2.1 h2.2.1 fun r6 => ?_)
  have hq := fun r => hQ r s2 h2
  exact ⟨fun _ => ⟨fun _ => c_passF h2 hk (hq _), fun _ => c_passF h2 hk (hq _)⟩, fun _ => c_blameF h2 hk ⟨fun _ => c_passF h2 hk (hq _), fun _ => c_passF h2 hk (hq _)⟩⟩
theorem ff_side (h : CB g ε P y n z mv k q s) (hk : ¬ k = 0) (hs : t_s ε.1 n q = q) {Q : Int32 → tw_S → Prop} (hQ : ∀ r s2, CB g ε P y n z mv k q s2 → Q r s2) : wp_X6_takeSide g s P.2.2.1 Q := by
  unfold wp_X6_takeSide
  refine ff_up h hs fun r s2 h2 => ?_
  have hq : ((¬ r = (114 : Int32)) → Q (0 : Int32) s2) ∧ ((r = (114 : Int32)) → Q (1 : Int32) s2) := ⟨fun _ => hQ _ _ h2, fun _ => hQ _ _ h2⟩
  exact ⟨fun _ => c_passF h2 hk hq, fun _ => ⟨fun _ => c_passF h2 hk hq, fun _ => c_passF h2 hk hq⟩⟩
/-! without: letter by letter -/
theorem c_letter (h : CB g ε P y n z mv 0 p s) (hq : t_s ε.1 n p = q) {c : Int32} (hc : ¬ c = -1) {Q : tw_S → Prop} (h1 : t_at ε.1 n q = c → ∀ s2, CB g ε P y n z mv 0 (q + 1) s2 → Q s2) (h0 : ¬ t_at ε.1 n q = c → ∀ s2, CB g ε P y n z mv 1 q s2 → Q s2) : wp_X6_takeLetter g s P.2.2.1 c Q := by
  unfold wp_X6_takeLetter
  subst hq
  exact c_up h fun s2 h2 => ⟨fun c0 => c_pass0 h2 (h0 c0), fun c0 => c_pass1 h2 (t_at_lt (by rw [c0]; exact hc)) (h1 c0)⟩
theorem c_fig (h : CB g ε P y n z mv 0 p s) {lo hi : Int32} {Q : Int32 → tw_S → Prop} (h1 : inI (t_at ε.1 n (t_s ε.1 n p) - 48) 0 9 → inI (t_at ε.1 n (t_s ε.1 n p) - 48) lo.toInt hi.toInt → ∀ s2, CB g ε P y n z mv 0 (t_s ε.1 n p + 1) s2 → Q (t_at ε.1 n (t_s ε.1 n p) - 48) s2) (h2 : inI (t_at ε.1 n (t_s ε.1 n p) - 48) 0 9 → ¬ inI (t_at ε.1 n (t_s ε.1 n p) - 48) lo.toInt hi.toInt → ∀ s2, CB g ε P y n z mv 2 (t_s ε.1 n p) s2 → Q (t_at ε.1 n (t_s ε.1 n p) - 48) s2) (h0 : ¬ inI (t_at ε.1 n (t_s ε.1 n p) - 48) 0 9 → ∀ s2, CB g ε P y n z mv 1 (t_s ε.1 n p) s2 → Q (t_at ε.1 n (t_s ε.1 n p) - 48) s2) : wp_X6_takeFigure g s P.2.2.1 lo hi Q := by
  unfold wp_X6_takeFigure
  have e9 : (9 : Int32).toInt = 9 := rfl
  have e0 := e_0
  refine c_up h fun s1 k1 => ?_
  have lt : ¬ (t_at ε.1 n (t_s ε.1 n p) - 48) < 0 → t_s ε.1 n p < n := fun c => t_at_lt (fun e => c (by rw [e]; decide))
  generalize t_at ε.1 n (t_s ε.1 n p) - 48 = d at h1 h2 h0 lt ⊢
  have I9 : ¬ d < 0 → ¬ (9 : Int32) < d → inI d 0 9 := fun c c2 => by
    rw [i_lt] at c c2
    exact ⟨by omega, by omega⟩
  refine ⟨fun c => ⟨fun _ => c_pass0 k1 (h0 (fun w => ?_)), fun c2 => absurd rfl c2⟩, fun c => ⟨fun c2 => ⟨fun _ => c_pass0 k1 (h0 (fun w => ?_)), fun c3 => absurd rfl c3⟩, fun c2 => ⟨fun c3 => absurd c3 (by decide), fun _ => ⟨fun c4 => c_blame0 k1 fun s26 k26 => c_passF k26 (by decide) (h2 (I9 c c2) (fun w => ?_) s26 k26), fun c4 => ⟨fun c5 => c_pass1 k1 (lt c) (h1 (I9 c c2) ?_), fun c5 => c_blame0 k1 fun s30 k30 => c_passF k30 (by decide) (h2 (I9 c c2) (fun w => ?_) s30 k30)⟩⟩⟩⟩⟩
  · rw [i_lt] at c; have := w.1; omega
  · rw [i_lt] at c2; have := w.2; omega
  · rw [i_lt] at c4; have := w.1; omega
  · rw [i_lt] at c4; rw [i_le] at c5; exact ⟨by omega, by omega⟩
  · rw [i_le] at c5; have := w.2; omega
theorem c_so {x : Int32} {Q : Int32 → tw_S → Prop} (hQ : Q (t_so x) σ) : wp_X6_signOf g σ x Q := by
  unfold wp_X6_signOf
  refine ⟨fun c => ?_, fun c40 => ⟨fun c => ?_, fun c41 => ⟨fun c => ?_, fun c97 => ⟨fun c => ?_, fun c98 => ?_⟩⟩⟩⟩
  · rw [c, show t_so 40 = 2 from by decide] at hQ; exact hQ
  · rw [c, show t_so 41 = 3 from by decide] at hQ; exact hQ
  · rw [c, show t_so 97 = 0 from by decide] at hQ; exact hQ
  · rw [c, show t_so 98 = 1 from by decide] at hQ; exact hQ
  · have e : t_so x = -1 := by
      unfold t_so
      rw [if_neg c97, if_neg c98, if_neg c40, if_neg c41]
    rw [e] at hQ
    exact hQ
theorem t_so_in (x : Int32) : inI (t_so x) (-1) 3 := by
  have h : t_so x = 0 ∨ t_so x = 1 ∨ t_so x = 2 ∨ t_so x = 3 ∨ t_so x = -1 := by
    unfold t_so
    by_cases a : x = 97
    · exact Or.inl (if_pos a)
    · by_cases b : x = 98
      · exact Or.inr (Or.inl ((if_neg a).trans (if_pos b)))
      · by_cases c : x = 40
        · exact Or.inr (Or.inr (Or.inl ((if_neg a).trans ((if_neg b).trans (if_pos c)))))
        · by_cases d : x = 41
          · exact Or.inr (Or.inr (Or.inr (Or.inl ((if_neg a).trans ((if_neg b).trans ((if_neg c).trans (if_pos d)))))))
          · exact Or.inr (Or.inr (Or.inr (Or.inr ((if_neg a).trans ((if_neg b).trans ((if_neg c).trans (if_neg d)))))))
  rcases h with h | h | h | h | h <;> rw [h] <;> exact ⟨by decide, by decide⟩
theorem t_so_lt {f : Nat → Int32} {q : Nat} (h : ¬ t_so (t_at f n q) = -1) : q < n := t_at_lt (fun e => h (by rw [e]; decide))
theorem c_ix {x c : Int32} (hx : inI x 0 3) (hc : inI c 0 3) : ∃ j : Nat, j < 16 ∧ (4 : Int32) * x + c = nI j := by
  obtain ⟨i, hi, rfl⟩ := i_2 (N := 3) (by decide) hx
  obtain ⟨t, ht, rfl⟩ := i_2 (N := 3) (by decide) hc
  have e4 : (4 : Int32) * nI i = nI (4 * i) := pk_mul 4 i
  exact ⟨4 * i + t, by omega, by rw [e4, nI_add]⟩
theorem c_sign (h : CB g ε P y n z mv 0 p s) {x : Int32} (hx : inI x 0 3) (hz : x.toInt < z.toInt) {Q : Int32 → tw_S → Prop} (h0 : t_so (t_at ε.1 n (t_s ε.1 n p)) = -1 → ∀ s2, CB g ε P y n z mv 1 (t_s ε.1 n p) s2 → Q (-1) s2) (h1 : ¬ t_so (t_at ε.1 n (t_s ε.1 n p)) = -1 → mv ((4 : Int32) * x + t_so (t_at ε.1 n (t_s ε.1 n p))).toNatClampNeg = -1 → ∀ s2, CB g ε P y n z mv 0 (t_s ε.1 n p + 1) s2 → Q (t_so (t_at ε.1 n (t_s ε.1 n p))) s2) (h4 : ¬ t_so (t_at ε.1 n (t_s ε.1 n p)) = -1 → ¬ mv ((4 : Int32) * x + t_so (t_at ε.1 n (t_s ε.1 n p))).toNatClampNeg = -1 → ∀ s2, CB g ε P y n z mv 4 (t_s ε.1 n p) s2 → Q (t_so (t_at ε.1 n (t_s ε.1 n p))) s2) : wp_X6_takeSign g s P.2.2.1 y x Q := by
  unfold wp_X6_takeSign
  refine c_up h fun s1 k1 => c_so ?_
  have lt : ¬ t_so (t_at ε.1 n (t_s ε.1 n p)) = -1 → t_s ε.1 n p < n := fun c => t_so_lt c
  have ti := t_so_in (t_at ε.1 n (t_s ε.1 n p))
  generalize t_so (t_at ε.1 n (t_s ε.1 n p)) = c at h0 h1 h4 lt ti ⊢
  have e0 := e_0
  unfold wp_X3_at
  have x0 := hx.1
  by_cases cc : c = -1
  · subst cc
    have F : ((-1 : Int32) = (-1 : Int32) → ((-1 : Int32) = (-1 : Int32) → wp_X6_passIf g s1 P.2.2.1 (0 : Int32) (fun σ9 => Q (-1) σ9)) ∧ (¬ (-1 : Int32) = (-1 : Int32) → wp_X6_passIf g s1 P.2.2.1 (1 : Int32) (fun σ10 => Q (-1) σ10))) ∧ (¬ (-1 : Int32) = (-1 : Int32) → wp_X6_blame g s1 P.2.2.1 (4 : Int32) (fun σ11 => ((-1 : Int32) = (-1 : Int32) → wp_X6_passIf g σ11 P.2.2.1 (0 : Int32) (fun σ13 => Q (-1) σ13)) ∧ (¬ (-1 : Int32) = (-1 : Int32) → wp_X6_passIf g σ11 P.2.2.1 (1 : Int32) (fun σ14 => Q (-1) σ14)))) := ⟨fun _ => ⟨fun _ => c_pass0 k1 (h0 rfl), fun w => absurd rfl w⟩, fun w => absurd rfl w⟩
    exact ⟨fun _ => F, fun _ => ⟨fun _ => F, fun _ => x_isSign (fun w => absurd w.1 (by decide)) (fun _ => ⟨fun _ => F, fun w => absurd rfl w⟩)⟩⟩
  · have hc := i_ne1 ti cc
    obtain ⟨j, hj, ej⟩ := c_ix hx hc
    rw [ej, nI_clamp (by omega)] at h1 h4
    rw [ej, nI_clamp (by omega), cb_z k1]
    refine ⟨fun w => ?_, fun _ => ⟨fun w => ?_, fun _ => x_isSign (fun _ => ⟨fun w => absurd w (by decide), fun _ => ⟨vp_in_nI hj (by decide), ?_⟩⟩) (fun w => absurd hc w)⟩⟩
    · rw [i_lt] at w; omega
    · rw [i_le] at w; omega
    · rw [k1.2.2.2.2.2.2.2 j hj]
      exact ⟨fun w => ⟨fun w2 => absurd w2 cc, fun _ => c_pass1 k1 (lt cc) (h1 cc w)⟩, fun w => c_blame0 k1 fun s11 k11 => ⟨fun w2 => absurd w2 cc, fun _ => c_passF k11 (by decide) (h4 cc w s11 k11)⟩⟩
theorem c_side (h : CB g ε P y n z mv 0 p s) {Q : Int32 → tw_S → Prop} (h1 : t_at ε.1 n (t_s ε.1 n p) = 114 → ∀ s2, CB g ε P y n z mv 0 (t_s ε.1 n p + 1) s2 → Q 1 s2) (h2 : ¬ t_at ε.1 n (t_s ε.1 n p) = 114 → t_at ε.1 n (t_s ε.1 n p) = 108 → ∀ s2, CB g ε P y n z mv 0 (t_s ε.1 n p + 1) s2 → Q 0 s2) (h0 : ¬ t_at ε.1 n (t_s ε.1 n p) = 114 → ¬ t_at ε.1 n (t_s ε.1 n p) = 108 → ∀ s2, CB g ε P y n z mv 1 (t_s ε.1 n p) s2 → Q 0 s2) : wp_X6_takeSide g s P.2.2.1 Q := by
  unfold wp_X6_takeSide
  refine c_up h fun s1 k1 => ⟨fun c => ?_, fun c => ⟨fun c2 => ?_, fun c2 => ?_⟩⟩
  · have c3 : ¬ t_at ε.1 n (t_s ε.1 n p) = 114 := fun e => absurd (c.symm.trans e) (by decide)
    exact c_pass1 k1 (t_at_lt (by rw [c]; decide)) fun s4 k4 => ⟨fun _ => h2 c3 c s4 k4, fun w => absurd w c3⟩
  · exact c_pass0 k1 fun s4 k4 => ⟨fun _ => h0 c2 c s4 k4, fun w => absurd w c2⟩
  · exact c_pass1 k1 (t_at_lt (by rw [c2]; decide)) fun s4 k4 => ⟨fun w => absurd c2 w, fun _ => h1 c2 s4 k4⟩
theorem c_put (h : CB g ε P y n z mv 0 p s) {x c v : Int32} (hx : inI x 0 3) (hz : x.toInt < z.toInt) (hc : inI c 0 3) {Q : tw_S → Prop} (hQ : ∀ s2, CB g ε P y n z (upd mv ((4 : Int32) * x + c).toNatClampNeg v) 0 p s2 → Q s2) : wp_X3_put g s y x c v Q := by
  unfold wp_X3_put wp_X3_hasState
  have e0 := e_0
  have x0 := hx.1
  rw [cb_z h]
  obtain ⟨j, hj, ej⟩ := c_ix hx hc
  rw [ej, nI_clamp (by omega)] at hQ
  rw [ej, nI_clamp (by omega)]
  refine ⟨fun w => ?_, fun _ => ⟨fun w => ?_, fun _ => ⟨fun w => absurd w (by decide), fun _ => x_isSign (fun _ => ⟨fun w => absurd w (by decide), fun _ => ⟨vp_in_nI hj (by decide), fun s8 e8 => hQ s8 ?_⟩⟩) (fun w => absurd hc w)⟩⟩⟩
  · rw [i_lt] at w; omega
  · rw [i_le] at w; omega
  · obtain ⟨h1, h2, h3, h4, h5, h6, h7, h8⟩ := h
    rw [e8]
    refine ⟨xi_Aq h1 h2 rfl, h2, h3, h4, h5, h6, h7, fun i hi => ?_⟩
    rw [tw_A_sA, if_pos rfl]
    unfold upd
    by_cases c2 : i = j
    · rw [if_pos c2, if_pos c2]
    · rw [if_neg c2, if_neg c2]
      exact h8 i hi
theorem c_empty (h : CB g ε P y n z mv 0 p s) {x : Int32} (hx : inI x 1 4) {Q : tw_S → Prop} (hQ : ∀ s2, CB g ε P y n x (fun _ => -1) 0 p s2 → Q s2) : wp_X3_empty g s y x Q := by
  unfold wp_X3_empty
  intro z1 e1 z2 e2 s3 e3
  have ez : z2 = x := by
    obtain ⟨j, j1, j4, rfl, _⟩ := inI_nI (lo := 1) (hi := 4) hx
    have q : ∀ j, j < 5 → 1 ≤ j → (if (if (1 : Int32) < nI j then nI j else (1 : Int32)) < (4 : Int32) then (if (1 : Int32) < nI j then nI j else (1 : Int32)) else (4 : Int32)) = nI j := by decide
    rw [e2, e1]
    exact q j (by omega) j1
  refine wf_fill g s3 _ 16 _ _ (by decide) (hQ _ ?_)
  rw [e3, ez]
  have t := xTx h.1
  obtain ⟨h1, h2, h3, h4, h5, h6, h7, h8⟩ := h
  refine ⟨xi_Aq (xi_31 h1 h2 hx) h2 rfl, h2, h3, h4, ?_, ?_, ?_, fun i hi => ?_⟩
  · rw [tw_I_sA, xs_I h2 t (by decide)]; exact h5
  · rw [tw_I_sA, xs_I h2 t (by decide)]; exact h6
  · rw [tw_I_sA, tw_I_sI, if_pos rfl, if_pos rfl]
  · rw [tw_A_sA, if_pos rfl]
    exact if_pos hi
end T1
