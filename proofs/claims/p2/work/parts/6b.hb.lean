/-! ===== the model in general: the two machines side by side ===== -/
/-- how many of the first n are set -/
def cn (f : Nat → Int32) : Nat → Nat
  | 0 => 0
  | n + 1 => cn f n + (if f n = 0 then 0 else 1)
theorem cn_le (f : Nat → Int32) (n : Nat) : cn f n ≤ n := by
  induction n with
  | zero => exact Nat.le_refl _
  | succ n ih =>
    rw [cn]
    split
    · omega
    · omega
theorem cn_out (f : Nat → Int32) (i : Nat) (v : Int32) : ∀ n, n ≤ i → cn (upd f i v) n = cn f n := by
  intro n
  induction n with
  | zero => intro _; rfl
  | succ n ih =>
    intro h
    have e : upd f i v n = f n := if_neg (by omega)
    rw [cn, cn, ih (by omega), e]
theorem cn_upd (f : Nat → Int32) (i : Nat) (h0 : f i = 0) : ∀ n, i < n → cn (upd f i 1) n = cn f n + 1 := by
  intro n
  induction n with
  | zero => intro h; exact absurd h (Nat.not_lt_zero _)
  | succ n ih =>
    intro h
    rw [cn, cn]
    by_cases c : i = n
    · subst c
      have e : upd f i 1 i = 1 := if_pos rfl
      rw [cn_out f i 1 i (Nat.le_refl _), e, if_neg (by decide), if_pos h0]
    · have e : upd f i 1 n = f n := if_neg (by omega)
      rw [ih (by omega), e]
      omega
theorem cn_z (f : Nat → Int32) : ∀ n, (∀ i, i < n → f i = 0) → cn f n = 0 := by
  intro n
  induction n with
  | zero => intro _; rfl
  | succ n ih =>
    intro h
    rw [cn, ih (fun i hi => h i (by omega)), if_pos (h n (by omega))]
section HB
variable {g : tw_G} {p : h_P} {σ σ2 : tw_S} {b k : Nat}
theorem h_isBy {x y z : Int32} {Q : Int32 → tw_S → Prop} (hQ : ∀ r, Q r σ) : wp_X9_isBy g σ x y z Q := by
  unfold wp_X9_isBy
  exact ⟨fun _ => ⟨fun _ => ⟨fun _ => ⟨fun _ => hQ _, fun _ => hQ _⟩, fun _ => ⟨fun _ => hQ _, fun _ => ⟨fun _ => hQ _, fun _ => hQ _⟩⟩⟩, fun _ => ⟨fun _ => hQ _, fun _ => hQ _⟩⟩, fun _ => ⟨fun _ => hQ _, fun _ => hQ _⟩⟩
/-- a pair's way back falls -/
def pok (f : Nat → Int32) (k : Nat) : Prop := f k = -1 ∨ ∃ w : Nat, w < 45000 ∧ w / 2 < k ∧ f k = nI w
theorem h_wordTo {k : Nat} (hk : k < 22500) (hp : ∀ j, j ≤ k → pok (tw_A σ (tw_R g b 31)) j) {Q : Int32 → tw_S → Prop} (hQ : ∀ r, Q r σ) : wp_X9_wordTo g σ b (nI k) Q := by
  unfold wp_X9_wordTo
  have E : ∀ d k : Nat, k < d → k < 22500 → (∀ j, j ≤ k → pok (tw_A σ (tw_R g b 31)) j) → ∀ (x3 x5 : Int64) (x7 : Int32), wl_X9_wordTo_10 g b Q (fun v17 v18 v19 σ20 => ((v19 ≤ (24 : Int32)) → Q ((v17 + v18).toInt32) σ20) ∧ (¬ (v19 ≤ (24 : Int32)) → Q (0 : Int32) σ20)) d (nI k) x3 x5 x7 σ := by
    intro d
    induction d with
    | zero => intro k hk; exact absurd hk (Nat.not_lt_zero _)
    | succ d ih =>
      intro k hk hkF hp x3 x5 x7
      have v3 : vp_in (nI k) 22500 := vp_in_nI hkF (by decide)
      rw [wl_X9_wordTo_10, nI_clamp (n := k) (by omega)]
      refine ⟨v3, fun _ => ⟨fun _ => hQ _, fun _ => hQ _⟩, fun c => ?_⟩
      obtain ⟨w, w1, w2, ew⟩ := (hp k (Nat.le_refl _)).resolve_left c
      rw [ew, h_half2 (w := w) (by omega)]
      have R : ∀ z : Int32, z = nI (w / 2) → ∀ x y c, wl_X9_wordTo_10 g b Q (fun v17 v18 v19 σ20 => ((v19 ≤ (24 : Int32)) → Q ((v17 + v18).toInt32) σ20) ∧ (¬ (v19 ≤ (24 : Int32)) → Q (0 : Int32) σ20)) d z x y c σ := fun z e x y c => by
        rw [e]
        exact ih (w / 2) (by omega) (by omega) (fun j hj => hp j (by omega)) x y c
      exact ⟨fun _ => ⟨fun _ => ⟨v3, fun z e => R z e _ _ _⟩, fun _ => ⟨v3, fun z e => R z e _ _ _⟩⟩, fun _ => ⟨v3, fun z10 _ z11 _ => ⟨fun _ => ⟨v3, fun z e => R z e _ _ _⟩, fun _ => ⟨v3, fun z e => R z e _ _ _⟩⟩⟩⟩
  exact ⟨k + 1, E (k + 1) k (Nat.lt_succ_self _) hk hp _ _ _⟩
/-- the pairs found so far: n of them -/
def FB (g : tw_G) (b : Nat) (p : h_P) (σ : tw_S) (Fa Fb n : Nat) (s : tw_S) : Prop := KQ g b p σ s ∧ cn (tw_A s (tw_R g b 32)) 22500 = n ∧ (∀ j, j < n → ∃ a c : Nat, a < Fa ∧ c < Fb ∧ tw_A s (tw_R g b 30) j = nI (150 * a + c)) ∧ ∀ j, j < n → pok (tw_A s (tw_R g b 31)) j
theorem h_fb116 {Fa Fb n k a c : Nat} {x : Int32} (hFa : Fa ≤ 150) (hFb : Fb ≤ 150) (na : ∀ i, i < 2 * Fa → inI (tw_A σ (tw_R g b 22) (302 * 0 + i)) 0 (Fa - 1 : Int)) (nb : ∀ i, i < 2 * Fb → inI (tw_A σ (tw_R g b 22) (302 * 1 + i)) 0 (Fb - 1 : Int)) (hk : k < n) (ha : a < Fa) (hc : c < Fb) {Q : Int32 → tw_S → Prop} {K : Int32 → tw_S → Prop} {s : tw_S} (hB : FB g b p σ Fa Fb n s) (hK : ∀ n2 s2, n ≤ n2 → FB g b p σ Fa Fb n2 s2 → K (nI n2) s2) : ∃ f, wl_X9_firstBy_116 g b x (nI k) (nI a) (nI c) Q K f (nI n) 0 s := by
  refine lpu (I := fun _ u s => ∃ n2, n ≤ n2 ∧ u = nI n2 ∧ FB g b p σ Fa Fb n2 s) 2 ?_ ?_ 0 (by decide) (nI n) s ⟨n, Nat.le_refl _, rfl, hB⟩
  · intro f l u s hl ⟨n2, hn2, eu, hB⟩ ih
    subst eu
    obtain ⟨hq, ec, hp30, hp31⟩ := hB
    obtain ⟨t1, ht1, e1⟩ := h_nx (σ := s) (m := 0) (i := 0) hFa (by rw [hq.2.2.1]; exact na) ha hl
    obtain ⟨t2, ht2, e2⟩ := h_nx (σ := s) (m := 1) (i := 0) hFb (by rw [hq.2.2.1]; exact nb) hc hl
    rw [wl_X9_firstBy_116, nI_1 l, nI_1 n2]
    refine ⟨fun c => absurd c (nI_nle2 hl (by decide)), fun _ => h_at (m := 0) ?_⟩
    rw [at2, nI_clamp (n := 2 * (151 * 0 + a) + l) (by omega), e1]
    refine ⟨vp_in_nI (by omega) (by decide), h_at (m := 1) ?_⟩
    rw [at2, nI_clamp (n := 2 * (151 * 1 + c) + l) (by omega), e2]
    refine ⟨vp_in_nI (by omega) (by decide), fun z29 e29 => ?_⟩
    have ez : z29 = nI (150 * t1 + t2) := by
      have e : (150 : Int32) * nI t1 = nI (150 * t1) := pk_mul 150 t1
      rw [e29, e, nI_add]
    have hz : 150 * t1 + t2 < 22500 := by omega
    have vz : vp_in (nI (150 * t1 + t2)) 22500 := vp_in_nI hz (by decide)
    rw [ez, nI_clamp (n := 150 * t1 + t2) (by omega)]
    refine ⟨vz, fun _ => ih _ _ ⟨n2, hn2, rfl, hq, ec, hp30, hp31⟩, fun c0 => ⟨vz, fun s33 e33 => ?_⟩⟩
    have cu := cn_upd _ _ c0 22500 hz
    have cl := cn_le (upd (tw_A s (tw_R g b 32)) (150 * t1 + t2) 1) 22500
    have hn3 : n2 < 22500 := by omega
    have vn : vp_in (nI n2) 22500 := vp_in_nI hn3 (by decide)
    rw [nI_clamp (n := n2) (by omega), at2]
    refine ⟨vn, fun s35 e35 => ⟨vn, fun s37 e37 => ?_⟩⟩
    have h33 : KQ g b p σ s33 := e33 ▸ kq_A hq rfl
    have h35 : KQ g b p σ s35 := e35 ▸ kq_A h33 rfl
    have h37 : KQ g b p σ s37 := e37 ▸ kq_A h35 rfl
    have r32 : tw_A s37 (tw_R g b 32) = upd (tw_A s (tw_R g b 32)) (150 * t1 + t2) 1 := by rw [e37, mi_q h35.1 rfl rfl (by decide), e35, mi_q h33.1 rfl rfl (by decide), e33, mi_s]
    have r30 : tw_A s37 (tw_R g b 30) = upd (tw_A s (tw_R g b 30)) n2 (nI (150 * t1 + t2)) := by rw [e37, mi_q h35.1 rfl rfl (by decide), e35, mi_s, e33, mi_q hq.1 rfl rfl (by decide)]
    have r31 : tw_A s37 (tw_R g b 31) = upd (tw_A s (tw_R g b 31)) n2 (nI (2 * k + l)) := by rw [e37, mi_s, e35, mi_q h33.1 rfl rfl (by decide), e33, mi_q hq.1 rfl rfl (by decide)]
    refine ih _ _ ⟨n2 + 1, by omega, rfl, h37, by rw [r32, cu, ec], fun j hj => ?_, fun j hj => ?_⟩
    · rw [r30]
      by_cases cc : j = n2
      · exact ⟨t1, t2, ht1, ht2, if_pos cc⟩
      · obtain ⟨a2, c2, h1, h2, h3⟩ := hp30 j (by omega)
        exact ⟨a2, c2, h1, h2, (if_neg cc).trans h3⟩
    · rw [r31]
      by_cases cc : j = n2
      · exact Or.inr ⟨2 * k + l, by omega, by omega, if_pos cc⟩
      · have h := hp31 j (by omega)
        have ej : upd (tw_A s (tw_R g b 31)) n2 (nI (2 * k + l)) j = tw_A s (tw_R g b 31) j := if_neg cc
        unfold pok at h ⊢
        rw [ej]
        exact h
  · intro f u s ⟨n2, hn2, eu, hB⟩
    subst eu
    rw [wl_X9_firstBy_116]
    exact ⟨fun _ => hK n2 s hn2 hB, fun c => absurd (by decide) c⟩
theorem h_firstBy (hM : MI g b p σ) (h0 : OWP g b 0 σ) (h1 : OWP g b 1 σ) {x : Int32} {Q : Int32 → tw_S → Prop} (hQ : ∀ r s, MI g b p s → Q r s) : wp_X9_firstBy g σ b x Q := by
  unfold wp_X9_firstBy
  obtain ⟨Fa, a1, hFa, _, na, _⟩ := h0
  obtain ⟨Fb, b1, hFb, _, nb, _⟩ := h1
  refine lp_up (I := fun i s => KQ g b p σ s ∧ ∀ j, j < i → tw_A s (tw_R g b 32) j = 0) 22500 ?_ ?_ 0 (by decide) σ ⟨⟨hM, rfl, rfl, rfl, rfl⟩, fun j hj => absurd hj (Nat.not_lt_zero _)⟩
  · intro n i s hi ⟨h, hz⟩ ih
    rw [wl_X9_firstBy_2, nI_1, nI_clamp (n := i) (by omega)]
    refine ⟨fun c => absurd c (nI_nle2 hi (by decide)), fun _ => ⟨vp_in_nI hi (by decide), fun s3 e3 => ih s3 ⟨e3 ▸ kq_A h rfl, fun j hj => ?_⟩⟩⟩
    rw [e3, mi_s]
    unfold upd
    split
    · rfl
    · exact hz j (by omega)
  · intro n s ⟨h, hz⟩
    rw [wl_X9_firstBy_2]
    refine ⟨fun _ s5 e5 s6 e6 s7 e7 => ?_, fun c => absurd (i_le.mpr (Int.le_refl _)) c⟩
    have c0 : (0 : Int32).toNatClampNeg = 0 := rfl
    rw [c0] at e5 e6 e7
    have h5 : KQ g b p σ s5 := e5 ▸ kq_A h rfl
    have h6 : KQ g b p σ s6 := e6 ▸ kq_A h5 rfl
    have h7 : KQ g b p σ s7 := e7 ▸ kq_A h6 rfl
    have r32 : tw_A s7 (tw_R g b 32) = upd (tw_A s (tw_R g b 32)) 0 1 := by rw [e7, mi_s, e6, mi_q h5.1 rfl rfl (by decide), e5, mi_q h.1 rfl rfl (by decide)]
    have r30 : tw_A s7 (tw_R g b 30) = upd (tw_A s (tw_R g b 30)) 0 0 := by rw [e7, mi_q h6.1 rfl rfl (by decide), e6, mi_q h5.1 rfl rfl (by decide), e5, mi_s]
    have r31 : tw_A s7 (tw_R g b 31) = upd (tw_A s (tw_R g b 31)) 0 (-1) := by rw [e7, mi_q h6.1 rfl rfl (by decide), e6, mi_s, e5, mi_q h.1 rfl rfl (by decide)]
    have B : FB g b p σ Fa Fb 1 s7 := by
      refine ⟨h7, by rw [r32, cn_upd _ _ (hz 0 (by decide)) 22500 (by decide), cn_z _ _ hz], fun j hj => ⟨0, 0, a1, b1, ?_⟩, fun j hj => Or.inl ?_⟩
      · rw [r30]
        exact if_pos (by omega)
      · rw [r31]
        exact if_pos (by omega)
    have key : ∀ (d k n : Nat) (s : tw_S), k + d = 22501 → k ≤ n → FB g b p σ Fa Fb n s → wl_X9_firstBy_47 g b x Q (fun v40 σ41 => wp_X9_wordTo g σ41 b v40 (fun r43 σ42 => Q r43 σ42)) (fun σ44 => Q (-1 : Int32) σ44) d (nI n) (nI k) s := by
      intro d
      induction d with
      | zero =>
        intro k n s hk hkn hB
        have := cn_le (tw_A s (tw_R g b 32)) 22500
        rw [hB.2.1] at this
        omega
      | succ d ih =>
        intro k n s hk hkn hB
        have hn := cn_le (tw_A s (tw_R g b 32)) 22500
        rw [hB.2.1] at hn
        rw [wl_X9_firstBy_47, nI_1]
        refine ⟨fun _ => hQ _ _ hB.1.1, fun c => ?_⟩
        have hk2 : k < n := by
          rw [i_le, nI_toInt (by omega), nI_toInt (by omega)] at c
          omega
        obtain ⟨a, c2, ha, hc, e30⟩ := hB.2.2.1 k hk2
        have vk : vp_in (nI k) 22500 := vp_in_nI (by omega) (by decide)
        have ea : nI (150 * a + c2) / (150 : Int32) = nI a := by
          have h := pk_div (a := 150 * a + c2) (d := 150) (by omega) (by decide) (by decide)
          have e : (150 * a + c2) / 150 = a := by omega
          rw [e] at h
          exact h
        have em : nI (150 * a + c2) - nI a * (150 : Int32) = nI c2 := by
          have h := pk_rem (a := 150 * a + c2) (d := 150) (by omega) (by decide) (by decide)
          have e : (150 * a + c2) % 150 = c2 := by omega
          have ea2 : nI (150 * a + c2) / nI 150 = nI a := ea
          rw [e, ea2] at h
          exact h
        rw [nI_clamp (n := k) (by omega), e30, ea, em]
        refine ⟨vk, fun z10 e10 => ⟨vk, fun z12 e12 => ?_⟩⟩
        rw [e10, e12]
        exact h_at (m := 0) ⟨vp_in_nI (by omega) (by decide), h_at (m := 1) ⟨vp_in_nI (by omega) (by decide), h_isBy fun r20 => ⟨fun _ => h_fb116 hFa hFb na nb hk2 ha hc hB fun n2 s2 hn2 h2 => ih (k + 1) n2 s2 (by omega) (by omega) h2, fun _ => h_wordTo (by omega) (fun j hj => hB.2.2.2 j (by omega)) fun r => hQ _ _ hB.1.1⟩⟩⟩
    exact ⟨22501, key 22501 0 1 s7 (by decide) (by decide) B⟩
theorem h_first (hM : MI g b p σ) {x : Int32} {Q : Int32 → tw_S → Prop} (hQ : ∀ r s, MI g b p s → Q r s) : wp_X9_first g σ b x Q := by
  unfold wp_X9_first
  exact h_in fun r2 hr2 k2 => ⟨fun _ => h_laysBoth hM fun r5 s4 hr5 h4 k5 => ⟨fun _ => hQ _ _ h4, fun c5 => h_firstBy h4 (k5 (h_r1 hr5 c5)).1 (k5 (h_r1 hr5 c5)).2 fun r s h => hQ _ _ h⟩, fun _ => hQ _ _ hM⟩
theorem h_told (hM : MI g b p σ) {x : Int32} {Q : Int32 → tw_S → Prop} (hQ : ∀ r s, MI g b p s → Q r s) : wp_X9_told g σ b x Q := by
  unfold wp_X9_told
  exact ⟨fun _ => hQ _ _ hM, fun _ => ⟨fun _ => h_numberOf hM fun r => hQ _ _ hM, fun _ => ⟨fun _ => hQ _ _ hM, fun _ => ⟨fun _ => hQ _ _ hM, fun _ => ⟨fun _ => h_laysBoth hM fun r9 s8 hr9 h8 k9 => ⟨fun _ => hQ _ _ h8, fun c9 => h_firstBy h8 (k9 (h_r1 hr9 c9)).1 (k9 (h_r1 hr9 c9)).2 fun r12 s11 h11 => ⟨fun _ => hQ _ _ h11, fun _ => hQ _ _ h11⟩⟩, fun _ => hQ _ _ hM⟩⟩⟩⟩⟩
end HB
