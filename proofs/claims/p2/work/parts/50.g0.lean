/-! ===== the class in general: the invariant ===== -/
/-- the word's address and length, the text's address and length, the flags' row and what it holds -/
abbrev g_P : Type := Nat × Int32 × Nat × Int32 × Nat × (Nat → Int32)
/-- no two references lead to one thing -/
def tw_O (g : tw_G) : Prop := ∀ q ∈ tw_tl, ∀ q2 ∈ tw_tl, ∀ a b, tw_is g q.1 a → tw_is g q2.1 b → tw_R g a q.2.1 = tw_R g b q2.2.1 → q.1 = q2.1 ∧ q.2.1 = q2.2.1 ∧ a = b
def g_S (g : tw_G) (P : g_P) : Prop := tw_T g ∧ tw_O g ∧ ∃ a, tw_is g 8 a ∧ P.1 = tw_R g a 6 ∧ P.2.2.1 = tw_R g a 4 ∧ P.2.2.2.2.1 = tw_R g a 3
def XI (g : tw_G) (P : g_P) (σ : tw_S) : Prop := g_S g P ∧ (∀ y, tw_is g 3 y → inI (tw_I σ y 1) 1 4) ∧ (∀ y, tw_is g 7 y → inI (tw_I σ y 1) 0 24) ∧ (∀ y, tw_is g 5 y → inI (tw_I σ y 13) 0 1) ∧ (∀ y, tw_is g 6 y → inI (tw_I σ y 2) 0 240) ∧ (∀ y, tw_is g 4 y → inI (tw_I σ y 2) 0 22500) ∧ (∀ y, tw_is g 5 y → ∀ i, inI (tw_A σ (tw_R g y 3) i) (-1) 149) ∧ (∀ y, tw_is g 5 y → ∀ i, inI (tw_A σ (tw_R g y 4) i) (-1) 149) ∧ tw_I σ P.1 1 = P.2.1 ∧ tw_I σ P.2.2.1 1 = P.2.2.2.1 ∧ tw_A σ P.2.2.2.2.1 = P.2.2.2.2.2
section G0
variable {g : tw_G} {P : g_P} {σ σ2 : tw_S} {a b y c k d n : Nat}
theorem kd (hX : XI g P σ) (ha : tw_is g c a) (hq : (c, k, d, n) ∈ tw_tl) : tw_is g d (tw_R g a k) := (hX.1.1.1 _ hq a ha).1
theorem kdE (hX : XI g P σ) (ha : tw_is g 13 a) {j : Nat} (hj : j < tw_N g a) : tw_is g 0 (tw_E g a j) := hX.1.1.2 a j ha hj
theorem is_c (h1 : tw_is g c a) (h2 : tw_is g d a) : c = d := h1.2.symm.trans h2.2
/-- slots that the invariant says nothing of -/
def xf (c k : Nat) : Bool := !([(3, 1), (7, 1), (5, 13), (6, 1), (6, 2), (4, 2)].contains (c, k))
theorem xs_I {v : Int32} {e j : Nat} (ha : tw_is g c a) (hy : tw_is g e y) (h : ¬ (c = e ∧ k = j)) : tw_I (tw_sI σ a k v) y j = tw_I σ y j := by
  rw [tw_I_sI]
  by_cases h1 : y = a
  · rw [if_pos h1]
    by_cases h2 : j = k
    · subst h1
      exact absurd ⟨is_c ha hy, h2.symm⟩ h
    · rw [if_neg h2]
  · rw [if_neg h1]
theorem xW (hX : XI g P σ) : tw_is g 7 P.1 := by
  obtain ⟨z, hz, e1, e2, e3⟩ := hX.1.2.2
  rw [e1]
  exact kd hX hz (d := 7) (n := 0) (by decide)
theorem xTx (hX : XI g P σ) : tw_is g 6 P.2.2.1 := by
  obtain ⟨z, hz, e1, e2, e3⟩ := hX.1.2.2
  rw [e2]
  exact kd hX hz (d := 6) (n := 0) (by decide)
theorem xi_I {v : Int32} (hX : XI g P σ) (ha : tw_is g c a) (hf : xf c k = true) : XI g P (tw_sI σ a k v) := by
  have f : ∀ e j, xf e j = false → ¬ (c = e ∧ k = j) := fun e j h z => by
    rw [z.1, z.2, h] at hf
    exact absurd hf (by decide)
  have w := xW hX
  have t := xTx hX
  obtain ⟨h0, h1, h2, h3, h4, h5, h6, h7, h8, h9, h10⟩ := hX
  refine ⟨h0, fun y hy => ?_, fun y hy => ?_, fun y hy => ?_, fun y hy => ?_, fun y hy => ?_, h6, h7, ?_, ?_, h10⟩
  · rw [xs_I ha hy (f 3 1 rfl)]; exact h1 y hy
  · rw [xs_I ha hy (f 7 1 rfl)]; exact h2 y hy
  · rw [xs_I ha hy (f 5 13 rfl)]; exact h3 y hy
  · rw [xs_I ha hy (f 6 2 rfl)]; exact h4 y hy
  · rw [xs_I ha hy (f 4 2 rfl)]; exact h5 y hy
  · rw [xs_I ha w (f 7 1 rfl)]; exact h8
  · rw [xs_I ha t (f 6 1 rfl)]; exact h9
/-- a slot that the invariant bounds, not that of the word or of the text -/
theorem xi_Iv {v : Int32} (hX : XI g P σ) (ha : tw_is g c a) (hk : ¬ (c = 6 ∧ k = 1)) (hw : ¬ (c = 7 ∧ k = 1 ∧ a = P.1)) (h1 : c = 3 → k = 1 → inI v 1 4) (h2 : c = 7 → k = 1 → inI v 0 24) (h3 : c = 5 → k = 13 → inI v 0 1) (h4 : c = 6 → k = 2 → inI v 0 240) (h5 : c = 4 → k = 2 → inI v 0 22500) : XI g P (tw_sI σ a k v) := by
  have w := xW hX
  have t := xTx hX
  have key : ∀ e j y lo hi, tw_is g e y → (c = e → k = j → inI v lo hi) → inI (tw_I σ y j) lo hi → inI (tw_I (tw_sI σ a k v) y j) lo hi := by
    intro e j y lo hi hy h h0
    rw [tw_I_sI]
    by_cases c1 : y = a
    · rw [if_pos c1]
      by_cases c2 : j = k
      · rw [if_pos c2]
        subst c1
        exact h (is_c ha hy) c2.symm
      · rw [if_neg c2]; exact h0
    · rw [if_neg c1]; exact h0
  obtain ⟨g0, g1, g2, g3, g4, g5, g6, g7, g8, g9, g10⟩ := hX
  refine ⟨g0, fun y hy => key 3 1 y 1 4 hy h1 (g1 y hy), fun y hy => key 7 1 y 0 24 hy h2 (g2 y hy), fun y hy => key 5 13 y 0 1 hy h3 (g3 y hy), fun y hy => key 6 2 y 0 240 hy h4 (g4 y hy), fun y hy => key 4 2 y 0 22500 hy h5 (g5 y hy), g6, g7, ?_, ?_, g10⟩
  · rw [tw_I_sI]
    by_cases c1 : P.1 = a
    · rw [if_pos c1]
      by_cases c2 : 1 = k
      · exact absurd ⟨is_c ha (c1 ▸ w), c2.symm, c1.symm⟩ hw
      · rw [if_neg c2]; exact g8
    · rw [if_neg c1]; exact g8
  · rw [xs_I ha t (fun z => hk ⟨z.1, z.2⟩)]; exact g9
/-- rows that the invariant says nothing of -/
def xr9 (c k : Nat) : Bool := !([(5, 3), (5, 4), (8, 3)].contains (c, k))
theorem xs_A {f : Nat → Int32} {e j : Nat} {d2 n2 : Nat} (hX : XI g P σ) (ha : tw_is g c a) (hq : (c, k, d, n) ∈ tw_tl) (hy : tw_is g e y) (hq2 : (e, j, d2, n2) ∈ tw_tl) (h : ¬ (c = e ∧ k = j ∧ a = y)) : tw_A (tw_sA σ (tw_R g a k) f) (tw_R g y j) = tw_A σ (tw_R g y j) := by
  rw [tw_A_sA, if_neg]
  intro e1
  have e2 := hX.1.2.1 _ hq2 _ hq y a hy ha e1
  exact h ⟨e2.1.symm, e2.2.1.symm, e2.2.2.symm⟩
theorem xi_A {f : Nat → Int32} (hX : XI g P σ) (ha : tw_is g c a) (hq : (c, k, d, n) ∈ tw_tl) (hf : xr9 c k = true) : XI g P (tw_sA σ (tw_R g a k) f) := by
  have ff : ∀ e j y, xr9 e j = false → ¬ (c = e ∧ k = j ∧ a = y) := fun e j y h z => by
    rw [z.1, z.2.1, h] at hf
    exact absurd hf (by decide)
  have hX0 := hX
  obtain ⟨h0, h1, h2, h3, h4, h5, h6, h7, h8, h9, h10⟩ := hX
  refine ⟨h0, h1, h2, h3, h4, h5, fun y hy => ?_, fun y hy => ?_, h8, h9, ?_⟩
  · rw [xs_A hX0 ha hq hy (e := 5) (j := 3) (d2 := 10) (n2 := 3125) (by decide) (ff 5 3 y rfl)]; exact h6 y hy
  · rw [xs_A hX0 ha hq hy (e := 5) (j := 4) (d2 := 10) (n2 := 300) (by decide) (ff 5 4 y rfl)]; exact h7 y hy
  · obtain ⟨z, hz, e1, e2, e3⟩ := h0.2.2
    rw [← h10, e3]
    exact xs_A hX0 ha hq hz (e := 8) (j := 3) (d2 := 12) (n2 := 2) (by decide) (ff 8 3 z rfl)
/-- the rows of numbers of a one-way -/
theorem xi_A5 {f : Nat → Int32} (hX : XI g P σ) (ha : tw_is g 5 a) (hk : k = 3 ∨ k = 4) (hf : ∀ i, inI (f i) (-1) 149) : XI g P (tw_sA σ (tw_R g a k) f) := by
  have hq : ∃ d n, (5, k, d, n) ∈ tw_tl := by
    rcases hk with rfl | rfl
    · exact ⟨10, 3125, by decide⟩
    · exact ⟨10, 300, by decide⟩
  obtain ⟨d, n, hq⟩ := hq
  have hX0 := hX
  obtain ⟨h0, h1, h2, h3, h4, h5, h6, h7, h8, h9, h10⟩ := hX
  have key : ∀ y j, (∀ i, inI (tw_A σ (tw_R g y j) i) (-1) 149) → ∀ i, inI (tw_A (tw_sA σ (tw_R g a k) f) (tw_R g y j) i) (-1) 149 := by
    intro y j h i
    rw [tw_A_sA]
    split
    · exact hf i
    · exact h i
  refine ⟨h0, h1, h2, h3, h4, h5, fun y hy => key y 3 (h6 y hy), fun y hy => key y 4 (h7 y hy), h8, h9, ?_⟩
  obtain ⟨z, hz, e1, e2, e3⟩ := h0.2.2
  rw [← h10, e3]
  exact xs_A hX0 ha hq hz (e := 8) (j := 3) (d2 := 12) (n2 := 2) (by decide) (fun z => absurd z.1 (by decide))
theorem xi_J {v : Int64} (hX : XI g P σ) : XI g P (tw_sJ σ a k v) := hX
theorem xi_B {f : Nat → Int64} (hX : XI g P σ) : XI g P (tw_sB σ a f) := hX
/-- a state told by an equation -/
theorem x_st {e : tw_S} {T : tw_S → Prop} (h : XI g P e) (h2 : ∀ s, s = e → XI g P s → T s) : ∀ s, s = e → T s := fun s hs => h2 s hs (hs ▸ h)
theorem x_fill (hX : XI g P σ) (ha : tw_is g c a) (hq : (c, k, d, n) ∈ tw_tl) (hf : xr9 c k = true) {N : Nat} (hN : N < 2 ^ 31) {v : Int32} {Q : tw_S → Prop} (hQ : ∀ s, XI g P s → Q s) : wp_J7_fill_53178 g σ (tw_R g a k) N v Q := wf_fill g σ _ N _ _ hN (hQ _ (xi_A hX ha hq hf))
end G0
theorem e_0 : (0 : Int32).toInt = 0 := rfl
theorem e_1 : (1 : Int32).toInt = 1 := rfl
theorem e_2 : (2 : Int32).toInt = 2 := rfl
theorem e_4 : (4 : Int32).toInt = 4 := rfl
theorem e_5 : (5 : Int32).toInt = 5 := rfl
theorem e_8 : (8 : Int32).toInt = 8 := rfl
theorem e_16 : (16 : Int32).toInt = 16 := rfl
theorem e_24 : (24 : Int32).toInt = 24 := rfl
theorem e_26 : (26 : Int32).toInt = 26 := rfl
theorem e_96 : (96 : Int32).toInt = 96 := rfl
theorem e_104 : (104 : Int32).toInt = 104 := rfl
theorem e_150 : (150 : Int32).toInt = 150 := rfl
theorem e_240 : (240 : Int32).toInt = 240 := rfl
theorem e_3125 : (3125 : Int32).toInt = 3125 := rfl
theorem e_22500 : (22500 : Int32).toInt = 22500 := rfl
theorem e_m1 : (-1 : Int32).toInt = -1 := rfl
theorem i_inc {x : Int32} {N : Nat} (hN : N < 2 ^ 30) (h : inI x 0 N) (h2 : x.toInt < N) : inI (x + 1) 0 N ∧ (x + 1).toInt = x.toInt + 1 := by
  obtain ⟨j, _, hj, rfl, _⟩ := inI_nI (lo := 0) (hi := N) h
  rw [nI_toInt (by omega)] at h2
  rw [nI_1]
  have e : (nI (j + 1)).toInt = ((j + 1 : Nat) : Int) := nI_toInt (by omega)
  have e2 : (nI j).toInt = (j : Int) := nI_toInt (by omega)
  refine ⟨⟨?_, ?_⟩, ?_⟩
  · omega
  · omega
  · omega
theorem cu1 {W : Nat → tw_S → Prop} (I : tw_S → Prop) (μ : tw_S → Nat) (hs : ∀ n σ, I σ → (∀ s, I s → μ s < μ σ → W n s) → W (n + 1) σ) (σ : tw_S) (h : I σ) : ∃ n, W n σ := by
  have key : ∀ d σ, I σ → μ σ < d → W d σ := by
    intro d
    induction d with
    | zero => intro σ _ c; exact absurd c (Nat.not_lt_zero _)
    | succ d ih => intro σ h c; exact hs d σ h (fun s h2 c2 => ih s h2 (by omega))
  exact ⟨μ σ + 1, key _ σ h (Nat.lt_succ_self _)⟩
theorem cu2 {W : Nat → Int32 → tw_S → Prop} (N : Nat) (hN : N < 2 ^ 30) (X : tw_S → Prop) (hs : ∀ n x σ, inI x 0 N → X σ → (∀ s, x.toInt < N → X s → W n (x + 1) s) → W (n + 1) x σ) (x : Int32) (σ : tw_S) (hx : inI x 0 N) (h : X σ) : ∃ n, W n x σ := by
  have key : ∀ (d : Nat) x σ, inI x 0 N → X σ → N < x.toInt + d → W d x σ := by
    intro d
    induction d with
    | zero => intro x σ hx _ c; exact absurd c (by have := hx.2; omega)
    | succ d ih => intro x σ hx h c; exact hs d x σ hx h (fun s c2 h2 => ih _ s (i_inc hN hx c2).1 h2 (by rw [(i_inc hN hx c2).2]; omega))
  exact ⟨N + 1, key _ x σ hx h (by have := hx.1; omega)⟩
theorem cu3 {α : Type} {W : Nat → α → Int32 → tw_S → Prop} (N : Nat) (hN : N < 2 ^ 30) (X : α → tw_S → Prop) (hs : ∀ n u x σ, inI x 0 N → X u σ → (∀ v s, x.toInt < N → X v s → W n v (x + 1) s) → W (n + 1) u x σ) (u : α) (x : Int32) (σ : tw_S) (hx : inI x 0 N) (h : X u σ) : ∃ n, W n u x σ := by
  have key : ∀ (d : Nat) u x σ, inI x 0 N → X u σ → N < x.toInt + d → W d u x σ := by
    intro d
    induction d with
    | zero => intro u x σ hx _ c; exact absurd c (by have := hx.2; omega)
    | succ d ih => intro u x σ hx h c; exact hs d u x σ hx h (fun v s c2 h2 => ih v _ s (i_inc hN hx c2).1 h2 (by rw [(i_inc hN hx c2).2]; omega))
  exact ⟨N + 1, key _ u x σ hx h (by have := hx.1; omega)⟩
theorem cu4 {W : Nat → Int32 → Int32 → Int32 → tw_S → Prop} (N : Nat) (hN : N < 2 ^ 30) (X : Int32 → Int32 → tw_S → Prop) (hs : ∀ n u w x σ, inI x 0 N → X u w σ → (∀ v z s, x.toInt < N → X v z s → W n v z (x + 1) s) → W (n + 1) u w x σ) (u w : Int32) (x : Int32) (σ : tw_S) (hx : inI x 0 N) (h : X u w σ) : ∃ n, W n u w x σ := by
  have key : ∀ (d : Nat) u w x σ, inI x 0 N → X u w σ → N < x.toInt + d → W d u w x σ := by
    intro d
    induction d with
    | zero => intro u w x σ hx _ c; exact absurd c (by have := hx.2; omega)
    | succ d ih => intro u w x σ hx h c; exact hs d u w x σ hx h (fun v z s c2 h2 => ih v z _ s (i_inc hN hx c2).1 h2 (by rw [(i_inc hN hx c2).2]; omega))
  exact ⟨N + 1, key _ u w x σ hx h (by have := hx.1; omega)⟩
theorem i_of {x : Int32} {N : Nat} (hN : N < 2 ^ 31) (h0 : ¬ x < 0) (h1 : ¬ nI N ≤ x) : ∃ j : Nat, j < N ∧ x = nI j := by
  rw [i_lt] at h0
  rw [i_le, nI_toInt hN] at h1
  obtain ⟨j, _, hj, e, _⟩ := inI_nI (x := x) (lo := 0) (hi := N - 1) ⟨by have := e_0; omega, by have := e_0; omega⟩
  exact ⟨j, by have := e_0; omega, e⟩
theorem v_g {x : Int32} {N : Nat} (hN : N < 2 ^ 31) (h0 : ¬ x < 0) (h1 : ¬ nI N ≤ x) : vp_in x N := by
  obtain ⟨j, hj, rfl⟩ := i_of hN h0 h1
  exact vp_in_nI hj hN
theorem v_l {x : Int32} {N M : Nat} (hN : N < 2 ^ 31) (h0 : inI x 0 M) (h1 : ¬ nI N ≤ x) : vp_in x N := by
  refine v_g hN (fun c => ?_) h1
  rw [i_lt] at c
  have := h0.1
  have := e_0
  omega
theorem v_5 {x : Int32} (h0 : ¬ x < 0) (h1 : ¬ (150 : Int32) ≤ x) : vp_in ((5 : Int32) * x) 750 := by
  obtain ⟨j, hj, rfl⟩ := i_of (N := 150) (by decide) h0 h1
  have e : (5 : Int32) * nI j = nI (5 * j) := pk_mul 5 j
  rw [e]
  exact vp_in_nI (by omega) (by decide)
theorem v_51 {x y : Int32} (h0 : ¬ x < 0) (h1 : ¬ (150 : Int32) ≤ x) (h2 : ¬ y < 0) (h3 : ¬ (4 : Int32) ≤ y) : vp_in ((((5 : Int32) * x) + (1 : Int32)) + y) 750 := by
  obtain ⟨j, hj, rfl⟩ := i_of (N := 150) (by decide) h0 h1
  obtain ⟨i, hi, rfl⟩ := i_of (N := 4) (by decide) h2 h3
  have e : (5 : Int32) * nI j = nI (5 * j) := pk_mul 5 j
  rw [e, nI_1, nI_add]
  exact vp_in_nI (by omega) (by decide)
theorem v_2 {x y : Int32} (h0 : ¬ x < 0) (h1 : ¬ (150 : Int32) ≤ x) (h2 : ¬ y < 0) (h3 : ¬ (2 : Int32) ≤ y) : vp_in (((2 : Int32) * x) + y) 300 := by
  obtain ⟨j, hj, rfl⟩ := i_of (N := 150) (by decide) h0 h1
  obtain ⟨i, hi, rfl⟩ := i_of (N := 2) (by decide) h2 h3
  have e : (2 : Int32) * nI j = nI (2 * j) := pk_mul 2 j
  rw [e, nI_add]
  exact vp_in_nI (by omega) (by decide)
theorem i_n0 {x : Int32} {M : Int} (h : inI x 0 M) : ¬ x < 0 := by
  intro c
  rw [i_lt] at c
  have := h.1
  have := e_0
  omega
theorem i_l {x y : Int32} {N : Int} (h : y.toInt = N) (c : ¬ y ≤ x) : x.toInt < N := by
  rw [i_le] at c
  omega
theorem i_l2 {x y : Int32} {N : Int} (h : y.toInt = N) (c : ¬ y < x) : x.toInt < N + 1 := by
  rw [i_lt] at c
  omega
