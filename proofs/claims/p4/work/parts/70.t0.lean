/-! ===== what a text tells: the letters, blanks passed ===== -/
def t_sk (f : Nat → Int32) (n : Nat) : Nat → Nat → Nat
  | 0, p => p
  | d + 1, p => if p < n ∧ f p = 32 then t_sk f n d (p + 1) else p
/-- the place of the next letter that is no blank -/
def t_s (f : Nat → Int32) (n p : Nat) : Nat := t_sk f n (n - p) p
/-- the letter at a place; none: -1 -/
def t_at (f : Nat → Int32) (n p : Nat) : Int32 := if p < n then f p else -1
theorem t_s_b {f : Nat → Int32} {n p : Nat} (h : p < n) (h2 : f p = 32) : t_s f n p = t_s f n (p + 1) := by
  unfold t_s
  obtain ⟨d, hd⟩ : ∃ d, n - p = d + 1 := ⟨n - p - 1, by omega⟩
  have e : n - (p + 1) = d := by omega
  rw [hd, e, t_sk, if_pos ⟨h, h2⟩]
theorem t_s_n {f : Nat → Int32} {n p : Nat} (h : ¬ (p < n ∧ f p = 32)) : t_s f n p = p := by
  unfold t_s
  cases n - p with
  | zero => rfl
  | succ d => rw [t_sk, if_neg h]
theorem t_s_ok (f : Nat → Int32) (n : Nat) : ∀ d p, n - p = d → p ≤ n → t_s f n p ≤ n ∧ p ≤ t_s f n p ∧ ¬ (t_s f n p < n ∧ f (t_s f n p) = 32) := by
  intro d
  induction d with
  | zero =>
    intro p hd hp
    rw [t_s_n (fun h => absurd h.1 (by omega))]
    exact ⟨hp, Nat.le_refl _, fun h => absurd h.1 (by omega)⟩
  | succ d ih =>
    intro p hd hp
    by_cases h : p < n ∧ f p = 32
    · rw [t_s_b h.1 h.2]
      have h2 := ih (p + 1) (by omega) (by omega)
      exact ⟨h2.1, by omega, h2.2.2⟩
    · rw [t_s_n h]
      exact ⟨hp, Nat.le_refl _, h⟩
theorem t_s_le {f : Nat → Int32} {n p : Nat} (h : p ≤ n) : t_s f n p ≤ n := (t_s_ok f n _ p rfl h).1
theorem t_s_ge {f : Nat → Int32} {n p : Nat} (h : p ≤ n) : p ≤ t_s f n p := (t_s_ok f n _ p rfl h).2.1
theorem t_s_s {f : Nat → Int32} {n p : Nat} (h : p ≤ n) : t_s f n (t_s f n p) = t_s f n p := t_s_n (t_s_ok f n _ p rfl h).2.2
theorem t_at_lt {f : Nat → Int32} {n p : Nat} (h : ¬ t_at f n p = -1) : p < n := by
  unfold t_at at h
  by_cases c : p < n
  · exact c
  · rw [if_neg c] at h
    exact absurd rfl h
theorem t_s_eq {f f2 : Nat → Int32} {n : Nat} (h : ∀ i, i < n → f i = f2 i) : t_s f n = t_s f2 n := by
  have key : ∀ d p, t_sk f n d p = t_sk f2 n d p := by
    intro d
    induction d with
    | zero => intro p; rfl
    | succ d ih =>
      intro p
      rw [t_sk, t_sk]
      by_cases c : p < n
      · rw [h p c, ih]
      · rw [if_neg (fun z => c z.1), if_neg (fun z => c z.1)]
  funext p
  exact key _ p
theorem t_at_eq {f f2 : Nat → Int32} {n : Nat} (h : ∀ i, i < n → f i = f2 i) : t_at f n = t_at f2 n := by
  funext p
  unfold t_at
  by_cases c : p < n
  · rw [if_pos c, if_pos c, h p c]
  · rw [if_neg c, if_neg c]
/-! a machine's text, word by word: where it ends with a fault (its number, its place), where it goes on. A: the letter at a place, S: blanks passed -/
def t_so (x : Int32) : Int32 := if x = 97 then 0 else if x = 98 then 1 else if x = 40 then 2 else if x = 41 then 3 else -1
def t_letter {R : Type} (A : Nat → Int32) (S : Nat → Nat) (c : Int32) (kf : Int32 → Nat → R) (k : Nat → R) (p : Nat) : R := if A (S p) = c then k (S p + 1) else kf 1 (S p)
def t_fig {R : Type} (A : Nat → Int32) (S : Nat → Nat) (lo hi : Int32) (kf : Int32 → Nat → R) (k : Int32 → Nat → R) (p : Nat) : R := if inI (A (S p) - 48) 0 9 then (if inI (A (S p) - 48) lo.toInt hi.toInt then k (A (S p) - 48) (S p + 1) else kf 2 (S p)) else kf 1 (S p)
def t_sign {R : Type} (A : Nat → Int32) (S : Nat → Nat) (mv : Nat → Int32) (s : Int32) (kf : Int32 → Nat → R) (k : Int32 → Nat → R) (p : Nat) : R := if t_so (A (S p)) = -1 then kf 1 (S p) else (if mv ((4 : Int32) * s + t_so (A (S p))).toNatClampNeg = -1 then k (t_so (A (S p))) (S p + 1) else kf 4 (S p))
def t_side {R : Type} (A : Nat → Int32) (S : Nat → Nat) (kf : Int32 → Nat → R) (k : Int32 → Nat → R) (p : Nat) : R := if A (S p) = 114 then k 1 (S p + 1) else (if A (S p) = 108 then k 0 (S p + 1) else kf 1 (S p))
def t_move {R : Type} (A : Nat → Int32) (S : Nat → Nat) (z : Int32) (mv : Nat → Int32) (kf : Int32 → Nat → R) (k : (Nat → Int32) → Nat → R) (p : Nat) : R := if A (S p) = 113 then kf 3 (S p) else t_letter A S 109 kf (t_fig A S 0 (z - 1) kf (fun s => t_sign A S mv s kf (fun c => t_fig A S 0 (z - 1) kf (fun t => t_side A S kf (fun d => t_letter A S 59 kf (k (upd mv ((4 : Int32) * s + c).toNatClampNeg ((2 : Int32) * t + d)))))))) p
def t_loop {R : Type} (A : Nat → Int32) (S : Nat → Nat) (z : Int32) (kf : Int32 → Nat → R) (k : R) : Nat → (Nat → Int32) → Nat → R
  | 0, _, _ => k
  | d + 1, mv, p => if A (S p) = -1 then k else t_move A S z mv kf (fun mv2 p2 => t_loop A S z kf k d mv2 p2) p
def t_text {R : Type} (A : Nat → Int32) (S : Nat → Nat) (kf : Int32 → Nat → R) (k : Int32 → R) : R := if A (S 0) = -1 then k 1 else t_letter A S 113 kf (t_fig A S 1 4 kf (fun z => t_letter A S 59 kf (fun p => t_loop A S z kf (k z) 240 (fun _ => -1) p))) 0
section T0
variable {R R2 : Type} {A : Nat → Int32} {S : Nat → Nat} (h : R → R2) {kf : Int32 → Nat → R}
theorem n_letter {c : Int32} {k : Nat → R} {k2 : Nat → R2} (hk : ∀ p, h (k p) = k2 p) (p : Nat) : h (t_letter A S c kf k p) = t_letter A S c (fun a b => h (kf a b)) k2 p := by
  unfold t_letter
  by_cases e : A (S p) = c
  · exact (congrArg h (if_pos e)).trans ((hk _).trans (if_pos e).symm)
  · exact (congrArg h (if_neg e)).trans (if_neg e).symm
theorem n_fig {lo hi : Int32} {k : Int32 → Nat → R} {k2 : Int32 → Nat → R2} (hk : ∀ x p, h (k x p) = k2 x p) (p : Nat) : h (t_fig A S lo hi kf k p) = t_fig A S lo hi (fun a b => h (kf a b)) k2 p := by
  unfold t_fig
  by_cases e : inI (A (S p) - 48) 0 9
  · by_cases e2 : inI (A (S p) - 48) lo.toInt hi.toInt
    · exact (congrArg h ((if_pos e).trans (if_pos e2))).trans ((hk _ _).trans ((if_pos e).trans (if_pos e2)).symm)
    · exact (congrArg h ((if_pos e).trans (if_neg e2))).trans ((if_pos e).trans (if_neg e2)).symm
  · exact (congrArg h (if_neg e)).trans (if_neg e).symm
theorem n_sign {mv : Nat → Int32} {s : Int32} {k : Int32 → Nat → R} {k2 : Int32 → Nat → R2} (hk : ∀ x p, h (k x p) = k2 x p) (p : Nat) : h (t_sign A S mv s kf k p) = t_sign A S mv s (fun a b => h (kf a b)) k2 p := by
  unfold t_sign
  by_cases e : t_so (A (S p)) = -1
  · exact (congrArg h (if_pos e)).trans (if_pos e).symm
  · by_cases e2 : mv ((4 : Int32) * s + t_so (A (S p))).toNatClampNeg = -1
    · exact (congrArg h ((if_neg e).trans (if_pos e2))).trans ((hk _ _).trans ((if_neg e).trans (if_pos e2)).symm)
    · exact (congrArg h ((if_neg e).trans (if_neg e2))).trans ((if_neg e).trans (if_neg e2)).symm
theorem n_side {k : Int32 → Nat → R} {k2 : Int32 → Nat → R2} (hk : ∀ x p, h (k x p) = k2 x p) (p : Nat) : h (t_side A S kf k p) = t_side A S (fun a b => h (kf a b)) k2 p := by
  unfold t_side
  by_cases e : A (S p) = 114
  · exact (congrArg h (if_pos e)).trans ((hk _ _).trans (if_pos e).symm)
  · by_cases e2 : A (S p) = 108
    · exact (congrArg h ((if_neg e).trans (if_pos e2))).trans ((hk _ _).trans ((if_neg e).trans (if_pos e2)).symm)
    · exact (congrArg h ((if_neg e).trans (if_neg e2))).trans ((if_neg e).trans (if_neg e2)).symm
theorem n_move {z : Int32} {mv : Nat → Int32} {k : (Nat → Int32) → Nat → R} {k2 : (Nat → Int32) → Nat → R2} (hk : ∀ x p, h (k x p) = k2 x p) (p : Nat) : h (t_move A S z mv kf k p) = t_move A S z mv (fun a b => h (kf a b)) k2 p := by
  unfold t_move
  by_cases e : A (S p) = 113
  · exact (congrArg h (if_pos e)).trans (if_pos e).symm
  · refine (congrArg h (if_neg e)).trans (Eq.trans ?_ (if_neg e).symm)
    exact n_letter h (n_fig h fun s => n_sign h fun c => n_fig h fun t => n_side h fun d => n_letter h fun p => hk _ p) p
theorem n_loop {z : Int32} {k : R} : ∀ d mv p, h (t_loop A S z kf k d mv p) = t_loop A S z (fun a b => h (kf a b)) (h k) d mv p := by
  intro d
  induction d with
  | zero => intro mv p; rfl
  | succ d ih =>
    intro mv p
    rw [t_loop, t_loop]
    by_cases e : A (S p) = -1
    · exact (congrArg h (if_pos e)).trans (if_pos e).symm
    · refine (congrArg h (if_neg e)).trans (Eq.trans ?_ (if_neg e).symm)
      exact n_move h (fun x p => ih x p) p
theorem n_text {k : Int32 → R} : h (t_text A S kf k) = t_text A S (fun a b => h (kf a b)) (fun z => h (k z)) := by
  unfold t_text
  by_cases e : A (S 0) = -1
  · exact (congrArg h (if_pos e)).trans (if_pos e).symm
  · refine (congrArg h (if_neg e)).trans (Eq.trans ?_ (if_neg e).symm)
    exact n_letter h (n_fig h fun z => n_letter h fun p => n_loop h _ _ p) 0
end T0
section T0m
variable {A : Nat → Int32} {S : Nat → Nat} {kf kf2 : Int32 → Nat → Prop}
theorem m_letter (hf : ∀ a b, kf a b → kf2 a b) {c : Int32} {k k2 : Nat → Prop} (hk : ∀ p, k p → k2 p) (p : Nat) (h : t_letter A S c kf k p) : t_letter A S c kf2 k2 p := by
  unfold t_letter at h ⊢
  by_cases e : A (S p) = c
  · rw [if_pos e] at h ⊢; exact hk _ h
  · rw [if_neg e] at h ⊢; exact hf _ _ h
theorem m_fig (hf : ∀ a b, kf a b → kf2 a b) {lo hi : Int32} {k k2 : Int32 → Nat → Prop} (hk : ∀ x p, k x p → k2 x p) (p : Nat) (h : t_fig A S lo hi kf k p) : t_fig A S lo hi kf2 k2 p := by
  unfold t_fig at h ⊢
  by_cases e : inI (A (S p) - 48) 0 9
  · rw [if_pos e] at h ⊢
    by_cases e2 : inI (A (S p) - 48) lo.toInt hi.toInt
    · rw [if_pos e2] at h ⊢; exact hk _ _ h
    · rw [if_neg e2] at h ⊢; exact hf _ _ h
  · rw [if_neg e] at h ⊢; exact hf _ _ h
theorem m_sign (hf : ∀ a b, kf a b → kf2 a b) {mv : Nat → Int32} {s : Int32} {k k2 : Int32 → Nat → Prop} (hk : ∀ x p, k x p → k2 x p) (p : Nat) (h : t_sign A S mv s kf k p) : t_sign A S mv s kf2 k2 p := by
  unfold t_sign at h ⊢
  by_cases e : t_so (A (S p)) = -1
  · rw [if_pos e] at h ⊢; exact hf _ _ h
  · rw [if_neg e] at h ⊢
    by_cases e2 : mv ((4 : Int32) * s + t_so (A (S p))).toNatClampNeg = -1
    · rw [if_pos e2] at h ⊢; exact hk _ _ h
    · rw [if_neg e2] at h ⊢; exact hf _ _ h
theorem m_side (hf : ∀ a b, kf a b → kf2 a b) {k k2 : Int32 → Nat → Prop} (hk : ∀ x p, k x p → k2 x p) (p : Nat) (h : t_side A S kf k p) : t_side A S kf2 k2 p := by
  unfold t_side at h ⊢
  by_cases e : A (S p) = 114
  · rw [if_pos e] at h ⊢; exact hk _ _ h
  · rw [if_neg e] at h ⊢
    by_cases e2 : A (S p) = 108
    · rw [if_pos e2] at h ⊢; exact hk _ _ h
    · rw [if_neg e2] at h ⊢; exact hf _ _ h
theorem m_move (hf : ∀ a b, kf a b → kf2 a b) {z : Int32} {mv : Nat → Int32} {k k2 : (Nat → Int32) → Nat → Prop} (hk : ∀ x p, k x p → k2 x p) (p : Nat) (h : t_move A S z mv kf k p) : t_move A S z mv kf2 k2 p := by
  unfold t_move at h ⊢
  by_cases e : A (S p) = 113
  · rw [if_pos e] at h ⊢; exact hf _ _ h
  · rw [if_neg e] at h ⊢
    exact m_letter hf (m_fig hf fun s => m_sign hf fun c => m_fig hf fun t => m_side hf fun d => m_letter hf fun p => hk _ p) p h
theorem m_loop (hf : ∀ a b, kf a b → kf2 a b) {z : Int32} {k k2 : Prop} (hk : k → k2) : ∀ d mv p, t_loop A S z kf k d mv p → t_loop A S z kf2 k2 d mv p := by
  intro d
  induction d with
  | zero => intro mv p h; exact hk h
  | succ d ih =>
    intro mv p h
    rw [t_loop] at h ⊢
    by_cases e : A (S p) = -1
    · rw [if_pos e] at h ⊢; exact hk h
    · rw [if_neg e] at h ⊢; exact m_move hf (fun x p => ih x p) p h
theorem m_text (hf : ∀ a b, kf a b → kf2 a b) {k k2 : Int32 → Prop} (hk : ∀ z, k z → k2 z) (h : t_text A S kf k) : t_text A S kf2 k2 := by
  unfold t_text at h ⊢
  by_cases e : A (S 0) = -1
  · rw [if_pos e] at h ⊢; exact hk _ h
  · rw [if_neg e] at h ⊢
    exact m_letter hf (m_fig hf fun z => m_letter hf fun p => m_loop hf (hk z) _ _ p) 0 h
end T0m
/-- what machine() answers, what fault() answers behind it -/
def t_res (f : Nat → Int32) (n : Nat) : Int32 × Int32 := t_text (t_at f n) (t_s f n) (fun k q => ((-10 : Int32) - k, nI q)) (fun z => (z, -1))
theorem t_res_eq {f f2 : Nat → Int32} {n : Nat} (h : ∀ i, i < n → f i = f2 i) : t_res f n = t_res f2 n := by
  unfold t_res
  rw [t_s_eq h, t_at_eq h]
theorem t_res_P {f : Nat → Int32} {n : Nat} {Φ : Int32 × Int32 → Prop} (h : Φ (t_res f n)) : t_text (t_at f n) (t_s f n) (fun k q => Φ ((-10 : Int32) - k, nI q)) (fun z => Φ (z, -1)) := by
  unfold t_res at h
  rw [n_text Φ] at h
  exact h
