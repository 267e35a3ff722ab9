/-! ===== pure tools ===== -/
theorem i_lt {x y : Int32} : x < y ↔ x.toInt < y.toInt := Int32.lt_iff_toInt_lt
theorem i_le {x y : Int32} : x ≤ y ↔ x.toInt ≤ y.toInt := Int32.le_iff_toInt_le
theorem i_eq {x y : Int32} : x = y ↔ x.toInt = y.toInt := Int32.toInt_inj.symm
theorem j_i (x : Int32) : x.toInt64.toInt = x.toInt := by simp
/-- between two bounds -/
abbrev inI (x : Int32) (lo hi : Int) : Prop := lo ≤ x.toInt ∧ x.toInt ≤ hi
theorem inI_nI {x : Int32} {lo hi : Nat} (h : inI x lo hi) : ∃ j : Nat, lo ≤ j ∧ j ≤ hi ∧ x = nI j ∧ j < 2 ^ 31 := by
  have h1 : x.toInt < 2 ^ 31 := x.toInt_lt
  refine ⟨x.toInt.toNat, by omega, by omega, ?_, by omega⟩
  rw [i_eq, nI_toInt (by omega)]
  omega
theorem sp_in {g : tw_G} {σ : tw_S} {x lo hi : Int64} {Q : Int32 → tw_S → Prop} (h1 : lo.toInt ≤ x.toInt → x.toInt ≤ hi.toInt → Q 1 σ) (h0 : (x.toInt < lo.toInt ∨ hi.toInt < x.toInt) → Q 0 σ) : wp_X9_in g σ x lo hi Q := by
  unfold wp_X9_in
  simp only [lg_cmp_lt, lg_cmp_gt, Int64.lt_iff_toInt_lt]
  exact ⟨fun c => h0 (Or.inl c), fun c => ⟨fun c2 => h0 (Or.inr c2), fun c2 => h1 (by omega) (by omega)⟩⟩
/-- of an int, between two written numbers -/
theorem sp_inI {g : tw_G} {σ : tw_S} {x : Int32} {lo hi : Int64} {a b : Int} {Q : Int32 → tw_S → Prop} (ha : lo.toInt = a) (hb : hi.toInt = b) (h1 : inI x a b → Q 1 σ) (h0 : ¬ inI x a b → Q 0 σ) : wp_X9_in g σ x.toInt64 lo hi Q := by
  refine sp_in (fun c1 c2 => h1 ?_) (fun c => h0 ?_)
  · rw [j_i] at c1 c2
    exact ⟨by omega, by omega⟩
  · rw [j_i] at c
    exact fun z => by omega
theorem nb1 : narrow .boolean (.int 1) = .int 1 := rfl
theorem nb0 : narrow .boolean (.int 0) = .int 0 := rfl
/-- a loop that counts up: what holds at i, from i on -/
theorem lp_up {W : Nat → Int32 → tw_S → Prop} {I : Nat → tw_S → Prop} (N : Nat) (hs : ∀ n i σ, i < N → I i σ → (∀ σ2, I (i + 1) σ2 → W n (nI (i + 1)) σ2) → W (n + 1) (nI i) σ) (hx : ∀ n σ, I N σ → W (n + 1) (nI N) σ) (i : Nat) (hi : i ≤ N) (σ : tw_S) (h : I i σ) : ∃ n, W n (nI i) σ := by
  have key : ∀ d i σ, i + d = N → I i σ → W (d + 1) (nI i) σ := by
    intro d
    induction d with
    | zero =>
      intro i σ e h
      have e : i = N := by omega
      subst e
      exact hx 0 σ h
    | succ d ih =>
      intro i σ e h
      exact hs (d + 1) i σ (by omega) h (fun σ2 h2 => ih (i + 1) σ2 (by omega) h2)
  exact ⟨N - i + 1, key (N - i) i σ (by omega) h⟩
/-- the rows of the model are apart -/
def m_sl : List Nat := [0, 1, 6, 8, 11, 13, 17, 18, 20, 21, 22, 23, 24, 25, 26, 27, 28, 29, 30, 31, 32, 33, 34]
def m_d (g : tw_G) (a0 : Nat) : Prop := ∀ i j, i ∈ m_sl → j ∈ m_sl → i ≠ j → tw_R g a0 i ≠ tw_R g a0 j
theorem m_ne {g : tw_G} {a0 : Nat} (hd : m_d g a0) {i j : Nat} (hi : i ∈ m_sl) (hj : j ∈ m_sl) (h : i ≠ j) : (tw_R g a0 i = tw_R g a0 j) = False := eq_false (hd i j hi hj h)
set_option maxRecDepth 20000 in
theorem m_d_of {adm : Nat → Nat} {cy : Nat → ClassId} (hj : tg_inj adm 24) : m_d (tg sm_sk adm cy) (adm 0) := by
  intro i j hi hj2 hne e
  have e1 := tg_Ra (sk := sm_sk) (cy := cy) hj (i := 0) (by decide) i
  have e2 := tg_Ra (sk := sm_sk) (cy := cy) hj (i := 0) (by decide) j
  rw [e1, e2] at e
  have k : ∀ i ∈ m_sl, (sm_sk.getD 0 tg_d).2.1.getD i 0 < 24 := by decide
  have q : ∀ i ∈ m_sl, ∀ j ∈ m_sl, (sm_sk.getD 0 tg_d).2.1.getD i 0 = (sm_sk.getD 0 tg_d).2.1.getD j 0 → i = j := by decide
  exact hne (q i hi j hj2 (hj _ _ (k i hi) (k j hj2) e))
/-! what the calls answer on a fresh object -/
def f_feed (x : Int32) : Int32 := if inI x 0 255 then 1 else (-1000000002)
def f_machine (m : Int32) : Int32 := if inI m 0 1 then 1 else (-1000000001)
def f_move (m s c t d : Int32) : Int32 := if inI m 0 1 ∧ inI s 0 0 ∧ inI c 0 3 ∧ inI t 0 0 then (if inI d 0 1 then -1 else (-1000000002)) else (-1000000001)
def f_none (m s c : Int32) : Int32 := if inI m 0 1 ∧ inI s 0 0 ∧ inI c 0 3 then (-1000000003) else (-1000000001)
def f_states (m n : Int32) : Int32 := if inI m 0 1 then (if inI n 1 4 then 1 else (-1000000002)) else (-1000000001)
def f_moveOf (m s c : Int32) : Int32 := if inI m 0 1 ∧ inI s 0 0 ∧ inI c 0 3 then -1 else (-1000000001)
def f_letter (x : Int32) : Int32 := if inI x 97 98 then 1 else (-1000000002)
def f_told (w : Int32) : Int32 := if w = 0 then 0 else if w = 1 then 1 else if w = 2 then 0 else if w = 3 then 0 else if w = 4 then 1 else (-1000000002)
def f_run (m w : Int32) : Int32 := if inI m 0 1 then (if inI w 0 5 then (if w = 1 then 1 else if w = 5 then -1 else 0) else (-1000000002)) else (-1000000001)
def f_crossed (m p k : Int32) : Int32 := if inI m 0 1 then (if inI p 0 0 ∧ -1 ≤ k.toInt then (if k = -1 then 0 else -1) else (-1000000002)) else (-1000000001)
def f_table (m s : Int32) : Int32 := if inI m 0 1 ∧ inI s 0 0 then (-1000000002) else (-1000000001)
def f_alike (m : Int32) : Int32 := if inI m 0 1 then (-1000000002) else (-1000000001)
def f_ofMachine (m w : Int32) : Int32 := if inI m 0 1 then (if inI w 0 5 then (if w = 1 then 0 else if w = 4 then -1 else 1) else (-1000000002)) else (-1000000001)
def f_oneWay (m s w : Int32) : Int32 := if inI m 0 1 then (if inI s 0 0 then (if inI w 0 4 then (if w = 3 ∨ w = 4 then -1 else 0) else (-1000000002)) else (-1000000001)) else (-1000000001)
def f_taken (m w : Int32) : Int32 := if inI m 0 1 then (if inI w 0 24 then 0 else (-1000000002)) else (-1000000001)
def f_first (w : Int32) : Int32 := if inI w 0 3 then -1 else (-1000000001)
def f_turned (m w : Int32) : Int32 := if inI m 0 1 then (if inI w 0 6 then 0 else (-1000000002)) else (-1000000001)
def f_keep (i : Int32) : Int32 := if inI i 0 1 then 1 else (-1000000001)
def f_goBack (i : Int32) : Int32 := if inI i 0 1 then (-1000000003) else (-1000000001)
