/-! ===== the model on a fresh object: words, lots ===== -/
/-- a loop that counts up, told by its number -/
theorem lp_n {W : Nat → Nat → tw_S → Prop} {I : Nat → tw_S → Prop} (N : Nat) (hs : ∀ n i σ, i < N → I i σ → (∀ σ2, I (i + 1) σ2 → W n (i + 1) σ2) → W (n + 1) i σ) (hx : ∀ n σ, I N σ → W (n + 1) N σ) (i : Nat) (hi : i ≤ N) (σ : tw_S) (h : I i σ) : ∃ n, W n i σ := by
  have key : ∀ d i σ, i + d = N → I i σ → W (d + 1) i σ := by
    intro d
    induction d with
    | zero =>
      intro i σ e h
      have e : i = N := by omega
      subst e
      exact hx 0 σ h
    | succ d ih =>
      intro i σ e h
      exact hs (d + 1) i σ (by omega) h (fun σ2 h2 => ih (i + 1) σ2 (by omega) h2)
  exact ⟨N - i + 1, key (N - i) i σ (by omega) h⟩
theorem i_and31 : ∀ i, i < 32 → (nI i &&& 31) = nI i := by decide
theorem i_smod : ∀ i, i < 32 → ((nI i).toBitVec.smod 32).toNat = i := by decide
theorem i_shr {k i : Nat} (hk : k < 2 ^ 31) (hi : i < 32) : nI k >>> (nI i &&& 31) = nI (k / 2 ^ i) := by
  rw [i_and31 i hi]
  exact pk_shrN hk (nI i) i (i_smod i hi)
def f_word (x : Int32) : Int32 := if inI x 1 33554431 then nI (Nat.log2 x.toInt.toNat) else (-1000000002)
theorem lg_le {k : Nat} (h : 1 ≤ k) : 2 ^ Nat.log2 k ≤ k := Nat.log2_self_le (by omega)
theorem lg_lt {k : Nat} : k < 2 ^ (Nat.log2 k + 1) := Nat.lt_log2_self
theorem lg_24 {k : Nat} (h1 : 1 ≤ k) (h : k ≤ 33554431) : Nat.log2 k ≤ 24 := by
  have h2 := lg_le h1
  refine Nat.le_of_lt_succ (Nat.lt_of_not_le fun c => ?_)
  have h3 : 2 ^ 25 ≤ 2 ^ Nat.log2 k := Nat.pow_le_pow_right (by decide) c
  have h4 : (2 : Nat) ^ 25 = 33554432 := rfl
  omega
section M3
variable {g : tw_G} {τ σ σ2 : tw_S} {a0 : Nat}
theorem m1_word {x : Int32} {Q : Int32 → tw_S → Prop} (hQ : ∀ τ2, Q (f_word x) τ2) : wp_X9_word g τ a0 x Q := by
  unfold wp_X9_word
  refine sp_inI (a := 1) (b := 33554431) rfl rfl (fun c1 => ?_) (fun c1 => ?_)
  · refine ⟨fun _ => ?_, fun c => absurd c (by decide)⟩
    have e : f_word x = nI (Nat.log2 x.toInt.toNat) := if_pos c1
    rw [e] at hQ
    obtain ⟨k, k1, k2, rfl, k3⟩ := inI_nI (lo := 1) (hi := 33554431) c1
    have ek : (nI k).toInt.toNat = k := by rw [nI_toInt k3]; rfl
    rw [ek] at hQ
    have hN : Nat.log2 k ≤ 24 := lg_24 k1 k2
    refine lp_up (I := fun _ _ => True) (Nat.log2 k) ?_ ?_ 0 (Nat.zero_le _) τ trivial
    · intro n i σ hi _ ih
      rw [wl_X9_word_17, i_shr k3 (by omega), nI_1]
      refine ⟨fun c => absurd c (nI_ge (a := 1) ?_ ?_), fun _ => ih σ trivial⟩
      · have h1 : 2 ^ (i + 1) ≤ 2 ^ Nat.log2 k := Nat.pow_le_pow_right (by decide) hi
        have h2 := lg_le k1
        have h3 : 2 ^ (i + 1) = 2 * 2 ^ i := by rw [Nat.pow_succ, Nat.mul_comm]
        have h4 : 2 ≤ k / 2 ^ i := (Nat.le_div_iff_mul_le (Nat.pow_pos (by decide))).mpr (by omega)
        omega
      · exact Nat.lt_of_le_of_lt (Nat.div_le_self _ _) k3
    · intro n σ _
      rw [wl_X9_word_17, i_shr k3 (by omega)]
      have h5 : k / 2 ^ Nat.log2 k ≤ 1 := by
        have h6 : k / 2 ^ Nat.log2 k < 2 := (Nat.div_lt_iff_lt_mul (Nat.pow_pos (by decide))).mpr (by
          have h7 := lg_lt (k := k)
          rw [Nat.pow_succ] at h7
          omega)
        omega
      refine ⟨fun _ σ7 _ => ?_, fun c => absurd (nI_le h5 (by decide)) c⟩
      refine lp_up (I := fun _ _ => True) (Nat.log2 k) ?_ ?_ 0 (Nat.zero_le _) σ7 trivial
      · intro n2 i σ8 hi _ ih
        rw [wl_X9_word_37, nI_1]
        exact ⟨fun c => absurd c (nI_ge hi (by omega)), fun _ => ⟨vp_in_nI (by omega) (by decide), fun σ10 _ => ih σ10 trivial⟩⟩
      · intro n2 σ8 _
        rw [wl_X9_word_37]
        exact ⟨fun _ => hQ _, fun c => absurd (nI_le (Nat.le_refl _) (by omega)) c⟩
  · have e : f_word x = (-1000000002) := if_neg c1
    rw [e] at hQ
    exact ⟨fun c => absurd rfl c, fun _ => hQ _⟩
end M3
/-! lots -/
def lt_n (l : Int64) : Int64 := (l * 16807) - (l * 16807) / 2147483647 * 2147483647
def lt_r (l k : Int64) : Int32 := (l - l / k * k).toInt32
def dr_l (l : Int64) : Int64 := if lt_r (lt_n l) 5 = 0 then lt_n l else lt_n (lt_n (lt_n l))
def dr_e (l : Int64) : Int32 := if lt_r (lt_n l) 5 = 0 then -1 else 2 * lt_r (lt_n (lt_n l)) 1 + lt_r (lt_n (lt_n (lt_n l))) 2
def dr_s (l : Int64) : Nat → Int64
  | 0 => l
  | i + 1 => dr_l (dr_s l i)
/-- the moves of a machine of one state by lots: four, then none -/
def dr_v (l : Int64) (i : Nat) : Int32 := if i < 4 then dr_e (dr_s l i) else -1
def dr_c (l : Int64) : Nat → Int32
  | 0 => 0
  | i + 1 => if dr_v l i = -1 then dr_c l i else dr_c l i + 1
def f_drift (m s : Int32) : Int32 := if inI m 0 1 then (if inI s 1 999999 then dr_c s.toInt64 16 else (-1000000002)) else (-1000000001)
section M4
variable {g : tw_G} {τ σ σ2 : tw_S} {a0 : Nat}
theorem m_lots {x : Int32} {l k : Int64} (hl : tw_J σ a0 10 = l) (hk : x.toInt64 = k) (h0 : ¬ k = 0) {Q : Int32 → tw_S → Prop} (hQ : ∀ σ2, σ2 = tw_sJ σ a0 10 (lt_n l) → Q (lt_r (lt_n l) k) σ2) : wp_X9_lots g σ a0 x Q := by
  unfold wp_X9_lots
  intro z1 e1 σ2 e2
  rw [hl] at e1
  have e3 : z1 = lt_n l := e1
  rw [e3] at e2
  have e4 : tw_J σ2 a0 10 = lt_n l := by simp [e2, tw_J_sJ]
  rw [hk]
  refine ⟨h0, fun z3 e5 => ?_⟩
  rw [e5, e4]
  exact hQ σ2 e2
theorem m_c17 {q k : Nat} : (((17 : Int32) * nI q) + 1) + nI k = nI (17 * q + 1 + k) := by
  rw [m_ix17, nI_1, nI_add]
theorem m1_drift (hd : m_d g a0) (hn : tw_A τ (tw_R g a0 0) = sm_now) (h9 : tw_I τ a0 9 = 0) {m s : Int32} {Q : Int32 → tw_S → Prop} (hQ : ∀ τ2, Q (f_drift m s) τ2) : wp_X9_drift g τ a0 m s Q := by
  unfold wp_X9_drift
  refine m_isMachine (fun c1 => ?_) (fun c1 => ?_)
  · refine ⟨fun _ => ?_, fun c => absurd c (by decide)⟩
    refine sp_inI (a := 1) (b := 999999) rfl rfl (fun c2 => ?_) (fun c2 => ?_)
    · refine ⟨fun _ => ?_, fun c => absurd c (by decide)⟩
      have e : f_drift m s = dr_c s.toInt64 16 := by rw [f_drift, if_pos c1, if_pos c2]
      rw [e] at hQ
      obtain ⟨q, hq, rfl⟩ := m_two c1
      refine m1_notes h9 hd fun τ2 _ _ n3 => ?_
      intro σ8 e8
      have hn8 : tw_A σ8 (tw_R g a0 0) = sm_now := by rw [e8, tw_A_sJ]; exact (n3 0 (by decide) (by decide)).trans hn
      have hj8 : tw_J σ8 a0 10 = s.toInt64 := by simp [e8, tw_J_sJ]
      generalize s.toInt64 = l0 at hQ hj8
      refine m_states0 hq ?_
      rw [hn8, m_now1 hq]
      refine lp_up (I := fun i σ => tw_J σ a0 10 = dr_s l0 i ∧ ∀ k, k < 16 → tw_A σ (tw_R g a0 0) (17 * q + 1 + k) = if k < i then dr_e (dr_s l0 k) else -1) 4 ?_ ?_ 0 (by decide) σ8 ⟨hj8, fun k hk => ?_⟩
      · intro n i σ hi ⟨i1, i2⟩ ih
        rw [wl_X9_drift_44, m_c17, nI_1]
        have v : vp_in (nI (17 * q + 1 + i)) 34 := vp_in_nI (by omega) (by decide)
        refine ⟨fun c => absurd c (nI_ge (b := 4) hi (by decide)), fun _ => ?_⟩
        refine m_lots (k := 5) i1 rfl (by decide) fun σ12 e12 => ?_
        have a12 : tw_A σ12 (tw_R g a0 0) = tw_A σ (tw_R g a0 0) := by rw [e12, tw_A_sJ]
        have j12 : tw_J σ12 a0 10 = lt_n (dr_s l0 i) := by simp [e12, tw_J_sJ]
        refine ⟨fun c3 => ⟨v, fun σ16 e16 => ih σ16 ⟨?_, fun k hk => ?_⟩⟩, fun c3 => ?_⟩
        · rw [e16, tw_J_sA, j12]
          show _ = dr_l (dr_s l0 i)
          rw [dr_l, if_pos c3]
        · rw [e16, tw_A_sA, if_pos rfl, nI_clamp (by omega), a12]
          by_cases hki : k = i
          · subst hki
            rw [pk_us, if_pos (by omega), dr_e, if_pos c3]
          · rw [pk_un (by omega), i2 k hk]
            by_cases h4 : k < i
            · rw [if_pos h4, if_pos (by omega)]
            · rw [if_neg h4, if_neg (by omega)]
        · refine m_lots (k := 1) j12 rfl (by decide) fun σ17 e17 => ?_
          have j17 : tw_J σ17 a0 10 = lt_n (lt_n (dr_s l0 i)) := by simp [e17, tw_J_sJ]
          refine m_lots (k := 2) j17 rfl (by decide) fun σ19 e19 => ?_
          have a19 : tw_A σ19 (tw_R g a0 0) = tw_A σ (tw_R g a0 0) := by rw [e19, tw_A_sJ, e17, tw_A_sJ, a12]
          intro z21 e21
          refine ⟨v, fun σ23 e23 => ih σ23 ⟨?_, fun k hk => ?_⟩⟩
          · rw [e23, tw_J_sA, e19]
            show (if a0 = a0 then _ else _) = dr_l (dr_s l0 i)
            rw [if_pos rfl, dr_l, if_neg c3]
            rfl
          · rw [e23, tw_A_sA, if_pos rfl, nI_clamp (by omega), a19]
            by_cases hki : k = i
            · subst hki
              rw [pk_us, if_pos (by omega), dr_e, if_neg c3, e21]
            · rw [pk_un (by omega), i2 k hk]
              by_cases h4 : k < i
              · rw [if_pos h4, if_pos (by omega)]
              · rw [if_neg h4, if_neg (by omega)]
      · intro n σ ⟨_, i2⟩
        rw [wl_X9_drift_44]
        refine ⟨fun _ => ?_, fun c => absurd (nI_le (Nat.le_refl 4) (by decide)) c⟩
        refine lp_n (W := fun n i σ => wl_X9_movesOf_4 g a0 (nI q) _ _ n (dr_c l0 i) (nI i) σ) (I := fun _ σ3 => σ3 = σ) 16 ?_ ?_ 0 (by decide) σ rfl
        · intro n2 i σ3 hi e3 ih
          subst e3
          show wl_X9_movesOf_4 g a0 (nI q) _ _ (n2 + 1) (dr_c l0 i) (nI i) σ3
          have ih := ih σ3 rfl
          rw [wl_X9_movesOf_4, m_c17, nI_1, nI_clamp (by omega), i2 i hi]
          have ev : (if i < 4 then dr_e (dr_s l0 i) else -1) = dr_v l0 i := rfl
          rw [ev]
          have e0 : dr_c l0 i + 0 = dr_c l0 i := by simp
          rw [e0]
          have ih : wl_X9_movesOf_4 g a0 (nI q) _ _ n2 (if dr_v l0 i = -1 then dr_c l0 i else dr_c l0 i + 1) (nI (i + 1)) σ3 := ih
          refine ⟨fun c => absurd c (nI_ge (b := 16) hi (by decide)), fun _ => ⟨vp_in_nI (by omega) (by decide), fun c => ?_, fun c => ?_⟩⟩
          · rw [if_neg c] at ih; exact ih
          · rw [if_pos c] at ih; exact ih
        · intro n2 σ3 e3
          show wl_X9_movesOf_4 g a0 (nI q) _ _ (n2 + 1) (dr_c l0 16) (nI 16) σ3
          rw [wl_X9_movesOf_4]
          exact ⟨fun _ => hQ _, fun c => absurd (nI_le (Nat.le_refl 16) (by decide)) c⟩
      · rw [hn8, if_neg (by omega)]
        have h2 : q = 0 ∨ q = 1 := by omega
        unfold sm_now
        rcases h2 with rfl | rfl
        · rw [if_pos (by omega), if_neg (by omega)]
        · rw [if_pos (by omega), if_neg (by omega)]
    · have e : f_drift m s = (-1000000002) := by rw [f_drift, if_pos c1, if_neg c2]
      rw [e] at hQ
      exact ⟨fun c => absurd rfl c, fun _ => hQ _⟩
  · have e : f_drift m s = (-1000000001) := if_neg c1
    rw [e] at hQ
    exact ⟨fun c => absurd rfl c, fun _ => hQ _⟩
end M4
