/-! ===== the model in general: runs, pieces ===== -/
def pcN (v : Nat) : Nat := v % 2 + v / 2 % 2 + v / 4 % 2 + v / 8 % 2
theorem pcN_le (v : Nat) : pcN v ≤ 4 := by unfold pcN; omega
def bs (f : Nat → Int32) : Nat → Nat
  | 0 => 0
  | n + 1 => bs f n + pcN (f n).toInt.toNat
theorem bs_le (f : Nat → Int32) (n : Nat) : bs f n ≤ 4 * n := by
  induction n with
  | zero => exact Nat.le_refl _
  | succ n ih =>
    have := pcN_le (f n).toInt.toNat
    rw [bs]
    omega
theorem bs_out (f : Nat → Int32) (i : Nat) (v : Int32) : ∀ n, n ≤ i → bs (upd f i v) n = bs f n := by
  intro n
  induction n with
  | zero => intro _; rfl
  | succ n ih =>
    intro h
    rw [bs, bs, ih (by omega)]
    unfold upd
    rw [if_neg (by omega)]
theorem bs_upd (f : Nat → Int32) (i : Nat) (v : Int32) : ∀ n, i < n → bs (upd f i v) n + pcN (f i).toInt.toNat = bs f n + pcN v.toInt.toNat := by
  intro n
  induction n with
  | zero => intro h; exact absurd h (Nat.not_lt_zero _)
  | succ n ih =>
    intro h
    rw [bs, bs]
    by_cases c : i = n
    · subst c
      rw [bs_out f i v i (Nat.le_refl _)]
      have e : upd f i v i = v := if_pos rfl
      rw [e]
      omega
    · have h2 := ih (by omega)
      have e : upd f i v n = f n := if_neg (by omega)
      rw [e]
      omega
theorem bq : ∀ v, v < 16 → ∀ q, q < 4 → (((nI v >>> (nI q &&& 31)) &&& (1 : Int32)) = 0 ∨ ((nI v >>> (nI q &&& 31)) &&& (1 : Int32)) = 1) ∧ inI (nI v ||| ((1 : Int32) <<< (nI q &&& 31))) 0 15 ∧ (((nI v >>> (nI q &&& 31)) &&& (1 : Int32)) = 0 → pcN (nI v ||| ((1 : Int32) <<< (nI q &&& 31))).toInt.toNat = pcN (nI v).toInt.toNat + 1) := by decide +kernel
theorem bq2 {v q : Int32} (hv : inI v 0 15) (hq : inI q 0 3) : (((v >>> (q &&& 31)) &&& (1 : Int32)) = 0 ∨ ((v >>> (q &&& 31)) &&& (1 : Int32)) = 1) ∧ inI (v ||| ((1 : Int32) <<< (q &&& 31))) 0 15 ∧ (((v >>> (q &&& 31)) &&& (1 : Int32)) = 0 → pcN (v ||| ((1 : Int32) <<< (q &&& 31))).toInt.toNat = pcN v.toInt.toNat + 1) := by
  obtain ⟨i, hi, rfl⟩ := i_2 (N := 15) (by decide) hv
  obtain ⟨j, hj, rfl⟩ := i_2 (N := 3) (by decide) hq
  exact bq i (by omega) j (by omega)
theorem cm2 {W : Nat → Int32 → tw_S → Prop} (I : Int32 → tw_S → Prop) (μ : Int32 → tw_S → Nat) (hs : ∀ n x σ, I x σ → (∀ z s, I z s → μ z s < μ x σ → W n z s) → W (n + 1) x σ) (x : Int32) (σ : tw_S) (h : I x σ) : ∃ n, W n x σ := by
  have key : ∀ (d : Nat) x σ, I x σ → μ x σ < d → W d x σ := by
    intro d
    induction d with
    | zero => intro x σ _ c; exact absurd c (Nat.not_lt_zero _)
    | succ d ih => intro x σ h c; exact hs d x σ h (fun z s h2 c2 => ih z s h2 (by omega))
  exact ⟨μ x σ + 1, key _ x σ h (Nat.lt_succ_self _)⟩
theorem cm3 {W : Nat → Int32 → Int32 → tw_S → Prop} (I : Int32 → Int32 → tw_S → Prop) (μ : Int32 → Int32 → tw_S → Nat) (hs : ∀ n x y σ, I x y σ → (∀ z w s, I z w s → μ z w s < μ x y σ → W n z w s) → W (n + 1) x y σ) (x y : Int32) (σ : tw_S) (h : I x y σ) : ∃ n, W n x y σ := by
  have key : ∀ (d : Nat) x y σ, I x y σ → μ x y σ < d → W d x y σ := by
    intro d
    induction d with
    | zero => intro x y σ _ c; exact absurd c (Nat.not_lt_zero _)
    | succ d ih => intro x y σ h c; exact hs d x y σ h (fun z w s h2 c2 => ih z w s h2 (by omega))
  exact ⟨μ x y σ + 1, key _ x y σ h (Nat.lt_succ_self _)⟩
section H3
variable {g : tw_G} {p : h_P} {σ σ2 : tw_S} {b k : Nat}
theorem h_signAt (hM : MI g b p σ) {x : Int32} (hx : 0 ≤ x.toInt ∧ x.toInt ≤ p.1.toInt + 1) {Q : Int32 → tw_S → Prop} (hQ : ∀ r, inI r 0 3 → Q r σ) : wp_X9_signAt g σ b x Q := by
  unfold wp_X9_signAt
  have e12 : tw_I σ b 12 = p.1 := hM.2.2.2.2.2.2.2.2.1
  obtain ⟨n, hn, en⟩ := i_2 (N := 24) (by decide) hM.2.2.2.2.2.2.1
  have eni : p.1.toInt = (n : Int) := by rw [en, nI_toInt (by omega)]
  obtain ⟨j, hj, rfl⟩ := i_2 (x := x) (N := 25) (by decide) ⟨hx.1, by omega⟩
  have hj2 := hx.2
  rw [nI_toInt (by omega)] at hj2
  refine ⟨fun c1 => ⟨fun c2 => ?_, fun _ => hQ _ ⟨by decide, by decide⟩⟩, fun _ => hQ _ ⟨by decide, by decide⟩⟩
  have j1 : j ≠ 0 := fun e => c1 (by rw [e]; rfl)
  have j2 : j ≠ n + 1 := fun e => c2 (by rw [e12, en, nI_1, e])
  have es : nI j - (1 : Int32) = nI (j - 1) := pk_sub (b := 1) (by omega)
  rw [es, nI_clamp (by omega)]
  refine ⟨vp_in_nI (by omega) (by decide), hQ _ ?_⟩
  have := (hM.2.2.2.2.1 (j - 1) (by omega)).1
  exact ⟨this.1, by have := this.2; omega⟩
def RI (g : tw_G) (b : Nat) (p : h_P) (σ : tw_S) (x : Int32) : Prop := MI g b p σ ∧ (0 ≤ x.toInt ∧ x.toInt ≤ p.1.toInt + 1) ∧ inI (tw_I σ b 16) 0 3 ∧ (∀ k, k < 26 → inI (tw_A σ (tw_R g b 13) k) 0 15) ∧ 0 ≤ (tw_I σ b 19).toInt ∧ (tw_I σ b 19).toInt ≤ 104 ∧ (tw_I σ b 14 = -1 → (tw_I σ b 19).toInt + 1 ≤ bs (tw_A σ (tw_R g b 13)) 26)
theorem h_blk {s21 : tw_S} {x to v : Int32} {K : Int32 → tw_S → Prop} (h : RI g b p s21 x) (he : tw_I s21 b 14 = -1) (hto : 0 ≤ to.toInt ∧ to.toInt ≤ p.1.toInt + 1) (hK : ∀ s, RI g b p s to → (tw_I s b 14 = -1 → bs (tw_A s (tw_R g b 13)) 26 = bs (tw_A s21 (tw_R g b 13)) 26 + 1) → K to s) : vp_in (tw_I s21 b 19) 128 ∧ ∀ σ25, σ25 = (tw_sA s21 (tw_R g b 17) (upd (tw_A s21 (tw_R g b 17)) (tw_I s21 b 19).toNatClampNeg v)) → vp_in (tw_I σ25 b 19) 128 ∧ ∀ σ27, σ27 = (tw_sA σ25 (tw_R g b 18) (upd (tw_A σ25 (tw_R g b 18)) (tw_I σ25 b 19).toNatClampNeg (tw_I σ25 b 16))) → ∀ σ28, σ28 = (tw_sI σ27 b 19 ((tw_I σ27 b 19) + (1 : Int32))) → vp_in to 26 ∧ ((¬ (((tw_A σ28 (tw_R g b 13) to.toNatClampNeg) >>> ((tw_I σ28 b 16) &&& 31)) &&& (1 : Int32)) = (1 : Int32)) → ∀ σ31, σ31 = (tw_sI σ28 b 14 (-1 : Int32)) → vp_in to 26 ∧ vp_in to 26 ∧ ∀ σ34, σ34 = (tw_sA σ31 (tw_R g b 13) (upd (tw_A σ31 (tw_R g b 13)) to.toNatClampNeg ((tw_A σ31 (tw_R g b 13) to.toNatClampNeg) ||| ((1 : Int32) <<< ((tw_I σ31 b 16) &&& 31))))) → K to σ34) ∧ (((((tw_A σ28 (tw_R g b 13) to.toNatClampNeg) >>> ((tw_I σ28 b 16) &&& 31)) &&& (1 : Int32)) = (1 : Int32)) → ∀ σ35, σ35 = (tw_sI σ28 b 14 (3 : Int32)) → vp_in to 26 ∧ vp_in to 26 ∧ ∀ σ38, σ38 = (tw_sA σ35 (tw_R g b 13) (upd (tw_A σ35 (tw_R g b 13)) to.toNatClampNeg ((tw_A σ35 (tw_R g b 13) to.toNatClampNeg) ||| ((1 : Int32) <<< ((tw_I σ35 b 16) &&& 31))))) → K to σ38) := by
  obtain ⟨hM, hx, hq, hb, hc0, hc1, hc2⟩ := h
  have hc3 := hc2 he
  have hbs := bs_le (tw_A s21 (tw_R g b 13)) 26
  obtain ⟨n, hn, en⟩ := i_2 (N := 24) (by decide) hM.2.2.2.2.2.2.1
  have eni : p.1.toInt = (n : Int) := by rw [en, nI_toInt (by omega)]
  obtain ⟨j, hj, rfl⟩ := i_2 (x := to) (N := 25) (by decide) ⟨hto.1, by omega⟩
  have vt : vp_in (nI j) 26 := vp_in_nI (by omega) (by decide)
  have vc : vp_in (tw_I s21 b 19) 128 := vp_in_iff.mpr ⟨hc0, by show _ < ((128 : Nat) : Int); omega⟩
  refine ⟨vc, fun s25 e25 => ?_⟩
  have h25 : MI g b p s25 := e25 ▸ mi_A hM rfl
  have c25 : ∀ k, tw_I s25 b k = tw_I s21 b k := fun k => by rw [e25, tw_I_sA]
  have b25 : tw_A s25 (tw_R g b 13) = tw_A s21 (tw_R g b 13) := by rw [e25, mi_q hM rfl rfl (by decide)]
  refine ⟨by rw [c25]; exact vc, fun s27 e27 s28 e28 => ?_⟩
  have h27 : MI g b p s27 := e27 ▸ mi_A h25 rfl
  have c27 : ∀ k, tw_I s27 b k = tw_I s21 b k := fun k => by rw [e27, tw_I_sA, c25]
  have b27 : tw_A s27 (tw_R g b 13) = tw_A s21 (tw_R g b 13) := by rw [e27, mi_q h25 rfl rfl (by decide), b25]
  have h28 : MI g b p s28 := e28 ▸ mi_I h27 rfl
  have c28 : ∀ k, k ≠ 19 → tw_I s28 b k = tw_I s21 b k := fun k hk => by rw [e28, mi_n hk, c27]
  have b28 : tw_A s28 (tw_R g b 13) = tw_A s21 (tw_R g b 13) := by rw [e28, tw_A_sI, b27]
  have n28 : (tw_I s28 b 19).toInt = (tw_I s21 b 19).toInt + 1 := by
    rw [e28, mi_e, c27]
    exact (i_inc (N := 104) (by decide) ⟨hc0, hc1⟩ (by show _ < ((104 : Nat) : Int); omega)).2
  have cl : (nI j).toNatClampNeg = j := nI_clamp (by omega)
  rw [cl, b28, c28 16 (by decide)]
  have bb := bq2 (hb j (by omega)) hq
  refine ⟨vt, fun c s31 e31 => ⟨vt, vt, fun s34 e34 => ?_⟩, fun c s35 e35 => ⟨vt, vt, fun s38 e38 => ?_⟩⟩
  · have h31 : MI g b p s31 := e31 ▸ mi_I h28 rfl
    have c31 : ∀ k, k ≠ 14 → tw_I s31 b k = tw_I s28 b k := fun k hk => by rw [e31, mi_n hk]
    have b31 : tw_A s31 (tw_R g b 13) = tw_A s21 (tw_R g b 13) := by rw [e31, tw_A_sI, b28]
    rw [b31, c31 16 (by decide), c28 16 (by decide)] at e34
    have b34 : tw_A s34 (tw_R g b 13) = upd (tw_A s21 (tw_R g b 13)) j (tw_A s21 (tw_R g b 13) j ||| ((1 : Int32) <<< ((tw_I s21 b 16) &&& 31))) := by rw [e34, mi_s]
    have c34 : ∀ k, tw_I s34 b k = tw_I s31 b k := fun k => by rw [e34, tw_I_sA]
    have q1 := bs_upd (tw_A s21 (tw_R g b 13)) j (tw_A s21 (tw_R g b 13) j ||| ((1 : Int32) <<< ((tw_I s21 b 16) &&& 31))) 26 (by omega)
    have q2 := bb.2.2 (bb.1.resolve_right c)
    have q3 : bs (tw_A s34 (tw_R g b 13)) 26 = bs (tw_A s21 (tw_R g b 13)) 26 + 1 := by rw [b34]; omega
    refine hK s34 ⟨e34 ▸ mi_A h31 rfl, hto, ?_, fun k hk => ?_, ?_, ?_, fun _ => ?_⟩ (fun _ => q3)
    · rw [c34, c31 16 (by decide), c28 16 (by decide)]; exact hq
    · rw [b34]
      unfold upd
      split
      · exact bb.2.1
      · exact hb k hk
    · rw [c34, c31 19 (by decide), n28]; omega
    · rw [c34, c31 19 (by decide), n28]; omega
    · rw [c34, c31 19 (by decide), n28, q3]; omega
  · have h35 : MI g b p s35 := e35 ▸ mi_I h28 rfl
    have c35 : ∀ k, k ≠ 14 → tw_I s35 b k = tw_I s28 b k := fun k hk => by rw [e35, mi_n hk]
    have b35 : tw_A s35 (tw_R g b 13) = tw_A s21 (tw_R g b 13) := by rw [e35, tw_A_sI, b28]
    rw [b35, c35 16 (by decide), c28 16 (by decide)] at e38
    have b38 : tw_A s38 (tw_R g b 13) = upd (tw_A s21 (tw_R g b 13)) j (tw_A s21 (tw_R g b 13) j ||| ((1 : Int32) <<< ((tw_I s21 b 16) &&& 31))) := by rw [e38, mi_s]
    have c38 : ∀ k, tw_I s38 b k = tw_I s35 b k := fun k => by rw [e38, tw_I_sA]
    have x14 : tw_I s38 b 14 = 3 := by rw [c38, e35, mi_e]
    have nx : ¬ tw_I s38 b 14 = -1 := by rw [x14]; decide
    refine hK s38 ⟨e38 ▸ mi_A h35 rfl, hto, ?_, fun k hk => ?_, ?_, ?_, fun z => absurd z nx⟩ (fun z => absurd z nx)
    · rw [c38, c35 16 (by decide), c28 16 (by decide)]; exact hq
    · rw [b38]
      unfold upd
      split
      · exact bb.2.1
      · exact hb k hk
    · rw [c38, c35 19 (by decide), n28]; omega
    · rw [c38, c35 19 (by decide), n28]; omega
theorem h_hf {s13 : tw_S} {x2 to r14 : Int32} {K : Int32 → tw_S → Prop} (h : RI g b p s13 x2) (he : tw_I s13 b 14 = -1) (hr : inI (r14 / (2 : Int32)) 0 3) (hK : ∀ x s, RI g b p s x → (tw_I s b 14 = -1 → bs (tw_A s (tw_R g b 13)) 26 = bs (tw_A s13 (tw_R g b 13)) 26 + 1) → K x s) : ∀ σ120, σ120 = (tw_sI s13 b 16 (r14 / (2 : Int32))) → ∀ σ121, σ121 = (tw_sI σ120 b 15 ((tw_I σ120 b 15) + (1 : Int32))) → ((0 ≤ to) → ((to ≤ ((tw_I σ121 b 12) + (1 : Int32))) → ∀ σ124, σ124 = (tw_sI σ121 b 14 (-1 : Int32)) → ((¬ (tw_I σ124 b 14) = (-1 : Int32)) → K x2 σ124) ∧ (((tw_I σ124 b 14) = (-1 : Int32)) → ((to ≤ x2) → vp_in (tw_I σ124 b 19) 128 ∧ ∀ σ128, σ128 = (tw_sA σ124 (tw_R g b 17) (upd (tw_A σ124 (tw_R g b 17)) (tw_I σ124 b 19).toNatClampNeg to)) → vp_in (tw_I σ128 b 19) 128 ∧ ∀ σ130, σ130 = (tw_sA σ128 (tw_R g b 18) (upd (tw_A σ128 (tw_R g b 18)) (tw_I σ128 b 19).toNatClampNeg (tw_I σ128 b 16))) → ∀ σ131, σ131 = (tw_sI σ130 b 19 ((tw_I σ130 b 19) + (1 : Int32))) → vp_in to 26 ∧ ((¬ (((tw_A σ131 (tw_R g b 13) to.toNatClampNeg) >>> ((tw_I σ131 b 16) &&& 31)) &&& (1 : Int32)) = (1 : Int32)) → ∀ σ134, σ134 = (tw_sI σ131 b 14 (-1 : Int32)) → vp_in to 26 ∧ vp_in to 26 ∧ ∀ σ137, σ137 = (tw_sA σ134 (tw_R g b 13) (upd (tw_A σ134 (tw_R g b 13)) to.toNatClampNeg ((tw_A σ134 (tw_R g b 13) to.toNatClampNeg) ||| ((1 : Int32) <<< ((tw_I σ134 b 16) &&& 31))))) → K to σ137) ∧ (((((tw_A σ131 (tw_R g b 13) to.toNatClampNeg) >>> ((tw_I σ131 b 16) &&& 31)) &&& (1 : Int32)) = (1 : Int32)) → ∀ σ138, σ138 = (tw_sI σ131 b 14 (3 : Int32)) → vp_in to 26 ∧ vp_in to 26 ∧ ∀ σ141, σ141 = (tw_sA σ138 (tw_R g b 13) (upd (tw_A σ138 (tw_R g b 13)) to.toNatClampNeg ((tw_A σ138 (tw_R g b 13) to.toNatClampNeg) ||| ((1 : Int32) <<< ((tw_I σ138 b 16) &&& 31))))) → K to σ141)) ∧ (¬ (to ≤ x2) → vp_in (tw_I σ124 b 19) 128 ∧ ∀ σ143, σ143 = (tw_sA σ124 (tw_R g b 17) (upd (tw_A σ124 (tw_R g b 17)) (tw_I σ124 b 19).toNatClampNeg x2)) → vp_in (tw_I σ143 b 19) 128 ∧ ∀ σ145, σ145 = (tw_sA σ143 (tw_R g b 18) (upd (tw_A σ143 (tw_R g b 18)) (tw_I σ143 b 19).toNatClampNeg (tw_I σ143 b 16))) → ∀ σ146, σ146 = (tw_sI σ145 b 19 ((tw_I σ145 b 19) + (1 : Int32))) → vp_in to 26 ∧ ((¬ (((tw_A σ146 (tw_R g b 13) to.toNatClampNeg) >>> ((tw_I σ146 b 16) &&& 31)) &&& (1 : Int32)) = (1 : Int32)) → ∀ σ149, σ149 = (tw_sI σ146 b 14 (-1 : Int32)) → vp_in to 26 ∧ vp_in to 26 ∧ ∀ σ152, σ152 = (tw_sA σ149 (tw_R g b 13) (upd (tw_A σ149 (tw_R g b 13)) to.toNatClampNeg ((tw_A σ149 (tw_R g b 13) to.toNatClampNeg) ||| ((1 : Int32) <<< ((tw_I σ149 b 16) &&& 31))))) → K to σ152) ∧ (((((tw_A σ146 (tw_R g b 13) to.toNatClampNeg) >>> ((tw_I σ146 b 16) &&& 31)) &&& (1 : Int32)) = (1 : Int32)) → ∀ σ153, σ153 = (tw_sI σ146 b 14 (3 : Int32)) → vp_in to 26 ∧ vp_in to 26 ∧ ∀ σ156, σ156 = (tw_sA σ153 (tw_R g b 13) (upd (tw_A σ153 (tw_R g b 13)) to.toNatClampNeg ((tw_A σ153 (tw_R g b 13) to.toNatClampNeg) ||| ((1 : Int32) <<< ((tw_I σ153 b 16) &&& 31))))) → K to σ156)))) ∧ (¬ (to ≤ ((tw_I σ121 b 12) + (1 : Int32))) → ∀ σ157, σ157 = (tw_sI σ121 b 14 (0 : Int32)) → ((¬ (tw_I σ157 b 14) = (-1 : Int32)) → K x2 σ157) ∧ (((tw_I σ157 b 14) = (-1 : Int32)) → ((to ≤ x2) → vp_in (tw_I σ157 b 19) 128 ∧ ∀ σ161, σ161 = (tw_sA σ157 (tw_R g b 17) (upd (tw_A σ157 (tw_R g b 17)) (tw_I σ157 b 19).toNatClampNeg to)) → vp_in (tw_I σ161 b 19) 128 ∧ ∀ σ163, σ163 = (tw_sA σ161 (tw_R g b 18) (upd (tw_A σ161 (tw_R g b 18)) (tw_I σ161 b 19).toNatClampNeg (tw_I σ161 b 16))) → ∀ σ164, σ164 = (tw_sI σ163 b 19 ((tw_I σ163 b 19) + (1 : Int32))) → vp_in to 26 ∧ ((¬ (((tw_A σ164 (tw_R g b 13) to.toNatClampNeg) >>> ((tw_I σ164 b 16) &&& 31)) &&& (1 : Int32)) = (1 : Int32)) → ∀ σ167, σ167 = (tw_sI σ164 b 14 (-1 : Int32)) → vp_in to 26 ∧ vp_in to 26 ∧ ∀ σ170, σ170 = (tw_sA σ167 (tw_R g b 13) (upd (tw_A σ167 (tw_R g b 13)) to.toNatClampNeg ((tw_A σ167 (tw_R g b 13) to.toNatClampNeg) ||| ((1 : Int32) <<< ((tw_I σ167 b 16) &&& 31))))) → K to σ170) ∧ (((((tw_A σ164 (tw_R g b 13) to.toNatClampNeg) >>> ((tw_I σ164 b 16) &&& 31)) &&& (1 : Int32)) = (1 : Int32)) → ∀ σ171, σ171 = (tw_sI σ164 b 14 (3 : Int32)) → vp_in to 26 ∧ vp_in to 26 ∧ ∀ σ174, σ174 = (tw_sA σ171 (tw_R g b 13) (upd (tw_A σ171 (tw_R g b 13)) to.toNatClampNeg ((tw_A σ171 (tw_R g b 13) to.toNatClampNeg) ||| ((1 : Int32) <<< ((tw_I σ171 b 16) &&& 31))))) → K to σ174)) ∧ (¬ (to ≤ x2) → vp_in (tw_I σ157 b 19) 128 ∧ ∀ σ176, σ176 = (tw_sA σ157 (tw_R g b 17) (upd (tw_A σ157 (tw_R g b 17)) (tw_I σ157 b 19).toNatClampNeg x2)) → vp_in (tw_I σ176 b 19) 128 ∧ ∀ σ178, σ178 = (tw_sA σ176 (tw_R g b 18) (upd (tw_A σ176 (tw_R g b 18)) (tw_I σ176 b 19).toNatClampNeg (tw_I σ176 b 16))) → ∀ σ179, σ179 = (tw_sI σ178 b 19 ((tw_I σ178 b 19) + (1 : Int32))) → vp_in to 26 ∧ ((¬ (((tw_A σ179 (tw_R g b 13) to.toNatClampNeg) >>> ((tw_I σ179 b 16) &&& 31)) &&& (1 : Int32)) = (1 : Int32)) → ∀ σ182, σ182 = (tw_sI σ179 b 14 (-1 : Int32)) → vp_in to 26 ∧ vp_in to 26 ∧ ∀ σ185, σ185 = (tw_sA σ182 (tw_R g b 13) (upd (tw_A σ182 (tw_R g b 13)) to.toNatClampNeg ((tw_A σ182 (tw_R g b 13) to.toNatClampNeg) ||| ((1 : Int32) <<< ((tw_I σ182 b 16) &&& 31))))) → K to σ185) ∧ (((((tw_A σ179 (tw_R g b 13) to.toNatClampNeg) >>> ((tw_I σ179 b 16) &&& 31)) &&& (1 : Int32)) = (1 : Int32)) → ∀ σ186, σ186 = (tw_sI σ179 b 14 (3 : Int32)) → vp_in to 26 ∧ vp_in to 26 ∧ ∀ σ189, σ189 = (tw_sA σ186 (tw_R g b 13) (upd (tw_A σ186 (tw_R g b 13)) to.toNatClampNeg ((tw_A σ186 (tw_R g b 13) to.toNatClampNeg) ||| ((1 : Int32) <<< ((tw_I σ186 b 16) &&& 31))))) → K to σ189))))) ∧ (¬ (0 ≤ to) → ∀ σ190, σ190 = (tw_sI σ121 b 14 (2 : Int32)) → ((¬ (tw_I σ190 b 14) = (-1 : Int32)) → K x2 σ190) ∧ (((tw_I σ190 b 14) = (-1 : Int32)) → ((to ≤ x2) → vp_in (tw_I σ190 b 19) 128 ∧ ∀ σ194, σ194 = (tw_sA σ190 (tw_R g b 17) (upd (tw_A σ190 (tw_R g b 17)) (tw_I σ190 b 19).toNatClampNeg to)) → vp_in (tw_I σ194 b 19) 128 ∧ ∀ σ196, σ196 = (tw_sA σ194 (tw_R g b 18) (upd (tw_A σ194 (tw_R g b 18)) (tw_I σ194 b 19).toNatClampNeg (tw_I σ194 b 16))) → ∀ σ197, σ197 = (tw_sI σ196 b 19 ((tw_I σ196 b 19) + (1 : Int32))) → vp_in to 26 ∧ ((¬ (((tw_A σ197 (tw_R g b 13) to.toNatClampNeg) >>> ((tw_I σ197 b 16) &&& 31)) &&& (1 : Int32)) = (1 : Int32)) → ∀ σ200, σ200 = (tw_sI σ197 b 14 (-1 : Int32)) → vp_in to 26 ∧ vp_in to 26 ∧ ∀ σ203, σ203 = (tw_sA σ200 (tw_R g b 13) (upd (tw_A σ200 (tw_R g b 13)) to.toNatClampNeg ((tw_A σ200 (tw_R g b 13) to.toNatClampNeg) ||| ((1 : Int32) <<< ((tw_I σ200 b 16) &&& 31))))) → K to σ203) ∧ (((((tw_A σ197 (tw_R g b 13) to.toNatClampNeg) >>> ((tw_I σ197 b 16) &&& 31)) &&& (1 : Int32)) = (1 : Int32)) → ∀ σ204, σ204 = (tw_sI σ197 b 14 (3 : Int32)) → vp_in to 26 ∧ vp_in to 26 ∧ ∀ σ207, σ207 = (tw_sA σ204 (tw_R g b 13) (upd (tw_A σ204 (tw_R g b 13)) to.toNatClampNeg ((tw_A σ204 (tw_R g b 13) to.toNatClampNeg) ||| ((1 : Int32) <<< ((tw_I σ204 b 16) &&& 31))))) → K to σ207)) ∧ (¬ (to ≤ x2) → vp_in (tw_I σ190 b 19) 128 ∧ ∀ σ209, σ209 = (tw_sA σ190 (tw_R g b 17) (upd (tw_A σ190 (tw_R g b 17)) (tw_I σ190 b 19).toNatClampNeg x2)) → vp_in (tw_I σ209 b 19) 128 ∧ ∀ σ211, σ211 = (tw_sA σ209 (tw_R g b 18) (upd (tw_A σ209 (tw_R g b 18)) (tw_I σ209 b 19).toNatClampNeg (tw_I σ209 b 16))) → ∀ σ212, σ212 = (tw_sI σ211 b 19 ((tw_I σ211 b 19) + (1 : Int32))) → vp_in to 26 ∧ ((¬ (((tw_A σ212 (tw_R g b 13) to.toNatClampNeg) >>> ((tw_I σ212 b 16) &&& 31)) &&& (1 : Int32)) = (1 : Int32)) → ∀ σ215, σ215 = (tw_sI σ212 b 14 (-1 : Int32)) → vp_in to 26 ∧ vp_in to 26 ∧ ∀ σ218, σ218 = (tw_sA σ215 (tw_R g b 13) (upd (tw_A σ215 (tw_R g b 13)) to.toNatClampNeg ((tw_A σ215 (tw_R g b 13) to.toNatClampNeg) ||| ((1 : Int32) <<< ((tw_I σ215 b 16) &&& 31))))) → K to σ218) ∧ (((((tw_A σ212 (tw_R g b 13) to.toNatClampNeg) >>> ((tw_I σ212 b 16) &&& 31)) &&& (1 : Int32)) = (1 : Int32)) → ∀ σ219, σ219 = (tw_sI σ212 b 14 (3 : Int32)) → vp_in to 26 ∧ vp_in to 26 ∧ ∀ σ222, σ222 = (tw_sA σ219 (tw_R g b 13) (upd (tw_A σ219 (tw_R g b 13)) to.toNatClampNeg ((tw_A σ219 (tw_R g b 13) to.toNatClampNeg) ||| ((1 : Int32) <<< ((tw_I σ219 b 16) &&& 31))))) → K to σ222)))) := by
  intro s17 e17 s18 e18
  obtain ⟨hM, hx, hq, hb, hc0, hc1, hc2⟩ := h
  have hc3 := hc2 he
  have hbs := bs_le (tw_A s13 (tw_R g b 13)) 26
  have h17 : MI g b p s17 := e17 ▸ mi_I hM rfl
  have h18 : MI g b p s18 := e18 ▸ mi_I h17 rfl
  have b18 : tw_A s18 (tw_R g b 13) = tw_A s13 (tw_R g b 13) := by rw [e18, tw_A_sI, e17, tw_A_sI]
  have c18 : ∀ k, k ≠ 15 → k ≠ 16 → tw_I s18 b k = tw_I s13 b k := fun k h1 h2 => by rw [e18, mi_n h1, e17, mi_n h2]
  have q18 : inI (tw_I s18 b 16) 0 3 := by
    rw [e18, mi_n (by decide), e17, mi_e]
    exact hr
  have e12 : tw_I s18 b 12 = p.1 := h18.2.2.2.2.2.2.2.2.1
  obtain ⟨n, hn, en⟩ := i_2 (N := 24) (by decide) hM.2.2.2.2.2.2.1
  have eni : p.1.toInt = (n : Int) := by rw [en, nI_toInt (by omega)]
  have el : (tw_I s18 b 12 + 1).toInt = p.1.toInt + 1 := by
    rw [e12, en, nI_1, nI_toInt (by omega), nI_toInt (by omega)]
    rfl
  have E : ∀ s (v : Int32), ¬ v = -1 → s = tw_sI s18 b 14 v → RI g b p s x2 ∧ ¬ tw_I s b 14 = -1 := by
    intro s v hv e
    have e14 : tw_I s b 14 = v := by rw [e, mi_e]
    have nx : ¬ tw_I s b 14 = -1 := by rw [e14]; exact hv
    refine ⟨⟨e ▸ mi_I h18 rfl, hx, ?_, ?_, ?_, ?_, fun z => absurd z nx⟩, nx⟩
    · rw [e, mi_n (by decide)]; exact q18
    · rw [e, tw_A_sI, b18]; exact hb
    · rw [e, mi_n (by decide), c18 19 (by decide) (by decide)]; exact hc0
    · rw [e, mi_n (by decide), c18 19 (by decide) (by decide)]; exact hc1
  have D : ∀ s (v : Int32), ¬ v = -1 → s = tw_sI s18 b 14 v → K x2 s := fun s v hv e => hK x2 s (E s v hv e).1 (fun z => absurd z (E s v hv e).2)
  refine ⟨fun c1 => ⟨fun c2 s21 e21 => ?_, fun _ s54 e54 => ⟨fun _ => D s54 0 (by decide) e54, fun c => absurd c (E s54 0 (by decide) e54).2⟩⟩, fun _ s87 e87 => ⟨fun _ => D s87 2 (by decide) e87, fun c => absurd c (E s87 2 (by decide) e87).2⟩⟩
  have x21 : tw_I s21 b 14 = -1 := by rw [e21, mi_e]
  have b21 : tw_A s21 (tw_R g b 13) = tw_A s13 (tw_R g b 13) := by rw [e21, tw_A_sI, b18]
  have R : RI g b p s21 x2 := by
    refine ⟨e21 ▸ mi_I h18 rfl, hx, ?_, ?_, ?_, ?_, fun _ => ?_⟩
    · rw [e21, mi_n (by decide)]; exact q18
    · rw [b21]; exact hb
    · rw [e21, mi_n (by decide), c18 19 (by decide) (by decide)]; exact hc0
    · rw [e21, mi_n (by decide), c18 19 (by decide) (by decide)]; exact hc1
    · rw [e21, mi_n (by decide), c18 19 (by decide) (by decide), ← e21, b21]; exact hc3
  rw [i_le] at c1 c2
  have e0 := e_0
  have T : 0 ≤ to.toInt ∧ to.toInt ≤ p.1.toInt + 1 := ⟨by omega, by omega⟩
  have F : ∀ s, RI g b p s to → (tw_I s b 14 = -1 → bs (tw_A s (tw_R g b 13)) 26 = bs (tw_A s21 (tw_R g b 13)) 26 + 1) → K to s := fun s hs e => hK to s hs (fun z => by rw [e z, b21])
  exact ⟨fun c => absurd x21 c, fun _ => ⟨fun _ => h_blk R x21 T F, fun _ => h_blk R x21 T F⟩⟩
theorem h_runs (hM : MI g b p σ) {x : Int32} (hx : inI x 0 1) {Q : tw_S → Prop} (hQ : ∀ s, MI g b p s → inI (tw_I s b 19) 0 104 → Q s) : wp_X9_runs g σ b x Q := by
  unfold wp_X9_runs
  refine lp_up (I := fun i s => MI g b p s ∧ ∀ k, k < i → tw_A s (tw_R g b 13) k = 0) 26 ?_ ?_ 0 (by decide) σ ⟨hM, fun k hk => absurd hk (Nat.not_lt_zero _)⟩
  · intro n i s hi ⟨h, hz⟩ ih
    rw [wl_X9_runs_2, nI_1, nI_clamp (by omega)]
    refine ⟨fun c => absurd c (nI_nle2 hi (by decide)), fun _ => ⟨vp_in_nI hi (by decide), fun s3 e3 => ih s3 ⟨e3 ▸ mi_A h rfl, fun k hk => ?_⟩⟩⟩
    rw [e3, mi_s]
    unfold upd
    split
    · rfl
    · exact hz k (by omega)
  · intro n s ⟨h, hz⟩
    rw [wl_X9_runs_2]
    refine ⟨fun _ s5 e5 s6 e6 s7 e7 s8 e8 s9 e9 => ?_, fun c => absurd (by decide) c⟩
    have h8 : MI g b p s8 := e8 ▸ mi_I (e7 ▸ mi_I (e6 ▸ mi_I (e5 ▸ mi_I h rfl) rfl) rfl) rfl
    have b8 : tw_A s8 (tw_R g b 13) = tw_A s (tw_R g b 13) := by rw [e8, tw_A_sI, e7, tw_A_sI, e6, tw_A_sI, e5, tw_A_sI]
    have b9 : tw_A s9 (tw_R g b 13) = upd (tw_A s (tw_R g b 13)) 0 1 := by rw [e9, mi_s, b8]; rfl
    have i16 : tw_I s9 b 16 = 0 := by rw [e9, tw_I_sA, e8, mi_n (by decide), e7, mi_e]
    have i19 : tw_I s9 b 19 = 0 := by rw [e9, tw_I_sA, e8, mi_n (by decide), e7, mi_n (by decide), e6, mi_e]
    have hp := h.2.2.2.2.2.2.1
    have q1 := bs_upd (tw_A s (tw_R g b 13)) 0 1 26 (by decide)
    rw [hz 0 (by decide)] at q1
    have R9 : RI g b p s9 0 := by
      refine ⟨e9 ▸ mi_A h8 rfl, ⟨by decide, by have := hp.1; have := e_0; omega⟩, by rw [i16]; exact ⟨by decide, by decide⟩, fun k hk => ?_, by rw [i19]; decide, by rw [i19]; decide, fun _ => ?_⟩
      · rw [b9]
        unfold upd
        split
        · exact ⟨by decide, by decide⟩
        · rw [hz k hk]; exact ⟨by decide, by decide⟩
      · rw [i19, b9]
        have e1 : pcN (1 : Int32).toInt.toNat = 1 := rfl
        have e00 : pcN (0 : Int32).toInt.toNat = 0 := rfl
        have e0 := e_0
        omega
    refine cm2 (fun x s => RI g b p s x) (fun _ s => if tw_I s b 14 = -1 then 105 - bs (tw_A s (tw_R g b 13)) 26 else 0) (fun n x2 s hR ih => ?_) 0 s9 R9
    rw [wl_X9_runs_50]
    refine ⟨fun _ => hQ s hR.1 ⟨hR.2.2.2.2.1, hR.2.2.2.2.2.1⟩, fun he => h_signAt hR.1 hR.2.1 fun r12 h12 => h_moveAt hR.1 hx hR.2.2.1 h12 fun r14 h14 => ?_⟩
    have hbs := bs_le (tw_A s (tw_R g b 13)) 26
    have hK : ∀ x s2, RI g b p s2 x → (tw_I s2 b 14 = -1 → bs (tw_A s2 (tw_R g b 13)) 26 = bs (tw_A s (tw_R g b 13)) 26 + 1) → wl_X9_runs_50 g b x Q (fun σ224 => Q σ224) n x s2 → True := fun _ _ _ _ _ => trivial
    clear hK
    have G : ∀ (z : Int32) s2, RI g b p s2 z → (tw_I s2 b 14 = -1 → bs (tw_A s2 (tw_R g b 13)) 26 = bs (tw_A s (tw_R g b 13)) 26 + 1) → (if tw_I s2 b 14 = -1 then 105 - bs (tw_A s2 (tw_R g b 13)) 26 else 0) < (if tw_I s b 14 = -1 then 105 - bs (tw_A s (tw_R g b 13)) 26 else 0) := by
      intro z s2 h2 e2
      rw [if_pos he]
      split
      · next c => rw [e2 c]; omega
      · omega
    refine ⟨fun c14 => ⟨fun _ => h_hf (K := fun z s2 => wl_X9_runs_50 g b x Q (fun σ224 => Q σ224) n z s2) hR he (h_half h14 c14) (fun z s2 h2 e2 => ih z s2 h2 (G z s2 h2 e2)), fun _ => h_hf (K := fun z s2 => wl_X9_runs_50 g b x Q (fun σ224 => Q σ224) n z s2) hR he (h_half h14 c14) (fun z s2 h2 e2 => ih z s2 h2 (G z s2 h2 e2))⟩, fun _ s223 e223 => ?_⟩
    have x14 : tw_I s223 b 14 = 1 := by rw [e223, mi_e]
    have nx : ¬ tw_I s223 b 14 = -1 := by rw [x14]; decide
    refine ih x2 s223 ⟨e223 ▸ mi_I hR.1 rfl, hR.2.1, ?_, ?_, ?_, ?_, fun z => absurd z nx⟩ ?_
    · rw [e223, mi_n (by decide)]; exact hR.2.2.1
    · rw [e223, tw_A_sI]; exact hR.2.2.2.1
    · rw [e223, mi_n (by decide)]; exact hR.2.2.2.2.1
    · rw [e223, mi_n (by decide)]; exact hR.2.2.2.2.2.1
    · show (if tw_I s223 b 14 = -1 then _ else _) < (if tw_I s b 14 = -1 then _ else _)
      rw [if_neg nx, if_pos he]
      omega
end H3
