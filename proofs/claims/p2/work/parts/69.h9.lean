/-! ===== the model in general: what is asked of a one-way ===== -/
theorem lpu {W : Nat → Int32 → Int32 → tw_S → Prop} {I : Nat → Int32 → tw_S → Prop} (N : Nat) (hs : ∀ n i u σ, i < N → I i u σ → (∀ u2 s, I (i + 1) u2 s → W n u2 (nI (i + 1)) s) → W (n + 1) u (nI i) σ) (hx : ∀ n u σ, I N u σ → W (n + 1) u (nI N) σ) (i : Nat) (hi : i ≤ N) (u : Int32) (σ : tw_S) (h : I i u σ) : ∃ n, W n u (nI i) σ := by
  have key : ∀ d i u σ, i + d = N → I i u σ → W (d + 1) u (nI i) σ := by
    intro d
    induction d with
    | zero =>
      intro i u σ e h
      have e : i = N := by omega
      subst e
      exact hx 0 u σ h
    | succ d ih =>
      intro i u σ e h
      exact hs (d + 1) i u σ (by omega) h (fun u2 s h2 => ih (i + 1) u2 s (by omega) h2)
  exact ⟨N - i + 1, key (N - i) i u σ (by omega) h⟩
section H9
variable {g : tw_G} {p : h_P} {σ σ2 : tw_S} {b k : Nat}
/-- the one-way's rows are those of σ -/
def KQ (g : tw_G) (b : Nat) (p : h_P) (σ s : tw_S) : Prop := MI g b p s ∧ tw_A s (tw_R g b 20) = tw_A σ (tw_R g b 20) ∧ tw_A s (tw_R g b 22) = tw_A σ (tw_R g b 22) ∧ tw_A s (tw_R g b 23) = tw_A σ (tw_R g b 23) ∧ tw_A s (tw_R g b 24) = tw_A σ (tw_R g b 24)
def kr (k : Nat) : Bool := hr k && !([20, 22, 23, 24].contains k)
theorem kq_A {s : tw_S} {f : Nat → Int32} (h : KQ g b p σ s) (hk : kr k = true) : KQ g b p σ (tw_sA s (tw_R g b k) f) := by
  rw [kr, Bool.and_eq_true] at hk
  have h2 := hk.1
  rw [hr, Bool.and_eq_true] at h2
  have q : ∀ j, m_sl.contains j = true → [20, 22, 23, 24].contains j = true → tw_A (tw_sA s (tw_R g b k) f) (tw_R g b j) = tw_A s (tw_R g b j) := fun j hj hj2 => mi_q h.1 h2.1 hj (fun e => by
    have h3 := hk.2
    rw [← e, hj2] at h3
    exact absurd h3 (by decide))
  refine ⟨mi_A h.1 hk.1, ?_, ?_, ?_, ?_⟩
  · rw [q 20 rfl rfl]; exact h.2.1
  · rw [q 22 rfl rfl]; exact h.2.2.1
  · rw [q 23 rfl rfl]; exact h.2.2.2.1
  · rw [q 24 rfl rfl]; exact h.2.2.2.2
theorem kq_st {e : tw_S} {T : tw_S → Prop} (h : KQ g b p σ e) (h2 : ∀ s, s = e → KQ g b p σ s → T s) : ∀ s, s = e → T s := fun s hs => h2 s hs (hs ▸ h)
theorem h_nx {m F i : Nat} (hF : F ≤ 150) (hn : ∀ i, i < 2 * F → inI (tw_A σ (tw_R g b 22) (302 * m + i)) 0 (F - 1 : Int)) {a l : Nat} (ha : a < F) (hl : l < 2) : ∃ t : Nat, t < F ∧ tw_A σ (tw_R g b 22) (2 * (151 * m + a) + l) = nI t := by
  have h := hn (2 * a + l) (by omega)
  have e : 302 * m + (2 * a + l) = 2 * (151 * m + a) + l := by omega
  rw [e] at h
  obtain ⟨t, _, ht, et, _⟩ := inI_nI (lo := 0) (hi := F) ⟨h.1, by have := h.2; omega⟩
  refine ⟨t, ?_, et⟩
  have := h.2
  rw [et, nI_toInt (by omega)] at this
  omega
theorem h_isLike {m F : Nat} (hm : m < 2) (hF : F ≤ 150) (hn : ∀ i, i < 2 * F → inI (tw_A σ (tw_R g b 22) (302 * m + i)) 0 (F - 1 : Int)) {a c : Nat} (ha : a < F) (hc : c < F) {Q : Int32 → tw_S → Prop} (hQ : ∀ r, Q r σ) : wp_X9_isLike g σ b (nI m) (nI a) (nI c) Q := by
  unfold wp_X9_isLike
  have L : ∀ u : Int32, (u = 0 ∨ u = 1) → ∃ n, wl_X9_isLike_25 g b (nI m) (nI a) (nI c) Q (fun v s => narrow .boolean (.int v) = .int v ∧ Q v s) n u 0 σ := by
    intro u hu
    refine lpu (I := fun _ u s => (u = 0 ∨ u = 1) ∧ s = σ) 2 ?_ ?_ 0 (by decide) u σ ⟨hu, rfl⟩
    · intro n i u s hi ⟨hu, e⟩ ih
      subst e
      obtain ⟨t1, ht1, e1⟩ := h_nx (i := 0) hF hn ha hi
      obtain ⟨t2, ht2, e2⟩ := h_nx (i := 0) hF hn hc hi
      rw [wl_X9_isLike_25, nI_1]
      refine ⟨fun cc => absurd cc (nI_nle2 hi (by decide)), fun _ => ⟨fun _ => ih _ _ ⟨Or.inl rfl, rfl⟩, fun _ => h_at ?_⟩⟩
      rw [at2, nI_clamp (by omega), e1]
      refine ⟨vp_in_nI (by omega) (by decide), vp_in_nI (by omega) (by decide), h_at ?_⟩
      rw [at2, nI_clamp (n := 2 * (151 * m + c) + i) (by omega), e2]
      exact ⟨vp_in_nI (by omega) (by decide), vp_in_nI (by omega) (by decide), fun _ => ih _ _ ⟨Or.inl rfl, rfl⟩, fun _ => ih _ _ ⟨Or.inr rfl, rfl⟩⟩
    · intro n u s ⟨hu, e⟩
      subst e
      rw [wl_X9_isLike_25]
      exact ⟨fun _ => ⟨h_nb hu, hQ _⟩, fun cc => absurd (by decide) cc⟩
  exact ⟨vp_in_nI (by omega) (by decide), vp_in_nI (by omega) (by decide), fun _ => L 0 (Or.inl rfl), fun _ => L 1 (Or.inr rfl)⟩
theorem h_dn2 {x : Int32} {N : Int} (hN : N ≤ 150) (h : inI x (-1) N) (c : ¬ x < 0) : inI (x + (-1)) (-1) N ∧ ((x + (-1)).toInt + 1).toNat < (x.toInt + 1).toNat ∧ ∃ k : Nat, x = nI k ∧ k ≤ 150 ∧ (k : Int) ≤ N := by
  have dn := h_dn (N := 150) (by decide) ⟨h.1, Int.le_trans h.2 hN⟩ c
  have h2 := h.2
  rw [i_lt] at c
  have e0 := e_0
  obtain ⟨k, _, hk, e, _⟩ := inI_nI (x := x) (lo := 0) (hi := 150) ⟨by omega, Int.le_trans h2 hN⟩
  have ek : x.toInt = (k : Int) := by rw [e, nI_toInt (by omega)]
  have d2 := dn.2
  exact ⟨⟨dn.1.1, by omega⟩, by omega, k, e, hk, by omega⟩
theorem h_least (hM : MI g b p σ) {m : Nat} (hm : m < 2) (hO : OWP g b m σ) {Q : Int32 → tw_S → Prop} (hQ : ∀ r s, MI g b p s → Q r s) : wp_X9_least g σ b (nI m) Q := by
  unfold wp_X9_least
  obtain ⟨F, f1, hF, e20, hn, _⟩ := hO
  have vm : vp_in (nI m) 2 := vp_in_nI hm (by decide)
  have cm : (nI m).toNatClampNeg = m := nI_clamp (by omega)
  have K20 : ∀ {s}, KQ g b p σ s → tw_A s (tw_R g b 20) m = nI F := fun h => by rw [h.2.1]; exact e20
  have Kn : ∀ {s}, KQ g b p σ s → ∀ i, i < 2 * F → inI (tw_A s (tw_R g b 22) (302 * m + i)) 0 (F - 1 : Int) := fun h => by rw [h.2.2.1]; exact hn
  have X : ∀ i, ¬ nI F ≤ nI i → i ≤ 150 → i < F := fun i c hi => by
    rw [i_le, nI_toInt (by omega), nI_toInt (by omega)] at c
    omega
  refine lp_up (I := fun _ s => KQ g b p σ s) F ?_ ?_ 0 (Nat.zero_le _) σ ⟨hM, rfl, rfl, rfl, rfl⟩
  · intro n i s hi h ih
    rw [wl_X9_least_7, nI_1, cm, K20 h]
    refine ⟨vm, fun c => absurd c (nI_nle2 hi (by omega)), fun _ => h_at ?_⟩
    exact ⟨vp_in_nI (by omega) (by decide), vp_in_nI (by omega) (by decide), kq_st (kq_A h rfl) fun s7 _ h7 => ih s7 h7⟩
  · intro n s h
    rw [wl_X9_least_7, cm, K20 h]
    refine ⟨vm, fun _ => ?_, fun c => absurd (i_le.mpr (Int.le_refl _)) c⟩
    refine cm3 (fun u v s => KQ g b p σ s ∧ inI u 0 150 ∧ inI v 0 150) (fun u _ _ => (151 - u.toInt).toNat) (fun n u v s hI ih => ?_) 0 1 s ⟨h, ⟨by decide, by decide⟩, ⟨by decide, by decide⟩⟩
    obtain ⟨h, hu, hv⟩ := hI
    rw [wl_X9_least_43]
    refine ⟨fun _ => hQ _ _ h.1, fun c => ?_⟩
    rw [i_le] at c
    have mu : (151 - v.toInt).toNat < (151 - u.toInt).toNat := by
      have := hv.2
      omega
    refine lpu (I := fun i u s => KQ g b p σ s ∧ ∃ t : Nat, t ≤ i ∧ u = nI t) F ?_ ?_ 0 (Nat.zero_le _) 0 s ⟨h, 0, Nat.le_refl _, rfl⟩
    · intro n2 i u2 s2 hi ⟨h, t, ht, et⟩ ih2
      rw [wl_X9_least_55, nI_1, cm, K20 h]
      refine ⟨vm, fun c => absurd c (nI_nle2 hi (by omega)), fun _ => ?_⟩
      have es : (nI i - (1 : Int32)).toInt = (i : Int) - 1 := pk_sub_toInt (a := i) (b := 1) (by omega) (by decide)
      have e0a : u2 + (0 : Int32) = nI (t + 0) := by rw [et]; exact nI_add t 0
      have e1a : u2 + (1 : Int32) = nI (t + 1) := by rw [et]; exact nI_add t 1
      refine cm3 (fun _ v s3 => s3 = s2 ∧ inI v (-1) (i - 1 : Int)) (fun _ v _ => (v.toInt + 1).toNat) (fun n3 w v s3 hI ih3 => ?_) (nI i) (nI i - 1) s2 ⟨rfl, ⟨by omega, by omega⟩⟩
      obtain ⟨rfl, hv3⟩ := hI
      rw [wl_X9_least_76]
      refine ⟨fun _ => ⟨vp_in_nI (by omega) (by decide), kq_st (kq_A h rfl) fun s19 _ h19 => ⟨fun _ => ih2 _ _ ⟨h19, t + 0, by omega, e0a⟩, fun _ => ih2 _ _ ⟨h19, t + 1, by omega, e1a⟩⟩⟩, fun c => ?_⟩
      obtain ⟨dv, mu3, k, rfl, hk, hki⟩ := h_dn2 (by omega) hv3 c
      exact h_isLike hm hF (Kn h) (by clear mu3 dv es; omega) hi fun r14 => ⟨fun _ => ih3 _ _ _ ⟨rfl, dv⟩ mu3, fun _ => ih3 _ _ _ ⟨rfl, dv⟩ mu3⟩
    · intro n2 u2 s2 ⟨h, t, ht, et⟩
      rw [wl_X9_least_55, cm, K20 h]
      refine ⟨vm, fun _ => ?_, fun c => absurd (i_le.mpr (Int.le_refl _)) c⟩
      have ht2 : inI u2 0 150 := by
        rw [et]
        have e := nI_toInt (n := t) (by omega)
        exact ⟨by omega, by omega⟩
      refine lp_up (I := fun _ s => KQ g b p σ s) F ?_ ?_ 0 (Nat.zero_le _) s2 h
      · intro n4 i s4 hi h ih4
        rw [wl_X9_least_141, nI_1, cm, K20 h]
        exact ⟨vm, fun c => absurd c (nI_nle2 hi (by omega)), fun _ => ⟨vp_in_nI (by omega) (by decide), vp_in_nI (by omega) (by decide), kq_st (kq_A h rfl) fun s27 _ h27 => ih4 s27 h27⟩⟩
      · intro n4 s4 h
        rw [wl_X9_least_141, cm, K20 h]
        exact ⟨vm, fun _ => ih _ _ _ ⟨h, hv, ht2⟩ mu, fun c => absurd (i_le.mpr (Int.le_refl _)) c⟩
theorem h_half2 {w : Nat} (hw : w < 2 ^ 31) : nI w / (2 : Int32) = nI (w / 2) := pk_div (d := 2) hw (by decide) (by decide)
theorem h_firstOf (hM : MI g b p σ) {m : Nat} (hm : m < 2) (hO : OWP g b m σ) {x : Int32} {Q : Int32 → tw_S → Prop} (hQ : ∀ r, Q r σ) : wp_X9_firstOf g σ b (nI m) x Q := by
  unfold wp_X9_firstOf
  obtain ⟨F, f1, hF, e20, hn, hf⟩ := hO
  have vm : vp_in (nI m) 2 := vp_in_nI hm (by decide)
  have cm : (nI m).toNatClampNeg = m := nI_clamp (by omega)
  rw [cm, e20]
  refine ⟨vm, fun z2 e2 => ?_⟩
  have q : (nI F - 1).toInt = (F : Int) - 1 := pk_sub_toInt (a := F) (b := 1) (by omega) (by decide)
  have E : ∀ d k : Nat, k < d → k < F → ∀ (x4 x6 : Int64) (x8 : Int32), wl_X9_firstOf_62 g b (nI m) Q (fun v23 v24 v25 σ26 => ((v25 ≤ (24 : Int32)) → Q ((v23 + v24).toInt32) σ26) ∧ (¬ (v25 ≤ (24 : Int32)) → Q (0 : Int32) σ26)) d (nI k) x4 x6 x8 σ := by
    intro d
    induction d with
    | zero => intro k hk; exact absurd hk (Nat.not_lt_zero _)
    | succ d ih =>
      intro k hk hkF x4 x6 x8
      have v3 : vp_in (nI (151 * m + k)) 302 := vp_in_nI (by omega) (by decide)
      rw [wl_X9_firstOf_62]
      refine h_at ?_
      rw [nI_clamp (by omega)]
      refine ⟨v3, fun _ => ⟨fun _ => hQ _, fun _ => hQ _⟩, fun c => h_at ?_⟩
      rw [nI_clamp (by omega)]
      obtain ⟨w, w1, w2, ew⟩ := (hf k hkF).resolve_left c
      refine ⟨v3, fun z18 e18 => ?_⟩
      have ez : z18 / (2 : Int32) = nI (w / 2) := by
        rw [e18, ew]
        exact h_half2 (by omega)
      rw [ez]
      have R := fun a b c => ih (w / 2) (by omega) (by omega) a b c
      exact ⟨fun _ => ⟨fun _ => R _ _ _, fun _ => R _ _ _⟩, fun _ z21 _ => ⟨fun _ => R _ _ _, fun _ => R _ _ _⟩⟩
  refine cm3 (fun u v s => s = σ ∧ inI u (-1) (F - 1 : Int) ∧ inI v (-1) (F - 1 : Int)) (fun _ v _ => (v.toInt + 1).toNat) (fun n u v s hI ih => ?_) (-1) z2 σ ⟨rfl, ⟨by decide, by have := e_m1; omega⟩, by rw [e2]; exact ⟨by omega, by omega⟩⟩
  obtain ⟨rfl, hu, hv⟩ := hI
  rw [wl_X9_firstOf_12]
  refine ⟨fun _ => ⟨fun c => ?_, fun _ => hQ _⟩, fun c => ?_⟩
  · have u0 := i_ne1 hu c
    obtain ⟨k, _, hk, rfl, _⟩ := inI_nI (x := u) (lo := 0) (hi := 150) ⟨u0.1, by have := u0.2; omega⟩
    have hk2 : k < F := by
      have := u0.2
      rw [nI_toInt (by omega)] at this
      omega
    exact ⟨k + 1, E (k + 1) k (Nat.lt_succ_self _) hk2 _ _ _⟩
  · have hv2 := hv
    obtain ⟨dv, mu, k, rfl, hk, hki⟩ := h_dn2 (by omega) hv c
    refine h_at ?_
    exact ⟨vp_in_nI (by omega) (by decide), fun _ => ih _ _ _ ⟨rfl, hu, dv⟩ mu, fun _ => ih _ _ _ ⟨rfl, hv2, dv⟩ mu⟩
end H9
