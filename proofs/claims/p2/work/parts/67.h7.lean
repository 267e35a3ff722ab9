/-! ===== the model in general: the one-way laid ===== -/
section H7
variable {g : tw_G} {p : h_P} {σ σ2 : tw_S} {b k : Nat}
theorem h_at {m k : Nat} {Q : Int32 → tw_S → Prop} (h : Q (nI (151 * m + k)) σ) : wp_X9_at g σ b (nI m) (nI k) Q := by
  unfold wp_X9_at
  rw [at_e]
  exact h
theorem h_dn {x : Int32} {N : Nat} (hN : N < 2 ^ 30) (h : inI x (-1) N) (c : ¬ x < 0) : inI (x + (-1)) (-1) N ∧ (x + (-1)).toInt = x.toInt - 1 := by
  rw [i_lt] at c
  have := e_0
  obtain ⟨j, _, hj, rfl, _⟩ := inI_nI (x := x) (lo := 0) (hi := N) ⟨by omega, h.2⟩
  have e : (nI j).toInt = (j : Int) := nI_toInt (by omega)
  cases j with
  | zero => exact ⟨⟨by decide, by have : (nI 0 + (-1)).toInt = -1 := by decide
                                  omega⟩, by decide⟩
  | succ j =>
    rw [pk_m1]
    have e2 : (nI j).toInt = (j : Int) := nI_toInt (by omega)
    exact ⟨⟨by omega, by omega⟩, by omega⟩
theorem h_findsTried (hM : MI g b p σ) {m F : Nat} (hm : m < 2) (hF : F ≤ 150) (e20 : tw_A σ (tw_R g b 20) m = nI F) (hd : ∀ k, k < F → okd (tw_A σ (tw_R g b 21)) (151 * m + k)) (ht : okd (tw_A σ (tw_R g b 25)) 0) {Q : Int32 → tw_S → Prop} (hQ : ∀ (k F2 : Nat) s, MI g b p s → ((F2 = F ∧ k < F) ∨ (F2 = F + 1 ∧ k = F)) → tw_A s (tw_R g b 20) m = nI F2 → (∀ j, j ≠ m → tw_A s (tw_R g b 20) j = tw_A σ (tw_R g b 20) j) → (∀ j, j ∈ m_sl → j ≠ 20 → j ≠ 21 → tw_A s (tw_R g b j) = tw_A σ (tw_R g b j)) → (∀ k, k < F2 → okd (tw_A s (tw_R g b 21)) (151 * m + k)) → Q (nI k) s) : wp_X9_findsTried g σ b (nI m) Q := by
  unfold wp_X9_findsTried
  have vm : vp_in (nI m) 2 := vp_in_nI hm (by decide)
  have cm : (nI m).toNatClampNeg = m := nI_clamp (by omega)
  rw [cm, e20]
  refine ⟨vm, fun z2 e2 => ?_⟩
  have hz2 : inI z2 (-1) (F - 1 : Int) := by
    have q : (nI F - 1).toInt = (F : Int) - 1 := by
      have := pk_sub_toInt (a := F) (b := 1) (by omega) (by decide)
      exact this
    rw [e2]
    exact ⟨by omega, by omega⟩
  have E : ∀ v, inI v (-1) (F - 1 : Int) → ((¬ v = (-1 : Int32)) → Q v σ) ∧ ((v = (-1 : Int32)) → vp_in (nI m) 2 ∧ ∀ z18, z18 = (tw_A σ (tw_R g b 20) m) → vp_in (nI m) 2 ∧ vp_in (nI m) 2 ∧ ∀ σ21, σ21 = (tw_sA σ (tw_R g b 20) (upd (tw_A σ (tw_R g b 20)) m ((tw_A σ (tw_R g b 20) m) + (1 : Int32)))) → ∃ n112, wl_X9_findsTried_112 g b (nI m) z18 Q (fun σ28 => Q z18 σ28) n112 (0 : Int32) σ21) := by
    intro v hv
    refine ⟨fun c => ?_, fun _ => ⟨vm, fun z18 e18 => ⟨vm, vm, fun s21 e21 => ?_⟩⟩⟩
    · have v0 := i_ne1 hv c
      obtain ⟨k, _, hk, rfl, _⟩ := inI_nI (x := v) (lo := 0) (hi := F) ⟨v0.1, by have := v0.2; omega⟩
      have hk2 : k < F := by
        have := v0.2
        rw [nI_toInt (by omega)] at this
        omega
      exact hQ k F σ hM (Or.inl ⟨rfl, hk2⟩) e20 (fun _ _ => rfl) (fun _ _ _ _ => rfl) hd
    · rw [e20] at e18 e21
      rw [nI_1] at e21
      rw [e18]
      have h21 : MI g b p s21 := e21 ▸ mi_A hM rfl
      have f21 : ∀ j, j ∈ m_sl → j ≠ 20 → tw_A s21 (tw_R g b j) = tw_A σ (tw_R g b j) := fun j hj hj2 => by rw [e21, mi_q hM rfl (List.contains_iff_mem.mpr hj) hj2]
      have r20 : tw_A s21 (tw_R g b 20) = upd (tw_A σ (tw_R g b 20)) m (nI (F + 1)) := by rw [e21, mi_s]
      refine lp_up (I := fun i s => MI g b p s ∧ tw_A s (tw_R g b 20) = upd (tw_A σ (tw_R g b 20)) m (nI (F + 1)) ∧ (∀ j, j ∈ m_sl → j ≠ 20 → j ≠ 21 → tw_A s (tw_R g b j) = tw_A σ (tw_R g b j)) ∧ (∀ k, k < F → okd (tw_A s (tw_R g b 21)) (151 * m + k)) ∧ ∀ t, t < i → inI (tw_A s (tw_R g b 21) (5 * (151 * m + F) + t)) (-1) 3) 5 ?_ ?_ 0 (by decide) s21 ⟨h21, r20, fun j hj h1 _ => f21 j hj h1, by rw [f21 21 (by decide) (by decide)]; exact hd, fun t ht => absurd ht (Nat.not_lt_zero _)⟩
      · intro n i s hi ⟨h, i20, f, dd, dt⟩ ih
        rw [wl_X9_findsTried_112, nI_1]
        refine ⟨fun c => absurd c (nI_nle2 hi (by decide)), fun _ => h_at ?_⟩
        rw [at5, nI_clamp (by omega), nI_clamp (by omega)]
        refine ⟨vp_in_nI hi (by decide), vp_in_nI (by omega) (by decide), fun s27 e27 => ih s27 ⟨e27 ▸ mi_A h rfl, by rw [e27, mi_q h rfl rfl (by decide), i20], fun j hj h1 h2 => by rw [e27, mi_q h rfl (List.contains_iff_mem.mpr hj) h2]; exact f j hj h1 h2, fun k hk t ht5 => ?_, fun t ht5 => ?_⟩⟩
        · rw [e27, mi_s]
          unfold upd
          rw [if_neg (by omega)]
          exact dd k hk t ht5
        · rw [e27, mi_s]
          unfold upd
          split
          · rw [f 25 (by decide) (by decide) (by decide)]
            have := ht i hi
            rw [Nat.mul_zero, Nat.zero_add] at this
            exact this
          · exact dt t (by omega)
      · intro n s ⟨h, i20, f, dd, dt⟩
        rw [wl_X9_findsTried_112]
        refine ⟨fun _ => hQ F (F + 1) s h (Or.inr ⟨rfl, rfl⟩) ?_ (fun j hj => ?_) f (fun k hk => ?_), fun c => absurd (by decide) c⟩
        · rw [i20]; exact if_pos rfl
        · rw [i20]; exact if_neg hj
        · by_cases c : k = F
          · subst c
            exact fun t h5 => dt t h5
          · exact dd k (by omega)
  refine cm3 (fun u v s => s = σ ∧ inI u (-1) (F - 1 : Int) ∧ inI v (-1) (F - 1 : Int)) (fun _ v _ => (v.toInt + 1).toNat) (fun n u v s hI ih => ?_) (-1) z2 σ ⟨rfl, ⟨by decide, by have := e_m1; omega⟩, hz2⟩
  obtain ⟨rfl, hu, hv⟩ := hI
  rw [wl_X9_findsTried_11]
  refine ⟨fun _ => ?_, fun c => ?_⟩
  · exact E u hu
  · have hv2 := hv.2
    have c' := c
    rw [i_lt] at c'
    have e0 := e_0
    obtain ⟨k, _, hk, rfl, _⟩ := inI_nI (x := v) (lo := 0) (hi := 150) ⟨by omega, by omega⟩
    have dn := h_dn (N := 150) (by decide) ⟨hv.1, by omega⟩ c
    have mu : ((nI k + (-1)).toInt + 1).toNat < ((nI k).toInt + 1).toNat := by
      rw [dn.2]
      omega
    have dv : inI (nI k + (-1)) (-1) (F - 1 : Int) := ⟨dn.1.1, by rw [dn.2]; omega⟩
    have R := fun u2 (h2 : inI u2 (-1) (F - 1 : Int)) => ih u2 (nI k + (-1)) s ⟨rfl, h2, dv⟩ mu
    refine cu3 5 (by decide) (fun _ s2 => s2 = s) (fun n2 u2 w s2 hw e ih2 => ?_) 1 0 s ⟨by decide, by decide⟩ rfl
    subst e
    rw [wl_X9_findsTried_21]
    refine ⟨fun _ => ⟨fun _ => R _ hu, fun _ => R _ ⟨by omega, hv2⟩⟩, fun c5 => ⟨fun _ => ih2 _ _ (i_l rfl c5) rfl, fun _ => ?_⟩⟩
    have l := i_l (N := 5) rfl c5
    obtain ⟨t, ht5, rfl⟩ := i_2 (N := 4) (x := w) (by decide) ⟨hw.1, by show _ ≤ ((4 : Nat) : Int); omega⟩
    refine h_at ?_
    rw [at5]
    exact ⟨vp_in_nI (by omega) (by decide), vp_in_nI (by omega) (by decide), fun _ => ih2 _ _ l rfl, fun _ => ih2 _ _ l rfl⟩
end H7
