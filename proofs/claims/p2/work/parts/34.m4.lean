/-! ===== the model on a fresh object: the one-way machine of a machine without moves ===== -/
/-- what lays has laid for machine q -/
def m_F (g : tw_G) (a0 q : Nat) (σ : tw_S) : Prop := tw_A σ (tw_R g a0 20) q = 1 ∧ (∀ t, t < 5 → tw_A σ (tw_R g a0 21) (755 * q + t) = -1) ∧ tw_A σ (tw_R g a0 22) (302 * q) = 0 ∧ tw_A σ (tw_R g a0 22) (302 * q + 1) = 0 ∧ tw_A σ (tw_R g a0 23) (151 * q) = 0 ∧ tw_A σ (tw_R g a0 24) (151 * q) = -1
section M5
variable {g : tw_G} {τ σ σ2 : tw_S} {a0 : Nat}
theorem m_at {q x : Nat} {Q : Int32 → tw_S → Prop} (h : Q (nI (151 * q + x)) σ) : wp_X9_at g σ a0 (nI q) (nI x) Q := by
  unfold wp_X9_at
  have e : (151 : Int32) * nI q = nI (151 * q) := pk_mul 151 q
  rw [e, nI_add]
  exact h
theorem m_ne1 {s : Nat} (h : s < 2 ^ 31) : ¬ nI s = -1 := by
  rw [i_eq, nI_toInt h]
  have e : (-1 : Int32).toInt = -1 := rfl
  rw [e]
  omega
theorem m1_offRight {q s c : Nat} (hq : q < 2) (hs : s < 4) (hc : c < 4) (hn : tw_A σ (tw_R g a0 0) = sm_now) {x4 : Int32} {Q : Int32 → tw_S → Prop} (hQ : Q (-1) σ) : wp_X9_offRight g σ a0 (nI q) (nI c) (nI s) x4 Q := by
  refine ⟨1, ?_⟩
  rw [wl_X9_offRight_6]
  refine ⟨fun c => absurd c (m_ne1 (by omega)), fun _ => ⟨fun c => absurd ?_ c, fun _ z3 _ => ?_⟩⟩
  · have h : s = 0 ∨ s = 1 ∨ s = 2 ∨ s = 3 := by omega
    rcases h with rfl | rfl | rfl | rfl <;> rfl
  · exact m_moveAt1 hq hs hc hn ⟨fun c => absurd rfl c, fun _ => hQ⟩
theorem m1_tries (hd : m_d g a0) {q c : Nat} (hq : q < 2) (hc : c < 4) (hn : tw_A τ (tw_R g a0 0) = sm_now) {x3 x4 : Int32} (hx : x3 = 0 ∨ x3 = -1) {Q : tw_S → Prop} (hQ : ∀ τ2, m_k g a0 [] [25] τ τ2 → (∀ t, t < 5 → tw_A τ2 (tw_R g a0 25) t = -1) → Q τ2) : wp_X9_tries g τ a0 (nI q) (nI c) x3 x4 Q := by
  have key : ∀ σ4, m_k g a0 [] [25] τ σ4 → tw_A σ4 (tw_R g a0 25) 0 = -1 → ∃ n27, wl_X9_tries_27 g a0 (nI q) (nI c) x4 Q (fun σ15 => Q σ15) n27 (0 : Int32) σ4 := by
    intro σ4 k4 z4
    refine lp_up (I := fun i σ => m_k g a0 [] [25] τ σ ∧ ∀ t, t < i + 1 → tw_A σ (tw_R g a0 25) t = -1) 4 ?_ ?_ 0 (by decide) σ4 ⟨k4, fun t ht => ?_⟩
    · intro n i σ hi ⟨i1, i2⟩ ih
      have e1 : (1 : Int32) + nI i = nI (1 + i) := nI_add 1 i
      rw [wl_X9_tries_27, e1, nI_1]
      have hns : tw_A σ (tw_R g a0 0) = sm_now := (i1.2 0 (by decide) (by decide)).trans hn
      have fin : ∀ σ14, σ14 = tw_sA σ (tw_R g a0 25) (upd (tw_A σ (tw_R g a0 25)) (nI (1 + i)).toNatClampNeg (-1)) → m_k g a0 [] [25] τ σ14 ∧ ∀ t, t < i + 1 + 1 → tw_A σ14 (tw_R g a0 25) t = -1 := by
        intro σ14 e14
        refine ⟨mk_sA hd i1 25 (by decide) (by decide) e14, fun t ht => ?_⟩
        rw [e14, tw_A_sA, if_pos rfl, nI_clamp (by omega)]
        by_cases h : t = 1 + i
        · subst h
          rw [pk_us]
        · rw [pk_un h]
          exact i2 t (by omega)
      refine ⟨fun c => absurd c (nI_ge (b := 4) hi (by decide)), fun _ => ?_⟩
      refine m_isState hq hns (fun c5 => ?_) (fun c5 => ?_)
      · refine ⟨fun c => absurd c (by decide), fun _ => ?_⟩
        exact m1_offRight hq hi hc hns ⟨vp_in_nI (by omega) (by decide), fun σ14 e14 => ih σ14 (fin σ14 e14)⟩
      · exact ⟨fun _ => ⟨vp_in_nI (by omega) (by decide), fun σ14 e14 => ih σ14 (fin σ14 e14)⟩, fun c => absurd rfl c⟩
    · intro n σ ⟨i1, i2⟩
      rw [wl_X9_tries_27]
      exact ⟨fun _ => hQ σ i1 (fun t ht => i2 t (by omega)), fun c => absurd (nI_le (Nat.le_refl 4) (by decide)) c⟩
    · have : t = 0 := by omega
      subst this
      exact z4
  unfold wp_X9_tries
  rcases hx with rfl | rfl
  · refine ⟨fun _ => ?_, fun c => absurd c (by decide)⟩
    refine m1_offRight (s := 0) hq (by decide) hc hn fun σ4 e4 => key σ4 (mk_sA hd mk_rf 25 (by decide) (by decide) e4) ?_
    rw [e4, tw_A_sA, if_pos rfl]
    rfl
  · refine ⟨fun c => absurd rfl c, fun _ σ4 e4 => key σ4 (mk_sA hd mk_rf 25 (by decide) (by decide) e4) ?_⟩
    rw [e4, tw_A_sA, if_pos rfl]
    rfl
/-- the first that is found -/
theorem m1_find0 (hd : m_d g a0) {q : Nat} (hq : q < 2) (h0 : tw_A τ (tw_R g a0 20) q = 0) (ht : ∀ t, t < 5 → tw_A τ (tw_R g a0 25) t = -1) {Q : Int32 → tw_S → Prop} (hQ : ∀ τ2, m_k g a0 [] [20, 21] τ τ2 → (∀ j, j ≠ q → tw_A τ2 (tw_R g a0 20) j = tw_A τ (tw_R g a0 20) j) → tw_A τ2 (tw_R g a0 20) q = 1 → (∀ t, t < 5 → tw_A τ2 (tw_R g a0 21) (755 * q + t) = -1) → (∀ j, j < 755 * q ∨ 755 * q + 5 ≤ j → tw_A τ2 (tw_R g a0 21) j = tw_A τ (tw_R g a0 21) j) → Q 0 τ2) : wp_X9_findsTried g τ a0 (nI q) Q := by
  unfold wp_X9_findsTried
  have v : vp_in (nI q) 2 := vp_in_nI hq (by decide)
  rw [nI_clamp (by omega), h0]
  refine ⟨v, fun z2 e2 => ⟨1, ?_⟩⟩
  rw [wl_X9_findsTried_11, e2]
  refine ⟨fun _ => ?_, fun c => absurd (by decide) c⟩
  refine ⟨fun c => absurd rfl c, fun _ => ⟨v, fun z18 e18 => ⟨v, v, fun σ21 e21 => ?_⟩⟩⟩
  rw [h0] at e18
  have e18 : z18 = nI 0 := e18
  subst e18
  have k21 : m_k g a0 [] [20, 21] τ σ21 := mk_sA hd mk_rf 20 (by decide) (by decide) e21
  have f21 : ∀ j, j ≠ q → tw_A σ21 (tw_R g a0 20) j = tw_A τ (tw_R g a0 20) j := fun j hj => by
    rw [e21, tw_A_sA, if_pos rfl, pk_un hj]
  have g21 : tw_A σ21 (tw_R g a0 20) q = 1 := by
    rw [e21, tw_A_sA, if_pos rfl, pk_us, h0]
    rfl
  have r21 : tw_A σ21 (tw_R g a0 21) = tw_A τ (tw_R g a0 21) := by
    rw [e21, tw_A_sA, if_neg (hd 21 20 (by decide) (by decide) (by decide))]
  have t21 : ∀ t, t < 5 → tw_A σ21 (tw_R g a0 25) t = -1 := fun t h => by
    rw [e21, tw_A_sA, if_neg (hd 25 20 (by decide) (by decide) (by decide))]
    exact ht t h
  have e5 : ∀ i : Nat, (5 : Int32) * nI (151 * q + 0) + nI i = nI (755 * q + i) := fun i => by
    have z : (5 : Int32) * nI (151 * q + 0) = nI (5 * (151 * q + 0)) := pk_mul 5 _
    rw [z, nI_add]
    congr 1
    omega
  refine lp_up (I := fun i σ => m_k g a0 [] [20, 21] τ σ ∧ tw_A σ (tw_R g a0 20) = tw_A σ21 (tw_R g a0 20) ∧ (∀ t, t < 5 → tw_A σ (tw_R g a0 25) t = -1) ∧ (∀ t, t < i → tw_A σ (tw_R g a0 21) (755 * q + t) = -1) ∧ ∀ j, j < 755 * q ∨ 755 * q + 5 ≤ j → tw_A σ (tw_R g a0 21) j = tw_A τ (tw_R g a0 21) j) 5 ?_ ?_ 0 (by decide) σ21 ⟨k21, rfl, t21, fun t h => absurd h (by omega), fun j _ => by rw [r21]⟩
  · intro n i σ hi ⟨i1, i2, i3, i4, i5⟩ ih
    rw [wl_X9_findsTried_112, nI_1]
    refine ⟨fun c => absurd c (nI_ge (b := 5) hi (by decide)), fun _ => ?_⟩
    refine m_at ?_
    rw [e5, nI_clamp (by omega), nI_clamp (by omega), i3 i hi]
    refine ⟨vp_in_nI hi (by decide), vp_in_nI (by omega) (by decide), fun σ27 e27 => ih σ27 ⟨mk_sA hd i1 21 (by decide) (by decide) e27, ?_, fun t h => ?_, fun t h => ?_, fun j h => ?_⟩⟩
    · rw [e27, tw_A_sA, if_neg (hd 20 21 (by decide) (by decide) (by decide))]
      exact i2
    · rw [e27, tw_A_sA, if_neg (hd 25 21 (by decide) (by decide) (by decide))]
      exact i3 t h
    · rw [e27, tw_A_sA, if_pos rfl]
      by_cases hti : t = i
      · subst hti
        rw [pk_us]
      · rw [pk_un (by omega)]
        exact i4 t (by omega)
    · rw [e27, tw_A_sA, if_pos rfl, pk_un (by omega)]
      exact i5 j h
  · intro n σ ⟨i1, i2, i3, i4, i5⟩
    rw [wl_X9_findsTried_112]
    exact ⟨fun _ => hQ σ i1 (fun j hj => by rw [i2]; exact f21 j hj) (by rw [i2]; exact g21) i4 i5, fun c => absurd (nI_le (Nat.le_refl 5) (by decide)) c⟩
/-- it is there already -/
theorem m1_find1 {q : Nat} (hq : q < 2) (h0 : tw_A τ (tw_R g a0 20) q = 1) (ht : ∀ t, t < 5 → tw_A τ (tw_R g a0 25) t = -1) (hdo : ∀ t, t < 5 → tw_A τ (tw_R g a0 21) (755 * q + t) = -1) {Q : Int32 → tw_S → Prop} (hQ : Q 0 τ) : wp_X9_findsTried g τ a0 (nI q) Q := by
  unfold wp_X9_findsTried
  have v : vp_in (nI q) 2 := vp_in_nI hq (by decide)
  rw [nI_clamp (by omega), h0]
  refine ⟨v, fun z2 e2 => ⟨2, ?_⟩⟩
  have e2 : z2 = nI 0 := e2
  subst e2
  have e5 : ∀ i : Nat, (5 : Int32) * nI (151 * q + 0) + nI i = nI (755 * q + i) := fun i => by
    have z : (5 : Int32) * nI (151 * q + 0) = nI (5 * (151 * q + 0)) := pk_mul 5 _
    rw [z, nI_add]
    congr 1
    omega
  rw [wl_X9_findsTried_11]
  refine ⟨fun c => absurd c (by decide), fun _ => ?_⟩
  refine lp_up (W := fun n i σ => wl_X9_findsTried_21 g a0 (nI q) (-1) (nI 0) Q _ n 1 i σ) (I := fun _ σ => σ = τ) 5 ?_ ?_ 0 (by decide) τ rfl
  · intro n i σ hi e ih
    subst e
    show wl_X9_findsTried_21 g a0 (nI q) (-1) (nI 0) Q _ (n + 1) 1 (nI i) σ
    have ih := ih σ rfl
    rw [wl_X9_findsTried_21, nI_1]
    refine ⟨fun c => absurd c (nI_ge (b := 5) hi (by decide)), fun _ => ⟨fun c => absurd c (by decide), fun _ => ?_⟩⟩
    refine m_at ?_
    rw [e5, nI_clamp (by omega), nI_clamp (by omega), hdo i hi, ht i hi]
    exact ⟨vp_in_nI (by omega) (by decide), vp_in_nI hi (by decide), fun c => absurd rfl c, fun _ => ih⟩
  · intro n σ e
    subst e
    show wl_X9_findsTried_21 g a0 (nI q) (-1) (nI 0) Q _ (n + 1) 1 (nI 5) σ
    rw [wl_X9_findsTried_21]
    refine ⟨fun _ => ⟨fun c => absurd c (by decide), fun _ => ?_⟩, fun c => absurd (nI_le (Nat.le_refl 5) (by decide)) c⟩
    rw [wl_X9_findsTried_11]
    exact ⟨fun _ => ⟨fun _ => hQ, fun c => absurd c (by decide)⟩, fun c => absurd (by decide) c⟩
end M5
