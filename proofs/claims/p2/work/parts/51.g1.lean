/-! ===== the class in general: what every call keeps ===== -/
section G1
variable {g : tw_G} {σ σ2 : tw_S} {a0 y : Nat}
/-- a machine's size -/
def g_m (y : Nat) (σ : tw_S) : Prop := inI (tw_I σ y 1) 1 4
theorem g_at (h : g_m y σ) {s c : Int32} {Q : Int32 → tw_S → Prop} (hQ : ∀ r, Q r σ) : wp_X3_at g σ y s c Q := by
  unfold wp_X3_at
  refine ⟨fun _ => hQ _, fun c1 => ⟨fun _ => hQ _, fun c2 => ?_⟩⟩
  refine x_isSign (fun c3 => ⟨fun c => absurd c (by decide), fun _ => ⟨?_, hQ _⟩⟩) (fun _ => ⟨fun _ => hQ _, fun c => absurd rfl c⟩)
  rw [i_lt] at c1
  rw [i_le] at c2
  have e0 : (0 : Int32).toInt = 0 := rfl
  have h1 := h.2
  obtain ⟨i, _, hi, rfl, _⟩ := inI_nI (x := s) (lo := 0) (hi := 3) ⟨by omega, by omega⟩
  obtain ⟨j, _, hj, rfl, _⟩ := inI_nI (lo := 0) (hi := 3) c3
  have e4 : (4 : Int32) * nI i = nI (4 * i) := pk_mul 4 i
  rw [e4, nI_add]
  exact vp_in_nI (by omega) (by decide)
theorem g_hasState {x : Int32} {Q : Int32 → tw_S → Prop} (h1 : 0 ≤ x.toInt → x.toInt < (tw_I σ y 1).toInt → Q 1 σ) (h0 : Q 0 σ) : wp_X3_hasState g σ y x Q := by
  unfold wp_X3_hasState
  have e0 : (0 : Int32).toInt = 0 := rfl
  refine ⟨fun _ => h0, fun c1 => ⟨fun _ => h0, fun c2 => h1 ?_ ?_⟩⟩
  · rw [i_lt] at c1; omega
  · rw [i_le] at c2; omega
theorem g_put (h : g_m y σ) {s c v : Int32} {Q : tw_S → Prop} (h0 : Q σ) (h1 : ∀ f, Q (tw_sA σ (tw_R g y 0) f)) : wp_X3_put g σ y s c v Q := by
  unfold wp_X3_put
  refine g_hasState (fun c1 c2 => ⟨fun c => absurd c (by decide), fun _ => ?_⟩) ⟨fun _ => h0, fun c => absurd rfl c⟩
  refine x_isSign (fun c3 => ⟨fun c => absurd c (by decide), fun _ => ⟨?_, fun _ e => e ▸ h1 _⟩⟩) (fun _ => ⟨fun _ => h0, fun c => absurd rfl c⟩)
  have h1 := h.2
  obtain ⟨i, _, hi, rfl, _⟩ := inI_nI (x := s) (lo := 0) (hi := 3) ⟨by omega, by omega⟩
  obtain ⟨j, _, hj, rfl, _⟩ := inI_nI (lo := 0) (hi := 3) c3
  have e4 : (4 : Int32) * nI i = nI (4 * i) := pk_mul 4 i
  rw [e4, nI_add]
  exact vp_in_nI (by omega) (by decide)
theorem g_become {a1 : Nat} {Q : tw_S → Prop} (hQ : ∀ f, Q (tw_sA (tw_sI σ y 1 (tw_I σ a1 1)) (tw_R g y 0) f)) : wp_X3_become g σ y a1 Q := by
  unfold wp_X3_become
  intro σ1 e1 σ2 e2
  rw [e2, e1]
  exact hQ _
theorem g_empty {x : Int32} {Q : tw_S → Prop} (hQ : ∀ v f, inI v 1 4 → Q (tw_sA (tw_sI σ y 1 v) (tw_R g y 0) f)) : wp_X3_empty g σ y x Q := by
  unfold wp_X3_empty
  intro z1 e1 z2 e2 σ3 e3
  refine wf_fill g σ3 _ 16 _ _ (by decide) ?_
  rw [e3]
  refine hQ z2 _ ?_
  have e01 : (1 : Int32).toInt = 1 := rfl
  have e04 : (4 : Int32).toInt = 4 := rfl
  rw [e2]
  by_cases h2 : z1 < 4
  · rw [if_pos h2]
    rw [i_lt] at h2
    refine ⟨?_, by omega⟩
    rw [e1]
    by_cases h3 : (1 : Int32) < x
    · rw [if_pos h3]; rw [i_lt] at h3; omega
    · rw [if_neg h3]; decide
  · rw [if_neg h2]
    exact ⟨by decide, by decide⟩
end G1
