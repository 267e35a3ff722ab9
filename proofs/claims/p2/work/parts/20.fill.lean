/-! ===== pure: rows written again and again, Arrays.fill ===== -/
theorem tw_sA_sA (σ : tw_S) (a : Nat) (f g : Nat → Int32) : tw_sA (tw_sA σ a f) a g = tw_sA σ a g := by
  simp only [tw_sA, bx_uu]
theorem tw_up_self {α : Type} (F : Nat → α) (a : Nat) : va_up F a (F a) = F := by
  funext b
  by_cases h : b = a
  · rw [h, va_up_self]
  · rw [va_up_ne _ _ h]
theorem tw_sA_self (σ : tw_S) (a : Nat) : tw_sA σ a (tw_A σ a) = σ := by
  show (σ.1, σ.2.1, va_up σ.2.2.1 a (σ.2.2.1 a), σ.2.2.2) = σ
  rw [tw_up_self]
theorem wf_fill (g : tw_G) (σ : tw_S) (a n : Nat) (x : Int32) (Q : tw_S → Prop) (hn : n < 2 ^ 31) (hQ : Q (tw_sA σ a (fun j => if j < n then x else tw_A σ a j))) : wp_J7_fill_53178 g σ a n x Q := by
  have key : ∀ d i, i + d = n → wl_J7_fill_53178_5 g a n x (nI n) Q (fun σ4 => Q σ4) (d + 1) (nI i) (tw_sA σ a (fun j => if j < i then x else tw_A σ a j)) := by
    intro d
    induction d with
    | zero =>
      intro i hi
      have hin : i = n := by omega
      subst hin
      rw [wl_J7_fill_53178_5]
      exact ⟨fun _ => hQ, fun h => absurd (nI_le (Nat.le_refl _) hn) h⟩
    | succ d ih =>
      intro i hi
      rw [wl_J7_fill_53178_5]
      refine ⟨fun h => absurd h (nI_ge (by omega) hn), fun _ => ⟨vp_in_nI (by omega) hn, ?_⟩⟩
      intro σ' e
      have h2 := ih (i + 1) (by omega)
      rw [nI_1]
      have e2 : σ' = tw_sA σ a (fun j => if j < i + 1 then x else tw_A σ a j) := by
        rw [e, tw_sA_sA, tw_A_sA, if_pos rfl, nI_clamp (by omega)]
        congr 1
        funext j
        simp only [upd]
        by_cases h1 : j = i
        · subst h1
          simp
        · by_cases h3 : j < i
          · have h4 : j < i + 1 := by omega
            simp [h1, h3, h4]
          · have h4 : ¬ j < i + 1 := by omega
            simp [h1, h3, h4]
      rw [e2]
      exact h2
  refine ⟨n + 1, ?_⟩
  have h := key n 0 (by omega)
  have e0 : tw_sA σ a (fun j => if j < 0 then x else tw_A σ a j) = σ := by
    have e1 : (fun j => if j < 0 then x else tw_A σ a j) = tw_A σ a := by
      funext j
      simp
    rw [e1, tw_sA_self]
  rw [e0, nI_0] at h
  exact h
def tn_mv : Nat → Int32 := fun j => if j < 16 then -1 else 0
