/-! the state of the pool: ints and longs of objects by address and slot, rows of ints (booleans too) and of longs by address -/
abbrev tw_S : Type := (Nat → Nat → Int32) × (Nat → Nat → Int64) × (Nat → Nat → Int32) × (Nat → Nat → Int64)
def tw_I (σ : tw_S) (a k : Nat) : Int32 := σ.1 a k
def tw_J (σ : tw_S) (a k : Nat) : Int64 := σ.2.1 a k
def tw_A (σ : tw_S) (a : Nat) : Nat → Int32 := σ.2.2.1 a
def tw_B (σ : tw_S) (a : Nat) : Nat → Int64 := σ.2.2.2 a
def tw_u {α : Type} (f : Nat → Nat → α) (a k : Nat) (v : α) : Nat → Nat → α := fun b j => if b = a then (if j = k then v else f b j) else f b j
def tw_sI (σ : tw_S) (a k : Nat) (v : Int32) : tw_S := (tw_u σ.1 a k v, σ.2)
def tw_sJ (σ : tw_S) (a k : Nat) (v : Int64) : tw_S := (σ.1, tw_u σ.2.1 a k v, σ.2.2)
def tw_sA (σ : tw_S) (a : Nat) (f : Nat → Int32) : tw_S := (σ.1, σ.2.1, va_up σ.2.2.1 a f, σ.2.2.2)
def tw_sB (σ : tw_S) (a : Nat) (f : Nat → Int64) : tw_S := (σ.1, σ.2.1, σ.2.2.1, va_up σ.2.2.2 a f)
theorem tw_I_sI (σ : tw_S) (a k b j : Nat) (v : Int32) : tw_I (tw_sI σ a k v) b j = if b = a then (if j = k then v else tw_I σ b j) else tw_I σ b j := rfl
theorem tw_I_sJ (σ : tw_S) (a k b j : Nat) (v : Int64) : tw_I (tw_sJ σ a k v) b j = tw_I σ b j := rfl
theorem tw_I_sA (σ : tw_S) (a b j : Nat) (f : Nat → Int32) : tw_I (tw_sA σ a f) b j = tw_I σ b j := rfl
theorem tw_I_sB (σ : tw_S) (a b j : Nat) (f : Nat → Int64) : tw_I (tw_sB σ a f) b j = tw_I σ b j := rfl
theorem tw_J_sI (σ : tw_S) (a k b j : Nat) (v : Int32) : tw_J (tw_sI σ a k v) b j = tw_J σ b j := rfl
theorem tw_J_sJ (σ : tw_S) (a k b j : Nat) (v : Int64) : tw_J (tw_sJ σ a k v) b j = if b = a then (if j = k then v else tw_J σ b j) else tw_J σ b j := rfl
theorem tw_J_sA (σ : tw_S) (a b j : Nat) (f : Nat → Int32) : tw_J (tw_sA σ a f) b j = tw_J σ b j := rfl
theorem tw_J_sB (σ : tw_S) (a b j : Nat) (f : Nat → Int64) : tw_J (tw_sB σ a f) b j = tw_J σ b j := rfl
theorem tw_A_sI (σ : tw_S) (a k b : Nat) (v : Int32) : tw_A (tw_sI σ a k v) b = tw_A σ b := rfl
theorem tw_A_sJ (σ : tw_S) (a k b : Nat) (v : Int64) : tw_A (tw_sJ σ a k v) b = tw_A σ b := rfl
theorem tw_A_sA (σ : tw_S) (a b : Nat) (f : Nat → Int32) : tw_A (tw_sA σ a f) b = if b = a then f else tw_A σ b := rfl
theorem tw_A_sB (σ : tw_S) (a b : Nat) (f : Nat → Int64) : tw_A (tw_sB σ a f) b = tw_A σ b := rfl
theorem tw_B_sI (σ : tw_S) (a k b : Nat) (v : Int32) : tw_B (tw_sI σ a k v) b = tw_B σ b := rfl
theorem tw_B_sJ (σ : tw_S) (a k b : Nat) (v : Int64) : tw_B (tw_sJ σ a k v) b = tw_B σ b := rfl
theorem tw_B_sA (σ : tw_S) (a b : Nat) (f : Nat → Int32) : tw_B (tw_sA σ a f) b = tw_B σ b := rfl
theorem tw_B_sB (σ : tw_S) (a b : Nat) (f : Nat → Int64) : tw_B (tw_sB σ a f) b = if b = a then f else tw_B σ b := rfl
/-! the pool's shape, which no method changes once the constructors are through: addresses, kinds, references, lengths, rows of references, array classes -/
abbrev tw_G : Type := List Nat × (Nat → Nat) × (Nat → Nat → Nat) × (Nat → Nat) × (Nat → Nat → Nat) × (Nat → ClassId)
def tw_L (g : tw_G) : List Nat := g.1
def tw_K (g : tw_G) (a : Nat) : Nat := g.2.1 a
def tw_R (g : tw_G) (a k : Nat) : Nat := g.2.2.1 a k
def tw_N (g : tw_G) (a : Nat) : Nat := g.2.2.2.1 a
def tw_E (g : tw_G) (a j : Nat) : Nat := g.2.2.2.2.1 a j
def tw_C (g : tw_G) (i : Nat) : ClassId := g.2.2.2.2.2 i
def tw_is (g : tw_G) (c a : Nat) : Prop := a ∈ tw_L g ∧ tw_K g a = c
def tw_fl (g : tw_G) (σ : tw_S) (a : Nat) (c : Nat) : List Value := match c with
  | 0 => [.ref (tw_R g a 0), .ref (tw_R g a 1)]
  | 1 => [.ref (tw_R g a 0), .ref (tw_R g a 1), .ref (tw_R g a 2), .int (tw_I σ a 3), .int (tw_I σ a 4), .int (tw_I σ a 5), .int (tw_I σ a 6)]
  | 2 => [.ref (tw_R g a 0), .int (tw_I σ a 1), .int (tw_I σ a 2)]
  | 3 => [.ref (tw_R g a 0), .int (tw_I σ a 1), .long (tw_J σ a 2)]
  | 4 => [.ref (tw_R g a 0), .ref (tw_R g a 1), .int (tw_I σ a 2)]
  | 5 => [.ref (tw_R g a 0), .ref (tw_R g a 1), .ref (tw_R g a 2), .ref (tw_R g a 3), .ref (tw_R g a 4), .ref (tw_R g a 5), .ref (tw_R g a 6), .ref (tw_R g a 7), .ref (tw_R g a 8), .ref (tw_R g a 9), .ref (tw_R g a 10), .ref (tw_R g a 11), .int (tw_I σ a 12), .int (tw_I σ a 13), .int (tw_I σ a 14), .int (tw_I σ a 15)]
  | 6 => [.ref (tw_R g a 0), .int (tw_I σ a 1), .int (tw_I σ a 2), .int (tw_I σ a 3)]
  | 7 => [.ref (tw_R g a 0), .int (tw_I σ a 1)]
  | 8 => [.ref (tw_R g a 0), .ref (tw_R g a 1), .ref (tw_R g a 2), .ref (tw_R g a 3), .ref (tw_R g a 4), .ref (tw_R g a 5), .ref (tw_R g a 6), .ref (tw_R g a 7), .ref (tw_R g a 8), .ref (tw_R g a 9), .ref (tw_R g a 10), .ref (tw_R g a 11), .int (tw_I σ a 12)]
  | _ => [.ref (tw_R g a 0), .ref (tw_R g a 1), .int (tw_I σ a 2), .int (tw_I σ a 3), .int (tw_I σ a 4), .int (tw_I σ a 5), .ref (tw_R g a 6), .int (tw_I σ a 7), .ref (tw_R g a 8), .int (tw_I σ a 9), .long (tw_J σ a 10), .ref (tw_R g a 11), .int (tw_I σ a 12), .ref (tw_R g a 13), .int (tw_I σ a 14), .int (tw_I σ a 15), .int (tw_I σ a 16), .ref (tw_R g a 17), .ref (tw_R g a 18), .int (tw_I σ a 19), .ref (tw_R g a 20), .ref (tw_R g a 21), .ref (tw_R g a 22), .ref (tw_R g a 23), .ref (tw_R g a 24), .ref (tw_R g a 25), .ref (tw_R g a 26), .ref (tw_R g a 27), .ref (tw_R g a 28), .ref (tw_R g a 29), .ref (tw_R g a 30), .ref (tw_R g a 31), .ref (tw_R g a 32), .ref (tw_R g a 33), .ref (tw_R g a 34), .int (tw_I σ a 35)]
def tw_e (g : tw_G) (σ : tw_S) (a : Nat) : va_E :=
  if tw_K g a < 10 then .inr (tw_K g a, tw_fl g σ a (tw_K g a)) else if tw_K g a = 10 then .inl (tw_C g 0, tw_N g a, .inl (tw_A σ a)) else if tw_K g a = 11 then .inl (tw_C g 1, tw_N g a, .inr (.inl (tw_B σ a))) else if tw_K g a = 12 then .inl (tw_C g 2, tw_N g a, .inl (tw_A σ a)) else .inl (tw_C g 3, tw_N g a, .inr (.inr (.inr (.inr (fun j => some (tw_E g a j))))))
def tw_pl (g : tw_G) (σ : tw_S) : va_W := va_pl (tw_L g) (tw_e g σ)
def tw_ty (g : tw_G) : List (ClassId × FieldType) := [(tw_C g 0, .int), (tw_C g 1, .long), (tw_C g 2, .boolean), (tw_C g 3, .object "TwoWays$Both")]
theorem tw_e_o {g : tw_G} {σ : tw_S} {a c : Nat} (h : tw_is g c a) (hc : c < 10) : tw_e g σ a = .inr (c, tw_fl g σ a c) := by
  obtain ⟨-, rfl⟩ := h
  simp [tw_e, hc]
theorem tw_e_i {g : tw_G} {σ : tw_S} {a : Nat} (h : tw_is g 10 a) : tw_e g σ a = .inl (tw_C g 0, tw_N g a, .inl (tw_A σ a)) := by simp [tw_e, h.2]
theorem tw_e_j {g : tw_G} {σ : tw_S} {a : Nat} (h : tw_is g 11 a) : tw_e g σ a = .inl (tw_C g 1, tw_N g a, .inr (.inl (tw_B σ a))) := by simp [tw_e, h.2]
theorem tw_e_z {g : tw_G} {σ : tw_S} {a : Nat} (h : tw_is g 12 a) : tw_e g σ a = .inl (tw_C g 2, tw_N g a, .inl (tw_A σ a)) := by simp [tw_e, h.2]
theorem tw_e_r {g : tw_G} {σ : tw_S} {a : Nat} (h : tw_is g 13 a) : tw_e g σ a = .inl (tw_C g 3, tw_N g a, .inr (.inr (.inr (.inr (fun j => some (tw_E g a j)))))) := by simp [tw_e, h.2]
theorem tw_fl_same {g : tw_G} {σ τ : tw_S} {a : Nat} (h1 : ∀ k, tw_I τ a k = tw_I σ a k) (h2 : ∀ k, tw_J τ a k = tw_J σ a k) (c : Nat) : tw_fl g τ a c = tw_fl g σ a c := by
  simp only [tw_fl, h1, h2]
theorem tw_e_same {g : tw_G} {σ τ : tw_S} {a : Nat} (h1 : ∀ k, tw_I τ a k = tw_I σ a k) (h2 : ∀ k, tw_J τ a k = tw_J σ a k) (h3 : tw_A τ a = tw_A σ a) (h4 : tw_B τ a = tw_B σ a) : tw_e g τ a = tw_e g σ a := by
  simp only [tw_e, tw_fl_same h1 h2, h3, h4]
theorem tw_at {g : tw_G} {σ : tw_S} {a c : Nat} (h : tw_is g c a) : ∃ k : Nat, (tw_pl g σ)[k]? = some (a, tw_e g σ a) := va_pl_get (X := []) h.1
theorem tw_set {g : tw_G} {σ τ : tw_S} {A : Nat → Prop} {a c k : Nat} {e : va_E} (hD : va_D A (tw_pl g σ)) (h : tw_is g c a) (hk : (tw_pl g σ)[k]? = some (a, tw_e g σ a)) (he : tw_e g τ a = e) (ho : ∀ b, b ≠ a → tw_e g τ b = tw_e g σ b) : (tw_pl g σ).set k (a, e) = tw_pl g τ := by
  have h1 := va_pl_set (X := []) (e := e) hD h.1 hk
  refine h1.trans (va_pl_congr fun b => ?_)
  by_cases hb : b = a
  · rw [hb, va_up_self, he]
  · rw [va_up_ne _ _ hb, ho b hb]
theorem tw_o_sI {g : tw_G} {σ : tw_S} {a k : Nat} {v : Int32} : ∀ b, b ≠ a → tw_e g (tw_sI σ a k v) b = tw_e g σ b := fun b hb => tw_e_same (fun j => by rw [tw_I_sI, if_neg hb]) (fun j => rfl) rfl rfl
theorem tw_o_sJ {g : tw_G} {σ : tw_S} {a k : Nat} {v : Int64} : ∀ b, b ≠ a → tw_e g (tw_sJ σ a k v) b = tw_e g σ b := fun b hb => tw_e_same (fun j => rfl) (fun j => by rw [tw_J_sJ, if_neg hb]) rfl rfl
theorem tw_o_sA {g : tw_G} {σ : tw_S} {a : Nat} {f : Nat → Int32} : ∀ b, b ≠ a → tw_e g (tw_sA σ a f) b = tw_e g σ b := fun b hb => tw_e_same (fun j => rfl) (fun j => rfl) (by rw [tw_A_sA, if_neg hb]) rfl
theorem tw_o_sB {g : tw_G} {σ : tw_S} {a : Nat} {f : Nat → Int64} : ∀ b, b ≠ a → tw_e g (tw_sB σ a f) b = tw_e g σ b := fun b hb => tw_e_same (fun j => rfl) (fun j => rfl) rfl (by rw [tw_B_sB, if_neg hb])
theorem tw_f_1_3 (g : tw_G) (σ : tw_S) (a : Nat) (v : Int32) : tw_fl g (tw_sI σ a 3 v) a 1 = (tw_fl g σ a 1).set 3 (.int v) := by simp [tw_fl, tw_I_sI, tw_I_sJ, tw_J_sI, tw_J_sJ]
theorem tw_f_1_4 (g : tw_G) (σ : tw_S) (a : Nat) (v : Int32) : tw_fl g (tw_sI σ a 4 v) a 1 = (tw_fl g σ a 1).set 4 (.int v) := by simp [tw_fl, tw_I_sI, tw_I_sJ, tw_J_sI, tw_J_sJ]
theorem tw_f_1_5 (g : tw_G) (σ : tw_S) (a : Nat) (v : Int32) : tw_fl g (tw_sI σ a 5 v) a 1 = (tw_fl g σ a 1).set 5 (.int v) := by simp [tw_fl, tw_I_sI, tw_I_sJ, tw_J_sI, tw_J_sJ]
theorem tw_f_1_6 (g : tw_G) (σ : tw_S) (a : Nat) (v : Int32) : tw_fl g (tw_sI σ a 6 v) a 1 = (tw_fl g σ a 1).set 6 (.int v) := by simp [tw_fl, tw_I_sI, tw_I_sJ, tw_J_sI, tw_J_sJ]
theorem tw_f_2_1 (g : tw_G) (σ : tw_S) (a : Nat) (v : Int32) : tw_fl g (tw_sI σ a 1 v) a 2 = (tw_fl g σ a 2).set 1 (.int v) := by simp [tw_fl, tw_I_sI, tw_I_sJ, tw_J_sI, tw_J_sJ]
theorem tw_f_2_2 (g : tw_G) (σ : tw_S) (a : Nat) (v : Int32) : tw_fl g (tw_sI σ a 2 v) a 2 = (tw_fl g σ a 2).set 2 (.int v) := by simp [tw_fl, tw_I_sI, tw_I_sJ, tw_J_sI, tw_J_sJ]
theorem tw_f_3_1 (g : tw_G) (σ : tw_S) (a : Nat) (v : Int32) : tw_fl g (tw_sI σ a 1 v) a 3 = (tw_fl g σ a 3).set 1 (.int v) := by simp [tw_fl, tw_I_sI, tw_I_sJ, tw_J_sI, tw_J_sJ]
theorem tw_f_3_2 (g : tw_G) (σ : tw_S) (a : Nat) (v : Int64) : tw_fl g (tw_sJ σ a 2 v) a 3 = (tw_fl g σ a 3).set 2 (.long v) := by simp [tw_fl, tw_I_sI, tw_I_sJ, tw_J_sI, tw_J_sJ]
theorem tw_f_4_2 (g : tw_G) (σ : tw_S) (a : Nat) (v : Int32) : tw_fl g (tw_sI σ a 2 v) a 4 = (tw_fl g σ a 4).set 2 (.int v) := by simp [tw_fl, tw_I_sI, tw_I_sJ, tw_J_sI, tw_J_sJ]
theorem tw_f_5_12 (g : tw_G) (σ : tw_S) (a : Nat) (v : Int32) : tw_fl g (tw_sI σ a 12 v) a 5 = (tw_fl g σ a 5).set 12 (.int v) := by simp [tw_fl, tw_I_sI, tw_I_sJ, tw_J_sI, tw_J_sJ]
theorem tw_f_5_13 (g : tw_G) (σ : tw_S) (a : Nat) (v : Int32) : tw_fl g (tw_sI σ a 13 v) a 5 = (tw_fl g σ a 5).set 13 (.int v) := by simp [tw_fl, tw_I_sI, tw_I_sJ, tw_J_sI, tw_J_sJ]
theorem tw_f_5_14 (g : tw_G) (σ : tw_S) (a : Nat) (v : Int32) : tw_fl g (tw_sI σ a 14 v) a 5 = (tw_fl g σ a 5).set 14 (.int v) := by simp [tw_fl, tw_I_sI, tw_I_sJ, tw_J_sI, tw_J_sJ]
theorem tw_f_5_15 (g : tw_G) (σ : tw_S) (a : Nat) (v : Int32) : tw_fl g (tw_sI σ a 15 v) a 5 = (tw_fl g σ a 5).set 15 (.int v) := by simp [tw_fl, tw_I_sI, tw_I_sJ, tw_J_sI, tw_J_sJ]
theorem tw_f_6_1 (g : tw_G) (σ : tw_S) (a : Nat) (v : Int32) : tw_fl g (tw_sI σ a 1 v) a 6 = (tw_fl g σ a 6).set 1 (.int v) := by simp [tw_fl, tw_I_sI, tw_I_sJ, tw_J_sI, tw_J_sJ]
theorem tw_f_6_2 (g : tw_G) (σ : tw_S) (a : Nat) (v : Int32) : tw_fl g (tw_sI σ a 2 v) a 6 = (tw_fl g σ a 6).set 2 (.int v) := by simp [tw_fl, tw_I_sI, tw_I_sJ, tw_J_sI, tw_J_sJ]
theorem tw_f_6_3 (g : tw_G) (σ : tw_S) (a : Nat) (v : Int32) : tw_fl g (tw_sI σ a 3 v) a 6 = (tw_fl g σ a 6).set 3 (.int v) := by simp [tw_fl, tw_I_sI, tw_I_sJ, tw_J_sI, tw_J_sJ]
theorem tw_f_7_1 (g : tw_G) (σ : tw_S) (a : Nat) (v : Int32) : tw_fl g (tw_sI σ a 1 v) a 7 = (tw_fl g σ a 7).set 1 (.int v) := by simp [tw_fl, tw_I_sI, tw_I_sJ, tw_J_sI, tw_J_sJ]
theorem tw_f_8_12 (g : tw_G) (σ : tw_S) (a : Nat) (v : Int32) : tw_fl g (tw_sI σ a 12 v) a 8 = (tw_fl g σ a 8).set 12 (.int v) := by simp [tw_fl, tw_I_sI, tw_I_sJ, tw_J_sI, tw_J_sJ]
theorem tw_f_9_2 (g : tw_G) (σ : tw_S) (a : Nat) (v : Int32) : tw_fl g (tw_sI σ a 2 v) a 9 = (tw_fl g σ a 9).set 2 (.int v) := by simp [tw_fl, tw_I_sI, tw_I_sJ, tw_J_sI, tw_J_sJ]
theorem tw_f_9_3 (g : tw_G) (σ : tw_S) (a : Nat) (v : Int32) : tw_fl g (tw_sI σ a 3 v) a 9 = (tw_fl g σ a 9).set 3 (.int v) := by simp [tw_fl, tw_I_sI, tw_I_sJ, tw_J_sI, tw_J_sJ]
theorem tw_f_9_4 (g : tw_G) (σ : tw_S) (a : Nat) (v : Int32) : tw_fl g (tw_sI σ a 4 v) a 9 = (tw_fl g σ a 9).set 4 (.int v) := by simp [tw_fl, tw_I_sI, tw_I_sJ, tw_J_sI, tw_J_sJ]
theorem tw_f_9_5 (g : tw_G) (σ : tw_S) (a : Nat) (v : Int32) : tw_fl g (tw_sI σ a 5 v) a 9 = (tw_fl g σ a 9).set 5 (.int v) := by simp [tw_fl, tw_I_sI, tw_I_sJ, tw_J_sI, tw_J_sJ]
theorem tw_f_9_7 (g : tw_G) (σ : tw_S) (a : Nat) (v : Int32) : tw_fl g (tw_sI σ a 7 v) a 9 = (tw_fl g σ a 9).set 7 (.int v) := by simp [tw_fl, tw_I_sI, tw_I_sJ, tw_J_sI, tw_J_sJ]
theorem tw_f_9_9 (g : tw_G) (σ : tw_S) (a : Nat) (v : Int32) : tw_fl g (tw_sI σ a 9 v) a 9 = (tw_fl g σ a 9).set 9 (.int v) := by simp [tw_fl, tw_I_sI, tw_I_sJ, tw_J_sI, tw_J_sJ]
theorem tw_f_9_10 (g : tw_G) (σ : tw_S) (a : Nat) (v : Int64) : tw_fl g (tw_sJ σ a 10 v) a 9 = (tw_fl g σ a 9).set 10 (.long v) := by simp [tw_fl, tw_I_sI, tw_I_sJ, tw_J_sI, tw_J_sJ]
theorem tw_f_9_12 (g : tw_G) (σ : tw_S) (a : Nat) (v : Int32) : tw_fl g (tw_sI σ a 12 v) a 9 = (tw_fl g σ a 9).set 12 (.int v) := by simp [tw_fl, tw_I_sI, tw_I_sJ, tw_J_sI, tw_J_sJ]
theorem tw_f_9_14 (g : tw_G) (σ : tw_S) (a : Nat) (v : Int32) : tw_fl g (tw_sI σ a 14 v) a 9 = (tw_fl g σ a 9).set 14 (.int v) := by simp [tw_fl, tw_I_sI, tw_I_sJ, tw_J_sI, tw_J_sJ]
theorem tw_f_9_15 (g : tw_G) (σ : tw_S) (a : Nat) (v : Int32) : tw_fl g (tw_sI σ a 15 v) a 9 = (tw_fl g σ a 9).set 15 (.int v) := by simp [tw_fl, tw_I_sI, tw_I_sJ, tw_J_sI, tw_J_sJ]
theorem tw_f_9_16 (g : tw_G) (σ : tw_S) (a : Nat) (v : Int32) : tw_fl g (tw_sI σ a 16 v) a 9 = (tw_fl g σ a 9).set 16 (.int v) := by simp [tw_fl, tw_I_sI, tw_I_sJ, tw_J_sI, tw_J_sJ]
theorem tw_f_9_19 (g : tw_G) (σ : tw_S) (a : Nat) (v : Int32) : tw_fl g (tw_sI σ a 19 v) a 9 = (tw_fl g σ a 9).set 19 (.int v) := by simp [tw_fl, tw_I_sI, tw_I_sJ, tw_J_sI, tw_J_sJ]
theorem tw_f_9_35 (g : tw_G) (σ : tw_S) (a : Nat) (v : Int32) : tw_fl g (tw_sI σ a 35 v) a 9 = (tw_fl g σ a 9).set 35 (.int v) := by simp [tw_fl, tw_I_sI, tw_I_sJ, tw_J_sI, tw_J_sJ]
/-! what the references of the pool are: kinds, and lengths of rows -/
def tw_tl : List (Nat × Nat × Nat × Nat) := [(0, 0, 3, 0), (0, 1, 3, 0), (1, 0, 10, 26), (1, 1, 10, 104), (1, 2, 10, 104), (2, 0, 13, 8), (3, 0, 10, 16), (4, 0, 11, 22500), (4, 1, 10, 704), (5, 0, 3, 0), (5, 1, 10, 750), (5, 2, 10, 5), (5, 3, 10, 3125), (5, 4, 10, 300), (5, 5, 12, 150), (5, 6, 10, 150), (5, 7, 10, 150), (5, 8, 10, 150), (5, 9, 10, 150), (5, 10, 10, 150), (5, 11, 10, 150), (6, 0, 10, 240), (7, 0, 10, 24), (8, 0, 0, 0), (8, 1, 2, 0), (8, 2, 13, 2), (8, 3, 12, 2), (8, 4, 6, 0), (8, 5, 3, 0), (8, 6, 7, 0), (8, 7, 7, 0), (8, 8, 1, 0), (8, 9, 5, 0), (8, 10, 5, 0), (8, 11, 4, 0), (9, 0, 10, 34), (9, 1, 10, 240), (9, 6, 10, 17), (9, 8, 10, 272), (9, 11, 10, 24), (9, 13, 10, 26), (9, 17, 10, 128), (9, 18, 10, 128), (9, 20, 10, 2), (9, 21, 10, 1510), (9, 22, 10, 604), (9, 23, 10, 302), (9, 24, 10, 302), (9, 25, 10, 5), (9, 26, 10, 151), (9, 27, 10, 151), (9, 28, 10, 151), (9, 29, 10, 151), (9, 30, 10, 22500), (9, 31, 10, 22500), (9, 32, 10, 22500), (9, 33, 10, 24), (9, 34, 10, 68)]
def tw_T (g : tw_G) : Prop := (∀ q ∈ tw_tl, ∀ a, tw_is g q.1 a → tw_is g q.2.2.1 (tw_R g a q.2.1) ∧ (q.2.2.2 ≠ 0 → tw_N g (tw_R g a q.2.1) = q.2.2.2)) ∧ ∀ a j, tw_is g 13 a → j < tw_N g a → tw_is g 0 (tw_E g a j)
theorem tw_t_0_0 {g : tw_G} (h : tw_T g) {a : Nat} (ha : tw_is g 0 a) : tw_is g 3 (tw_R g a 0) := (h.1 (0, 0, 3, 0) (List.mem_of_getElem? (i := 0) rfl) a ha).1
theorem tw_t_0_1 {g : tw_G} (h : tw_T g) {a : Nat} (ha : tw_is g 0 a) : tw_is g 3 (tw_R g a 1) := (h.1 (0, 1, 3, 0) (List.mem_of_getElem? (i := 1) rfl) a ha).1
theorem tw_t_1_0 {g : tw_G} (h : tw_T g) {a : Nat} (ha : tw_is g 1 a) : tw_is g 10 (tw_R g a 0) := (h.1 (1, 0, 10, 26) (List.mem_of_getElem? (i := 2) rfl) a ha).1
theorem tw_n_1_0 {g : tw_G} (h : tw_T g) {a : Nat} (ha : tw_is g 1 a) : tw_N g (tw_R g a 0) = 26 := (h.1 (1, 0, 10, 26) (List.mem_of_getElem? (i := 2) rfl) a ha).2 (by decide)
theorem tw_t_1_1 {g : tw_G} (h : tw_T g) {a : Nat} (ha : tw_is g 1 a) : tw_is g 10 (tw_R g a 1) := (h.1 (1, 1, 10, 104) (List.mem_of_getElem? (i := 3) rfl) a ha).1
theorem tw_n_1_1 {g : tw_G} (h : tw_T g) {a : Nat} (ha : tw_is g 1 a) : tw_N g (tw_R g a 1) = 104 := (h.1 (1, 1, 10, 104) (List.mem_of_getElem? (i := 3) rfl) a ha).2 (by decide)
theorem tw_t_1_2 {g : tw_G} (h : tw_T g) {a : Nat} (ha : tw_is g 1 a) : tw_is g 10 (tw_R g a 2) := (h.1 (1, 2, 10, 104) (List.mem_of_getElem? (i := 4) rfl) a ha).1
theorem tw_n_1_2 {g : tw_G} (h : tw_T g) {a : Nat} (ha : tw_is g 1 a) : tw_N g (tw_R g a 2) = 104 := (h.1 (1, 2, 10, 104) (List.mem_of_getElem? (i := 4) rfl) a ha).2 (by decide)
theorem tw_t_2_0 {g : tw_G} (h : tw_T g) {a : Nat} (ha : tw_is g 2 a) : tw_is g 13 (tw_R g a 0) := (h.1 (2, 0, 13, 8) (List.mem_of_getElem? (i := 5) rfl) a ha).1
theorem tw_n_2_0 {g : tw_G} (h : tw_T g) {a : Nat} (ha : tw_is g 2 a) : tw_N g (tw_R g a 0) = 8 := (h.1 (2, 0, 13, 8) (List.mem_of_getElem? (i := 5) rfl) a ha).2 (by decide)
theorem tw_t_3_0 {g : tw_G} (h : tw_T g) {a : Nat} (ha : tw_is g 3 a) : tw_is g 10 (tw_R g a 0) := (h.1 (3, 0, 10, 16) (List.mem_of_getElem? (i := 6) rfl) a ha).1
theorem tw_n_3_0 {g : tw_G} (h : tw_T g) {a : Nat} (ha : tw_is g 3 a) : tw_N g (tw_R g a 0) = 16 := (h.1 (3, 0, 10, 16) (List.mem_of_getElem? (i := 6) rfl) a ha).2 (by decide)
theorem tw_t_4_0 {g : tw_G} (h : tw_T g) {a : Nat} (ha : tw_is g 4 a) : tw_is g 11 (tw_R g a 0) := (h.1 (4, 0, 11, 22500) (List.mem_of_getElem? (i := 7) rfl) a ha).1
theorem tw_n_4_0 {g : tw_G} (h : tw_T g) {a : Nat} (ha : tw_is g 4 a) : tw_N g (tw_R g a 0) = 22500 := (h.1 (4, 0, 11, 22500) (List.mem_of_getElem? (i := 7) rfl) a ha).2 (by decide)
theorem tw_t_4_1 {g : tw_G} (h : tw_T g) {a : Nat} (ha : tw_is g 4 a) : tw_is g 10 (tw_R g a 1) := (h.1 (4, 1, 10, 704) (List.mem_of_getElem? (i := 8) rfl) a ha).1
theorem tw_n_4_1 {g : tw_G} (h : tw_T g) {a : Nat} (ha : tw_is g 4 a) : tw_N g (tw_R g a 1) = 704 := (h.1 (4, 1, 10, 704) (List.mem_of_getElem? (i := 8) rfl) a ha).2 (by decide)
theorem tw_t_5_0 {g : tw_G} (h : tw_T g) {a : Nat} (ha : tw_is g 5 a) : tw_is g 3 (tw_R g a 0) := (h.1 (5, 0, 3, 0) (List.mem_of_getElem? (i := 9) rfl) a ha).1
theorem tw_t_5_1 {g : tw_G} (h : tw_T g) {a : Nat} (ha : tw_is g 5 a) : tw_is g 10 (tw_R g a 1) := (h.1 (5, 1, 10, 750) (List.mem_of_getElem? (i := 10) rfl) a ha).1
theorem tw_n_5_1 {g : tw_G} (h : tw_T g) {a : Nat} (ha : tw_is g 5 a) : tw_N g (tw_R g a 1) = 750 := (h.1 (5, 1, 10, 750) (List.mem_of_getElem? (i := 10) rfl) a ha).2 (by decide)
theorem tw_t_5_2 {g : tw_G} (h : tw_T g) {a : Nat} (ha : tw_is g 5 a) : tw_is g 10 (tw_R g a 2) := (h.1 (5, 2, 10, 5) (List.mem_of_getElem? (i := 11) rfl) a ha).1
theorem tw_n_5_2 {g : tw_G} (h : tw_T g) {a : Nat} (ha : tw_is g 5 a) : tw_N g (tw_R g a 2) = 5 := (h.1 (5, 2, 10, 5) (List.mem_of_getElem? (i := 11) rfl) a ha).2 (by decide)
theorem tw_t_5_3 {g : tw_G} (h : tw_T g) {a : Nat} (ha : tw_is g 5 a) : tw_is g 10 (tw_R g a 3) := (h.1 (5, 3, 10, 3125) (List.mem_of_getElem? (i := 12) rfl) a ha).1
theorem tw_n_5_3 {g : tw_G} (h : tw_T g) {a : Nat} (ha : tw_is g 5 a) : tw_N g (tw_R g a 3) = 3125 := (h.1 (5, 3, 10, 3125) (List.mem_of_getElem? (i := 12) rfl) a ha).2 (by decide)
theorem tw_t_5_4 {g : tw_G} (h : tw_T g) {a : Nat} (ha : tw_is g 5 a) : tw_is g 10 (tw_R g a 4) := (h.1 (5, 4, 10, 300) (List.mem_of_getElem? (i := 13) rfl) a ha).1
theorem tw_n_5_4 {g : tw_G} (h : tw_T g) {a : Nat} (ha : tw_is g 5 a) : tw_N g (tw_R g a 4) = 300 := (h.1 (5, 4, 10, 300) (List.mem_of_getElem? (i := 13) rfl) a ha).2 (by decide)
theorem tw_t_5_5 {g : tw_G} (h : tw_T g) {a : Nat} (ha : tw_is g 5 a) : tw_is g 12 (tw_R g a 5) := (h.1 (5, 5, 12, 150) (List.mem_of_getElem? (i := 14) rfl) a ha).1
theorem tw_n_5_5 {g : tw_G} (h : tw_T g) {a : Nat} (ha : tw_is g 5 a) : tw_N g (tw_R g a 5) = 150 := (h.1 (5, 5, 12, 150) (List.mem_of_getElem? (i := 14) rfl) a ha).2 (by decide)
theorem tw_t_5_6 {g : tw_G} (h : tw_T g) {a : Nat} (ha : tw_is g 5 a) : tw_is g 10 (tw_R g a 6) := (h.1 (5, 6, 10, 150) (List.mem_of_getElem? (i := 15) rfl) a ha).1
theorem tw_n_5_6 {g : tw_G} (h : tw_T g) {a : Nat} (ha : tw_is g 5 a) : tw_N g (tw_R g a 6) = 150 := (h.1 (5, 6, 10, 150) (List.mem_of_getElem? (i := 15) rfl) a ha).2 (by decide)
theorem tw_t_5_7 {g : tw_G} (h : tw_T g) {a : Nat} (ha : tw_is g 5 a) : tw_is g 10 (tw_R g a 7) := (h.1 (5, 7, 10, 150) (List.mem_of_getElem? (i := 16) rfl) a ha).1
theorem tw_n_5_7 {g : tw_G} (h : tw_T g) {a : Nat} (ha : tw_is g 5 a) : tw_N g (tw_R g a 7) = 150 := (h.1 (5, 7, 10, 150) (List.mem_of_getElem? (i := 16) rfl) a ha).2 (by decide)
theorem tw_t_5_8 {g : tw_G} (h : tw_T g) {a : Nat} (ha : tw_is g 5 a) : tw_is g 10 (tw_R g a 8) := (h.1 (5, 8, 10, 150) (List.mem_of_getElem? (i := 17) rfl) a ha).1
theorem tw_n_5_8 {g : tw_G} (h : tw_T g) {a : Nat} (ha : tw_is g 5 a) : tw_N g (tw_R g a 8) = 150 := (h.1 (5, 8, 10, 150) (List.mem_of_getElem? (i := 17) rfl) a ha).2 (by decide)
theorem tw_t_5_9 {g : tw_G} (h : tw_T g) {a : Nat} (ha : tw_is g 5 a) : tw_is g 10 (tw_R g a 9) := (h.1 (5, 9, 10, 150) (List.mem_of_getElem? (i := 18) rfl) a ha).1
theorem tw_n_5_9 {g : tw_G} (h : tw_T g) {a : Nat} (ha : tw_is g 5 a) : tw_N g (tw_R g a 9) = 150 := (h.1 (5, 9, 10, 150) (List.mem_of_getElem? (i := 18) rfl) a ha).2 (by decide)
theorem tw_t_5_10 {g : tw_G} (h : tw_T g) {a : Nat} (ha : tw_is g 5 a) : tw_is g 10 (tw_R g a 10) := (h.1 (5, 10, 10, 150) (List.mem_of_getElem? (i := 19) rfl) a ha).1
theorem tw_n_5_10 {g : tw_G} (h : tw_T g) {a : Nat} (ha : tw_is g 5 a) : tw_N g (tw_R g a 10) = 150 := (h.1 (5, 10, 10, 150) (List.mem_of_getElem? (i := 19) rfl) a ha).2 (by decide)
theorem tw_t_5_11 {g : tw_G} (h : tw_T g) {a : Nat} (ha : tw_is g 5 a) : tw_is g 10 (tw_R g a 11) := (h.1 (5, 11, 10, 150) (List.mem_of_getElem? (i := 20) rfl) a ha).1
theorem tw_n_5_11 {g : tw_G} (h : tw_T g) {a : Nat} (ha : tw_is g 5 a) : tw_N g (tw_R g a 11) = 150 := (h.1 (5, 11, 10, 150) (List.mem_of_getElem? (i := 20) rfl) a ha).2 (by decide)
theorem tw_t_6_0 {g : tw_G} (h : tw_T g) {a : Nat} (ha : tw_is g 6 a) : tw_is g 10 (tw_R g a 0) := (h.1 (6, 0, 10, 240) (List.mem_of_getElem? (i := 21) rfl) a ha).1
theorem tw_n_6_0 {g : tw_G} (h : tw_T g) {a : Nat} (ha : tw_is g 6 a) : tw_N g (tw_R g a 0) = 240 := (h.1 (6, 0, 10, 240) (List.mem_of_getElem? (i := 21) rfl) a ha).2 (by decide)
theorem tw_t_7_0 {g : tw_G} (h : tw_T g) {a : Nat} (ha : tw_is g 7 a) : tw_is g 10 (tw_R g a 0) := (h.1 (7, 0, 10, 24) (List.mem_of_getElem? (i := 22) rfl) a ha).1
theorem tw_n_7_0 {g : tw_G} (h : tw_T g) {a : Nat} (ha : tw_is g 7 a) : tw_N g (tw_R g a 0) = 24 := (h.1 (7, 0, 10, 24) (List.mem_of_getElem? (i := 22) rfl) a ha).2 (by decide)
theorem tw_t_8_0 {g : tw_G} (h : tw_T g) {a : Nat} (ha : tw_is g 8 a) : tw_is g 0 (tw_R g a 0) := (h.1 (8, 0, 0, 0) (List.mem_of_getElem? (i := 23) rfl) a ha).1
theorem tw_t_8_1 {g : tw_G} (h : tw_T g) {a : Nat} (ha : tw_is g 8 a) : tw_is g 2 (tw_R g a 1) := (h.1 (8, 1, 2, 0) (List.mem_of_getElem? (i := 24) rfl) a ha).1
theorem tw_t_8_2 {g : tw_G} (h : tw_T g) {a : Nat} (ha : tw_is g 8 a) : tw_is g 13 (tw_R g a 2) := (h.1 (8, 2, 13, 2) (List.mem_of_getElem? (i := 25) rfl) a ha).1
theorem tw_n_8_2 {g : tw_G} (h : tw_T g) {a : Nat} (ha : tw_is g 8 a) : tw_N g (tw_R g a 2) = 2 := (h.1 (8, 2, 13, 2) (List.mem_of_getElem? (i := 25) rfl) a ha).2 (by decide)
theorem tw_t_8_3 {g : tw_G} (h : tw_T g) {a : Nat} (ha : tw_is g 8 a) : tw_is g 12 (tw_R g a 3) := (h.1 (8, 3, 12, 2) (List.mem_of_getElem? (i := 26) rfl) a ha).1
theorem tw_n_8_3 {g : tw_G} (h : tw_T g) {a : Nat} (ha : tw_is g 8 a) : tw_N g (tw_R g a 3) = 2 := (h.1 (8, 3, 12, 2) (List.mem_of_getElem? (i := 26) rfl) a ha).2 (by decide)
theorem tw_t_8_4 {g : tw_G} (h : tw_T g) {a : Nat} (ha : tw_is g 8 a) : tw_is g 6 (tw_R g a 4) := (h.1 (8, 4, 6, 0) (List.mem_of_getElem? (i := 27) rfl) a ha).1
theorem tw_t_8_5 {g : tw_G} (h : tw_T g) {a : Nat} (ha : tw_is g 8 a) : tw_is g 3 (tw_R g a 5) := (h.1 (8, 5, 3, 0) (List.mem_of_getElem? (i := 28) rfl) a ha).1
theorem tw_t_8_6 {g : tw_G} (h : tw_T g) {a : Nat} (ha : tw_is g 8 a) : tw_is g 7 (tw_R g a 6) := (h.1 (8, 6, 7, 0) (List.mem_of_getElem? (i := 29) rfl) a ha).1
theorem tw_t_8_7 {g : tw_G} (h : tw_T g) {a : Nat} (ha : tw_is g 8 a) : tw_is g 7 (tw_R g a 7) := (h.1 (8, 7, 7, 0) (List.mem_of_getElem? (i := 30) rfl) a ha).1
theorem tw_t_8_8 {g : tw_G} (h : tw_T g) {a : Nat} (ha : tw_is g 8 a) : tw_is g 1 (tw_R g a 8) := (h.1 (8, 8, 1, 0) (List.mem_of_getElem? (i := 31) rfl) a ha).1
theorem tw_t_8_9 {g : tw_G} (h : tw_T g) {a : Nat} (ha : tw_is g 8 a) : tw_is g 5 (tw_R g a 9) := (h.1 (8, 9, 5, 0) (List.mem_of_getElem? (i := 32) rfl) a ha).1
theorem tw_t_8_10 {g : tw_G} (h : tw_T g) {a : Nat} (ha : tw_is g 8 a) : tw_is g 5 (tw_R g a 10) := (h.1 (8, 10, 5, 0) (List.mem_of_getElem? (i := 33) rfl) a ha).1
theorem tw_t_8_11 {g : tw_G} (h : tw_T g) {a : Nat} (ha : tw_is g 8 a) : tw_is g 4 (tw_R g a 11) := (h.1 (8, 11, 4, 0) (List.mem_of_getElem? (i := 34) rfl) a ha).1
theorem tw_t_9_0 {g : tw_G} (h : tw_T g) {a : Nat} (ha : tw_is g 9 a) : tw_is g 10 (tw_R g a 0) := (h.1 (9, 0, 10, 34) (List.mem_of_getElem? (i := 35) rfl) a ha).1
theorem tw_n_9_0 {g : tw_G} (h : tw_T g) {a : Nat} (ha : tw_is g 9 a) : tw_N g (tw_R g a 0) = 34 := (h.1 (9, 0, 10, 34) (List.mem_of_getElem? (i := 35) rfl) a ha).2 (by decide)
theorem tw_t_9_1 {g : tw_G} (h : tw_T g) {a : Nat} (ha : tw_is g 9 a) : tw_is g 10 (tw_R g a 1) := (h.1 (9, 1, 10, 240) (List.mem_of_getElem? (i := 36) rfl) a ha).1
theorem tw_n_9_1 {g : tw_G} (h : tw_T g) {a : Nat} (ha : tw_is g 9 a) : tw_N g (tw_R g a 1) = 240 := (h.1 (9, 1, 10, 240) (List.mem_of_getElem? (i := 36) rfl) a ha).2 (by decide)
theorem tw_t_9_6 {g : tw_G} (h : tw_T g) {a : Nat} (ha : tw_is g 9 a) : tw_is g 10 (tw_R g a 6) := (h.1 (9, 6, 10, 17) (List.mem_of_getElem? (i := 37) rfl) a ha).1
theorem tw_n_9_6 {g : tw_G} (h : tw_T g) {a : Nat} (ha : tw_is g 9 a) : tw_N g (tw_R g a 6) = 17 := (h.1 (9, 6, 10, 17) (List.mem_of_getElem? (i := 37) rfl) a ha).2 (by decide)
theorem tw_t_9_8 {g : tw_G} (h : tw_T g) {a : Nat} (ha : tw_is g 9 a) : tw_is g 10 (tw_R g a 8) := (h.1 (9, 8, 10, 272) (List.mem_of_getElem? (i := 38) rfl) a ha).1
theorem tw_n_9_8 {g : tw_G} (h : tw_T g) {a : Nat} (ha : tw_is g 9 a) : tw_N g (tw_R g a 8) = 272 := (h.1 (9, 8, 10, 272) (List.mem_of_getElem? (i := 38) rfl) a ha).2 (by decide)
theorem tw_t_9_11 {g : tw_G} (h : tw_T g) {a : Nat} (ha : tw_is g 9 a) : tw_is g 10 (tw_R g a 11) := (h.1 (9, 11, 10, 24) (List.mem_of_getElem? (i := 39) rfl) a ha).1
theorem tw_n_9_11 {g : tw_G} (h : tw_T g) {a : Nat} (ha : tw_is g 9 a) : tw_N g (tw_R g a 11) = 24 := (h.1 (9, 11, 10, 24) (List.mem_of_getElem? (i := 39) rfl) a ha).2 (by decide)
theorem tw_t_9_13 {g : tw_G} (h : tw_T g) {a : Nat} (ha : tw_is g 9 a) : tw_is g 10 (tw_R g a 13) := (h.1 (9, 13, 10, 26) (List.mem_of_getElem? (i := 40) rfl) a ha).1
theorem tw_n_9_13 {g : tw_G} (h : tw_T g) {a : Nat} (ha : tw_is g 9 a) : tw_N g (tw_R g a 13) = 26 := (h.1 (9, 13, 10, 26) (List.mem_of_getElem? (i := 40) rfl) a ha).2 (by decide)
theorem tw_t_9_17 {g : tw_G} (h : tw_T g) {a : Nat} (ha : tw_is g 9 a) : tw_is g 10 (tw_R g a 17) := (h.1 (9, 17, 10, 128) (List.mem_of_getElem? (i := 41) rfl) a ha).1
theorem tw_n_9_17 {g : tw_G} (h : tw_T g) {a : Nat} (ha : tw_is g 9 a) : tw_N g (tw_R g a 17) = 128 := (h.1 (9, 17, 10, 128) (List.mem_of_getElem? (i := 41) rfl) a ha).2 (by decide)
theorem tw_t_9_18 {g : tw_G} (h : tw_T g) {a : Nat} (ha : tw_is g 9 a) : tw_is g 10 (tw_R g a 18) := (h.1 (9, 18, 10, 128) (List.mem_of_getElem? (i := 42) rfl) a ha).1
theorem tw_n_9_18 {g : tw_G} (h : tw_T g) {a : Nat} (ha : tw_is g 9 a) : tw_N g (tw_R g a 18) = 128 := (h.1 (9, 18, 10, 128) (List.mem_of_getElem? (i := 42) rfl) a ha).2 (by decide)
theorem tw_t_9_20 {g : tw_G} (h : tw_T g) {a : Nat} (ha : tw_is g 9 a) : tw_is g 10 (tw_R g a 20) := (h.1 (9, 20, 10, 2) (List.mem_of_getElem? (i := 43) rfl) a ha).1
theorem tw_n_9_20 {g : tw_G} (h : tw_T g) {a : Nat} (ha : tw_is g 9 a) : tw_N g (tw_R g a 20) = 2 := (h.1 (9, 20, 10, 2) (List.mem_of_getElem? (i := 43) rfl) a ha).2 (by decide)
theorem tw_t_9_21 {g : tw_G} (h : tw_T g) {a : Nat} (ha : tw_is g 9 a) : tw_is g 10 (tw_R g a 21) := (h.1 (9, 21, 10, 1510) (List.mem_of_getElem? (i := 44) rfl) a ha).1
theorem tw_n_9_21 {g : tw_G} (h : tw_T g) {a : Nat} (ha : tw_is g 9 a) : tw_N g (tw_R g a 21) = 1510 := (h.1 (9, 21, 10, 1510) (List.mem_of_getElem? (i := 44) rfl) a ha).2 (by decide)
theorem tw_t_9_22 {g : tw_G} (h : tw_T g) {a : Nat} (ha : tw_is g 9 a) : tw_is g 10 (tw_R g a 22) := (h.1 (9, 22, 10, 604) (List.mem_of_getElem? (i := 45) rfl) a ha).1
theorem tw_n_9_22 {g : tw_G} (h : tw_T g) {a : Nat} (ha : tw_is g 9 a) : tw_N g (tw_R g a 22) = 604 := (h.1 (9, 22, 10, 604) (List.mem_of_getElem? (i := 45) rfl) a ha).2 (by decide)
theorem tw_t_9_23 {g : tw_G} (h : tw_T g) {a : Nat} (ha : tw_is g 9 a) : tw_is g 10 (tw_R g a 23) := (h.1 (9, 23, 10, 302) (List.mem_of_getElem? (i := 46) rfl) a ha).1
theorem tw_n_9_23 {g : tw_G} (h : tw_T g) {a : Nat} (ha : tw_is g 9 a) : tw_N g (tw_R g a 23) = 302 := (h.1 (9, 23, 10, 302) (List.mem_of_getElem? (i := 46) rfl) a ha).2 (by decide)
theorem tw_t_9_24 {g : tw_G} (h : tw_T g) {a : Nat} (ha : tw_is g 9 a) : tw_is g 10 (tw_R g a 24) := (h.1 (9, 24, 10, 302) (List.mem_of_getElem? (i := 47) rfl) a ha).1
theorem tw_n_9_24 {g : tw_G} (h : tw_T g) {a : Nat} (ha : tw_is g 9 a) : tw_N g (tw_R g a 24) = 302 := (h.1 (9, 24, 10, 302) (List.mem_of_getElem? (i := 47) rfl) a ha).2 (by decide)
theorem tw_t_9_25 {g : tw_G} (h : tw_T g) {a : Nat} (ha : tw_is g 9 a) : tw_is g 10 (tw_R g a 25) := (h.1 (9, 25, 10, 5) (List.mem_of_getElem? (i := 48) rfl) a ha).1
theorem tw_n_9_25 {g : tw_G} (h : tw_T g) {a : Nat} (ha : tw_is g 9 a) : tw_N g (tw_R g a 25) = 5 := (h.1 (9, 25, 10, 5) (List.mem_of_getElem? (i := 48) rfl) a ha).2 (by decide)
theorem tw_t_9_26 {g : tw_G} (h : tw_T g) {a : Nat} (ha : tw_is g 9 a) : tw_is g 10 (tw_R g a 26) := (h.1 (9, 26, 10, 151) (List.mem_of_getElem? (i := 49) rfl) a ha).1
theorem tw_n_9_26 {g : tw_G} (h : tw_T g) {a : Nat} (ha : tw_is g 9 a) : tw_N g (tw_R g a 26) = 151 := (h.1 (9, 26, 10, 151) (List.mem_of_getElem? (i := 49) rfl) a ha).2 (by decide)
theorem tw_t_9_27 {g : tw_G} (h : tw_T g) {a : Nat} (ha : tw_is g 9 a) : tw_is g 10 (tw_R g a 27) := (h.1 (9, 27, 10, 151) (List.mem_of_getElem? (i := 50) rfl) a ha).1
theorem tw_n_9_27 {g : tw_G} (h : tw_T g) {a : Nat} (ha : tw_is g 9 a) : tw_N g (tw_R g a 27) = 151 := (h.1 (9, 27, 10, 151) (List.mem_of_getElem? (i := 50) rfl) a ha).2 (by decide)
theorem tw_t_9_28 {g : tw_G} (h : tw_T g) {a : Nat} (ha : tw_is g 9 a) : tw_is g 10 (tw_R g a 28) := (h.1 (9, 28, 10, 151) (List.mem_of_getElem? (i := 51) rfl) a ha).1
theorem tw_n_9_28 {g : tw_G} (h : tw_T g) {a : Nat} (ha : tw_is g 9 a) : tw_N g (tw_R g a 28) = 151 := (h.1 (9, 28, 10, 151) (List.mem_of_getElem? (i := 51) rfl) a ha).2 (by decide)
theorem tw_t_9_29 {g : tw_G} (h : tw_T g) {a : Nat} (ha : tw_is g 9 a) : tw_is g 10 (tw_R g a 29) := (h.1 (9, 29, 10, 151) (List.mem_of_getElem? (i := 52) rfl) a ha).1
theorem tw_n_9_29 {g : tw_G} (h : tw_T g) {a : Nat} (ha : tw_is g 9 a) : tw_N g (tw_R g a 29) = 151 := (h.1 (9, 29, 10, 151) (List.mem_of_getElem? (i := 52) rfl) a ha).2 (by decide)
theorem tw_t_9_30 {g : tw_G} (h : tw_T g) {a : Nat} (ha : tw_is g 9 a) : tw_is g 10 (tw_R g a 30) := (h.1 (9, 30, 10, 22500) (List.mem_of_getElem? (i := 53) rfl) a ha).1
theorem tw_n_9_30 {g : tw_G} (h : tw_T g) {a : Nat} (ha : tw_is g 9 a) : tw_N g (tw_R g a 30) = 22500 := (h.1 (9, 30, 10, 22500) (List.mem_of_getElem? (i := 53) rfl) a ha).2 (by decide)
theorem tw_t_9_31 {g : tw_G} (h : tw_T g) {a : Nat} (ha : tw_is g 9 a) : tw_is g 10 (tw_R g a 31) := (h.1 (9, 31, 10, 22500) (List.mem_of_getElem? (i := 54) rfl) a ha).1
theorem tw_n_9_31 {g : tw_G} (h : tw_T g) {a : Nat} (ha : tw_is g 9 a) : tw_N g (tw_R g a 31) = 22500 := (h.1 (9, 31, 10, 22500) (List.mem_of_getElem? (i := 54) rfl) a ha).2 (by decide)
theorem tw_t_9_32 {g : tw_G} (h : tw_T g) {a : Nat} (ha : tw_is g 9 a) : tw_is g 10 (tw_R g a 32) := (h.1 (9, 32, 10, 22500) (List.mem_of_getElem? (i := 55) rfl) a ha).1
theorem tw_n_9_32 {g : tw_G} (h : tw_T g) {a : Nat} (ha : tw_is g 9 a) : tw_N g (tw_R g a 32) = 22500 := (h.1 (9, 32, 10, 22500) (List.mem_of_getElem? (i := 55) rfl) a ha).2 (by decide)
theorem tw_t_9_33 {g : tw_G} (h : tw_T g) {a : Nat} (ha : tw_is g 9 a) : tw_is g 10 (tw_R g a 33) := (h.1 (9, 33, 10, 24) (List.mem_of_getElem? (i := 56) rfl) a ha).1
theorem tw_n_9_33 {g : tw_G} (h : tw_T g) {a : Nat} (ha : tw_is g 9 a) : tw_N g (tw_R g a 33) = 24 := (h.1 (9, 33, 10, 24) (List.mem_of_getElem? (i := 56) rfl) a ha).2 (by decide)
theorem tw_t_9_34 {g : tw_G} (h : tw_T g) {a : Nat} (ha : tw_is g 9 a) : tw_is g 10 (tw_R g a 34) := (h.1 (9, 34, 10, 68) (List.mem_of_getElem? (i := 57) rfl) a ha).1
theorem tw_n_9_34 {g : tw_G} (h : tw_T g) {a : Nat} (ha : tw_is g 9 a) : tw_N g (tw_R g a 34) = 68 := (h.1 (9, 34, 10, 68) (List.mem_of_getElem? (i := 57) rfl) a ha).2 (by decide)
theorem tw_t_13 {g : tw_G} (h : tw_T g) {a j : Nat} (ha : tw_is g 13 a) (hj : j < tw_N g a) : tw_is g 0 (tw_E g a j) := h.2 a j ha hj
/-! the words of nest links (they are no good words: they go from a caller to its callee by the contract's start) -/
def tw_nl : List (String × Nat × MethodName) := [(RX8, 11, yX0_init), (RX8, 33, yX6_init), (RX8, 47, yX7_init), (RX8, 57, yX1_init), (RX8, 64, yX5_init), (RX8, 74, yX4_init), (RX1, 63, yX8_stateOf), (RX1, 66, yX8_shift), (RX2, 17, yX0_init), (RX3, 25, yX8_isSign), (RX4, 49, yX8_lengthen), (RX5, 120, yX8_sideOf), (RX5, 123, yX8_stateOf), (RX5, 89, yX8_lengthen)]
def tw_k (D : va_G) (g : tw_G) (U : State) : Prop := va_K D vwCl (tw_ty g) U ∧ ∀ q ∈ tw_nl, va_Nw (.methodLinkNest q.1 q.2.1 q.2.2 "TwoWays") U
theorem tw_k.moved {D : va_G} {g : tw_G} {s U : State} (hW : s.WarmedH U.vm) (h : tw_k D g s) : tw_k D g U := ⟨va_K.moved hW.alike h.1, fun q hq => va_Nw.warmM hW (h.2 q hq)⟩
theorem tw_k.call {D : va_G} {g : tw_G} {U : State} {f : JFrame} {mk : MethodId} {a : Array Value} (h : tw_k D g U) : tw_k D g (U.calling f mk a) := ⟨va_K.moved (u := U) (U := U.calling f mk a) (Vm.Alike.refl U.vm) h.1, fun q hq => va_Nw.same rfl (u := U) (U := U.calling f mk a) rfl (h.2 q hq)⟩
/-! the world in a walk: the pool in the heap, apart; nothing else written since the start -/
def tw_w (D : va_G) (g : tw_G) (A : Nat → Prop) (s : State) (σ : tw_S) (H : Heap) (locs : List Loc) : Prop := va_P D vwCl (tw_pl g σ) H ∧ va_D A (tw_pl g σ) ∧ va_S A s.heap H locs ∧ ∀ q : Nat, s.heap.size ≤ q → A q
def tw_F (g : tw_G) (sz : Nat) : Nat → Prop := fun q => q ∈ tw_L g ∨ sz ≤ q
/-- what a contract's start asks of the state -/
def tw_b (D : va_G) (g : tw_G) (sz : Nat) (σ : tw_S) (U : State) : Prop := U.heap.size = sz ∧ va_P D vwCl (tw_pl g σ) U.heap ∧ tw_k D g U ∧ va_D (fun _ => True) (tw_pl g σ)
/-- what a contract's end says of it -/
def tw_z (D : va_G) (g : tw_G) (sz : Nat) (σ : tw_S) (t : State) : Prop := va_P D vwCl (tw_pl g σ) t.heap ∧ va_D (tw_F g sz) (tw_pl g σ)
abbrev tw_Mi (l : Launch) (y : MethodName) (ws : List Cond) (rm : Room) (D : va_G) (g : tw_G) (sz : Nat) (σ : tw_S) (av : List Value) (Q : Int32 → tw_S → Prop) : Prop := Met l y ws rm (va_Pc av (tw_b D g sz σ)) (va_Qi Q (tw_z D g sz) (tw_F g sz)) 0 0 (tw_F g sz)
abbrev tw_Mv (l : Launch) (y : MethodName) (ws : List Cond) (rm : Room) (D : va_G) (g : tw_G) (sz : Nat) (σ : tw_S) (av : List Value) (Q : tw_S → Prop) : Prop := Met l y ws rm (va_Pc av (tw_b D g sz σ)) (va_Qv Q (tw_z D g sz) (tw_F g sz)) 0 0 (tw_F g sz)
abbrev tw_Mq (l : Launch) (y : MethodName) (ws : List Cond) (rm : Room) (D : va_G) (g : tw_G) (sz : Nat) (σ : tw_S) (av : List Value) (Q : Option Nat → tw_S → Prop) : Prop := Met l y ws rm (va_Pc av (tw_b D g sz σ)) (va_Qq Q (tw_z D g sz) (tw_F g sz)) 0 0 (tw_F g sz)
theorem tw_D_in {g : tw_G} {σ : tw_S} {A : Nat → Prop} (h : va_D A (tw_pl g σ)) {a : Nat} (ha : a ∈ tw_L g) : A a := by
  obtain ⟨k, hk⟩ := va_pl_get (X := []) (f := tw_e g σ) ha
  exact h.2 k _ hk
theorem tw_pl_in {g : tw_G} {σ : tw_S} {k : Nat} {q : Nat × va_E} (h : (tw_pl g σ)[k]? = some q) : q.1 ∈ tw_L g := by
  have h1 := List.mem_of_getElem? h
  simp only [tw_pl, va_pl, List.mem_map] at h1
  obtain ⟨a, ha, rfl⟩ := h1
  exact ha
theorem tw_w0 {D : va_G} {g : tw_G} {s : State} {σ : tw_S} (hP : va_P D vwCl (tw_pl g σ) s.heap) (hD : va_D (fun _ => True) (tw_pl g σ)) : tw_w D g (tw_F g s.heap.size) s σ s.heap [] :=
  ⟨hP, hD.weaken (fun k q hk _ => Or.inl (tw_pl_in hk)), va_S.rf, fun _ h => Or.inr h⟩
section TWR
variable {p : Program} {l : Launch} {e : Env} {R : Room} {s : State} {m : MethodId} {args : Array Value} {below : List Frame} {meth : Method} {c : Code} {H : Heap} {locs : List Loc} {cells slots : Nat} {Q : State → Prop} {cc : ByteArray} {nL : Nat} {Ts : List Cond} {own : String} {D : va_G} {g : tw_G} {A : Nat → Prop} {σ : tw_S} {pc : Nat} {ls : Array Slot} {rest : List Value} {a : Nat}
theorem tw_get (X : CallFix p m c cc nL s args Ts own) (hK : tw_k D g s) (w : tw_w D g A s σ H locs) {C : String} {T : u_T} {N index : Nat} (ci : Nat) (hin : ∀ w ∈ u_ws C T N, w ∈ Ts) (ha : tw_is g ci a) (h10 : ci < 10) (hc : vwCl[ci]? = some (C, T, N)) (k : Nat) (hk : k < N) (hlink : Cond.fieldLink own index (T k).1 (T k).2.1 (T k).2.2.1 ∈ Ts) {v : Value} (hv : (tw_fl g σ a ci)[k]? = some v) (hdg : decode cc pc = .ok (.getfield index, 3))
    (kk : W p l e R s m args below meth c H locs cells slots Q (F0 m (pc + 3) ls (v :: rest))) : W p l e R s m args below meth c H locs cells slots Q (F0 m pc ls (.ref a :: rest)) := by
  obtain ⟨hx, hb, hml, hown, hts⟩ := X
  obtain ⟨q0, h0⟩ := tw_at (σ := σ) ha
  rw [tw_e_o ha h10] at h0
  exact va_get hx hb hts hin hown hK.1 w.1 q0 h0 hc k hk (hts _ hlink) (fun _ h => h) hv hdg kk
theorem tw_putI (X : CallFix p m c cc nL s args Ts own) (hK : tw_k D g s) (w : tw_w D g A s σ H locs) {C : String} {T : u_T} {N index : Nat} (ci : Nat) (hin : ∀ w ∈ u_ws C T N, w ∈ Ts) (ty0 : Nat → FieldType) (hty : ∀ k, k < N → parseFieldDescriptor (T k).2.2.1 = some (ty0 k)) (hnm : ∀ a, a < N → ∀ b, b < N → a ≠ b → (T a).2.1 ≠ (T b).2.1) (ha : tw_is g ci a) (h10 : ci < 10) (hc : vwCl[ci]? = some (C, T, N)) (k : Nat) (hk : k < N) (hlink : Cond.fieldLink own index (T k).1 (T k).2.1 (T k).2.2.1 ∈ Ts) (hfin : (T k).2.2.2 = false) {ty : FieldType} {v : Int32} (hd : parseFieldDescriptor (T k).2.2.1 = some ty) (hn : narrow ty (.int v) = .int v) (hfit : fits ty (.int v) = true) (hl : k < (tw_fl g σ a ci).length) (hf : tw_fl g (tw_sI σ a k v) a ci = (tw_fl g σ a ci).set k (.int v)) (hdg : decode cc pc = .ok (.putfield index, 3))
    (kk : ∀ (τ : tw_S) (H : Heap) (locs : List Loc), τ = tw_sI σ a k v → tw_w D g A s τ H locs → W p l e R s m args below meth c H locs cells slots Q (F0 m (pc + 3) ls rest)) : W p l e R s m args below meth c H locs cells slots Q (F0 m pc ls (.int v :: .ref a :: rest)) := by
  obtain ⟨hx, hb, hml, hown, hts⟩ := X
  obtain ⟨hP, hD, hS, hA⟩ := w
  obtain ⟨q0, h0⟩ := tw_at (σ := σ) ha
  have he := tw_set (τ := tw_sI σ a k v) (e := .inr (ci, (tw_fl g σ a ci).set k (.int v))) hD ha h0 (by rw [tw_e_o ha h10, hf]) tw_o_sI
  rw [tw_e_o ha h10] at h0
  refine va_put hx hb hts hin ty0 hty hnm hown hK.1 hP hD hS q0 h0 hc k hk (hts _ hlink) (fun _ h => h) hfin hd hn hfit hl hdg fun H1 locs1 hP1 hD1 hS1 => ?_
  rw [he] at hP1 hD1
  exact kk _ H1 locs1 rfl ⟨hP1, hD1, hS1, hA⟩
theorem tw_putJ (X : CallFix p m c cc nL s args Ts own) (hK : tw_k D g s) (w : tw_w D g A s σ H locs) {C : String} {T : u_T} {N index : Nat} (ci : Nat) (hin : ∀ w ∈ u_ws C T N, w ∈ Ts) (ty0 : Nat → FieldType) (hty : ∀ k, k < N → parseFieldDescriptor (T k).2.2.1 = some (ty0 k)) (hnm : ∀ a, a < N → ∀ b, b < N → a ≠ b → (T a).2.1 ≠ (T b).2.1) (ha : tw_is g ci a) (h10 : ci < 10) (hc : vwCl[ci]? = some (C, T, N)) (k : Nat) (hk : k < N) (hlink : Cond.fieldLink own index (T k).1 (T k).2.1 (T k).2.2.1 ∈ Ts) (hfin : (T k).2.2.2 = false) {ty : FieldType} {v : Int64} (hd : parseFieldDescriptor (T k).2.2.1 = some ty) (hn : narrow ty (.long v) = .long v) (hfit : fits ty (.long v) = true) (hl : k < (tw_fl g σ a ci).length) (hf : tw_fl g (tw_sJ σ a k v) a ci = (tw_fl g σ a ci).set k (.long v)) (hdg : decode cc pc = .ok (.putfield index, 3))
    (kk : ∀ (τ : tw_S) (H : Heap) (locs : List Loc), τ = tw_sJ σ a k v → tw_w D g A s τ H locs → W p l e R s m args below meth c H locs cells slots Q (F0 m (pc + 3) ls rest)) : W p l e R s m args below meth c H locs cells slots Q (F0 m pc ls (.long v :: .ref a :: rest)) := by
  obtain ⟨hx, hb, hml, hown, hts⟩ := X
  obtain ⟨hP, hD, hS, hA⟩ := w
  obtain ⟨q0, h0⟩ := tw_at (σ := σ) ha
  have he := tw_set (τ := tw_sJ σ a k v) (e := .inr (ci, (tw_fl g σ a ci).set k (.long v))) hD ha h0 (by rw [tw_e_o ha h10, hf]) tw_o_sJ
  rw [tw_e_o ha h10] at h0
  refine va_put hx hb hts hin ty0 hty hnm hown hK.1 hP hD hS q0 h0 hc k hk (hts _ hlink) (fun _ h => h) hfin hd hn hfit hl hdg fun H1 locs1 hP1 hD1 hS1 => ?_
  rw [he] at hP1 hD1
  exact kk _ H1 locs1 rfl ⟨hP1, hD1, hS1, hA⟩
theorem tw_iald (X : CallFix p m c cc nL s args Ts own) (hK : tw_k D g s) (w : tw_w D g A s σ H locs) (ha : tw_is g 10 a) {n : Nat} (hn : tw_N g a = n) {i : Int32} (hi : vp_in i n) (hdg : decode cc pc = .ok (.iaload, 1))
    (kk : W p l e R s m args below meth c H locs cells slots Q (F0 m (pc + 1) ls (.int (tw_A σ a i.toNatClampNeg) :: rest))) : W p l e R s m args below meth c H locs cells slots Q (F0 m pc ls (.int i :: .ref a :: rest)) := by
  obtain ⟨hx, hb, hml, hown, hts⟩ := X
  obtain ⟨q0, h0⟩ := tw_at (σ := σ) ha
  rw [tw_e_i ha, hn] at h0
  exact va_iald hx hb hK.1 w.1 q0 0 h0 rfl hi hdg kk
theorem tw_zald (X : CallFix p m c cc nL s args Ts own) (hK : tw_k D g s) (w : tw_w D g A s σ H locs) (ha : tw_is g 12 a) {n : Nat} (hn : tw_N g a = n) {i : Int32} (hi : vp_in i n) (hdg : decode cc pc = .ok (.baload, 1))
    (kk : W p l e R s m args below meth c H locs cells slots Q (F0 m (pc + 1) ls (.int (tw_A σ a i.toNatClampNeg) :: rest))) : W p l e R s m args below meth c H locs cells slots Q (F0 m pc ls (.int i :: .ref a :: rest)) := by
  obtain ⟨hx, hb, hml, hown, hts⟩ := X
  obtain ⟨q0, h0⟩ := tw_at (σ := σ) ha
  rw [tw_e_z ha, hn] at h0
  exact va_zald hx hb hK.1 w.1 q0 2 h0 rfl hi hdg kk
theorem tw_lald (X : CallFix p m c cc nL s args Ts own) (hK : tw_k D g s) (w : tw_w D g A s σ H locs) (ha : tw_is g 11 a) {n : Nat} (hn : tw_N g a = n) {i : Int32} (hi : vp_in i n) (hdg : decode cc pc = .ok (.laload, 1))
    (kk : W p l e R s m args below meth c H locs cells slots Q (F0 m (pc + 1) ls (.long (tw_B σ a i.toNatClampNeg) :: rest))) : W p l e R s m args below meth c H locs cells slots Q (F0 m pc ls (.int i :: .ref a :: rest)) := by
  obtain ⟨hx, hb, hml, hown, hts⟩ := X
  obtain ⟨q0, h0⟩ := tw_at (σ := σ) ha
  rw [tw_e_j ha, hn] at h0
  exact va_lald hx hb hK.1 w.1 q0 1 h0 rfl hi hdg kk
theorem tw_aald (X : CallFix p m c cc nL s args Ts own) (hK : tw_k D g s) (w : tw_w D g A s σ H locs) (ha : tw_is g 13 a) {n : Nat} (hn : tw_N g a = n) {i : Int32} (hi : vp_in i n) (hdg : decode cc pc = .ok (.aaload, 1))
    (kk : W p l e R s m args below meth c H locs cells slots Q (F0 m (pc + 1) ls (.ref (tw_E g a i.toNatClampNeg) :: rest))) : W p l e R s m args below meth c H locs cells slots Q (F0 m pc ls (.int i :: .ref a :: rest)) := by
  obtain ⟨hx, hb, hml, hown, hts⟩ := X
  obtain ⟨q0, h0⟩ := tw_at (σ := σ) ha
  rw [tw_e_r ha, hn] at h0
  exact va_aldq hx hb hK.1 w.1 q0 3 h0 rfl hi hdg kk
theorem tw_iast (X : CallFix p m c cc nL s args Ts own) (hK : tw_k D g s) (w : tw_w D g A s σ H locs) (ha : tw_is g 10 a) {n : Nat} (hn : tw_N g a = n) {i x : Int32} (hi : vp_in i n) (hdg : decode cc pc = .ok (.iastore, 1))
    (kk : ∀ (τ : tw_S) (H : Heap) (locs : List Loc), τ = tw_sA σ a (upd (tw_A σ a) i.toNatClampNeg x) → tw_w D g A s τ H locs → W p l e R s m args below meth c H locs cells slots Q (F0 m (pc + 1) ls rest)) : W p l e R s m args below meth c H locs cells slots Q (F0 m pc ls (.int x :: .int i :: .ref a :: rest)) := by
  obtain ⟨hx, hb, hml, hown, hts⟩ := X
  obtain ⟨hP, hD, hS, hA⟩ := w
  obtain ⟨q0, h0⟩ := tw_at (σ := σ) ha
  have he := tw_set (τ := tw_sA σ a (upd (tw_A σ a) i.toNatClampNeg x)) (e := .inl (tw_C g 0, tw_N g a, .inl (upd (tw_A σ a) i.toNatClampNeg x))) hD ha h0 (by rw [tw_e_i ha, tw_A_sA, if_pos rfl]) tw_o_sA
  rw [tw_e_i ha] at h0
  refine va_iast hx hb hK.1 hP hD hS q0 0 h0 rfl (by rw [hn]; exact hi) hdg fun H1 locs1 hP1 hD1 hS1 => ?_
  rw [he] at hP1 hD1
  exact kk _ H1 locs1 rfl ⟨hP1, hD1, hS1, hA⟩
theorem tw_zast (X : CallFix p m c cc nL s args Ts own) (hK : tw_k D g s) (w : tw_w D g A s σ H locs) (ha : tw_is g 12 a) {n : Nat} (hn : tw_N g a = n) {i x : Int32} (hi : vp_in i n) (hdg : decode cc pc = .ok (.bastore, 1))
    (kk : ∀ (τ : tw_S) (H : Heap) (locs : List Loc), τ = tw_sA σ a (upd (tw_A σ a) i.toNatClampNeg (vp_nar .boolean x)) → tw_w D g A s τ H locs → W p l e R s m args below meth c H locs cells slots Q (F0 m (pc + 1) ls rest)) : W p l e R s m args below meth c H locs cells slots Q (F0 m pc ls (.int x :: .int i :: .ref a :: rest)) := by
  obtain ⟨hx, hb, hml, hown, hts⟩ := X
  obtain ⟨hP, hD, hS, hA⟩ := w
  obtain ⟨q0, h0⟩ := tw_at (σ := σ) ha
  have he := tw_set (τ := tw_sA σ a (upd (tw_A σ a) i.toNatClampNeg (vp_nar .boolean x))) (e := .inl (tw_C g 2, tw_N g a, .inl (upd (tw_A σ a) i.toNatClampNeg (vp_nar .boolean x)))) hD ha h0 (by rw [tw_e_z ha, tw_A_sA, if_pos rfl]) tw_o_sA
  rw [tw_e_z ha] at h0
  refine va_zast hx hb hK.1 hP hD hS q0 2 h0 rfl (by rw [hn]; exact hi) hdg fun H1 locs1 hP1 hD1 hS1 => ?_
  rw [he] at hP1 hD1
  exact kk _ H1 locs1 rfl ⟨hP1, hD1, hS1, hA⟩
theorem tw_last (X : CallFix p m c cc nL s args Ts own) (hK : tw_k D g s) (w : tw_w D g A s σ H locs) (ha : tw_is g 11 a) {n : Nat} (hn : tw_N g a = n) {i : Int32} {x : Int64} (hi : vp_in i n) (hdg : decode cc pc = .ok (.lastore, 1))
    (kk : ∀ (τ : tw_S) (H : Heap) (locs : List Loc), τ = tw_sB σ a (vp_updL (tw_B σ a) i.toNatClampNeg x) → tw_w D g A s τ H locs → W p l e R s m args below meth c H locs cells slots Q (F0 m (pc + 1) ls rest)) : W p l e R s m args below meth c H locs cells slots Q (F0 m pc ls (.long x :: .int i :: .ref a :: rest)) := by
  obtain ⟨hx, hb, hml, hown, hts⟩ := X
  obtain ⟨hP, hD, hS, hA⟩ := w
  obtain ⟨q0, h0⟩ := tw_at (σ := σ) ha
  have he := tw_set (τ := tw_sB σ a (vp_updL (tw_B σ a) i.toNatClampNeg x)) (e := .inl (tw_C g 1, tw_N g a, .inr (.inl (vp_updL (tw_B σ a) i.toNatClampNeg x)))) hD ha h0 (by rw [tw_e_j ha, tw_B_sB, if_pos rfl]) tw_o_sB
  rw [tw_e_j ha] at h0
  refine va_last hx hb hK.1 hP hD hS q0 1 h0 rfl (by rw [hn]; exact hi) hdg fun H1 locs1 hP1 hD1 hS1 => ?_
  rw [he] at hP1 hD1
  exact kk _ H1 locs1 rfl ⟨hP1, hD1, hS1, hA⟩
theorem tw_alen (X : CallFix p m c cc nL s args Ts own) (hK : tw_k D g s) (w : tw_w D g A s σ H locs) (ha : tw_is g 10 a) {n : Nat} (hn : tw_N g a = n) {v : Int32} (hv : nI n = v) (hdg : decode cc pc = .ok (.arraylength, 1))
    (kk : W p l e R s m args below meth c H locs cells slots Q (F0 m (pc + 1) ls (.int v :: rest))) : W p l e R s m args below meth c H locs cells slots Q (F0 m pc ls (.ref a :: rest)) := by
  obtain ⟨hx, hb, hml, hown, hts⟩ := X
  obtain ⟨q0, h0⟩ := tw_at (σ := σ) ha
  rw [tw_e_i ha, hn] at h0
  exact va_alen hx hb hK.1 w.1 q0 0 h0 rfl hv hdg kk
theorem tw_copy (X : CallFix p m c cc nL s args Ts own) (hK : tw_k D g s) (w : tw_w D g A s σ H locs) (hsz : ls.size = nL) {index : Nat} (hlink : Cond.methodLink own index arraycopyName ∈ Ts) (hnat : Cond.native arraycopyName ∈ Ts) (hstat : Cond.static arraycopyName ∈ Ts) (hini : Cond.initialized "java/lang/System" ∈ Ts)
    {a0 n0 n1 : Nat} (ha0 : tw_is g 10 a0) (hn0 : tw_N g a0 = n0) (ha1 : tw_is g 10 a) (hn1 : tw_N g a = n1) {sp dp n : Int32} (h1 : ¬ sp < 0) (h2 : ¬ dp < 0) (h3 : ¬ n < 0) (h4 : sp.toNatClampNeg + n.toNatClampNeg ≤ n0) (h5 : dp.toNatClampNeg + n.toNatClampNeg ≤ n1)
    (hframes : 1 ≤ R.frames) (hlocals : (rest.map fun v => v.category).sum + (nativeFrameWords "java/lang/System" "arraycopy" 5 + 11) ≤ R.locals) (hdg : decode cc pc = .ok (.invokestatic index, 3))
    (kk : ∀ (τ : tw_S) (H : Heap) (locs : List Loc), τ = tw_sA σ a (va_cpy (tw_A σ a0) (tw_A σ a) sp.toNatClampNeg dp.toNatClampNeg n.toNatClampNeg) → tw_w D g A s τ H locs → W p l e R s m args below meth c H locs cells slots Q (F0 m (pc + 3) ls rest)) : W p l e R s m args below meth c H locs cells slots Q (F0 m pc ls (.int n :: .int dp :: .ref a :: .int sp :: .ref a0 :: rest)) := by
  obtain ⟨hx, hb, hml, hown, hts⟩ := X
  obtain ⟨hP, hD, hS, hA⟩ := w
  obtain ⟨q0, h0⟩ := tw_at (σ := σ) ha0
  obtain ⟨q1, hq1⟩ := tw_at (σ := σ) ha1
  have he := tw_set (τ := tw_sA σ a (va_cpy (tw_A σ a0) (tw_A σ a) sp.toNatClampNeg dp.toNatClampNeg n.toNatClampNeg)) (e := .inl (tw_C g 0, tw_N g a, .inl (va_cpy (tw_A σ a0) (tw_A σ a) sp.toNatClampNeg dp.toNatClampNeg n.toNatClampNeg))) hD ha1 hq1 (by rw [tw_e_i ha1, tw_A_sA, if_pos rfl]) tw_o_sA
  rw [tw_e_i ha0] at h0
  rw [tw_e_i ha1] at hq1
  refine va_copyi hx hb (hml.trans hsz.symm) hown (hts _ hlink) (hts _ hnat) (hts _ hstat) (hts _ hini) hK.1 hP hD hS q0 q1 0 0 h0 hq1 rfl rfl rfl h1 h2 h3 (by rw [hn0]; exact h4) (by rw [hn1]; exact h5) (fun _ _ => rfl) hframes hlocals hdg fun H1 locs1 hP1 hD1 hS1 => ?_
  rw [he] at hP1 hD1
  exact kk _ H1 locs1 rfl ⟨hP1, hD1, hS1, hA⟩
/-! what a call needs of the world, and what it leaves -/
theorem tw_blind {av : List Value} {sz : Nat} : FrameBlind (va_Pc av (tw_b D g sz σ)) := by
  intro v U f mk q
  obtain ⟨q0, q1, qP, qK, qD⟩ := q
  exact ⟨q0, q1, qP, qK.call, qD⟩
theorem tw_pre (hK : tw_k D g s) (w : tw_w D g A s σ H locs) (av : List Value) : PreS s H (va_Pc av (tw_b D g H.size σ)) av :=
  ⟨tw_blind, fun U hU hW => ⟨rfl, by rw [hU], by rw [hU]; exact w.1, hK.moved hW, w.2.1.weaken (fun _ _ _ _ => trivial)⟩⟩
theorem tw_preV (hK : tw_k D g s) (w : tw_w D g A s σ H locs) {ci : Nat} {q : vw_C} (ha : tw_is g ci a) (h10 : ci < 10) (hc : vwCl[ci]? = some q) (av : List Value) : PreV s H q.1 a (va_Pc (.ref a :: av) (tw_b D g H.size σ)) av := by
  obtain ⟨q0, h0⟩ := tw_at (σ := σ) ha
  rw [tw_e_o ha h10] at h0
  exact ⟨tw_blind, va_recv hK.1 w.1 hc h0, (tw_pre hK w (.ref a :: av)).2⟩
theorem tw_fr (w : tw_w D g A s σ H locs) : ∀ q, tw_F g H.size q → A q := fun q h => h.elim (fun h => tw_D_in w.2.1 h) (fun h => w.2.2.2 q (Nat.le_trans w.2.2.1.1 h))
theorem tw_back {σ1 : tw_S} {H1 : Heap} {locs1 : List Loc} {t : State} (w : tw_w D g A s σ H locs) (ht : t.heap = H1) (hz : tw_z D g H.size σ1 t) (hS : va_S A s.heap H1 locs1) : tw_w D g A s σ1 H1 locs1 :=
  ⟨by rw [← ht]; exact hz.1, hz.2.weaken (fun k q hk _ => tw_D_in w.2.1 (tw_pl_in hk)), hS, w.2.2.2⟩
theorem tw_ci {Qi : Int32 → tw_S → Prop} {st0 : List Value} {av : Array Value} (w : tw_w D g A s σ H locs) (hr : va_Run p l e R s m args below meth c H locs cells slots 0 0 (F0 m pc ls st0) rest (va_Qi Qi (tw_z D g H.size) (tw_F g H.size) av) (tw_F g H.size))
    (kk : ∀ (r : Int32) (σ : tw_S) (H : Heap) (locs : List Loc), Qi r σ → tw_w D g A s σ H locs → W p l e R s m args below meth c H locs cells slots Q (F0 m (pc + 3) ls (.int r :: rest))) : W p l e R s m args below meth c H locs cells slots Q (F0 m pc ls st0) :=
  va_calli hr w.2.2.1 (fun q _ h => tw_fr w q h) (tw_fr w) fun r u t H1 locs1 ht _ hp hz _ _ hS => kk r u H1 locs1 hp (tw_back w ht hz hS)
theorem tw_cv {Qi : tw_S → Prop} {st0 : List Value} {av : Array Value} (w : tw_w D g A s σ H locs) (hr : va_Run p l e R s m args below meth c H locs cells slots 0 0 (F0 m pc ls st0) rest (va_Qv Qi (tw_z D g H.size) (tw_F g H.size) av) (tw_F g H.size))
    (kk : ∀ (σ : tw_S) (H : Heap) (locs : List Loc), Qi σ → tw_w D g A s σ H locs → W p l e R s m args below meth c H locs cells slots Q (F0 m (pc + 3) ls rest)) : W p l e R s m args below meth c H locs cells slots Q (F0 m pc ls st0) :=
  va_callv hr w.2.2.1 (fun q _ h => tw_fr w q h) (tw_fr w) fun u t H1 locs1 ht _ hp hz _ _ hS => kk u H1 locs1 hp (tw_back w ht hz hS)
theorem tw_cq {Qi : Option Nat → tw_S → Prop} {kd : Nat} {st0 : List Value} {av : Array Value} (w : tw_w D g A s σ H locs) (hr : va_Run p l e R s m args below meth c H locs cells slots 0 0 (F0 m pc ls st0) rest (va_Qq (fun r σ => (∀ y, r = some y → tw_is g kd y) ∧ Qi r σ) (tw_z D g H.size) (tw_F g H.size) av) (tw_F g H.size))
    (kn : ∀ (σ : tw_S) (H : Heap) (locs : List Loc), Qi none σ → tw_w D g A s σ H locs → W p l e R s m args below meth c H locs cells slots Q (F0 m (pc + 3) ls (.null :: rest)))
    (ks : ∀ (y : Nat) (σ : tw_S) (H : Heap) (locs : List Loc), tw_is g kd y → Qi (some y) σ → tw_w D g A s σ H locs → W p l e R s m args below meth c H locs cells slots Q (F0 m (pc + 3) ls (.ref y :: rest))) : W p l e R s m args below meth c H locs cells slots Q (F0 m pc ls st0) :=
  va_callq hr w.2.2.1 (fun q _ h => tw_fr w q h) (tw_fr w) fun r u t H1 locs1 ht _ hp hz _ _ hS => by
    cases r with
    | none => exact kn u H1 locs1 hp.2 (tw_back w ht hz hS)
    | some y => exact ks y u H1 locs1 (hp.1 y rfl) hp.2 (tw_back w ht hz hS)
theorem tw_cr {Qi : Nat → tw_S → Prop} {kd : Nat} {st0 : List Value} {av : Array Value} (w : tw_w D g A s σ H locs) (hr : va_Run p l e R s m args below meth c H locs cells slots 0 0 (F0 m pc ls st0) rest (va_Qq (fun r σ => ∃ y, r = some y ∧ tw_is g kd y ∧ Qi y σ) (tw_z D g H.size) (tw_F g H.size) av) (tw_F g H.size))
    (kk : ∀ (y : Nat) (σ : tw_S) (H : Heap) (locs : List Loc), tw_is g kd y → Qi y σ → tw_w D g A s σ H locs → W p l e R s m args below meth c H locs cells slots Q (F0 m (pc + 3) ls (.ref y :: rest))) : W p l e R s m args below meth c H locs cells slots Q (F0 m pc ls st0) :=
  va_callq hr w.2.2.1 (fun q _ h => tw_fr w q h) (tw_fr w) fun r u t H1 locs1 ht _ hp hz _ _ hS => by
    obtain ⟨y, rfl, hy, hp⟩ := hp
    exact kk y u H1 locs1 hy hp (tw_back w ht hz hS)
theorem tw_lt {i : Int32} {n : Nat} (hi : vp_in i n) (hn : tw_N g a = n) : i.toNatClampNeg < tw_N g a := by
  rw [hn]
  exact Nat.not_le.mp fun q => hi (Or.inr q)
/-! ends -/
abbrev tw_Qi (Qi : Int32 → tw_S → Prop) (D : va_G) (g : tw_G) (below : List Frame) (args : Array Value) (s : State) : State → Prop := MQ below (va_Qi Qi (tw_z D g s.heap.size) (tw_F g s.heap.size)) args s 0 0 (tw_F g s.heap.size)
abbrev tw_Qv (Qi : tw_S → Prop) (D : va_G) (g : tw_G) (below : List Frame) (args : Array Value) (s : State) : State → Prop := MQ below (va_Qv Qi (tw_z D g s.heap.size) (tw_F g s.heap.size)) args s 0 0 (tw_F g s.heap.size)
abbrev tw_Qq (Qi : Option Nat → tw_S → Prop) (D : va_G) (g : tw_G) (below : List Frame) (args : Array Value) (s : State) : State → Prop := MQ below (va_Qq Qi (tw_z D g s.heap.size) (tw_F g s.heap.size)) args s 0 0 (tw_F g s.heap.size)
theorem tw_iret {Qi : Int32 → tw_S → Prop} {v : Int32} (X : CallFix p m c cc nL s args Ts own) (hr : meth.sig.returnType = some .int) (hlk : meth.locks = false) (w : tw_w D g (tw_F g s.heap.size) s σ H locs) (h : Qi v σ) (hdg : decode cc pc = .ok (.ireturn, 1)) : W p l e R s m args below meth c H locs 0 0 (tw_Qi Qi D g below args s) (F0 m pc ls [.int v]) :=
  W.iret X.1 X.2.1 hr (fun t ht _ => ⟨⟨v, σ, rfl, h, by rw [ht]; exact w.1, w.2.1⟩, w.2.2.1.F ht⟩) w.2.2.1.2.2 hdg hlk
theorem tw_zret {Qi : Int32 → tw_S → Prop} {v : Int32} (X : CallFix p m c cc nL s args Ts own) (hr : meth.sig.returnType = some .boolean) (hlk : meth.locks = false) (w : tw_w D g (tw_F g s.heap.size) s σ H locs) (hn : narrow .boolean (.int v) = .int v) (h : Qi v σ) (hdg : decode cc pc = .ok (.ireturn, 1)) : W p l e R s m args below meth c H locs 0 0 (tw_Qi Qi D g below args s) (F0 m pc ls [.int v]) :=
  W.zret X.1 X.2.1 hr hn (fun t ht _ => ⟨⟨v, σ, rfl, h, by rw [ht]; exact w.1, w.2.1⟩, w.2.2.1.F ht⟩) w.2.2.1.2.2 hdg hlk
theorem tw_vret {Qi : tw_S → Prop} (X : CallFix p m c cc nL s args Ts own) (hr : meth.sig.returnType = none) (hlk : meth.locks = false) (w : tw_w D g (tw_F g s.heap.size) s σ H locs) (h : Qi σ) (hdg : decode cc pc = .ok (.return_, 1)) : W p l e R s m args below meth c H locs 0 0 (tw_Qv Qi D g below args s) (F0 m pc ls []) :=
  W.vret X.1 X.2.1 hr (fun t ht _ => ⟨⟨σ, rfl, h, by rw [ht]; exact w.1, w.2.1⟩, w.2.2.1.F ht⟩) w.2.2.1.2.2 hdg hlk
theorem tw_qret {Qi : Option Nat → tw_S → Prop} {v : Option Nat} {C : String} (X : CallFix p m c cc nL s args Ts own) (hr : meth.sig.returnType = some (.object C)) (hlk : meth.locks = false) (w : tw_w D g (tw_F g s.heap.size) s σ H locs) (h : Qi v σ) (hdg : decode cc pc = .ok (.areturn, 1)) : W p l e R s m args below meth c H locs 0 0 (tw_Qq Qi D g below args s) (F0 m pc ls [va_rf v]) :=
  W.aret X.1 X.2.1 hr (Or.inl ⟨C, rfl⟩) (by cases v with | none => exact Or.inl rfl | some a => exact Or.inr ⟨a, rfl⟩) (fun t ht _ => ⟨⟨v, σ, rfl, h, by rw [ht]; exact w.1, w.2.1⟩, w.2.2.1.F ht⟩) w.2.2.1.2.2 hdg hlk
end TWR

