/-! ===== a pool of a known skeleton: places 0 .. n - 1 at addresses ad i ===== -/
abbrev tg_K : Type := Nat × List Nat × Nat × List Nat
def tg_d : tg_K := (0, [], 0, [])
def tg_ix (ad : Nat → Nat) : Nat → Nat → Nat
  | 0, _ => 0
  | n + 1, a => if ad n = a then n else tg_ix ad n a
def tg_inj (ad : Nat → Nat) (n : Nat) : Prop := ∀ i j, i < n → j < n → ad i = ad j → i = j
theorem tg_ix_at {ad : Nat → Nat} : ∀ {n i : Nat}, tg_inj ad n → i < n → tg_ix ad n (ad i) = i := by
  intro n
  induction n with
  | zero =>
    intro i _ hi
    exact absurd hi (Nat.not_lt_zero _)
  | succ n ih =>
    intro i hj hi
    simp only [tg_ix]
    by_cases h : ad n = ad i
    · rw [if_pos h]
      exact hj n i (Nat.lt_succ_self n) hi h
    · rw [if_neg h]
      refine ih (fun a b ha hb => hj a b (Nat.lt_succ_of_lt ha) (Nat.lt_succ_of_lt hb)) ?_
      have hne : i ≠ n := fun e => h (by rw [e])
      omega
def tg (sk : List tg_K) (ad : Nat → Nat) (cy : Nat → ClassId) : tw_G := ((List.range sk.length).map ad, fun a => (sk.getD (tg_ix ad sk.length a) tg_d).1, fun a k => ad ((sk.getD (tg_ix ad sk.length a) tg_d).2.1.getD k 0), fun a => (sk.getD (tg_ix ad sk.length a) tg_d).2.2.1, fun a j => ad ((sk.getD (tg_ix ad sk.length a) tg_d).2.2.2.getD j 0), cy)
def tg_s (ini : tw_S) (ad : Nat → Nat) (n : Nat) : tw_S := (fun a k => ini.1 (tg_ix ad n a) k, fun a k => ini.2.1 (tg_ix ad n a) k, fun a => ini.2.2.1 (tg_ix ad n a), fun a => ini.2.2.2 (tg_ix ad n a))
/-- a state that holds what ini tells by places -/
def tg_is (ini : tw_S) (ad : Nat → Nat) (n : Nat) (σ : tw_S) : Prop := ∀ i, i < n → (∀ k, tw_I σ (ad i) k = tw_I ini i k) ∧ (∀ k, tw_J σ (ad i) k = tw_J ini i k) ∧ tw_A σ (ad i) = tw_A ini i ∧ tw_B σ (ad i) = tw_B ini i
theorem tg_s_is {ini : tw_S} {ad : Nat → Nat} {n : Nat} (h : tg_inj ad n) : tg_is ini ad n (tg_s ini ad n) := by
  intro i hi
  have e := tg_ix_at h hi
  refine ⟨fun k => ?_, fun k => ?_, ?_, ?_⟩
  · show ini.1 (tg_ix ad n (ad i)) k = _
    rw [e]; rfl
  · show ini.2.1 (tg_ix ad n (ad i)) k = _
    rw [e]; rfl
  · show ini.2.2.1 (tg_ix ad n (ad i)) = _
    rw [e]; rfl
  · show ini.2.2.2 (tg_ix ad n (ad i)) = _
    rw [e]; rfl
theorem tg_Ka {sk : List tg_K} {ad : Nat → Nat} {cy : Nat → ClassId} (h : tg_inj ad sk.length) {i : Nat} (hi : i < sk.length) : tw_K (tg sk ad cy) (ad i) = (sk.getD i tg_d).1 := by
  show (sk.getD (tg_ix ad sk.length (ad i)) tg_d).1 = _
  rw [tg_ix_at h hi]
theorem tg_Ra {sk : List tg_K} {ad : Nat → Nat} {cy : Nat → ClassId} (h : tg_inj ad sk.length) {i : Nat} (hi : i < sk.length) (k : Nat) : tw_R (tg sk ad cy) (ad i) k = ad ((sk.getD i tg_d).2.1.getD k 0) := by
  show ad ((sk.getD (tg_ix ad sk.length (ad i)) tg_d).2.1.getD k 0) = _
  rw [tg_ix_at h hi]
theorem tg_Na {sk : List tg_K} {ad : Nat → Nat} {cy : Nat → ClassId} (h : tg_inj ad sk.length) {i : Nat} (hi : i < sk.length) : tw_N (tg sk ad cy) (ad i) = (sk.getD i tg_d).2.2.1 := by
  show (sk.getD (tg_ix ad sk.length (ad i)) tg_d).2.2.1 = _
  rw [tg_ix_at h hi]
theorem tg_Ea {sk : List tg_K} {ad : Nat → Nat} {cy : Nat → ClassId} (h : tg_inj ad sk.length) {i : Nat} (hi : i < sk.length) (j : Nat) : tw_E (tg sk ad cy) (ad i) j = ad ((sk.getD i tg_d).2.2.2.getD j 0) := by
  show ad ((sk.getD (tg_ix ad sk.length (ad i)) tg_d).2.2.2.getD j 0) = _
  rw [tg_ix_at h hi]
theorem tg_La {sk : List tg_K} {ad : Nat → Nat} {cy : Nat → ClassId} {a : Nat} : a ∈ tw_L (tg sk ad cy) ↔ ∃ i, i < sk.length ∧ ad i = a := by
  show a ∈ (List.range sk.length).map ad ↔ _
  simp only [List.mem_map, List.mem_range]
theorem tg_isa {sk : List tg_K} {ad : Nat → Nat} {cy : Nat → ClassId} (h : tg_inj ad sk.length) {i c : Nat} (hi : i < sk.length) (hc : (sk.getD i tg_d).1 = c) : tw_is (tg sk ad cy) c (ad i) := ⟨tg_La.mpr ⟨i, hi, rfl⟩, by rw [tg_Ka h hi, hc]⟩
theorem tw_e_eq {g g2 : tw_G} {σ σ2 : tw_S} {a b : Nat} (hK : tw_K g a = tw_K g2 b) (hR : ∀ k, tw_R g a k = tw_R g2 b k) (hN : tw_N g a = tw_N g2 b) (hE : ∀ j, tw_E g a j = tw_E g2 b j) (hC : ∀ i, tw_C g i = tw_C g2 i) (hI : ∀ k, tw_I σ a k = tw_I σ2 b k) (hJ : ∀ k, tw_J σ a k = tw_J σ2 b k) (hA : tw_A σ a = tw_A σ2 b) (hB : tw_B σ a = tw_B σ2 b) : tw_e g σ a = tw_e g2 σ2 b := by
  have hfl : ∀ c, tw_fl g σ a c = tw_fl g2 σ2 b c := fun c => by simp only [tw_fl, hR, hI, hJ]
  simp only [tw_e, hK, hN, hE, hC, hA, hB, hfl]
/-- the entry at a place -/
def tg_e (sk : List tg_K) (ad : Nat → Nat) (cy : Nat → ClassId) (ini : tw_S) (i : Nat) : va_E := tw_e ([], fun _ => (sk.getD i tg_d).1, fun _ k => ad ((sk.getD i tg_d).2.1.getD k 0), fun _ => (sk.getD i tg_d).2.2.1, fun _ j => ad ((sk.getD i tg_d).2.2.2.getD j 0), cy) (fun _ k => tw_I ini i k, fun _ k => tw_J ini i k, fun _ => tw_A ini i, fun _ => tw_B ini i) 0
theorem tg_pl {sk : List tg_K} {ad : Nat → Nat} {cy : Nat → ClassId} {ini σ : tw_S} (h : tg_inj ad sk.length) (hs : tg_is ini ad sk.length σ) : tw_pl (tg sk ad cy) σ = (List.range sk.length).map (fun i => (ad i, tg_e sk ad cy ini i)) := by
  show ((List.range sk.length).map ad).map (fun a => (a, tw_e (tg sk ad cy) σ a)) = _
  rw [List.map_map]
  refine List.map_congr_left fun i hi => ?_
  have hi : i < sk.length := List.mem_range.mp hi
  obtain ⟨h1, h2, h3, h4⟩ := hs i hi
  show (ad i, tw_e (tg sk ad cy) σ (ad i)) = (ad i, tg_e sk ad cy ini i)
  refine congrArg (fun z => (ad i, z)) ?_
  exact tw_e_eq (tg_Ka h hi) (fun k => tg_Ra h hi k) (tg_Na h hi) (fun j => tg_Ea h hi j) (fun _ => rfl) h1 h2 h3 h4
/-- whether a skeleton keeps the types -/
def tg_ok (sk : List tg_K) : Bool := (List.range sk.length).all fun i => (tw_tl.all fun q => !(q.1 == (sk.getD i tg_d).1) || (decide ((sk.getD i tg_d).2.1.getD q.2.1 0 < sk.length) && (sk.getD ((sk.getD i tg_d).2.1.getD q.2.1 0) tg_d).1 == q.2.2.1 && (q.2.2.2 == 0 || (sk.getD ((sk.getD i tg_d).2.1.getD q.2.1 0) tg_d).2.2.1 == q.2.2.2))) && (!((sk.getD i tg_d).1 == 13) || (List.range (sk.getD i tg_d).2.2.1).all fun j => decide ((sk.getD i tg_d).2.2.2.getD j 0 < sk.length) && (sk.getD ((sk.getD i tg_d).2.2.2.getD j 0) tg_d).1 == 0)
theorem tg_T {sk : List tg_K} {ad : Nat → Nat} {cy : Nat → ClassId} (h : tg_inj ad sk.length) (hk : tg_ok sk = true) : tw_T (tg sk ad cy) := by
  have hk := List.all_eq_true.mp hk
  refine ⟨fun q hq a ha => ?_, fun a j ha hj => ?_⟩
  · obtain ⟨hL, hKq⟩ := ha
    obtain ⟨i, hi, rfl⟩ := tg_La.mp hL
    have h1 := hk i (List.mem_range.mpr hi)
    rw [Bool.and_eq_true] at h1
    have h2 := List.all_eq_true.mp h1.1 q hq
    rw [tg_Ka h hi] at hKq
    simp only [hKq, beq_self_eq_true, Bool.not_true, Bool.false_or, Bool.and_eq_true, Bool.or_eq_true, decide_eq_true_eq, beq_iff_eq] at h2
    obtain ⟨⟨h3, h4⟩, h5⟩ := h2
    rw [tg_Ra h hi]
    refine ⟨tg_isa h h3 h4, fun hne => ?_⟩
    rw [tg_Na h h3]
    exact h5.resolve_left hne
  · obtain ⟨hL, hKq⟩ := ha
    obtain ⟨i, hi, rfl⟩ := tg_La.mp hL
    have h1 := hk i (List.mem_range.mpr hi)
    rw [Bool.and_eq_true] at h1
    rw [tg_Ka h hi] at hKq
    rw [tg_Na h hi] at hj
    have h2 := h1.2
    rw [hKq] at h2
    simp only [beq_self_eq_true, Bool.not_true, Bool.false_or] at h2
    have h3 := List.all_eq_true.mp h2 j (List.mem_range.mpr hj)
    simp only [Bool.and_eq_true, decide_eq_true_eq, beq_iff_eq] at h3
    rw [tg_Ea h hi]
    exact tg_isa h h3.1 h3.2
theorem tg_arr {cA : ClassId} {n : Nat} {f g : Nat → Option Nat} (h : ∀ j, j < n → f j = g j) : vp_cell cA (n, .inr (.inr (.inr (.inr f)))) = vp_cell cA (n, .inr (.inr (.inr (.inr g)))) := by
  rw [vp_cell_q, vp_cell_q]
  have e : (fun j : Fin n => va_rf (f j.val)) = (fun j : Fin n => va_rf (g j.val)) := funext fun j => by rw [h j.val j.isLt]
  simp only [arrV, e]
theorem tg_inj_of {A : Nat → Prop} {ad : Nat → Nat} {n : Nat} {e : Nat → va_E} (h : va_D A ((List.range n).map (fun i => (ad i, e i)))) : tg_inj ad n := by
  intro i j hi hj hij
  refine h.1 i j (ad i, e i) (ad j, e j) ?_ ?_ hij
  · simp [hi]
  · simp [hj]

def sx_sk : List tg_K := [(8, [1, 6, 48, 49, 50, 52, 54, 56, 58, 62, 76, 90, 0], 0, []), (0, [2, 4], 0, []), (3, [3, 0, 0], 0, []), (10, [], 16, []), (3, [5, 0, 0], 0, []), (10, [], 16, []), (2, [7, 0, 0], 0, []), (13, [], 8, [8, 13, 18, 23, 28, 33, 38, 43]), (0, [9, 11], 0, []), (3, [10, 0, 0], 0, []), (10, [], 16, []), (3, [12, 0, 0], 0, []), (10, [], 16, []), (0, [14, 16], 0, []), (3, [15, 0, 0], 0, []), (10, [], 16, []), (3, [17, 0, 0], 0, []), (10, [], 16, []), (0, [19, 21], 0, []), (3, [20, 0, 0], 0, []), (10, [], 16, []), (3, [22, 0, 0], 0, []), (10, [], 16, []), (0, [24, 26], 0, []), (3, [25, 0, 0], 0, []), (10, [], 16, []), (3, [27, 0, 0], 0, []), (10, [], 16, []), (0, [29, 31], 0, []), (3, [30, 0, 0], 0, []), (10, [], 16, []), (3, [32, 0, 0], 0, []), (10, [], 16, []), (0, [34, 36], 0, []), (3, [35, 0, 0], 0, []), (10, [], 16, []), (3, [37, 0, 0], 0, []), (10, [], 16, []), (0, [39, 41], 0, []), (3, [40, 0, 0], 0, []), (10, [], 16, []), (3, [42, 0, 0], 0, []), (10, [], 16, []), (0, [44, 46], 0, []), (3, [45, 0, 0], 0, []), (10, [], 16, []), (3, [47, 0, 0], 0, []), (10, [], 16, []), (13, [], 2, [93, 98]), (12, [], 2, []), (6, [51, 0, 0, 0], 0, []), (10, [], 240, []), (3, [53, 0, 0], 0, []), (10, [], 16, []), (7, [55, 0], 0, []), (10, [], 24, []), (7, [57, 0], 0, []), (10, [], 24, []), (1, [59, 60, 61, 0, 0, 0, 0], 0, []), (10, [], 26, []), (10, [], 104, []), (10, [], 104, []), (5, [63, 65, 66, 67, 68, 69, 70, 71, 72, 73, 74, 75, 0, 0, 0, 0], 0, []), (3, [64, 0, 0], 0, []), (10, [], 16, []), (10, [], 750, []), (10, [], 5, []), (10, [], 3125, []), (10, [], 300, []), (12, [], 150, []), (10, [], 150, []), (10, [], 150, []), (10, [], 150, []), (10, [], 150, []), (10, [], 150, []), (10, [], 150, []), (5, [77, 79, 80, 81, 82, 83, 84, 85, 86, 87, 88, 89, 0, 0, 0, 0], 0, []), (3, [78, 0, 0], 0, []), (10, [], 16, []), (10, [], 750, []), (10, [], 5, []), (10, [], 3125, []), (10, [], 300, []), (12, [], 150, []), (10, [], 150, []), (10, [], 150, []), (10, [], 150, []), (10, [], 150, []), (10, [], 150, []), (10, [], 150, []), (4, [91, 92, 0], 0, []), (11, [], 22500, []), (10, [], 704, []), (0, [94, 96], 0, []), (3, [95, 0, 0], 0, []), (10, [], 16, []), (3, [97, 0, 0], 0, []), (10, [], 16, []), (0, [99, 101], 0, []), (3, [100, 0, 0], 0, []), (10, [], 16, []), (3, [102, 0, 0], 0, []), (10, [], 16, [])]
def sx_il : List (List Int32) := [[0, 0, 0, 0, 0, 0, 0, 0, 0, 0, 0, 0, -1], [0, 0], [0, 1, 0], [], [0, 1, 0], [], [0, 0, 0], [], [0, 0], [0, 1, 0], [], [0, 1, 0], [], [0, 0], [0, 1, 0], [], [0, 1, 0], [], [0, 0], [0, 1, 0], [], [0, 1, 0], [], [0, 0], [0, 1, 0], [], [0, 1, 0], [], [0, 0], [0, 1, 0], [], [0, 1, 0], [], [0, 0], [0, 1, 0], [], [0, 1, 0], [], [0, 0], [0, 1, 0], [], [0, 1, 0], [], [0, 0], [0, 1, 0], [], [0, 1, 0], [], [], [], [0, 0, 0, 0], [], [0, 1, 0], [], [0, 0], [], [0, 0], [], [0, 0, 0, 0, 0, 0, 0], [], [], [], [0, 0, 0, 0, 0, 0, 0, 0, 0, 0, 0, 0, 0, 0, 0, 0], [0, 1, 0], [], [], [], [], [], [], [], [], [], [], [], [], [0, 0, 0, 0, 0, 0, 0, 0, 0, 0, 0, 0, 0, 0, 0, 0], [0, 1, 0], [], [], [], [], [], [], [], [], [], [], [], [], [0, 0, 0], [], [], [0, 0], [0, 1, 0], [], [0, 1, 0], [], [0, 0], [0, 1, 0], [], [0, 1, 0], []]
def sx_al : List (Nat → Int32) := [(fun _ => 0), (fun _ => 0), (fun _ => 0), tn_mv, (fun _ => 0), tn_mv, (fun _ => 0), (fun _ => 0), (fun _ => 0), (fun _ => 0), tn_mv, (fun _ => 0), tn_mv, (fun _ => 0), (fun _ => 0), tn_mv, (fun _ => 0), tn_mv, (fun _ => 0), (fun _ => 0), tn_mv, (fun _ => 0), tn_mv, (fun _ => 0), (fun _ => 0), tn_mv, (fun _ => 0), tn_mv, (fun _ => 0), (fun _ => 0), tn_mv, (fun _ => 0), tn_mv, (fun _ => 0), (fun _ => 0), tn_mv, (fun _ => 0), tn_mv, (fun _ => 0), (fun _ => 0), tn_mv, (fun _ => 0), tn_mv, (fun _ => 0), (fun _ => 0), tn_mv, (fun _ => 0), tn_mv, (fun _ => 0), (fun _ => 0), (fun _ => 0), (fun _ => 0), (fun _ => 0), tn_mv, (fun _ => 0), (fun _ => 0), (fun _ => 0), (fun _ => 0), (fun _ => 0), (fun _ => 0), (fun _ => 0), (fun _ => 0), (fun _ => 0), (fun _ => 0), tn_mv, (fun _ => 0), (fun _ => 0), (fun _ => 0), (fun _ => 0), (fun _ => 0), (fun _ => 0), (fun _ => 0), (fun _ => 0), (fun _ => 0), (fun _ => 0), (fun _ => 0), (fun _ => 0), (fun _ => 0), tn_mv, (fun _ => 0), (fun _ => 0), (fun _ => 0), (fun _ => 0), (fun _ => 0), (fun _ => 0), (fun _ => 0), (fun _ => 0), (fun _ => 0), (fun _ => 0), (fun _ => 0), (fun _ => 0), (fun _ => 0), (fun _ => 0), (fun _ => 0), (fun _ => 0), tn_mv, (fun _ => 0), tn_mv, (fun _ => 0), (fun _ => 0), tn_mv, (fun _ => 0), tn_mv]
def sx_in : tw_S := (fun i k => (sx_il.getD i []).getD k 0, fun _ _ => 0, fun i => sx_al.getD i (fun _ => 0), fun _ _ => 0)
set_option maxRecDepth 20000 in
theorem sx_ok : tg_ok sx_sk = true := by decide +kernel
def sx_ad (h0 : Nat) (u : Nat → Nat) : Nat → Nat := fun i => match i with | 0 => h0 | j + 1 => u j
abbrev sx_ws (cy : Nat → ClassId) (h0 : Nat) (u : Nat → Nat) : va_W := [(h0, .inr (8, [.ref (u 0), .ref (u 5), .ref (u 47), .ref (u 48), .ref (u 49), .ref (u 51), .ref (u 53), .ref (u 55), .ref (u 57), .ref (u 61), .ref (u 75), .ref (u 89), .int (-1)])), ((u 0), .inr (0, [.ref (u 1), .ref (u 3)])), ((u 1), .inr (3, [.ref (u 2), .int 1, .long 0])), ((u 2), .inl (cy 0, 16, .inl tn_mv)), ((u 3), .inr (3, [.ref (u 4), .int 1, .long 0])), ((u 4), .inl (cy 0, 16, .inl tn_mv)), ((u 5), .inr (2, [.ref (u 6), .int 0, .int 0])), ((u 6), .inl (cy 3, 8, .inr (.inr (.inr (.inr (fun j => some (sx_ad h0 u ([8, 13, 18, 23, 28, 33, 38, 43].getD j 0)))))))), ((u 7), .inr (0, [.ref (u 8), .ref (u 10)])), ((u 8), .inr (3, [.ref (u 9), .int 1, .long 0])), ((u 9), .inl (cy 0, 16, .inl tn_mv)), ((u 10), .inr (3, [.ref (u 11), .int 1, .long 0])), ((u 11), .inl (cy 0, 16, .inl tn_mv)), ((u 12), .inr (0, [.ref (u 13), .ref (u 15)])), ((u 13), .inr (3, [.ref (u 14), .int 1, .long 0])), ((u 14), .inl (cy 0, 16, .inl tn_mv)), ((u 15), .inr (3, [.ref (u 16), .int 1, .long 0])), ((u 16), .inl (cy 0, 16, .inl tn_mv)), ((u 17), .inr (0, [.ref (u 18), .ref (u 20)])), ((u 18), .inr (3, [.ref (u 19), .int 1, .long 0])), ((u 19), .inl (cy 0, 16, .inl tn_mv)), ((u 20), .inr (3, [.ref (u 21), .int 1, .long 0])), ((u 21), .inl (cy 0, 16, .inl tn_mv)), ((u 22), .inr (0, [.ref (u 23), .ref (u 25)])), ((u 23), .inr (3, [.ref (u 24), .int 1, .long 0])), ((u 24), .inl (cy 0, 16, .inl tn_mv)), ((u 25), .inr (3, [.ref (u 26), .int 1, .long 0])), ((u 26), .inl (cy 0, 16, .inl tn_mv)), ((u 27), .inr (0, [.ref (u 28), .ref (u 30)])), ((u 28), .inr (3, [.ref (u 29), .int 1, .long 0])), ((u 29), .inl (cy 0, 16, .inl tn_mv)), ((u 30), .inr (3, [.ref (u 31), .int 1, .long 0])), ((u 31), .inl (cy 0, 16, .inl tn_mv)), ((u 32), .inr (0, [.ref (u 33), .ref (u 35)])), ((u 33), .inr (3, [.ref (u 34), .int 1, .long 0])), ((u 34), .inl (cy 0, 16, .inl tn_mv)), ((u 35), .inr (3, [.ref (u 36), .int 1, .long 0])), ((u 36), .inl (cy 0, 16, .inl tn_mv)), ((u 37), .inr (0, [.ref (u 38), .ref (u 40)])), ((u 38), .inr (3, [.ref (u 39), .int 1, .long 0])), ((u 39), .inl (cy 0, 16, .inl tn_mv)), ((u 40), .inr (3, [.ref (u 41), .int 1, .long 0])), ((u 41), .inl (cy 0, 16, .inl tn_mv)), ((u 42), .inr (0, [.ref (u 43), .ref (u 45)])), ((u 43), .inr (3, [.ref (u 44), .int 1, .long 0])), ((u 44), .inl (cy 0, 16, .inl tn_mv)), ((u 45), .inr (3, [.ref (u 46), .int 1, .long 0])), ((u 46), .inl (cy 0, 16, .inl tn_mv)), ((u 47), .inl (cy 3, 2, .inr (.inr (.inr (.inr (fun j => some (sx_ad h0 u ([93, 98].getD j 0)))))))), ((u 48), .inl (cy 2, 2, .inl (fun _ => 0))), ((u 49), .inr (6, [.ref (u 50), .int 0, .int 0, .int 0])), ((u 50), .inl (cy 0, 240, .inl (fun _ => 0))), ((u 51), .inr (3, [.ref (u 52), .int 1, .long 0])), ((u 52), .inl (cy 0, 16, .inl tn_mv)), ((u 53), .inr (7, [.ref (u 54), .int 0])), ((u 54), .inl (cy 0, 24, .inl (fun _ => 0))), ((u 55), .inr (7, [.ref (u 56), .int 0])), ((u 56), .inl (cy 0, 24, .inl (fun _ => 0))), ((u 57), .inr (1, [.ref (u 58), .ref (u 59), .ref (u 60), .int 0, .int 0, .int 0, .int 0])), ((u 58), .inl (cy 0, 26, .inl (fun _ => 0))), ((u 59), .inl (cy 0, 104, .inl (fun _ => 0))), ((u 60), .inl (cy 0, 104, .inl (fun _ => 0))), ((u 61), .inr (5, [.ref (u 62), .ref (u 64), .ref (u 65), .ref (u 66), .ref (u 67), .ref (u 68), .ref (u 69), .ref (u 70), .ref (u 71), .ref (u 72), .ref (u 73), .ref (u 74), .int 0, .int 0, .int 0, .int 0])), ((u 62), .inr (3, [.ref (u 63), .int 1, .long 0])), ((u 63), .inl (cy 0, 16, .inl tn_mv)), ((u 64), .inl (cy 0, 750, .inl (fun _ => 0))), ((u 65), .inl (cy 0, 5, .inl (fun _ => 0))), ((u 66), .inl (cy 0, 3125, .inl (fun _ => 0))), ((u 67), .inl (cy 0, 300, .inl (fun _ => 0))), ((u 68), .inl (cy 2, 150, .inl (fun _ => 0))), ((u 69), .inl (cy 0, 150, .inl (fun _ => 0))), ((u 70), .inl (cy 0, 150, .inl (fun _ => 0))), ((u 71), .inl (cy 0, 150, .inl (fun _ => 0))), ((u 72), .inl (cy 0, 150, .inl (fun _ => 0))), ((u 73), .inl (cy 0, 150, .inl (fun _ => 0))), ((u 74), .inl (cy 0, 150, .inl (fun _ => 0))), ((u 75), .inr (5, [.ref (u 76), .ref (u 78), .ref (u 79), .ref (u 80), .ref (u 81), .ref (u 82), .ref (u 83), .ref (u 84), .ref (u 85), .ref (u 86), .ref (u 87), .ref (u 88), .int 0, .int 0, .int 0, .int 0])), ((u 76), .inr (3, [.ref (u 77), .int 1, .long 0])), ((u 77), .inl (cy 0, 16, .inl tn_mv)), ((u 78), .inl (cy 0, 750, .inl (fun _ => 0))), ((u 79), .inl (cy 0, 5, .inl (fun _ => 0))), ((u 80), .inl (cy 0, 3125, .inl (fun _ => 0))), ((u 81), .inl (cy 0, 300, .inl (fun _ => 0))), ((u 82), .inl (cy 2, 150, .inl (fun _ => 0))), ((u 83), .inl (cy 0, 150, .inl (fun _ => 0))), ((u 84), .inl (cy 0, 150, .inl (fun _ => 0))), ((u 85), .inl (cy 0, 150, .inl (fun _ => 0))), ((u 86), .inl (cy 0, 150, .inl (fun _ => 0))), ((u 87), .inl (cy 0, 150, .inl (fun _ => 0))), ((u 88), .inl (cy 0, 150, .inl (fun _ => 0))), ((u 89), .inr (4, [.ref (u 90), .ref (u 91), .int 0])), ((u 90), .inl (cy 1, 22500, .inr (.inl (fun _ => 0)))), ((u 91), .inl (cy 0, 704, .inl (fun _ => 0))), ((u 92), .inr (0, [.ref (u 93), .ref (u 95)])), ((u 93), .inr (3, [.ref (u 94), .int 1, .long 0])), ((u 94), .inl (cy 0, 16, .inl tn_mv)), ((u 95), .inr (3, [.ref (u 96), .int 1, .long 0])), ((u 96), .inl (cy 0, 16, .inl tn_mv)), ((u 97), .inr (0, [.ref (u 98), .ref (u 100)])), ((u 98), .inr (3, [.ref (u 99), .int 1, .long 0])), ((u 99), .inl (cy 0, 16, .inl tn_mv)), ((u 100), .inr (3, [.ref (u 101), .int 1, .long 0])), ((u 101), .inl (cy 0, 16, .inl tn_mv))]
set_option maxRecDepth 20000 in
set_option maxHeartbeats 4000000 in
theorem sx_ws_eq (cy : Nat → ClassId) (h0 : Nat) (u : Nat → Nat) : (List.range 103).map (fun i => (sx_ad h0 u i, tg_e sx_sk (sx_ad h0 u) cy sx_in i)) = sx_ws cy h0 u := rfl
set_option maxRecDepth 20000 in
set_option maxHeartbeats 4000000 in
theorem sx_pool {D : va_G} {A : Nat → Prop} {cy : Nat → ClassId} {h0 : Nat} {u : Nat → Nat} {H : Heap} (hP : va_P D vwCl (cw_X8_init cy h0 u) H) (hD : va_D A (cw_X8_init cy h0 u)) : tg_inj (sx_ad h0 u) 103 ∧ va_P D vwCl (tw_pl (tg sx_sk (sx_ad h0 u) cy) (tg_s sx_in (sx_ad h0 u) 103)) H ∧ va_D A (tw_pl (tg sx_sk (sx_ad h0 u) cy) (tg_s sx_in (sx_ad h0 u) 103)) := by
  have h7 : va_at D vwCl ((u 6), (.inl (cy 3, 8, .inr (.inr (.inr (.inr (fun j => some (sx_ad h0 u ([8, 13, 18, 23, 28, 33, 38, 43].getD j 0))))))) : va_E)) H := by
    show H[(u 6)]? = some (vp_cell _ _)
    refine ((hP 7 _ rfl : H[(u 6)]? = some (vp_cell _ _))).trans (congrArg some (tg_arr fun j hj => ?_))
    match j, hj with
    | 0, _ => rfl
    | 1, _ => rfl
    | 2, _ => rfl
    | 3, _ => rfl
    | 4, _ => rfl
    | 5, _ => rfl
    | 6, _ => rfl
    | 7, _ => rfl
    | t + 8, h => exact absurd h (by omega)
  have hP := hP.set hD (p := 7) (a := (u 6)) rfl h7 (fun _ _ => rfl)
  have hD := hD.set (p := 7) (a := (u 6)) (e := (.inl (cy 3, 8, .inr (.inr (.inr (.inr (fun j => some (sx_ad h0 u ([8, 13, 18, 23, 28, 33, 38, 43].getD j 0))))))) : va_E)) rfl
  have h48 : va_at D vwCl ((u 47), (.inl (cy 3, 2, .inr (.inr (.inr (.inr (fun j => some (sx_ad h0 u ([93, 98].getD j 0))))))) : va_E)) H := by
    show H[(u 47)]? = some (vp_cell _ _)
    refine ((hP 48 _ rfl : H[(u 47)]? = some (vp_cell _ _))).trans (congrArg some (tg_arr fun j hj => ?_))
    match j, hj with
    | 0, _ => rfl
    | 1, _ => rfl
    | t + 2, h => exact absurd h (by omega)
  have hP := hP.set hD (p := 48) (a := (u 47)) rfl h48 (fun _ _ => rfl)
  have hD := hD.set (p := 48) (a := (u 47)) (e := (.inl (cy 3, 2, .inr (.inr (.inr (.inr (fun j => some (sx_ad h0 u ([93, 98].getD j 0))))))) : va_E)) rfl
  have hP : va_P D vwCl (sx_ws cy h0 u) H := hP
  have hD : va_D A (sx_ws cy h0 u) := hD
  rw [← sx_ws_eq] at hP hD
  have hj := tg_inj_of hD
  have e := tg_pl (sk := sx_sk) (cy := cy) hj (tg_s_is (ini := sx_in) hj)
  have e2 : tw_pl (tg sx_sk (sx_ad h0 u) cy) (tg_s sx_in (sx_ad h0 u) 103) = (List.range 103).map (fun i => (sx_ad h0 u i, tg_e sx_sk (sx_ad h0 u) cy sx_in i)) := e
  rw [e2]
  exact ⟨hj, hP, hD⟩
