/-! ===== the fresh objects keep the invariants ===== -/
section HC
set_option maxRecDepth 20000
variable {adx adm : Nat → Nat} {cy : Nat → ClassId} {σ τ : tw_S}
/-- who holds a place: one place and slot alone -/
def tg_po (sk : List tg_K) (pl : List (Nat × Nat)) : Bool := (List.range sk.length).all fun i => tw_tl.all fun q => !(q.1 == (sk.getD i tg_d).1) || (decide ((sk.getD i tg_d).2.1.getD q.2.1 0 < sk.length) && pl.getD ((sk.getD i tg_d).2.1.getD q.2.1 0) (0, 0) == (i, q.2.1))
theorem tg_O {sk : List tg_K} {pl : List (Nat × Nat)} {ad : Nat → Nat} (h : tg_inj ad sk.length) (hk : tg_po sk pl = true) : tw_O (tg sk ad cy) := by
  have hk := List.all_eq_true.mp hk
  have key : ∀ q ∈ tw_tl, ∀ i, i < sk.length → (sk.getD i tg_d).1 = q.1 → (sk.getD i tg_d).2.1.getD q.2.1 0 < sk.length ∧ pl.getD ((sk.getD i tg_d).2.1.getD q.2.1 0) (0, 0) = (i, q.2.1) := by
    intro q hq i hi hc
    have h2 := List.all_eq_true.mp (hk i (List.mem_range.mpr hi)) q hq
    simp only [hc, beq_self_eq_true, Bool.not_true, Bool.false_or, Bool.and_eq_true, decide_eq_true_eq, beq_iff_eq] at h2
    exact h2
  intro q hq q2 hq2 a b ha hb e
  obtain ⟨hL, hKq⟩ := ha
  obtain ⟨i, hi, rfl⟩ := tg_La.mp hL
  obtain ⟨hL2, hKq2⟩ := hb
  obtain ⟨j, hj, rfl⟩ := tg_La.mp hL2
  rw [tg_Ka h hi] at hKq
  rw [tg_Ka h hj] at hKq2
  rw [tg_Ra h hi, tg_Ra h hj] at e
  obtain ⟨a1, a2⟩ := key q hq i hi hKq
  obtain ⟨b1, b2⟩ := key q2 hq2 j hj hKq2
  have e2 := h _ _ a1 b1 e
  rw [e2, b2] at a2
  have e3 : j = i := congrArg Prod.fst a2
  have e4 : q2.2.1 = q.2.1 := congrArg Prod.snd a2
  refine ⟨?_, e4.symm, by rw [e3]⟩
  rw [e3] at hKq2
  exact hKq.symm.trans hKq2
def sx_pl : List (Nat × Nat) := [(0, 0), (0, 0), (1, 0), (2, 0), (1, 1), (4, 0), (0, 1), (6, 0), (0, 0), (8, 0), (9, 0), (8, 1), (11, 0), (0, 0), (13, 0), (14, 0), (13, 1), (16, 0), (0, 0), (18, 0), (19, 0), (18, 1), (21, 0), (0, 0), (23, 0), (24, 0), (23, 1), (26, 0), (0, 0), (28, 0), (29, 0), (28, 1), (31, 0), (0, 0), (33, 0), (34, 0), (33, 1), (36, 0), (0, 0), (38, 0), (39, 0), (38, 1), (41, 0), (0, 0), (43, 0), (44, 0), (43, 1), (46, 0), (0, 2), (0, 3), (0, 4), (50, 0), (0, 5), (52, 0), (0, 6), (54, 0), (0, 7), (56, 0), (0, 8), (58, 0), (58, 1), (58, 2), (0, 9), (62, 0), (63, 0), (62, 1), (62, 2), (62, 3), (62, 4), (62, 5), (62, 6), (62, 7), (62, 8), (62, 9), (62, 10), (62, 11), (0, 10), (76, 0), (77, 0), (76, 1), (76, 2), (76, 3), (76, 4), (76, 5), (76, 6), (76, 7), (76, 8), (76, 9), (76, 10), (76, 11), (0, 11), (90, 0), (90, 1), (0, 0), (93, 0), (94, 0), (93, 1), (96, 0), (0, 0), (98, 0), (99, 0), (98, 1), (101, 0)]
theorem sx_po : tg_po sx_sk sx_pl = true := by decide +kernel
theorem x_is {c y : Nat} (hj : tg_inj adx 103) (h : tw_is (tg sx_sk adx cy) c y) : ∃ i, i < 103 ∧ adx i = y ∧ (sx_sk.getD i tg_d).1 = c := by
  obtain ⟨hL, hK⟩ := h
  obtain ⟨i, hi, rfl⟩ := tg_La.mp hL
  have hi : i < 103 := hi
  exact ⟨i, hi, rfl, (tg_Ka (sk := sx_sk) hj hi).symm.trans hK⟩
theorem x_q3 : ∀ i, i < 103 → (sx_sk.getD i tg_d).1 = 3 → inI (tw_I sx_in i 1) 1 4 := by decide +kernel
theorem x_q7 : ∀ i, i < 103 → (sx_sk.getD i tg_d).1 = 7 → inI (tw_I sx_in i 1) 0 24 := by decide +kernel
theorem x_q5 : ∀ i, i < 103 → (sx_sk.getD i tg_d).1 = 5 → inI (tw_I sx_in i 13) 0 1 := by decide +kernel
theorem x_q6 : ∀ i, i < 103 → (sx_sk.getD i tg_d).1 = 6 → inI (tw_I sx_in i 2) 0 240 := by decide +kernel
theorem x_q4 : ∀ i, i < 103 → (sx_sk.getD i tg_d).1 = 4 → inI (tw_I sx_in i 2) 0 22500 := by decide +kernel
theorem x_q52 : ∀ i, i < 103 → (sx_sk.getD i tg_d).1 = 5 → i = 62 ∨ i = 76 := by decide +kernel
theorem XI_0 (hj : tg_inj adx 103) (hx : tg_is sx_in adx 103 σ) : XI (tg sx_sk adx cy) (adx 54, 0, adx 50, 0, adx 49, fun _ => 0) σ := by
  have r : ∀ {i : Nat}, i < 103 → ∀ k, tw_R (tg sx_sk adx cy) (adx i) k = adx ((sx_sk.getD i tg_d).2.1.getD k 0) := fun hi k => tg_Ra (sk := sx_sk) hj hi k
  have r3 : tw_R (tg sx_sk adx cy) (adx 0) 3 = adx 49 := r (by decide) 3
  have r4 : tw_R (tg sx_sk adx cy) (adx 0) 4 = adx 50 := r (by decide) 4
  have r6 : tw_R (tg sx_sk adx cy) (adx 0) 6 = adx 54 := r (by decide) 6
  have a3 : tw_R (tg sx_sk adx cy) (adx 62) 3 = adx 67 := r (by decide) 3
  have a4 : tw_R (tg sx_sk adx cy) (adx 62) 4 = adx 68 := r (by decide) 4
  have b3 : tw_R (tg sx_sk adx cy) (adx 76) 3 = adx 81 := r (by decide) 3
  have b4 : tw_R (tg sx_sk adx cy) (adx 76) 4 = adx 82 := r (by decide) 4
  have t67 : tw_A σ (adx 67) = fun _ => 0 := (hx 67 (by decide)).2.2.1
  have t68 : tw_A σ (adx 68) = fun _ => 0 := (hx 68 (by decide)).2.2.1
  have t81 : tw_A σ (adx 81) = fun _ => 0 := (hx 81 (by decide)).2.2.1
  have t82 : tw_A σ (adx 82) = fun _ => 0 := (hx 82 (by decide)).2.2.1
  have z : inI (0 : Int32) (-1) 149 := ⟨by decide, by decide⟩
  refine ⟨⟨tg_T hj sx_ok, tg_O (pl := sx_pl) hj sx_po, adx 0, tg_isa (sk := sx_sk) hj (by decide) rfl, r6.symm, r4.symm, r3.symm⟩, fun y hy => ?_, fun y hy => ?_, fun y hy => ?_, fun y hy => ?_, fun y hy => ?_, fun y hy i => ?_, fun y hy i => ?_, (hx 54 (by decide)).1 1, (hx 50 (by decide)).1 1, (hx 49 (by decide)).2.2.1⟩
  · obtain ⟨i, hi, rfl, hc⟩ := x_is hj hy
    rw [(hx i hi).1]
    exact x_q3 i hi hc
  · obtain ⟨i, hi, rfl, hc⟩ := x_is hj hy
    rw [(hx i hi).1]
    exact x_q7 i hi hc
  · obtain ⟨i, hi, rfl, hc⟩ := x_is hj hy
    rw [(hx i hi).1]
    exact x_q5 i hi hc
  · obtain ⟨i, hi, rfl, hc⟩ := x_is hj hy
    rw [(hx i hi).1]
    exact x_q6 i hi hc
  · obtain ⟨i, hi, rfl, hc⟩ := x_is hj hy
    rw [(hx i hi).1]
    exact x_q4 i hi hc
  · obtain ⟨k, hk, rfl, hc⟩ := x_is hj hy
    rcases x_q52 k hk hc with rfl | rfl
    · rw [a3, t67]; exact z
    · rw [b3, t81]; exact z
  · obtain ⟨k, hk, rfl, hc⟩ := x_is hj hy
    rcases x_q52 k hk hc with rfl | rfl
    · rw [a4, t68]; exact z
    · rw [b4, t82]; exact z
theorem gA_0 (hj : tg_inj adx 103) : g_A (tg sx_sk adx cy) (adx 54, 0, adx 50, 0, adx 49, fun _ => 0) (adx 0) := by
  have r : ∀ {i : Nat}, i < 103 → ∀ k, tw_R (tg sx_sk adx cy) (adx i) k = adx ((sx_sk.getD i tg_d).2.1.getD k 0) := fun hi k => tg_Ra (sk := sx_sk) hj hi k
  have r3 : tw_R (tg sx_sk adx cy) (adx 0) 3 = adx 49 := r (by decide) 3
  have r4 : tw_R (tg sx_sk adx cy) (adx 0) 4 = adx 50 := r (by decide) 4
  have r6 : tw_R (tg sx_sk adx cy) (adx 0) 6 = adx 54 := r (by decide) 6
  exact ⟨tg_isa (sk := sx_sk) hj (by decide) rfl, r6.symm, r4.symm, r3.symm⟩
theorem m_qn : ∀ i, i < 34 → (i % 17 = 0 → inI (sm_now i) 1 4) ∧ inI (sm_now i) (-1) 7 := by decide +kernel
theorem m_qb : ∀ j, j < 2 → (((0 : Int32) >>> (nI j &&& 31)) &&& (1 : Int32)) = 0 := by decide +kernel
theorem MI_0 (hj : tg_inj adm 24) (hm : tg_is sm_in1 adm 24 τ) : MI (tg sm_sk adm cy) (adm 0) (0, 0, 0) τ := by
  have r0 : tw_R (tg sm_sk adm cy) (adm 0) 0 = adm 1 := tg_Ra (sk := sm_sk) hj (i := 0) (by decide) 0
  have r11 : tw_R (tg sm_sk adm cy) (adm 0) 11 = adm 5 := tg_Ra (sk := sm_sk) hj (i := 0) (by decide) 11
  have r33 : tw_R (tg sm_sk adm cy) (adm 0) 33 = adm 22 := tg_Ra (sk := sm_sk) hj (i := 0) (by decide) 33
  have t1 : tw_A τ (adm 1) = sm_now := (hm 1 (by decide)).2.2.1
  have t5 : tw_A τ (adm 5) = fun _ => 0 := (hm 5 (by decide)).2.2.1
  have t22 : tw_A τ (adm 22) = fun _ => 0 := (hm 22 (by decide)).2.2.1
  have i9 : tw_I τ (adm 0) 9 = 0 := (hm 0 (by decide)).1 9
  refine ⟨m_d_of hj, fun i hi => ?_, by rw [i9]; exact ⟨by decide, by decide⟩, fun i hi => ?_, fun i hi => ?_, fun j hj2 hb => absurd (m_qb j hj2) hb, ⟨by decide, by decide⟩, ⟨⟨by decide, by decide⟩, ⟨by decide, by decide⟩⟩, (hm 0 (by decide)).1 12, (hm 0 (by decide)).1 2, (hm 0 (by decide)).1 35⟩
  · rw [r0, t1]
    exact m_qn i hi
  · rw [i9] at hi
    have := e_0
    omega
  · rw [r11, r33, t5, t22]
    have z : inI (0 : Int32) 0 1 := ⟨by decide, by decide⟩
    exact ⟨z, z⟩
end HC
