/-! ===== the law's loop: every call on both objects ===== -/
section LA
variable {gx gm : tw_G} {ax am : Nat}
set_option maxHeartbeats 4000000 in
set_option maxRecDepth 20000 in
theorem law_run {L : Nat} {xs : Nat → Int32} (hL : L ≤ 3072) : ∀ (d t : Nat), L < 6 * t + 6 * d → t ≤ 600 → ∀ P p σ τ, BothI gx gm ax am P p σ τ → wl_law L xs gx gm ax am (d + 1) (nI (6 * t)) σ τ := by
  intro d
  induction d with
  | zero =>
    intro t hd ht P p σ τ h
    have q : (Int32.ofNat L - (6 : Int32)).toInt = (L : Int) - 6 := pk_sub_toInt (a := L) (b := 6) (by omega) (by decide)
    have qt : (nI (6 * t)).toInt = ((6 * t : Nat) : Int) := nI_toInt (by omega)
    rw [wl_law]
    refine ⟨fun _ => trivial, fun c => absurd ?_ c⟩
    rw [i_lt]
    omega
  | succ d ih =>
    intro t hd ht P p σ τ h
    have q : (Int32.ofNat L - (6 : Int32)).toInt = (L : Int) - 6 := pk_sub_toInt (a := L) (b := 6) (by omega) (by decide)
    have qt : (nI (6 * t)).toInt = ((6 * t : Nat) : Int) := nI_toInt (by omega)
    rw [wl_law]
    refine ⟨fun _ => trivial, fun c => ?_⟩
    rw [i_lt] at c
    have hle : 6 * t + 6 ≤ L := by omega
    have v0 : vp_in (nI (6 * t)) L := vp_in_nI (by omega) (by omega)
    have v : ∀ k, k < 6 → vp_in (nI (6 * t) + nI k) L := fun k hk => by rw [nI_add]; exact vp_in_nI (by omega) (by omega)
    have v1 : vp_in (nI (6 * t) + (1 : Int32)) L := v 1 (by decide)
    have v2 : vp_in (nI (6 * t) + (2 : Int32)) L := v 2 (by decide)
    have v3 : vp_in (nI (6 * t) + (3 : Int32)) L := v 3 (by decide)
    have v4 : vp_in (nI (6 * t) + (4 : Int32)) L := v 4 (by decide)
    have v5 : vp_in (nI (6 * t) + (5 : Int32)) L := v 5 (by decide)
    have e6 : nI (6 * t) + (6 : Int32) = nI (6 * (t + 1)) := nI_add (6 * t) 6
    rw [e6]
    have N : ∀ P p s u, BothI gx gm ax am P p s u → wl_law L xs gx gm ax am (d + 1) (nI (6 * (t + 1))) s u := fun P p s u h2 => ih (t + 1) (by omega) (by omega) P p s u h2
    clear ih
    obtain ⟨hX, hA, hM, hR⟩ := id h
    refine ⟨v0, fun z2 _ => ?_⟩
    exact ⟨fun _ => ⟨v1, b_feed h v1 fun r P p s u h2 => ⟨fun _ => N P p s u h2, fun c => absurd rfl c⟩⟩, fun _ => ⟨fun _ => ⟨v1, b_machine h v1 fun r r2 P p s u h2 => N P p s u h2⟩, fun _ => ⟨fun _ => y_fault hX fun r s hs => h_fault hM fun r2 u hu => N P p s u ⟨hs, hA, hu, hR⟩, fun _ => ⟨fun _ => ⟨v1, v2, v3, v4, v5, y_move hX hA fun r s hs => ⟨v1, v2, v3, v4, v5, h_move hM fun r2 u hu => N P p s u ⟨hs, hA, hu, hR⟩⟩⟩, fun _ => ⟨fun _ => ⟨v1, v2, v3, y_none hX hA fun r s hs => ⟨v1, v2, v3, h_none hM fun r2 u hu => N P p s u ⟨hs, hA, hu, hR⟩⟩⟩, fun _ => ⟨fun _ => ⟨v1, v2, y_states hX hA fun r s hs => ⟨v1, v2, h_states hM fun r2 u hu => N P p s u ⟨hs, hA, hu, hR⟩⟩⟩, fun _ => ⟨fun _ => ⟨v1, v2, y_drift hX hA fun r s hs => ⟨v1, v2, h_drift hM fun r2 u hu => N P p s u ⟨hs, hA, hu, hR⟩⟩⟩, fun _ => ⟨fun _ => y_swap hX hA fun r s hs => h_swap hM fun r2 u hu => N P p s u ⟨hs, hA, hu, hR⟩, fun _ => ⟨fun _ => y_undo hX hA fun r s hs => h_undo hM fun r2 u hu => N P p s u ⟨hs, hA, hu, hR⟩, fun _ => ⟨fun _ => ⟨v1, v2, v3, y_moveOf hX hA fun r s hs => ⟨v1, v2, v3, h_moveOf hM fun r2 u hu => N P p s u ⟨hs, hA, hu, hR⟩⟩⟩, fun _ => ⟨fun _ => ⟨v1, b_letter h v1 fun r P p s u h2 => N P p s u h2⟩, fun _ => ⟨fun _ => ⟨v1, b_word h v1 fun r P p s u h2 => N P p s u h2⟩, fun _ => ⟨fun _ => b_wipe h fun r P p s u h2 => N P p s u h2, fun _ => ⟨fun _ => ⟨v1, y_told hX hA fun r s hs => ⟨v1, h_told hM fun r2 u hu => N P p s u ⟨hs, hA, hu, hR⟩⟩⟩, fun _ => ⟨fun _ => ⟨v1, v2, y_run hX hA fun r s hs => ⟨v1, v2, h_run hM fun r2 u hu => N P p s u ⟨hs, hA, hu, hR⟩⟩⟩, fun _ => ⟨fun _ => ⟨v1, v2, v3, y_crossed hX hA fun r s hs => ⟨v1, v2, v3, h_crossed hM fun r2 u hu => N P p s u ⟨hs, hA, hu, hR⟩⟩⟩, fun _ => ⟨fun _ => ⟨v1, v2, v3, v4, v5, y_table hX hA fun r s hs => ⟨v1, v2, v3, v4, v5, h_table hM fun r2 u hu => N P p s u ⟨hs, hA, hu, hR⟩⟩⟩, fun _ => ⟨fun _ => ⟨v1, v2, v3, v4, v5, y_alike hX hA fun r s hs => ⟨v1, v2, v3, v4, v5, h_alike hM fun r2 u hu => N P p s u ⟨hs, hA, hu, hR⟩⟩⟩, fun _ => ⟨fun _ => ⟨v1, v2, y_ofMachine hX hA fun r s hs => ⟨v1, v2, h_ofMachine hM fun r2 u hu => N P p s u ⟨hs, hA, hu, hR⟩⟩⟩, fun _ => ⟨fun _ => ⟨v1, v2, v3, y_oneWay hX hA fun r s hs => ⟨v1, v2, v3, h_oneWay hM fun r2 u hu => N P p s u ⟨hs, hA, hu, hR⟩⟩⟩, fun _ => ⟨fun _ => ⟨v1, v2, y_taken hX hA fun r s hs => ⟨v1, v2, h_taken hM fun r2 u hu => N P p s u ⟨hs, hA, hu, hR⟩⟩⟩, fun _ => ⟨fun _ => ⟨v1, y_first hX hA fun r s hs => ⟨v1, h_first hM fun r2 u hu => N P p s u ⟨hs, hA, hu, hR⟩⟩⟩, fun _ => ⟨fun _ => ⟨v1, v2, y_turned hX hA fun r s hs => ⟨v1, v2, h_turned hM fun r2 u hu => N P p s u ⟨hs, hA, hu, hR⟩⟩⟩, fun _ => ⟨fun _ => ⟨v1, b_keep h v1 fun r P p s u h2 => N P p s u h2⟩, fun _ => ⟨fun _ => ⟨v1, b_goBack h v1 fun r P p s u h2 => N P p s u h2⟩, fun _ => N P p σ τ h⟩⟩⟩⟩⟩⟩⟩⟩⟩⟩⟩⟩⟩⟩⟩⟩⟩⟩⟩⟩⟩⟩⟩⟩⟩
theorem law_all {adx adm : Nat → Nat} {cy : Nat → ClassId} {σ τ : tw_S} {L : Nat} {xs : Nat → Int32} (hL : L ≤ 3072) (hjx : tg_inj adx 103) (hjm : tg_inj adm 24) (hx : tg_is sx_in adx 103 σ) (hm : tg_is sm_in1 adm 24 τ) : ∃ n, wl_law L xs (tg sx_sk adx cy) (tg sm_sk adm cy) (adx 0) (adm 0) n 0 σ τ :=
  ⟨_, law_run hL (L / 6 + 1) 0 (by omega) (by decide) _ _ σ τ ⟨XI_0 hjx hx, gA_0 hjx, MI_0 hjm hm, rfl, rfl, fun j hj => ⟨fun _ => m_qb j hj, fun _ => rfl⟩⟩⟩
end LA
