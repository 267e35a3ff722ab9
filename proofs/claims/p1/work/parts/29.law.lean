/-! ===== the law: two pools side by side ===== -/
def tl_w (D : va_G) (gx gm : tw_G) (A : Nat → Prop) (s : State) (σ τ : tw_S) (H : Heap) (locs : List Loc) : Prop := tw_w D gx A s σ H locs ∧ tw_w D gm A s τ H locs ∧ ∀ a, a ∈ tw_L gx → a ∈ tw_L gm → False
section TLR
variable {p : Program} {l : Launch} {e : Env} {R : Room} {s : State} {m : MethodId} {args : Array Value} {below : List Frame} {meth : Method} {c : Code} {H : Heap} {locs : List Loc} {cells slots : Nat} {Q : State → Prop} {D : va_G} {gx gm : tw_G} {A : Nat → Prop} {σ τ : tw_S} {pc : Nat} {ls : Array Slot} {rest : List Value}
theorem tl_keep {g1 g2 : tw_G} {σ1 : tw_S} {H1 : Heap} {locs1 : List Loc} (w : tw_w D g2 A s σ1 H locs) (hd : ∀ a, a ∈ tw_L g1 → a ∈ tw_L g2 → False) (hk : ∀ q : Nat, q < H.size → ¬ tw_F g1 H.size q → H1[q]? = H[q]?) (hS : va_S A s.heap H1 locs1) : tw_w D g2 A s σ1 H1 locs1 := by
  refine ⟨w.1.kept fun k q hq => ?_, w.2.1, hS, w.2.2.2⟩
  have hlt := (w.1 k q hq).lt
  refine hk q.1 hlt fun h => ?_
  rcases h with h | h
  · exact hd _ h (tw_pl_in hq)
  · exact absurd hlt (Nat.not_lt.mpr h)
theorem tl_x {Qi : Int32 → tw_S → Prop} {st0 : List Value} {av : Array Value} (w : tl_w D gx gm A s σ τ H locs) (hr : va_Run p l e R s m args below meth c H locs cells slots 0 0 (F0 m pc ls st0) rest (va_Qi Qi (tw_z D gx H.size) (tw_F gx H.size) av) (tw_F gx H.size))
    (kk : ∀ (r : Int32) (σ : tw_S) (H : Heap) (locs : List Loc), Qi r σ → tl_w D gx gm A s σ τ H locs → W p l e R s m args below meth c H locs cells slots Q (F0 m (pc + 3) ls (.int r :: rest))) : W p l e R s m args below meth c H locs cells slots Q (F0 m pc ls st0) :=
  va_calli hr w.1.2.2.1 (fun q _ h => tw_fr w.1 q h) (tw_fr w.1) fun r u t H1 locs1 ht _ hp hz _ hk hS => kk r u H1 locs1 hp ⟨tw_back w.1 ht hz hS, tl_keep w.2.1 w.2.2 hk hS, w.2.2⟩
theorem tl_m {Qi : Int32 → tw_S → Prop} {st0 : List Value} {av : Array Value} (w : tl_w D gx gm A s σ τ H locs) (hr : va_Run p l e R s m args below meth c H locs cells slots 0 0 (F0 m pc ls st0) rest (va_Qi Qi (tw_z D gm H.size) (tw_F gm H.size) av) (tw_F gm H.size))
    (kk : ∀ (r : Int32) (τ : tw_S) (H : Heap) (locs : List Loc), Qi r τ → tl_w D gx gm A s σ τ H locs → W p l e R s m args below meth c H locs cells slots Q (F0 m (pc + 3) ls (.int r :: rest))) : W p l e R s m args below meth c H locs cells slots Q (F0 m pc ls st0) :=
  va_calli hr w.2.1.2.2.1 (fun q _ h => tw_fr w.2.1 q h) (tw_fr w.2.1) fun r u t H1 locs1 ht _ hp hz _ hk hS => kk r u H1 locs1 hp ⟨tl_keep w.1 (fun a h1 h2 => w.2.2 a h2 h1) hk hS, tw_back w.2.1 ht hz hS, w.2.2⟩
end TLR

def wl_law (L : Nat) (xs : Nat → Int32) (gx gm : tw_G) (ax am : Nat) : Nat → Int32 → tw_S → tw_S → Prop
  | 0, _, _, _ => False
  | n + 1, i, σ, τ => ((((Int32.ofNat L) - (6 : Int32)) < i) → True) ∧ (¬ (((Int32.ofNat L) - (6 : Int32)) < i) → vp_in i L ∧ ∀ z2, z2 = ((xs i.toNatClampNeg) &&& (31 : Int32)) → (z2 = 0 → vp_in (i + (1 : Int32)) L ∧ wp_X8_feed gx σ ax (xs (i + (1 : Int32)).toNatClampNeg) (fun r5 σ6 => vp_in (i + (1 : Int32)) L ∧ wp_X9_feed gm τ am (xs (i + (1 : Int32)).toNatClampNeg) (fun r8 τ9 => ((r5 = r8) → wl_law L xs gx gm ax am n (i + 6) σ6 τ9) ∧ (¬ (r5 = r8) → False)))) ∧ (¬ z2 = 0 → (z2 = 1 → vp_in (i + (1 : Int32)) L ∧ wp_X8_machine gx σ ax (xs (i + (1 : Int32)).toNatClampNeg) (fun r13 σ14 => vp_in (i + (1 : Int32)) L ∧ wp_X9_machine gm τ am (xs (i + (1 : Int32)).toNatClampNeg) (fun r16 τ17 => ((r13 = r16) → wl_law L xs gx gm ax am n (i + 6) σ14 τ17) ∧ (¬ (r13 = r16) → False)))) ∧ (¬ z2 = 1 → (z2 = 2 → wp_X8_fault gx σ ax  (fun r20 σ21 => wp_X9_fault gm τ am  (fun r22 τ23 => ((r20 = r22) → wl_law L xs gx gm ax am n (i + 6) σ21 τ23) ∧ (¬ (r20 = r22) → False)))) ∧ (¬ z2 = 2 → (z2 = 3 → vp_in (i + (1 : Int32)) L ∧ vp_in (i + (2 : Int32)) L ∧ vp_in (i + (3 : Int32)) L ∧ vp_in (i + (4 : Int32)) L ∧ vp_in (i + (5 : Int32)) L ∧ wp_X8_move gx σ ax (xs (i + (1 : Int32)).toNatClampNeg) (xs (i + (2 : Int32)).toNatClampNeg) (xs (i + (3 : Int32)).toNatClampNeg) (xs (i + (4 : Int32)).toNatClampNeg) (xs (i + (5 : Int32)).toNatClampNeg) (fun r31 σ32 => vp_in (i + (1 : Int32)) L ∧ vp_in (i + (2 : Int32)) L ∧ vp_in (i + (3 : Int32)) L ∧ vp_in (i + (4 : Int32)) L ∧ vp_in (i + (5 : Int32)) L ∧ wp_X9_move gm τ am (xs (i + (1 : Int32)).toNatClampNeg) (xs (i + (2 : Int32)).toNatClampNeg) (xs (i + (3 : Int32)).toNatClampNeg) (xs (i + (4 : Int32)).toNatClampNeg) (xs (i + (5 : Int32)).toNatClampNeg) (fun r38 τ39 => ((r31 = r38) → wl_law L xs gx gm ax am n (i + 6) σ32 τ39) ∧ (¬ (r31 = r38) → False)))) ∧ (¬ z2 = 3 → (z2 = 4 → vp_in (i + (1 : Int32)) L ∧ vp_in (i + (2 : Int32)) L ∧ vp_in (i + (3 : Int32)) L ∧ wp_X8_none gx σ ax (xs (i + (1 : Int32)).toNatClampNeg) (xs (i + (2 : Int32)).toNatClampNeg) (xs (i + (3 : Int32)).toNatClampNeg) (fun r45 σ46 => vp_in (i + (1 : Int32)) L ∧ vp_in (i + (2 : Int32)) L ∧ vp_in (i + (3 : Int32)) L ∧ wp_X9_none gm τ am (xs (i + (1 : Int32)).toNatClampNeg) (xs (i + (2 : Int32)).toNatClampNeg) (xs (i + (3 : Int32)).toNatClampNeg) (fun r50 τ51 => ((r45 = r50) → wl_law L xs gx gm ax am n (i + 6) σ46 τ51) ∧ (¬ (r45 = r50) → False)))) ∧ (¬ z2 = 4 → (z2 = 5 → vp_in (i + (1 : Int32)) L ∧ vp_in (i + (2 : Int32)) L ∧ wp_X8_states gx σ ax (xs (i + (1 : Int32)).toNatClampNeg) (xs (i + (2 : Int32)).toNatClampNeg) (fun r56 σ57 => vp_in (i + (1 : Int32)) L ∧ vp_in (i + (2 : Int32)) L ∧ wp_X9_states gm τ am (xs (i + (1 : Int32)).toNatClampNeg) (xs (i + (2 : Int32)).toNatClampNeg) (fun r60 τ61 => ((r56 = r60) → wl_law L xs gx gm ax am n (i + 6) σ57 τ61) ∧ (¬ (r56 = r60) → False)))) ∧ (¬ z2 = 5 → (z2 = 6 → vp_in (i + (1 : Int32)) L ∧ vp_in (i + (2 : Int32)) L ∧ wp_X8_drift gx σ ax (xs (i + (1 : Int32)).toNatClampNeg) (xs (i + (2 : Int32)).toNatClampNeg) (fun r66 σ67 => vp_in (i + (1 : Int32)) L ∧ vp_in (i + (2 : Int32)) L ∧ wp_X9_drift gm τ am (xs (i + (1 : Int32)).toNatClampNeg) (xs (i + (2 : Int32)).toNatClampNeg) (fun r70 τ71 => ((r66 = r70) → wl_law L xs gx gm ax am n (i + 6) σ67 τ71) ∧ (¬ (r66 = r70) → False)))) ∧ (¬ z2 = 6 → (z2 = 7 → wp_X8_swap gx σ ax  (fun r74 σ75 => wp_X9_swap gm τ am  (fun r76 τ77 => ((r74 = r76) → wl_law L xs gx gm ax am n (i + 6) σ75 τ77) ∧ (¬ (r74 = r76) → False)))) ∧ (¬ z2 = 7 → (z2 = 8 → wp_X8_undo gx σ ax  (fun r80 σ81 => wp_X9_undo gm τ am  (fun r82 τ83 => ((r80 = r82) → wl_law L xs gx gm ax am n (i + 6) σ81 τ83) ∧ (¬ (r80 = r82) → False)))) ∧ (¬ z2 = 8 → (z2 = 9 → vp_in (i + (1 : Int32)) L ∧ vp_in (i + (2 : Int32)) L ∧ vp_in (i + (3 : Int32)) L ∧ wp_X8_moveOf gx σ ax (xs (i + (1 : Int32)).toNatClampNeg) (xs (i + (2 : Int32)).toNatClampNeg) (xs (i + (3 : Int32)).toNatClampNeg) (fun r89 σ90 => vp_in (i + (1 : Int32)) L ∧ vp_in (i + (2 : Int32)) L ∧ vp_in (i + (3 : Int32)) L ∧ wp_X9_moveOf gm τ am (xs (i + (1 : Int32)).toNatClampNeg) (xs (i + (2 : Int32)).toNatClampNeg) (xs (i + (3 : Int32)).toNatClampNeg) (fun r94 τ95 => ((r89 = r94) → wl_law L xs gx gm ax am n (i + 6) σ90 τ95) ∧ (¬ (r89 = r94) → False)))) ∧ (¬ z2 = 9 → (z2 = 10 → vp_in (i + (1 : Int32)) L ∧ wp_X8_letter gx σ ax (xs (i + (1 : Int32)).toNatClampNeg) (fun r99 σ100 => vp_in (i + (1 : Int32)) L ∧ wp_X9_letter gm τ am (xs (i + (1 : Int32)).toNatClampNeg) (fun r102 τ103 => ((r99 = r102) → wl_law L xs gx gm ax am n (i + 6) σ100 τ103) ∧ (¬ (r99 = r102) → False)))) ∧ (¬ z2 = 10 → (z2 = 11 → vp_in (i + (1 : Int32)) L ∧ wp_X8_word gx σ ax (xs (i + (1 : Int32)).toNatClampNeg) (fun r107 σ108 => vp_in (i + (1 : Int32)) L ∧ wp_X9_word gm τ am (xs (i + (1 : Int32)).toNatClampNeg) (fun r110 τ111 => ((r107 = r110) → wl_law L xs gx gm ax am n (i + 6) σ108 τ111) ∧ (¬ (r107 = r110) → False)))) ∧ (¬ z2 = 11 → (z2 = 12 → wp_X8_wipe gx σ ax  (fun r114 σ115 => wp_X9_wipe gm τ am  (fun r116 τ117 => ((r114 = r116) → wl_law L xs gx gm ax am n (i + 6) σ115 τ117) ∧ (¬ (r114 = r116) → False)))) ∧ (¬ z2 = 12 → (z2 = 13 → vp_in (i + (1 : Int32)) L ∧ wp_X8_told gx σ ax (xs (i + (1 : Int32)).toNatClampNeg) (fun r121 σ122 => vp_in (i + (1 : Int32)) L ∧ wp_X9_told gm τ am (xs (i + (1 : Int32)).toNatClampNeg) (fun r124 τ125 => ((r121 = r124) → wl_law L xs gx gm ax am n (i + 6) σ122 τ125) ∧ (¬ (r121 = r124) → False)))) ∧ (¬ z2 = 13 → (z2 = 14 → vp_in (i + (1 : Int32)) L ∧ vp_in (i + (2 : Int32)) L ∧ wp_X8_run gx σ ax (xs (i + (1 : Int32)).toNatClampNeg) (xs (i + (2 : Int32)).toNatClampNeg) (fun r130 σ131 => vp_in (i + (1 : Int32)) L ∧ vp_in (i + (2 : Int32)) L ∧ wp_X9_run gm τ am (xs (i + (1 : Int32)).toNatClampNeg) (xs (i + (2 : Int32)).toNatClampNeg) (fun r134 τ135 => ((r130 = r134) → wl_law L xs gx gm ax am n (i + 6) σ131 τ135) ∧ (¬ (r130 = r134) → False)))) ∧ (¬ z2 = 14 → (z2 = 15 → vp_in (i + (1 : Int32)) L ∧ vp_in (i + (2 : Int32)) L ∧ vp_in (i + (3 : Int32)) L ∧ wp_X8_crossed gx σ ax (xs (i + (1 : Int32)).toNatClampNeg) (xs (i + (2 : Int32)).toNatClampNeg) (xs (i + (3 : Int32)).toNatClampNeg) (fun r141 σ142 => vp_in (i + (1 : Int32)) L ∧ vp_in (i + (2 : Int32)) L ∧ vp_in (i + (3 : Int32)) L ∧ wp_X9_crossed gm τ am (xs (i + (1 : Int32)).toNatClampNeg) (xs (i + (2 : Int32)).toNatClampNeg) (xs (i + (3 : Int32)).toNatClampNeg) (fun r146 τ147 => ((r141 = r146) → wl_law L xs gx gm ax am n (i + 6) σ142 τ147) ∧ (¬ (r141 = r146) → False)))) ∧ (¬ z2 = 15 → (z2 = 16 → vp_in (i + (1 : Int32)) L ∧ vp_in (i + (2 : Int32)) L ∧ vp_in (i + (3 : Int32)) L ∧ vp_in (i + (4 : Int32)) L ∧ vp_in (i + (5 : Int32)) L ∧ wp_X8_table gx σ ax (xs (i + (1 : Int32)).toNatClampNeg) (xs (i + (2 : Int32)).toNatClampNeg) (xs (i + (3 : Int32)).toNatClampNeg) (xs (i + (4 : Int32)).toNatClampNeg) (xs (i + (5 : Int32)).toNatClampNeg) (fun r155 σ156 => vp_in (i + (1 : Int32)) L ∧ vp_in (i + (2 : Int32)) L ∧ vp_in (i + (3 : Int32)) L ∧ vp_in (i + (4 : Int32)) L ∧ vp_in (i + (5 : Int32)) L ∧ wp_X9_table gm τ am (xs (i + (1 : Int32)).toNatClampNeg) (xs (i + (2 : Int32)).toNatClampNeg) (xs (i + (3 : Int32)).toNatClampNeg) (xs (i + (4 : Int32)).toNatClampNeg) (xs (i + (5 : Int32)).toNatClampNeg) (fun r162 τ163 => ((r155 = r162) → wl_law L xs gx gm ax am n (i + 6) σ156 τ163) ∧ (¬ (r155 = r162) → False)))) ∧ (¬ z2 = 16 → (z2 = 17 → vp_in (i + (1 : Int32)) L ∧ vp_in (i + (2 : Int32)) L ∧ vp_in (i + (3 : Int32)) L ∧ vp_in (i + (4 : Int32)) L ∧ vp_in (i + (5 : Int32)) L ∧ wp_X8_alike gx σ ax (xs (i + (1 : Int32)).toNatClampNeg) (xs (i + (2 : Int32)).toNatClampNeg) (xs (i + (3 : Int32)).toNatClampNeg) (xs (i + (4 : Int32)).toNatClampNeg) (xs (i + (5 : Int32)).toNatClampNeg) (fun r171 σ172 => vp_in (i + (1 : Int32)) L ∧ vp_in (i + (2 : Int32)) L ∧ vp_in (i + (3 : Int32)) L ∧ vp_in (i + (4 : Int32)) L ∧ vp_in (i + (5 : Int32)) L ∧ wp_X9_alike gm τ am (xs (i + (1 : Int32)).toNatClampNeg) (xs (i + (2 : Int32)).toNatClampNeg) (xs (i + (3 : Int32)).toNatClampNeg) (xs (i + (4 : Int32)).toNatClampNeg) (xs (i + (5 : Int32)).toNatClampNeg) (fun r178 τ179 => ((r171 = r178) → wl_law L xs gx gm ax am n (i + 6) σ172 τ179) ∧ (¬ (r171 = r178) → False)))) ∧ (¬ z2 = 17 → (z2 = 18 → vp_in (i + (1 : Int32)) L ∧ vp_in (i + (2 : Int32)) L ∧ wp_X8_ofMachine gx σ ax (xs (i + (1 : Int32)).toNatClampNeg) (xs (i + (2 : Int32)).toNatClampNeg) (fun r184 σ185 => vp_in (i + (1 : Int32)) L ∧ vp_in (i + (2 : Int32)) L ∧ wp_X9_ofMachine gm τ am (xs (i + (1 : Int32)).toNatClampNeg) (xs (i + (2 : Int32)).toNatClampNeg) (fun r188 τ189 => ((r184 = r188) → wl_law L xs gx gm ax am n (i + 6) σ185 τ189) ∧ (¬ (r184 = r188) → False)))) ∧ (¬ z2 = 18 → (z2 = 19 → vp_in (i + (1 : Int32)) L ∧ vp_in (i + (2 : Int32)) L ∧ vp_in (i + (3 : Int32)) L ∧ wp_X8_oneWay gx σ ax (xs (i + (1 : Int32)).toNatClampNeg) (xs (i + (2 : Int32)).toNatClampNeg) (xs (i + (3 : Int32)).toNatClampNeg) (fun r195 σ196 => vp_in (i + (1 : Int32)) L ∧ vp_in (i + (2 : Int32)) L ∧ vp_in (i + (3 : Int32)) L ∧ wp_X9_oneWay gm τ am (xs (i + (1 : Int32)).toNatClampNeg) (xs (i + (2 : Int32)).toNatClampNeg) (xs (i + (3 : Int32)).toNatClampNeg) (fun r200 τ201 => ((r195 = r200) → wl_law L xs gx gm ax am n (i + 6) σ196 τ201) ∧ (¬ (r195 = r200) → False)))) ∧ (¬ z2 = 19 → (z2 = 20 → vp_in (i + (1 : Int32)) L ∧ vp_in (i + (2 : Int32)) L ∧ wp_X8_taken gx σ ax (xs (i + (1 : Int32)).toNatClampNeg) (xs (i + (2 : Int32)).toNatClampNeg) (fun r206 σ207 => vp_in (i + (1 : Int32)) L ∧ vp_in (i + (2 : Int32)) L ∧ wp_X9_taken gm τ am (xs (i + (1 : Int32)).toNatClampNeg) (xs (i + (2 : Int32)).toNatClampNeg) (fun r210 τ211 => ((r206 = r210) → wl_law L xs gx gm ax am n (i + 6) σ207 τ211) ∧ (¬ (r206 = r210) → False)))) ∧ (¬ z2 = 20 → (z2 = 21 → vp_in (i + (1 : Int32)) L ∧ wp_X8_first gx σ ax (xs (i + (1 : Int32)).toNatClampNeg) (fun r215 σ216 => vp_in (i + (1 : Int32)) L ∧ wp_X9_first gm τ am (xs (i + (1 : Int32)).toNatClampNeg) (fun r218 τ219 => ((r215 = r218) → wl_law L xs gx gm ax am n (i + 6) σ216 τ219) ∧ (¬ (r215 = r218) → False)))) ∧ (¬ z2 = 21 → (z2 = 22 → vp_in (i + (1 : Int32)) L ∧ vp_in (i + (2 : Int32)) L ∧ wp_X8_turned gx σ ax (xs (i + (1 : Int32)).toNatClampNeg) (xs (i + (2 : Int32)).toNatClampNeg) (fun r224 σ225 => vp_in (i + (1 : Int32)) L ∧ vp_in (i + (2 : Int32)) L ∧ wp_X9_turned gm τ am (xs (i + (1 : Int32)).toNatClampNeg) (xs (i + (2 : Int32)).toNatClampNeg) (fun r228 τ229 => ((r224 = r228) → wl_law L xs gx gm ax am n (i + 6) σ225 τ229) ∧ (¬ (r224 = r228) → False)))) ∧ (¬ z2 = 22 → (z2 = 23 → vp_in (i + (1 : Int32)) L ∧ wp_X8_keep gx σ ax (xs (i + (1 : Int32)).toNatClampNeg) (fun r233 σ234 => vp_in (i + (1 : Int32)) L ∧ wp_X9_keep gm τ am (xs (i + (1 : Int32)).toNatClampNeg) (fun r236 τ237 => ((r233 = r236) → wl_law L xs gx gm ax am n (i + 6) σ234 τ237) ∧ (¬ (r233 = r236) → False)))) ∧ (¬ z2 = 23 → (z2 = 24 → vp_in (i + (1 : Int32)) L ∧ wp_X8_goBack gx σ ax (xs (i + (1 : Int32)).toNatClampNeg) (fun r241 σ242 => vp_in (i + (1 : Int32)) L ∧ wp_X9_goBack gm τ am (xs (i + (1 : Int32)).toNatClampNeg) (fun r244 τ245 => ((r241 = r244) → wl_law L xs gx gm ax am n (i + 6) σ242 τ245) ∧ (¬ (r241 = r244) → False)))) ∧ (¬ z2 = 24 → wl_law L xs gx gm ax am n (i + 6) σ τ))))))))))))))))))))))))))
set_option maxHeartbeats 8000000 in
set_option maxRecDepth 100000 in
theorem lp_law {p : Program} {l : Launch} {e : Env} {s : State} {m : MethodId} {below : List Frame} {meth : Method} {c : Code} {D : va_G} {gx gm : tw_G} {b L ax am : Nat} {xs : Nat → Int32} (X : CallFix p m c cL_law 4 s #[Value.ref b] wsL_law RL) (hr : meth.sig.returnType = ret) (hlk : meth.locks = false) (hX : va_X b L xs s s.heap) (hbl : b < s.heap.size) (hKx : tw_k D gx s) (hKm : tw_k D gm s) (hTx : tw_T gx) (hTm : tw_T gm) (hax : tw_is gx 8 ax) (ham : tw_is gm 9 am) : ∀ (n : Nat) (i : Int32) (σ τ : tw_S) (H : Heap) (locs : List Loc) (ls : Array Slot), wl_law L xs gx gm ax am n i σ τ → tl_w D gx gm (fun q : Nat => s.heap.size ≤ q) s σ τ H locs → lv_has ls 4 [(0, .ref b), (1, .ref ax), (2, .ref am), (3, .int i)] → W p l e room_1 s m #[Value.ref b] below meth c H locs 127 106587 (lw_Z below #[Value.ref b] s) (F0 m 18 ls []) := by
  have hbA : ¬ (fun q : Nat => s.heap.size ≤ q) b := Nat.not_le.mpr hbl
  intro n
  induction n with
  | zero =>
    intro i σ τ H locs ls h w hl
    exact False.elim h
  | succ n ih =>
    intro i σ τ H locs ls h w hl
    rw [wl_law] at h
    refine lv_iload_n X.1 X.2.1 dL_law_18 rfl (lv_at hl 3 rfl) ?_
    refine lv_aload_n X.1 X.2.1 dL_law_19 rfl (lv_at hl 0 rfl) ?_
    refine va_slen X.1 X.2.1 hX hbl hbA w.1.2.2.1 dL_law_20 ?_
    refine lv_bipush (v := 6) X.1 X.2.1 dL_law_21 (by decide) ?_
    refine lv_isub X.1 X.2.1 dL_law_23 ?_
    refine lv_icmp_gt (tgt := 949) X.1 X.2.1 dL_law_24 (by decide) (fun c0 => ?_) (fun c0 => ?_)
    · have h := h.1 c0
      refine lv_iconst (v := 1) X.1 X.2.1 dL_law_949 (by decide) ?_
      refine va_forget (fun q hq => w.1.2.2.1.2.2 q hq) ?_
      refine W.widen (k := 600000) (n := 7302250) (Nat.le_of_ble_eq_true rfl) (Nat.le_of_ble_eq_true rfl) ?_
      exact lw_ret X.1 X.2.1 hr hlk dL_law_950
    · have h := h.2 c0
      refine lv_aload_n X.1 X.2.1 dL_law_27 rfl (lv_at hl 0 rfl) ?_
      refine lv_iload_n X.1 X.2.1 dL_law_28 rfl (lv_at hl 3 rfl) ?_
      obtain ⟨hi1, h⟩ := h
      refine va_sld X.1 X.2.1 hX hbl hbA w.1.2.2.1 hi1 dL_law_29 ?_
      refine lv_bipush (v := 31) X.1 X.2.1 dL_law_30 (by decide) ?_
      refine lv_iand X.1 X.2.1 dL_law_32 ?_
      refine lv_topi (fun z2 ez2 => ?_)
      have h := h _ ez2
      by_cases c3 : z2 = 0
      · have h := h.1 c3
        refine lv_tableIn (off := 115) (tgt := 148) X.1 X.2.1 dL_law_33 (by rw [c3] <;> decide) (by rw [c3] <;> decide) (by rw [c3] <;> decide) (by decide) ?_
        refine lv_aload_n X.1 X.2.1 dL_law_148 rfl (lv_at hl 1 rfl) ?_
        refine lv_aload_n X.1 X.2.1 dL_law_149 rfl (lv_at hl 0 rfl) ?_
        refine lv_iload_n X.1 X.2.1 dL_law_150 rfl (lv_at hl 3 rfl) ?_
        refine lv_iconst (v := 1) X.1 X.2.1 dL_law_151 (by decide) ?_
        refine lv_iadd X.1 X.2.1 dL_law_152 ?_
        obtain ⟨hi4, h⟩ := h
        refine va_sld X.1 X.2.1 hX hbl hbA w.1.2.2.1 hi4 dL_law_153 ?_
        refine tl_x w (va_runV (As := [.int (xs (i + (1 : Int32)).toNatClampNeg)]) (rest := []) X (ct_X8_feed l D gx hTx _ σ ax hax (xs (i + (1 : Int32)).toNatClampNeg) _ h) (cwV 1 X.2.2.2.2 gL_law_X8_feed rfl rfl rfl (by decide +kernel) ⟨(Nat.le_of_ble_eq_true rfl), (Nat.le_of_ble_eq_true rfl)⟩) (tw_preV hKx w.1 hax (by decide) rfl [.int (xs (i + (1 : Int32)).toNatClampNeg)]) rfl rfl hl.1 rfl (lv_room (Nat.le_of_ble_eq_true rfl)) dL_law_154 ⟨(Nat.le_of_ble_eq_true rfl), (Nat.le_of_ble_eq_true rfl)⟩) (fun r5 σ6 H locs h w => ?_)
        refine lv_aload_n X.1 X.2.1 dL_law_157 rfl (lv_at hl 2 rfl) ?_
        refine lv_aload_n X.1 X.2.1 dL_law_158 rfl (lv_at hl 0 rfl) ?_
        refine lv_iload_n X.1 X.2.1 dL_law_159 rfl (lv_at hl 3 rfl) ?_
        refine lv_iconst (v := 1) X.1 X.2.1 dL_law_160 (by decide) ?_
        refine lv_iadd X.1 X.2.1 dL_law_161 ?_
        obtain ⟨hi7, h⟩ := h
        refine va_sld X.1 X.2.1 hX hbl hbA w.1.2.2.1 hi7 dL_law_162 ?_
        refine tl_m w (va_runV (As := [.int (xs (i + (1 : Int32)).toNatClampNeg)]) (rest := [.int r5]) X (ct_X9_feed l D gm hTm _ τ am ham (xs (i + (1 : Int32)).toNatClampNeg) _ h) (cwV 1 X.2.2.2.2 gL_law_X9_feed rfl rfl rfl (by decide +kernel) ⟨(Nat.le_of_ble_eq_true rfl), (Nat.le_of_ble_eq_true rfl)⟩) (tw_preV hKm w.2.1 ham (by decide) rfl [.int (xs (i + (1 : Int32)).toNatClampNeg)]) rfl rfl hl.1 rfl (lv_room (Nat.le_of_ble_eq_true rfl)) dL_law_163 ⟨(Nat.le_of_ble_eq_true rfl), (Nat.le_of_ble_eq_true rfl)⟩) (fun r8 τ9 H locs h w => ?_)
        refine lv_icmp_eq (tgt := 943) X.1 X.2.1 dL_law_166 (by decide) (fun c10 => ?_) (fun c10 => ?_)
        · have h := h.1 c10
          refine lv_iinc (v := (i + 6)) (lv' := [(3, .int (i + 6)), (0, .ref b), (1, .ref ax), (2, .ref am)]) X.1 X.2.1 dL_law_943 hl (k := 3) rfl rfl (by decide) rfl (fun ls hl => ?_)
          refine lv_goto (tgt := 18) X.1 X.2.1 dL_law_946 (by decide) ?_
          exact ih (i + 6) σ6 τ9 _ _ ls h w (lv_sub hl [1, 2, 3, 0] rfl)
        · have h := h.2 c10
          refine lv_iconst (v := 0) X.1 X.2.1 dL_law_169 (by decide) ?_
          exact False.elim h
      have h := h.2 c3
      by_cases c11 : z2 = 1
      · have h := h.1 c11
        refine lv_tableIn (off := 138) (tgt := 171) X.1 X.2.1 dL_law_33 (by rw [c11] <;> decide) (by rw [c11] <;> decide) (by rw [c11] <;> decide) (by decide) ?_
        refine lv_aload_n X.1 X.2.1 dL_law_171 rfl (lv_at hl 1 rfl) ?_
        refine lv_aload_n X.1 X.2.1 dL_law_172 rfl (lv_at hl 0 rfl) ?_
        refine lv_iload_n X.1 X.2.1 dL_law_173 rfl (lv_at hl 3 rfl) ?_
        refine lv_iconst (v := 1) X.1 X.2.1 dL_law_174 (by decide) ?_
        refine lv_iadd X.1 X.2.1 dL_law_175 ?_
        obtain ⟨hi12, h⟩ := h
        refine va_sld X.1 X.2.1 hX hbl hbA w.1.2.2.1 hi12 dL_law_176 ?_
        refine tl_x w (va_runV (As := [.int (xs (i + (1 : Int32)).toNatClampNeg)]) (rest := []) X (ct_X8_machine l D gx hTx _ σ ax hax (xs (i + (1 : Int32)).toNatClampNeg) _ h) (cwV 1 X.2.2.2.2 gL_law_X8_machine rfl rfl rfl (by decide +kernel) ⟨(Nat.le_of_ble_eq_true rfl), (Nat.le_of_ble_eq_true rfl)⟩) (tw_preV hKx w.1 hax (by decide) rfl [.int (xs (i + (1 : Int32)).toNatClampNeg)]) rfl rfl hl.1 rfl (lv_room (Nat.le_of_ble_eq_true rfl)) dL_law_177 ⟨(Nat.le_of_ble_eq_true rfl), (Nat.le_of_ble_eq_true rfl)⟩) (fun r13 σ14 H locs h w => ?_)
        refine lv_aload_n X.1 X.2.1 dL_law_180 rfl (lv_at hl 2 rfl) ?_
        refine lv_aload_n X.1 X.2.1 dL_law_181 rfl (lv_at hl 0 rfl) ?_
        refine lv_iload_n X.1 X.2.1 dL_law_182 rfl (lv_at hl 3 rfl) ?_
        refine lv_iconst (v := 1) X.1 X.2.1 dL_law_183 (by decide) ?_
        refine lv_iadd X.1 X.2.1 dL_law_184 ?_
        obtain ⟨hi15, h⟩ := h
        refine va_sld X.1 X.2.1 hX hbl hbA w.1.2.2.1 hi15 dL_law_185 ?_
        refine tl_m w (va_runV (As := [.int (xs (i + (1 : Int32)).toNatClampNeg)]) (rest := [.int r13]) X (ct_X9_machine l D gm hTm _ τ am ham (xs (i + (1 : Int32)).toNatClampNeg) _ h) (cwV 1 X.2.2.2.2 gL_law_X9_machine rfl rfl rfl (by decide +kernel) ⟨(Nat.le_of_ble_eq_true rfl), (Nat.le_of_ble_eq_true rfl)⟩) (tw_preV hKm w.2.1 ham (by decide) rfl [.int (xs (i + (1 : Int32)).toNatClampNeg)]) rfl rfl hl.1 rfl (lv_room (Nat.le_of_ble_eq_true rfl)) dL_law_186 ⟨(Nat.le_of_ble_eq_true rfl), (Nat.le_of_ble_eq_true rfl)⟩) (fun r16 τ17 H locs h w => ?_)
        refine lv_icmp_eq (tgt := 943) X.1 X.2.1 dL_law_189 (by decide) (fun c18 => ?_) (fun c18 => ?_)
        · have h := h.1 c18
          refine lv_iinc (v := (i + 6)) (lv' := [(3, .int (i + 6)), (0, .ref b), (1, .ref ax), (2, .ref am)]) X.1 X.2.1 dL_law_943 hl (k := 3) rfl rfl (by decide) rfl (fun ls hl => ?_)
          refine lv_goto (tgt := 18) X.1 X.2.1 dL_law_946 (by decide) ?_
          exact ih (i + 6) σ14 τ17 _ _ ls h w (lv_sub hl [1, 2, 3, 0] rfl)
        · have h := h.2 c18
          refine lv_iconst (v := 0) X.1 X.2.1 dL_law_192 (by decide) ?_
          exact False.elim h
      have h := h.2 c11
      by_cases c19 : z2 = 2
      · have h := h.1 c19
        refine lv_tableIn (off := 161) (tgt := 194) X.1 X.2.1 dL_law_33 (by rw [c19] <;> decide) (by rw [c19] <;> decide) (by rw [c19] <;> decide) (by decide) ?_
        refine lv_aload_n X.1 X.2.1 dL_law_194 rfl (lv_at hl 1 rfl) ?_
        refine tl_x w (va_runV (As := []) (rest := []) X (ct_X8_fault l D gx hTx _ σ ax hax  _ h) (cwV 0 X.2.2.2.2 gL_law_X8_fault rfl rfl rfl (by decide +kernel) ⟨(Nat.le_of_ble_eq_true rfl), (Nat.le_of_ble_eq_true rfl)⟩) (tw_preV hKx w.1 hax (by decide) rfl []) rfl rfl hl.1 rfl (lv_room (Nat.le_of_ble_eq_true rfl)) dL_law_195 ⟨(Nat.le_of_ble_eq_true rfl), (Nat.le_of_ble_eq_true rfl)⟩) (fun r20 σ21 H locs h w => ?_)
        refine lv_aload_n X.1 X.2.1 dL_law_198 rfl (lv_at hl 2 rfl) ?_
        refine tl_m w (va_runV (As := []) (rest := [.int r20]) X (ct_X9_fault l D gm hTm _ τ am ham  _ h) (cwV 0 X.2.2.2.2 gL_law_X9_fault rfl rfl rfl (by decide +kernel) ⟨(Nat.le_of_ble_eq_true rfl), (Nat.le_of_ble_eq_true rfl)⟩) (tw_preV hKm w.2.1 ham (by decide) rfl []) rfl rfl hl.1 rfl (lv_room (Nat.le_of_ble_eq_true rfl)) dL_law_199 ⟨(Nat.le_of_ble_eq_true rfl), (Nat.le_of_ble_eq_true rfl)⟩) (fun r22 τ23 H locs h w => ?_)
        refine lv_icmp_eq (tgt := 943) X.1 X.2.1 dL_law_202 (by decide) (fun c24 => ?_) (fun c24 => ?_)
        · have h := h.1 c24
          refine lv_iinc (v := (i + 6)) (lv' := [(3, .int (i + 6)), (0, .ref b), (1, .ref ax), (2, .ref am)]) X.1 X.2.1 dL_law_943 hl (k := 3) rfl rfl (by decide) rfl (fun ls hl => ?_)
          refine lv_goto (tgt := 18) X.1 X.2.1 dL_law_946 (by decide) ?_
          exact ih (i + 6) σ21 τ23 _ _ ls h w (lv_sub hl [1, 2, 3, 0] rfl)
        · have h := h.2 c24
          refine lv_iconst (v := 0) X.1 X.2.1 dL_law_205 (by decide) ?_
          exact False.elim h
      have h := h.2 c19
      by_cases c25 : z2 = 3
      · have h := h.1 c25
        refine lv_tableIn (off := 174) (tgt := 207) X.1 X.2.1 dL_law_33 (by rw [c25] <;> decide) (by rw [c25] <;> decide) (by rw [c25] <;> decide) (by decide) ?_
        refine lv_aload_n X.1 X.2.1 dL_law_207 rfl (lv_at hl 1 rfl) ?_
        refine lv_aload_n X.1 X.2.1 dL_law_208 rfl (lv_at hl 0 rfl) ?_
        refine lv_iload_n X.1 X.2.1 dL_law_209 rfl (lv_at hl 3 rfl) ?_
        refine lv_iconst (v := 1) X.1 X.2.1 dL_law_210 (by decide) ?_
        refine lv_iadd X.1 X.2.1 dL_law_211 ?_
        obtain ⟨hi26, h⟩ := h
        refine va_sld X.1 X.2.1 hX hbl hbA w.1.2.2.1 hi26 dL_law_212 ?_
        refine lv_aload_n X.1 X.2.1 dL_law_213 rfl (lv_at hl 0 rfl) ?_
        refine lv_iload_n X.1 X.2.1 dL_law_214 rfl (lv_at hl 3 rfl) ?_
        refine lv_iconst (v := 2) X.1 X.2.1 dL_law_215 (by decide) ?_
        refine lv_iadd X.1 X.2.1 dL_law_216 ?_
        obtain ⟨hi27, h⟩ := h
        refine va_sld X.1 X.2.1 hX hbl hbA w.1.2.2.1 hi27 dL_law_217 ?_
        refine lv_aload_n X.1 X.2.1 dL_law_218 rfl (lv_at hl 0 rfl) ?_
        refine lv_iload_n X.1 X.2.1 dL_law_219 rfl (lv_at hl 3 rfl) ?_
        refine lv_iconst (v := 3) X.1 X.2.1 dL_law_220 (by decide) ?_
        refine lv_iadd X.1 X.2.1 dL_law_221 ?_
        obtain ⟨hi28, h⟩ := h
        refine va_sld X.1 X.2.1 hX hbl hbA w.1.2.2.1 hi28 dL_law_222 ?_
        refine lv_aload_n X.1 X.2.1 dL_law_223 rfl (lv_at hl 0 rfl) ?_
        refine lv_iload_n X.1 X.2.1 dL_law_224 rfl (lv_at hl 3 rfl) ?_
        refine lv_iconst (v := 4) X.1 X.2.1 dL_law_225 (by decide) ?_
        refine lv_iadd X.1 X.2.1 dL_law_226 ?_
        obtain ⟨hi29, h⟩ := h
        refine va_sld X.1 X.2.1 hX hbl hbA w.1.2.2.1 hi29 dL_law_227 ?_
        refine lv_aload_n X.1 X.2.1 dL_law_228 rfl (lv_at hl 0 rfl) ?_
        refine lv_iload_n X.1 X.2.1 dL_law_229 rfl (lv_at hl 3 rfl) ?_
        refine lv_iconst (v := 5) X.1 X.2.1 dL_law_230 (by decide) ?_
        refine lv_iadd X.1 X.2.1 dL_law_231 ?_
        obtain ⟨hi30, h⟩ := h
        refine va_sld X.1 X.2.1 hX hbl hbA w.1.2.2.1 hi30 dL_law_232 ?_
        refine tl_x w (va_runV (As := [.int (xs (i + (1 : Int32)).toNatClampNeg), .int (xs (i + (2 : Int32)).toNatClampNeg), .int (xs (i + (3 : Int32)).toNatClampNeg), .int (xs (i + (4 : Int32)).toNatClampNeg), .int (xs (i + (5 : Int32)).toNatClampNeg)]) (rest := []) X (ct_X8_move l D gx hTx _ σ ax hax (xs (i + (1 : Int32)).toNatClampNeg) (xs (i + (2 : Int32)).toNatClampNeg) (xs (i + (3 : Int32)).toNatClampNeg) (xs (i + (4 : Int32)).toNatClampNeg) (xs (i + (5 : Int32)).toNatClampNeg) _ h) (cwV 5 X.2.2.2.2 gL_law_X8_move rfl rfl rfl (by decide +kernel) ⟨(Nat.le_of_ble_eq_true rfl), (Nat.le_of_ble_eq_true rfl)⟩) (tw_preV hKx w.1 hax (by decide) rfl [.int (xs (i + (1 : Int32)).toNatClampNeg), .int (xs (i + (2 : Int32)).toNatClampNeg), .int (xs (i + (3 : Int32)).toNatClampNeg), .int (xs (i + (4 : Int32)).toNatClampNeg), .int (xs (i + (5 : Int32)).toNatClampNeg)]) rfl rfl hl.1 rfl (lv_room (Nat.le_of_ble_eq_true rfl)) dL_law_233 ⟨(Nat.le_of_ble_eq_true rfl), (Nat.le_of_ble_eq_true rfl)⟩) (fun r31 σ32 H locs h w => ?_)
        refine lv_aload_n X.1 X.2.1 dL_law_236 rfl (lv_at hl 2 rfl) ?_
        refine lv_aload_n X.1 X.2.1 dL_law_237 rfl (lv_at hl 0 rfl) ?_
        refine lv_iload_n X.1 X.2.1 dL_law_238 rfl (lv_at hl 3 rfl) ?_
        refine lv_iconst (v := 1) X.1 X.2.1 dL_law_239 (by decide) ?_
        refine lv_iadd X.1 X.2.1 dL_law_240 ?_
        obtain ⟨hi33, h⟩ := h
        refine va_sld X.1 X.2.1 hX hbl hbA w.1.2.2.1 hi33 dL_law_241 ?_
        refine lv_aload_n X.1 X.2.1 dL_law_242 rfl (lv_at hl 0 rfl) ?_
        refine lv_iload_n X.1 X.2.1 dL_law_243 rfl (lv_at hl 3 rfl) ?_
        refine lv_iconst (v := 2) X.1 X.2.1 dL_law_244 (by decide) ?_
        refine lv_iadd X.1 X.2.1 dL_law_245 ?_
        obtain ⟨hi34, h⟩ := h
        refine va_sld X.1 X.2.1 hX hbl hbA w.1.2.2.1 hi34 dL_law_246 ?_
        refine lv_aload_n X.1 X.2.1 dL_law_247 rfl (lv_at hl 0 rfl) ?_
        refine lv_iload_n X.1 X.2.1 dL_law_248 rfl (lv_at hl 3 rfl) ?_
        refine lv_iconst (v := 3) X.1 X.2.1 dL_law_249 (by decide) ?_
        refine lv_iadd X.1 X.2.1 dL_law_250 ?_
        obtain ⟨hi35, h⟩ := h
        refine va_sld X.1 X.2.1 hX hbl hbA w.1.2.2.1 hi35 dL_law_251 ?_
        refine lv_aload_n X.1 X.2.1 dL_law_252 rfl (lv_at hl 0 rfl) ?_
        refine lv_iload_n X.1 X.2.1 dL_law_253 rfl (lv_at hl 3 rfl) ?_
        refine lv_iconst (v := 4) X.1 X.2.1 dL_law_254 (by decide) ?_
        refine lv_iadd X.1 X.2.1 dL_law_255 ?_
        obtain ⟨hi36, h⟩ := h
        refine va_sld X.1 X.2.1 hX hbl hbA w.1.2.2.1 hi36 dL_law_256 ?_
        refine lv_aload_n X.1 X.2.1 dL_law_257 rfl (lv_at hl 0 rfl) ?_
        refine lv_iload_n X.1 X.2.1 dL_law_258 rfl (lv_at hl 3 rfl) ?_
        refine lv_iconst (v := 5) X.1 X.2.1 dL_law_259 (by decide) ?_
        refine lv_iadd X.1 X.2.1 dL_law_260 ?_
        obtain ⟨hi37, h⟩ := h
        refine va_sld X.1 X.2.1 hX hbl hbA w.1.2.2.1 hi37 dL_law_261 ?_
        refine tl_m w (va_runV (As := [.int (xs (i + (1 : Int32)).toNatClampNeg), .int (xs (i + (2 : Int32)).toNatClampNeg), .int (xs (i + (3 : Int32)).toNatClampNeg), .int (xs (i + (4 : Int32)).toNatClampNeg), .int (xs (i + (5 : Int32)).toNatClampNeg)]) (rest := [.int r31]) X (ct_X9_move l D gm hTm _ τ am ham (xs (i + (1 : Int32)).toNatClampNeg) (xs (i + (2 : Int32)).toNatClampNeg) (xs (i + (3 : Int32)).toNatClampNeg) (xs (i + (4 : Int32)).toNatClampNeg) (xs (i + (5 : Int32)).toNatClampNeg) _ h) (cwV 5 X.2.2.2.2 gL_law_X9_move rfl rfl rfl (by decide +kernel) ⟨(Nat.le_of_ble_eq_true rfl), (Nat.le_of_ble_eq_true rfl)⟩) (tw_preV hKm w.2.1 ham (by decide) rfl [.int (xs (i + (1 : Int32)).toNatClampNeg), .int (xs (i + (2 : Int32)).toNatClampNeg), .int (xs (i + (3 : Int32)).toNatClampNeg), .int (xs (i + (4 : Int32)).toNatClampNeg), .int (xs (i + (5 : Int32)).toNatClampNeg)]) rfl rfl hl.1 rfl (lv_room (Nat.le_of_ble_eq_true rfl)) dL_law_262 ⟨(Nat.le_of_ble_eq_true rfl), (Nat.le_of_ble_eq_true rfl)⟩) (fun r38 τ39 H locs h w => ?_)
        refine lv_icmp_eq (tgt := 943) X.1 X.2.1 dL_law_265 (by decide) (fun c40 => ?_) (fun c40 => ?_)
        · have h := h.1 c40
          refine lv_iinc (v := (i + 6)) (lv' := [(3, .int (i + 6)), (0, .ref b), (1, .ref ax), (2, .ref am)]) X.1 X.2.1 dL_law_943 hl (k := 3) rfl rfl (by decide) rfl (fun ls hl => ?_)
          refine lv_goto (tgt := 18) X.1 X.2.1 dL_law_946 (by decide) ?_
          exact ih (i + 6) σ32 τ39 _ _ ls h w (lv_sub hl [1, 2, 3, 0] rfl)
        · have h := h.2 c40
          refine lv_iconst (v := 0) X.1 X.2.1 dL_law_268 (by decide) ?_
          exact False.elim h
      have h := h.2 c25
      by_cases c41 : z2 = 4
      · have h := h.1 c41
        refine lv_tableIn (off := 237) (tgt := 270) X.1 X.2.1 dL_law_33 (by rw [c41] <;> decide) (by rw [c41] <;> decide) (by rw [c41] <;> decide) (by decide) ?_
        refine lv_aload_n X.1 X.2.1 dL_law_270 rfl (lv_at hl 1 rfl) ?_
        refine lv_aload_n X.1 X.2.1 dL_law_271 rfl (lv_at hl 0 rfl) ?_
        refine lv_iload_n X.1 X.2.1 dL_law_272 rfl (lv_at hl 3 rfl) ?_
        refine lv_iconst (v := 1) X.1 X.2.1 dL_law_273 (by decide) ?_
        refine lv_iadd X.1 X.2.1 dL_law_274 ?_
        obtain ⟨hi42, h⟩ := h
        refine va_sld X.1 X.2.1 hX hbl hbA w.1.2.2.1 hi42 dL_law_275 ?_
        refine lv_aload_n X.1 X.2.1 dL_law_276 rfl (lv_at hl 0 rfl) ?_
        refine lv_iload_n X.1 X.2.1 dL_law_277 rfl (lv_at hl 3 rfl) ?_
        refine lv_iconst (v := 2) X.1 X.2.1 dL_law_278 (by decide) ?_
        refine lv_iadd X.1 X.2.1 dL_law_279 ?_
        obtain ⟨hi43, h⟩ := h
        refine va_sld X.1 X.2.1 hX hbl hbA w.1.2.2.1 hi43 dL_law_280 ?_
        refine lv_aload_n X.1 X.2.1 dL_law_281 rfl (lv_at hl 0 rfl) ?_
        refine lv_iload_n X.1 X.2.1 dL_law_282 rfl (lv_at hl 3 rfl) ?_
        refine lv_iconst (v := 3) X.1 X.2.1 dL_law_283 (by decide) ?_
        refine lv_iadd X.1 X.2.1 dL_law_284 ?_
        obtain ⟨hi44, h⟩ := h
        refine va_sld X.1 X.2.1 hX hbl hbA w.1.2.2.1 hi44 dL_law_285 ?_
        refine tl_x w (va_runV (As := [.int (xs (i + (1 : Int32)).toNatClampNeg), .int (xs (i + (2 : Int32)).toNatClampNeg), .int (xs (i + (3 : Int32)).toNatClampNeg)]) (rest := []) X (ct_X8_none l D gx hTx _ σ ax hax (xs (i + (1 : Int32)).toNatClampNeg) (xs (i + (2 : Int32)).toNatClampNeg) (xs (i + (3 : Int32)).toNatClampNeg) _ h) (cwV 3 X.2.2.2.2 gL_law_X8_none rfl rfl rfl (by decide +kernel) ⟨(Nat.le_of_ble_eq_true rfl), (Nat.le_of_ble_eq_true rfl)⟩) (tw_preV hKx w.1 hax (by decide) rfl [.int (xs (i + (1 : Int32)).toNatClampNeg), .int (xs (i + (2 : Int32)).toNatClampNeg), .int (xs (i + (3 : Int32)).toNatClampNeg)]) rfl rfl hl.1 rfl (lv_room (Nat.le_of_ble_eq_true rfl)) dL_law_286 ⟨(Nat.le_of_ble_eq_true rfl), (Nat.le_of_ble_eq_true rfl)⟩) (fun r45 σ46 H locs h w => ?_)
        refine lv_aload_n X.1 X.2.1 dL_law_289 rfl (lv_at hl 2 rfl) ?_
        refine lv_aload_n X.1 X.2.1 dL_law_290 rfl (lv_at hl 0 rfl) ?_
        refine lv_iload_n X.1 X.2.1 dL_law_291 rfl (lv_at hl 3 rfl) ?_
        refine lv_iconst (v := 1) X.1 X.2.1 dL_law_292 (by decide) ?_
        refine lv_iadd X.1 X.2.1 dL_law_293 ?_
        obtain ⟨hi47, h⟩ := h
        refine va_sld X.1 X.2.1 hX hbl hbA w.1.2.2.1 hi47 dL_law_294 ?_
        refine lv_aload_n X.1 X.2.1 dL_law_295 rfl (lv_at hl 0 rfl) ?_
        refine lv_iload_n X.1 X.2.1 dL_law_296 rfl (lv_at hl 3 rfl) ?_
        refine lv_iconst (v := 2) X.1 X.2.1 dL_law_297 (by decide) ?_
        refine lv_iadd X.1 X.2.1 dL_law_298 ?_
        obtain ⟨hi48, h⟩ := h
        refine va_sld X.1 X.2.1 hX hbl hbA w.1.2.2.1 hi48 dL_law_299 ?_
        refine lv_aload_n X.1 X.2.1 dL_law_300 rfl (lv_at hl 0 rfl) ?_
        refine lv_iload_n X.1 X.2.1 dL_law_301 rfl (lv_at hl 3 rfl) ?_
        refine lv_iconst (v := 3) X.1 X.2.1 dL_law_302 (by decide) ?_
        refine lv_iadd X.1 X.2.1 dL_law_303 ?_
        obtain ⟨hi49, h⟩ := h
        refine va_sld X.1 X.2.1 hX hbl hbA w.1.2.2.1 hi49 dL_law_304 ?_
        refine tl_m w (va_runV (As := [.int (xs (i + (1 : Int32)).toNatClampNeg), .int (xs (i + (2 : Int32)).toNatClampNeg), .int (xs (i + (3 : Int32)).toNatClampNeg)]) (rest := [.int r45]) X (ct_X9_none l D gm hTm _ τ am ham (xs (i + (1 : Int32)).toNatClampNeg) (xs (i + (2 : Int32)).toNatClampNeg) (xs (i + (3 : Int32)).toNatClampNeg) _ h) (cwV 3 X.2.2.2.2 gL_law_X9_none rfl rfl rfl (by decide +kernel) ⟨(Nat.le_of_ble_eq_true rfl), (Nat.le_of_ble_eq_true rfl)⟩) (tw_preV hKm w.2.1 ham (by decide) rfl [.int (xs (i + (1 : Int32)).toNatClampNeg), .int (xs (i + (2 : Int32)).toNatClampNeg), .int (xs (i + (3 : Int32)).toNatClampNeg)]) rfl rfl hl.1 rfl (lv_room (Nat.le_of_ble_eq_true rfl)) dL_law_305 ⟨(Nat.le_of_ble_eq_true rfl), (Nat.le_of_ble_eq_true rfl)⟩) (fun r50 τ51 H locs h w => ?_)
        refine lv_icmp_eq (tgt := 943) X.1 X.2.1 dL_law_308 (by decide) (fun c52 => ?_) (fun c52 => ?_)
        · have h := h.1 c52
          refine lv_iinc (v := (i + 6)) (lv' := [(3, .int (i + 6)), (0, .ref b), (1, .ref ax), (2, .ref am)]) X.1 X.2.1 dL_law_943 hl (k := 3) rfl rfl (by decide) rfl (fun ls hl => ?_)
          refine lv_goto (tgt := 18) X.1 X.2.1 dL_law_946 (by decide) ?_
          exact ih (i + 6) σ46 τ51 _ _ ls h w (lv_sub hl [1, 2, 3, 0] rfl)
        · have h := h.2 c52
          refine lv_iconst (v := 0) X.1 X.2.1 dL_law_311 (by decide) ?_
          exact False.elim h
      have h := h.2 c41
      by_cases c53 : z2 = 5
      · have h := h.1 c53
        refine lv_tableIn (off := 280) (tgt := 313) X.1 X.2.1 dL_law_33 (by rw [c53] <;> decide) (by rw [c53] <;> decide) (by rw [c53] <;> decide) (by decide) ?_
        refine lv_aload_n X.1 X.2.1 dL_law_313 rfl (lv_at hl 1 rfl) ?_
        refine lv_aload_n X.1 X.2.1 dL_law_314 rfl (lv_at hl 0 rfl) ?_
        refine lv_iload_n X.1 X.2.1 dL_law_315 rfl (lv_at hl 3 rfl) ?_
        refine lv_iconst (v := 1) X.1 X.2.1 dL_law_316 (by decide) ?_
        refine lv_iadd X.1 X.2.1 dL_law_317 ?_
        obtain ⟨hi54, h⟩ := h
        refine va_sld X.1 X.2.1 hX hbl hbA w.1.2.2.1 hi54 dL_law_318 ?_
        refine lv_aload_n X.1 X.2.1 dL_law_319 rfl (lv_at hl 0 rfl) ?_
        refine lv_iload_n X.1 X.2.1 dL_law_320 rfl (lv_at hl 3 rfl) ?_
        refine lv_iconst (v := 2) X.1 X.2.1 dL_law_321 (by decide) ?_
        refine lv_iadd X.1 X.2.1 dL_law_322 ?_
        obtain ⟨hi55, h⟩ := h
        refine va_sld X.1 X.2.1 hX hbl hbA w.1.2.2.1 hi55 dL_law_323 ?_
        refine tl_x w (va_runV (As := [.int (xs (i + (1 : Int32)).toNatClampNeg), .int (xs (i + (2 : Int32)).toNatClampNeg)]) (rest := []) X (ct_X8_states l D gx hTx _ σ ax hax (xs (i + (1 : Int32)).toNatClampNeg) (xs (i + (2 : Int32)).toNatClampNeg) _ h) (cwV 2 X.2.2.2.2 gL_law_X8_states rfl rfl rfl (by decide +kernel) ⟨(Nat.le_of_ble_eq_true rfl), (Nat.le_of_ble_eq_true rfl)⟩) (tw_preV hKx w.1 hax (by decide) rfl [.int (xs (i + (1 : Int32)).toNatClampNeg), .int (xs (i + (2 : Int32)).toNatClampNeg)]) rfl rfl hl.1 rfl (lv_room (Nat.le_of_ble_eq_true rfl)) dL_law_324 ⟨(Nat.le_of_ble_eq_true rfl), (Nat.le_of_ble_eq_true rfl)⟩) (fun r56 σ57 H locs h w => ?_)
        refine lv_aload_n X.1 X.2.1 dL_law_327 rfl (lv_at hl 2 rfl) ?_
        refine lv_aload_n X.1 X.2.1 dL_law_328 rfl (lv_at hl 0 rfl) ?_
        refine lv_iload_n X.1 X.2.1 dL_law_329 rfl (lv_at hl 3 rfl) ?_
        refine lv_iconst (v := 1) X.1 X.2.1 dL_law_330 (by decide) ?_
        refine lv_iadd X.1 X.2.1 dL_law_331 ?_
        obtain ⟨hi58, h⟩ := h
        refine va_sld X.1 X.2.1 hX hbl hbA w.1.2.2.1 hi58 dL_law_332 ?_
        refine lv_aload_n X.1 X.2.1 dL_law_333 rfl (lv_at hl 0 rfl) ?_
        refine lv_iload_n X.1 X.2.1 dL_law_334 rfl (lv_at hl 3 rfl) ?_
        refine lv_iconst (v := 2) X.1 X.2.1 dL_law_335 (by decide) ?_
        refine lv_iadd X.1 X.2.1 dL_law_336 ?_
        obtain ⟨hi59, h⟩ := h
        refine va_sld X.1 X.2.1 hX hbl hbA w.1.2.2.1 hi59 dL_law_337 ?_
        refine tl_m w (va_runV (As := [.int (xs (i + (1 : Int32)).toNatClampNeg), .int (xs (i + (2 : Int32)).toNatClampNeg)]) (rest := [.int r56]) X (ct_X9_states l D gm hTm _ τ am ham (xs (i + (1 : Int32)).toNatClampNeg) (xs (i + (2 : Int32)).toNatClampNeg) _ h) (cwV 2 X.2.2.2.2 gL_law_X9_states rfl rfl rfl (by decide +kernel) ⟨(Nat.le_of_ble_eq_true rfl), (Nat.le_of_ble_eq_true rfl)⟩) (tw_preV hKm w.2.1 ham (by decide) rfl [.int (xs (i + (1 : Int32)).toNatClampNeg), .int (xs (i + (2 : Int32)).toNatClampNeg)]) rfl rfl hl.1 rfl (lv_room (Nat.le_of_ble_eq_true rfl)) dL_law_338 ⟨(Nat.le_of_ble_eq_true rfl), (Nat.le_of_ble_eq_true rfl)⟩) (fun r60 τ61 H locs h w => ?_)
        refine lv_icmp_eq (tgt := 943) X.1 X.2.1 dL_law_341 (by decide) (fun c62 => ?_) (fun c62 => ?_)
        · have h := h.1 c62
          refine lv_iinc (v := (i + 6)) (lv' := [(3, .int (i + 6)), (0, .ref b), (1, .ref ax), (2, .ref am)]) X.1 X.2.1 dL_law_943 hl (k := 3) rfl rfl (by decide) rfl (fun ls hl => ?_)
          refine lv_goto (tgt := 18) X.1 X.2.1 dL_law_946 (by decide) ?_
          exact ih (i + 6) σ57 τ61 _ _ ls h w (lv_sub hl [1, 2, 3, 0] rfl)
        · have h := h.2 c62
          refine lv_iconst (v := 0) X.1 X.2.1 dL_law_344 (by decide) ?_
          exact False.elim h
      have h := h.2 c53
      by_cases c63 : z2 = 6
      · have h := h.1 c63
        refine lv_tableIn (off := 313) (tgt := 346) X.1 X.2.1 dL_law_33 (by rw [c63] <;> decide) (by rw [c63] <;> decide) (by rw [c63] <;> decide) (by decide) ?_
        refine lv_aload_n X.1 X.2.1 dL_law_346 rfl (lv_at hl 1 rfl) ?_
        refine lv_aload_n X.1 X.2.1 dL_law_347 rfl (lv_at hl 0 rfl) ?_
        refine lv_iload_n X.1 X.2.1 dL_law_348 rfl (lv_at hl 3 rfl) ?_
        refine lv_iconst (v := 1) X.1 X.2.1 dL_law_349 (by decide) ?_
        refine lv_iadd X.1 X.2.1 dL_law_350 ?_
        obtain ⟨hi64, h⟩ := h
        refine va_sld X.1 X.2.1 hX hbl hbA w.1.2.2.1 hi64 dL_law_351 ?_
        refine lv_aload_n X.1 X.2.1 dL_law_352 rfl (lv_at hl 0 rfl) ?_
        refine lv_iload_n X.1 X.2.1 dL_law_353 rfl (lv_at hl 3 rfl) ?_
        refine lv_iconst (v := 2) X.1 X.2.1 dL_law_354 (by decide) ?_
        refine lv_iadd X.1 X.2.1 dL_law_355 ?_
        obtain ⟨hi65, h⟩ := h
        refine va_sld X.1 X.2.1 hX hbl hbA w.1.2.2.1 hi65 dL_law_356 ?_
        refine tl_x w (va_runV (As := [.int (xs (i + (1 : Int32)).toNatClampNeg), .int (xs (i + (2 : Int32)).toNatClampNeg)]) (rest := []) X (ct_X8_drift l D gx hTx _ σ ax hax (xs (i + (1 : Int32)).toNatClampNeg) (xs (i + (2 : Int32)).toNatClampNeg) _ h) (cwV 2 X.2.2.2.2 gL_law_X8_drift rfl rfl rfl (by decide +kernel) ⟨(Nat.le_of_ble_eq_true rfl), (Nat.le_of_ble_eq_true rfl)⟩) (tw_preV hKx w.1 hax (by decide) rfl [.int (xs (i + (1 : Int32)).toNatClampNeg), .int (xs (i + (2 : Int32)).toNatClampNeg)]) rfl rfl hl.1 rfl (lv_room (Nat.le_of_ble_eq_true rfl)) dL_law_357 ⟨(Nat.le_of_ble_eq_true rfl), (Nat.le_of_ble_eq_true rfl)⟩) (fun r66 σ67 H locs h w => ?_)
        refine lv_aload_n X.1 X.2.1 dL_law_360 rfl (lv_at hl 2 rfl) ?_
        refine lv_aload_n X.1 X.2.1 dL_law_361 rfl (lv_at hl 0 rfl) ?_
        refine lv_iload_n X.1 X.2.1 dL_law_362 rfl (lv_at hl 3 rfl) ?_
        refine lv_iconst (v := 1) X.1 X.2.1 dL_law_363 (by decide) ?_
        refine lv_iadd X.1 X.2.1 dL_law_364 ?_
        obtain ⟨hi68, h⟩ := h
        refine va_sld X.1 X.2.1 hX hbl hbA w.1.2.2.1 hi68 dL_law_365 ?_
        refine lv_aload_n X.1 X.2.1 dL_law_366 rfl (lv_at hl 0 rfl) ?_
        refine lv_iload_n X.1 X.2.1 dL_law_367 rfl (lv_at hl 3 rfl) ?_
        refine lv_iconst (v := 2) X.1 X.2.1 dL_law_368 (by decide) ?_
        refine lv_iadd X.1 X.2.1 dL_law_369 ?_
        obtain ⟨hi69, h⟩ := h
        refine va_sld X.1 X.2.1 hX hbl hbA w.1.2.2.1 hi69 dL_law_370 ?_
        refine tl_m w (va_runV (As := [.int (xs (i + (1 : Int32)).toNatClampNeg), .int (xs (i + (2 : Int32)).toNatClampNeg)]) (rest := [.int r66]) X (ct_X9_drift l D gm hTm _ τ am ham (xs (i + (1 : Int32)).toNatClampNeg) (xs (i + (2 : Int32)).toNatClampNeg) _ h) (cwV 2 X.2.2.2.2 gL_law_X9_drift rfl rfl rfl (by decide +kernel) ⟨(Nat.le_of_ble_eq_true rfl), (Nat.le_of_ble_eq_true rfl)⟩) (tw_preV hKm w.2.1 ham (by decide) rfl [.int (xs (i + (1 : Int32)).toNatClampNeg), .int (xs (i + (2 : Int32)).toNatClampNeg)]) rfl rfl hl.1 rfl (lv_room (Nat.le_of_ble_eq_true rfl)) dL_law_371 ⟨(Nat.le_of_ble_eq_true rfl), (Nat.le_of_ble_eq_true rfl)⟩) (fun r70 τ71 H locs h w => ?_)
        refine lv_icmp_eq (tgt := 943) X.1 X.2.1 dL_law_374 (by decide) (fun c72 => ?_) (fun c72 => ?_)
        · have h := h.1 c72
          refine lv_iinc (v := (i + 6)) (lv' := [(3, .int (i + 6)), (0, .ref b), (1, .ref ax), (2, .ref am)]) X.1 X.2.1 dL_law_943 hl (k := 3) rfl rfl (by decide) rfl (fun ls hl => ?_)
          refine lv_goto (tgt := 18) X.1 X.2.1 dL_law_946 (by decide) ?_
          exact ih (i + 6) σ67 τ71 _ _ ls h w (lv_sub hl [1, 2, 3, 0] rfl)
        · have h := h.2 c72
          refine lv_iconst (v := 0) X.1 X.2.1 dL_law_377 (by decide) ?_
          exact False.elim h
      have h := h.2 c63
      by_cases c73 : z2 = 7
      · have h := h.1 c73
        refine lv_tableIn (off := 346) (tgt := 379) X.1 X.2.1 dL_law_33 (by rw [c73] <;> decide) (by rw [c73] <;> decide) (by rw [c73] <;> decide) (by decide) ?_
        refine lv_aload_n X.1 X.2.1 dL_law_379 rfl (lv_at hl 1 rfl) ?_
        refine tl_x w (va_runV (As := []) (rest := []) X (ct_X8_swap l D gx hTx _ σ ax hax  _ h) (cwV 0 X.2.2.2.2 gL_law_X8_swap rfl rfl rfl (by decide +kernel) ⟨(Nat.le_of_ble_eq_true rfl), (Nat.le_of_ble_eq_true rfl)⟩) (tw_preV hKx w.1 hax (by decide) rfl []) rfl rfl hl.1 rfl (lv_room (Nat.le_of_ble_eq_true rfl)) dL_law_380 ⟨(Nat.le_of_ble_eq_true rfl), (Nat.le_of_ble_eq_true rfl)⟩) (fun r74 σ75 H locs h w => ?_)
        refine lv_aload_n X.1 X.2.1 dL_law_383 rfl (lv_at hl 2 rfl) ?_
        refine tl_m w (va_runV (As := []) (rest := [.int r74]) X (ct_X9_swap l D gm hTm _ τ am ham  _ h) (cwV 0 X.2.2.2.2 gL_law_X9_swap rfl rfl rfl (by decide +kernel) ⟨(Nat.le_of_ble_eq_true rfl), (Nat.le_of_ble_eq_true rfl)⟩) (tw_preV hKm w.2.1 ham (by decide) rfl []) rfl rfl hl.1 rfl (lv_room (Nat.le_of_ble_eq_true rfl)) dL_law_384 ⟨(Nat.le_of_ble_eq_true rfl), (Nat.le_of_ble_eq_true rfl)⟩) (fun r76 τ77 H locs h w => ?_)
        refine lv_icmp_eq (tgt := 943) X.1 X.2.1 dL_law_387 (by decide) (fun c78 => ?_) (fun c78 => ?_)
        · have h := h.1 c78
          refine lv_iinc (v := (i + 6)) (lv' := [(3, .int (i + 6)), (0, .ref b), (1, .ref ax), (2, .ref am)]) X.1 X.2.1 dL_law_943 hl (k := 3) rfl rfl (by decide) rfl (fun ls hl => ?_)
          refine lv_goto (tgt := 18) X.1 X.2.1 dL_law_946 (by decide) ?_
          exact ih (i + 6) σ75 τ77 _ _ ls h w (lv_sub hl [1, 2, 3, 0] rfl)
        · have h := h.2 c78
          refine lv_iconst (v := 0) X.1 X.2.1 dL_law_390 (by decide) ?_
          exact False.elim h
      have h := h.2 c73
      by_cases c79 : z2 = 8
      · have h := h.1 c79
        refine lv_tableIn (off := 359) (tgt := 392) X.1 X.2.1 dL_law_33 (by rw [c79] <;> decide) (by rw [c79] <;> decide) (by rw [c79] <;> decide) (by decide) ?_
        refine lv_aload_n X.1 X.2.1 dL_law_392 rfl (lv_at hl 1 rfl) ?_
        refine tl_x w (va_runV (As := []) (rest := []) X (ct_X8_undo l D gx hTx _ σ ax hax  _ h) (cwV 0 X.2.2.2.2 gL_law_X8_undo rfl rfl rfl (by decide +kernel) ⟨(Nat.le_of_ble_eq_true rfl), (Nat.le_of_ble_eq_true rfl)⟩) (tw_preV hKx w.1 hax (by decide) rfl []) rfl rfl hl.1 rfl (lv_room (Nat.le_of_ble_eq_true rfl)) dL_law_393 ⟨(Nat.le_of_ble_eq_true rfl), (Nat.le_of_ble_eq_true rfl)⟩) (fun r80 σ81 H locs h w => ?_)
        refine lv_aload_n X.1 X.2.1 dL_law_396 rfl (lv_at hl 2 rfl) ?_
        refine tl_m w (va_runV (As := []) (rest := [.int r80]) X (ct_X9_undo l D gm hTm _ τ am ham  _ h) (cwV 0 X.2.2.2.2 gL_law_X9_undo rfl rfl rfl (by decide +kernel) ⟨(Nat.le_of_ble_eq_true rfl), (Nat.le_of_ble_eq_true rfl)⟩) (tw_preV hKm w.2.1 ham (by decide) rfl []) rfl rfl hl.1 rfl (lv_room (Nat.le_of_ble_eq_true rfl)) dL_law_397 ⟨(Nat.le_of_ble_eq_true rfl), (Nat.le_of_ble_eq_true rfl)⟩) (fun r82 τ83 H locs h w => ?_)
        refine lv_icmp_eq (tgt := 943) X.1 X.2.1 dL_law_400 (by decide) (fun c84 => ?_) (fun c84 => ?_)
        · have h := h.1 c84
          refine lv_iinc (v := (i + 6)) (lv' := [(3, .int (i + 6)), (0, .ref b), (1, .ref ax), (2, .ref am)]) X.1 X.2.1 dL_law_943 hl (k := 3) rfl rfl (by decide) rfl (fun ls hl => ?_)
          refine lv_goto (tgt := 18) X.1 X.2.1 dL_law_946 (by decide) ?_
          exact ih (i + 6) σ81 τ83 _ _ ls h w (lv_sub hl [1, 2, 3, 0] rfl)
        · have h := h.2 c84
          refine lv_iconst (v := 0) X.1 X.2.1 dL_law_403 (by decide) ?_
          exact False.elim h
      have h := h.2 c79
      by_cases c85 : z2 = 9
      · have h := h.1 c85
        refine lv_tableIn (off := 372) (tgt := 405) X.1 X.2.1 dL_law_33 (by rw [c85] <;> decide) (by rw [c85] <;> decide) (by rw [c85] <;> decide) (by decide) ?_
        refine lv_aload_n X.1 X.2.1 dL_law_405 rfl (lv_at hl 1 rfl) ?_
        refine lv_aload_n X.1 X.2.1 dL_law_406 rfl (lv_at hl 0 rfl) ?_
        refine lv_iload_n X.1 X.2.1 dL_law_407 rfl (lv_at hl 3 rfl) ?_
        refine lv_iconst (v := 1) X.1 X.2.1 dL_law_408 (by decide) ?_
        refine lv_iadd X.1 X.2.1 dL_law_409 ?_
        obtain ⟨hi86, h⟩ := h
        refine va_sld X.1 X.2.1 hX hbl hbA w.1.2.2.1 hi86 dL_law_410 ?_
        refine lv_aload_n X.1 X.2.1 dL_law_411 rfl (lv_at hl 0 rfl) ?_
        refine lv_iload_n X.1 X.2.1 dL_law_412 rfl (lv_at hl 3 rfl) ?_
        refine lv_iconst (v := 2) X.1 X.2.1 dL_law_413 (by decide) ?_
        refine lv_iadd X.1 X.2.1 dL_law_414 ?_
        obtain ⟨hi87, h⟩ := h
        refine va_sld X.1 X.2.1 hX hbl hbA w.1.2.2.1 hi87 dL_law_415 ?_
        refine lv_aload_n X.1 X.2.1 dL_law_416 rfl (lv_at hl 0 rfl) ?_
        refine lv_iload_n X.1 X.2.1 dL_law_417 rfl (lv_at hl 3 rfl) ?_
        refine lv_iconst (v := 3) X.1 X.2.1 dL_law_418 (by decide) ?_
        refine lv_iadd X.1 X.2.1 dL_law_419 ?_
        obtain ⟨hi88, h⟩ := h
        refine va_sld X.1 X.2.1 hX hbl hbA w.1.2.2.1 hi88 dL_law_420 ?_
        refine tl_x w (va_runV (As := [.int (xs (i + (1 : Int32)).toNatClampNeg), .int (xs (i + (2 : Int32)).toNatClampNeg), .int (xs (i + (3 : Int32)).toNatClampNeg)]) (rest := []) X (ct_X8_moveOf l D gx hTx _ σ ax hax (xs (i + (1 : Int32)).toNatClampNeg) (xs (i + (2 : Int32)).toNatClampNeg) (xs (i + (3 : Int32)).toNatClampNeg) _ h) (cwV 3 X.2.2.2.2 gL_law_X8_moveOf rfl rfl rfl (by decide +kernel) ⟨(Nat.le_of_ble_eq_true rfl), (Nat.le_of_ble_eq_true rfl)⟩) (tw_preV hKx w.1 hax (by decide) rfl [.int (xs (i + (1 : Int32)).toNatClampNeg), .int (xs (i + (2 : Int32)).toNatClampNeg), .int (xs (i + (3 : Int32)).toNatClampNeg)]) rfl rfl hl.1 rfl (lv_room (Nat.le_of_ble_eq_true rfl)) dL_law_421 ⟨(Nat.le_of_ble_eq_true rfl), (Nat.le_of_ble_eq_true rfl)⟩) (fun r89 σ90 H locs h w => ?_)
        refine lv_aload_n X.1 X.2.1 dL_law_424 rfl (lv_at hl 2 rfl) ?_
        refine lv_aload_n X.1 X.2.1 dL_law_425 rfl (lv_at hl 0 rfl) ?_
        refine lv_iload_n X.1 X.2.1 dL_law_426 rfl (lv_at hl 3 rfl) ?_
        refine lv_iconst (v := 1) X.1 X.2.1 dL_law_427 (by decide) ?_
        refine lv_iadd X.1 X.2.1 dL_law_428 ?_
        obtain ⟨hi91, h⟩ := h
        refine va_sld X.1 X.2.1 hX hbl hbA w.1.2.2.1 hi91 dL_law_429 ?_
        refine lv_aload_n X.1 X.2.1 dL_law_430 rfl (lv_at hl 0 rfl) ?_
        refine lv_iload_n X.1 X.2.1 dL_law_431 rfl (lv_at hl 3 rfl) ?_
        refine lv_iconst (v := 2) X.1 X.2.1 dL_law_432 (by decide) ?_
        refine lv_iadd X.1 X.2.1 dL_law_433 ?_
        obtain ⟨hi92, h⟩ := h
        refine va_sld X.1 X.2.1 hX hbl hbA w.1.2.2.1 hi92 dL_law_434 ?_
        refine lv_aload_n X.1 X.2.1 dL_law_435 rfl (lv_at hl 0 rfl) ?_
        refine lv_iload_n X.1 X.2.1 dL_law_436 rfl (lv_at hl 3 rfl) ?_
        refine lv_iconst (v := 3) X.1 X.2.1 dL_law_437 (by decide) ?_
        refine lv_iadd X.1 X.2.1 dL_law_438 ?_
        obtain ⟨hi93, h⟩ := h
        refine va_sld X.1 X.2.1 hX hbl hbA w.1.2.2.1 hi93 dL_law_439 ?_
        refine tl_m w (va_runV (As := [.int (xs (i + (1 : Int32)).toNatClampNeg), .int (xs (i + (2 : Int32)).toNatClampNeg), .int (xs (i + (3 : Int32)).toNatClampNeg)]) (rest := [.int r89]) X (ct_X9_moveOf l D gm hTm _ τ am ham (xs (i + (1 : Int32)).toNatClampNeg) (xs (i + (2 : Int32)).toNatClampNeg) (xs (i + (3 : Int32)).toNatClampNeg) _ h) (cwV 3 X.2.2.2.2 gL_law_X9_moveOf rfl rfl rfl (by decide +kernel) ⟨(Nat.le_of_ble_eq_true rfl), (Nat.le_of_ble_eq_true rfl)⟩) (tw_preV hKm w.2.1 ham (by decide) rfl [.int (xs (i + (1 : Int32)).toNatClampNeg), .int (xs (i + (2 : Int32)).toNatClampNeg), .int (xs (i + (3 : Int32)).toNatClampNeg)]) rfl rfl hl.1 rfl (lv_room (Nat.le_of_ble_eq_true rfl)) dL_law_440 ⟨(Nat.le_of_ble_eq_true rfl), (Nat.le_of_ble_eq_true rfl)⟩) (fun r94 τ95 H locs h w => ?_)
        refine lv_icmp_eq (tgt := 943) X.1 X.2.1 dL_law_443 (by decide) (fun c96 => ?_) (fun c96 => ?_)
        · have h := h.1 c96
          refine lv_iinc (v := (i + 6)) (lv' := [(3, .int (i + 6)), (0, .ref b), (1, .ref ax), (2, .ref am)]) X.1 X.2.1 dL_law_943 hl (k := 3) rfl rfl (by decide) rfl (fun ls hl => ?_)
          refine lv_goto (tgt := 18) X.1 X.2.1 dL_law_946 (by decide) ?_
          exact ih (i + 6) σ90 τ95 _ _ ls h w (lv_sub hl [1, 2, 3, 0] rfl)
        · have h := h.2 c96
          refine lv_iconst (v := 0) X.1 X.2.1 dL_law_446 (by decide) ?_
          exact False.elim h
      have h := h.2 c85
      by_cases c97 : z2 = 10
      · have h := h.1 c97
        refine lv_tableIn (off := 415) (tgt := 448) X.1 X.2.1 dL_law_33 (by rw [c97] <;> decide) (by rw [c97] <;> decide) (by rw [c97] <;> decide) (by decide) ?_
        refine lv_aload_n X.1 X.2.1 dL_law_448 rfl (lv_at hl 1 rfl) ?_
        refine lv_aload_n X.1 X.2.1 dL_law_449 rfl (lv_at hl 0 rfl) ?_
        refine lv_iload_n X.1 X.2.1 dL_law_450 rfl (lv_at hl 3 rfl) ?_
        refine lv_iconst (v := 1) X.1 X.2.1 dL_law_451 (by decide) ?_
        refine lv_iadd X.1 X.2.1 dL_law_452 ?_
        obtain ⟨hi98, h⟩ := h
        refine va_sld X.1 X.2.1 hX hbl hbA w.1.2.2.1 hi98 dL_law_453 ?_
        refine tl_x w (va_runV (As := [.int (xs (i + (1 : Int32)).toNatClampNeg)]) (rest := []) X (ct_X8_letter l D gx hTx _ σ ax hax (xs (i + (1 : Int32)).toNatClampNeg) _ h) (cwV 1 X.2.2.2.2 gL_law_X8_letter rfl rfl rfl (by decide +kernel) ⟨(Nat.le_of_ble_eq_true rfl), (Nat.le_of_ble_eq_true rfl)⟩) (tw_preV hKx w.1 hax (by decide) rfl [.int (xs (i + (1 : Int32)).toNatClampNeg)]) rfl rfl hl.1 rfl (lv_room (Nat.le_of_ble_eq_true rfl)) dL_law_454 ⟨(Nat.le_of_ble_eq_true rfl), (Nat.le_of_ble_eq_true rfl)⟩) (fun r99 σ100 H locs h w => ?_)
        refine lv_aload_n X.1 X.2.1 dL_law_457 rfl (lv_at hl 2 rfl) ?_
        refine lv_aload_n X.1 X.2.1 dL_law_458 rfl (lv_at hl 0 rfl) ?_
        refine lv_iload_n X.1 X.2.1 dL_law_459 rfl (lv_at hl 3 rfl) ?_
        refine lv_iconst (v := 1) X.1 X.2.1 dL_law_460 (by decide) ?_
        refine lv_iadd X.1 X.2.1 dL_law_461 ?_
        obtain ⟨hi101, h⟩ := h
        refine va_sld X.1 X.2.1 hX hbl hbA w.1.2.2.1 hi101 dL_law_462 ?_
        refine tl_m w (va_runV (As := [.int (xs (i + (1 : Int32)).toNatClampNeg)]) (rest := [.int r99]) X (ct_X9_letter l D gm hTm _ τ am ham (xs (i + (1 : Int32)).toNatClampNeg) _ h) (cwV 1 X.2.2.2.2 gL_law_X9_letter rfl rfl rfl (by decide +kernel) ⟨(Nat.le_of_ble_eq_true rfl), (Nat.le_of_ble_eq_true rfl)⟩) (tw_preV hKm w.2.1 ham (by decide) rfl [.int (xs (i + (1 : Int32)).toNatClampNeg)]) rfl rfl hl.1 rfl (lv_room (Nat.le_of_ble_eq_true rfl)) dL_law_463 ⟨(Nat.le_of_ble_eq_true rfl), (Nat.le_of_ble_eq_true rfl)⟩) (fun r102 τ103 H locs h w => ?_)
        refine lv_icmp_eq (tgt := 943) X.1 X.2.1 dL_law_466 (by decide) (fun c104 => ?_) (fun c104 => ?_)
        · have h := h.1 c104
          refine lv_iinc (v := (i + 6)) (lv' := [(3, .int (i + 6)), (0, .ref b), (1, .ref ax), (2, .ref am)]) X.1 X.2.1 dL_law_943 hl (k := 3) rfl rfl (by decide) rfl (fun ls hl => ?_)
          refine lv_goto (tgt := 18) X.1 X.2.1 dL_law_946 (by decide) ?_
          exact ih (i + 6) σ100 τ103 _ _ ls h w (lv_sub hl [1, 2, 3, 0] rfl)
        · have h := h.2 c104
          refine lv_iconst (v := 0) X.1 X.2.1 dL_law_469 (by decide) ?_
          exact False.elim h
      have h := h.2 c97
      by_cases c105 : z2 = 11
      · have h := h.1 c105
        refine lv_tableIn (off := 438) (tgt := 471) X.1 X.2.1 dL_law_33 (by rw [c105] <;> decide) (by rw [c105] <;> decide) (by rw [c105] <;> decide) (by decide) ?_
        refine lv_aload_n X.1 X.2.1 dL_law_471 rfl (lv_at hl 1 rfl) ?_
        refine lv_aload_n X.1 X.2.1 dL_law_472 rfl (lv_at hl 0 rfl) ?_
        refine lv_iload_n X.1 X.2.1 dL_law_473 rfl (lv_at hl 3 rfl) ?_
        refine lv_iconst (v := 1) X.1 X.2.1 dL_law_474 (by decide) ?_
        refine lv_iadd X.1 X.2.1 dL_law_475 ?_
        obtain ⟨hi106, h⟩ := h
        refine va_sld X.1 X.2.1 hX hbl hbA w.1.2.2.1 hi106 dL_law_476 ?_
        refine tl_x w (va_runV (As := [.int (xs (i + (1 : Int32)).toNatClampNeg)]) (rest := []) X (ct_X8_word l D gx hTx _ σ ax hax (xs (i + (1 : Int32)).toNatClampNeg) _ h) (cwV 1 X.2.2.2.2 gL_law_X8_word rfl rfl rfl (by decide +kernel) ⟨(Nat.le_of_ble_eq_true rfl), (Nat.le_of_ble_eq_true rfl)⟩) (tw_preV hKx w.1 hax (by decide) rfl [.int (xs (i + (1 : Int32)).toNatClampNeg)]) rfl rfl hl.1 rfl (lv_room (Nat.le_of_ble_eq_true rfl)) dL_law_477 ⟨(Nat.le_of_ble_eq_true rfl), (Nat.le_of_ble_eq_true rfl)⟩) (fun r107 σ108 H locs h w => ?_)
        refine lv_aload_n X.1 X.2.1 dL_law_480 rfl (lv_at hl 2 rfl) ?_
        refine lv_aload_n X.1 X.2.1 dL_law_481 rfl (lv_at hl 0 rfl) ?_
        refine lv_iload_n X.1 X.2.1 dL_law_482 rfl (lv_at hl 3 rfl) ?_
        refine lv_iconst (v := 1) X.1 X.2.1 dL_law_483 (by decide) ?_
        refine lv_iadd X.1 X.2.1 dL_law_484 ?_
        obtain ⟨hi109, h⟩ := h
        refine va_sld X.1 X.2.1 hX hbl hbA w.1.2.2.1 hi109 dL_law_485 ?_
        refine tl_m w (va_runV (As := [.int (xs (i + (1 : Int32)).toNatClampNeg)]) (rest := [.int r107]) X (ct_X9_word l D gm hTm _ τ am ham (xs (i + (1 : Int32)).toNatClampNeg) _ h) (cwV 1 X.2.2.2.2 gL_law_X9_word rfl rfl rfl (by decide +kernel) ⟨(Nat.le_of_ble_eq_true rfl), (Nat.le_of_ble_eq_true rfl)⟩) (tw_preV hKm w.2.1 ham (by decide) rfl [.int (xs (i + (1 : Int32)).toNatClampNeg)]) rfl rfl hl.1 rfl (lv_room (Nat.le_of_ble_eq_true rfl)) dL_law_486 ⟨(Nat.le_of_ble_eq_true rfl), (Nat.le_of_ble_eq_true rfl)⟩) (fun r110 τ111 H locs h w => ?_)
        refine lv_icmp_eq (tgt := 943) X.1 X.2.1 dL_law_489 (by decide) (fun c112 => ?_) (fun c112 => ?_)
        · have h := h.1 c112
          refine lv_iinc (v := (i + 6)) (lv' := [(3, .int (i + 6)), (0, .ref b), (1, .ref ax), (2, .ref am)]) X.1 X.2.1 dL_law_943 hl (k := 3) rfl rfl (by decide) rfl (fun ls hl => ?_)
          refine lv_goto (tgt := 18) X.1 X.2.1 dL_law_946 (by decide) ?_
          exact ih (i + 6) σ108 τ111 _ _ ls h w (lv_sub hl [1, 2, 3, 0] rfl)
        · have h := h.2 c112
          refine lv_iconst (v := 0) X.1 X.2.1 dL_law_492 (by decide) ?_
          exact False.elim h
      have h := h.2 c105
      by_cases c113 : z2 = 12
      · have h := h.1 c113
        refine lv_tableIn (off := 461) (tgt := 494) X.1 X.2.1 dL_law_33 (by rw [c113] <;> decide) (by rw [c113] <;> decide) (by rw [c113] <;> decide) (by decide) ?_
        refine lv_aload_n X.1 X.2.1 dL_law_494 rfl (lv_at hl 1 rfl) ?_
        refine tl_x w (va_runV (As := []) (rest := []) X (ct_X8_wipe l D gx hTx _ σ ax hax  _ h) (cwV 0 X.2.2.2.2 gL_law_X8_wipe rfl rfl rfl (by decide +kernel) ⟨(Nat.le_of_ble_eq_true rfl), (Nat.le_of_ble_eq_true rfl)⟩) (tw_preV hKx w.1 hax (by decide) rfl []) rfl rfl hl.1 rfl (lv_room (Nat.le_of_ble_eq_true rfl)) dL_law_495 ⟨(Nat.le_of_ble_eq_true rfl), (Nat.le_of_ble_eq_true rfl)⟩) (fun r114 σ115 H locs h w => ?_)
        refine lv_aload_n X.1 X.2.1 dL_law_498 rfl (lv_at hl 2 rfl) ?_
        refine tl_m w (va_runV (As := []) (rest := [.int r114]) X (ct_X9_wipe l D gm hTm _ τ am ham  _ h) (cwV 0 X.2.2.2.2 gL_law_X9_wipe rfl rfl rfl (by decide +kernel) ⟨(Nat.le_of_ble_eq_true rfl), (Nat.le_of_ble_eq_true rfl)⟩) (tw_preV hKm w.2.1 ham (by decide) rfl []) rfl rfl hl.1 rfl (lv_room (Nat.le_of_ble_eq_true rfl)) dL_law_499 ⟨(Nat.le_of_ble_eq_true rfl), (Nat.le_of_ble_eq_true rfl)⟩) (fun r116 τ117 H locs h w => ?_)
        refine lv_icmp_eq (tgt := 943) X.1 X.2.1 dL_law_502 (by decide) (fun c118 => ?_) (fun c118 => ?_)
        · have h := h.1 c118
          refine lv_iinc (v := (i + 6)) (lv' := [(3, .int (i + 6)), (0, .ref b), (1, .ref ax), (2, .ref am)]) X.1 X.2.1 dL_law_943 hl (k := 3) rfl rfl (by decide) rfl (fun ls hl => ?_)
          refine lv_goto (tgt := 18) X.1 X.2.1 dL_law_946 (by decide) ?_
          exact ih (i + 6) σ115 τ117 _ _ ls h w (lv_sub hl [1, 2, 3, 0] rfl)
        · have h := h.2 c118
          refine lv_iconst (v := 0) X.1 X.2.1 dL_law_505 (by decide) ?_
          exact False.elim h
      have h := h.2 c113
      by_cases c119 : z2 = 13
      · have h := h.1 c119
        refine lv_tableIn (off := 474) (tgt := 507) X.1 X.2.1 dL_law_33 (by rw [c119] <;> decide) (by rw [c119] <;> decide) (by rw [c119] <;> decide) (by decide) ?_
        refine lv_aload_n X.1 X.2.1 dL_law_507 rfl (lv_at hl 1 rfl) ?_
        refine lv_aload_n X.1 X.2.1 dL_law_508 rfl (lv_at hl 0 rfl) ?_
        refine lv_iload_n X.1 X.2.1 dL_law_509 rfl (lv_at hl 3 rfl) ?_
        refine lv_iconst (v := 1) X.1 X.2.1 dL_law_510 (by decide) ?_
        refine lv_iadd X.1 X.2.1 dL_law_511 ?_
        obtain ⟨hi120, h⟩ := h
        refine va_sld X.1 X.2.1 hX hbl hbA w.1.2.2.1 hi120 dL_law_512 ?_
        refine tl_x w (va_runV (As := [.int (xs (i + (1 : Int32)).toNatClampNeg)]) (rest := []) X (ct_X8_told l D gx hTx _ σ ax hax (xs (i + (1 : Int32)).toNatClampNeg) _ h) (cwV 1 X.2.2.2.2 gL_law_X8_told rfl rfl rfl (by decide +kernel) ⟨(Nat.le_of_ble_eq_true rfl), (Nat.le_of_ble_eq_true rfl)⟩) (tw_preV hKx w.1 hax (by decide) rfl [.int (xs (i + (1 : Int32)).toNatClampNeg)]) rfl rfl hl.1 rfl (lv_room (Nat.le_of_ble_eq_true rfl)) dL_law_513 ⟨(Nat.le_of_ble_eq_true rfl), (Nat.le_of_ble_eq_true rfl)⟩) (fun r121 σ122 H locs h w => ?_)
        refine lv_aload_n X.1 X.2.1 dL_law_516 rfl (lv_at hl 2 rfl) ?_
        refine lv_aload_n X.1 X.2.1 dL_law_517 rfl (lv_at hl 0 rfl) ?_
        refine lv_iload_n X.1 X.2.1 dL_law_518 rfl (lv_at hl 3 rfl) ?_
        refine lv_iconst (v := 1) X.1 X.2.1 dL_law_519 (by decide) ?_
        refine lv_iadd X.1 X.2.1 dL_law_520 ?_
        obtain ⟨hi123, h⟩ := h
        refine va_sld X.1 X.2.1 hX hbl hbA w.1.2.2.1 hi123 dL_law_521 ?_
        refine tl_m w (va_runV (As := [.int (xs (i + (1 : Int32)).toNatClampNeg)]) (rest := [.int r121]) X (ct_X9_told l D gm hTm _ τ am ham (xs (i + (1 : Int32)).toNatClampNeg) _ h) (cwV 1 X.2.2.2.2 gL_law_X9_told rfl rfl rfl (by decide +kernel) ⟨(Nat.le_of_ble_eq_true rfl), (Nat.le_of_ble_eq_true rfl)⟩) (tw_preV hKm w.2.1 ham (by decide) rfl [.int (xs (i + (1 : Int32)).toNatClampNeg)]) rfl rfl hl.1 rfl (lv_room (Nat.le_of_ble_eq_true rfl)) dL_law_522 ⟨(Nat.le_of_ble_eq_true rfl), (Nat.le_of_ble_eq_true rfl)⟩) (fun r124 τ125 H locs h w => ?_)
        refine lv_icmp_eq (tgt := 943) X.1 X.2.1 dL_law_525 (by decide) (fun c126 => ?_) (fun c126 => ?_)
        · have h := h.1 c126
          refine lv_iinc (v := (i + 6)) (lv' := [(3, .int (i + 6)), (0, .ref b), (1, .ref ax), (2, .ref am)]) X.1 X.2.1 dL_law_943 hl (k := 3) rfl rfl (by decide) rfl (fun ls hl => ?_)
          refine lv_goto (tgt := 18) X.1 X.2.1 dL_law_946 (by decide) ?_
          exact ih (i + 6) σ122 τ125 _ _ ls h w (lv_sub hl [1, 2, 3, 0] rfl)
        · have h := h.2 c126
          refine lv_iconst (v := 0) X.1 X.2.1 dL_law_528 (by decide) ?_
          exact False.elim h
      have h := h.2 c119
      by_cases c127 : z2 = 14
      · have h := h.1 c127
        refine lv_tableIn (off := 497) (tgt := 530) X.1 X.2.1 dL_law_33 (by rw [c127] <;> decide) (by rw [c127] <;> decide) (by rw [c127] <;> decide) (by decide) ?_
        refine lv_aload_n X.1 X.2.1 dL_law_530 rfl (lv_at hl 1 rfl) ?_
        refine lv_aload_n X.1 X.2.1 dL_law_531 rfl (lv_at hl 0 rfl) ?_
        refine lv_iload_n X.1 X.2.1 dL_law_532 rfl (lv_at hl 3 rfl) ?_
        refine lv_iconst (v := 1) X.1 X.2.1 dL_law_533 (by decide) ?_
        refine lv_iadd X.1 X.2.1 dL_law_534 ?_
        obtain ⟨hi128, h⟩ := h
        refine va_sld X.1 X.2.1 hX hbl hbA w.1.2.2.1 hi128 dL_law_535 ?_
        refine lv_aload_n X.1 X.2.1 dL_law_536 rfl (lv_at hl 0 rfl) ?_
        refine lv_iload_n X.1 X.2.1 dL_law_537 rfl (lv_at hl 3 rfl) ?_
        refine lv_iconst (v := 2) X.1 X.2.1 dL_law_538 (by decide) ?_
        refine lv_iadd X.1 X.2.1 dL_law_539 ?_
        obtain ⟨hi129, h⟩ := h
        refine va_sld X.1 X.2.1 hX hbl hbA w.1.2.2.1 hi129 dL_law_540 ?_
        refine tl_x w (va_runV (As := [.int (xs (i + (1 : Int32)).toNatClampNeg), .int (xs (i + (2 : Int32)).toNatClampNeg)]) (rest := []) X (ct_X8_run l D gx hTx _ σ ax hax (xs (i + (1 : Int32)).toNatClampNeg) (xs (i + (2 : Int32)).toNatClampNeg) _ h) (cwV 2 X.2.2.2.2 gL_law_X8_run rfl rfl rfl (by decide +kernel) ⟨(Nat.le_of_ble_eq_true rfl), (Nat.le_of_ble_eq_true rfl)⟩) (tw_preV hKx w.1 hax (by decide) rfl [.int (xs (i + (1 : Int32)).toNatClampNeg), .int (xs (i + (2 : Int32)).toNatClampNeg)]) rfl rfl hl.1 rfl (lv_room (Nat.le_of_ble_eq_true rfl)) dL_law_541 ⟨(Nat.le_of_ble_eq_true rfl), (Nat.le_of_ble_eq_true rfl)⟩) (fun r130 σ131 H locs h w => ?_)
        refine lv_aload_n X.1 X.2.1 dL_law_544 rfl (lv_at hl 2 rfl) ?_
        refine lv_aload_n X.1 X.2.1 dL_law_545 rfl (lv_at hl 0 rfl) ?_
        refine lv_iload_n X.1 X.2.1 dL_law_546 rfl (lv_at hl 3 rfl) ?_
        refine lv_iconst (v := 1) X.1 X.2.1 dL_law_547 (by decide) ?_
        refine lv_iadd X.1 X.2.1 dL_law_548 ?_
        obtain ⟨hi132, h⟩ := h
        refine va_sld X.1 X.2.1 hX hbl hbA w.1.2.2.1 hi132 dL_law_549 ?_
        refine lv_aload_n X.1 X.2.1 dL_law_550 rfl (lv_at hl 0 rfl) ?_
        refine lv_iload_n X.1 X.2.1 dL_law_551 rfl (lv_at hl 3 rfl) ?_
        refine lv_iconst (v := 2) X.1 X.2.1 dL_law_552 (by decide) ?_
        refine lv_iadd X.1 X.2.1 dL_law_553 ?_
        obtain ⟨hi133, h⟩ := h
        refine va_sld X.1 X.2.1 hX hbl hbA w.1.2.2.1 hi133 dL_law_554 ?_
        refine tl_m w (va_runV (As := [.int (xs (i + (1 : Int32)).toNatClampNeg), .int (xs (i + (2 : Int32)).toNatClampNeg)]) (rest := [.int r130]) X (ct_X9_run l D gm hTm _ τ am ham (xs (i + (1 : Int32)).toNatClampNeg) (xs (i + (2 : Int32)).toNatClampNeg) _ h) (cwV 2 X.2.2.2.2 gL_law_X9_run rfl rfl rfl (by decide +kernel) ⟨(Nat.le_of_ble_eq_true rfl), (Nat.le_of_ble_eq_true rfl)⟩) (tw_preV hKm w.2.1 ham (by decide) rfl [.int (xs (i + (1 : Int32)).toNatClampNeg), .int (xs (i + (2 : Int32)).toNatClampNeg)]) rfl rfl hl.1 rfl (lv_room (Nat.le_of_ble_eq_true rfl)) dL_law_555 ⟨(Nat.le_of_ble_eq_true rfl), (Nat.le_of_ble_eq_true rfl)⟩) (fun r134 τ135 H locs h w => ?_)
        refine lv_icmp_eq (tgt := 943) X.1 X.2.1 dL_law_558 (by decide) (fun c136 => ?_) (fun c136 => ?_)
        · have h := h.1 c136
          refine lv_iinc (v := (i + 6)) (lv' := [(3, .int (i + 6)), (0, .ref b), (1, .ref ax), (2, .ref am)]) X.1 X.2.1 dL_law_943 hl (k := 3) rfl rfl (by decide) rfl (fun ls hl => ?_)
          refine lv_goto (tgt := 18) X.1 X.2.1 dL_law_946 (by decide) ?_
          exact ih (i + 6) σ131 τ135 _ _ ls h w (lv_sub hl [1, 2, 3, 0] rfl)
        · have h := h.2 c136
          refine lv_iconst (v := 0) X.1 X.2.1 dL_law_561 (by decide) ?_
          exact False.elim h
      have h := h.2 c127
      by_cases c137 : z2 = 15
      · have h := h.1 c137
        refine lv_tableIn (off := 530) (tgt := 563) X.1 X.2.1 dL_law_33 (by rw [c137] <;> decide) (by rw [c137] <;> decide) (by rw [c137] <;> decide) (by decide) ?_
        refine lv_aload_n X.1 X.2.1 dL_law_563 rfl (lv_at hl 1 rfl) ?_
        refine lv_aload_n X.1 X.2.1 dL_law_564 rfl (lv_at hl 0 rfl) ?_
        refine lv_iload_n X.1 X.2.1 dL_law_565 rfl (lv_at hl 3 rfl) ?_
        refine lv_iconst (v := 1) X.1 X.2.1 dL_law_566 (by decide) ?_
        refine lv_iadd X.1 X.2.1 dL_law_567 ?_
        obtain ⟨hi138, h⟩ := h
        refine va_sld X.1 X.2.1 hX hbl hbA w.1.2.2.1 hi138 dL_law_568 ?_
        refine lv_aload_n X.1 X.2.1 dL_law_569 rfl (lv_at hl 0 rfl) ?_
        refine lv_iload_n X.1 X.2.1 dL_law_570 rfl (lv_at hl 3 rfl) ?_
        refine lv_iconst (v := 2) X.1 X.2.1 dL_law_571 (by decide) ?_
        refine lv_iadd X.1 X.2.1 dL_law_572 ?_
        obtain ⟨hi139, h⟩ := h
        refine va_sld X.1 X.2.1 hX hbl hbA w.1.2.2.1 hi139 dL_law_573 ?_
        refine lv_aload_n X.1 X.2.1 dL_law_574 rfl (lv_at hl 0 rfl) ?_
        refine lv_iload_n X.1 X.2.1 dL_law_575 rfl (lv_at hl 3 rfl) ?_
        refine lv_iconst (v := 3) X.1 X.2.1 dL_law_576 (by decide) ?_
        refine lv_iadd X.1 X.2.1 dL_law_577 ?_
        obtain ⟨hi140, h⟩ := h
        refine va_sld X.1 X.2.1 hX hbl hbA w.1.2.2.1 hi140 dL_law_578 ?_
        refine tl_x w (va_runV (As := [.int (xs (i + (1 : Int32)).toNatClampNeg), .int (xs (i + (2 : Int32)).toNatClampNeg), .int (xs (i + (3 : Int32)).toNatClampNeg)]) (rest := []) X (ct_X8_crossed l D gx hTx _ σ ax hax (xs (i + (1 : Int32)).toNatClampNeg) (xs (i + (2 : Int32)).toNatClampNeg) (xs (i + (3 : Int32)).toNatClampNeg) _ h) (cwV 3 X.2.2.2.2 gL_law_X8_crossed rfl rfl rfl (by decide +kernel) ⟨(Nat.le_of_ble_eq_true rfl), (Nat.le_of_ble_eq_true rfl)⟩) (tw_preV hKx w.1 hax (by decide) rfl [.int (xs (i + (1 : Int32)).toNatClampNeg), .int (xs (i + (2 : Int32)).toNatClampNeg), .int (xs (i + (3 : Int32)).toNatClampNeg)]) rfl rfl hl.1 rfl (lv_room (Nat.le_of_ble_eq_true rfl)) dL_law_579 ⟨(Nat.le_of_ble_eq_true rfl), (Nat.le_of_ble_eq_true rfl)⟩) (fun r141 σ142 H locs h w => ?_)
        refine lv_aload_n X.1 X.2.1 dL_law_582 rfl (lv_at hl 2 rfl) ?_
        refine lv_aload_n X.1 X.2.1 dL_law_583 rfl (lv_at hl 0 rfl) ?_
        refine lv_iload_n X.1 X.2.1 dL_law_584 rfl (lv_at hl 3 rfl) ?_
        refine lv_iconst (v := 1) X.1 X.2.1 dL_law_585 (by decide) ?_
        refine lv_iadd X.1 X.2.1 dL_law_586 ?_
        obtain ⟨hi143, h⟩ := h
        refine va_sld X.1 X.2.1 hX hbl hbA w.1.2.2.1 hi143 dL_law_587 ?_
        refine lv_aload_n X.1 X.2.1 dL_law_588 rfl (lv_at hl 0 rfl) ?_
        refine lv_iload_n X.1 X.2.1 dL_law_589 rfl (lv_at hl 3 rfl) ?_
        refine lv_iconst (v := 2) X.1 X.2.1 dL_law_590 (by decide) ?_
        refine lv_iadd X.1 X.2.1 dL_law_591 ?_
        obtain ⟨hi144, h⟩ := h
        refine va_sld X.1 X.2.1 hX hbl hbA w.1.2.2.1 hi144 dL_law_592 ?_
        refine lv_aload_n X.1 X.2.1 dL_law_593 rfl (lv_at hl 0 rfl) ?_
        refine lv_iload_n X.1 X.2.1 dL_law_594 rfl (lv_at hl 3 rfl) ?_
        refine lv_iconst (v := 3) X.1 X.2.1 dL_law_595 (by decide) ?_
        refine lv_iadd X.1 X.2.1 dL_law_596 ?_
        obtain ⟨hi145, h⟩ := h
        refine va_sld X.1 X.2.1 hX hbl hbA w.1.2.2.1 hi145 dL_law_597 ?_
        refine tl_m w (va_runV (As := [.int (xs (i + (1 : Int32)).toNatClampNeg), .int (xs (i + (2 : Int32)).toNatClampNeg), .int (xs (i + (3 : Int32)).toNatClampNeg)]) (rest := [.int r141]) X (ct_X9_crossed l D gm hTm _ τ am ham (xs (i + (1 : Int32)).toNatClampNeg) (xs (i + (2 : Int32)).toNatClampNeg) (xs (i + (3 : Int32)).toNatClampNeg) _ h) (cwV 3 X.2.2.2.2 gL_law_X9_crossed rfl rfl rfl (by decide +kernel) ⟨(Nat.le_of_ble_eq_true rfl), (Nat.le_of_ble_eq_true rfl)⟩) (tw_preV hKm w.2.1 ham (by decide) rfl [.int (xs (i + (1 : Int32)).toNatClampNeg), .int (xs (i + (2 : Int32)).toNatClampNeg), .int (xs (i + (3 : Int32)).toNatClampNeg)]) rfl rfl hl.1 rfl (lv_room (Nat.le_of_ble_eq_true rfl)) dL_law_598 ⟨(Nat.le_of_ble_eq_true rfl), (Nat.le_of_ble_eq_true rfl)⟩) (fun r146 τ147 H locs h w => ?_)
        refine lv_icmp_eq (tgt := 943) X.1 X.2.1 dL_law_601 (by decide) (fun c148 => ?_) (fun c148 => ?_)
        · have h := h.1 c148
          refine lv_iinc (v := (i + 6)) (lv' := [(3, .int (i + 6)), (0, .ref b), (1, .ref ax), (2, .ref am)]) X.1 X.2.1 dL_law_943 hl (k := 3) rfl rfl (by decide) rfl (fun ls hl => ?_)
          refine lv_goto (tgt := 18) X.1 X.2.1 dL_law_946 (by decide) ?_
          exact ih (i + 6) σ142 τ147 _ _ ls h w (lv_sub hl [1, 2, 3, 0] rfl)
        · have h := h.2 c148
          refine lv_iconst (v := 0) X.1 X.2.1 dL_law_604 (by decide) ?_
          exact False.elim h
      have h := h.2 c137
      by_cases c149 : z2 = 16
      · have h := h.1 c149
        refine lv_tableIn (off := 573) (tgt := 606) X.1 X.2.1 dL_law_33 (by rw [c149] <;> decide) (by rw [c149] <;> decide) (by rw [c149] <;> decide) (by decide) ?_
        refine lv_aload_n X.1 X.2.1 dL_law_606 rfl (lv_at hl 1 rfl) ?_
        refine lv_aload_n X.1 X.2.1 dL_law_607 rfl (lv_at hl 0 rfl) ?_
        refine lv_iload_n X.1 X.2.1 dL_law_608 rfl (lv_at hl 3 rfl) ?_
        refine lv_iconst (v := 1) X.1 X.2.1 dL_law_609 (by decide) ?_
        refine lv_iadd X.1 X.2.1 dL_law_610 ?_
        obtain ⟨hi150, h⟩ := h
        refine va_sld X.1 X.2.1 hX hbl hbA w.1.2.2.1 hi150 dL_law_611 ?_
        refine lv_aload_n X.1 X.2.1 dL_law_612 rfl (lv_at hl 0 rfl) ?_
        refine lv_iload_n X.1 X.2.1 dL_law_613 rfl (lv_at hl 3 rfl) ?_
        refine lv_iconst (v := 2) X.1 X.2.1 dL_law_614 (by decide) ?_
        refine lv_iadd X.1 X.2.1 dL_law_615 ?_
        obtain ⟨hi151, h⟩ := h
        refine va_sld X.1 X.2.1 hX hbl hbA w.1.2.2.1 hi151 dL_law_616 ?_
        refine lv_aload_n X.1 X.2.1 dL_law_617 rfl (lv_at hl 0 rfl) ?_
        refine lv_iload_n X.1 X.2.1 dL_law_618 rfl (lv_at hl 3 rfl) ?_
        refine lv_iconst (v := 3) X.1 X.2.1 dL_law_619 (by decide) ?_
        refine lv_iadd X.1 X.2.1 dL_law_620 ?_
        obtain ⟨hi152, h⟩ := h
        refine va_sld X.1 X.2.1 hX hbl hbA w.1.2.2.1 hi152 dL_law_621 ?_
        refine lv_aload_n X.1 X.2.1 dL_law_622 rfl (lv_at hl 0 rfl) ?_
        refine lv_iload_n X.1 X.2.1 dL_law_623 rfl (lv_at hl 3 rfl) ?_
        refine lv_iconst (v := 4) X.1 X.2.1 dL_law_624 (by decide) ?_
        refine lv_iadd X.1 X.2.1 dL_law_625 ?_
        obtain ⟨hi153, h⟩ := h
        refine va_sld X.1 X.2.1 hX hbl hbA w.1.2.2.1 hi153 dL_law_626 ?_
        refine lv_aload_n X.1 X.2.1 dL_law_627 rfl (lv_at hl 0 rfl) ?_
        refine lv_iload_n X.1 X.2.1 dL_law_628 rfl (lv_at hl 3 rfl) ?_
        refine lv_iconst (v := 5) X.1 X.2.1 dL_law_629 (by decide) ?_
        refine lv_iadd X.1 X.2.1 dL_law_630 ?_
        obtain ⟨hi154, h⟩ := h
        refine va_sld X.1 X.2.1 hX hbl hbA w.1.2.2.1 hi154 dL_law_631 ?_
        refine tl_x w (va_runV (As := [.int (xs (i + (1 : Int32)).toNatClampNeg), .int (xs (i + (2 : Int32)).toNatClampNeg), .int (xs (i + (3 : Int32)).toNatClampNeg), .int (xs (i + (4 : Int32)).toNatClampNeg), .int (xs (i + (5 : Int32)).toNatClampNeg)]) (rest := []) X (ct_X8_table l D gx hTx _ σ ax hax (xs (i + (1 : Int32)).toNatClampNeg) (xs (i + (2 : Int32)).toNatClampNeg) (xs (i + (3 : Int32)).toNatClampNeg) (xs (i + (4 : Int32)).toNatClampNeg) (xs (i + (5 : Int32)).toNatClampNeg) _ h) (cwV 5 X.2.2.2.2 gL_law_X8_table rfl rfl rfl (by decide +kernel) ⟨(Nat.le_of_ble_eq_true rfl), (Nat.le_of_ble_eq_true rfl)⟩) (tw_preV hKx w.1 hax (by decide) rfl [.int (xs (i + (1 : Int32)).toNatClampNeg), .int (xs (i + (2 : Int32)).toNatClampNeg), .int (xs (i + (3 : Int32)).toNatClampNeg), .int (xs (i + (4 : Int32)).toNatClampNeg), .int (xs (i + (5 : Int32)).toNatClampNeg)]) rfl rfl hl.1 rfl (lv_room (Nat.le_of_ble_eq_true rfl)) dL_law_632 ⟨(Nat.le_of_ble_eq_true rfl), (Nat.le_of_ble_eq_true rfl)⟩) (fun r155 σ156 H locs h w => ?_)
        refine lv_aload_n X.1 X.2.1 dL_law_635 rfl (lv_at hl 2 rfl) ?_
        refine lv_aload_n X.1 X.2.1 dL_law_636 rfl (lv_at hl 0 rfl) ?_
        refine lv_iload_n X.1 X.2.1 dL_law_637 rfl (lv_at hl 3 rfl) ?_
        refine lv_iconst (v := 1) X.1 X.2.1 dL_law_638 (by decide) ?_
        refine lv_iadd X.1 X.2.1 dL_law_639 ?_
        obtain ⟨hi157, h⟩ := h
        refine va_sld X.1 X.2.1 hX hbl hbA w.1.2.2.1 hi157 dL_law_640 ?_
        refine lv_aload_n X.1 X.2.1 dL_law_641 rfl (lv_at hl 0 rfl) ?_
        refine lv_iload_n X.1 X.2.1 dL_law_642 rfl (lv_at hl 3 rfl) ?_
        refine lv_iconst (v := 2) X.1 X.2.1 dL_law_643 (by decide) ?_
        refine lv_iadd X.1 X.2.1 dL_law_644 ?_
        obtain ⟨hi158, h⟩ := h
        refine va_sld X.1 X.2.1 hX hbl hbA w.1.2.2.1 hi158 dL_law_645 ?_
        refine lv_aload_n X.1 X.2.1 dL_law_646 rfl (lv_at hl 0 rfl) ?_
        refine lv_iload_n X.1 X.2.1 dL_law_647 rfl (lv_at hl 3 rfl) ?_
        refine lv_iconst (v := 3) X.1 X.2.1 dL_law_648 (by decide) ?_
        refine lv_iadd X.1 X.2.1 dL_law_649 ?_
        obtain ⟨hi159, h⟩ := h
        refine va_sld X.1 X.2.1 hX hbl hbA w.1.2.2.1 hi159 dL_law_650 ?_
        refine lv_aload_n X.1 X.2.1 dL_law_651 rfl (lv_at hl 0 rfl) ?_
        refine lv_iload_n X.1 X.2.1 dL_law_652 rfl (lv_at hl 3 rfl) ?_
        refine lv_iconst (v := 4) X.1 X.2.1 dL_law_653 (by decide) ?_
        refine lv_iadd X.1 X.2.1 dL_law_654 ?_
        obtain ⟨hi160, h⟩ := h
        refine va_sld X.1 X.2.1 hX hbl hbA w.1.2.2.1 hi160 dL_law_655 ?_
        refine lv_aload_n X.1 X.2.1 dL_law_656 rfl (lv_at hl 0 rfl) ?_
        refine lv_iload_n X.1 X.2.1 dL_law_657 rfl (lv_at hl 3 rfl) ?_
        refine lv_iconst (v := 5) X.1 X.2.1 dL_law_658 (by decide) ?_
        refine lv_iadd X.1 X.2.1 dL_law_659 ?_
        obtain ⟨hi161, h⟩ := h
        refine va_sld X.1 X.2.1 hX hbl hbA w.1.2.2.1 hi161 dL_law_660 ?_
        refine tl_m w (va_runV (As := [.int (xs (i + (1 : Int32)).toNatClampNeg), .int (xs (i + (2 : Int32)).toNatClampNeg), .int (xs (i + (3 : Int32)).toNatClampNeg), .int (xs (i + (4 : Int32)).toNatClampNeg), .int (xs (i + (5 : Int32)).toNatClampNeg)]) (rest := [.int r155]) X (ct_X9_table l D gm hTm _ τ am ham (xs (i + (1 : Int32)).toNatClampNeg) (xs (i + (2 : Int32)).toNatClampNeg) (xs (i + (3 : Int32)).toNatClampNeg) (xs (i + (4 : Int32)).toNatClampNeg) (xs (i + (5 : Int32)).toNatClampNeg) _ h) (cwV 5 X.2.2.2.2 gL_law_X9_table rfl rfl rfl (by decide +kernel) ⟨(Nat.le_of_ble_eq_true rfl), (Nat.le_of_ble_eq_true rfl)⟩) (tw_preV hKm w.2.1 ham (by decide) rfl [.int (xs (i + (1 : Int32)).toNatClampNeg), .int (xs (i + (2 : Int32)).toNatClampNeg), .int (xs (i + (3 : Int32)).toNatClampNeg), .int (xs (i + (4 : Int32)).toNatClampNeg), .int (xs (i + (5 : Int32)).toNatClampNeg)]) rfl rfl hl.1 rfl (lv_room (Nat.le_of_ble_eq_true rfl)) dL_law_661 ⟨(Nat.le_of_ble_eq_true rfl), (Nat.le_of_ble_eq_true rfl)⟩) (fun r162 τ163 H locs h w => ?_)
        refine lv_icmp_eq (tgt := 943) X.1 X.2.1 dL_law_664 (by decide) (fun c164 => ?_) (fun c164 => ?_)
        · have h := h.1 c164
          refine lv_iinc (v := (i + 6)) (lv' := [(3, .int (i + 6)), (0, .ref b), (1, .ref ax), (2, .ref am)]) X.1 X.2.1 dL_law_943 hl (k := 3) rfl rfl (by decide) rfl (fun ls hl => ?_)
          refine lv_goto (tgt := 18) X.1 X.2.1 dL_law_946 (by decide) ?_
          exact ih (i + 6) σ156 τ163 _ _ ls h w (lv_sub hl [1, 2, 3, 0] rfl)
        · have h := h.2 c164
          refine lv_iconst (v := 0) X.1 X.2.1 dL_law_667 (by decide) ?_
          exact False.elim h
      have h := h.2 c149
      by_cases c165 : z2 = 17
      · have h := h.1 c165
        refine lv_tableIn (off := 636) (tgt := 669) X.1 X.2.1 dL_law_33 (by rw [c165] <;> decide) (by rw [c165] <;> decide) (by rw [c165] <;> decide) (by decide) ?_
        refine lv_aload_n X.1 X.2.1 dL_law_669 rfl (lv_at hl 1 rfl) ?_
        refine lv_aload_n X.1 X.2.1 dL_law_670 rfl (lv_at hl 0 rfl) ?_
        refine lv_iload_n X.1 X.2.1 dL_law_671 rfl (lv_at hl 3 rfl) ?_
        refine lv_iconst (v := 1) X.1 X.2.1 dL_law_672 (by decide) ?_
        refine lv_iadd X.1 X.2.1 dL_law_673 ?_
        obtain ⟨hi166, h⟩ := h
        refine va_sld X.1 X.2.1 hX hbl hbA w.1.2.2.1 hi166 dL_law_674 ?_
        refine lv_aload_n X.1 X.2.1 dL_law_675 rfl (lv_at hl 0 rfl) ?_
        refine lv_iload_n X.1 X.2.1 dL_law_676 rfl (lv_at hl 3 rfl) ?_
        refine lv_iconst (v := 2) X.1 X.2.1 dL_law_677 (by decide) ?_
        refine lv_iadd X.1 X.2.1 dL_law_678 ?_
        obtain ⟨hi167, h⟩ := h
        refine va_sld X.1 X.2.1 hX hbl hbA w.1.2.2.1 hi167 dL_law_679 ?_
        refine lv_aload_n X.1 X.2.1 dL_law_680 rfl (lv_at hl 0 rfl) ?_
        refine lv_iload_n X.1 X.2.1 dL_law_681 rfl (lv_at hl 3 rfl) ?_
        refine lv_iconst (v := 3) X.1 X.2.1 dL_law_682 (by decide) ?_
        refine lv_iadd X.1 X.2.1 dL_law_683 ?_
        obtain ⟨hi168, h⟩ := h
        refine va_sld X.1 X.2.1 hX hbl hbA w.1.2.2.1 hi168 dL_law_684 ?_
        refine lv_aload_n X.1 X.2.1 dL_law_685 rfl (lv_at hl 0 rfl) ?_
        refine lv_iload_n X.1 X.2.1 dL_law_686 rfl (lv_at hl 3 rfl) ?_
        refine lv_iconst (v := 4) X.1 X.2.1 dL_law_687 (by decide) ?_
        refine lv_iadd X.1 X.2.1 dL_law_688 ?_
        obtain ⟨hi169, h⟩ := h
        refine va_sld X.1 X.2.1 hX hbl hbA w.1.2.2.1 hi169 dL_law_689 ?_
        refine lv_aload_n X.1 X.2.1 dL_law_690 rfl (lv_at hl 0 rfl) ?_
        refine lv_iload_n X.1 X.2.1 dL_law_691 rfl (lv_at hl 3 rfl) ?_
        refine lv_iconst (v := 5) X.1 X.2.1 dL_law_692 (by decide) ?_
        refine lv_iadd X.1 X.2.1 dL_law_693 ?_
        obtain ⟨hi170, h⟩ := h
        refine va_sld X.1 X.2.1 hX hbl hbA w.1.2.2.1 hi170 dL_law_694 ?_
        refine tl_x w (va_runV (As := [.int (xs (i + (1 : Int32)).toNatClampNeg), .int (xs (i + (2 : Int32)).toNatClampNeg), .int (xs (i + (3 : Int32)).toNatClampNeg), .int (xs (i + (4 : Int32)).toNatClampNeg), .int (xs (i + (5 : Int32)).toNatClampNeg)]) (rest := []) X (ct_X8_alike l D gx hTx _ σ ax hax (xs (i + (1 : Int32)).toNatClampNeg) (xs (i + (2 : Int32)).toNatClampNeg) (xs (i + (3 : Int32)).toNatClampNeg) (xs (i + (4 : Int32)).toNatClampNeg) (xs (i + (5 : Int32)).toNatClampNeg) _ h) (cwV 5 X.2.2.2.2 gL_law_X8_alike rfl rfl rfl (by decide +kernel) ⟨(Nat.le_of_ble_eq_true rfl), (Nat.le_of_ble_eq_true rfl)⟩) (tw_preV hKx w.1 hax (by decide) rfl [.int (xs (i + (1 : Int32)).toNatClampNeg), .int (xs (i + (2 : Int32)).toNatClampNeg), .int (xs (i + (3 : Int32)).toNatClampNeg), .int (xs (i + (4 : Int32)).toNatClampNeg), .int (xs (i + (5 : Int32)).toNatClampNeg)]) rfl rfl hl.1 rfl (lv_room (Nat.le_of_ble_eq_true rfl)) dL_law_695 ⟨(Nat.le_of_ble_eq_true rfl), (Nat.le_of_ble_eq_true rfl)⟩) (fun r171 σ172 H locs h w => ?_)
        refine lv_aload_n X.1 X.2.1 dL_law_698 rfl (lv_at hl 2 rfl) ?_
        refine lv_aload_n X.1 X.2.1 dL_law_699 rfl (lv_at hl 0 rfl) ?_
        refine lv_iload_n X.1 X.2.1 dL_law_700 rfl (lv_at hl 3 rfl) ?_
        refine lv_iconst (v := 1) X.1 X.2.1 dL_law_701 (by decide) ?_
        refine lv_iadd X.1 X.2.1 dL_law_702 ?_
        obtain ⟨hi173, h⟩ := h
        refine va_sld X.1 X.2.1 hX hbl hbA w.1.2.2.1 hi173 dL_law_703 ?_
        refine lv_aload_n X.1 X.2.1 dL_law_704 rfl (lv_at hl 0 rfl) ?_
        refine lv_iload_n X.1 X.2.1 dL_law_705 rfl (lv_at hl 3 rfl) ?_
        refine lv_iconst (v := 2) X.1 X.2.1 dL_law_706 (by decide) ?_
        refine lv_iadd X.1 X.2.1 dL_law_707 ?_
        obtain ⟨hi174, h⟩ := h
        refine va_sld X.1 X.2.1 hX hbl hbA w.1.2.2.1 hi174 dL_law_708 ?_
        refine lv_aload_n X.1 X.2.1 dL_law_709 rfl (lv_at hl 0 rfl) ?_
        refine lv_iload_n X.1 X.2.1 dL_law_710 rfl (lv_at hl 3 rfl) ?_
        refine lv_iconst (v := 3) X.1 X.2.1 dL_law_711 (by decide) ?_
        refine lv_iadd X.1 X.2.1 dL_law_712 ?_
        obtain ⟨hi175, h⟩ := h
        refine va_sld X.1 X.2.1 hX hbl hbA w.1.2.2.1 hi175 dL_law_713 ?_
        refine lv_aload_n X.1 X.2.1 dL_law_714 rfl (lv_at hl 0 rfl) ?_
        refine lv_iload_n X.1 X.2.1 dL_law_715 rfl (lv_at hl 3 rfl) ?_
        refine lv_iconst (v := 4) X.1 X.2.1 dL_law_716 (by decide) ?_
        refine lv_iadd X.1 X.2.1 dL_law_717 ?_
        obtain ⟨hi176, h⟩ := h
        refine va_sld X.1 X.2.1 hX hbl hbA w.1.2.2.1 hi176 dL_law_718 ?_
        refine lv_aload_n X.1 X.2.1 dL_law_719 rfl (lv_at hl 0 rfl) ?_
        refine lv_iload_n X.1 X.2.1 dL_law_720 rfl (lv_at hl 3 rfl) ?_
        refine lv_iconst (v := 5) X.1 X.2.1 dL_law_721 (by decide) ?_
        refine lv_iadd X.1 X.2.1 dL_law_722 ?_
        obtain ⟨hi177, h⟩ := h
        refine va_sld X.1 X.2.1 hX hbl hbA w.1.2.2.1 hi177 dL_law_723 ?_
        refine tl_m w (va_runV (As := [.int (xs (i + (1 : Int32)).toNatClampNeg), .int (xs (i + (2 : Int32)).toNatClampNeg), .int (xs (i + (3 : Int32)).toNatClampNeg), .int (xs (i + (4 : Int32)).toNatClampNeg), .int (xs (i + (5 : Int32)).toNatClampNeg)]) (rest := [.int r171]) X (ct_X9_alike l D gm hTm _ τ am ham (xs (i + (1 : Int32)).toNatClampNeg) (xs (i + (2 : Int32)).toNatClampNeg) (xs (i + (3 : Int32)).toNatClampNeg) (xs (i + (4 : Int32)).toNatClampNeg) (xs (i + (5 : Int32)).toNatClampNeg) _ h) (cwV 5 X.2.2.2.2 gL_law_X9_alike rfl rfl rfl (by decide +kernel) ⟨(Nat.le_of_ble_eq_true rfl), (Nat.le_of_ble_eq_true rfl)⟩) (tw_preV hKm w.2.1 ham (by decide) rfl [.int (xs (i + (1 : Int32)).toNatClampNeg), .int (xs (i + (2 : Int32)).toNatClampNeg), .int (xs (i + (3 : Int32)).toNatClampNeg), .int (xs (i + (4 : Int32)).toNatClampNeg), .int (xs (i + (5 : Int32)).toNatClampNeg)]) rfl rfl hl.1 rfl (lv_room (Nat.le_of_ble_eq_true rfl)) dL_law_724 ⟨(Nat.le_of_ble_eq_true rfl), (Nat.le_of_ble_eq_true rfl)⟩) (fun r178 τ179 H locs h w => ?_)
        refine lv_icmp_eq (tgt := 943) X.1 X.2.1 dL_law_727 (by decide) (fun c180 => ?_) (fun c180 => ?_)
        · have h := h.1 c180
          refine lv_iinc (v := (i + 6)) (lv' := [(3, .int (i + 6)), (0, .ref b), (1, .ref ax), (2, .ref am)]) X.1 X.2.1 dL_law_943 hl (k := 3) rfl rfl (by decide) rfl (fun ls hl => ?_)
          refine lv_goto (tgt := 18) X.1 X.2.1 dL_law_946 (by decide) ?_
          exact ih (i + 6) σ172 τ179 _ _ ls h w (lv_sub hl [1, 2, 3, 0] rfl)
        · have h := h.2 c180
          refine lv_iconst (v := 0) X.1 X.2.1 dL_law_730 (by decide) ?_
          exact False.elim h
      have h := h.2 c165
      by_cases c181 : z2 = 18
      · have h := h.1 c181
        refine lv_tableIn (off := 699) (tgt := 732) X.1 X.2.1 dL_law_33 (by rw [c181] <;> decide) (by rw [c181] <;> decide) (by rw [c181] <;> decide) (by decide) ?_
        refine lv_aload_n X.1 X.2.1 dL_law_732 rfl (lv_at hl 1 rfl) ?_
        refine lv_aload_n X.1 X.2.1 dL_law_733 rfl (lv_at hl 0 rfl) ?_
        refine lv_iload_n X.1 X.2.1 dL_law_734 rfl (lv_at hl 3 rfl) ?_
        refine lv_iconst (v := 1) X.1 X.2.1 dL_law_735 (by decide) ?_
        refine lv_iadd X.1 X.2.1 dL_law_736 ?_
        obtain ⟨hi182, h⟩ := h
        refine va_sld X.1 X.2.1 hX hbl hbA w.1.2.2.1 hi182 dL_law_737 ?_
        refine lv_aload_n X.1 X.2.1 dL_law_738 rfl (lv_at hl 0 rfl) ?_
        refine lv_iload_n X.1 X.2.1 dL_law_739 rfl (lv_at hl 3 rfl) ?_
        refine lv_iconst (v := 2) X.1 X.2.1 dL_law_740 (by decide) ?_
        refine lv_iadd X.1 X.2.1 dL_law_741 ?_
        obtain ⟨hi183, h⟩ := h
        refine va_sld X.1 X.2.1 hX hbl hbA w.1.2.2.1 hi183 dL_law_742 ?_
        refine tl_x w (va_runV (As := [.int (xs (i + (1 : Int32)).toNatClampNeg), .int (xs (i + (2 : Int32)).toNatClampNeg)]) (rest := []) X (ct_X8_ofMachine l D gx hTx _ σ ax hax (xs (i + (1 : Int32)).toNatClampNeg) (xs (i + (2 : Int32)).toNatClampNeg) _ h) (cwV 2 X.2.2.2.2 gL_law_X8_ofMachine rfl rfl rfl (by decide +kernel) ⟨(Nat.le_of_ble_eq_true rfl), (Nat.le_of_ble_eq_true rfl)⟩) (tw_preV hKx w.1 hax (by decide) rfl [.int (xs (i + (1 : Int32)).toNatClampNeg), .int (xs (i + (2 : Int32)).toNatClampNeg)]) rfl rfl hl.1 rfl (lv_room (Nat.le_of_ble_eq_true rfl)) dL_law_743 ⟨(Nat.le_of_ble_eq_true rfl), (Nat.le_of_ble_eq_true rfl)⟩) (fun r184 σ185 H locs h w => ?_)
        refine lv_aload_n X.1 X.2.1 dL_law_746 rfl (lv_at hl 2 rfl) ?_
        refine lv_aload_n X.1 X.2.1 dL_law_747 rfl (lv_at hl 0 rfl) ?_
        refine lv_iload_n X.1 X.2.1 dL_law_748 rfl (lv_at hl 3 rfl) ?_
        refine lv_iconst (v := 1) X.1 X.2.1 dL_law_749 (by decide) ?_
        refine lv_iadd X.1 X.2.1 dL_law_750 ?_
        obtain ⟨hi186, h⟩ := h
        refine va_sld X.1 X.2.1 hX hbl hbA w.1.2.2.1 hi186 dL_law_751 ?_
        refine lv_aload_n X.1 X.2.1 dL_law_752 rfl (lv_at hl 0 rfl) ?_
        refine lv_iload_n X.1 X.2.1 dL_law_753 rfl (lv_at hl 3 rfl) ?_
        refine lv_iconst (v := 2) X.1 X.2.1 dL_law_754 (by decide) ?_
        refine lv_iadd X.1 X.2.1 dL_law_755 ?_
        obtain ⟨hi187, h⟩ := h
        refine va_sld X.1 X.2.1 hX hbl hbA w.1.2.2.1 hi187 dL_law_756 ?_
        refine tl_m w (va_runV (As := [.int (xs (i + (1 : Int32)).toNatClampNeg), .int (xs (i + (2 : Int32)).toNatClampNeg)]) (rest := [.int r184]) X (ct_X9_ofMachine l D gm hTm _ τ am ham (xs (i + (1 : Int32)).toNatClampNeg) (xs (i + (2 : Int32)).toNatClampNeg) _ h) (cwV 2 X.2.2.2.2 gL_law_X9_ofMachine rfl rfl rfl (by decide +kernel) ⟨(Nat.le_of_ble_eq_true rfl), (Nat.le_of_ble_eq_true rfl)⟩) (tw_preV hKm w.2.1 ham (by decide) rfl [.int (xs (i + (1 : Int32)).toNatClampNeg), .int (xs (i + (2 : Int32)).toNatClampNeg)]) rfl rfl hl.1 rfl (lv_room (Nat.le_of_ble_eq_true rfl)) dL_law_757 ⟨(Nat.le_of_ble_eq_true rfl), (Nat.le_of_ble_eq_true rfl)⟩) (fun r188 τ189 H locs h w => ?_)
        refine lv_icmp_eq (tgt := 943) X.1 X.2.1 dL_law_760 (by decide) (fun c190 => ?_) (fun c190 => ?_)
        · have h := h.1 c190
          refine lv_iinc (v := (i + 6)) (lv' := [(3, .int (i + 6)), (0, .ref b), (1, .ref ax), (2, .ref am)]) X.1 X.2.1 dL_law_943 hl (k := 3) rfl rfl (by decide) rfl (fun ls hl => ?_)
          refine lv_goto (tgt := 18) X.1 X.2.1 dL_law_946 (by decide) ?_
          exact ih (i + 6) σ185 τ189 _ _ ls h w (lv_sub hl [1, 2, 3, 0] rfl)
        · have h := h.2 c190
          refine lv_iconst (v := 0) X.1 X.2.1 dL_law_763 (by decide) ?_
          exact False.elim h
      have h := h.2 c181
      by_cases c191 : z2 = 19
      · have h := h.1 c191
        refine lv_tableIn (off := 732) (tgt := 765) X.1 X.2.1 dL_law_33 (by rw [c191] <;> decide) (by rw [c191] <;> decide) (by rw [c191] <;> decide) (by decide) ?_
        refine lv_aload_n X.1 X.2.1 dL_law_765 rfl (lv_at hl 1 rfl) ?_
        refine lv_aload_n X.1 X.2.1 dL_law_766 rfl (lv_at hl 0 rfl) ?_
        refine lv_iload_n X.1 X.2.1 dL_law_767 rfl (lv_at hl 3 rfl) ?_
        refine lv_iconst (v := 1) X.1 X.2.1 dL_law_768 (by decide) ?_
        refine lv_iadd X.1 X.2.1 dL_law_769 ?_
        obtain ⟨hi192, h⟩ := h
        refine va_sld X.1 X.2.1 hX hbl hbA w.1.2.2.1 hi192 dL_law_770 ?_
        refine lv_aload_n X.1 X.2.1 dL_law_771 rfl (lv_at hl 0 rfl) ?_
        refine lv_iload_n X.1 X.2.1 dL_law_772 rfl (lv_at hl 3 rfl) ?_
        refine lv_iconst (v := 2) X.1 X.2.1 dL_law_773 (by decide) ?_
        refine lv_iadd X.1 X.2.1 dL_law_774 ?_
        obtain ⟨hi193, h⟩ := h
        refine va_sld X.1 X.2.1 hX hbl hbA w.1.2.2.1 hi193 dL_law_775 ?_
        refine lv_aload_n X.1 X.2.1 dL_law_776 rfl (lv_at hl 0 rfl) ?_
        refine lv_iload_n X.1 X.2.1 dL_law_777 rfl (lv_at hl 3 rfl) ?_
        refine lv_iconst (v := 3) X.1 X.2.1 dL_law_778 (by decide) ?_
        refine lv_iadd X.1 X.2.1 dL_law_779 ?_
        obtain ⟨hi194, h⟩ := h
        refine va_sld X.1 X.2.1 hX hbl hbA w.1.2.2.1 hi194 dL_law_780 ?_
        refine tl_x w (va_runV (As := [.int (xs (i + (1 : Int32)).toNatClampNeg), .int (xs (i + (2 : Int32)).toNatClampNeg), .int (xs (i + (3 : Int32)).toNatClampNeg)]) (rest := []) X (ct_X8_oneWay l D gx hTx _ σ ax hax (xs (i + (1 : Int32)).toNatClampNeg) (xs (i + (2 : Int32)).toNatClampNeg) (xs (i + (3 : Int32)).toNatClampNeg) _ h) (cwV 3 X.2.2.2.2 gL_law_X8_oneWay rfl rfl rfl (by decide +kernel) ⟨(Nat.le_of_ble_eq_true rfl), (Nat.le_of_ble_eq_true rfl)⟩) (tw_preV hKx w.1 hax (by decide) rfl [.int (xs (i + (1 : Int32)).toNatClampNeg), .int (xs (i + (2 : Int32)).toNatClampNeg), .int (xs (i + (3 : Int32)).toNatClampNeg)]) rfl rfl hl.1 rfl (lv_room (Nat.le_of_ble_eq_true rfl)) dL_law_781 ⟨(Nat.le_of_ble_eq_true rfl), (Nat.le_of_ble_eq_true rfl)⟩) (fun r195 σ196 H locs h w => ?_)
        refine lv_aload_n X.1 X.2.1 dL_law_784 rfl (lv_at hl 2 rfl) ?_
        refine lv_aload_n X.1 X.2.1 dL_law_785 rfl (lv_at hl 0 rfl) ?_
        refine lv_iload_n X.1 X.2.1 dL_law_786 rfl (lv_at hl 3 rfl) ?_
        refine lv_iconst (v := 1) X.1 X.2.1 dL_law_787 (by decide) ?_
        refine lv_iadd X.1 X.2.1 dL_law_788 ?_
        obtain ⟨hi197, h⟩ := h
        refine va_sld X.1 X.2.1 hX hbl hbA w.1.2.2.1 hi197 dL_law_789 ?_
        refine lv_aload_n X.1 X.2.1 dL_law_790 rfl (lv_at hl 0 rfl) ?_
        refine lv_iload_n X.1 X.2.1 dL_law_791 rfl (lv_at hl 3 rfl) ?_
        refine lv_iconst (v := 2) X.1 X.2.1 dL_law_792 (by decide) ?_
        refine lv_iadd X.1 X.2.1 dL_law_793 ?_
        obtain ⟨hi198, h⟩ := h
        refine va_sld X.1 X.2.1 hX hbl hbA w.1.2.2.1 hi198 dL_law_794 ?_
        refine lv_aload_n X.1 X.2.1 dL_law_795 rfl (lv_at hl 0 rfl) ?_
        refine lv_iload_n X.1 X.2.1 dL_law_796 rfl (lv_at hl 3 rfl) ?_
        refine lv_iconst (v := 3) X.1 X.2.1 dL_law_797 (by decide) ?_
        refine lv_iadd X.1 X.2.1 dL_law_798 ?_
        obtain ⟨hi199, h⟩ := h
        refine va_sld X.1 X.2.1 hX hbl hbA w.1.2.2.1 hi199 dL_law_799 ?_
        refine tl_m w (va_runV (As := [.int (xs (i + (1 : Int32)).toNatClampNeg), .int (xs (i + (2 : Int32)).toNatClampNeg), .int (xs (i + (3 : Int32)).toNatClampNeg)]) (rest := [.int r195]) X (ct_X9_oneWay l D gm hTm _ τ am ham (xs (i + (1 : Int32)).toNatClampNeg) (xs (i + (2 : Int32)).toNatClampNeg) (xs (i + (3 : Int32)).toNatClampNeg) _ h) (cwV 3 X.2.2.2.2 gL_law_X9_oneWay rfl rfl rfl (by decide +kernel) ⟨(Nat.le_of_ble_eq_true rfl), (Nat.le_of_ble_eq_true rfl)⟩) (tw_preV hKm w.2.1 ham (by decide) rfl [.int (xs (i + (1 : Int32)).toNatClampNeg), .int (xs (i + (2 : Int32)).toNatClampNeg), .int (xs (i + (3 : Int32)).toNatClampNeg)]) rfl rfl hl.1 rfl (lv_room (Nat.le_of_ble_eq_true rfl)) dL_law_800 ⟨(Nat.le_of_ble_eq_true rfl), (Nat.le_of_ble_eq_true rfl)⟩) (fun r200 τ201 H locs h w => ?_)
        refine lv_icmp_eq (tgt := 943) X.1 X.2.1 dL_law_803 (by decide) (fun c202 => ?_) (fun c202 => ?_)
        · have h := h.1 c202
          refine lv_iinc (v := (i + 6)) (lv' := [(3, .int (i + 6)), (0, .ref b), (1, .ref ax), (2, .ref am)]) X.1 X.2.1 dL_law_943 hl (k := 3) rfl rfl (by decide) rfl (fun ls hl => ?_)
          refine lv_goto (tgt := 18) X.1 X.2.1 dL_law_946 (by decide) ?_
          exact ih (i + 6) σ196 τ201 _ _ ls h w (lv_sub hl [1, 2, 3, 0] rfl)
        · have h := h.2 c202
          refine lv_iconst (v := 0) X.1 X.2.1 dL_law_806 (by decide) ?_
          exact False.elim h
      have h := h.2 c191
      by_cases c203 : z2 = 20
      · have h := h.1 c203
        refine lv_tableIn (off := 775) (tgt := 808) X.1 X.2.1 dL_law_33 (by rw [c203] <;> decide) (by rw [c203] <;> decide) (by rw [c203] <;> decide) (by decide) ?_
        refine lv_aload_n X.1 X.2.1 dL_law_808 rfl (lv_at hl 1 rfl) ?_
        refine lv_aload_n X.1 X.2.1 dL_law_809 rfl (lv_at hl 0 rfl) ?_
        refine lv_iload_n X.1 X.2.1 dL_law_810 rfl (lv_at hl 3 rfl) ?_
        refine lv_iconst (v := 1) X.1 X.2.1 dL_law_811 (by decide) ?_
        refine lv_iadd X.1 X.2.1 dL_law_812 ?_
        obtain ⟨hi204, h⟩ := h
        refine va_sld X.1 X.2.1 hX hbl hbA w.1.2.2.1 hi204 dL_law_813 ?_
        refine lv_aload_n X.1 X.2.1 dL_law_814 rfl (lv_at hl 0 rfl) ?_
        refine lv_iload_n X.1 X.2.1 dL_law_815 rfl (lv_at hl 3 rfl) ?_
        refine lv_iconst (v := 2) X.1 X.2.1 dL_law_816 (by decide) ?_
        refine lv_iadd X.1 X.2.1 dL_law_817 ?_
        obtain ⟨hi205, h⟩ := h
        refine va_sld X.1 X.2.1 hX hbl hbA w.1.2.2.1 hi205 dL_law_818 ?_
        refine tl_x w (va_runV (As := [.int (xs (i + (1 : Int32)).toNatClampNeg), .int (xs (i + (2 : Int32)).toNatClampNeg)]) (rest := []) X (ct_X8_taken l D gx hTx _ σ ax hax (xs (i + (1 : Int32)).toNatClampNeg) (xs (i + (2 : Int32)).toNatClampNeg) _ h) (cwV 2 X.2.2.2.2 gL_law_X8_taken rfl rfl rfl (by decide +kernel) ⟨(Nat.le_of_ble_eq_true rfl), (Nat.le_of_ble_eq_true rfl)⟩) (tw_preV hKx w.1 hax (by decide) rfl [.int (xs (i + (1 : Int32)).toNatClampNeg), .int (xs (i + (2 : Int32)).toNatClampNeg)]) rfl rfl hl.1 rfl (lv_room (Nat.le_of_ble_eq_true rfl)) dL_law_819 ⟨(Nat.le_of_ble_eq_true rfl), (Nat.le_of_ble_eq_true rfl)⟩) (fun r206 σ207 H locs h w => ?_)
        refine lv_aload_n X.1 X.2.1 dL_law_822 rfl (lv_at hl 2 rfl) ?_
        refine lv_aload_n X.1 X.2.1 dL_law_823 rfl (lv_at hl 0 rfl) ?_
        refine lv_iload_n X.1 X.2.1 dL_law_824 rfl (lv_at hl 3 rfl) ?_
        refine lv_iconst (v := 1) X.1 X.2.1 dL_law_825 (by decide) ?_
        refine lv_iadd X.1 X.2.1 dL_law_826 ?_
        obtain ⟨hi208, h⟩ := h
        refine va_sld X.1 X.2.1 hX hbl hbA w.1.2.2.1 hi208 dL_law_827 ?_
        refine lv_aload_n X.1 X.2.1 dL_law_828 rfl (lv_at hl 0 rfl) ?_
        refine lv_iload_n X.1 X.2.1 dL_law_829 rfl (lv_at hl 3 rfl) ?_
        refine lv_iconst (v := 2) X.1 X.2.1 dL_law_830 (by decide) ?_
        refine lv_iadd X.1 X.2.1 dL_law_831 ?_
        obtain ⟨hi209, h⟩ := h
        refine va_sld X.1 X.2.1 hX hbl hbA w.1.2.2.1 hi209 dL_law_832 ?_
        refine tl_m w (va_runV (As := [.int (xs (i + (1 : Int32)).toNatClampNeg), .int (xs (i + (2 : Int32)).toNatClampNeg)]) (rest := [.int r206]) X (ct_X9_taken l D gm hTm _ τ am ham (xs (i + (1 : Int32)).toNatClampNeg) (xs (i + (2 : Int32)).toNatClampNeg) _ h) (cwV 2 X.2.2.2.2 gL_law_X9_taken rfl rfl rfl (by decide +kernel) ⟨(Nat.le_of_ble_eq_true rfl), (Nat.le_of_ble_eq_true rfl)⟩) (tw_preV hKm w.2.1 ham (by decide) rfl [.int (xs (i + (1 : Int32)).toNatClampNeg), .int (xs (i + (2 : Int32)).toNatClampNeg)]) rfl rfl hl.1 rfl (lv_room (Nat.le_of_ble_eq_true rfl)) dL_law_833 ⟨(Nat.le_of_ble_eq_true rfl), (Nat.le_of_ble_eq_true rfl)⟩) (fun r210 τ211 H locs h w => ?_)
        refine lv_icmp_eq (tgt := 943) X.1 X.2.1 dL_law_836 (by decide) (fun c212 => ?_) (fun c212 => ?_)
        · have h := h.1 c212
          refine lv_iinc (v := (i + 6)) (lv' := [(3, .int (i + 6)), (0, .ref b), (1, .ref ax), (2, .ref am)]) X.1 X.2.1 dL_law_943 hl (k := 3) rfl rfl (by decide) rfl (fun ls hl => ?_)
          refine lv_goto (tgt := 18) X.1 X.2.1 dL_law_946 (by decide) ?_
          exact ih (i + 6) σ207 τ211 _ _ ls h w (lv_sub hl [1, 2, 3, 0] rfl)
        · have h := h.2 c212
          refine lv_iconst (v := 0) X.1 X.2.1 dL_law_839 (by decide) ?_
          exact False.elim h
      have h := h.2 c203
      by_cases c213 : z2 = 21
      · have h := h.1 c213
        refine lv_tableIn (off := 808) (tgt := 841) X.1 X.2.1 dL_law_33 (by rw [c213] <;> decide) (by rw [c213] <;> decide) (by rw [c213] <;> decide) (by decide) ?_
        refine lv_aload_n X.1 X.2.1 dL_law_841 rfl (lv_at hl 1 rfl) ?_
        refine lv_aload_n X.1 X.2.1 dL_law_842 rfl (lv_at hl 0 rfl) ?_
        refine lv_iload_n X.1 X.2.1 dL_law_843 rfl (lv_at hl 3 rfl) ?_
        refine lv_iconst (v := 1) X.1 X.2.1 dL_law_844 (by decide) ?_
        refine lv_iadd X.1 X.2.1 dL_law_845 ?_
        obtain ⟨hi214, h⟩ := h
        refine va_sld X.1 X.2.1 hX hbl hbA w.1.2.2.1 hi214 dL_law_846 ?_
        refine tl_x w (va_runV (As := [.int (xs (i + (1 : Int32)).toNatClampNeg)]) (rest := []) X (ct_X8_first l D gx hTx _ σ ax hax (xs (i + (1 : Int32)).toNatClampNeg) _ h) (cwV 1 X.2.2.2.2 gL_law_X8_first rfl rfl rfl (by decide +kernel) ⟨(Nat.le_of_ble_eq_true rfl), (Nat.le_of_ble_eq_true rfl)⟩) (tw_preV hKx w.1 hax (by decide) rfl [.int (xs (i + (1 : Int32)).toNatClampNeg)]) rfl rfl hl.1 rfl (lv_room (Nat.le_of_ble_eq_true rfl)) dL_law_847 ⟨(Nat.le_of_ble_eq_true rfl), (Nat.le_of_ble_eq_true rfl)⟩) (fun r215 σ216 H locs h w => ?_)
        refine lv_aload_n X.1 X.2.1 dL_law_850 rfl (lv_at hl 2 rfl) ?_
        refine lv_aload_n X.1 X.2.1 dL_law_851 rfl (lv_at hl 0 rfl) ?_
        refine lv_iload_n X.1 X.2.1 dL_law_852 rfl (lv_at hl 3 rfl) ?_
        refine lv_iconst (v := 1) X.1 X.2.1 dL_law_853 (by decide) ?_
        refine lv_iadd X.1 X.2.1 dL_law_854 ?_
        obtain ⟨hi217, h⟩ := h
        refine va_sld X.1 X.2.1 hX hbl hbA w.1.2.2.1 hi217 dL_law_855 ?_
        refine tl_m w (va_runV (As := [.int (xs (i + (1 : Int32)).toNatClampNeg)]) (rest := [.int r215]) X (ct_X9_first l D gm hTm _ τ am ham (xs (i + (1 : Int32)).toNatClampNeg) _ h) (cwV 1 X.2.2.2.2 gL_law_X9_first rfl rfl rfl (by decide +kernel) ⟨(Nat.le_of_ble_eq_true rfl), (Nat.le_of_ble_eq_true rfl)⟩) (tw_preV hKm w.2.1 ham (by decide) rfl [.int (xs (i + (1 : Int32)).toNatClampNeg)]) rfl rfl hl.1 rfl (lv_room (Nat.le_of_ble_eq_true rfl)) dL_law_856 ⟨(Nat.le_of_ble_eq_true rfl), (Nat.le_of_ble_eq_true rfl)⟩) (fun r218 τ219 H locs h w => ?_)
        refine lv_icmp_eq (tgt := 943) X.1 X.2.1 dL_law_859 (by decide) (fun c220 => ?_) (fun c220 => ?_)
        · have h := h.1 c220
          refine lv_iinc (v := (i + 6)) (lv' := [(3, .int (i + 6)), (0, .ref b), (1, .ref ax), (2, .ref am)]) X.1 X.2.1 dL_law_943 hl (k := 3) rfl rfl (by decide) rfl (fun ls hl => ?_)
          refine lv_goto (tgt := 18) X.1 X.2.1 dL_law_946 (by decide) ?_
          exact ih (i + 6) σ216 τ219 _ _ ls h w (lv_sub hl [1, 2, 3, 0] rfl)
        · have h := h.2 c220
          refine lv_iconst (v := 0) X.1 X.2.1 dL_law_862 (by decide) ?_
          exact False.elim h
      have h := h.2 c213
      by_cases c221 : z2 = 22
      · have h := h.1 c221
        refine lv_tableIn (off := 831) (tgt := 864) X.1 X.2.1 dL_law_33 (by rw [c221] <;> decide) (by rw [c221] <;> decide) (by rw [c221] <;> decide) (by decide) ?_
        refine lv_aload_n X.1 X.2.1 dL_law_864 rfl (lv_at hl 1 rfl) ?_
        refine lv_aload_n X.1 X.2.1 dL_law_865 rfl (lv_at hl 0 rfl) ?_
        refine lv_iload_n X.1 X.2.1 dL_law_866 rfl (lv_at hl 3 rfl) ?_
        refine lv_iconst (v := 1) X.1 X.2.1 dL_law_867 (by decide) ?_
        refine lv_iadd X.1 X.2.1 dL_law_868 ?_
        obtain ⟨hi222, h⟩ := h
        refine va_sld X.1 X.2.1 hX hbl hbA w.1.2.2.1 hi222 dL_law_869 ?_
        refine lv_aload_n X.1 X.2.1 dL_law_870 rfl (lv_at hl 0 rfl) ?_
        refine lv_iload_n X.1 X.2.1 dL_law_871 rfl (lv_at hl 3 rfl) ?_
        refine lv_iconst (v := 2) X.1 X.2.1 dL_law_872 (by decide) ?_
        refine lv_iadd X.1 X.2.1 dL_law_873 ?_
        obtain ⟨hi223, h⟩ := h
        refine va_sld X.1 X.2.1 hX hbl hbA w.1.2.2.1 hi223 dL_law_874 ?_
        refine tl_x w (va_runV (As := [.int (xs (i + (1 : Int32)).toNatClampNeg), .int (xs (i + (2 : Int32)).toNatClampNeg)]) (rest := []) X (ct_X8_turned l D gx hTx _ σ ax hax (xs (i + (1 : Int32)).toNatClampNeg) (xs (i + (2 : Int32)).toNatClampNeg) _ h) (cwV 2 X.2.2.2.2 gL_law_X8_turned rfl rfl rfl (by decide +kernel) ⟨(Nat.le_of_ble_eq_true rfl), (Nat.le_of_ble_eq_true rfl)⟩) (tw_preV hKx w.1 hax (by decide) rfl [.int (xs (i + (1 : Int32)).toNatClampNeg), .int (xs (i + (2 : Int32)).toNatClampNeg)]) rfl rfl hl.1 rfl (lv_room (Nat.le_of_ble_eq_true rfl)) dL_law_875 ⟨(Nat.le_of_ble_eq_true rfl), (Nat.le_of_ble_eq_true rfl)⟩) (fun r224 σ225 H locs h w => ?_)
        refine lv_aload_n X.1 X.2.1 dL_law_878 rfl (lv_at hl 2 rfl) ?_
        refine lv_aload_n X.1 X.2.1 dL_law_879 rfl (lv_at hl 0 rfl) ?_
        refine lv_iload_n X.1 X.2.1 dL_law_880 rfl (lv_at hl 3 rfl) ?_
        refine lv_iconst (v := 1) X.1 X.2.1 dL_law_881 (by decide) ?_
        refine lv_iadd X.1 X.2.1 dL_law_882 ?_
        obtain ⟨hi226, h⟩ := h
        refine va_sld X.1 X.2.1 hX hbl hbA w.1.2.2.1 hi226 dL_law_883 ?_
        refine lv_aload_n X.1 X.2.1 dL_law_884 rfl (lv_at hl 0 rfl) ?_
        refine lv_iload_n X.1 X.2.1 dL_law_885 rfl (lv_at hl 3 rfl) ?_
        refine lv_iconst (v := 2) X.1 X.2.1 dL_law_886 (by decide) ?_
        refine lv_iadd X.1 X.2.1 dL_law_887 ?_
        obtain ⟨hi227, h⟩ := h
        refine va_sld X.1 X.2.1 hX hbl hbA w.1.2.2.1 hi227 dL_law_888 ?_
        refine tl_m w (va_runV (As := [.int (xs (i + (1 : Int32)).toNatClampNeg), .int (xs (i + (2 : Int32)).toNatClampNeg)]) (rest := [.int r224]) X (ct_X9_turned l D gm hTm _ τ am ham (xs (i + (1 : Int32)).toNatClampNeg) (xs (i + (2 : Int32)).toNatClampNeg) _ h) (cwV 2 X.2.2.2.2 gL_law_X9_turned rfl rfl rfl (by decide +kernel) ⟨(Nat.le_of_ble_eq_true rfl), (Nat.le_of_ble_eq_true rfl)⟩) (tw_preV hKm w.2.1 ham (by decide) rfl [.int (xs (i + (1 : Int32)).toNatClampNeg), .int (xs (i + (2 : Int32)).toNatClampNeg)]) rfl rfl hl.1 rfl (lv_room (Nat.le_of_ble_eq_true rfl)) dL_law_889 ⟨(Nat.le_of_ble_eq_true rfl), (Nat.le_of_ble_eq_true rfl)⟩) (fun r228 τ229 H locs h w => ?_)
        refine lv_icmp_eq (tgt := 943) X.1 X.2.1 dL_law_892 (by decide) (fun c230 => ?_) (fun c230 => ?_)
        · have h := h.1 c230
          refine lv_iinc (v := (i + 6)) (lv' := [(3, .int (i + 6)), (0, .ref b), (1, .ref ax), (2, .ref am)]) X.1 X.2.1 dL_law_943 hl (k := 3) rfl rfl (by decide) rfl (fun ls hl => ?_)
          refine lv_goto (tgt := 18) X.1 X.2.1 dL_law_946 (by decide) ?_
          exact ih (i + 6) σ225 τ229 _ _ ls h w (lv_sub hl [1, 2, 3, 0] rfl)
        · have h := h.2 c230
          refine lv_iconst (v := 0) X.1 X.2.1 dL_law_895 (by decide) ?_
          exact False.elim h
      have h := h.2 c221
      by_cases c231 : z2 = 23
      · have h := h.1 c231
        refine lv_tableIn (off := 864) (tgt := 897) X.1 X.2.1 dL_law_33 (by rw [c231] <;> decide) (by rw [c231] <;> decide) (by rw [c231] <;> decide) (by decide) ?_
        refine lv_aload_n X.1 X.2.1 dL_law_897 rfl (lv_at hl 1 rfl) ?_
        refine lv_aload_n X.1 X.2.1 dL_law_898 rfl (lv_at hl 0 rfl) ?_
        refine lv_iload_n X.1 X.2.1 dL_law_899 rfl (lv_at hl 3 rfl) ?_
        refine lv_iconst (v := 1) X.1 X.2.1 dL_law_900 (by decide) ?_
        refine lv_iadd X.1 X.2.1 dL_law_901 ?_
        obtain ⟨hi232, h⟩ := h
        refine va_sld X.1 X.2.1 hX hbl hbA w.1.2.2.1 hi232 dL_law_902 ?_
        refine tl_x w (va_runV (As := [.int (xs (i + (1 : Int32)).toNatClampNeg)]) (rest := []) X (ct_X8_keep l D gx hTx _ σ ax hax (xs (i + (1 : Int32)).toNatClampNeg) _ h) (cwV 1 X.2.2.2.2 gL_law_X8_keep rfl rfl rfl (by decide +kernel) ⟨(Nat.le_of_ble_eq_true rfl), (Nat.le_of_ble_eq_true rfl)⟩) (tw_preV hKx w.1 hax (by decide) rfl [.int (xs (i + (1 : Int32)).toNatClampNeg)]) rfl rfl hl.1 rfl (lv_room (Nat.le_of_ble_eq_true rfl)) dL_law_903 ⟨(Nat.le_of_ble_eq_true rfl), (Nat.le_of_ble_eq_true rfl)⟩) (fun r233 σ234 H locs h w => ?_)
        refine lv_aload_n X.1 X.2.1 dL_law_906 rfl (lv_at hl 2 rfl) ?_
        refine lv_aload_n X.1 X.2.1 dL_law_907 rfl (lv_at hl 0 rfl) ?_
        refine lv_iload_n X.1 X.2.1 dL_law_908 rfl (lv_at hl 3 rfl) ?_
        refine lv_iconst (v := 1) X.1 X.2.1 dL_law_909 (by decide) ?_
        refine lv_iadd X.1 X.2.1 dL_law_910 ?_
        obtain ⟨hi235, h⟩ := h
        refine va_sld X.1 X.2.1 hX hbl hbA w.1.2.2.1 hi235 dL_law_911 ?_
        refine tl_m w (va_runV (As := [.int (xs (i + (1 : Int32)).toNatClampNeg)]) (rest := [.int r233]) X (ct_X9_keep l D gm hTm _ τ am ham (xs (i + (1 : Int32)).toNatClampNeg) _ h) (cwV 1 X.2.2.2.2 gL_law_X9_keep rfl rfl rfl (by decide +kernel) ⟨(Nat.le_of_ble_eq_true rfl), (Nat.le_of_ble_eq_true rfl)⟩) (tw_preV hKm w.2.1 ham (by decide) rfl [.int (xs (i + (1 : Int32)).toNatClampNeg)]) rfl rfl hl.1 rfl (lv_room (Nat.le_of_ble_eq_true rfl)) dL_law_912 ⟨(Nat.le_of_ble_eq_true rfl), (Nat.le_of_ble_eq_true rfl)⟩) (fun r236 τ237 H locs h w => ?_)
        refine lv_icmp_eq (tgt := 943) X.1 X.2.1 dL_law_915 (by decide) (fun c238 => ?_) (fun c238 => ?_)
        · have h := h.1 c238
          refine lv_iinc (v := (i + 6)) (lv' := [(3, .int (i + 6)), (0, .ref b), (1, .ref ax), (2, .ref am)]) X.1 X.2.1 dL_law_943 hl (k := 3) rfl rfl (by decide) rfl (fun ls hl => ?_)
          refine lv_goto (tgt := 18) X.1 X.2.1 dL_law_946 (by decide) ?_
          exact ih (i + 6) σ234 τ237 _ _ ls h w (lv_sub hl [1, 2, 3, 0] rfl)
        · have h := h.2 c238
          refine lv_iconst (v := 0) X.1 X.2.1 dL_law_918 (by decide) ?_
          exact False.elim h
      have h := h.2 c231
      by_cases c239 : z2 = 24
      · have h := h.1 c239
        refine lv_tableIn (off := 887) (tgt := 920) X.1 X.2.1 dL_law_33 (by rw [c239] <;> decide) (by rw [c239] <;> decide) (by rw [c239] <;> decide) (by decide) ?_
        refine lv_aload_n X.1 X.2.1 dL_law_920 rfl (lv_at hl 1 rfl) ?_
        refine lv_aload_n X.1 X.2.1 dL_law_921 rfl (lv_at hl 0 rfl) ?_
        refine lv_iload_n X.1 X.2.1 dL_law_922 rfl (lv_at hl 3 rfl) ?_
        refine lv_iconst (v := 1) X.1 X.2.1 dL_law_923 (by decide) ?_
        refine lv_iadd X.1 X.2.1 dL_law_924 ?_
        obtain ⟨hi240, h⟩ := h
        refine va_sld X.1 X.2.1 hX hbl hbA w.1.2.2.1 hi240 dL_law_925 ?_
        refine tl_x w (va_runV (As := [.int (xs (i + (1 : Int32)).toNatClampNeg)]) (rest := []) X (ct_X8_goBack l D gx hTx _ σ ax hax (xs (i + (1 : Int32)).toNatClampNeg) _ h) (cwV 1 X.2.2.2.2 gL_law_X8_goBack rfl rfl rfl (by decide +kernel) ⟨(Nat.le_of_ble_eq_true rfl), (Nat.le_of_ble_eq_true rfl)⟩) (tw_preV hKx w.1 hax (by decide) rfl [.int (xs (i + (1 : Int32)).toNatClampNeg)]) rfl rfl hl.1 rfl (lv_room (Nat.le_of_ble_eq_true rfl)) dL_law_926 ⟨(Nat.le_of_ble_eq_true rfl), (Nat.le_of_ble_eq_true rfl)⟩) (fun r241 σ242 H locs h w => ?_)
        refine lv_aload_n X.1 X.2.1 dL_law_929 rfl (lv_at hl 2 rfl) ?_
        refine lv_aload_n X.1 X.2.1 dL_law_930 rfl (lv_at hl 0 rfl) ?_
        refine lv_iload_n X.1 X.2.1 dL_law_931 rfl (lv_at hl 3 rfl) ?_
        refine lv_iconst (v := 1) X.1 X.2.1 dL_law_932 (by decide) ?_
        refine lv_iadd X.1 X.2.1 dL_law_933 ?_
        obtain ⟨hi243, h⟩ := h
        refine va_sld X.1 X.2.1 hX hbl hbA w.1.2.2.1 hi243 dL_law_934 ?_
        refine tl_m w (va_runV (As := [.int (xs (i + (1 : Int32)).toNatClampNeg)]) (rest := [.int r241]) X (ct_X9_goBack l D gm hTm _ τ am ham (xs (i + (1 : Int32)).toNatClampNeg) _ h) (cwV 1 X.2.2.2.2 gL_law_X9_goBack rfl rfl rfl (by decide +kernel) ⟨(Nat.le_of_ble_eq_true rfl), (Nat.le_of_ble_eq_true rfl)⟩) (tw_preV hKm w.2.1 ham (by decide) rfl [.int (xs (i + (1 : Int32)).toNatClampNeg)]) rfl rfl hl.1 rfl (lv_room (Nat.le_of_ble_eq_true rfl)) dL_law_935 ⟨(Nat.le_of_ble_eq_true rfl), (Nat.le_of_ble_eq_true rfl)⟩) (fun r244 τ245 H locs h w => ?_)
        refine lv_icmp_eq (tgt := 943) X.1 X.2.1 dL_law_938 (by decide) (fun c246 => ?_) (fun c246 => ?_)
        · have h := h.1 c246
          refine lv_iinc (v := (i + 6)) (lv' := [(3, .int (i + 6)), (0, .ref b), (1, .ref ax), (2, .ref am)]) X.1 X.2.1 dL_law_943 hl (k := 3) rfl rfl (by decide) rfl (fun ls hl => ?_)
          refine lv_goto (tgt := 18) X.1 X.2.1 dL_law_946 (by decide) ?_
          exact ih (i + 6) σ242 τ245 _ _ ls h w (lv_sub hl [1, 2, 3, 0] rfl)
        · have h := h.2 c246
          refine lv_iconst (v := 0) X.1 X.2.1 dL_law_941 (by decide) ?_
          exact False.elim h
      have h := h.2 c239
      have ec3 := lv_neT (a := 0) c3 rfl
      have ec11 := lv_neT (a := 1) c11 rfl
      have ec19 := lv_neT (a := 2) c19 rfl
      have ec25 := lv_neT (a := 3) c25 rfl
      have ec41 := lv_neT (a := 4) c41 rfl
      have ec53 := lv_neT (a := 5) c53 rfl
      have ec63 := lv_neT (a := 6) c63 rfl
      have ec73 := lv_neT (a := 7) c73 rfl
      have ec79 := lv_neT (a := 8) c79 rfl
      have ec85 := lv_neT (a := 9) c85 rfl
      have ec97 := lv_neT (a := 10) c97 rfl
      have ec105 := lv_neT (a := 11) c105 rfl
      have ec113 := lv_neT (a := 12) c113 rfl
      have ec119 := lv_neT (a := 13) c119 rfl
      have ec127 := lv_neT (a := 14) c127 rfl
      have ec137 := lv_neT (a := 15) c137 rfl
      have ec149 := lv_neT (a := 16) c149 rfl
      have ec165 := lv_neT (a := 17) c165 rfl
      have ec181 := lv_neT (a := 18) c181 rfl
      have ec191 := lv_neT (a := 19) c191 rfl
      have ec203 := lv_neT (a := 20) c203 rfl
      have ec213 := lv_neT (a := 21) c213 rfl
      have ec221 := lv_neT (a := 22) c221 rfl
      have ec231 := lv_neT (a := 23) c231 rfl
      have ec239 := lv_neT (a := 24) c239 rfl
      refine lv_tableOut (tgt := 943) X.1 X.2.1 dL_law_33 (by omega) (by decide) ?_
      refine lv_iinc (v := (i + 6)) (lv' := [(3, .int (i + 6)), (0, .ref b), (1, .ref ax), (2, .ref am)]) X.1 X.2.1 dL_law_943 hl (k := 3) rfl rfl (by decide) rfl (fun ls hl => ?_)
      refine lv_goto (tgt := 18) X.1 X.2.1 dL_law_946 (by decide) ?_
      exact ih (i + 6) σ τ _ _ ls h w (lv_sub hl [1, 2, 3, 0] rfl)
