/-! ===== the law: two pools side by side ===== -/
def tl_w (D : va_G) (gx gm : tw_G) (A : Nat → Prop) (s : State) (σ τ : tw_S) (H : Heap) (locs : List Loc) : Prop := tw_w D gx A s σ H locs ∧ tw_w D gm A s τ H locs ∧ ∀ a, a ∈ tw_L gx → a ∈ tw_L gm → False
section TLR
variable {p : Program} {l : Launch} {e : Env} {R : Room} {s : State} {m : MethodId} {args : Array Value} {below : List Frame} {meth : Method} {c : Code} {H : Heap} {locs : List Loc} {cells slots : Nat} {Q : State → Prop} {D : va_G} {gx gm : tw_G} {A : Nat → Prop} {σ τ : tw_S} {pc : Nat} {ls : Array Slot} {rest : List Value}
theorem tl_keep {g1 g2 : tw_G} {σ1 : tw_S} {H1 : Heap} {locs1 : List Loc} (w : tw_w D g2 A s σ1 H locs) (hd : ∀ a, a ∈ tw_L g1 → a ∈ tw_L g2 → False) (hk : ∀ q : Nat, q < H.size → ¬ tw_F g1 H.size q → H1[q]? = H[q]?) (hS : va_S A s.heap H1 locs1) : tw_w D g2 A s σ1 H1 locs1 := by
  refine ⟨w.1.kept fun k q hq => ?_, w.2.1, hS, w.2.2.2⟩
  have hlt := (w.1 k q hq).lt
  refine hk q.1 hlt fun h => ?_
  rcases h with h | h
  · exact hd _ h (tw_pl_in hq)
  · exact absurd hlt (Nat.not_lt.mpr h)
theorem tl_x {Qi : Int32 → tw_S → Prop} {st0 : List Value} {av : Array Value} (w : tl_w D gx gm A s σ τ H locs) (hr : va_Run p l e R s m args below meth c H locs cells slots 0 0 (F0 m pc ls st0) rest (va_Qi Qi (tw_z D gx H.size) (tw_F gx H.size) av) (tw_F gx H.size))
    (kk : ∀ (r : Int32) (σ : tw_S) (H : Heap) (locs : List Loc), Qi r σ → tl_w D gx gm A s σ τ H locs → W p l e R s m args below meth c H locs cells slots Q (F0 m (pc + 3) ls (.int r :: rest))) : W p l e R s m args below meth c H locs cells slots Q (F0 m pc ls st0) :=
  va_calli hr w.1.2.2.1 (fun q _ h => tw_fr w.1 q h) (tw_fr w.1) fun r u t H1 locs1 ht _ hp hz _ hk hS => kk r u H1 locs1 hp ⟨tw_back w.1 ht hz hS, tl_keep w.2.1 w.2.2 hk hS, w.2.2⟩
theorem tl_m {Qi : Int32 → tw_S → Prop} {st0 : List Value} {av : Array Value} (w : tl_w D gx gm A s σ τ H locs) (hr : va_Run p l e R s m args below meth c H locs cells slots 0 0 (F0 m pc ls st0) rest (va_Qi Qi (tw_z D gm H.size) (tw_F gm H.size) av) (tw_F gm H.size))
    (kk : ∀ (r : Int32) (τ : tw_S) (H : Heap) (locs : List Loc), Qi r τ → tl_w D gx gm A s σ τ H locs → W p l e R s m args below meth c H locs cells slots Q (F0 m (pc + 3) ls (.int r :: rest))) : W p l e R s m args below meth c H locs cells slots Q (F0 m pc ls st0) :=
  va_calli hr w.2.1.2.2.1 (fun q _ h => tw_fr w.2.1 q h) (tw_fr w.2.1) fun r u t H1 locs1 ht _ hp hz _ hk hS => kk r u H1 locs1 hp ⟨tl_keep w.1 (fun a h1 h2 => w.2.2 a h2 h1) hk hS, tw_back w.2.1 ht hz hS, w.2.2⟩
end TLR

def wl_law (L : Nat) (xs : Nat → Int32) (gx gm : tw_G) (ax am : Nat) : Nat → Int32 → tw_S → tw_S → Prop
  | 0, _, _, _ => False
  | n + 1, i, σ, τ => ((((Int32.ofNat L) - (6 : Int32)) < i) → True) ∧ (¬ (((Int32.ofNat L) - (6 : Int32)) < i) → vp_in i L ∧ ∀ z2, z2 = ((xs i.toNatClampNeg) &&& (31 : Int32)) → (z2 = 0 → vp_in (i + (1 : Int32)) L ∧ wp_X8_feed gx σ ax (xs (i + (1 : Int32)).toNatClampNeg) (fun r5 σ6 => vp_in (i + (1 : Int32)) L ∧ wp_X9_feed gm τ am (xs (i + (1 : Int32)).toNatClampNeg) (fun r8 τ9 => ((r5 = r8) → wl_law L xs gx gm ax am n (i + 6) σ6 τ9) ∧ (¬ (r5 = r8) → False)))) ∧ (¬ z2 = 0 → (z2 = 1 → vp_in (i + (1 : Int32)) L ∧ wp_X8_machine gx σ ax (xs (i + (1 : Int32)).toNatClampNeg) (fun r13 σ14 => vp_in (i + (1 : Int32)) L ∧ wp_X9_machine gm τ am (xs (i + (1 : Int32)).toNatClampNeg) (fun r16 τ17 => wl_law L xs gx gm ax am n (i + 6) σ14 τ17))) ∧ (¬ z2 = 1 → (z2 = 2 → wp_X8_fault gx σ ax  (fun r19 σ20 => wp_X9_fault gm τ am  (fun r21 τ22 => wl_law L xs gx gm ax am n (i + 6) σ20 τ22))) ∧ (¬ z2 = 2 → (z2 = 3 → vp_in (i + (1 : Int32)) L ∧ vp_in (i + (2 : Int32)) L ∧ vp_in (i + (3 : Int32)) L ∧ vp_in (i + (4 : Int32)) L ∧ vp_in (i + (5 : Int32)) L ∧ wp_X8_move gx σ ax (xs (i + (1 : Int32)).toNatClampNeg) (xs (i + (2 : Int32)).toNatClampNeg) (xs (i + (3 : Int32)).toNatClampNeg) (xs (i + (4 : Int32)).toNatClampNeg) (xs (i + (5 : Int32)).toNatClampNeg) (fun r29 σ30 => vp_in (i + (1 : Int32)) L ∧ vp_in (i + (2 : Int32)) L ∧ vp_in (i + (3 : Int32)) L ∧ vp_in (i + (4 : Int32)) L ∧ vp_in (i + (5 : Int32)) L ∧ wp_X9_move gm τ am (xs (i + (1 : Int32)).toNatClampNeg) (xs (i + (2 : Int32)).toNatClampNeg) (xs (i + (3 : Int32)).toNatClampNeg) (xs (i + (4 : Int32)).toNatClampNeg) (xs (i + (5 : Int32)).toNatClampNeg) (fun r36 τ37 => wl_law L xs gx gm ax am n (i + 6) σ30 τ37))) ∧ (¬ z2 = 3 → (z2 = 4 → vp_in (i + (1 : Int32)) L ∧ vp_in (i + (2 : Int32)) L ∧ vp_in (i + (3 : Int32)) L ∧ wp_X8_none gx σ ax (xs (i + (1 : Int32)).toNatClampNeg) (xs (i + (2 : Int32)).toNatClampNeg) (xs (i + (3 : Int32)).toNatClampNeg) (fun r42 σ43 => vp_in (i + (1 : Int32)) L ∧ vp_in (i + (2 : Int32)) L ∧ vp_in (i + (3 : Int32)) L ∧ wp_X9_none gm τ am (xs (i + (1 : Int32)).toNatClampNeg) (xs (i + (2 : Int32)).toNatClampNeg) (xs (i + (3 : Int32)).toNatClampNeg) (fun r47 τ48 => wl_law L xs gx gm ax am n (i + 6) σ43 τ48))) ∧ (¬ z2 = 4 → (z2 = 5 → vp_in (i + (1 : Int32)) L ∧ vp_in (i + (2 : Int32)) L ∧ wp_X8_states gx σ ax (xs (i + (1 : Int32)).toNatClampNeg) (xs (i + (2 : Int32)).toNatClampNeg) (fun r52 σ53 => vp_in (i + (1 : Int32)) L ∧ vp_in (i + (2 : Int32)) L ∧ wp_X9_states gm τ am (xs (i + (1 : Int32)).toNatClampNeg) (xs (i + (2 : Int32)).toNatClampNeg) (fun r56 τ57 => wl_law L xs gx gm ax am n (i + 6) σ53 τ57))) ∧ (¬ z2 = 5 → (z2 = 6 → vp_in (i + (1 : Int32)) L ∧ vp_in (i + (2 : Int32)) L ∧ wp_X8_drift gx σ ax (xs (i + (1 : Int32)).toNatClampNeg) (xs (i + (2 : Int32)).toNatClampNeg) (fun r61 σ62 => vp_in (i + (1 : Int32)) L ∧ vp_in (i + (2 : Int32)) L ∧ wp_X9_drift gm τ am (xs (i + (1 : Int32)).toNatClampNeg) (xs (i + (2 : Int32)).toNatClampNeg) (fun r65 τ66 => wl_law L xs gx gm ax am n (i + 6) σ62 τ66))) ∧ (¬ z2 = 6 → (z2 = 7 → wp_X8_swap gx σ ax  (fun r68 σ69 => wp_X9_swap gm τ am  (fun r70 τ71 => wl_law L xs gx gm ax am n (i + 6) σ69 τ71))) ∧ (¬ z2 = 7 → (z2 = 8 → wp_X8_undo gx σ ax  (fun r73 σ74 => wp_X9_undo gm τ am  (fun r75 τ76 => wl_law L xs gx gm ax am n (i + 6) σ74 τ76))) ∧ (¬ z2 = 8 → (z2 = 9 → vp_in (i + (1 : Int32)) L ∧ vp_in (i + (2 : Int32)) L ∧ vp_in (i + (3 : Int32)) L ∧ wp_X8_moveOf gx σ ax (xs (i + (1 : Int32)).toNatClampNeg) (xs (i + (2 : Int32)).toNatClampNeg) (xs (i + (3 : Int32)).toNatClampNeg) (fun r81 σ82 => vp_in (i + (1 : Int32)) L ∧ vp_in (i + (2 : Int32)) L ∧ vp_in (i + (3 : Int32)) L ∧ wp_X9_moveOf gm τ am (xs (i + (1 : Int32)).toNatClampNeg) (xs (i + (2 : Int32)).toNatClampNeg) (xs (i + (3 : Int32)).toNatClampNeg) (fun r86 τ87 => wl_law L xs gx gm ax am n (i + 6) σ82 τ87))) ∧ (¬ z2 = 9 → (z2 = 10 → vp_in (i + (1 : Int32)) L ∧ wp_X8_letter gx σ ax (xs (i + (1 : Int32)).toNatClampNeg) (fun r90 σ91 => vp_in (i + (1 : Int32)) L ∧ wp_X9_letter gm τ am (xs (i + (1 : Int32)).toNatClampNeg) (fun r93 τ94 => wl_law L xs gx gm ax am n (i + 6) σ91 τ94))) ∧ (¬ z2 = 10 → (z2 = 11 → vp_in (i + (1 : Int32)) L ∧ wp_X8_word gx σ ax (xs (i + (1 : Int32)).toNatClampNeg) (fun r97 σ98 => vp_in (i + (1 : Int32)) L ∧ wp_X9_word gm τ am (xs (i + (1 : Int32)).toNatClampNeg) (fun r100 τ101 => wl_law L xs gx gm ax am n (i + 6) σ98 τ101))) ∧ (¬ z2 = 11 → (z2 = 12 → wp_X8_wipe gx σ ax  (fun r103 σ104 => wp_X9_wipe gm τ am  (fun r105 τ106 => wl_law L xs gx gm ax am n (i + 6) σ104 τ106))) ∧ (¬ z2 = 12 → (z2 = 13 → vp_in (i + (1 : Int32)) L ∧ wp_X8_told gx σ ax (xs (i + (1 : Int32)).toNatClampNeg) (fun r109 σ110 => vp_in (i + (1 : Int32)) L ∧ wp_X9_told gm τ am (xs (i + (1 : Int32)).toNatClampNeg) (fun r112 τ113 => wl_law L xs gx gm ax am n (i + 6) σ110 τ113))) ∧ (¬ z2 = 13 → (z2 = 14 → vp_in (i + (1 : Int32)) L ∧ vp_in (i + (2 : Int32)) L ∧ wp_X8_run gx σ ax (xs (i + (1 : Int32)).toNatClampNeg) (xs (i + (2 : Int32)).toNatClampNeg) (fun r117 σ118 => vp_in (i + (1 : Int32)) L ∧ vp_in (i + (2 : Int32)) L ∧ wp_X9_run gm τ am (xs (i + (1 : Int32)).toNatClampNeg) (xs (i + (2 : Int32)).toNatClampNeg) (fun r121 τ122 => wl_law L xs gx gm ax am n (i + 6) σ118 τ122))) ∧ (¬ z2 = 14 → (z2 = 15 → vp_in (i + (1 : Int32)) L ∧ vp_in (i + (2 : Int32)) L ∧ vp_in (i + (3 : Int32)) L ∧ wp_X8_crossed gx σ ax (xs (i + (1 : Int32)).toNatClampNeg) (xs (i + (2 : Int32)).toNatClampNeg) (xs (i + (3 : Int32)).toNatClampNeg) (fun r127 σ128 => vp_in (i + (1 : Int32)) L ∧ vp_in (i + (2 : Int32)) L ∧ vp_in (i + (3 : Int32)) L ∧ wp_X9_crossed gm τ am (xs (i + (1 : Int32)).toNatClampNeg) (xs (i + (2 : Int32)).toNatClampNeg) (xs (i + (3 : Int32)).toNatClampNeg) (fun r132 τ133 => wl_law L xs gx gm ax am n (i + 6) σ128 τ133))) ∧ (¬ z2 = 15 → (z2 = 16 → vp_in (i + (1 : Int32)) L ∧ vp_in (i + (2 : Int32)) L ∧ vp_in (i + (3 : Int32)) L ∧ vp_in (i + (4 : Int32)) L ∧ vp_in (i + (5 : Int32)) L ∧ wp_X8_table gx σ ax (xs (i + (1 : Int32)).toNatClampNeg) (xs (i + (2 : Int32)).toNatClampNeg) (xs (i + (3 : Int32)).toNatClampNeg) (xs (i + (4 : Int32)).toNatClampNeg) (xs (i + (5 : Int32)).toNatClampNeg) (fun r140 σ141 => vp_in (i + (1 : Int32)) L ∧ vp_in (i + (2 : Int32)) L ∧ vp_in (i + (3 : Int32)) L ∧ vp_in (i + (4 : Int32)) L ∧ vp_in (i + (5 : Int32)) L ∧ wp_X9_table gm τ am (xs (i + (1 : Int32)).toNatClampNeg) (xs (i + (2 : Int32)).toNatClampNeg) (xs (i + (3 : Int32)).toNatClampNeg) (xs (i + (4 : Int32)).toNatClampNeg) (xs (i + (5 : Int32)).toNatClampNeg) (fun r147 τ148 => wl_law L xs gx gm ax am n (i + 6) σ141 τ148))) ∧ (¬ z2 = 16 → (z2 = 17 → vp_in (i + (1 : Int32)) L ∧ vp_in (i + (2 : Int32)) L ∧ vp_in (i + (3 : Int32)) L ∧ vp_in (i + (4 : Int32)) L ∧ vp_in (i + (5 : Int32)) L ∧ wp_X8_alike gx σ ax (xs (i + (1 : Int32)).toNatClampNeg) (xs (i + (2 : Int32)).toNatClampNeg) (xs (i + (3 : Int32)).toNatClampNeg) (xs (i + (4 : Int32)).toNatClampNeg) (xs (i + (5 : Int32)).toNatClampNeg) (fun r155 σ156 => vp_in (i + (1 : Int32)) L ∧ vp_in (i + (2 : Int32)) L ∧ vp_in (i + (3 : Int32)) L ∧ vp_in (i + (4 : Int32)) L ∧ vp_in (i + (5 : Int32)) L ∧ wp_X9_alike gm τ am (xs (i + (1 : Int32)).toNatClampNeg) (xs (i + (2 : Int32)).toNatClampNeg) (xs (i + (3 : Int32)).toNatClampNeg) (xs (i + (4 : Int32)).toNatClampNeg) (xs (i + (5 : Int32)).toNatClampNeg) (fun r162 τ163 => wl_law L xs gx gm ax am n (i + 6) σ156 τ163))) ∧ (¬ z2 = 17 → (z2 = 18 → vp_in (i + (1 : Int32)) L ∧ vp_in (i + (2 : Int32)) L ∧ wp_X8_ofMachine gx σ ax (xs (i + (1 : Int32)).toNatClampNeg) (xs (i + (2 : Int32)).toNatClampNeg) (fun r167 σ168 => vp_in (i + (1 : Int32)) L ∧ vp_in (i + (2 : Int32)) L ∧ wp_X9_ofMachine gm τ am (xs (i + (1 : Int32)).toNatClampNeg) (xs (i + (2 : Int32)).toNatClampNeg) (fun r171 τ172 => wl_law L xs gx gm ax am n (i + 6) σ168 τ172))) ∧ (¬ z2 = 18 → (z2 = 19 → vp_in (i + (1 : Int32)) L ∧ vp_in (i + (2 : Int32)) L ∧ vp_in (i + (3 : Int32)) L ∧ wp_X8_oneWay gx σ ax (xs (i + (1 : Int32)).toNatClampNeg) (xs (i + (2 : Int32)).toNatClampNeg) (xs (i + (3 : Int32)).toNatClampNeg) (fun r177 σ178 => vp_in (i + (1 : Int32)) L ∧ vp_in (i + (2 : Int32)) L ∧ vp_in (i + (3 : Int32)) L ∧ wp_X9_oneWay gm τ am (xs (i + (1 : Int32)).toNatClampNeg) (xs (i + (2 : Int32)).toNatClampNeg) (xs (i + (3 : Int32)).toNatClampNeg) (fun r182 τ183 => wl_law L xs gx gm ax am n (i + 6) σ178 τ183))) ∧ (¬ z2 = 19 → (z2 = 20 → vp_in (i + (1 : Int32)) L ∧ vp_in (i + (2 : Int32)) L ∧ wp_X8_taken gx σ ax (xs (i + (1 : Int32)).toNatClampNeg) (xs (i + (2 : Int32)).toNatClampNeg) (fun r187 σ188 => vp_in (i + (1 : Int32)) L ∧ vp_in (i + (2 : Int32)) L ∧ wp_X9_taken gm τ am (xs (i + (1 : Int32)).toNatClampNeg) (xs (i + (2 : Int32)).toNatClampNeg) (fun r191 τ192 => wl_law L xs gx gm ax am n (i + 6) σ188 τ192))) ∧ (¬ z2 = 20 → (z2 = 21 → vp_in (i + (1 : Int32)) L ∧ wp_X8_first gx σ ax (xs (i + (1 : Int32)).toNatClampNeg) (fun r195 σ196 => vp_in (i + (1 : Int32)) L ∧ wp_X9_first gm τ am (xs (i + (1 : Int32)).toNatClampNeg) (fun r198 τ199 => wl_law L xs gx gm ax am n (i + 6) σ196 τ199))) ∧ (¬ z2 = 21 → (z2 = 22 → vp_in (i + (1 : Int32)) L ∧ vp_in (i + (2 : Int32)) L ∧ wp_X8_turned gx σ ax (xs (i + (1 : Int32)).toNatClampNeg) (xs (i + (2 : Int32)).toNatClampNeg) (fun r203 σ204 => vp_in (i + (1 : Int32)) L ∧ vp_in (i + (2 : Int32)) L ∧ wp_X9_turned gm τ am (xs (i + (1 : Int32)).toNatClampNeg) (xs (i + (2 : Int32)).toNatClampNeg) (fun r207 τ208 => wl_law L xs gx gm ax am n (i + 6) σ204 τ208))) ∧ (¬ z2 = 22 → (z2 = 23 → vp_in (i + (1 : Int32)) L ∧ wp_X8_keep gx σ ax (xs (i + (1 : Int32)).toNatClampNeg) (fun r211 σ212 => vp_in (i + (1 : Int32)) L ∧ wp_X9_keep gm τ am (xs (i + (1 : Int32)).toNatClampNeg) (fun r214 τ215 => wl_law L xs gx gm ax am n (i + 6) σ212 τ215))) ∧ (¬ z2 = 23 → (z2 = 24 → vp_in (i + (1 : Int32)) L ∧ wp_X8_goBack gx σ ax (xs (i + (1 : Int32)).toNatClampNeg) (fun r218 σ219 => vp_in (i + (1 : Int32)) L ∧ wp_X9_goBack gm τ am (xs (i + (1 : Int32)).toNatClampNeg) (fun r221 τ222 => wl_law L xs gx gm ax am n (i + 6) σ219 τ222))) ∧ (¬ z2 = 24 → wl_law L xs gx gm ax am n (i + 6) σ τ))))))))))))))))))))))))))
set_option maxHeartbeats 8000000 in
set_option maxRecDepth 100000 in
theorem lp_law {p : Program} {l : Launch} {e : Env} {s : State} {m : MethodId} {below : List Frame} {meth : Method} {c : Code} {D : va_G} {gx gm : tw_G} {b L ax am : Nat} {xs : Nat → Int32} (X : CallFix p m c cL_law 4 s #[Value.ref b] wsL_law RL) (hr : meth.sig.returnType = ret) (hlk : meth.locks = false) (hX : va_X b L xs s s.heap) (hbl : b < s.heap.size) (hKx : tw_k D gx s) (hKm : tw_k D gm s) (hTx : tw_T gx) (hTm : tw_T gm) (hax : tw_is gx 8 ax) (ham : tw_is gm 9 am) : ∀ (n : Nat) (i : Int32) (σ τ : tw_S) (H : Heap) (locs : List Loc) (ls : Array Slot), wl_law L xs gx gm ax am n i σ τ → tl_w D gx gm (fun q : Nat => s.heap.size ≤ q) s σ τ H locs → lv_has ls 4 [(0, .ref b), (1, .ref ax), (2, .ref am), (3, .int i)] → W p l e room_1 s m #[Value.ref b] below meth c H locs 127 106587 (lw_Z below #[Value.ref b] s) (F0 m 18 ls []) := by
  have hbA : ¬ (fun q : Nat => s.heap.size ≤ q) b := Nat.not_le.mpr hbl
  intro n
  induction n with
  | zero =>
    intro i σ τ H locs ls h w hl
    exact False.elim h
  | succ n ih =>
    intro i σ τ H locs ls h w hl
    rw [wl_law] at h
    refine lv_iload_n X.1 X.2.1 dL_law_18 rfl (lv_at hl 3 rfl) ?_
    refine lv_aload_n X.1 X.2.1 dL_law_19 rfl (lv_at hl 0 rfl) ?_
    refine va_slen X.1 X.2.1 hX hbl hbA w.1.2.2.1 dL_law_20 ?_
    refine lv_bipush (v := 6) X.1 X.2.1 dL_law_21 (by decide) ?_
    refine lv_isub X.1 X.2.1 dL_law_23 ?_
    refine lv_icmp_gt (tgt := 949) X.1 X.2.1 dL_law_24 (by decide) (fun c0 => ?_) (fun c0 => ?_)
    · have h := h.1 c0
      refine lv_iconst (v := 1) X.1 X.2.1 dL_law_949 (by decide) ?_
      refine va_forget (fun q hq => w.1.2.2.1.2.2 q hq) ?_
      refine W.widen (k := 600000) (n := 7302250) (Nat.le_of_ble_eq_true rfl) (Nat.le_of_ble_eq_true rfl) ?_
      exact lw_ret X.1 X.2.1 hr hlk dL_law_950
    · have h := h.2 c0
      refine lv_aload_n X.1 X.2.1 dL_law_27 rfl (lv_at hl 0 rfl) ?_
      refine lv_iload_n X.1 X.2.1 dL_law_28 rfl (lv_at hl 3 rfl) ?_
      obtain ⟨hi1, h⟩ := h
      refine va_sld X.1 X.2.1 hX hbl hbA w.1.2.2.1 hi1 dL_law_29 ?_
      refine lv_bipush (v := 31) X.1 X.2.1 dL_law_30 (by decide) ?_
      refine lv_iand X.1 X.2.1 dL_law_32 ?_
      refine lv_topi (fun z2 ez2 => ?_)
      have h := h _ ez2
      by_cases c3 : z2 = 0
      · have h := h.1 c3
        refine lv_tableIn (off := 115) (tgt := 148) X.1 X.2.1 dL_law_33 (by rw [c3] <;> decide) (by rw [c3] <;> decide) (by rw [c3] <;> decide) (by decide) ?_
        refine lv_aload_n X.1 X.2.1 dL_law_148 rfl (lv_at hl 1 rfl) ?_
        refine lv_aload_n X.1 X.2.1 dL_law_149 rfl (lv_at hl 0 rfl) ?_
        refine lv_iload_n X.1 X.2.1 dL_law_150 rfl (lv_at hl 3 rfl) ?_
        refine lv_iconst (v := 1) X.1 X.2.1 dL_law_151 (by decide) ?_
        refine lv_iadd X.1 X.2.1 dL_law_152 ?_
        obtain ⟨hi4, h⟩ := h
        refine va_sld X.1 X.2.1 hX hbl hbA w.1.2.2.1 hi4 dL_law_153 ?_
        refine tl_x w (va_runV (As := [.int (xs (i + (1 : Int32)).toNatClampNeg)]) (rest := []) X (ct_X8_feed l D gx hTx _ σ ax hax (xs (i + (1 : Int32)).toNatClampNeg) _ h) (cwV 1 X.2.2.2.2 gL_law_X8_feed rfl rfl rfl (by decide +kernel) ⟨(Nat.le_of_ble_eq_true rfl), (Nat.le_of_ble_eq_true rfl)⟩) (tw_preV hKx w.1 hax (by decide) rfl [.int (xs (i + (1 : Int32)).toNatClampNeg)]) rfl rfl hl.1 rfl (lv_room (Nat.le_of_ble_eq_true rfl)) dL_law_154 ⟨(Nat.le_of_ble_eq_true rfl), (Nat.le_of_ble_eq_true rfl)⟩) (fun r5 σ6 H locs h w => ?_)
        refine lv_aload_n X.1 X.2.1 dL_law_157 rfl (lv_at hl 2 rfl) ?_
        refine lv_aload_n X.1 X.2.1 dL_law_158 rfl (lv_at hl 0 rfl) ?_
        refine lv_iload_n X.1 X.2.1 dL_law_159 rfl (lv_at hl 3 rfl) ?_
        refine lv_iconst (v := 1) X.1 X.2.1 dL_law_160 (by decide) ?_
        refine lv_iadd X.1 X.2.1 dL_law_161 ?_
        obtain ⟨hi7, h⟩ := h
        refine va_sld X.1 X.2.1 hX hbl hbA w.1.2.2.1 hi7 dL_law_162 ?_
        refine tl_m w (va_runV (As := [.int (xs (i + (1 : Int32)).toNatClampNeg)]) (rest := [.int r5]) X (ct_X9_feed l D gm hTm _ τ am ham (xs (i + (1 : Int32)).toNatClampNeg) _ h) (cwV 1 X.2.2.2.2 gL_law_X9_feed rfl rfl rfl (by decide +kernel) ⟨(Nat.le_of_ble_eq_true rfl), (Nat.le_of_ble_eq_true rfl)⟩) (tw_preV hKm w.2.1 ham (by decide) rfl [.int (xs (i + (1 : Int32)).toNatClampNeg)]) rfl rfl hl.1 rfl (lv_room (Nat.le_of_ble_eq_true rfl)) dL_law_163 ⟨(Nat.le_of_ble_eq_true rfl), (Nat.le_of_ble_eq_true rfl)⟩) (fun r8 τ9 H locs h w => ?_)
        refine lv_icmp_eq (tgt := 943) X.1 X.2.1 dL_law_166 (by decide) (fun c10 => ?_) (fun c10 => ?_)
        · have h := h.1 c10
          refine lv_iinc (v := (i + 6)) (lv' := [(3, .int (i + 6)), (0, .ref b), (1, .ref ax), (2, .ref am)]) X.1 X.2.1 dL_law_943 hl (k := 3) rfl rfl (by decide) rfl (fun ls hl => ?_)
          refine lv_goto (tgt := 18) X.1 X.2.1 dL_law_946 (by decide) ?_
          exact ih (i + 6) σ6 τ9 _ _ ls h w (lv_sub hl [1, 2, 3, 0] rfl)
        · have h := h.2 c10
          refine lv_iconst (v := 0) X.1 X.2.1 dL_law_169 (by decide) ?_
          exact False.elim h
      have h := h.2 c3
      by_cases c11 : z2 = 1
      · have h := h.1 c11
        refine lv_tableIn (off := 138) (tgt := 171) X.1 X.2.1 dL_law_33 (by rw [c11] <;> decide) (by rw [c11] <;> decide) (by rw [c11] <;> decide) (by decide) ?_
        refine lv_aload_n X.1 X.2.1 dL_law_171 rfl (lv_at hl 1 rfl) ?_
        refine lv_aload_n X.1 X.2.1 dL_law_172 rfl (lv_at hl 0 rfl) ?_
        refine lv_iload_n X.1 X.2.1 dL_law_173 rfl (lv_at hl 3 rfl) ?_
        refine lv_iconst (v := 1) X.1 X.2.1 dL_law_174 (by decide) ?_
        refine lv_iadd X.1 X.2.1 dL_law_175 ?_
        obtain ⟨hi12, h⟩ := h
        refine va_sld X.1 X.2.1 hX hbl hbA w.1.2.2.1 hi12 dL_law_176 ?_
        refine tl_x w (va_runV (As := [.int (xs (i + (1 : Int32)).toNatClampNeg)]) (rest := []) X (ct_X8_machine l D gx hTx _ σ ax hax (xs (i + (1 : Int32)).toNatClampNeg) _ h) (cwV 1 X.2.2.2.2 gL_law_X8_machine rfl rfl rfl (by decide +kernel) ⟨(Nat.le_of_ble_eq_true rfl), (Nat.le_of_ble_eq_true rfl)⟩) (tw_preV hKx w.1 hax (by decide) rfl [.int (xs (i + (1 : Int32)).toNatClampNeg)]) rfl rfl hl.1 rfl (lv_room (Nat.le_of_ble_eq_true rfl)) dL_law_177 ⟨(Nat.le_of_ble_eq_true rfl), (Nat.le_of_ble_eq_true rfl)⟩) (fun r13 σ14 H locs h w => ?_)
        refine lv_pop X.1 X.2.1 dL_law_180 rfl ?_
        refine lv_aload_n X.1 X.2.1 dL_law_181 rfl (lv_at hl 2 rfl) ?_
        refine lv_aload_n X.1 X.2.1 dL_law_182 rfl (lv_at hl 0 rfl) ?_
        refine lv_iload_n X.1 X.2.1 dL_law_183 rfl (lv_at hl 3 rfl) ?_
        refine lv_iconst (v := 1) X.1 X.2.1 dL_law_184 (by decide) ?_
        refine lv_iadd X.1 X.2.1 dL_law_185 ?_
        obtain ⟨hi15, h⟩ := h
        refine va_sld X.1 X.2.1 hX hbl hbA w.1.2.2.1 hi15 dL_law_186 ?_
        refine tl_m w (va_runV (As := [.int (xs (i + (1 : Int32)).toNatClampNeg)]) (rest := []) X (ct_X9_machine l D gm hTm _ τ am ham (xs (i + (1 : Int32)).toNatClampNeg) _ h) (cwV 1 X.2.2.2.2 gL_law_X9_machine rfl rfl rfl (by decide +kernel) ⟨(Nat.le_of_ble_eq_true rfl), (Nat.le_of_ble_eq_true rfl)⟩) (tw_preV hKm w.2.1 ham (by decide) rfl [.int (xs (i + (1 : Int32)).toNatClampNeg)]) rfl rfl hl.1 rfl (lv_room (Nat.le_of_ble_eq_true rfl)) dL_law_187 ⟨(Nat.le_of_ble_eq_true rfl), (Nat.le_of_ble_eq_true rfl)⟩) (fun r16 τ17 H locs h w => ?_)
        refine lv_pop X.1 X.2.1 dL_law_190 rfl ?_
        refine lv_goto (tgt := 943) X.1 X.2.1 dL_law_191 (by decide) ?_
        refine lv_iinc (v := (i + 6)) (lv' := [(3, .int (i + 6)), (0, .ref b), (1, .ref ax), (2, .ref am)]) X.1 X.2.1 dL_law_943 hl (k := 3) rfl rfl (by decide) rfl (fun ls hl => ?_)
        refine lv_goto (tgt := 18) X.1 X.2.1 dL_law_946 (by decide) ?_
        exact ih (i + 6) σ14 τ17 _ _ ls h w (lv_sub hl [1, 2, 3, 0] rfl)
      have h := h.2 c11
      by_cases c18 : z2 = 2
      · have h := h.1 c18
        refine lv_tableIn (off := 161) (tgt := 194) X.1 X.2.1 dL_law_33 (by rw [c18] <;> decide) (by rw [c18] <;> decide) (by rw [c18] <;> decide) (by decide) ?_
        refine lv_aload_n X.1 X.2.1 dL_law_194 rfl (lv_at hl 1 rfl) ?_
        refine tl_x w (va_runV (As := []) (rest := []) X (ct_X8_fault l D gx hTx _ σ ax hax  _ h) (cwV 0 X.2.2.2.2 gL_law_X8_fault rfl rfl rfl (by decide +kernel) ⟨(Nat.le_of_ble_eq_true rfl), (Nat.le_of_ble_eq_true rfl)⟩) (tw_preV hKx w.1 hax (by decide) rfl []) rfl rfl hl.1 rfl (lv_room (Nat.le_of_ble_eq_true rfl)) dL_law_195 ⟨(Nat.le_of_ble_eq_true rfl), (Nat.le_of_ble_eq_true rfl)⟩) (fun r19 σ20 H locs h w => ?_)
        refine lv_pop X.1 X.2.1 dL_law_198 rfl ?_
        refine lv_aload_n X.1 X.2.1 dL_law_199 rfl (lv_at hl 2 rfl) ?_
        refine tl_m w (va_runV (As := []) (rest := []) X (ct_X9_fault l D gm hTm _ τ am ham  _ h) (cwV 0 X.2.2.2.2 gL_law_X9_fault rfl rfl rfl (by decide +kernel) ⟨(Nat.le_of_ble_eq_true rfl), (Nat.le_of_ble_eq_true rfl)⟩) (tw_preV hKm w.2.1 ham (by decide) rfl []) rfl rfl hl.1 rfl (lv_room (Nat.le_of_ble_eq_true rfl)) dL_law_200 ⟨(Nat.le_of_ble_eq_true rfl), (Nat.le_of_ble_eq_true rfl)⟩) (fun r21 τ22 H locs h w => ?_)
        refine lv_pop X.1 X.2.1 dL_law_203 rfl ?_
        refine lv_goto (tgt := 943) X.1 X.2.1 dL_law_204 (by decide) ?_
        refine lv_iinc (v := (i + 6)) (lv' := [(3, .int (i + 6)), (0, .ref b), (1, .ref ax), (2, .ref am)]) X.1 X.2.1 dL_law_943 hl (k := 3) rfl rfl (by decide) rfl (fun ls hl => ?_)
        refine lv_goto (tgt := 18) X.1 X.2.1 dL_law_946 (by decide) ?_
        exact ih (i + 6) σ20 τ22 _ _ ls h w (lv_sub hl [1, 2, 3, 0] rfl)
      have h := h.2 c18
      by_cases c23 : z2 = 3
      · have h := h.1 c23
        refine lv_tableIn (off := 174) (tgt := 207) X.1 X.2.1 dL_law_33 (by rw [c23] <;> decide) (by rw [c23] <;> decide) (by rw [c23] <;> decide) (by decide) ?_
        refine lv_aload_n X.1 X.2.1 dL_law_207 rfl (lv_at hl 1 rfl) ?_
        refine lv_aload_n X.1 X.2.1 dL_law_208 rfl (lv_at hl 0 rfl) ?_
        refine lv_iload_n X.1 X.2.1 dL_law_209 rfl (lv_at hl 3 rfl) ?_
        refine lv_iconst (v := 1) X.1 X.2.1 dL_law_210 (by decide) ?_
        refine lv_iadd X.1 X.2.1 dL_law_211 ?_
        obtain ⟨hi24, h⟩ := h
        refine va_sld X.1 X.2.1 hX hbl hbA w.1.2.2.1 hi24 dL_law_212 ?_
        refine lv_aload_n X.1 X.2.1 dL_law_213 rfl (lv_at hl 0 rfl) ?_
        refine lv_iload_n X.1 X.2.1 dL_law_214 rfl (lv_at hl 3 rfl) ?_
        refine lv_iconst (v := 2) X.1 X.2.1 dL_law_215 (by decide) ?_
        refine lv_iadd X.1 X.2.1 dL_law_216 ?_
        obtain ⟨hi25, h⟩ := h
        refine va_sld X.1 X.2.1 hX hbl hbA w.1.2.2.1 hi25 dL_law_217 ?_
        refine lv_aload_n X.1 X.2.1 dL_law_218 rfl (lv_at hl 0 rfl) ?_
        refine lv_iload_n X.1 X.2.1 dL_law_219 rfl (lv_at hl 3 rfl) ?_
        refine lv_iconst (v := 3) X.1 X.2.1 dL_law_220 (by decide) ?_
        refine lv_iadd X.1 X.2.1 dL_law_221 ?_
        obtain ⟨hi26, h⟩ := h
        refine va_sld X.1 X.2.1 hX hbl hbA w.1.2.2.1 hi26 dL_law_222 ?_
        refine lv_aload_n X.1 X.2.1 dL_law_223 rfl (lv_at hl 0 rfl) ?_
        refine lv_iload_n X.1 X.2.1 dL_law_224 rfl (lv_at hl 3 rfl) ?_
        refine lv_iconst (v := 4) X.1 X.2.1 dL_law_225 (by decide) ?_
        refine lv_iadd X.1 X.2.1 dL_law_226 ?_
        obtain ⟨hi27, h⟩ := h
        refine va_sld X.1 X.2.1 hX hbl hbA w.1.2.2.1 hi27 dL_law_227 ?_
        refine lv_aload_n X.1 X.2.1 dL_law_228 rfl (lv_at hl 0 rfl) ?_
        refine lv_iload_n X.1 X.2.1 dL_law_229 rfl (lv_at hl 3 rfl) ?_
        refine lv_iconst (v := 5) X.1 X.2.1 dL_law_230 (by decide) ?_
        refine lv_iadd X.1 X.2.1 dL_law_231 ?_
        obtain ⟨hi28, h⟩ := h
        refine va_sld X.1 X.2.1 hX hbl hbA w.1.2.2.1 hi28 dL_law_232 ?_
        refine tl_x w (va_runV (As := [.int (xs (i + (1 : Int32)).toNatClampNeg), .int (xs (i + (2 : Int32)).toNatClampNeg), .int (xs (i + (3 : Int32)).toNatClampNeg), .int (xs (i + (4 : Int32)).toNatClampNeg), .int (xs (i + (5 : Int32)).toNatClampNeg)]) (rest := []) X (ct_X8_move l D gx hTx _ σ ax hax (xs (i + (1 : Int32)).toNatClampNeg) (xs (i + (2 : Int32)).toNatClampNeg) (xs (i + (3 : Int32)).toNatClampNeg) (xs (i + (4 : Int32)).toNatClampNeg) (xs (i + (5 : Int32)).toNatClampNeg) _ h) (cwV 5 X.2.2.2.2 gL_law_X8_move rfl rfl rfl (by decide +kernel) ⟨(Nat.le_of_ble_eq_true rfl), (Nat.le_of_ble_eq_true rfl)⟩) (tw_preV hKx w.1 hax (by decide) rfl [.int (xs (i + (1 : Int32)).toNatClampNeg), .int (xs (i + (2 : Int32)).toNatClampNeg), .int (xs (i + (3 : Int32)).toNatClampNeg), .int (xs (i + (4 : Int32)).toNatClampNeg), .int (xs (i + (5 : Int32)).toNatClampNeg)]) rfl rfl hl.1 rfl (lv_room (Nat.le_of_ble_eq_true rfl)) dL_law_233 ⟨(Nat.le_of_ble_eq_true rfl), (Nat.le_of_ble_eq_true rfl)⟩) (fun r29 σ30 H locs h w => ?_)
        refine lv_pop X.1 X.2.1 dL_law_236 rfl ?_
        refine lv_aload_n X.1 X.2.1 dL_law_237 rfl (lv_at hl 2 rfl) ?_
        refine lv_aload_n X.1 X.2.1 dL_law_238 rfl (lv_at hl 0 rfl) ?_
        refine lv_iload_n X.1 X.2.1 dL_law_239 rfl (lv_at hl 3 rfl) ?_
        refine lv_iconst (v := 1) X.1 X.2.1 dL_law_240 (by decide) ?_
        refine lv_iadd X.1 X.2.1 dL_law_241 ?_
        obtain ⟨hi31, h⟩ := h
        refine va_sld X.1 X.2.1 hX hbl hbA w.1.2.2.1 hi31 dL_law_242 ?_
        refine lv_aload_n X.1 X.2.1 dL_law_243 rfl (lv_at hl 0 rfl) ?_
        refine lv_iload_n X.1 X.2.1 dL_law_244 rfl (lv_at hl 3 rfl) ?_
        refine lv_iconst (v := 2) X.1 X.2.1 dL_law_245 (by decide) ?_
        refine lv_iadd X.1 X.2.1 dL_law_246 ?_
        obtain ⟨hi32, h⟩ := h
        refine va_sld X.1 X.2.1 hX hbl hbA w.1.2.2.1 hi32 dL_law_247 ?_
        refine lv_aload_n X.1 X.2.1 dL_law_248 rfl (lv_at hl 0 rfl) ?_
        refine lv_iload_n X.1 X.2.1 dL_law_249 rfl (lv_at hl 3 rfl) ?_
        refine lv_iconst (v := 3) X.1 X.2.1 dL_law_250 (by decide) ?_
        refine lv_iadd X.1 X.2.1 dL_law_251 ?_
        obtain ⟨hi33, h⟩ := h
        refine va_sld X.1 X.2.1 hX hbl hbA w.1.2.2.1 hi33 dL_law_252 ?_
        refine lv_aload_n X.1 X.2.1 dL_law_253 rfl (lv_at hl 0 rfl) ?_
        refine lv_iload_n X.1 X.2.1 dL_law_254 rfl (lv_at hl 3 rfl) ?_
        refine lv_iconst (v := 4) X.1 X.2.1 dL_law_255 (by decide) ?_
        refine lv_iadd X.1 X.2.1 dL_law_256 ?_
        obtain ⟨hi34, h⟩ := h
        refine va_sld X.1 X.2.1 hX hbl hbA w.1.2.2.1 hi34 dL_law_257 ?_
        refine lv_aload_n X.1 X.2.1 dL_law_258 rfl (lv_at hl 0 rfl) ?_
        refine lv_iload_n X.1 X.2.1 dL_law_259 rfl (lv_at hl 3 rfl) ?_
        refine lv_iconst (v := 5) X.1 X.2.1 dL_law_260 (by decide) ?_
        refine lv_iadd X.1 X.2.1 dL_law_261 ?_
        obtain ⟨hi35, h⟩ := h
        refine va_sld X.1 X.2.1 hX hbl hbA w.1.2.2.1 hi35 dL_law_262 ?_
        refine tl_m w (va_runV (As := [.int (xs (i + (1 : Int32)).toNatClampNeg), .int (xs (i + (2 : Int32)).toNatClampNeg), .int (xs (i + (3 : Int32)).toNatClampNeg), .int (xs (i + (4 : Int32)).toNatClampNeg), .int (xs (i + (5 : Int32)).toNatClampNeg)]) (rest := []) X (ct_X9_move l D gm hTm _ τ am ham (xs (i + (1 : Int32)).toNatClampNeg) (xs (i + (2 : Int32)).toNatClampNeg) (xs (i + (3 : Int32)).toNatClampNeg) (xs (i + (4 : Int32)).toNatClampNeg) (xs (i + (5 : Int32)).toNatClampNeg) _ h) (cwV 5 X.2.2.2.2 gL_law_X9_move rfl rfl rfl (by decide +kernel) ⟨(Nat.le_of_ble_eq_true rfl), (Nat.le_of_ble_eq_true rfl)⟩) (tw_preV hKm w.2.1 ham (by decide) rfl [.int (xs (i + (1 : Int32)).toNatClampNeg), .int (xs (i + (2 : Int32)).toNatClampNeg), .int (xs (i + (3 : Int32)).toNatClampNeg), .int (xs (i + (4 : Int32)).toNatClampNeg), .int (xs (i + (5 : Int32)).toNatClampNeg)]) rfl rfl hl.1 rfl (lv_room (Nat.le_of_ble_eq_true rfl)) dL_law_263 ⟨(Nat.le_of_ble_eq_true rfl), (Nat.le_of_ble_eq_true rfl)⟩) (fun r36 τ37 H locs h w => ?_)
        refine lv_pop X.1 X.2.1 dL_law_266 rfl ?_
        refine lv_goto (tgt := 943) X.1 X.2.1 dL_law_267 (by decide) ?_
        refine lv_iinc (v := (i + 6)) (lv' := [(3, .int (i + 6)), (0, .ref b), (1, .ref ax), (2, .ref am)]) X.1 X.2.1 dL_law_943 hl (k := 3) rfl rfl (by decide) rfl (fun ls hl => ?_)
        refine lv_goto (tgt := 18) X.1 X.2.1 dL_law_946 (by decide) ?_
        exact ih (i + 6) σ30 τ37 _ _ ls h w (lv_sub hl [1, 2, 3, 0] rfl)
      have h := h.2 c23
      by_cases c38 : z2 = 4
      · have h := h.1 c38
        refine lv_tableIn (off := 237) (tgt := 270) X.1 X.2.1 dL_law_33 (by rw [c38] <;> decide) (by rw [c38] <;> decide) (by rw [c38] <;> decide) (by decide) ?_
        refine lv_aload_n X.1 X.2.1 dL_law_270 rfl (lv_at hl 1 rfl) ?_
        refine lv_aload_n X.1 X.2.1 dL_law_271 rfl (lv_at hl 0 rfl) ?_
        refine lv_iload_n X.1 X.2.1 dL_law_272 rfl (lv_at hl 3 rfl) ?_
        refine lv_iconst (v := 1) X.1 X.2.1 dL_law_273 (by decide) ?_
        refine lv_iadd X.1 X.2.1 dL_law_274 ?_
        obtain ⟨hi39, h⟩ := h
        refine va_sld X.1 X.2.1 hX hbl hbA w.1.2.2.1 hi39 dL_law_275 ?_
        refine lv_aload_n X.1 X.2.1 dL_law_276 rfl (lv_at hl 0 rfl) ?_
        refine lv_iload_n X.1 X.2.1 dL_law_277 rfl (lv_at hl 3 rfl) ?_
        refine lv_iconst (v := 2) X.1 X.2.1 dL_law_278 (by decide) ?_
        refine lv_iadd X.1 X.2.1 dL_law_279 ?_
        obtain ⟨hi40, h⟩ := h
        refine va_sld X.1 X.2.1 hX hbl hbA w.1.2.2.1 hi40 dL_law_280 ?_
        refine lv_aload_n X.1 X.2.1 dL_law_281 rfl (lv_at hl 0 rfl) ?_
        refine lv_iload_n X.1 X.2.1 dL_law_282 rfl (lv_at hl 3 rfl) ?_
        refine lv_iconst (v := 3) X.1 X.2.1 dL_law_283 (by decide) ?_
        refine lv_iadd X.1 X.2.1 dL_law_284 ?_
        obtain ⟨hi41, h⟩ := h
        refine va_sld X.1 X.2.1 hX hbl hbA w.1.2.2.1 hi41 dL_law_285 ?_
        refine tl_x w (va_runV (As := [.int (xs (i + (1 : Int32)).toNatClampNeg), .int (xs (i + (2 : Int32)).toNatClampNeg), .int (xs (i + (3 : Int32)).toNatClampNeg)]) (rest := []) X (ct_X8_none l D gx hTx _ σ ax hax (xs (i + (1 : Int32)).toNatClampNeg) (xs (i + (2 : Int32)).toNatClampNeg) (xs (i + (3 : Int32)).toNatClampNeg) _ h) (cwV 3 X.2.2.2.2 gL_law_X8_none rfl rfl rfl (by decide +kernel) ⟨(Nat.le_of_ble_eq_true rfl), (Nat.le_of_ble_eq_true rfl)⟩) (tw_preV hKx w.1 hax (by decide) rfl [.int (xs (i + (1 : Int32)).toNatClampNeg), .int (xs (i + (2 : Int32)).toNatClampNeg), .int (xs (i + (3 : Int32)).toNatClampNeg)]) rfl rfl hl.1 rfl (lv_room (Nat.le_of_ble_eq_true rfl)) dL_law_286 ⟨(Nat.le_of_ble_eq_true rfl), (Nat.le_of_ble_eq_true rfl)⟩) (fun r42 σ43 H locs h w => ?_)
        refine lv_pop X.1 X.2.1 dL_law_289 rfl ?_
        refine lv_aload_n X.1 X.2.1 dL_law_290 rfl (lv_at hl 2 rfl) ?_
        refine lv_aload_n X.1 X.2.1 dL_law_291 rfl (lv_at hl 0 rfl) ?_
        refine lv_iload_n X.1 X.2.1 dL_law_292 rfl (lv_at hl 3 rfl) ?_
        refine lv_iconst (v := 1) X.1 X.2.1 dL_law_293 (by decide) ?_
        refine lv_iadd X.1 X.2.1 dL_law_294 ?_
        obtain ⟨hi44, h⟩ := h
        refine va_sld X.1 X.2.1 hX hbl hbA w.1.2.2.1 hi44 dL_law_295 ?_
        refine lv_aload_n X.1 X.2.1 dL_law_296 rfl (lv_at hl 0 rfl) ?_
        refine lv_iload_n X.1 X.2.1 dL_law_297 rfl (lv_at hl 3 rfl) ?_
        refine lv_iconst (v := 2) X.1 X.2.1 dL_law_298 (by decide) ?_
        refine lv_iadd X.1 X.2.1 dL_law_299 ?_
        obtain ⟨hi45, h⟩ := h
        refine va_sld X.1 X.2.1 hX hbl hbA w.1.2.2.1 hi45 dL_law_300 ?_
        refine lv_aload_n X.1 X.2.1 dL_law_301 rfl (lv_at hl 0 rfl) ?_
        refine lv_iload_n X.1 X.2.1 dL_law_302 rfl (lv_at hl 3 rfl) ?_
        refine lv_iconst (v := 3) X.1 X.2.1 dL_law_303 (by decide) ?_
        refine lv_iadd X.1 X.2.1 dL_law_304 ?_
        obtain ⟨hi46, h⟩ := h
        refine va_sld X.1 X.2.1 hX hbl hbA w.1.2.2.1 hi46 dL_law_305 ?_
        refine tl_m w (va_runV (As := [.int (xs (i + (1 : Int32)).toNatClampNeg), .int (xs (i + (2 : Int32)).toNatClampNeg), .int (xs (i + (3 : Int32)).toNatClampNeg)]) (rest := []) X (ct_X9_none l D gm hTm _ τ am ham (xs (i + (1 : Int32)).toNatClampNeg) (xs (i + (2 : Int32)).toNatClampNeg) (xs (i + (3 : Int32)).toNatClampNeg) _ h) (cwV 3 X.2.2.2.2 gL_law_X9_none rfl rfl rfl (by decide +kernel) ⟨(Nat.le_of_ble_eq_true rfl), (Nat.le_of_ble_eq_true rfl)⟩) (tw_preV hKm w.2.1 ham (by decide) rfl [.int (xs (i + (1 : Int32)).toNatClampNeg), .int (xs (i + (2 : Int32)).toNatClampNeg), .int (xs (i + (3 : Int32)).toNatClampNeg)]) rfl rfl hl.1 rfl (lv_room (Nat.le_of_ble_eq_true rfl)) dL_law_306 ⟨(Nat.le_of_ble_eq_true rfl), (Nat.le_of_ble_eq_true rfl)⟩) (fun r47 τ48 H locs h w => ?_)
        refine lv_pop X.1 X.2.1 dL_law_309 rfl ?_
        refine lv_goto (tgt := 943) X.1 X.2.1 dL_law_310 (by decide) ?_
        refine lv_iinc (v := (i + 6)) (lv' := [(3, .int (i + 6)), (0, .ref b), (1, .ref ax), (2, .ref am)]) X.1 X.2.1 dL_law_943 hl (k := 3) rfl rfl (by decide) rfl (fun ls hl => ?_)
        refine lv_goto (tgt := 18) X.1 X.2.1 dL_law_946 (by decide) ?_
        exact ih (i + 6) σ43 τ48 _ _ ls h w (lv_sub hl [1, 2, 3, 0] rfl)
      have h := h.2 c38
      by_cases c49 : z2 = 5
      · have h := h.1 c49
        refine lv_tableIn (off := 280) (tgt := 313) X.1 X.2.1 dL_law_33 (by rw [c49] <;> decide) (by rw [c49] <;> decide) (by rw [c49] <;> decide) (by decide) ?_
        refine lv_aload_n X.1 X.2.1 dL_law_313 rfl (lv_at hl 1 rfl) ?_
        refine lv_aload_n X.1 X.2.1 dL_law_314 rfl (lv_at hl 0 rfl) ?_
        refine lv_iload_n X.1 X.2.1 dL_law_315 rfl (lv_at hl 3 rfl) ?_
        refine lv_iconst (v := 1) X.1 X.2.1 dL_law_316 (by decide) ?_
        refine lv_iadd X.1 X.2.1 dL_law_317 ?_
        obtain ⟨hi50, h⟩ := h
        refine va_sld X.1 X.2.1 hX hbl hbA w.1.2.2.1 hi50 dL_law_318 ?_
        refine lv_aload_n X.1 X.2.1 dL_law_319 rfl (lv_at hl 0 rfl) ?_
        refine lv_iload_n X.1 X.2.1 dL_law_320 rfl (lv_at hl 3 rfl) ?_
        refine lv_iconst (v := 2) X.1 X.2.1 dL_law_321 (by decide) ?_
        refine lv_iadd X.1 X.2.1 dL_law_322 ?_
        obtain ⟨hi51, h⟩ := h
        refine va_sld X.1 X.2.1 hX hbl hbA w.1.2.2.1 hi51 dL_law_323 ?_
        refine tl_x w (va_runV (As := [.int (xs (i + (1 : Int32)).toNatClampNeg), .int (xs (i + (2 : Int32)).toNatClampNeg)]) (rest := []) X (ct_X8_states l D gx hTx _ σ ax hax (xs (i + (1 : Int32)).toNatClampNeg) (xs (i + (2 : Int32)).toNatClampNeg) _ h) (cwV 2 X.2.2.2.2 gL_law_X8_states rfl rfl rfl (by decide +kernel) ⟨(Nat.le_of_ble_eq_true rfl), (Nat.le_of_ble_eq_true rfl)⟩) (tw_preV hKx w.1 hax (by decide) rfl [.int (xs (i + (1 : Int32)).toNatClampNeg), .int (xs (i + (2 : Int32)).toNatClampNeg)]) rfl rfl hl.1 rfl (lv_room (Nat.le_of_ble_eq_true rfl)) dL_law_324 ⟨(Nat.le_of_ble_eq_true rfl), (Nat.le_of_ble_eq_true rfl)⟩) (fun r52 σ53 H locs h w => ?_)
        refine lv_pop X.1 X.2.1 dL_law_327 rfl ?_
        refine lv_aload_n X.1 X.2.1 dL_law_328 rfl (lv_at hl 2 rfl) ?_
        refine lv_aload_n X.1 X.2.1 dL_law_329 rfl (lv_at hl 0 rfl) ?_
        refine lv_iload_n X.1 X.2.1 dL_law_330 rfl (lv_at hl 3 rfl) ?_
        refine lv_iconst (v := 1) X.1 X.2.1 dL_law_331 (by decide) ?_
        refine lv_iadd X.1 X.2.1 dL_law_332 ?_
        obtain ⟨hi54, h⟩ := h
        refine va_sld X.1 X.2.1 hX hbl hbA w.1.2.2.1 hi54 dL_law_333 ?_
        refine lv_aload_n X.1 X.2.1 dL_law_334 rfl (lv_at hl 0 rfl) ?_
        refine lv_iload_n X.1 X.2.1 dL_law_335 rfl (lv_at hl 3 rfl) ?_
        refine lv_iconst (v := 2) X.1 X.2.1 dL_law_336 (by decide) ?_
        refine lv_iadd X.1 X.2.1 dL_law_337 ?_
        obtain ⟨hi55, h⟩ := h
        refine va_sld X.1 X.2.1 hX hbl hbA w.1.2.2.1 hi55 dL_law_338 ?_
        refine tl_m w (va_runV (As := [.int (xs (i + (1 : Int32)).toNatClampNeg), .int (xs (i + (2 : Int32)).toNatClampNeg)]) (rest := []) X (ct_X9_states l D gm hTm _ τ am ham (xs (i + (1 : Int32)).toNatClampNeg) (xs (i + (2 : Int32)).toNatClampNeg) _ h) (cwV 2 X.2.2.2.2 gL_law_X9_states rfl rfl rfl (by decide +kernel) ⟨(Nat.le_of_ble_eq_true rfl), (Nat.le_of_ble_eq_true rfl)⟩) (tw_preV hKm w.2.1 ham (by decide) rfl [.int (xs (i + (1 : Int32)).toNatClampNeg), .int (xs (i + (2 : Int32)).toNatClampNeg)]) rfl rfl hl.1 rfl (lv_room (Nat.le_of_ble_eq_true rfl)) dL_law_339 ⟨(Nat.le_of_ble_eq_true rfl), (Nat.le_of_ble_eq_true rfl)⟩) (fun r56 τ57 H locs h w => ?_)
        refine lv_pop X.1 X.2.1 dL_law_342 rfl ?_
        refine lv_goto (tgt := 943) X.1 X.2.1 dL_law_343 (by decide) ?_
        refine lv_iinc (v := (i + 6)) (lv' := [(3, .int (i + 6)), (0, .ref b), (1, .ref ax), (2, .ref am)]) X.1 X.2.1 dL_law_943 hl (k := 3) rfl rfl (by decide) rfl (fun ls hl => ?_)
        refine lv_goto (tgt := 18) X.1 X.2.1 dL_law_946 (by decide) ?_
        exact ih (i + 6) σ53 τ57 _ _ ls h w (lv_sub hl [1, 2, 3, 0] rfl)
      have h := h.2 c49
      by_cases c58 : z2 = 6
      · have h := h.1 c58
        refine lv_tableIn (off := 313) (tgt := 346) X.1 X.2.1 dL_law_33 (by rw [c58] <;> decide) (by rw [c58] <;> decide) (by rw [c58] <;> decide) (by decide) ?_
        refine lv_aload_n X.1 X.2.1 dL_law_346 rfl (lv_at hl 1 rfl) ?_
        refine lv_aload_n X.1 X.2.1 dL_law_347 rfl (lv_at hl 0 rfl) ?_
        refine lv_iload_n X.1 X.2.1 dL_law_348 rfl (lv_at hl 3 rfl) ?_
        refine lv_iconst (v := 1) X.1 X.2.1 dL_law_349 (by decide) ?_
        refine lv_iadd X.1 X.2.1 dL_law_350 ?_
        obtain ⟨hi59, h⟩ := h
        refine va_sld X.1 X.2.1 hX hbl hbA w.1.2.2.1 hi59 dL_law_351 ?_
        refine lv_aload_n X.1 X.2.1 dL_law_352 rfl (lv_at hl 0 rfl) ?_
        refine lv_iload_n X.1 X.2.1 dL_law_353 rfl (lv_at hl 3 rfl) ?_
        refine lv_iconst (v := 2) X.1 X.2.1 dL_law_354 (by decide) ?_
        refine lv_iadd X.1 X.2.1 dL_law_355 ?_
        obtain ⟨hi60, h⟩ := h
        refine va_sld X.1 X.2.1 hX hbl hbA w.1.2.2.1 hi60 dL_law_356 ?_
        refine tl_x w (va_runV (As := [.int (xs (i + (1 : Int32)).toNatClampNeg), .int (xs (i + (2 : Int32)).toNatClampNeg)]) (rest := []) X (ct_X8_drift l D gx hTx _ σ ax hax (xs (i + (1 : Int32)).toNatClampNeg) (xs (i + (2 : Int32)).toNatClampNeg) _ h) (cwV 2 X.2.2.2.2 gL_law_X8_drift rfl rfl rfl (by decide +kernel) ⟨(Nat.le_of_ble_eq_true rfl), (Nat.le_of_ble_eq_true rfl)⟩) (tw_preV hKx w.1 hax (by decide) rfl [.int (xs (i + (1 : Int32)).toNatClampNeg), .int (xs (i + (2 : Int32)).toNatClampNeg)]) rfl rfl hl.1 rfl (lv_room (Nat.le_of_ble_eq_true rfl)) dL_law_357 ⟨(Nat.le_of_ble_eq_true rfl), (Nat.le_of_ble_eq_true rfl)⟩) (fun r61 σ62 H locs h w => ?_)
        refine lv_pop X.1 X.2.1 dL_law_360 rfl ?_
        refine lv_aload_n X.1 X.2.1 dL_law_361 rfl (lv_at hl 2 rfl) ?_
        refine lv_aload_n X.1 X.2.1 dL_law_362 rfl (lv_at hl 0 rfl) ?_
        refine lv_iload_n X.1 X.2.1 dL_law_363 rfl (lv_at hl 3 rfl) ?_
        refine lv_iconst (v := 1) X.1 X.2.1 dL_law_364 (by decide) ?_
        refine lv_iadd X.1 X.2.1 dL_law_365 ?_
        obtain ⟨hi63, h⟩ := h
        refine va_sld X.1 X.2.1 hX hbl hbA w.1.2.2.1 hi63 dL_law_366 ?_
        refine lv_aload_n X.1 X.2.1 dL_law_367 rfl (lv_at hl 0 rfl) ?_
        refine lv_iload_n X.1 X.2.1 dL_law_368 rfl (lv_at hl 3 rfl) ?_
        refine lv_iconst (v := 2) X.1 X.2.1 dL_law_369 (by decide) ?_
        refine lv_iadd X.1 X.2.1 dL_law_370 ?_
        obtain ⟨hi64, h⟩ := h
        refine va_sld X.1 X.2.1 hX hbl hbA w.1.2.2.1 hi64 dL_law_371 ?_
        refine tl_m w (va_runV (As := [.int (xs (i + (1 : Int32)).toNatClampNeg), .int (xs (i + (2 : Int32)).toNatClampNeg)]) (rest := []) X (ct_X9_drift l D gm hTm _ τ am ham (xs (i + (1 : Int32)).toNatClampNeg) (xs (i + (2 : Int32)).toNatClampNeg) _ h) (cwV 2 X.2.2.2.2 gL_law_X9_drift rfl rfl rfl (by decide +kernel) ⟨(Nat.le_of_ble_eq_true rfl), (Nat.le_of_ble_eq_true rfl)⟩) (tw_preV hKm w.2.1 ham (by decide) rfl [.int (xs (i + (1 : Int32)).toNatClampNeg), .int (xs (i + (2 : Int32)).toNatClampNeg)]) rfl rfl hl.1 rfl (lv_room (Nat.le_of_ble_eq_true rfl)) dL_law_372 ⟨(Nat.le_of_ble_eq_true rfl), (Nat.le_of_ble_eq_true rfl)⟩) (fun r65 τ66 H locs h w => ?_)
        refine lv_pop X.1 X.2.1 dL_law_375 rfl ?_
        refine lv_goto (tgt := 943) X.1 X.2.1 dL_law_376 (by decide) ?_
        refine lv_iinc (v := (i + 6)) (lv' := [(3, .int (i + 6)), (0, .ref b), (1, .ref ax), (2, .ref am)]) X.1 X.2.1 dL_law_943 hl (k := 3) rfl rfl (by decide) rfl (fun ls hl => ?_)
        refine lv_goto (tgt := 18) X.1 X.2.1 dL_law_946 (by decide) ?_
        exact ih (i + 6) σ62 τ66 _ _ ls h w (lv_sub hl [1, 2, 3, 0] rfl)
      have h := h.2 c58
      by_cases c67 : z2 = 7
      · have h := h.1 c67
        refine lv_tableIn (off := 346) (tgt := 379) X.1 X.2.1 dL_law_33 (by rw [c67] <;> decide) (by rw [c67] <;> decide) (by rw [c67] <;> decide) (by decide) ?_
        refine lv_aload_n X.1 X.2.1 dL_law_379 rfl (lv_at hl 1 rfl) ?_
        refine tl_x w (va_runV (As := []) (rest := []) X (ct_X8_swap l D gx hTx _ σ ax hax  _ h) (cwV 0 X.2.2.2.2 gL_law_X8_swap rfl rfl rfl (by decide +kernel) ⟨(Nat.le_of_ble_eq_true rfl), (Nat.le_of_ble_eq_true rfl)⟩) (tw_preV hKx w.1 hax (by decide) rfl []) rfl rfl hl.1 rfl (lv_room (Nat.le_of_ble_eq_true rfl)) dL_law_380 ⟨(Nat.le_of_ble_eq_true rfl), (Nat.le_of_ble_eq_true rfl)⟩) (fun r68 σ69 H locs h w => ?_)
        refine lv_pop X.1 X.2.1 dL_law_383 rfl ?_
        refine lv_aload_n X.1 X.2.1 dL_law_384 rfl (lv_at hl 2 rfl) ?_
        refine tl_m w (va_runV (As := []) (rest := []) X (ct_X9_swap l D gm hTm _ τ am ham  _ h) (cwV 0 X.2.2.2.2 gL_law_X9_swap rfl rfl rfl (by decide +kernel) ⟨(Nat.le_of_ble_eq_true rfl), (Nat.le_of_ble_eq_true rfl)⟩) (tw_preV hKm w.2.1 ham (by decide) rfl []) rfl rfl hl.1 rfl (lv_room (Nat.le_of_ble_eq_true rfl)) dL_law_385 ⟨(Nat.le_of_ble_eq_true rfl), (Nat.le_of_ble_eq_true rfl)⟩) (fun r70 τ71 H locs h w => ?_)
        refine lv_pop X.1 X.2.1 dL_law_388 rfl ?_
        refine lv_goto (tgt := 943) X.1 X.2.1 dL_law_389 (by decide) ?_
        refine lv_iinc (v := (i + 6)) (lv' := [(3, .int (i + 6)), (0, .ref b), (1, .ref ax), (2, .ref am)]) X.1 X.2.1 dL_law_943 hl (k := 3) rfl rfl (by decide) rfl (fun ls hl => ?_)
        refine lv_goto (tgt := 18) X.1 X.2.1 dL_law_946 (by decide) ?_
        exact ih (i + 6) σ69 τ71 _ _ ls h w (lv_sub hl [1, 2, 3, 0] rfl)
      have h := h.2 c67
      by_cases c72 : z2 = 8
      · have h := h.1 c72
        refine lv_tableIn (off := 359) (tgt := 392) X.1 X.2.1 dL_law_33 (by rw [c72] <;> decide) (by rw [c72] <;> decide) (by rw [c72] <;> decide) (by decide) ?_
        refine lv_aload_n X.1 X.2.1 dL_law_392 rfl (lv_at hl 1 rfl) ?_
        refine tl_x w (va_runV (As := []) (rest := []) X (ct_X8_undo l D gx hTx _ σ ax hax  _ h) (cwV 0 X.2.2.2.2 gL_law_X8_undo rfl rfl rfl (by decide +kernel) ⟨(Nat.le_of_ble_eq_true rfl), (Nat.le_of_ble_eq_true rfl)⟩) (tw_preV hKx w.1 hax (by decide) rfl []) rfl rfl hl.1 rfl (lv_room (Nat.le_of_ble_eq_true rfl)) dL_law_393 ⟨(Nat.le_of_ble_eq_true rfl), (Nat.le_of_ble_eq_true rfl)⟩) (fun r73 σ74 H locs h w => ?_)
        refine lv_pop X.1 X.2.1 dL_law_396 rfl ?_
        refine lv_aload_n X.1 X.2.1 dL_law_397 rfl (lv_at hl 2 rfl) ?_
        refine tl_m w (va_runV (As := []) (rest := []) X (ct_X9_undo l D gm hTm _ τ am ham  _ h) (cwV 0 X.2.2.2.2 gL_law_X9_undo rfl rfl rfl (by decide +kernel) ⟨(Nat.le_of_ble_eq_true rfl), (Nat.le_of_ble_eq_true rfl)⟩) (tw_preV hKm w.2.1 ham (by decide) rfl []) rfl rfl hl.1 rfl (lv_room (Nat.le_of_ble_eq_true rfl)) dL_law_398 ⟨(Nat.le_of_ble_eq_true rfl), (Nat.le_of_ble_eq_true rfl)⟩) (fun r75 τ76 H locs h w => ?_)
        refine lv_pop X.1 X.2.1 dL_law_401 rfl ?_
        refine lv_goto (tgt := 943) X.1 X.2.1 dL_law_402 (by decide) ?_
        refine lv_iinc (v := (i + 6)) (lv' := [(3, .int (i + 6)), (0, .ref b), (1, .ref ax), (2, .ref am)]) X.1 X.2.1 dL_law_943 hl (k := 3) rfl rfl (by decide) rfl (fun ls hl => ?_)
        refine lv_goto (tgt := 18) X.1 X.2.1 dL_law_946 (by decide) ?_
        exact ih (i + 6) σ74 τ76 _ _ ls h w (lv_sub hl [1, 2, 3, 0] rfl)
      have h := h.2 c72
      by_cases c77 : z2 = 9
      · have h := h.1 c77
        refine lv_tableIn (off := 372) (tgt := 405) X.1 X.2.1 dL_law_33 (by rw [c77] <;> decide) (by rw [c77] <;> decide) (by rw [c77] <;> decide) (by decide) ?_
        refine lv_aload_n X.1 X.2.1 dL_law_405 rfl (lv_at hl 1 rfl) ?_
        refine lv_aload_n X.1 X.2.1 dL_law_406 rfl (lv_at hl 0 rfl) ?_
        refine lv_iload_n X.1 X.2.1 dL_law_407 rfl (lv_at hl 3 rfl) ?_
        refine lv_iconst (v := 1) X.1 X.2.1 dL_law_408 (by decide) ?_
        refine lv_iadd X.1 X.2.1 dL_law_409 ?_
        obtain ⟨hi78, h⟩ := h
        refine va_sld X.1 X.2.1 hX hbl hbA w.1.2.2.1 hi78 dL_law_410 ?_
        refine lv_aload_n X.1 X.2.1 dL_law_411 rfl (lv_at hl 0 rfl) ?_
        refine lv_iload_n X.1 X.2.1 dL_law_412 rfl (lv_at hl 3 rfl) ?_
        refine lv_iconst (v := 2) X.1 X.2.1 dL_law_413 (by decide) ?_
        refine lv_iadd X.1 X.2.1 dL_law_414 ?_
        obtain ⟨hi79, h⟩ := h
        refine va_sld X.1 X.2.1 hX hbl hbA w.1.2.2.1 hi79 dL_law_415 ?_
        refine lv_aload_n X.1 X.2.1 dL_law_416 rfl (lv_at hl 0 rfl) ?_
        refine lv_iload_n X.1 X.2.1 dL_law_417 rfl (lv_at hl 3 rfl) ?_
        refine lv_iconst (v := 3) X.1 X.2.1 dL_law_418 (by decide) ?_
        refine lv_iadd X.1 X.2.1 dL_law_419 ?_
        obtain ⟨hi80, h⟩ := h
        refine va_sld X.1 X.2.1 hX hbl hbA w.1.2.2.1 hi80 dL_law_420 ?_
        refine tl_x w (va_runV (As := [.int (xs (i + (1 : Int32)).toNatClampNeg), .int (xs (i + (2 : Int32)).toNatClampNeg), .int (xs (i + (3 : Int32)).toNatClampNeg)]) (rest := []) X (ct_X8_moveOf l D gx hTx _ σ ax hax (xs (i + (1 : Int32)).toNatClampNeg) (xs (i + (2 : Int32)).toNatClampNeg) (xs (i + (3 : Int32)).toNatClampNeg) _ h) (cwV 3 X.2.2.2.2 gL_law_X8_moveOf rfl rfl rfl (by decide +kernel) ⟨(Nat.le_of_ble_eq_true rfl), (Nat.le_of_ble_eq_true rfl)⟩) (tw_preV hKx w.1 hax (by decide) rfl [.int (xs (i + (1 : Int32)).toNatClampNeg), .int (xs (i + (2 : Int32)).toNatClampNeg), .int (xs (i + (3 : Int32)).toNatClampNeg)]) rfl rfl hl.1 rfl (lv_room (Nat.le_of_ble_eq_true rfl)) dL_law_421 ⟨(Nat.le_of_ble_eq_true rfl), (Nat.le_of_ble_eq_true rfl)⟩) (fun r81 σ82 H locs h w => ?_)
        refine lv_pop X.1 X.2.1 dL_law_424 rfl ?_
        refine lv_aload_n X.1 X.2.1 dL_law_425 rfl (lv_at hl 2 rfl) ?_
        refine lv_aload_n X.1 X.2.1 dL_law_426 rfl (lv_at hl 0 rfl) ?_
        refine lv_iload_n X.1 X.2.1 dL_law_427 rfl (lv_at hl 3 rfl) ?_
        refine lv_iconst (v := 1) X.1 X.2.1 dL_law_428 (by decide) ?_
        refine lv_iadd X.1 X.2.1 dL_law_429 ?_
        obtain ⟨hi83, h⟩ := h
        refine va_sld X.1 X.2.1 hX hbl hbA w.1.2.2.1 hi83 dL_law_430 ?_
        refine lv_aload_n X.1 X.2.1 dL_law_431 rfl (lv_at hl 0 rfl) ?_
        refine lv_iload_n X.1 X.2.1 dL_law_432 rfl (lv_at hl 3 rfl) ?_
        refine lv_iconst (v := 2) X.1 X.2.1 dL_law_433 (by decide) ?_
        refine lv_iadd X.1 X.2.1 dL_law_434 ?_
        obtain ⟨hi84, h⟩ := h
        refine va_sld X.1 X.2.1 hX hbl hbA w.1.2.2.1 hi84 dL_law_435 ?_
        refine lv_aload_n X.1 X.2.1 dL_law_436 rfl (lv_at hl 0 rfl) ?_
        refine lv_iload_n X.1 X.2.1 dL_law_437 rfl (lv_at hl 3 rfl) ?_
        refine lv_iconst (v := 3) X.1 X.2.1 dL_law_438 (by decide) ?_
        refine lv_iadd X.1 X.2.1 dL_law_439 ?_
        obtain ⟨hi85, h⟩ := h
        refine va_sld X.1 X.2.1 hX hbl hbA w.1.2.2.1 hi85 dL_law_440 ?_
        refine tl_m w (va_runV (As := [.int (xs (i + (1 : Int32)).toNatClampNeg), .int (xs (i + (2 : Int32)).toNatClampNeg), .int (xs (i + (3 : Int32)).toNatClampNeg)]) (rest := []) X (ct_X9_moveOf l D gm hTm _ τ am ham (xs (i + (1 : Int32)).toNatClampNeg) (xs (i + (2 : Int32)).toNatClampNeg) (xs (i + (3 : Int32)).toNatClampNeg) _ h) (cwV 3 X.2.2.2.2 gL_law_X9_moveOf rfl rfl rfl (by decide +kernel) ⟨(Nat.le_of_ble_eq_true rfl), (Nat.le_of_ble_eq_true rfl)⟩) (tw_preV hKm w.2.1 ham (by decide) rfl [.int (xs (i + (1 : Int32)).toNatClampNeg), .int (xs (i + (2 : Int32)).toNatClampNeg), .int (xs (i + (3 : Int32)).toNatClampNeg)]) rfl rfl hl.1 rfl (lv_room (Nat.le_of_ble_eq_true rfl)) dL_law_441 ⟨(Nat.le_of_ble_eq_true rfl), (Nat.le_of_ble_eq_true rfl)⟩) (fun r86 τ87 H locs h w => ?_)
        refine lv_pop X.1 X.2.1 dL_law_444 rfl ?_
        refine lv_goto (tgt := 943) X.1 X.2.1 dL_law_445 (by decide) ?_
        refine lv_iinc (v := (i + 6)) (lv' := [(3, .int (i + 6)), (0, .ref b), (1, .ref ax), (2, .ref am)]) X.1 X.2.1 dL_law_943 hl (k := 3) rfl rfl (by decide) rfl (fun ls hl => ?_)
        refine lv_goto (tgt := 18) X.1 X.2.1 dL_law_946 (by decide) ?_
        exact ih (i + 6) σ82 τ87 _ _ ls h w (lv_sub hl [1, 2, 3, 0] rfl)
      have h := h.2 c77
      by_cases c88 : z2 = 10
      · have h := h.1 c88
        refine lv_tableIn (off := 415) (tgt := 448) X.1 X.2.1 dL_law_33 (by rw [c88] <;> decide) (by rw [c88] <;> decide) (by rw [c88] <;> decide) (by decide) ?_
        refine lv_aload_n X.1 X.2.1 dL_law_448 rfl (lv_at hl 1 rfl) ?_
        refine lv_aload_n X.1 X.2.1 dL_law_449 rfl (lv_at hl 0 rfl) ?_
        refine lv_iload_n X.1 X.2.1 dL_law_450 rfl (lv_at hl 3 rfl) ?_
        refine lv_iconst (v := 1) X.1 X.2.1 dL_law_451 (by decide) ?_
        refine lv_iadd X.1 X.2.1 dL_law_452 ?_
        obtain ⟨hi89, h⟩ := h
        refine va_sld X.1 X.2.1 hX hbl hbA w.1.2.2.1 hi89 dL_law_453 ?_
        refine tl_x w (va_runV (As := [.int (xs (i + (1 : Int32)).toNatClampNeg)]) (rest := []) X (ct_X8_letter l D gx hTx _ σ ax hax (xs (i + (1 : Int32)).toNatClampNeg) _ h) (cwV 1 X.2.2.2.2 gL_law_X8_letter rfl rfl rfl (by decide +kernel) ⟨(Nat.le_of_ble_eq_true rfl), (Nat.le_of_ble_eq_true rfl)⟩) (tw_preV hKx w.1 hax (by decide) rfl [.int (xs (i + (1 : Int32)).toNatClampNeg)]) rfl rfl hl.1 rfl (lv_room (Nat.le_of_ble_eq_true rfl)) dL_law_454 ⟨(Nat.le_of_ble_eq_true rfl), (Nat.le_of_ble_eq_true rfl)⟩) (fun r90 σ91 H locs h w => ?_)
        refine lv_pop X.1 X.2.1 dL_law_457 rfl ?_
        refine lv_aload_n X.1 X.2.1 dL_law_458 rfl (lv_at hl 2 rfl) ?_
        refine lv_aload_n X.1 X.2.1 dL_law_459 rfl (lv_at hl 0 rfl) ?_
        refine lv_iload_n X.1 X.2.1 dL_law_460 rfl (lv_at hl 3 rfl) ?_
        refine lv_iconst (v := 1) X.1 X.2.1 dL_law_461 (by decide) ?_
        refine lv_iadd X.1 X.2.1 dL_law_462 ?_
        obtain ⟨hi92, h⟩ := h
        refine va_sld X.1 X.2.1 hX hbl hbA w.1.2.2.1 hi92 dL_law_463 ?_
        refine tl_m w (va_runV (As := [.int (xs (i + (1 : Int32)).toNatClampNeg)]) (rest := []) X (ct_X9_letter l D gm hTm _ τ am ham (xs (i + (1 : Int32)).toNatClampNeg) _ h) (cwV 1 X.2.2.2.2 gL_law_X9_letter rfl rfl rfl (by decide +kernel) ⟨(Nat.le_of_ble_eq_true rfl), (Nat.le_of_ble_eq_true rfl)⟩) (tw_preV hKm w.2.1 ham (by decide) rfl [.int (xs (i + (1 : Int32)).toNatClampNeg)]) rfl rfl hl.1 rfl (lv_room (Nat.le_of_ble_eq_true rfl)) dL_law_464 ⟨(Nat.le_of_ble_eq_true rfl), (Nat.le_of_ble_eq_true rfl)⟩) (fun r93 τ94 H locs h w => ?_)
        refine lv_pop X.1 X.2.1 dL_law_467 rfl ?_
        refine lv_goto (tgt := 943) X.1 X.2.1 dL_law_468 (by decide) ?_
        refine lv_iinc (v := (i + 6)) (lv' := [(3, .int (i + 6)), (0, .ref b), (1, .ref ax), (2, .ref am)]) X.1 X.2.1 dL_law_943 hl (k := 3) rfl rfl (by decide) rfl (fun ls hl => ?_)
        refine lv_goto (tgt := 18) X.1 X.2.1 dL_law_946 (by decide) ?_
        exact ih (i + 6) σ91 τ94 _ _ ls h w (lv_sub hl [1, 2, 3, 0] rfl)
      have h := h.2 c88
      by_cases c95 : z2 = 11
      · have h := h.1 c95
        refine lv_tableIn (off := 438) (tgt := 471) X.1 X.2.1 dL_law_33 (by rw [c95] <;> decide) (by rw [c95] <;> decide) (by rw [c95] <;> decide) (by decide) ?_
        refine lv_aload_n X.1 X.2.1 dL_law_471 rfl (lv_at hl 1 rfl) ?_
        refine lv_aload_n X.1 X.2.1 dL_law_472 rfl (lv_at hl 0 rfl) ?_
        refine lv_iload_n X.1 X.2.1 dL_law_473 rfl (lv_at hl 3 rfl) ?_
        refine lv_iconst (v := 1) X.1 X.2.1 dL_law_474 (by decide) ?_
        refine lv_iadd X.1 X.2.1 dL_law_475 ?_
        obtain ⟨hi96, h⟩ := h
        refine va_sld X.1 X.2.1 hX hbl hbA w.1.2.2.1 hi96 dL_law_476 ?_
        refine tl_x w (va_runV (As := [.int (xs (i + (1 : Int32)).toNatClampNeg)]) (rest := []) X (ct_X8_word l D gx hTx _ σ ax hax (xs (i + (1 : Int32)).toNatClampNeg) _ h) (cwV 1 X.2.2.2.2 gL_law_X8_word rfl rfl rfl (by decide +kernel) ⟨(Nat.le_of_ble_eq_true rfl), (Nat.le_of_ble_eq_true rfl)⟩) (tw_preV hKx w.1 hax (by decide) rfl [.int (xs (i + (1 : Int32)).toNatClampNeg)]) rfl rfl hl.1 rfl (lv_room (Nat.le_of_ble_eq_true rfl)) dL_law_477 ⟨(Nat.le_of_ble_eq_true rfl), (Nat.le_of_ble_eq_true rfl)⟩) (fun r97 σ98 H locs h w => ?_)
        refine lv_pop X.1 X.2.1 dL_law_480 rfl ?_
        refine lv_aload_n X.1 X.2.1 dL_law_481 rfl (lv_at hl 2 rfl) ?_
        refine lv_aload_n X.1 X.2.1 dL_law_482 rfl (lv_at hl 0 rfl) ?_
        refine lv_iload_n X.1 X.2.1 dL_law_483 rfl (lv_at hl 3 rfl) ?_
        refine lv_iconst (v := 1) X.1 X.2.1 dL_law_484 (by decide) ?_
        refine lv_iadd X.1 X.2.1 dL_law_485 ?_
        obtain ⟨hi99, h⟩ := h
        refine va_sld X.1 X.2.1 hX hbl hbA w.1.2.2.1 hi99 dL_law_486 ?_
        refine tl_m w (va_runV (As := [.int (xs (i + (1 : Int32)).toNatClampNeg)]) (rest := []) X (ct_X9_word l D gm hTm _ τ am ham (xs (i + (1 : Int32)).toNatClampNeg) _ h) (cwV 1 X.2.2.2.2 gL_law_X9_word rfl rfl rfl (by decide +kernel) ⟨(Nat.le_of_ble_eq_true rfl), (Nat.le_of_ble_eq_true rfl)⟩) (tw_preV hKm w.2.1 ham (by decide) rfl [.int (xs (i + (1 : Int32)).toNatClampNeg)]) rfl rfl hl.1 rfl (lv_room (Nat.le_of_ble_eq_true rfl)) dL_law_487 ⟨(Nat.le_of_ble_eq_true rfl), (Nat.le_of_ble_eq_true rfl)⟩) (fun r100 τ101 H locs h w => ?_)
        refine lv_pop X.1 X.2.1 dL_law_490 rfl ?_
        refine lv_goto (tgt := 943) X.1 X.2.1 dL_law_491 (by decide) ?_
        refine lv_iinc (v := (i + 6)) (lv' := [(3, .int (i + 6)), (0, .ref b), (1, .ref ax), (2, .ref am)]) X.1 X.2.1 dL_law_943 hl (k := 3) rfl rfl (by decide) rfl (fun ls hl => ?_)
        refine lv_goto (tgt := 18) X.1 X.2.1 dL_law_946 (by decide) ?_
        exact ih (i + 6) σ98 τ101 _ _ ls h w (lv_sub hl [1, 2, 3, 0] rfl)
      have h := h.2 c95
      by_cases c102 : z2 = 12
      · have h := h.1 c102
        refine lv_tableIn (off := 461) (tgt := 494) X.1 X.2.1 dL_law_33 (by rw [c102] <;> decide) (by rw [c102] <;> decide) (by rw [c102] <;> decide) (by decide) ?_
        refine lv_aload_n X.1 X.2.1 dL_law_494 rfl (lv_at hl 1 rfl) ?_
        refine tl_x w (va_runV (As := []) (rest := []) X (ct_X8_wipe l D gx hTx _ σ ax hax  _ h) (cwV 0 X.2.2.2.2 gL_law_X8_wipe rfl rfl rfl (by decide +kernel) ⟨(Nat.le_of_ble_eq_true rfl), (Nat.le_of_ble_eq_true rfl)⟩) (tw_preV hKx w.1 hax (by decide) rfl []) rfl rfl hl.1 rfl (lv_room (Nat.le_of_ble_eq_true rfl)) dL_law_495 ⟨(Nat.le_of_ble_eq_true rfl), (Nat.le_of_ble_eq_true rfl)⟩) (fun r103 σ104 H locs h w => ?_)
        refine lv_pop X.1 X.2.1 dL_law_498 rfl ?_
        refine lv_aload_n X.1 X.2.1 dL_law_499 rfl (lv_at hl 2 rfl) ?_
        refine tl_m w (va_runV (As := []) (rest := []) X (ct_X9_wipe l D gm hTm _ τ am ham  _ h) (cwV 0 X.2.2.2.2 gL_law_X9_wipe rfl rfl rfl (by decide +kernel) ⟨(Nat.le_of_ble_eq_true rfl), (Nat.le_of_ble_eq_true rfl)⟩) (tw_preV hKm w.2.1 ham (by decide) rfl []) rfl rfl hl.1 rfl (lv_room (Nat.le_of_ble_eq_true rfl)) dL_law_500 ⟨(Nat.le_of_ble_eq_true rfl), (Nat.le_of_ble_eq_true rfl)⟩) (fun r105 τ106 H locs h w => ?_)
        refine lv_pop X.1 X.2.1 dL_law_503 rfl ?_
        refine lv_goto (tgt := 943) X.1 X.2.1 dL_law_504 (by decide) ?_
        refine lv_iinc (v := (i + 6)) (lv' := [(3, .int (i + 6)), (0, .ref b), (1, .ref ax), (2, .ref am)]) X.1 X.2.1 dL_law_943 hl (k := 3) rfl rfl (by decide) rfl (fun ls hl => ?_)
        refine lv_goto (tgt := 18) X.1 X.2.1 dL_law_946 (by decide) ?_
        exact ih (i + 6) σ104 τ106 _ _ ls h w (lv_sub hl [1, 2, 3, 0] rfl)
      have h := h.2 c102
      by_cases c107 : z2 = 13
      · have h := h.1 c107
        refine lv_tableIn (off := 474) (tgt := 507) X.1 X.2.1 dL_law_33 (by rw [c107] <;> decide) (by rw [c107] <;> decide) (by rw [c107] <;> decide) (by decide) ?_
        refine lv_aload_n X.1 X.2.1 dL_law_507 rfl (lv_at hl 1 rfl) ?_
        refine lv_aload_n X.1 X.2.1 dL_law_508 rfl (lv_at hl 0 rfl) ?_
        refine lv_iload_n X.1 X.2.1 dL_law_509 rfl (lv_at hl 3 rfl) ?_
        refine lv_iconst (v := 1) X.1 X.2.1 dL_law_510 (by decide) ?_
        refine lv_iadd X.1 X.2.1 dL_law_511 ?_
        obtain ⟨hi108, h⟩ := h
        refine va_sld X.1 X.2.1 hX hbl hbA w.1.2.2.1 hi108 dL_law_512 ?_
        refine tl_x w (va_runV (As := [.int (xs (i + (1 : Int32)).toNatClampNeg)]) (rest := []) X (ct_X8_told l D gx hTx _ σ ax hax (xs (i + (1 : Int32)).toNatClampNeg) _ h) (cwV 1 X.2.2.2.2 gL_law_X8_told rfl rfl rfl (by decide +kernel) ⟨(Nat.le_of_ble_eq_true rfl), (Nat.le_of_ble_eq_true rfl)⟩) (tw_preV hKx w.1 hax (by decide) rfl [.int (xs (i + (1 : Int32)).toNatClampNeg)]) rfl rfl hl.1 rfl (lv_room (Nat.le_of_ble_eq_true rfl)) dL_law_513 ⟨(Nat.le_of_ble_eq_true rfl), (Nat.le_of_ble_eq_true rfl)⟩) (fun r109 σ110 H locs h w => ?_)
        refine lv_pop X.1 X.2.1 dL_law_516 rfl ?_
        refine lv_aload_n X.1 X.2.1 dL_law_517 rfl (lv_at hl 2 rfl) ?_
        refine lv_aload_n X.1 X.2.1 dL_law_518 rfl (lv_at hl 0 rfl) ?_
        refine lv_iload_n X.1 X.2.1 dL_law_519 rfl (lv_at hl 3 rfl) ?_
        refine lv_iconst (v := 1) X.1 X.2.1 dL_law_520 (by decide) ?_
        refine lv_iadd X.1 X.2.1 dL_law_521 ?_
        obtain ⟨hi111, h⟩ := h
        refine va_sld X.1 X.2.1 hX hbl hbA w.1.2.2.1 hi111 dL_law_522 ?_
        refine tl_m w (va_runV (As := [.int (xs (i + (1 : Int32)).toNatClampNeg)]) (rest := []) X (ct_X9_told l D gm hTm _ τ am ham (xs (i + (1 : Int32)).toNatClampNeg) _ h) (cwV 1 X.2.2.2.2 gL_law_X9_told rfl rfl rfl (by decide +kernel) ⟨(Nat.le_of_ble_eq_true rfl), (Nat.le_of_ble_eq_true rfl)⟩) (tw_preV hKm w.2.1 ham (by decide) rfl [.int (xs (i + (1 : Int32)).toNatClampNeg)]) rfl rfl hl.1 rfl (lv_room (Nat.le_of_ble_eq_true rfl)) dL_law_523 ⟨(Nat.le_of_ble_eq_true rfl), (Nat.le_of_ble_eq_true rfl)⟩) (fun r112 τ113 H locs h w => ?_)
        refine lv_pop X.1 X.2.1 dL_law_526 rfl ?_
        refine lv_goto (tgt := 943) X.1 X.2.1 dL_law_527 (by decide) ?_
        refine lv_iinc (v := (i + 6)) (lv' := [(3, .int (i + 6)), (0, .ref b), (1, .ref ax), (2, .ref am)]) X.1 X.2.1 dL_law_943 hl (k := 3) rfl rfl (by decide) rfl (fun ls hl => ?_)
        refine lv_goto (tgt := 18) X.1 X.2.1 dL_law_946 (by decide) ?_
        exact ih (i + 6) σ110 τ113 _ _ ls h w (lv_sub hl [1, 2, 3, 0] rfl)
      have h := h.2 c107
      by_cases c114 : z2 = 14
      · have h := h.1 c114
        refine lv_tableIn (off := 497) (tgt := 530) X.1 X.2.1 dL_law_33 (by rw [c114] <;> decide) (by rw [c114] <;> decide) (by rw [c114] <;> decide) (by decide) ?_
        refine lv_aload_n X.1 X.2.1 dL_law_530 rfl (lv_at hl 1 rfl) ?_
        refine lv_aload_n X.1 X.2.1 dL_law_531 rfl (lv_at hl 0 rfl) ?_
        refine lv_iload_n X.1 X.2.1 dL_law_532 rfl (lv_at hl 3 rfl) ?_
        refine lv_iconst (v := 1) X.1 X.2.1 dL_law_533 (by decide) ?_
        refine lv_iadd X.1 X.2.1 dL_law_534 ?_
        obtain ⟨hi115, h⟩ := h
        refine va_sld X.1 X.2.1 hX hbl hbA w.1.2.2.1 hi115 dL_law_535 ?_
        refine lv_aload_n X.1 X.2.1 dL_law_536 rfl (lv_at hl 0 rfl) ?_
        refine lv_iload_n X.1 X.2.1 dL_law_537 rfl (lv_at hl 3 rfl) ?_
        refine lv_iconst (v := 2) X.1 X.2.1 dL_law_538 (by decide) ?_
        refine lv_iadd X.1 X.2.1 dL_law_539 ?_
        obtain ⟨hi116, h⟩ := h
        refine va_sld X.1 X.2.1 hX hbl hbA w.1.2.2.1 hi116 dL_law_540 ?_
        refine tl_x w (va_runV (As := [.int (xs (i + (1 : Int32)).toNatClampNeg), .int (xs (i + (2 : Int32)).toNatClampNeg)]) (rest := []) X (ct_X8_run l D gx hTx _ σ ax hax (xs (i + (1 : Int32)).toNatClampNeg) (xs (i + (2 : Int32)).toNatClampNeg) _ h) (cwV 2 X.2.2.2.2 gL_law_X8_run rfl rfl rfl (by decide +kernel) ⟨(Nat.le_of_ble_eq_true rfl), (Nat.le_of_ble_eq_true rfl)⟩) (tw_preV hKx w.1 hax (by decide) rfl [.int (xs (i + (1 : Int32)).toNatClampNeg), .int (xs (i + (2 : Int32)).toNatClampNeg)]) rfl rfl hl.1 rfl (lv_room (Nat.le_of_ble_eq_true rfl)) dL_law_541 ⟨(Nat.le_of_ble_eq_true rfl), (Nat.le_of_ble_eq_true rfl)⟩) (fun r117 σ118 H locs h w => ?_)
        refine lv_pop X.1 X.2.1 dL_law_544 rfl ?_
        refine lv_aload_n X.1 X.2.1 dL_law_545 rfl (lv_at hl 2 rfl) ?_
        refine lv_aload_n X.1 X.2.1 dL_law_546 rfl (lv_at hl 0 rfl) ?_
        refine lv_iload_n X.1 X.2.1 dL_law_547 rfl (lv_at hl 3 rfl) ?_
        refine lv_iconst (v := 1) X.1 X.2.1 dL_law_548 (by decide) ?_
        refine lv_iadd X.1 X.2.1 dL_law_549 ?_
        obtain ⟨hi119, h⟩ := h
        refine va_sld X.1 X.2.1 hX hbl hbA w.1.2.2.1 hi119 dL_law_550 ?_
        refine lv_aload_n X.1 X.2.1 dL_law_551 rfl (lv_at hl 0 rfl) ?_
        refine lv_iload_n X.1 X.2.1 dL_law_552 rfl (lv_at hl 3 rfl) ?_
        refine lv_iconst (v := 2) X.1 X.2.1 dL_law_553 (by decide) ?_
        refine lv_iadd X.1 X.2.1 dL_law_554 ?_
        obtain ⟨hi120, h⟩ := h
        refine va_sld X.1 X.2.1 hX hbl hbA w.1.2.2.1 hi120 dL_law_555 ?_
        refine tl_m w (va_runV (As := [.int (xs (i + (1 : Int32)).toNatClampNeg), .int (xs (i + (2 : Int32)).toNatClampNeg)]) (rest := []) X (ct_X9_run l D gm hTm _ τ am ham (xs (i + (1 : Int32)).toNatClampNeg) (xs (i + (2 : Int32)).toNatClampNeg) _ h) (cwV 2 X.2.2.2.2 gL_law_X9_run rfl rfl rfl (by decide +kernel) ⟨(Nat.le_of_ble_eq_true rfl), (Nat.le_of_ble_eq_true rfl)⟩) (tw_preV hKm w.2.1 ham (by decide) rfl [.int (xs (i + (1 : Int32)).toNatClampNeg), .int (xs (i + (2 : Int32)).toNatClampNeg)]) rfl rfl hl.1 rfl (lv_room (Nat.le_of_ble_eq_true rfl)) dL_law_556 ⟨(Nat.le_of_ble_eq_true rfl), (Nat.le_of_ble_eq_true rfl)⟩) (fun r121 τ122 H locs h w => ?_)
        refine lv_pop X.1 X.2.1 dL_law_559 rfl ?_
        refine lv_goto (tgt := 943) X.1 X.2.1 dL_law_560 (by decide) ?_
        refine lv_iinc (v := (i + 6)) (lv' := [(3, .int (i + 6)), (0, .ref b), (1, .ref ax), (2, .ref am)]) X.1 X.2.1 dL_law_943 hl (k := 3) rfl rfl (by decide) rfl (fun ls hl => ?_)
        refine lv_goto (tgt := 18) X.1 X.2.1 dL_law_946 (by decide) ?_
        exact ih (i + 6) σ118 τ122 _ _ ls h w (lv_sub hl [1, 2, 3, 0] rfl)
      have h := h.2 c114
      by_cases c123 : z2 = 15
      · have h := h.1 c123
        refine lv_tableIn (off := 530) (tgt := 563) X.1 X.2.1 dL_law_33 (by rw [c123] <;> decide) (by rw [c123] <;> decide) (by rw [c123] <;> decide) (by decide) ?_
        refine lv_aload_n X.1 X.2.1 dL_law_563 rfl (lv_at hl 1 rfl) ?_
        refine lv_aload_n X.1 X.2.1 dL_law_564 rfl (lv_at hl 0 rfl) ?_
        refine lv_iload_n X.1 X.2.1 dL_law_565 rfl (lv_at hl 3 rfl) ?_
        refine lv_iconst (v := 1) X.1 X.2.1 dL_law_566 (by decide) ?_
        refine lv_iadd X.1 X.2.1 dL_law_567 ?_
        obtain ⟨hi124, h⟩ := h
        refine va_sld X.1 X.2.1 hX hbl hbA w.1.2.2.1 hi124 dL_law_568 ?_
        refine lv_aload_n X.1 X.2.1 dL_law_569 rfl (lv_at hl 0 rfl) ?_
        refine lv_iload_n X.1 X.2.1 dL_law_570 rfl (lv_at hl 3 rfl) ?_
        refine lv_iconst (v := 2) X.1 X.2.1 dL_law_571 (by decide) ?_
        refine lv_iadd X.1 X.2.1 dL_law_572 ?_
        obtain ⟨hi125, h⟩ := h
        refine va_sld X.1 X.2.1 hX hbl hbA w.1.2.2.1 hi125 dL_law_573 ?_
        refine lv_aload_n X.1 X.2.1 dL_law_574 rfl (lv_at hl 0 rfl) ?_
        refine lv_iload_n X.1 X.2.1 dL_law_575 rfl (lv_at hl 3 rfl) ?_
        refine lv_iconst (v := 3) X.1 X.2.1 dL_law_576 (by decide) ?_
        refine lv_iadd X.1 X.2.1 dL_law_577 ?_
        obtain ⟨hi126, h⟩ := h
        refine va_sld X.1 X.2.1 hX hbl hbA w.1.2.2.1 hi126 dL_law_578 ?_
        refine tl_x w (va_runV (As := [.int (xs (i + (1 : Int32)).toNatClampNeg), .int (xs (i + (2 : Int32)).toNatClampNeg), .int (xs (i + (3 : Int32)).toNatClampNeg)]) (rest := []) X (ct_X8_crossed l D gx hTx _ σ ax hax (xs (i + (1 : Int32)).toNatClampNeg) (xs (i + (2 : Int32)).toNatClampNeg) (xs (i + (3 : Int32)).toNatClampNeg) _ h) (cwV 3 X.2.2.2.2 gL_law_X8_crossed rfl rfl rfl (by decide +kernel) ⟨(Nat.le_of_ble_eq_true rfl), (Nat.le_of_ble_eq_true rfl)⟩) (tw_preV hKx w.1 hax (by decide) rfl [.int (xs (i + (1 : Int32)).toNatClampNeg), .int (xs (i + (2 : Int32)).toNatClampNeg), .int (xs (i + (3 : Int32)).toNatClampNeg)]) rfl rfl hl.1 rfl (lv_room (Nat.le_of_ble_eq_true rfl)) dL_law_579 ⟨(Nat.le_of_ble_eq_true rfl), (Nat.le_of_ble_eq_true rfl)⟩) (fun r127 σ128 H locs h w => ?_)
        refine lv_pop X.1 X.2.1 dL_law_582 rfl ?_
        refine lv_aload_n X.1 X.2.1 dL_law_583 rfl (lv_at hl 2 rfl) ?_
        refine lv_aload_n X.1 X.2.1 dL_law_584 rfl (lv_at hl 0 rfl) ?_
        refine lv_iload_n X.1 X.2.1 dL_law_585 rfl (lv_at hl 3 rfl) ?_
        refine lv_iconst (v := 1) X.1 X.2.1 dL_law_586 (by decide) ?_
        refine lv_iadd X.1 X.2.1 dL_law_587 ?_
        obtain ⟨hi129, h⟩ := h
        refine va_sld X.1 X.2.1 hX hbl hbA w.1.2.2.1 hi129 dL_law_588 ?_
        refine lv_aload_n X.1 X.2.1 dL_law_589 rfl (lv_at hl 0 rfl) ?_
        refine lv_iload_n X.1 X.2.1 dL_law_590 rfl (lv_at hl 3 rfl) ?_
        refine lv_iconst (v := 2) X.1 X.2.1 dL_law_591 (by decide) ?_
        refine lv_iadd X.1 X.2.1 dL_law_592 ?_
        obtain ⟨hi130, h⟩ := h
        refine va_sld X.1 X.2.1 hX hbl hbA w.1.2.2.1 hi130 dL_law_593 ?_
        refine lv_aload_n X.1 X.2.1 dL_law_594 rfl (lv_at hl 0 rfl) ?_
        refine lv_iload_n X.1 X.2.1 dL_law_595 rfl (lv_at hl 3 rfl) ?_
        refine lv_iconst (v := 3) X.1 X.2.1 dL_law_596 (by decide) ?_
        refine lv_iadd X.1 X.2.1 dL_law_597 ?_
        obtain ⟨hi131, h⟩ := h
        refine va_sld X.1 X.2.1 hX hbl hbA w.1.2.2.1 hi131 dL_law_598 ?_
        refine tl_m w (va_runV (As := [.int (xs (i + (1 : Int32)).toNatClampNeg), .int (xs (i + (2 : Int32)).toNatClampNeg), .int (xs (i + (3 : Int32)).toNatClampNeg)]) (rest := []) X (ct_X9_crossed l D gm hTm _ τ am ham (xs (i + (1 : Int32)).toNatClampNeg) (xs (i + (2 : Int32)).toNatClampNeg) (xs (i + (3 : Int32)).toNatClampNeg) _ h) (cwV 3 X.2.2.2.2 gL_law_X9_crossed rfl rfl rfl (by decide +kernel) ⟨(Nat.le_of_ble_eq_true rfl), (Nat.le_of_ble_eq_true rfl)⟩) (tw_preV hKm w.2.1 ham (by decide) rfl [.int (xs (i + (1 : Int32)).toNatClampNeg), .int (xs (i + (2 : Int32)).toNatClampNeg), .int (xs (i + (3 : Int32)).toNatClampNeg)]) rfl rfl hl.1 rfl (lv_room (Nat.le_of_ble_eq_true rfl)) dL_law_599 ⟨(Nat.le_of_ble_eq_true rfl), (Nat.le_of_ble_eq_true rfl)⟩) (fun r132 τ133 H locs h w => ?_)
        refine lv_pop X.1 X.2.1 dL_law_602 rfl ?_
        refine lv_goto (tgt := 943) X.1 X.2.1 dL_law_603 (by decide) ?_
        refine lv_iinc (v := (i + 6)) (lv' := [(3, .int (i + 6)), (0, .ref b), (1, .ref ax), (2, .ref am)]) X.1 X.2.1 dL_law_943 hl (k := 3) rfl rfl (by decide) rfl (fun ls hl => ?_)
        refine lv_goto (tgt := 18) X.1 X.2.1 dL_law_946 (by decide) ?_
        exact ih (i + 6) σ128 τ133 _ _ ls h w (lv_sub hl [1, 2, 3, 0] rfl)
      have h := h.2 c123
      by_cases c134 : z2 = 16
      · have h := h.1 c134
        refine lv_tableIn (off := 573) (tgt := 606) X.1 X.2.1 dL_law_33 (by rw [c134] <;> decide) (by rw [c134] <;> decide) (by rw [c134] <;> decide) (by decide) ?_
        refine lv_aload_n X.1 X.2.1 dL_law_606 rfl (lv_at hl 1 rfl) ?_
        refine lv_aload_n X.1 X.2.1 dL_law_607 rfl (lv_at hl 0 rfl) ?_
        refine lv_iload_n X.1 X.2.1 dL_law_608 rfl (lv_at hl 3 rfl) ?_
        refine lv_iconst (v := 1) X.1 X.2.1 dL_law_609 (by decide) ?_
        refine lv_iadd X.1 X.2.1 dL_law_610 ?_
        obtain ⟨hi135, h⟩ := h
        refine va_sld X.1 X.2.1 hX hbl hbA w.1.2.2.1 hi135 dL_law_611 ?_
        refine lv_aload_n X.1 X.2.1 dL_law_612 rfl (lv_at hl 0 rfl) ?_
        refine lv_iload_n X.1 X.2.1 dL_law_613 rfl (lv_at hl 3 rfl) ?_
        refine lv_iconst (v := 2) X.1 X.2.1 dL_law_614 (by decide) ?_
        refine lv_iadd X.1 X.2.1 dL_law_615 ?_
        obtain ⟨hi136, h⟩ := h
        refine va_sld X.1 X.2.1 hX hbl hbA w.1.2.2.1 hi136 dL_law_616 ?_
        refine lv_aload_n X.1 X.2.1 dL_law_617 rfl (lv_at hl 0 rfl) ?_
        refine lv_iload_n X.1 X.2.1 dL_law_618 rfl (lv_at hl 3 rfl) ?_
        refine lv_iconst (v := 3) X.1 X.2.1 dL_law_619 (by decide) ?_
        refine lv_iadd X.1 X.2.1 dL_law_620 ?_
        obtain ⟨hi137, h⟩ := h
        refine va_sld X.1 X.2.1 hX hbl hbA w.1.2.2.1 hi137 dL_law_621 ?_
        refine lv_aload_n X.1 X.2.1 dL_law_622 rfl (lv_at hl 0 rfl) ?_
        refine lv_iload_n X.1 X.2.1 dL_law_623 rfl (lv_at hl 3 rfl) ?_
        refine lv_iconst (v := 4) X.1 X.2.1 dL_law_624 (by decide) ?_
        refine lv_iadd X.1 X.2.1 dL_law_625 ?_
        obtain ⟨hi138, h⟩ := h
        refine va_sld X.1 X.2.1 hX hbl hbA w.1.2.2.1 hi138 dL_law_626 ?_
        refine lv_aload_n X.1 X.2.1 dL_law_627 rfl (lv_at hl 0 rfl) ?_
        refine lv_iload_n X.1 X.2.1 dL_law_628 rfl (lv_at hl 3 rfl) ?_
        refine lv_iconst (v := 5) X.1 X.2.1 dL_law_629 (by decide) ?_
        refine lv_iadd X.1 X.2.1 dL_law_630 ?_
        obtain ⟨hi139, h⟩ := h
        refine va_sld X.1 X.2.1 hX hbl hbA w.1.2.2.1 hi139 dL_law_631 ?_
        refine tl_x w (va_runV (As := [.int (xs (i + (1 : Int32)).toNatClampNeg), .int (xs (i + (2 : Int32)).toNatClampNeg), .int (xs (i + (3 : Int32)).toNatClampNeg), .int (xs (i + (4 : Int32)).toNatClampNeg), .int (xs (i + (5 : Int32)).toNatClampNeg)]) (rest := []) X (ct_X8_table l D gx hTx _ σ ax hax (xs (i + (1 : Int32)).toNatClampNeg) (xs (i + (2 : Int32)).toNatClampNeg) (xs (i + (3 : Int32)).toNatClampNeg) (xs (i + (4 : Int32)).toNatClampNeg) (xs (i + (5 : Int32)).toNatClampNeg) _ h) (cwV 5 X.2.2.2.2 gL_law_X8_table rfl rfl rfl (by decide +kernel) ⟨(Nat.le_of_ble_eq_true rfl), (Nat.le_of_ble_eq_true rfl)⟩) (tw_preV hKx w.1 hax (by decide) rfl [.int (xs (i + (1 : Int32)).toNatClampNeg), .int (xs (i + (2 : Int32)).toNatClampNeg), .int (xs (i + (3 : Int32)).toNatClampNeg), .int (xs (i + (4 : Int32)).toNatClampNeg), .int (xs (i + (5 : Int32)).toNatClampNeg)]) rfl rfl hl.1 rfl (lv_room (Nat.le_of_ble_eq_true rfl)) dL_law_632 ⟨(Nat.le_of_ble_eq_true rfl), (Nat.le_of_ble_eq_true rfl)⟩) (fun r140 σ141 H locs h w => ?_)
        refine lv_pop X.1 X.2.1 dL_law_635 rfl ?_
        refine lv_aload_n X.1 X.2.1 dL_law_636 rfl (lv_at hl 2 rfl) ?_
        refine lv_aload_n X.1 X.2.1 dL_law_637 rfl (lv_at hl 0 rfl) ?_
        refine lv_iload_n X.1 X.2.1 dL_law_638 rfl (lv_at hl 3 rfl) ?_
        refine lv_iconst (v := 1) X.1 X.2.1 dL_law_639 (by decide) ?_
        refine lv_iadd X.1 X.2.1 dL_law_640 ?_
        obtain ⟨hi142, h⟩ := h
        refine va_sld X.1 X.2.1 hX hbl hbA w.1.2.2.1 hi142 dL_law_641 ?_
        refine lv_aload_n X.1 X.2.1 dL_law_642 rfl (lv_at hl 0 rfl) ?_
        refine lv_iload_n X.1 X.2.1 dL_law_643 rfl (lv_at hl 3 rfl) ?_
        refine lv_iconst (v := 2) X.1 X.2.1 dL_law_644 (by decide) ?_
        refine lv_iadd X.1 X.2.1 dL_law_645 ?_
        obtain ⟨hi143, h⟩ := h
        refine va_sld X.1 X.2.1 hX hbl hbA w.1.2.2.1 hi143 dL_law_646 ?_
        refine lv_aload_n X.1 X.2.1 dL_law_647 rfl (lv_at hl 0 rfl) ?_
        refine lv_iload_n X.1 X.2.1 dL_law_648 rfl (lv_at hl 3 rfl) ?_
        refine lv_iconst (v := 3) X.1 X.2.1 dL_law_649 (by decide) ?_
        refine lv_iadd X.1 X.2.1 dL_law_650 ?_
        obtain ⟨hi144, h⟩ := h
        refine va_sld X.1 X.2.1 hX hbl hbA w.1.2.2.1 hi144 dL_law_651 ?_
        refine lv_aload_n X.1 X.2.1 dL_law_652 rfl (lv_at hl 0 rfl) ?_
        refine lv_iload_n X.1 X.2.1 dL_law_653 rfl (lv_at hl 3 rfl) ?_
        refine lv_iconst (v := 4) X.1 X.2.1 dL_law_654 (by decide) ?_
        refine lv_iadd X.1 X.2.1 dL_law_655 ?_
        obtain ⟨hi145, h⟩ := h
        refine va_sld X.1 X.2.1 hX hbl hbA w.1.2.2.1 hi145 dL_law_656 ?_
        refine lv_aload_n X.1 X.2.1 dL_law_657 rfl (lv_at hl 0 rfl) ?_
        refine lv_iload_n X.1 X.2.1 dL_law_658 rfl (lv_at hl 3 rfl) ?_
        refine lv_iconst (v := 5) X.1 X.2.1 dL_law_659 (by decide) ?_
        refine lv_iadd X.1 X.2.1 dL_law_660 ?_
        obtain ⟨hi146, h⟩ := h
        refine va_sld X.1 X.2.1 hX hbl hbA w.1.2.2.1 hi146 dL_law_661 ?_
        refine tl_m w (va_runV (As := [.int (xs (i + (1 : Int32)).toNatClampNeg), .int (xs (i + (2 : Int32)).toNatClampNeg), .int (xs (i + (3 : Int32)).toNatClampNeg), .int (xs (i + (4 : Int32)).toNatClampNeg), .int (xs (i + (5 : Int32)).toNatClampNeg)]) (rest := []) X (ct_X9_table l D gm hTm _ τ am ham (xs (i + (1 : Int32)).toNatClampNeg) (xs (i + (2 : Int32)).toNatClampNeg) (xs (i + (3 : Int32)).toNatClampNeg) (xs (i + (4 : Int32)).toNatClampNeg) (xs (i + (5 : Int32)).toNatClampNeg) _ h) (cwV 5 X.2.2.2.2 gL_law_X9_table rfl rfl rfl (by decide +kernel) ⟨(Nat.le_of_ble_eq_true rfl), (Nat.le_of_ble_eq_true rfl)⟩) (tw_preV hKm w.2.1 ham (by decide) rfl [.int (xs (i + (1 : Int32)).toNatClampNeg), .int (xs (i + (2 : Int32)).toNatClampNeg), .int (xs (i + (3 : Int32)).toNatClampNeg), .int (xs (i + (4 : Int32)).toNatClampNeg), .int (xs (i + (5 : Int32)).toNatClampNeg)]) rfl rfl hl.1 rfl (lv_room (Nat.le_of_ble_eq_true rfl)) dL_law_662 ⟨(Nat.le_of_ble_eq_true rfl), (Nat.le_of_ble_eq_true rfl)⟩) (fun r147 τ148 H locs h w => ?_)
        refine lv_pop X.1 X.2.1 dL_law_665 rfl ?_
        refine lv_goto (tgt := 943) X.1 X.2.1 dL_law_666 (by decide) ?_
        refine lv_iinc (v := (i + 6)) (lv' := [(3, .int (i + 6)), (0, .ref b), (1, .ref ax), (2, .ref am)]) X.1 X.2.1 dL_law_943 hl (k := 3) rfl rfl (by decide) rfl (fun ls hl => ?_)
        refine lv_goto (tgt := 18) X.1 X.2.1 dL_law_946 (by decide) ?_
        exact ih (i + 6) σ141 τ148 _ _ ls h w (lv_sub hl [1, 2, 3, 0] rfl)
      have h := h.2 c134
      by_cases c149 : z2 = 17
      · have h := h.1 c149
        refine lv_tableIn (off := 636) (tgt := 669) X.1 X.2.1 dL_law_33 (by rw [c149] <;> decide) (by rw [c149] <;> decide) (by rw [c149] <;> decide) (by decide) ?_
        refine lv_aload_n X.1 X.2.1 dL_law_669 rfl (lv_at hl 1 rfl) ?_
        refine lv_aload_n X.1 X.2.1 dL_law_670 rfl (lv_at hl 0 rfl) ?_
        refine lv_iload_n X.1 X.2.1 dL_law_671 rfl (lv_at hl 3 rfl) ?_
        refine lv_iconst (v := 1) X.1 X.2.1 dL_law_672 (by decide) ?_
        refine lv_iadd X.1 X.2.1 dL_law_673 ?_
        obtain ⟨hi150, h⟩ := h
        refine va_sld X.1 X.2.1 hX hbl hbA w.1.2.2.1 hi150 dL_law_674 ?_
        refine lv_aload_n X.1 X.2.1 dL_law_675 rfl (lv_at hl 0 rfl) ?_
        refine lv_iload_n X.1 X.2.1 dL_law_676 rfl (lv_at hl 3 rfl) ?_
        refine lv_iconst (v := 2) X.1 X.2.1 dL_law_677 (by decide) ?_
        refine lv_iadd X.1 X.2.1 dL_law_678 ?_
        obtain ⟨hi151, h⟩ := h
        refine va_sld X.1 X.2.1 hX hbl hbA w.1.2.2.1 hi151 dL_law_679 ?_
        refine lv_aload_n X.1 X.2.1 dL_law_680 rfl (lv_at hl 0 rfl) ?_
        refine lv_iload_n X.1 X.2.1 dL_law_681 rfl (lv_at hl 3 rfl) ?_
        refine lv_iconst (v := 3) X.1 X.2.1 dL_law_682 (by decide) ?_
        refine lv_iadd X.1 X.2.1 dL_law_683 ?_
        obtain ⟨hi152, h⟩ := h
        refine va_sld X.1 X.2.1 hX hbl hbA w.1.2.2.1 hi152 dL_law_684 ?_
        refine lv_aload_n X.1 X.2.1 dL_law_685 rfl (lv_at hl 0 rfl) ?_
        refine lv_iload_n X.1 X.2.1 dL_law_686 rfl (lv_at hl 3 rfl) ?_
        refine lv_iconst (v := 4) X.1 X.2.1 dL_law_687 (by decide) ?_
        refine lv_iadd X.1 X.2.1 dL_law_688 ?_
        obtain ⟨hi153, h⟩ := h
        refine va_sld X.1 X.2.1 hX hbl hbA w.1.2.2.1 hi153 dL_law_689 ?_
        refine lv_aload_n X.1 X.2.1 dL_law_690 rfl (lv_at hl 0 rfl) ?_
        refine lv_iload_n X.1 X.2.1 dL_law_691 rfl (lv_at hl 3 rfl) ?_
        refine lv_iconst (v := 5) X.1 X.2.1 dL_law_692 (by decide) ?_
        refine lv_iadd X.1 X.2.1 dL_law_693 ?_
        obtain ⟨hi154, h⟩ := h
        refine va_sld X.1 X.2.1 hX hbl hbA w.1.2.2.1 hi154 dL_law_694 ?_
        refine tl_x w (va_runV (As := [.int (xs (i + (1 : Int32)).toNatClampNeg), .int (xs (i + (2 : Int32)).toNatClampNeg), .int (xs (i + (3 : Int32)).toNatClampNeg), .int (xs (i + (4 : Int32)).toNatClampNeg), .int (xs (i + (5 : Int32)).toNatClampNeg)]) (rest := []) X (ct_X8_alike l D gx hTx _ σ ax hax (xs (i + (1 : Int32)).toNatClampNeg) (xs (i + (2 : Int32)).toNatClampNeg) (xs (i + (3 : Int32)).toNatClampNeg) (xs (i + (4 : Int32)).toNatClampNeg) (xs (i + (5 : Int32)).toNatClampNeg) _ h) (cwV 5 X.2.2.2.2 gL_law_X8_alike rfl rfl rfl (by decide +kernel) ⟨(Nat.le_of_ble_eq_true rfl), (Nat.le_of_ble_eq_true rfl)⟩) (tw_preV hKx w.1 hax (by decide) rfl [.int (xs (i + (1 : Int32)).toNatClampNeg), .int (xs (i + (2 : Int32)).toNatClampNeg), .int (xs (i + (3 : Int32)).toNatClampNeg), .int (xs (i + (4 : Int32)).toNatClampNeg), .int (xs (i + (5 : Int32)).toNatClampNeg)]) rfl rfl hl.1 rfl (lv_room (Nat.le_of_ble_eq_true rfl)) dL_law_695 ⟨(Nat.le_of_ble_eq_true rfl), (Nat.le_of_ble_eq_true rfl)⟩) (fun r155 σ156 H locs h w => ?_)
        refine lv_pop X.1 X.2.1 dL_law_698 rfl ?_
        refine lv_aload_n X.1 X.2.1 dL_law_699 rfl (lv_at hl 2 rfl) ?_
        refine lv_aload_n X.1 X.2.1 dL_law_700 rfl (lv_at hl 0 rfl) ?_
        refine lv_iload_n X.1 X.2.1 dL_law_701 rfl (lv_at hl 3 rfl) ?_
        refine lv_iconst (v := 1) X.1 X.2.1 dL_law_702 (by decide) ?_
        refine lv_iadd X.1 X.2.1 dL_law_703 ?_
        obtain ⟨hi157, h⟩ := h
        refine va_sld X.1 X.2.1 hX hbl hbA w.1.2.2.1 hi157 dL_law_704 ?_
        refine lv_aload_n X.1 X.2.1 dL_law_705 rfl (lv_at hl 0 rfl) ?_
        refine lv_iload_n X.1 X.2.1 dL_law_706 rfl (lv_at hl 3 rfl) ?_
        refine lv_iconst (v := 2) X.1 X.2.1 dL_law_707 (by decide) ?_
        refine lv_iadd X.1 X.2.1 dL_law_708 ?_
        obtain ⟨hi158, h⟩ := h
        refine va_sld X.1 X.2.1 hX hbl hbA w.1.2.2.1 hi158 dL_law_709 ?_
        refine lv_aload_n X.1 X.2.1 dL_law_710 rfl (lv_at hl 0 rfl) ?_
        refine lv_iload_n X.1 X.2.1 dL_law_711 rfl (lv_at hl 3 rfl) ?_
        refine lv_iconst (v := 3) X.1 X.2.1 dL_law_712 (by decide) ?_
        refine lv_iadd X.1 X.2.1 dL_law_713 ?_
        obtain ⟨hi159, h⟩ := h
        refine va_sld X.1 X.2.1 hX hbl hbA w.1.2.2.1 hi159 dL_law_714 ?_
        refine lv_aload_n X.1 X.2.1 dL_law_715 rfl (lv_at hl 0 rfl) ?_
        refine lv_iload_n X.1 X.2.1 dL_law_716 rfl (lv_at hl 3 rfl) ?_
        refine lv_iconst (v := 4) X.1 X.2.1 dL_law_717 (by decide) ?_
        refine lv_iadd X.1 X.2.1 dL_law_718 ?_
        obtain ⟨hi160, h⟩ := h
        refine va_sld X.1 X.2.1 hX hbl hbA w.1.2.2.1 hi160 dL_law_719 ?_
        refine lv_aload_n X.1 X.2.1 dL_law_720 rfl (lv_at hl 0 rfl) ?_
        refine lv_iload_n X.1 X.2.1 dL_law_721 rfl (lv_at hl 3 rfl) ?_
        refine lv_iconst (v := 5) X.1 X.2.1 dL_law_722 (by decide) ?_
        refine lv_iadd X.1 X.2.1 dL_law_723 ?_
        obtain ⟨hi161, h⟩ := h
        refine va_sld X.1 X.2.1 hX hbl hbA w.1.2.2.1 hi161 dL_law_724 ?_
        refine tl_m w (va_runV (As := [.int (xs (i + (1 : Int32)).toNatClampNeg), .int (xs (i + (2 : Int32)).toNatClampNeg), .int (xs (i + (3 : Int32)).toNatClampNeg), .int (xs (i + (4 : Int32)).toNatClampNeg), .int (xs (i + (5 : Int32)).toNatClampNeg)]) (rest := []) X (ct_X9_alike l D gm hTm _ τ am ham (xs (i + (1 : Int32)).toNatClampNeg) (xs (i + (2 : Int32)).toNatClampNeg) (xs (i + (3 : Int32)).toNatClampNeg) (xs (i + (4 : Int32)).toNatClampNeg) (xs (i + (5 : Int32)).toNatClampNeg) _ h) (cwV 5 X.2.2.2.2 gL_law_X9_alike rfl rfl rfl (by decide +kernel) ⟨(Nat.le_of_ble_eq_true rfl), (Nat.le_of_ble_eq_true rfl)⟩) (tw_preV hKm w.2.1 ham (by decide) rfl [.int (xs (i + (1 : Int32)).toNatClampNeg), .int (xs (i + (2 : Int32)).toNatClampNeg), .int (xs (i + (3 : Int32)).toNatClampNeg), .int (xs (i + (4 : Int32)).toNatClampNeg), .int (xs (i + (5 : Int32)).toNatClampNeg)]) rfl rfl hl.1 rfl (lv_room (Nat.le_of_ble_eq_true rfl)) dL_law_725 ⟨(Nat.le_of_ble_eq_true rfl), (Nat.le_of_ble_eq_true rfl)⟩) (fun r162 τ163 H locs h w => ?_)
        refine lv_pop X.1 X.2.1 dL_law_728 rfl ?_
        refine lv_goto (tgt := 943) X.1 X.2.1 dL_law_729 (by decide) ?_
        refine lv_iinc (v := (i + 6)) (lv' := [(3, .int (i + 6)), (0, .ref b), (1, .ref ax), (2, .ref am)]) X.1 X.2.1 dL_law_943 hl (k := 3) rfl rfl (by decide) rfl (fun ls hl => ?_)
        refine lv_goto (tgt := 18) X.1 X.2.1 dL_law_946 (by decide) ?_
        exact ih (i + 6) σ156 τ163 _ _ ls h w (lv_sub hl [1, 2, 3, 0] rfl)
      have h := h.2 c149
      by_cases c164 : z2 = 18
      · have h := h.1 c164
        refine lv_tableIn (off := 699) (tgt := 732) X.1 X.2.1 dL_law_33 (by rw [c164] <;> decide) (by rw [c164] <;> decide) (by rw [c164] <;> decide) (by decide) ?_
        refine lv_aload_n X.1 X.2.1 dL_law_732 rfl (lv_at hl 1 rfl) ?_
        refine lv_aload_n X.1 X.2.1 dL_law_733 rfl (lv_at hl 0 rfl) ?_
        refine lv_iload_n X.1 X.2.1 dL_law_734 rfl (lv_at hl 3 rfl) ?_
        refine lv_iconst (v := 1) X.1 X.2.1 dL_law_735 (by decide) ?_
        refine lv_iadd X.1 X.2.1 dL_law_736 ?_
        obtain ⟨hi165, h⟩ := h
        refine va_sld X.1 X.2.1 hX hbl hbA w.1.2.2.1 hi165 dL_law_737 ?_
        refine lv_aload_n X.1 X.2.1 dL_law_738 rfl (lv_at hl 0 rfl) ?_
        refine lv_iload_n X.1 X.2.1 dL_law_739 rfl (lv_at hl 3 rfl) ?_
        refine lv_iconst (v := 2) X.1 X.2.1 dL_law_740 (by decide) ?_
        refine lv_iadd X.1 X.2.1 dL_law_741 ?_
        obtain ⟨hi166, h⟩ := h
        refine va_sld X.1 X.2.1 hX hbl hbA w.1.2.2.1 hi166 dL_law_742 ?_
        refine tl_x w (va_runV (As := [.int (xs (i + (1 : Int32)).toNatClampNeg), .int (xs (i + (2 : Int32)).toNatClampNeg)]) (rest := []) X (ct_X8_ofMachine l D gx hTx _ σ ax hax (xs (i + (1 : Int32)).toNatClampNeg) (xs (i + (2 : Int32)).toNatClampNeg) _ h) (cwV 2 X.2.2.2.2 gL_law_X8_ofMachine rfl rfl rfl (by decide +kernel) ⟨(Nat.le_of_ble_eq_true rfl), (Nat.le_of_ble_eq_true rfl)⟩) (tw_preV hKx w.1 hax (by decide) rfl [.int (xs (i + (1 : Int32)).toNatClampNeg), .int (xs (i + (2 : Int32)).toNatClampNeg)]) rfl rfl hl.1 rfl (lv_room (Nat.le_of_ble_eq_true rfl)) dL_law_743 ⟨(Nat.le_of_ble_eq_true rfl), (Nat.le_of_ble_eq_true rfl)⟩) (fun r167 σ168 H locs h w => ?_)
        refine lv_pop X.1 X.2.1 dL_law_746 rfl ?_
        refine lv_aload_n X.1 X.2.1 dL_law_747 rfl (lv_at hl 2 rfl) ?_
        refine lv_aload_n X.1 X.2.1 dL_law_748 rfl (lv_at hl 0 rfl) ?_
        refine lv_iload_n X.1 X.2.1 dL_law_749 rfl (lv_at hl 3 rfl) ?_
        refine lv_iconst (v := 1) X.1 X.2.1 dL_law_750 (by decide) ?_
        refine lv_iadd X.1 X.2.1 dL_law_751 ?_
        obtain ⟨hi169, h⟩ := h
        refine va_sld X.1 X.2.1 hX hbl hbA w.1.2.2.1 hi169 dL_law_752 ?_
        refine lv_aload_n X.1 X.2.1 dL_law_753 rfl (lv_at hl 0 rfl) ?_
        refine lv_iload_n X.1 X.2.1 dL_law_754 rfl (lv_at hl 3 rfl) ?_
        refine lv_iconst (v := 2) X.1 X.2.1 dL_law_755 (by decide) ?_
        refine lv_iadd X.1 X.2.1 dL_law_756 ?_
        obtain ⟨hi170, h⟩ := h
        refine va_sld X.1 X.2.1 hX hbl hbA w.1.2.2.1 hi170 dL_law_757 ?_
        refine tl_m w (va_runV (As := [.int (xs (i + (1 : Int32)).toNatClampNeg), .int (xs (i + (2 : Int32)).toNatClampNeg)]) (rest := []) X (ct_X9_ofMachine l D gm hTm _ τ am ham (xs (i + (1 : Int32)).toNatClampNeg) (xs (i + (2 : Int32)).toNatClampNeg) _ h) (cwV 2 X.2.2.2.2 gL_law_X9_ofMachine rfl rfl rfl (by decide +kernel) ⟨(Nat.le_of_ble_eq_true rfl), (Nat.le_of_ble_eq_true rfl)⟩) (tw_preV hKm w.2.1 ham (by decide) rfl [.int (xs (i + (1 : Int32)).toNatClampNeg), .int (xs (i + (2 : Int32)).toNatClampNeg)]) rfl rfl hl.1 rfl (lv_room (Nat.le_of_ble_eq_true rfl)) dL_law_758 ⟨(Nat.le_of_ble_eq_true rfl), (Nat.le_of_ble_eq_true rfl)⟩) (fun r171 τ172 H locs h w => ?_)
        refine lv_pop X.1 X.2.1 dL_law_761 rfl ?_
        refine lv_goto (tgt := 943) X.1 X.2.1 dL_law_762 (by decide) ?_
        refine lv_iinc (v := (i + 6)) (lv' := [(3, .int (i + 6)), (0, .ref b), (1, .ref ax), (2, .ref am)]) X.1 X.2.1 dL_law_943 hl (k := 3) rfl rfl (by decide) rfl (fun ls hl => ?_)
        refine lv_goto (tgt := 18) X.1 X.2.1 dL_law_946 (by decide) ?_
        exact ih (i + 6) σ168 τ172 _ _ ls h w (lv_sub hl [1, 2, 3, 0] rfl)
      have h := h.2 c164
      by_cases c173 : z2 = 19
      · have h := h.1 c173
        refine lv_tableIn (off := 732) (tgt := 765) X.1 X.2.1 dL_law_33 (by rw [c173] <;> decide) (by rw [c173] <;> decide) (by rw [c173] <;> decide) (by decide) ?_
        refine lv_aload_n X.1 X.2.1 dL_law_765 rfl (lv_at hl 1 rfl) ?_
        refine lv_aload_n X.1 X.2.1 dL_law_766 rfl (lv_at hl 0 rfl) ?_
        refine lv_iload_n X.1 X.2.1 dL_law_767 rfl (lv_at hl 3 rfl) ?_
        refine lv_iconst (v := 1) X.1 X.2.1 dL_law_768 (by decide) ?_
        refine lv_iadd X.1 X.2.1 dL_law_769 ?_
        obtain ⟨hi174, h⟩ := h
        refine va_sld X.1 X.2.1 hX hbl hbA w.1.2.2.1 hi174 dL_law_770 ?_
        refine lv_aload_n X.1 X.2.1 dL_law_771 rfl (lv_at hl 0 rfl) ?_
        refine lv_iload_n X.1 X.2.1 dL_law_772 rfl (lv_at hl 3 rfl) ?_
        refine lv_iconst (v := 2) X.1 X.2.1 dL_law_773 (by decide) ?_
        refine lv_iadd X.1 X.2.1 dL_law_774 ?_
        obtain ⟨hi175, h⟩ := h
        refine va_sld X.1 X.2.1 hX hbl hbA w.1.2.2.1 hi175 dL_law_775 ?_
        refine lv_aload_n X.1 X.2.1 dL_law_776 rfl (lv_at hl 0 rfl) ?_
        refine lv_iload_n X.1 X.2.1 dL_law_777 rfl (lv_at hl 3 rfl) ?_
        refine lv_iconst (v := 3) X.1 X.2.1 dL_law_778 (by decide) ?_
        refine lv_iadd X.1 X.2.1 dL_law_779 ?_
        obtain ⟨hi176, h⟩ := h
        refine va_sld X.1 X.2.1 hX hbl hbA w.1.2.2.1 hi176 dL_law_780 ?_
        refine tl_x w (va_runV (As := [.int (xs (i + (1 : Int32)).toNatClampNeg), .int (xs (i + (2 : Int32)).toNatClampNeg), .int (xs (i + (3 : Int32)).toNatClampNeg)]) (rest := []) X (ct_X8_oneWay l D gx hTx _ σ ax hax (xs (i + (1 : Int32)).toNatClampNeg) (xs (i + (2 : Int32)).toNatClampNeg) (xs (i + (3 : Int32)).toNatClampNeg) _ h) (cwV 3 X.2.2.2.2 gL_law_X8_oneWay rfl rfl rfl (by decide +kernel) ⟨(Nat.le_of_ble_eq_true rfl), (Nat.le_of_ble_eq_true rfl)⟩) (tw_preV hKx w.1 hax (by decide) rfl [.int (xs (i + (1 : Int32)).toNatClampNeg), .int (xs (i + (2 : Int32)).toNatClampNeg), .int (xs (i + (3 : Int32)).toNatClampNeg)]) rfl rfl hl.1 rfl (lv_room (Nat.le_of_ble_eq_true rfl)) dL_law_781 ⟨(Nat.le_of_ble_eq_true rfl), (Nat.le_of_ble_eq_true rfl)⟩) (fun r177 σ178 H locs h w => ?_)
        refine lv_pop X.1 X.2.1 dL_law_784 rfl ?_
        refine lv_aload_n X.1 X.2.1 dL_law_785 rfl (lv_at hl 2 rfl) ?_
        refine lv_aload_n X.1 X.2.1 dL_law_786 rfl (lv_at hl 0 rfl) ?_
        refine lv_iload_n X.1 X.2.1 dL_law_787 rfl (lv_at hl 3 rfl) ?_
        refine lv_iconst (v := 1) X.1 X.2.1 dL_law_788 (by decide) ?_
        refine lv_iadd X.1 X.2.1 dL_law_789 ?_
        obtain ⟨hi179, h⟩ := h
        refine va_sld X.1 X.2.1 hX hbl hbA w.1.2.2.1 hi179 dL_law_790 ?_
        refine lv_aload_n X.1 X.2.1 dL_law_791 rfl (lv_at hl 0 rfl) ?_
        refine lv_iload_n X.1 X.2.1 dL_law_792 rfl (lv_at hl 3 rfl) ?_
        refine lv_iconst (v := 2) X.1 X.2.1 dL_law_793 (by decide) ?_
        refine lv_iadd X.1 X.2.1 dL_law_794 ?_
        obtain ⟨hi180, h⟩ := h
        refine va_sld X.1 X.2.1 hX hbl hbA w.1.2.2.1 hi180 dL_law_795 ?_
        refine lv_aload_n X.1 X.2.1 dL_law_796 rfl (lv_at hl 0 rfl) ?_
        refine lv_iload_n X.1 X.2.1 dL_law_797 rfl (lv_at hl 3 rfl) ?_
        refine lv_iconst (v := 3) X.1 X.2.1 dL_law_798 (by decide) ?_
        refine lv_iadd X.1 X.2.1 dL_law_799 ?_
        obtain ⟨hi181, h⟩ := h
        refine va_sld X.1 X.2.1 hX hbl hbA w.1.2.2.1 hi181 dL_law_800 ?_
        refine tl_m w (va_runV (As := [.int (xs (i + (1 : Int32)).toNatClampNeg), .int (xs (i + (2 : Int32)).toNatClampNeg), .int (xs (i + (3 : Int32)).toNatClampNeg)]) (rest := []) X (ct_X9_oneWay l D gm hTm _ τ am ham (xs (i + (1 : Int32)).toNatClampNeg) (xs (i + (2 : Int32)).toNatClampNeg) (xs (i + (3 : Int32)).toNatClampNeg) _ h) (cwV 3 X.2.2.2.2 gL_law_X9_oneWay rfl rfl rfl (by decide +kernel) ⟨(Nat.le_of_ble_eq_true rfl), (Nat.le_of_ble_eq_true rfl)⟩) (tw_preV hKm w.2.1 ham (by decide) rfl [.int (xs (i + (1 : Int32)).toNatClampNeg), .int (xs (i + (2 : Int32)).toNatClampNeg), .int (xs (i + (3 : Int32)).toNatClampNeg)]) rfl rfl hl.1 rfl (lv_room (Nat.le_of_ble_eq_true rfl)) dL_law_801 ⟨(Nat.le_of_ble_eq_true rfl), (Nat.le_of_ble_eq_true rfl)⟩) (fun r182 τ183 H locs h w => ?_)
        refine lv_pop X.1 X.2.1 dL_law_804 rfl ?_
        refine lv_goto (tgt := 943) X.1 X.2.1 dL_law_805 (by decide) ?_
        refine lv_iinc (v := (i + 6)) (lv' := [(3, .int (i + 6)), (0, .ref b), (1, .ref ax), (2, .ref am)]) X.1 X.2.1 dL_law_943 hl (k := 3) rfl rfl (by decide) rfl (fun ls hl => ?_)
        refine lv_goto (tgt := 18) X.1 X.2.1 dL_law_946 (by decide) ?_
        exact ih (i + 6) σ178 τ183 _ _ ls h w (lv_sub hl [1, 2, 3, 0] rfl)
      have h := h.2 c173
      by_cases c184 : z2 = 20
      · have h := h.1 c184
        refine lv_tableIn (off := 775) (tgt := 808) X.1 X.2.1 dL_law_33 (by rw [c184] <;> decide) (by rw [c184] <;> decide) (by rw [c184] <;> decide) (by decide) ?_
        refine lv_aload_n X.1 X.2.1 dL_law_808 rfl (lv_at hl 1 rfl) ?_
        refine lv_aload_n X.1 X.2.1 dL_law_809 rfl (lv_at hl 0 rfl) ?_
        refine lv_iload_n X.1 X.2.1 dL_law_810 rfl (lv_at hl 3 rfl) ?_
        refine lv_iconst (v := 1) X.1 X.2.1 dL_law_811 (by decide) ?_
        refine lv_iadd X.1 X.2.1 dL_law_812 ?_
        obtain ⟨hi185, h⟩ := h
        refine va_sld X.1 X.2.1 hX hbl hbA w.1.2.2.1 hi185 dL_law_813 ?_
        refine lv_aload_n X.1 X.2.1 dL_law_814 rfl (lv_at hl 0 rfl) ?_
        refine lv_iload_n X.1 X.2.1 dL_law_815 rfl (lv_at hl 3 rfl) ?_
        refine lv_iconst (v := 2) X.1 X.2.1 dL_law_816 (by decide) ?_
        refine lv_iadd X.1 X.2.1 dL_law_817 ?_
        obtain ⟨hi186, h⟩ := h
        refine va_sld X.1 X.2.1 hX hbl hbA w.1.2.2.1 hi186 dL_law_818 ?_
        refine tl_x w (va_runV (As := [.int (xs (i + (1 : Int32)).toNatClampNeg), .int (xs (i + (2 : Int32)).toNatClampNeg)]) (rest := []) X (ct_X8_taken l D gx hTx _ σ ax hax (xs (i + (1 : Int32)).toNatClampNeg) (xs (i + (2 : Int32)).toNatClampNeg) _ h) (cwV 2 X.2.2.2.2 gL_law_X8_taken rfl rfl rfl (by decide +kernel) ⟨(Nat.le_of_ble_eq_true rfl), (Nat.le_of_ble_eq_true rfl)⟩) (tw_preV hKx w.1 hax (by decide) rfl [.int (xs (i + (1 : Int32)).toNatClampNeg), .int (xs (i + (2 : Int32)).toNatClampNeg)]) rfl rfl hl.1 rfl (lv_room (Nat.le_of_ble_eq_true rfl)) dL_law_819 ⟨(Nat.le_of_ble_eq_true rfl), (Nat.le_of_ble_eq_true rfl)⟩) (fun r187 σ188 H locs h w => ?_)
        refine lv_pop X.1 X.2.1 dL_law_822 rfl ?_
        refine lv_aload_n X.1 X.2.1 dL_law_823 rfl (lv_at hl 2 rfl) ?_
        refine lv_aload_n X.1 X.2.1 dL_law_824 rfl (lv_at hl 0 rfl) ?_
        refine lv_iload_n X.1 X.2.1 dL_law_825 rfl (lv_at hl 3 rfl) ?_
        refine lv_iconst (v := 1) X.1 X.2.1 dL_law_826 (by decide) ?_
        refine lv_iadd X.1 X.2.1 dL_law_827 ?_
        obtain ⟨hi189, h⟩ := h
        refine va_sld X.1 X.2.1 hX hbl hbA w.1.2.2.1 hi189 dL_law_828 ?_
        refine lv_aload_n X.1 X.2.1 dL_law_829 rfl (lv_at hl 0 rfl) ?_
        refine lv_iload_n X.1 X.2.1 dL_law_830 rfl (lv_at hl 3 rfl) ?_
        refine lv_iconst (v := 2) X.1 X.2.1 dL_law_831 (by decide) ?_
        refine lv_iadd X.1 X.2.1 dL_law_832 ?_
        obtain ⟨hi190, h⟩ := h
        refine va_sld X.1 X.2.1 hX hbl hbA w.1.2.2.1 hi190 dL_law_833 ?_
        refine tl_m w (va_runV (As := [.int (xs (i + (1 : Int32)).toNatClampNeg), .int (xs (i + (2 : Int32)).toNatClampNeg)]) (rest := []) X (ct_X9_taken l D gm hTm _ τ am ham (xs (i + (1 : Int32)).toNatClampNeg) (xs (i + (2 : Int32)).toNatClampNeg) _ h) (cwV 2 X.2.2.2.2 gL_law_X9_taken rfl rfl rfl (by decide +kernel) ⟨(Nat.le_of_ble_eq_true rfl), (Nat.le_of_ble_eq_true rfl)⟩) (tw_preV hKm w.2.1 ham (by decide) rfl [.int (xs (i + (1 : Int32)).toNatClampNeg), .int (xs (i + (2 : Int32)).toNatClampNeg)]) rfl rfl hl.1 rfl (lv_room (Nat.le_of_ble_eq_true rfl)) dL_law_834 ⟨(Nat.le_of_ble_eq_true rfl), (Nat.le_of_ble_eq_true rfl)⟩) (fun r191 τ192 H locs h w => ?_)
        refine lv_pop X.1 X.2.1 dL_law_837 rfl ?_
        refine lv_goto (tgt := 943) X.1 X.2.1 dL_law_838 (by decide) ?_
        refine lv_iinc (v := (i + 6)) (lv' := [(3, .int (i + 6)), (0, .ref b), (1, .ref ax), (2, .ref am)]) X.1 X.2.1 dL_law_943 hl (k := 3) rfl rfl (by decide) rfl (fun ls hl => ?_)
        refine lv_goto (tgt := 18) X.1 X.2.1 dL_law_946 (by decide) ?_
        exact ih (i + 6) σ188 τ192 _ _ ls h w (lv_sub hl [1, 2, 3, 0] rfl)
      have h := h.2 c184
      by_cases c193 : z2 = 21
      · have h := h.1 c193
        refine lv_tableIn (off := 808) (tgt := 841) X.1 X.2.1 dL_law_33 (by rw [c193] <;> decide) (by rw [c193] <;> decide) (by rw [c193] <;> decide) (by decide) ?_
        refine lv_aload_n X.1 X.2.1 dL_law_841 rfl (lv_at hl 1 rfl) ?_
        refine lv_aload_n X.1 X.2.1 dL_law_842 rfl (lv_at hl 0 rfl) ?_
        refine lv_iload_n X.1 X.2.1 dL_law_843 rfl (lv_at hl 3 rfl) ?_
        refine lv_iconst (v := 1) X.1 X.2.1 dL_law_844 (by decide) ?_
        refine lv_iadd X.1 X.2.1 dL_law_845 ?_
        obtain ⟨hi194, h⟩ := h
        refine va_sld X.1 X.2.1 hX hbl hbA w.1.2.2.1 hi194 dL_law_846 ?_
        refine tl_x w (va_runV (As := [.int (xs (i + (1 : Int32)).toNatClampNeg)]) (rest := []) X (ct_X8_first l D gx hTx _ σ ax hax (xs (i + (1 : Int32)).toNatClampNeg) _ h) (cwV 1 X.2.2.2.2 gL_law_X8_first rfl rfl rfl (by decide +kernel) ⟨(Nat.le_of_ble_eq_true rfl), (Nat.le_of_ble_eq_true rfl)⟩) (tw_preV hKx w.1 hax (by decide) rfl [.int (xs (i + (1 : Int32)).toNatClampNeg)]) rfl rfl hl.1 rfl (lv_room (Nat.le_of_ble_eq_true rfl)) dL_law_847 ⟨(Nat.le_of_ble_eq_true rfl), (Nat.le_of_ble_eq_true rfl)⟩) (fun r195 σ196 H locs h w => ?_)
        refine lv_pop X.1 X.2.1 dL_law_850 rfl ?_
        refine lv_aload_n X.1 X.2.1 dL_law_851 rfl (lv_at hl 2 rfl) ?_
        refine lv_aload_n X.1 X.2.1 dL_law_852 rfl (lv_at hl 0 rfl) ?_
        refine lv_iload_n X.1 X.2.1 dL_law_853 rfl (lv_at hl 3 rfl) ?_
        refine lv_iconst (v := 1) X.1 X.2.1 dL_law_854 (by decide) ?_
        refine lv_iadd X.1 X.2.1 dL_law_855 ?_
        obtain ⟨hi197, h⟩ := h
        refine va_sld X.1 X.2.1 hX hbl hbA w.1.2.2.1 hi197 dL_law_856 ?_
        refine tl_m w (va_runV (As := [.int (xs (i + (1 : Int32)).toNatClampNeg)]) (rest := []) X (ct_X9_first l D gm hTm _ τ am ham (xs (i + (1 : Int32)).toNatClampNeg) _ h) (cwV 1 X.2.2.2.2 gL_law_X9_first rfl rfl rfl (by decide +kernel) ⟨(Nat.le_of_ble_eq_true rfl), (Nat.le_of_ble_eq_true rfl)⟩) (tw_preV hKm w.2.1 ham (by decide) rfl [.int (xs (i + (1 : Int32)).toNatClampNeg)]) rfl rfl hl.1 rfl (lv_room (Nat.le_of_ble_eq_true rfl)) dL_law_857 ⟨(Nat.le_of_ble_eq_true rfl), (Nat.le_of_ble_eq_true rfl)⟩) (fun r198 τ199 H locs h w => ?_)
        refine lv_pop X.1 X.2.1 dL_law_860 rfl ?_
        refine lv_goto (tgt := 943) X.1 X.2.1 dL_law_861 (by decide) ?_
        refine lv_iinc (v := (i + 6)) (lv' := [(3, .int (i + 6)), (0, .ref b), (1, .ref ax), (2, .ref am)]) X.1 X.2.1 dL_law_943 hl (k := 3) rfl rfl (by decide) rfl (fun ls hl => ?_)
        refine lv_goto (tgt := 18) X.1 X.2.1 dL_law_946 (by decide) ?_
        exact ih (i + 6) σ196 τ199 _ _ ls h w (lv_sub hl [1, 2, 3, 0] rfl)
      have h := h.2 c193
      by_cases c200 : z2 = 22
      · have h := h.1 c200
        refine lv_tableIn (off := 831) (tgt := 864) X.1 X.2.1 dL_law_33 (by rw [c200] <;> decide) (by rw [c200] <;> decide) (by rw [c200] <;> decide) (by decide) ?_
        refine lv_aload_n X.1 X.2.1 dL_law_864 rfl (lv_at hl 1 rfl) ?_
        refine lv_aload_n X.1 X.2.1 dL_law_865 rfl (lv_at hl 0 rfl) ?_
        refine lv_iload_n X.1 X.2.1 dL_law_866 rfl (lv_at hl 3 rfl) ?_
        refine lv_iconst (v := 1) X.1 X.2.1 dL_law_867 (by decide) ?_
        refine lv_iadd X.1 X.2.1 dL_law_868 ?_
        obtain ⟨hi201, h⟩ := h
        refine va_sld X.1 X.2.1 hX hbl hbA w.1.2.2.1 hi201 dL_law_869 ?_
        refine lv_aload_n X.1 X.2.1 dL_law_870 rfl (lv_at hl 0 rfl) ?_
        refine lv_iload_n X.1 X.2.1 dL_law_871 rfl (lv_at hl 3 rfl) ?_
        refine lv_iconst (v := 2) X.1 X.2.1 dL_law_872 (by decide) ?_
        refine lv_iadd X.1 X.2.1 dL_law_873 ?_
        obtain ⟨hi202, h⟩ := h
        refine va_sld X.1 X.2.1 hX hbl hbA w.1.2.2.1 hi202 dL_law_874 ?_
        refine tl_x w (va_runV (As := [.int (xs (i + (1 : Int32)).toNatClampNeg), .int (xs (i + (2 : Int32)).toNatClampNeg)]) (rest := []) X (ct_X8_turned l D gx hTx _ σ ax hax (xs (i + (1 : Int32)).toNatClampNeg) (xs (i + (2 : Int32)).toNatClampNeg) _ h) (cwV 2 X.2.2.2.2 gL_law_X8_turned rfl rfl rfl (by decide +kernel) ⟨(Nat.le_of_ble_eq_true rfl), (Nat.le_of_ble_eq_true rfl)⟩) (tw_preV hKx w.1 hax (by decide) rfl [.int (xs (i + (1 : Int32)).toNatClampNeg), .int (xs (i + (2 : Int32)).toNatClampNeg)]) rfl rfl hl.1 rfl (lv_room (Nat.le_of_ble_eq_true rfl)) dL_law_875 ⟨(Nat.le_of_ble_eq_true rfl), (Nat.le_of_ble_eq_true rfl)⟩) (fun r203 σ204 H locs h w => ?_)
        refine lv_pop X.1 X.2.1 dL_law_878 rfl ?_
        refine lv_aload_n X.1 X.2.1 dL_law_879 rfl (lv_at hl 2 rfl) ?_
        refine lv_aload_n X.1 X.2.1 dL_law_880 rfl (lv_at hl 0 rfl) ?_
        refine lv_iload_n X.1 X.2.1 dL_law_881 rfl (lv_at hl 3 rfl) ?_
        refine lv_iconst (v := 1) X.1 X.2.1 dL_law_882 (by decide) ?_
        refine lv_iadd X.1 X.2.1 dL_law_883 ?_
        obtain ⟨hi205, h⟩ := h
        refine va_sld X.1 X.2.1 hX hbl hbA w.1.2.2.1 hi205 dL_law_884 ?_
        refine lv_aload_n X.1 X.2.1 dL_law_885 rfl (lv_at hl 0 rfl) ?_
        refine lv_iload_n X.1 X.2.1 dL_law_886 rfl (lv_at hl 3 rfl) ?_
        refine lv_iconst (v := 2) X.1 X.2.1 dL_law_887 (by decide) ?_
        refine lv_iadd X.1 X.2.1 dL_law_888 ?_
        obtain ⟨hi206, h⟩ := h
        refine va_sld X.1 X.2.1 hX hbl hbA w.1.2.2.1 hi206 dL_law_889 ?_
        refine tl_m w (va_runV (As := [.int (xs (i + (1 : Int32)).toNatClampNeg), .int (xs (i + (2 : Int32)).toNatClampNeg)]) (rest := []) X (ct_X9_turned l D gm hTm _ τ am ham (xs (i + (1 : Int32)).toNatClampNeg) (xs (i + (2 : Int32)).toNatClampNeg) _ h) (cwV 2 X.2.2.2.2 gL_law_X9_turned rfl rfl rfl (by decide +kernel) ⟨(Nat.le_of_ble_eq_true rfl), (Nat.le_of_ble_eq_true rfl)⟩) (tw_preV hKm w.2.1 ham (by decide) rfl [.int (xs (i + (1 : Int32)).toNatClampNeg), .int (xs (i + (2 : Int32)).toNatClampNeg)]) rfl rfl hl.1 rfl (lv_room (Nat.le_of_ble_eq_true rfl)) dL_law_890 ⟨(Nat.le_of_ble_eq_true rfl), (Nat.le_of_ble_eq_true rfl)⟩) (fun r207 τ208 H locs h w => ?_)
        refine lv_pop X.1 X.2.1 dL_law_893 rfl ?_
        refine lv_goto (tgt := 943) X.1 X.2.1 dL_law_894 (by decide) ?_
        refine lv_iinc (v := (i + 6)) (lv' := [(3, .int (i + 6)), (0, .ref b), (1, .ref ax), (2, .ref am)]) X.1 X.2.1 dL_law_943 hl (k := 3) rfl rfl (by decide) rfl (fun ls hl => ?_)
        refine lv_goto (tgt := 18) X.1 X.2.1 dL_law_946 (by decide) ?_
        exact ih (i + 6) σ204 τ208 _ _ ls h w (lv_sub hl [1, 2, 3, 0] rfl)
      have h := h.2 c200
      by_cases c209 : z2 = 23
      · have h := h.1 c209
        refine lv_tableIn (off := 864) (tgt := 897) X.1 X.2.1 dL_law_33 (by rw [c209] <;> decide) (by rw [c209] <;> decide) (by rw [c209] <;> decide) (by decide) ?_
        refine lv_aload_n X.1 X.2.1 dL_law_897 rfl (lv_at hl 1 rfl) ?_
        refine lv_aload_n X.1 X.2.1 dL_law_898 rfl (lv_at hl 0 rfl) ?_
        refine lv_iload_n X.1 X.2.1 dL_law_899 rfl (lv_at hl 3 rfl) ?_
        refine lv_iconst (v := 1) X.1 X.2.1 dL_law_900 (by decide) ?_
        refine lv_iadd X.1 X.2.1 dL_law_901 ?_
        obtain ⟨hi210, h⟩ := h
        refine va_sld X.1 X.2.1 hX hbl hbA w.1.2.2.1 hi210 dL_law_902 ?_
        refine tl_x w (va_runV (As := [.int (xs (i + (1 : Int32)).toNatClampNeg)]) (rest := []) X (ct_X8_keep l D gx hTx _ σ ax hax (xs (i + (1 : Int32)).toNatClampNeg) _ h) (cwV 1 X.2.2.2.2 gL_law_X8_keep rfl rfl rfl (by decide +kernel) ⟨(Nat.le_of_ble_eq_true rfl), (Nat.le_of_ble_eq_true rfl)⟩) (tw_preV hKx w.1 hax (by decide) rfl [.int (xs (i + (1 : Int32)).toNatClampNeg)]) rfl rfl hl.1 rfl (lv_room (Nat.le_of_ble_eq_true rfl)) dL_law_903 ⟨(Nat.le_of_ble_eq_true rfl), (Nat.le_of_ble_eq_true rfl)⟩) (fun r211 σ212 H locs h w => ?_)
        refine lv_pop X.1 X.2.1 dL_law_906 rfl ?_
        refine lv_aload_n X.1 X.2.1 dL_law_907 rfl (lv_at hl 2 rfl) ?_
        refine lv_aload_n X.1 X.2.1 dL_law_908 rfl (lv_at hl 0 rfl) ?_
        refine lv_iload_n X.1 X.2.1 dL_law_909 rfl (lv_at hl 3 rfl) ?_
        refine lv_iconst (v := 1) X.1 X.2.1 dL_law_910 (by decide) ?_
        refine lv_iadd X.1 X.2.1 dL_law_911 ?_
        obtain ⟨hi213, h⟩ := h
        refine va_sld X.1 X.2.1 hX hbl hbA w.1.2.2.1 hi213 dL_law_912 ?_
        refine tl_m w (va_runV (As := [.int (xs (i + (1 : Int32)).toNatClampNeg)]) (rest := []) X (ct_X9_keep l D gm hTm _ τ am ham (xs (i + (1 : Int32)).toNatClampNeg) _ h) (cwV 1 X.2.2.2.2 gL_law_X9_keep rfl rfl rfl (by decide +kernel) ⟨(Nat.le_of_ble_eq_true rfl), (Nat.le_of_ble_eq_true rfl)⟩) (tw_preV hKm w.2.1 ham (by decide) rfl [.int (xs (i + (1 : Int32)).toNatClampNeg)]) rfl rfl hl.1 rfl (lv_room (Nat.le_of_ble_eq_true rfl)) dL_law_913 ⟨(Nat.le_of_ble_eq_true rfl), (Nat.le_of_ble_eq_true rfl)⟩) (fun r214 τ215 H locs h w => ?_)
        refine lv_pop X.1 X.2.1 dL_law_916 rfl ?_
        refine lv_goto (tgt := 943) X.1 X.2.1 dL_law_917 (by decide) ?_
        refine lv_iinc (v := (i + 6)) (lv' := [(3, .int (i + 6)), (0, .ref b), (1, .ref ax), (2, .ref am)]) X.1 X.2.1 dL_law_943 hl (k := 3) rfl rfl (by decide) rfl (fun ls hl => ?_)
        refine lv_goto (tgt := 18) X.1 X.2.1 dL_law_946 (by decide) ?_
        exact ih (i + 6) σ212 τ215 _ _ ls h w (lv_sub hl [1, 2, 3, 0] rfl)
      have h := h.2 c209
      by_cases c216 : z2 = 24
      · have h := h.1 c216
        refine lv_tableIn (off := 887) (tgt := 920) X.1 X.2.1 dL_law_33 (by rw [c216] <;> decide) (by rw [c216] <;> decide) (by rw [c216] <;> decide) (by decide) ?_
        refine lv_aload_n X.1 X.2.1 dL_law_920 rfl (lv_at hl 1 rfl) ?_
        refine lv_aload_n X.1 X.2.1 dL_law_921 rfl (lv_at hl 0 rfl) ?_
        refine lv_iload_n X.1 X.2.1 dL_law_922 rfl (lv_at hl 3 rfl) ?_
        refine lv_iconst (v := 1) X.1 X.2.1 dL_law_923 (by decide) ?_
        refine lv_iadd X.1 X.2.1 dL_law_924 ?_
        obtain ⟨hi217, h⟩ := h
        refine va_sld X.1 X.2.1 hX hbl hbA w.1.2.2.1 hi217 dL_law_925 ?_
        refine tl_x w (va_runV (As := [.int (xs (i + (1 : Int32)).toNatClampNeg)]) (rest := []) X (ct_X8_goBack l D gx hTx _ σ ax hax (xs (i + (1 : Int32)).toNatClampNeg) _ h) (cwV 1 X.2.2.2.2 gL_law_X8_goBack rfl rfl rfl (by decide +kernel) ⟨(Nat.le_of_ble_eq_true rfl), (Nat.le_of_ble_eq_true rfl)⟩) (tw_preV hKx w.1 hax (by decide) rfl [.int (xs (i + (1 : Int32)).toNatClampNeg)]) rfl rfl hl.1 rfl (lv_room (Nat.le_of_ble_eq_true rfl)) dL_law_926 ⟨(Nat.le_of_ble_eq_true rfl), (Nat.le_of_ble_eq_true rfl)⟩) (fun r218 σ219 H locs h w => ?_)
        refine lv_pop X.1 X.2.1 dL_law_929 rfl ?_
        refine lv_aload_n X.1 X.2.1 dL_law_930 rfl (lv_at hl 2 rfl) ?_
        refine lv_aload_n X.1 X.2.1 dL_law_931 rfl (lv_at hl 0 rfl) ?_
        refine lv_iload_n X.1 X.2.1 dL_law_932 rfl (lv_at hl 3 rfl) ?_
        refine lv_iconst (v := 1) X.1 X.2.1 dL_law_933 (by decide) ?_
        refine lv_iadd X.1 X.2.1 dL_law_934 ?_
        obtain ⟨hi220, h⟩ := h
        refine va_sld X.1 X.2.1 hX hbl hbA w.1.2.2.1 hi220 dL_law_935 ?_
        refine tl_m w (va_runV (As := [.int (xs (i + (1 : Int32)).toNatClampNeg)]) (rest := []) X (ct_X9_goBack l D gm hTm _ τ am ham (xs (i + (1 : Int32)).toNatClampNeg) _ h) (cwV 1 X.2.2.2.2 gL_law_X9_goBack rfl rfl rfl (by decide +kernel) ⟨(Nat.le_of_ble_eq_true rfl), (Nat.le_of_ble_eq_true rfl)⟩) (tw_preV hKm w.2.1 ham (by decide) rfl [.int (xs (i + (1 : Int32)).toNatClampNeg)]) rfl rfl hl.1 rfl (lv_room (Nat.le_of_ble_eq_true rfl)) dL_law_936 ⟨(Nat.le_of_ble_eq_true rfl), (Nat.le_of_ble_eq_true rfl)⟩) (fun r221 τ222 H locs h w => ?_)
        refine lv_pop X.1 X.2.1 dL_law_939 rfl ?_
        refine lv_goto (tgt := 943) X.1 X.2.1 dL_law_940 (by decide) ?_
        refine lv_iinc (v := (i + 6)) (lv' := [(3, .int (i + 6)), (0, .ref b), (1, .ref ax), (2, .ref am)]) X.1 X.2.1 dL_law_943 hl (k := 3) rfl rfl (by decide) rfl (fun ls hl => ?_)
        refine lv_goto (tgt := 18) X.1 X.2.1 dL_law_946 (by decide) ?_
        exact ih (i + 6) σ219 τ222 _ _ ls h w (lv_sub hl [1, 2, 3, 0] rfl)
      have h := h.2 c216
      have ec3 := lv_neT (a := 0) c3 rfl
      have ec11 := lv_neT (a := 1) c11 rfl
      have ec18 := lv_neT (a := 2) c18 rfl
      have ec23 := lv_neT (a := 3) c23 rfl
      have ec38 := lv_neT (a := 4) c38 rfl
      have ec49 := lv_neT (a := 5) c49 rfl
      have ec58 := lv_neT (a := 6) c58 rfl
      have ec67 := lv_neT (a := 7) c67 rfl
      have ec72 := lv_neT (a := 8) c72 rfl
      have ec77 := lv_neT (a := 9) c77 rfl
      have ec88 := lv_neT (a := 10) c88 rfl
      have ec95 := lv_neT (a := 11) c95 rfl
      have ec102 := lv_neT (a := 12) c102 rfl
      have ec107 := lv_neT (a := 13) c107 rfl
      have ec114 := lv_neT (a := 14) c114 rfl
      have ec123 := lv_neT (a := 15) c123 rfl
      have ec134 := lv_neT (a := 16) c134 rfl
      have ec149 := lv_neT (a := 17) c149 rfl
      have ec164 := lv_neT (a := 18) c164 rfl
      have ec173 := lv_neT (a := 19) c173 rfl
      have ec184 := lv_neT (a := 20) c184 rfl
      have ec193 := lv_neT (a := 21) c193 rfl
      have ec200 := lv_neT (a := 22) c200 rfl
      have ec209 := lv_neT (a := 23) c209 rfl
      have ec216 := lv_neT (a := 24) c216 rfl
      refine lv_tableOut (tgt := 943) X.1 X.2.1 dL_law_33 (by omega) (by decide) ?_
      refine lv_iinc (v := (i + 6)) (lv' := [(3, .int (i + 6)), (0, .ref b), (1, .ref ax), (2, .ref am)]) X.1 X.2.1 dL_law_943 hl (k := 3) rfl rfl (by decide) rfl (fun ls hl => ?_)
      refine lv_goto (tgt := 18) X.1 X.2.1 dL_law_946 (by decide) ?_
      exact ih (i + 6) σ τ _ _ ls h w (lv_sub hl [1, 2, 3, 0] rfl)
