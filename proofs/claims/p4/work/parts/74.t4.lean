/-! ===== class and model side by side, texts and faults told ===== -/
section T4
variable {gx gm : tw_G} {ax am : Nat} {P : g_P} {p : h_P} {σ τ : tw_S}
/-- the same letters of the word, the same text, the same images kept, the same fault -/
def BothR (gx : tw_G) (ax : Nat) (P : g_P) (p : h_P) (εx εm : e_P) : Prop := P.2.1 = p.1 ∧ P.2.2.2.1 = p.2.1 ∧ (∀ j, j < 2 → (P.2.2.2.2.2 j = 0 ↔ ((p.2.2 >>> (nI j &&& 31)) &&& (1 : Int32)) = 0)) ∧ (∀ i : Nat, (i : Int) < p.2.1.toInt → εx.1 i = εm.1 i ∧ ¬ εm.1 i = -1) ∧ εx.2 = εm.2 ∧ ∀ y, tw_is gx 8 y → y = ax
def BothI (gx gm : tw_G) (ax am : Nat) (P : g_P) (p : h_P) (σ τ : tw_S) : Prop := ∃ εx εm, XI gx εx P σ ∧ g_A gx P ax ∧ MI gm am εm p τ ∧ BothR gx ax P p εx εm
theorem b_feed (h : BothI gx gm ax am P p σ τ) {x : Int32} {V : Prop} (hv : V) {K : Int32 → Int32 → tw_S → tw_S → Prop} (hK : ∀ r P2 p2 s t, BothI gx gm ax am P2 p2 s t → K r r s t) : wp_X8_feed gx σ ax x (fun r s => V ∧ wp_X9_feed gm τ am x (fun r2 t => K r r2 s t)) := by
  have h0 := h
  obtain ⟨εx, εm, hX, hA, hM, e1, e2, e3, e4, e5, e6⟩ := h
  refine y_feed hX hA (fun c1 c2 s hs => ⟨hv, h_feed hM (fun _ c3 t ht => ?_) (fun _ d => absurd (e2 ▸ c2) d) (fun d => absurd c1 d)⟩) (fun c1 c2 => ⟨hv, h_feed hM (fun _ d t ht => absurd (e2.symm ▸ d) c2) (fun _ _ => hK _ P p σ τ h0) (fun d => absurd c1 d)⟩) (fun c1 => ⟨hv, h_feed hM (fun d => absurd d c1) (fun d => absurd d c1) (fun _ => hK _ P p σ τ h0)⟩)
  obtain ⟨n, hn, en⟩ := i_2 (N := 239) (by decide) c3
  rw [e2] at hs ⊢
  refine hK _ _ _ s t ⟨_, _, hs, hA, ht, e1, rfl, e3, fun i hi => ?_, e5, e6⟩
  have hi : (i : Int) < (p.2.1 + 1).toInt := hi
  show upd εx.1 p.2.1.toNatClampNeg x i = upd εm.1 p.2.1.toNatClampNeg x i ∧ ¬ upd εm.1 p.2.1.toNatClampNeg x i = -1
  rw [en, nI_1, nI_toInt (by omega)] at hi
  rw [en, nI_toInt (by omega)] at e4
  rw [en, nI_clamp (by omega)]
  unfold upd
  by_cases c : i = n
  · rw [if_pos c, if_pos c]
    refine ⟨rfl, fun e => ?_⟩
    rw [e] at c1
    exact absurd c1.1 (by decide)
  · rw [if_neg c, if_neg c]
    exact e4 i (by omega)
theorem b_machine (h : BothI gx gm ax am P p σ τ) {x : Int32} {V : Prop} (hv : V) {K : Int32 → Int32 → tw_S → tw_S → Prop} (hK : ∀ r P2 p2 s t, BothI gx gm ax am P2 p2 s t → K r r s t) : wp_X8_machine gx σ ax x (fun r s => V ∧ wp_X9_machine gm τ am x (fun r2 t => K r r2 s t)) := by
  have h0 := h
  obtain ⟨εx, εm, hX, hA, hM, e1, e2, e3, e4, e5, e6⟩ := h
  obtain ⟨n, hn, en⟩ := i_2 (N := 240) (by decide) hM.2.2.2.2.2.2.2.1.1
  have e4n : ∀ i, i < n → εx.1 i = εm.1 i ∧ ¬ εm.1 i = -1 := fun i hi => e4 i (by rw [en, nI_toInt (by omega)]; omega)
  have er : t_res εx.1 n = t_res εm.1 n := t_res_eq fun i hi => (e4n i hi).1
  refine y_machine hX hA e6 hn (e2.trans en) (fun c1 s hs => ⟨hv, h_machine hM hn en (fun i hi => (e4n i hi).2) (fun _ t ht => ?_) (fun d => absurd c1 d)⟩) (fun c1 => ⟨hv, h_machine hM hn en (fun i hi => (e4n i hi).2) (fun d => absurd d c1) (fun _ => hK _ P p σ τ h0)⟩)
  rw [er] at hs ⊢
  refine hK _ _ _ s t ⟨_, _, hs, hA, ht, e1, rfl, e3, fun i hi => ?_, rfl, e6⟩
  have hi : (i : Int) < (0 : Int32).toInt := hi
  rw [e_0] at hi
  omega
theorem b_fault (h : BothI gx gm ax am P p σ τ) {K : Int32 → Int32 → tw_S → tw_S → Prop} (hK : ∀ r P2 p2 s t, BothI gx gm ax am P2 p2 s t → K r r s t) : wp_X8_fault gx σ ax (fun r s => wp_X9_fault gm τ am (fun r2 t => K r r2 s t)) := by
  have h0 := h
  obtain ⟨εx, εm, hX, hA, hM, e1, e2, e3, e4, e5, e6⟩ := h
  refine y_fault hX hA (h_fault hM ?_)
  rw [e5]
  exact hK _ P p σ τ h0
theorem b_letter (h : BothI gx gm ax am P p σ τ) {x : Int32} {V : Prop} (hv : V) {K : Int32 → Int32 → tw_S → tw_S → Prop} (hK : ∀ r P2 p2 s t, BothI gx gm ax am P2 p2 s t → K r r s t) : wp_X8_letter gx σ ax x (fun r s => V ∧ wp_X9_letter gm τ am x (fun r2 t => K r r2 s t)) := by
  have h0 := h
  obtain ⟨εx, εm, hX, hA, hM, e1, e2⟩ := h
  refine y_letter hX hA (fun c1 c2 s hs => ⟨hv, h_letter hM (fun _ _ t ht => ?_) (fun _ d => absurd (e1 ▸ c2) d) (fun d => absurd c1 d)⟩) (fun c1 c2 => ⟨hv, h_letter hM (fun _ d t ht => absurd (e1.symm ▸ d) c2) (fun _ _ => hK _ P p σ τ h0) (fun d => absurd c1 d)⟩) (fun c1 => ⟨hv, h_letter hM (fun d => absurd d c1) (fun d => absurd d c1) (fun _ => hK _ P p σ τ h0)⟩)
  rw [e1]
  refine hK _ _ _ s t ⟨_, _, hs, hA, ht, ?_, e2⟩
  show P.2.1 + 1 = p.1 + 1
  rw [e1]
theorem b_word (h : BothI gx gm ax am P p σ τ) {x : Int32} {V : Prop} (hv : V) {K : Int32 → Int32 → tw_S → tw_S → Prop} (hK : ∀ r P2 p2 s t, BothI gx gm ax am P2 p2 s t → K r r s t) : wp_X8_word gx σ ax x (fun r s => V ∧ wp_X9_word gm τ am x (fun r2 t => K r r2 s t)) := by
  have h0 := h
  obtain ⟨εx, εm, hX, hA, hM, e1, e2⟩ := h
  exact y_word hX hA (fun c1 s hs => ⟨hv, h_word hM (fun _ t ht => hK _ _ _ s t ⟨_, _, hs, hA, ht, rfl, e2⟩) (fun d => absurd c1 d)⟩) (fun c1 => ⟨hv, h_word hM (fun d => absurd d c1) (fun _ => hK _ P p σ τ h0)⟩)
theorem b_wipe (h : BothI gx gm ax am P p σ τ) {K : Int32 → Int32 → tw_S → tw_S → Prop} (hK : ∀ r P2 p2 s t, BothI gx gm ax am P2 p2 s t → K r r s t) : wp_X8_wipe gx σ ax (fun r s => wp_X9_wipe gm τ am (fun r2 t => K r r2 s t)) := by
  obtain ⟨εx, εm, hX, hA, hM, e1, e2⟩ := h
  refine y_wipe hX hA fun s hs => h_wipe hM fun t ht => ?_
  rw [e1]
  exact hK _ _ _ s t ⟨_, _, hs, hA, ht, rfl, e2⟩
theorem kq3 : ∀ k, k < 4 → ∀ x, x < 2 → ¬ (((nI k ||| ((1 : Int32) <<< (nI x &&& 31))) >>> (nI x &&& 31)) &&& (1 : Int32)) = 0 := by decide +kernel
theorem b_keep (h : BothI gx gm ax am P p σ τ) {x : Int32} {V : Prop} (hv : V) {K : Int32 → Int32 → tw_S → tw_S → Prop} (hK : ∀ r P2 p2 s t, BothI gx gm ax am P2 p2 s t → K r r s t) : wp_X8_keep gx σ ax x (fun r s => V ∧ wp_X9_keep gm τ am x (fun r2 t => K r r2 s t)) := by
  have h0 := h
  obtain ⟨εx, εm, hX, hA, hM, e1, e2, e3, e4⟩ := h
  refine y_keep hX hA (fun c1 s hs => ⟨hv, h_keep hM (fun _ t ht => ?_) (fun d => absurd c1 d)⟩) (fun c1 => ⟨hv, h_keep hM (fun d => absurd d c1) (fun _ => hK _ P p σ τ h0)⟩)
  refine hK _ _ _ s t ⟨_, _, hs, hA, ht, e1, e2, fun j hj => ?_, e4⟩
  obtain ⟨m, hm, rfl⟩ := i_2 (N := 1) (by decide) c1
  obtain ⟨k, hk, ek⟩ := i_2 (x := p.2.2) (N := 3) (by decide) hM.2.2.2.2.2.2.2.1.2
  have q := kq k (by omega) m (by omega)
  have q3 := kq3 k (by omega) m (by omega)
  rw [← ek] at q q3
  show upd P.2.2.2.2.2 (nI m).toNatClampNeg 1 j = 0 ↔ (((p.2.2 ||| ((1 : Int32) <<< (nI m &&& 31))) >>> (nI j &&& 31)) &&& (1 : Int32)) = 0
  rw [nI_clamp (by omega)]
  by_cases c : j = m
  · subst c
    have e : upd P.2.2.2.2.2 j 1 j = 1 := if_pos rfl
    rw [e]
    exact ⟨fun z => absurd z (by decide), fun z => absurd z q3⟩
  · have e : upd P.2.2.2.2.2 m 1 j = P.2.2.2.2.2 j := if_neg c
    rw [e, q.2 j hj c]
    exact e3 j hj
theorem b_goBack (h : BothI gx gm ax am P p σ τ) {x : Int32} {V : Prop} (hv : V) {K : Int32 → Int32 → tw_S → tw_S → Prop} (hK : ∀ r P2 p2 s t, BothI gx gm ax am P2 p2 s t → K r r s t) : wp_X8_goBack gx σ ax x (fun r s => V ∧ wp_X9_goBack gm τ am x (fun r2 t => K r r2 s t)) := by
  have h0 := h
  obtain ⟨εx, εm, hX, hA, hM, e1, e2, e3, e4⟩ := h
  have E : inI x 0 1 → (P.2.2.2.2.2 x.toNatClampNeg = 0 ↔ ((p.2.2 >>> (x &&& 31)) &&& (1 : Int32)) = 0) := fun c => by
    obtain ⟨m, hm, rfl⟩ := i_2 (N := 1) (by decide) c
    rw [nI_clamp (by omega)]
    exact e3 m (by omega)
  exact y_goBack hX hA (fun c1 c2 s hs => ⟨hv, h_goBack hM (fun _ _ t ht => hK _ _ _ s t ⟨_, _, hs, hA, ht, e1, e2, e3, e4⟩) (fun _ d => absurd ((E c1).mpr d) c2) (fun d => absurd c1 d)⟩) (fun c1 c2 => ⟨hv, h_goBack hM (fun _ d t ht => absurd ((E c1).mp c2) d) (fun _ _ => hK _ P p σ τ h0) (fun d => absurd c1 d)⟩) (fun c1 => ⟨hv, h_goBack hM (fun d => absurd d c1) (fun d => absurd d c1) (fun _ => hK _ P p σ τ h0)⟩)
end T4
