/-! ===== class and model side by side ===== -/
section HD
variable {gx gm : tw_G} {ax am : Nat} {P : g_P} {p : h_P} {σ τ : tw_S}
/-- both invariants, the same number of letters of the word and of the text, the same images kept -/
def BothI (gx gm : tw_G) (ax am : Nat) (P : g_P) (p : h_P) (σ τ : tw_S) : Prop := XI gx P σ ∧ g_A gx P ax ∧ MI gm am p τ ∧ P.2.1 = p.1 ∧ P.2.2.2.1 = p.2.1 ∧ ∀ j, j < 2 → (P.2.2.2.2.2 j = 0 ↔ ((p.2.2 >>> (nI j &&& 31)) &&& (1 : Int32)) = 0)
theorem b_feed (h : BothI gx gm ax am P p σ τ) {x : Int32} {V : Prop} (hv : V) {K : Int32 → Int32 → tw_S → tw_S → Prop} (hK : ∀ r P2 p2 s t, BothI gx gm ax am P2 p2 s t → K r r s t) : wp_X8_feed gx σ ax x (fun r s => V ∧ wp_X9_feed gm τ am x (fun r2 t => K r r2 s t)) := by
  have h0 := h
  obtain ⟨hX, hA, hM, e1, e2, e3⟩ := h
  refine y_feed hX hA (fun c1 c2 s hs => ⟨hv, h_feed hM (fun _ _ t ht => ?_) (fun _ d => absurd (e2 ▸ c2) d) (fun d => absurd c1 d)⟩) (fun c1 c2 => ⟨hv, h_feed hM (fun _ d t ht => absurd (e2.symm ▸ d) c2) (fun _ _ => hK _ P p σ τ h0) (fun d => absurd c1 d)⟩) (fun c1 => ⟨hv, h_feed hM (fun d => absurd d c1) (fun d => absurd d c1) (fun _ => hK _ P p σ τ h0)⟩)
  rw [e2]
  refine hK _ _ _ s t ⟨hs, hA, ht, e1, ?_, e3⟩
  show P.2.2.2.1 + 1 = p.2.1 + 1
  rw [e2]
theorem b_machine (h : BothI gx gm ax am P p σ τ) {x : Int32} {V : Prop} (hv : V) {K : Int32 → Int32 → tw_S → tw_S → Prop} (hK : ∀ r r2 P2 p2 s t, BothI gx gm ax am P2 p2 s t → K r r2 s t) : wp_X8_machine gx σ ax x (fun r s => V ∧ wp_X9_machine gm τ am x (fun r2 t => K r r2 s t)) := by
  have h0 := h
  obtain ⟨hX, hA, hM, e1, e2, e3⟩ := h
  exact y_machine hX hA (fun c1 r s hs => ⟨hv, h_machine hM (fun _ r2 t ht => hK _ _ _ _ s t ⟨hs, hA, ht, e1, rfl, e3⟩) (fun d => absurd c1 d)⟩) (fun c1 => ⟨hv, h_machine hM (fun d => absurd d c1) (fun _ => hK _ _ P p σ τ h0)⟩)
theorem b_letter (h : BothI gx gm ax am P p σ τ) {x : Int32} {V : Prop} (hv : V) {K : Int32 → Int32 → tw_S → tw_S → Prop} (hK : ∀ r P2 p2 s t, BothI gx gm ax am P2 p2 s t → K r r s t) : wp_X8_letter gx σ ax x (fun r s => V ∧ wp_X9_letter gm τ am x (fun r2 t => K r r2 s t)) := by
  have h0 := h
  obtain ⟨hX, hA, hM, e1, e2, e3⟩ := h
  refine y_letter hX hA (fun c1 c2 s hs => ⟨hv, h_letter hM (fun _ _ t ht => ?_) (fun _ d => absurd (e1 ▸ c2) d) (fun d => absurd c1 d)⟩) (fun c1 c2 => ⟨hv, h_letter hM (fun _ d t ht => absurd (e1.symm ▸ d) c2) (fun _ _ => hK _ P p σ τ h0) (fun d => absurd c1 d)⟩) (fun c1 => ⟨hv, h_letter hM (fun d => absurd d c1) (fun d => absurd d c1) (fun _ => hK _ P p σ τ h0)⟩)
  rw [e1]
  refine hK _ _ _ s t ⟨hs, hA, ht, ?_, e2, e3⟩
  show P.2.1 + 1 = p.1 + 1
  rw [e1]
theorem b_word (h : BothI gx gm ax am P p σ τ) {x : Int32} {V : Prop} (hv : V) {K : Int32 → Int32 → tw_S → tw_S → Prop} (hK : ∀ r P2 p2 s t, BothI gx gm ax am P2 p2 s t → K r r s t) : wp_X8_word gx σ ax x (fun r s => V ∧ wp_X9_word gm τ am x (fun r2 t => K r r2 s t)) := by
  have h0 := h
  obtain ⟨hX, hA, hM, e1, e2, e3⟩ := h
  exact y_word hX hA (fun c1 s hs => ⟨hv, h_word hM (fun _ t ht => hK _ _ _ s t ⟨hs, hA, ht, rfl, e2, e3⟩) (fun d => absurd c1 d)⟩) (fun c1 => ⟨hv, h_word hM (fun d => absurd d c1) (fun _ => hK _ P p σ τ h0)⟩)
theorem b_wipe (h : BothI gx gm ax am P p σ τ) {K : Int32 → Int32 → tw_S → tw_S → Prop} (hK : ∀ r P2 p2 s t, BothI gx gm ax am P2 p2 s t → K r r s t) : wp_X8_wipe gx σ ax (fun r s => wp_X9_wipe gm τ am (fun r2 t => K r r2 s t)) := by
  obtain ⟨hX, hA, hM, e1, e2, e3⟩ := h
  refine y_wipe hX hA fun s hs => h_wipe hM fun t ht => ?_
  rw [e1]
  exact hK _ _ _ s t ⟨hs, hA, ht, rfl, e2, e3⟩
theorem kq3 : ∀ k, k < 4 → ∀ x, x < 2 → ¬ (((nI k ||| ((1 : Int32) <<< (nI x &&& 31))) >>> (nI x &&& 31)) &&& (1 : Int32)) = 0 := by decide +kernel
theorem b_keep (h : BothI gx gm ax am P p σ τ) {x : Int32} {V : Prop} (hv : V) {K : Int32 → Int32 → tw_S → tw_S → Prop} (hK : ∀ r P2 p2 s t, BothI gx gm ax am P2 p2 s t → K r r s t) : wp_X8_keep gx σ ax x (fun r s => V ∧ wp_X9_keep gm τ am x (fun r2 t => K r r2 s t)) := by
  have h0 := h
  obtain ⟨hX, hA, hM, e1, e2, e3⟩ := h
  refine y_keep hX hA (fun c1 s hs => ⟨hv, h_keep hM (fun _ t ht => ?_) (fun d => absurd c1 d)⟩) (fun c1 => ⟨hv, h_keep hM (fun d => absurd d c1) (fun _ => hK _ P p σ τ h0)⟩)
  refine hK _ _ _ s t ⟨hs, hA, ht, e1, e2, fun j hj => ?_⟩
  obtain ⟨m, hm, rfl⟩ := i_2 (N := 1) (by decide) c1
  obtain ⟨k, hk, ek⟩ := i_2 (x := p.2.2) (N := 3) (by decide) hM.2.2.2.2.2.2.2.1.2
  have q := kq k (by omega) m (by omega)
  have q3 := kq3 k (by omega) m (by omega)
  rw [← ek] at q q3
  show upd P.2.2.2.2.2 (nI m).toNatClampNeg 1 j = 0 ↔ (((p.2.2 ||| ((1 : Int32) <<< (nI m &&& 31))) >>> (nI j &&& 31)) &&& (1 : Int32)) = 0
  rw [nI_clamp (by omega)]
  by_cases c : j = m
  · subst c
    have e : upd P.2.2.2.2.2 j 1 j = 1 := if_pos rfl
    rw [e]
    exact ⟨fun z => absurd z (by decide), fun z => absurd z q3⟩
  · have e : upd P.2.2.2.2.2 m 1 j = P.2.2.2.2.2 j := if_neg c
    rw [e, q.2 j hj c]
    exact e3 j hj
theorem b_goBack (h : BothI gx gm ax am P p σ τ) {x : Int32} {V : Prop} (hv : V) {K : Int32 → Int32 → tw_S → tw_S → Prop} (hK : ∀ r P2 p2 s t, BothI gx gm ax am P2 p2 s t → K r r s t) : wp_X8_goBack gx σ ax x (fun r s => V ∧ wp_X9_goBack gm τ am x (fun r2 t => K r r2 s t)) := by
  have h0 := h
  obtain ⟨hX, hA, hM, e1, e2, e3⟩ := h
  have E : inI x 0 1 → (P.2.2.2.2.2 x.toNatClampNeg = 0 ↔ ((p.2.2 >>> (x &&& 31)) &&& (1 : Int32)) = 0) := fun c => by
    obtain ⟨m, hm, rfl⟩ := i_2 (N := 1) (by decide) c
    rw [nI_clamp (by omega)]
    exact e3 m (by omega)
  exact y_goBack hX hA (fun c1 c2 s hs => ⟨hv, h_goBack hM (fun _ _ t ht => hK _ _ _ s t ⟨hs, hA, ht, e1, e2, e3⟩) (fun _ d => absurd ((E c1).mpr d) c2) (fun d => absurd c1 d)⟩) (fun c1 c2 => ⟨hv, h_goBack hM (fun _ d t ht => absurd ((E c1).mp c2) d) (fun _ _ => hK _ P p σ τ h0) (fun d => absurd c1 d)⟩) (fun c1 => ⟨hv, h_goBack hM (fun d => absurd d c1) (fun d => absurd d c1) (fun _ => hK _ P p σ τ h0)⟩)
end HD
