/-! each call of the law: class, then model -/
abbrev lP (P : PS) (x : Nat) (T : St) : Prop := lI P (kI P) x T
theorem lP.z {P : PS} {x : Nat} {T : St} (h : lP P x T) {z : Nat} (hz : kZ P ≤ z) : lP (zS P z) x T := by
  obtain ⟨⟨⟨p1, p2, e0, p3, p4, p5, p6⟩, hL, hR⟩, hI, hm, hw, hG⟩ := h
  exact ⟨⟨⟨fun a ha => p1 a (Nat.le_trans hz ha), fun a j b ha hq => Nat.lt_of_lt_of_le (p2 a j b ha hq) hz, e0, p3, p4, p5, p6⟩, hL, hR⟩, hI, hm, hw, hG⟩
def tieW (x : Nat) (T : St) (r : (PS × Int32) ⊕ (PS × Nat)) (f : PS → Option (PS × Int32)) (co : Nat → Int32) : Prop := match r with
  | .inl u => ∃ P2 T', f u.1 = some (P2, u.2) ∧ kI P2 (x + 79) 0 = 0 ∧ lP P2 x T'
  | .inr u => co u.2 ≠ 0 ∧ ∀ z, kZ u.1 ≤ z → ∃ P2 w, f (zS u.1 z) = some (P2, w) ∧ kI P2 (x + 79) 0 = co u.2 ∧ lP P2 x T
theorem tie_w {P : PS} {x : Nat} {T : St} (h : lP P x T) {co co' : Nat → Int32} {df : Int32} {o : Option ((PS × Int32) ⊕ (PS × Nat))} {f : PS → Option (PS × Int32)} {e : An} (hc : cX P (kI P) x T o e) (hwf : ∀ r, e = .inl r → wf r.1) (hco : ∀ k, e = .inr k → co k = co' k ∧ co k ≠ 0) (hmx : ∀ S1 J1 G, mS S1 (x + 79) → mT G T → mZ S1 J1 (x + 79) T co' df (f (sI S1 (mw J1 (x + 79) G))) e) : ∃ r, o = some r ∧ tieW x T r f co ∧ (∀ u, r = .inr u → e = .inr u.2) ∧ ∀ u, r = .inl u → ∃ T', e = .inl (T', u.2) := by
  have hw := h.2.2.2.1
  obtain ⟨hg, hI, hm, hw, hG⟩ := h
  have step : ∀ S1 J1, fx P (kI P) S1 J1 x → mS S1 (x + 79) ∧ mT (fun k j => J1 (x + 79 + k) j) T := fun S1 J1 hfx => by
    obtain ⟨m1, m2⟩ := hm.fx hg hfx
    exact ⟨m1, hG.q ⟨fun k h1 h2 j => m2 k (by omega) j, m2 0 (by omega) 3, m2 0 (by omega) 5, m2 0 (by omega) 6, m2 0 (by omega) 20⟩⟩
  have thr : ∀ (J1 : Nat → Nat → Int32) G', mw J1 (x + 79) G' (x + 79) 0 = G' 0 0 := fun J1 G' => by
    have := mw_at J1 (x + 79) G' (show 0 ≤ 37 by omega) 0
    rwa [Nat.add_zero] at this
  cases e with
  | inl v =>
    obtain ⟨S1, J1, e1, g1, c1, hfx⟩ := hc
    obtain ⟨m1, m2⟩ := step S1 J1 hfx
    obtain ⟨G', e2, e3, e4⟩ := hmx S1 J1 _ m1 m2
    rw [mw_self] at e2
    exact ⟨_, e1, ⟨sI S1 (mw J1 (x + 79) G'), v.1, e2, (thr J1 G').trans e3, g1, c1.om m1 (om_mw _ _ _), m1, hwf v rfl, e4.own⟩, fun u hu => by (cases hu), fun u hu => by cases hu; exact ⟨v.1, rfl⟩⟩
  | inr k =>
    obtain ⟨S1, J1, e1, g1, c1, hfx⟩ := hc
    obtain ⟨m1, m2⟩ := step S1 J1 hfx
    refine ⟨_, e1, ⟨(hco k rfl).2, fun z hz => ?_⟩, fun u hu => by cases hu; rfl, fun u hu => by cases hu⟩
    obtain ⟨G', e2, e3, e4⟩ := hmx (zS S1 z) J1 _ m1 m2
    rw [mw_self] at e2
    refine ⟨sI (zS S1 z) (mw J1 (x + 79) G'), df, e2, ((thr J1 G').trans e3).trans (hco k rfl).1.symm, ?_⟩
    have h0 : lP (sI S1 (mw J1 (x + 79) G')) x T := ⟨g1, c1.om m1 (om_mw _ _ _), m1, hw, e4.own⟩
    exact h0.z (z := z) hz
theorem tie0 {P : PS} {x : Nat} {T T' : St} (h : lP P x T) {J : Nat → Nat → Int32} (hu : ou (kI P) J x) (hc : cI P J x T') (hw' : wf T') {α : Type} {f : PS → Option (PS × α)} {v : α} (hmx : ∀ G, mT G T → ∃ G', f (sI P (mw J (x + 79) G)) = some (sI P (mw J (x + 79) G'), v) ∧ mT G' T') : ∃ P2, f (sI P J) = some (P2, v) ∧ lP P2 x T' := by
  obtain ⟨hg, hI, hm, hw, hG⟩ := h
  obtain ⟨m1, m2⟩ := hm.fx hg hu.fx
  obtain ⟨G', e1, e2⟩ := hmx (fun k j => J (x + 79 + k) j) (hG.q ⟨fun k h1 h2 j => m2 k (by omega) j, m2 0 (by omega) 3, m2 0 (by omega) 5, m2 0 (by omega) 6, m2 0 (by omega) 20⟩)
  rw [mw_self] at e1
  exact ⟨_, e1, hg, hc.om hm (om_mw _ _ _), hm, hw', e2.own⟩
