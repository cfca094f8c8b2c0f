/-! class and model side by side: the model's writes keep the class -/
def om (I I' : Nat → Nat → Int32) (m : Nat) : Prop := ∀ a j, a < m ∨ m + 38 ≤ a → I' a j = I a j
theorem xK_ge {k : Nat} (h : k ≤ 37) : 14 ≤ xK k := by
  have e : ∀ k, k ≤ 37 → 14 ≤ xK k := by decide
  exact e k h
theorem far {S : PS} {m h : Nat} (hm : mS S m) (hh : m ≤ h) (hk : kK S h < 14) : m + 38 ≤ h := by
  apply Classical.byContradiction
  intro z
  have e := hm.1 (h - m) (by omega)
  rw [show m + (h - m) = h by omega] at e
  have := xK_ge (show h - m ≤ 37 by omega)
  omega
section
variable {S : PS} {I I' : Nat → Nat → Int32} {x : Nat}
theorem dW.om {h : Nat} {l : List Int32} (hm : mS S (x + 79)) (ho : om I I' (x + 79)) : dW S I x h l → dW S I' x h l := fun ⟨c, h1, h2, h3, h4⟩ => by
  have hf := far hm h4 (by rw [h1.1]; decide)
  exact ⟨c, h1, ⟨(ho _ _ (Or.inr hf)).trans h2.1, fun j hj => (ho _ _ (Or.inr (by omega))).trans (h2.2 j hj)⟩, h3, h4⟩
theorem dI.om {a : Nat} {v : Iv} (hm : mS S (x + 79)) (ho : om I I' (x + 79)) : dI S I x a v → dI S I' x a v := fun ⟨h1, h2, h3, h4, h, h5, h6⟩ => by
  have hf := far hm h2 (by rw [h1]; decide)
  exact ⟨h1, h2, (ho _ _ (Or.inr hf)).trans h3, (ho _ _ (Or.inr hf)).trans h4, h, h5, h6.om hm ho⟩
theorem dD.om {h n : Nat} {as : Nat → Nat} (hm : mS S (x + 79)) (ho : om I I' (x + 79)) : dD S I x h n as → dD S I' x h n as := fun ⟨h1, h2, h3⟩ => ⟨h1, (ho _ _ (Or.inr (far hm h3 (by rw [h1.1]; decide)))).trans h2, h3⟩
theorem dWs.om {h : Nat} {l : List (List Int32)} (hm : mS S (x + 79)) (ho : om I I' (x + 79)) : dWs S I x h l → dWs S I' x h l := fun ⟨as, h1, h2⟩ => ⟨as, h1.om hm ho, fun j v hv => (h2 j v hv).om hm ho⟩
theorem dIs.om {h : Nat} {l : List Iv} (hm : mS S (x + 79)) (ho : om I I' (x + 79)) : dIs S I x h l → dIs S I' x h l := fun ⟨as, h1, h2⟩ => ⟨as, h1.om hm ho, fun j v hv => (h2 j v hv).om hm ho⟩
theorem dR.om {a : Nat} {v : Rv} (hm : mS S (x + 79)) (ho : om I I' (x + 79)) : dR S I x a v → dR S I' x a v := fun ⟨h1, h2, h3, h4, h5, ⟨a1, h6, h7⟩, ⟨a2, h8, h9⟩, ⟨a3, h10, h11⟩⟩ => by
  have hf := far hm h2 (by rw [h1]; decide)
  exact ⟨h1, h2, (ho _ _ (Or.inr hf)).trans h3, (ho _ _ (Or.inr hf)).trans h4, (ho _ _ (Or.inr hf)).trans h5, ⟨a1, h6, h7.om hm ho⟩, ⟨a2, h8, h9.om hm ho⟩, ⟨a3, h10, h11.om hm ho⟩⟩
theorem dP.om {a : Nat} {v : List Int32 × List Int32} (hm : mS S (x + 79)) (ho : om I I' (x + 79)) : dP S I x a v → dP S I' x a v := fun ⟨h1, h2, ⟨a1, h6, h7⟩, ⟨a2, h8, h9⟩⟩ => ⟨h1, h2, ⟨a1, h6, h7.om hm ho⟩, ⟨a2, h8, h9.om hm ho⟩⟩
theorem dB.om {ru : List Rv} {pa : List (List Int32 × List Int32)} (hm : mS S (x + 79)) (ho : om I I' (x + 79)) : dB S I x ru pa → dB S I' x ru pa := fun ⟨⟨as, h1, h2⟩, ⟨bs, h3, h4⟩⟩ => ⟨⟨as, h1, fun j v hv => (h2 j v hv).om hm ho⟩, ⟨bs, h3, fun j v hv => (h4 j v hv).om hm ho⟩⟩
theorem cM.om {R : Nat → List Int32} {F : Nat → Nat → Int32} (ho : om I I' (x + 79)) (hM : cM I x R F) : cM I' x R F := by
  refine ⟨fun k hk => ⟨⟨?_, fun j hj => ?_⟩, (hM.1 k hk).2⟩, fun k j hk => ?_⟩
  · have := capT_lt hk
    rw [ho _ _ (by omega)]; exact (hM.1 k hk).1.1
  · have := capT_lt hk
    rw [ho _ _ (by omega)]; exact (hM.1 k hk).1.2 j hj
  · have := objT_lt hk
    rw [ho _ _ (by omega)]; exact hM.2 k j hk
theorem cI.om {T : St} (hm : mS S (x + 79)) (ho : om I I' (x + 79)) (hI : cI S I x T) : cI S I' x T := by
  obtain ⟨hS, hB, R, F, hM, hT, hC⟩ := hI
  exact ⟨hS, hB.om hm ho, R, F, hM.om ho, hT, hC⟩
/-- what a call of the class does not touch of the model -/
theorem mS.fx {S' : PS} {J : Nat → Nat → Int32} (hg : gI S) (hm : mS S (x + 79)) (h : fx S I S' J x) : mS S' (x + 79) ∧ ∀ k, k ≤ 37 → ∀ j, J (x + 79 + k) j = I (x + 79 + k) j := by
  have hk : ∀ k, k ≤ 37 → kK S' (x + 79 + k) = kK S (x + 79 + k) ∧ kN S' (x + 79 + k) = kN S (x + 79 + k) ∧ (∀ j, kQ S' (x + 79 + k) j = kQ S (x + 79 + k) j) ∧ ∀ j, J (x + 79 + k) j = I (x + 79 + k) j := fun k hk => by
    have e := hm.1 k hk
    have h14 : ∀ k, k ≤ 37 → xK k ≠ 3 ∧ xK k ≠ 104 ∧ xK k ≠ 0 := by decide
    obtain ⟨a1, a2, a3⟩ := h14 k hk
    exact h.2 _ (by omega) (hg.1.lt (by rw [e]; exact a3)) (by rw [e]; exact a1) (by rw [e]; exact a2)
  refine ⟨⟨fun k h1 => (hk k h1).1.trans (hm.1 k h1), fun k h1 h2 => (hk k h2).2.1.trans (hm.2.1 k h1 h2), fun j hj => ?_⟩, fun k h1 => (hk k h1).2.2.2⟩
  have := (hk 0 (Nat.zero_le _)).2.2.1 j
  rw [Nat.add_zero] at this
  exact this.trans (hm.2.2 j hj)
end
/-- THE INVARIANT of the law: one state, told twice -/
def lI (S : PS) (I : Nat → Nat → Int32) (x : Nat) (T : St) : Prop := gI S ∧ cI S I x T ∧ mS S (x + 79) ∧ wf T ∧ mT (fun k j => I (x + 79 + k) j) T
theorem om_mw (I : Nat → Nat → Int32) (m : Nat) (G : Nat → Nat → Int32) : om I (mw I m G) m := fun a j h => by
  unfold mw
  rw [if_neg (by omega)]
theorem mT.own {I : Nat → Nat → Int32} {m : Nat} {G : Nat → Nat → Int32} {T : St} (h : mT G T) : mT (fun k j => mw I m G (m + k) j) T := by
  have e : ∀ k, k ≤ 37 → ∀ j, mw I m G (m + k) j = G k j := fun k hk j => mw_at I m G hk j
  exact h.q ⟨fun k h1 h2 j => e k (by omega) j, e 0 (by omega) 3, e 0 (by omega) 5, e 0 (by omega) 6, e 0 (by omega) 20⟩
section
variable {S : PS} {I : Nat → Nat → Int32} {x : Nat} {T : St}
theorem lI.sols (h : lI S I x T) : ∀ d, d < 4 → ∃ TN, iS T d TN := fun d hd => by
  obtain ⟨J, R, F, TN, g, u, h9⟩ := ci_findFor h.2.1 h.2.2.2.1 hd
  exact ⟨TN, h9.2.2.2.2.2.1⟩
/-- a call of both: what the class answers, the model answers -/
def tieP (S : PS) (I : Nat → Nat → Int32) (x : Nat) (T : St) (co : Nat → Int32) (df : Int32) (o : Option ((PS × Int32) ⊕ (PS × Nat))) (f : PS → Option (PS × Int32)) (e : An) : Prop := match e with
  | .inl v => ∃ S1 J1 J2, o = some (.inl (sI S1 J1, v.2)) ∧ f (sI S1 J1) = some (sI S1 J2, v.2) ∧ J2 (x + 79) 0 = 0 ∧ lI S1 J2 x v.1
  | .inr k => ∃ S1 J1 J2, o = some (.inr (sI S1 J1, k)) ∧ f (sI S1 J1) = some (sI S1 J2, df) ∧ J2 (x + 79) 0 = co k ∧ lI S1 J2 x T
theorem tie {co : Nat → Int32} {df : Int32} {o : Option ((PS × Int32) ⊕ (PS × Nat))} {f : PS → Option (PS × Int32)} {e : An} (h : lI S I x T) (hc : cX S I x T o e) (hwf : ∀ r, e = .inl r → wf r.1) (hmx : ∀ S1 J1 G, mS S1 (x + 79) → mT G T → mZ S1 J1 (x + 79) T co df (f (sI S1 (mw J1 (x + 79) G))) e) : tieP S I x T co df o f e := by
  obtain ⟨hg, hI, hm, hw, hG⟩ := h
  have step : ∀ S1 J1, fx S I S1 J1 x → gI S1 → mS S1 (x + 79) ∧ mT (fun k j => J1 (x + 79 + k) j) T := fun S1 J1 hfx hg1 => by
    obtain ⟨m1, m2⟩ := hm.fx hg hfx
    exact ⟨m1, hG.q ⟨fun k h1 h2 j => m2 k (by omega) j, m2 0 (by omega) 3, m2 0 (by omega) 5, m2 0 (by omega) 6, m2 0 (by omega) 20⟩⟩
  cases e with
  | inl v =>
    obtain ⟨S1, J1, e1, g1, c1, hfx⟩ := hc
    obtain ⟨m1, m2⟩ := step S1 J1 hfx g1
    obtain ⟨G', e2, e3, e4⟩ := hmx S1 J1 _ m1 m2
    rw [mw_self] at e2
    refine ⟨S1, J1, mw J1 (x + 79) G', e1, e2, ?_, g1, c1.om m1 (om_mw _ _ _), m1, hwf v rfl, e4.own⟩
    have := mw_at J1 (x + 79) G' (show 0 ≤ 37 by omega) 0
    rw [Nat.add_zero] at this
    rw [this, e3]
  | inr k =>
    obtain ⟨S1, J1, e1, g1, c1, hfx⟩ := hc
    obtain ⟨m1, m2⟩ := step S1 J1 hfx g1
    obtain ⟨G', e2, e3, e4⟩ := hmx S1 J1 _ m1 m2
    rw [mw_self] at e2
    refine ⟨S1, J1, mw J1 (x + 79) G', e1, e2, ?_, g1, c1.om m1 (om_mw _ _ _), m1, hw, e4.own⟩
    have := mw_at J1 (x + 79) G' (show 0 ≤ 37 by omega) 0
    rw [Nat.add_zero] at this
    rw [this, e3]
end
