/-! the findings of a desk are one set -/
def kO (m rk : Nat → Nat) (j r : Nat) : Nat := (((9 - rk r) * 161 + j) * 4 + (3 - m r)) * 21 + r
theorem ah_kO {m rk : Nat → Nat} {j r j' r' : Nat} (h : ah m rk j r j' r') (hr : r ≤ 20) (hr' : r' ≤ 20) (hj : j ≤ 160) (hj' : j' ≤ 160) (hm : m r ≤ 3) (hm' : m r' ≤ 3) (hk : rk r ≤ 9) (hk' : rk r' ≤ 9) : kO m rk j r < kO m rk j' r' := by
  unfold kO
  rcases h with h | ⟨h1, h | ⟨h2, h | ⟨h3, h4⟩⟩⟩
  · omega
  · rw [h1]; omega
  · rw [h1, h2]; omega
  · rw [h1, h2, h3]; omega
theorem sol_iff {m rk : Nat → Nat} {cand A : Nat → Nat → Prop} (h : sol m rk cand A) (j r : Nat) : A j r ↔ cand j r ∧ ¬ ∃ j' r', A j' r' ∧ ah m rk j' r' j r ∧ ov m j' r' j r := by
  constructor
  · intro ha
    refine ⟨h.1 j r ha, ?_⟩
    rintro ⟨j', r', ha', g1, g2⟩
    obtain ⟨rfl, rfl⟩ := h.2.1 j' r' j r ha' ha g2
    rcases g1 with g | ⟨-, g | ⟨-, g | ⟨-, g⟩⟩⟩ <;> omega
  · rintro ⟨hc, hn⟩
    rcases h.2.2 j r hc with ha | hx
    · exact ha
    · exact absurd hx hn
theorem sol_uniq {m rk : Nat → Nat} {cand A A' : Nat → Nat → Prop} (h : sol m rk cand A) (h' : sol m rk cand A') (hb : ∀ j r, cand j r → r ≤ 20 ∧ j ≤ 160) (hm : ∀ r, m r ≤ 3) (hk : ∀ r, rk r ≤ 9) : ∀ (N j r : Nat), kO m rk j r < N → (A j r ↔ A' j r)
  | 0, _, _, hN => absurd hN (Nat.not_lt_zero _)
  | N + 1, j, r, hN => by
    rw [sol_iff h, sol_iff h']
    by_cases hc : cand j r
    · have : (∃ j' r', A j' r' ∧ ah m rk j' r' j r ∧ ov m j' r' j r) ↔ (∃ j' r', A' j' r' ∧ ah m rk j' r' j r ∧ ov m j' r' j r) := by
        constructor
        · rintro ⟨j', r', ha, g1, g2⟩
          have hc' := hb j' r' (h.1 j' r' ha)
          have := ah_kO g1 hc'.1 (hb j r hc).1 hc'.2 (hb j r hc).2 (hm _) (hm _) (hk _) (hk _)
          exact ⟨j', r', (sol_uniq h h' hb hm hk N j' r' (by omega)).mp ha, g1, g2⟩
        · rintro ⟨j', r', ha, g1, g2⟩
          have hc' := hb j' r' (h'.1 j' r' ha)
          have := ah_kO g1 hc'.1 (hb j r hc).1 hc'.2 (hb j r hc).2 (hm _) (hm _) (hk _) (hk _)
          exact ⟨j', r', (sol_uniq h h' hb hm hk N j' r' (by omega)).mpr ha, g1, g2⟩
      rw [this]
    · simp [hc]
theorem iS_uniq {T : St} {d : Nat} (hw : wf T) (hd : d < 4) {TN TN' : List Nat} (h : iS T d TN) (h' : iS T d TN') : TN = TN' := by
  have hwR := hw.2.2.2.2.2.2.1
  have hwD := (hw.2.2.2.2.2.2.2.2.2.2 d hd).1
  have hn := (tsO_wT hw.2.1).1
  have key : ∀ j r, aT TN j r ↔ aT TN' j r := fun j r => sol_uniq h.2.2 h'.2.2 (fun j r hc => ⟨hc.1, by have := hc.2.1; omega⟩) (fun r => (hwR.m r).2) (fun r => (rk_range hwR hwD r).2) _ j r (Nat.lt_succ_self _)
  apply List.ext_getElem?
  intro j
  by_cases hj : j < (tsO T.2.1).length
  · have e1 : TN[j]? = some (la9 TN j) := by unfold la9; rw [List.getElem?_eq_getElem (by rw [h.1]; exact hj)]; rfl
    have e2 : TN'[j]? = some (la9 TN' j) := by unfold la9; rw [List.getElem?_eq_getElem (by rw [h'.1]; exact hj)]; rfl
    rw [e1, e2]
    unfold aT at key
    cases h1 : la9 TN j with
    | succ r => rw [← e2, (key j r).mp (by rw [e1, h1])]
    | zero =>
      cases h2 : la9 TN' j with
      | zero => rfl
      | succ r =>
        have := (key j r).mpr (by rw [e2, h2])
        rw [e1, h1] at this
        cases this
  · rw [List.getElem?_eq_none (by rw [h.1]; omega), List.getElem?_eq_none (by rw [h'.1]; omega)]
noncomputable def sl (T : St) (d : Nat) : List Nat := Classical.epsilon (fun TN => iS T d TN)
theorem sl_eq {T : St} {d : Nat} (hw : wf T) (hd : d < 4) {TN : List Nat} (h : iS T d TN) : sl T d = TN := iS_uniq hw hd (Classical.epsilon_spec (p := fun TN => iS T d TN) ⟨TN, h⟩) h
/-- the findings, as tokens and rules -/
noncomputable def fL (T : St) (d : Nat) : List (Nat × Nat) := tlk (sl T d) (sl T d).length
/-! what a call answers: the new state and a number, or what is thrown -/
abbrev An : Type := (St × Int32) ⊕ Nat
def cV (S : PS) (I : Nat → Nat → Int32) (x : Nat) (T : St) (o : Option ((PS × Int32) ⊕ (PS × Nat))) (e : An) : Prop := match e with
  | .inl v => ∃ J, o = some (.inl (sI S J, v.2)) ∧ ou I J x ∧ cI S J x v.1
  | .inr k => ∃ J, o = some (.inr (sI S J, k)) ∧ ou I J x ∧ cI S J x T
theorem pk_ix4 (p : Int32) : (p < 0 ∨ nI 4 ≤ p) ∨ ∃ d, d < 4 ∧ p = nI d := by
  rcases pk_ix p (n := 4) (by decide) with h | h | h
  · exact Or.inl (Or.inl h)
  · exact Or.inl (Or.inr h)
  · exact Or.inr h
/-- an index below n -/
def ix (p : Int32) (n : Nat) : Option Nat := if 0 ≤ p ∧ p < nI n then some p.toNatClampNeg else none
theorem ix_some {p : Int32} {n j : Nat} (hn : n < 2 ^ 31) (h : ix p n = some j) : j < n ∧ p = nI j := by
  unfold ix at h
  split at h
  · rename_i h2
    cases h
    obtain ⟨q, hq, rfl⟩ := nI_of (x := p) (Int32.not_lt.mpr h2.1)
    rw [nI_clamp hq]
    exact ⟨(nI_ltI hq hn).mp h2.2, rfl⟩
  · cases h
theorem ix_none {p : Int32} {n : Nat} (h : ix p n = none) : p < 0 ∨ nI n ≤ p := by
  unfold ix at h
  split at h
  · cases h
  · rename_i h2
    by_cases h3 : p < 0
    · exact Or.inl h3
    · exact Or.inr (Int32.not_lt.mp (fun z => h2 ⟨Int32.not_lt.mp h3, z⟩))
theorem ix_nI {n j : Nat} (hn : n < 2 ^ 31) (h : j < n) : ix (nI j) n = some j := by
  unfold ix
  rw [if_pos ⟨nI_pos' (by omega), (nI_ltI (by omega) hn).mpr h⟩, nI_clamp (by omega)]
theorem ix_out {p : Int32} {n : Nat} (h : p < 0 ∨ nI n ≤ p) : ix p n = none := by
  unfold ix
  rw [if_neg]
  rintro ⟨h1, h2⟩
  rcases h with h | h
  · exact absurd h1 (Int32.not_le.mpr h)
  · exact absurd h2 (Int32.not_lt.mpr h)
