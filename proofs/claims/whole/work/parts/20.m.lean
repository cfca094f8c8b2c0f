/-! the tokens of a text are well formed and in order -/
def tsO (t : List Int32) : List Tk := (sc t t.length).1
theorem sc_ord (t : List Int32) : ∀ k : Nat, (∀ (j : Nat) (v : Tk) (i : Nat), (sc t k).1[j]? = some v → v.2.2.2.2.2.2 = some i → i < j) ∧ ∀ (j j' : Nat) (v v' : Tk), j < j' → (sc t k).1[j]? = some v → (sc t k).1[j']? = some v' → v.2.1 ≤ v'.1
  | 0 => by simp [sc]
  | k + 1 => by
    obtain ⟨h1, h2⟩ := sc_ord t k
    obtain ⟨v1, v2, v3, v4⟩ := sc_inv t k
    simp only [sc]
    by_cases g1 : kd (la t k) = 0
    · rw [stp0 g1]
      exact ⟨h1, h2⟩
    · by_cases g2 : kd (la t k) = (sc t k).2.2.2.2
      · rw [stp1 g1 g2]
        have mo : ∀ (j : Nat) (v : Tk), ((sc t k).1.modify ((sc t k).1.length - 1) (lenT (la t k)))[j]? = some v → ∃ u, (sc t k).1[j]? = some u ∧ (v = u ∨ (v = lenT (la t k) u ∧ j + 1 = (sc t k).1.length)) := by
          intro j v hv
          simp only [List.getElem?_modify, Option.map_eq_map, Option.map_eq_some_iff] at hv
          obtain ⟨u, hu, rfl⟩ := hv
          refine ⟨u, hu, ?_⟩
          have hl := (List.getElem?_eq_some_iff.mp hu).1
          split
          · exact Or.inr ⟨rfl, by omega⟩
          · exact Or.inl rfl
        refine ⟨fun j v i hv hi => ?_, fun j j' v v' hj hv hv' => ?_⟩
        · obtain ⟨u, hu, rfl | ⟨rfl, -⟩⟩ := mo j v hv
          · exact h1 j v i hu hi
          · exact h1 j u i hu hi
        · obtain ⟨u, hu, e⟩ := mo j v hv
          obtain ⟨u', hu', e'⟩ := mo j' v' hv'
          have hl' := (List.getElem?_eq_some_iff.mp hu').1
          have := h2 j j' u u' hj hu hu'
          have e1 : v = u := by
            rcases e with e | ⟨e, e2⟩
            · exact e
            · omega
          have e2 : v'.1 = u'.1 := by
            rcases e' with e | ⟨e, -⟩
            · rw [e]
            · rw [e]; rfl
          rw [e1, e2]
          exact this
      · rw [stp2 g1 g2]
        have mo : ∀ (j : Nat) (v : Tk), ((sc t k).1 ++ [lenT (la t k) (k, k, kd (la t k) == 1, 0, (sc t k).2.1, (sc t k).2.2.1, (sc t k).2.2.2.1)])[j]? = some v → (sc t k).1[j]? = some v ∨ (j = (sc t k).1.length ∧ v = lenT (la t k) (k, k, kd (la t k) == 1, 0, (sc t k).2.1, (sc t k).2.2.1, (sc t k).2.2.2.1)) := by
          intro j v hv
          rw [List.getElem?_append] at hv
          split at hv
          · exact Or.inl hv
          · have g4 := (List.getElem?_eq_some_iff.mp hv).1
            simp at g4
            have : j = (sc t k).1.length := by omega
            subst this
            simp at hv
            exact Or.inr ⟨rfl, hv.symm⟩
        refine ⟨fun j v i hv hi => ?_, fun j j' v v' hj hv hv' => ?_⟩
        · rcases mo j v hv with hv | ⟨rfl, rfl⟩
          · exact h1 j v i hv hi
          · have := v4 i hi
            omega
        · rcases mo j' v' hv' with hv' | ⟨rfl, rfl⟩
          · have hl' := (List.getElem?_eq_some_iff.mp hv').1
            rcases mo j v hv with hv | ⟨rfl, rfl⟩
            · exact h2 j j' v v' hj hv hv'
            · omega
          · rcases mo j v hv with hv | ⟨rfl, rfl⟩
            · exact (v3 j v hv).1
            · omega
theorem tsO_wT {t : List Int32} (ht : t.length ≤ 160) : wT (tsO t) := by
  obtain ⟨v1, v2, v3, v4⟩ := sc_inv t t.length
  obtain ⟨h1, h2⟩ := sc_ord t t.length
  refine ⟨by unfold tsO; omega, fun j v hv => ?_⟩
  obtain ⟨a, b, c⟩ := v3 j v hv
  exact ⟨c, by omega, b, fun i hi => h1 j v i hv hi⟩
theorem tsO_oT (t : List Int32) : oT (tsO t) := by
  obtain ⟨h1, h2⟩ := sc_ord t t.length
  intro j j' hj hn
  have e1 : (tsO t)[j]? = some (tsO t)[j] := List.getElem?_eq_getElem (by omega)
  have e2 : (tsO t)[j']? = some (tsO t)[j'] := List.getElem?_eq_getElem hn
  have := h2 j j' _ _ hj e1 e2
  unfold tE tF
  rw [e1, e2]
  exact this
theorem itA_in {t : List Int32} {ts : List Tk} {items : List Iv} {j : Nat} (h : itA t ts items j = true) (hj : j < ts.length) (h1 : 1 ≤ items.length) : j + items.length ≤ ts.length := by
  have h := of_decide_eq_true h
  by_cases e : items.length = 1
  · omega
  · have := (h (items.length - 1) (by omega)).1
    rcases this with q | q
    · omega
    · unfold gO at q
      have := of_decide_eq_true q
      omega
theorem fd_in {t : List Int32} {ts : List Tk} {ru : List Rv} {pa : List (List Int32 × List Int32)} {k : Dk} (hw : wR ru) {j r : Nat} (hj : j < ts.length) (h : fd t ts ru pa k j r = true) : j + mI9 ru r ≤ ts.length := by
  unfold mI9
  cases e : ru[r]? with
  | none => exact hj
  | some v =>
    have hl := (List.getElem?_eq_some_iff.mp e).1
    have hw1 := hw.1
    have hv := hw.2 r v e
    unfold fd hit hR at h
    rw [e] at h
    have e1 : decide (r = 20) = false := decide_eq_false (by omega)
    have e2 : decide (12 ≤ r) = false := decide_eq_false (by omega)
    rw [e1, e2] at h
    simp only [Bool.false_and, Bool.or_false, Bool.and_eq_true] at h
    have hf := h.1
    unfold fR at hf
    simp only [Bool.and_eq_true] at hf
    exact itA_in hf.1.2 hj hv.1
/-! THE STATE: typed, text, writers, marks, rules, pairs, desks -/
abbrev St : Type := List Int32 × List Int32 × List Int32 × List Int32 × List Rv × List (List Int32 × List Int32) × (Nat → Dk)
/-- the text's letters, digits and other signs -/
def slN (t : List Int32) : Nat → Nat
  | 0 => 0
  | k + 1 => slN t k + (if la t k = 47 then 1 else 0)
def isWd (l : List Int32) : Prop := 1 ≤ l.length ∧ l.length ≤ 20 ∧ ∀ j, j < l.length → isL (la l j) = true
def isGs (l : List Int32) : Prop := 1 ≤ l.length ∧ l.length ≤ 20 ∧ (∀ j, j < l.length → isL (la l j) = true ∨ isD (la l j) = true ∨ la l j = 32 ∨ la l j = 42) ∧ ∀ i j, i < l.length → j < l.length → la l i = 42 → la l j = 42 → i = j
def isIt (v : Iv) : Prop := v.2.2.length ≤ 20 ∧ (v.1 = true → v.2.1 = false ∧ v.2.2 = []) ∧ (v.1 = false → v.2.1 = false → 1 ≤ v.2.2.length) ∧ ∀ j, j < v.2.2.length → isL (la v.2.2 j) = true
def tyS (s : Int32) : Bool := isL s || isD s || decide (s = 32) || decide (s = 42) || decide (s = 35) || decide (s = 45)
def txS (s : Int32) : Bool := isL s || isD s || decide (s = 32) || decide (s = 46) || decide (s = 34) || decide (s = 47)
def wf (T : St) : Prop := (T.1.length ≤ 20 ∧ ∀ j, j < T.1.length → tyS (la T.1 j) = true) ∧ T.2.1.length ≤ 160 ∧ (∀ j, j < T.2.1.length → txS (la T.2.1 j) = true) ∧ T.2.2.1.length = T.2.1.length ∧ (∀ j, j < T.2.1.length → ∃ w, w < 4 ∧ la T.2.2.1 j = nI w) ∧ T.2.2.2.1.length = slN T.2.1 T.2.1.length + 1 ∧ wR T.2.2.2.2.1 ∧ (∀ (r : Nat) (v : Rv), T.2.2.2.2.1[r]? = some v → (v.2.1 = 97 ∨ v.2.1 = 115 ∨ v.2.1 = 109) ∧ (∀ it ∈ v.1, isIt it) ∧ (∀ l ∈ v.2.2.2.2.1, isWd l) ∧ ∀ l ∈ v.2.2.2.2.2, isGs l) ∧ T.2.2.2.2.2.1.length ≤ 4 ∧ (∀ p ∈ T.2.2.2.2.2.1, isWd p.1 ∧ isWd p.2 ∧ p.1 ≠ p.2) ∧ ∀ d, d < 4 → wD (T.2.2.2.2.2.2 d) ∧ ∀ g ∈ (T.2.2.2.2.2.2 d).2.2.2, g.2.1 + g.2.2 ≤ T.2.1.length
/-- the findings of a desk -/
def iS (T : St) (d : Nat) (TN : List Nat) : Prop := TN.length = (tsO T.2.1).length ∧ (∀ j, la9 TN j ≤ 21) ∧ sol (mI9 T.2.2.2.2.1) (rk T.2.2.2.2.1 (T.2.2.2.2.2.2 d).1) (cn T.2.1 (tsO T.2.1) T.2.2.2.2.1 T.2.2.2.2.2.1 (T.2.2.2.2.2.2 d)) (aT TN)
/-- what the class has read, what it has solved -/
def cR (T : St) (R : Nat → List Int32) : Prop := tM R (tsO T.2.1) ∧ hB (R 28) (tsO T.2.1).length (hit T.2.1 (tsO T.2.1) T.2.2.2.2.1 T.2.2.2.2.2.1)
def cF (T : St) (d : Nat) (TN : List Nat) (R : Nat → List Int32) : Prop := iS T d TN ∧ R 71 = TN.map nI ∧ R 73 = (tlk TN TN.length).map (fun p => nI p.1) ∧ R 75 = (tlk TN TN.length).map (fun p => nI p.2)
def cC (T : St) (R : Nat → List Int32) (F : Nat → Nat → Int32) : Prop := (F 0 7 = 0 ∨ (F 0 7 = 1 ∧ cR T R)) ∧ (F 0 8 = -1 ∨ (F 0 7 = 1 ∧ ∃ d TN, d < 4 ∧ F 0 8 = nI d ∧ cF T d TN R))
/-- the class' ints are those of the state, but for what it has read and solved -/
def cT (T : St) (R : Nat → List Int32) (F : Nat → Nat → Int32) : Prop := R 1 = T.1 ∧ R 4 = T.2.1 ∧ R 6 = T.2.2.1 ∧ R 8 = T.2.2.2.1 ∧ F 26 2 = nI T.2.2.2.2.1.length ∧ F 27 2 = nI T.2.2.2.2.2.1.length ∧ F 30 2 = nI 4 ∧ ∀ d, d < 4 → dM R F d (T.2.2.2.2.2.2 d)
/-- the invariant of the class -/
def cI (S : PS) (I : Nat → Nat → Int32) (x : Nat) (T : St) : Prop := cS S x ∧ dB S I x T.2.2.2.2.1 T.2.2.2.2.2.1 ∧ ∃ R F, cM I x R F ∧ cT T R F ∧ cC T R F
