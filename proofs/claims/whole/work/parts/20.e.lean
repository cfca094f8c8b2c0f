/-! THE SCAN: a token is its first sign, its end, word, value, quoted, first, the one ahead -/
abbrev Tk : Type := Nat × Nat × Bool × Nat × Bool × Bool × Option Nat
abbrev Sc : Type := List Tk × Bool × Bool × Option Nat × Nat
def dv (s : Int32) : Nat := (s - 48).toNatClampNeg
def lenT (s : Int32) (t : Tk) : Tk := (t.1, t.2.1 + 1, t.2.2.1, if isD s = true then (if 10 * t.2.2.2.1 + dv s < 100 then 10 * t.2.2.2.1 + dv s else 100) else 0, t.2.2.2.2)
def stp (st : Sc) (i : Nat) (s : Int32) : Sc :=
  if kd s = 0 then (st.1, if s = 47 then false else if s = 34 then !st.2.1 else st.2.1, if s = 47 ∨ s = 46 then true else st.2.2.1, if s = 47 then none else st.2.2.2.1, 0)
  else if kd s = st.2.2.2.2 then (st.1.modify (st.1.length - 1) (lenT s), st.2.1, st.2.2.1, st.2.2.2.1, kd s)
  else (st.1 ++ [lenT s (i, i, kd s == 1, 0, st.2.1, st.2.2.1, st.2.2.2.1)], st.2.1, false, some st.1.length, kd s)
theorem stp0 {st : Sc} {i : Nat} {s : Int32} (h : kd s = 0) : stp st i s = (st.1, if s = 47 then false else if s = 34 then !st.2.1 else st.2.1, if s = 47 ∨ s = 46 then true else st.2.2.1, if s = 47 then none else st.2.2.2.1, 0) := if_pos h
theorem stp1 {st : Sc} {i : Nat} {s : Int32} (h : ¬ kd s = 0) (h2 : kd s = st.2.2.2.2) : stp st i s = (st.1.modify (st.1.length - 1) (lenT s), st.2.1, st.2.2.1, st.2.2.2.1, kd s) := (if_neg h).trans (if_pos h2)
theorem stp2 {st : Sc} {i : Nat} {s : Int32} (h : ¬ kd s = 0) (h2 : ¬ kd s = st.2.2.2.2) : stp st i s = ((st.1 ++ [lenT s (i, i, kd s == 1, 0, st.2.1, st.2.2.1, st.2.2.2.1)]), st.2.1, false, some st.1.length, kd s) := by
  unfold stp
  rw [if_neg h, if_neg h2]
def sc (t : List Int32) : Nat → Sc
  | 0 => ([], false, true, none, 0)
  | k + 1 => stp (sc t k) k (la t k)
theorem kd_012 (s : Int32) : kd s = 0 ∨ kd s = 1 ∨ kd s = 2 := by
  unfold kd
  cases isL s <;> cases isD s <;> decide
theorem kd_1 {s : Int32} : kd s = 1 ↔ isL s = true := by
  unfold kd
  cases isL s <;> cases isD s <;> decide
theorem isLD {s : Int32} (h : isL s = true) : isD s = false := by
  unfold isL at h
  unfold isD
  simp only [decide_eq_true_eq, decide_eq_false_iff_not, Int32.le_iff_toInt_le] at *
  have e1 : (97 : Int32).toInt = 97 := by decide
  have e2 : (57 : Int32).toInt = 57 := by decide
  omega
theorem kd_2 {s : Int32} : kd s = 2 ↔ isD s = true := by
  unfold kd
  cases h : isL s
  · cases isD s <;> decide
  · rw [isLD h]; decide
/-- a digit -/
theorem isD_nI {s : Int32} (h : isD s = true) : ∃ c, c < 10 ∧ s = nI (48 + c) ∧ dv s = c ∧ s - 48 = nI c := by
  unfold isD at h
  simp only [decide_eq_true_eq, Int32.le_iff_toInt_le] at h
  have e1 : (48 : Int32).toInt = 48 := by decide
  have e2 : (57 : Int32).toInt = 57 := by decide
  obtain ⟨j, hj, rfl⟩ := nI_of (x := s) (by rw [Int32.lt_iff_toInt_lt]; have e0 : (0 : Int32).toInt = 0 := by decide
                                            omega)
  rw [nI_toInt hj] at h
  have e3 : nI j - 48 = nI (j - 48) := pk_sub (b := 48) (by omega)
  refine ⟨j - 48, by omega, by rw [show 48 + (j - 48) = j by omega], ?_, e3⟩
  unfold dv
  rw [e3, nI_clamp (by omega)]
/-- what holds all along the scan -/
theorem sc_inv (t : List Int32) : ∀ k : Nat, (sc t k).1.length ≤ k ∧ ((sc t k).2.2.2.2 ≠ 0 → (sc t k).1.length ≠ 0 ∧ (sc t k).2.2.2.1 = some ((sc t k).1.length - 1)) ∧ (∀ (j : Nat) (v : Tk), (sc t k).1[j]? = some v → v.2.1 ≤ k ∧ v.2.2.2.1 ≤ 100 ∧ v.1 < v.2.1) ∧ (∀ j, (sc t k).2.2.2.1 = some j → j + 1 = (sc t k).1.length)
  | 0 => by simp [sc]
  | k + 1 => by
    obtain ⟨h1, h2, h3, h4⟩ := sc_inv t k
    simp only [sc]
    unfold stp
    have hl : ∀ (v : Tk), v.2.1 ≤ k → v.1 ≤ v.2.1 → (lenT (la t k) v).2.1 ≤ k + 1 ∧ (lenT (la t k) v).2.2.2.1 ≤ 100 ∧ (lenT (la t k) v).1 < (lenT (la t k) v).2.1 := by
      intro v h5 h6
      unfold lenT
      refine ⟨by simp; omega, ?_, by simp; omega⟩
      simp only
      split
      · split <;> omega
      · omega
    split
    · refine ⟨by simp only; omega, fun h => absurd rfl h, fun j v hv => ?_, fun j hj => ?_⟩
      · obtain ⟨a, b, c⟩ := h3 j v hv
        exact ⟨by omega, b, c⟩
      · simp only at hj
        split at hj
        · cases hj
        · exact h4 j hj
    · split
      · rename_i g1 g2
        obtain ⟨m1, m2⟩ := h2 (by rw [← g2]; exact g1)
        refine ⟨by simp only [List.length_modify]; omega, fun _ => by simp only [List.length_modify]; exact ⟨m1, m2⟩, fun j v hv => ?_, fun j hj => by simp only [List.length_modify]; exact h4 j hj⟩
        simp only [List.getElem?_modify, Option.map_eq_map, Option.map_eq_some_iff] at hv
        obtain ⟨u, hu, rfl⟩ := hv
        obtain ⟨a, b, c⟩ := h3 j u hu
        split
        · exact hl u a (by omega)
        · exact ⟨by omega, b, c⟩
      · refine ⟨by simp only [List.length_append, List.length_singleton]; omega, fun _ => by simp, fun j v hv => ?_, fun j hj => by simp at hj ⊢; omega⟩
        rw [List.getElem?_append] at hv
        split at hv
        · obtain ⟨a, b, c⟩ := h3 j v hv
          exact ⟨by omega, b, c⟩
        · have g4 := (List.getElem?_eq_some_iff.mp hv).1
          simp at g4
          have : j = (sc t k).1.length := by omega
          subst this
          simp at hv
          subst hv
          exact hl _ (Nat.le_refl _) (Nat.le_refl _)
/-! the rows of the tokens -/
def oI (o : Option Nat) : Int32 := match o with
  | none => -1
  | some k => nI k
def tM (R : Nat → List Int32) (ts : List Tk) : Prop := R 11 = ts.map (fun t => nI t.1) ∧ R 13 = ts.map (fun t => nI t.2.1) ∧ R 15 = ts.map (fun t => if t.2.2.1 = true then 1 else 2) ∧ R 17 = ts.map (fun t => nI t.2.2.2.1) ∧ R 19 = ts.map (fun t => bi t.2.2.2.2.1) ∧ R 21 = ts.map (fun t => bi t.2.2.2.2.2.1) ∧ R 23 = ts.map (fun t => oI t.2.2.2.2.2.2)
def sM (R : Nat → List Int32) (F : Nat → Nat → Int32) (st : Sc) : Prop := tM R st.1 ∧ F 10 8 = bi st.2.1 ∧ F 10 9 = bi st.2.2.1 ∧ F 10 10 = oI st.2.2.2.1
/-- but the tokens all is as it was -/
def eT (R R' : Nat → List Int32) (F F' : Nat → Nat → Int32) : Prop := (∀ k, k < 11 ∨ 23 < k → R' k = R k) ∧ ∀ k j, k ≠ 10 → F' k j = F k j
theorem eT.rf {R : Nat → List Int32} {F : Nat → Nat → Int32} : eT R R F F := ⟨fun _ _ => rfl, fun _ _ _ => rfl⟩
theorem eT.tr {R R' R'' : Nat → List Int32} {F F' F'' : Nat → Nat → Int32} (h1 : eT R R' F F') (h2 : eT R' R'' F' F'') : eT R R'' F F'' := ⟨fun k hk => (h2.1 k hk).trans (h1.1 k hk), fun k j hk => (h2.2 k j hk).trans (h1.2 k j hk)⟩
theorem eT.r {R R' : Nat → List Int32} {F F' : Nat → Nat → Int32} (h : eT R R' F F') {k : Nat} {l : List Int32} (hk : 11 ≤ k) (hk2 : k ≤ 23) : eT R (uR R' k l) F F' := ⟨fun i hi => by rw [uR_ne (by omega)]; exact h.1 i hi, h.2⟩
theorem eT.f {R R' : Nat → List Int32} {F F' : Nat → Nat → Int32} (h : eT R R' F F') {j : Nat} {v : Int32} : eT R R' F (uF F' 10 j v) := ⟨h.1, fun k i hk => by rw [uF_ne (Or.inl hk)]; exact h.2 k i hk⟩
