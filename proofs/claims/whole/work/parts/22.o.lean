/-! one item of a pattern, as the model reads it -/
section
variable {ty : List Int32} {f n : Nat}
def pSt (ty : List Int32) (f n : Nat) : Bool := decide (f + n < ty.length ∧ la ty (f + n) = 42)
def pNu (ty : List Int32) (f n : Nat) : Bool := decide (n = 0 ∧ f + n < ty.length ∧ la ty (f + n) = 35)
def pEn (ty : List Int32) (f n : Nat) : Nat := f + n + (if pSt ty f n = true ∨ pNu ty f n = true then 1 else 0)
theorem L_42 : isL 42 = false := by decide
theorem L_35 : isL 35 = false := by decide
theorem L_45 : isL 45 = false := by decide
theorem p_yes (a1 : n = 0 ∨ f + n ≤ ty.length) (a2 : ∀ i, i < n → isL (la ty (f + i)) = true) (h : f < pEn ty f n) (hf : f < ty.length) : itB ty f (pEn ty f n) = true ∧ (∀ i, f ≤ i → i < pEn ty f n → sepB ty i = false) ∧ pEn ty f n ≤ ty.length ∧ itO ty f (pEn ty f n) = (pNu ty f n, pSt ty f n, sb ty f (f + n)) := by
  have sepL : ∀ i, i < n → sepB ty (f + i) = false := fun i hi => by
    unfold sepB
    rw [decide_eq_false (show ¬ f + i = ty.length by omega), decide_eq_false (fun z => by have := a2 i hi; rw [z, L_45] at this; cases this)]; rfl
  have ne : ∀ i, i < n → la ty (f + i) ≠ 35 ∧ la ty (f + i) ≠ 42 := fun i hi => ⟨fun z => (by have := a2 i hi; rw [z, L_35] at this; cases this), fun z => (by have := a2 i hi; rw [z, L_42] at this; cases this)⟩
  by_cases hs : f + n < ty.length ∧ la ty (f + n) = 42
  · have e1 : pSt ty f n = true := decide_eq_true hs
    have e2 : pNu ty f n = false := decide_eq_false (fun z => by rw [hs.2] at z; exact absurd z.2.2 (by decide))
    have e3 : pEn ty f n = f + n + 1 := by unfold pEn; rw [if_pos (Or.inl e1)]
    rw [e3, e1, e2]
    have hlt : ltI ty (f + n + 1) = 42 := by unfold ltI; rw [if_neg (by omega), Nat.add_sub_cancel]; exact hs.2
    refine ⟨?_, fun i h1 h2 => ?_, by omega, ?_⟩
    · unfold itB
      rw [hlt, if_neg (fun z => absurd z.2 (by decide)), if_pos ⟨by omega, rfl⟩, Nat.add_sub_cancel]
      by_cases h0 : n = 0
      · rw [decide_eq_true (show f + n + 1 - f = 1 by omega)]; rfl
      · rw [show wdB ty f (f + n) = true from decide_eq_true ⟨by omega, fun i hi => a2 i (by omega)⟩, Bool.or_true]
    · by_cases h3 : i = f + n
      · unfold sepB
        rw [h3, hs.2, decide_eq_false (show ¬ f + n = ty.length by omega)]; decide
      · have := sepL (i - f) (by omega)
        rw [show f + (i - f) = i by omega] at this
        exact this
    · unfold itO
      rw [Nat.add_sub_cancel, hs.2, if_pos (Or.inr rfl)]
      rfl
  · have e1 : pSt ty f n = false := decide_eq_false hs
    by_cases hu : n = 0 ∧ f + n < ty.length ∧ la ty (f + n) = 35
    · have e2 : pNu ty f n = true := decide_eq_true hu
      have e3 : pEn ty f n = f + n + 1 := by unfold pEn; rw [if_pos (Or.inr e2)]
      rw [e3, e1, e2]
      have hlt : ltI ty (f + n + 1) = 35 := by unfold ltI; rw [if_neg (by omega), Nat.add_sub_cancel]; exact hu.2.2
      refine ⟨?_, fun i h1 h2 => ?_, by omega, ?_⟩
      · unfold itB
        rw [hlt, if_pos ⟨by omega, rfl⟩]
      · unfold sepB
        rw [show i = f + n by omega, hu.2.2, decide_eq_false (show ¬ f + n = ty.length by omega)]; decide
      · unfold itO
        rw [Nat.add_sub_cancel, hu.2.2, if_pos (Or.inl rfl)]
        rfl
    · have e2 : pNu ty f n = false := decide_eq_false hu
      have e3 : pEn ty f n = f + n := by unfold pEn; rw [e1, e2, if_neg (by decide)]; rfl
      rw [e3] at h ⊢
      rw [e1, e2]
      have hn1 := ne (n - 1) (by omega)
      rw [show f + (n - 1) = f + n - 1 by omega] at hn1
      have hlt : ltI ty (f + n) = la ty (f + n - 1) := by unfold ltI; rw [if_neg (by omega)]
      refine ⟨?_, fun i h1 h2 => ?_, by omega, ?_⟩
      · unfold itB
        rw [hlt, if_neg (fun z => hn1.1 z.2), if_neg (fun z => hn1.2 z.2)]
        exact decide_eq_true ⟨by omega, fun i hi => a2 i (by omega)⟩
      · have := sepL (i - f) (by omega)
        rw [show f + (i - f) = i by omega] at this
        exact this
      · unfold itO
        rw [decide_eq_false hn1.1, decide_eq_false hn1.2, if_neg (fun z => z.elim hn1.1 hn1.2)]
theorem p_no (a1 : n = 0 ∨ f + n ≤ ty.length) (a2 : ∀ i, i < n → isL (la ty (f + i)) = true) (a3 : f + n < ty.length → isL (la ty (f + n)) = false) {e2 : Nat} (h2 : e2 ≤ ty.length) (hs : sepB ty e2 = true) (hb : itB ty f e2 = true) : pEn ty f n = e2 := by
  have hfe := itB_lt hb
  have hl : ltI ty e2 = la ty (e2 - 1) := by unfold ltI; rw [if_neg (by omega)]
  have nof : ∀ j, f + j < ty.length → isL (la ty (f + j)) = false → n ≤ j := fun j hj hf => Classical.byContradiction fun hn => by
    have := a2 j (by omega)
    rw [hf] at this; cases this
  have allf : ∀ j, f + j ≤ ty.length → (∀ i, i < j → isL (la ty (f + i)) = true) → j ≤ n := fun j hj hf => Classical.byContradiction fun hn => by
    have h1 := a3 (by omega)
    have h2 := hf n (by omega)
    rw [h1] at h2; cases h2
  unfold itB at hb
  rw [hl] at hb
  split at hb
  · rename_i h
    obtain ⟨b1, b2⟩ := h
    have hn0 : n = 0 := by
      have := nof 0 (by omega) (by rw [show f + 0 = e2 - 1 by omega, b2]; exact L_35)
      omega
    subst hn0
    have e9 : pNu ty f 0 = true := decide_eq_true ⟨rfl, by omega, by rw [show f + 0 = e2 - 1 by omega]; exact b2⟩
    unfold pEn
    rw [if_pos (Or.inr e9)]
    omega
  · split at hb
    · rename_i h
      obtain ⟨b1, b2⟩ := h
      have hn : n = e2 - 1 - f := by
        have q1 := nof (e2 - 1 - f) (by omega) (by rw [show f + (e2 - 1 - f) = e2 - 1 by omega, b2]; exact L_42)
        rw [Bool.or_eq_true, decide_eq_true_eq] at hb
        rcases hb with hb | hb
        · omega
        · unfold wdB at hb
          obtain ⟨-, w⟩ := of_decide_eq_true hb
          have := allf (e2 - 1 - f) (by omega) (fun i hi => w i hi)
          omega
      have e9 : pSt ty f n = true := decide_eq_true ⟨by omega, by rw [show f + n = e2 - 1 by omega]; exact b2⟩
      unfold pEn
      rw [if_pos (Or.inl e9)]
      omega
    · unfold wdB at hb
      obtain ⟨-, w⟩ := of_decide_eq_true hb
      have q1 := allf (e2 - f) (by omega) (fun i hi => w i hi)
      unfold sepB at hs
      rw [Bool.or_eq_true, decide_eq_true_eq, decide_eq_true_eq] at hs
      have hn : f + n = e2 := by
        rcases hs with hs | hs
        · omega
        · by_cases e : e2 = ty.length
          · omega
          · have := nof (e2 - f) (by omega) (by rw [show f + (e2 - f) = e2 by omega, hs]; exact L_45)
            omega
      have c1 : pSt ty f n = false := decide_eq_false (fun z => by
        rw [hn] at z
        rcases hs with hs | hs
        · omega
        · rw [hs] at z; exact absurd z.2 (by decide))
      have c2 : pNu ty f n = false := decide_eq_false (fun z => by
        rw [hn] at z
        rcases hs with hs | hs
        · omega
        · rw [hs] at z; exact absurd z.2.2 (by decide))
      unfold pEn
      rw [c1, c2, if_neg (by decide)]
      exact hn
end
