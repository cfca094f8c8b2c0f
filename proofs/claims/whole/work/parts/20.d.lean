/-! what the class makes later on: words, items, rules, pairs (all behind the fixed cells), lists -/
def bi (b : Bool) : Int32 := if b = true then 1 else 0
theorem bi_eq0 (b : Bool) : bi b = 0 ↔ b = false := by cases b <;> decide
theorem bi_eq1 (b : Bool) : bi b = 1 ↔ b = true := by cases b <;> decide
theorem bi_01 (b : Bool) : bi b = 0 ∨ bi b = 1 := by cases b <;> decide
abbrev Iv : Type := Bool × Bool × List Int32
abbrev Rv : Type := List Iv × Int32 × Bool × Nat × List (List Int32) × List (List Int32)
def dW (S : PS) (I : Nat → Nat → Int32) (x h : Nat) (l : List Int32) : Prop := ∃ c, rS S h c ∧ rL I h l ∧ l.length ≤ c ∧ x + 79 ≤ h
def dL (S : PS) (h n : Nat) (as : Nat → Nat) : Prop := kK S h = 3 ∧ n ≤ 1000 ∧ ∃ arr, kQ S h 1 = some arr ∧ (∀ j, j < n → kK S arr = 104 ∧ j < kN S arr ∧ kQ S arr j = some (as j)) ∧ ((kK S arr = 104 ∧ n ≤ kN S arr ∧ (kN S arr = 10 ∨ kN S arr = 15)) ∨ (kK S arr = 105 ∧ n = 0 ∧ kQ S 0 0 = some arr)) ∧ ∀ i j, i < n → j < n → as i = as j → kK S (as i) = 10 → i = j
def dI (S : PS) (I : Nat → Nat → Int32) (x a : Nat) (v : Iv) : Prop := kK S a = 7 ∧ x + 79 ≤ a ∧ I a 0 = bi v.1 ∧ I a 1 = bi v.2.1 ∧ ∃ h, kQ S a 2 = some h ∧ dW S I x h v.2.2
def dD (S : PS) (I : Nat → Nat → Int32) (x h n : Nat) (as : Nat → Nat) : Prop := dL S h n as ∧ I h 2 = nI n ∧ x + 79 ≤ h
def dWs (S : PS) (I : Nat → Nat → Int32) (x h : Nat) (l : List (List Int32)) : Prop := ∃ as, dD S I x h l.length as ∧ ∀ j v, l[j]? = some v → dW S I x (as j) v
def dIs (S : PS) (I : Nat → Nat → Int32) (x h : Nat) (l : List Iv) : Prop := ∃ as, dD S I x h l.length as ∧ ∀ j v, l[j]? = some v → dI S I x (as j) v
def dR (S : PS) (I : Nat → Nat → Int32) (x a : Nat) (v : Rv) : Prop := kK S a = 10 ∧ x + 79 ≤ a ∧ I a 1 = v.2.1 ∧ I a 2 = bi v.2.2.1 ∧ I a 3 = nI v.2.2.2.1 ∧ (∃ h, kQ S a 0 = some h ∧ dIs S I x h v.1) ∧ (∃ h, kQ S a 4 = some h ∧ dWs S I x h v.2.2.2.2.1) ∧ ∃ h, kQ S a 5 = some h ∧ dWs S I x h v.2.2.2.2.2
def dP (S : PS) (I : Nat → Nat → Int32) (x a : Nat) (v : List Int32 × List Int32) : Prop := kK S a = 8 ∧ x + 79 ≤ a ∧ (∃ h, kQ S a 0 = some h ∧ dW S I x h v.1) ∧ ∃ h, kQ S a 1 = some h ∧ dW S I x h v.2
def dB (S : PS) (I : Nat → Nat → Int32) (x : Nat) (ru : List Rv) (pa : List (List Int32 × List Int32)) : Prop := (∃ as, dL S (x + 26) ru.length as ∧ ∀ j v, ru[j]? = some v → dR S I x (as j) v) ∧ ∃ as, dL S (x + 27) pa.length as ∧ ∀ j v, pa[j]? = some v → dP S I x (as j) v
section
variable {S : PS} {I I' : Nat → Nat → Int32} {x : Nat}
theorem dW.kept {h : Nat} {l : List Int32} (ho : ou I I' x) : dW S I x h l → dW S I' x h l := fun ⟨c, h1, h2, h3, h4⟩ => ⟨c, h1, ⟨(ho _ _ (Or.inr h4)).trans h2.1, fun j hj => (ho _ _ (Or.inr (by omega))).trans (h2.2 j hj)⟩, h3, h4⟩
theorem dI.kept {a : Nat} {v : Iv} (ho : ou I I' x) : dI S I x a v → dI S I' x a v := fun ⟨h1, h2, h3, h4, h, h5, h6⟩ => ⟨h1, h2, (ho _ _ (Or.inr h2)).trans h3, (ho _ _ (Or.inr h2)).trans h4, h, h5, h6.kept ho⟩
theorem dD.kept {h n : Nat} {as : Nat → Nat} (ho : ou I I' x) : dD S I x h n as → dD S I' x h n as := fun ⟨h1, h2, h3⟩ => ⟨h1, (ho _ _ (Or.inr h3)).trans h2, h3⟩
theorem dWs.kept {h : Nat} {l : List (List Int32)} (ho : ou I I' x) : dWs S I x h l → dWs S I' x h l := fun ⟨as, h1, h2⟩ => ⟨as, h1.kept ho, fun j v hv => (h2 j v hv).kept ho⟩
theorem dIs.kept {h : Nat} {l : List Iv} (ho : ou I I' x) : dIs S I x h l → dIs S I' x h l := fun ⟨as, h1, h2⟩ => ⟨as, h1.kept ho, fun j v hv => (h2 j v hv).kept ho⟩
theorem dR.kept {a : Nat} {v : Rv} (ho : ou I I' x) : dR S I x a v → dR S I' x a v := fun ⟨h1, h2, h3, h4, h5, ⟨a1, h6, h7⟩, ⟨a2, h8, h9⟩, ⟨a3, h10, h11⟩⟩ => ⟨h1, h2, (ho _ _ (Or.inr h2)).trans h3, (ho _ _ (Or.inr h2)).trans h4, (ho _ _ (Or.inr h2)).trans h5, ⟨a1, h6, h7.kept ho⟩, ⟨a2, h8, h9.kept ho⟩, ⟨a3, h10, h11.kept ho⟩⟩
theorem dP.kept {a : Nat} {v : List Int32 × List Int32} (ho : ou I I' x) : dP S I x a v → dP S I' x a v := fun ⟨h1, h2, ⟨a1, h6, h7⟩, ⟨a2, h8, h9⟩⟩ => ⟨h1, h2, ⟨a1, h6, h7.kept ho⟩, ⟨a2, h8, h9.kept ho⟩⟩
theorem dB.kept {ru : List Rv} {pa : List (List Int32 × List Int32)} (ho : ou I I' x) : dB S I x ru pa → dB S I' x ru pa := fun ⟨⟨as, h1, h2⟩, ⟨bs, h3, h4⟩⟩ => ⟨⟨as, h1, fun j v hv => (h2 j v hv).kept ho⟩, ⟨bs, h3, fun j v hv => (h4 j v hv).kept ho⟩⟩
theorem dl_size {h n : Nat} {as : Nat → Nat} (hd : dL S h n as) (hn : I h 2 = nI n) : f_Jx4a65c_size_8abf5 (sI S I) h = some (nI n) := by
  unfold f_Jx4a65c_size_8abf5
  rw [kK_sI, if_pos hd.1, kI_sI, hn]
theorem dl_get {h n : Nat} {as : Nat → Nat} (hd : dL S h n as) (hn : I h 2 = nI n) {j : Nat} (hj : j < n) : f_Jx4a65c_get_915e3 (sI S I) h (nI j) = some (as j) := by
  obtain ⟨h1, h2, arr, h3, h4, -⟩ := hd
  obtain ⟨h5, h6, h7⟩ := h4 j hj
  have hj3 : j < 2 ^ 31 := by omega
  unfold f_Jx4a65c_get_915e3 f_J15_checkIndex_7cf53 f_J3_checkIndex_8e157 f_Jx4a65c_elementData_915e3
  simp only [kK_sI, kQ_sI, kN_sI, kZ_sI, kI_sI, wI_sI, if_true, Option.bind_some, lt, h1, h3, h5, h7, hn, nI_lt0 hj3, nI_ltI hj3 (show n < 2 ^ 31 by omega), if_pos hj, if_false, false_or, nI_clamp hj3, if_pos (show ¬ kN S arr ≤ j by omega)]
end
/-! letters, digits, kinds -/
def isL (s : Int32) : Bool := decide (97 ≤ s ∧ s ≤ 122)
def isD (s : Int32) : Bool := decide (48 ≤ s ∧ s ≤ 57)
def kd (s : Int32) : Nat := if isL s = true then 1 else if isD s = true then 2 else 0
theorem cx_isLetter (S : PS) (s : Int32) : f_X9_isLetter S s = some (bi (isL s)) := by
  unfold f_X9_isLetter isL bi
  by_cases h1 : s < 97
  · simp [h1, Int32.not_le.mpr h1]
  · by_cases h2 : s ≤ 122
    · simp [h1, h2, Int32.not_lt.mp h1]
    · simp [h1, h2]
theorem cx_isDigit (S : PS) (s : Int32) : f_X9_isDigit S s = some (bi (isD s)) := by
  unfold f_X9_isDigit isD bi
  by_cases h1 : s < 48
  · simp [h1, Int32.not_le.mpr h1]
  · by_cases h2 : s ≤ 57
    · simp [h1, h2, Int32.not_lt.mp h1]
    · simp [h1, h2]
theorem cx_kindOf (S : PS) (s : Int32) : f_X8_kindOf S s = some (nI (kd s)) := by
  unfold f_X8_kindOf kd
  rw [cx_isLetter, Option.bind_some]
  cases h1 : isL s
  · rw [cx_isDigit]
    cases h2 : isD s
    · rfl
    · rfl
  · rfl
