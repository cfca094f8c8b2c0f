/-! a rule, in the model -/
theorem in19 (n : Int32) : (1 ≤ n ∧ n ≤ 9) ↔ ∃ r, ix n 10 = some r ∧ 1 ≤ r := by
  constructor
  · intro ⟨h1, h2⟩
    have h0 : 0 ≤ n ∧ n < nI 10 := by
      rw [Int32.le_iff_toInt_le] at h1 h2
      have e1 : (1 : Int32).toInt = 1 := by decide
      have e9 : (9 : Int32).toInt = 9 := by decide
      refine ⟨by rw [Int32.le_iff_toInt_le]; have e0 : (0 : Int32).toInt = 0 := by decide
                 omega, by rw [Int32.lt_iff_toInt_lt, nI_toInt (by decide)]; omega⟩
    have hx : ix n 10 = some n.toNatClampNeg := by unfold ix; rw [if_pos h0]
    obtain ⟨hr, hn⟩ := ix_some (by decide) hx
    refine ⟨_, hx, ?_⟩
    rw [hn] at h1
    exact (nI_leI (show 1 < 2 ^ 31 by decide) (by omega)).mp h1
  · intro ⟨r, hx, h1⟩
    obtain ⟨hr, hn⟩ := ix_some (by decide) hx
    rw [hn]
    exact ⟨nI_le h1 (by omega), nI_le (b := 9) (by omega) (by decide)⟩
def xrR (a0 : Nat) (p1 p2 p3 : Int32) (x3 : Int32) (S4 : PS) : Option (PS × Int32) := if kK S4 a0 = 14 then (lt (wI S4 a0 0 x3) fun S7 => if kK S7 a0 = 14 then (if (kI S7 a0 0) ≤ 0 then ((kQ S7 a0 11).bind fun a11 => if kK S7 a11 = 102 then (if ¬ ((kI S7 a0 6) < 0 ∨ kN S7 a11 ≤ (kI S7 a0 6).toNatClampNeg) then (lt (wI S7 a11 (kI S7 a0 6).toNatClampNeg (vp_nar .char p1)) fun S15 => if kK S15 a0 = 14 then ((kQ S15 a0 12).bind fun a18 => if kK S15 a18 = 103 then (if ¬ ((kI S15 a0 6) < 0 ∨ kN S15 a18 ≤ (kI S15 a0 6).toNatClampNeg) then (lt (wI S15 a18 (kI S15 a0 6).toNatClampNeg (vp_nar .boolean p2)) fun S22 => if kK S22 a0 = 14 then ((kQ S22 a0 13).bind fun a25 => if kK S22 a25 = 101 then (if ¬ ((kI S22 a0 6) < 0 ∨ kN S22 a25 ≤ (kI S22 a0 6).toNatClampNeg) then (lt (wI S22 a25 (kI S22 a0 6).toNatClampNeg p3) fun S29 => if kK S29 a0 = 14 then (lt (wI S29 a0 6 ((kI S29 a0 6) + 1)) fun S32 => if kK S32 a0 = 14 then (lt (wI S32 a0 5 0) fun S35 => if kK S35 a0 = 14 then ((f_X10_marksAll S35 a0).bind fun r38 => if kK r38 a0 = 14 then (some (r38, ((kI r38 a0 6) - 1))) else none) else none) else none) else none) else none) else none) else none) else none) else none) else none) else none) else none) else (some (S7, 0))) else none) else none
def xrG (S : PS) (a0 : Nat) (p1 p2 p3 : Int32) : Option (PS × Int32) := if kK S a0 = 14 then ((f_X10_isPattern S a0).bind fun r44 => if r44.2 = 0 then xrR a0 p1 p2 p3 2 r44.1 else (if kK r44.1 a0 = 14 then (if (kI r44.1 a0 6) = (12 : Int32) then xrR a0 p1 p2 p3 3 r44.1 else xrR a0 p1 p2 p3 0 r44.1) else none)) else none
theorem x_ruleE (S : PS) (a0 : Nat) (p1 p2 p3 : Int32) : f_X10_rule S a0 p1 p2 p3 = lt (fun (x1 : Int32) => if x1 = 0 then xrR a0 p1 p2 p3 1 S else xrG S a0 p1 p2 p3) fun j2 => lt (fun (u53 : Unit) => j2 0) fun j52 => lt (fun (u59 : Unit) => (f_X10_in S p3 1 9).bind fun r56 => if r56 = 0 then (j52 ()) else (j2 1)) fun j55 => if p1 = (97 : Int32) then (j55 ()) else (if p1 = (115 : Int32) then (j55 ()) else (if p1 = (109 : Int32) then (j55 ()) else (j52 ()))) := rfl
theorem x_ruleF (S : PS) (a0 : Nat) (c b n : Int32) : f_X10_rule S a0 c b n = if (c = 97 ∨ c = 115 ∨ c = 109) ∧ (1 ≤ n ∧ n ≤ 9) then xrG S a0 c b n else xrR a0 c b n 1 S := by
  rw [x_ruleE]
  simp only [lt, x_in, Option.bind_some, bi_eq0, decide_eq_false_iff_not, show ¬ (1 : Int32) = 0 by decide, if_false, if_true]
  by_cases h9 : 1 ≤ n ∧ n ≤ 9
  · by_cases h1 : c = 97
    · rw [if_pos h1, if_neg (fun z => z h9), if_pos ⟨Or.inl h1, h9⟩]
    · by_cases h2 : c = 115
      · rw [if_neg h1, if_pos h2, if_neg (fun z => z h9), if_pos ⟨Or.inr (Or.inl h2), h9⟩]
      · by_cases h3 : c = 109
        · rw [if_neg h1, if_neg h2, if_pos h3, if_neg (fun z => z h9), if_pos ⟨Or.inr (Or.inr h3), h9⟩]
        · rw [if_neg h1, if_neg h2, if_neg h3, if_neg (fun z => z.1.elim h1 (fun q => q.elim h2 h3))]
  · rw [if_neg (show ¬ ((c = 97 ∨ c = 115 ∨ c = 109) ∧ (1 ≤ n ∧ n ≤ 9)) from fun z => h9 z.2)]
    simp only [h9, not_false_eq_true, if_true, ite_self]
section
variable {S : PS} {I G : Nat → Nat → Int32} {m : Nat} {T : St}
theorem mx_rule (hm : mS S m) (hG : mT G T) (hw : wf T) (c b n : Int32) (hb : b = 0 ∨ b = 1) : mZ S I m T (fun k => if k = 1 then 1 else if k = 4 then 2 else 3) 0 (f_X10_rule (sI S (mw I m G)) m c b n) (a_rule T c b n) := by
  sorry
end
