/-! the calls, one by one: typed signs, the text -/
def a_type (T : St) (c : Int32) : An := if tyS c = true then (if T.1.length < 20 then .inl ((T.1 ++ [c], T.2), nI (T.1.length + 1)) else .inr 2) else .inr 1
def uWipe (T : St) : St := ([], T.2)
def a_put (T : St) (p c w : Int32) : An := match ix p (T.2.1.length + 1) with
  | none => .inr 3
  | some q => if txS c = true ∧ (ix w 4).isSome = true then (if T.2.1.length < 160 then .inl (uPut T q c w, nI (T.2.1.length + 1)) else .inr 2) else .inr 1
def a_take (T : St) (p : Int32) : An := match ix p T.2.1.length with
  | none => .inr 3
  | some q => .inl (uTake T q, la T.2.1 q)
def a_at (T : St) (p : Int32) : An := match ix p T.2.1.length with
  | none => .inr 3
  | some q => .inl (T, la T.2.1 q)
section
variable {S : PS} {I : Nat → Nat → Int32} {x : Nat} {T : St}
theorem cx_isTypeable (S : PS) (s : Int32) : f_X9_isTypeable S s = some (bi (tyS s)) := by
  unfold f_X9_isTypeable tyS
  simp only [cx_isLetter, cx_isDigit, Option.bind_some, lt, bi_eq0]
  cases isL s
  · cases isD s
    · by_cases h1 : s = 32
      · simp [h1, bi]
      · by_cases h2 : s = 42
        · simp [h2, bi]
        · by_cases h3 : s = 35
          · simp [h3, bi]
          · by_cases h4 : s = 45
            · simp [h4, bi]
            · simp [h1, h2, h3, h4, bi]
    · rfl
  · rfl
theorem cx_isTextSign (S : PS) (s : Int32) : f_X9_isTextSign S s = some (bi (txS s)) := by
  unfold f_X9_isTextSign txS
  simp only [cx_isLetter, cx_isDigit, Option.bind_some, lt, bi_eq0]
  cases isL s
  · cases isD s
    · by_cases h1 : s = 32
      · simp [h1, bi]
      · by_cases h2 : s = 46
        · simp [h2, bi]
        · by_cases h3 : s = 34
          · simp [h3, bi]
          · by_cases h4 : s = 47
            · simp [h4, bi]
            · simp [h1, h2, h3, h4, bi]
    · rfl
  · rfl
theorem cx_isWriter (S : PS) (w : Int32) : f_X9_isWriter S w = some (bi (ix w 4).isSome) := by
  unfold f_X9_isWriter
  rw [show (4 : Int32) = nI 4 from rfl]
  cases h : ix w 4 with
  | none =>
    rcases ix_none h with h | h
    · rw [if_pos h]; rfl
    · by_cases h0 : w < 0
      · rw [if_pos h0]; rfl
      · rw [if_neg h0, if_pos h]; rfl
  | some q =>
    obtain ⟨h1, rfl⟩ := ix_some (by decide) h
    rw [if_neg (nI_pos (by omega)), if_neg (show ¬ nI 4 ≤ nI q by rw [nI_leI (by decide) (by omega)]; omega)]
    rfl
theorem ci_type (hI : cI S I x T) (hw : wf T) (c : Int32) : cV S I x T (f_X9_type (sI S I) x c) (a_type T c) := by
  obtain ⟨hS, hB, R, F, hM, hT, hC⟩ := id hI
  obtain ⟨a1, a2⟩ := id hT
  have hw1 := hw.1.1
  unfold f_X9_type a_type
  simp only [cx_isTypeable, Option.bind_some, bi_eq0]
  cases hc : tyS c
  · exact ⟨I, rfl, ou.rf, hI⟩
  · rw [if_neg (by decide), if_pos rfl]
    simp only [kK_sI, kQ_sI, kN_sI, kZ_sI, kI_sI, wI_sI, if_true, Option.bind_some, lt, cK_0 hS, cQ_0_0 hS, cQ_0_1 hS, cQ_0_2 hS, cQ_0_3 hS, cQ_0_4 hS, cQ_0_5 hS, cQ_0_6 hS, cR9_1 hS, cR9_77 hS, cm_count hS hM (k := 1) (by decide), a1, show (20 : Int32) = nI 20 from rfl, nI_ltI (show T.1.length < 2 ^ 31 by omega) (show 20 < 2 ^ 31 by decide)]
    by_cases hl : T.1.length < 20
    · rw [if_pos hl, if_pos hl]
      obtain ⟨J, g, m, u⟩ := cm_add hS hM (k := 1) (by decide) (by rw [a1]; exact hl) c
      rw [g]
      simp only [kK_sI, kQ_sI, kN_sI, kZ_sI, kI_sI, wI_sI, if_true, Option.bind_some, lt, cK_0 hS, cQ_0_0 hS, cQ_0_1 hS, cQ_0_2 hS, cQ_0_3 hS, cQ_0_4 hS, cQ_0_5 hS, cQ_0_6 hS, cR9_1 hS, cR9_77 hS, cm_count hS m (k := 1) (by decide), uR_eq, a1]
      refine ⟨J, by simp, u, hS, hB.kept u, _, F, m, ⟨by rw [uR_eq, a1], ?_⟩, ?_⟩
      · refine ⟨a2.1, a2.2.1, a2.2.2.1, a2.2.2.2.1, a2.2.2.2.2.1, a2.2.2.2.2.2.1, fun d hd => ?_⟩
        have hl := dO_lt d
        obtain ⟨b1, b2, b3, b4, b5, b6⟩ := a2.2.2.2.2.2.2 d hd
        refine ⟨?_, b2, b3, ?_, ?_, ?_⟩ <;> rw [uR_ne (by omega)] <;> assumption
      · exact hC
    · rw [if_neg hl, if_neg hl]
      exact ⟨I, rfl, ou.rf, hI⟩
theorem cT_wipe {R : Nat → List Int32} {F : Nat → Nat → Int32} (hT : cT T R F) : cT (uWipe T) (uR R 1 []) F := by
  obtain ⟨a1, a2⟩ := hT
  refine ⟨uR_eq _ _ _, a2.1, a2.2.1, a2.2.2.1, a2.2.2.2.1, a2.2.2.2.2.1, a2.2.2.2.2.2.1, fun d hd => ?_⟩
  have hl := dO_lt d
  obtain ⟨b1, b2, b3, b4, b5, b6⟩ := a2.2.2.2.2.2.2 d hd
  refine ⟨?_, b2, b3, ?_, ?_, ?_⟩ <;> rw [uR_ne (by omega)] <;> assumption
theorem ci_wipe (hI : cI S I x T) : ∃ J, f_X9_wipe (sI S I) x = some (sI S J, nI T.1.length) ∧ ou I J x ∧ cI S J x (uWipe T) := by
  obtain ⟨hS, hB, R, F, hM, hT, hC⟩ := id hI
  unfold f_X9_wipe
  simp only [kK_sI, kQ_sI, kN_sI, kZ_sI, kI_sI, wI_sI, if_true, Option.bind_some, lt, cK_0 hS, cQ_0_0 hS, cQ_0_1 hS, cQ_0_2 hS, cQ_0_3 hS, cQ_0_4 hS, cQ_0_5 hS, cQ_0_6 hS, cR9_1 hS, cR9_77 hS, cm_count hS hM (k := 1) (by decide), hT.1]
  obtain ⟨J, g, m, u⟩ := cm_clear hS hM (k := 1) (by decide)
  rw [g]
  exact ⟨J, rfl, u, hS, hB.kept u, _, F, m, cT_wipe hT, hC⟩
theorem ci_length (hI : cI S I x T) : f_X9_length (sI S I) x = some (nI T.2.1.length) := by
  obtain ⟨hS, hB, R, F, hM, hT, hC⟩ := id hI
  unfold f_X9_length
  simp only [kK_sI, kQ_sI, kN_sI, kZ_sI, kI_sI, wI_sI, if_true, Option.bind_some, lt, cK_0 hS, cQ_0_0 hS, cQ_0_1 hS, cQ_0_2 hS, cQ_0_3 hS, cQ_0_4 hS, cQ_0_5 hS, cQ_0_6 hS, cR9_1 hS, cR9_77 hS, cK_3 hS, cQ_3_0 hS, cQ_3_1 hS, cQ_3_2 hS, cR9_4 hS, cR9_6 hS, cR9_8 hS, cm_count hS hM (k := 4) (by decide), hT.2.1]
theorem ci_paragraphs (hI : cI S I x T) : f_X9_paragraphs (sI S I) x = some (nI T.2.2.2.1.length) := by
  obtain ⟨hS, hB, R, F, hM, hT, hC⟩ := id hI
  unfold f_X9_paragraphs
  simp only [kK_sI, kQ_sI, kN_sI, kZ_sI, kI_sI, wI_sI, if_true, Option.bind_some, lt, cK_0 hS, cQ_0_0 hS, cQ_0_1 hS, cQ_0_2 hS, cQ_0_3 hS, cQ_0_4 hS, cQ_0_5 hS, cQ_0_6 hS, cR9_1 hS, cR9_77 hS, cK_3 hS, cQ_3_0 hS, cQ_3_1 hS, cQ_3_2 hS, cR9_4 hS, cR9_6 hS, cR9_8 hS, cm_count hS hM (k := 8) (by decide), hT.2.2.2.1]
theorem ci_put (hI : cI S I x T) (hw : wf T) (p c w : Int32) : cV S I x T (f_X9_put (sI S I) x p c w) (a_put T p c w) := by
  obtain ⟨hS, hB, R, F, hM, hT, hC⟩ := id hI
  have hw2 := hw.2.1
  unfold f_X9_put a_put
  simp only [kK_sI, kQ_sI, kN_sI, kZ_sI, kI_sI, wI_sI, if_true, Option.bind_some, lt, cK_0 hS, cQ_0_0 hS, cQ_0_1 hS, cQ_0_2 hS, cQ_0_3 hS, cQ_0_4 hS, cQ_0_5 hS, cQ_0_6 hS, cR9_1 hS, cR9_77 hS, cK_3 hS, cQ_3_0 hS, cQ_3_1 hS, cQ_3_2 hS, cR9_4 hS, cR9_6 hS, cR9_8 hS, cm_count hS hM (k := 4) (by decide), hT.2.1, cx_isTextSign, cx_isWriter, bi_eq0]
  cases hp : ix p (T.2.1.length + 1) with
  | none =>
    have : cV S I x T (some (.inr (sI S I, 3))) (.inr 3) := ⟨I, rfl, ou.rf, hI⟩
    rcases ix_none hp with h | h
    · rw [if_pos h]; exact this
    · by_cases h0 : p < 0
      · rw [if_pos h0]; exact this
      · rw [if_neg h0, if_neg (fun z => by
          obtain ⟨q, hq, rfl⟩ := nI_of h0
          rw [nI_leI (by omega) hq] at h
          rw [nI_leI hq (by omega)] at z
          omega)]
        exact this
  | some q =>
    obtain ⟨h1, rfl⟩ := ix_some (by omega) hp
    rw [if_neg (nI_pos (by omega)), if_pos ((nI_leI (by omega) (by omega)).mpr (by omega))]
    simp only
    cases hc : txS c
    · exact ⟨I, rfl, ou.rf, hI⟩
    · rw [if_neg (by decide)]
      cases hw4 : (ix w 4).isSome
      · exact ⟨I, rfl, ou.rf, hI⟩
      · rw [if_neg (by decide), show (160 : Int32) = nI 160 from rfl]
        simp only [and_self, if_true, nI_ltI (show T.2.1.length < 2 ^ 31 by omega) (show 160 < 2 ^ 31 by decide)]
        by_cases hl : T.2.1.length < 160
        · rw [if_pos hl, if_pos hl]
          obtain ⟨J, R2, F2, g, u, hM2, hT2, hC2, -⟩ := cx_putIn hS hM hT hw (p := q) (by omega) hl c w
          have hJ : cI S J x (uPut T q c w) := ⟨hS, hB.kept u, R2, F2, hM2, hT2, hC2⟩
          rw [g]
          simp only [kK_sI, kQ_sI, kN_sI, kZ_sI, kI_sI, wI_sI, if_true, Option.bind_some, lt, cK_0 hS, cQ_0_0 hS, cQ_0_1 hS, cQ_0_2 hS, cQ_0_3 hS, cQ_0_4 hS, cQ_0_5 hS, cQ_0_6 hS, cR9_1 hS, cR9_77 hS, cK_3 hS, cQ_3_0 hS, cQ_3_1 hS, cQ_3_2 hS, cR9_4 hS, cR9_6 hS, cR9_8 hS, cm_count hS hM2 (k := 4) (by decide), hT2.2.1]
          refine ⟨J, ?_, u, hJ⟩
          rw [show (uPut T q c w).2.1 = T.2.1.insertIdx q c from rfl, List.length_insertIdx, if_pos (by omega)]
        · rw [if_neg hl, if_neg hl]
          exact ⟨I, rfl, ou.rf, hI⟩
theorem cx_needPlace (hI : cI S I x T) (hw : wf T) (p : Int32) : f_X9_needPlace (sI S I) x p = some (match ix p T.2.1.length with | none => .inr (sI S I, 3) | some _ => .inl (sI S I)) := by
  obtain ⟨hS, hB, R, F, hM, hT, hC⟩ := id hI
  have hw2 := hw.2.1
  unfold f_X9_needPlace
  simp only [kK_sI, kQ_sI, kN_sI, kZ_sI, kI_sI, wI_sI, if_true, Option.bind_some, lt, cK_0 hS, cQ_0_0 hS, cQ_0_1 hS, cQ_0_2 hS, cQ_0_3 hS, cQ_0_4 hS, cQ_0_5 hS, cQ_0_6 hS, cR9_1 hS, cR9_77 hS, cK_3 hS, cQ_3_0 hS, cQ_3_1 hS, cQ_3_2 hS, cR9_4 hS, cR9_6 hS, cR9_8 hS, cm_count hS hM (k := 4) (by decide), hT.2.1]
  cases hp : ix p T.2.1.length with
  | none =>
    rcases ix_none hp with h | h
    · rw [if_pos h]
    · by_cases h0 : p < 0
      · rw [if_pos h0]
      · rw [if_neg h0, if_neg (Int32.not_lt.mpr h)]
  | some q =>
    obtain ⟨h1, rfl⟩ := ix_some (by omega) hp
    rw [if_neg (nI_pos (by omega)), if_pos ((nI_ltI (by omega) (by omega)).mpr h1)]
theorem ci_take (hI : cI S I x T) (hw : wf T) (p : Int32) : cV S I x T (f_X9_take (sI S I) x p) (a_take T p) := by
  obtain ⟨hS, hB, R, F, hM, hT, hC⟩ := id hI
  have hw2 := hw.2.1
  unfold f_X9_take a_take
  simp only [kK_sI, kQ_sI, kN_sI, kZ_sI, kI_sI, wI_sI, if_true, Option.bind_some, lt, cK_0 hS, cx_needPlace hI hw]
  cases hp : ix p T.2.1.length with
  | none => exact ⟨I, rfl, ou.rf, hI⟩
  | some q =>
    obtain ⟨h1, rfl⟩ := ix_some (by omega) hp
    simp only [bx2_l, bx2_r, bx1_l, bx1_r, kK_sI, cK_0 hS, if_true]
    obtain ⟨J, R2, F2, g, u, hM2, hT2, hC2, -⟩ := cx_takeOut hS hM hT hw h1
    have hJ : cI S J x (uTake T q) := ⟨hS, hB.kept u, R2, F2, hM2, hT2, hC2⟩
    rw [g]
    simp only [Option.bind_some, if_pos (char_id (Or.inl (hw.2.2.1 q h1))).2]
    exact ⟨J, rfl, u, hJ⟩
theorem ci_at (hI : cI S I x T) (hw : wf T) (p : Int32) : cV S I x T (f_X9_at (sI S I) x p) (a_at T p) := by
  obtain ⟨hS, hB, R, F, hM, hT, hC⟩ := id hI
  have hw2 := hw.2.1
  unfold f_X9_at a_at
  simp only [kK_sI, kQ_sI, kN_sI, kZ_sI, kI_sI, wI_sI, if_true, Option.bind_some, lt, cK_0 hS, cx_needPlace hI hw]
  cases hp : ix p T.2.1.length with
  | none => exact ⟨I, rfl, ou.rf, hI⟩
  | some q =>
    obtain ⟨h1, rfl⟩ := ix_some (by omega) hp
    have hc := char_id (Or.inl (hw.2.2.1 q h1))
    simp only [bx2_l, bx2_r, bx1_l, bx1_r, kK_sI, kQ_sI, kN_sI, kZ_sI, kI_sI, wI_sI, if_true, Option.bind_some, lt, cK_0 hS, cQ_0_0 hS, cQ_0_1 hS, cQ_0_2 hS, cQ_0_3 hS, cQ_0_4 hS, cQ_0_5 hS, cQ_0_6 hS, cR9_1 hS, cR9_77 hS, cK_3 hS, cQ_3_0 hS, cQ_3_1 hS, cQ_3_2 hS, cR9_4 hS, cR9_6 hS, cR9_8 hS, cm_getn hS hM (k := 4) (by decide) (show q < 2 ^ 31 by omega), hT.2.1, hc.1, hc.2]
    exact ⟨I, rfl, ou.rf, hI⟩
end
