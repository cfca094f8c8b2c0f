/-! bits -/
def mk (r : Nat) : Int32 := (1 : Int32) <<< (nI r &&& 31)
def tb (v : Int32) (r : Nat) : Bool := decide (¬ (v &&& mk r) = 0)
theorem mk_bv : ∀ r, r < 32 → (mk r).toBitVec = BitVec.twoPow 32 r := by decide +kernel
theorem tb_bit {v : Int32} {r : Nat} (hr : r < 32) : tb v r = v.toBitVec.getLsbD r := by
  have e : (v &&& mk r) = 0 ↔ v.toBitVec.getLsbD r = false := by
    rw [← Int32.toBitVec_inj, Int32.toBitVec_and, mk_bv r hr, BitVec.and_twoPow]
    cases h : v.toBitVec.getLsbD r
    · simp
    · simp only [if_true, Bool.true_eq_false, iff_false]
      intro e
      have := congrArg (fun b => BitVec.getLsbD b r) e
      simp [BitVec.getLsbD_twoPow, hr] at this
  unfold tb
  simp only [e]
  cases v.toBitVec.getLsbD r <;> rfl
theorem tb_or {v w : Int32} {r : Nat} (hr : r < 32) : tb (v ||| w) r = (tb v r || tb w r) := by
  rw [tb_bit hr, tb_bit hr, tb_bit hr, Int32.toBitVec_or, BitVec.getLsbD_or]
theorem tb_and {v w : Int32} {r : Nat} (hr : r < 32) : tb (v &&& w) r = (tb v r && tb w r) := by
  rw [tb_bit hr, tb_bit hr, tb_bit hr, Int32.toBitVec_and, BitVec.getLsbD_and]
theorem tb_mk {j r : Nat} (hj : j < 32) (hr : r < 32) : tb (mk j) r = decide (r = j) := by
  rw [tb_bit hr, mk_bv j hj, BitVec.getLsbD_twoPow]
  by_cases e : r = j
  · subst e; simp [hr]
  · simp [e, Ne.symm e]
theorem tb_not {w : Int32} {r : Nat} (hr : r < 32) : tb (w ^^^ (-1)) r = !tb w r := by
  rw [tb_bit hr, tb_bit hr, Int32.toBitVec_xor, BitVec.getLsbD_xor, show (-1 : Int32).toBitVec = BitVec.allOnes 32 from by decide +kernel, BitVec.getLsbD_allOnes]
  simp [hr]
theorem tb_0 (r : Nat) : tb 0 r = false := by
  unfold tb
  simp
theorem mk_20 : (1048576 : Int32) = mk 20 := by decide +kernel
theorem tb_ne {v : Int32} {r : Nat} : (v &&& mk r) = 0 ↔ tb v r = false := by
  unfold tb
  simp
theorem tb_ext {v w : Int32} (h : ∀ r, r < 32 → tb v r = tb w r) : v = w := by
  rw [← Int32.toBitVec_inj]
  apply BitVec.eq_of_getLsbD_eq
  intro i hi
  rw [← tb_bit hi, ← tb_bit hi, h i hi]
/-! what is read of a token, by its number -/
def tF (ts : List Tk) (j : Nat) : Nat := match ts[j]? with | none => 0 | some t => t.1
def tE (ts : List Tk) (j : Nat) : Nat := match ts[j]? with | none => 0 | some t => t.2.1
def tW (ts : List Tk) (j : Nat) : Bool := match ts[j]? with | none => false | some t => t.2.2.1
def tN (ts : List Tk) (j : Nat) : Bool := match ts[j]? with | none => false | some t => !t.2.2.1
def tV (ts : List Tk) (j : Nat) : Nat := match ts[j]? with | none => 0 | some t => t.2.2.2.1
def tQ (ts : List Tk) (j : Nat) : Bool := match ts[j]? with | none => false | some t => t.2.2.2.2.1
def t1 (ts : List Tk) (j : Nat) : Bool := match ts[j]? with | none => false | some t => t.2.2.2.2.2.1
def tA (ts : List Tk) (j : Nat) : Option Nat := match ts[j]? with | none => none | some t => t.2.2.2.2.2.2
/-- the tokens are well formed -/
def wT (ts : List Tk) : Prop := ts.length ≤ 160 ∧ ∀ (j : Nat) (t : Tk), ts[j]? = some t → t.1 < t.2.1 ∧ t.2.1 ≤ 160 ∧ t.2.2.2.1 ≤ 100 ∧ ∀ i, t.2.2.2.2.2.2 = some i → i < j
def tS (ts : List Tk) (j : Nat) : Nat := tE ts j - tF ts j
/-- whether a token begins with these letters, whether it is this word -/
def bg (t : List Int32) (ts : List Tk) (j : Nat) (l : List Int32) : Bool := decide (l.length ≤ tS ts j ∧ ∀ i, i < l.length → la t (tF ts j + i) = la l i)
def iT (t : List Int32) (ts : List Tk) (l : List Int32) (j : Nat) : Bool := decide (j < ts.length ∧ tS ts j = l.length ∧ ∀ i, i < l.length → la t (tF ts j + i) = la l i)
def gO (t : List Int32) (ts : List Tk) (j : Nat) : Bool := decide (j + 1 < ts.length ∧ la t (tE ts j) = 32 ∧ tF ts (j + 1) = tE ts j + 1)
def fI (t : List Int32) (ts : List Tk) (v : Iv) (j : Nat) : Bool := if v.1 = true then tN ts j else (tW ts j && bg t ts j v.2.2 && (v.2.1 || decide (tS ts j = v.2.2.length)))
theorem wT.fe {ts : List Tk} (h : wT ts) (j : Nat) : tF ts j ≤ tE ts j ∧ tE ts j ≤ 160 := by
  unfold tF tE
  cases e : ts[j]? with
  | none => simp
  | some t => have := h.2 j t e; simp only; omega
theorem wT.v {ts : List Tk} (h : wT ts) (j : Nat) : tV ts j ≤ 100 := by
  unfold tV
  cases e : ts[j]? with
  | none => simp
  | some t => have := h.2 j t e; simp only; omega
section
variable {S : PS} {I : Nat → Nat → Int32} {x : Nat} {R : Nat → List Int32} {F : Nat → Nat → Int32} {ts : List Tk} {t : List Int32}
theorem la_froms (hT : tM R ts) (j : Nat) : la (R 11) j = nI (tF ts j) := by
  rw [hT.1, la_map]; unfold tF; cases ts[j]? <;> rfl
theorem la_ends (hT : tM R ts) (j : Nat) : la (R 13) j = nI (tE ts j) := by
  rw [hT.2.1, la_map]; unfold tE; cases ts[j]? <;> rfl
theorem la_quoted (hT : tM R ts) (j : Nat) : la (R 19) j = bi (tQ ts j) := by
  rw [hT.2.2.2.2.1, la_map]; unfold tQ; cases ts[j]? <;> rfl
theorem la_first (hT : tM R ts) (j : Nat) : la (R 21) j = bi (t1 ts j) := by
  rw [hT.2.2.2.2.2.1, la_map]; unfold t1; cases ts[j]? <;> rfl
theorem la_values (hT : tM R ts) (j : Nat) : la (R 17) j = nI (tV ts j) := by
  rw [hT.2.2.2.1, la_map]; unfold tV; cases ts[j]? <;> rfl
theorem la_word (hT : tM R ts) (j : Nat) : (if la (R 15) j = 1 then some (1 : Int32) else some 0) = some (bi (tW ts j)) := by
  rw [hT.2.2.1, la_map]; unfold tW
  cases ts[j]? with
  | none => rfl
  | some u => rcases Bool.eq_false_or_eq_true u.2.2.1 with h | h <;> simp [h, bi]
theorem la_num (hT : tM R ts) (j : Nat) : (if la (R 15) j = 2 then some (1 : Int32) else some 0) = some (bi (tN ts j)) := by
  rw [hT.2.2.1, la_map]; unfold tN
  cases ts[j]? with
  | none => rfl
  | some u => rcases Bool.eq_false_or_eq_true u.2.2.1 with h | h <;> simp [h, bi]
theorem la_ahead (hT : tM R ts) {j : Nat} (hj : j < ts.length) : la (R 23) j = oI (tA ts j) := by
  rw [hT.2.2.2.2.2.2, la_map]; unfold tA
  rw [List.getElem?_eq_getElem hj]
theorem bi_if (b : Bool) : (if bi b = 1 then some (1 : Int32) else some 0) = some (bi b) := by cases b <;> rfl
theorem ct_len (hT : tM R ts) : (R 11).length = ts.length := by rw [hT.1, List.length_map]
theorem ct_count (hS : cS S x) (hM : cM I x R F) (hT : tM R ts) : f_X8_count (sI S I) (x + 10) = some (nI ts.length) := by rw [cx_count hS hM, ct_len hT]
theorem ct_isQuoted (hS : cS S x) (hM : cM I x R F) (hT : tM R ts) {j : Nat} (hj : j < 2 ^ 31) : f_X8_isQuoted (sI S I) (x + 10) (nI j) = some (bi (tQ ts j)) := by
  unfold f_X8_isQuoted
  simp only [kK_sI, kQ_sI, kN_sI, kZ_sI, kI_sI, wI_sI, if_true, Option.bind_some, lt, cK_10 hS, cQ_10_0 hS, cQ_10_1 hS, cQ_10_2 hS, cQ_10_3 hS, cQ_10_4 hS, cQ_10_5 hS, cQ_10_6 hS, cQ_10_7 hS, cR9_4 hS, cR9_11 hS, cR9_13 hS, cR9_15 hS, cR9_17 hS, cR9_19 hS, cR9_21 hS, cR9_23 hS, cm_getn hS hM (k := 19) (by decide) hj, la_quoted hT, bi_if]
theorem ct_isFirst (hS : cS S x) (hM : cM I x R F) (hT : tM R ts) {j : Nat} (hj : j < 2 ^ 31) : f_X8_isFirst (sI S I) (x + 10) (nI j) = some (bi (t1 ts j)) := by
  unfold f_X8_isFirst
  simp only [kK_sI, kQ_sI, kN_sI, kZ_sI, kI_sI, wI_sI, if_true, Option.bind_some, lt, cK_10 hS, cQ_10_0 hS, cQ_10_1 hS, cQ_10_2 hS, cQ_10_3 hS, cQ_10_4 hS, cQ_10_5 hS, cQ_10_6 hS, cQ_10_7 hS, cR9_4 hS, cR9_11 hS, cR9_13 hS, cR9_15 hS, cR9_17 hS, cR9_19 hS, cR9_21 hS, cR9_23 hS, cm_getn hS hM (k := 21) (by decide) hj, la_first hT, bi_if]
theorem ct_isWord (hS : cS S x) (hM : cM I x R F) (hT : tM R ts) {j : Nat} (hj : j < 2 ^ 31) : f_X8_isWord (sI S I) (x + 10) (nI j) = some (bi (tW ts j)) := by
  unfold f_X8_isWord
  simp only [kK_sI, kQ_sI, kN_sI, kZ_sI, kI_sI, wI_sI, if_true, Option.bind_some, lt, cK_10 hS, cQ_10_0 hS, cQ_10_1 hS, cQ_10_2 hS, cQ_10_3 hS, cQ_10_4 hS, cQ_10_5 hS, cQ_10_6 hS, cQ_10_7 hS, cR9_4 hS, cR9_11 hS, cR9_13 hS, cR9_15 hS, cR9_17 hS, cR9_19 hS, cR9_21 hS, cR9_23 hS, cm_getn hS hM (k := 15) (by decide) hj, la_word hT]
theorem ct_isNumber (hS : cS S x) (hM : cM I x R F) (hT : tM R ts) {j : Nat} (hj : j < 2 ^ 31) : f_X8_isNumber (sI S I) (x + 10) (nI j) = some (bi (tN ts j)) := by
  unfold f_X8_isNumber
  simp only [kK_sI, kQ_sI, kN_sI, kZ_sI, kI_sI, wI_sI, if_true, Option.bind_some, lt, cK_10 hS, cQ_10_0 hS, cQ_10_1 hS, cQ_10_2 hS, cQ_10_3 hS, cQ_10_4 hS, cQ_10_5 hS, cQ_10_6 hS, cQ_10_7 hS, cR9_4 hS, cR9_11 hS, cR9_13 hS, cR9_15 hS, cR9_17 hS, cR9_19 hS, cR9_21 hS, cR9_23 hS, cm_getn hS hM (k := 15) (by decide) hj, la_num hT]
theorem ct_valueOf (hS : cS S x) (hM : cM I x R F) (hT : tM R ts) {j : Nat} (hj : j < 2 ^ 31) : f_X8_valueOf (sI S I) (x + 10) (nI j) = some (nI (tV ts j)) := by
  unfold f_X8_valueOf
  simp only [kK_sI, kQ_sI, kN_sI, kZ_sI, kI_sI, wI_sI, if_true, Option.bind_some, lt, cK_10 hS, cQ_10_0 hS, cQ_10_1 hS, cQ_10_2 hS, cQ_10_3 hS, cQ_10_4 hS, cQ_10_5 hS, cQ_10_6 hS, cQ_10_7 hS, cR9_4 hS, cR9_11 hS, cR9_13 hS, cR9_15 hS, cR9_17 hS, cR9_19 hS, cR9_21 hS, cR9_23 hS, cm_getn hS hM (k := 17) (by decide) hj, la_values hT]
theorem ct_aheadOf (hS : cS S x) (hM : cM I x R F) (hT : tM R ts) {j : Nat} (hj : j < ts.length) (hj3 : j < 2 ^ 31) : f_X8_aheadOf (sI S I) (x + 10) (nI j) = some (oI (tA ts j)) := by
  unfold f_X8_aheadOf
  simp only [kK_sI, kQ_sI, kN_sI, kZ_sI, kI_sI, wI_sI, if_true, Option.bind_some, lt, cK_10 hS, cQ_10_0 hS, cQ_10_1 hS, cQ_10_2 hS, cQ_10_3 hS, cQ_10_4 hS, cQ_10_5 hS, cQ_10_6 hS, cQ_10_7 hS, cR9_4 hS, cR9_11 hS, cR9_13 hS, cR9_15 hS, cR9_17 hS, cR9_19 hS, cR9_21 hS, cR9_23 hS, cm_getn hS hM (k := 23) (by decide) hj3, la_ahead hT hj]
theorem ct_fromOf (hS : cS S x) (hM : cM I x R F) (hT : tM R ts) {j : Nat} (hj : j < 2 ^ 31) : f_X8_fromOf (sI S I) (x + 10) (nI j) = some (nI (tF ts j)) := by
  unfold f_X8_fromOf
  simp only [kK_sI, kQ_sI, kN_sI, kZ_sI, kI_sI, wI_sI, if_true, Option.bind_some, lt, cK_10 hS, cQ_10_0 hS, cQ_10_1 hS, cQ_10_2 hS, cQ_10_3 hS, cQ_10_4 hS, cQ_10_5 hS, cQ_10_6 hS, cQ_10_7 hS, cR9_4 hS, cR9_11 hS, cR9_13 hS, cR9_15 hS, cR9_17 hS, cR9_19 hS, cR9_21 hS, cR9_23 hS, cm_getn hS hM (k := 11) (by decide) hj, la_froms hT]
theorem ct_endOf (hS : cS S x) (hM : cM I x R F) (hT : tM R ts) {j : Nat} (hj : j < 2 ^ 31) : f_X8_endOf (sI S I) (x + 10) (nI j) = some (nI (tE ts j)) := by
  unfold f_X8_endOf
  simp only [kK_sI, kQ_sI, kN_sI, kZ_sI, kI_sI, wI_sI, if_true, Option.bind_some, lt, cK_10 hS, cQ_10_0 hS, cQ_10_1 hS, cQ_10_2 hS, cQ_10_3 hS, cQ_10_4 hS, cQ_10_5 hS, cQ_10_6 hS, cQ_10_7 hS, cR9_4 hS, cR9_11 hS, cR9_13 hS, cR9_15 hS, cR9_17 hS, cR9_19 hS, cR9_21 hS, cR9_23 hS, cm_getn hS hM (k := 13) (by decide) hj, la_ends hT]
theorem ct_lengthOf (hS : cS S x) (hM : cM I x R F) (hT : tM R ts) (hw : wT ts) {j : Nat} (hj : j < 2 ^ 31) : f_X8_lengthOf (sI S I) (x + 10) (nI j) = some (nI (tS ts j)) := by
  unfold f_X8_lengthOf
  simp only [kK_sI, kQ_sI, kN_sI, kZ_sI, kI_sI, wI_sI, if_true, Option.bind_some, lt, cK_10 hS, cQ_10_0 hS, cQ_10_1 hS, cQ_10_2 hS, cQ_10_3 hS, cQ_10_4 hS, cQ_10_5 hS, cQ_10_6 hS, cQ_10_7 hS, cR9_4 hS, cR9_11 hS, cR9_13 hS, cR9_15 hS, cR9_17 hS, cR9_19 hS, cR9_21 hS, cR9_23 hS, cm_getn hS hM (k := 13) (by decide) hj, cm_getn hS hM (k := 11) (by decide) hj, la_ends hT, la_froms hT, pk_sub (hw.fe j).1, tS]
theorem dW.count {h : Nat} {l : List Int32} (hd : dW S I x h l) : f_X5_count (sI S I) h = some (nI l.length) := by
  obtain ⟨c, h1, h2, h3, h4⟩ := hd
  exact rw_count h1 h2
theorem dW.get {h : Nat} {l : List Int32} (hd : dW S I x h l) {j : Nat} (hj : j < 2 ^ 31) : f_X5_get (sI S I) h (nI j) = some (la l j) := by
  obtain ⟨c, h1, h2, h3, h4⟩ := hd
  exact rw_getn h1 h2 h3 hj
theorem dW.k {h : Nat} {l : List Int32} (hd : dW S I x h l) : kK S h = 9 := by
  obtain ⟨c, h1, h2, h3, h4⟩ := hd
  exact h1.1
theorem dW.n {h : Nat} {l : List Int32} (hd : dW S I x h l) : l.length ≤ 1000 := by
  obtain ⟨c, h1, h2, h3, h4⟩ := hd
  have := h1.2.2.2.2
  omega
theorem ct_begins (hS : cS S x) (hM : cM I x R F) (hT : tM R ts) (hw : wT ts) (h4 : R 4 = t) {j : Nat} (hj : j < 2 ^ 31) {h : Nat} {l : List Int32} (hd : dW S I x h l) : f_X8_begins (sI S I) (x + 10) (nI j) h = some (bi (bg t ts j l)) := by
  have hfe := hw.fe j
  have hn := hd.n
  unfold f_X8_begins
  simp only [kK_sI, kQ_sI, kN_sI, kZ_sI, kI_sI, wI_sI, if_true, Option.bind_some, lt, cK_10 hS, cQ_10_0 hS, cQ_10_1 hS, cQ_10_2 hS, cQ_10_3 hS, cQ_10_4 hS, cQ_10_5 hS, cQ_10_6 hS, cQ_10_7 hS, cR9_4 hS, cR9_11 hS, cR9_13 hS, cR9_15 hS, cR9_17 hS, cR9_19 hS, cR9_21 hS, cR9_23 hS, cm_getn hS hM (k := 13) (by decide) hj, cm_getn hS hM (k := 11) (by decide) hj, la_ends hT, la_froms hT, pk_sub (hw.fe j).1, hd.k, hd.count, nI_leI (show l.length < 2 ^ 31 by omega) (show tE ts j - tF ts j < 2 ^ 31 by omega)]
  unfold bg tS
  by_cases hle : l.length ≤ tE ts j - tF ts j
  · rw [if_pos hle]
    obtain ⟨z, e1, q⟩ := it_up (b := fun (v : Int32) => f_X8_begins_b31 (x + 10) h (nI (tF ts j)) (sI S I) v) l.length
      (P := fun i s => s = nI i ∧ ∀ i', i' < i → la t (tF ts j + i') = la l i')
      (Q := fun z => (z = .inl () ∧ ∀ i', i' < l.length → la t (tF ts j + i') = la l i') ∨ (z = .inr () ∧ ¬ ∀ i', i' < l.length → la t (tF ts j + i') = la l i'))
      (fun i s hi ⟨e, hp⟩ => by
        subst e
        unfold f_X8_begins_b31
        simp only [hd.count, kK_sI, kQ_sI, kN_sI, kZ_sI, kI_sI, wI_sI, if_true, Option.bind_some, lt, cK_10 hS, cQ_10_0 hS, cQ_10_1 hS, cQ_10_2 hS, cQ_10_3 hS, cQ_10_4 hS, cQ_10_5 hS, cQ_10_6 hS, cQ_10_7 hS, cR9_4 hS, cR9_11 hS, cR9_13 hS, cR9_15 hS, cR9_17 hS, cR9_19 hS, cR9_21 hS, cR9_23 hS, nI_leI (show l.length < 2 ^ 31 by omega) (show i < 2 ^ 31 by omega), if_neg (show ¬ l.length ≤ i by omega), nI_add, cm_getn hS hM (k := 4) (by decide) (show tF ts j + i < 2 ^ 31 by omega), h4, hd.get (show i < 2 ^ 31 by omega)]
        by_cases e : la t (tF ts j + i) = la l i
        · rw [if_pos e]
          refine Or.inl ⟨_, rfl, nI_1 i, fun i' hi' => ?_⟩
          by_cases e2 : i' = i
          · subst e2; exact e
          · exact hp i' (by omega)
        · rw [if_neg e]
          exact Or.inr ⟨_, rfl, Or.inr ⟨rfl, fun q => e (q i hi)⟩⟩)
      (fun s ⟨e, hp⟩ => by
        subst e
        unfold f_X8_begins_b31
        simp only [hd.count, kK_sI, kQ_sI, kN_sI, kZ_sI, kI_sI, wI_sI, if_true, Option.bind_some, lt, if_pos (show nI l.length ≤ nI l.length from (nI_leI (show l.length < 2 ^ 31 by omega) (by omega)).mpr (Nat.le_refl _))]
        exact ⟨_, rfl, Or.inl ⟨rfl, hp⟩⟩)
      0 0 ⟨nI_0.symm, fun i' hi' => absurd hi' (Nat.not_lt_zero _)⟩ (by omega) kF (kF_big (by omega))
    rw [e1]
    rcases q with ⟨rfl, q⟩ | ⟨rfl, q⟩
    · rw [decide_eq_true ⟨hle, q⟩]; rfl
    · rw [decide_eq_false (fun z => q z.2)]; rfl
  · rw [if_neg hle, decide_eq_false (fun z => hle z.1)]; rfl
theorem ct_isThe (hS : cS S x) (hM : cM I x R F) (hT : tM R ts) (hw : wT ts) (h4 : R 4 = t) {j : Nat} (hj : j < 2 ^ 31) {h : Nat} {l : List Int32} (hd : dW S I x h l) : f_X8_isThe (sI S I) (x + 10) h (nI j) = some (bi (iT t ts l j)) := by
  have hfe := hw.fe j
  have hn := hd.n
  have hn2 := hw.1
  unfold f_X8_isThe
  rw [if_neg (nI_pos hj), kK_sI, if_pos (cK_10 hS), ct_count hS hM hT, Option.bind_some]
  simp only [nI_leI (show ts.length < 2 ^ 31 by omega) hj, ct_lengthOf hS hM hT hw hj, Option.bind_some, if_pos hd.k, hd.count, nI_eq (show tS ts j < 2 ^ 31 by unfold tS; omega) (show l.length < 2 ^ 31 by omega), ct_begins hS hM hT hw h4 hj hd]
  unfold iT
  by_cases h1 : ts.length ≤ j
  · rw [if_pos h1, decide_eq_false (fun z => by omega)]; rfl
  · rw [if_neg h1]
    by_cases h2 : tS ts j = l.length
    · rw [if_pos h2]
      unfold bg
      by_cases h3 : ∀ i, i < l.length → la t (tF ts j + i) = la l i
      · rw [decide_eq_true ⟨Nat.le_of_eq h2.symm, h3⟩, decide_eq_true ⟨by omega, h2, h3⟩]; rfl
      · rw [decide_eq_false (fun z => h3 z.2), decide_eq_false (fun z => h3 z.2.2)]; rfl
    · rw [if_neg h2, decide_eq_false (fun z => h2 z.2.1)]; rfl
theorem ct_isThe_m1 {h : Nat} : f_X8_isThe S x h (-1) = some 0 := by
  unfold f_X8_isThe
  rw [if_pos (by decide)]
theorem ct_goesOn (hS : cS S x) (hM : cM I x R F) (hT : tM R ts) (hw : wT ts) (h4 : R 4 = t) {j : Nat} (hj : j < 2 ^ 30) : f_X8_goesOn (sI S I) (x + 10) (nI j) = some (bi (gO t ts j)) := by
  have hfe := hw.fe j
  have hfe1 := hw.fe (j + 1)
  have hn2 := hw.1
  unfold f_X8_goesOn
  simp only [kK_sI, kQ_sI, kN_sI, kZ_sI, kI_sI, wI_sI, if_true, Option.bind_some, lt, cK_10 hS, cQ_10_0 hS, cQ_10_1 hS, cQ_10_2 hS, cQ_10_3 hS, cQ_10_4 hS, cQ_10_5 hS, cQ_10_6 hS, cQ_10_7 hS, cR9_4 hS, cR9_11 hS, cR9_13 hS, cR9_15 hS, cR9_17 hS, cR9_19 hS, cR9_21 hS, cR9_23 hS, cm_getn hS hM (k := 13) (by decide) (show j < 2 ^ 31 by omega), la_ends hT, ct_count hS hM hT, nI_1, nI_leI (show ts.length < 2 ^ 31 by omega) (show j + 1 < 2 ^ 31 by omega), cm_getn hS hM (k := 4) (by decide) (show tE ts j < 2 ^ 31 by omega), h4, cm_getn hS hM (k := 11) (by decide) (show j + 1 < 2 ^ 31 by omega), la_froms hT, nI_eq (show tF ts (j + 1) < 2 ^ 31 by omega) (show tE ts j + 1 < 2 ^ 31 by omega)]
  unfold gO
  by_cases h1 : ts.length ≤ j + 1
  · rw [if_pos h1, decide_eq_false (fun z => by omega)]; rfl
  · rw [if_neg h1]
    by_cases h2 : la t (tE ts j) = 32
    · rw [if_pos h2]
      by_cases h3 : tF ts (j + 1) = tE ts j + 1
      · rw [if_pos h3, decide_eq_true ⟨by omega, h2, h3⟩]; rfl
      · rw [if_neg h3, decide_eq_false (fun z => h3 z.2.2)]; rfl
    · rw [if_neg h2, decide_eq_false (fun z => h2 z.2.1)]; rfl
end
