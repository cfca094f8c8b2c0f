/-! the tokens as the model has scanned them -/
def mTk (G : Nat → Nat → Int32) (t : List Int32) : Prop := G 0 31 = nI (tsO t).length ∧ (∀ j, j < (tsO t).length → G 27 j = nI (tF (tsO t) j) ∧ G 28 j = nI (tE (tsO t) j) ∧ G 29 j = bi (tW (tsO t) j)) ∧ ∀ i, i < t.length → G 30 i = nI (slN t i) ∧ G 31 i = bi (pq t i)
theorem ts_at {ts : List Tk} {j : Nat} (hj : j < ts.length) : ∃ v, ts[j]? = some v ∧ tF ts j = v.1 ∧ tE ts j = v.2.1 ∧ tW ts j = v.2.2.1 ∧ tN ts j = (!v.2.2.1) ∧ tV ts j = v.2.2.2.1 ∧ tQ ts j = v.2.2.2.2.1 ∧ t1 ts j = v.2.2.2.2.2.1 ∧ tA ts j = v.2.2.2.2.2.2 := by
  have e : ts[j]? = some ts[j] := List.getElem?_eq_getElem hj
  refine ⟨ts[j], e, ?_⟩
  unfold tF tE tW tN tV tQ t1 tA
  rw [e]
  exact ⟨rfl, rfl, rfl, rfl, rfl, rfl, rfl, rfl⟩
theorem mSc.tk {G : Nat → Nat → Int32} {t : List Int32} (h : mSc G t t.length) : mTk G t := by
  obtain ⟨h1, h2, h3⟩ := h
  refine ⟨h1, fun j hj => ?_, h3⟩
  obtain ⟨v, e, f1, f2, f3, -⟩ := ts_at hj
  obtain ⟨y1, y2, y3⟩ := h2 j v e
  rw [f1, f2, f3]
  exact ⟨y1, y2, y3⟩
theorem tk_N {ts : List Tk} {j : Nat} (hj : j < ts.length) : tN ts j = !tW ts j := by
  obtain ⟨v, e, f1, f2, f3, f4, -⟩ := ts_at hj
  rw [f3, f4]
theorem tk_q {t : List Int32} {j : Nat} (hj : j < (tsO t).length) : tQ (tsO t) j = (sc t (tF (tsO t) j)).2.1 := by
  obtain ⟨v, e, f1, f2, f3, f4, f5, f6, -⟩ := ts_at hj
  rw [f6, f1]
  exact ((sc_tok t t.length).1 j v e).1
theorem tk_k {t : List Int32} {j : Nat} (hj : j < (tsO t).length) {i : Nat} (h1 : tF (tsO t) j ≤ i) (h2 : i < tE (tsO t) j) : kd (la t i) = kdW (tW (tsO t) j) := by
  obtain ⟨v, e, f1, f2, f3, -⟩ := ts_at hj
  rw [f3]
  exact ((sc_tok t t.length).1 j v e).2.1 i (by omega) (by omega)
theorem tk_v {t : List Int32} {j : Nat} (hj : j < (tsO t).length) : tV (tsO t) j = vc t (tF (tsO t) j) (tE (tsO t) j - tF (tsO t) j) := by
  obtain ⟨v, e, f1, f2, f3, f4, f5, -⟩ := ts_at hj
  rw [f5, f1, f2]
  exact ((sc_tok t t.length).1 j v e).2.2.1
theorem tk_1 {t : List Int32} {j : Nat} (hj : j < (tsO t).length) : t1 (tsO t) j = true ↔ j = 0 ∨ ∃ i, lE (tsO t) j ≤ i ∧ i < tF (tsO t) j ∧ (la t i = 47 ∨ la t i = 46) := by
  obtain ⟨v, e, f1, f2, f3, f4, f5, f6, f7, f8⟩ := ts_at hj
  rw [f7, f1]
  exact ((sc_tok t t.length).1 j v e).2.2.2.1
theorem tk_a {t : List Int32} {j : Nat} (hj : j < (tsO t).length) (p : Nat) : tA (tsO t) j = some p ↔ j ≠ 0 ∧ p = j - 1 ∧ ∀ i, lE (tsO t) j ≤ i → i < tF (tsO t) j → la t i ≠ 47 := by
  obtain ⟨v, e, f1, f2, f3, f4, f5, f6, f7, f8⟩ := ts_at hj
  rw [f8, f1]
  exact ((sc_tok t t.length).1 j v e).2.2.2.2 p
theorem tk_b {t : List Int32} {j : Nat} (hj : j < (tsO t).length) : tF (tsO t) j < tE (tsO t) j ∧ tE (tsO t) j ≤ t.length := by
  obtain ⟨v, e, f1, f2, -⟩ := ts_at hj
  obtain ⟨a, b, c⟩ := (sc_inv t t.length).2.2.1 j v e
  omega
theorem tk_o {t : List Int32} {i j : Nat} (hij : i < j) (hj : j < (tsO t).length) : tE (tsO t) i ≤ tF (tsO t) j := tsO_oT t i j hij hj
theorem kd_no {s : Int32} {b : Bool} (h : kd s = kdW b) : s ≠ 34 ∧ s ≠ 47 ∧ s ≠ 46 := by
  have h0 : kd s ≠ 0 := by rw [h]; unfold kdW; split <;> decide
  exact ⟨fun z => h0 (by rw [z]; decide), fun z => h0 (by rw [z]; decide), fun z => h0 (by rw [z]; decide)⟩
theorem slN_eq (t : List Int32) (a : Nat) : ∀ n, slN t a = slN t (a + n) ↔ ∀ i, a ≤ i → i < a + n → la t i ≠ 47
  | 0 => by simp; omega
  | n + 1 => by
    have hm := slN_mono t (show a ≤ a + n by omega)
    have ih := slN_eq t a n
    rw [show a + (n + 1) = (a + n) + 1 by omega, slN]
    by_cases e : la t (a + n) = 47
    · rw [if_pos e]
      exact iff_of_false (by omega) (fun z => z (a + n) (by omega) (by omega) e)
    · rw [if_neg e, Nat.add_zero, ih]
      refine ⟨fun z i hi1 hi2 => ?_, fun z i hi1 hi2 => z i hi1 (by omega)⟩
      by_cases e2 : i = a + n
      · rw [e2]; exact e
      · exact z i hi1 (by omega)
theorem q_run {t : List Int32} {a b : Nat} (hc : ∀ i, a ≤ i → i < b → la t i ≠ 34 ∧ la t i ≠ 47) : ∀ n, a + n ≤ b → (sc t (a + n)).2.1 = (sc t a).2.1
  | 0, _ => rfl
  | n + 1, h => by
    obtain ⟨c1, c2⟩ := hc (a + n) (by omega) (by omega)
    rw [show a + (n + 1) = (a + n) + 1 by omega, sc_open, if_neg c1, decide_eq_true c2, Bool.and_true]
    exact q_run hc n (by omega)
theorem pq_run {t : List Int32} {a b : Nat} (hc : ∀ i, a ≤ i → i < b → la t i ≠ 34 ∧ la t i ≠ 47) {i : Nat} (h1 : a ≤ i) (h2 : i < b) : pq t i = (sc t a).2.1 := by
  obtain ⟨c1, c2⟩ := hc i h1 h2
  unfold pq
  rw [decide_eq_true c2, decide_eq_false c1, Bool.and_true, Bool.or_false]
  have := q_run hc (i - a) (by omega)
  rwa [show a + (i - a) = i by omega] at this
section
variable {S : PS} {I G : Nat → Nat → Int32} {m : Nat} {t w : List Int32}
theorem b_eq {a b : Bool} (h : a = true ↔ b = true) : a = b := by cases a <;> cases b <;> simp_all
theorem x_any (hm : mS S m) (hk : mTk G t) (ht : t.length ≤ 160) {a b : Nat} (hab : a < b) (hb : b ≤ t.length) (hc : ∀ i, a ≤ i → i < b → la t i ≠ 34 ∧ la t i ≠ 47) : f_X10_isAnyQuoted (sI S (mw I m G)) m (nI a) (nI b) = some (bi (sc t a).2.1) := by
  unfold f_X10_isAnyQuoted
  simp only [lt]
  obtain ⟨r, e1, e2⟩ := it_any (b := fun (v : Int32 × Int32) => f_X10_isAnyQuoted_b5 m (nI b) (sI S (mw I m G)) v.1 v.2) a b (fun i => pq t i) (by omega) (by omega)
    (fun o k h1 h2 => by
      simp only
      unfold f_X10_isAnyQuoted_b5
      rw [if_neg (show ¬ nI b ≤ nI k from fun z => absurd ((nI_leI (show b < 2 ^ 31 by omega) (show k < 2 ^ 31 by omega)).mp z) (by omega))]
      simp only [kK_sI, kQ_sI, kN_sI, kI_sI, wI_sI, Option.bind_some, lt, mw_0, mw_up0, xK_0 hm, xK_1 hm, xN_1 hm, xQ_1 hm, mw_1, mw_up1, xK_2 hm, xN_2 hm, xQ_2 hm, mw_2, mw_up2, xK_3 hm, xN_3 hm, xQ_3 hm, mw_3, mw_up3, xK_4 hm, xN_4 hm, xQ_4 hm, mw_4, mw_up4, xK_5 hm, xN_5 hm, xQ_5 hm, mw_5, mw_up5, xK_6 hm, xN_6 hm, xQ_6 hm, mw_6, mw_up6, xK_7 hm, xN_7 hm, xQ_7 hm, mw_7, mw_up7, xK_8 hm, xN_8 hm, xQ_8 hm, mw_8, mw_up8, xK_9 hm, xN_9 hm, xQ_9 hm, mw_9, mw_up9, xK_10 hm, xN_10 hm, xQ_10 hm, mw_10, mw_up10, xK_11 hm, xN_11 hm, xQ_11 hm, mw_11, mw_up11, xK_12 hm, xN_12 hm, xQ_12 hm, mw_12, mw_up12, xK_13 hm, xN_13 hm, xQ_13 hm, mw_13, mw_up13, xK_14 hm, xN_14 hm, xQ_14 hm, mw_14, mw_up14, xK_15 hm, xN_15 hm, xQ_15 hm, mw_15, mw_up15, xK_16 hm, xN_16 hm, xQ_16 hm, mw_16, mw_up16, xK_17 hm, xN_17 hm, xQ_17 hm, mw_17, mw_up17, xK_18 hm, xN_18 hm, xQ_18 hm, mw_18, mw_up18, xK_19 hm, xN_19 hm, xQ_19 hm, mw_19, mw_up19, xK_20 hm, xN_20 hm, xQ_20 hm, mw_20, mw_up20, xK_21 hm, xN_21 hm, xQ_21 hm, mw_21, mw_up21, xK_22 hm, xN_22 hm, xQ_22 hm, mw_22, mw_up22, xK_23 hm, xN_23 hm, xQ_23 hm, mw_23, mw_up23, xK_24 hm, xN_24 hm, xQ_24 hm, mw_24, mw_up24, xK_25 hm, xN_25 hm, xQ_25 hm, mw_25, mw_up25, xK_26 hm, xN_26 hm, xQ_26 hm, mw_26, mw_up26, xK_27 hm, xN_27 hm, xQ_27 hm, mw_27, mw_up27, xK_28 hm, xN_28 hm, xQ_28 hm, mw_28, mw_up28, xK_29 hm, xN_29 hm, xQ_29 hm, mw_29, mw_up29, xK_30 hm, xN_30 hm, xQ_30 hm, mw_30, mw_up30, xK_31 hm, xN_31 hm, xQ_31 hm, mw_31, mw_up31, xK_32 hm, xN_32 hm, xQ_32 hm, mw_32, mw_up32, xK_33 hm, xN_33 hm, xQ_33 hm, mw_33, mw_up33, xK_34 hm, xN_34 hm, xQ_34 hm, mw_34, mw_up34, xK_35 hm, xN_35 hm, xQ_35 hm, mw_35, mw_up35, xK_36 hm, xN_36 hm, xQ_36 hm, mw_36, mw_up36, xK_37 hm, xN_37 hm, xQ_37 hm, mw_37, mw_up37, if_true, bi_eq0, nI_clamp (show k < 2 ^ 31 by omega), bd2 (show k < 161 by omega) (show k < 2 ^ 31 by omega), not_false_eq_true, (hk.2.2 k (by omega)).2, nI_1]
      cases o
      · cases pq t k <;> rfl
      · rfl)
    (fun o => by simp only; unfold f_X10_isAnyQuoted_b5; rw [if_pos ((nI_leI (by omega) (by omega)).mpr (Nat.le_refl _))]) false
  rw [show (0 : Int32) = bi false from rfl, e1]
  simp only [Option.bind_some]
  rw [if_pos (by cases r <;> decide)]
  refine congrArg (fun z => some (bi z)) (b_eq ?_)
  rw [e2]
  constructor
  · rintro (z | ⟨i, z1, z2, z3⟩)
    · cases z
    · rw [← z3, pq_run hc z1 z2]
  · intro z
    exact Or.inr ⟨a, Nat.le_refl _, hab, by rw [pq_run hc (Nat.le_refl _) hab]; exact z⟩
theorem x_anyT (hm : mS S m) (hk : mTk G t) (ht : t.length ≤ 160) {j : Nat} (hj : j < (tsO t).length) : f_X10_isAnyQuoted (sI S (mw I m G)) m (nI (tF (tsO t) j)) (nI (tE (tsO t) j)) = some (bi (tQ (tsO t) j)) := by
  rw [tk_q hj]
  exact x_any hm hk ht (tk_b hj).1 (tk_b hj).2 (fun i h1 h2 => ⟨(kd_no (tk_k hj h1 h2)).1, (kd_no (tk_k hj h1 h2)).2.1⟩)
/-- tokens that are joined by single spaces -/
theorem x_anyN (hm : mS S m) (hk : mTk G t) (ht : t.length ≤ 160) {j n : Nat} (hj : j + n < (tsO t).length) (hg : ∀ i, i < n → gO t (tsO t) (j + i) = true) : f_X10_isAnyQuoted (sI S (mw I m G)) m (nI (tF (tsO t) j)) (nI (tE (tsO t) (j + n))) = some (bi (tQ (tsO t) j)) := by
  have hc : ∀ n, j + n < (tsO t).length → (∀ i, i < n → gO t (tsO t) (j + i) = true) → ∀ i, tF (tsO t) j ≤ i → i < tE (tsO t) (j + n) → la t i ≠ 34 ∧ la t i ≠ 47 := by
    intro n
    induction n with
    | zero => exact fun hj _ i h1 h2 => ⟨(kd_no (tk_k hj h1 h2)).1, (kd_no (tk_k hj h1 h2)).2.1⟩
    | succ n ih =>
      intro hj hg i h1 h2
      have g := hg n (by omega)
      unfold gO at g
      rw [decide_eq_true_eq] at g
      by_cases e1 : i < tE (tsO t) (j + n)
      · exact ih (by omega) (fun i hi => hg i (by omega)) i h1 e1
      · by_cases e2 : i = tE (tsO t) (j + n)
        · rw [e2, g.2.1]; decide
        · have h3 : tF (tsO t) (j + (n + 1)) ≤ i := by rw [show j + (n + 1) = j + n + 1 by omega]; omega
          exact ⟨(kd_no (tk_k hj h3 h2)).1, (kd_no (tk_k hj h3 h2)).2.1⟩
  have h0 : tF (tsO t) j < tE (tsO t) (j + n) := (tsO_oT t).lt (tsO_wT ht) (by omega) hj
  rw [tk_q (show j < (tsO t).length by omega)]
  exact x_any hm hk ht h0 (tk_b hj).2 (hc n hj hg)
theorem tk_par {t : List Int32} {j : Nat} (h0 : j ≠ 0) (hj : j < (tsO t).length) : slN t (tF (tsO t) (j - 1)) = slN t (tF (tsO t) j) ↔ ∀ i, lE (tsO t) j ≤ i → i < tF (tsO t) j → la t i ≠ 47 := by
  have hj1 : j - 1 < (tsO t).length := by omega
  have hb := tk_b hj1
  have ho := tk_o (show j - 1 < j by omega) hj
  have hh := slN_eq t (tF (tsO t) (j - 1)) (tF (tsO t) j - tF (tsO t) (j - 1))
  rw [show tF (tsO t) (j - 1) + (tF (tsO t) j - tF (tsO t) (j - 1)) = tF (tsO t) j by omega] at hh
  rw [hh]
  unfold lE
  rw [if_neg h0]
  refine ⟨fun z i h1 h2 => z i (by omega) h2, fun z i h1 h2 => ?_⟩
  by_cases e : i < tE (tsO t) (j - 1)
  · exact (kd_no (tk_k hj1 h1 e)).2.1
  · exact z i (by omega) h2
end
