/-! small questions of the model -/
theorem bd2 {n N : Nat} (h : n < N) (hN : n < 2 ^ 31) : ¬ (nI n < 0 ∨ N ≤ n) := fun z => z.elim (nI_pos hN) (by omega)
theorem x_in (S : PS) (p a b : Int32) : f_X10_in S p a b = some (bi (decide (a ≤ p ∧ p ≤ b))) := by
  unfold f_X10_in bi
  by_cases h1 : p < a
  · rw [if_pos h1, decide_eq_false (fun z => absurd h1 (Int32.not_lt.mpr z.1))]; rfl
  · rw [if_neg h1]
    by_cases h2 : b < p
    · rw [if_pos h2, decide_eq_false (fun z => absurd h2 (Int32.not_lt.mpr z.2))]; rfl
    · rw [if_neg h2, decide_eq_true ⟨Int32.not_lt.mp h1, Int32.not_lt.mp h2⟩]; rfl
theorem ix_isSome (p : Int32) (n : Nat) : (ix p n).isSome = decide (0 ≤ p ∧ p < nI n) := by
  unfold ix
  by_cases h : 0 ≤ p ∧ p < nI n
  · rw [if_pos h, decide_eq_true h]; rfl
  · rw [if_neg h, decide_eq_false h]; rfl
theorem le_pred {p : Int32} {n : Nat} (hn : n + 1 < 2 ^ 31) : p ≤ nI n ↔ p < nI (n + 1) := by
  rw [Int32.le_iff_toInt_le, Int32.lt_iff_toInt_lt, nI_toInt (by omega), nI_toInt hn]
  omega
theorem x_ix1 (S : PS) (p : Int32) {n : Nat} (hn : n + 1 < 2 ^ 31) : f_X10_in S p 0 (nI n) = some (bi (ix p (n + 1)).isSome) := by
  rw [x_in, ix_isSome]
  congr 2
  exact decide_eq_decide.mpr (by rw [le_pred hn])
theorem x_ix (S : PS) (p : Int32) {n : Nat} (hn : n < 2 ^ 31) : f_X10_in S p 0 (nI n - 1) = some (bi (ix p n).isSome) := by
  cases n with
  | zero =>
    rw [x_in, ix_isSome]
    congr 2
    refine decide_eq_decide.mpr ⟨fun z => ?_, fun z => ?_⟩
    · exfalso
      have h1 := z.1
      have h2 := z.2
      rw [show nI 0 - 1 = (-1 : Int32) by decide +kernel] at h2
      exact absurd (Int32.le_trans h1 h2) (by decide)
    · exact absurd z.2 (fun h => absurd (Int32.lt_of_le_of_lt z.1 h) (by decide +kernel))
  | succ n => rw [nI_sub1 (by omega), Nat.add_sub_cancel]; exact x_ix1 S p hn
theorem x_letter (S : PS) (s : Int32) : f_X10_isLetter S s = some (bi (isL s)) := by
  have := cx_isLetter S s
  unfold f_X9_isLetter at this
  exact this
theorem x_digit (S : PS) (s : Int32) : f_X10_isDigit S s = some (bi (isD s)) := by
  have := cx_isDigit S s
  unfold f_X9_isDigit at this
  exact this
theorem x_desk (S : PS) (p : Int32) : f_X10_isDesk S p = some (bi (ix p 4).isSome) := by
  unfold f_X10_isDesk
  rw [show (3 : Int32) = nI 3 from rfl, x_ix1 S p (by decide)]
  cases (ix p 4).isSome <;> rfl
section
variable {S : PS} {I G : Nat → Nat → Int32} {m : Nat} {T : St}
theorem x_noDesk (hm : mS S m) (p : Int32) : f_X10_noDesk (sI S (mw I m G)) m p = some (sI S (mw I m (uF G 0 0 (bi (!(ix p 4).isSome)))), bi (!(ix p 4).isSome)) := by
  unfold f_X10_noDesk
  rw [x_desk]
  simp only [kK_sI, kQ_sI, kN_sI, kI_sI, wI_sI, Option.bind_some, lt, mw_0, mw_up0, xK_0 hm, xK_1 hm, xN_1 hm, xQ_1 hm, mw_1, mw_up1, xK_2 hm, xN_2 hm, xQ_2 hm, mw_2, mw_up2, xK_3 hm, xN_3 hm, xQ_3 hm, mw_3, mw_up3, xK_4 hm, xN_4 hm, xQ_4 hm, mw_4, mw_up4, xK_5 hm, xN_5 hm, xQ_5 hm, mw_5, mw_up5, xK_6 hm, xN_6 hm, xQ_6 hm, mw_6, mw_up6, xK_7 hm, xN_7 hm, xQ_7 hm, mw_7, mw_up7, xK_8 hm, xN_8 hm, xQ_8 hm, mw_8, mw_up8, xK_9 hm, xN_9 hm, xQ_9 hm, mw_9, mw_up9, xK_10 hm, xN_10 hm, xQ_10 hm, mw_10, mw_up10, xK_11 hm, xN_11 hm, xQ_11 hm, mw_11, mw_up11, xK_12 hm, xN_12 hm, xQ_12 hm, mw_12, mw_up12, xK_13 hm, xN_13 hm, xQ_13 hm, mw_13, mw_up13, xK_14 hm, xN_14 hm, xQ_14 hm, mw_14, mw_up14, xK_15 hm, xN_15 hm, xQ_15 hm, mw_15, mw_up15, xK_16 hm, xN_16 hm, xQ_16 hm, mw_16, mw_up16, xK_17 hm, xN_17 hm, xQ_17 hm, mw_17, mw_up17, xK_18 hm, xN_18 hm, xQ_18 hm, mw_18, mw_up18, xK_19 hm, xN_19 hm, xQ_19 hm, mw_19, mw_up19, xK_20 hm, xN_20 hm, xQ_20 hm, mw_20, mw_up20, xK_21 hm, xN_21 hm, xQ_21 hm, mw_21, mw_up21, xK_22 hm, xN_22 hm, xQ_22 hm, mw_22, mw_up22, xK_23 hm, xN_23 hm, xQ_23 hm, mw_23, mw_up23, xK_24 hm, xN_24 hm, xQ_24 hm, mw_24, mw_up24, xK_25 hm, xN_25 hm, xQ_25 hm, mw_25, mw_up25, xK_26 hm, xN_26 hm, xQ_26 hm, mw_26, mw_up26, xK_27 hm, xN_27 hm, xQ_27 hm, mw_27, mw_up27, xK_28 hm, xN_28 hm, xQ_28 hm, mw_28, mw_up28, xK_29 hm, xN_29 hm, xQ_29 hm, mw_29, mw_up29, xK_30 hm, xN_30 hm, xQ_30 hm, mw_30, mw_up30, xK_31 hm, xN_31 hm, xQ_31 hm, mw_31, mw_up31, xK_32 hm, xN_32 hm, xQ_32 hm, mw_32, mw_up32, xK_33 hm, xN_33 hm, xQ_33 hm, mw_33, mw_up33, xK_34 hm, xN_34 hm, xQ_34 hm, mw_34, mw_up34, xK_35 hm, xN_35 hm, xQ_35 hm, mw_35, mw_up35, xK_36 hm, xN_36 hm, xQ_36 hm, mw_36, mw_up36, xK_37 hm, xN_37 hm, xQ_37 hm, mw_37, mw_up37, if_true, uF_eq, show ¬ (1 : Int32) ≤ 0 by decide, show (0 : Int32) ≤ 0 by decide, if_false]
  cases (ix p 4).isSome
  · exact if_pos rfl
  · exact if_neg (by decide)
theorem x_noRule (hm : mS S m) (p : Int32) {n : Nat} (h6 : G 0 6 = nI n) (hn : n < 2 ^ 31) : f_X10_noRule (sI S (mw I m G)) m p = some (sI S (mw I m (uF G 0 0 (bi (!(ix p n).isSome)))), bi (!(ix p n).isSome)) := by
  unfold f_X10_noRule
  simp only [kK_sI, kQ_sI, kN_sI, kI_sI, wI_sI, Option.bind_some, lt, mw_0, mw_up0, xK_0 hm, xK_1 hm, xN_1 hm, xQ_1 hm, mw_1, mw_up1, xK_2 hm, xN_2 hm, xQ_2 hm, mw_2, mw_up2, xK_3 hm, xN_3 hm, xQ_3 hm, mw_3, mw_up3, xK_4 hm, xN_4 hm, xQ_4 hm, mw_4, mw_up4, xK_5 hm, xN_5 hm, xQ_5 hm, mw_5, mw_up5, xK_6 hm, xN_6 hm, xQ_6 hm, mw_6, mw_up6, xK_7 hm, xN_7 hm, xQ_7 hm, mw_7, mw_up7, xK_8 hm, xN_8 hm, xQ_8 hm, mw_8, mw_up8, xK_9 hm, xN_9 hm, xQ_9 hm, mw_9, mw_up9, xK_10 hm, xN_10 hm, xQ_10 hm, mw_10, mw_up10, xK_11 hm, xN_11 hm, xQ_11 hm, mw_11, mw_up11, xK_12 hm, xN_12 hm, xQ_12 hm, mw_12, mw_up12, xK_13 hm, xN_13 hm, xQ_13 hm, mw_13, mw_up13, xK_14 hm, xN_14 hm, xQ_14 hm, mw_14, mw_up14, xK_15 hm, xN_15 hm, xQ_15 hm, mw_15, mw_up15, xK_16 hm, xN_16 hm, xQ_16 hm, mw_16, mw_up16, xK_17 hm, xN_17 hm, xQ_17 hm, mw_17, mw_up17, xK_18 hm, xN_18 hm, xQ_18 hm, mw_18, mw_up18, xK_19 hm, xN_19 hm, xQ_19 hm, mw_19, mw_up19, xK_20 hm, xN_20 hm, xQ_20 hm, mw_20, mw_up20, xK_21 hm, xN_21 hm, xQ_21 hm, mw_21, mw_up21, xK_22 hm, xN_22 hm, xQ_22 hm, mw_22, mw_up22, xK_23 hm, xN_23 hm, xQ_23 hm, mw_23, mw_up23, xK_24 hm, xN_24 hm, xQ_24 hm, mw_24, mw_up24, xK_25 hm, xN_25 hm, xQ_25 hm, mw_25, mw_up25, xK_26 hm, xN_26 hm, xQ_26 hm, mw_26, mw_up26, xK_27 hm, xN_27 hm, xQ_27 hm, mw_27, mw_up27, xK_28 hm, xN_28 hm, xQ_28 hm, mw_28, mw_up28, xK_29 hm, xN_29 hm, xQ_29 hm, mw_29, mw_up29, xK_30 hm, xN_30 hm, xQ_30 hm, mw_30, mw_up30, xK_31 hm, xN_31 hm, xQ_31 hm, mw_31, mw_up31, xK_32 hm, xN_32 hm, xQ_32 hm, mw_32, mw_up32, xK_33 hm, xN_33 hm, xQ_33 hm, mw_33, mw_up33, xK_34 hm, xN_34 hm, xQ_34 hm, mw_34, mw_up34, xK_35 hm, xN_35 hm, xQ_35 hm, mw_35, mw_up35, xK_36 hm, xN_36 hm, xQ_36 hm, mw_36, mw_up36, xK_37 hm, xN_37 hm, xQ_37 hm, mw_37, mw_up37, h6, x_ix _ p hn, if_true, uF_eq, show ¬ (1 : Int32) ≤ 0 by decide, show (0 : Int32) ≤ 0 by decide, if_false]
  cases (ix p n).isSome
  · exact if_pos rfl
  · exact if_neg (by decide)
theorem mT.th (h : mT G T) (v : Int32) : mT (uF G 0 0 v) T := h.q (mQ.th G v)
theorem mx_wipe (hm : mS S m) (hG : mT G T) (hw : wf T) : ∃ G', f_X10_wipe (sI S (mw I m G)) m = some (sI S (mw I m G'), nI T.1.length) ∧ G' 0 0 = 0 ∧ mT G' (uWipe T) := by
  unfold f_X10_wipe
  simp only [kK_sI, kQ_sI, kN_sI, kI_sI, wI_sI, Option.bind_some, lt, mw_0, mw_up0, xK_0 hm, xK_1 hm, xN_1 hm, xQ_1 hm, mw_1, mw_up1, xK_2 hm, xN_2 hm, xQ_2 hm, mw_2, mw_up2, xK_3 hm, xN_3 hm, xQ_3 hm, mw_3, mw_up3, xK_4 hm, xN_4 hm, xQ_4 hm, mw_4, mw_up4, xK_5 hm, xN_5 hm, xQ_5 hm, mw_5, mw_up5, xK_6 hm, xN_6 hm, xQ_6 hm, mw_6, mw_up6, xK_7 hm, xN_7 hm, xQ_7 hm, mw_7, mw_up7, xK_8 hm, xN_8 hm, xQ_8 hm, mw_8, mw_up8, xK_9 hm, xN_9 hm, xQ_9 hm, mw_9, mw_up9, xK_10 hm, xN_10 hm, xQ_10 hm, mw_10, mw_up10, xK_11 hm, xN_11 hm, xQ_11 hm, mw_11, mw_up11, xK_12 hm, xN_12 hm, xQ_12 hm, mw_12, mw_up12, xK_13 hm, xN_13 hm, xQ_13 hm, mw_13, mw_up13, xK_14 hm, xN_14 hm, xQ_14 hm, mw_14, mw_up14, xK_15 hm, xN_15 hm, xQ_15 hm, mw_15, mw_up15, xK_16 hm, xN_16 hm, xQ_16 hm, mw_16, mw_up16, xK_17 hm, xN_17 hm, xQ_17 hm, mw_17, mw_up17, xK_18 hm, xN_18 hm, xQ_18 hm, mw_18, mw_up18, xK_19 hm, xN_19 hm, xQ_19 hm, mw_19, mw_up19, xK_20 hm, xN_20 hm, xQ_20 hm, mw_20, mw_up20, xK_21 hm, xN_21 hm, xQ_21 hm, mw_21, mw_up21, xK_22 hm, xN_22 hm, xQ_22 hm, mw_22, mw_up22, xK_23 hm, xN_23 hm, xQ_23 hm, mw_23, mw_up23, xK_24 hm, xN_24 hm, xQ_24 hm, mw_24, mw_up24, xK_25 hm, xN_25 hm, xQ_25 hm, mw_25, mw_up25, xK_26 hm, xN_26 hm, xQ_26 hm, mw_26, mw_up26, xK_27 hm, xN_27 hm, xQ_27 hm, mw_27, mw_up27, xK_28 hm, xN_28 hm, xQ_28 hm, mw_28, mw_up28, xK_29 hm, xN_29 hm, xQ_29 hm, mw_29, mw_up29, xK_30 hm, xN_30 hm, xQ_30 hm, mw_30, mw_up30, xK_31 hm, xN_31 hm, xQ_31 hm, mw_31, mw_up31, xK_32 hm, xN_32 hm, xQ_32 hm, mw_32, mw_up32, xK_33 hm, xN_33 hm, xQ_33 hm, mw_33, mw_up33, xK_34 hm, xN_34 hm, xQ_34 hm, mw_34, mw_up34, xK_35 hm, xN_35 hm, xQ_35 hm, mw_35, mw_up35, xK_36 hm, xN_36 hm, xQ_36 hm, mw_36, mw_up36, xK_37 hm, xN_37 hm, xQ_37 hm, mw_37, mw_up37, if_true]
  refine ⟨_, by rw [uF_ne (Or.inr (by decide)), hG.1.1], by rw [uF_ne (Or.inr (by decide)), uF_eq], ?_⟩
  obtain ⟨a1, a2, a3, a4, a5, a6⟩ := hG.th 0
  exact ⟨⟨uF_eq _ _ _ _, fun j hj => absurd hj (Nat.not_lt_zero _)⟩, a2.ext (uF_ne (Or.inr (by decide))) (fun j => uF_ne (Or.inl (by decide))) (fun j => uF_ne (Or.inl (by decide))), a3.ext (fun j => uF_ne (Or.inl (by decide))), a4.ext (fun k h1 h2 j => uF_ne (Or.inl (by omega))) (uF_ne (Or.inr (by decide))), a5.ext (fun k h1 h2 j => uF_ne (Or.inl (by omega))) (uF_ne (Or.inr (by decide))), fun d hd => (a6 d hd).ext (fun k h1 h2 j => uF_ne (Or.inl (by omega)))⟩
theorem mx_length (hm : mS S m) (hG : mT G T) : ∃ G', f_X10_length (sI S (mw I m G)) m = some (sI S (mw I m G'), nI T.2.1.length) ∧ G' 0 0 = 0 ∧ mT G' T := by
  unfold f_X10_length
  simp only [kK_sI, kQ_sI, kN_sI, kI_sI, wI_sI, Option.bind_some, lt, mw_0, mw_up0, xK_0 hm, xK_1 hm, xN_1 hm, xQ_1 hm, mw_1, mw_up1, xK_2 hm, xN_2 hm, xQ_2 hm, mw_2, mw_up2, xK_3 hm, xN_3 hm, xQ_3 hm, mw_3, mw_up3, xK_4 hm, xN_4 hm, xQ_4 hm, mw_4, mw_up4, xK_5 hm, xN_5 hm, xQ_5 hm, mw_5, mw_up5, xK_6 hm, xN_6 hm, xQ_6 hm, mw_6, mw_up6, xK_7 hm, xN_7 hm, xQ_7 hm, mw_7, mw_up7, xK_8 hm, xN_8 hm, xQ_8 hm, mw_8, mw_up8, xK_9 hm, xN_9 hm, xQ_9 hm, mw_9, mw_up9, xK_10 hm, xN_10 hm, xQ_10 hm, mw_10, mw_up10, xK_11 hm, xN_11 hm, xQ_11 hm, mw_11, mw_up11, xK_12 hm, xN_12 hm, xQ_12 hm, mw_12, mw_up12, xK_13 hm, xN_13 hm, xQ_13 hm, mw_13, mw_up13, xK_14 hm, xN_14 hm, xQ_14 hm, mw_14, mw_up14, xK_15 hm, xN_15 hm, xQ_15 hm, mw_15, mw_up15, xK_16 hm, xN_16 hm, xQ_16 hm, mw_16, mw_up16, xK_17 hm, xN_17 hm, xQ_17 hm, mw_17, mw_up17, xK_18 hm, xN_18 hm, xQ_18 hm, mw_18, mw_up18, xK_19 hm, xN_19 hm, xQ_19 hm, mw_19, mw_up19, xK_20 hm, xN_20 hm, xQ_20 hm, mw_20, mw_up20, xK_21 hm, xN_21 hm, xQ_21 hm, mw_21, mw_up21, xK_22 hm, xN_22 hm, xQ_22 hm, mw_22, mw_up22, xK_23 hm, xN_23 hm, xQ_23 hm, mw_23, mw_up23, xK_24 hm, xN_24 hm, xQ_24 hm, mw_24, mw_up24, xK_25 hm, xN_25 hm, xQ_25 hm, mw_25, mw_up25, xK_26 hm, xN_26 hm, xQ_26 hm, mw_26, mw_up26, xK_27 hm, xN_27 hm, xQ_27 hm, mw_27, mw_up27, xK_28 hm, xN_28 hm, xQ_28 hm, mw_28, mw_up28, xK_29 hm, xN_29 hm, xQ_29 hm, mw_29, mw_up29, xK_30 hm, xN_30 hm, xQ_30 hm, mw_30, mw_up30, xK_31 hm, xN_31 hm, xQ_31 hm, mw_31, mw_up31, xK_32 hm, xN_32 hm, xQ_32 hm, mw_32, mw_up32, xK_33 hm, xN_33 hm, xQ_33 hm, mw_33, mw_up33, xK_34 hm, xN_34 hm, xQ_34 hm, mw_34, mw_up34, xK_35 hm, xN_35 hm, xQ_35 hm, mw_35, mw_up35, xK_36 hm, xN_36 hm, xQ_36 hm, mw_36, mw_up36, xK_37 hm, xN_37 hm, xQ_37 hm, mw_37, mw_up37, if_true]
  exact ⟨_, by rw [uF_ne (Or.inr (by decide)), hG.2.1.1], uF_eq _ _ _ _, hG.th 0⟩
theorem mx_at (hm : mS S m) (hG : mT G T) (hw : wf T) (p : Int32) : mZ S I m T (fun _ => 1) 32 (f_X10_at (sI S (mw I m G)) m p) (a_at T p) := by
  unfold f_X10_at a_at
  have hl := hw.2.1
  simp only [kK_sI, kQ_sI, kN_sI, kI_sI, wI_sI, Option.bind_some, lt, mw_0, mw_up0, xK_0 hm, xK_1 hm, xN_1 hm, xQ_1 hm, mw_1, mw_up1, xK_2 hm, xN_2 hm, xQ_2 hm, mw_2, mw_up2, xK_3 hm, xN_3 hm, xQ_3 hm, mw_3, mw_up3, xK_4 hm, xN_4 hm, xQ_4 hm, mw_4, mw_up4, xK_5 hm, xN_5 hm, xQ_5 hm, mw_5, mw_up5, xK_6 hm, xN_6 hm, xQ_6 hm, mw_6, mw_up6, xK_7 hm, xN_7 hm, xQ_7 hm, mw_7, mw_up7, xK_8 hm, xN_8 hm, xQ_8 hm, mw_8, mw_up8, xK_9 hm, xN_9 hm, xQ_9 hm, mw_9, mw_up9, xK_10 hm, xN_10 hm, xQ_10 hm, mw_10, mw_up10, xK_11 hm, xN_11 hm, xQ_11 hm, mw_11, mw_up11, xK_12 hm, xN_12 hm, xQ_12 hm, mw_12, mw_up12, xK_13 hm, xN_13 hm, xQ_13 hm, mw_13, mw_up13, xK_14 hm, xN_14 hm, xQ_14 hm, mw_14, mw_up14, xK_15 hm, xN_15 hm, xQ_15 hm, mw_15, mw_up15, xK_16 hm, xN_16 hm, xQ_16 hm, mw_16, mw_up16, xK_17 hm, xN_17 hm, xQ_17 hm, mw_17, mw_up17, xK_18 hm, xN_18 hm, xQ_18 hm, mw_18, mw_up18, xK_19 hm, xN_19 hm, xQ_19 hm, mw_19, mw_up19, xK_20 hm, xN_20 hm, xQ_20 hm, mw_20, mw_up20, xK_21 hm, xN_21 hm, xQ_21 hm, mw_21, mw_up21, xK_22 hm, xN_22 hm, xQ_22 hm, mw_22, mw_up22, xK_23 hm, xN_23 hm, xQ_23 hm, mw_23, mw_up23, xK_24 hm, xN_24 hm, xQ_24 hm, mw_24, mw_up24, xK_25 hm, xN_25 hm, xQ_25 hm, mw_25, mw_up25, xK_26 hm, xN_26 hm, xQ_26 hm, mw_26, mw_up26, xK_27 hm, xN_27 hm, xQ_27 hm, mw_27, mw_up27, xK_28 hm, xN_28 hm, xQ_28 hm, mw_28, mw_up28, xK_29 hm, xN_29 hm, xQ_29 hm, mw_29, mw_up29, xK_30 hm, xN_30 hm, xQ_30 hm, mw_30, mw_up30, xK_31 hm, xN_31 hm, xQ_31 hm, mw_31, mw_up31, xK_32 hm, xN_32 hm, xQ_32 hm, mw_32, mw_up32, xK_33 hm, xN_33 hm, xQ_33 hm, mw_33, mw_up33, xK_34 hm, xN_34 hm, xQ_34 hm, mw_34, mw_up34, xK_35 hm, xN_35 hm, xQ_35 hm, mw_35, mw_up35, xK_36 hm, xN_36 hm, xQ_36 hm, mw_36, mw_up36, xK_37 hm, xN_37 hm, xQ_37 hm, mw_37, mw_up37, if_true, hG.2.1.1, x_ix _ p (show T.2.1.length < 2 ^ 31 by omega)]
  cases hp : ix p T.2.1.length with
  | none =>
    simp only [Option.isSome_none, show bi false = 0 from rfl, if_true, uF_eq, show ¬ (1 : Int32) ≤ 0 by decide, if_false]
    exact ⟨_, rfl, uF_eq _ _ _ _, hG.th 1⟩
  | some q =>
    obtain ⟨hq, rfl⟩ := ix_some (by omega) hp
    have ht := hw.2.2.1 q hq
    simp only [Option.isSome_some, show bi true = 1 from rfl, show ¬ (1 : Int32) = 0 by decide, if_false, if_true, uF_eq, show (0 : Int32) ≤ 0 by decide, bd2 (show q < 161 by omega) (show q < 2 ^ 31 by omega), not_false_eq_true, nI_clamp (show q < 2 ^ 31 by omega)]
    rw [uF_ne (Or.inl (by decide)), hG.2.1.2.1 q hq, if_pos (char_id (Or.inl ht)).2]
    exact ⟨_, rfl, uF_eq _ _ _ _, hG.th 0⟩
theorem mx_type (hm : mS S m) (hG : mT G T) (hw : wf T) (c : Int32) : mZ S I m T nI 0 (f_X10_type (sI S (mw I m G)) m c) (a_type T c) := by
  have h20 := hw.1.1
  have key : f_X10_type (sI S (mw I m G)) m c = if tyS c = true then (if T.1.length < 20 then some (sI S (mw I m (uF (uF (uF G 0 0 0) 3 T.1.length c) 0 5 (nI (T.1.length + 1)))), nI (T.1.length + 1)) else some (sI S (mw I m (uF G 0 0 2)), 0)) else some (sI S (mw I m (uF G 0 0 1)), 0) := by
    unfold f_X10_type
    simp only [x_letter, x_digit, kK_sI, kQ_sI, kN_sI, kI_sI, wI_sI, Option.bind_some, lt, mw_0, mw_up0, xK_0 hm, xK_1 hm, xN_1 hm, xQ_1 hm, mw_1, mw_up1, xK_2 hm, xN_2 hm, xQ_2 hm, mw_2, mw_up2, xK_3 hm, xN_3 hm, xQ_3 hm, mw_3, mw_up3, xK_4 hm, xN_4 hm, xQ_4 hm, mw_4, mw_up4, xK_5 hm, xN_5 hm, xQ_5 hm, mw_5, mw_up5, xK_6 hm, xN_6 hm, xQ_6 hm, mw_6, mw_up6, xK_7 hm, xN_7 hm, xQ_7 hm, mw_7, mw_up7, xK_8 hm, xN_8 hm, xQ_8 hm, mw_8, mw_up8, xK_9 hm, xN_9 hm, xQ_9 hm, mw_9, mw_up9, xK_10 hm, xN_10 hm, xQ_10 hm, mw_10, mw_up10, xK_11 hm, xN_11 hm, xQ_11 hm, mw_11, mw_up11, xK_12 hm, xN_12 hm, xQ_12 hm, mw_12, mw_up12, xK_13 hm, xN_13 hm, xQ_13 hm, mw_13, mw_up13, xK_14 hm, xN_14 hm, xQ_14 hm, mw_14, mw_up14, xK_15 hm, xN_15 hm, xQ_15 hm, mw_15, mw_up15, xK_16 hm, xN_16 hm, xQ_16 hm, mw_16, mw_up16, xK_17 hm, xN_17 hm, xQ_17 hm, mw_17, mw_up17, xK_18 hm, xN_18 hm, xQ_18 hm, mw_18, mw_up18, xK_19 hm, xN_19 hm, xQ_19 hm, mw_19, mw_up19, xK_20 hm, xN_20 hm, xQ_20 hm, mw_20, mw_up20, xK_21 hm, xN_21 hm, xQ_21 hm, mw_21, mw_up21, xK_22 hm, xN_22 hm, xQ_22 hm, mw_22, mw_up22, xK_23 hm, xN_23 hm, xQ_23 hm, mw_23, mw_up23, xK_24 hm, xN_24 hm, xQ_24 hm, mw_24, mw_up24, xK_25 hm, xN_25 hm, xQ_25 hm, mw_25, mw_up25, xK_26 hm, xN_26 hm, xQ_26 hm, mw_26, mw_up26, xK_27 hm, xN_27 hm, xQ_27 hm, mw_27, mw_up27, xK_28 hm, xN_28 hm, xQ_28 hm, mw_28, mw_up28, xK_29 hm, xN_29 hm, xQ_29 hm, mw_29, mw_up29, xK_30 hm, xN_30 hm, xQ_30 hm, mw_30, mw_up30, xK_31 hm, xN_31 hm, xQ_31 hm, mw_31, mw_up31, xK_32 hm, xN_32 hm, xQ_32 hm, mw_32, mw_up32, xK_33 hm, xN_33 hm, xQ_33 hm, mw_33, mw_up33, xK_34 hm, xN_34 hm, xQ_34 hm, mw_34, mw_up34, xK_35 hm, xN_35 hm, xQ_35 hm, mw_35, mw_up35, xK_36 hm, xN_36 hm, xQ_36 hm, mw_36, mw_up36, xK_37 hm, xN_37 hm, xQ_37 hm, mw_37, mw_up37, if_true, bi_eq0, uF_eq, show ¬ (1 : Int32) ≤ 0 by decide, show ¬ (2 : Int32) ≤ 0 by decide, show (0 : Int32) ≤ 0 by decide, if_false, hG.1.1, show ¬ (1 : Int32) = 0 by decide, uF_ne (F := G) (k := 0) (j := 0) (a := 0) (b := 5) (Or.inr (by decide))]
    by_cases hc : tyS c = true
    · have hid := (char_id (Or.inr hc)).2
      rw [if_pos hc]
      have full : (if nI T.1.length = 20 then some (sI S (mw I m (uF G 0 0 2)), (0 : Int32)) else if ¬ (nI T.1.length < 0 ∨ 20 ≤ (nI T.1.length).toNatClampNeg) then some (sI S (mw I m (uF (uF (uF G 0 0 0) 3 (nI T.1.length).toNatClampNeg (vp_nar .char c)) 0 5 (uF (uF G 0 0 0) 3 (nI T.1.length).toNatClampNeg (vp_nar .char c) 0 5 + 1))), uF (uF G 0 0 0) 3 (nI T.1.length).toNatClampNeg (vp_nar .char c) 0 5 + 1) else none) = if T.1.length < 20 then some (sI S (mw I m (uF (uF (uF G 0 0 0) 3 T.1.length c) 0 5 (nI (T.1.length + 1)))), nI (T.1.length + 1)) else some (sI S (mw I m (uF G 0 0 2)), 0) := by
        by_cases hl : T.1.length < 20
        · rw [if_neg (fun z => by have := nI_inj (show T.1.length < 2 ^ 31 by omega) (show 20 < 2 ^ 31 by decide) z; omega), if_pos (bd hl (by omega)), if_pos hl, hid, nI_clamp (by omega), uF_ne (Or.inl (by decide)), uF_ne (Or.inr (by decide)), hG.1.1]
          rw [nI_1]
        · rw [if_pos (by rw [show T.1.length = 20 by omega]; rfl), if_neg hl]
      rw [← full]
      unfold tyS at hc
      simp only [Bool.or_eq_true, decide_eq_true_eq] at hc
      cases hL : isL c with
      | true => simp
      | false =>
        cases hD : isD c with
        | true => simp
        | false =>
          rw [hL, hD] at hc
          simp only [Bool.false_eq_true, false_or] at hc
          by_cases e1 : c = 32
          · simp [e1]
          · by_cases e2 : c = 42
            · simp [e2]
            · by_cases e3 : c = 35
              · simp [e3]
              · have e4 : c = 45 := by rcases hc with ((h | h) | h) | h <;> first | exact absurd h e1 | exact absurd h e2 | exact absurd h e3 | exact h
                simp [e4]
    · rw [if_neg hc]
      unfold tyS at hc
      simp only [Bool.or_eq_true, decide_eq_true_eq, not_or] at hc
      obtain ⟨⟨⟨⟨⟨c1, c2⟩, c3⟩, c4⟩, c5⟩, c6⟩ := hc
      simp [c1, c2, c3, c4, c5, c6]
  rw [key]
  unfold a_type
  by_cases hc : tyS c = true
  · rw [if_pos hc, if_pos hc]
    by_cases hl : T.1.length < 20
    · rw [if_pos hl, if_pos hl]
      refine ⟨_, rfl, by rw [uF_ne (Or.inr (by decide)), uF_ne (Or.inl (by decide)), uF_eq], ?_⟩
      obtain ⟨a1, a2, a3, a4, a5, a6⟩ := hG.th 0
      refine ⟨⟨by rw [uF_eq]; simp, fun j hj => ?_⟩, a2.ext (by rw [uF_ne (Or.inr (by decide)), uF_ne (Or.inl (by decide))]) (fun j => by rw [uF_ne (Or.inl (by decide)), uF_ne (Or.inl (by decide))]) (fun j => by rw [uF_ne (Or.inl (by decide)), uF_ne (Or.inl (by decide))]), a3.ext (fun j => by rw [uF_ne (Or.inl (by decide)), uF_ne (Or.inl (by decide))]), a4.ext (fun k h1 h2 j => by rw [uF_ne (Or.inl (by omega)), uF_ne (Or.inl (by omega))]) (by rw [uF_ne (Or.inr (by decide)), uF_ne (Or.inl (by decide))]), a5.ext (fun k h1 h2 j => by rw [uF_ne (Or.inl (by omega)), uF_ne (Or.inl (by omega))]) (by rw [uF_ne (Or.inr (by decide)), uF_ne (Or.inl (by decide))]), fun d hd => (a6 d hd).ext (fun k h1 h2 j => by rw [uF_ne (Or.inl (by omega)), uF_ne (Or.inl (by omega))])⟩
      rw [List.length_append] at hj
      rw [uF_ne (Or.inl (by decide)), la_append]
      by_cases e : j = T.1.length
      · rw [e, uF_eq, if_neg (by omega), Nat.sub_self]; rfl
      · have hj2 : j < T.1.length := by simp at hj; omega
        rw [uF_ne (Or.inr e), if_pos hj2, a1.2 j hj2]
    · rw [if_neg hl, if_neg hl]
      exact ⟨_, rfl, uF_eq _ _ _ _, hG.th 2⟩
  · rw [if_neg hc, if_neg hc]
    exact ⟨_, rfl, uF_eq _ _ _ _, hG.th 1⟩
end
