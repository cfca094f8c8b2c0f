/-! the model asks of tokens -/
section
variable {S : PS} {I G : Nat → Nat → Int32} {m : Nat} {t w : List Int32}
theorem x_first (hm : mS S m) (hx : mTx G t w) (hk : mTk G t) (ht : t.length ≤ 160) {j : Nat} (hj : j < (tsO t).length) : f_X10_isFirstOfSentence (sI S (mw I m G)) m (nI j) = some (bi (t1 (tsO t) j)) := by
  have hl := (tsO_wT ht).1
  have h1 := tk_1 hj
  unfold f_X10_isFirstOfSentence
  by_cases e : j = 0
  · subst e
    rw [if_pos (show nI 0 = 0 from rfl), h1.mpr (Or.inl rfl)]
    rfl
  · have hj1 : j - 1 < (tsO t).length := by omega
    have hb := tk_b hj1
    have hb2 := tk_b hj
    have ho := tk_o (show j - 1 < j by omega) hj
    have hp := tk_par e hj
    have hsl1 := slN_le t (tF (tsO t) (j - 1))
    have hsl2 := slN_le t (tF (tsO t) j)
    have hlE : lE (tsO t) j = tE (tsO t) (j - 1) := if_neg e
    rw [hlE] at h1 hp
    rw [if_neg (show ¬ nI j = 0 from fun z => e ((nI_eq0 (by omega)).mp z))]
    simp only [kK_sI, kQ_sI, kN_sI, kI_sI, wI_sI, Option.bind_some, lt, mw_0, mw_up0, xK_0 hm, xK_1 hm, xN_1 hm, xQ_1 hm, mw_1, mw_up1, xK_2 hm, xN_2 hm, xQ_2 hm, mw_2, mw_up2, xK_3 hm, xN_3 hm, xQ_3 hm, mw_3, mw_up3, xK_4 hm, xN_4 hm, xQ_4 hm, mw_4, mw_up4, xK_5 hm, xN_5 hm, xQ_5 hm, mw_5, mw_up5, xK_6 hm, xN_6 hm, xQ_6 hm, mw_6, mw_up6, xK_7 hm, xN_7 hm, xQ_7 hm, mw_7, mw_up7, xK_8 hm, xN_8 hm, xQ_8 hm, mw_8, mw_up8, xK_9 hm, xN_9 hm, xQ_9 hm, mw_9, mw_up9, xK_10 hm, xN_10 hm, xQ_10 hm, mw_10, mw_up10, xK_11 hm, xN_11 hm, xQ_11 hm, mw_11, mw_up11, xK_12 hm, xN_12 hm, xQ_12 hm, mw_12, mw_up12, xK_13 hm, xN_13 hm, xQ_13 hm, mw_13, mw_up13, xK_14 hm, xN_14 hm, xQ_14 hm, mw_14, mw_up14, xK_15 hm, xN_15 hm, xQ_15 hm, mw_15, mw_up15, xK_16 hm, xN_16 hm, xQ_16 hm, mw_16, mw_up16, xK_17 hm, xN_17 hm, xQ_17 hm, mw_17, mw_up17, xK_18 hm, xN_18 hm, xQ_18 hm, mw_18, mw_up18, xK_19 hm, xN_19 hm, xQ_19 hm, mw_19, mw_up19, xK_20 hm, xN_20 hm, xQ_20 hm, mw_20, mw_up20, xK_21 hm, xN_21 hm, xQ_21 hm, mw_21, mw_up21, xK_22 hm, xN_22 hm, xQ_22 hm, mw_22, mw_up22, xK_23 hm, xN_23 hm, xQ_23 hm, mw_23, mw_up23, xK_24 hm, xN_24 hm, xQ_24 hm, mw_24, mw_up24, xK_25 hm, xN_25 hm, xQ_25 hm, mw_25, mw_up25, xK_26 hm, xN_26 hm, xQ_26 hm, mw_26, mw_up26, xK_27 hm, xN_27 hm, xQ_27 hm, mw_27, mw_up27, xK_28 hm, xN_28 hm, xQ_28 hm, mw_28, mw_up28, xK_29 hm, xN_29 hm, xQ_29 hm, mw_29, mw_up29, xK_30 hm, xN_30 hm, xQ_30 hm, mw_30, mw_up30, xK_31 hm, xN_31 hm, xQ_31 hm, mw_31, mw_up31, xK_32 hm, xN_32 hm, xQ_32 hm, mw_32, mw_up32, xK_33 hm, xN_33 hm, xQ_33 hm, mw_33, mw_up33, xK_34 hm, xN_34 hm, xQ_34 hm, mw_34, mw_up34, xK_35 hm, xN_35 hm, xQ_35 hm, mw_35, mw_up35, xK_36 hm, xN_36 hm, xQ_36 hm, mw_36, mw_up36, xK_37 hm, xN_37 hm, xQ_37 hm, mw_37, mw_up37, if_true, nI_sub1 (show 0 < j by omega), nI_clamp (show j - 1 < 2 ^ 31 by omega), nI_clamp (show j < 2 ^ 31 by omega), bd2 (show j - 1 < 160 by omega) (show j - 1 < 2 ^ 31 by omega), bd2 (show j < 160 by omega) (show j < 2 ^ 31 by omega), not_false_eq_true, (hk.2.1 _ hj1).1, (hk.2.1 _ hj1).2.1, (hk.2.1 _ hj).1, nI_clamp (show tF (tsO t) (j - 1) < 2 ^ 31 by omega), nI_clamp (show tF (tsO t) j < 2 ^ 31 by omega), bd2 (show tF (tsO t) (j - 1) < 161 by omega) (show tF (tsO t) (j - 1) < 2 ^ 31 by omega), bd2 (show tF (tsO t) j < 161 by omega) (show tF (tsO t) j < 2 ^ 31 by omega), (hk.2.2 (tF (tsO t) (j - 1)) (by omega)).1, (hk.2.2 (tF (tsO t) j) (by omega)).1, nI_eq (show slN t (tF (tsO t) (j - 1)) < 2 ^ 31 by omega) (show slN t (tF (tsO t) j) < 2 ^ 31 by omega)]
    by_cases e2 : slN t (tF (tsO t) (j - 1)) = slN t (tF (tsO t) j)
    · rw [if_pos e2]
      have hno := hp.mp e2
      obtain ⟨r, e3, e4⟩ := it_any (b := fun (v : Int32 × Int32) => f_X10_isFirstOfSentence_b44 m (m + 27) (nI j) (sI S (mw I m G)) v.1 v.2) (tE (tsO t) (j - 1)) (tF (tsO t) j) (fun i => decide (la t i = 46)) ho (by omega)
        (fun o k g1 g2 => by
          simp only
          unfold f_X10_isFirstOfSentence_b44
          simp only [kK_sI, kQ_sI, kN_sI, kI_sI, wI_sI, Option.bind_some, lt, mw_0, mw_up0, xK_0 hm, xK_1 hm, xN_1 hm, xQ_1 hm, mw_1, mw_up1, xK_2 hm, xN_2 hm, xQ_2 hm, mw_2, mw_up2, xK_3 hm, xN_3 hm, xQ_3 hm, mw_3, mw_up3, xK_4 hm, xN_4 hm, xQ_4 hm, mw_4, mw_up4, xK_5 hm, xN_5 hm, xQ_5 hm, mw_5, mw_up5, xK_6 hm, xN_6 hm, xQ_6 hm, mw_6, mw_up6, xK_7 hm, xN_7 hm, xQ_7 hm, mw_7, mw_up7, xK_8 hm, xN_8 hm, xQ_8 hm, mw_8, mw_up8, xK_9 hm, xN_9 hm, xQ_9 hm, mw_9, mw_up9, xK_10 hm, xN_10 hm, xQ_10 hm, mw_10, mw_up10, xK_11 hm, xN_11 hm, xQ_11 hm, mw_11, mw_up11, xK_12 hm, xN_12 hm, xQ_12 hm, mw_12, mw_up12, xK_13 hm, xN_13 hm, xQ_13 hm, mw_13, mw_up13, xK_14 hm, xN_14 hm, xQ_14 hm, mw_14, mw_up14, xK_15 hm, xN_15 hm, xQ_15 hm, mw_15, mw_up15, xK_16 hm, xN_16 hm, xQ_16 hm, mw_16, mw_up16, xK_17 hm, xN_17 hm, xQ_17 hm, mw_17, mw_up17, xK_18 hm, xN_18 hm, xQ_18 hm, mw_18, mw_up18, xK_19 hm, xN_19 hm, xQ_19 hm, mw_19, mw_up19, xK_20 hm, xN_20 hm, xQ_20 hm, mw_20, mw_up20, xK_21 hm, xN_21 hm, xQ_21 hm, mw_21, mw_up21, xK_22 hm, xN_22 hm, xQ_22 hm, mw_22, mw_up22, xK_23 hm, xN_23 hm, xQ_23 hm, mw_23, mw_up23, xK_24 hm, xN_24 hm, xQ_24 hm, mw_24, mw_up24, xK_25 hm, xN_25 hm, xQ_25 hm, mw_25, mw_up25, xK_26 hm, xN_26 hm, xQ_26 hm, mw_26, mw_up26, xK_27 hm, xN_27 hm, xQ_27 hm, mw_27, mw_up27, xK_28 hm, xN_28 hm, xQ_28 hm, mw_28, mw_up28, xK_29 hm, xN_29 hm, xQ_29 hm, mw_29, mw_up29, xK_30 hm, xN_30 hm, xQ_30 hm, mw_30, mw_up30, xK_31 hm, xN_31 hm, xQ_31 hm, mw_31, mw_up31, xK_32 hm, xN_32 hm, xQ_32 hm, mw_32, mw_up32, xK_33 hm, xN_33 hm, xQ_33 hm, mw_33, mw_up33, xK_34 hm, xN_34 hm, xQ_34 hm, mw_34, mw_up34, xK_35 hm, xN_35 hm, xQ_35 hm, mw_35, mw_up35, xK_36 hm, xN_36 hm, xQ_36 hm, mw_36, mw_up36, xK_37 hm, xN_37 hm, xQ_37 hm, mw_37, mw_up37, if_true, nI_clamp (show j < 2 ^ 31 by omega), bd2 (show j < 160 by omega) (show j < 2 ^ 31 by omega), not_false_eq_true, (hk.2.1 _ hj).1, nI_leI (show tF (tsO t) j < 2 ^ 31 by omega) (show k < 2 ^ 31 by omega), if_neg (show ¬ tF (tsO t) j ≤ k by omega), nI_clamp (show k < 2 ^ 31 by omega), bd2 (show k < 161 by omega) (show k < 2 ^ 31 by omega), hx.2.1 k (by omega), bi_eq0, nI_1]
          cases o
          · by_cases e9 : la t k = 46
            · rw [if_pos rfl, if_pos e9, decide_eq_true e9]; rfl
            · rw [if_pos rfl, if_neg e9, decide_eq_false e9]; rfl
          · rfl)
        (fun o => by
          simp only
          unfold f_X10_isFirstOfSentence_b44
          simp only [kK_sI, kQ_sI, kN_sI, kI_sI, wI_sI, Option.bind_some, lt, mw_0, mw_up0, xK_0 hm, xK_1 hm, xN_1 hm, xQ_1 hm, mw_1, mw_up1, xK_2 hm, xN_2 hm, xQ_2 hm, mw_2, mw_up2, xK_3 hm, xN_3 hm, xQ_3 hm, mw_3, mw_up3, xK_4 hm, xN_4 hm, xQ_4 hm, mw_4, mw_up4, xK_5 hm, xN_5 hm, xQ_5 hm, mw_5, mw_up5, xK_6 hm, xN_6 hm, xQ_6 hm, mw_6, mw_up6, xK_7 hm, xN_7 hm, xQ_7 hm, mw_7, mw_up7, xK_8 hm, xN_8 hm, xQ_8 hm, mw_8, mw_up8, xK_9 hm, xN_9 hm, xQ_9 hm, mw_9, mw_up9, xK_10 hm, xN_10 hm, xQ_10 hm, mw_10, mw_up10, xK_11 hm, xN_11 hm, xQ_11 hm, mw_11, mw_up11, xK_12 hm, xN_12 hm, xQ_12 hm, mw_12, mw_up12, xK_13 hm, xN_13 hm, xQ_13 hm, mw_13, mw_up13, xK_14 hm, xN_14 hm, xQ_14 hm, mw_14, mw_up14, xK_15 hm, xN_15 hm, xQ_15 hm, mw_15, mw_up15, xK_16 hm, xN_16 hm, xQ_16 hm, mw_16, mw_up16, xK_17 hm, xN_17 hm, xQ_17 hm, mw_17, mw_up17, xK_18 hm, xN_18 hm, xQ_18 hm, mw_18, mw_up18, xK_19 hm, xN_19 hm, xQ_19 hm, mw_19, mw_up19, xK_20 hm, xN_20 hm, xQ_20 hm, mw_20, mw_up20, xK_21 hm, xN_21 hm, xQ_21 hm, mw_21, mw_up21, xK_22 hm, xN_22 hm, xQ_22 hm, mw_22, mw_up22, xK_23 hm, xN_23 hm, xQ_23 hm, mw_23, mw_up23, xK_24 hm, xN_24 hm, xQ_24 hm, mw_24, mw_up24, xK_25 hm, xN_25 hm, xQ_25 hm, mw_25, mw_up25, xK_26 hm, xN_26 hm, xQ_26 hm, mw_26, mw_up26, xK_27 hm, xN_27 hm, xQ_27 hm, mw_27, mw_up27, xK_28 hm, xN_28 hm, xQ_28 hm, mw_28, mw_up28, xK_29 hm, xN_29 hm, xQ_29 hm, mw_29, mw_up29, xK_30 hm, xN_30 hm, xQ_30 hm, mw_30, mw_up30, xK_31 hm, xN_31 hm, xQ_31 hm, mw_31, mw_up31, xK_32 hm, xN_32 hm, xQ_32 hm, mw_32, mw_up32, xK_33 hm, xN_33 hm, xQ_33 hm, mw_33, mw_up33, xK_34 hm, xN_34 hm, xQ_34 hm, mw_34, mw_up34, xK_35 hm, xN_35 hm, xQ_35 hm, mw_35, mw_up35, xK_36 hm, xN_36 hm, xQ_36 hm, mw_36, mw_up36, xK_37 hm, xN_37 hm, xQ_37 hm, mw_37, mw_up37, if_true, nI_clamp (show j < 2 ^ 31 by omega), bd2 (show j < 160 by omega) (show j < 2 ^ 31 by omega), not_false_eq_true, (hk.2.1 _ hj).1, nI_leI (show tF (tsO t) j < 2 ^ 31 by omega) (show tF (tsO t) j < 2 ^ 31 by omega), Nat.le_refl]) false
      rw [show (0 : Int32) = bi false from rfl, e3]
      simp only [Option.bind_some]
      rw [if_pos (by cases r <;> decide)]
      refine congrArg (fun z => some (bi z)) (b_eq ?_)
      rw [e4, h1]
      constructor
      · rintro (z | ⟨i, z1, z2, z3⟩)
        · cases z
        · exact Or.inr ⟨i, z1, z2, Or.inr (of_decide_eq_true z3)⟩
      · rintro (z | ⟨i, z1, z2, z3⟩)
        · exact absurd z e
        · rcases z3 with z3 | z3
          · exact absurd z3 (hno i z1 z2)
          · exact Or.inr ⟨i, z1, z2, decide_eq_true z3⟩
    · rw [if_neg e2]
      refine congrArg (fun z => some (bi z)) (show true = t1 (tsO t) j from ?_)
      refine (h1.mpr (Or.inr ?_)).symm
      apply Classical.byContradiction
      intro z
      exact e2 (hp.mpr fun i z1 z2 z3 => z ⟨i, z1, z2, Or.inl z3⟩)
/-- an item fits a token -/
theorem x_fits (hm : mS S m) (hx : mTx G t w) (hk : mTk G t) (ht : t.length ≤ 160) {j : Nat} (hj : j < (tsO t).length) {i : Nat} (hi : i < 36) {v : Iv} (hv : isIt v) (hs : G 7 i = nI (sor v)) (hw : wA G 5 6 i v.2.2) : f_X10_fits (sI S (mw I m G)) m (nI j) (nI i) = some (bi (fI t (tsO t) v j)) := by
  have hl := (tsO_wT ht).1
  have hb := tk_b hj
  obtain ⟨v1, v2, v3, v4⟩ := hv
  obtain ⟨w1, w2⟩ := hw
  have hsz : nI (tE (tsO t) j) - nI (tF (tsO t) j) = nI (tS (tsO t) j) := pk_sub (by omega)
  have hts : tS (tsO t) j ≤ 160 := by unfold tS; omega
  have hsor : sor v < 2 ^ 31 ∧ (sor v = 3 ↔ v.1 = true) ∧ (v.1 = false → (sor v = 0 ↔ v.2.1 = false)) := by
    unfold sor
    cases v.1 <;> cases v.2.1 <;> simp
    split <;> simp
  obtain ⟨s0, s1, s2⟩ := hsor
  unfold f_X10_fits fI
  simp only [kK_sI, kQ_sI, kN_sI, kI_sI, wI_sI, Option.bind_some, lt, mw_0, mw_up0, xK_0 hm, xK_1 hm, xN_1 hm, xQ_1 hm, mw_1, mw_up1, xK_2 hm, xN_2 hm, xQ_2 hm, mw_2, mw_up2, xK_3 hm, xN_3 hm, xQ_3 hm, mw_3, mw_up3, xK_4 hm, xN_4 hm, xQ_4 hm, mw_4, mw_up4, xK_5 hm, xN_5 hm, xQ_5 hm, mw_5, mw_up5, xK_6 hm, xN_6 hm, xQ_6 hm, mw_6, mw_up6, xK_7 hm, xN_7 hm, xQ_7 hm, mw_7, mw_up7, xK_8 hm, xN_8 hm, xQ_8 hm, mw_8, mw_up8, xK_9 hm, xN_9 hm, xQ_9 hm, mw_9, mw_up9, xK_10 hm, xN_10 hm, xQ_10 hm, mw_10, mw_up10, xK_11 hm, xN_11 hm, xQ_11 hm, mw_11, mw_up11, xK_12 hm, xN_12 hm, xQ_12 hm, mw_12, mw_up12, xK_13 hm, xN_13 hm, xQ_13 hm, mw_13, mw_up13, xK_14 hm, xN_14 hm, xQ_14 hm, mw_14, mw_up14, xK_15 hm, xN_15 hm, xQ_15 hm, mw_15, mw_up15, xK_16 hm, xN_16 hm, xQ_16 hm, mw_16, mw_up16, xK_17 hm, xN_17 hm, xQ_17 hm, mw_17, mw_up17, xK_18 hm, xN_18 hm, xQ_18 hm, mw_18, mw_up18, xK_19 hm, xN_19 hm, xQ_19 hm, mw_19, mw_up19, xK_20 hm, xN_20 hm, xQ_20 hm, mw_20, mw_up20, xK_21 hm, xN_21 hm, xQ_21 hm, mw_21, mw_up21, xK_22 hm, xN_22 hm, xQ_22 hm, mw_22, mw_up22, xK_23 hm, xN_23 hm, xQ_23 hm, mw_23, mw_up23, xK_24 hm, xN_24 hm, xQ_24 hm, mw_24, mw_up24, xK_25 hm, xN_25 hm, xQ_25 hm, mw_25, mw_up25, xK_26 hm, xN_26 hm, xQ_26 hm, mw_26, mw_up26, xK_27 hm, xN_27 hm, xQ_27 hm, mw_27, mw_up27, xK_28 hm, xN_28 hm, xQ_28 hm, mw_28, mw_up28, xK_29 hm, xN_29 hm, xQ_29 hm, mw_29, mw_up29, xK_30 hm, xN_30 hm, xQ_30 hm, mw_30, mw_up30, xK_31 hm, xN_31 hm, xQ_31 hm, mw_31, mw_up31, xK_32 hm, xN_32 hm, xQ_32 hm, mw_32, mw_up32, xK_33 hm, xN_33 hm, xQ_33 hm, mw_33, mw_up33, xK_34 hm, xN_34 hm, xQ_34 hm, mw_34, mw_up34, xK_35 hm, xN_35 hm, xQ_35 hm, mw_35, mw_up35, xK_36 hm, xN_36 hm, xQ_36 hm, mw_36, mw_up36, xK_37 hm, xN_37 hm, xQ_37 hm, mw_37, mw_up37, if_true, nI_clamp (show j < 2 ^ 31 by omega), nI_clamp (show i < 2 ^ 31 by omega), bd2 (show j < 160 by omega) (show j < 2 ^ 31 by omega), bd2 (show i < 36 by omega) (show i < 2 ^ 31 by omega), not_false_eq_true, (hk.2.1 _ hj).1, (hk.2.1 _ hj).2.1, (hk.2.1 _ hj).2.2, hs, hsz, w1, bi_eq0, show (3 : Int32) = nI 3 from rfl, nI_eq s0 (show 3 < 2 ^ 31 by decide), nI_eq0 s0, s1, tk_N hj]
  cases e1 : v.1 with
  | true =>
    simp only [if_true]
    cases tW (tsO t) j <;> rfl
  | false =>
    simp only [Bool.false_eq_true, if_false]
    cases e2 : tW (tsO t) j with
    | false => simp only [if_true]; rfl
    | true =>
      simp only [Bool.true_eq_false, if_false, s2 e1, nI_eq (show tS (tsO t) j < 2 ^ 31 by omega) (show v.2.2.length < 2 ^ 31 by omega), nI_ltI (show tS (tsO t) j < 2 ^ 31 by omega) (show v.2.2.length < 2 ^ 31 by omega), Bool.true_and]
      have key : ∀ o : Bool, (o = true → v.2.2.length ≤ tS (tsO t) j) → ((iter (fun (z : Int32 × Int32) => f_X10_fits_b105 m (m + 27) (nI j) (nI i) (sI S (mw I m G)) z.1 z.2) kF (bi o, 0)).bind fun z => if z = 0 ∨ z = 1 then some z else none) = some (bi (o && bg t (tsO t) j v.2.2)) := by
        intro o ho
        obtain ⟨r, e3, e4⟩ := it_all (b := fun (z : Int32 × Int32) => f_X10_fits_b105 m (m + 27) (nI j) (nI i) (sI S (mw I m G)) z.1 z.2) v.2.2.length (fun q => decide (la t (tF (tsO t) j + q) = la v.2.2 q)) o (by omega)
          (by
            simp only
            unfold f_X10_fits_b105
            simp only [kK_sI, kQ_sI, kN_sI, kI_sI, wI_sI, Option.bind_some, lt, mw_0, mw_up0, xK_0 hm, xK_1 hm, xN_1 hm, xQ_1 hm, mw_1, mw_up1, xK_2 hm, xN_2 hm, xQ_2 hm, mw_2, mw_up2, xK_3 hm, xN_3 hm, xQ_3 hm, mw_3, mw_up3, xK_4 hm, xN_4 hm, xQ_4 hm, mw_4, mw_up4, xK_5 hm, xN_5 hm, xQ_5 hm, mw_5, mw_up5, xK_6 hm, xN_6 hm, xQ_6 hm, mw_6, mw_up6, xK_7 hm, xN_7 hm, xQ_7 hm, mw_7, mw_up7, xK_8 hm, xN_8 hm, xQ_8 hm, mw_8, mw_up8, xK_9 hm, xN_9 hm, xQ_9 hm, mw_9, mw_up9, xK_10 hm, xN_10 hm, xQ_10 hm, mw_10, mw_up10, xK_11 hm, xN_11 hm, xQ_11 hm, mw_11, mw_up11, xK_12 hm, xN_12 hm, xQ_12 hm, mw_12, mw_up12, xK_13 hm, xN_13 hm, xQ_13 hm, mw_13, mw_up13, xK_14 hm, xN_14 hm, xQ_14 hm, mw_14, mw_up14, xK_15 hm, xN_15 hm, xQ_15 hm, mw_15, mw_up15, xK_16 hm, xN_16 hm, xQ_16 hm, mw_16, mw_up16, xK_17 hm, xN_17 hm, xQ_17 hm, mw_17, mw_up17, xK_18 hm, xN_18 hm, xQ_18 hm, mw_18, mw_up18, xK_19 hm, xN_19 hm, xQ_19 hm, mw_19, mw_up19, xK_20 hm, xN_20 hm, xQ_20 hm, mw_20, mw_up20, xK_21 hm, xN_21 hm, xQ_21 hm, mw_21, mw_up21, xK_22 hm, xN_22 hm, xQ_22 hm, mw_22, mw_up22, xK_23 hm, xN_23 hm, xQ_23 hm, mw_23, mw_up23, xK_24 hm, xN_24 hm, xQ_24 hm, mw_24, mw_up24, xK_25 hm, xN_25 hm, xQ_25 hm, mw_25, mw_up25, xK_26 hm, xN_26 hm, xQ_26 hm, mw_26, mw_up26, xK_27 hm, xN_27 hm, xQ_27 hm, mw_27, mw_up27, xK_28 hm, xN_28 hm, xQ_28 hm, mw_28, mw_up28, xK_29 hm, xN_29 hm, xQ_29 hm, mw_29, mw_up29, xK_30 hm, xN_30 hm, xQ_30 hm, mw_30, mw_up30, xK_31 hm, xN_31 hm, xQ_31 hm, mw_31, mw_up31, xK_32 hm, xN_32 hm, xQ_32 hm, mw_32, mw_up32, xK_33 hm, xN_33 hm, xQ_33 hm, mw_33, mw_up33, xK_34 hm, xN_34 hm, xQ_34 hm, mw_34, mw_up34, xK_35 hm, xN_35 hm, xQ_35 hm, mw_35, mw_up35, xK_36 hm, xN_36 hm, xQ_36 hm, mw_36, mw_up36, xK_37 hm, xN_37 hm, xQ_37 hm, mw_37, mw_up37, if_true, nI_clamp (show i < 2 ^ 31 by omega), bd2 (show i < 36 by omega) (show i < 2 ^ 31 by omega), not_false_eq_true, w1, bi_eq0]
            split <;> rfl)
          (fun h k hk1 => by
            have hle := ho h
            have hb3 : tF (tsO t) j + k < t.length := by unfold tS at hle; omega
            refine ⟨?_, fun _ => ?_⟩
            · simp only
              unfold f_X10_fits_b105
              simp only [kK_sI, kQ_sI, kN_sI, kI_sI, wI_sI, Option.bind_some, lt, mw_0, mw_up0, xK_0 hm, xK_1 hm, xN_1 hm, xQ_1 hm, mw_1, mw_up1, xK_2 hm, xN_2 hm, xQ_2 hm, mw_2, mw_up2, xK_3 hm, xN_3 hm, xQ_3 hm, mw_3, mw_up3, xK_4 hm, xN_4 hm, xQ_4 hm, mw_4, mw_up4, xK_5 hm, xN_5 hm, xQ_5 hm, mw_5, mw_up5, xK_6 hm, xN_6 hm, xQ_6 hm, mw_6, mw_up6, xK_7 hm, xN_7 hm, xQ_7 hm, mw_7, mw_up7, xK_8 hm, xN_8 hm, xQ_8 hm, mw_8, mw_up8, xK_9 hm, xN_9 hm, xQ_9 hm, mw_9, mw_up9, xK_10 hm, xN_10 hm, xQ_10 hm, mw_10, mw_up10, xK_11 hm, xN_11 hm, xQ_11 hm, mw_11, mw_up11, xK_12 hm, xN_12 hm, xQ_12 hm, mw_12, mw_up12, xK_13 hm, xN_13 hm, xQ_13 hm, mw_13, mw_up13, xK_14 hm, xN_14 hm, xQ_14 hm, mw_14, mw_up14, xK_15 hm, xN_15 hm, xQ_15 hm, mw_15, mw_up15, xK_16 hm, xN_16 hm, xQ_16 hm, mw_16, mw_up16, xK_17 hm, xN_17 hm, xQ_17 hm, mw_17, mw_up17, xK_18 hm, xN_18 hm, xQ_18 hm, mw_18, mw_up18, xK_19 hm, xN_19 hm, xQ_19 hm, mw_19, mw_up19, xK_20 hm, xN_20 hm, xQ_20 hm, mw_20, mw_up20, xK_21 hm, xN_21 hm, xQ_21 hm, mw_21, mw_up21, xK_22 hm, xN_22 hm, xQ_22 hm, mw_22, mw_up22, xK_23 hm, xN_23 hm, xQ_23 hm, mw_23, mw_up23, xK_24 hm, xN_24 hm, xQ_24 hm, mw_24, mw_up24, xK_25 hm, xN_25 hm, xQ_25 hm, mw_25, mw_up25, xK_26 hm, xN_26 hm, xQ_26 hm, mw_26, mw_up26, xK_27 hm, xN_27 hm, xQ_27 hm, mw_27, mw_up27, xK_28 hm, xN_28 hm, xQ_28 hm, mw_28, mw_up28, xK_29 hm, xN_29 hm, xQ_29 hm, mw_29, mw_up29, xK_30 hm, xN_30 hm, xQ_30 hm, mw_30, mw_up30, xK_31 hm, xN_31 hm, xQ_31 hm, mw_31, mw_up31, xK_32 hm, xN_32 hm, xQ_32 hm, mw_32, mw_up32, xK_33 hm, xN_33 hm, xQ_33 hm, mw_33, mw_up33, xK_34 hm, xN_34 hm, xQ_34 hm, mw_34, mw_up34, xK_35 hm, xN_35 hm, xQ_35 hm, mw_35, mw_up35, xK_36 hm, xN_36 hm, xQ_36 hm, mw_36, mw_up36, xK_37 hm, xN_37 hm, xQ_37 hm, mw_37, mw_up37, if_true, nI_clamp (show i < 2 ^ 31 by omega), bd2 (show i < 36 by omega) (show i < 2 ^ 31 by omega), not_false_eq_true, w1, bi_eq0, nI_leI (show v.2.2.length < 2 ^ 31 by omega) (show k < 2 ^ 31 by omega), if_neg (show ¬ v.2.2.length ≤ k by omega), Bool.true_eq_false, if_false, nI_clamp (show j < 2 ^ 31 by omega), bd2 (show j < 160 by omega) (show j < 2 ^ 31 by omega), (hk.2.1 _ hj).1, nI_add, nI_clamp (show tF (tsO t) j + k < 2 ^ 31 by omega), bd2 (show tF (tsO t) j + k < 161 by omega) (show tF (tsO t) j + k < 2 ^ 31 by omega), x_mul20, nI_clamp (show i * 20 + k < 2 ^ 31 by omega), bd2 (show i * 20 + k < 720 by omega) (show i * 20 + k < 2 ^ 31 by omega), hx.2.1 _ hb3, w2 k hk1, nI_1]
              by_cases e9 : la t (tF (tsO t) j + k) = la v.2.2 k
              · rw [if_pos e9, decide_eq_true e9]; rfl
              · rw [if_neg e9, decide_eq_false e9]; rfl
            · simp only
              unfold f_X10_fits_b105
              simp only [kK_sI, kQ_sI, kN_sI, kI_sI, wI_sI, Option.bind_some, lt, mw_0, mw_up0, xK_0 hm, xK_1 hm, xN_1 hm, xQ_1 hm, mw_1, mw_up1, xK_2 hm, xN_2 hm, xQ_2 hm, mw_2, mw_up2, xK_3 hm, xN_3 hm, xQ_3 hm, mw_3, mw_up3, xK_4 hm, xN_4 hm, xQ_4 hm, mw_4, mw_up4, xK_5 hm, xN_5 hm, xQ_5 hm, mw_5, mw_up5, xK_6 hm, xN_6 hm, xQ_6 hm, mw_6, mw_up6, xK_7 hm, xN_7 hm, xQ_7 hm, mw_7, mw_up7, xK_8 hm, xN_8 hm, xQ_8 hm, mw_8, mw_up8, xK_9 hm, xN_9 hm, xQ_9 hm, mw_9, mw_up9, xK_10 hm, xN_10 hm, xQ_10 hm, mw_10, mw_up10, xK_11 hm, xN_11 hm, xQ_11 hm, mw_11, mw_up11, xK_12 hm, xN_12 hm, xQ_12 hm, mw_12, mw_up12, xK_13 hm, xN_13 hm, xQ_13 hm, mw_13, mw_up13, xK_14 hm, xN_14 hm, xQ_14 hm, mw_14, mw_up14, xK_15 hm, xN_15 hm, xQ_15 hm, mw_15, mw_up15, xK_16 hm, xN_16 hm, xQ_16 hm, mw_16, mw_up16, xK_17 hm, xN_17 hm, xQ_17 hm, mw_17, mw_up17, xK_18 hm, xN_18 hm, xQ_18 hm, mw_18, mw_up18, xK_19 hm, xN_19 hm, xQ_19 hm, mw_19, mw_up19, xK_20 hm, xN_20 hm, xQ_20 hm, mw_20, mw_up20, xK_21 hm, xN_21 hm, xQ_21 hm, mw_21, mw_up21, xK_22 hm, xN_22 hm, xQ_22 hm, mw_22, mw_up22, xK_23 hm, xN_23 hm, xQ_23 hm, mw_23, mw_up23, xK_24 hm, xN_24 hm, xQ_24 hm, mw_24, mw_up24, xK_25 hm, xN_25 hm, xQ_25 hm, mw_25, mw_up25, xK_26 hm, xN_26 hm, xQ_26 hm, mw_26, mw_up26, xK_27 hm, xN_27 hm, xQ_27 hm, mw_27, mw_up27, xK_28 hm, xN_28 hm, xQ_28 hm, mw_28, mw_up28, xK_29 hm, xN_29 hm, xQ_29 hm, mw_29, mw_up29, xK_30 hm, xN_30 hm, xQ_30 hm, mw_30, mw_up30, xK_31 hm, xN_31 hm, xQ_31 hm, mw_31, mw_up31, xK_32 hm, xN_32 hm, xQ_32 hm, mw_32, mw_up32, xK_33 hm, xN_33 hm, xQ_33 hm, mw_33, mw_up33, xK_34 hm, xN_34 hm, xQ_34 hm, mw_34, mw_up34, xK_35 hm, xN_35 hm, xQ_35 hm, mw_35, mw_up35, xK_36 hm, xN_36 hm, xQ_36 hm, mw_36, mw_up36, xK_37 hm, xN_37 hm, xQ_37 hm, mw_37, mw_up37, if_true, nI_clamp (show i < 2 ^ 31 by omega), bd2 (show i < 36 by omega) (show i < 2 ^ 31 by omega), not_false_eq_true, w1, bi_eq0]
              split <;> rfl)
          (fun h p => by
            simp only
            unfold f_X10_fits_b105
            simp only [kK_sI, kQ_sI, kN_sI, kI_sI, wI_sI, Option.bind_some, lt, mw_0, mw_up0, xK_0 hm, xK_1 hm, xN_1 hm, xQ_1 hm, mw_1, mw_up1, xK_2 hm, xN_2 hm, xQ_2 hm, mw_2, mw_up2, xK_3 hm, xN_3 hm, xQ_3 hm, mw_3, mw_up3, xK_4 hm, xN_4 hm, xQ_4 hm, mw_4, mw_up4, xK_5 hm, xN_5 hm, xQ_5 hm, mw_5, mw_up5, xK_6 hm, xN_6 hm, xQ_6 hm, mw_6, mw_up6, xK_7 hm, xN_7 hm, xQ_7 hm, mw_7, mw_up7, xK_8 hm, xN_8 hm, xQ_8 hm, mw_8, mw_up8, xK_9 hm, xN_9 hm, xQ_9 hm, mw_9, mw_up9, xK_10 hm, xN_10 hm, xQ_10 hm, mw_10, mw_up10, xK_11 hm, xN_11 hm, xQ_11 hm, mw_11, mw_up11, xK_12 hm, xN_12 hm, xQ_12 hm, mw_12, mw_up12, xK_13 hm, xN_13 hm, xQ_13 hm, mw_13, mw_up13, xK_14 hm, xN_14 hm, xQ_14 hm, mw_14, mw_up14, xK_15 hm, xN_15 hm, xQ_15 hm, mw_15, mw_up15, xK_16 hm, xN_16 hm, xQ_16 hm, mw_16, mw_up16, xK_17 hm, xN_17 hm, xQ_17 hm, mw_17, mw_up17, xK_18 hm, xN_18 hm, xQ_18 hm, mw_18, mw_up18, xK_19 hm, xN_19 hm, xQ_19 hm, mw_19, mw_up19, xK_20 hm, xN_20 hm, xQ_20 hm, mw_20, mw_up20, xK_21 hm, xN_21 hm, xQ_21 hm, mw_21, mw_up21, xK_22 hm, xN_22 hm, xQ_22 hm, mw_22, mw_up22, xK_23 hm, xN_23 hm, xQ_23 hm, mw_23, mw_up23, xK_24 hm, xN_24 hm, xQ_24 hm, mw_24, mw_up24, xK_25 hm, xN_25 hm, xQ_25 hm, mw_25, mw_up25, xK_26 hm, xN_26 hm, xQ_26 hm, mw_26, mw_up26, xK_27 hm, xN_27 hm, xQ_27 hm, mw_27, mw_up27, xK_28 hm, xN_28 hm, xQ_28 hm, mw_28, mw_up28, xK_29 hm, xN_29 hm, xQ_29 hm, mw_29, mw_up29, xK_30 hm, xN_30 hm, xQ_30 hm, mw_30, mw_up30, xK_31 hm, xN_31 hm, xQ_31 hm, mw_31, mw_up31, xK_32 hm, xN_32 hm, xQ_32 hm, mw_32, mw_up32, xK_33 hm, xN_33 hm, xQ_33 hm, mw_33, mw_up33, xK_34 hm, xN_34 hm, xQ_34 hm, mw_34, mw_up34, xK_35 hm, xN_35 hm, xQ_35 hm, mw_35, mw_up35, xK_36 hm, xN_36 hm, xQ_36 hm, mw_36, mw_up36, xK_37 hm, xN_37 hm, xQ_37 hm, mw_37, mw_up37, if_true, nI_clamp (show i < 2 ^ 31 by omega), bd2 (show i < 36 by omega) (show i < 2 ^ 31 by omega), not_false_eq_true, w1, nI_leI (show v.2.2.length < 2 ^ 31 by omega) (show v.2.2.length < 2 ^ 31 by omega), Nat.le_refl])
        rw [e3]
        simp only [Option.bind_some]
        rw [if_pos (by cases r <;> decide)]
        refine congrArg (fun z => some (bi z)) (b_eq ?_)
        rw [e4]
        unfold bg
        rw [Bool.and_eq_true, decide_eq_true_eq]
        refine and_congr_right fun ho1 => ?_
        simp only [decide_eq_true_eq]
        exact ⟨fun z => ⟨ho ho1, z⟩, fun z => z.2⟩
      cases e3 : v.2.1 with
      | false =>
        simp only [if_true, Bool.false_or]
        by_cases e4 : tS (tsO t) j = v.2.2.length
        · rw [if_pos e4, decide_eq_true e4, Bool.and_true]
          exact (key true (fun _ => by omega)).trans (by rw [Bool.true_and])
        · rw [if_neg e4, decide_eq_false e4, Bool.and_false]
          exact (key false (fun z => by cases z)).trans (by rw [Bool.false_and])
      | true =>
        simp only [Bool.true_eq_false, if_false, Bool.true_or, Bool.and_true]
        by_cases e4 : tS (tsO t) j < v.2.2.length
        · rw [if_pos e4]
          refine (key false (fun z => by cases z)).trans ?_
          rw [Bool.false_and]
          refine congrArg (fun z => some (bi z)) (Eq.symm ?_)
          unfold bg
          exact decide_eq_false (fun z => by omega)
        · rw [if_neg e4]
          exact (key true (fun _ => by omega)).trans (by rw [Bool.true_and])
end
