/-! a pattern at a token, exceptions, values, words of pairs, what is ignored -/
section
variable {S : PS} {I G : Nat → Nat → Int32} {m : Nat} {t w : List Int32}
theorem ia_some {l : List Iv} {i : Nat} (h : i < l.length) : l[i]? = some (ia l i) := by
  unfold ia
  rw [List.getElem?_eq_getElem h]
  rfl
theorem fI_ge {t : List Int32} {ts : List Tk} {v : Iv} {j : Nat} (h : ts.length ≤ j) : fI t ts v j = false := by
  unfold fI tN tW
  rw [List.getElem?_eq_none h]
  cases v.1 <;> rfl
theorem x_isAt (hm : mS S m) (hx : mTx G t w) (hk : mTk G t) (ht : t.length ≤ 160) {j : Nat} (hj : j < (tsO t).length) {r : Nat} (hr : r < 12) {v : Rv} (hv : mRu G r v) (h3 : v.1.length ≤ 3) (h1 : 1 ≤ v.1.length) (hit : ∀ it ∈ v.1, isIt it) : f_X10_isAt (sI S (mw I m G)) m (nI r) (nI j) = some (bi (itA t (tsO t) v.1 j)) := by
  have hl := (tsO_wT ht).1
  obtain ⟨a1, a2, -⟩ := hv
  unfold f_X10_isAt
  simp only [kK_sI, kQ_sI, kN_sI, kI_sI, wI_sI, Option.bind_some, lt, mw_0, mw_up0, xK_0 hm, xK_1 hm, xN_1 hm, xQ_1 hm, mw_1, mw_up1, xK_2 hm, xN_2 hm, xQ_2 hm, mw_2, mw_up2, xK_3 hm, xN_3 hm, xQ_3 hm, mw_3, mw_up3, xK_4 hm, xN_4 hm, xQ_4 hm, mw_4, mw_up4, xK_5 hm, xN_5 hm, xQ_5 hm, mw_5, mw_up5, xK_6 hm, xN_6 hm, xQ_6 hm, mw_6, mw_up6, xK_7 hm, xN_7 hm, xQ_7 hm, mw_7, mw_up7, xK_8 hm, xN_8 hm, xQ_8 hm, mw_8, mw_up8, xK_9 hm, xN_9 hm, xQ_9 hm, mw_9, mw_up9, xK_10 hm, xN_10 hm, xQ_10 hm, mw_10, mw_up10, xK_11 hm, xN_11 hm, xQ_11 hm, mw_11, mw_up11, xK_12 hm, xN_12 hm, xQ_12 hm, mw_12, mw_up12, xK_13 hm, xN_13 hm, xQ_13 hm, mw_13, mw_up13, xK_14 hm, xN_14 hm, xQ_14 hm, mw_14, mw_up14, xK_15 hm, xN_15 hm, xQ_15 hm, mw_15, mw_up15, xK_16 hm, xN_16 hm, xQ_16 hm, mw_16, mw_up16, xK_17 hm, xN_17 hm, xQ_17 hm, mw_17, mw_up17, xK_18 hm, xN_18 hm, xQ_18 hm, mw_18, mw_up18, xK_19 hm, xN_19 hm, xQ_19 hm, mw_19, mw_up19, xK_20 hm, xN_20 hm, xQ_20 hm, mw_20, mw_up20, xK_21 hm, xN_21 hm, xQ_21 hm, mw_21, mw_up21, xK_22 hm, xN_22 hm, xQ_22 hm, mw_22, mw_up22, xK_23 hm, xN_23 hm, xQ_23 hm, mw_23, mw_up23, xK_24 hm, xN_24 hm, xQ_24 hm, mw_24, mw_up24, xK_25 hm, xN_25 hm, xQ_25 hm, mw_25, mw_up25, xK_26 hm, xN_26 hm, xQ_26 hm, mw_26, mw_up26, xK_27 hm, xN_27 hm, xQ_27 hm, mw_27, mw_up27, xK_28 hm, xN_28 hm, xQ_28 hm, mw_28, mw_up28, xK_29 hm, xN_29 hm, xQ_29 hm, mw_29, mw_up29, xK_30 hm, xN_30 hm, xQ_30 hm, mw_30, mw_up30, xK_31 hm, xN_31 hm, xQ_31 hm, mw_31, mw_up31, xK_32 hm, xN_32 hm, xQ_32 hm, mw_32, mw_up32, xK_33 hm, xN_33 hm, xQ_33 hm, mw_33, mw_up33, xK_34 hm, xN_34 hm, xQ_34 hm, mw_34, mw_up34, xK_35 hm, xN_35 hm, xQ_35 hm, mw_35, mw_up35, xK_36 hm, xN_36 hm, xQ_36 hm, mw_36, mw_up36, xK_37 hm, xN_37 hm, xQ_37 hm, mw_37, mw_up37, if_true, nI_clamp (show r < 2 ^ 31 by omega), bd2 (show r < 12 by omega) (show r < 2 ^ 31 by omega), not_false_eq_true, a1, hk.1, nI_add, nI_ltI (show (tsO t).length < 2 ^ 31 by omega) (show j + v.1.length < 2 ^ 31 by omega)]
  have hpo : ∀ (o : Bool) (k : Nat), k ≤ v.1.length → (o = false ∨ k = v.1.length) → f_X10_isAt_b24 m (m + 4) (nI r) (nI j) (sI S (mw I m G)) (bi o) (nI k) = some (.inr (bi o)) := fun o k hk1 hk2 => by
    unfold f_X10_isAt_b24
    simp only [kK_sI, kQ_sI, kN_sI, kI_sI, wI_sI, Option.bind_some, lt, mw_0, mw_up0, xK_0 hm, xK_1 hm, xN_1 hm, xQ_1 hm, mw_1, mw_up1, xK_2 hm, xN_2 hm, xQ_2 hm, mw_2, mw_up2, xK_3 hm, xN_3 hm, xQ_3 hm, mw_3, mw_up3, xK_4 hm, xN_4 hm, xQ_4 hm, mw_4, mw_up4, xK_5 hm, xN_5 hm, xQ_5 hm, mw_5, mw_up5, xK_6 hm, xN_6 hm, xQ_6 hm, mw_6, mw_up6, xK_7 hm, xN_7 hm, xQ_7 hm, mw_7, mw_up7, xK_8 hm, xN_8 hm, xQ_8 hm, mw_8, mw_up8, xK_9 hm, xN_9 hm, xQ_9 hm, mw_9, mw_up9, xK_10 hm, xN_10 hm, xQ_10 hm, mw_10, mw_up10, xK_11 hm, xN_11 hm, xQ_11 hm, mw_11, mw_up11, xK_12 hm, xN_12 hm, xQ_12 hm, mw_12, mw_up12, xK_13 hm, xN_13 hm, xQ_13 hm, mw_13, mw_up13, xK_14 hm, xN_14 hm, xQ_14 hm, mw_14, mw_up14, xK_15 hm, xN_15 hm, xQ_15 hm, mw_15, mw_up15, xK_16 hm, xN_16 hm, xQ_16 hm, mw_16, mw_up16, xK_17 hm, xN_17 hm, xQ_17 hm, mw_17, mw_up17, xK_18 hm, xN_18 hm, xQ_18 hm, mw_18, mw_up18, xK_19 hm, xN_19 hm, xQ_19 hm, mw_19, mw_up19, xK_20 hm, xN_20 hm, xQ_20 hm, mw_20, mw_up20, xK_21 hm, xN_21 hm, xQ_21 hm, mw_21, mw_up21, xK_22 hm, xN_22 hm, xQ_22 hm, mw_22, mw_up22, xK_23 hm, xN_23 hm, xQ_23 hm, mw_23, mw_up23, xK_24 hm, xN_24 hm, xQ_24 hm, mw_24, mw_up24, xK_25 hm, xN_25 hm, xQ_25 hm, mw_25, mw_up25, xK_26 hm, xN_26 hm, xQ_26 hm, mw_26, mw_up26, xK_27 hm, xN_27 hm, xQ_27 hm, mw_27, mw_up27, xK_28 hm, xN_28 hm, xQ_28 hm, mw_28, mw_up28, xK_29 hm, xN_29 hm, xQ_29 hm, mw_29, mw_up29, xK_30 hm, xN_30 hm, xQ_30 hm, mw_30, mw_up30, xK_31 hm, xN_31 hm, xQ_31 hm, mw_31, mw_up31, xK_32 hm, xN_32 hm, xQ_32 hm, mw_32, mw_up32, xK_33 hm, xN_33 hm, xQ_33 hm, mw_33, mw_up33, xK_34 hm, xN_34 hm, xQ_34 hm, mw_34, mw_up34, xK_35 hm, xN_35 hm, xQ_35 hm, mw_35, mw_up35, xK_36 hm, xN_36 hm, xQ_36 hm, mw_36, mw_up36, xK_37 hm, xN_37 hm, xQ_37 hm, mw_37, mw_up37, if_true, nI_clamp (show r < 2 ^ 31 by omega), bd2 (show r < 12 by omega) (show r < 2 ^ 31 by omega), not_false_eq_true, a1, nI_leI (show v.1.length < 2 ^ 31 by omega) (show k < 2 ^ 31 by omega), bi_eq0]
    rcases hk2 with e | e
    · rw [if_pos e]; split <;> rfl
    · rw [if_pos (show v.1.length ≤ k by omega)]
  have key : ∀ o : Bool, (o = true → j + v.1.length ≤ (tsO t).length) → ((iter (fun (z : Int32 × Int32) => f_X10_isAt_b24 m (m + 4) (nI r) (nI j) (sI S (mw I m G)) z.1 z.2) kF (bi o, 0)).bind fun z => if z = 0 ∨ z = 1 then some z else none) = some (bi (o && itA t (tsO t) v.1 j)) := by
    intro o ho
    obtain ⟨z, e3, e4⟩ := it_all (b := fun (z : Int32 × Int32) => f_X10_isAt_b24 m (m + 4) (nI r) (nI j) (sI S (mw I m G)) z.1 z.2) v.1.length (fun i => fI t (tsO t) (ia v.1 i) (j + i) && (decide (i = 0) || gO t (tsO t) (j + i - 1))) o (by omega)
      (hpo false 0 (Nat.zero_le _) (Or.inl rfl))
      (fun h k hk1 => by
        have hle := ho h
        refine ⟨?_, fun _ => hpo false k (by omega) (Or.inl rfl)⟩
        have hjk : j + k < (tsO t).length := by omega
        obtain ⟨b1, b2⟩ := a2 k _ (ia_some hk1)
        have hb := tk_b hjk
        simp only
        unfold f_X10_isAt_b24
        simp only [kK_sI, kQ_sI, kN_sI, kI_sI, wI_sI, Option.bind_some, lt, mw_0, mw_up0, xK_0 hm, xK_1 hm, xN_1 hm, xQ_1 hm, mw_1, mw_up1, xK_2 hm, xN_2 hm, xQ_2 hm, mw_2, mw_up2, xK_3 hm, xN_3 hm, xQ_3 hm, mw_3, mw_up3, xK_4 hm, xN_4 hm, xQ_4 hm, mw_4, mw_up4, xK_5 hm, xN_5 hm, xQ_5 hm, mw_5, mw_up5, xK_6 hm, xN_6 hm, xQ_6 hm, mw_6, mw_up6, xK_7 hm, xN_7 hm, xQ_7 hm, mw_7, mw_up7, xK_8 hm, xN_8 hm, xQ_8 hm, mw_8, mw_up8, xK_9 hm, xN_9 hm, xQ_9 hm, mw_9, mw_up9, xK_10 hm, xN_10 hm, xQ_10 hm, mw_10, mw_up10, xK_11 hm, xN_11 hm, xQ_11 hm, mw_11, mw_up11, xK_12 hm, xN_12 hm, xQ_12 hm, mw_12, mw_up12, xK_13 hm, xN_13 hm, xQ_13 hm, mw_13, mw_up13, xK_14 hm, xN_14 hm, xQ_14 hm, mw_14, mw_up14, xK_15 hm, xN_15 hm, xQ_15 hm, mw_15, mw_up15, xK_16 hm, xN_16 hm, xQ_16 hm, mw_16, mw_up16, xK_17 hm, xN_17 hm, xQ_17 hm, mw_17, mw_up17, xK_18 hm, xN_18 hm, xQ_18 hm, mw_18, mw_up18, xK_19 hm, xN_19 hm, xQ_19 hm, mw_19, mw_up19, xK_20 hm, xN_20 hm, xQ_20 hm, mw_20, mw_up20, xK_21 hm, xN_21 hm, xQ_21 hm, mw_21, mw_up21, xK_22 hm, xN_22 hm, xQ_22 hm, mw_22, mw_up22, xK_23 hm, xN_23 hm, xQ_23 hm, mw_23, mw_up23, xK_24 hm, xN_24 hm, xQ_24 hm, mw_24, mw_up24, xK_25 hm, xN_25 hm, xQ_25 hm, mw_25, mw_up25, xK_26 hm, xN_26 hm, xQ_26 hm, mw_26, mw_up26, xK_27 hm, xN_27 hm, xQ_27 hm, mw_27, mw_up27, xK_28 hm, xN_28 hm, xQ_28 hm, mw_28, mw_up28, xK_29 hm, xN_29 hm, xQ_29 hm, mw_29, mw_up29, xK_30 hm, xN_30 hm, xQ_30 hm, mw_30, mw_up30, xK_31 hm, xN_31 hm, xQ_31 hm, mw_31, mw_up31, xK_32 hm, xN_32 hm, xQ_32 hm, mw_32, mw_up32, xK_33 hm, xN_33 hm, xQ_33 hm, mw_33, mw_up33, xK_34 hm, xN_34 hm, xQ_34 hm, mw_34, mw_up34, xK_35 hm, xN_35 hm, xQ_35 hm, mw_35, mw_up35, xK_36 hm, xN_36 hm, xQ_36 hm, mw_36, mw_up36, xK_37 hm, xN_37 hm, xQ_37 hm, mw_37, mw_up37, if_true, nI_clamp (show r < 2 ^ 31 by omega), bd2 (show r < 12 by omega) (show r < 2 ^ 31 by omega), not_false_eq_true, a1, nI_leI (show v.1.length < 2 ^ 31 by omega) (show k < 2 ^ 31 by omega), if_neg (show ¬ v.1.length ≤ k by omega), bi_eq0, Bool.true_eq_false, if_false, nI_add, x_mul3, x_fits hm hx hk ht hjk (show r * 3 + k < 36 by omega) (hit _ (List.mem_of_getElem? (ia_some hk1))) b1 b2, nI_1]
        cases e5 : fI t (tsO t) (ia v.1 k) (j + k) with
        | false => simp only [if_true, Bool.false_and]; rfl
        | true =>
          simp only [Bool.true_eq_false, if_false, Bool.true_and, nI_eq0 (show k < 2 ^ 31 by omega)]
          by_cases e6 : k = 0
          · rw [if_pos e6, decide_eq_true e6, Bool.true_or]; rfl
          · rw [if_neg e6, decide_eq_false e6, Bool.false_or]
            have hj1 : j + k - 1 < (tsO t).length := by omega
            have hb1 := tk_b hj1
            simp only [nI_sub1 (show 0 < j + k by omega), nI_clamp (show j + k < 2 ^ 31 by omega), nI_clamp (show j + k - 1 < 2 ^ 31 by omega), bd2 (show j + k < 160 by omega) (show j + k < 2 ^ 31 by omega), bd2 (show j + k - 1 < 160 by omega) (show j + k - 1 < 2 ^ 31 by omega), not_false_eq_true, if_true, (hk.2.1 _ hjk).1, (hk.2.1 _ hj1).2.1, nI_1, nI_eq (show tF (tsO t) (j + k) < 2 ^ 31 by omega) (show tE (tsO t) (j + k - 1) + 1 < 2 ^ 31 by omega)]
            unfold gO
            rw [show j + k - 1 + 1 = j + k by omega]
            by_cases e7 : tF (tsO t) (j + k) = tE (tsO t) (j + k - 1) + 1
            · rw [if_pos e7]
              simp only [nI_clamp (show tE (tsO t) (j + k - 1) < 2 ^ 31 by omega), bd2 (show tE (tsO t) (j + k - 1) < 161 by omega) (show tE (tsO t) (j + k - 1) < 2 ^ 31 by omega), not_false_eq_true, if_true, hx.2.1 (tE (tsO t) (j + k - 1)) (by omega)]
              by_cases e8 : la t (tE (tsO t) (j + k - 1)) = 32
              · rw [if_pos e8, decide_eq_true ⟨hjk, e8, e7⟩]; rfl
              · rw [if_neg e8, decide_eq_false (fun z => e8 z.2.1)]; rfl
            · rw [if_neg e7, decide_eq_false (fun z => e7 z.2.2)]; rfl)
      (fun h p => hpo p v.1.length (Nat.le_refl _) (Or.inr rfl))
    rw [e3]
    simp only [Option.bind_some]
    rw [if_pos (by cases z <;> decide)]
    refine congrArg (fun z => some (bi z)) (b_eq ?_)
    rw [e4]
    unfold itA
    rw [Bool.and_eq_true, decide_eq_true_eq]
    refine and_congr_right fun ho1 => ?_
    simp only [Bool.and_eq_true, Bool.or_eq_true, decide_eq_true_eq]
    exact ⟨fun z i hi => ⟨(z i hi).2, (z i hi).1⟩, fun z i hi => ⟨(z i hi).2, (z i hi).1⟩⟩
  by_cases e : (tsO t).length < j + v.1.length
  · rw [if_pos e]
    refine (key false (fun z => by cases z)).trans ?_
    rw [Bool.false_and]
    refine congrArg (fun z => some (bi z)) (Eq.symm (decide_eq_false (fun z => ?_)))
    have := (z (v.1.length - 1) (by omega)).2
    rw [fI_ge (by omega)] at this
    cases this
  · rw [if_neg e]
    exact (key true (fun _ => by omega)).trans (by rw [Bool.true_and])
/-- a word at a token -/
theorem iT_word {l : List Int32} (hl : isWd l) {j : Nat} (h : iT t (tsO t) l j = true) : tW (tsO t) j = true := by
  unfold iT at h
  rw [decide_eq_true_eq] at h
  obtain ⟨h1, h2, h3⟩ := h
  have hb := tk_b h1
  have := tk_k h1 (Nat.le_refl _) hb.1
  have e := h3 0 (by have := hl.1; omega)
  rw [Nat.add_zero] at e
  rw [e, kd_1.mpr (hl.2.2 0 (by have := hl.1; omega))] at this
  unfold kdW at this
  cases hw : tW (tsO t) j with
  | true => rfl
  | false => rw [hw] at this; simp at this
/-- the model asks whether a token is a word: it compares from its first sign on -/
theorem x_excLoop (hm : mS S m) (hx : mTx G t w) (hk : mTk G t) (ht : t.length ≤ 160) {j : Nat} (hj : j < (tsO t).length) {e : Nat} (he : e < 36) {l : List Int32} (hl20 : l.length ≤ 20) (hw : wA G 12 13 e l) : ((iter (fun (z : Int32 × Int32) => f_X10_isExcepted_b103 m (m + 27) (m + 13) (nI (j + 1)) (nI e) (sI S (mw I m G)) z.1 z.2) kF (bi (decide (tS (tsO t) j = l.length)), 0))) = some (bi (iT t (tsO t) l j)) := by
  have hl := (tsO_wT ht).1
  have hb := tk_b hj
  obtain ⟨w1, w2⟩ := hw
  have hpo : ∀ (o : Bool) (k : Nat), k ≤ l.length → (o = false ∨ k = l.length) → f_X10_isExcepted_b103 m (m + 27) (m + 13) (nI (j + 1)) (nI e) (sI S (mw I m G)) (bi o) (nI k) = some (.inr (bi o)) := fun o k hk1 hk2 => by
    unfold f_X10_isExcepted_b103
    simp only [kK_sI, kQ_sI, kN_sI, kI_sI, wI_sI, Option.bind_some, lt, mw_0, mw_up0, xK_0 hm, xK_1 hm, xN_1 hm, xQ_1 hm, mw_1, mw_up1, xK_2 hm, xN_2 hm, xQ_2 hm, mw_2, mw_up2, xK_3 hm, xN_3 hm, xQ_3 hm, mw_3, mw_up3, xK_4 hm, xN_4 hm, xQ_4 hm, mw_4, mw_up4, xK_5 hm, xN_5 hm, xQ_5 hm, mw_5, mw_up5, xK_6 hm, xN_6 hm, xQ_6 hm, mw_6, mw_up6, xK_7 hm, xN_7 hm, xQ_7 hm, mw_7, mw_up7, xK_8 hm, xN_8 hm, xQ_8 hm, mw_8, mw_up8, xK_9 hm, xN_9 hm, xQ_9 hm, mw_9, mw_up9, xK_10 hm, xN_10 hm, xQ_10 hm, mw_10, mw_up10, xK_11 hm, xN_11 hm, xQ_11 hm, mw_11, mw_up11, xK_12 hm, xN_12 hm, xQ_12 hm, mw_12, mw_up12, xK_13 hm, xN_13 hm, xQ_13 hm, mw_13, mw_up13, xK_14 hm, xN_14 hm, xQ_14 hm, mw_14, mw_up14, xK_15 hm, xN_15 hm, xQ_15 hm, mw_15, mw_up15, xK_16 hm, xN_16 hm, xQ_16 hm, mw_16, mw_up16, xK_17 hm, xN_17 hm, xQ_17 hm, mw_17, mw_up17, xK_18 hm, xN_18 hm, xQ_18 hm, mw_18, mw_up18, xK_19 hm, xN_19 hm, xQ_19 hm, mw_19, mw_up19, xK_20 hm, xN_20 hm, xQ_20 hm, mw_20, mw_up20, xK_21 hm, xN_21 hm, xQ_21 hm, mw_21, mw_up21, xK_22 hm, xN_22 hm, xQ_22 hm, mw_22, mw_up22, xK_23 hm, xN_23 hm, xQ_23 hm, mw_23, mw_up23, xK_24 hm, xN_24 hm, xQ_24 hm, mw_24, mw_up24, xK_25 hm, xN_25 hm, xQ_25 hm, mw_25, mw_up25, xK_26 hm, xN_26 hm, xQ_26 hm, mw_26, mw_up26, xK_27 hm, xN_27 hm, xQ_27 hm, mw_27, mw_up27, xK_28 hm, xN_28 hm, xQ_28 hm, mw_28, mw_up28, xK_29 hm, xN_29 hm, xQ_29 hm, mw_29, mw_up29, xK_30 hm, xN_30 hm, xQ_30 hm, mw_30, mw_up30, xK_31 hm, xN_31 hm, xQ_31 hm, mw_31, mw_up31, xK_32 hm, xN_32 hm, xQ_32 hm, mw_32, mw_up32, xK_33 hm, xN_33 hm, xQ_33 hm, mw_33, mw_up33, xK_34 hm, xN_34 hm, xQ_34 hm, mw_34, mw_up34, xK_35 hm, xN_35 hm, xQ_35 hm, mw_35, mw_up35, xK_36 hm, xN_36 hm, xQ_36 hm, mw_36, mw_up36, xK_37 hm, xN_37 hm, xQ_37 hm, mw_37, mw_up37, if_true, nI_clamp (show e < 2 ^ 31 by omega), bd2 (show e < 36 by omega) (show e < 2 ^ 31 by omega), not_false_eq_true, w1, nI_leI (show l.length < 2 ^ 31 by omega) (show k < 2 ^ 31 by omega), bi_eq0]
    rcases hk2 with e | e
    · rw [if_pos e]; split <;> rfl
    · rw [if_pos (show l.length ≤ k by omega)]
  obtain ⟨z, e3, e4⟩ := it_all (b := fun (z : Int32 × Int32) => f_X10_isExcepted_b103 m (m + 27) (m + 13) (nI (j + 1)) (nI e) (sI S (mw I m G)) z.1 z.2) l.length (fun q => decide (la t (tF (tsO t) j + q) = la l q)) (decide (tS (tsO t) j = l.length)) (by omega)
    (hpo false 0 (Nat.zero_le _) (Or.inl rfl))
    (fun h k hk1 => by
      have hle := of_decide_eq_true h
      refine ⟨?_, fun _ => hpo false k (by omega) (Or.inl rfl)⟩
      have hb3 : tF (tsO t) j + k < t.length := by unfold tS at hle; omega
      simp only
      unfold f_X10_isExcepted_b103
      simp only [kK_sI, kQ_sI, kN_sI, kI_sI, wI_sI, Option.bind_some, lt, mw_0, mw_up0, xK_0 hm, xK_1 hm, xN_1 hm, xQ_1 hm, mw_1, mw_up1, xK_2 hm, xN_2 hm, xQ_2 hm, mw_2, mw_up2, xK_3 hm, xN_3 hm, xQ_3 hm, mw_3, mw_up3, xK_4 hm, xN_4 hm, xQ_4 hm, mw_4, mw_up4, xK_5 hm, xN_5 hm, xQ_5 hm, mw_5, mw_up5, xK_6 hm, xN_6 hm, xQ_6 hm, mw_6, mw_up6, xK_7 hm, xN_7 hm, xQ_7 hm, mw_7, mw_up7, xK_8 hm, xN_8 hm, xQ_8 hm, mw_8, mw_up8, xK_9 hm, xN_9 hm, xQ_9 hm, mw_9, mw_up9, xK_10 hm, xN_10 hm, xQ_10 hm, mw_10, mw_up10, xK_11 hm, xN_11 hm, xQ_11 hm, mw_11, mw_up11, xK_12 hm, xN_12 hm, xQ_12 hm, mw_12, mw_up12, xK_13 hm, xN_13 hm, xQ_13 hm, mw_13, mw_up13, xK_14 hm, xN_14 hm, xQ_14 hm, mw_14, mw_up14, xK_15 hm, xN_15 hm, xQ_15 hm, mw_15, mw_up15, xK_16 hm, xN_16 hm, xQ_16 hm, mw_16, mw_up16, xK_17 hm, xN_17 hm, xQ_17 hm, mw_17, mw_up17, xK_18 hm, xN_18 hm, xQ_18 hm, mw_18, mw_up18, xK_19 hm, xN_19 hm, xQ_19 hm, mw_19, mw_up19, xK_20 hm, xN_20 hm, xQ_20 hm, mw_20, mw_up20, xK_21 hm, xN_21 hm, xQ_21 hm, mw_21, mw_up21, xK_22 hm, xN_22 hm, xQ_22 hm, mw_22, mw_up22, xK_23 hm, xN_23 hm, xQ_23 hm, mw_23, mw_up23, xK_24 hm, xN_24 hm, xQ_24 hm, mw_24, mw_up24, xK_25 hm, xN_25 hm, xQ_25 hm, mw_25, mw_up25, xK_26 hm, xN_26 hm, xQ_26 hm, mw_26, mw_up26, xK_27 hm, xN_27 hm, xQ_27 hm, mw_27, mw_up27, xK_28 hm, xN_28 hm, xQ_28 hm, mw_28, mw_up28, xK_29 hm, xN_29 hm, xQ_29 hm, mw_29, mw_up29, xK_30 hm, xN_30 hm, xQ_30 hm, mw_30, mw_up30, xK_31 hm, xN_31 hm, xQ_31 hm, mw_31, mw_up31, xK_32 hm, xN_32 hm, xQ_32 hm, mw_32, mw_up32, xK_33 hm, xN_33 hm, xQ_33 hm, mw_33, mw_up33, xK_34 hm, xN_34 hm, xQ_34 hm, mw_34, mw_up34, xK_35 hm, xN_35 hm, xQ_35 hm, mw_35, mw_up35, xK_36 hm, xN_36 hm, xQ_36 hm, mw_36, mw_up36, xK_37 hm, xN_37 hm, xQ_37 hm, mw_37, mw_up37, if_true, nI_clamp (show e < 2 ^ 31 by omega), bd2 (show e < 36 by omega) (show e < 2 ^ 31 by omega), not_false_eq_true, w1, nI_leI (show l.length < 2 ^ 31 by omega) (show k < 2 ^ 31 by omega), if_neg (show ¬ l.length ≤ k by omega), bi_eq0, Bool.true_eq_false, if_false, nI_sub1 (show 0 < j + 1 by omega), Nat.add_sub_cancel, nI_clamp (show j < 2 ^ 31 by omega), bd2 (show j < 160 by omega) (show j < 2 ^ 31 by omega), (hk.2.1 _ hj).1, nI_add, nI_clamp (show tF (tsO t) j + k < 2 ^ 31 by omega), bd2 (show tF (tsO t) j + k < 161 by omega) (show tF (tsO t) j + k < 2 ^ 31 by omega), x_mul20, nI_clamp (show e * 20 + k < 2 ^ 31 by omega), bd2 (show e * 20 + k < 720 by omega) (show e * 20 + k < 2 ^ 31 by omega), hx.2.1 _ hb3, w2 k hk1, nI_1]
      by_cases e9 : la t (tF (tsO t) j + k) = la l k
      · rw [if_pos e9, decide_eq_true e9]; rfl
      · rw [if_neg e9, decide_eq_false e9]; rfl)
    (fun h p => hpo p l.length (Nat.le_refl _) (Or.inr rfl))
  rw [e3]
  refine congrArg (fun z => some (bi z)) (b_eq ?_)
  rw [e4]
  unfold iT
  simp only [decide_eq_true_eq]
  exact ⟨fun z => ⟨hj, z.1, z.2⟩, fun z => ⟨z.2.1, z.2.2⟩⟩
theorem x_exc (hm : mS S m) (hx : mTx G t w) (hk : mTk G t) (ht : t.length ≤ 160) {j : Nat} (hj : j < (tsO t).length) {r : Nat} (hr : r < 12) {v : Rv} (hv : mRu G r v) (h3 : v.2.2.2.2.1.length ≤ 3) (hwd : ∀ l ∈ v.2.2.2.2.1, isWd l) : f_X10_isExcepted (sI S (mw I m G)) m (nI r) (nI j) = some (bi (exA t (tsO t) v.2.2.2.2.1 j)) := by
  have hl := (tsO_wT ht).1
  obtain ⟨a1, a2, a3, a4, a5, a6, a7, -⟩ := hv
  have hta := fun p => tk_a hj p
  unfold f_X10_isExcepted exA
  by_cases e : j = 0
  · subst e
    rw [if_pos (show nI 0 = 0 from rfl)]
    cases h : tA (tsO t) 0 with
    | none => rfl
    | some p => exact absurd rfl ((hta p).mp h).1
  · have hj1 : j - 1 < (tsO t).length := by omega
    have hb := tk_b hj1
    have hb2 := tk_b hj
    have ho := tk_o (show j - 1 < j by omega) hj
    have hp := tk_par e hj
    have hsl1 := slN_le t (tF (tsO t) (j - 1))
    have hsl2 := slN_le t (tF (tsO t) j)
    have hsz : nI (tE (tsO t) (j - 1)) - nI (tF (tsO t) (j - 1)) = nI (tS (tsO t) (j - 1)) := pk_sub (by omega)
    have hts : tS (tsO t) (j - 1) ≤ 160 := by unfold tS; omega
    rw [if_neg (show ¬ nI j = 0 from fun z => e ((nI_eq0 (by omega)).mp z))]
    simp only [kK_sI, kQ_sI, kN_sI, kI_sI, wI_sI, Option.bind_some, lt, mw_0, mw_up0, xK_0 hm, xK_1 hm, xN_1 hm, xQ_1 hm, mw_1, mw_up1, xK_2 hm, xN_2 hm, xQ_2 hm, mw_2, mw_up2, xK_3 hm, xN_3 hm, xQ_3 hm, mw_3, mw_up3, xK_4 hm, xN_4 hm, xQ_4 hm, mw_4, mw_up4, xK_5 hm, xN_5 hm, xQ_5 hm, mw_5, mw_up5, xK_6 hm, xN_6 hm, xQ_6 hm, mw_6, mw_up6, xK_7 hm, xN_7 hm, xQ_7 hm, mw_7, mw_up7, xK_8 hm, xN_8 hm, xQ_8 hm, mw_8, mw_up8, xK_9 hm, xN_9 hm, xQ_9 hm, mw_9, mw_up9, xK_10 hm, xN_10 hm, xQ_10 hm, mw_10, mw_up10, xK_11 hm, xN_11 hm, xQ_11 hm, mw_11, mw_up11, xK_12 hm, xN_12 hm, xQ_12 hm, mw_12, mw_up12, xK_13 hm, xN_13 hm, xQ_13 hm, mw_13, mw_up13, xK_14 hm, xN_14 hm, xQ_14 hm, mw_14, mw_up14, xK_15 hm, xN_15 hm, xQ_15 hm, mw_15, mw_up15, xK_16 hm, xN_16 hm, xQ_16 hm, mw_16, mw_up16, xK_17 hm, xN_17 hm, xQ_17 hm, mw_17, mw_up17, xK_18 hm, xN_18 hm, xQ_18 hm, mw_18, mw_up18, xK_19 hm, xN_19 hm, xQ_19 hm, mw_19, mw_up19, xK_20 hm, xN_20 hm, xQ_20 hm, mw_20, mw_up20, xK_21 hm, xN_21 hm, xQ_21 hm, mw_21, mw_up21, xK_22 hm, xN_22 hm, xQ_22 hm, mw_22, mw_up22, xK_23 hm, xN_23 hm, xQ_23 hm, mw_23, mw_up23, xK_24 hm, xN_24 hm, xQ_24 hm, mw_24, mw_up24, xK_25 hm, xN_25 hm, xQ_25 hm, mw_25, mw_up25, xK_26 hm, xN_26 hm, xQ_26 hm, mw_26, mw_up26, xK_27 hm, xN_27 hm, xQ_27 hm, mw_27, mw_up27, xK_28 hm, xN_28 hm, xQ_28 hm, mw_28, mw_up28, xK_29 hm, xN_29 hm, xQ_29 hm, mw_29, mw_up29, xK_30 hm, xN_30 hm, xQ_30 hm, mw_30, mw_up30, xK_31 hm, xN_31 hm, xQ_31 hm, mw_31, mw_up31, xK_32 hm, xN_32 hm, xQ_32 hm, mw_32, mw_up32, xK_33 hm, xN_33 hm, xQ_33 hm, mw_33, mw_up33, xK_34 hm, xN_34 hm, xQ_34 hm, mw_34, mw_up34, xK_35 hm, xN_35 hm, xQ_35 hm, mw_35, mw_up35, xK_36 hm, xN_36 hm, xQ_36 hm, mw_36, mw_up36, xK_37 hm, xN_37 hm, xQ_37 hm, mw_37, mw_up37, if_true, nI_sub1 (show 0 < j by omega), nI_clamp (show j - 1 < 2 ^ 31 by omega), nI_clamp (show j < 2 ^ 31 by omega), bd2 (show j - 1 < 160 by omega) (show j - 1 < 2 ^ 31 by omega), bd2 (show j < 160 by omega) (show j < 2 ^ 31 by omega), not_false_eq_true, (hk.2.1 _ hj1).2.2, bi_eq0]
    cases e1 : tW (tsO t) (j - 1) with
    | false =>
      simp only [if_true]
      refine congrArg (fun z => some (bi z)) (show false = _ from ?_)
      cases h : tA (tsO t) j with
      | none => rfl
      | some p =>
        obtain ⟨y1, y2, y3⟩ := (hta p).mp h
        subst y2
        symm
        simp only
        rw [List.any_eq_false]
        intro l hl1 hl2
        rw [iT_word (hwd l hl1) hl2] at e1
        cases e1
    | true =>
      simp only [Bool.true_eq_false, if_false, (hk.2.1 _ hj1).1, (hk.2.1 _ hj).1, nI_clamp (show tF (tsO t) (j - 1) < 2 ^ 31 by omega), nI_clamp (show tF (tsO t) j < 2 ^ 31 by omega), bd2 (show tF (tsO t) (j - 1) < 161 by omega) (show tF (tsO t) (j - 1) < 2 ^ 31 by omega), bd2 (show tF (tsO t) j < 161 by omega) (show tF (tsO t) j < 2 ^ 31 by omega), not_false_eq_true, if_true, (hk.2.2 (tF (tsO t) (j - 1)) (by omega)).1, (hk.2.2 (tF (tsO t) j) (by omega)).1, nI_eq (show slN t (tF (tsO t) (j - 1)) < 2 ^ 31 by omega) (show slN t (tF (tsO t) j) < 2 ^ 31 by omega)]
      by_cases e2 : slN t (tF (tsO t) (j - 1)) = slN t (tF (tsO t) j)
      · rw [if_pos e2, (hta (j - 1)).mpr ⟨e, rfl, hp.mp e2⟩]
        simp only [x_mul3]
        obtain ⟨z, e3, e4⟩ := it_any (b := fun (z : Int32 × Int32) => f_X10_isExcepted_b51 m (m + 27) (nI r) (nI j) (sI S (mw I m G)) z.1 z.2) (r * 3) (r * 3 + v.2.2.2.2.1.length) (fun i => match v.2.2.2.2.1[i - r * 3]? with | some l => iT t (tsO t) l (j - 1) | none => false) (by omega) (by omega)
          (fun o k g1 g2 => by
            obtain ⟨l, hle⟩ : ∃ l, v.2.2.2.2.1[k - r * 3]? = some l := ⟨_, List.getElem?_eq_getElem (by omega)⟩
            have hla := a7 _ l hle
            rw [show r * 3 + (k - r * 3) = k by omega] at hla
            have hw9 := hwd l (List.mem_of_getElem? hle)
            have hloop := x_excLoop (S := S) (I := I) hm hx hk ht hj1 (show k < 36 by omega) hw9.2.1 hla
            rw [show j - 1 + 1 = j by omega] at hloop
            simp only
            unfold f_X10_isExcepted_b51
            simp only [kK_sI, kQ_sI, kN_sI, kI_sI, wI_sI, Option.bind_some, lt, mw_0, mw_up0, xK_0 hm, xK_1 hm, xN_1 hm, xQ_1 hm, mw_1, mw_up1, xK_2 hm, xN_2 hm, xQ_2 hm, mw_2, mw_up2, xK_3 hm, xN_3 hm, xQ_3 hm, mw_3, mw_up3, xK_4 hm, xN_4 hm, xQ_4 hm, mw_4, mw_up4, xK_5 hm, xN_5 hm, xQ_5 hm, mw_5, mw_up5, xK_6 hm, xN_6 hm, xQ_6 hm, mw_6, mw_up6, xK_7 hm, xN_7 hm, xQ_7 hm, mw_7, mw_up7, xK_8 hm, xN_8 hm, xQ_8 hm, mw_8, mw_up8, xK_9 hm, xN_9 hm, xQ_9 hm, mw_9, mw_up9, xK_10 hm, xN_10 hm, xQ_10 hm, mw_10, mw_up10, xK_11 hm, xN_11 hm, xQ_11 hm, mw_11, mw_up11, xK_12 hm, xN_12 hm, xQ_12 hm, mw_12, mw_up12, xK_13 hm, xN_13 hm, xQ_13 hm, mw_13, mw_up13, xK_14 hm, xN_14 hm, xQ_14 hm, mw_14, mw_up14, xK_15 hm, xN_15 hm, xQ_15 hm, mw_15, mw_up15, xK_16 hm, xN_16 hm, xQ_16 hm, mw_16, mw_up16, xK_17 hm, xN_17 hm, xQ_17 hm, mw_17, mw_up17, xK_18 hm, xN_18 hm, xQ_18 hm, mw_18, mw_up18, xK_19 hm, xN_19 hm, xQ_19 hm, mw_19, mw_up19, xK_20 hm, xN_20 hm, xQ_20 hm, mw_20, mw_up20, xK_21 hm, xN_21 hm, xQ_21 hm, mw_21, mw_up21, xK_22 hm, xN_22 hm, xQ_22 hm, mw_22, mw_up22, xK_23 hm, xN_23 hm, xQ_23 hm, mw_23, mw_up23, xK_24 hm, xN_24 hm, xQ_24 hm, mw_24, mw_up24, xK_25 hm, xN_25 hm, xQ_25 hm, mw_25, mw_up25, xK_26 hm, xN_26 hm, xQ_26 hm, mw_26, mw_up26, xK_27 hm, xN_27 hm, xQ_27 hm, mw_27, mw_up27, xK_28 hm, xN_28 hm, xQ_28 hm, mw_28, mw_up28, xK_29 hm, xN_29 hm, xQ_29 hm, mw_29, mw_up29, xK_30 hm, xN_30 hm, xQ_30 hm, mw_30, mw_up30, xK_31 hm, xN_31 hm, xQ_31 hm, mw_31, mw_up31, xK_32 hm, xN_32 hm, xQ_32 hm, mw_32, mw_up32, xK_33 hm, xN_33 hm, xQ_33 hm, mw_33, mw_up33, xK_34 hm, xN_34 hm, xQ_34 hm, mw_34, mw_up34, xK_35 hm, xN_35 hm, xQ_35 hm, mw_35, mw_up35, xK_36 hm, xN_36 hm, xQ_36 hm, mw_36, mw_up36, xK_37 hm, xN_37 hm, xQ_37 hm, mw_37, mw_up37, if_true, nI_clamp (show r < 2 ^ 31 by omega), bd2 (show r < 12 by omega) (show r < 2 ^ 31 by omega), not_false_eq_true, a6, x_mul3, nI_add, nI_leI (show r * 3 + v.2.2.2.2.1.length < 2 ^ 31 by omega) (show k < 2 ^ 31 by omega), if_neg (show ¬ r * 3 + v.2.2.2.2.1.length ≤ k by omega), nI_sub1 (show 0 < j by omega), nI_clamp (show j - 1 < 2 ^ 31 by omega), bd2 (show j - 1 < 160 by omega) (show j - 1 < 2 ^ 31 by omega), nI_clamp (show k < 2 ^ 31 by omega), bd2 (show k < 36 by omega) (show k < 2 ^ 31 by omega), (hk.2.1 _ hj1).1, (hk.2.1 _ hj1).2.1, hsz, hla.1, nI_eq (show tS (tsO t) (j - 1) < 2 ^ 31 by omega) (show l.length < 2 ^ 31 by have := hw9.2.1; omega), nI_1, hle]
            by_cases e9 : tS (tsO t) (j - 1) = l.length
            · rw [decide_eq_true e9] at hloop
              rw [if_pos e9, show (1 : Int32) = bi true from rfl, hloop]
              simp only [Option.bind_some, bi_eq0]
              cases o <;> cases iT t (tsO t) l (j - 1) <;> rfl
            · rw [decide_eq_false e9] at hloop
              rw [if_neg e9]
              have hl0 : (iter (fun (z : Int32 × Int32) => f_X10_isExcepted_b103 m (m + 27) (m + 13) (nI j) (nI k) (sI S (mw I m G)) z.1 z.2) kF ((0 : Int32), 0)) = some (bi (iT t (tsO t) l (j - 1))) := hloop
              rw [hl0]
              simp only [Option.bind_some, bi_eq0]
              cases o <;> cases iT t (tsO t) l (j - 1) <;> rfl)
          (fun o => by
            simp only
            unfold f_X10_isExcepted_b51
            simp only [kK_sI, kQ_sI, kN_sI, kI_sI, wI_sI, Option.bind_some, lt, mw_0, mw_up0, xK_0 hm, xK_1 hm, xN_1 hm, xQ_1 hm, mw_1, mw_up1, xK_2 hm, xN_2 hm, xQ_2 hm, mw_2, mw_up2, xK_3 hm, xN_3 hm, xQ_3 hm, mw_3, mw_up3, xK_4 hm, xN_4 hm, xQ_4 hm, mw_4, mw_up4, xK_5 hm, xN_5 hm, xQ_5 hm, mw_5, mw_up5, xK_6 hm, xN_6 hm, xQ_6 hm, mw_6, mw_up6, xK_7 hm, xN_7 hm, xQ_7 hm, mw_7, mw_up7, xK_8 hm, xN_8 hm, xQ_8 hm, mw_8, mw_up8, xK_9 hm, xN_9 hm, xQ_9 hm, mw_9, mw_up9, xK_10 hm, xN_10 hm, xQ_10 hm, mw_10, mw_up10, xK_11 hm, xN_11 hm, xQ_11 hm, mw_11, mw_up11, xK_12 hm, xN_12 hm, xQ_12 hm, mw_12, mw_up12, xK_13 hm, xN_13 hm, xQ_13 hm, mw_13, mw_up13, xK_14 hm, xN_14 hm, xQ_14 hm, mw_14, mw_up14, xK_15 hm, xN_15 hm, xQ_15 hm, mw_15, mw_up15, xK_16 hm, xN_16 hm, xQ_16 hm, mw_16, mw_up16, xK_17 hm, xN_17 hm, xQ_17 hm, mw_17, mw_up17, xK_18 hm, xN_18 hm, xQ_18 hm, mw_18, mw_up18, xK_19 hm, xN_19 hm, xQ_19 hm, mw_19, mw_up19, xK_20 hm, xN_20 hm, xQ_20 hm, mw_20, mw_up20, xK_21 hm, xN_21 hm, xQ_21 hm, mw_21, mw_up21, xK_22 hm, xN_22 hm, xQ_22 hm, mw_22, mw_up22, xK_23 hm, xN_23 hm, xQ_23 hm, mw_23, mw_up23, xK_24 hm, xN_24 hm, xQ_24 hm, mw_24, mw_up24, xK_25 hm, xN_25 hm, xQ_25 hm, mw_25, mw_up25, xK_26 hm, xN_26 hm, xQ_26 hm, mw_26, mw_up26, xK_27 hm, xN_27 hm, xQ_27 hm, mw_27, mw_up27, xK_28 hm, xN_28 hm, xQ_28 hm, mw_28, mw_up28, xK_29 hm, xN_29 hm, xQ_29 hm, mw_29, mw_up29, xK_30 hm, xN_30 hm, xQ_30 hm, mw_30, mw_up30, xK_31 hm, xN_31 hm, xQ_31 hm, mw_31, mw_up31, xK_32 hm, xN_32 hm, xQ_32 hm, mw_32, mw_up32, xK_33 hm, xN_33 hm, xQ_33 hm, mw_33, mw_up33, xK_34 hm, xN_34 hm, xQ_34 hm, mw_34, mw_up34, xK_35 hm, xN_35 hm, xQ_35 hm, mw_35, mw_up35, xK_36 hm, xN_36 hm, xQ_36 hm, mw_36, mw_up36, xK_37 hm, xN_37 hm, xQ_37 hm, mw_37, mw_up37, if_true, nI_clamp (show r < 2 ^ 31 by omega), bd2 (show r < 12 by omega) (show r < 2 ^ 31 by omega), not_false_eq_true, a6, x_mul3, nI_add, nI_leI (show r * 3 + v.2.2.2.2.1.length < 2 ^ 31 by omega) (show r * 3 + v.2.2.2.2.1.length < 2 ^ 31 by omega), Nat.le_refl]) false
        rw [show ((0 : Int32), nI (r * 3)) = (bi false, nI (r * 3)) from rfl, e3]
        simp only [Option.bind_some]
        rw [if_pos (by cases z <;> decide)]
        refine congrArg (fun z => some (bi z)) (b_eq ?_)
        rw [e4, List.any_eq_true]
        constructor
        · rintro (y | ⟨i, y1, y2, y3⟩)
          · cases y
          · obtain ⟨l, hle⟩ : ∃ l, v.2.2.2.2.1[i - r * 3]? = some l := ⟨_, List.getElem?_eq_getElem (by omega)⟩
            rw [hle] at y3
            exact ⟨l, List.mem_of_getElem? hle, y3⟩
        · rintro ⟨l, y1, y2⟩
          obtain ⟨i, hi⟩ := List.getElem?_of_mem y1
          have := (List.getElem?_eq_some_iff.mp hi).1
          refine Or.inr ⟨r * 3 + i, by omega, by omega, ?_⟩
          rw [show r * 3 + i - r * 3 = i by omega, hi]
          exact y2
      · rw [if_neg e2]
        refine congrArg (fun z => some (bi z)) (show false = _ from ?_)
        cases h : tA (tsO t) j with
        | none => rfl
        | some p => exact absurd (hp.mpr ((hta p).mp h).2.2) e2
end
