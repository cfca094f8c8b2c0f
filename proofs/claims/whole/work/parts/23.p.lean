section
variable {S : PS} {I G : Nat → Nat → Int32} {m : Nat} {T : St}
theorem sor_star {v : Iv} (h : isIt v) : sor v < 4 ∧ (v.2.1 = true → sor v = 1 ∨ sor v = 2) ∧ (v.2.1 = false → sor v ≠ 1 ∧ sor v ≠ 2) := by
  obtain ⟨h1, h2, h3, h4⟩ := h
  unfold sor
  cases e1 : v.1 <;> cases e2 : v.2.1
  · simp
  · simp only [Bool.false_eq_true, if_false, if_true]
    split <;> simp
  · simp
  · have := (h2 e1).1
    rw [e2] at this
    cases this
/-- what the first star of a pattern took -/
theorem x_starOf (hm : mS S m) (hG : mT G T) (hw : wf T) (hk : mTk G T.2.1) {l : List Int32} (ho : mOut G l) (hl : l.length < 40) {c j r : Nat} (hc : c < 2800) (h32 : G 32 c = nI j) (h34 : G 34 c = nI r) {v : Rv} (hv : T.2.2.2.2.1[r]? = some v) (hj : j + v.1.length ≤ (tsO T.2.1).length) : ∃ G', f_X10_star (sI S (mw I m G)) m (nI c) = some (sI S (mw I m G')) ∧ mQo G G' ∧ mOut G' (l ++ stK T.2.1 (tsO T.2.1) j v.1) := by
  have ht := hw.2.1
  have hn := (tsO_wT ht).1
  have hru := hw.2.2.2.2.2.2.1.1
  have hr := (List.getElem?_eq_some_iff.mp hv).1
  obtain ⟨q1, q2, q3, q4, q5, q6⟩ := hw.2.2.2.2.2.2.1.2 r v hv
  obtain ⟨i1, i2, i3, -⟩ := hw.2.2.2.2.2.2.2.1 r v hv
  unfold f_X10_star
  simp only [↓reduceIte, kK_sI, kQ_sI, kN_sI, kI_sI, wI_sI, Option.bind_some, lt, mw_0, mw_up0, xK_0 hm, xK_1 hm, xN_1 hm, xQ_1 hm, mw_1, mw_up1, xK_2 hm, xN_2 hm, xQ_2 hm, mw_2, mw_up2, xK_3 hm, xN_3 hm, xQ_3 hm, mw_3, mw_up3, xK_4 hm, xN_4 hm, xQ_4 hm, mw_4, mw_up4, xK_5 hm, xN_5 hm, xQ_5 hm, mw_5, mw_up5, xK_6 hm, xN_6 hm, xQ_6 hm, mw_6, mw_up6, xK_7 hm, xN_7 hm, xQ_7 hm, mw_7, mw_up7, xK_8 hm, xN_8 hm, xQ_8 hm, mw_8, mw_up8, xK_9 hm, xN_9 hm, xQ_9 hm, mw_9, mw_up9, xK_10 hm, xN_10 hm, xQ_10 hm, mw_10, mw_up10, xK_11 hm, xN_11 hm, xQ_11 hm, mw_11, mw_up11, xK_12 hm, xN_12 hm, xQ_12 hm, mw_12, mw_up12, xK_13 hm, xN_13 hm, xQ_13 hm, mw_13, mw_up13, xK_14 hm, xN_14 hm, xQ_14 hm, mw_14, mw_up14, xK_15 hm, xN_15 hm, xQ_15 hm, mw_15, mw_up15, xK_16 hm, xN_16 hm, xQ_16 hm, mw_16, mw_up16, xK_17 hm, xN_17 hm, xQ_17 hm, mw_17, mw_up17, xK_18 hm, xN_18 hm, xQ_18 hm, mw_18, mw_up18, xK_19 hm, xN_19 hm, xQ_19 hm, mw_19, mw_up19, xK_20 hm, xN_20 hm, xQ_20 hm, mw_20, mw_up20, xK_21 hm, xN_21 hm, xQ_21 hm, mw_21, mw_up21, xK_22 hm, xN_22 hm, xQ_22 hm, mw_22, mw_up22, xK_23 hm, xN_23 hm, xQ_23 hm, mw_23, mw_up23, xK_24 hm, xN_24 hm, xQ_24 hm, mw_24, mw_up24, xK_25 hm, xN_25 hm, xQ_25 hm, mw_25, mw_up25, xK_26 hm, xN_26 hm, xQ_26 hm, mw_26, mw_up26, xK_27 hm, xN_27 hm, xQ_27 hm, mw_27, mw_up27, xK_28 hm, xN_28 hm, xQ_28 hm, mw_28, mw_up28, xK_29 hm, xN_29 hm, xQ_29 hm, mw_29, mw_up29, xK_30 hm, xN_30 hm, xQ_30 hm, mw_30, mw_up30, xK_31 hm, xN_31 hm, xQ_31 hm, mw_31, mw_up31, xK_32 hm, xN_32 hm, xQ_32 hm, mw_32, mw_up32, xK_33 hm, xN_33 hm, xQ_33 hm, mw_33, mw_up33, xK_34 hm, xN_34 hm, xQ_34 hm, mw_34, mw_up34, xK_35 hm, xN_35 hm, xQ_35 hm, mw_35, mw_up35, xK_36 hm, xN_36 hm, xQ_36 hm, mw_36, mw_up36, xK_37 hm, xN_37 hm, xQ_37 hm, mw_37, mw_up37, nI_clamp (show c < 2 ^ 31 by omega), bd2 (show c < 2800 by omega) (show c < 2 ^ 31 by omega), not_false_eq_true, h34]
  obtain ⟨z, e1, G', rfl, p1, p2⟩ := it_up (b := fun (w : Int32 × Int32 × PS) => f_X10_star_b12 m (nI c) (nI r) w.1 w.2.1 w.2.2) v.1.length
    (P := fun k s => ∃ G', mQo G G' ∧ ((s = (1, nI k, sI S (mw I m G')) ∧ mOut G' (l ++ stK T.2.1 (tsO T.2.1) j v.1)) ∨ (s = (0, nI k, sI S (mw I m G')) ∧ mOut G' l ∧ stK T.2.1 (tsO T.2.1) j v.1 = stK T.2.1 (tsO T.2.1) (j + k) (v.1.drop k))))
    (Q := fun z => ∃ G', z = sI S (mw I m G') ∧ mQo G G' ∧ mOut G' (l ++ stK T.2.1 (tsO T.2.1) j v.1))
    (fun k s hk1 ⟨G', p1, h⟩ => by
      have hG' : mT G' T := hG.q p1.q
      have hk' := p1.tk hk
      have hit := ia_some hk1
      have hRu := hG'.2.2.2.1.2.1 r v hv
      obtain ⟨b1, b2, b3⟩ := hRu.2.1 k _ hit
      have hisIt := i2 _ (List.mem_of_getElem? hit)
      obtain ⟨s1, s2, s3⟩ := sor_star hisIt
      have hjk : j + k < (tsO T.2.1).length := by omega
      have hb := tk_b hjk
      have g32 : G' 32 c = nI j := (p1.1 32 (by decide) (by decide) c).trans h32
      rcases h with ⟨e, h1⟩ | ⟨e, h1, h2⟩
      · subst e
        refine Or.inl ⟨_, ?_, G', p1, Or.inl ⟨rfl, h1⟩⟩
        simp only
        unfold f_X10_star_b12
        simp only [↓reduceIte, kK_sI, kQ_sI, kN_sI, kI_sI, wI_sI, Option.bind_some, lt, mw_0, mw_up0, xK_0 hm, xK_1 hm, xN_1 hm, xQ_1 hm, mw_1, mw_up1, xK_2 hm, xN_2 hm, xQ_2 hm, mw_2, mw_up2, xK_3 hm, xN_3 hm, xQ_3 hm, mw_3, mw_up3, xK_4 hm, xN_4 hm, xQ_4 hm, mw_4, mw_up4, xK_5 hm, xN_5 hm, xQ_5 hm, mw_5, mw_up5, xK_6 hm, xN_6 hm, xQ_6 hm, mw_6, mw_up6, xK_7 hm, xN_7 hm, xQ_7 hm, mw_7, mw_up7, xK_8 hm, xN_8 hm, xQ_8 hm, mw_8, mw_up8, xK_9 hm, xN_9 hm, xQ_9 hm, mw_9, mw_up9, xK_10 hm, xN_10 hm, xQ_10 hm, mw_10, mw_up10, xK_11 hm, xN_11 hm, xQ_11 hm, mw_11, mw_up11, xK_12 hm, xN_12 hm, xQ_12 hm, mw_12, mw_up12, xK_13 hm, xN_13 hm, xQ_13 hm, mw_13, mw_up13, xK_14 hm, xN_14 hm, xQ_14 hm, mw_14, mw_up14, xK_15 hm, xN_15 hm, xQ_15 hm, mw_15, mw_up15, xK_16 hm, xN_16 hm, xQ_16 hm, mw_16, mw_up16, xK_17 hm, xN_17 hm, xQ_17 hm, mw_17, mw_up17, xK_18 hm, xN_18 hm, xQ_18 hm, mw_18, mw_up18, xK_19 hm, xN_19 hm, xQ_19 hm, mw_19, mw_up19, xK_20 hm, xN_20 hm, xQ_20 hm, mw_20, mw_up20, xK_21 hm, xN_21 hm, xQ_21 hm, mw_21, mw_up21, xK_22 hm, xN_22 hm, xQ_22 hm, mw_22, mw_up22, xK_23 hm, xN_23 hm, xQ_23 hm, mw_23, mw_up23, xK_24 hm, xN_24 hm, xQ_24 hm, mw_24, mw_up24, xK_25 hm, xN_25 hm, xQ_25 hm, mw_25, mw_up25, xK_26 hm, xN_26 hm, xQ_26 hm, mw_26, mw_up26, xK_27 hm, xN_27 hm, xQ_27 hm, mw_27, mw_up27, xK_28 hm, xN_28 hm, xQ_28 hm, mw_28, mw_up28, xK_29 hm, xN_29 hm, xQ_29 hm, mw_29, mw_up29, xK_30 hm, xN_30 hm, xQ_30 hm, mw_30, mw_up30, xK_31 hm, xN_31 hm, xQ_31 hm, mw_31, mw_up31, xK_32 hm, xN_32 hm, xQ_32 hm, mw_32, mw_up32, xK_33 hm, xN_33 hm, xQ_33 hm, mw_33, mw_up33, xK_34 hm, xN_34 hm, xQ_34 hm, mw_34, mw_up34, xK_35 hm, xN_35 hm, xQ_35 hm, mw_35, mw_up35, xK_36 hm, xN_36 hm, xQ_36 hm, mw_36, mw_up36, xK_37 hm, xN_37 hm, xQ_37 hm, mw_37, mw_up37, nI_clamp (show r < 2 ^ 31 by omega), bd2 (show r < 12 by omega) (show r < 2 ^ 31 by omega), not_false_eq_true, hRu.1, nI_leI (show v.1.length < 2 ^ 31 by omega) (show k < 2 ^ 31 by omega), if_neg (show ¬ v.1.length ≤ k by omega), show ¬ (1 : Int32) = 0 by decide, if_false, nI_1]
      · subst e
        have hdrop : v.1.drop k = ia v.1 k :: v.1.drop (k + 1) := by
          rw [List.drop_eq_getElem_cons hk1]
          refine congrArg (· :: _) ?_
          have := hit
          rw [List.getElem?_eq_getElem hk1] at this
          exact Option.some.inj this
        rw [hdrop, stK_cons] at h2
        simp only
        unfold f_X10_star_b12
        simp only [↓reduceIte, kK_sI, kQ_sI, kN_sI, kI_sI, wI_sI, Option.bind_some, lt, mw_0, mw_up0, xK_0 hm, xK_1 hm, xN_1 hm, xQ_1 hm, mw_1, mw_up1, xK_2 hm, xN_2 hm, xQ_2 hm, mw_2, mw_up2, xK_3 hm, xN_3 hm, xQ_3 hm, mw_3, mw_up3, xK_4 hm, xN_4 hm, xQ_4 hm, mw_4, mw_up4, xK_5 hm, xN_5 hm, xQ_5 hm, mw_5, mw_up5, xK_6 hm, xN_6 hm, xQ_6 hm, mw_6, mw_up6, xK_7 hm, xN_7 hm, xQ_7 hm, mw_7, mw_up7, xK_8 hm, xN_8 hm, xQ_8 hm, mw_8, mw_up8, xK_9 hm, xN_9 hm, xQ_9 hm, mw_9, mw_up9, xK_10 hm, xN_10 hm, xQ_10 hm, mw_10, mw_up10, xK_11 hm, xN_11 hm, xQ_11 hm, mw_11, mw_up11, xK_12 hm, xN_12 hm, xQ_12 hm, mw_12, mw_up12, xK_13 hm, xN_13 hm, xQ_13 hm, mw_13, mw_up13, xK_14 hm, xN_14 hm, xQ_14 hm, mw_14, mw_up14, xK_15 hm, xN_15 hm, xQ_15 hm, mw_15, mw_up15, xK_16 hm, xN_16 hm, xQ_16 hm, mw_16, mw_up16, xK_17 hm, xN_17 hm, xQ_17 hm, mw_17, mw_up17, xK_18 hm, xN_18 hm, xQ_18 hm, mw_18, mw_up18, xK_19 hm, xN_19 hm, xQ_19 hm, mw_19, mw_up19, xK_20 hm, xN_20 hm, xQ_20 hm, mw_20, mw_up20, xK_21 hm, xN_21 hm, xQ_21 hm, mw_21, mw_up21, xK_22 hm, xN_22 hm, xQ_22 hm, mw_22, mw_up22, xK_23 hm, xN_23 hm, xQ_23 hm, mw_23, mw_up23, xK_24 hm, xN_24 hm, xQ_24 hm, mw_24, mw_up24, xK_25 hm, xN_25 hm, xQ_25 hm, mw_25, mw_up25, xK_26 hm, xN_26 hm, xQ_26 hm, mw_26, mw_up26, xK_27 hm, xN_27 hm, xQ_27 hm, mw_27, mw_up27, xK_28 hm, xN_28 hm, xQ_28 hm, mw_28, mw_up28, xK_29 hm, xN_29 hm, xQ_29 hm, mw_29, mw_up29, xK_30 hm, xN_30 hm, xQ_30 hm, mw_30, mw_up30, xK_31 hm, xN_31 hm, xQ_31 hm, mw_31, mw_up31, xK_32 hm, xN_32 hm, xQ_32 hm, mw_32, mw_up32, xK_33 hm, xN_33 hm, xQ_33 hm, mw_33, mw_up33, xK_34 hm, xN_34 hm, xQ_34 hm, mw_34, mw_up34, xK_35 hm, xN_35 hm, xQ_35 hm, mw_35, mw_up35, xK_36 hm, xN_36 hm, xQ_36 hm, mw_36, mw_up36, xK_37 hm, xN_37 hm, xQ_37 hm, mw_37, mw_up37, nI_clamp (show r < 2 ^ 31 by omega), bd2 (show r < 12 by omega) (show r < 2 ^ 31 by omega), not_false_eq_true, hRu.1, nI_leI (show v.1.length < 2 ^ 31 by omega) (show k < 2 ^ 31 by omega), if_neg (show ¬ v.1.length ≤ k by omega), x_mul3, nI_add, nI_clamp (show r * 3 + k < 2 ^ 31 by omega), bd2 (show r * 3 + k < 36 by omega) (show r * 3 + k < 2 ^ 31 by omega), b1, show (1 : Int32) = nI 1 from rfl, show (2 : Int32) = nI 2 from rfl, nI_eq (show sor (ia v.1 k) < 2 ^ 31 by omega) (show 1 < 2 ^ 31 by decide), nI_eq (show sor (ia v.1 k) < 2 ^ 31 by omega) (show 2 < 2 ^ 31 by decide), nI_clamp (show c < 2 ^ 31 by omega), bd2 (show c < 2800 by omega) (show c < 2 ^ 31 by omega), g32, nI_clamp (show j + k < 2 ^ 31 by omega), bd2 (show j + k < 160 by omega) (show j + k < 2 ^ 31 by omega), (hk'.2.1 _ hjk).1, b2]
        cases hst : (ia v.1 k).2.1 with
        | true =>
          rw [if_pos hst] at h2
          obtain ⟨G2, e2, p3, p4⟩ := x_starTok (S := S) (I := I) hm hG' hw hk' h1 hl (n := (ia v.1 k).2.2.length) hisIt.1 hjk
          rw [e2]
          simp only [Option.bind_some]
          rw [← h2] at p4
          refine Or.inl ⟨(1, nI (k + 1), sI S (mw I m G2)), ?_, G2, p1.tr p3, Or.inl ⟨rfl, p4⟩⟩
          rcases s2 hst with e | e
          · rw [if_pos e]; rfl
          · rw [if_neg (by omega), if_pos e]; rfl
        | false =>
          rw [hst] at h2
          simp only [Bool.false_eq_true, if_false] at h2
          obtain ⟨n1, n2⟩ := s3 hst
          rw [if_neg n1, if_neg n2]
          exact Or.inl ⟨(0, nI (k + 1), sI S (mw I m G')), rfl, G', p1, Or.inr ⟨rfl, h1, h2⟩⟩)
    (fun s ⟨G', p1, h⟩ => by
      have hG' : mT G' T := hG.q p1.q
      have hRu := hG'.2.2.2.1.2.1 r v hv
      have hfin : ∀ x, f_X10_star_b12 m (nI c) (nI r) x (nI v.1.length) (sI S (mw I m G')) = some (.inr (sI S (mw I m G'))) := fun x => by
        unfold f_X10_star_b12
        simp only [↓reduceIte, kK_sI, kQ_sI, kN_sI, kI_sI, wI_sI, Option.bind_some, lt, mw_0, mw_up0, xK_0 hm, xK_1 hm, xN_1 hm, xQ_1 hm, mw_1, mw_up1, xK_2 hm, xN_2 hm, xQ_2 hm, mw_2, mw_up2, xK_3 hm, xN_3 hm, xQ_3 hm, mw_3, mw_up3, xK_4 hm, xN_4 hm, xQ_4 hm, mw_4, mw_up4, xK_5 hm, xN_5 hm, xQ_5 hm, mw_5, mw_up5, xK_6 hm, xN_6 hm, xQ_6 hm, mw_6, mw_up6, xK_7 hm, xN_7 hm, xQ_7 hm, mw_7, mw_up7, xK_8 hm, xN_8 hm, xQ_8 hm, mw_8, mw_up8, xK_9 hm, xN_9 hm, xQ_9 hm, mw_9, mw_up9, xK_10 hm, xN_10 hm, xQ_10 hm, mw_10, mw_up10, xK_11 hm, xN_11 hm, xQ_11 hm, mw_11, mw_up11, xK_12 hm, xN_12 hm, xQ_12 hm, mw_12, mw_up12, xK_13 hm, xN_13 hm, xQ_13 hm, mw_13, mw_up13, xK_14 hm, xN_14 hm, xQ_14 hm, mw_14, mw_up14, xK_15 hm, xN_15 hm, xQ_15 hm, mw_15, mw_up15, xK_16 hm, xN_16 hm, xQ_16 hm, mw_16, mw_up16, xK_17 hm, xN_17 hm, xQ_17 hm, mw_17, mw_up17, xK_18 hm, xN_18 hm, xQ_18 hm, mw_18, mw_up18, xK_19 hm, xN_19 hm, xQ_19 hm, mw_19, mw_up19, xK_20 hm, xN_20 hm, xQ_20 hm, mw_20, mw_up20, xK_21 hm, xN_21 hm, xQ_21 hm, mw_21, mw_up21, xK_22 hm, xN_22 hm, xQ_22 hm, mw_22, mw_up22, xK_23 hm, xN_23 hm, xQ_23 hm, mw_23, mw_up23, xK_24 hm, xN_24 hm, xQ_24 hm, mw_24, mw_up24, xK_25 hm, xN_25 hm, xQ_25 hm, mw_25, mw_up25, xK_26 hm, xN_26 hm, xQ_26 hm, mw_26, mw_up26, xK_27 hm, xN_27 hm, xQ_27 hm, mw_27, mw_up27, xK_28 hm, xN_28 hm, xQ_28 hm, mw_28, mw_up28, xK_29 hm, xN_29 hm, xQ_29 hm, mw_29, mw_up29, xK_30 hm, xN_30 hm, xQ_30 hm, mw_30, mw_up30, xK_31 hm, xN_31 hm, xQ_31 hm, mw_31, mw_up31, xK_32 hm, xN_32 hm, xQ_32 hm, mw_32, mw_up32, xK_33 hm, xN_33 hm, xQ_33 hm, mw_33, mw_up33, xK_34 hm, xN_34 hm, xQ_34 hm, mw_34, mw_up34, xK_35 hm, xN_35 hm, xQ_35 hm, mw_35, mw_up35, xK_36 hm, xN_36 hm, xQ_36 hm, mw_36, mw_up36, xK_37 hm, xN_37 hm, xQ_37 hm, mw_37, mw_up37, nI_clamp (show r < 2 ^ 31 by omega), bd2 (show r < 12 by omega) (show r < 2 ^ 31 by omega), not_false_eq_true, hRu.1, nI_leI (show v.1.length < 2 ^ 31 by omega) (show v.1.length < 2 ^ 31 by omega), Nat.le_refl]
      rcases h with ⟨e, h1⟩ | ⟨e, h1, h2⟩
      · subst e
        exact ⟨_, hfin _, G', rfl, p1, h1⟩
      · subst e
        rw [List.drop_length] at h2
        exact ⟨_, hfin _, G', rfl, p1, by rw [h2]; simpa [stK] using h1⟩)
    0 (0, 0, sI S (mw I m G)) ⟨G, mQo.rf, Or.inr ⟨rfl, ho, rfl⟩⟩ (Nat.zero_le _) kF (by unfold kF; omega)
  rw [e1]
  exact ⟨G', rfl, p1, p2⟩
/-- a suggestion of a rule -/
theorem x_made1 (hm : mS S m) (hG : mT G T) (hw : wf T) (hk : mTk G T.2.1) (ho : mOut G []) {c j r q : Nat} (hc : c < 2800) (h32 : G 32 c = nI j) (h34 : G 34 c = nI r) {v : Rv} (hv : T.2.2.2.2.1[r]? = some v) (hj : j + v.1.length ≤ (tsO T.2.1).length) {sg : List Int32} (hsg : v.2.2.2.2.2[q]? = some sg) : ∃ G', iter (fun (w : Int32 × PS) => f_X10_isMade_b149 m (nI c) (nI (r * 2 + q)) w.1 w.2) kF (0, sI S (mw I m G)) = some (sI S (mw I m G')) ∧ mQo G G' ∧ mOut G' (sgK (stK T.2.1 (tsO T.2.1) j v.1) sg sg.length) := by
  have ht := hw.2.1
  have hwt := tsO_wT ht
  have hru := hw.2.2.2.2.2.2.1.1
  have hr := (List.getElem?_eq_some_iff.mp hv).1
  have hq := (List.getElem?_eq_some_iff.mp hsg).1
  obtain ⟨q1, q2, q3, q4, q5, q6⟩ := hw.2.2.2.2.2.2.1.2 r v hv
  obtain ⟨g1, g2, g3, g4⟩ := (hw.2.2.2.2.2.2.2.1 r v hv).2.2.2 sg (List.mem_of_getElem? hsg)
  have hst := stK_len (t := T.2.1) hwt v.1 j
  obtain ⟨z, e1, G', rfl, p1, p2⟩ := it_up (b := fun (w : Int32 × PS) => f_X10_isMade_b149 m (nI c) (nI (r * 2 + q)) w.1 w.2) sg.length
    (P := fun k s => ∃ G', s = (nI k, sI S (mw I m G')) ∧ mQo G G' ∧ mOut G' (sgK (stK T.2.1 (tsO T.2.1) j v.1) sg k))
    (Q := fun z => ∃ G', z = sI S (mw I m G') ∧ mQo G G' ∧ mOut G' (sgK (stK T.2.1 (tsO T.2.1) j v.1) sg sg.length))
    (fun k s hk1 ⟨G', e, p1, p2⟩ => by
      subst e
      have hG' : mT G' T := hG.q p1.q
      have hRu := hG'.2.2.2.1.2.1 r v hv
      obtain ⟨w1, w2⟩ := hRu.2.2.2.2.2.2.2.2 q sg hsg
      have hlen := sgK_len hst g4 k (by omega)
      have hlk := w2 k hk1
      simp only
      unfold f_X10_isMade_b149
      simp only [↓reduceIte, kK_sI, kQ_sI, kN_sI, kI_sI, wI_sI, Option.bind_some, lt, mw_0, mw_up0, xK_0 hm, xK_1 hm, xN_1 hm, xQ_1 hm, mw_1, mw_up1, xK_2 hm, xN_2 hm, xQ_2 hm, mw_2, mw_up2, xK_3 hm, xN_3 hm, xQ_3 hm, mw_3, mw_up3, xK_4 hm, xN_4 hm, xQ_4 hm, mw_4, mw_up4, xK_5 hm, xN_5 hm, xQ_5 hm, mw_5, mw_up5, xK_6 hm, xN_6 hm, xQ_6 hm, mw_6, mw_up6, xK_7 hm, xN_7 hm, xQ_7 hm, mw_7, mw_up7, xK_8 hm, xN_8 hm, xQ_8 hm, mw_8, mw_up8, xK_9 hm, xN_9 hm, xQ_9 hm, mw_9, mw_up9, xK_10 hm, xN_10 hm, xQ_10 hm, mw_10, mw_up10, xK_11 hm, xN_11 hm, xQ_11 hm, mw_11, mw_up11, xK_12 hm, xN_12 hm, xQ_12 hm, mw_12, mw_up12, xK_13 hm, xN_13 hm, xQ_13 hm, mw_13, mw_up13, xK_14 hm, xN_14 hm, xQ_14 hm, mw_14, mw_up14, xK_15 hm, xN_15 hm, xQ_15 hm, mw_15, mw_up15, xK_16 hm, xN_16 hm, xQ_16 hm, mw_16, mw_up16, xK_17 hm, xN_17 hm, xQ_17 hm, mw_17, mw_up17, xK_18 hm, xN_18 hm, xQ_18 hm, mw_18, mw_up18, xK_19 hm, xN_19 hm, xQ_19 hm, mw_19, mw_up19, xK_20 hm, xN_20 hm, xQ_20 hm, mw_20, mw_up20, xK_21 hm, xN_21 hm, xQ_21 hm, mw_21, mw_up21, xK_22 hm, xN_22 hm, xQ_22 hm, mw_22, mw_up22, xK_23 hm, xN_23 hm, xQ_23 hm, mw_23, mw_up23, xK_24 hm, xN_24 hm, xQ_24 hm, mw_24, mw_up24, xK_25 hm, xN_25 hm, xQ_25 hm, mw_25, mw_up25, xK_26 hm, xN_26 hm, xQ_26 hm, mw_26, mw_up26, xK_27 hm, xN_27 hm, xQ_27 hm, mw_27, mw_up27, xK_28 hm, xN_28 hm, xQ_28 hm, mw_28, mw_up28, xK_29 hm, xN_29 hm, xQ_29 hm, mw_29, mw_up29, xK_30 hm, xN_30 hm, xQ_30 hm, mw_30, mw_up30, xK_31 hm, xN_31 hm, xQ_31 hm, mw_31, mw_up31, xK_32 hm, xN_32 hm, xQ_32 hm, mw_32, mw_up32, xK_33 hm, xN_33 hm, xQ_33 hm, mw_33, mw_up33, xK_34 hm, xN_34 hm, xQ_34 hm, mw_34, mw_up34, xK_35 hm, xN_35 hm, xQ_35 hm, mw_35, mw_up35, xK_36 hm, xN_36 hm, xQ_36 hm, mw_36, mw_up36, xK_37 hm, xN_37 hm, xQ_37 hm, mw_37, mw_up37, nI_clamp (show r * 2 + q < 2 ^ 31 by omega), bd2 (show r * 2 + q < 24 by omega) (show r * 2 + q < 2 ^ 31 by omega), not_false_eq_true, w1, nI_leI (show sg.length < 2 ^ 31 by omega) (show k < 2 ^ 31 by omega), if_neg (show ¬ sg.length ≤ k by omega), x_mul20, nI_add, nI_clamp (show (r * 2 + q) * 20 + k < 2 ^ 31 by omega), bd2 (show (r * 2 + q) * 20 + k < 480 by omega) (show (r * 2 + q) * 20 + k < 2 ^ 31 by omega), hlk]
      by_cases e42 : la sg k = 42
      · rw [if_pos e42]
        have hno : (sgK (stK T.2.1 (tsO T.2.1) j v.1) sg k).length < 40 := by
          rcases hlen with ⟨-, h⟩ | ⟨⟨i, hi, h⟩, -⟩
          · omega
          · have := g4 i k (by omega) hk1 h e42
            omega
        obtain ⟨G2, e2, p3, p4⟩ := x_starOf (S := S) (I := I) hm hG' hw (p1.tk hk) p2 hno hc ((p1.1 32 (by decide) (by decide) c).trans h32) ((p1.1 34 (by decide) (by decide) c).trans h34) hv hj
        rw [e2]
        refine Or.inl ⟨(nI (k + 1), sI S (mw I m G2)), ?_, G2, rfl, p1.tr p3, ?_⟩
        · simp only [Option.bind_some, nI_1]
        · rw [sgK, if_pos e42]; exact p4
      · rw [if_neg e42]
        have hid : vp_nar .char (la sg k) = la sg k := by
          refine (char_id ?_).2
          rcases g3 k hk1 with h | h | h | h
          · exact Or.inl (tx_of (Or.inl h))
          · exact Or.inl (tx_of (Or.inr (Or.inl h)))
          · exact Or.inl (tx_of (Or.inr (Or.inr h)))
          · exact absurd h e42
        obtain ⟨G2, e2, p3, p4⟩ := x_outs (S := S) (I := I) hm (by omega) p2 hid
        rw [e2]
        refine Or.inl ⟨(nI (k + 1), sI S (mw I m G2)), ?_, G2, rfl, p1.tr p3, ?_⟩
        · simp only [Option.bind_some, nI_1]
        · rw [sgK, if_neg e42]; exact p4)
    (fun s ⟨G', e, p1, p2⟩ => by
      subst e
      have hG' : mT G' T := hG.q p1.q
      have hRu := hG'.2.2.2.1.2.1 r v hv
      obtain ⟨w1, w2⟩ := hRu.2.2.2.2.2.2.2.2 q sg hsg
      refine ⟨_, ?_, G', rfl, p1, p2⟩
      simp only
      unfold f_X10_isMade_b149
      simp only [↓reduceIte, kK_sI, kQ_sI, kN_sI, kI_sI, wI_sI, Option.bind_some, lt, mw_0, mw_up0, xK_0 hm, xK_1 hm, xN_1 hm, xQ_1 hm, mw_1, mw_up1, xK_2 hm, xN_2 hm, xQ_2 hm, mw_2, mw_up2, xK_3 hm, xN_3 hm, xQ_3 hm, mw_3, mw_up3, xK_4 hm, xN_4 hm, xQ_4 hm, mw_4, mw_up4, xK_5 hm, xN_5 hm, xQ_5 hm, mw_5, mw_up5, xK_6 hm, xN_6 hm, xQ_6 hm, mw_6, mw_up6, xK_7 hm, xN_7 hm, xQ_7 hm, mw_7, mw_up7, xK_8 hm, xN_8 hm, xQ_8 hm, mw_8, mw_up8, xK_9 hm, xN_9 hm, xQ_9 hm, mw_9, mw_up9, xK_10 hm, xN_10 hm, xQ_10 hm, mw_10, mw_up10, xK_11 hm, xN_11 hm, xQ_11 hm, mw_11, mw_up11, xK_12 hm, xN_12 hm, xQ_12 hm, mw_12, mw_up12, xK_13 hm, xN_13 hm, xQ_13 hm, mw_13, mw_up13, xK_14 hm, xN_14 hm, xQ_14 hm, mw_14, mw_up14, xK_15 hm, xN_15 hm, xQ_15 hm, mw_15, mw_up15, xK_16 hm, xN_16 hm, xQ_16 hm, mw_16, mw_up16, xK_17 hm, xN_17 hm, xQ_17 hm, mw_17, mw_up17, xK_18 hm, xN_18 hm, xQ_18 hm, mw_18, mw_up18, xK_19 hm, xN_19 hm, xQ_19 hm, mw_19, mw_up19, xK_20 hm, xN_20 hm, xQ_20 hm, mw_20, mw_up20, xK_21 hm, xN_21 hm, xQ_21 hm, mw_21, mw_up21, xK_22 hm, xN_22 hm, xQ_22 hm, mw_22, mw_up22, xK_23 hm, xN_23 hm, xQ_23 hm, mw_23, mw_up23, xK_24 hm, xN_24 hm, xQ_24 hm, mw_24, mw_up24, xK_25 hm, xN_25 hm, xQ_25 hm, mw_25, mw_up25, xK_26 hm, xN_26 hm, xQ_26 hm, mw_26, mw_up26, xK_27 hm, xN_27 hm, xQ_27 hm, mw_27, mw_up27, xK_28 hm, xN_28 hm, xQ_28 hm, mw_28, mw_up28, xK_29 hm, xN_29 hm, xQ_29 hm, mw_29, mw_up29, xK_30 hm, xN_30 hm, xQ_30 hm, mw_30, mw_up30, xK_31 hm, xN_31 hm, xQ_31 hm, mw_31, mw_up31, xK_32 hm, xN_32 hm, xQ_32 hm, mw_32, mw_up32, xK_33 hm, xN_33 hm, xQ_33 hm, mw_33, mw_up33, xK_34 hm, xN_34 hm, xQ_34 hm, mw_34, mw_up34, xK_35 hm, xN_35 hm, xQ_35 hm, mw_35, mw_up35, xK_36 hm, xN_36 hm, xQ_36 hm, mw_36, mw_up36, xK_37 hm, xN_37 hm, xQ_37 hm, mw_37, mw_up37, nI_clamp (show r * 2 + q < 2 ^ 31 by omega), bd2 (show r * 2 + q < 24 by omega) (show r * 2 + q < 2 ^ 31 by omega), not_false_eq_true, w1, nI_leI (show sg.length < 2 ^ 31 by omega) (show sg.length < 2 ^ 31 by omega), Nat.le_refl])
    0 (0, sI S (mw I m G)) ⟨G, rfl, mQo.rf, ho⟩ (Nat.zero_le _) kF (by unfold kF; omega)
  exact ⟨G', e1, p1, p2⟩
/-- the other word of a pair -/
theorem x_made2 (hm : mS S m) (hG : mT G T) (ho : mOut G []) {e : Nat} (he : e < 8) {l : List Int32} (hl : isWd l) (hwA : ∀ G', mT G' T → wA G' 17 18 e l) : ∃ G', iter (fun (w : Int32 × PS) => f_X10_isMade_b101 m (nI e) w.1 w.2) kF (0, sI S (mw I m G)) = some (sI S (mw I m G')) ∧ mQo G G' ∧ mOut G' l := by
  obtain ⟨l1, l2, l3⟩ := hl
  obtain ⟨z, e1, G', rfl, p1, p2⟩ := it_up (b := fun (w : Int32 × PS) => f_X10_isMade_b101 m (nI e) w.1 w.2) l.length
    (P := fun k s => ∃ G', s = (nI k, sI S (mw I m G')) ∧ mQo G G' ∧ mOut G' (l.take k))
    (Q := fun z => ∃ G', z = sI S (mw I m G') ∧ mQo G G' ∧ mOut G' l)
    (fun k s hk1 ⟨G', e0, p1, p2⟩ => by
      subst e0
      obtain ⟨w1, w2⟩ := hwA G' (hG.q p1.q)
      have hlk := w2 k hk1
      have hid : vp_nar .char (la l k) = la l k := (char_id (Or.inl (tx_of (Or.inl (l3 k hk1))))).2
      obtain ⟨G2, e2, p3, p4⟩ := x_outs (S := S) (I := I) hm (by rw [List.length_take]; omega) p2 hid
      refine Or.inl ⟨(nI (k + 1), sI S (mw I m G2)), ?_, G2, rfl, p1.tr p3, ?_⟩
      · simp only
        unfold f_X10_isMade_b101
        simp only [↓reduceIte, kK_sI, kQ_sI, kN_sI, kI_sI, wI_sI, Option.bind_some, lt, mw_0, mw_up0, xK_0 hm, xK_1 hm, xN_1 hm, xQ_1 hm, mw_1, mw_up1, xK_2 hm, xN_2 hm, xQ_2 hm, mw_2, mw_up2, xK_3 hm, xN_3 hm, xQ_3 hm, mw_3, mw_up3, xK_4 hm, xN_4 hm, xQ_4 hm, mw_4, mw_up4, xK_5 hm, xN_5 hm, xQ_5 hm, mw_5, mw_up5, xK_6 hm, xN_6 hm, xQ_6 hm, mw_6, mw_up6, xK_7 hm, xN_7 hm, xQ_7 hm, mw_7, mw_up7, xK_8 hm, xN_8 hm, xQ_8 hm, mw_8, mw_up8, xK_9 hm, xN_9 hm, xQ_9 hm, mw_9, mw_up9, xK_10 hm, xN_10 hm, xQ_10 hm, mw_10, mw_up10, xK_11 hm, xN_11 hm, xQ_11 hm, mw_11, mw_up11, xK_12 hm, xN_12 hm, xQ_12 hm, mw_12, mw_up12, xK_13 hm, xN_13 hm, xQ_13 hm, mw_13, mw_up13, xK_14 hm, xN_14 hm, xQ_14 hm, mw_14, mw_up14, xK_15 hm, xN_15 hm, xQ_15 hm, mw_15, mw_up15, xK_16 hm, xN_16 hm, xQ_16 hm, mw_16, mw_up16, xK_17 hm, xN_17 hm, xQ_17 hm, mw_17, mw_up17, xK_18 hm, xN_18 hm, xQ_18 hm, mw_18, mw_up18, xK_19 hm, xN_19 hm, xQ_19 hm, mw_19, mw_up19, xK_20 hm, xN_20 hm, xQ_20 hm, mw_20, mw_up20, xK_21 hm, xN_21 hm, xQ_21 hm, mw_21, mw_up21, xK_22 hm, xN_22 hm, xQ_22 hm, mw_22, mw_up22, xK_23 hm, xN_23 hm, xQ_23 hm, mw_23, mw_up23, xK_24 hm, xN_24 hm, xQ_24 hm, mw_24, mw_up24, xK_25 hm, xN_25 hm, xQ_25 hm, mw_25, mw_up25, xK_26 hm, xN_26 hm, xQ_26 hm, mw_26, mw_up26, xK_27 hm, xN_27 hm, xQ_27 hm, mw_27, mw_up27, xK_28 hm, xN_28 hm, xQ_28 hm, mw_28, mw_up28, xK_29 hm, xN_29 hm, xQ_29 hm, mw_29, mw_up29, xK_30 hm, xN_30 hm, xQ_30 hm, mw_30, mw_up30, xK_31 hm, xN_31 hm, xQ_31 hm, mw_31, mw_up31, xK_32 hm, xN_32 hm, xQ_32 hm, mw_32, mw_up32, xK_33 hm, xN_33 hm, xQ_33 hm, mw_33, mw_up33, xK_34 hm, xN_34 hm, xQ_34 hm, mw_34, mw_up34, xK_35 hm, xN_35 hm, xQ_35 hm, mw_35, mw_up35, xK_36 hm, xN_36 hm, xQ_36 hm, mw_36, mw_up36, xK_37 hm, xN_37 hm, xQ_37 hm, mw_37, mw_up37, nI_clamp (show e < 2 ^ 31 by omega), bd2 (show e < 8 by omega) (show e < 2 ^ 31 by omega), not_false_eq_true, w1, nI_leI (show l.length < 2 ^ 31 by omega) (show k < 2 ^ 31 by omega), if_neg (show ¬ l.length ≤ k by omega), x_mul20, nI_add, nI_clamp (show e * 20 + k < 2 ^ 31 by omega), bd2 (show e * 20 + k < 160 by omega) (show e * 20 + k < 2 ^ 31 by omega), hlk, e2, nI_1]
      · rw [List.take_succ_eq_append_getElem hk1, ← la_lt hk1]; exact p4)
    (fun s ⟨G', e0, p1, p2⟩ => by
      subst e0
      obtain ⟨w1, w2⟩ := hwA G' (hG.q p1.q)
      rw [List.take_length] at p2
      refine ⟨_, ?_, G', rfl, p1, p2⟩
      simp only
      unfold f_X10_isMade_b101
      simp only [↓reduceIte, kK_sI, kQ_sI, kN_sI, kI_sI, wI_sI, Option.bind_some, lt, mw_0, mw_up0, xK_0 hm, xK_1 hm, xN_1 hm, xQ_1 hm, mw_1, mw_up1, xK_2 hm, xN_2 hm, xQ_2 hm, mw_2, mw_up2, xK_3 hm, xN_3 hm, xQ_3 hm, mw_3, mw_up3, xK_4 hm, xN_4 hm, xQ_4 hm, mw_4, mw_up4, xK_5 hm, xN_5 hm, xQ_5 hm, mw_5, mw_up5, xK_6 hm, xN_6 hm, xQ_6 hm, mw_6, mw_up6, xK_7 hm, xN_7 hm, xQ_7 hm, mw_7, mw_up7, xK_8 hm, xN_8 hm, xQ_8 hm, mw_8, mw_up8, xK_9 hm, xN_9 hm, xQ_9 hm, mw_9, mw_up9, xK_10 hm, xN_10 hm, xQ_10 hm, mw_10, mw_up10, xK_11 hm, xN_11 hm, xQ_11 hm, mw_11, mw_up11, xK_12 hm, xN_12 hm, xQ_12 hm, mw_12, mw_up12, xK_13 hm, xN_13 hm, xQ_13 hm, mw_13, mw_up13, xK_14 hm, xN_14 hm, xQ_14 hm, mw_14, mw_up14, xK_15 hm, xN_15 hm, xQ_15 hm, mw_15, mw_up15, xK_16 hm, xN_16 hm, xQ_16 hm, mw_16, mw_up16, xK_17 hm, xN_17 hm, xQ_17 hm, mw_17, mw_up17, xK_18 hm, xN_18 hm, xQ_18 hm, mw_18, mw_up18, xK_19 hm, xN_19 hm, xQ_19 hm, mw_19, mw_up19, xK_20 hm, xN_20 hm, xQ_20 hm, mw_20, mw_up20, xK_21 hm, xN_21 hm, xQ_21 hm, mw_21, mw_up21, xK_22 hm, xN_22 hm, xQ_22 hm, mw_22, mw_up22, xK_23 hm, xN_23 hm, xQ_23 hm, mw_23, mw_up23, xK_24 hm, xN_24 hm, xQ_24 hm, mw_24, mw_up24, xK_25 hm, xN_25 hm, xQ_25 hm, mw_25, mw_up25, xK_26 hm, xN_26 hm, xQ_26 hm, mw_26, mw_up26, xK_27 hm, xN_27 hm, xQ_27 hm, mw_27, mw_up27, xK_28 hm, xN_28 hm, xQ_28 hm, mw_28, mw_up28, xK_29 hm, xN_29 hm, xQ_29 hm, mw_29, mw_up29, xK_30 hm, xN_30 hm, xQ_30 hm, mw_30, mw_up30, xK_31 hm, xN_31 hm, xQ_31 hm, mw_31, mw_up31, xK_32 hm, xN_32 hm, xQ_32 hm, mw_32, mw_up32, xK_33 hm, xN_33 hm, xQ_33 hm, mw_33, mw_up33, xK_34 hm, xN_34 hm, xQ_34 hm, mw_34, mw_up34, xK_35 hm, xN_35 hm, xQ_35 hm, mw_35, mw_up35, xK_36 hm, xN_36 hm, xQ_36 hm, mw_36, mw_up36, xK_37 hm, xN_37 hm, xQ_37 hm, mw_37, mw_up37, nI_clamp (show e < 2 ^ 31 by omega), bd2 (show e < 8 by omega) (show e < 2 ^ 31 by omega), not_false_eq_true, w1, nI_leI (show l.length < 2 ^ 31 by omega) (show l.length < 2 ^ 31 by omega), Nat.le_refl])
    0 (0, sI S (mw I m G)) ⟨G, rfl, mQo.rf, ho⟩ (Nat.zero_le _) kF (by unfold kF; omega)
  exact ⟨G', e1, p1, p2⟩
end
