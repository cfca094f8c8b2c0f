/-! all that is found -/
/-- one more, if c holds -/
def nx (L L' : List (Nat × Nat)) (p : Nat × Nat) (c : Prop) : Prop := L'.length ≤ L.length + 1 ∧ ∀ q, q ∈ L' ↔ q ∈ L ∨ (q = p ∧ c)
theorem nx.no {L : List (Nat × Nat)} {p : Nat × Nat} {c : Prop} (h : ¬ c) : nx L L p c := ⟨by omega, fun q => ⟨fun z => Or.inl z, fun z => z.elim id (fun y => absurd y.2 h)⟩⟩
theorem nx.app {L : List (Nat × Nat)} {p : Nat × Nat} {c : Prop} (h : c) : nx L (L ++ [p]) p c := ⟨by simp, fun q => by rw [List.mem_append, List.mem_singleton]; exact or_congr_right ⟨fun z => ⟨z, h⟩, fun z => z.1⟩⟩
abbrev cnT (T : St) (d j r : Nat) : Prop := cn T.2.1 (tsO T.2.1) T.2.2.2.2.1 T.2.2.2.2.2.1 (T.2.2.2.2.2.2 d) j r
section
variable {S : PS} {I G : Nat → Nat → Int32} {m : Nat} {T : St} {d : Nat}
theorem hit_lt {t : List Int32} {ts : List Tk} {ru : List Rv} {pa : List (List Int32 × List Int32)} {j r : Nat} {v : Rv} (hr : r < 12) (hv : ru[r]? = some v) : hit t ts ru pa j r = fR t ts v j := by
  unfold hit hR
  rw [hv, decide_eq_false (show ¬ 12 ≤ r by omega), Bool.false_and, Bool.or_false]
theorem cn_rule (hw : wf T) {j r : Nat} {v : Rv} (hv : T.2.2.2.2.1[r]? = some v) (hj : j < (tsO T.2.1).length) : cnT T d j r ↔ (fR T.2.1 (tsO T.2.1) v j = true ∧ tb (T.2.2.2.2.2.2 d).2.1 r = false) ∧ (r, tF (tsO T.2.1) j, tE (tsO T.2.1) (j + mI9 T.2.2.2.2.1 r - 1) - tF (tsO T.2.1) j) ∉ (T.2.2.2.2.2.2 d).2.2.2 := by
  have hl := hw.2.2.2.2.2.2.1.1
  have hr := (List.getElem?_eq_some_iff.mp hv).1
  unfold cnT cn fd
  rw [hit_lt (by omega) hv, decide_eq_false (show ¬ r = 20 by omega)]
  simp only [Bool.false_and, Bool.or_false, Bool.and_eq_true, Bool.not_eq_true']
  exact ⟨fun z => ⟨z.2.2.1, z.2.2.2⟩, fun z => ⟨by omega, hj, z.1, z.2⟩⟩
theorem cn_num (hw : wf T) {j : Nat} (hj : j < (tsO T.2.1).length) : cnT T d j 20 ↔ (tW (tsO T.2.1) j = false ∧ tQ (tsO T.2.1) j = false ∧ tV (tsO T.2.1) j < (T.2.2.2.2.2.2 d).2.2.1) ∧ (20, tF (tsO T.2.1) j, tE (tsO T.2.1) (j + mI9 T.2.2.2.2.1 20 - 1) - tF (tsO T.2.1) j) ∉ (T.2.2.2.2.2.2 d).2.2.2 := by
  have hl := hw.2.2.2.2.2.2.1.1
  have hp := hw.2.2.2.2.2.2.2.2.1
  have hh : hit T.2.1 (tsO T.2.1) T.2.2.2.2.1 T.2.2.2.2.2.1 j 20 = false := by
    unfold hit hR hP
    rw [List.getElem?_eq_none (show T.2.2.2.2.1.length ≤ 20 by omega), List.getElem?_eq_none (show T.2.2.2.2.2.1.length ≤ 20 - 12 by omega)]
    rfl
  unfold cnT cn fd
  rw [hh, tk_N hj]
  simp only [Bool.false_and, Bool.false_or, Bool.and_eq_true, Bool.not_eq_true', decide_true, decide_eq_true_eq, true_and]
  exact ⟨fun z => ⟨⟨z.2.2.1.1.1, z.2.2.1.1.2, z.2.2.1.2⟩, z.2.2.2⟩, fun z => ⟨by omega, hj, ⟨⟨z.1.1, z.1.2.1⟩, z.1.2.2⟩, z.2⟩⟩
theorem cn_pair (hw : wf T) (hd : d < 4) {j q : Nat} {p : List Int32 × List Int32} (hv : T.2.2.2.2.2.1[q]? = some p) (hj : j < (tsO T.2.1).length) : cnT T d j (12 + q) ↔ pF T.2.1 (tsO T.2.1) p j = true ∧ (12 + q, tF (tsO T.2.1) j, tE (tsO T.2.1) (j + mI9 T.2.2.2.2.1 (12 + q) - 1) - tF (tsO T.2.1) j) ∉ (T.2.2.2.2.2.2 d).2.2.2 := by
  have hl := hw.2.2.2.2.2.2.1.1
  have hp := hw.2.2.2.2.2.2.2.2.1
  have hq := (List.getElem?_eq_some_iff.mp hv).1
  have hb := (hw.2.2.2.2.2.2.2.2.2.2 d hd).1.2.2.2.2.2 (12 + q) (by omega) (by omega)
  have hh : hit T.2.1 (tsO T.2.1) T.2.2.2.2.1 T.2.2.2.2.2.1 j (12 + q) = pF T.2.1 (tsO T.2.1) p j := by
    unfold hit hR hP
    rw [List.getElem?_eq_none (show T.2.2.2.2.1.length ≤ 12 + q by omega), show 12 + q - 12 = q by omega, hv, decide_eq_true (show 12 ≤ 12 + q by omega)]
    rfl
  unfold cnT cn fd
  rw [hh, hb, decide_eq_false (show ¬ 12 + q = 20 by omega)]
  simp only [Bool.false_and, Bool.or_false, Bool.not_false, Bool.and_true]
  exact ⟨fun z => ⟨z.2.2.1, z.2.2.2⟩, fun z => ⟨by omega, hj, z.1, z.2⟩⟩
theorem cn_kinds (hw : wf T) {j r : Nat} (h : cnT T d j r) : r < T.2.2.2.2.1.length ∨ r = 20 ∨ ∃ q, q < T.2.2.2.2.2.1.length ∧ r = 12 + q := by
  obtain ⟨h1, h2, h3, h4⟩ := h
  have hl := hw.2.2.2.2.2.2.1.1
  unfold fd hit hR hP at h3
  by_cases e1 : r < T.2.2.2.2.1.length
  · exact Or.inl e1
  · by_cases e2 : r = 20
    · exact Or.inr (Or.inl e2)
    · by_cases e3 : 12 ≤ r ∧ r - 12 < T.2.2.2.2.2.1.length
      · exact Or.inr (Or.inr ⟨r - 12, e3.2, by omega⟩)
      · exfalso
        rw [List.getElem?_eq_none (by omega), decide_eq_false e2] at h3
        by_cases e4 : 12 ≤ r
        · rw [List.getElem?_eq_none (by omega)] at h3
          simp at h3
        · rw [decide_eq_false e4] at h3
          simp at h3
/-- what the loops of findsAll keep -/
def fA (G0 G : Nat → Nat → Int32) (T : St) (d : Nat) (L : List (Nat × Nat)) : Prop := mQf G0 G ∧ mFd G T.2.1 T.2.2.2.2.1 (T.2.2.2.2.2.2 d) L
theorem m9_ge {ru : List Rv} {r : Nat} (h : ru.length ≤ r) : mI9 ru r = 1 := by
  unfold mI9
  rw [List.getElem?_eq_none h]
theorem x_fa1 (hm : mS S m) (hw : wf T) (hd : d < 4) (hG : mT G T) (hk : mTk G T.2.1) {L : List (Nat × Nat)} (hf : mFd G T.2.1 T.2.2.2.2.1 (T.2.2.2.2.2.2 d) L) (hL : L.length < 2800) {j r : Nat} {v : Rv} (hv : T.2.2.2.2.1[r]? = some v) (hj : j < (tsO T.2.1).length) (hlo : tb (T.2.2.2.2.2.2 d).2.1 r = false) :
    ∃ G' L', f_X10_findsAll_b21 m (nI d) (nI r) (nI j) (sI S (mw I m G)) = some (.inl (nI (j + 1), sI S (mw I m G'))) ∧ fA G G' T d L' ∧ nx L L' (j, r) (cnT T d j r) := by
  have ht := hw.2.1
  have hl := (tsO_wT ht).1
  have hru := hw.2.2.2.2.2.2.1.1
  have hr := (List.getElem?_eq_some_iff.mp hv).1
  obtain ⟨q1, q2, q3, q4, q5, q6⟩ := hw.2.2.2.2.2.2.1.2 r v hv
  obtain ⟨i1, i2, i3, -⟩ := hw.2.2.2.2.2.2.2.1 r v hv
  obtain ⟨a1, a2, a3, a4, a5, a6⟩ := id hG
  have hD := a6 d hd
  have hwk := (hw.2.2.2.2.2.2.2.2.2.2 d hd).1
  have hRu := a4.2.1 r v hv
  have hcn := cn_rule (d := d) hw hv hj
  have hm9 : mI9 T.2.2.2.2.1 r = v.1.length := by unfold mI9; rw [hv]
  rw [hm9] at hcn
  cases eI : itA T.2.1 (tsO T.2.1) v.1 j with
  | false =>
    refine ⟨G, L, ?_, ⟨mQf.rf, hf⟩, nx.no (fun z => ?_)⟩
    · unfold f_X10_findsAll_b21
      simp only [↓reduceIte, kK_sI, kQ_sI, kN_sI, kI_sI, wI_sI, Option.bind_some, lt, mw_0, mw_up0, xK_0 hm, xK_1 hm, xN_1 hm, xQ_1 hm, mw_1, mw_up1, xK_2 hm, xN_2 hm, xQ_2 hm, mw_2, mw_up2, xK_3 hm, xN_3 hm, xQ_3 hm, mw_3, mw_up3, xK_4 hm, xN_4 hm, xQ_4 hm, mw_4, mw_up4, xK_5 hm, xN_5 hm, xQ_5 hm, mw_5, mw_up5, xK_6 hm, xN_6 hm, xQ_6 hm, mw_6, mw_up6, xK_7 hm, xN_7 hm, xQ_7 hm, mw_7, mw_up7, xK_8 hm, xN_8 hm, xQ_8 hm, mw_8, mw_up8, xK_9 hm, xN_9 hm, xQ_9 hm, mw_9, mw_up9, xK_10 hm, xN_10 hm, xQ_10 hm, mw_10, mw_up10, xK_11 hm, xN_11 hm, xQ_11 hm, mw_11, mw_up11, xK_12 hm, xN_12 hm, xQ_12 hm, mw_12, mw_up12, xK_13 hm, xN_13 hm, xQ_13 hm, mw_13, mw_up13, xK_14 hm, xN_14 hm, xQ_14 hm, mw_14, mw_up14, xK_15 hm, xN_15 hm, xQ_15 hm, mw_15, mw_up15, xK_16 hm, xN_16 hm, xQ_16 hm, mw_16, mw_up16, xK_17 hm, xN_17 hm, xQ_17 hm, mw_17, mw_up17, xK_18 hm, xN_18 hm, xQ_18 hm, mw_18, mw_up18, xK_19 hm, xN_19 hm, xQ_19 hm, mw_19, mw_up19, xK_20 hm, xN_20 hm, xQ_20 hm, mw_20, mw_up20, xK_21 hm, xN_21 hm, xQ_21 hm, mw_21, mw_up21, xK_22 hm, xN_22 hm, xQ_22 hm, mw_22, mw_up22, xK_23 hm, xN_23 hm, xQ_23 hm, mw_23, mw_up23, xK_24 hm, xN_24 hm, xQ_24 hm, mw_24, mw_up24, xK_25 hm, xN_25 hm, xQ_25 hm, mw_25, mw_up25, xK_26 hm, xN_26 hm, xQ_26 hm, mw_26, mw_up26, xK_27 hm, xN_27 hm, xQ_27 hm, mw_27, mw_up27, xK_28 hm, xN_28 hm, xQ_28 hm, mw_28, mw_up28, xK_29 hm, xN_29 hm, xQ_29 hm, mw_29, mw_up29, xK_30 hm, xN_30 hm, xQ_30 hm, mw_30, mw_up30, xK_31 hm, xN_31 hm, xQ_31 hm, mw_31, mw_up31, xK_32 hm, xN_32 hm, xQ_32 hm, mw_32, mw_up32, xK_33 hm, xN_33 hm, xQ_33 hm, mw_33, mw_up33, xK_34 hm, xN_34 hm, xQ_34 hm, mw_34, mw_up34, xK_35 hm, xN_35 hm, xQ_35 hm, mw_35, mw_up35, xK_36 hm, xN_36 hm, xQ_36 hm, mw_36, mw_up36, xK_37 hm, xN_37 hm, xQ_37 hm, mw_37, mw_up37, nI_clamp (show j < 2 ^ 31 by omega), bd2 (show j < 160 by omega) (show j < 2 ^ 31 by omega), not_false_eq_true, hk.1, nI_leI (show (tsO T.2.1).length < 2 ^ 31 by omega) (show j < 2 ^ 31 by omega), if_neg (show ¬ (tsO T.2.1).length ≤ j by omega), x_mul12, nI_add, nI_clamp (show d * 12 + r < 2 ^ 31 by omega), bd2 (show d * 12 + r < 48 by omega) (show d * 12 + r < 2 ^ 31 by omega), hD.1 r (by omega), hlo, bi_eq0, x_isAt hm a2 hk ht hj (show r < 12 by omega) hRu q2 q1 i2, eI, nI_1]
    · have := (hcn.mp z).1.1
      unfold fR at this
      rw [eI] at this
      simp at this
  | true =>
    have hlast : j + v.1.length - 1 < (tsO T.2.1).length := by
      apply Classical.byContradiction
      intro z
      unfold itA at eI
      have := (of_decide_eq_true eI (v.1.length - 1) (by omega)).2
      rw [fI_ge (by omega)] at this
      cases this
    have hgo : ∀ i, i < v.1.length - 1 → gO T.2.1 (tsO T.2.1) (j + i) = true := fun i hi => by
      unfold itA at eI
      rcases (of_decide_eq_true eI (i + 1) (by omega)).1 with z | z
      · omega
      · rwa [show j + (i + 1) - 1 = j + i by omega] at z
    have hany := x_anyN (S := S) (I := I) hm hk ht (show j + (v.1.length - 1) < (tsO T.2.1).length by omega) hgo
    rw [show j + (v.1.length - 1) = j + v.1.length - 1 by omega] at hany
    obtain ⟨G', e9, e10, e11⟩ := x_finds (S := S) (I := I) (j := j) (r := r) hm hk ht hd hD hwk hf hL (by omega) (by rw [hm9]; exact q1) (by rw [hm9]; exact hlast)
    rw [hm9] at e9 e11
    have hE : f_X10_findsAll_b21 m (nI d) (nI r) (nI j) (sI S (mw I m G)) = if fR T.2.1 (tsO T.2.1) v j = true then some (.inl (nI (j + 1), sI S (mw I m G'))) else some (.inl (nI (j + 1), sI S (mw I m G))) := by
      unfold f_X10_findsAll_b21
      simp only [↓reduceIte, kK_sI, kQ_sI, kN_sI, kI_sI, wI_sI, Option.bind_some, lt, mw_0, mw_up0, xK_0 hm, xK_1 hm, xN_1 hm, xQ_1 hm, mw_1, mw_up1, xK_2 hm, xN_2 hm, xQ_2 hm, mw_2, mw_up2, xK_3 hm, xN_3 hm, xQ_3 hm, mw_3, mw_up3, xK_4 hm, xN_4 hm, xQ_4 hm, mw_4, mw_up4, xK_5 hm, xN_5 hm, xQ_5 hm, mw_5, mw_up5, xK_6 hm, xN_6 hm, xQ_6 hm, mw_6, mw_up6, xK_7 hm, xN_7 hm, xQ_7 hm, mw_7, mw_up7, xK_8 hm, xN_8 hm, xQ_8 hm, mw_8, mw_up8, xK_9 hm, xN_9 hm, xQ_9 hm, mw_9, mw_up9, xK_10 hm, xN_10 hm, xQ_10 hm, mw_10, mw_up10, xK_11 hm, xN_11 hm, xQ_11 hm, mw_11, mw_up11, xK_12 hm, xN_12 hm, xQ_12 hm, mw_12, mw_up12, xK_13 hm, xN_13 hm, xQ_13 hm, mw_13, mw_up13, xK_14 hm, xN_14 hm, xQ_14 hm, mw_14, mw_up14, xK_15 hm, xN_15 hm, xQ_15 hm, mw_15, mw_up15, xK_16 hm, xN_16 hm, xQ_16 hm, mw_16, mw_up16, xK_17 hm, xN_17 hm, xQ_17 hm, mw_17, mw_up17, xK_18 hm, xN_18 hm, xQ_18 hm, mw_18, mw_up18, xK_19 hm, xN_19 hm, xQ_19 hm, mw_19, mw_up19, xK_20 hm, xN_20 hm, xQ_20 hm, mw_20, mw_up20, xK_21 hm, xN_21 hm, xQ_21 hm, mw_21, mw_up21, xK_22 hm, xN_22 hm, xQ_22 hm, mw_22, mw_up22, xK_23 hm, xN_23 hm, xQ_23 hm, mw_23, mw_up23, xK_24 hm, xN_24 hm, xQ_24 hm, mw_24, mw_up24, xK_25 hm, xN_25 hm, xQ_25 hm, mw_25, mw_up25, xK_26 hm, xN_26 hm, xQ_26 hm, mw_26, mw_up26, xK_27 hm, xN_27 hm, xQ_27 hm, mw_27, mw_up27, xK_28 hm, xN_28 hm, xQ_28 hm, mw_28, mw_up28, xK_29 hm, xN_29 hm, xQ_29 hm, mw_29, mw_up29, xK_30 hm, xN_30 hm, xQ_30 hm, mw_30, mw_up30, xK_31 hm, xN_31 hm, xQ_31 hm, mw_31, mw_up31, xK_32 hm, xN_32 hm, xQ_32 hm, mw_32, mw_up32, xK_33 hm, xN_33 hm, xQ_33 hm, mw_33, mw_up33, xK_34 hm, xN_34 hm, xQ_34 hm, mw_34, mw_up34, xK_35 hm, xN_35 hm, xQ_35 hm, mw_35, mw_up35, xK_36 hm, xN_36 hm, xQ_36 hm, mw_36, mw_up36, xK_37 hm, xN_37 hm, xQ_37 hm, mw_37, mw_up37, nI_clamp (show j < 2 ^ 31 by omega), bd2 (show j < 160 by omega) (show j < 2 ^ 31 by omega), not_false_eq_true, hk.1, nI_leI (show (tsO T.2.1).length < 2 ^ 31 by omega) (show j < 2 ^ 31 by omega), if_neg (show ¬ (tsO T.2.1).length ≤ j by omega), x_mul12, nI_add, nI_clamp (show d * 12 + r < 2 ^ 31 by omega), bd2 (show d * 12 + r < 48 by omega) (show d * 12 + r < 2 ^ 31 by omega), hD.1 r (by omega), hlo, bi_eq0, x_isAt hm a2 hk ht hj (show r < 12 by omega) hRu q2 q1 i2, eI, nI_1,
        Bool.true_eq_false, if_false, nI_clamp (show r < 2 ^ 31 by omega), bd2 (show r < 12 by omega) (show r < 2 ^ 31 by omega), hRu.1, nI_sub1 (show 0 < j + v.1.length by omega), hRu.2.2.1, hRu.2.2.2.1, x_first hm a2 hk ht hj, x_exc hm a2 hk ht hj (show r < 12 by omega) hRu q5 i3, x_rankAt hm hd hD hwk a4 hr hru, e9, nI_clamp (show j + v.1.length - 1 < 2 ^ 31 by omega), bd2 (show j + v.1.length - 1 < 160 by omega) (show j + v.1.length - 1 < 2 ^ 31 by omega), (hk.2.1 _ hj).1, (hk.2.1 _ hlast).2.1, hany]
      unfold fR
      rw [eI]
      by_cases e97 : v.2.1 = 97
      · simp only [if_pos e97, decide_eq_true e97, Bool.true_or, Bool.and_true]
        cases v.2.2.1 <;> cases tQ (tsO T.2.1) j <;> cases exA T.2.1 (tsO T.2.1) v.2.2.2.2.1 j <;> rfl
      · simp only [if_neg e97, decide_eq_false e97, Bool.false_or, Bool.and_true]
        by_cases e115 : v.2.1 = 115
        · simp only [if_pos e115, decide_eq_true e115]
          cases t1 (tsO T.2.1) j <;> cases v.2.2.1 <;> cases tQ (tsO T.2.1) j <;> cases exA T.2.1 (tsO T.2.1) v.2.2.2.2.1 j <;> rfl
        · simp only [if_neg e115, decide_eq_false e115]
          cases t1 (tsO T.2.1) j <;> cases v.2.2.1 <;> cases tQ (tsO T.2.1) j <;> cases exA T.2.1 (tsO T.2.1) v.2.2.2.2.1 j <;> rfl
    rw [hE]
    by_cases eF : fR T.2.1 (tsO T.2.1) v j = true
    · rw [if_pos eF]
      refine ⟨G', _, rfl, ⟨e10, e11⟩, ?_⟩
      by_cases e3 : (r, tF (tsO T.2.1) j, tE (tsO T.2.1) (j + v.1.length - 1) - tF (tsO T.2.1) j) ∈ (T.2.2.2.2.2.2 d).2.2.2
      · rw [if_pos e3]
        exact nx.no (fun z => (hcn.mp z).2 e3)
      · rw [if_neg e3]
        exact nx.app (hcn.mpr ⟨⟨eF, hlo⟩, e3⟩)
    · rw [if_neg eF]
      exact ⟨G, L, rfl, ⟨mQf.rf, hf⟩, nx.no (fun z => eF (hcn.mp z).1.1)⟩
end
