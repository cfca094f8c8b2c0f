/-! the order of what is found; what is free -/
theorem ah_trans {m rk : Nat → Nat} {a b c : Nat × Nat} (h : ah m rk a.1 a.2 b.1 b.2) (h' : ah m rk b.1 b.2 c.1 c.2) : ah m rk a.1 a.2 c.1 c.2 := by
  unfold ah at *
  omega
theorem ah_total {m rk : Nat → Nat} {a b : Nat × Nat} (h : ¬ ah m rk a.1 a.2 b.1 b.2) : a = b ∨ ah m rk b.1 b.2 a.1 a.2 := by
  by_cases e : a.1 = b.1 ∧ a.2 = b.2
  · exact Or.inl (Prod.ext e.1 e.2)
  · refine Or.inr ?_
    unfold ah at *
    by_cases e2 : a.2 = b.2
    · rw [e2] at h ⊢
      omega
    · omega
theorem ah_irr {m rk : Nat → Nat} {a : Nat × Nat} : ¬ ah m rk a.1 a.2 a.1 a.2 := by
  unfold ah
  omega
def pl (T : St) (L : List (Nat × Nat)) (c : Nat) : Nat := tF (tsO T.2.1) (gp L c).1
def en (T : St) (L : List (Nat × Nat)) (c : Nat) : Nat := tE (tsO T.2.1) ((gp L c).1 + mI9 T.2.2.2.2.1 (gp L c).2 - 1)
abbrev ahT (T : St) (d : Nat) (L : List (Nat × Nat)) (c c' : Nat) : Prop := ah (mI9 T.2.2.2.2.1) (rk T.2.2.2.2.1 (T.2.2.2.2.2.2 d).1) (gp L c).1 (gp L c).2 (gp L c').1 (gp L c').2
abbrev ovT (T : St) (L : List (Nat × Nat)) (c c' : Nat) : Prop := ov (mI9 T.2.2.2.2.1) (gp L c).1 (gp L c).2 (gp L c').1 (gp L c').2
theorem gp_at {L : List (Nat × Nat)} {c : Nat} (h : c < L.length) : L[c]? = some (gp L c) := by
  unfold gp
  rw [List.getElem?_eq_getElem h]
  rfl
/-- all of L are found -/
def okL (T : St) (d : Nat) (L : List (Nat × Nat)) : Prop := L.length ≤ 2720 ∧ ∀ q, q ∈ L ↔ cnT T d q.1 q.2
section
variable {S : PS} {I G : Nat → Nat → Int32} {m : Nat} {T : St} {d : Nat} {L : List (Nat × Nat)}
theorem okL.c (h : okL T d L) (hw : wf T) {c : Nat} (hc : c < L.length) : (gp L c).2 ≤ 20 ∧ (gp L c).1 + mI9 T.2.2.2.2.1 (gp L c).2 ≤ (tsO T.2.1).length ∧ 1 ≤ mI9 T.2.2.2.2.1 (gp L c).2 := by
  have := (h.2 (gp L c)).mp (gp_mem hc)
  exact ⟨this.1, fd_in hw.2.2.2.2.2.2.1 this.2.1 this.2.2.1, (hw.2.2.2.2.2.2.1.m _).1⟩
theorem okL.pe (h : okL T d L) (hw : wf T) {c : Nat} (hc : c < L.length) : pl T L c < en T L c ∧ en T L c ≤ T.2.1.length := by
  obtain ⟨h1, h2, h3⟩ := h.c hw hc
  exact ⟨(tsO_oT _).lt (tsO_wT hw.2.1) (by omega) (by omega), (tk_b (by omega)).2⟩
theorem tF_lt {t : List Int32} {i j : Nat} (hij : i < j) (hj : j < (tsO t).length) : tF (tsO t) i < tF (tsO t) j := by
  have h1 := tk_o hij hj
  have h2 := (tk_b (show i < (tsO t).length by omega)).1
  omega
theorem tE_lt {t : List Int32} {i j : Nat} (hij : i < j) (hj : j < (tsO t).length) : tE (tsO t) i < tE (tsO t) j := by
  have h1 := tk_o hij hj
  have h2 := (tk_b hj).1
  omega
theorem tE_tF {t : List Int32} {i j : Nat} (hi : i < (tsO t).length) (hj : j < (tsO t).length) : tE (tsO t) i ≤ tF (tsO t) j ↔ i < j := by
  refine ⟨fun z => ?_, fun z => tk_o z hj⟩
  apply Classical.byContradiction
  intro y
  have h1 := (tk_b hi).1
  by_cases e : i = j
  · subst e; omega
  · have := tF_lt (show j < i by omega) hi
    omega
/-- apart in signs is apart in tokens -/
theorem okL.ap (h : okL T d L) (hw : wf T) {c c' : Nat} (hc : c < L.length) (hc' : c' < L.length) : (en T L c ≤ pl T L c' ∨ en T L c' ≤ pl T L c) ↔ ¬ ovT T L c c' := by
  obtain ⟨h1, h2, h3⟩ := h.c hw hc
  obtain ⟨g1, g2, g3⟩ := h.c hw hc'
  unfold en pl ovT ov
  rw [tE_tF (by omega) (by omega), tE_tF (by omega) (by omega)]
  omega
theorem x_place (hm : mS S m) (hw : wf T) (hk : mTk G T.2.1) (hf : mFd G T.2.1 T.2.2.2.2.1 (T.2.2.2.2.2.2 d) L) (hL : okL T d L) {c : Nat} (hc : c < L.length) : f_X10_placeOf (sI S (mw I m G)) m (nI c) = some (nI (pl T L c)) := by
  have hl := (tsO_wT hw.2.1).1
  obtain ⟨h1, h2, h3⟩ := hL.c hw hc
  have hn := hL.1
  unfold f_X10_placeOf pl
  simp only [↓reduceIte, kK_sI, kQ_sI, kN_sI, kI_sI, wI_sI, Option.bind_some, lt, mw_0, mw_up0, xK_0 hm, xK_1 hm, xN_1 hm, xQ_1 hm, mw_1, mw_up1, xK_2 hm, xN_2 hm, xQ_2 hm, mw_2, mw_up2, xK_3 hm, xN_3 hm, xQ_3 hm, mw_3, mw_up3, xK_4 hm, xN_4 hm, xQ_4 hm, mw_4, mw_up4, xK_5 hm, xN_5 hm, xQ_5 hm, mw_5, mw_up5, xK_6 hm, xN_6 hm, xQ_6 hm, mw_6, mw_up6, xK_7 hm, xN_7 hm, xQ_7 hm, mw_7, mw_up7, xK_8 hm, xN_8 hm, xQ_8 hm, mw_8, mw_up8, xK_9 hm, xN_9 hm, xQ_9 hm, mw_9, mw_up9, xK_10 hm, xN_10 hm, xQ_10 hm, mw_10, mw_up10, xK_11 hm, xN_11 hm, xQ_11 hm, mw_11, mw_up11, xK_12 hm, xN_12 hm, xQ_12 hm, mw_12, mw_up12, xK_13 hm, xN_13 hm, xQ_13 hm, mw_13, mw_up13, xK_14 hm, xN_14 hm, xQ_14 hm, mw_14, mw_up14, xK_15 hm, xN_15 hm, xQ_15 hm, mw_15, mw_up15, xK_16 hm, xN_16 hm, xQ_16 hm, mw_16, mw_up16, xK_17 hm, xN_17 hm, xQ_17 hm, mw_17, mw_up17, xK_18 hm, xN_18 hm, xQ_18 hm, mw_18, mw_up18, xK_19 hm, xN_19 hm, xQ_19 hm, mw_19, mw_up19, xK_20 hm, xN_20 hm, xQ_20 hm, mw_20, mw_up20, xK_21 hm, xN_21 hm, xQ_21 hm, mw_21, mw_up21, xK_22 hm, xN_22 hm, xQ_22 hm, mw_22, mw_up22, xK_23 hm, xN_23 hm, xQ_23 hm, mw_23, mw_up23, xK_24 hm, xN_24 hm, xQ_24 hm, mw_24, mw_up24, xK_25 hm, xN_25 hm, xQ_25 hm, mw_25, mw_up25, xK_26 hm, xN_26 hm, xQ_26 hm, mw_26, mw_up26, xK_27 hm, xN_27 hm, xQ_27 hm, mw_27, mw_up27, xK_28 hm, xN_28 hm, xQ_28 hm, mw_28, mw_up28, xK_29 hm, xN_29 hm, xQ_29 hm, mw_29, mw_up29, xK_30 hm, xN_30 hm, xQ_30 hm, mw_30, mw_up30, xK_31 hm, xN_31 hm, xQ_31 hm, mw_31, mw_up31, xK_32 hm, xN_32 hm, xQ_32 hm, mw_32, mw_up32, xK_33 hm, xN_33 hm, xQ_33 hm, mw_33, mw_up33, xK_34 hm, xN_34 hm, xQ_34 hm, mw_34, mw_up34, xK_35 hm, xN_35 hm, xQ_35 hm, mw_35, mw_up35, xK_36 hm, xN_36 hm, xQ_36 hm, mw_36, mw_up36, xK_37 hm, xN_37 hm, xQ_37 hm, mw_37, mw_up37, nI_clamp (show c < 2 ^ 31 by omega), bd2 (show c < 2800 by omega) (show c < 2 ^ 31 by omega), not_false_eq_true, (hf.2 c _ (gp_at hc)).1, nI_clamp (show (gp L c).1 < 2 ^ 31 by omega), bd2 (show (gp L c).1 < 160 by omega) (show (gp L c).1 < 2 ^ 31 by omega), (hk.2.1 (gp L c).1 (by omega)).1]
theorem x_ahead (hm : mS S m) (hw : wf T) (hd : d < 4) (hk : mTk G T.2.1) (hf : mFd G T.2.1 T.2.2.2.2.1 (T.2.2.2.2.2.2 d) L) (hL : okL T d L) {c c' : Nat} (hc : c < L.length) (hc' : c' < L.length) : ∃ b : Bool, f_X10_isAhead (sI S (mw I m G)) m (nI c) (nI c') = some (bi b) ∧ (b = true ↔ ahT T d L c c') := by
  have hl := (tsO_wT hw.2.1).1
  obtain ⟨h1, h2, h3⟩ := hL.c hw hc
  obtain ⟨g1, g2, g3⟩ := hL.c hw hc'
  have hn := hL.1
  have ht := hw.2.1
  obtain ⟨y1, y2, y3, y4⟩ := hf.2 c _ (gp_at hc)
  obtain ⟨z1, z2, z3, z4⟩ := hf.2 c' _ (gp_at hc')
  have hr1 := rk_range (k := T.2.2.2.2.2.2 d) hw.2.2.2.2.2.2.1 (hw.2.2.2.2.2.2.2.2.2.2 d hd).1 (gp L c).2
  have hr2 := rk_range (k := T.2.2.2.2.2.2 d) hw.2.2.2.2.2.2.1 (hw.2.2.2.2.2.2.2.2.2.2 d hd).1 (gp L c').2
  have p1 := hL.pe hw hc
  have p2 := hL.pe hw hc'
  have b1 := (tk_b (show (gp L c).1 + mI9 T.2.2.2.2.1 (gp L c).2 - 1 < (tsO T.2.1).length by omega)).2
  have b2 := (tk_b (show (gp L c').1 + mI9 T.2.2.2.2.1 (gp L c').2 - 1 < (tsO T.2.1).length by omega)).2
  unfold f_X10_isAhead
  simp only [↓reduceIte, kK_sI, kQ_sI, kN_sI, kI_sI, wI_sI, Option.bind_some, lt, mw_0, mw_up0, xK_0 hm, xK_1 hm, xN_1 hm, xQ_1 hm, mw_1, mw_up1, xK_2 hm, xN_2 hm, xQ_2 hm, mw_2, mw_up2, xK_3 hm, xN_3 hm, xQ_3 hm, mw_3, mw_up3, xK_4 hm, xN_4 hm, xQ_4 hm, mw_4, mw_up4, xK_5 hm, xN_5 hm, xQ_5 hm, mw_5, mw_up5, xK_6 hm, xN_6 hm, xQ_6 hm, mw_6, mw_up6, xK_7 hm, xN_7 hm, xQ_7 hm, mw_7, mw_up7, xK_8 hm, xN_8 hm, xQ_8 hm, mw_8, mw_up8, xK_9 hm, xN_9 hm, xQ_9 hm, mw_9, mw_up9, xK_10 hm, xN_10 hm, xQ_10 hm, mw_10, mw_up10, xK_11 hm, xN_11 hm, xQ_11 hm, mw_11, mw_up11, xK_12 hm, xN_12 hm, xQ_12 hm, mw_12, mw_up12, xK_13 hm, xN_13 hm, xQ_13 hm, mw_13, mw_up13, xK_14 hm, xN_14 hm, xQ_14 hm, mw_14, mw_up14, xK_15 hm, xN_15 hm, xQ_15 hm, mw_15, mw_up15, xK_16 hm, xN_16 hm, xQ_16 hm, mw_16, mw_up16, xK_17 hm, xN_17 hm, xQ_17 hm, mw_17, mw_up17, xK_18 hm, xN_18 hm, xQ_18 hm, mw_18, mw_up18, xK_19 hm, xN_19 hm, xQ_19 hm, mw_19, mw_up19, xK_20 hm, xN_20 hm, xQ_20 hm, mw_20, mw_up20, xK_21 hm, xN_21 hm, xQ_21 hm, mw_21, mw_up21, xK_22 hm, xN_22 hm, xQ_22 hm, mw_22, mw_up22, xK_23 hm, xN_23 hm, xQ_23 hm, mw_23, mw_up23, xK_24 hm, xN_24 hm, xQ_24 hm, mw_24, mw_up24, xK_25 hm, xN_25 hm, xQ_25 hm, mw_25, mw_up25, xK_26 hm, xN_26 hm, xQ_26 hm, mw_26, mw_up26, xK_27 hm, xN_27 hm, xQ_27 hm, mw_27, mw_up27, xK_28 hm, xN_28 hm, xQ_28 hm, mw_28, mw_up28, xK_29 hm, xN_29 hm, xQ_29 hm, mw_29, mw_up29, xK_30 hm, xN_30 hm, xQ_30 hm, mw_30, mw_up30, xK_31 hm, xN_31 hm, xQ_31 hm, mw_31, mw_up31, xK_32 hm, xN_32 hm, xQ_32 hm, mw_32, mw_up32, xK_33 hm, xN_33 hm, xQ_33 hm, mw_33, mw_up33, xK_34 hm, xN_34 hm, xQ_34 hm, mw_34, mw_up34, xK_35 hm, xN_35 hm, xQ_35 hm, mw_35, mw_up35, xK_36 hm, xN_36 hm, xQ_36 hm, mw_36, mw_up36, xK_37 hm, xN_37 hm, xQ_37 hm, mw_37, mw_up37, nI_clamp (show c < 2 ^ 31 by omega), bd2 (show c < 2800 by omega) (show c < 2 ^ 31 by omega), nI_clamp (show c' < 2 ^ 31 by omega), bd2 (show c' < 2800 by omega) (show c' < 2 ^ 31 by omega), not_false_eq_true, y2, y3, y4, z2, z3, z4, x_place hm hw hk hf hL hc, x_place hm hw hk hf hL hc',
    nI_eq (show rk T.2.2.2.2.1 (T.2.2.2.2.2.2 d).1 (gp L c).2 < 2 ^ 31 by omega) (show rk T.2.2.2.2.1 (T.2.2.2.2.2.2 d).1 (gp L c').2 < 2 ^ 31 by omega), nI_leI (show rk T.2.2.2.2.1 (T.2.2.2.2.2.2 d).1 (gp L c).2 < 2 ^ 31 by omega) (show rk T.2.2.2.2.1 (T.2.2.2.2.2.2 d).1 (gp L c').2 < 2 ^ 31 by omega), nI_eq (show pl T L c < 2 ^ 31 by omega) (show pl T L c' < 2 ^ 31 by omega), nI_leI (show pl T L c' < 2 ^ 31 by omega) (show pl T L c < 2 ^ 31 by omega),
    nI_eq (show tE (tsO T.2.1) ((gp L c).1 + mI9 T.2.2.2.2.1 (gp L c).2 - 1) < 2 ^ 31 by omega) (show tE (tsO T.2.1) ((gp L c').1 + mI9 T.2.2.2.2.1 (gp L c').2 - 1) < 2 ^ 31 by omega), nI_leI (show tE (tsO T.2.1) ((gp L c).1 + mI9 T.2.2.2.2.1 (gp L c).2 - 1) < 2 ^ 31 by omega) (show tE (tsO T.2.1) ((gp L c').1 + mI9 T.2.2.2.2.1 (gp L c').2 - 1) < 2 ^ 31 by omega), nI_leI (show (gp L c').2 < 2 ^ 31 by omega) (show (gp L c).2 < 2 ^ 31 by omega)]
  have hpl : pl T L c = pl T L c' ↔ (gp L c).1 = (gp L c').1 := by
    unfold pl
    refine ⟨fun z => ?_, fun z => by rw [z]⟩
    apply Classical.byContradiction
    intro y
    rcases Nat.lt_or_gt_of_ne y with y | y
    · have := tF_lt y (show (gp L c').1 < (tsO T.2.1).length by omega); omega
    · have := tF_lt y (show (gp L c).1 < (tsO T.2.1).length by omega); omega
  have hple : pl T L c' ≤ pl T L c ↔ (gp L c').1 ≤ (gp L c).1 := by
    unfold pl
    refine ⟨fun z => ?_, fun z => ?_⟩
    · apply Classical.byContradiction
      intro y
      have := tF_lt (show (gp L c).1 < (gp L c').1 by omega) (show (gp L c').1 < (tsO T.2.1).length by omega); omega
    · rcases Nat.lt_or_eq_of_le z with y | y
      · exact Nat.le_of_lt (tF_lt y (by omega))
      · rw [y]; exact Nat.le_refl _
  have hEl : ∀ i j, i < (tsO T.2.1).length → j < (tsO T.2.1).length → (tE (tsO T.2.1) i ≤ tE (tsO T.2.1) j ↔ i ≤ j) := fun i j hi hj => by
    refine ⟨fun z => ?_, fun z => ?_⟩
    · apply Classical.byContradiction
      intro y
      have := tE_lt (show j < i by omega) hi
      omega
    · rcases Nat.lt_or_eq_of_le z with y | y
      · exact Nat.le_of_lt (tE_lt y hj)
      · rw [y]; exact Nat.le_refl _
  have hE1 := hEl ((gp L c).1 + mI9 T.2.2.2.2.1 (gp L c).2 - 1) ((gp L c').1 + mI9 T.2.2.2.2.1 (gp L c').2 - 1) (by omega) (by omega)
  have hE2 := hEl ((gp L c').1 + mI9 T.2.2.2.2.1 (gp L c').2 - 1) ((gp L c).1 + mI9 T.2.2.2.2.1 (gp L c).2 - 1) (by omega) (by omega)
  unfold ahT ah
  by_cases k1 : rk T.2.2.2.2.1 (T.2.2.2.2.2.2 d).1 (gp L c).2 = rk T.2.2.2.2.1 (T.2.2.2.2.2.2 d).1 (gp L c').2
  · rw [if_pos k1]
    by_cases k2 : pl T L c = pl T L c'
    · rw [if_pos k2]
      have k2' := hpl.mp k2
      by_cases k3 : tE (tsO T.2.1) ((gp L c).1 + mI9 T.2.2.2.2.1 (gp L c).2 - 1) = tE (tsO T.2.1) ((gp L c').1 + mI9 T.2.2.2.2.1 (gp L c').2 - 1)
      · rw [if_pos k3]
        by_cases k4 : (gp L c').2 ≤ (gp L c).2
        · rw [if_pos k4]; exact ⟨false, rfl, iff_of_false (by decide) (by omega)⟩
        · rw [if_neg k4]; exact ⟨true, rfl, iff_of_true rfl (by omega)⟩
      · rw [if_neg k3]
        by_cases k4 : tE (tsO T.2.1) ((gp L c).1 + mI9 T.2.2.2.2.1 (gp L c).2 - 1) ≤ tE (tsO T.2.1) ((gp L c').1 + mI9 T.2.2.2.2.1 (gp L c').2 - 1)
        · rw [if_pos k4]
          have := hE1.mp k4
          have : ¬ (gp L c').1 + mI9 T.2.2.2.2.1 (gp L c').2 - 1 ≤ (gp L c).1 + mI9 T.2.2.2.2.1 (gp L c).2 - 1 := fun z => k3 (Nat.le_antisymm k4 (hE2.mpr z))
          exact ⟨false, rfl, iff_of_false (by decide) (by omega)⟩
        · rw [if_neg k4]
          have : ¬ (gp L c).1 + mI9 T.2.2.2.2.1 (gp L c).2 - 1 ≤ (gp L c').1 + mI9 T.2.2.2.2.1 (gp L c').2 - 1 := fun z => k4 (hE1.mpr z)
          exact ⟨true, rfl, iff_of_true rfl (by omega)⟩
    · rw [if_neg k2]
      have k2' : ¬ (gp L c).1 = (gp L c').1 := fun z => k2 (hpl.mpr z)
      by_cases k4 : pl T L c' ≤ pl T L c
      · rw [if_pos k4]
        have := hple.mp k4
        exact ⟨false, rfl, iff_of_false (by decide) (by omega)⟩
      · rw [if_neg k4]
        have : ¬ (gp L c').1 ≤ (gp L c).1 := fun z => k4 (hple.mpr z)
        exact ⟨true, rfl, iff_of_true rfl (by omega)⟩
  · rw [if_neg k1]
    by_cases k4 : rk T.2.2.2.2.1 (T.2.2.2.2.2.2 d).1 (gp L c).2 ≤ rk T.2.2.2.2.1 (T.2.2.2.2.2.2 d).1 (gp L c').2
    · rw [if_pos k4]; exact ⟨false, rfl, iff_of_false (by decide) (by omega)⟩
    · rw [if_neg k4]; exact ⟨true, rfl, iff_of_true rfl (by omega)⟩
/-- what is taken: the places in L -/
def ga (is : List Nat) (i : Nat) : Nat := (is[i]?).getD 0
def mTa (G : Nat → Nat → Int32) (is : List Nat) : Prop := G 0 42 = nI is.length ∧ ∀ i, i < is.length → G 36 i = nI (ga is i)
theorem x_free (hm : mS S m) (hw : wf T) (hk : mTk G T.2.1) (hf : mFd G T.2.1 T.2.2.2.2.1 (T.2.2.2.2.2.2 d) L) (hL : okL T d L) {is : List Nat} (hi : mTa G is) (h160 : is.length ≤ 160) (his : ∀ i, i < is.length → ga is i < L.length) {c : Nat} (hc : c < L.length) : ∃ b : Bool, f_X10_isFree (sI S (mw I m G)) m (nI c) = some (bi b) ∧ (b = true ↔ ∀ i, i < is.length → ¬ ovT T L c (ga is i)) := by
  have hn := hL.1
  have ht := hw.2.1
  have p1 := hL.pe hw hc
  unfold f_X10_isFree
  simp only [lt]
  obtain ⟨z, e1, r, rfl, q⟩ := it_up (b := fun (v : Int32 × Int32) => f_X10_isFree_b4 m (nI c) (sI S (mw I m G)) v.1 v.2) is.length
    (P := fun k s => ∃ p : Bool, s = (bi p, nI k) ∧ (p = true ↔ ∀ i, i < k → ¬ ovT T L c (ga is i)))
    (Q := fun z => ∃ p : Bool, z = bi p ∧ (p = true ↔ ∀ i, i < is.length → ¬ ovT T L c (ga is i)))
    (fun k s hk1 ⟨p, e, hp⟩ => by
      subst e
      have hck := his k hk1
      have p2 := hL.pe hw hck
      have hap := hL.ap hw hc hck
      simp only
      unfold f_X10_isFree_b4
      have he1 : G 33 c = nI (en T L c) := (hf.2 c _ (gp_at hc)).2.1
      have he2 : G 33 (ga is k) = nI (en T L (ga is k)) := (hf.2 _ _ (gp_at hck)).2.1
      simp only [↓reduceIte, kK_sI, kQ_sI, kN_sI, kI_sI, wI_sI, Option.bind_some, lt, mw_0, mw_up0, xK_0 hm, xK_1 hm, xN_1 hm, xQ_1 hm, mw_1, mw_up1, xK_2 hm, xN_2 hm, xQ_2 hm, mw_2, mw_up2, xK_3 hm, xN_3 hm, xQ_3 hm, mw_3, mw_up3, xK_4 hm, xN_4 hm, xQ_4 hm, mw_4, mw_up4, xK_5 hm, xN_5 hm, xQ_5 hm, mw_5, mw_up5, xK_6 hm, xN_6 hm, xQ_6 hm, mw_6, mw_up6, xK_7 hm, xN_7 hm, xQ_7 hm, mw_7, mw_up7, xK_8 hm, xN_8 hm, xQ_8 hm, mw_8, mw_up8, xK_9 hm, xN_9 hm, xQ_9 hm, mw_9, mw_up9, xK_10 hm, xN_10 hm, xQ_10 hm, mw_10, mw_up10, xK_11 hm, xN_11 hm, xQ_11 hm, mw_11, mw_up11, xK_12 hm, xN_12 hm, xQ_12 hm, mw_12, mw_up12, xK_13 hm, xN_13 hm, xQ_13 hm, mw_13, mw_up13, xK_14 hm, xN_14 hm, xQ_14 hm, mw_14, mw_up14, xK_15 hm, xN_15 hm, xQ_15 hm, mw_15, mw_up15, xK_16 hm, xN_16 hm, xQ_16 hm, mw_16, mw_up16, xK_17 hm, xN_17 hm, xQ_17 hm, mw_17, mw_up17, xK_18 hm, xN_18 hm, xQ_18 hm, mw_18, mw_up18, xK_19 hm, xN_19 hm, xQ_19 hm, mw_19, mw_up19, xK_20 hm, xN_20 hm, xQ_20 hm, mw_20, mw_up20, xK_21 hm, xN_21 hm, xQ_21 hm, mw_21, mw_up21, xK_22 hm, xN_22 hm, xQ_22 hm, mw_22, mw_up22, xK_23 hm, xN_23 hm, xQ_23 hm, mw_23, mw_up23, xK_24 hm, xN_24 hm, xQ_24 hm, mw_24, mw_up24, xK_25 hm, xN_25 hm, xQ_25 hm, mw_25, mw_up25, xK_26 hm, xN_26 hm, xQ_26 hm, mw_26, mw_up26, xK_27 hm, xN_27 hm, xQ_27 hm, mw_27, mw_up27, xK_28 hm, xN_28 hm, xQ_28 hm, mw_28, mw_up28, xK_29 hm, xN_29 hm, xQ_29 hm, mw_29, mw_up29, xK_30 hm, xN_30 hm, xQ_30 hm, mw_30, mw_up30, xK_31 hm, xN_31 hm, xQ_31 hm, mw_31, mw_up31, xK_32 hm, xN_32 hm, xQ_32 hm, mw_32, mw_up32, xK_33 hm, xN_33 hm, xQ_33 hm, mw_33, mw_up33, xK_34 hm, xN_34 hm, xQ_34 hm, mw_34, mw_up34, xK_35 hm, xN_35 hm, xQ_35 hm, mw_35, mw_up35, xK_36 hm, xN_36 hm, xQ_36 hm, mw_36, mw_up36, xK_37 hm, xN_37 hm, xQ_37 hm, mw_37, mw_up37, hi.1, nI_leI (show is.length < 2 ^ 31 by omega) (show k < 2 ^ 31 by omega), if_neg (show ¬ is.length ≤ k by omega), bi_eq0, nI_clamp (show c < 2 ^ 31 by omega), bd2 (show c < 2800 by omega) (show c < 2 ^ 31 by omega), nI_clamp (show k < 2 ^ 31 by omega), bd2 (show k < 160 by omega) (show k < 2 ^ 31 by omega), not_false_eq_true, hi.2 k hk1, x_place hm hw hk hf hL hc, x_place hm hw hk hf hL hck, he1, he2, nI_leI (show en T L c < 2 ^ 31 by omega) (show pl T L (ga is k) < 2 ^ 31 by omega), nI_clamp (show ga is k < 2 ^ 31 by omega), bd2 (show ga is k < 2800 by omega) (show ga is k < 2 ^ 31 by omega), nI_ltI (show pl T L c < 2 ^ 31 by omega) (show en T L (ga is k) < 2 ^ 31 by omega), nI_1]
      have fin : ∀ b : Bool, (b = true ↔ p = true ∧ ¬ ovT T L c (ga is k)) → (b = true ↔ ∀ i, i < k + 1 → ¬ ovT T L c (ga is i)) := fun b hb => by
        rw [hb, hp]
        refine ⟨fun z i hi => ?_, fun z => ⟨fun i hi => z i (by omega), z k (by omega)⟩⟩
        by_cases e : i = k
        · rw [e]; exact z.2
        · exact z.1 i (by omega)
      cases p with
      | false => exact Or.inl ⟨_, rfl, false, rfl, fin false (by simp)⟩
      | true =>
        simp only [Bool.true_eq_false, if_false]
        by_cases k1 : en T L c ≤ pl T L (ga is k)
        · rw [if_pos k1]
          exact Or.inl ⟨_, rfl, true, rfl, fin true (iff_of_true rfl ⟨rfl, hap.mp (Or.inl k1)⟩)⟩
        · rw [if_neg k1]
          by_cases k2 : pl T L c < en T L (ga is k)
          · rw [if_pos k2]
            exact Or.inl ⟨_, rfl, false, rfl, fin false (iff_of_false (by decide) (fun z => by have := hap.mpr z.2; omega))⟩
          · rw [if_neg k2]
            exact Or.inl ⟨_, rfl, true, rfl, fin true (iff_of_true rfl ⟨rfl, hap.mp (Or.inr (by omega))⟩)⟩)
    (fun s ⟨p, e, hp⟩ => by
      subst e
      refine ⟨_, ?_, p, rfl, hp⟩
      simp only
      unfold f_X10_isFree_b4
      simp only [↓reduceIte, kK_sI, kQ_sI, kN_sI, kI_sI, wI_sI, Option.bind_some, lt, mw_0, mw_up0, xK_0 hm, xK_1 hm, xN_1 hm, xQ_1 hm, mw_1, mw_up1, xK_2 hm, xN_2 hm, xQ_2 hm, mw_2, mw_up2, xK_3 hm, xN_3 hm, xQ_3 hm, mw_3, mw_up3, xK_4 hm, xN_4 hm, xQ_4 hm, mw_4, mw_up4, xK_5 hm, xN_5 hm, xQ_5 hm, mw_5, mw_up5, xK_6 hm, xN_6 hm, xQ_6 hm, mw_6, mw_up6, xK_7 hm, xN_7 hm, xQ_7 hm, mw_7, mw_up7, xK_8 hm, xN_8 hm, xQ_8 hm, mw_8, mw_up8, xK_9 hm, xN_9 hm, xQ_9 hm, mw_9, mw_up9, xK_10 hm, xN_10 hm, xQ_10 hm, mw_10, mw_up10, xK_11 hm, xN_11 hm, xQ_11 hm, mw_11, mw_up11, xK_12 hm, xN_12 hm, xQ_12 hm, mw_12, mw_up12, xK_13 hm, xN_13 hm, xQ_13 hm, mw_13, mw_up13, xK_14 hm, xN_14 hm, xQ_14 hm, mw_14, mw_up14, xK_15 hm, xN_15 hm, xQ_15 hm, mw_15, mw_up15, xK_16 hm, xN_16 hm, xQ_16 hm, mw_16, mw_up16, xK_17 hm, xN_17 hm, xQ_17 hm, mw_17, mw_up17, xK_18 hm, xN_18 hm, xQ_18 hm, mw_18, mw_up18, xK_19 hm, xN_19 hm, xQ_19 hm, mw_19, mw_up19, xK_20 hm, xN_20 hm, xQ_20 hm, mw_20, mw_up20, xK_21 hm, xN_21 hm, xQ_21 hm, mw_21, mw_up21, xK_22 hm, xN_22 hm, xQ_22 hm, mw_22, mw_up22, xK_23 hm, xN_23 hm, xQ_23 hm, mw_23, mw_up23, xK_24 hm, xN_24 hm, xQ_24 hm, mw_24, mw_up24, xK_25 hm, xN_25 hm, xQ_25 hm, mw_25, mw_up25, xK_26 hm, xN_26 hm, xQ_26 hm, mw_26, mw_up26, xK_27 hm, xN_27 hm, xQ_27 hm, mw_27, mw_up27, xK_28 hm, xN_28 hm, xQ_28 hm, mw_28, mw_up28, xK_29 hm, xN_29 hm, xQ_29 hm, mw_29, mw_up29, xK_30 hm, xN_30 hm, xQ_30 hm, mw_30, mw_up30, xK_31 hm, xN_31 hm, xQ_31 hm, mw_31, mw_up31, xK_32 hm, xN_32 hm, xQ_32 hm, mw_32, mw_up32, xK_33 hm, xN_33 hm, xQ_33 hm, mw_33, mw_up33, xK_34 hm, xN_34 hm, xQ_34 hm, mw_34, mw_up34, xK_35 hm, xN_35 hm, xQ_35 hm, mw_35, mw_up35, xK_36 hm, xN_36 hm, xQ_36 hm, mw_36, mw_up36, xK_37 hm, xN_37 hm, xQ_37 hm, mw_37, mw_up37, hi.1, nI_leI (show is.length < 2 ^ 31 by omega) (show is.length < 2 ^ 31 by omega), Nat.le_refl])
    0 (1, 0) ⟨true, rfl, iff_of_true rfl (fun i hi => absurd hi (by omega))⟩ (Nat.zero_le _) kF (by unfold kF; omega)
  rw [e1]
  simp only [Option.bind_some]
  rw [if_pos (by cases r <;> decide)]
  exact ⟨r, rfl, q⟩
end
