/-! the model's desks -/
section
variable {S : PS} {I G : Nat → Nat → Int32} {m : Nat} {T : St}
theorem mT.ds (h : mT G T) {d : Nat} {k : Dk} {G' : Nat → Nat → Int32} (h1 : ∀ c j, (c < 19 ∨ 25 < c) → ¬ (c = 0 ∧ j = 0) → G' c j = G c j) (hk : mDk G' d k) (hr : ∀ e, e < 4 → e ≠ d → mDk G' e (T.2.2.2.2.2.2 e)) : mT G' (uDs T d k) := by
  obtain ⟨a1, a2, a3, a4, a5, a6⟩ := h
  have hh : ∀ c j, (c < 19 ∨ 25 < c) → c ≠ 0 → G' c j = G c j := fun c j hc h0 => h1 c j hc (fun z => h0 z.1)
  refine ⟨⟨(h1 _ _ (by decide) (by decide)).trans a1.1, fun j hj => (hh _ _ (by decide) (by decide)).trans (a1.2 j hj)⟩, a2.ext (h1 _ _ (by decide) (by decide)) (fun j => hh _ _ (by decide) (by decide)) (fun j => hh _ _ (by decide) (by decide)), a3.ext (fun j => hh _ _ (by decide) (by decide)), a4.ext (fun k h3 h4 j => hh _ _ (by omega) (by omega)) (h1 _ _ (by decide) (by decide)), a5.ext (fun k h3 h4 j => hh _ _ (by omega) (by omega)) (h1 _ _ (by decide) (by decide)), fun e he => ?_⟩
  show mDk G' e (if e = d then k else _)
  by_cases e9 : e = d
  · rw [if_pos e9, e9]; exact hk
  · rw [if_neg e9]; exact hr e he e9
theorem mx_paragraphs (hm : mS S m) (hG : mT G T) (hw : wf T) : ∃ G', f_X10_paragraphs (sI S (mw I m G)) m = some (sI S (mw I m G'), nI (slN T.2.1 T.2.1.length + 1)) ∧ G' 0 0 = 0 ∧ mT G' T := by
  unfold f_X10_paragraphs
  simp only [kK_sI, kQ_sI, kN_sI, kI_sI, wI_sI, Option.bind_some, lt, mw_0, mw_up0, xK_0 hm, xK_1 hm, xN_1 hm, xQ_1 hm, mw_1, mw_up1, xK_2 hm, xN_2 hm, xQ_2 hm, mw_2, mw_up2, xK_3 hm, xN_3 hm, xQ_3 hm, mw_3, mw_up3, xK_4 hm, xN_4 hm, xQ_4 hm, mw_4, mw_up4, xK_5 hm, xN_5 hm, xQ_5 hm, mw_5, mw_up5, xK_6 hm, xN_6 hm, xQ_6 hm, mw_6, mw_up6, xK_7 hm, xN_7 hm, xQ_7 hm, mw_7, mw_up7, xK_8 hm, xN_8 hm, xQ_8 hm, mw_8, mw_up8, xK_9 hm, xN_9 hm, xQ_9 hm, mw_9, mw_up9, xK_10 hm, xN_10 hm, xQ_10 hm, mw_10, mw_up10, xK_11 hm, xN_11 hm, xQ_11 hm, mw_11, mw_up11, xK_12 hm, xN_12 hm, xQ_12 hm, mw_12, mw_up12, xK_13 hm, xN_13 hm, xQ_13 hm, mw_13, mw_up13, xK_14 hm, xN_14 hm, xQ_14 hm, mw_14, mw_up14, xK_15 hm, xN_15 hm, xQ_15 hm, mw_15, mw_up15, xK_16 hm, xN_16 hm, xQ_16 hm, mw_16, mw_up16, xK_17 hm, xN_17 hm, xQ_17 hm, mw_17, mw_up17, xK_18 hm, xN_18 hm, xQ_18 hm, mw_18, mw_up18, xK_19 hm, xN_19 hm, xQ_19 hm, mw_19, mw_up19, xK_20 hm, xN_20 hm, xQ_20 hm, mw_20, mw_up20, xK_21 hm, xN_21 hm, xQ_21 hm, mw_21, mw_up21, xK_22 hm, xN_22 hm, xQ_22 hm, mw_22, mw_up22, xK_23 hm, xN_23 hm, xQ_23 hm, mw_23, mw_up23, xK_24 hm, xN_24 hm, xQ_24 hm, mw_24, mw_up24, xK_25 hm, xN_25 hm, xQ_25 hm, mw_25, mw_up25, xK_26 hm, xN_26 hm, xQ_26 hm, mw_26, mw_up26, xK_27 hm, xN_27 hm, xQ_27 hm, mw_27, mw_up27, xK_28 hm, xN_28 hm, xQ_28 hm, mw_28, mw_up28, xK_29 hm, xN_29 hm, xQ_29 hm, mw_29, mw_up29, xK_30 hm, xN_30 hm, xQ_30 hm, mw_30, mw_up30, xK_31 hm, xN_31 hm, xQ_31 hm, mw_31, mw_up31, xK_32 hm, xN_32 hm, xQ_32 hm, mw_32, mw_up32, xK_33 hm, xN_33 hm, xQ_33 hm, mw_33, mw_up33, xK_34 hm, xN_34 hm, xQ_34 hm, mw_34, mw_up34, xK_35 hm, xN_35 hm, xQ_35 hm, mw_35, mw_up35, xK_36 hm, xN_36 hm, xQ_36 hm, mw_36, mw_up36, xK_37 hm, xN_37 hm, xQ_37 hm, mw_37, mw_up37, if_true, x_paras hm (hG.th 0).2.1 hw.2.1]
  exact ⟨_, rfl, uF_eq _ _ _ _, hG.th 0⟩
theorem mx_ignored (hm : mS S m) (hG : mT G T) (p : Int32) : mZ S I m T (fun _ => 1) 0 (f_X10_ignored (sI S (mw I m G)) m p) (a_ignored T p) := by
  unfold f_X10_ignored a_ignored
  simp only [x_noDesk hm, kK_sI, kQ_sI, kN_sI, kI_sI, wI_sI, Option.bind_some, lt, mw_0, mw_up0, xK_0 hm, xK_1 hm, xN_1 hm, xQ_1 hm, mw_1, mw_up1, xK_2 hm, xN_2 hm, xQ_2 hm, mw_2, mw_up2, xK_3 hm, xN_3 hm, xQ_3 hm, mw_3, mw_up3, xK_4 hm, xN_4 hm, xQ_4 hm, mw_4, mw_up4, xK_5 hm, xN_5 hm, xQ_5 hm, mw_5, mw_up5, xK_6 hm, xN_6 hm, xQ_6 hm, mw_6, mw_up6, xK_7 hm, xN_7 hm, xQ_7 hm, mw_7, mw_up7, xK_8 hm, xN_8 hm, xQ_8 hm, mw_8, mw_up8, xK_9 hm, xN_9 hm, xQ_9 hm, mw_9, mw_up9, xK_10 hm, xN_10 hm, xQ_10 hm, mw_10, mw_up10, xK_11 hm, xN_11 hm, xQ_11 hm, mw_11, mw_up11, xK_12 hm, xN_12 hm, xQ_12 hm, mw_12, mw_up12, xK_13 hm, xN_13 hm, xQ_13 hm, mw_13, mw_up13, xK_14 hm, xN_14 hm, xQ_14 hm, mw_14, mw_up14, xK_15 hm, xN_15 hm, xQ_15 hm, mw_15, mw_up15, xK_16 hm, xN_16 hm, xQ_16 hm, mw_16, mw_up16, xK_17 hm, xN_17 hm, xQ_17 hm, mw_17, mw_up17, xK_18 hm, xN_18 hm, xQ_18 hm, mw_18, mw_up18, xK_19 hm, xN_19 hm, xQ_19 hm, mw_19, mw_up19, xK_20 hm, xN_20 hm, xQ_20 hm, mw_20, mw_up20, xK_21 hm, xN_21 hm, xQ_21 hm, mw_21, mw_up21, xK_22 hm, xN_22 hm, xQ_22 hm, mw_22, mw_up22, xK_23 hm, xN_23 hm, xQ_23 hm, mw_23, mw_up23, xK_24 hm, xN_24 hm, xQ_24 hm, mw_24, mw_up24, xK_25 hm, xN_25 hm, xQ_25 hm, mw_25, mw_up25, xK_26 hm, xN_26 hm, xQ_26 hm, mw_26, mw_up26, xK_27 hm, xN_27 hm, xQ_27 hm, mw_27, mw_up27, xK_28 hm, xN_28 hm, xQ_28 hm, mw_28, mw_up28, xK_29 hm, xN_29 hm, xQ_29 hm, mw_29, mw_up29, xK_30 hm, xN_30 hm, xQ_30 hm, mw_30, mw_up30, xK_31 hm, xN_31 hm, xQ_31 hm, mw_31, mw_up31, xK_32 hm, xN_32 hm, xQ_32 hm, mw_32, mw_up32, xK_33 hm, xN_33 hm, xQ_33 hm, mw_33, mw_up33, xK_34 hm, xN_34 hm, xQ_34 hm, mw_34, mw_up34, xK_35 hm, xN_35 hm, xQ_35 hm, mw_35, mw_up35, xK_36 hm, xN_36 hm, xQ_36 hm, mw_36, mw_up36, xK_37 hm, xN_37 hm, xQ_37 hm, mw_37, mw_up37, if_true]
  cases hp : ix p 4 with
  | none =>
    simp only [Option.isSome_none, Bool.not_false, show ¬ bi true = 0 by decide, if_false]
    exact ⟨_, rfl, uF_eq _ _ _ _, hG.th _⟩
  | some d =>
    obtain ⟨hd, rfl⟩ := ix_some (by decide) hp
    simp only [Option.isSome_some, Bool.not_true, show bi false = 0 by decide, if_true, bd2 hd (show d < 2 ^ 31 by omega), nI_clamp (show d < 2 ^ 31 by omega), not_false_eq_true]
    exact ⟨_, by rw [uF_ne (Or.inl (by decide)), (hG.2.2.2.2.2 d hd).2.2.2.1], uF_eq _ _ _ _, hG.th _⟩
theorem mx_heed (hm : mS S m) (hG : mT G T) (p : Int32) : mZ S I m T (fun _ => 1) 0 (f_X10_heed (sI S (mw I m G)) m p) (a_heed T p) := by
  unfold f_X10_heed a_heed
  simp only [x_noDesk hm, kK_sI, kQ_sI, kN_sI, kI_sI, wI_sI, Option.bind_some, lt, mw_0, mw_up0, xK_0 hm, xK_1 hm, xN_1 hm, xQ_1 hm, mw_1, mw_up1, xK_2 hm, xN_2 hm, xQ_2 hm, mw_2, mw_up2, xK_3 hm, xN_3 hm, xQ_3 hm, mw_3, mw_up3, xK_4 hm, xN_4 hm, xQ_4 hm, mw_4, mw_up4, xK_5 hm, xN_5 hm, xQ_5 hm, mw_5, mw_up5, xK_6 hm, xN_6 hm, xQ_6 hm, mw_6, mw_up6, xK_7 hm, xN_7 hm, xQ_7 hm, mw_7, mw_up7, xK_8 hm, xN_8 hm, xQ_8 hm, mw_8, mw_up8, xK_9 hm, xN_9 hm, xQ_9 hm, mw_9, mw_up9, xK_10 hm, xN_10 hm, xQ_10 hm, mw_10, mw_up10, xK_11 hm, xN_11 hm, xQ_11 hm, mw_11, mw_up11, xK_12 hm, xN_12 hm, xQ_12 hm, mw_12, mw_up12, xK_13 hm, xN_13 hm, xQ_13 hm, mw_13, mw_up13, xK_14 hm, xN_14 hm, xQ_14 hm, mw_14, mw_up14, xK_15 hm, xN_15 hm, xQ_15 hm, mw_15, mw_up15, xK_16 hm, xN_16 hm, xQ_16 hm, mw_16, mw_up16, xK_17 hm, xN_17 hm, xQ_17 hm, mw_17, mw_up17, xK_18 hm, xN_18 hm, xQ_18 hm, mw_18, mw_up18, xK_19 hm, xN_19 hm, xQ_19 hm, mw_19, mw_up19, xK_20 hm, xN_20 hm, xQ_20 hm, mw_20, mw_up20, xK_21 hm, xN_21 hm, xQ_21 hm, mw_21, mw_up21, xK_22 hm, xN_22 hm, xQ_22 hm, mw_22, mw_up22, xK_23 hm, xN_23 hm, xQ_23 hm, mw_23, mw_up23, xK_24 hm, xN_24 hm, xQ_24 hm, mw_24, mw_up24, xK_25 hm, xN_25 hm, xQ_25 hm, mw_25, mw_up25, xK_26 hm, xN_26 hm, xQ_26 hm, mw_26, mw_up26, xK_27 hm, xN_27 hm, xQ_27 hm, mw_27, mw_up27, xK_28 hm, xN_28 hm, xQ_28 hm, mw_28, mw_up28, xK_29 hm, xN_29 hm, xQ_29 hm, mw_29, mw_up29, xK_30 hm, xN_30 hm, xQ_30 hm, mw_30, mw_up30, xK_31 hm, xN_31 hm, xQ_31 hm, mw_31, mw_up31, xK_32 hm, xN_32 hm, xQ_32 hm, mw_32, mw_up32, xK_33 hm, xN_33 hm, xQ_33 hm, mw_33, mw_up33, xK_34 hm, xN_34 hm, xQ_34 hm, mw_34, mw_up34, xK_35 hm, xN_35 hm, xQ_35 hm, mw_35, mw_up35, xK_36 hm, xN_36 hm, xQ_36 hm, mw_36, mw_up36, xK_37 hm, xN_37 hm, xQ_37 hm, mw_37, mw_up37, if_true]
  cases hp : ix p 4 with
  | none =>
    simp only [Option.isSome_none, Bool.not_false, show ¬ bi true = 0 by decide, if_false]
    exact ⟨_, rfl, uF_eq _ _ _ _, hG.th _⟩
  | some d =>
    obtain ⟨hd, rfl⟩ := ix_some (by decide) hp
    simp only [Option.isSome_some, Bool.not_true, show bi false = 0 by decide, if_true, bd2 hd (show d < 2 ^ 31 by omega), nI_clamp (show d < 2 ^ 31 by omega), not_false_eq_true]
    refine ⟨_, by rw [uF_ne (Or.inl (by decide)), (hG.2.2.2.2.2 d hd).2.2.2.1], by rw [uF_ne (Or.inl (by decide)), uF_eq], ?_⟩
    have h1 : ∀ c j, c ≠ 22 → ¬ (c = 0 ∧ j = 0) → uF (uF G 0 0 0) 22 d 0 c j = G c j := fun c j h1 h2 => by rw [uF_ne (Or.inl h1), uF_ne (by omega)]
    obtain ⟨b1, b2, b3, b4, b5⟩ := hG.2.2.2.2.2 d hd
    refine hG.ds (fun c j hc h0 => h1 c j (by omega) h0) ⟨fun r hr => (h1 _ _ (by decide) (by omega)).trans (b1 r hr), fun r v hv => (h1 _ _ (by decide) (by omega)).trans (b2 r v hv), (h1 _ _ (by decide) (by omega)).trans b3, uF_eq _ _ _ _, fun i g hg => by simp [uG] at hg⟩ (fun e he hne => ?_)
    obtain ⟨b1, b2, b3, b4, b5⟩ := hG.2.2.2.2.2 e he
    exact ⟨fun r hr => (h1 _ _ (by decide) (by omega)).trans (b1 r hr), fun r v hv => (h1 _ _ (by decide) (by omega)).trans (b2 r v hv), (h1 _ _ (by decide) (by omega)).trans b3, by rw [uF_ne (Or.inr hne), uF_ne (Or.inl (by decide))]; exact b4, fun i g hg => ⟨(h1 _ _ (by decide) (by omega)).trans (b5 i g hg).1, (h1 _ _ (by decide) (by omega)).trans (b5 i g hg).2.1, (h1 _ _ (by decide) (by omega)).trans (b5 i g hg).2.2⟩⟩
theorem mx_check (hm : mS S m) (hG : mT G T) (hw : wf T) (p : Int32) : mZ S I m T (fun _ => 1) 0 (f_X10_check (sI S (mw I m G)) m p) (a_check T p) := by
  unfold f_X10_check a_check
  simp only [x_noDesk hm, kK_sI, kQ_sI, kN_sI, kI_sI, wI_sI, Option.bind_some, lt, mw_0, mw_up0, xK_0 hm, xK_1 hm, xN_1 hm, xQ_1 hm, mw_1, mw_up1, xK_2 hm, xN_2 hm, xQ_2 hm, mw_2, mw_up2, xK_3 hm, xN_3 hm, xQ_3 hm, mw_3, mw_up3, xK_4 hm, xN_4 hm, xQ_4 hm, mw_4, mw_up4, xK_5 hm, xN_5 hm, xQ_5 hm, mw_5, mw_up5, xK_6 hm, xN_6 hm, xQ_6 hm, mw_6, mw_up6, xK_7 hm, xN_7 hm, xQ_7 hm, mw_7, mw_up7, xK_8 hm, xN_8 hm, xQ_8 hm, mw_8, mw_up8, xK_9 hm, xN_9 hm, xQ_9 hm, mw_9, mw_up9, xK_10 hm, xN_10 hm, xQ_10 hm, mw_10, mw_up10, xK_11 hm, xN_11 hm, xQ_11 hm, mw_11, mw_up11, xK_12 hm, xN_12 hm, xQ_12 hm, mw_12, mw_up12, xK_13 hm, xN_13 hm, xQ_13 hm, mw_13, mw_up13, xK_14 hm, xN_14 hm, xQ_14 hm, mw_14, mw_up14, xK_15 hm, xN_15 hm, xQ_15 hm, mw_15, mw_up15, xK_16 hm, xN_16 hm, xQ_16 hm, mw_16, mw_up16, xK_17 hm, xN_17 hm, xQ_17 hm, mw_17, mw_up17, xK_18 hm, xN_18 hm, xQ_18 hm, mw_18, mw_up18, xK_19 hm, xN_19 hm, xQ_19 hm, mw_19, mw_up19, xK_20 hm, xN_20 hm, xQ_20 hm, mw_20, mw_up20, xK_21 hm, xN_21 hm, xQ_21 hm, mw_21, mw_up21, xK_22 hm, xN_22 hm, xQ_22 hm, mw_22, mw_up22, xK_23 hm, xN_23 hm, xQ_23 hm, mw_23, mw_up23, xK_24 hm, xN_24 hm, xQ_24 hm, mw_24, mw_up24, xK_25 hm, xN_25 hm, xQ_25 hm, mw_25, mw_up25, xK_26 hm, xN_26 hm, xQ_26 hm, mw_26, mw_up26, xK_27 hm, xN_27 hm, xQ_27 hm, mw_27, mw_up27, xK_28 hm, xN_28 hm, xQ_28 hm, mw_28, mw_up28, xK_29 hm, xN_29 hm, xQ_29 hm, mw_29, mw_up29, xK_30 hm, xN_30 hm, xQ_30 hm, mw_30, mw_up30, xK_31 hm, xN_31 hm, xQ_31 hm, mw_31, mw_up31, xK_32 hm, xN_32 hm, xQ_32 hm, mw_32, mw_up32, xK_33 hm, xN_33 hm, xQ_33 hm, mw_33, mw_up33, xK_34 hm, xN_34 hm, xQ_34 hm, mw_34, mw_up34, xK_35 hm, xN_35 hm, xQ_35 hm, mw_35, mw_up35, xK_36 hm, xN_36 hm, xQ_36 hm, mw_36, mw_up36, xK_37 hm, xN_37 hm, xQ_37 hm, mw_37, mw_up37, if_true]
  cases hp : ix p 4 with
  | none =>
    simp only [Option.isSome_none, Bool.not_false, show ¬ bi true = 0 by decide, if_false]
    exact ⟨_, rfl, uF_eq _ _ _ _, hG.th _⟩
  | some d =>
    obtain ⟨hd, rfl⟩ := ix_some (by decide) hp
    simp only [Option.isSome_some, Bool.not_true, show bi false = 0 by decide, if_true]
    have h160 := hw.2.1
    have hn := hw.2.2.2.2.2.1
    have hs := slN_le T.2.1 T.2.1.length
    have mk3 := hG.2.2.1
    generalize hmk : T.2.2.2.1 = mks at hn mk3
    obtain ⟨z, e1, G', rfl, h1, h2, h3⟩ := it_up (b := fun (v : Int32 × Int32 × PS) => f_X10_check_b14 m (nI d) v.1 v.2.1 v.2.2) mks.length
      (P := fun i z => ∃ G', z = (nI ((mks.take i).countP (fun v => tb v d)), nI i, sI S (mw I m G')) ∧ (∀ k j, k ≠ 26 → ¬ (k = 0 ∧ j = 0) → G' k j = G k j) ∧ (∀ j, G' 26 j = if d * 161 ≤ j ∧ j < d * 161 + i then 0 else G 26 j) ∧ G' 0 0 = 0)
      (Q := fun z => ∃ G', z = (nI (mks.countP (fun v => tb v d)), sI S (mw I m G')) ∧ (∀ k j, k ≠ 26 → ¬ (k = 0 ∧ j = 0) → G' k j = G k j) ∧ (∀ j, G' 26 j = if d * 161 ≤ j ∧ j < d * 161 + mks.length then 0 else G 26 j) ∧ G' 0 0 = 0)
      (fun i z hi ⟨G', e, h1, h2, h3⟩ => by
        subst e
        have hx' : mTx G' T.2.1 T.2.2.1 := hG.2.1.ext (h1 _ _ (by decide) (by decide)) (fun j => h1 _ _ (by decide) (by omega)) (fun j => h1 _ _ (by decide) (by omega))
        have hc := List.countP_le_length (l := mks.take i) (p := fun v => tb v d)
        have hv : G' 26 (d * 161 + i) = bi (tb (la mks i) d) := by rw [h2, if_neg (by omega)]; exact mk3 d hd i hi
        refine Or.inl ⟨(nI ((mks.take (i + 1)).countP (fun v => tb v d)), nI (i + 1), sI S (mw I m (uF G' 26 (d * 161 + i) 0))), ?_, _, rfl, fun k j hk h0 => (uF_ne (Or.inl hk)).trans (h1 k j hk h0), fun j => ?_, by rw [uF_ne (Or.inl (by decide))]; exact h3⟩
        · unfold f_X10_check_b14
          simp only [x_paras hm hx' h160, kK_sI, kQ_sI, kN_sI, kI_sI, wI_sI, Option.bind_some, lt, mw_0, mw_up0, xK_0 hm, xK_1 hm, xN_1 hm, xQ_1 hm, mw_1, mw_up1, xK_2 hm, xN_2 hm, xQ_2 hm, mw_2, mw_up2, xK_3 hm, xN_3 hm, xQ_3 hm, mw_3, mw_up3, xK_4 hm, xN_4 hm, xQ_4 hm, mw_4, mw_up4, xK_5 hm, xN_5 hm, xQ_5 hm, mw_5, mw_up5, xK_6 hm, xN_6 hm, xQ_6 hm, mw_6, mw_up6, xK_7 hm, xN_7 hm, xQ_7 hm, mw_7, mw_up7, xK_8 hm, xN_8 hm, xQ_8 hm, mw_8, mw_up8, xK_9 hm, xN_9 hm, xQ_9 hm, mw_9, mw_up9, xK_10 hm, xN_10 hm, xQ_10 hm, mw_10, mw_up10, xK_11 hm, xN_11 hm, xQ_11 hm, mw_11, mw_up11, xK_12 hm, xN_12 hm, xQ_12 hm, mw_12, mw_up12, xK_13 hm, xN_13 hm, xQ_13 hm, mw_13, mw_up13, xK_14 hm, xN_14 hm, xQ_14 hm, mw_14, mw_up14, xK_15 hm, xN_15 hm, xQ_15 hm, mw_15, mw_up15, xK_16 hm, xN_16 hm, xQ_16 hm, mw_16, mw_up16, xK_17 hm, xN_17 hm, xQ_17 hm, mw_17, mw_up17, xK_18 hm, xN_18 hm, xQ_18 hm, mw_18, mw_up18, xK_19 hm, xN_19 hm, xQ_19 hm, mw_19, mw_up19, xK_20 hm, xN_20 hm, xQ_20 hm, mw_20, mw_up20, xK_21 hm, xN_21 hm, xQ_21 hm, mw_21, mw_up21, xK_22 hm, xN_22 hm, xQ_22 hm, mw_22, mw_up22, xK_23 hm, xN_23 hm, xQ_23 hm, mw_23, mw_up23, xK_24 hm, xN_24 hm, xQ_24 hm, mw_24, mw_up24, xK_25 hm, xN_25 hm, xQ_25 hm, mw_25, mw_up25, xK_26 hm, xN_26 hm, xQ_26 hm, mw_26, mw_up26, xK_27 hm, xN_27 hm, xQ_27 hm, mw_27, mw_up27, xK_28 hm, xN_28 hm, xQ_28 hm, mw_28, mw_up28, xK_29 hm, xN_29 hm, xQ_29 hm, mw_29, mw_up29, xK_30 hm, xN_30 hm, xQ_30 hm, mw_30, mw_up30, xK_31 hm, xN_31 hm, xQ_31 hm, mw_31, mw_up31, xK_32 hm, xN_32 hm, xQ_32 hm, mw_32, mw_up32, xK_33 hm, xN_33 hm, xQ_33 hm, mw_33, mw_up33, xK_34 hm, xN_34 hm, xQ_34 hm, mw_34, mw_up34, xK_35 hm, xN_35 hm, xQ_35 hm, mw_35, mw_up35, xK_36 hm, xN_36 hm, xQ_36 hm, mw_36, mw_up36, xK_37 hm, xN_37 hm, xQ_37 hm, mw_37, mw_up37, if_true, nI_leI (show slN T.2.1 T.2.1.length + 1 < 2 ^ 31 by omega) (show i < 2 ^ 31 by omega), if_neg (show ¬ slN T.2.1 T.2.1.length + 1 ≤ i by omega), x_mul161, nI_add, nI_clamp (show d * 161 + i < 2 ^ 31 by omega), bd2 (show d * 161 + i < 644 by omega) (show d * 161 + i < 2 ^ 31 by omega), not_false_eq_true, nI_1, show vp_nar .boolean 0 = 0 by decide, hv, bi_eq0]
          rw [List.take_succ_eq_append_getElem hi, List.countP_append, ← la_lt hi]
          have hk : List.countP (fun v => tb v d) [la mks i] = if tb (la mks i) d = true then 1 else 0 := by simp [List.countP_cons]
          rw [hk]
          cases ht : tb (la mks i) d with
          | true => simp only [Bool.true_eq_false, if_false, if_true, nI_1]
          | false => simp only [Bool.false_eq_true, if_false, if_true, show ∀ a, nI a + 0 = nI a from fun a => nI_add a 0, Nat.add_zero]
        · rw [uF_at, h2]
          by_cases e : j = d * 161 + i
          · rw [if_pos ⟨rfl, e⟩, if_pos (by omega)]
          · rw [if_neg (fun z => e z.2)]
            by_cases e2 : d * 161 ≤ j ∧ j < d * 161 + i
            · rw [if_pos e2, if_pos (by omega)]
            · rw [if_neg e2, if_neg (by omega)])
      (fun z ⟨G', e, h1, h2, h3⟩ => by
        subst e
        have hx' : mTx G' T.2.1 T.2.2.1 := hG.2.1.ext (h1 _ _ (by decide) (by decide)) (fun j => h1 _ _ (by decide) (by omega)) (fun j => h1 _ _ (by decide) (by omega))
        refine ⟨_, ?_, G', rfl, h1, h2, h3⟩
        unfold f_X10_check_b14
        simp only [x_paras hm hx' h160, kK_sI, kQ_sI, kN_sI, kI_sI, wI_sI, Option.bind_some, lt, mw_0, mw_up0, xK_0 hm, xK_1 hm, xN_1 hm, xQ_1 hm, mw_1, mw_up1, xK_2 hm, xN_2 hm, xQ_2 hm, mw_2, mw_up2, xK_3 hm, xN_3 hm, xQ_3 hm, mw_3, mw_up3, xK_4 hm, xN_4 hm, xQ_4 hm, mw_4, mw_up4, xK_5 hm, xN_5 hm, xQ_5 hm, mw_5, mw_up5, xK_6 hm, xN_6 hm, xQ_6 hm, mw_6, mw_up6, xK_7 hm, xN_7 hm, xQ_7 hm, mw_7, mw_up7, xK_8 hm, xN_8 hm, xQ_8 hm, mw_8, mw_up8, xK_9 hm, xN_9 hm, xQ_9 hm, mw_9, mw_up9, xK_10 hm, xN_10 hm, xQ_10 hm, mw_10, mw_up10, xK_11 hm, xN_11 hm, xQ_11 hm, mw_11, mw_up11, xK_12 hm, xN_12 hm, xQ_12 hm, mw_12, mw_up12, xK_13 hm, xN_13 hm, xQ_13 hm, mw_13, mw_up13, xK_14 hm, xN_14 hm, xQ_14 hm, mw_14, mw_up14, xK_15 hm, xN_15 hm, xQ_15 hm, mw_15, mw_up15, xK_16 hm, xN_16 hm, xQ_16 hm, mw_16, mw_up16, xK_17 hm, xN_17 hm, xQ_17 hm, mw_17, mw_up17, xK_18 hm, xN_18 hm, xQ_18 hm, mw_18, mw_up18, xK_19 hm, xN_19 hm, xQ_19 hm, mw_19, mw_up19, xK_20 hm, xN_20 hm, xQ_20 hm, mw_20, mw_up20, xK_21 hm, xN_21 hm, xQ_21 hm, mw_21, mw_up21, xK_22 hm, xN_22 hm, xQ_22 hm, mw_22, mw_up22, xK_23 hm, xN_23 hm, xQ_23 hm, mw_23, mw_up23, xK_24 hm, xN_24 hm, xQ_24 hm, mw_24, mw_up24, xK_25 hm, xN_25 hm, xQ_25 hm, mw_25, mw_up25, xK_26 hm, xN_26 hm, xQ_26 hm, mw_26, mw_up26, xK_27 hm, xN_27 hm, xQ_27 hm, mw_27, mw_up27, xK_28 hm, xN_28 hm, xQ_28 hm, mw_28, mw_up28, xK_29 hm, xN_29 hm, xQ_29 hm, mw_29, mw_up29, xK_30 hm, xN_30 hm, xQ_30 hm, mw_30, mw_up30, xK_31 hm, xN_31 hm, xQ_31 hm, mw_31, mw_up31, xK_32 hm, xN_32 hm, xQ_32 hm, mw_32, mw_up32, xK_33 hm, xN_33 hm, xQ_33 hm, mw_33, mw_up33, xK_34 hm, xN_34 hm, xQ_34 hm, mw_34, mw_up34, xK_35 hm, xN_35 hm, xQ_35 hm, mw_35, mw_up35, xK_36 hm, xN_36 hm, xQ_36 hm, mw_36, mw_up36, xK_37 hm, xN_37 hm, xQ_37 hm, mw_37, mw_up37, if_true, nI_leI (show slN T.2.1 T.2.1.length + 1 < 2 ^ 31 by omega) (show mks.length < 2 ^ 31 by omega), if_pos (show slN T.2.1 T.2.1.length + 1 ≤ mks.length by omega), List.take_length])
      0 (0, 0, sI S (mw I m (uF G 0 0 0))) ⟨_, rfl, fun k j hk h0 => uF_ne (by omega), fun j => by rw [if_neg (by omega), uF_ne (Or.inl (by decide))], uF_eq _ _ _ _⟩ (Nat.zero_le _) kF (by unfold kF; omega)
    rw [e1]
    refine ⟨G', rfl, h3, ?_⟩
    obtain ⟨a1, a2, a3, a4, a5, a6⟩ := hG
    refine ⟨⟨(h1 _ _ (by decide) (by decide)).trans a1.1, fun j hj => (h1 _ _ (by decide) (by omega)).trans (a1.2 j hj)⟩, a2.ext (h1 _ _ (by decide) (by decide)) (fun j => h1 _ _ (by decide) (by omega)) (fun j => h1 _ _ (by decide) (by omega)), fun e he p hp => ?_, a4.ext (fun k h3 h4 j => h1 _ _ (by omega) (by omega)) (h1 _ _ (by decide) (by decide)), a5.ext (fun k h3 h4 j => h1 _ _ (by omega) (by omega)) (h1 _ _ (by decide) (by decide)), fun e he => (a6 e he).ext (fun k h3 h4 j => h1 _ _ (by omega) (by omega))⟩
    have hp' : p < mks.length := by
      have := hp
      rw [List.length_map] at this
      exact this
    show _ = bi (tb (la (mks.map (clM d)) p) e)
    rw [la_mapI hp', h2]
    have hcl : tb (clM d (la mks p)) e = if e = d then false else tb (la mks p) e := by
      unfold clM
      by_cases h9 : e = d
      · rw [if_pos h9, h9]
        cases ht : tb (la mks p) d with
        | true => rw [if_pos rfl, tb_and (by omega), tb_not (by omega), tb_mk (by omega) (by omega), decide_eq_true rfl]; simp
        | false => rw [if_neg (by decide)]; exact ht
      · rw [if_neg h9]
        split
        · rw [tb_and (by omega), tb_not (by omega), tb_mk (by omega) (by omega), decide_eq_false h9]; simp
        · rfl
    rw [hcl]
    by_cases h9 : e = d
    · rw [if_pos h9, h9, if_pos (by omega)]; rfl
    · rw [if_neg h9, if_neg (by omega)]
      exact mk3 e he p hp'
theorem mx_limit (hm : mS S m) (hG : mT G T) (hw : wf T) (p n : Int32) : mZ S I m T (fun _ => 1) 0 (f_X10_limit (sI S (mw I m G)) m p n) (a_limit T p n) := by
  unfold f_X10_limit a_limit
  simp only [x_desk, show (20 : Int32) = nI 20 from rfl, x_ix1 _ n (show 20 + 1 < 2 ^ 31 by decide), kK_sI, kQ_sI, kN_sI, kI_sI, wI_sI, Option.bind_some, lt, mw_0, mw_up0, xK_0 hm, xK_1 hm, xN_1 hm, xQ_1 hm, mw_1, mw_up1, xK_2 hm, xN_2 hm, xQ_2 hm, mw_2, mw_up2, xK_3 hm, xN_3 hm, xQ_3 hm, mw_3, mw_up3, xK_4 hm, xN_4 hm, xQ_4 hm, mw_4, mw_up4, xK_5 hm, xN_5 hm, xQ_5 hm, mw_5, mw_up5, xK_6 hm, xN_6 hm, xQ_6 hm, mw_6, mw_up6, xK_7 hm, xN_7 hm, xQ_7 hm, mw_7, mw_up7, xK_8 hm, xN_8 hm, xQ_8 hm, mw_8, mw_up8, xK_9 hm, xN_9 hm, xQ_9 hm, mw_9, mw_up9, xK_10 hm, xN_10 hm, xQ_10 hm, mw_10, mw_up10, xK_11 hm, xN_11 hm, xQ_11 hm, mw_11, mw_up11, xK_12 hm, xN_12 hm, xQ_12 hm, mw_12, mw_up12, xK_13 hm, xN_13 hm, xQ_13 hm, mw_13, mw_up13, xK_14 hm, xN_14 hm, xQ_14 hm, mw_14, mw_up14, xK_15 hm, xN_15 hm, xQ_15 hm, mw_15, mw_up15, xK_16 hm, xN_16 hm, xQ_16 hm, mw_16, mw_up16, xK_17 hm, xN_17 hm, xQ_17 hm, mw_17, mw_up17, xK_18 hm, xN_18 hm, xQ_18 hm, mw_18, mw_up18, xK_19 hm, xN_19 hm, xQ_19 hm, mw_19, mw_up19, xK_20 hm, xN_20 hm, xQ_20 hm, mw_20, mw_up20, xK_21 hm, xN_21 hm, xQ_21 hm, mw_21, mw_up21, xK_22 hm, xN_22 hm, xQ_22 hm, mw_22, mw_up22, xK_23 hm, xN_23 hm, xQ_23 hm, mw_23, mw_up23, xK_24 hm, xN_24 hm, xQ_24 hm, mw_24, mw_up24, xK_25 hm, xN_25 hm, xQ_25 hm, mw_25, mw_up25, xK_26 hm, xN_26 hm, xQ_26 hm, mw_26, mw_up26, xK_27 hm, xN_27 hm, xQ_27 hm, mw_27, mw_up27, xK_28 hm, xN_28 hm, xQ_28 hm, mw_28, mw_up28, xK_29 hm, xN_29 hm, xQ_29 hm, mw_29, mw_up29, xK_30 hm, xN_30 hm, xQ_30 hm, mw_30, mw_up30, xK_31 hm, xN_31 hm, xQ_31 hm, mw_31, mw_up31, xK_32 hm, xN_32 hm, xQ_32 hm, mw_32, mw_up32, xK_33 hm, xN_33 hm, xQ_33 hm, mw_33, mw_up33, xK_34 hm, xN_34 hm, xQ_34 hm, mw_34, mw_up34, xK_35 hm, xN_35 hm, xQ_35 hm, mw_35, mw_up35, xK_36 hm, xN_36 hm, xQ_36 hm, mw_36, mw_up36, xK_37 hm, xN_37 hm, xQ_37 hm, mw_37, mw_up37, if_true, uF_eq, show ¬ (1 : Int32) ≤ 0 by decide, show (0 : Int32) ≤ 0 by decide, if_false]
  cases hp : ix p 4 with
  | none =>
    simp only [Option.isSome_none, show bi false = 0 by decide, if_true]
    exact ⟨_, rfl, uF_eq _ _ _ _, hG.th _⟩
  | some d =>
    obtain ⟨hd, rfl⟩ := ix_some (by decide) hp
    simp only [Option.isSome_some, show ¬ bi true = 0 by decide, if_false]
    cases hn : ix n 21 with
    | none =>
      simp only [Option.isSome_none, show bi false = 0 by decide, if_true]
      exact ⟨_, rfl, uF_eq _ _ _ _, hG.th _⟩
    | some v =>
      obtain ⟨hv, rfl⟩ := ix_some (by decide) hn
      simp only [Option.isSome_some, show ¬ bi true = 0 by decide, if_false, bd2 hd (show d < 2 ^ 31 by omega), nI_clamp (show d < 2 ^ 31 by omega), not_false_eq_true, if_true]
      have h1 : ∀ c j, c ≠ 21 → ¬ (c = 0 ∧ j = 0) → uF (uF G 0 0 0) 21 d (nI v) c j = G c j := fun c j h1 h2 => by rw [uF_ne (Or.inl h1), uF_ne (by omega)]
      obtain ⟨b1, b2, b3, b4, b5⟩ := hG.2.2.2.2.2 d hd
      have m1 : mT (uF (uF G 0 0 0) 21 d (nI v)) (uDs T d ((T.2.2.2.2.2.2 d).1, (T.2.2.2.2.2.2 d).2.1, v, (T.2.2.2.2.2.2 d).2.2.2)) := by
        refine hG.ds (fun c j hc h0 => h1 c j (by omega) h0) ⟨fun r hr => (h1 _ _ (by decide) (by omega)).trans (b1 r hr), fun r v hv => (h1 _ _ (by decide) (by omega)).trans (b2 r v hv), uF_eq _ _ _ _, (h1 _ _ (by decide) (by omega)).trans b4, fun i g hg => ⟨(h1 _ _ (by decide) (by omega)).trans (b5 i g hg).1, (h1 _ _ (by decide) (by omega)).trans (b5 i g hg).2.1, (h1 _ _ (by decide) (by omega)).trans (b5 i g hg).2.2⟩⟩ (fun e he hne => ?_)
        obtain ⟨b1, b2, b3, b4, b5⟩ := hG.2.2.2.2.2 e he
        exact ⟨fun r hr => (h1 _ _ (by decide) (by omega)).trans (b1 r hr), fun r v hv => (h1 _ _ (by decide) (by omega)).trans (b2 r v hv), by rw [uF_ne (Or.inr hne), uF_ne (Or.inl (by decide))]; exact b3, (h1 _ _ (by decide) (by omega)).trans b4, fun i g hg => ⟨(h1 _ _ (by decide) (by omega)).trans (b5 i g hg).1, (h1 _ _ (by decide) (by omega)).trans (b5 i g hg).2.1, (h1 _ _ (by decide) (by omega)).trans (b5 i g hg).2.2⟩⟩
      obtain ⟨G2, e1, e2, e3⟩ := x_marks (I := I) hm m1.2.1 hw.2.1 hd
      rw [e1]
      exact ⟨G2, by simp only [Option.bind_some]; rw [uF_ne (Or.inl (by decide)), b3], by rw [e2 _ _ (by decide), uF_ne (Or.inl (by decide)), uF_eq], m1.mark (show T.2.2.2.1.length = slN T.2.1 T.2.1.length + 1 from hw.2.2.2.2.2.1) hw.2.1 hd e2 e3⟩
theorem mx_use (hm : mS S m) (hG : mT G T) (hw : wf T) (p r b : Int32) : mZ S I m T (fun k => if k = 3 then 1 else 2) 0 (f_X10_use (sI S (mw I m G)) m p r b) (a_use T p r b) := by
  have hru := hw.2.2.2.2.2.2.1.1
  unfold f_X10_use a_use
  simp only [x_noRule hm r hG.2.2.2.1.1 (show T.2.2.2.2.1.length < 2 ^ 31 by omega), kK_sI, kQ_sI, kN_sI, kI_sI, wI_sI, Option.bind_some, lt, mw_0, mw_up0, xK_0 hm, xK_1 hm, xN_1 hm, xQ_1 hm, mw_1, mw_up1, xK_2 hm, xN_2 hm, xQ_2 hm, mw_2, mw_up2, xK_3 hm, xN_3 hm, xQ_3 hm, mw_3, mw_up3, xK_4 hm, xN_4 hm, xQ_4 hm, mw_4, mw_up4, xK_5 hm, xN_5 hm, xQ_5 hm, mw_5, mw_up5, xK_6 hm, xN_6 hm, xQ_6 hm, mw_6, mw_up6, xK_7 hm, xN_7 hm, xQ_7 hm, mw_7, mw_up7, xK_8 hm, xN_8 hm, xQ_8 hm, mw_8, mw_up8, xK_9 hm, xN_9 hm, xQ_9 hm, mw_9, mw_up9, xK_10 hm, xN_10 hm, xQ_10 hm, mw_10, mw_up10, xK_11 hm, xN_11 hm, xQ_11 hm, mw_11, mw_up11, xK_12 hm, xN_12 hm, xQ_12 hm, mw_12, mw_up12, xK_13 hm, xN_13 hm, xQ_13 hm, mw_13, mw_up13, xK_14 hm, xN_14 hm, xQ_14 hm, mw_14, mw_up14, xK_15 hm, xN_15 hm, xQ_15 hm, mw_15, mw_up15, xK_16 hm, xN_16 hm, xQ_16 hm, mw_16, mw_up16, xK_17 hm, xN_17 hm, xQ_17 hm, mw_17, mw_up17, xK_18 hm, xN_18 hm, xQ_18 hm, mw_18, mw_up18, xK_19 hm, xN_19 hm, xQ_19 hm, mw_19, mw_up19, xK_20 hm, xN_20 hm, xQ_20 hm, mw_20, mw_up20, xK_21 hm, xN_21 hm, xQ_21 hm, mw_21, mw_up21, xK_22 hm, xN_22 hm, xQ_22 hm, mw_22, mw_up22, xK_23 hm, xN_23 hm, xQ_23 hm, mw_23, mw_up23, xK_24 hm, xN_24 hm, xQ_24 hm, mw_24, mw_up24, xK_25 hm, xN_25 hm, xQ_25 hm, mw_25, mw_up25, xK_26 hm, xN_26 hm, xQ_26 hm, mw_26, mw_up26, xK_27 hm, xN_27 hm, xQ_27 hm, mw_27, mw_up27, xK_28 hm, xN_28 hm, xQ_28 hm, mw_28, mw_up28, xK_29 hm, xN_29 hm, xQ_29 hm, mw_29, mw_up29, xK_30 hm, xN_30 hm, xQ_30 hm, mw_30, mw_up30, xK_31 hm, xN_31 hm, xQ_31 hm, mw_31, mw_up31, xK_32 hm, xN_32 hm, xQ_32 hm, mw_32, mw_up32, xK_33 hm, xN_33 hm, xQ_33 hm, mw_33, mw_up33, xK_34 hm, xN_34 hm, xQ_34 hm, mw_34, mw_up34, xK_35 hm, xN_35 hm, xQ_35 hm, mw_35, mw_up35, xK_36 hm, xN_36 hm, xQ_36 hm, mw_36, mw_up36, xK_37 hm, xN_37 hm, xQ_37 hm, mw_37, mw_up37, if_true]
  cases hr : ix r T.2.2.2.2.1.length with
  | none =>
    simp only [Option.isSome_none, Bool.not_false, show ¬ bi true = 0 by decide, if_false]
    exact ⟨_, rfl, uF_eq _ _ _ _, hG.th _⟩
  | some q =>
    obtain ⟨hq, rfl⟩ := ix_some (by omega) hr
    simp only [Option.isSome_some, Bool.not_true, show bi false = 0 by decide, if_true, x_desk, kK_sI, kQ_sI, kN_sI, kI_sI, wI_sI, Option.bind_some, lt, mw_0, mw_up0, xK_0 hm, xK_1 hm, xN_1 hm, xQ_1 hm, mw_1, mw_up1, xK_2 hm, xN_2 hm, xQ_2 hm, mw_2, mw_up2, xK_3 hm, xN_3 hm, xQ_3 hm, mw_3, mw_up3, xK_4 hm, xN_4 hm, xQ_4 hm, mw_4, mw_up4, xK_5 hm, xN_5 hm, xQ_5 hm, mw_5, mw_up5, xK_6 hm, xN_6 hm, xQ_6 hm, mw_6, mw_up6, xK_7 hm, xN_7 hm, xQ_7 hm, mw_7, mw_up7, xK_8 hm, xN_8 hm, xQ_8 hm, mw_8, mw_up8, xK_9 hm, xN_9 hm, xQ_9 hm, mw_9, mw_up9, xK_10 hm, xN_10 hm, xQ_10 hm, mw_10, mw_up10, xK_11 hm, xN_11 hm, xQ_11 hm, mw_11, mw_up11, xK_12 hm, xN_12 hm, xQ_12 hm, mw_12, mw_up12, xK_13 hm, xN_13 hm, xQ_13 hm, mw_13, mw_up13, xK_14 hm, xN_14 hm, xQ_14 hm, mw_14, mw_up14, xK_15 hm, xN_15 hm, xQ_15 hm, mw_15, mw_up15, xK_16 hm, xN_16 hm, xQ_16 hm, mw_16, mw_up16, xK_17 hm, xN_17 hm, xQ_17 hm, mw_17, mw_up17, xK_18 hm, xN_18 hm, xQ_18 hm, mw_18, mw_up18, xK_19 hm, xN_19 hm, xQ_19 hm, mw_19, mw_up19, xK_20 hm, xN_20 hm, xQ_20 hm, mw_20, mw_up20, xK_21 hm, xN_21 hm, xQ_21 hm, mw_21, mw_up21, xK_22 hm, xN_22 hm, xQ_22 hm, mw_22, mw_up22, xK_23 hm, xN_23 hm, xQ_23 hm, mw_23, mw_up23, xK_24 hm, xN_24 hm, xQ_24 hm, mw_24, mw_up24, xK_25 hm, xN_25 hm, xQ_25 hm, mw_25, mw_up25, xK_26 hm, xN_26 hm, xQ_26 hm, mw_26, mw_up26, xK_27 hm, xN_27 hm, xQ_27 hm, mw_27, mw_up27, xK_28 hm, xN_28 hm, xQ_28 hm, mw_28, mw_up28, xK_29 hm, xN_29 hm, xQ_29 hm, mw_29, mw_up29, xK_30 hm, xN_30 hm, xQ_30 hm, mw_30, mw_up30, xK_31 hm, xN_31 hm, xQ_31 hm, mw_31, mw_up31, xK_32 hm, xN_32 hm, xQ_32 hm, mw_32, mw_up32, xK_33 hm, xN_33 hm, xQ_33 hm, mw_33, mw_up33, xK_34 hm, xN_34 hm, xQ_34 hm, mw_34, mw_up34, xK_35 hm, xN_35 hm, xQ_35 hm, mw_35, mw_up35, xK_36 hm, xN_36 hm, xQ_36 hm, mw_36, mw_up36, xK_37 hm, xN_37 hm, xQ_37 hm, mw_37, mw_up37, uF_eq, show ¬ (2 : Int32) ≤ 0 by decide, show (0 : Int32) ≤ 0 by decide, if_false]
    cases hp : ix p 4 with
    | none =>
      simp only [Option.isSome_none, show bi false = 0 by decide, if_true]
      exact ⟨_, rfl, uF_eq _ _ _ _, (hG.th _).th _⟩
    | some d =>
      obtain ⟨hd, rfl⟩ := ix_some (by decide) hp
      have hdq : d * 12 + q < 48 := by omega
      obtain ⟨b1, b2, b3, b4, b5⟩ := hG.2.2.2.2.2 d hd
      have rd : uF (uF G 0 0 0) 0 0 0 19 (d * 12 + q) = bi (tb (T.2.2.2.2.2.2 d).2.1 q) := by rw [uF_ne (Or.inl (by decide)), uF_ne (Or.inl (by decide)), b1 q (by omega)]
      simp only [Option.isSome_some, show ¬ bi true = 0 by decide, if_false, x_mul12, nI_add, bd2 hdq (show d * 12 + q < 2 ^ 31 by omega), nI_clamp (show d * 12 + q < 2 ^ 31 by omega), not_false_eq_true, if_true, rd, bi_eq0, show vp_nar .boolean 1 = bi true by decide, show vp_nar .boolean 0 = bi false by decide, or_true, true_or]
      have hq12 : q < 12 := by omega
      have n1 : tb ((T.2.2.2.2.2.2 d).2.1 ||| mk q) q = true := by rw [tb_or (by omega), tb_mk (by omega) (by omega), decide_eq_true rfl, Bool.or_true]
      have n2 : tb ((T.2.2.2.2.2.2 d).2.1 &&& (mk q ^^^ (-1))) q = false := by rw [tb_and (by omega), tb_not (by omega), tb_mk (by omega) (by omega), decide_eq_true rfl]; simp
      have n3 : ∀ r, r < 12 → r ≠ q → tb (if b = 0 then (T.2.2.2.2.2.2 d).2.1 ||| mk q else (T.2.2.2.2.2.2 d).2.1 &&& (mk q ^^^ (-1))) r = tb (T.2.2.2.2.2.2 d).2.1 r := fun r hr hne => by
        split
        · rw [tb_or (by omega), tb_mk (by omega) (by omega), decide_eq_false hne, Bool.or_false]
        · rw [tb_and (by omega), tb_not (by omega), tb_mk (by omega) (by omega), decide_eq_false hne]; simp
      generalize hnew : (if b = 0 then (T.2.2.2.2.2.2 d).2.1 ||| mk q else (T.2.2.2.2.2.2 d).2.1 &&& (mk q ^^^ (-1))) = new at n3 ⊢
      have key : ∀ (v : Bool) (y : Int32), v = tb new q → y = bi (!tb (T.2.2.2.2.2.2 d).2.1 q) → mZ S I m T (fun k => if k = 3 then 1 else 2) 0 ((f_X10_marks (sI S (mw I m (uF (uF (uF G 0 0 0) 0 0 0) 19 (d * 12 + q) (bi v)))) m (nI d)).bind fun r28 => some (r28, y)) (.inl (uMk (uDs T d ((T.2.2.2.2.2.2 d).1, new, (T.2.2.2.2.2.2 d).2.2)) (mk d), bi (!tb (T.2.2.2.2.2.2 d).2.1 q))) := by
        intro v y hv hy
        have h1 : ∀ c j, ¬ (c = 19 ∧ j = d * 12 + q) → ¬ (c = 0 ∧ j = 0) → uF (uF (uF G 0 0 0) 0 0 0) 19 (d * 12 + q) (bi v) c j = G c j := fun c j h1 h2 => by rw [uF_ne (by omega), uF_ne (by omega), uF_ne (by omega)]
        have m1 : mT (uF (uF (uF G 0 0 0) 0 0 0) 19 (d * 12 + q) (bi v)) (uDs T d ((T.2.2.2.2.2.2 d).1, new, (T.2.2.2.2.2.2 d).2.2)) := by
          refine hG.ds (fun c j hc h0 => h1 c j (by omega) h0) ⟨fun r hr => ?_, fun r v hv => (h1 _ _ (by omega) (by omega)).trans (b2 r v hv), (h1 _ _ (by omega) (by omega)).trans b3, (h1 _ _ (by omega) (by omega)).trans b4, fun i g hg => ⟨(h1 _ _ (by omega) (by omega)).trans (b5 i g hg).1, (h1 _ _ (by omega) (by omega)).trans (b5 i g hg).2.1, (h1 _ _ (by omega) (by omega)).trans (b5 i g hg).2.2⟩⟩ (fun e he hne => ?_)
          · by_cases hrq : r = q
            · rw [hrq, uF_eq, hv]
            · rw [h1 _ _ (by omega) (by omega), b1 r hr, n3 r hr hrq]
          · obtain ⟨b1, b2, b3, b4, b5⟩ := hG.2.2.2.2.2 e he
            exact ⟨fun r hr => (h1 _ _ (by omega) (by omega)).trans (b1 r hr), fun r v hv => (h1 _ _ (by omega) (by omega)).trans (b2 r v hv), (h1 _ _ (by omega) (by omega)).trans b3, (h1 _ _ (by omega) (by omega)).trans b4, fun i g hg => ⟨(h1 _ _ (by omega) (by omega)).trans (b5 i g hg).1, (h1 _ _ (by omega) (by omega)).trans (b5 i g hg).2.1, (h1 _ _ (by omega) (by omega)).trans (b5 i g hg).2.2⟩⟩
        obtain ⟨G2, e1, e2, e3⟩ := x_marks (I := I) hm m1.2.1 hw.2.1 hd
        rw [e1]
        exact ⟨G2, by rw [hy]; rfl, by rw [e2 _ _ (by decide), uF_ne (Or.inl (by decide)), uF_eq], m1.mark (show T.2.2.2.1.length = slN T.2.1 T.2.1.length + 1 from hw.2.2.2.2.2.1) hw.2.1 hd e2 e3⟩
      by_cases hb : b = 0
      · rw [if_pos hb] at hnew
        rw [hnew] at n1
        simp only [if_pos hb]
        cases ht : tb (T.2.2.2.2.2.2 d).2.1 q with
        | true => rw [ht] at key; simp only [Bool.true_eq_false, if_false]; exact key true 0 n1.symm rfl
        | false => rw [ht] at key; simp only [if_true]; exact key true 1 n1.symm rfl
      · rw [if_neg hb] at hnew
        rw [hnew] at n2
        simp only [if_neg hb]
        cases ht : tb (T.2.2.2.2.2.2 d).2.1 q with
        | true => rw [ht] at key; simp only [Bool.true_eq_false, if_false]; exact key false 0 n2.symm rfl
        | false => rw [ht] at key; simp only [if_true]; exact key false 1 n2.symm rfl
theorem mx_rank (hm : mS S m) (hG : mT G T) (hw : wf T) (p r n : Int32) : mZ S I m T (fun k => if k = 3 then 1 else 2) 0 (f_X10_rank (sI S (mw I m G)) m p r n) (a_rank T p r n) := by
  have hru := hw.2.2.2.2.2.2.1.1
  unfold f_X10_rank a_rank
  simp only [x_noRule hm r hG.2.2.2.1.1 (show T.2.2.2.2.1.length < 2 ^ 31 by omega), kK_sI, kQ_sI, kN_sI, kI_sI, wI_sI, Option.bind_some, lt, mw_0, mw_up0, xK_0 hm, xK_1 hm, xN_1 hm, xQ_1 hm, mw_1, mw_up1, xK_2 hm, xN_2 hm, xQ_2 hm, mw_2, mw_up2, xK_3 hm, xN_3 hm, xQ_3 hm, mw_3, mw_up3, xK_4 hm, xN_4 hm, xQ_4 hm, mw_4, mw_up4, xK_5 hm, xN_5 hm, xQ_5 hm, mw_5, mw_up5, xK_6 hm, xN_6 hm, xQ_6 hm, mw_6, mw_up6, xK_7 hm, xN_7 hm, xQ_7 hm, mw_7, mw_up7, xK_8 hm, xN_8 hm, xQ_8 hm, mw_8, mw_up8, xK_9 hm, xN_9 hm, xQ_9 hm, mw_9, mw_up9, xK_10 hm, xN_10 hm, xQ_10 hm, mw_10, mw_up10, xK_11 hm, xN_11 hm, xQ_11 hm, mw_11, mw_up11, xK_12 hm, xN_12 hm, xQ_12 hm, mw_12, mw_up12, xK_13 hm, xN_13 hm, xQ_13 hm, mw_13, mw_up13, xK_14 hm, xN_14 hm, xQ_14 hm, mw_14, mw_up14, xK_15 hm, xN_15 hm, xQ_15 hm, mw_15, mw_up15, xK_16 hm, xN_16 hm, xQ_16 hm, mw_16, mw_up16, xK_17 hm, xN_17 hm, xQ_17 hm, mw_17, mw_up17, xK_18 hm, xN_18 hm, xQ_18 hm, mw_18, mw_up18, xK_19 hm, xN_19 hm, xQ_19 hm, mw_19, mw_up19, xK_20 hm, xN_20 hm, xQ_20 hm, mw_20, mw_up20, xK_21 hm, xN_21 hm, xQ_21 hm, mw_21, mw_up21, xK_22 hm, xN_22 hm, xQ_22 hm, mw_22, mw_up22, xK_23 hm, xN_23 hm, xQ_23 hm, mw_23, mw_up23, xK_24 hm, xN_24 hm, xQ_24 hm, mw_24, mw_up24, xK_25 hm, xN_25 hm, xQ_25 hm, mw_25, mw_up25, xK_26 hm, xN_26 hm, xQ_26 hm, mw_26, mw_up26, xK_27 hm, xN_27 hm, xQ_27 hm, mw_27, mw_up27, xK_28 hm, xN_28 hm, xQ_28 hm, mw_28, mw_up28, xK_29 hm, xN_29 hm, xQ_29 hm, mw_29, mw_up29, xK_30 hm, xN_30 hm, xQ_30 hm, mw_30, mw_up30, xK_31 hm, xN_31 hm, xQ_31 hm, mw_31, mw_up31, xK_32 hm, xN_32 hm, xQ_32 hm, mw_32, mw_up32, xK_33 hm, xN_33 hm, xQ_33 hm, mw_33, mw_up33, xK_34 hm, xN_34 hm, xQ_34 hm, mw_34, mw_up34, xK_35 hm, xN_35 hm, xQ_35 hm, mw_35, mw_up35, xK_36 hm, xN_36 hm, xQ_36 hm, mw_36, mw_up36, xK_37 hm, xN_37 hm, xQ_37 hm, mw_37, mw_up37, if_true]
  cases hr : ix r T.2.2.2.2.1.length with
  | none =>
    simp only [Option.isSome_none, Bool.not_false, show ¬ bi true = 0 by decide, if_false]
    exact ⟨_, rfl, uF_eq _ _ _ _, hG.th _⟩
  | some q =>
    obtain ⟨hq, rfl⟩ := ix_some (by omega) hr
    simp only [Option.isSome_some, Bool.not_true, show bi false = 0 by decide, if_true, x_desk, show (9 : Int32) = nI 9 from rfl, x_ix1 _ n (show 9 + 1 < 2 ^ 31 by decide), kK_sI, kQ_sI, kN_sI, kI_sI, wI_sI, Option.bind_some, lt, mw_0, mw_up0, xK_0 hm, xK_1 hm, xN_1 hm, xQ_1 hm, mw_1, mw_up1, xK_2 hm, xN_2 hm, xQ_2 hm, mw_2, mw_up2, xK_3 hm, xN_3 hm, xQ_3 hm, mw_3, mw_up3, xK_4 hm, xN_4 hm, xQ_4 hm, mw_4, mw_up4, xK_5 hm, xN_5 hm, xQ_5 hm, mw_5, mw_up5, xK_6 hm, xN_6 hm, xQ_6 hm, mw_6, mw_up6, xK_7 hm, xN_7 hm, xQ_7 hm, mw_7, mw_up7, xK_8 hm, xN_8 hm, xQ_8 hm, mw_8, mw_up8, xK_9 hm, xN_9 hm, xQ_9 hm, mw_9, mw_up9, xK_10 hm, xN_10 hm, xQ_10 hm, mw_10, mw_up10, xK_11 hm, xN_11 hm, xQ_11 hm, mw_11, mw_up11, xK_12 hm, xN_12 hm, xQ_12 hm, mw_12, mw_up12, xK_13 hm, xN_13 hm, xQ_13 hm, mw_13, mw_up13, xK_14 hm, xN_14 hm, xQ_14 hm, mw_14, mw_up14, xK_15 hm, xN_15 hm, xQ_15 hm, mw_15, mw_up15, xK_16 hm, xN_16 hm, xQ_16 hm, mw_16, mw_up16, xK_17 hm, xN_17 hm, xQ_17 hm, mw_17, mw_up17, xK_18 hm, xN_18 hm, xQ_18 hm, mw_18, mw_up18, xK_19 hm, xN_19 hm, xQ_19 hm, mw_19, mw_up19, xK_20 hm, xN_20 hm, xQ_20 hm, mw_20, mw_up20, xK_21 hm, xN_21 hm, xQ_21 hm, mw_21, mw_up21, xK_22 hm, xN_22 hm, xQ_22 hm, mw_22, mw_up22, xK_23 hm, xN_23 hm, xQ_23 hm, mw_23, mw_up23, xK_24 hm, xN_24 hm, xQ_24 hm, mw_24, mw_up24, xK_25 hm, xN_25 hm, xQ_25 hm, mw_25, mw_up25, xK_26 hm, xN_26 hm, xQ_26 hm, mw_26, mw_up26, xK_27 hm, xN_27 hm, xQ_27 hm, mw_27, mw_up27, xK_28 hm, xN_28 hm, xQ_28 hm, mw_28, mw_up28, xK_29 hm, xN_29 hm, xQ_29 hm, mw_29, mw_up29, xK_30 hm, xN_30 hm, xQ_30 hm, mw_30, mw_up30, xK_31 hm, xN_31 hm, xQ_31 hm, mw_31, mw_up31, xK_32 hm, xN_32 hm, xQ_32 hm, mw_32, mw_up32, xK_33 hm, xN_33 hm, xQ_33 hm, mw_33, mw_up33, xK_34 hm, xN_34 hm, xQ_34 hm, mw_34, mw_up34, xK_35 hm, xN_35 hm, xQ_35 hm, mw_35, mw_up35, xK_36 hm, xN_36 hm, xQ_36 hm, mw_36, mw_up36, xK_37 hm, xN_37 hm, xQ_37 hm, mw_37, mw_up37, uF_eq, show ¬ (2 : Int32) ≤ 0 by decide, show (0 : Int32) ≤ 0 by decide, if_false]
    cases hp : ix p 4 with
    | none =>
      simp only [Option.isSome_none, show bi false = 0 by decide, if_true]
      exact ⟨_, rfl, uF_eq _ _ _ _, (hG.th _).th _⟩
    | some d =>
      obtain ⟨hd, rfl⟩ := ix_some (by decide) hp
      simp only [Option.isSome_some, show ¬ bi true = 0 by decide, if_false]
      cases hn : ix n 10 with
      | none =>
        simp only [Option.isSome_none, show bi false = 0 by decide, if_true]
        exact ⟨_, rfl, uF_eq _ _ _ _, (hG.th _).th _⟩
      | some v =>
        obtain ⟨hv, rfl⟩ := ix_some (by decide) hn
        have hdq : d * 12 + q < 48 := by omega
        obtain ⟨b1, b2, b3, b4, b5⟩ := hG.2.2.2.2.2 d hd
        obtain ⟨⟨w1, w2, -⟩, -⟩ := hw.2.2.2.2.2.2.2.2.2.2 d hd
        obtain ⟨u, hu⟩ : ∃ u, (T.2.2.2.2.2.2 d).1[q]? = some u := ⟨_, List.getElem?_eq_getElem (by omega)⟩
        obtain ⟨y, hy⟩ : ∃ y, T.2.2.2.2.1[q]? = some y := ⟨_, List.getElem?_eq_getElem hq⟩
        have hu9 := w2 q u hu
        have rd : uF (uF G 0 0 0) 0 0 0 20 (d * 12 + q) = nI u := by rw [uF_ne (Or.inl (by decide)), uF_ne (Or.inl (by decide)), b2 q u hu]
        have rd2 : uF (uF G 0 0 0) 0 0 0 10 q = nI y.2.2.2.1 := by rw [uF_ne (Or.inl (by decide)), uF_ne (Or.inl (by decide)), (hG.2.2.2.1.2.1 q y hy).2.2.2.2.1]
        have hrk : f_X10_rankAt (sI S (mw I m (uF (uF G 0 0 0) 0 0 0))) m (nI d) (nI q) = some (nI (rk T.2.2.2.2.1 (T.2.2.2.2.2.2 d).1 q)) := by
          unfold f_X10_rankAt
          simp only [kK_sI, kQ_sI, kN_sI, kI_sI, wI_sI, Option.bind_some, lt, mw_0, mw_up0, xK_0 hm, xK_1 hm, xN_1 hm, xQ_1 hm, mw_1, mw_up1, xK_2 hm, xN_2 hm, xQ_2 hm, mw_2, mw_up2, xK_3 hm, xN_3 hm, xQ_3 hm, mw_3, mw_up3, xK_4 hm, xN_4 hm, xQ_4 hm, mw_4, mw_up4, xK_5 hm, xN_5 hm, xQ_5 hm, mw_5, mw_up5, xK_6 hm, xN_6 hm, xQ_6 hm, mw_6, mw_up6, xK_7 hm, xN_7 hm, xQ_7 hm, mw_7, mw_up7, xK_8 hm, xN_8 hm, xQ_8 hm, mw_8, mw_up8, xK_9 hm, xN_9 hm, xQ_9 hm, mw_9, mw_up9, xK_10 hm, xN_10 hm, xQ_10 hm, mw_10, mw_up10, xK_11 hm, xN_11 hm, xQ_11 hm, mw_11, mw_up11, xK_12 hm, xN_12 hm, xQ_12 hm, mw_12, mw_up12, xK_13 hm, xN_13 hm, xQ_13 hm, mw_13, mw_up13, xK_14 hm, xN_14 hm, xQ_14 hm, mw_14, mw_up14, xK_15 hm, xN_15 hm, xQ_15 hm, mw_15, mw_up15, xK_16 hm, xN_16 hm, xQ_16 hm, mw_16, mw_up16, xK_17 hm, xN_17 hm, xQ_17 hm, mw_17, mw_up17, xK_18 hm, xN_18 hm, xQ_18 hm, mw_18, mw_up18, xK_19 hm, xN_19 hm, xQ_19 hm, mw_19, mw_up19, xK_20 hm, xN_20 hm, xQ_20 hm, mw_20, mw_up20, xK_21 hm, xN_21 hm, xQ_21 hm, mw_21, mw_up21, xK_22 hm, xN_22 hm, xQ_22 hm, mw_22, mw_up22, xK_23 hm, xN_23 hm, xQ_23 hm, mw_23, mw_up23, xK_24 hm, xN_24 hm, xQ_24 hm, mw_24, mw_up24, xK_25 hm, xN_25 hm, xQ_25 hm, mw_25, mw_up25, xK_26 hm, xN_26 hm, xQ_26 hm, mw_26, mw_up26, xK_27 hm, xN_27 hm, xQ_27 hm, mw_27, mw_up27, xK_28 hm, xN_28 hm, xQ_28 hm, mw_28, mw_up28, xK_29 hm, xN_29 hm, xQ_29 hm, mw_29, mw_up29, xK_30 hm, xN_30 hm, xQ_30 hm, mw_30, mw_up30, xK_31 hm, xN_31 hm, xQ_31 hm, mw_31, mw_up31, xK_32 hm, xN_32 hm, xQ_32 hm, mw_32, mw_up32, xK_33 hm, xN_33 hm, xQ_33 hm, mw_33, mw_up33, xK_34 hm, xN_34 hm, xQ_34 hm, mw_34, mw_up34, xK_35 hm, xN_35 hm, xQ_35 hm, mw_35, mw_up35, xK_36 hm, xN_36 hm, xQ_36 hm, mw_36, mw_up36, xK_37 hm, xN_37 hm, xQ_37 hm, mw_37, mw_up37, if_true, x_mul12, nI_add, bd2 hdq (show d * 12 + q < 2 ^ 31 by omega), nI_clamp (show d * 12 + q < 2 ^ 31 by omega), not_false_eq_true, rd, nI_eq0 (show u < 2 ^ 31 by omega), bd2 (show q < 12 by omega) (show q < 2 ^ 31 by omega), nI_clamp (show q < 2 ^ 31 by omega), rd2]
          have h9 : la9 (T.2.2.2.2.2.2 d).1 q = u := by simp [la9, hu]
          unfold rk
          rw [hy]
          simp only [h9]
          by_cases h0 : u = 0
          · rw [if_pos h0, if_pos h0]
          · rw [if_neg h0, if_neg h0]
        simp only [Option.isSome_some, show ¬ bi true = 0 by decide, if_false, hrk, x_mul12, nI_add, kK_sI, kQ_sI, kN_sI, kI_sI, wI_sI, Option.bind_some, lt, mw_0, mw_up0, xK_0 hm, xK_1 hm, xN_1 hm, xQ_1 hm, mw_1, mw_up1, xK_2 hm, xN_2 hm, xQ_2 hm, mw_2, mw_up2, xK_3 hm, xN_3 hm, xQ_3 hm, mw_3, mw_up3, xK_4 hm, xN_4 hm, xQ_4 hm, mw_4, mw_up4, xK_5 hm, xN_5 hm, xQ_5 hm, mw_5, mw_up5, xK_6 hm, xN_6 hm, xQ_6 hm, mw_6, mw_up6, xK_7 hm, xN_7 hm, xQ_7 hm, mw_7, mw_up7, xK_8 hm, xN_8 hm, xQ_8 hm, mw_8, mw_up8, xK_9 hm, xN_9 hm, xQ_9 hm, mw_9, mw_up9, xK_10 hm, xN_10 hm, xQ_10 hm, mw_10, mw_up10, xK_11 hm, xN_11 hm, xQ_11 hm, mw_11, mw_up11, xK_12 hm, xN_12 hm, xQ_12 hm, mw_12, mw_up12, xK_13 hm, xN_13 hm, xQ_13 hm, mw_13, mw_up13, xK_14 hm, xN_14 hm, xQ_14 hm, mw_14, mw_up14, xK_15 hm, xN_15 hm, xQ_15 hm, mw_15, mw_up15, xK_16 hm, xN_16 hm, xQ_16 hm, mw_16, mw_up16, xK_17 hm, xN_17 hm, xQ_17 hm, mw_17, mw_up17, xK_18 hm, xN_18 hm, xQ_18 hm, mw_18, mw_up18, xK_19 hm, xN_19 hm, xQ_19 hm, mw_19, mw_up19, xK_20 hm, xN_20 hm, xQ_20 hm, mw_20, mw_up20, xK_21 hm, xN_21 hm, xQ_21 hm, mw_21, mw_up21, xK_22 hm, xN_22 hm, xQ_22 hm, mw_22, mw_up22, xK_23 hm, xN_23 hm, xQ_23 hm, mw_23, mw_up23, xK_24 hm, xN_24 hm, xQ_24 hm, mw_24, mw_up24, xK_25 hm, xN_25 hm, xQ_25 hm, mw_25, mw_up25, xK_26 hm, xN_26 hm, xQ_26 hm, mw_26, mw_up26, xK_27 hm, xN_27 hm, xQ_27 hm, mw_27, mw_up27, xK_28 hm, xN_28 hm, xQ_28 hm, mw_28, mw_up28, xK_29 hm, xN_29 hm, xQ_29 hm, mw_29, mw_up29, xK_30 hm, xN_30 hm, xQ_30 hm, mw_30, mw_up30, xK_31 hm, xN_31 hm, xQ_31 hm, mw_31, mw_up31, xK_32 hm, xN_32 hm, xQ_32 hm, mw_32, mw_up32, xK_33 hm, xN_33 hm, xQ_33 hm, mw_33, mw_up33, xK_34 hm, xN_34 hm, xQ_34 hm, mw_34, mw_up34, xK_35 hm, xN_35 hm, xQ_35 hm, mw_35, mw_up35, xK_36 hm, xN_36 hm, xQ_36 hm, mw_36, mw_up36, xK_37 hm, xN_37 hm, xQ_37 hm, mw_37, mw_up37, bd2 hdq (show d * 12 + q < 2 ^ 31 by omega), nI_clamp (show d * 12 + q < 2 ^ 31 by omega), not_false_eq_true, if_true]
        have h1 : ∀ c j, ¬ (c = 20 ∧ j = d * 12 + q) → ¬ (c = 0 ∧ j = 0) → uF (uF (uF G 0 0 0) 0 0 0) 20 (d * 12 + q) (nI v) c j = G c j := fun c j h1 h2 => by rw [uF_ne (by omega), uF_ne (by omega), uF_ne (by omega)]
        have m1 : mT (uF (uF (uF G 0 0 0) 0 0 0) 20 (d * 12 + q) (nI v)) (uDs T d ((T.2.2.2.2.2.2 d).1.set q v, (T.2.2.2.2.2.2 d).2)) := by
          refine hG.ds (fun c j hc h0 => h1 c j (by omega) h0) ⟨fun r hr => (h1 _ _ (by omega) (by omega)).trans (b1 r hr), fun r u2 hu2 => ?_, (h1 _ _ (by omega) (by omega)).trans b3, (h1 _ _ (by omega) (by omega)).trans b4, fun i g hg => ⟨(h1 _ _ (by omega) (by omega)).trans (b5 i g hg).1, (h1 _ _ (by omega) (by omega)).trans (b5 i g hg).2.1, (h1 _ _ (by omega) (by omega)).trans (b5 i g hg).2.2⟩⟩ (fun e he hne => ?_)
          · simp only [List.getElem?_set] at hu2
            by_cases hrq : q = r
            · rw [if_pos hrq, if_pos (by omega)] at hu2
              cases hu2
              rw [← hrq, uF_eq]
            · rw [if_neg hrq] at hu2
              rw [h1 _ _ (by omega) (by omega)]
              exact b2 r u2 hu2
          · obtain ⟨b1, b2, b3, b4, b5⟩ := hG.2.2.2.2.2 e he
            refine ⟨fun r hr => (h1 _ _ (by omega) (by omega)).trans (b1 r hr), fun r v hv => ?_, (h1 _ _ (by omega) (by omega)).trans b3, (h1 _ _ (by omega) (by omega)).trans b4, fun i g hg => ⟨(h1 _ _ (by omega) (by omega)).trans (b5 i g hg).1, (h1 _ _ (by omega) (by omega)).trans (b5 i g hg).2.1, (h1 _ _ (by omega) (by omega)).trans (b5 i g hg).2.2⟩⟩
            have hr12 : r < 12 := by
              have := (List.getElem?_eq_some_iff.mp hv).1
              have := (hw.2.2.2.2.2.2.2.2.2.2 e he).1.1
              omega
            exact (h1 _ _ (by omega) (by omega)).trans (b2 r v hv)
        obtain ⟨G2, e1, e2, e3⟩ := x_marks (I := I) hm m1.2.1 hw.2.1 hd
        rw [e1]
        exact ⟨G2, rfl, by rw [e2 _ _ (by decide), uF_ne (Or.inl (by decide)), uF_eq], m1.mark (show T.2.2.2.1.length = slN T.2.1 T.2.1.length + 1 from hw.2.2.2.2.2.1) hw.2.1 hd e2 e3⟩
end
