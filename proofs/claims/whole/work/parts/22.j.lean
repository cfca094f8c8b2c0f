section
variable {S : PS} {I G : Nat → Nat → Int32} {m : Nat} {T : St}
theorem x_takes (hm : mS S m) (hG : mT G T) (hw : wf T) {p : Nat} (hp : p < T.2.1.length) : ∃ G', f_X10_takesOut (sI S (mw I m G)) m (nI p) = some (sI S (mw I m G')) ∧ mT G' (uTake T p) ∧ (∀ j, j ≠ 3 → G' 0 j = G 0 j) ∧ ∀ k, 27 ≤ k → ∀ j, G' k j = G k j := by
  obtain ⟨a1, a2, a3, a4, a5, a6⟩ := id hG
  have hn := hw.2.2.2.2.2.1
  have h3 := hw.2.2.1
  have hwl := hw.2.2.2.1
  have h160 := hw.2.1
  have hsl : slN T.2.1 (p + 1) ≤ slN T.2.1 T.2.1.length := slN_mono T.2.1 hp
  have hsl0 : slN T.2.1 p ≤ slN T.2.1 T.2.1.length := slN_mono T.2.1 (by omega)
  have hsl2 := slN_le T.2.1 T.2.1.length
  unfold f_X10_takesOut
  simp only [kK_sI, kQ_sI, kN_sI, kI_sI, wI_sI, Option.bind_some, lt, mw_0, mw_up0, xK_0 hm, xK_1 hm, xN_1 hm, xQ_1 hm, mw_1, mw_up1, xK_2 hm, xN_2 hm, xQ_2 hm, mw_2, mw_up2, xK_3 hm, xN_3 hm, xQ_3 hm, mw_3, mw_up3, xK_4 hm, xN_4 hm, xQ_4 hm, mw_4, mw_up4, xK_5 hm, xN_5 hm, xQ_5 hm, mw_5, mw_up5, xK_6 hm, xN_6 hm, xQ_6 hm, mw_6, mw_up6, xK_7 hm, xN_7 hm, xQ_7 hm, mw_7, mw_up7, xK_8 hm, xN_8 hm, xQ_8 hm, mw_8, mw_up8, xK_9 hm, xN_9 hm, xQ_9 hm, mw_9, mw_up9, xK_10 hm, xN_10 hm, xQ_10 hm, mw_10, mw_up10, xK_11 hm, xN_11 hm, xQ_11 hm, mw_11, mw_up11, xK_12 hm, xN_12 hm, xQ_12 hm, mw_12, mw_up12, xK_13 hm, xN_13 hm, xQ_13 hm, mw_13, mw_up13, xK_14 hm, xN_14 hm, xQ_14 hm, mw_14, mw_up14, xK_15 hm, xN_15 hm, xQ_15 hm, mw_15, mw_up15, xK_16 hm, xN_16 hm, xQ_16 hm, mw_16, mw_up16, xK_17 hm, xN_17 hm, xQ_17 hm, mw_17, mw_up17, xK_18 hm, xN_18 hm, xQ_18 hm, mw_18, mw_up18, xK_19 hm, xN_19 hm, xQ_19 hm, mw_19, mw_up19, xK_20 hm, xN_20 hm, xQ_20 hm, mw_20, mw_up20, xK_21 hm, xN_21 hm, xQ_21 hm, mw_21, mw_up21, xK_22 hm, xN_22 hm, xQ_22 hm, mw_22, mw_up22, xK_23 hm, xN_23 hm, xQ_23 hm, mw_23, mw_up23, xK_24 hm, xN_24 hm, xQ_24 hm, mw_24, mw_up24, xK_25 hm, xN_25 hm, xQ_25 hm, mw_25, mw_up25, xK_26 hm, xN_26 hm, xQ_26 hm, mw_26, mw_up26, xK_27 hm, xN_27 hm, xQ_27 hm, mw_27, mw_up27, xK_28 hm, xN_28 hm, xQ_28 hm, mw_28, mw_up28, xK_29 hm, xN_29 hm, xQ_29 hm, mw_29, mw_up29, xK_30 hm, xN_30 hm, xQ_30 hm, mw_30, mw_up30, xK_31 hm, xN_31 hm, xQ_31 hm, mw_31, mw_up31, xK_32 hm, xN_32 hm, xQ_32 hm, mw_32, mw_up32, xK_33 hm, xN_33 hm, xQ_33 hm, mw_33, mw_up33, xK_34 hm, xN_34 hm, xQ_34 hm, mw_34, mw_up34, xK_35 hm, xN_35 hm, xQ_35 hm, mw_35, mw_up35, xK_36 hm, xN_36 hm, xQ_36 hm, mw_36, mw_up36, xK_37 hm, xN_37 hm, xQ_37 hm, mw_37, mw_up37, if_true, x_ends hm a2 hw.2.1 (show p ≤ T.2.1.length by omega), x_paras hm a2 hw.2.1, nI_clamp (show p < 2 ^ 31 by omega), bd2 (show p < 161 by omega) (show p < 2 ^ 31 by omega), not_false_eq_true, a2.2.1 p hp]
  generalize ht : T.2.1 = t at *
  generalize hwr : T.2.2.1 = wr at *
  obtain ⟨z, e1, G1, rfl, f1, f2, f3⟩ := it_up (b := fun (v : Int32 × PS) => f_X10_takesOut_b22 m v.1 v.2) (t.length - 1)
    (P := fun k s => p ≤ k ∧ ∃ G', s = (nI k, sI S (mw I m G')) ∧ (∀ c j, c ≠ 1 → c ≠ 2 → G' c j = G c j) ∧ (∀ j, G' 1 j = if p ≤ j ∧ j < k then G 1 (j + 1) else G 1 j) ∧ ∀ j, G' 2 j = if p ≤ j ∧ j < k then G 2 (j + 1) else G 2 j)
    (Q := fun z => ∃ G', z = sI S (mw I m G') ∧ (∀ c j, c ≠ 1 → c ≠ 2 → G' c j = G c j) ∧ (∀ j, G' 1 j = if p ≤ j ∧ j < t.length - 1 then G 1 (j + 1) else G 1 j) ∧ ∀ j, G' 2 j = if p ≤ j ∧ j < t.length - 1 then G 2 (j + 1) else G 2 j)
    (fun k s hk9 ⟨hk1, G', e, f1, f2, f3⟩ => by
      subst e
      simp only
      unfold f_X10_takesOut_b22
      have hr : G' 1 (k + 1) = la t (k + 1) := by rw [f2, if_neg (by omega)]; exact a2.2.1 _ (by omega)
      have hid := (char_id (Or.inl (h3 (k + 1) (by omega)))).2
      simp only [kK_sI, kQ_sI, kN_sI, kI_sI, wI_sI, Option.bind_some, lt, mw_0, mw_up0, xK_0 hm, xK_1 hm, xN_1 hm, xQ_1 hm, mw_1, mw_up1, xK_2 hm, xN_2 hm, xQ_2 hm, mw_2, mw_up2, xK_3 hm, xN_3 hm, xQ_3 hm, mw_3, mw_up3, xK_4 hm, xN_4 hm, xQ_4 hm, mw_4, mw_up4, xK_5 hm, xN_5 hm, xQ_5 hm, mw_5, mw_up5, xK_6 hm, xN_6 hm, xQ_6 hm, mw_6, mw_up6, xK_7 hm, xN_7 hm, xQ_7 hm, mw_7, mw_up7, xK_8 hm, xN_8 hm, xQ_8 hm, mw_8, mw_up8, xK_9 hm, xN_9 hm, xQ_9 hm, mw_9, mw_up9, xK_10 hm, xN_10 hm, xQ_10 hm, mw_10, mw_up10, xK_11 hm, xN_11 hm, xQ_11 hm, mw_11, mw_up11, xK_12 hm, xN_12 hm, xQ_12 hm, mw_12, mw_up12, xK_13 hm, xN_13 hm, xQ_13 hm, mw_13, mw_up13, xK_14 hm, xN_14 hm, xQ_14 hm, mw_14, mw_up14, xK_15 hm, xN_15 hm, xQ_15 hm, mw_15, mw_up15, xK_16 hm, xN_16 hm, xQ_16 hm, mw_16, mw_up16, xK_17 hm, xN_17 hm, xQ_17 hm, mw_17, mw_up17, xK_18 hm, xN_18 hm, xQ_18 hm, mw_18, mw_up18, xK_19 hm, xN_19 hm, xQ_19 hm, mw_19, mw_up19, xK_20 hm, xN_20 hm, xQ_20 hm, mw_20, mw_up20, xK_21 hm, xN_21 hm, xQ_21 hm, mw_21, mw_up21, xK_22 hm, xN_22 hm, xQ_22 hm, mw_22, mw_up22, xK_23 hm, xN_23 hm, xQ_23 hm, mw_23, mw_up23, xK_24 hm, xN_24 hm, xQ_24 hm, mw_24, mw_up24, xK_25 hm, xN_25 hm, xQ_25 hm, mw_25, mw_up25, xK_26 hm, xN_26 hm, xQ_26 hm, mw_26, mw_up26, xK_27 hm, xN_27 hm, xQ_27 hm, mw_27, mw_up27, xK_28 hm, xN_28 hm, xQ_28 hm, mw_28, mw_up28, xK_29 hm, xN_29 hm, xQ_29 hm, mw_29, mw_up29, xK_30 hm, xN_30 hm, xQ_30 hm, mw_30, mw_up30, xK_31 hm, xN_31 hm, xQ_31 hm, mw_31, mw_up31, xK_32 hm, xN_32 hm, xQ_32 hm, mw_32, mw_up32, xK_33 hm, xN_33 hm, xQ_33 hm, mw_33, mw_up33, xK_34 hm, xN_34 hm, xQ_34 hm, mw_34, mw_up34, xK_35 hm, xN_35 hm, xQ_35 hm, mw_35, mw_up35, xK_36 hm, xN_36 hm, xQ_36 hm, mw_36, mw_up36, xK_37 hm, xN_37 hm, xQ_37 hm, mw_37, mw_up37, if_true, f1 0 3 (by decide) (by decide), a2.1, nI_sub1 (show 0 < t.length by omega), nI_leI (show t.length - 1 < 2 ^ 31 by omega) (show k < 2 ^ 31 by omega), if_neg (show ¬ t.length - 1 ≤ k by omega), nI_1, nI_clamp (show k < 2 ^ 31 by omega), nI_clamp (show k + 1 < 2 ^ 31 by omega), bd2 (show k < 161 by omega) (show k < 2 ^ 31 by omega), bd2 (show k + 1 < 161 by omega) (show k + 1 < 2 ^ 31 by omega), not_false_eq_true, hr, hid]
      refine Or.inl ⟨_, rfl, by omega, _, rfl, fun c j h1 h2 => by rw [uF_ne (Or.inl h2), uF_ne (Or.inl h1)]; exact f1 c j h1 h2, fun j => ?_, fun j => ?_⟩
      · rw [uF_ne (Or.inl (by decide)), uF_at]
        by_cases e : j = k
        · rw [if_pos ⟨rfl, e⟩, if_pos (by omega), e, ← hr, f2, if_neg (by omega)]
        · rw [if_neg (fun z => e z.2), f2]
          by_cases e2 : p ≤ j ∧ j < k
          · rw [if_pos e2, if_pos (by omega)]
          · rw [if_neg e2, if_neg (by omega)]
      · rw [uF_at, uF_ne (Or.inl (by decide))]
        by_cases e : j = k
        · rw [if_pos ⟨rfl, e⟩, if_pos (by omega), e, f3, if_neg (by omega)]
        · rw [if_neg (fun z => e z.2), uF_ne (Or.inl (by decide)), f3]
          by_cases e2 : p ≤ j ∧ j < k
          · rw [if_pos e2, if_pos (by omega)]
          · rw [if_neg e2, if_neg (by omega)])
    (fun s ⟨hk1, G', e, f1, f2, f3⟩ => by
      subst e
      refine ⟨_, ?_, G', rfl, f1, f2, f3⟩
      simp only
      unfold f_X10_takesOut_b22
      simp only [kK_sI, kQ_sI, kN_sI, kI_sI, wI_sI, Option.bind_some, lt, mw_0, mw_up0, xK_0 hm, xK_1 hm, xN_1 hm, xQ_1 hm, mw_1, mw_up1, xK_2 hm, xN_2 hm, xQ_2 hm, mw_2, mw_up2, xK_3 hm, xN_3 hm, xQ_3 hm, mw_3, mw_up3, xK_4 hm, xN_4 hm, xQ_4 hm, mw_4, mw_up4, xK_5 hm, xN_5 hm, xQ_5 hm, mw_5, mw_up5, xK_6 hm, xN_6 hm, xQ_6 hm, mw_6, mw_up6, xK_7 hm, xN_7 hm, xQ_7 hm, mw_7, mw_up7, xK_8 hm, xN_8 hm, xQ_8 hm, mw_8, mw_up8, xK_9 hm, xN_9 hm, xQ_9 hm, mw_9, mw_up9, xK_10 hm, xN_10 hm, xQ_10 hm, mw_10, mw_up10, xK_11 hm, xN_11 hm, xQ_11 hm, mw_11, mw_up11, xK_12 hm, xN_12 hm, xQ_12 hm, mw_12, mw_up12, xK_13 hm, xN_13 hm, xQ_13 hm, mw_13, mw_up13, xK_14 hm, xN_14 hm, xQ_14 hm, mw_14, mw_up14, xK_15 hm, xN_15 hm, xQ_15 hm, mw_15, mw_up15, xK_16 hm, xN_16 hm, xQ_16 hm, mw_16, mw_up16, xK_17 hm, xN_17 hm, xQ_17 hm, mw_17, mw_up17, xK_18 hm, xN_18 hm, xQ_18 hm, mw_18, mw_up18, xK_19 hm, xN_19 hm, xQ_19 hm, mw_19, mw_up19, xK_20 hm, xN_20 hm, xQ_20 hm, mw_20, mw_up20, xK_21 hm, xN_21 hm, xQ_21 hm, mw_21, mw_up21, xK_22 hm, xN_22 hm, xQ_22 hm, mw_22, mw_up22, xK_23 hm, xN_23 hm, xQ_23 hm, mw_23, mw_up23, xK_24 hm, xN_24 hm, xQ_24 hm, mw_24, mw_up24, xK_25 hm, xN_25 hm, xQ_25 hm, mw_25, mw_up25, xK_26 hm, xN_26 hm, xQ_26 hm, mw_26, mw_up26, xK_27 hm, xN_27 hm, xQ_27 hm, mw_27, mw_up27, xK_28 hm, xN_28 hm, xQ_28 hm, mw_28, mw_up28, xK_29 hm, xN_29 hm, xQ_29 hm, mw_29, mw_up29, xK_30 hm, xN_30 hm, xQ_30 hm, mw_30, mw_up30, xK_31 hm, xN_31 hm, xQ_31 hm, mw_31, mw_up31, xK_32 hm, xN_32 hm, xQ_32 hm, mw_32, mw_up32, xK_33 hm, xN_33 hm, xQ_33 hm, mw_33, mw_up33, xK_34 hm, xN_34 hm, xQ_34 hm, mw_34, mw_up34, xK_35 hm, xN_35 hm, xQ_35 hm, mw_35, mw_up35, xK_36 hm, xN_36 hm, xQ_36 hm, mw_36, mw_up36, xK_37 hm, xN_37 hm, xQ_37 hm, mw_37, mw_up37, if_true, f1 0 3 (by decide) (by decide), a2.1, nI_sub1 (show 0 < t.length by omega), nI_leI (show t.length - 1 < 2 ^ 31 by omega) (show t.length - 1 < 2 ^ 31 by omega), Nat.le_refl])
    p (nI p, sI S (mw I m G)) ⟨Nat.le_refl _, G, rfl, fun _ _ _ _ => rfl, fun j => by rw [if_neg (by omega)], fun j => by rw [if_neg (by omega)]⟩ (by omega) kF (by unfold kF; omega)
  rw [e1]
  simp only [kK_sI, kQ_sI, kN_sI, kI_sI, wI_sI, Option.bind_some, lt, mw_0, mw_up0, xK_0 hm, xK_1 hm, xN_1 hm, xQ_1 hm, mw_1, mw_up1, xK_2 hm, xN_2 hm, xQ_2 hm, mw_2, mw_up2, xK_3 hm, xN_3 hm, xQ_3 hm, mw_3, mw_up3, xK_4 hm, xN_4 hm, xQ_4 hm, mw_4, mw_up4, xK_5 hm, xN_5 hm, xQ_5 hm, mw_5, mw_up5, xK_6 hm, xN_6 hm, xQ_6 hm, mw_6, mw_up6, xK_7 hm, xN_7 hm, xQ_7 hm, mw_7, mw_up7, xK_8 hm, xN_8 hm, xQ_8 hm, mw_8, mw_up8, xK_9 hm, xN_9 hm, xQ_9 hm, mw_9, mw_up9, xK_10 hm, xN_10 hm, xQ_10 hm, mw_10, mw_up10, xK_11 hm, xN_11 hm, xQ_11 hm, mw_11, mw_up11, xK_12 hm, xN_12 hm, xQ_12 hm, mw_12, mw_up12, xK_13 hm, xN_13 hm, xQ_13 hm, mw_13, mw_up13, xK_14 hm, xN_14 hm, xQ_14 hm, mw_14, mw_up14, xK_15 hm, xN_15 hm, xQ_15 hm, mw_15, mw_up15, xK_16 hm, xN_16 hm, xQ_16 hm, mw_16, mw_up16, xK_17 hm, xN_17 hm, xQ_17 hm, mw_17, mw_up17, xK_18 hm, xN_18 hm, xQ_18 hm, mw_18, mw_up18, xK_19 hm, xN_19 hm, xQ_19 hm, mw_19, mw_up19, xK_20 hm, xN_20 hm, xQ_20 hm, mw_20, mw_up20, xK_21 hm, xN_21 hm, xQ_21 hm, mw_21, mw_up21, xK_22 hm, xN_22 hm, xQ_22 hm, mw_22, mw_up22, xK_23 hm, xN_23 hm, xQ_23 hm, mw_23, mw_up23, xK_24 hm, xN_24 hm, xQ_24 hm, mw_24, mw_up24, xK_25 hm, xN_25 hm, xQ_25 hm, mw_25, mw_up25, xK_26 hm, xN_26 hm, xQ_26 hm, mw_26, mw_up26, xK_27 hm, xN_27 hm, xQ_27 hm, mw_27, mw_up27, xK_28 hm, xN_28 hm, xQ_28 hm, mw_28, mw_up28, xK_29 hm, xN_29 hm, xQ_29 hm, mw_29, mw_up29, xK_30 hm, xN_30 hm, xQ_30 hm, mw_30, mw_up30, xK_31 hm, xN_31 hm, xQ_31 hm, mw_31, mw_up31, xK_32 hm, xN_32 hm, xQ_32 hm, mw_32, mw_up32, xK_33 hm, xN_33 hm, xQ_33 hm, mw_33, mw_up33, xK_34 hm, xN_34 hm, xQ_34 hm, mw_34, mw_up34, xK_35 hm, xN_35 hm, xQ_35 hm, mw_35, mw_up35, xK_36 hm, xN_36 hm, xQ_36 hm, mw_36, mw_up36, xK_37 hm, xN_37 hm, xQ_37 hm, mw_37, mw_up37, if_true, f1 0 3 (by decide) (by decide), a2.1, nI_sub1 (show 0 < t.length by omega)]
  -- the text
  have x1 : mTx (uF G1 0 3 (nI (t.length - 1))) (t.eraseIdx p) (wr.eraseIdx p) := by
    have hlen : (t.eraseIdx p).length = t.length - 1 := by rw [List.length_eraseIdx, if_pos hp]
    refine ⟨by rw [uF_eq, hlen], fun j hj => ?_, fun j hj => ?_⟩
    · rw [hlen] at hj
      rw [uF_ne (Or.inl (by decide)), f2, la_erase]
      by_cases e2 : j < p
      · rw [if_neg (by omega), if_pos e2]; exact a2.2.1 j (by omega)
      · rw [if_pos (by omega), if_neg e2]; exact a2.2.1 _ (by omega)
    · rw [hlen] at hj
      rw [uF_ne (Or.inl (by decide)), f3, la_erase]
      by_cases e2 : j < p
      · rw [if_neg (by omega), if_pos e2]; exact a2.2.2 j (by omega)
      · rw [if_pos (by omega), if_neg e2]; exact a2.2.2 _ (by omega)
  have g1 : ∀ c9 j, c9 ≠ 1 → c9 ≠ 2 → ¬ (c9 = 0 ∧ j = 3) → uF G1 0 3 (nI (t.length - 1)) c9 j = G c9 j := fun c9 j h1 h2 h3 => by rw [uF_ne (by omega)]; exact f1 c9 j h1 h2
  generalize uF G1 0 3 (nI (t.length - 1)) = H at x1 g1 ⊢
  generalize hmk : T.2.2.2.1 = mks at *
  rw [← hn]
  have hwlt : slN t p < mks.length := by omega
  have hw2 : la t p = 47 → slN t p + 1 < mks.length := fun e => by
    simp only [slN] at hsl
    rw [if_pos e] at hsl
    omega
  obtain ⟨z, e2, G2, rfl, r1, r2, r3, r4⟩ := it_up (b := fun (v : Int32 × PS) => f_X10_takesOut_b84 m (nI p) (nI (slN t p)) (nI mks.length) (la t p) v.1 v.2) 4
    (P := fun i z => ∃ G', z = (nI i, sI S (mw I m G')) ∧ (∀ d, d < i → ∀ q, q < (mkT mks t p).length → G' 26 (d * 161 + q) = bi (tb (la (mkT mks t p) q) d)) ∧ (∀ d, d < i → mDk G' d (uG (T.2.2.2.2.2.2 d) ((T.2.2.2.2.2.2 d).2.2.2.filterMap (fT p)))) ∧ (∀ c j, (c < 22 ∨ 26 < c) → G' c j = H c j) ∧ ∀ d, i ≤ d → d < 4 → (∀ q, q < mks.length → G' 26 (d * 161 + q) = bi (tb (la mks q) d)) ∧ mDk G' d (T.2.2.2.2.2.2 d))
    (Q := fun z => ∃ G', z = sI S (mw I m G') ∧ (∀ d, d < 4 → ∀ q, q < (mkT mks t p).length → G' 26 (d * 161 + q) = bi (tb (la (mkT mks t p) q) d)) ∧ (∀ d, d < 4 → mDk G' d (uG (T.2.2.2.2.2.2 d) ((T.2.2.2.2.2.2 d).2.2.2.filterMap (fT p)))) ∧ (∀ c j, (c < 22 ∨ 26 < c) → G' c j = H c j) ∧ True)
    (fun i z hi ⟨G', e, h1, h2, h3, h4⟩ => by
      subst e
      obtain ⟨m1, m2⟩ := h4 i (Nat.le_refl _) hi
      obtain ⟨⟨-, -, -, w20, w5, -⟩, w9⟩ := hw.2.2.2.2.2.2.2.2.2.2 i hi
      obtain ⟨G2, e3, q1, q2, q3⟩ := x_td (I := I) hm hi m1 m2 w20 (fun g hg => by
        obtain ⟨j, hj⟩ := List.getElem?_of_mem hg
        have := w5 j g hj
        omega) (by omega) hwlt hw2 (by omega)
      have hml : (mkT mks t p).length ≤ 161 := by rw [mkT_len hwlt hw2]; split <;> omega
      have keep : ∀ d, d < 4 → d ≠ i → ∀ k, mDk G' d k → k.2.2.2.length ≤ 20 → k.1.length = 12 → mDk G2 d k := fun d hd hne k ⟨b1, b2, b3, b4, b5⟩ h20 h12 => ⟨fun r hr => (q3 _ _ (by omega) (by omega) (by omega)).trans (b1 r hr), fun r v hv => (q3 _ _ (by omega) (by omega) (by omega)).trans (b2 r v hv), (q3 _ _ (by omega) (by omega) (by omega)).trans b3, (q3 _ _ (by omega) (by omega) (by omega)).trans b4, fun j g hg => by
        have hj := (List.getElem?_eq_some_iff.mp hg).1
        exact ⟨(q3 _ _ (by omega) (by omega) (by omega)).trans (b5 j g hg).1, (q3 _ _ (by omega) (by omega) (by omega)).trans (b5 j g hg).2.1, (q3 _ _ (by omega) (by omega) (by omega)).trans (b5 j g hg).2.2⟩⟩
      refine Or.inl ⟨_, e3, G2, rfl, fun d hd q hq => ?_, fun d hd => ?_, fun c j hc => (q3 c j (by omega) (by omega) (by omega)).trans (h3 c j hc), fun d hd1 hd2 => ⟨fun q hq => ?_, ?_⟩⟩
      · by_cases e : d = i
        · rw [e]; exact q1 q hq
        · rw [q3 _ _ (by omega) (by omega) (by omega)]; exact h1 d (by omega) q hq
      · by_cases e : d = i
        · rw [e]; exact q2
        · obtain ⟨⟨w12, -, -, w20, -, -⟩, -⟩ := hw.2.2.2.2.2.2.2.2.2.2 d (by omega)
          exact keep d (by omega) e _ (h2 d (by omega)) (Nat.le_trans (List.length_filterMap_le _ _) w20) w12
      · rw [q3 _ _ (by omega) (by omega) (by omega)]; exact (h4 d (by omega) hd2).1 q hq
      · obtain ⟨⟨w12, -, -, w20, -, -⟩, -⟩ := hw.2.2.2.2.2.2.2.2.2.2 d (by omega)
        exact keep d hd2 (by omega) _ (h4 d (by omega) hd2).2 w20 w12)
    (fun z ⟨G', e, h1, h2, h3, h4⟩ => by
      subst e
      refine ⟨_, ?_, G', rfl, h1, h2, h3, trivial⟩
      unfold f_X10_takesOut_b84
      rw [if_pos (show (4 : Int32) ≤ nI 4 by decide +kernel)])
    0 (0, sI S (mw I m H)) ⟨H, rfl, fun d hd => absurd hd (Nat.not_lt_zero _), fun d hd => absurd hd (Nat.not_lt_zero _), fun _ _ _ => rfl, fun d _ hd => ⟨fun q hq => (g1 _ _ (by decide) (by decide) (by omega)).trans (a3 d hd q hq), (a6 d hd).ext (fun k h1 h2 j => g1 _ _ (by omega) (by omega) (by omega))⟩⟩ (Nat.zero_le _) kF (by unfold kF; omega)
  rw [e2]
  refine ⟨G2, rfl, ⟨⟨((r3 0 5 (by decide)).trans (g1 0 5 (by decide) (by decide) (by decide))).trans a1.1, fun j hj => ((r3 3 j (by decide)).trans (g1 3 j (by decide) (by decide) (by omega))).trans (a1.2 j hj)⟩, ?_, ?_, a4.ext (fun k h1 h2 j => (r3 k j (by omega)).trans (g1 k j (by omega) (by omega) (by omega))) ((r3 0 6 (by decide)).trans (g1 0 6 (by decide) (by decide) (by decide))), a5.ext (fun k h1 h2 j => (r3 k j (by omega)).trans (g1 k j (by omega) (by omega) (by omega))) ((r3 0 20 (by decide)).trans (g1 0 20 (by decide) (by decide) (by decide))), fun d hd => ?_⟩, fun j hj => (r3 0 j (by decide)).trans (g1 0 j (by decide) (by decide) (by omega)), fun k hk j => (r3 k j (by omega)).trans (g1 k j (by omega) (by omega) (by omega))⟩
  · show mTx G2 (T.2.1.eraseIdx p) (T.2.2.1.eraseIdx p)
    rw [ht, hwr]
    exact x1.ext (r3 0 3 (by decide)) (fun j => r3 1 j (by decide)) (fun j => r3 2 j (by decide))
  · show mMk G2 (mkT T.2.2.2.1 T.2.1 p)
    rw [hmk, ht]
    exact r1
  · exact r2 d hd
theorem mx_take (hm : mS S m) (hG : mT G T) (hw : wf T) (p : Int32) : mZ S I m T (fun _ => 1) 32 (f_X10_take (sI S (mw I m G)) m p) (a_take T p) := by
  have h160 := hw.2.1
  unfold f_X10_take a_take
  simp only [kK_sI, kQ_sI, kN_sI, kI_sI, wI_sI, Option.bind_some, lt, mw_0, mw_up0, xK_0 hm, xK_1 hm, xN_1 hm, xQ_1 hm, mw_1, mw_up1, xK_2 hm, xN_2 hm, xQ_2 hm, mw_2, mw_up2, xK_3 hm, xN_3 hm, xQ_3 hm, mw_3, mw_up3, xK_4 hm, xN_4 hm, xQ_4 hm, mw_4, mw_up4, xK_5 hm, xN_5 hm, xQ_5 hm, mw_5, mw_up5, xK_6 hm, xN_6 hm, xQ_6 hm, mw_6, mw_up6, xK_7 hm, xN_7 hm, xQ_7 hm, mw_7, mw_up7, xK_8 hm, xN_8 hm, xQ_8 hm, mw_8, mw_up8, xK_9 hm, xN_9 hm, xQ_9 hm, mw_9, mw_up9, xK_10 hm, xN_10 hm, xQ_10 hm, mw_10, mw_up10, xK_11 hm, xN_11 hm, xQ_11 hm, mw_11, mw_up11, xK_12 hm, xN_12 hm, xQ_12 hm, mw_12, mw_up12, xK_13 hm, xN_13 hm, xQ_13 hm, mw_13, mw_up13, xK_14 hm, xN_14 hm, xQ_14 hm, mw_14, mw_up14, xK_15 hm, xN_15 hm, xQ_15 hm, mw_15, mw_up15, xK_16 hm, xN_16 hm, xQ_16 hm, mw_16, mw_up16, xK_17 hm, xN_17 hm, xQ_17 hm, mw_17, mw_up17, xK_18 hm, xN_18 hm, xQ_18 hm, mw_18, mw_up18, xK_19 hm, xN_19 hm, xQ_19 hm, mw_19, mw_up19, xK_20 hm, xN_20 hm, xQ_20 hm, mw_20, mw_up20, xK_21 hm, xN_21 hm, xQ_21 hm, mw_21, mw_up21, xK_22 hm, xN_22 hm, xQ_22 hm, mw_22, mw_up22, xK_23 hm, xN_23 hm, xQ_23 hm, mw_23, mw_up23, xK_24 hm, xN_24 hm, xQ_24 hm, mw_24, mw_up24, xK_25 hm, xN_25 hm, xQ_25 hm, mw_25, mw_up25, xK_26 hm, xN_26 hm, xQ_26 hm, mw_26, mw_up26, xK_27 hm, xN_27 hm, xQ_27 hm, mw_27, mw_up27, xK_28 hm, xN_28 hm, xQ_28 hm, mw_28, mw_up28, xK_29 hm, xN_29 hm, xQ_29 hm, mw_29, mw_up29, xK_30 hm, xN_30 hm, xQ_30 hm, mw_30, mw_up30, xK_31 hm, xN_31 hm, xQ_31 hm, mw_31, mw_up31, xK_32 hm, xN_32 hm, xQ_32 hm, mw_32, mw_up32, xK_33 hm, xN_33 hm, xQ_33 hm, mw_33, mw_up33, xK_34 hm, xN_34 hm, xQ_34 hm, mw_34, mw_up34, xK_35 hm, xN_35 hm, xQ_35 hm, mw_35, mw_up35, xK_36 hm, xN_36 hm, xQ_36 hm, mw_36, mw_up36, xK_37 hm, xN_37 hm, xQ_37 hm, mw_37, mw_up37, if_true, hG.2.1.1, x_ix _ p (show T.2.1.length < 2 ^ 31 by omega), uF_eq, show ¬ (1 : Int32) ≤ 0 by decide, show (0 : Int32) ≤ 0 by decide, if_false]
  cases hp : ix p T.2.1.length with
  | none =>
    simp only [Option.isSome_none, show bi false = 0 from rfl, if_true]
    exact ⟨_, rfl, uF_eq _ _ _ _, hG.th 1⟩
  | some q =>
    obtain ⟨hq, rfl⟩ := ix_some (by omega) hp
    have ht := hw.2.2.1 q hq
    obtain ⟨G', e1, g1, g2, g3⟩ := x_takes (I := I) hm (hG.th 0) hw hq
    simp only [Option.isSome_some, show ¬ bi true = 0 by decide, if_false, bd2 (show q < 161 by omega) (show q < 2 ^ 31 by omega), not_false_eq_true, nI_clamp (show q < 2 ^ 31 by omega), if_true, e1, Option.bind_some]
    rw [uF_ne (Or.inl (by decide)), hG.2.1.2.1 q hq, if_pos (char_id (Or.inl ht)).2]
    exact ⟨G', rfl, (g2 0 (by decide)).trans (uF_eq _ _ _ _), g1⟩
end
