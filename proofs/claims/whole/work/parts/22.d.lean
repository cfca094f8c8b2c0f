/-! the model's paragraphs and marks -/
theorem x_mul12 (a : Nat) : nI a * 12 = nI (a * 12) := pk_mul a 12
theorem x_mul161 (a : Nat) : nI a * 161 = nI (a * 161) := pk_mul a 161
theorem x_mul20 (a : Nat) : nI a * 20 = nI (a * 20) := pk_mul a 20
theorem x_mul3 (a : Nat) : nI a * 3 = nI (a * 3) := pk_mul a 3
theorem x_mul2 (a : Nat) : nI a * 2 = nI (a * 2) := pk_mul a 2
theorem la_mapI {f : Int32 → Int32} {l : List Int32} {j : Nat} (h : j < l.length) : la (l.map f) j = f (la l j) := by
  simp [la, h]
section
variable {S : PS} {I G : Nat → Nat → Int32} {m : Nat} {T : St}
theorem x_ends (hm : mS S m) {t w : List Int32} (hx : mTx G t w) (ht : t.length ≤ 160) {k : Nat} (hk : k ≤ t.length) : f_X10_endsAhead (sI S (mw I m G)) m (nI k) = some (nI (slN t k)) := by
  unfold f_X10_endsAhead
  obtain ⟨z, e1, q⟩ := it_up (b := fun (v : Int32 × Int32) => f_X10_endsAhead_b4 m (nI k) (sI S (mw I m G)) v.1 v.2) k (P := fun i z => z = (nI (slN t i), nI i)) (Q := fun z => z = nI (slN t k)) (fun i z hi hz => by
    subst hz
    refine Or.inl ⟨_, ?_, rfl⟩
    unfold f_X10_endsAhead_b4
    simp only [nI_leI (show k < 2 ^ 31 by omega) (show i < 2 ^ 31 by omega), if_neg (show ¬ k ≤ i by omega), kK_sI, kQ_sI, kN_sI, kI_sI, wI_sI, Option.bind_some, lt, mw_0, mw_up0, xK_0 hm, xK_1 hm, xN_1 hm, xQ_1 hm, mw_1, mw_up1, xK_2 hm, xN_2 hm, xQ_2 hm, mw_2, mw_up2, xK_3 hm, xN_3 hm, xQ_3 hm, mw_3, mw_up3, xK_4 hm, xN_4 hm, xQ_4 hm, mw_4, mw_up4, xK_5 hm, xN_5 hm, xQ_5 hm, mw_5, mw_up5, xK_6 hm, xN_6 hm, xQ_6 hm, mw_6, mw_up6, xK_7 hm, xN_7 hm, xQ_7 hm, mw_7, mw_up7, xK_8 hm, xN_8 hm, xQ_8 hm, mw_8, mw_up8, xK_9 hm, xN_9 hm, xQ_9 hm, mw_9, mw_up9, xK_10 hm, xN_10 hm, xQ_10 hm, mw_10, mw_up10, xK_11 hm, xN_11 hm, xQ_11 hm, mw_11, mw_up11, xK_12 hm, xN_12 hm, xQ_12 hm, mw_12, mw_up12, xK_13 hm, xN_13 hm, xQ_13 hm, mw_13, mw_up13, xK_14 hm, xN_14 hm, xQ_14 hm, mw_14, mw_up14, xK_15 hm, xN_15 hm, xQ_15 hm, mw_15, mw_up15, xK_16 hm, xN_16 hm, xQ_16 hm, mw_16, mw_up16, xK_17 hm, xN_17 hm, xQ_17 hm, mw_17, mw_up17, xK_18 hm, xN_18 hm, xQ_18 hm, mw_18, mw_up18, xK_19 hm, xN_19 hm, xQ_19 hm, mw_19, mw_up19, xK_20 hm, xN_20 hm, xQ_20 hm, mw_20, mw_up20, xK_21 hm, xN_21 hm, xQ_21 hm, mw_21, mw_up21, xK_22 hm, xN_22 hm, xQ_22 hm, mw_22, mw_up22, xK_23 hm, xN_23 hm, xQ_23 hm, mw_23, mw_up23, xK_24 hm, xN_24 hm, xQ_24 hm, mw_24, mw_up24, xK_25 hm, xN_25 hm, xQ_25 hm, mw_25, mw_up25, xK_26 hm, xN_26 hm, xQ_26 hm, mw_26, mw_up26, xK_27 hm, xN_27 hm, xQ_27 hm, mw_27, mw_up27, xK_28 hm, xN_28 hm, xQ_28 hm, mw_28, mw_up28, xK_29 hm, xN_29 hm, xQ_29 hm, mw_29, mw_up29, xK_30 hm, xN_30 hm, xQ_30 hm, mw_30, mw_up30, xK_31 hm, xN_31 hm, xQ_31 hm, mw_31, mw_up31, xK_32 hm, xN_32 hm, xQ_32 hm, mw_32, mw_up32, xK_33 hm, xN_33 hm, xQ_33 hm, mw_33, mw_up33, xK_34 hm, xN_34 hm, xQ_34 hm, mw_34, mw_up34, xK_35 hm, xN_35 hm, xQ_35 hm, mw_35, mw_up35, xK_36 hm, xN_36 hm, xQ_36 hm, mw_36, mw_up36, xK_37 hm, xN_37 hm, xQ_37 hm, mw_37, mw_up37, if_true, nI_clamp (show i < 2 ^ 31 by omega), bd2 (show i < 161 by omega) (show i < 2 ^ 31 by omega), not_false_eq_true, hx.2.1 i (by omega), nI_1]
    by_cases e : la t i = 47
    · rw [if_pos e, show slN t (i + 1) = slN t i + 1 by simp only [slN]; rw [if_pos e]]
    · rw [if_neg e, show slN t (i + 1) = slN t i by simp only [slN]; rw [if_neg e, Nat.add_zero], show nI (slN t i) + 0 = nI (slN t i) by rw [show (0 : Int32) = nI 0 from rfl, nI_add, Nat.add_zero]]) (fun z hz => by
    subst hz
    refine ⟨_, ?_, rfl⟩
    unfold f_X10_endsAhead_b4
    rw [if_pos ((nI_leI (show k < 2 ^ 31 by omega) (show k < 2 ^ 31 by omega)).mpr (Nat.le_refl _))]) 0 (0, 0) rfl (Nat.zero_le _) kF (by unfold kF; omega)
  rw [e1, q]
  rfl
theorem x_paras (hm : mS S m) {t w : List Int32} (hx : mTx G t w) (ht : t.length ≤ 160) : f_X10_paragraphsNow (sI S (mw I m G)) m = some (nI (slN t t.length + 1)) := by
  unfold f_X10_paragraphsNow
  simp only [kK_sI, kQ_sI, kN_sI, kI_sI, wI_sI, Option.bind_some, lt, mw_0, mw_up0, xK_0 hm, xK_1 hm, xN_1 hm, xQ_1 hm, mw_1, mw_up1, xK_2 hm, xN_2 hm, xQ_2 hm, mw_2, mw_up2, xK_3 hm, xN_3 hm, xQ_3 hm, mw_3, mw_up3, xK_4 hm, xN_4 hm, xQ_4 hm, mw_4, mw_up4, xK_5 hm, xN_5 hm, xQ_5 hm, mw_5, mw_up5, xK_6 hm, xN_6 hm, xQ_6 hm, mw_6, mw_up6, xK_7 hm, xN_7 hm, xQ_7 hm, mw_7, mw_up7, xK_8 hm, xN_8 hm, xQ_8 hm, mw_8, mw_up8, xK_9 hm, xN_9 hm, xQ_9 hm, mw_9, mw_up9, xK_10 hm, xN_10 hm, xQ_10 hm, mw_10, mw_up10, xK_11 hm, xN_11 hm, xQ_11 hm, mw_11, mw_up11, xK_12 hm, xN_12 hm, xQ_12 hm, mw_12, mw_up12, xK_13 hm, xN_13 hm, xQ_13 hm, mw_13, mw_up13, xK_14 hm, xN_14 hm, xQ_14 hm, mw_14, mw_up14, xK_15 hm, xN_15 hm, xQ_15 hm, mw_15, mw_up15, xK_16 hm, xN_16 hm, xQ_16 hm, mw_16, mw_up16, xK_17 hm, xN_17 hm, xQ_17 hm, mw_17, mw_up17, xK_18 hm, xN_18 hm, xQ_18 hm, mw_18, mw_up18, xK_19 hm, xN_19 hm, xQ_19 hm, mw_19, mw_up19, xK_20 hm, xN_20 hm, xQ_20 hm, mw_20, mw_up20, xK_21 hm, xN_21 hm, xQ_21 hm, mw_21, mw_up21, xK_22 hm, xN_22 hm, xQ_22 hm, mw_22, mw_up22, xK_23 hm, xN_23 hm, xQ_23 hm, mw_23, mw_up23, xK_24 hm, xN_24 hm, xQ_24 hm, mw_24, mw_up24, xK_25 hm, xN_25 hm, xQ_25 hm, mw_25, mw_up25, xK_26 hm, xN_26 hm, xQ_26 hm, mw_26, mw_up26, xK_27 hm, xN_27 hm, xQ_27 hm, mw_27, mw_up27, xK_28 hm, xN_28 hm, xQ_28 hm, mw_28, mw_up28, xK_29 hm, xN_29 hm, xQ_29 hm, mw_29, mw_up29, xK_30 hm, xN_30 hm, xQ_30 hm, mw_30, mw_up30, xK_31 hm, xN_31 hm, xQ_31 hm, mw_31, mw_up31, xK_32 hm, xN_32 hm, xQ_32 hm, mw_32, mw_up32, xK_33 hm, xN_33 hm, xQ_33 hm, mw_33, mw_up33, xK_34 hm, xN_34 hm, xQ_34 hm, mw_34, mw_up34, xK_35 hm, xN_35 hm, xQ_35 hm, mw_35, mw_up35, xK_36 hm, xN_36 hm, xQ_36 hm, mw_36, mw_up36, xK_37 hm, xN_37 hm, xQ_37 hm, mw_37, mw_up37, if_true, hx.1, x_ends hm hx ht (Nat.le_refl _), nI_1]
theorem x_marks (hm : mS S m) {t w : List Int32} (hx : mTx G t w) (ht : t.length ≤ 160) {d : Nat} (hd : d < 4) : ∃ G', f_X10_marks (sI S (mw I m G)) m (nI d) = some (sI S (mw I m G')) ∧ (∀ k j, k ≠ 26 → G' k j = G k j) ∧ ∀ j, G' 26 j = if d * 161 ≤ j ∧ j < d * 161 + (slN t t.length + 1) then 1 else G 26 j := by
  have hs := slN_le t t.length
  unfold f_X10_marks
  obtain ⟨z, e1, G', rfl, h1, h2⟩ := it_up (b := fun (v : Int32 × PS) => f_X10_marks_b2 m (nI d) v.1 v.2) (slN t t.length + 1)
    (P := fun i z => ∃ G', z = (nI i, sI S (mw I m G')) ∧ (∀ k j, k ≠ 26 → G' k j = G k j) ∧ ∀ j, G' 26 j = if d * 161 ≤ j ∧ j < d * 161 + i then 1 else G 26 j)
    (Q := fun z => ∃ G', z = sI S (mw I m G') ∧ (∀ k j, k ≠ 26 → G' k j = G k j) ∧ ∀ j, G' 26 j = if d * 161 ≤ j ∧ j < d * 161 + (slN t t.length + 1) then 1 else G 26 j)
    (fun i z hi ⟨G', e, h1, h2⟩ => by
      subst e
      have hx' : mTx G' t w := hx.ext (h1 _ _ (by decide)) (fun j => h1 _ _ (by decide)) (fun j => h1 _ _ (by decide))
      refine Or.inl ⟨(nI (i + 1), sI S (mw I m (uF G' 26 (d * 161 + i) 1))), ?_, _, rfl, fun k j hk => (uF_ne (Or.inl hk)).trans (h1 k j hk), fun j => ?_⟩
      · unfold f_X10_marks_b2
        simp only [x_paras hm hx' ht, kK_sI, kQ_sI, kN_sI, kI_sI, wI_sI, Option.bind_some, lt, mw_0, mw_up0, xK_0 hm, xK_1 hm, xN_1 hm, xQ_1 hm, mw_1, mw_up1, xK_2 hm, xN_2 hm, xQ_2 hm, mw_2, mw_up2, xK_3 hm, xN_3 hm, xQ_3 hm, mw_3, mw_up3, xK_4 hm, xN_4 hm, xQ_4 hm, mw_4, mw_up4, xK_5 hm, xN_5 hm, xQ_5 hm, mw_5, mw_up5, xK_6 hm, xN_6 hm, xQ_6 hm, mw_6, mw_up6, xK_7 hm, xN_7 hm, xQ_7 hm, mw_7, mw_up7, xK_8 hm, xN_8 hm, xQ_8 hm, mw_8, mw_up8, xK_9 hm, xN_9 hm, xQ_9 hm, mw_9, mw_up9, xK_10 hm, xN_10 hm, xQ_10 hm, mw_10, mw_up10, xK_11 hm, xN_11 hm, xQ_11 hm, mw_11, mw_up11, xK_12 hm, xN_12 hm, xQ_12 hm, mw_12, mw_up12, xK_13 hm, xN_13 hm, xQ_13 hm, mw_13, mw_up13, xK_14 hm, xN_14 hm, xQ_14 hm, mw_14, mw_up14, xK_15 hm, xN_15 hm, xQ_15 hm, mw_15, mw_up15, xK_16 hm, xN_16 hm, xQ_16 hm, mw_16, mw_up16, xK_17 hm, xN_17 hm, xQ_17 hm, mw_17, mw_up17, xK_18 hm, xN_18 hm, xQ_18 hm, mw_18, mw_up18, xK_19 hm, xN_19 hm, xQ_19 hm, mw_19, mw_up19, xK_20 hm, xN_20 hm, xQ_20 hm, mw_20, mw_up20, xK_21 hm, xN_21 hm, xQ_21 hm, mw_21, mw_up21, xK_22 hm, xN_22 hm, xQ_22 hm, mw_22, mw_up22, xK_23 hm, xN_23 hm, xQ_23 hm, mw_23, mw_up23, xK_24 hm, xN_24 hm, xQ_24 hm, mw_24, mw_up24, xK_25 hm, xN_25 hm, xQ_25 hm, mw_25, mw_up25, xK_26 hm, xN_26 hm, xQ_26 hm, mw_26, mw_up26, xK_27 hm, xN_27 hm, xQ_27 hm, mw_27, mw_up27, xK_28 hm, xN_28 hm, xQ_28 hm, mw_28, mw_up28, xK_29 hm, xN_29 hm, xQ_29 hm, mw_29, mw_up29, xK_30 hm, xN_30 hm, xQ_30 hm, mw_30, mw_up30, xK_31 hm, xN_31 hm, xQ_31 hm, mw_31, mw_up31, xK_32 hm, xN_32 hm, xQ_32 hm, mw_32, mw_up32, xK_33 hm, xN_33 hm, xQ_33 hm, mw_33, mw_up33, xK_34 hm, xN_34 hm, xQ_34 hm, mw_34, mw_up34, xK_35 hm, xN_35 hm, xQ_35 hm, mw_35, mw_up35, xK_36 hm, xN_36 hm, xQ_36 hm, mw_36, mw_up36, xK_37 hm, xN_37 hm, xQ_37 hm, mw_37, mw_up37, if_true, nI_leI (show slN t t.length + 1 < 2 ^ 31 by omega) (show i < 2 ^ 31 by omega), if_neg (show ¬ slN t t.length + 1 ≤ i by omega), x_mul161, nI_add, nI_clamp (show d * 161 + i < 2 ^ 31 by omega), bd2 (show d * 161 + i < 644 by omega) (show d * 161 + i < 2 ^ 31 by omega), not_false_eq_true, nI_1, show vp_nar .boolean 1 = 1 by decide]
      · rw [uF_at, h2]
        by_cases e : j = d * 161 + i
        · rw [if_pos ⟨rfl, e⟩, if_pos (by omega)]
        · rw [if_neg (fun z => e z.2)]
          by_cases e2 : d * 161 ≤ j ∧ j < d * 161 + i
          · rw [if_pos e2, if_pos (by omega)]
          · rw [if_neg e2, if_neg (by omega)])
    (fun z ⟨G', e, h1, h2⟩ => by
      subst e
      have hx' : mTx G' t w := hx.ext (h1 _ _ (by decide)) (fun j => h1 _ _ (by decide)) (fun j => h1 _ _ (by decide))
      refine ⟨_, ?_, G', rfl, h1, h2⟩
      unfold f_X10_marks_b2
      simp only [x_paras hm hx' ht, kK_sI, kQ_sI, kN_sI, kI_sI, wI_sI, Option.bind_some, lt, mw_0, mw_up0, xK_0 hm, xK_1 hm, xN_1 hm, xQ_1 hm, mw_1, mw_up1, xK_2 hm, xN_2 hm, xQ_2 hm, mw_2, mw_up2, xK_3 hm, xN_3 hm, xQ_3 hm, mw_3, mw_up3, xK_4 hm, xN_4 hm, xQ_4 hm, mw_4, mw_up4, xK_5 hm, xN_5 hm, xQ_5 hm, mw_5, mw_up5, xK_6 hm, xN_6 hm, xQ_6 hm, mw_6, mw_up6, xK_7 hm, xN_7 hm, xQ_7 hm, mw_7, mw_up7, xK_8 hm, xN_8 hm, xQ_8 hm, mw_8, mw_up8, xK_9 hm, xN_9 hm, xQ_9 hm, mw_9, mw_up9, xK_10 hm, xN_10 hm, xQ_10 hm, mw_10, mw_up10, xK_11 hm, xN_11 hm, xQ_11 hm, mw_11, mw_up11, xK_12 hm, xN_12 hm, xQ_12 hm, mw_12, mw_up12, xK_13 hm, xN_13 hm, xQ_13 hm, mw_13, mw_up13, xK_14 hm, xN_14 hm, xQ_14 hm, mw_14, mw_up14, xK_15 hm, xN_15 hm, xQ_15 hm, mw_15, mw_up15, xK_16 hm, xN_16 hm, xQ_16 hm, mw_16, mw_up16, xK_17 hm, xN_17 hm, xQ_17 hm, mw_17, mw_up17, xK_18 hm, xN_18 hm, xQ_18 hm, mw_18, mw_up18, xK_19 hm, xN_19 hm, xQ_19 hm, mw_19, mw_up19, xK_20 hm, xN_20 hm, xQ_20 hm, mw_20, mw_up20, xK_21 hm, xN_21 hm, xQ_21 hm, mw_21, mw_up21, xK_22 hm, xN_22 hm, xQ_22 hm, mw_22, mw_up22, xK_23 hm, xN_23 hm, xQ_23 hm, mw_23, mw_up23, xK_24 hm, xN_24 hm, xQ_24 hm, mw_24, mw_up24, xK_25 hm, xN_25 hm, xQ_25 hm, mw_25, mw_up25, xK_26 hm, xN_26 hm, xQ_26 hm, mw_26, mw_up26, xK_27 hm, xN_27 hm, xQ_27 hm, mw_27, mw_up27, xK_28 hm, xN_28 hm, xQ_28 hm, mw_28, mw_up28, xK_29 hm, xN_29 hm, xQ_29 hm, mw_29, mw_up29, xK_30 hm, xN_30 hm, xQ_30 hm, mw_30, mw_up30, xK_31 hm, xN_31 hm, xQ_31 hm, mw_31, mw_up31, xK_32 hm, xN_32 hm, xQ_32 hm, mw_32, mw_up32, xK_33 hm, xN_33 hm, xQ_33 hm, mw_33, mw_up33, xK_34 hm, xN_34 hm, xQ_34 hm, mw_34, mw_up34, xK_35 hm, xN_35 hm, xQ_35 hm, mw_35, mw_up35, xK_36 hm, xN_36 hm, xQ_36 hm, mw_36, mw_up36, xK_37 hm, xN_37 hm, xQ_37 hm, mw_37, mw_up37, if_true, nI_leI (show slN t t.length + 1 < 2 ^ 31 by omega) (show slN t t.length + 1 < 2 ^ 31 by omega), Nat.le_refl])
    0 (0, sI S (mw I m G)) ⟨G, rfl, fun _ _ _ => rfl, fun j => by rw [if_neg (by omega)]⟩ (Nat.zero_le _) kF (by unfold kF; omega)
  rw [e1]
  exact ⟨G', rfl, h1, h2⟩
theorem x_marksAll (hm : mS S m) {t w : List Int32} (hx : mTx G t w) (ht : t.length ≤ 160) : ∃ G', f_X10_marksAll (sI S (mw I m G)) m = some (sI S (mw I m G')) ∧ (∀ k j, k ≠ 26 → G' k j = G k j) ∧ ∀ e, e < 4 → ∀ p, p < slN t t.length + 1 → G' 26 (e * 161 + p) = 1 := by
  have hs := slN_le t t.length
  unfold f_X10_marksAll
  obtain ⟨z, e1, G', rfl, h1, h2⟩ := it_up (b := fun (v : Int32 × PS) => f_X10_marksAll_b2 m v.1 v.2) 4
    (P := fun i z => ∃ G', z = (nI i, sI S (mw I m G')) ∧ (∀ k j, k ≠ 26 → G' k j = G k j) ∧ ∀ e, e < i → ∀ p, p < slN t t.length + 1 → G' 26 (e * 161 + p) = 1)
    (Q := fun z => ∃ G', z = sI S (mw I m G') ∧ (∀ k j, k ≠ 26 → G' k j = G k j) ∧ ∀ e, e < 4 → ∀ p, p < slN t t.length + 1 → G' 26 (e * 161 + p) = 1)
    (fun i z hi ⟨G', e, h1, h2⟩ => by
      subst e
      have hx' : mTx G' t w := hx.ext (h1 _ _ (by decide)) (fun j => h1 _ _ (by decide)) (fun j => h1 _ _ (by decide))
      obtain ⟨G2, f1, f2, f3⟩ := x_marks (I := I) hm hx' ht hi
      refine Or.inl ⟨(nI (i + 1), sI S (mw I m G2)), ?_, _, rfl, fun k j hk => (f2 k j hk).trans (h1 k j hk), fun e he p hp => ?_⟩
      · unfold f_X10_marksAll_b2
        simp only [f1, kK_sI, kQ_sI, kN_sI, kI_sI, wI_sI, Option.bind_some, lt, mw_0, mw_up0, xK_0 hm, xK_1 hm, xN_1 hm, xQ_1 hm, mw_1, mw_up1, xK_2 hm, xN_2 hm, xQ_2 hm, mw_2, mw_up2, xK_3 hm, xN_3 hm, xQ_3 hm, mw_3, mw_up3, xK_4 hm, xN_4 hm, xQ_4 hm, mw_4, mw_up4, xK_5 hm, xN_5 hm, xQ_5 hm, mw_5, mw_up5, xK_6 hm, xN_6 hm, xQ_6 hm, mw_6, mw_up6, xK_7 hm, xN_7 hm, xQ_7 hm, mw_7, mw_up7, xK_8 hm, xN_8 hm, xQ_8 hm, mw_8, mw_up8, xK_9 hm, xN_9 hm, xQ_9 hm, mw_9, mw_up9, xK_10 hm, xN_10 hm, xQ_10 hm, mw_10, mw_up10, xK_11 hm, xN_11 hm, xQ_11 hm, mw_11, mw_up11, xK_12 hm, xN_12 hm, xQ_12 hm, mw_12, mw_up12, xK_13 hm, xN_13 hm, xQ_13 hm, mw_13, mw_up13, xK_14 hm, xN_14 hm, xQ_14 hm, mw_14, mw_up14, xK_15 hm, xN_15 hm, xQ_15 hm, mw_15, mw_up15, xK_16 hm, xN_16 hm, xQ_16 hm, mw_16, mw_up16, xK_17 hm, xN_17 hm, xQ_17 hm, mw_17, mw_up17, xK_18 hm, xN_18 hm, xQ_18 hm, mw_18, mw_up18, xK_19 hm, xN_19 hm, xQ_19 hm, mw_19, mw_up19, xK_20 hm, xN_20 hm, xQ_20 hm, mw_20, mw_up20, xK_21 hm, xN_21 hm, xQ_21 hm, mw_21, mw_up21, xK_22 hm, xN_22 hm, xQ_22 hm, mw_22, mw_up22, xK_23 hm, xN_23 hm, xQ_23 hm, mw_23, mw_up23, xK_24 hm, xN_24 hm, xQ_24 hm, mw_24, mw_up24, xK_25 hm, xN_25 hm, xQ_25 hm, mw_25, mw_up25, xK_26 hm, xN_26 hm, xQ_26 hm, mw_26, mw_up26, xK_27 hm, xN_27 hm, xQ_27 hm, mw_27, mw_up27, xK_28 hm, xN_28 hm, xQ_28 hm, mw_28, mw_up28, xK_29 hm, xN_29 hm, xQ_29 hm, mw_29, mw_up29, xK_30 hm, xN_30 hm, xQ_30 hm, mw_30, mw_up30, xK_31 hm, xN_31 hm, xQ_31 hm, mw_31, mw_up31, xK_32 hm, xN_32 hm, xQ_32 hm, mw_32, mw_up32, xK_33 hm, xN_33 hm, xQ_33 hm, mw_33, mw_up33, xK_34 hm, xN_34 hm, xQ_34 hm, mw_34, mw_up34, xK_35 hm, xN_35 hm, xQ_35 hm, mw_35, mw_up35, xK_36 hm, xN_36 hm, xQ_36 hm, mw_36, mw_up36, xK_37 hm, xN_37 hm, xQ_37 hm, mw_37, mw_up37, if_true, show (4 : Int32) = nI 4 from rfl, nI_leI (show 4 < 2 ^ 31 by decide) (show i < 2 ^ 31 by omega), if_neg (show ¬ 4 ≤ i by omega), nI_1]
      · rw [f3]
        by_cases e9 : e = i
        · rw [e9, if_pos (by omega)]
        · rw [if_neg (by omega)]
          exact h2 e (by omega) p hp)
    (fun z ⟨G', e, h1, h2⟩ => by
      subst e
      refine ⟨_, ?_, G', rfl, h1, h2⟩
      unfold f_X10_marksAll_b2
      rw [if_pos (show (4 : Int32) ≤ nI 4 by decide +kernel)])
    0 (0, sI S (mw I m G)) ⟨G, rfl, fun _ _ _ => rfl, fun e he => absurd he (Nat.not_lt_zero _)⟩ (Nat.zero_le _) kF (by unfold kF; omega)
  rw [e1]
  exact ⟨G', rfl, h1, h2⟩
/-- one desk's marks are set -/
theorem mT.mark (h : mT G T) (hn : T.2.2.2.1.length = slN T.2.1 T.2.1.length + 1) (h160 : T.2.1.length ≤ 160) {G' : Nat → Nat → Int32} {d : Nat} (hd : d < 4) (h1 : ∀ k j, k ≠ 26 → G' k j = G k j) (h2 : ∀ j, G' 26 j = if d * 161 ≤ j ∧ j < d * 161 + (slN T.2.1 T.2.1.length + 1) then 1 else G 26 j) : mT G' (uMk T (mk d)) := by
  obtain ⟨a1, a2, a3, a4, a5, a6⟩ := h
  have hs := slN_le T.2.1 T.2.1.length
  refine ⟨⟨(h1 _ _ (by decide)).trans a1.1, fun j hj => (h1 _ _ (by decide)).trans (a1.2 j hj)⟩, a2.ext (h1 _ _ (by decide)) (fun j => h1 _ _ (by decide)) (fun j => h1 _ _ (by decide)), fun e he p hp => ?_, a4.ext (fun k h3 h4 j => h1 _ _ (by omega)) (h1 _ _ (by decide)), a5.ext (fun k h3 h4 j => h1 _ _ (by omega)) (h1 _ _ (by decide)), fun e he => (a6 e he).ext (fun k h3 h4 j => h1 _ _ (by omega))⟩
  have hp' : p < T.2.2.2.1.length := by
    have := hp
    rw [show (uMk T (mk d)).2.2.2.1 = T.2.2.2.1.map (fun v => v ||| mk d) from rfl, List.length_map] at this
    exact this
  rw [show (uMk T (mk d)).2.2.2.1 = T.2.2.2.1.map (fun v => v ||| mk d) from rfl, la_mapI hp', tb_or (by omega), tb_mk (by omega) (by omega), h2]
  by_cases e9 : e = d
  · rw [e9, decide_eq_true rfl, Bool.or_true, if_pos (by omega)]; rfl
  · rw [decide_eq_false e9, Bool.or_false, if_neg (by omega)]
    exact a3 e he p hp'
/-- all marks are set, what was typed is gone -/
theorem mT.told (h : mT G T) (hn : T.2.2.2.1.length = slN T.2.1 T.2.1.length + 1) {G' : Nat → Nat → Int32} (h1 : ∀ k j, k ≠ 26 → (k = 0 ∧ j = 5) ∨ G' k j = G k j) (h5 : G' 0 5 = 0) (h2 : ∀ e, e < 4 → ∀ p, p < slN T.2.1 T.2.1.length + 1 → G' 26 (e * 161 + p) = 1) : mT G' (uTold T) := by
  obtain ⟨a1, a2, a3, a4, a5, a6⟩ := h
  have hh : ∀ k j, k ≠ 26 → ¬ (k = 0 ∧ j = 5) → G' k j = G k j := fun k j hk hz => (h1 k j hk).resolve_left hz
  refine ⟨⟨h5, fun j hj => absurd hj (Nat.not_lt_zero _)⟩, a2.ext (hh _ _ (by decide) (by decide)) (fun j => hh _ _ (by decide) (by omega)) (fun j => hh _ _ (by decide) (by omega)), fun e he p hp => ?_, a4.ext (fun k h3 h4 j => hh _ _ (by omega) (by omega)) (hh _ _ (by decide) (by decide)), a5.ext (fun k h3 h4 j => hh _ _ (by omega) (by omega)) (hh _ _ (by decide) (by decide)), fun e he => (a6 e he).ext (fun k h3 h4 j => hh _ _ (by omega) (by omega))⟩
  have hp' : p < T.2.2.2.1.length := by
    have := hp
    rw [show (uTold T).2.2.2.1 = T.2.2.2.1.map (fun v => v ||| 15) from rfl, List.length_map] at this
    exact this
  rw [show (uTold T).2.2.2.1 = T.2.2.2.1.map (fun v => v ||| 15) from rfl, la_mapI hp', tb_or (by omega), h2 e he p (by omega)]
  have : tb 15 e = true := by
    have : ∀ e, e < 4 → tb 15 e = true := by decide +kernel
    exact this e he
  rw [this, Bool.or_true]
  rfl
end
