/-! pairs, in the model -/
theorem x_2mul (a : Nat) : 2 * nI a = nI (2 * a) := pk_mul 2 a
section
variable {S : PS} {I G : Nat → Nat → Int32} {m : Nat} {T : St}
theorem x_b78 (hm : mS S m) {ty : List Int32} (hy : mTy G ty) (h20 : ty.length ≤ 20) {n1 n2 : Nat} (h9 : n1 ≤ 20) (h : n1 = n2 → n1 = 0 ∨ n1 + 1 + n1 ≤ ty.length) : iter (fun (v : Int32 × Int32) => f_X10_pair_b78 m (nI n1) (sI S (mw I m G)) v.1 v.2) kF (bi (decide (n1 = n2)), 0) = some (bi (decide (n1 = n2 ∧ ∀ i, i < n1 → la ty i = la ty (n1 + 1 + i)))) := by
  obtain ⟨z, e1, rfl⟩ := it_up (b := fun (v : Int32 × Int32) => f_X10_pair_b78 m (nI n1) (sI S (mw I m G)) v.1 v.2) n1
    (P := fun i z => z = (bi (decide (n1 = n2 ∧ ∀ j, j < i → la ty j = la ty (n1 + 1 + j))), nI i))
    (Q := fun z => z = bi (decide (n1 = n2 ∧ ∀ i, i < n1 → la ty i = la ty (n1 + 1 + i))))
    (fun i z hi e => by
      subst e
      unfold f_X10_pair_b78
      simp only [nI_leI (show n1 < 2 ^ 31 by omega) (show i < 2 ^ 31 by omega), if_neg (show ¬ n1 ≤ i by omega), bi_eq0]
      by_cases hg : n1 = n2 ∧ ∀ j, j < i → la ty j = la ty (n1 + 1 + j)
      · rw [decide_eq_true hg, if_neg (show ¬ (true = false) by decide)]
        have hb := h hg.1
        simp only [kK_sI, kQ_sI, kN_sI, kI_sI, wI_sI, Option.bind_some, lt, mw_0, mw_up0, xK_0 hm, xK_1 hm, xN_1 hm, xQ_1 hm, mw_1, mw_up1, xK_2 hm, xN_2 hm, xQ_2 hm, mw_2, mw_up2, xK_3 hm, xN_3 hm, xQ_3 hm, mw_3, mw_up3, xK_4 hm, xN_4 hm, xQ_4 hm, mw_4, mw_up4, xK_5 hm, xN_5 hm, xQ_5 hm, mw_5, mw_up5, xK_6 hm, xN_6 hm, xQ_6 hm, mw_6, mw_up6, xK_7 hm, xN_7 hm, xQ_7 hm, mw_7, mw_up7, xK_8 hm, xN_8 hm, xQ_8 hm, mw_8, mw_up8, xK_9 hm, xN_9 hm, xQ_9 hm, mw_9, mw_up9, xK_10 hm, xN_10 hm, xQ_10 hm, mw_10, mw_up10, xK_11 hm, xN_11 hm, xQ_11 hm, mw_11, mw_up11, xK_12 hm, xN_12 hm, xQ_12 hm, mw_12, mw_up12, xK_13 hm, xN_13 hm, xQ_13 hm, mw_13, mw_up13, xK_14 hm, xN_14 hm, xQ_14 hm, mw_14, mw_up14, xK_15 hm, xN_15 hm, xQ_15 hm, mw_15, mw_up15, xK_16 hm, xN_16 hm, xQ_16 hm, mw_16, mw_up16, xK_17 hm, xN_17 hm, xQ_17 hm, mw_17, mw_up17, xK_18 hm, xN_18 hm, xQ_18 hm, mw_18, mw_up18, xK_19 hm, xN_19 hm, xQ_19 hm, mw_19, mw_up19, xK_20 hm, xN_20 hm, xQ_20 hm, mw_20, mw_up20, xK_21 hm, xN_21 hm, xQ_21 hm, mw_21, mw_up21, xK_22 hm, xN_22 hm, xQ_22 hm, mw_22, mw_up22, xK_23 hm, xN_23 hm, xQ_23 hm, mw_23, mw_up23, xK_24 hm, xN_24 hm, xQ_24 hm, mw_24, mw_up24, xK_25 hm, xN_25 hm, xQ_25 hm, mw_25, mw_up25, xK_26 hm, xN_26 hm, xQ_26 hm, mw_26, mw_up26, xK_27 hm, xN_27 hm, xQ_27 hm, mw_27, mw_up27, xK_28 hm, xN_28 hm, xQ_28 hm, mw_28, mw_up28, xK_29 hm, xN_29 hm, xQ_29 hm, mw_29, mw_up29, xK_30 hm, xN_30 hm, xQ_30 hm, mw_30, mw_up30, xK_31 hm, xN_31 hm, xQ_31 hm, mw_31, mw_up31, xK_32 hm, xN_32 hm, xQ_32 hm, mw_32, mw_up32, xK_33 hm, xN_33 hm, xQ_33 hm, mw_33, mw_up33, xK_34 hm, xN_34 hm, xQ_34 hm, mw_34, mw_up34, xK_35 hm, xN_35 hm, xQ_35 hm, mw_35, mw_up35, xK_36 hm, xN_36 hm, xQ_36 hm, mw_36, mw_up36, xK_37 hm, xN_37 hm, xQ_37 hm, mw_37, mw_up37, if_true, nI_1, nI_add, nI_clamp (show i < 2 ^ 31 by omega), nI_clamp (show n1 + 1 + i < 2 ^ 31 by omega), bd2 (show i < 20 by omega) (show i < 2 ^ 31 by omega), bd2 (show n1 + 1 + i < 20 by omega) (show n1 + 1 + i < 2 ^ 31 by omega), not_false_eq_true, hy.2 i (by omega), hy.2 (n1 + 1 + i) (by omega)]
        by_cases e : la ty i = la ty (n1 + 1 + i)
        · refine Or.inl ⟨_, if_pos e, ?_⟩
          rw [decide_eq_true (show n1 = n2 ∧ ∀ j, j < i + 1 → la ty j = la ty (n1 + 1 + j) from ⟨hg.1, fun j hj => by
            by_cases e9 : j = i
            · rw [e9]; exact e
            · exact hg.2 j (by omega)⟩)]
          rfl
        · refine Or.inl ⟨_, if_neg e, ?_⟩
          rw [decide_eq_false (show ¬ (n1 = n2 ∧ ∀ j, j < i + 1 → la ty j = la ty (n1 + 1 + j)) from fun z => e (z.2 i (by omega)))]
          rfl
      · rw [decide_eq_false hg, if_pos rfl]
        exact Or.inr ⟨_, rfl, by rw [decide_eq_false (show ¬ (n1 = n2 ∧ ∀ i, i < n1 → la ty i = la ty (n1 + 1 + i)) from fun z => hg ⟨z.1, fun j hj => z.2 j (by omega)⟩)]⟩)
    (fun z e => by
      subst e
      refine ⟨_, ?_, rfl⟩
      unfold f_X10_pair_b78
      simp only [nI_leI (show n1 < 2 ^ 31 by omega) (show n1 < 2 ^ 31 by omega), Nat.le_refl, if_true])
    0 (bi (decide (n1 = n2)), 0) (by
      have : (n1 = n2 ∧ ∀ j, j < 0 → la ty j = la ty (n1 + 1 + j)) ↔ n1 = n2 := ⟨fun z => z.1, fun z => ⟨z, fun j hj => absurd hj (Nat.not_lt_zero _)⟩⟩
      rw [decide_eq_decide.mpr this]; rfl) (Nat.zero_le _) kF (by unfold kF; omega)
  exact e1
theorem x_cpA (hm : mS S m) {ty : List Int32} (hy : mTy G ty) (h20 : ty.length ≤ 20) (hty : ∀ j, j < ty.length → tyS (la ty j) = true) {pr n : Nat} (hp : G 0 20 = nI pr) (hpr : pr < 4) (hn : n ≤ ty.length) : ∃ G', iter (fun (v : Int32 × PS) => f_X10_pair_b165 m (nI n) v.1 v.2) kF (0, sI S (mw I m G)) = some (sI S (mw I m G')) ∧ (∀ j, j < n → G' 17 (2 * pr * 20 + j) = la ty j) ∧ ∀ c j, ¬ (c = 17 ∧ 2 * pr * 20 ≤ j ∧ j < 2 * pr * 20 + 20) → G' c j = G c j := by
  obtain ⟨z, e1, G', rfl, h1, h2⟩ := it_up (b := fun (v : Int32 × PS) => f_X10_pair_b165 m (nI n) v.1 v.2) n
    (P := fun i z => ∃ G', z = (nI i, sI S (mw I m G')) ∧ (∀ j, j < i → G' 17 (2 * pr * 20 + j) = la ty j) ∧ ∀ c j, ¬ (c = 17 ∧ 2 * pr * 20 ≤ j ∧ j < 2 * pr * 20 + 20) → G' c j = G c j)
    (Q := fun z => ∃ G', z = sI S (mw I m G') ∧ (∀ j, j < n → G' 17 (2 * pr * 20 + j) = la ty j) ∧ ∀ c j, ¬ (c = 17 ∧ 2 * pr * 20 ≤ j ∧ j < 2 * pr * 20 + 20) → G' c j = G c j)
    (fun i z hi ⟨G', e, h1, h2⟩ => by
      subst e
      refine Or.inl ⟨(nI (i + 1), sI S (mw I m (uF G' 17 (2 * pr * 20 + i) (la ty i)))), ?_, _, rfl, fun j hj => ?_, fun c j hc => by rw [uF_ne (by omega)]; exact h2 c j hc⟩
      · unfold f_X10_pair_b165
        simp only [kK_sI, kQ_sI, kN_sI, kI_sI, wI_sI, Option.bind_some, lt, mw_0, mw_up0, xK_0 hm, xK_1 hm, xN_1 hm, xQ_1 hm, mw_1, mw_up1, xK_2 hm, xN_2 hm, xQ_2 hm, mw_2, mw_up2, xK_3 hm, xN_3 hm, xQ_3 hm, mw_3, mw_up3, xK_4 hm, xN_4 hm, xQ_4 hm, mw_4, mw_up4, xK_5 hm, xN_5 hm, xQ_5 hm, mw_5, mw_up5, xK_6 hm, xN_6 hm, xQ_6 hm, mw_6, mw_up6, xK_7 hm, xN_7 hm, xQ_7 hm, mw_7, mw_up7, xK_8 hm, xN_8 hm, xQ_8 hm, mw_8, mw_up8, xK_9 hm, xN_9 hm, xQ_9 hm, mw_9, mw_up9, xK_10 hm, xN_10 hm, xQ_10 hm, mw_10, mw_up10, xK_11 hm, xN_11 hm, xQ_11 hm, mw_11, mw_up11, xK_12 hm, xN_12 hm, xQ_12 hm, mw_12, mw_up12, xK_13 hm, xN_13 hm, xQ_13 hm, mw_13, mw_up13, xK_14 hm, xN_14 hm, xQ_14 hm, mw_14, mw_up14, xK_15 hm, xN_15 hm, xQ_15 hm, mw_15, mw_up15, xK_16 hm, xN_16 hm, xQ_16 hm, mw_16, mw_up16, xK_17 hm, xN_17 hm, xQ_17 hm, mw_17, mw_up17, xK_18 hm, xN_18 hm, xQ_18 hm, mw_18, mw_up18, xK_19 hm, xN_19 hm, xQ_19 hm, mw_19, mw_up19, xK_20 hm, xN_20 hm, xQ_20 hm, mw_20, mw_up20, xK_21 hm, xN_21 hm, xQ_21 hm, mw_21, mw_up21, xK_22 hm, xN_22 hm, xQ_22 hm, mw_22, mw_up22, xK_23 hm, xN_23 hm, xQ_23 hm, mw_23, mw_up23, xK_24 hm, xN_24 hm, xQ_24 hm, mw_24, mw_up24, xK_25 hm, xN_25 hm, xQ_25 hm, mw_25, mw_up25, xK_26 hm, xN_26 hm, xQ_26 hm, mw_26, mw_up26, xK_27 hm, xN_27 hm, xQ_27 hm, mw_27, mw_up27, xK_28 hm, xN_28 hm, xQ_28 hm, mw_28, mw_up28, xK_29 hm, xN_29 hm, xQ_29 hm, mw_29, mw_up29, xK_30 hm, xN_30 hm, xQ_30 hm, mw_30, mw_up30, xK_31 hm, xN_31 hm, xQ_31 hm, mw_31, mw_up31, xK_32 hm, xN_32 hm, xQ_32 hm, mw_32, mw_up32, xK_33 hm, xN_33 hm, xQ_33 hm, mw_33, mw_up33, xK_34 hm, xN_34 hm, xQ_34 hm, mw_34, mw_up34, xK_35 hm, xN_35 hm, xQ_35 hm, mw_35, mw_up35, xK_36 hm, xN_36 hm, xQ_36 hm, mw_36, mw_up36, xK_37 hm, xN_37 hm, xQ_37 hm, mw_37, mw_up37, if_true, h2 0 20 (by omega), hp, h2 3 i (by omega), hy.2 i (by omega), (char_id (Or.inr (hty i (by omega)))).2, x_2mul, x_mul20, nI_add, nI_leI (show n < 2 ^ 31 by omega) (show i < 2 ^ 31 by omega), if_neg (show ¬ n ≤ i by omega), nI_clamp (show i < 2 ^ 31 by omega), nI_clamp (show 2 * pr * 20 + i < 2 ^ 31 by omega), bd2 (show i < 20 by omega) (show i < 2 ^ 31 by omega), bd2 (show 2 * pr * 20 + i < 160 by omega) (show 2 * pr * 20 + i < 2 ^ 31 by omega), not_false_eq_true, nI_1]
      · rw [uF_at]
        by_cases e : j = i
        · rw [if_pos ⟨rfl, by omega⟩, e]
        · rw [if_neg (by omega)]; exact h1 j (by omega))
    (fun z ⟨G', e, h1, h2⟩ => by
      subst e
      refine ⟨_, ?_, G', rfl, h1, h2⟩
      unfold f_X10_pair_b165
      simp only [nI_leI (show n < 2 ^ 31 by omega) (show n < 2 ^ 31 by omega), Nat.le_refl, if_true])
    0 (0, sI S (mw I m G)) ⟨G, rfl, fun j hj => absurd hj (Nat.not_lt_zero _), fun _ _ _ => rfl⟩ (Nat.zero_le _) kF (by unfold kF; omega)
  exact ⟨G', e1, h1, h2⟩
theorem x_cpB (hm : mS S m) {ty : List Int32} (hy : mTy G ty) (h20 : ty.length ≤ 20) (hty : ∀ j, j < ty.length → tyS (la ty j) = true) {pr n f : Nat} (hp : G 0 20 = nI pr) (hpr : pr < 4) (hn : f + 1 + n ≤ ty.length) : ∃ G', iter (fun (v : Int32 × PS) => f_X10_pair_b204 m (nI f) (nI n) v.1 v.2) kF (0, sI S (mw I m G)) = some (sI S (mw I m G')) ∧ (∀ j, j < n → G' 17 ((2 * pr + 1) * 20 + j) = la ty (f + 1 + j)) ∧ ∀ c j, ¬ (c = 17 ∧ (2 * pr + 1) * 20 ≤ j ∧ j < (2 * pr + 1) * 20 + 20) → G' c j = G c j := by
  obtain ⟨z, e1, G', rfl, h1, h2⟩ := it_up (b := fun (v : Int32 × PS) => f_X10_pair_b204 m (nI f) (nI n) v.1 v.2) n
    (P := fun i z => ∃ G', z = (nI i, sI S (mw I m G')) ∧ (∀ j, j < i → G' 17 ((2 * pr + 1) * 20 + j) = la ty (f + 1 + j)) ∧ ∀ c j, ¬ (c = 17 ∧ (2 * pr + 1) * 20 ≤ j ∧ j < (2 * pr + 1) * 20 + 20) → G' c j = G c j)
    (Q := fun z => ∃ G', z = sI S (mw I m G') ∧ (∀ j, j < n → G' 17 ((2 * pr + 1) * 20 + j) = la ty (f + 1 + j)) ∧ ∀ c j, ¬ (c = 17 ∧ (2 * pr + 1) * 20 ≤ j ∧ j < (2 * pr + 1) * 20 + 20) → G' c j = G c j)
    (fun i z hi ⟨G', e, h1, h2⟩ => by
      subst e
      refine Or.inl ⟨(nI (i + 1), sI S (mw I m (uF G' 17 ((2 * pr + 1) * 20 + i) (la ty (f + 1 + i))))), ?_, _, rfl, fun j hj => ?_, fun c j hc => by rw [uF_ne (by omega)]; exact h2 c j hc⟩
      · unfold f_X10_pair_b204
        simp only [kK_sI, kQ_sI, kN_sI, kI_sI, wI_sI, Option.bind_some, lt, mw_0, mw_up0, xK_0 hm, xK_1 hm, xN_1 hm, xQ_1 hm, mw_1, mw_up1, xK_2 hm, xN_2 hm, xQ_2 hm, mw_2, mw_up2, xK_3 hm, xN_3 hm, xQ_3 hm, mw_3, mw_up3, xK_4 hm, xN_4 hm, xQ_4 hm, mw_4, mw_up4, xK_5 hm, xN_5 hm, xQ_5 hm, mw_5, mw_up5, xK_6 hm, xN_6 hm, xQ_6 hm, mw_6, mw_up6, xK_7 hm, xN_7 hm, xQ_7 hm, mw_7, mw_up7, xK_8 hm, xN_8 hm, xQ_8 hm, mw_8, mw_up8, xK_9 hm, xN_9 hm, xQ_9 hm, mw_9, mw_up9, xK_10 hm, xN_10 hm, xQ_10 hm, mw_10, mw_up10, xK_11 hm, xN_11 hm, xQ_11 hm, mw_11, mw_up11, xK_12 hm, xN_12 hm, xQ_12 hm, mw_12, mw_up12, xK_13 hm, xN_13 hm, xQ_13 hm, mw_13, mw_up13, xK_14 hm, xN_14 hm, xQ_14 hm, mw_14, mw_up14, xK_15 hm, xN_15 hm, xQ_15 hm, mw_15, mw_up15, xK_16 hm, xN_16 hm, xQ_16 hm, mw_16, mw_up16, xK_17 hm, xN_17 hm, xQ_17 hm, mw_17, mw_up17, xK_18 hm, xN_18 hm, xQ_18 hm, mw_18, mw_up18, xK_19 hm, xN_19 hm, xQ_19 hm, mw_19, mw_up19, xK_20 hm, xN_20 hm, xQ_20 hm, mw_20, mw_up20, xK_21 hm, xN_21 hm, xQ_21 hm, mw_21, mw_up21, xK_22 hm, xN_22 hm, xQ_22 hm, mw_22, mw_up22, xK_23 hm, xN_23 hm, xQ_23 hm, mw_23, mw_up23, xK_24 hm, xN_24 hm, xQ_24 hm, mw_24, mw_up24, xK_25 hm, xN_25 hm, xQ_25 hm, mw_25, mw_up25, xK_26 hm, xN_26 hm, xQ_26 hm, mw_26, mw_up26, xK_27 hm, xN_27 hm, xQ_27 hm, mw_27, mw_up27, xK_28 hm, xN_28 hm, xQ_28 hm, mw_28, mw_up28, xK_29 hm, xN_29 hm, xQ_29 hm, mw_29, mw_up29, xK_30 hm, xN_30 hm, xQ_30 hm, mw_30, mw_up30, xK_31 hm, xN_31 hm, xQ_31 hm, mw_31, mw_up31, xK_32 hm, xN_32 hm, xQ_32 hm, mw_32, mw_up32, xK_33 hm, xN_33 hm, xQ_33 hm, mw_33, mw_up33, xK_34 hm, xN_34 hm, xQ_34 hm, mw_34, mw_up34, xK_35 hm, xN_35 hm, xQ_35 hm, mw_35, mw_up35, xK_36 hm, xN_36 hm, xQ_36 hm, mw_36, mw_up36, xK_37 hm, xN_37 hm, xQ_37 hm, mw_37, mw_up37, if_true, h2 0 20 (by omega), hp, h2 3 (f + 1 + i) (by omega), hy.2 (f + 1 + i) (by omega), (char_id (Or.inr (hty (f + 1 + i) (by omega)))).2, x_2mul, x_mul20, nI_1, nI_add, nI_leI (show n < 2 ^ 31 by omega) (show i < 2 ^ 31 by omega), if_neg (show ¬ n ≤ i by omega), nI_clamp (show f + 1 + i < 2 ^ 31 by omega), nI_clamp (show (2 * pr + 1) * 20 + i < 2 ^ 31 by omega), bd2 (show f + 1 + i < 20 by omega) (show f + 1 + i < 2 ^ 31 by omega), bd2 (show (2 * pr + 1) * 20 + i < 160 by omega) (show (2 * pr + 1) * 20 + i < 2 ^ 31 by omega), not_false_eq_true]
      · rw [uF_at]
        by_cases e : j = i
        · rw [if_pos ⟨rfl, by omega⟩, e]
        · rw [if_neg (by omega)]; exact h1 j (by omega))
    (fun z ⟨G', e, h1, h2⟩ => by
      subst e
      refine ⟨_, ?_, G', rfl, h1, h2⟩
      unfold f_X10_pair_b204
      simp only [nI_leI (show n < 2 ^ 31 by omega) (show n < 2 ^ 31 by omega), Nat.le_refl, if_true])
    0 (0, sI S (mw I m G)) ⟨G, rfl, fun j hj => absurd hj (Nat.not_lt_zero _), fun _ _ _ => rfl⟩ (Nat.zero_le _) kF (by unfold kF; omega)
  exact ⟨G', e1, h1, h2⟩
/-- two words with a blank between, by their lengths -/
theorem pr_ok {ty : List Int32} {n1 n2 : Nat} (a1 : n1 = 0 ∨ 0 + n1 ≤ ty.length) (a2 : ∀ i, i < n1 → isL (la ty (0 + i)) = true) (a3 : 0 + n1 < ty.length → isL (la ty (0 + n1)) = false) (hs : (n1 < ty.length ∧ la ty n1 = 32 ∧ (n2 = 0 ∨ n1 + 1 + n2 ≤ ty.length) ∧ (∀ i, i < n2 → isL (la ty (n1 + 1 + i)) = true) ∧ (n1 + 1 + n2 < ty.length → isL (la ty (n1 + 1 + n2)) = false)) ∨ (n2 = 0 ∧ ¬ (n1 < ty.length ∧ la ty n1 = 32))) : ((0 < n1 ∧ 0 < n2 ∧ n1 + 1 + n2 = ty.length) → fb ty = some n1 ∧ wdB ty 0 n1 = true ∧ wdB ty (n1 + 1) ty.length = true) ∧ (¬ (0 < n1 ∧ 0 < n2 ∧ n1 + 1 + n2 = ty.length) → ∀ k, fb ty = some k → ¬ (wdB ty 0 k = true ∧ wdB ty (k + 1) ty.length = true)) := by
  have l32 : isL 32 = false := by decide
  refine ⟨fun ⟨g1, g2, g3⟩ => ?_, fun hng k hk hww => ?_⟩
  · rcases hs with ⟨s1, s2, s3, s4, s5⟩ | h0
    · refine ⟨fb_some s1 s2 (fun j hj z => ?_), ?_, ?_⟩
      · have := a2 j hj
        rw [Nat.zero_add, z, l32] at this
        cases this
      · unfold wdB; exact decide_eq_true ⟨g1, fun i hi => a2 i (by omega)⟩
      · unfold wdB; exact decide_eq_true ⟨by omega, fun i hi => s4 i (by omega)⟩
    · omega
  · obtain ⟨w1, w2⟩ := hww
    unfold wdB at w1 w2
    obtain ⟨w1, w3⟩ := of_decide_eq_true w1
    obtain ⟨w2, w4⟩ := of_decide_eq_true w2
    unfold fb at hk
    have hk2 := List.find?_some hk
    rw [decide_eq_true_eq] at hk2
    have hk3 := List.mem_range.mp (List.mem_of_find?_eq_some hk)
    have hn1 : n1 = k := by
      rcases Nat.lt_trichotomy n1 k with h | h | h
      · have b1 := a3 (by omega)
        have b2 := w3 n1 (by omega)
        rw [b1] at b2; cases b2
      · exact h
      · have b1 := a2 k h
        rw [Nat.zero_add, hk2, l32] at b1; cases b1
    subst hn1
    rcases hs with ⟨s1, s2, s3, s4, s5⟩ | h0
    · apply hng
      have hn2 : n1 + 1 + n2 = ty.length := by
        by_cases e : n1 + 1 + n2 < ty.length
        · have b1 := s5 e
          have b2 := w4 n2 (by omega)
          rw [b1] at b2; cases b2
        · omega
      exact ⟨w1, by omega, hn2⟩
    · exact h0.2 ⟨hk3, hk2⟩
end
