/-! a suggestion typed, in the model -/
section
variable {S : PS} {I G : Nat → Nat → Int32} {m : Nat} {T : St}
theorem x_cp153 (hm : mS S m) {ty : List Int32} (hy : mTy G ty) (h20 : ty.length ≤ 20) (hty : ∀ j, j < ty.length → tyS (la ty j) = true) {at9 : Nat} (hat : at9 < 24) : ∃ G', iter (fun (v : Int32 × PS) => f_X10_suggest_b153 m (nI at9) v.1 v.2) kF (0, sI S (mw I m G)) = some (sI S (mw I m G')) ∧ (∀ j, j < ty.length → G' 15 (at9 * 20 + j) = la ty j) ∧ ∀ c j, ¬ (c = 15 ∧ at9 * 20 ≤ j ∧ j < at9 * 20 + 20) → G' c j = G c j := by
  obtain ⟨z, e1, G', rfl, h1, h2⟩ := it_up (b := fun (v : Int32 × PS) => f_X10_suggest_b153 m (nI at9) v.1 v.2) ty.length
    (P := fun i z => ∃ G', z = (nI i, sI S (mw I m G')) ∧ (∀ j, j < i → G' 15 (at9 * 20 + j) = la ty j) ∧ ∀ c j, ¬ (c = 15 ∧ at9 * 20 ≤ j ∧ j < at9 * 20 + 20) → G' c j = G c j)
    (Q := fun z => ∃ G', z = sI S (mw I m G') ∧ (∀ j, j < ty.length → G' 15 (at9 * 20 + j) = la ty j) ∧ ∀ c j, ¬ (c = 15 ∧ at9 * 20 ≤ j ∧ j < at9 * 20 + 20) → G' c j = G c j)
    (fun i z hi ⟨G', e, h1, h2⟩ => by
      subst e
      refine Or.inl ⟨(nI (i + 1), sI S (mw I m (uF G' 15 (at9 * 20 + i) (la ty i)))), ?_, _, rfl, fun j hj => ?_, fun c j hc => by rw [uF_ne (by omega)]; exact h2 c j hc⟩
      · unfold f_X10_suggest_b153
        simp only [kK_sI, kQ_sI, kN_sI, kI_sI, wI_sI, Option.bind_some, lt, mw_0, mw_up0, xK_0 hm, xK_1 hm, xN_1 hm, xQ_1 hm, mw_1, mw_up1, xK_2 hm, xN_2 hm, xQ_2 hm, mw_2, mw_up2, xK_3 hm, xN_3 hm, xQ_3 hm, mw_3, mw_up3, xK_4 hm, xN_4 hm, xQ_4 hm, mw_4, mw_up4, xK_5 hm, xN_5 hm, xQ_5 hm, mw_5, mw_up5, xK_6 hm, xN_6 hm, xQ_6 hm, mw_6, mw_up6, xK_7 hm, xN_7 hm, xQ_7 hm, mw_7, mw_up7, xK_8 hm, xN_8 hm, xQ_8 hm, mw_8, mw_up8, xK_9 hm, xN_9 hm, xQ_9 hm, mw_9, mw_up9, xK_10 hm, xN_10 hm, xQ_10 hm, mw_10, mw_up10, xK_11 hm, xN_11 hm, xQ_11 hm, mw_11, mw_up11, xK_12 hm, xN_12 hm, xQ_12 hm, mw_12, mw_up12, xK_13 hm, xN_13 hm, xQ_13 hm, mw_13, mw_up13, xK_14 hm, xN_14 hm, xQ_14 hm, mw_14, mw_up14, xK_15 hm, xN_15 hm, xQ_15 hm, mw_15, mw_up15, xK_16 hm, xN_16 hm, xQ_16 hm, mw_16, mw_up16, xK_17 hm, xN_17 hm, xQ_17 hm, mw_17, mw_up17, xK_18 hm, xN_18 hm, xQ_18 hm, mw_18, mw_up18, xK_19 hm, xN_19 hm, xQ_19 hm, mw_19, mw_up19, xK_20 hm, xN_20 hm, xQ_20 hm, mw_20, mw_up20, xK_21 hm, xN_21 hm, xQ_21 hm, mw_21, mw_up21, xK_22 hm, xN_22 hm, xQ_22 hm, mw_22, mw_up22, xK_23 hm, xN_23 hm, xQ_23 hm, mw_23, mw_up23, xK_24 hm, xN_24 hm, xQ_24 hm, mw_24, mw_up24, xK_25 hm, xN_25 hm, xQ_25 hm, mw_25, mw_up25, xK_26 hm, xN_26 hm, xQ_26 hm, mw_26, mw_up26, xK_27 hm, xN_27 hm, xQ_27 hm, mw_27, mw_up27, xK_28 hm, xN_28 hm, xQ_28 hm, mw_28, mw_up28, xK_29 hm, xN_29 hm, xQ_29 hm, mw_29, mw_up29, xK_30 hm, xN_30 hm, xQ_30 hm, mw_30, mw_up30, xK_31 hm, xN_31 hm, xQ_31 hm, mw_31, mw_up31, xK_32 hm, xN_32 hm, xQ_32 hm, mw_32, mw_up32, xK_33 hm, xN_33 hm, xQ_33 hm, mw_33, mw_up33, xK_34 hm, xN_34 hm, xQ_34 hm, mw_34, mw_up34, xK_35 hm, xN_35 hm, xQ_35 hm, mw_35, mw_up35, xK_36 hm, xN_36 hm, xQ_36 hm, mw_36, mw_up36, xK_37 hm, xN_37 hm, xQ_37 hm, mw_37, mw_up37, if_true, h2 0 5 (by omega), h2 3 i (by omega), hy.1, hy.2 i hi, (char_id (Or.inr (hty i hi))).2, x_mul20, nI_add, nI_leI (show ty.length < 2 ^ 31 by omega) (show i < 2 ^ 31 by omega), if_neg (show ¬ ty.length ≤ i by omega), nI_clamp (show i < 2 ^ 31 by omega), nI_clamp (show at9 * 20 + i < 2 ^ 31 by omega), bd2 (show i < 20 by omega) (show i < 2 ^ 31 by omega), bd2 (show at9 * 20 + i < 480 by omega) (show at9 * 20 + i < 2 ^ 31 by omega), not_false_eq_true, nI_1]
      · rw [uF_at]
        by_cases e : j = i
        · rw [if_pos ⟨rfl, by omega⟩, e]
        · rw [if_neg (by omega)]; exact h1 j (by omega))
    (fun z ⟨G', e, h1, h2⟩ => by
      subst e
      refine ⟨_, ?_, G', rfl, h1, h2⟩
      unfold f_X10_suggest_b153
      simp only [kK_sI, kQ_sI, kN_sI, kI_sI, wI_sI, Option.bind_some, lt, mw_0, mw_up0, xK_0 hm, xK_1 hm, xN_1 hm, xQ_1 hm, mw_1, mw_up1, xK_2 hm, xN_2 hm, xQ_2 hm, mw_2, mw_up2, xK_3 hm, xN_3 hm, xQ_3 hm, mw_3, mw_up3, xK_4 hm, xN_4 hm, xQ_4 hm, mw_4, mw_up4, xK_5 hm, xN_5 hm, xQ_5 hm, mw_5, mw_up5, xK_6 hm, xN_6 hm, xQ_6 hm, mw_6, mw_up6, xK_7 hm, xN_7 hm, xQ_7 hm, mw_7, mw_up7, xK_8 hm, xN_8 hm, xQ_8 hm, mw_8, mw_up8, xK_9 hm, xN_9 hm, xQ_9 hm, mw_9, mw_up9, xK_10 hm, xN_10 hm, xQ_10 hm, mw_10, mw_up10, xK_11 hm, xN_11 hm, xQ_11 hm, mw_11, mw_up11, xK_12 hm, xN_12 hm, xQ_12 hm, mw_12, mw_up12, xK_13 hm, xN_13 hm, xQ_13 hm, mw_13, mw_up13, xK_14 hm, xN_14 hm, xQ_14 hm, mw_14, mw_up14, xK_15 hm, xN_15 hm, xQ_15 hm, mw_15, mw_up15, xK_16 hm, xN_16 hm, xQ_16 hm, mw_16, mw_up16, xK_17 hm, xN_17 hm, xQ_17 hm, mw_17, mw_up17, xK_18 hm, xN_18 hm, xQ_18 hm, mw_18, mw_up18, xK_19 hm, xN_19 hm, xQ_19 hm, mw_19, mw_up19, xK_20 hm, xN_20 hm, xQ_20 hm, mw_20, mw_up20, xK_21 hm, xN_21 hm, xQ_21 hm, mw_21, mw_up21, xK_22 hm, xN_22 hm, xQ_22 hm, mw_22, mw_up22, xK_23 hm, xN_23 hm, xQ_23 hm, mw_23, mw_up23, xK_24 hm, xN_24 hm, xQ_24 hm, mw_24, mw_up24, xK_25 hm, xN_25 hm, xQ_25 hm, mw_25, mw_up25, xK_26 hm, xN_26 hm, xQ_26 hm, mw_26, mw_up26, xK_27 hm, xN_27 hm, xQ_27 hm, mw_27, mw_up27, xK_28 hm, xN_28 hm, xQ_28 hm, mw_28, mw_up28, xK_29 hm, xN_29 hm, xQ_29 hm, mw_29, mw_up29, xK_30 hm, xN_30 hm, xQ_30 hm, mw_30, mw_up30, xK_31 hm, xN_31 hm, xQ_31 hm, mw_31, mw_up31, xK_32 hm, xN_32 hm, xQ_32 hm, mw_32, mw_up32, xK_33 hm, xN_33 hm, xQ_33 hm, mw_33, mw_up33, xK_34 hm, xN_34 hm, xQ_34 hm, mw_34, mw_up34, xK_35 hm, xN_35 hm, xQ_35 hm, mw_35, mw_up35, xK_36 hm, xN_36 hm, xQ_36 hm, mw_36, mw_up36, xK_37 hm, xN_37 hm, xQ_37 hm, mw_37, mw_up37, if_true, h2 0 5 (by omega), hy.1, nI_leI (show ty.length < 2 ^ 31 by omega) (show ty.length < 2 ^ 31 by omega), Nat.le_refl])
    0 (0, sI S (mw I m G)) ⟨G, rfl, fun j hj => absurd hj (Nat.not_lt_zero _), fun _ _ _ => rfl⟩ (Nat.zero_le _) kF (by unfold kF; omega)
  exact ⟨G', e1, h1, h2⟩
def sgO (v : Int32) : Bool := decide (v ≠ 35) && decide (v ≠ 45)
theorem x_sg (hm : mS S m) {ty : List Int32} (hy : mTy G ty) (h20 : ty.length ≤ 20) : iter (fun (v : Int32 × Int32 × Int32) => f_X10_suggest_b28 m (sI S (mw I m G)) v.1 v.2.1 v.2.2) kF (bi (decide (0 < ty.length)), 0, 0) = some (bi (decide (0 < ty.length) && ty.all sgO), nI (ty.countP (fun v => decide (v = 42)))) := by
  obtain ⟨z, e1, rfl⟩ := it_up (b := fun (v : Int32 × Int32 × Int32) => f_X10_suggest_b28 m (sI S (mw I m G)) v.1 v.2.1 v.2.2) ty.length
    (P := fun i z => z = (bi (decide (0 < ty.length) && (ty.take i).all sgO), nI ((ty.take i).countP (fun v => decide (v = 42))), nI i))
    (Q := fun z => z = (bi (decide (0 < ty.length) && ty.all sgO), nI (ty.countP (fun v => decide (v = 42)))))
    (fun i z hi e => by
      subst e
      refine Or.inl ⟨_, ?_, rfl⟩
      have hc := List.countP_le_length (l := ty.take i) (p := fun v => decide (v = 42))
      unfold f_X10_suggest_b28
      simp only [kK_sI, kQ_sI, kN_sI, kI_sI, wI_sI, Option.bind_some, lt, mw_0, mw_up0, xK_0 hm, xK_1 hm, xN_1 hm, xQ_1 hm, mw_1, mw_up1, xK_2 hm, xN_2 hm, xQ_2 hm, mw_2, mw_up2, xK_3 hm, xN_3 hm, xQ_3 hm, mw_3, mw_up3, xK_4 hm, xN_4 hm, xQ_4 hm, mw_4, mw_up4, xK_5 hm, xN_5 hm, xQ_5 hm, mw_5, mw_up5, xK_6 hm, xN_6 hm, xQ_6 hm, mw_6, mw_up6, xK_7 hm, xN_7 hm, xQ_7 hm, mw_7, mw_up7, xK_8 hm, xN_8 hm, xQ_8 hm, mw_8, mw_up8, xK_9 hm, xN_9 hm, xQ_9 hm, mw_9, mw_up9, xK_10 hm, xN_10 hm, xQ_10 hm, mw_10, mw_up10, xK_11 hm, xN_11 hm, xQ_11 hm, mw_11, mw_up11, xK_12 hm, xN_12 hm, xQ_12 hm, mw_12, mw_up12, xK_13 hm, xN_13 hm, xQ_13 hm, mw_13, mw_up13, xK_14 hm, xN_14 hm, xQ_14 hm, mw_14, mw_up14, xK_15 hm, xN_15 hm, xQ_15 hm, mw_15, mw_up15, xK_16 hm, xN_16 hm, xQ_16 hm, mw_16, mw_up16, xK_17 hm, xN_17 hm, xQ_17 hm, mw_17, mw_up17, xK_18 hm, xN_18 hm, xQ_18 hm, mw_18, mw_up18, xK_19 hm, xN_19 hm, xQ_19 hm, mw_19, mw_up19, xK_20 hm, xN_20 hm, xQ_20 hm, mw_20, mw_up20, xK_21 hm, xN_21 hm, xQ_21 hm, mw_21, mw_up21, xK_22 hm, xN_22 hm, xQ_22 hm, mw_22, mw_up22, xK_23 hm, xN_23 hm, xQ_23 hm, mw_23, mw_up23, xK_24 hm, xN_24 hm, xQ_24 hm, mw_24, mw_up24, xK_25 hm, xN_25 hm, xQ_25 hm, mw_25, mw_up25, xK_26 hm, xN_26 hm, xQ_26 hm, mw_26, mw_up26, xK_27 hm, xN_27 hm, xQ_27 hm, mw_27, mw_up27, xK_28 hm, xN_28 hm, xQ_28 hm, mw_28, mw_up28, xK_29 hm, xN_29 hm, xQ_29 hm, mw_29, mw_up29, xK_30 hm, xN_30 hm, xQ_30 hm, mw_30, mw_up30, xK_31 hm, xN_31 hm, xQ_31 hm, mw_31, mw_up31, xK_32 hm, xN_32 hm, xQ_32 hm, mw_32, mw_up32, xK_33 hm, xN_33 hm, xQ_33 hm, mw_33, mw_up33, xK_34 hm, xN_34 hm, xQ_34 hm, mw_34, mw_up34, xK_35 hm, xN_35 hm, xQ_35 hm, mw_35, mw_up35, xK_36 hm, xN_36 hm, xQ_36 hm, mw_36, mw_up36, xK_37 hm, xN_37 hm, xQ_37 hm, mw_37, mw_up37, if_true, hy.1, nI_leI (show ty.length < 2 ^ 31 by omega) (show i < 2 ^ 31 by omega), if_neg (show ¬ ty.length ≤ i by omega), nI_clamp (show i < 2 ^ 31 by omega), bd2 (show i < 20 by omega) (show i < 2 ^ 31 by omega), not_false_eq_true, hy.2 i hi, nI_1, bi_eq0]
      rw [List.take_succ_eq_append_getElem hi, List.countP_append, List.all_append, ← la_lt hi, List.countP_singleton]
      simp only [List.all_cons, List.all_nil, Bool.and_true, decide_eq_true_eq]
      rw [← Bool.and_assoc]
      generalize (decide (0 < ty.length) && (ty.take i).all sgO) = g
      have z0 : ∀ a, nI a + 0 = nI a := fun a => nI_add a 0
      by_cases e42 : la ty i = 42
      · have : sgO (la ty i) = true := by rw [e42]; decide
        rw [this, Bool.and_true]
        cases g <;> simp [e42, nI_1, bi]
      · by_cases e35 : la ty i = 35
        · have : sgO (la ty i) = false := by rw [e35]; decide
          rw [this, Bool.and_false]
          cases g <;> simp [e35, z0, bi]
        · by_cases e45 : la ty i = 45
          · have : sgO (la ty i) = false := by rw [e45]; decide
            rw [this, Bool.and_false]
            cases g <;> simp [e45, z0, bi]
          · have : sgO (la ty i) = true := by unfold sgO; simp [e35, e45]
            rw [this, Bool.and_true]
            cases g <;> simp [e42, e35, e45, z0, bi])
    (fun z e => by
      subst e
      rw [List.take_length]
      refine ⟨_, ?_, rfl⟩
      unfold f_X10_suggest_b28
      simp only [kK_sI, kQ_sI, kN_sI, kI_sI, wI_sI, Option.bind_some, lt, mw_0, mw_up0, xK_0 hm, xK_1 hm, xN_1 hm, xQ_1 hm, mw_1, mw_up1, xK_2 hm, xN_2 hm, xQ_2 hm, mw_2, mw_up2, xK_3 hm, xN_3 hm, xQ_3 hm, mw_3, mw_up3, xK_4 hm, xN_4 hm, xQ_4 hm, mw_4, mw_up4, xK_5 hm, xN_5 hm, xQ_5 hm, mw_5, mw_up5, xK_6 hm, xN_6 hm, xQ_6 hm, mw_6, mw_up6, xK_7 hm, xN_7 hm, xQ_7 hm, mw_7, mw_up7, xK_8 hm, xN_8 hm, xQ_8 hm, mw_8, mw_up8, xK_9 hm, xN_9 hm, xQ_9 hm, mw_9, mw_up9, xK_10 hm, xN_10 hm, xQ_10 hm, mw_10, mw_up10, xK_11 hm, xN_11 hm, xQ_11 hm, mw_11, mw_up11, xK_12 hm, xN_12 hm, xQ_12 hm, mw_12, mw_up12, xK_13 hm, xN_13 hm, xQ_13 hm, mw_13, mw_up13, xK_14 hm, xN_14 hm, xQ_14 hm, mw_14, mw_up14, xK_15 hm, xN_15 hm, xQ_15 hm, mw_15, mw_up15, xK_16 hm, xN_16 hm, xQ_16 hm, mw_16, mw_up16, xK_17 hm, xN_17 hm, xQ_17 hm, mw_17, mw_up17, xK_18 hm, xN_18 hm, xQ_18 hm, mw_18, mw_up18, xK_19 hm, xN_19 hm, xQ_19 hm, mw_19, mw_up19, xK_20 hm, xN_20 hm, xQ_20 hm, mw_20, mw_up20, xK_21 hm, xN_21 hm, xQ_21 hm, mw_21, mw_up21, xK_22 hm, xN_22 hm, xQ_22 hm, mw_22, mw_up22, xK_23 hm, xN_23 hm, xQ_23 hm, mw_23, mw_up23, xK_24 hm, xN_24 hm, xQ_24 hm, mw_24, mw_up24, xK_25 hm, xN_25 hm, xQ_25 hm, mw_25, mw_up25, xK_26 hm, xN_26 hm, xQ_26 hm, mw_26, mw_up26, xK_27 hm, xN_27 hm, xQ_27 hm, mw_27, mw_up27, xK_28 hm, xN_28 hm, xQ_28 hm, mw_28, mw_up28, xK_29 hm, xN_29 hm, xQ_29 hm, mw_29, mw_up29, xK_30 hm, xN_30 hm, xQ_30 hm, mw_30, mw_up30, xK_31 hm, xN_31 hm, xQ_31 hm, mw_31, mw_up31, xK_32 hm, xN_32 hm, xQ_32 hm, mw_32, mw_up32, xK_33 hm, xN_33 hm, xQ_33 hm, mw_33, mw_up33, xK_34 hm, xN_34 hm, xQ_34 hm, mw_34, mw_up34, xK_35 hm, xN_35 hm, xQ_35 hm, mw_35, mw_up35, xK_36 hm, xN_36 hm, xQ_36 hm, mw_36, mw_up36, xK_37 hm, xN_37 hm, xQ_37 hm, mw_37, mw_up37, hy.1, nI_leI (show ty.length < 2 ^ 31 by omega) (show ty.length < 2 ^ 31 by omega), Nat.le_refl, if_true])
    0 (bi (decide (0 < ty.length)), 0, 0) (by simp; rfl) (Nat.zero_le _) kF (by unfold kF; omega)
  exact e1
theorem sg_ok {ty : List Int32} (hty : ∀ j, j < ty.length → tyS (la ty j) = true) : isSg ty = ((decide (0 < ty.length) && ty.all sgO) && decide (ty.countP (fun v => decide (v = 42)) ≤ 1)) := by
  unfold isSg
  rw [Bool.eq_iff_iff]
  simp only [decide_eq_true_eq, Bool.and_eq_true, List.all_eq_true]
  constructor
  · intro ⟨h1, h2, h3⟩
    refine ⟨⟨h1, fun v hv => ?_⟩, h2⟩
    obtain ⟨i, hi, e⟩ := List.getElem_of_mem hv
    have := h3 i hi
    rw [la_lt hi, e] at this
    unfold sgO
    rcases this with h | h | h | h
    · rw [h]; decide
    · have n1 : v ≠ 35 := fun z => by rw [z] at h; revert h; decide
      have n2 : v ≠ 45 := fun z => by rw [z] at h; revert h; decide
      simp [n1, n2]
    · have n1 : v ≠ 35 := fun z => by rw [z] at h; revert h; decide
      have n2 : v ≠ 45 := fun z => by rw [z] at h; revert h; decide
      simp [n1, n2]
    · rw [h]; decide
  · intro ⟨⟨h1, h2⟩, h3⟩
    refine ⟨h1, h3, fun i hi => ?_⟩
    have hs := h2 (la ty i) (la_mem hi)
    have ht := hty i hi
    unfold sgO at hs
    unfold tyS at ht
    simp only [Bool.and_eq_true, decide_eq_true_eq, Bool.or_eq_true] at hs ht
    rcases ht with ((((h | h) | h) | h) | h) | h
    · exact Or.inr (Or.inl h)
    · exact Or.inr (Or.inr (Or.inl h))
    · exact Or.inr (Or.inr (Or.inr h))
    · exact Or.inl h
    · exact absurd h hs.1
    · exact absurd h hs.2
theorem mx_suggest (hm : mS S m) (hG : mT G T) (hw : wf T) (r : Int32) : mZ S I m T (fun k => if k = 3 then 1 else if k = 4 then 2 else 3) 0 (f_X10_suggest (sI S (mw I m G)) m r) (a_suggest T r) := by
  have hru := hw.2.2.2.2.2.2.1.1
  have h20 := hw.1.1
  unfold f_X10_suggest a_suggest
  simp only [x_noRule hm r hG.2.2.2.1.1 (show T.2.2.2.2.1.length < 2 ^ 31 by omega), kK_sI, kQ_sI, kN_sI, kI_sI, wI_sI, Option.bind_some, lt, mw_0, mw_up0, xK_0 hm, xK_1 hm, xN_1 hm, xQ_1 hm, mw_1, mw_up1, xK_2 hm, xN_2 hm, xQ_2 hm, mw_2, mw_up2, xK_3 hm, xN_3 hm, xQ_3 hm, mw_3, mw_up3, xK_4 hm, xN_4 hm, xQ_4 hm, mw_4, mw_up4, xK_5 hm, xN_5 hm, xQ_5 hm, mw_5, mw_up5, xK_6 hm, xN_6 hm, xQ_6 hm, mw_6, mw_up6, xK_7 hm, xN_7 hm, xQ_7 hm, mw_7, mw_up7, xK_8 hm, xN_8 hm, xQ_8 hm, mw_8, mw_up8, xK_9 hm, xN_9 hm, xQ_9 hm, mw_9, mw_up9, xK_10 hm, xN_10 hm, xQ_10 hm, mw_10, mw_up10, xK_11 hm, xN_11 hm, xQ_11 hm, mw_11, mw_up11, xK_12 hm, xN_12 hm, xQ_12 hm, mw_12, mw_up12, xK_13 hm, xN_13 hm, xQ_13 hm, mw_13, mw_up13, xK_14 hm, xN_14 hm, xQ_14 hm, mw_14, mw_up14, xK_15 hm, xN_15 hm, xQ_15 hm, mw_15, mw_up15, xK_16 hm, xN_16 hm, xQ_16 hm, mw_16, mw_up16, xK_17 hm, xN_17 hm, xQ_17 hm, mw_17, mw_up17, xK_18 hm, xN_18 hm, xQ_18 hm, mw_18, mw_up18, xK_19 hm, xN_19 hm, xQ_19 hm, mw_19, mw_up19, xK_20 hm, xN_20 hm, xQ_20 hm, mw_20, mw_up20, xK_21 hm, xN_21 hm, xQ_21 hm, mw_21, mw_up21, xK_22 hm, xN_22 hm, xQ_22 hm, mw_22, mw_up22, xK_23 hm, xN_23 hm, xQ_23 hm, mw_23, mw_up23, xK_24 hm, xN_24 hm, xQ_24 hm, mw_24, mw_up24, xK_25 hm, xN_25 hm, xQ_25 hm, mw_25, mw_up25, xK_26 hm, xN_26 hm, xQ_26 hm, mw_26, mw_up26, xK_27 hm, xN_27 hm, xQ_27 hm, mw_27, mw_up27, xK_28 hm, xN_28 hm, xQ_28 hm, mw_28, mw_up28, xK_29 hm, xN_29 hm, xQ_29 hm, mw_29, mw_up29, xK_30 hm, xN_30 hm, xQ_30 hm, mw_30, mw_up30, xK_31 hm, xN_31 hm, xQ_31 hm, mw_31, mw_up31, xK_32 hm, xN_32 hm, xQ_32 hm, mw_32, mw_up32, xK_33 hm, xN_33 hm, xQ_33 hm, mw_33, mw_up33, xK_34 hm, xN_34 hm, xQ_34 hm, mw_34, mw_up34, xK_35 hm, xN_35 hm, xQ_35 hm, mw_35, mw_up35, xK_36 hm, xN_36 hm, xQ_36 hm, mw_36, mw_up36, xK_37 hm, xN_37 hm, xQ_37 hm, mw_37, mw_up37, if_true]
  cases hr : ix r T.2.2.2.2.1.length with
  | none =>
    simp only [Option.isSome_none, Bool.not_false, show ¬ bi true = 0 by decide, if_false]
    exact ⟨_, rfl, uF_eq _ _ _ _, hG.th _⟩
  | some q =>
    obtain ⟨hq, rfl⟩ := ix_some (by omega) hr
    obtain ⟨v, hv⟩ : ∃ v, T.2.2.2.2.1[q]? = some v := ⟨_, List.getElem?_eq_getElem hq⟩
    obtain ⟨w1, w2, w3, w4, w5, w6⟩ := hw.2.2.2.2.2.2.1.2 q v hv
    have hG0 : mT (uF G 0 0 0) T := hG.th 0
    generalize hH : uF G 0 0 0 = H at hG0
    have hs := x_sg (I := I) hm hG0.1 h20
    have hsg := sg_ok hw.1.2
    have hcl := List.countP_le_length (l := T.1) (p := fun v => decide (v = 42))
    have hv9 := hG0.2.2.2.1.2.1 q v hv
    simp only [Option.isSome_some, Bool.not_true, show bi false = 0 by decide, if_true, hH, hv, kK_sI, kQ_sI, kN_sI, kI_sI, wI_sI, Option.bind_some, lt, mw_0, mw_up0, xK_0 hm, xK_1 hm, xN_1 hm, xQ_1 hm, mw_1, mw_up1, xK_2 hm, xN_2 hm, xQ_2 hm, mw_2, mw_up2, xK_3 hm, xN_3 hm, xQ_3 hm, mw_3, mw_up3, xK_4 hm, xN_4 hm, xQ_4 hm, mw_4, mw_up4, xK_5 hm, xN_5 hm, xQ_5 hm, mw_5, mw_up5, xK_6 hm, xN_6 hm, xQ_6 hm, mw_6, mw_up6, xK_7 hm, xN_7 hm, xQ_7 hm, mw_7, mw_up7, xK_8 hm, xN_8 hm, xQ_8 hm, mw_8, mw_up8, xK_9 hm, xN_9 hm, xQ_9 hm, mw_9, mw_up9, xK_10 hm, xN_10 hm, xQ_10 hm, mw_10, mw_up10, xK_11 hm, xN_11 hm, xQ_11 hm, mw_11, mw_up11, xK_12 hm, xN_12 hm, xQ_12 hm, mw_12, mw_up12, xK_13 hm, xN_13 hm, xQ_13 hm, mw_13, mw_up13, xK_14 hm, xN_14 hm, xQ_14 hm, mw_14, mw_up14, xK_15 hm, xN_15 hm, xQ_15 hm, mw_15, mw_up15, xK_16 hm, xN_16 hm, xQ_16 hm, mw_16, mw_up16, xK_17 hm, xN_17 hm, xQ_17 hm, mw_17, mw_up17, xK_18 hm, xN_18 hm, xQ_18 hm, mw_18, mw_up18, xK_19 hm, xN_19 hm, xQ_19 hm, mw_19, mw_up19, xK_20 hm, xN_20 hm, xQ_20 hm, mw_20, mw_up20, xK_21 hm, xN_21 hm, xQ_21 hm, mw_21, mw_up21, xK_22 hm, xN_22 hm, xQ_22 hm, mw_22, mw_up22, xK_23 hm, xN_23 hm, xQ_23 hm, mw_23, mw_up23, xK_24 hm, xN_24 hm, xQ_24 hm, mw_24, mw_up24, xK_25 hm, xN_25 hm, xQ_25 hm, mw_25, mw_up25, xK_26 hm, xN_26 hm, xQ_26 hm, mw_26, mw_up26, xK_27 hm, xN_27 hm, xQ_27 hm, mw_27, mw_up27, xK_28 hm, xN_28 hm, xQ_28 hm, mw_28, mw_up28, xK_29 hm, xN_29 hm, xQ_29 hm, mw_29, mw_up29, xK_30 hm, xN_30 hm, xQ_30 hm, mw_30, mw_up30, xK_31 hm, xN_31 hm, xQ_31 hm, mw_31, mw_up31, xK_32 hm, xN_32 hm, xQ_32 hm, mw_32, mw_up32, xK_33 hm, xN_33 hm, xQ_33 hm, mw_33, mw_up33, xK_34 hm, xN_34 hm, xQ_34 hm, mw_34, mw_up34, xK_35 hm, xN_35 hm, xQ_35 hm, mw_35, mw_up35, xK_36 hm, xN_36 hm, xQ_36 hm, mw_36, mw_up36, xK_37 hm, xN_37 hm, xQ_37 hm, mw_37, mw_up37, uF_eq, show ¬ (2 : Int32) ≤ 0 by decide, show ¬ (3 : Int32) ≤ 0 by decide, show (0 : Int32) ≤ 0 by decide, if_false, hG0.1.1, show ¬ (1 : Int32) = 0 by decide, nI_le0 (show T.1.length < 2 ^ 31 by omega), nI_clamp (show q < 2 ^ 31 by omega), bd2 (show q < 12 by omega) (show q < 2 ^ 31 by omega), not_false_eq_true, hv9.2.2.2.2.2.2.2.1]
    have bad : mZ S I m T (fun k => if k = 3 then 1 else if k = 4 then 2 else 3) 0 (some (sI S (mw I m (uF H 0 0 2)), 0)) (.inr 4) := ⟨_, rfl, uF_eq _ _ _ _, hG0.th 2⟩
    by_cases hl0 : T.1.length = 0
    · rw [if_pos hl0]
      rw [decide_eq_false (show ¬ 0 < T.1.length by omega)] at hs hsg
      rw [show iter (fun (v : Int32 × Int32 × Int32) => f_X10_suggest_b28 m (sI S (mw I m H)) v.1 v.2.1 v.2.2) kF (0, 0, 0) = _ from hs, hsg]
      simp only [Bool.false_and, Option.bind_some, show bi false = 0 by decide, if_true, Bool.false_eq_true, if_false]
      exact bad
    rw [if_neg hl0]
    rw [decide_eq_true (show 0 < T.1.length by omega)] at hs hsg
    rw [show iter (fun (v : Int32 × Int32 × Int32) => f_X10_suggest_b28 m (sI S (mw I m H)) v.1 v.2.1 v.2.2) kF (1, 0, 0) = _ from hs, hsg]
    simp only [Bool.true_and, Option.bind_some, bi_eq0, show (1 : Int32) = nI 1 from rfl, nI_leI (show T.1.countP (fun v => decide (v = 42)) < 2 ^ 31 by omega) (show 1 < 2 ^ 31 by decide)]
    cases hall : T.1.all sgO with
    | false =>
      simp only [if_true, Bool.false_and, Bool.false_eq_true, if_false]
      exact bad
    | true =>
    by_cases h42 : T.1.countP (fun v => decide (v = 42)) ≤ 1
    · simp only [h42, if_true, Bool.true_eq_false, if_false, Bool.true_and, decide_true]
      by_cases h3 : v.2.2.2.2.2.length < 2
      · rw [if_neg (fun z => by have := nI_inj (show v.2.2.2.2.2.length < 2 ^ 31 by omega) (show 2 < 2 ^ 31 by decide) z; omega), if_pos h3]
        have hG1 : mT (uF H 0 0 0) T := hG0.th 0
        have hat : q * 2 + v.2.2.2.2.2.length < 24 := by omega
        obtain ⟨G1, e1, c1, c2⟩ := x_cp153 (I := I) hm hG1.1 h20 hw.1.2 hat
        generalize hat9 : q * 2 + v.2.2.2.2.2.length = at9 at *
        have f2 : ∀ c j, ¬ (c = 15 ∧ at9 * 20 ≤ j ∧ j < at9 * 20 + 20) → ¬ (c = 0 ∧ j = 0) → G1 c j = H c j := fun c j h1 h2 => by rw [c2 c j h1, uF_ne (by omega)]
        have r11 : uF H 0 0 0 14 q = nI v.2.2.2.2.2.length := by rw [uF_ne (Or.inl (by decide))]; exact hv9.2.2.2.2.2.2.2.1
        simp only [r11, x_mul2, nI_add, hat9]
        rw [e1]
        have x1 : mTx (uF (uF (uF G1 16 at9 (nI T.1.length)) 14 q (nI (v.2.2.2.2.2.length + 1))) 0 5 0) T.2.1 T.2.2.1 := hG1.2.1.ext (by rw [uF_ne (Or.inr (by decide)), uF_ne (Or.inl (by decide)), uF_ne (Or.inl (by decide)), c2 _ _ (by omega)]) (fun j => by rw [uF_ne (Or.inl (by decide)), uF_ne (Or.inl (by decide)), uF_ne (Or.inl (by decide)), c2 _ _ (by omega)]) (fun j => by rw [uF_ne (Or.inl (by decide)), uF_ne (Or.inl (by decide)), uF_ne (Or.inl (by decide)), c2 _ _ (by omega)])
        obtain ⟨G2, e2, k1, k2⟩ := x_marksAll (I := I) hm x1 hw.2.1
        have s5 : G1 0 5 = nI T.1.length := by rw [f2 _ _ (by omega) (by omega)]; exact hG0.1.1
        have s11 : G1 14 q = nI v.2.2.2.2.2.length := by rw [f2 _ _ (by omega) (by omega)]; exact hv9.2.2.2.2.2.2.2.1
        simp only [kK_sI, kQ_sI, kN_sI, kI_sI, wI_sI, Option.bind_some, lt, mw_0, mw_up0, xK_0 hm, xK_1 hm, xN_1 hm, xQ_1 hm, mw_1, mw_up1, xK_2 hm, xN_2 hm, xQ_2 hm, mw_2, mw_up2, xK_3 hm, xN_3 hm, xQ_3 hm, mw_3, mw_up3, xK_4 hm, xN_4 hm, xQ_4 hm, mw_4, mw_up4, xK_5 hm, xN_5 hm, xQ_5 hm, mw_5, mw_up5, xK_6 hm, xN_6 hm, xQ_6 hm, mw_6, mw_up6, xK_7 hm, xN_7 hm, xQ_7 hm, mw_7, mw_up7, xK_8 hm, xN_8 hm, xQ_8 hm, mw_8, mw_up8, xK_9 hm, xN_9 hm, xQ_9 hm, mw_9, mw_up9, xK_10 hm, xN_10 hm, xQ_10 hm, mw_10, mw_up10, xK_11 hm, xN_11 hm, xQ_11 hm, mw_11, mw_up11, xK_12 hm, xN_12 hm, xQ_12 hm, mw_12, mw_up12, xK_13 hm, xN_13 hm, xQ_13 hm, mw_13, mw_up13, xK_14 hm, xN_14 hm, xQ_14 hm, mw_14, mw_up14, xK_15 hm, xN_15 hm, xQ_15 hm, mw_15, mw_up15, xK_16 hm, xN_16 hm, xQ_16 hm, mw_16, mw_up16, xK_17 hm, xN_17 hm, xQ_17 hm, mw_17, mw_up17, xK_18 hm, xN_18 hm, xQ_18 hm, mw_18, mw_up18, xK_19 hm, xN_19 hm, xQ_19 hm, mw_19, mw_up19, xK_20 hm, xN_20 hm, xQ_20 hm, mw_20, mw_up20, xK_21 hm, xN_21 hm, xQ_21 hm, mw_21, mw_up21, xK_22 hm, xN_22 hm, xQ_22 hm, mw_22, mw_up22, xK_23 hm, xN_23 hm, xQ_23 hm, mw_23, mw_up23, xK_24 hm, xN_24 hm, xQ_24 hm, mw_24, mw_up24, xK_25 hm, xN_25 hm, xQ_25 hm, mw_25, mw_up25, xK_26 hm, xN_26 hm, xQ_26 hm, mw_26, mw_up26, xK_27 hm, xN_27 hm, xQ_27 hm, mw_27, mw_up27, xK_28 hm, xN_28 hm, xQ_28 hm, mw_28, mw_up28, xK_29 hm, xN_29 hm, xQ_29 hm, mw_29, mw_up29, xK_30 hm, xN_30 hm, xQ_30 hm, mw_30, mw_up30, xK_31 hm, xN_31 hm, xQ_31 hm, mw_31, mw_up31, xK_32 hm, xN_32 hm, xQ_32 hm, mw_32, mw_up32, xK_33 hm, xN_33 hm, xQ_33 hm, mw_33, mw_up33, xK_34 hm, xN_34 hm, xQ_34 hm, mw_34, mw_up34, xK_35 hm, xN_35 hm, xQ_35 hm, mw_35, mw_up35, xK_36 hm, xN_36 hm, xQ_36 hm, mw_36, mw_up36, xK_37 hm, xN_37 hm, xQ_37 hm, mw_37, mw_up37, if_true, nI_clamp (show q < 2 ^ 31 by omega), nI_clamp (show at9 < 2 ^ 31 by omega), bd2 (show q < 12 by omega) (show q < 2 ^ 31 by omega), bd2 (show at9 < 24 by omega) (show at9 < 2 ^ 31 by omega), not_false_eq_true, s5, uF_ne (F := G1) (k := 16) (j := at9) (v := nI T.1.length) (a := 14) (b := q) (Or.inl (by decide)), s11, nI_1, nI_add, e2]
        have hK : ∀ c j, ¬ (c = 15 ∧ at9 * 20 ≤ j ∧ j < at9 * 20 + 20) → ¬ (c = 0 ∧ j = 0) → ¬ (c = 16 ∧ j = at9) → ¬ (c = 14 ∧ j = q) → uF (uF G1 16 at9 (nI T.1.length)) 14 q (nI (v.2.2.2.2.2.length + 1)) c j = H c j := fun c j h1 h2 h3 h4 => by rw [uF_ne (by omega), uF_ne (by omega)]; exact f2 c j h1 h2
        obtain ⟨a1, a2, a3, a4, a5, a6⟩ := hG0
        have m1 : mT (uF (uF G1 16 at9 (nI T.1.length)) 14 q (nI (v.2.2.2.2.2.length + 1))) (uRu T (T.2.2.2.2.1.set q (uSu v T.1))) := by
          refine ⟨⟨(hK _ _ (by omega) (by omega) (by omega) (by omega)).trans a1.1, fun j hj => (hK _ _ (by omega) (by omega) (by omega) (by omega)).trans (a1.2 j hj)⟩, a2.ext (hK _ _ (by omega) (by omega) (by omega) (by omega)) (fun j => hK _ _ (by omega) (by omega) (by omega) (by omega)) (fun j => hK _ _ (by omega) (by omega) (by omega) (by omega)), a3.ext (fun j => hK _ _ (by omega) (by omega) (by omega) (by omega)), ?_, a5.ext (fun k h1 h2 j => hK _ _ (by omega) (by omega) (by omega) (by omega)) (hK _ _ (by omega) (by omega) (by omega) (by omega)), fun d hd => (a6 d hd).ext (fun k h1 h2 j => hK _ _ (by omega) (by omega) (by omega) (by omega))⟩
          refine a4.set (hK _ _ (by omega) (by omega) (by omega) (by omega)) ?_ (fun r u hne hu => ?_) (fun r h1 h2 => ⟨hK _ _ (by omega) (by omega) (by omega) (by omega), hK _ _ (by omega) (by omega) (by omega) (by omega)⟩)
          · obtain ⟨b1, b2, b3, b4, b5, b6, b7, b8, b9⟩ := hv9
            refine ⟨(hK _ _ (by omega) (by omega) (by omega) (by omega)).trans b1, fun i it hi => ⟨(hK _ _ (by omega) (by omega) (by omega) (by omega)).trans (b2 i it hi).1, (b2 i it hi).2.ext (fun j => hK _ _ (by omega) (by omega) (by omega) (by omega)) (hK _ _ (by omega) (by omega) (by omega) (by omega))⟩, (hK _ _ (by omega) (by omega) (by omega) (by omega)).trans b3, (hK _ _ (by omega) (by omega) (by omega) (by omega)).trans b4, (hK _ _ (by omega) (by omega) (by omega) (by omega)).trans b5, (hK _ _ (by omega) (by omega) (by omega) (by omega)).trans b6, fun i l hi => (b7 i l hi).ext (fun j => hK _ _ (by omega) (by omega) (by omega) (by omega)) (hK _ _ (by omega) (by omega) (by omega) (by omega)), ?_, fun i l hi => ?_⟩
            · rw [uF_eq]; show _ = nI (v.2.2.2.2.2 ++ [T.1]).length
              rw [List.length_append]; rfl
            · have hi : (v.2.2.2.2.2 ++ [T.1])[i]? = some l := hi
              by_cases e9 : i < v.2.2.2.2.2.length
              · rw [List.getElem?_append_left e9] at hi
                obtain ⟨y1, y2⟩ := b9 i l hi
                obtain ⟨-, -, -, wl⟩ := hw.2.2.2.2.2.2.2.1 q v hv
                have hl20 := (wl l (List.mem_of_getElem? hi)).2.1
                exact ⟨(hK _ _ (by omega) (by omega) (by omega) (by omega)).trans y1, fun j hj => (hK _ _ (by omega) (by omega) (by omega) (by omega)).trans (y2 j hj)⟩
              · have hi9 : i = v.2.2.2.2.2.length := by
                  have := (List.getElem?_eq_some_iff.mp hi).1
                  simp at this; omega
                rw [List.getElem?_append_right (by omega), hi9, Nat.sub_self] at hi
                cases hi
                rw [hi9, hat9]
                exact ⟨by rw [uF_ne (Or.inl (by decide)), uF_eq], fun j hj => by rw [uF_ne (Or.inl (by decide)), uF_ne (Or.inl (by decide))]; exact c1 j hj⟩
          · obtain ⟨b1, b2, b3, b4, b5, b6, b7, b8, b9⟩ := a4.2.1 r u hu
            obtain ⟨u1, u2, u3, u4, u5, u6⟩ := hw.2.2.2.2.2.2.1.2 r u hu
            refine ⟨(hK _ _ (by omega) (by omega) (by omega) (by omega)).trans b1, fun i it hi => ⟨(hK _ _ (by omega) (by omega) (by omega) (by omega)).trans (b2 i it hi).1, (b2 i it hi).2.ext (fun j => hK _ _ (by omega) (by omega) (by omega) (by omega)) (hK _ _ (by omega) (by omega) (by omega) (by omega))⟩, (hK _ _ (by omega) (by omega) (by omega) (by omega)).trans b3, (hK _ _ (by omega) (by omega) (by omega) (by omega)).trans b4, (hK _ _ (by omega) (by omega) (by omega) (by omega)).trans b5, (hK _ _ (by omega) (by omega) (by omega) (by omega)).trans b6, fun i l hi => (b7 i l hi).ext (fun j => hK _ _ (by omega) (by omega) (by omega) (by omega)) (hK _ _ (by omega) (by omega) (by omega) (by omega)), (hK _ _ (by omega) (by omega) (by omega) (by omega)).trans b8, fun i l hi => ?_⟩
            have hi3 := (List.getElem?_eq_some_iff.mp hi).1
            obtain ⟨y1, y2⟩ := b9 i l hi
            obtain ⟨-, -, -, wl⟩ := hw.2.2.2.2.2.2.2.1 r u hu
            have hl20 := (wl l (List.mem_of_getElem? hi)).2.1
            exact ⟨(hK _ _ (by omega) (by omega) (by omega) (by omega)).trans y1, fun j hj => (hK _ _ (by omega) (by omega) (by omega) (by omega)).trans (y2 j hj)⟩
        refine ⟨G2, ?_, ?_, m1.told (show T.2.2.2.1.length = slN T.2.1 T.2.1.length + 1 from hw.2.2.2.2.2.1) (fun k j hk => ?_) ?_ k2⟩
        · rw [k1 _ _ (by decide), uF_ne (Or.inl (by decide)), uF_eq]
        · rw [k1 _ _ (by decide), uF_ne (Or.inr (by decide)), uF_ne (Or.inl (by decide)), uF_ne (Or.inl (by decide)), c2 _ _ (by omega), uF_eq]
        · by_cases e9 : k = 0 ∧ j = 5
          · exact Or.inl e9
          · exact Or.inr (by rw [k1 _ _ hk, uF_ne (by omega)])
        · rw [k1 _ _ (by decide), uF_eq]
      · rw [if_pos (by rw [show v.2.2.2.2.2.length = 2 by omega]; rfl), if_neg h3]
        exact ⟨_, rfl, uF_eq _ _ _ _, hG0.th 3⟩
    · simp only [h42, if_true, Bool.true_eq_false, if_false, Bool.true_and, decide_false, Bool.false_eq_true]
      exact bad
end
