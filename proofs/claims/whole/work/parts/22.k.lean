/-! words typed, in the model -/
section
variable {S : PS} {I G : Nat → Nat → Int32} {m : Nat} {T : St}
theorem x_lf (hm : mS S m) {ty : List Int32} (hy : mTy G ty) (h20 : ty.length ≤ 20) {f : Nat} (hf : f ≤ 40) : ∃ n, f_X10_lettersFrom (sI S (mw I m G)) m (nI f) = some (nI n) ∧ (n = 0 ∨ f + n ≤ ty.length) ∧ (∀ i, i < n → isL (la ty (f + i)) = true) ∧ (f + n < ty.length → isL (la ty (f + n)) = false) := by
  unfold f_X10_lettersFrom
  obtain ⟨z, e1, n, rfl, h1, h2, h3⟩ := it_gen (b := fun (v : Int32) => f_X10_lettersFrom_b2 m (nI f) (sI S (mw I m G)) v)
    (P := fun k s => ∃ n, k + n = 20 ∧ s = nI n ∧ (n = 0 ∨ f + n ≤ ty.length) ∧ ∀ i, i < n → isL (la ty (f + i)) = true)
    (Q := fun z => ∃ n, z = nI n ∧ (n = 0 ∨ f + n ≤ ty.length) ∧ (∀ i, i < n → isL (la ty (f + i)) = true) ∧ (f + n < ty.length → isL (la ty (f + n)) = false))
    (fun k s ⟨n, hk, e, h1, h2⟩ => by
      subst e
      unfold f_X10_lettersFrom_b2
      simp only [kK_sI, kQ_sI, kN_sI, kI_sI, wI_sI, Option.bind_some, lt, mw_0, mw_up0, xK_0 hm, xK_1 hm, xN_1 hm, xQ_1 hm, mw_1, mw_up1, xK_2 hm, xN_2 hm, xQ_2 hm, mw_2, mw_up2, xK_3 hm, xN_3 hm, xQ_3 hm, mw_3, mw_up3, xK_4 hm, xN_4 hm, xQ_4 hm, mw_4, mw_up4, xK_5 hm, xN_5 hm, xQ_5 hm, mw_5, mw_up5, xK_6 hm, xN_6 hm, xQ_6 hm, mw_6, mw_up6, xK_7 hm, xN_7 hm, xQ_7 hm, mw_7, mw_up7, xK_8 hm, xN_8 hm, xQ_8 hm, mw_8, mw_up8, xK_9 hm, xN_9 hm, xQ_9 hm, mw_9, mw_up9, xK_10 hm, xN_10 hm, xQ_10 hm, mw_10, mw_up10, xK_11 hm, xN_11 hm, xQ_11 hm, mw_11, mw_up11, xK_12 hm, xN_12 hm, xQ_12 hm, mw_12, mw_up12, xK_13 hm, xN_13 hm, xQ_13 hm, mw_13, mw_up13, xK_14 hm, xN_14 hm, xQ_14 hm, mw_14, mw_up14, xK_15 hm, xN_15 hm, xQ_15 hm, mw_15, mw_up15, xK_16 hm, xN_16 hm, xQ_16 hm, mw_16, mw_up16, xK_17 hm, xN_17 hm, xQ_17 hm, mw_17, mw_up17, xK_18 hm, xN_18 hm, xQ_18 hm, mw_18, mw_up18, xK_19 hm, xN_19 hm, xQ_19 hm, mw_19, mw_up19, xK_20 hm, xN_20 hm, xQ_20 hm, mw_20, mw_up20, xK_21 hm, xN_21 hm, xQ_21 hm, mw_21, mw_up21, xK_22 hm, xN_22 hm, xQ_22 hm, mw_22, mw_up22, xK_23 hm, xN_23 hm, xQ_23 hm, mw_23, mw_up23, xK_24 hm, xN_24 hm, xQ_24 hm, mw_24, mw_up24, xK_25 hm, xN_25 hm, xQ_25 hm, mw_25, mw_up25, xK_26 hm, xN_26 hm, xQ_26 hm, mw_26, mw_up26, xK_27 hm, xN_27 hm, xQ_27 hm, mw_27, mw_up27, xK_28 hm, xN_28 hm, xQ_28 hm, mw_28, mw_up28, xK_29 hm, xN_29 hm, xQ_29 hm, mw_29, mw_up29, xK_30 hm, xN_30 hm, xQ_30 hm, mw_30, mw_up30, xK_31 hm, xN_31 hm, xQ_31 hm, mw_31, mw_up31, xK_32 hm, xN_32 hm, xQ_32 hm, mw_32, mw_up32, xK_33 hm, xN_33 hm, xQ_33 hm, mw_33, mw_up33, xK_34 hm, xN_34 hm, xQ_34 hm, mw_34, mw_up34, xK_35 hm, xN_35 hm, xQ_35 hm, mw_35, mw_up35, xK_36 hm, xN_36 hm, xQ_36 hm, mw_36, mw_up36, xK_37 hm, xN_37 hm, xQ_37 hm, mw_37, mw_up37, if_true, hy.1, nI_add, nI_leI (show ty.length < 2 ^ 31 by omega) (show f + n < 2 ^ 31 by omega)]
      by_cases hl : ty.length ≤ f + n
      · rw [if_pos hl]
        exact Or.inr ⟨_, rfl, n, rfl, h1, h2, fun z => by omega⟩
      · rw [if_neg hl]
        simp only [nI_clamp (show f + n < 2 ^ 31 by omega), bd2 (show f + n < 20 by omega) (show f + n < 2 ^ 31 by omega), not_false_eq_true, if_true, hy.2 (f + n) (by omega), x_letter, Option.bind_some, bi_eq0, nI_1]
        cases e : isL (la ty (f + n)) with
        | false => rw [if_pos rfl]; exact Or.inr ⟨_, rfl, n, rfl, h1, h2, fun _ => e⟩
        | true =>
          rw [if_neg (by decide)]
          refine Or.inl ⟨_, k - 1, rfl, by omega, n + 1, by omega, rfl, Or.inr (by omega), fun i hi => ?_⟩
          by_cases e9 : i = n
          · rw [e9]; exact e
          · exact h2 i (by omega))
    kF 20 0 (by unfold kF; omega) ⟨0, rfl, rfl, Or.inl rfl, fun i hi => absurd hi (Nat.not_lt_zero _)⟩
  rw [e1]
  exact ⟨n, rfl, h1, h2, h3⟩
/-- whether all that is typed is a word -/
theorem wd_lf {ty : List Int32} {n : Nat} (h1 : n = 0 ∨ 0 + n ≤ ty.length) (h2 : ∀ i, i < n → isL (la ty (0 + i)) = true) (h3 : 0 + n < ty.length → isL (la ty (0 + n)) = false) : wdB ty 0 ty.length = true ↔ 0 < ty.length ∧ n = ty.length := by
  unfold wdB
  rw [decide_eq_true_eq]
  constructor
  · intro ⟨h4, h5⟩
    refine ⟨h4, ?_⟩
    by_cases e : 0 + n < ty.length
    · have := h5 n (by omega)
      rw [h3 e] at this
      cases this
    · omega
  · intro ⟨h4, h5⟩
    exact ⟨h4, fun i hi => h2 i (by omega)⟩
theorem x_cp85 (hm : mS S m) {ty : List Int32} (hy : mTy G ty) (h20 : ty.length ≤ 20) (hty : ∀ j, j < ty.length → tyS (la ty j) = true) {at9 : Nat} (hat : at9 < 36) : ∃ G', iter (fun (v : Int32 × PS) => f_X10_except_b85 m (nI at9) v.1 v.2) kF (0, sI S (mw I m G)) = some (sI S (mw I m G')) ∧ (∀ j, j < ty.length → G' 12 (at9 * 20 + j) = la ty j) ∧ ∀ c j, ¬ (c = 12 ∧ at9 * 20 ≤ j ∧ j < at9 * 20 + 20) → G' c j = G c j := by
  obtain ⟨z, e1, G', rfl, h1, h2⟩ := it_up (b := fun (v : Int32 × PS) => f_X10_except_b85 m (nI at9) v.1 v.2) ty.length
    (P := fun i z => ∃ G', z = (nI i, sI S (mw I m G')) ∧ (∀ j, j < i → G' 12 (at9 * 20 + j) = la ty j) ∧ ∀ c j, ¬ (c = 12 ∧ at9 * 20 ≤ j ∧ j < at9 * 20 + 20) → G' c j = G c j)
    (Q := fun z => ∃ G', z = sI S (mw I m G') ∧ (∀ j, j < ty.length → G' 12 (at9 * 20 + j) = la ty j) ∧ ∀ c j, ¬ (c = 12 ∧ at9 * 20 ≤ j ∧ j < at9 * 20 + 20) → G' c j = G c j)
    (fun i z hi ⟨G', e, h1, h2⟩ => by
      subst e
      refine Or.inl ⟨(nI (i + 1), sI S (mw I m (uF G' 12 (at9 * 20 + i) (la ty i)))), ?_, _, rfl, fun j hj => ?_, fun c j hc => by rw [uF_ne (by omega)]; exact h2 c j hc⟩
      · unfold f_X10_except_b85
        simp only [kK_sI, kQ_sI, kN_sI, kI_sI, wI_sI, Option.bind_some, lt, mw_0, mw_up0, xK_0 hm, xK_1 hm, xN_1 hm, xQ_1 hm, mw_1, mw_up1, xK_2 hm, xN_2 hm, xQ_2 hm, mw_2, mw_up2, xK_3 hm, xN_3 hm, xQ_3 hm, mw_3, mw_up3, xK_4 hm, xN_4 hm, xQ_4 hm, mw_4, mw_up4, xK_5 hm, xN_5 hm, xQ_5 hm, mw_5, mw_up5, xK_6 hm, xN_6 hm, xQ_6 hm, mw_6, mw_up6, xK_7 hm, xN_7 hm, xQ_7 hm, mw_7, mw_up7, xK_8 hm, xN_8 hm, xQ_8 hm, mw_8, mw_up8, xK_9 hm, xN_9 hm, xQ_9 hm, mw_9, mw_up9, xK_10 hm, xN_10 hm, xQ_10 hm, mw_10, mw_up10, xK_11 hm, xN_11 hm, xQ_11 hm, mw_11, mw_up11, xK_12 hm, xN_12 hm, xQ_12 hm, mw_12, mw_up12, xK_13 hm, xN_13 hm, xQ_13 hm, mw_13, mw_up13, xK_14 hm, xN_14 hm, xQ_14 hm, mw_14, mw_up14, xK_15 hm, xN_15 hm, xQ_15 hm, mw_15, mw_up15, xK_16 hm, xN_16 hm, xQ_16 hm, mw_16, mw_up16, xK_17 hm, xN_17 hm, xQ_17 hm, mw_17, mw_up17, xK_18 hm, xN_18 hm, xQ_18 hm, mw_18, mw_up18, xK_19 hm, xN_19 hm, xQ_19 hm, mw_19, mw_up19, xK_20 hm, xN_20 hm, xQ_20 hm, mw_20, mw_up20, xK_21 hm, xN_21 hm, xQ_21 hm, mw_21, mw_up21, xK_22 hm, xN_22 hm, xQ_22 hm, mw_22, mw_up22, xK_23 hm, xN_23 hm, xQ_23 hm, mw_23, mw_up23, xK_24 hm, xN_24 hm, xQ_24 hm, mw_24, mw_up24, xK_25 hm, xN_25 hm, xQ_25 hm, mw_25, mw_up25, xK_26 hm, xN_26 hm, xQ_26 hm, mw_26, mw_up26, xK_27 hm, xN_27 hm, xQ_27 hm, mw_27, mw_up27, xK_28 hm, xN_28 hm, xQ_28 hm, mw_28, mw_up28, xK_29 hm, xN_29 hm, xQ_29 hm, mw_29, mw_up29, xK_30 hm, xN_30 hm, xQ_30 hm, mw_30, mw_up30, xK_31 hm, xN_31 hm, xQ_31 hm, mw_31, mw_up31, xK_32 hm, xN_32 hm, xQ_32 hm, mw_32, mw_up32, xK_33 hm, xN_33 hm, xQ_33 hm, mw_33, mw_up33, xK_34 hm, xN_34 hm, xQ_34 hm, mw_34, mw_up34, xK_35 hm, xN_35 hm, xQ_35 hm, mw_35, mw_up35, xK_36 hm, xN_36 hm, xQ_36 hm, mw_36, mw_up36, xK_37 hm, xN_37 hm, xQ_37 hm, mw_37, mw_up37, if_true, h2 0 5 (by omega), h2 3 i (by omega), hy.1, hy.2 i hi, (char_id (Or.inr (hty i hi))).2, x_mul20, nI_add, nI_leI (show ty.length < 2 ^ 31 by omega) (show i < 2 ^ 31 by omega), if_neg (show ¬ ty.length ≤ i by omega), nI_clamp (show i < 2 ^ 31 by omega), nI_clamp (show at9 * 20 + i < 2 ^ 31 by omega), bd2 (show i < 20 by omega) (show i < 2 ^ 31 by omega), bd2 (show at9 * 20 + i < 720 by omega) (show at9 * 20 + i < 2 ^ 31 by omega), not_false_eq_true, nI_1]
      · rw [uF_at]
        by_cases e : j = i
        · rw [if_pos ⟨rfl, by omega⟩, e]
        · rw [if_neg (by omega)]; exact h1 j (by omega))
    (fun z ⟨G', e, h1, h2⟩ => by
      subst e
      refine ⟨_, ?_, G', rfl, h1, h2⟩
      unfold f_X10_except_b85
      simp only [kK_sI, kQ_sI, kN_sI, kI_sI, wI_sI, Option.bind_some, lt, mw_0, mw_up0, xK_0 hm, xK_1 hm, xN_1 hm, xQ_1 hm, mw_1, mw_up1, xK_2 hm, xN_2 hm, xQ_2 hm, mw_2, mw_up2, xK_3 hm, xN_3 hm, xQ_3 hm, mw_3, mw_up3, xK_4 hm, xN_4 hm, xQ_4 hm, mw_4, mw_up4, xK_5 hm, xN_5 hm, xQ_5 hm, mw_5, mw_up5, xK_6 hm, xN_6 hm, xQ_6 hm, mw_6, mw_up6, xK_7 hm, xN_7 hm, xQ_7 hm, mw_7, mw_up7, xK_8 hm, xN_8 hm, xQ_8 hm, mw_8, mw_up8, xK_9 hm, xN_9 hm, xQ_9 hm, mw_9, mw_up9, xK_10 hm, xN_10 hm, xQ_10 hm, mw_10, mw_up10, xK_11 hm, xN_11 hm, xQ_11 hm, mw_11, mw_up11, xK_12 hm, xN_12 hm, xQ_12 hm, mw_12, mw_up12, xK_13 hm, xN_13 hm, xQ_13 hm, mw_13, mw_up13, xK_14 hm, xN_14 hm, xQ_14 hm, mw_14, mw_up14, xK_15 hm, xN_15 hm, xQ_15 hm, mw_15, mw_up15, xK_16 hm, xN_16 hm, xQ_16 hm, mw_16, mw_up16, xK_17 hm, xN_17 hm, xQ_17 hm, mw_17, mw_up17, xK_18 hm, xN_18 hm, xQ_18 hm, mw_18, mw_up18, xK_19 hm, xN_19 hm, xQ_19 hm, mw_19, mw_up19, xK_20 hm, xN_20 hm, xQ_20 hm, mw_20, mw_up20, xK_21 hm, xN_21 hm, xQ_21 hm, mw_21, mw_up21, xK_22 hm, xN_22 hm, xQ_22 hm, mw_22, mw_up22, xK_23 hm, xN_23 hm, xQ_23 hm, mw_23, mw_up23, xK_24 hm, xN_24 hm, xQ_24 hm, mw_24, mw_up24, xK_25 hm, xN_25 hm, xQ_25 hm, mw_25, mw_up25, xK_26 hm, xN_26 hm, xQ_26 hm, mw_26, mw_up26, xK_27 hm, xN_27 hm, xQ_27 hm, mw_27, mw_up27, xK_28 hm, xN_28 hm, xQ_28 hm, mw_28, mw_up28, xK_29 hm, xN_29 hm, xQ_29 hm, mw_29, mw_up29, xK_30 hm, xN_30 hm, xQ_30 hm, mw_30, mw_up30, xK_31 hm, xN_31 hm, xQ_31 hm, mw_31, mw_up31, xK_32 hm, xN_32 hm, xQ_32 hm, mw_32, mw_up32, xK_33 hm, xN_33 hm, xQ_33 hm, mw_33, mw_up33, xK_34 hm, xN_34 hm, xQ_34 hm, mw_34, mw_up34, xK_35 hm, xN_35 hm, xQ_35 hm, mw_35, mw_up35, xK_36 hm, xN_36 hm, xQ_36 hm, mw_36, mw_up36, xK_37 hm, xN_37 hm, xQ_37 hm, mw_37, mw_up37, if_true, h2 0 5 (by omega), hy.1, nI_leI (show ty.length < 2 ^ 31 by omega) (show ty.length < 2 ^ 31 by omega), Nat.le_refl])
    0 (0, sI S (mw I m G)) ⟨G, rfl, fun j hj => absurd hj (Nat.not_lt_zero _), fun _ _ _ => rfl⟩ (Nat.zero_le _) kF (by unfold kF; omega)
  exact ⟨G', e1, h1, h2⟩
theorem mRs.set {ru : List Rv} {G' : Nat → Nat → Int32} {q : Nat} {v : Rv} (h : mRs G ru) (h6 : G' 0 6 = G 0 6) (hv : mRu G' q v) (hr : ∀ (r : Nat) (u : Rv), r ≠ q → ru[r]? = some u → mRu G' r u) (h0 : ∀ r, ru.length ≤ r → r < 12 → G' 11 r = G 11 r ∧ G' 14 r = G 14 r) : mRs G' (ru.set q v) := by
  refine ⟨by rw [List.length_set]; exact h6.trans h.1, fun r u hu => ?_, fun r h1 h2 => ?_⟩
  · rw [List.getElem?_set] at hu
    by_cases e : q = r
    · rw [if_pos e] at hu
      split at hu
      · cases hu; rw [← e]; exact hv
      · cases hu
    · rw [if_neg e] at hu
      exact hr r u (Ne.symm e) hu
  · rw [List.length_set] at h1
    exact ⟨(h0 r h1 h2).1.trans (h.2.2 r h1 h2).1, (h0 r h1 h2).2.trans (h.2.2 r h1 h2).2⟩
theorem mx_except (hm : mS S m) (hG : mT G T) (hw : wf T) (r : Int32) : mZ S I m T (fun k => if k = 3 then 1 else if k = 4 then 2 else 3) 0 (f_X10_except (sI S (mw I m G)) m r) (a_except T r) := by
  have hru := hw.2.2.2.2.2.2.1.1
  have h20 := hw.1.1
  unfold f_X10_except a_except
  simp only [x_noRule hm r hG.2.2.2.1.1 (show T.2.2.2.2.1.length < 2 ^ 31 by omega), kK_sI, kQ_sI, kN_sI, kI_sI, wI_sI, Option.bind_some, lt, mw_0, mw_up0, xK_0 hm, xK_1 hm, xN_1 hm, xQ_1 hm, mw_1, mw_up1, xK_2 hm, xN_2 hm, xQ_2 hm, mw_2, mw_up2, xK_3 hm, xN_3 hm, xQ_3 hm, mw_3, mw_up3, xK_4 hm, xN_4 hm, xQ_4 hm, mw_4, mw_up4, xK_5 hm, xN_5 hm, xQ_5 hm, mw_5, mw_up5, xK_6 hm, xN_6 hm, xQ_6 hm, mw_6, mw_up6, xK_7 hm, xN_7 hm, xQ_7 hm, mw_7, mw_up7, xK_8 hm, xN_8 hm, xQ_8 hm, mw_8, mw_up8, xK_9 hm, xN_9 hm, xQ_9 hm, mw_9, mw_up9, xK_10 hm, xN_10 hm, xQ_10 hm, mw_10, mw_up10, xK_11 hm, xN_11 hm, xQ_11 hm, mw_11, mw_up11, xK_12 hm, xN_12 hm, xQ_12 hm, mw_12, mw_up12, xK_13 hm, xN_13 hm, xQ_13 hm, mw_13, mw_up13, xK_14 hm, xN_14 hm, xQ_14 hm, mw_14, mw_up14, xK_15 hm, xN_15 hm, xQ_15 hm, mw_15, mw_up15, xK_16 hm, xN_16 hm, xQ_16 hm, mw_16, mw_up16, xK_17 hm, xN_17 hm, xQ_17 hm, mw_17, mw_up17, xK_18 hm, xN_18 hm, xQ_18 hm, mw_18, mw_up18, xK_19 hm, xN_19 hm, xQ_19 hm, mw_19, mw_up19, xK_20 hm, xN_20 hm, xQ_20 hm, mw_20, mw_up20, xK_21 hm, xN_21 hm, xQ_21 hm, mw_21, mw_up21, xK_22 hm, xN_22 hm, xQ_22 hm, mw_22, mw_up22, xK_23 hm, xN_23 hm, xQ_23 hm, mw_23, mw_up23, xK_24 hm, xN_24 hm, xQ_24 hm, mw_24, mw_up24, xK_25 hm, xN_25 hm, xQ_25 hm, mw_25, mw_up25, xK_26 hm, xN_26 hm, xQ_26 hm, mw_26, mw_up26, xK_27 hm, xN_27 hm, xQ_27 hm, mw_27, mw_up27, xK_28 hm, xN_28 hm, xQ_28 hm, mw_28, mw_up28, xK_29 hm, xN_29 hm, xQ_29 hm, mw_29, mw_up29, xK_30 hm, xN_30 hm, xQ_30 hm, mw_30, mw_up30, xK_31 hm, xN_31 hm, xQ_31 hm, mw_31, mw_up31, xK_32 hm, xN_32 hm, xQ_32 hm, mw_32, mw_up32, xK_33 hm, xN_33 hm, xQ_33 hm, mw_33, mw_up33, xK_34 hm, xN_34 hm, xQ_34 hm, mw_34, mw_up34, xK_35 hm, xN_35 hm, xQ_35 hm, mw_35, mw_up35, xK_36 hm, xN_36 hm, xQ_36 hm, mw_36, mw_up36, xK_37 hm, xN_37 hm, xQ_37 hm, mw_37, mw_up37, if_true]
  cases hr : ix r T.2.2.2.2.1.length with
  | none =>
    simp only [Option.isSome_none, Bool.not_false, show ¬ bi true = 0 by decide, if_false]
    exact ⟨_, rfl, uF_eq _ _ _ _, hG.th _⟩
  | some q =>
    obtain ⟨hq, rfl⟩ := ix_some (by omega) hr
    obtain ⟨v, hv⟩ : ∃ v, T.2.2.2.2.1[q]? = some v := ⟨_, List.getElem?_eq_getElem hq⟩
    obtain ⟨w1, w2, w3, w4, w5, w6⟩ := hw.2.2.2.2.2.2.1.2 q v hv
    have hG0 : mT (uF G 0 0 0) T := hG.th 0
    generalize hH : uF G 0 0 0 = H at hG0
    obtain ⟨n, el, l1, l2, l3⟩ := x_lf (I := I) hm hG0.1 h20 (f := 0) (by omega)
    have hwd := wd_lf l1 l2 l3
    have hv9 := hG0.2.2.2.1.2.1 q v hv
    simp only [Option.isSome_some, Bool.not_true, show bi false = 0 by decide, if_true, hH, hv, kK_sI, kQ_sI, kN_sI, kI_sI, wI_sI, Option.bind_some, lt, mw_0, mw_up0, xK_0 hm, xK_1 hm, xN_1 hm, xQ_1 hm, mw_1, mw_up1, xK_2 hm, xN_2 hm, xQ_2 hm, mw_2, mw_up2, xK_3 hm, xN_3 hm, xQ_3 hm, mw_3, mw_up3, xK_4 hm, xN_4 hm, xQ_4 hm, mw_4, mw_up4, xK_5 hm, xN_5 hm, xQ_5 hm, mw_5, mw_up5, xK_6 hm, xN_6 hm, xQ_6 hm, mw_6, mw_up6, xK_7 hm, xN_7 hm, xQ_7 hm, mw_7, mw_up7, xK_8 hm, xN_8 hm, xQ_8 hm, mw_8, mw_up8, xK_9 hm, xN_9 hm, xQ_9 hm, mw_9, mw_up9, xK_10 hm, xN_10 hm, xQ_10 hm, mw_10, mw_up10, xK_11 hm, xN_11 hm, xQ_11 hm, mw_11, mw_up11, xK_12 hm, xN_12 hm, xQ_12 hm, mw_12, mw_up12, xK_13 hm, xN_13 hm, xQ_13 hm, mw_13, mw_up13, xK_14 hm, xN_14 hm, xQ_14 hm, mw_14, mw_up14, xK_15 hm, xN_15 hm, xQ_15 hm, mw_15, mw_up15, xK_16 hm, xN_16 hm, xQ_16 hm, mw_16, mw_up16, xK_17 hm, xN_17 hm, xQ_17 hm, mw_17, mw_up17, xK_18 hm, xN_18 hm, xQ_18 hm, mw_18, mw_up18, xK_19 hm, xN_19 hm, xQ_19 hm, mw_19, mw_up19, xK_20 hm, xN_20 hm, xQ_20 hm, mw_20, mw_up20, xK_21 hm, xN_21 hm, xQ_21 hm, mw_21, mw_up21, xK_22 hm, xN_22 hm, xQ_22 hm, mw_22, mw_up22, xK_23 hm, xN_23 hm, xQ_23 hm, mw_23, mw_up23, xK_24 hm, xN_24 hm, xQ_24 hm, mw_24, mw_up24, xK_25 hm, xN_25 hm, xQ_25 hm, mw_25, mw_up25, xK_26 hm, xN_26 hm, xQ_26 hm, mw_26, mw_up26, xK_27 hm, xN_27 hm, xQ_27 hm, mw_27, mw_up27, xK_28 hm, xN_28 hm, xQ_28 hm, mw_28, mw_up28, xK_29 hm, xN_29 hm, xQ_29 hm, mw_29, mw_up29, xK_30 hm, xN_30 hm, xQ_30 hm, mw_30, mw_up30, xK_31 hm, xN_31 hm, xQ_31 hm, mw_31, mw_up31, xK_32 hm, xN_32 hm, xQ_32 hm, mw_32, mw_up32, xK_33 hm, xN_33 hm, xQ_33 hm, mw_33, mw_up33, xK_34 hm, xN_34 hm, xQ_34 hm, mw_34, mw_up34, xK_35 hm, xN_35 hm, xQ_35 hm, mw_35, mw_up35, xK_36 hm, xN_36 hm, xQ_36 hm, mw_36, mw_up36, xK_37 hm, xN_37 hm, xQ_37 hm, mw_37, mw_up37, uF_eq, show ¬ (2 : Int32) ≤ 0 by decide, show ¬ (3 : Int32) ≤ 0 by decide, show (0 : Int32) ≤ 0 by decide, if_false, hG0.1.1, show f_X10_lettersFrom (sI S (mw I m H)) m 0 = some (nI n) from el, show ¬ (1 : Int32) = 0 by decide, nI_le0 (show T.1.length < 2 ^ 31 by omega), nI_clamp (show q < 2 ^ 31 by omega), bd2 (show q < 12 by omega) (show q < 2 ^ 31 by omega), not_false_eq_true, nI_eq (show n < 2 ^ 31 by omega) (show T.1.length < 2 ^ 31 by omega), hv9.2.2.2.2.2.1]
    have bad : mZ S I m T (fun k => if k = 3 then 1 else if k = 4 then 2 else 3) 0 (some (sI S (mw I m (uF H 0 0 2)), 0)) (.inr 4) := ⟨_, rfl, uF_eq _ _ _ _, hG0.th 2⟩
    by_cases hwd9 : wdB T.1 0 T.1.length = true
    · obtain ⟨hl0, hln⟩ := hwd.mp hwd9
      rw [if_neg (show ¬ T.1.length = 0 by omega), if_pos hln, if_pos hwd9]
      by_cases h3 : v.2.2.2.2.1.length < 3
      · rw [if_neg (fun z => by have := nI_inj (show v.2.2.2.2.1.length < 2 ^ 31 by omega) (show 3 < 2 ^ 31 by decide) z; omega), if_pos h3]
        have hG1 : mT (uF H 0 0 0) T := hG0.th 0
        have hat : q * 3 + v.2.2.2.2.1.length < 36 := by omega
        obtain ⟨G1, e1, c1, c2⟩ := x_cp85 (I := I) hm hG1.1 h20 hw.1.2 hat
        generalize hat9 : q * 3 + v.2.2.2.2.1.length = at9 at *
        have f2 : ∀ c j, ¬ (c = 12 ∧ at9 * 20 ≤ j ∧ j < at9 * 20 + 20) → ¬ (c = 0 ∧ j = 0) → G1 c j = H c j := fun c j h1 h2 => by rw [c2 c j h1, uF_ne (by omega)]
        have r11 : uF H 0 0 0 11 q = nI v.2.2.2.2.1.length := by rw [uF_ne (Or.inl (by decide))]; exact hv9.2.2.2.2.2.1
        simp only [r11, x_mul3, nI_add, hat9]
        rw [e1]
        have x1 : mTx (uF (uF (uF G1 13 at9 (nI T.1.length)) 11 q (nI (v.2.2.2.2.1.length + 1))) 0 5 0) T.2.1 T.2.2.1 := hG1.2.1.ext (by rw [uF_ne (Or.inr (by decide)), uF_ne (Or.inl (by decide)), uF_ne (Or.inl (by decide)), c2 _ _ (by omega)]) (fun j => by rw [uF_ne (Or.inl (by decide)), uF_ne (Or.inl (by decide)), uF_ne (Or.inl (by decide)), c2 _ _ (by omega)]) (fun j => by rw [uF_ne (Or.inl (by decide)), uF_ne (Or.inl (by decide)), uF_ne (Or.inl (by decide)), c2 _ _ (by omega)])
        obtain ⟨G2, e2, k1, k2⟩ := x_marksAll (I := I) hm x1 hw.2.1
        have s5 : G1 0 5 = nI T.1.length := by rw [f2 _ _ (by omega) (by omega)]; exact hG0.1.1
        have s11 : G1 11 q = nI v.2.2.2.2.1.length := by rw [f2 _ _ (by omega) (by omega)]; exact hv9.2.2.2.2.2.1
        simp only [kK_sI, kQ_sI, kN_sI, kI_sI, wI_sI, Option.bind_some, lt, mw_0, mw_up0, xK_0 hm, xK_1 hm, xN_1 hm, xQ_1 hm, mw_1, mw_up1, xK_2 hm, xN_2 hm, xQ_2 hm, mw_2, mw_up2, xK_3 hm, xN_3 hm, xQ_3 hm, mw_3, mw_up3, xK_4 hm, xN_4 hm, xQ_4 hm, mw_4, mw_up4, xK_5 hm, xN_5 hm, xQ_5 hm, mw_5, mw_up5, xK_6 hm, xN_6 hm, xQ_6 hm, mw_6, mw_up6, xK_7 hm, xN_7 hm, xQ_7 hm, mw_7, mw_up7, xK_8 hm, xN_8 hm, xQ_8 hm, mw_8, mw_up8, xK_9 hm, xN_9 hm, xQ_9 hm, mw_9, mw_up9, xK_10 hm, xN_10 hm, xQ_10 hm, mw_10, mw_up10, xK_11 hm, xN_11 hm, xQ_11 hm, mw_11, mw_up11, xK_12 hm, xN_12 hm, xQ_12 hm, mw_12, mw_up12, xK_13 hm, xN_13 hm, xQ_13 hm, mw_13, mw_up13, xK_14 hm, xN_14 hm, xQ_14 hm, mw_14, mw_up14, xK_15 hm, xN_15 hm, xQ_15 hm, mw_15, mw_up15, xK_16 hm, xN_16 hm, xQ_16 hm, mw_16, mw_up16, xK_17 hm, xN_17 hm, xQ_17 hm, mw_17, mw_up17, xK_18 hm, xN_18 hm, xQ_18 hm, mw_18, mw_up18, xK_19 hm, xN_19 hm, xQ_19 hm, mw_19, mw_up19, xK_20 hm, xN_20 hm, xQ_20 hm, mw_20, mw_up20, xK_21 hm, xN_21 hm, xQ_21 hm, mw_21, mw_up21, xK_22 hm, xN_22 hm, xQ_22 hm, mw_22, mw_up22, xK_23 hm, xN_23 hm, xQ_23 hm, mw_23, mw_up23, xK_24 hm, xN_24 hm, xQ_24 hm, mw_24, mw_up24, xK_25 hm, xN_25 hm, xQ_25 hm, mw_25, mw_up25, xK_26 hm, xN_26 hm, xQ_26 hm, mw_26, mw_up26, xK_27 hm, xN_27 hm, xQ_27 hm, mw_27, mw_up27, xK_28 hm, xN_28 hm, xQ_28 hm, mw_28, mw_up28, xK_29 hm, xN_29 hm, xQ_29 hm, mw_29, mw_up29, xK_30 hm, xN_30 hm, xQ_30 hm, mw_30, mw_up30, xK_31 hm, xN_31 hm, xQ_31 hm, mw_31, mw_up31, xK_32 hm, xN_32 hm, xQ_32 hm, mw_32, mw_up32, xK_33 hm, xN_33 hm, xQ_33 hm, mw_33, mw_up33, xK_34 hm, xN_34 hm, xQ_34 hm, mw_34, mw_up34, xK_35 hm, xN_35 hm, xQ_35 hm, mw_35, mw_up35, xK_36 hm, xN_36 hm, xQ_36 hm, mw_36, mw_up36, xK_37 hm, xN_37 hm, xQ_37 hm, mw_37, mw_up37, if_true, nI_clamp (show q < 2 ^ 31 by omega), nI_clamp (show at9 < 2 ^ 31 by omega), bd2 (show q < 12 by omega) (show q < 2 ^ 31 by omega), bd2 (show at9 < 36 by omega) (show at9 < 2 ^ 31 by omega), not_false_eq_true, s5, uF_ne (F := G1) (k := 13) (j := at9) (v := nI T.1.length) (a := 11) (b := q) (Or.inl (by decide)), s11, nI_1, e2]
        have hK : ∀ c j, ¬ (c = 12 ∧ at9 * 20 ≤ j ∧ j < at9 * 20 + 20) → ¬ (c = 0 ∧ j = 0) → ¬ (c = 13 ∧ j = at9) → ¬ (c = 11 ∧ j = q) → uF (uF G1 13 at9 (nI T.1.length)) 11 q (nI (v.2.2.2.2.1.length + 1)) c j = H c j := fun c j h1 h2 h3 h4 => by rw [uF_ne (by omega), uF_ne (by omega)]; exact f2 c j h1 h2
        obtain ⟨a1, a2, a3, a4, a5, a6⟩ := hG0
        have m1 : mT (uF (uF G1 13 at9 (nI T.1.length)) 11 q (nI (v.2.2.2.2.1.length + 1))) (uRu T (T.2.2.2.2.1.set q (uEx v T.1))) := by
          refine ⟨⟨(hK _ _ (by omega) (by omega) (by omega) (by omega)).trans a1.1, fun j hj => (hK _ _ (by omega) (by omega) (by omega) (by omega)).trans (a1.2 j hj)⟩, a2.ext (hK _ _ (by omega) (by omega) (by omega) (by omega)) (fun j => hK _ _ (by omega) (by omega) (by omega) (by omega)) (fun j => hK _ _ (by omega) (by omega) (by omega) (by omega)), a3.ext (fun j => hK _ _ (by omega) (by omega) (by omega) (by omega)), ?_, a5.ext (fun k h1 h2 j => hK _ _ (by omega) (by omega) (by omega) (by omega)) (hK _ _ (by omega) (by omega) (by omega) (by omega)), fun d hd => (a6 d hd).ext (fun k h1 h2 j => hK _ _ (by omega) (by omega) (by omega) (by omega))⟩
          refine a4.set (hK _ _ (by omega) (by omega) (by omega) (by omega)) ?_ (fun r u hne hu => ?_) (fun r h1 h2 => ⟨hK _ _ (by omega) (by omega) (by omega) (by omega), hK _ _ (by omega) (by omega) (by omega) (by omega)⟩)
          · obtain ⟨b1, b2, b3, b4, b5, b6, b7, b8, b9⟩ := hv9
            refine ⟨(hK _ _ (by omega) (by omega) (by omega) (by omega)).trans b1, fun i it hi => ⟨(hK _ _ (by omega) (by omega) (by omega) (by omega)).trans (b2 i it hi).1, (b2 i it hi).2.ext (fun j => hK _ _ (by omega) (by omega) (by omega) (by omega)) (hK _ _ (by omega) (by omega) (by omega) (by omega))⟩, (hK _ _ (by omega) (by omega) (by omega) (by omega)).trans b3, (hK _ _ (by omega) (by omega) (by omega) (by omega)).trans b4, (hK _ _ (by omega) (by omega) (by omega) (by omega)).trans b5, ?_, fun i l hi => ?_, (hK _ _ (by omega) (by omega) (by omega) (by omega)).trans b8, fun i l hi => (b9 i l hi).ext (fun j => hK _ _ (by omega) (by omega) (by omega) (by omega)) (hK _ _ (by omega) (by omega) (by omega) (by omega))⟩
            · rw [uF_eq]; show _ = nI (v.2.2.2.2.1 ++ [T.1]).length
              rw [List.length_append]; rfl
            · have hi : (v.2.2.2.2.1 ++ [T.1])[i]? = some l := hi
              by_cases e9 : i < v.2.2.2.2.1.length
              · rw [List.getElem?_append_left e9] at hi
                obtain ⟨y1, y2⟩ := b7 i l hi
                obtain ⟨-, -, wl, -⟩ := hw.2.2.2.2.2.2.2.1 q v hv
                have hl20 := (wl l (List.mem_of_getElem? hi)).2.1
                exact ⟨(hK _ _ (by omega) (by omega) (by omega) (by omega)).trans y1, fun j hj => (hK _ _ (by omega) (by omega) (by omega) (by omega)).trans (y2 j hj)⟩
              · have hi9 : i = v.2.2.2.2.1.length := by
                  have := (List.getElem?_eq_some_iff.mp hi).1
                  simp at this; omega
                rw [List.getElem?_append_right (by omega), hi9, Nat.sub_self] at hi
                cases hi
                rw [hi9, hat9]
                exact ⟨by rw [uF_ne (Or.inl (by decide)), uF_eq], fun j hj => by rw [uF_ne (Or.inl (by decide)), uF_ne (Or.inl (by decide))]; exact c1 j hj⟩
          · obtain ⟨b1, b2, b3, b4, b5, b6, b7, b8, b9⟩ := a4.2.1 r u hu
            obtain ⟨u1, u2, u3, u4, u5, u6⟩ := hw.2.2.2.2.2.2.1.2 r u hu
            refine ⟨(hK _ _ (by omega) (by omega) (by omega) (by omega)).trans b1, fun i it hi => ⟨(hK _ _ (by omega) (by omega) (by omega) (by omega)).trans (b2 i it hi).1, (b2 i it hi).2.ext (fun j => hK _ _ (by omega) (by omega) (by omega) (by omega)) (hK _ _ (by omega) (by omega) (by omega) (by omega))⟩, (hK _ _ (by omega) (by omega) (by omega) (by omega)).trans b3, (hK _ _ (by omega) (by omega) (by omega) (by omega)).trans b4, (hK _ _ (by omega) (by omega) (by omega) (by omega)).trans b5, (hK _ _ (by omega) (by omega) (by omega) (by omega)).trans b6, fun i l hi => ?_, (hK _ _ (by omega) (by omega) (by omega) (by omega)).trans b8, fun i l hi => (b9 i l hi).ext (fun j => hK _ _ (by omega) (by omega) (by omega) (by omega)) (hK _ _ (by omega) (by omega) (by omega) (by omega))⟩
            have hi3 := (List.getElem?_eq_some_iff.mp hi).1
            obtain ⟨y1, y2⟩ := b7 i l hi
            obtain ⟨-, -, wl, -⟩ := hw.2.2.2.2.2.2.2.1 r u hu
            have hl20 := (wl l (List.mem_of_getElem? hi)).2.1
            exact ⟨(hK _ _ (by omega) (by omega) (by omega) (by omega)).trans y1, fun j hj => (hK _ _ (by omega) (by omega) (by omega) (by omega)).trans (y2 j hj)⟩
        refine ⟨G2, ?_, ?_, m1.told (show T.2.2.2.1.length = slN T.2.1 T.2.1.length + 1 from hw.2.2.2.2.2.1) (fun k j hk => ?_) ?_ k2⟩
        · rw [k1 _ _ (by decide), uF_ne (Or.inl (by decide)), uF_eq]
        · rw [k1 _ _ (by decide), uF_ne (Or.inr (by decide)), uF_ne (Or.inl (by decide)), uF_ne (Or.inl (by decide)), c2 _ _ (by omega), uF_eq]
        · by_cases e9 : k = 0 ∧ j = 5
          · exact Or.inl e9
          · exact Or.inr (by rw [k1 _ _ hk, uF_ne (by omega)])
        · rw [k1 _ _ (by decide), uF_eq]
      · rw [if_pos (by rw [show v.2.2.2.2.1.length = 3 by omega]; rfl), if_neg h3]
        exact ⟨_, rfl, uF_eq _ _ _ _, hG0.th 3⟩
    · rw [if_neg hwd9]
      by_cases hl0 : T.1.length = 0
      · rw [if_pos hl0]; exact bad
      · rw [if_neg hl0, if_neg (fun z => hwd9 (hwd.mpr ⟨by omega, z⟩))]; exact bad
end
