section
variable {S : PS} {I G : Nat → Nat → Int32} {m : Nat} {T : St}
theorem mx_byRule (hm : mS S m) (hG : mT G T) (hw : wf T) (hs : ∀ d, d < 4 → ∃ TN, iS T d TN) (p r : Int32) : mZ S I m T (fun _ => 1) 0 (f_X10_byRule (sI S (mw I m G)) m p r) (a_byRule T p r) := by
  have k0 : ∀ J, kK (sI S J) m = 14 := fun J => xK_0 hm
  unfold f_X10_byRule a_byRule
  rw [x_desk, Option.bind_some, lt_eq, lt_eq]
  cases hp : ix p 4 with
  | none =>
    rw [if_pos (show bi (none : Option Nat).isSome = 0 from rfl)]
    dsimp only
    rw [if_pos (k0 _), lt_eq, show wI (sI S (mw I m G)) m 0 1 = sI S (mw I m (uF G 0 0 1)) from by rw [wI_sI, mw_up0], if_pos (k0 _), if_neg (show ¬ kI (sI S (mw I m (uF G 0 0 1))) m 0 ≤ 0 from by rw [kI_sI, mw_0, uF_eq]; decide)]
    exact ⟨_, rfl, uF_eq _ _ _ _, hG.th _⟩
  | some d =>
    obtain ⟨hd, rfl⟩ := ix_some (by decide) hp
    rw [if_neg (show ¬ bi (some d : Option Nat).isSome = 0 from (by decide : ¬ bi true = 0)), show (20 : Int32) = nI 20 from rfl, x_ix1 _ r (show 20 + 1 < 2 ^ 31 by decide), Option.bind_some]
    cases hr : ix r (20 + 1) with
    | none =>
      rw [if_pos (show bi (none : Option Nat).isSome = 0 from rfl)]
      dsimp only
      rw [if_pos (k0 _), lt_eq, show wI (sI S (mw I m G)) m 0 1 = sI S (mw I m (uF G 0 0 1)) from by rw [wI_sI, mw_up0], if_pos (k0 _), if_neg (show ¬ kI (sI S (mw I m (uF G 0 0 1))) m 0 ≤ 0 from by rw [kI_sI, mw_0, uF_eq]; decide)]
      exact ⟨_, rfl, uF_eq _ _ _ _, hG.th _⟩
    | some q =>
      obtain ⟨hq, rfl⟩ := ix_some (by decide) hr
      obtain ⟨TN, hTN⟩ := hs d hd
      obtain ⟨G', e, q9, hl⟩ := x_look (S := S) (I := I) hm hw hd (hG.th 0) hTN
      have hlen := fL_len hw hd hTN
      rw [if_neg (show ¬ bi (some q : Option Nat).isSome = 0 from (by decide : ¬ bi true = 0))]
      dsimp only
      rw [if_pos (k0 _), lt_eq, show wI (sI S (mw I m G)) m 0 0 = sI S (mw I m (uF G 0 0 0)) from by rw [wI_sI, mw_up0], if_pos (k0 _), if_pos (show kI (sI S (mw I m (uF G 0 0 0))) m 0 ≤ 0 from by rw [kI_sI, mw_0, uF_eq]; decide), e, Option.bind_some, lt_eq]
      obtain ⟨z, e1, q1⟩ := it_up (b := fun (v : Int32 × Int32) => f_X10_byRule_b45 m (nI q) (sI S (mw I m G')) v.1 v.2) (fL T d).length
        (P := fun i s => s = (nI (((fL T d).take i).countP (fun z => decide (z.2 = q))), nI i)) (Q := fun z => z = nI ((fL T d).countP (fun z => decide (z.2 = q))))
        (fun i s hi e => by
          subst e
          obtain ⟨c, z1, z2, z3, z4, z5, z6, z7, z8, z9, z10, z11, z12⟩ := hl.at (S := S) (I := I) hm hw hd hTN hi
          refine Or.inl ⟨_, ?_, rfl⟩
          rw [countP_take_succ _ _ (gp_at hi)]
          simp only
          unfold f_X10_byRule_b45
          simp only [↓reduceIte, kK_sI, kQ_sI, kN_sI, kI_sI, wI_sI, Option.bind_some, lt, mw_0, mw_up0, xK_0 hm, xK_1 hm, xN_1 hm, xQ_1 hm, mw_1, mw_up1, xK_2 hm, xN_2 hm, xQ_2 hm, mw_2, mw_up2, xK_3 hm, xN_3 hm, xQ_3 hm, mw_3, mw_up3, xK_4 hm, xN_4 hm, xQ_4 hm, mw_4, mw_up4, xK_5 hm, xN_5 hm, xQ_5 hm, mw_5, mw_up5, xK_6 hm, xN_6 hm, xQ_6 hm, mw_6, mw_up6, xK_7 hm, xN_7 hm, xQ_7 hm, mw_7, mw_up7, xK_8 hm, xN_8 hm, xQ_8 hm, mw_8, mw_up8, xK_9 hm, xN_9 hm, xQ_9 hm, mw_9, mw_up9, xK_10 hm, xN_10 hm, xQ_10 hm, mw_10, mw_up10, xK_11 hm, xN_11 hm, xQ_11 hm, mw_11, mw_up11, xK_12 hm, xN_12 hm, xQ_12 hm, mw_12, mw_up12, xK_13 hm, xN_13 hm, xQ_13 hm, mw_13, mw_up13, xK_14 hm, xN_14 hm, xQ_14 hm, mw_14, mw_up14, xK_15 hm, xN_15 hm, xQ_15 hm, mw_15, mw_up15, xK_16 hm, xN_16 hm, xQ_16 hm, mw_16, mw_up16, xK_17 hm, xN_17 hm, xQ_17 hm, mw_17, mw_up17, xK_18 hm, xN_18 hm, xQ_18 hm, mw_18, mw_up18, xK_19 hm, xN_19 hm, xQ_19 hm, mw_19, mw_up19, xK_20 hm, xN_20 hm, xQ_20 hm, mw_20, mw_up20, xK_21 hm, xN_21 hm, xQ_21 hm, mw_21, mw_up21, xK_22 hm, xN_22 hm, xQ_22 hm, mw_22, mw_up22, xK_23 hm, xN_23 hm, xQ_23 hm, mw_23, mw_up23, xK_24 hm, xN_24 hm, xQ_24 hm, mw_24, mw_up24, xK_25 hm, xN_25 hm, xQ_25 hm, mw_25, mw_up25, xK_26 hm, xN_26 hm, xQ_26 hm, mw_26, mw_up26, xK_27 hm, xN_27 hm, xQ_27 hm, mw_27, mw_up27, xK_28 hm, xN_28 hm, xQ_28 hm, mw_28, mw_up28, xK_29 hm, xN_29 hm, xQ_29 hm, mw_29, mw_up29, xK_30 hm, xN_30 hm, xQ_30 hm, mw_30, mw_up30, xK_31 hm, xN_31 hm, xQ_31 hm, mw_31, mw_up31, xK_32 hm, xN_32 hm, xQ_32 hm, mw_32, mw_up32, xK_33 hm, xN_33 hm, xQ_33 hm, mw_33, mw_up33, xK_34 hm, xN_34 hm, xQ_34 hm, mw_34, mw_up34, xK_35 hm, xN_35 hm, xQ_35 hm, mw_35, mw_up35, xK_36 hm, xN_36 hm, xQ_36 hm, mw_36, mw_up36, xK_37 hm, xN_37 hm, xQ_37 hm, mw_37, mw_up37, hl.2.1, nI_leI (show (fL T d).length < 2 ^ 31 by omega) (show i < 2 ^ 31 by omega), if_neg (show ¬ (fL T d).length ≤ i by omega), nI_clamp (show i < 2 ^ 31 by omega), bd2 z12 (show i < 2 ^ 31 by omega), not_false_eq_true, z2, nI_clamp (show c < 2 ^ 31 by omega), bd2 z1 (show c < 2 ^ 31 by omega), z6, nI_eq (show (gp (fL T d) i).2 < 2 ^ 31 by omega) (show q < 2 ^ 31 by omega), nI_1, decide_eq_true_eq]
          by_cases e : (gp (fL T d) i).2 = q
          · simp only [if_pos e]
          · simp only [if_neg e, show ∀ a, nI a + 0 = nI a from fun a => nI_add a 0, Nat.add_zero])
        (fun s e => by
          subst e
          refine ⟨_, ?_, rfl⟩
          simp only
          unfold f_X10_byRule_b45
          simp only [↓reduceIte, kK_sI, kQ_sI, kN_sI, kI_sI, wI_sI, Option.bind_some, lt, mw_0, mw_up0, xK_0 hm, xK_1 hm, xN_1 hm, xQ_1 hm, mw_1, mw_up1, xK_2 hm, xN_2 hm, xQ_2 hm, mw_2, mw_up2, xK_3 hm, xN_3 hm, xQ_3 hm, mw_3, mw_up3, xK_4 hm, xN_4 hm, xQ_4 hm, mw_4, mw_up4, xK_5 hm, xN_5 hm, xQ_5 hm, mw_5, mw_up5, xK_6 hm, xN_6 hm, xQ_6 hm, mw_6, mw_up6, xK_7 hm, xN_7 hm, xQ_7 hm, mw_7, mw_up7, xK_8 hm, xN_8 hm, xQ_8 hm, mw_8, mw_up8, xK_9 hm, xN_9 hm, xQ_9 hm, mw_9, mw_up9, xK_10 hm, xN_10 hm, xQ_10 hm, mw_10, mw_up10, xK_11 hm, xN_11 hm, xQ_11 hm, mw_11, mw_up11, xK_12 hm, xN_12 hm, xQ_12 hm, mw_12, mw_up12, xK_13 hm, xN_13 hm, xQ_13 hm, mw_13, mw_up13, xK_14 hm, xN_14 hm, xQ_14 hm, mw_14, mw_up14, xK_15 hm, xN_15 hm, xQ_15 hm, mw_15, mw_up15, xK_16 hm, xN_16 hm, xQ_16 hm, mw_16, mw_up16, xK_17 hm, xN_17 hm, xQ_17 hm, mw_17, mw_up17, xK_18 hm, xN_18 hm, xQ_18 hm, mw_18, mw_up18, xK_19 hm, xN_19 hm, xQ_19 hm, mw_19, mw_up19, xK_20 hm, xN_20 hm, xQ_20 hm, mw_20, mw_up20, xK_21 hm, xN_21 hm, xQ_21 hm, mw_21, mw_up21, xK_22 hm, xN_22 hm, xQ_22 hm, mw_22, mw_up22, xK_23 hm, xN_23 hm, xQ_23 hm, mw_23, mw_up23, xK_24 hm, xN_24 hm, xQ_24 hm, mw_24, mw_up24, xK_25 hm, xN_25 hm, xQ_25 hm, mw_25, mw_up25, xK_26 hm, xN_26 hm, xQ_26 hm, mw_26, mw_up26, xK_27 hm, xN_27 hm, xQ_27 hm, mw_27, mw_up27, xK_28 hm, xN_28 hm, xQ_28 hm, mw_28, mw_up28, xK_29 hm, xN_29 hm, xQ_29 hm, mw_29, mw_up29, xK_30 hm, xN_30 hm, xQ_30 hm, mw_30, mw_up30, xK_31 hm, xN_31 hm, xQ_31 hm, mw_31, mw_up31, xK_32 hm, xN_32 hm, xQ_32 hm, mw_32, mw_up32, xK_33 hm, xN_33 hm, xQ_33 hm, mw_33, mw_up33, xK_34 hm, xN_34 hm, xQ_34 hm, mw_34, mw_up34, xK_35 hm, xN_35 hm, xQ_35 hm, mw_35, mw_up35, xK_36 hm, xN_36 hm, xQ_36 hm, mw_36, mw_up36, xK_37 hm, xN_37 hm, xQ_37 hm, mw_37, mw_up37, hl.2.1, nI_leI (show (fL T d).length < 2 ^ 31 by omega) (show (fL T d).length < 2 ^ 31 by omega), Nat.le_refl, List.take_length])
        0 (0, 0) (by simp [nI_0]) (Nat.zero_le _) kF (by unfold kF; omega)
      rw [e1, q1]
      exact ⟨G', rfl, (q9.2 0 (by decide) (by decide) (by decide)).trans (uF_eq _ _ _ _), (hG.th _).q q9.q⟩
theorem mx_byWriter (hm : mS S m) (hG : mT G T) (hw : wf T) (hs : ∀ d, d < 4 → ∃ TN, iS T d TN) (p r : Int32) : mZ S I m T (fun _ => 1) 0 (f_X10_byWriter (sI S (mw I m G)) m p r) (a_byWriter T p r) := by
  have k0 : ∀ J, kK (sI S J) m = 14 := fun J => xK_0 hm
  unfold f_X10_byWriter a_byWriter
  rw [x_desk, Option.bind_some, lt_eq, lt_eq]
  cases hp : ix p 4 with
  | none =>
    rw [if_pos (show bi (none : Option Nat).isSome = 0 from rfl)]
    dsimp only
    rw [if_pos (k0 _), lt_eq, show wI (sI S (mw I m G)) m 0 1 = sI S (mw I m (uF G 0 0 1)) from by rw [wI_sI, mw_up0], if_pos (k0 _), if_neg (show ¬ kI (sI S (mw I m (uF G 0 0 1))) m 0 ≤ 0 from by rw [kI_sI, mw_0, uF_eq]; decide)]
    exact ⟨_, rfl, uF_eq _ _ _ _, hG.th _⟩
  | some d =>
    obtain ⟨hd, rfl⟩ := ix_some (by decide) hp
    rw [if_neg (show ¬ bi (some d : Option Nat).isSome = 0 from (by decide : ¬ bi true = 0)), show (3 : Int32) = nI 3 from rfl, x_ix1 _ r (show 3 + 1 < 2 ^ 31 by decide), Option.bind_some]
    cases hr : ix r (3 + 1) with
    | none =>
      rw [if_pos (show bi (none : Option Nat).isSome = 0 from rfl)]
      dsimp only
      rw [if_pos (k0 _), lt_eq, show wI (sI S (mw I m G)) m 0 1 = sI S (mw I m (uF G 0 0 1)) from by rw [wI_sI, mw_up0], if_pos (k0 _), if_neg (show ¬ kI (sI S (mw I m (uF G 0 0 1))) m 0 ≤ 0 from by rw [kI_sI, mw_0, uF_eq]; decide)]
      exact ⟨_, rfl, uF_eq _ _ _ _, hG.th _⟩
    | some q =>
      obtain ⟨hq, rfl⟩ := ix_some (by decide) hr
      obtain ⟨TN, hTN⟩ := hs d hd
      obtain ⟨G', e, q9, hl⟩ := x_look (S := S) (I := I) hm hw hd (hG.th 0) hTN
      have hG' : mT G' T := (hG.th 0).q q9.q
      have hlen := fL_len hw hd hTN
      have ht := hw.2.1
      rw [if_neg (show ¬ bi (some q : Option Nat).isSome = 0 from (by decide : ¬ bi true = 0))]
      dsimp only
      rw [if_pos (k0 _), lt_eq, show wI (sI S (mw I m G)) m 0 0 = sI S (mw I m (uF G 0 0 0)) from by rw [wI_sI, mw_up0], if_pos (k0 _), if_pos (show kI (sI S (mw I m (uF G 0 0 0))) m 0 ≤ 0 from by rw [kI_sI, mw_0, uF_eq]; decide), e, Option.bind_some, lt_eq]
      obtain ⟨z, e1, q1⟩ := it_up (b := fun (v : Int32 × Int32) => f_X10_byWriter_b44 m (nI q) (sI S (mw I m G')) v.1 v.2) (fL T d).length
        (P := fun i s => s = (nI (((fL T d).take i).countP (fun z => decide (la T.2.2.1 (fO T z) = nI q))), nI i)) (Q := fun z => z = nI ((fL T d).countP (fun z => decide (la T.2.2.1 (fO T z) = nI q))))
        (fun i s hi e => by
          subst e
          obtain ⟨c, z1, z2, z3, z4, z5, z6, z7, z8, z9, z10, z11, z12⟩ := hl.at (S := S) (I := I) hm hw hd hTN hi
          have hw2 := hG'.2.1.2.2 _ z10
          refine Or.inl ⟨_, ?_, rfl⟩
          rw [countP_take_succ _ _ (gp_at hi)]
          simp only
          unfold f_X10_byWriter_b44
          simp only [↓reduceIte, kK_sI, kQ_sI, kN_sI, kI_sI, wI_sI, Option.bind_some, lt, mw_0, mw_up0, xK_0 hm, xK_1 hm, xN_1 hm, xQ_1 hm, mw_1, mw_up1, xK_2 hm, xN_2 hm, xQ_2 hm, mw_2, mw_up2, xK_3 hm, xN_3 hm, xQ_3 hm, mw_3, mw_up3, xK_4 hm, xN_4 hm, xQ_4 hm, mw_4, mw_up4, xK_5 hm, xN_5 hm, xQ_5 hm, mw_5, mw_up5, xK_6 hm, xN_6 hm, xQ_6 hm, mw_6, mw_up6, xK_7 hm, xN_7 hm, xQ_7 hm, mw_7, mw_up7, xK_8 hm, xN_8 hm, xQ_8 hm, mw_8, mw_up8, xK_9 hm, xN_9 hm, xQ_9 hm, mw_9, mw_up9, xK_10 hm, xN_10 hm, xQ_10 hm, mw_10, mw_up10, xK_11 hm, xN_11 hm, xQ_11 hm, mw_11, mw_up11, xK_12 hm, xN_12 hm, xQ_12 hm, mw_12, mw_up12, xK_13 hm, xN_13 hm, xQ_13 hm, mw_13, mw_up13, xK_14 hm, xN_14 hm, xQ_14 hm, mw_14, mw_up14, xK_15 hm, xN_15 hm, xQ_15 hm, mw_15, mw_up15, xK_16 hm, xN_16 hm, xQ_16 hm, mw_16, mw_up16, xK_17 hm, xN_17 hm, xQ_17 hm, mw_17, mw_up17, xK_18 hm, xN_18 hm, xQ_18 hm, mw_18, mw_up18, xK_19 hm, xN_19 hm, xQ_19 hm, mw_19, mw_up19, xK_20 hm, xN_20 hm, xQ_20 hm, mw_20, mw_up20, xK_21 hm, xN_21 hm, xQ_21 hm, mw_21, mw_up21, xK_22 hm, xN_22 hm, xQ_22 hm, mw_22, mw_up22, xK_23 hm, xN_23 hm, xQ_23 hm, mw_23, mw_up23, xK_24 hm, xN_24 hm, xQ_24 hm, mw_24, mw_up24, xK_25 hm, xN_25 hm, xQ_25 hm, mw_25, mw_up25, xK_26 hm, xN_26 hm, xQ_26 hm, mw_26, mw_up26, xK_27 hm, xN_27 hm, xQ_27 hm, mw_27, mw_up27, xK_28 hm, xN_28 hm, xQ_28 hm, mw_28, mw_up28, xK_29 hm, xN_29 hm, xQ_29 hm, mw_29, mw_up29, xK_30 hm, xN_30 hm, xQ_30 hm, mw_30, mw_up30, xK_31 hm, xN_31 hm, xQ_31 hm, mw_31, mw_up31, xK_32 hm, xN_32 hm, xQ_32 hm, mw_32, mw_up32, xK_33 hm, xN_33 hm, xQ_33 hm, mw_33, mw_up33, xK_34 hm, xN_34 hm, xQ_34 hm, mw_34, mw_up34, xK_35 hm, xN_35 hm, xQ_35 hm, mw_35, mw_up35, xK_36 hm, xN_36 hm, xQ_36 hm, mw_36, mw_up36, xK_37 hm, xN_37 hm, xQ_37 hm, mw_37, mw_up37, hl.2.1, nI_leI (show (fL T d).length < 2 ^ 31 by omega) (show i < 2 ^ 31 by omega), if_neg (show ¬ (fL T d).length ≤ i by omega), nI_clamp (show i < 2 ^ 31 by omega), bd2 z12 (show i < 2 ^ 31 by omega), not_false_eq_true, z2, z3, nI_clamp (show fO T (gp (fL T d) i) < 2 ^ 31 by omega), bd2 (show fO T (gp (fL T d) i) < 161 by omega) (show fO T (gp (fL T d) i) < 2 ^ 31 by omega), hw2, nI_1, decide_eq_true_eq]
          by_cases e : la T.2.2.1 (fO T (gp (fL T d) i)) = nI q
          · simp only [if_pos e]
          · simp only [if_neg e, show ∀ a, nI a + 0 = nI a from fun a => nI_add a 0, Nat.add_zero])
        (fun s e => by
          subst e
          refine ⟨_, ?_, rfl⟩
          simp only
          unfold f_X10_byWriter_b44
          simp only [↓reduceIte, kK_sI, kQ_sI, kN_sI, kI_sI, wI_sI, Option.bind_some, lt, mw_0, mw_up0, xK_0 hm, xK_1 hm, xN_1 hm, xQ_1 hm, mw_1, mw_up1, xK_2 hm, xN_2 hm, xQ_2 hm, mw_2, mw_up2, xK_3 hm, xN_3 hm, xQ_3 hm, mw_3, mw_up3, xK_4 hm, xN_4 hm, xQ_4 hm, mw_4, mw_up4, xK_5 hm, xN_5 hm, xQ_5 hm, mw_5, mw_up5, xK_6 hm, xN_6 hm, xQ_6 hm, mw_6, mw_up6, xK_7 hm, xN_7 hm, xQ_7 hm, mw_7, mw_up7, xK_8 hm, xN_8 hm, xQ_8 hm, mw_8, mw_up8, xK_9 hm, xN_9 hm, xQ_9 hm, mw_9, mw_up9, xK_10 hm, xN_10 hm, xQ_10 hm, mw_10, mw_up10, xK_11 hm, xN_11 hm, xQ_11 hm, mw_11, mw_up11, xK_12 hm, xN_12 hm, xQ_12 hm, mw_12, mw_up12, xK_13 hm, xN_13 hm, xQ_13 hm, mw_13, mw_up13, xK_14 hm, xN_14 hm, xQ_14 hm, mw_14, mw_up14, xK_15 hm, xN_15 hm, xQ_15 hm, mw_15, mw_up15, xK_16 hm, xN_16 hm, xQ_16 hm, mw_16, mw_up16, xK_17 hm, xN_17 hm, xQ_17 hm, mw_17, mw_up17, xK_18 hm, xN_18 hm, xQ_18 hm, mw_18, mw_up18, xK_19 hm, xN_19 hm, xQ_19 hm, mw_19, mw_up19, xK_20 hm, xN_20 hm, xQ_20 hm, mw_20, mw_up20, xK_21 hm, xN_21 hm, xQ_21 hm, mw_21, mw_up21, xK_22 hm, xN_22 hm, xQ_22 hm, mw_22, mw_up22, xK_23 hm, xN_23 hm, xQ_23 hm, mw_23, mw_up23, xK_24 hm, xN_24 hm, xQ_24 hm, mw_24, mw_up24, xK_25 hm, xN_25 hm, xQ_25 hm, mw_25, mw_up25, xK_26 hm, xN_26 hm, xQ_26 hm, mw_26, mw_up26, xK_27 hm, xN_27 hm, xQ_27 hm, mw_27, mw_up27, xK_28 hm, xN_28 hm, xQ_28 hm, mw_28, mw_up28, xK_29 hm, xN_29 hm, xQ_29 hm, mw_29, mw_up29, xK_30 hm, xN_30 hm, xQ_30 hm, mw_30, mw_up30, xK_31 hm, xN_31 hm, xQ_31 hm, mw_31, mw_up31, xK_32 hm, xN_32 hm, xQ_32 hm, mw_32, mw_up32, xK_33 hm, xN_33 hm, xQ_33 hm, mw_33, mw_up33, xK_34 hm, xN_34 hm, xQ_34 hm, mw_34, mw_up34, xK_35 hm, xN_35 hm, xQ_35 hm, mw_35, mw_up35, xK_36 hm, xN_36 hm, xQ_36 hm, mw_36, mw_up36, xK_37 hm, xN_37 hm, xQ_37 hm, mw_37, mw_up37, hl.2.1, nI_leI (show (fL T d).length < 2 ^ 31 by omega) (show (fL T d).length < 2 ^ 31 by omega), Nat.le_refl, List.take_length])
        0 (0, 0) (by simp [nI_0]) (Nat.zero_le _) kF (by unfold kF; omega)
      rw [e1, q1]
      exact ⟨G', rfl, (q9.2 0 (by decide) (by decide) (by decide)).trans (uF_eq _ _ _ _), hG'⟩
theorem mx_checksum (hm : mS S m) (hG : mT G T) (hw : wf T) (hs : ∀ d, d < 4 → ∃ TN, iS T d TN) : ∃ G', f_X10_checksum (sI S (mw I m G)) m = some (sI S (mw I m G'), a_checksum T) ∧ G' 0 0 = 0 ∧ mT G' T := by
  have k0 : ∀ J, kK (sI S J) m = 14 := fun J => xK_0 hm
  have hd : 0 < 4 := by decide
  have ht := hw.2.1
  obtain ⟨TN, hTN⟩ := hs 0 hd
  have hlen := fL_len hw hd hTN
  have hG0 := hG.th 0
  obtain ⟨G', e, q9, hl⟩ := x_look (S := S) (I := I) hm hw hd hG0 hTN
  unfold f_X10_checksum
  rw [if_pos (k0 _), lt_eq, show wI (sI S (mw I m G)) m 0 0 = sI S (mw I m (uF G 0 0 0)) from by rw [wI_sI, mw_up0], lt_eq]
  obtain ⟨z, e1, q1⟩ := it_up (b := fun (w : Int64 × Int32) => f_X10_checksum_b11 m (sI S (mw I m (uF G 0 0 0))) w.1 w.2) T.2.1.length
    (P := fun i s => s = (ck1 T.2.1 i, nI i)) (Q := fun z => z = ck1 T.2.1 T.2.1.length)
    (fun i s hi e => by
      subst e
      refine Or.inl ⟨_, ?_, rfl⟩
      simp only
      unfold f_X10_checksum_b11
      simp only [↓reduceIte, kK_sI, kQ_sI, kN_sI, kI_sI, wI_sI, Option.bind_some, lt, mw_0, mw_up0, xK_0 hm, xK_1 hm, xN_1 hm, xQ_1 hm, mw_1, mw_up1, xK_2 hm, xN_2 hm, xQ_2 hm, mw_2, mw_up2, xK_3 hm, xN_3 hm, xQ_3 hm, mw_3, mw_up3, xK_4 hm, xN_4 hm, xQ_4 hm, mw_4, mw_up4, xK_5 hm, xN_5 hm, xQ_5 hm, mw_5, mw_up5, xK_6 hm, xN_6 hm, xQ_6 hm, mw_6, mw_up6, xK_7 hm, xN_7 hm, xQ_7 hm, mw_7, mw_up7, xK_8 hm, xN_8 hm, xQ_8 hm, mw_8, mw_up8, xK_9 hm, xN_9 hm, xQ_9 hm, mw_9, mw_up9, xK_10 hm, xN_10 hm, xQ_10 hm, mw_10, mw_up10, xK_11 hm, xN_11 hm, xQ_11 hm, mw_11, mw_up11, xK_12 hm, xN_12 hm, xQ_12 hm, mw_12, mw_up12, xK_13 hm, xN_13 hm, xQ_13 hm, mw_13, mw_up13, xK_14 hm, xN_14 hm, xQ_14 hm, mw_14, mw_up14, xK_15 hm, xN_15 hm, xQ_15 hm, mw_15, mw_up15, xK_16 hm, xN_16 hm, xQ_16 hm, mw_16, mw_up16, xK_17 hm, xN_17 hm, xQ_17 hm, mw_17, mw_up17, xK_18 hm, xN_18 hm, xQ_18 hm, mw_18, mw_up18, xK_19 hm, xN_19 hm, xQ_19 hm, mw_19, mw_up19, xK_20 hm, xN_20 hm, xQ_20 hm, mw_20, mw_up20, xK_21 hm, xN_21 hm, xQ_21 hm, mw_21, mw_up21, xK_22 hm, xN_22 hm, xQ_22 hm, mw_22, mw_up22, xK_23 hm, xN_23 hm, xQ_23 hm, mw_23, mw_up23, xK_24 hm, xN_24 hm, xQ_24 hm, mw_24, mw_up24, xK_25 hm, xN_25 hm, xQ_25 hm, mw_25, mw_up25, xK_26 hm, xN_26 hm, xQ_26 hm, mw_26, mw_up26, xK_27 hm, xN_27 hm, xQ_27 hm, mw_27, mw_up27, xK_28 hm, xN_28 hm, xQ_28 hm, mw_28, mw_up28, xK_29 hm, xN_29 hm, xQ_29 hm, mw_29, mw_up29, xK_30 hm, xN_30 hm, xQ_30 hm, mw_30, mw_up30, xK_31 hm, xN_31 hm, xQ_31 hm, mw_31, mw_up31, xK_32 hm, xN_32 hm, xQ_32 hm, mw_32, mw_up32, xK_33 hm, xN_33 hm, xQ_33 hm, mw_33, mw_up33, xK_34 hm, xN_34 hm, xQ_34 hm, mw_34, mw_up34, xK_35 hm, xN_35 hm, xQ_35 hm, mw_35, mw_up35, xK_36 hm, xN_36 hm, xQ_36 hm, mw_36, mw_up36, xK_37 hm, xN_37 hm, xQ_37 hm, mw_37, mw_up37, hG0.2.1.1, nI_leI (show T.2.1.length < 2 ^ 31 by omega) (show i < 2 ^ 31 by omega), if_neg (show ¬ T.2.1.length ≤ i by omega), nI_clamp (show i < 2 ^ 31 by omega), bd2 (show i < 161 by omega) (show i < 2 ^ 31 by omega), not_false_eq_true, hG0.2.1.2.1 i hi, nI_1, ck1])
    (fun s e => by
      subst e
      refine ⟨_, ?_, rfl⟩
      simp only
      unfold f_X10_checksum_b11
      simp only [↓reduceIte, kK_sI, kQ_sI, kN_sI, kI_sI, wI_sI, Option.bind_some, lt, mw_0, mw_up0, xK_0 hm, xK_1 hm, xN_1 hm, xQ_1 hm, mw_1, mw_up1, xK_2 hm, xN_2 hm, xQ_2 hm, mw_2, mw_up2, xK_3 hm, xN_3 hm, xQ_3 hm, mw_3, mw_up3, xK_4 hm, xN_4 hm, xQ_4 hm, mw_4, mw_up4, xK_5 hm, xN_5 hm, xQ_5 hm, mw_5, mw_up5, xK_6 hm, xN_6 hm, xQ_6 hm, mw_6, mw_up6, xK_7 hm, xN_7 hm, xQ_7 hm, mw_7, mw_up7, xK_8 hm, xN_8 hm, xQ_8 hm, mw_8, mw_up8, xK_9 hm, xN_9 hm, xQ_9 hm, mw_9, mw_up9, xK_10 hm, xN_10 hm, xQ_10 hm, mw_10, mw_up10, xK_11 hm, xN_11 hm, xQ_11 hm, mw_11, mw_up11, xK_12 hm, xN_12 hm, xQ_12 hm, mw_12, mw_up12, xK_13 hm, xN_13 hm, xQ_13 hm, mw_13, mw_up13, xK_14 hm, xN_14 hm, xQ_14 hm, mw_14, mw_up14, xK_15 hm, xN_15 hm, xQ_15 hm, mw_15, mw_up15, xK_16 hm, xN_16 hm, xQ_16 hm, mw_16, mw_up16, xK_17 hm, xN_17 hm, xQ_17 hm, mw_17, mw_up17, xK_18 hm, xN_18 hm, xQ_18 hm, mw_18, mw_up18, xK_19 hm, xN_19 hm, xQ_19 hm, mw_19, mw_up19, xK_20 hm, xN_20 hm, xQ_20 hm, mw_20, mw_up20, xK_21 hm, xN_21 hm, xQ_21 hm, mw_21, mw_up21, xK_22 hm, xN_22 hm, xQ_22 hm, mw_22, mw_up22, xK_23 hm, xN_23 hm, xQ_23 hm, mw_23, mw_up23, xK_24 hm, xN_24 hm, xQ_24 hm, mw_24, mw_up24, xK_25 hm, xN_25 hm, xQ_25 hm, mw_25, mw_up25, xK_26 hm, xN_26 hm, xQ_26 hm, mw_26, mw_up26, xK_27 hm, xN_27 hm, xQ_27 hm, mw_27, mw_up27, xK_28 hm, xN_28 hm, xQ_28 hm, mw_28, mw_up28, xK_29 hm, xN_29 hm, xQ_29 hm, mw_29, mw_up29, xK_30 hm, xN_30 hm, xQ_30 hm, mw_30, mw_up30, xK_31 hm, xN_31 hm, xQ_31 hm, mw_31, mw_up31, xK_32 hm, xN_32 hm, xQ_32 hm, mw_32, mw_up32, xK_33 hm, xN_33 hm, xQ_33 hm, mw_33, mw_up33, xK_34 hm, xN_34 hm, xQ_34 hm, mw_34, mw_up34, xK_35 hm, xN_35 hm, xQ_35 hm, mw_35, mw_up35, xK_36 hm, xN_36 hm, xQ_36 hm, mw_36, mw_up36, xK_37 hm, xN_37 hm, xQ_37 hm, mw_37, mw_up37, hG0.2.1.1, nI_leI (show T.2.1.length < 2 ^ 31 by omega) (show T.2.1.length < 2 ^ 31 by omega), Nat.le_refl])
    0 (7, 0) (by simp [nI_0, ck1]) (Nat.zero_le _) kF (by unfold kF; omega)
  rw [e1, q1]
  simp only [Option.bind_some]
  rw [if_pos (k0 _), show f_X10_look (sI S (mw I m (uF G 0 0 0))) m 0 = some (sI S (mw I m G')) from e, Option.bind_some, lt_eq]
  obtain ⟨z, e1, q1⟩ := it_up (b := fun (w : Int64 × Int32) => f_X10_checksum_b46 m (sI S (mw I m G')) w.1 w.2) (fL T 0).length
    (P := fun i s => s = (ck2 T (fL T 0) (ck1 T.2.1 T.2.1.length) i, nI i)) (Q := fun z => z = a_checksum T)
    (fun i s hi e => by
      subst e
      obtain ⟨c, z1, z2, z3, z4, z5, z6, z7, z8, z9, z10, z11, z12⟩ := hl.at (S := S) (I := I) hm hw hd hTN hi
      refine Or.inl ⟨_, ?_, rfl⟩
      simp only
      unfold f_X10_checksum_b46
      simp only [↓reduceIte, kK_sI, kQ_sI, kN_sI, kI_sI, wI_sI, Option.bind_some, lt, mw_0, mw_up0, xK_0 hm, xK_1 hm, xN_1 hm, xQ_1 hm, mw_1, mw_up1, xK_2 hm, xN_2 hm, xQ_2 hm, mw_2, mw_up2, xK_3 hm, xN_3 hm, xQ_3 hm, mw_3, mw_up3, xK_4 hm, xN_4 hm, xQ_4 hm, mw_4, mw_up4, xK_5 hm, xN_5 hm, xQ_5 hm, mw_5, mw_up5, xK_6 hm, xN_6 hm, xQ_6 hm, mw_6, mw_up6, xK_7 hm, xN_7 hm, xQ_7 hm, mw_7, mw_up7, xK_8 hm, xN_8 hm, xQ_8 hm, mw_8, mw_up8, xK_9 hm, xN_9 hm, xQ_9 hm, mw_9, mw_up9, xK_10 hm, xN_10 hm, xQ_10 hm, mw_10, mw_up10, xK_11 hm, xN_11 hm, xQ_11 hm, mw_11, mw_up11, xK_12 hm, xN_12 hm, xQ_12 hm, mw_12, mw_up12, xK_13 hm, xN_13 hm, xQ_13 hm, mw_13, mw_up13, xK_14 hm, xN_14 hm, xQ_14 hm, mw_14, mw_up14, xK_15 hm, xN_15 hm, xQ_15 hm, mw_15, mw_up15, xK_16 hm, xN_16 hm, xQ_16 hm, mw_16, mw_up16, xK_17 hm, xN_17 hm, xQ_17 hm, mw_17, mw_up17, xK_18 hm, xN_18 hm, xQ_18 hm, mw_18, mw_up18, xK_19 hm, xN_19 hm, xQ_19 hm, mw_19, mw_up19, xK_20 hm, xN_20 hm, xQ_20 hm, mw_20, mw_up20, xK_21 hm, xN_21 hm, xQ_21 hm, mw_21, mw_up21, xK_22 hm, xN_22 hm, xQ_22 hm, mw_22, mw_up22, xK_23 hm, xN_23 hm, xQ_23 hm, mw_23, mw_up23, xK_24 hm, xN_24 hm, xQ_24 hm, mw_24, mw_up24, xK_25 hm, xN_25 hm, xQ_25 hm, mw_25, mw_up25, xK_26 hm, xN_26 hm, xQ_26 hm, mw_26, mw_up26, xK_27 hm, xN_27 hm, xQ_27 hm, mw_27, mw_up27, xK_28 hm, xN_28 hm, xQ_28 hm, mw_28, mw_up28, xK_29 hm, xN_29 hm, xQ_29 hm, mw_29, mw_up29, xK_30 hm, xN_30 hm, xQ_30 hm, mw_30, mw_up30, xK_31 hm, xN_31 hm, xQ_31 hm, mw_31, mw_up31, xK_32 hm, xN_32 hm, xQ_32 hm, mw_32, mw_up32, xK_33 hm, xN_33 hm, xQ_33 hm, mw_33, mw_up33, xK_34 hm, xN_34 hm, xQ_34 hm, mw_34, mw_up34, xK_35 hm, xN_35 hm, xQ_35 hm, mw_35, mw_up35, xK_36 hm, xN_36 hm, xQ_36 hm, mw_36, mw_up36, xK_37 hm, xN_37 hm, xQ_37 hm, mw_37, mw_up37, hl.2.1, nI_leI (show (fL T 0).length < 2 ^ 31 by omega) (show i < 2 ^ 31 by omega), if_neg (show ¬ (fL T 0).length ≤ i by omega), nI_clamp (show i < 2 ^ 31 by omega), bd2 z12 (show i < 2 ^ 31 by omega), not_false_eq_true, z2, z3, nI_clamp (show c < 2 ^ 31 by omega), bd2 z1 (show c < 2 ^ 31 by omega), z6, nI_1, ck2])
    (fun s e => by
      subst e
      refine ⟨_, ?_, rfl⟩
      simp only
      unfold f_X10_checksum_b46
      simp only [↓reduceIte, kK_sI, kQ_sI, kN_sI, kI_sI, wI_sI, Option.bind_some, lt, mw_0, mw_up0, xK_0 hm, xK_1 hm, xN_1 hm, xQ_1 hm, mw_1, mw_up1, xK_2 hm, xN_2 hm, xQ_2 hm, mw_2, mw_up2, xK_3 hm, xN_3 hm, xQ_3 hm, mw_3, mw_up3, xK_4 hm, xN_4 hm, xQ_4 hm, mw_4, mw_up4, xK_5 hm, xN_5 hm, xQ_5 hm, mw_5, mw_up5, xK_6 hm, xN_6 hm, xQ_6 hm, mw_6, mw_up6, xK_7 hm, xN_7 hm, xQ_7 hm, mw_7, mw_up7, xK_8 hm, xN_8 hm, xQ_8 hm, mw_8, mw_up8, xK_9 hm, xN_9 hm, xQ_9 hm, mw_9, mw_up9, xK_10 hm, xN_10 hm, xQ_10 hm, mw_10, mw_up10, xK_11 hm, xN_11 hm, xQ_11 hm, mw_11, mw_up11, xK_12 hm, xN_12 hm, xQ_12 hm, mw_12, mw_up12, xK_13 hm, xN_13 hm, xQ_13 hm, mw_13, mw_up13, xK_14 hm, xN_14 hm, xQ_14 hm, mw_14, mw_up14, xK_15 hm, xN_15 hm, xQ_15 hm, mw_15, mw_up15, xK_16 hm, xN_16 hm, xQ_16 hm, mw_16, mw_up16, xK_17 hm, xN_17 hm, xQ_17 hm, mw_17, mw_up17, xK_18 hm, xN_18 hm, xQ_18 hm, mw_18, mw_up18, xK_19 hm, xN_19 hm, xQ_19 hm, mw_19, mw_up19, xK_20 hm, xN_20 hm, xQ_20 hm, mw_20, mw_up20, xK_21 hm, xN_21 hm, xQ_21 hm, mw_21, mw_up21, xK_22 hm, xN_22 hm, xQ_22 hm, mw_22, mw_up22, xK_23 hm, xN_23 hm, xQ_23 hm, mw_23, mw_up23, xK_24 hm, xN_24 hm, xQ_24 hm, mw_24, mw_up24, xK_25 hm, xN_25 hm, xQ_25 hm, mw_25, mw_up25, xK_26 hm, xN_26 hm, xQ_26 hm, mw_26, mw_up26, xK_27 hm, xN_27 hm, xQ_27 hm, mw_27, mw_up27, xK_28 hm, xN_28 hm, xQ_28 hm, mw_28, mw_up28, xK_29 hm, xN_29 hm, xQ_29 hm, mw_29, mw_up29, xK_30 hm, xN_30 hm, xQ_30 hm, mw_30, mw_up30, xK_31 hm, xN_31 hm, xQ_31 hm, mw_31, mw_up31, xK_32 hm, xN_32 hm, xQ_32 hm, mw_32, mw_up32, xK_33 hm, xN_33 hm, xQ_33 hm, mw_33, mw_up33, xK_34 hm, xN_34 hm, xQ_34 hm, mw_34, mw_up34, xK_35 hm, xN_35 hm, xQ_35 hm, mw_35, mw_up35, xK_36 hm, xN_36 hm, xQ_36 hm, mw_36, mw_up36, xK_37 hm, xN_37 hm, xQ_37 hm, mw_37, mw_up37, hl.2.1, nI_leI (show (fL T 0).length < 2 ^ 31 by omega) (show (fL T 0).length < 2 ^ 31 by omega), Nat.le_refl]
      rfl)
    0 (ck1 T.2.1 T.2.1.length, 0) (by simp [nI_0, ck2]) (Nat.zero_le _) kF (by unfold kF; omega)
  rw [e1, q1]
  exact ⟨G', rfl, (q9.2 0 (by decide) (by decide) (by decide)).trans (uF_eq _ _ _ _), hG0.q q9.q⟩
theorem mx_share (hm : mS S m) (hG : mT G T) (hw : wf T) (hs : ∀ d, d < 4 → ∃ TN, iS T d TN) (p : Int32) : ∃ G', f_X10_foundShare (sI S (mw I m G)) m p = some (sI S (mw I m G'), match a_share T p with | .inl v => v | .inr _ => FP.fconst0) ∧ G' 0 0 = (match a_share T p with | .inl _ => 0 | .inr k => if k = 1 then 1 else 2) ∧ mT G' T := by
  have k0 : ∀ J, kK (sI S J) m = 14 := fun J => xK_0 hm
  have ht := hw.2.1
  unfold f_X10_foundShare a_share
  rw [x_desk, Option.bind_some, lt_eq]
  cases hp : ix p 4 with
  | none =>
    rw [if_pos (show bi (none : Option Nat).isSome = 0 from rfl)]
    dsimp only
    rw [if_pos (k0 _), lt_eq, show wI (sI S (mw I m G)) m 0 1 = sI S (mw I m (uF G 0 0 1)) from by rw [wI_sI, mw_up0], if_pos (k0 _), if_neg (show ¬ kI (sI S (mw I m (uF G 0 0 1))) m 0 ≤ 0 from by rw [kI_sI, mw_0, uF_eq]; decide)]
    exact ⟨_, rfl, uF_eq _ _ _ _, hG.th _⟩
  | some d =>
    obtain ⟨hd, rfl⟩ := ix_some (by decide) hp
    rw [if_neg (show ¬ bi (some d : Option Nat).isSome = 0 from (by decide : ¬ bi true = 0))]
    dsimp only
    rw [if_pos (k0 _), show kI (sI S (mw I m G)) m 3 = nI T.2.1.length from by rw [kI_sI, mw_0]; exact hG.2.1.1]
    by_cases h0 : T.2.1.length = 0
    · rw [if_pos (show nI T.2.1.length = 0 from by rw [h0]; rfl), if_pos (k0 _), lt_eq, show wI (sI S (mw I m G)) m 0 2 = sI S (mw I m (uF G 0 0 2)) from by rw [wI_sI, mw_up0], if_pos (k0 _), if_neg (show ¬ kI (sI S (mw I m (uF G 0 0 2))) m 0 ≤ 0 from by rw [kI_sI, mw_0, uF_eq]; decide)]
      simp only [if_pos h0]
      exact ⟨_, rfl, uF_eq _ _ _ _, hG.th _⟩
    · obtain ⟨TN, hTN⟩ := hs d hd
      have hG0 := hG.th 0
      obtain ⟨G', e, q9, hl⟩ := x_look (S := S) (I := I) hm hw hd hG0 hTN
      have hG' : mT G' T := hG0.q q9.q
      have hlen := fL_len hw hd hTN
      rw [if_neg (show ¬ nI T.2.1.length = 0 from fun z => h0 ((nI_eq0 (by omega)).mp z))]
      rw [if_pos (k0 _), lt_eq, show wI (sI S (mw I m G)) m 0 0 = sI S (mw I m (uF G 0 0 0)) from by rw [wI_sI, mw_up0], if_pos (k0 _), if_pos (show kI (sI S (mw I m (uF G 0 0 0))) m 0 ≤ 0 from by rw [kI_sI, mw_0, uF_eq]; decide), e, Option.bind_some, lt_eq]
      obtain ⟨z, e1, q1⟩ := it_up (b := fun (v : Int32 × Int32) => f_X10_foundShare_b45 m (sI S (mw I m G')) v.1 v.2) (fL T d).length
        (P := fun i s => s = (nI (sumT (lO T) ((fL T d).take i)), nI i)) (Q := fun z => z = nI (sumT (lO T) (fL T d)))
        (fun i s hi e => by
          subst e
          obtain ⟨c, z1, z2, z3, z4, z5, z6, z7, z8, z9, z10, z11, z12⟩ := hl.at (S := S) (I := I) hm hw hd hTN hi
          refine Or.inl ⟨_, ?_, rfl⟩
          rw [sumT_take_succ _ _ (gp_at hi)]
          simp only
          unfold f_X10_foundShare_b45
          simp only [↓reduceIte, kK_sI, kQ_sI, kN_sI, kI_sI, wI_sI, Option.bind_some, lt, mw_0, mw_up0, xK_0 hm, xK_1 hm, xN_1 hm, xQ_1 hm, mw_1, mw_up1, xK_2 hm, xN_2 hm, xQ_2 hm, mw_2, mw_up2, xK_3 hm, xN_3 hm, xQ_3 hm, mw_3, mw_up3, xK_4 hm, xN_4 hm, xQ_4 hm, mw_4, mw_up4, xK_5 hm, xN_5 hm, xQ_5 hm, mw_5, mw_up5, xK_6 hm, xN_6 hm, xQ_6 hm, mw_6, mw_up6, xK_7 hm, xN_7 hm, xQ_7 hm, mw_7, mw_up7, xK_8 hm, xN_8 hm, xQ_8 hm, mw_8, mw_up8, xK_9 hm, xN_9 hm, xQ_9 hm, mw_9, mw_up9, xK_10 hm, xN_10 hm, xQ_10 hm, mw_10, mw_up10, xK_11 hm, xN_11 hm, xQ_11 hm, mw_11, mw_up11, xK_12 hm, xN_12 hm, xQ_12 hm, mw_12, mw_up12, xK_13 hm, xN_13 hm, xQ_13 hm, mw_13, mw_up13, xK_14 hm, xN_14 hm, xQ_14 hm, mw_14, mw_up14, xK_15 hm, xN_15 hm, xQ_15 hm, mw_15, mw_up15, xK_16 hm, xN_16 hm, xQ_16 hm, mw_16, mw_up16, xK_17 hm, xN_17 hm, xQ_17 hm, mw_17, mw_up17, xK_18 hm, xN_18 hm, xQ_18 hm, mw_18, mw_up18, xK_19 hm, xN_19 hm, xQ_19 hm, mw_19, mw_up19, xK_20 hm, xN_20 hm, xQ_20 hm, mw_20, mw_up20, xK_21 hm, xN_21 hm, xQ_21 hm, mw_21, mw_up21, xK_22 hm, xN_22 hm, xQ_22 hm, mw_22, mw_up22, xK_23 hm, xN_23 hm, xQ_23 hm, mw_23, mw_up23, xK_24 hm, xN_24 hm, xQ_24 hm, mw_24, mw_up24, xK_25 hm, xN_25 hm, xQ_25 hm, mw_25, mw_up25, xK_26 hm, xN_26 hm, xQ_26 hm, mw_26, mw_up26, xK_27 hm, xN_27 hm, xQ_27 hm, mw_27, mw_up27, xK_28 hm, xN_28 hm, xQ_28 hm, mw_28, mw_up28, xK_29 hm, xN_29 hm, xQ_29 hm, mw_29, mw_up29, xK_30 hm, xN_30 hm, xQ_30 hm, mw_30, mw_up30, xK_31 hm, xN_31 hm, xQ_31 hm, mw_31, mw_up31, xK_32 hm, xN_32 hm, xQ_32 hm, mw_32, mw_up32, xK_33 hm, xN_33 hm, xQ_33 hm, mw_33, mw_up33, xK_34 hm, xN_34 hm, xQ_34 hm, mw_34, mw_up34, xK_35 hm, xN_35 hm, xQ_35 hm, mw_35, mw_up35, xK_36 hm, xN_36 hm, xQ_36 hm, mw_36, mw_up36, xK_37 hm, xN_37 hm, xQ_37 hm, mw_37, mw_up37, hl.2.1, nI_leI (show (fL T d).length < 2 ^ 31 by omega) (show i < 2 ^ 31 by omega), if_neg (show ¬ (fL T d).length ≤ i by omega), nI_clamp (show i < 2 ^ 31 by omega), bd2 z12 (show i < 2 ^ 31 by omega), not_false_eq_true, z2, z3, nI_clamp (show c < 2 ^ 31 by omega), bd2 z1 (show c < 2 ^ 31 by omega), z5, pk_sub (show fO T (gp (fL T d) i) ≤ fO T (gp (fL T d) i) + lO T (gp (fL T d) i) by omega), Nat.add_sub_cancel_left, nI_add, nI_1])
        (fun s e => by
          subst e
          refine ⟨_, ?_, rfl⟩
          simp only
          unfold f_X10_foundShare_b45
          simp only [↓reduceIte, kK_sI, kQ_sI, kN_sI, kI_sI, wI_sI, Option.bind_some, lt, mw_0, mw_up0, xK_0 hm, xK_1 hm, xN_1 hm, xQ_1 hm, mw_1, mw_up1, xK_2 hm, xN_2 hm, xQ_2 hm, mw_2, mw_up2, xK_3 hm, xN_3 hm, xQ_3 hm, mw_3, mw_up3, xK_4 hm, xN_4 hm, xQ_4 hm, mw_4, mw_up4, xK_5 hm, xN_5 hm, xQ_5 hm, mw_5, mw_up5, xK_6 hm, xN_6 hm, xQ_6 hm, mw_6, mw_up6, xK_7 hm, xN_7 hm, xQ_7 hm, mw_7, mw_up7, xK_8 hm, xN_8 hm, xQ_8 hm, mw_8, mw_up8, xK_9 hm, xN_9 hm, xQ_9 hm, mw_9, mw_up9, xK_10 hm, xN_10 hm, xQ_10 hm, mw_10, mw_up10, xK_11 hm, xN_11 hm, xQ_11 hm, mw_11, mw_up11, xK_12 hm, xN_12 hm, xQ_12 hm, mw_12, mw_up12, xK_13 hm, xN_13 hm, xQ_13 hm, mw_13, mw_up13, xK_14 hm, xN_14 hm, xQ_14 hm, mw_14, mw_up14, xK_15 hm, xN_15 hm, xQ_15 hm, mw_15, mw_up15, xK_16 hm, xN_16 hm, xQ_16 hm, mw_16, mw_up16, xK_17 hm, xN_17 hm, xQ_17 hm, mw_17, mw_up17, xK_18 hm, xN_18 hm, xQ_18 hm, mw_18, mw_up18, xK_19 hm, xN_19 hm, xQ_19 hm, mw_19, mw_up19, xK_20 hm, xN_20 hm, xQ_20 hm, mw_20, mw_up20, xK_21 hm, xN_21 hm, xQ_21 hm, mw_21, mw_up21, xK_22 hm, xN_22 hm, xQ_22 hm, mw_22, mw_up22, xK_23 hm, xN_23 hm, xQ_23 hm, mw_23, mw_up23, xK_24 hm, xN_24 hm, xQ_24 hm, mw_24, mw_up24, xK_25 hm, xN_25 hm, xQ_25 hm, mw_25, mw_up25, xK_26 hm, xN_26 hm, xQ_26 hm, mw_26, mw_up26, xK_27 hm, xN_27 hm, xQ_27 hm, mw_27, mw_up27, xK_28 hm, xN_28 hm, xQ_28 hm, mw_28, mw_up28, xK_29 hm, xN_29 hm, xQ_29 hm, mw_29, mw_up29, xK_30 hm, xN_30 hm, xQ_30 hm, mw_30, mw_up30, xK_31 hm, xN_31 hm, xQ_31 hm, mw_31, mw_up31, xK_32 hm, xN_32 hm, xQ_32 hm, mw_32, mw_up32, xK_33 hm, xN_33 hm, xQ_33 hm, mw_33, mw_up33, xK_34 hm, xN_34 hm, xQ_34 hm, mw_34, mw_up34, xK_35 hm, xN_35 hm, xQ_35 hm, mw_35, mw_up35, xK_36 hm, xN_36 hm, xQ_36 hm, mw_36, mw_up36, xK_37 hm, xN_37 hm, xQ_37 hm, mw_37, mw_up37, hl.2.1, nI_leI (show (fL T d).length < 2 ^ 31 by omega) (show (fL T d).length < 2 ^ 31 by omega), Nat.le_refl, List.take_length])
        0 (0, 0) (by simp [nI_0, sumT]) (Nat.zero_le _) kF (by unfold kF; omega)
      rw [e1, q1]
      simp only [Option.bind_some]
      rw [if_pos (k0 _), show kI (sI S (mw I m G')) m 3 = nI T.2.1.length from by rw [kI_sI, mw_0]; exact hG'.2.1.1, if_pos (fdq _ (nI_ne0 (by omega) (by omega)))]
      simp only [if_neg h0]
      exact ⟨G', rfl, (q9.2 0 (by decide) (by decide) (by decide)).trans (uF_eq _ _ _ _), hG'⟩
theorem mx_tokens (hm : mS S m) (hG : mT G T) (hw : wf T) (b : Int32) : ∃ G', f_X10_tokens (sI S (mw I m G)) m b = some (sI S (mw I m G'), a_tokens T b) ∧ G' 0 0 = 0 ∧ mT G' T := by
  have k0 : ∀ J, kK (sI S J) m = 14 := fun J => xK_0 hm
  have ht := hw.2.1
  have hn := (tsO_wT hw.2.1).1
  have hG0 := hG.th 0
  obtain ⟨G', e, s1, s2⟩ := x_scan (S := S) (I := I) hm hG0.2.1 ht
  have hk := s2.tk
  unfold f_X10_tokens
  rw [if_pos (k0 _), lt_eq, show wI (sI S (mw I m G)) m 0 0 = sI S (mw I m (uF G 0 0 0)) from by rw [wI_sI, mw_up0], if_pos (k0 _), e, Option.bind_some, lt_eq]
  obtain ⟨z, e1, q⟩ := it_up (b := fun (w : Int32 × Int32) => f_X10_tokens_b13 m b (sI S (mw I m G')) w.1 w.2) (tsO T.2.1).length
    (P := fun i s => s = (nI (((tsO T.2.1).take i).countP (fun t => decide (bi t.2.2.2.2.1 = b))), nI i)) (Q := fun z => z = a_tokens T b)
    (fun i s hi e => by
      subst e
      have hg : (tsO T.2.1)[i]? = some (tsO T.2.1)[i] := List.getElem?_eq_getElem hi
      have hq : tQ (tsO T.2.1) i = (tsO T.2.1)[i].2.2.2.2.1 := by unfold tQ; rw [hg]
      refine Or.inl ⟨_, ?_, rfl⟩
      rw [countP_take_succ _ _ hg]
      simp only
      unfold f_X10_tokens_b13
      simp only [↓reduceIte, kK_sI, kQ_sI, kN_sI, kI_sI, wI_sI, Option.bind_some, lt, mw_0, mw_up0, xK_0 hm, xK_1 hm, xN_1 hm, xQ_1 hm, mw_1, mw_up1, xK_2 hm, xN_2 hm, xQ_2 hm, mw_2, mw_up2, xK_3 hm, xN_3 hm, xQ_3 hm, mw_3, mw_up3, xK_4 hm, xN_4 hm, xQ_4 hm, mw_4, mw_up4, xK_5 hm, xN_5 hm, xQ_5 hm, mw_5, mw_up5, xK_6 hm, xN_6 hm, xQ_6 hm, mw_6, mw_up6, xK_7 hm, xN_7 hm, xQ_7 hm, mw_7, mw_up7, xK_8 hm, xN_8 hm, xQ_8 hm, mw_8, mw_up8, xK_9 hm, xN_9 hm, xQ_9 hm, mw_9, mw_up9, xK_10 hm, xN_10 hm, xQ_10 hm, mw_10, mw_up10, xK_11 hm, xN_11 hm, xQ_11 hm, mw_11, mw_up11, xK_12 hm, xN_12 hm, xQ_12 hm, mw_12, mw_up12, xK_13 hm, xN_13 hm, xQ_13 hm, mw_13, mw_up13, xK_14 hm, xN_14 hm, xQ_14 hm, mw_14, mw_up14, xK_15 hm, xN_15 hm, xQ_15 hm, mw_15, mw_up15, xK_16 hm, xN_16 hm, xQ_16 hm, mw_16, mw_up16, xK_17 hm, xN_17 hm, xQ_17 hm, mw_17, mw_up17, xK_18 hm, xN_18 hm, xQ_18 hm, mw_18, mw_up18, xK_19 hm, xN_19 hm, xQ_19 hm, mw_19, mw_up19, xK_20 hm, xN_20 hm, xQ_20 hm, mw_20, mw_up20, xK_21 hm, xN_21 hm, xQ_21 hm, mw_21, mw_up21, xK_22 hm, xN_22 hm, xQ_22 hm, mw_22, mw_up22, xK_23 hm, xN_23 hm, xQ_23 hm, mw_23, mw_up23, xK_24 hm, xN_24 hm, xQ_24 hm, mw_24, mw_up24, xK_25 hm, xN_25 hm, xQ_25 hm, mw_25, mw_up25, xK_26 hm, xN_26 hm, xQ_26 hm, mw_26, mw_up26, xK_27 hm, xN_27 hm, xQ_27 hm, mw_27, mw_up27, xK_28 hm, xN_28 hm, xQ_28 hm, mw_28, mw_up28, xK_29 hm, xN_29 hm, xQ_29 hm, mw_29, mw_up29, xK_30 hm, xN_30 hm, xQ_30 hm, mw_30, mw_up30, xK_31 hm, xN_31 hm, xQ_31 hm, mw_31, mw_up31, xK_32 hm, xN_32 hm, xQ_32 hm, mw_32, mw_up32, xK_33 hm, xN_33 hm, xQ_33 hm, mw_33, mw_up33, xK_34 hm, xN_34 hm, xQ_34 hm, mw_34, mw_up34, xK_35 hm, xN_35 hm, xQ_35 hm, mw_35, mw_up35, xK_36 hm, xN_36 hm, xQ_36 hm, mw_36, mw_up36, xK_37 hm, xN_37 hm, xQ_37 hm, mw_37, mw_up37, hk.1, nI_leI (show (tsO T.2.1).length < 2 ^ 31 by omega) (show i < 2 ^ 31 by omega), if_neg (show ¬ (tsO T.2.1).length ≤ i by omega), nI_clamp (show i < 2 ^ 31 by omega), bd2 (show i < 160 by omega) (show i < 2 ^ 31 by omega), not_false_eq_true, (hk.2.1 i hi).1, (hk.2.1 i hi).2.1, x_anyT hm hk ht hi, hq, nI_1, decide_eq_true_eq]
      by_cases e : bi (tsO T.2.1)[i].2.2.2.2.1 = b
      · simp only [if_pos e]
      · simp only [if_neg e, show ∀ a, nI a + 0 = nI a from fun a => nI_add a 0, Nat.add_zero])
    (fun s e => by
      subst e
      refine ⟨_, ?_, rfl⟩
      simp only
      unfold f_X10_tokens_b13
      simp only [↓reduceIte, kK_sI, kQ_sI, kN_sI, kI_sI, wI_sI, Option.bind_some, lt, mw_0, mw_up0, xK_0 hm, xK_1 hm, xN_1 hm, xQ_1 hm, mw_1, mw_up1, xK_2 hm, xN_2 hm, xQ_2 hm, mw_2, mw_up2, xK_3 hm, xN_3 hm, xQ_3 hm, mw_3, mw_up3, xK_4 hm, xN_4 hm, xQ_4 hm, mw_4, mw_up4, xK_5 hm, xN_5 hm, xQ_5 hm, mw_5, mw_up5, xK_6 hm, xN_6 hm, xQ_6 hm, mw_6, mw_up6, xK_7 hm, xN_7 hm, xQ_7 hm, mw_7, mw_up7, xK_8 hm, xN_8 hm, xQ_8 hm, mw_8, mw_up8, xK_9 hm, xN_9 hm, xQ_9 hm, mw_9, mw_up9, xK_10 hm, xN_10 hm, xQ_10 hm, mw_10, mw_up10, xK_11 hm, xN_11 hm, xQ_11 hm, mw_11, mw_up11, xK_12 hm, xN_12 hm, xQ_12 hm, mw_12, mw_up12, xK_13 hm, xN_13 hm, xQ_13 hm, mw_13, mw_up13, xK_14 hm, xN_14 hm, xQ_14 hm, mw_14, mw_up14, xK_15 hm, xN_15 hm, xQ_15 hm, mw_15, mw_up15, xK_16 hm, xN_16 hm, xQ_16 hm, mw_16, mw_up16, xK_17 hm, xN_17 hm, xQ_17 hm, mw_17, mw_up17, xK_18 hm, xN_18 hm, xQ_18 hm, mw_18, mw_up18, xK_19 hm, xN_19 hm, xQ_19 hm, mw_19, mw_up19, xK_20 hm, xN_20 hm, xQ_20 hm, mw_20, mw_up20, xK_21 hm, xN_21 hm, xQ_21 hm, mw_21, mw_up21, xK_22 hm, xN_22 hm, xQ_22 hm, mw_22, mw_up22, xK_23 hm, xN_23 hm, xQ_23 hm, mw_23, mw_up23, xK_24 hm, xN_24 hm, xQ_24 hm, mw_24, mw_up24, xK_25 hm, xN_25 hm, xQ_25 hm, mw_25, mw_up25, xK_26 hm, xN_26 hm, xQ_26 hm, mw_26, mw_up26, xK_27 hm, xN_27 hm, xQ_27 hm, mw_27, mw_up27, xK_28 hm, xN_28 hm, xQ_28 hm, mw_28, mw_up28, xK_29 hm, xN_29 hm, xQ_29 hm, mw_29, mw_up29, xK_30 hm, xN_30 hm, xQ_30 hm, mw_30, mw_up30, xK_31 hm, xN_31 hm, xQ_31 hm, mw_31, mw_up31, xK_32 hm, xN_32 hm, xQ_32 hm, mw_32, mw_up32, xK_33 hm, xN_33 hm, xQ_33 hm, mw_33, mw_up33, xK_34 hm, xN_34 hm, xQ_34 hm, mw_34, mw_up34, xK_35 hm, xN_35 hm, xQ_35 hm, mw_35, mw_up35, xK_36 hm, xN_36 hm, xQ_36 hm, mw_36, mw_up36, xK_37 hm, xN_37 hm, xQ_37 hm, mw_37, mw_up37, hk.1, nI_leI (show (tsO T.2.1).length < 2 ^ 31 by omega) (show (tsO T.2.1).length < 2 ^ 31 by omega), Nat.le_refl, List.take_length]
      rfl)
    0 (0, 0) (by simp [nI_0]) (Nat.zero_le _) kF (by unfold kF; omega)
  rw [e1, q]
  exact ⟨G', rfl, (s1.2 0 (by decide)).trans (uF_eq _ _ _ _), hG0.q s1.q⟩
theorem mx_mean (hm : mS S m) (hG : mT G T) (hw : wf T) : ∃ G', f_X10_meanWord (sI S (mw I m G)) m = some (sI S (mw I m G'), match a_mean T with | .inl v => v | .inr _ => FP.dconst0) ∧ G' 0 0 = (match a_mean T with | .inl _ => 0 | .inr _ => 1) ∧ mT G' T := by
  have k0 : ∀ J, kK (sI S J) m = 14 := fun J => xK_0 hm
  have ht := hw.2.1
  have hwt := tsO_wT hw.2.1
  have hn := hwt.1
  have hG0 := hG.th 0
  obtain ⟨G', e, s1, s2⟩ := x_scan (S := S) (I := I) hm hG0.2.1 ht
  have hk := s2.tk
  have hG' : mT G' T := hG0.q s1.q
  have hcn : (tsO T.2.1).countP (fun t => t.2.2.1) ≤ 160 := Nat.le_trans List.countP_le_length hn
  unfold f_X10_meanWord a_mean
  rw [if_pos (k0 _), lt_eq, show wI (sI S (mw I m G)) m 0 0 = sI S (mw I m (uF G 0 0 0)) from by rw [wI_sI, mw_up0], if_pos (k0 _), e, Option.bind_some, lt_eq]
  obtain ⟨z, e1, q⟩ := it_up (b := fun (w : Int32 × Int32 × Int32) => f_X10_meanWord_b15 m (sI S (mw I m G')) w.1 w.2.1 w.2.2) (tsO T.2.1).length
    (P := fun i s => s = (nI (((tsO T.2.1).take i).countP (fun t => t.2.2.1)), nI (sumT tL ((tsO T.2.1).take i)), nI i)) (Q := fun z => z = (nI ((tsO T.2.1).countP (fun t => t.2.2.1)), nI (sumT tL (tsO T.2.1))))
    (fun i s hi e => by
      subst e
      have hg : (tsO T.2.1)[i]? = some (tsO T.2.1)[i] := List.getElem?_eq_getElem hi
      have hW : tW (tsO T.2.1) i = (tsO T.2.1)[i].2.2.1 := by unfold tW; rw [hg]
      have hb := tk_b hi
      have hs : tE (tsO T.2.1) i - tF (tsO T.2.1) i = (tsO T.2.1)[i].2.1 - (tsO T.2.1)[i].1 := by unfold tE tF; rw [hg]
      refine Or.inl ⟨_, ?_, rfl⟩
      rw [countP_take_succ _ _ hg, sumT_take_succ _ _ hg]
      simp only
      unfold f_X10_meanWord_b15
      simp only [↓reduceIte, kK_sI, kQ_sI, kN_sI, kI_sI, wI_sI, Option.bind_some, lt, mw_0, mw_up0, xK_0 hm, xK_1 hm, xN_1 hm, xQ_1 hm, mw_1, mw_up1, xK_2 hm, xN_2 hm, xQ_2 hm, mw_2, mw_up2, xK_3 hm, xN_3 hm, xQ_3 hm, mw_3, mw_up3, xK_4 hm, xN_4 hm, xQ_4 hm, mw_4, mw_up4, xK_5 hm, xN_5 hm, xQ_5 hm, mw_5, mw_up5, xK_6 hm, xN_6 hm, xQ_6 hm, mw_6, mw_up6, xK_7 hm, xN_7 hm, xQ_7 hm, mw_7, mw_up7, xK_8 hm, xN_8 hm, xQ_8 hm, mw_8, mw_up8, xK_9 hm, xN_9 hm, xQ_9 hm, mw_9, mw_up9, xK_10 hm, xN_10 hm, xQ_10 hm, mw_10, mw_up10, xK_11 hm, xN_11 hm, xQ_11 hm, mw_11, mw_up11, xK_12 hm, xN_12 hm, xQ_12 hm, mw_12, mw_up12, xK_13 hm, xN_13 hm, xQ_13 hm, mw_13, mw_up13, xK_14 hm, xN_14 hm, xQ_14 hm, mw_14, mw_up14, xK_15 hm, xN_15 hm, xQ_15 hm, mw_15, mw_up15, xK_16 hm, xN_16 hm, xQ_16 hm, mw_16, mw_up16, xK_17 hm, xN_17 hm, xQ_17 hm, mw_17, mw_up17, xK_18 hm, xN_18 hm, xQ_18 hm, mw_18, mw_up18, xK_19 hm, xN_19 hm, xQ_19 hm, mw_19, mw_up19, xK_20 hm, xN_20 hm, xQ_20 hm, mw_20, mw_up20, xK_21 hm, xN_21 hm, xQ_21 hm, mw_21, mw_up21, xK_22 hm, xN_22 hm, xQ_22 hm, mw_22, mw_up22, xK_23 hm, xN_23 hm, xQ_23 hm, mw_23, mw_up23, xK_24 hm, xN_24 hm, xQ_24 hm, mw_24, mw_up24, xK_25 hm, xN_25 hm, xQ_25 hm, mw_25, mw_up25, xK_26 hm, xN_26 hm, xQ_26 hm, mw_26, mw_up26, xK_27 hm, xN_27 hm, xQ_27 hm, mw_27, mw_up27, xK_28 hm, xN_28 hm, xQ_28 hm, mw_28, mw_up28, xK_29 hm, xN_29 hm, xQ_29 hm, mw_29, mw_up29, xK_30 hm, xN_30 hm, xQ_30 hm, mw_30, mw_up30, xK_31 hm, xN_31 hm, xQ_31 hm, mw_31, mw_up31, xK_32 hm, xN_32 hm, xQ_32 hm, mw_32, mw_up32, xK_33 hm, xN_33 hm, xQ_33 hm, mw_33, mw_up33, xK_34 hm, xN_34 hm, xQ_34 hm, mw_34, mw_up34, xK_35 hm, xN_35 hm, xQ_35 hm, mw_35, mw_up35, xK_36 hm, xN_36 hm, xQ_36 hm, mw_36, mw_up36, xK_37 hm, xN_37 hm, xQ_37 hm, mw_37, mw_up37, hk.1, nI_leI (show (tsO T.2.1).length < 2 ^ 31 by omega) (show i < 2 ^ 31 by omega), if_neg (show ¬ (tsO T.2.1).length ≤ i by omega), nI_clamp (show i < 2 ^ 31 by omega), bd2 (show i < 160 by omega) (show i < 2 ^ 31 by omega), not_false_eq_true, (hk.2.1 i hi).1, (hk.2.1 i hi).2.1, (hk.2.1 i hi).2.2, hW, bi_eq0, nI_1, pk_sub (show tF (tsO T.2.1) i ≤ tE (tsO T.2.1) i by omega), hs, nI_add]
      unfold tL
      cases e : (tsO T.2.1)[i].2.2.1
      · simp only [if_true, Bool.false_eq_true, if_false, show ∀ a, nI a + 0 = nI a from fun a => nI_add a 0, Nat.add_zero]
      · simp only [Bool.true_eq_false, if_true, if_false, nI_1, nI_add])
    (fun s e => by
      subst e
      refine ⟨_, ?_, rfl⟩
      simp only
      unfold f_X10_meanWord_b15
      simp only [↓reduceIte, kK_sI, kQ_sI, kN_sI, kI_sI, wI_sI, Option.bind_some, lt, mw_0, mw_up0, xK_0 hm, xK_1 hm, xN_1 hm, xQ_1 hm, mw_1, mw_up1, xK_2 hm, xN_2 hm, xQ_2 hm, mw_2, mw_up2, xK_3 hm, xN_3 hm, xQ_3 hm, mw_3, mw_up3, xK_4 hm, xN_4 hm, xQ_4 hm, mw_4, mw_up4, xK_5 hm, xN_5 hm, xQ_5 hm, mw_5, mw_up5, xK_6 hm, xN_6 hm, xQ_6 hm, mw_6, mw_up6, xK_7 hm, xN_7 hm, xQ_7 hm, mw_7, mw_up7, xK_8 hm, xN_8 hm, xQ_8 hm, mw_8, mw_up8, xK_9 hm, xN_9 hm, xQ_9 hm, mw_9, mw_up9, xK_10 hm, xN_10 hm, xQ_10 hm, mw_10, mw_up10, xK_11 hm, xN_11 hm, xQ_11 hm, mw_11, mw_up11, xK_12 hm, xN_12 hm, xQ_12 hm, mw_12, mw_up12, xK_13 hm, xN_13 hm, xQ_13 hm, mw_13, mw_up13, xK_14 hm, xN_14 hm, xQ_14 hm, mw_14, mw_up14, xK_15 hm, xN_15 hm, xQ_15 hm, mw_15, mw_up15, xK_16 hm, xN_16 hm, xQ_16 hm, mw_16, mw_up16, xK_17 hm, xN_17 hm, xQ_17 hm, mw_17, mw_up17, xK_18 hm, xN_18 hm, xQ_18 hm, mw_18, mw_up18, xK_19 hm, xN_19 hm, xQ_19 hm, mw_19, mw_up19, xK_20 hm, xN_20 hm, xQ_20 hm, mw_20, mw_up20, xK_21 hm, xN_21 hm, xQ_21 hm, mw_21, mw_up21, xK_22 hm, xN_22 hm, xQ_22 hm, mw_22, mw_up22, xK_23 hm, xN_23 hm, xQ_23 hm, mw_23, mw_up23, xK_24 hm, xN_24 hm, xQ_24 hm, mw_24, mw_up24, xK_25 hm, xN_25 hm, xQ_25 hm, mw_25, mw_up25, xK_26 hm, xN_26 hm, xQ_26 hm, mw_26, mw_up26, xK_27 hm, xN_27 hm, xQ_27 hm, mw_27, mw_up27, xK_28 hm, xN_28 hm, xQ_28 hm, mw_28, mw_up28, xK_29 hm, xN_29 hm, xQ_29 hm, mw_29, mw_up29, xK_30 hm, xN_30 hm, xQ_30 hm, mw_30, mw_up30, xK_31 hm, xN_31 hm, xQ_31 hm, mw_31, mw_up31, xK_32 hm, xN_32 hm, xQ_32 hm, mw_32, mw_up32, xK_33 hm, xN_33 hm, xQ_33 hm, mw_33, mw_up33, xK_34 hm, xN_34 hm, xQ_34 hm, mw_34, mw_up34, xK_35 hm, xN_35 hm, xQ_35 hm, mw_35, mw_up35, xK_36 hm, xN_36 hm, xQ_36 hm, mw_36, mw_up36, xK_37 hm, xN_37 hm, xQ_37 hm, mw_37, mw_up37, hk.1, nI_leI (show (tsO T.2.1).length < 2 ^ 31 by omega) (show (tsO T.2.1).length < 2 ^ 31 by omega), Nat.le_refl, List.take_length])
    0 (0, 0, 0) (by simp [nI_0, sumT]) (Nat.zero_le _) kF (by unfold kF; omega)
  rw [e1, q]
  simp only [Option.bind_some]
  rw [lt_eq]
  by_cases h0 : (tsO T.2.1).countP (fun t => t.2.2.1) = 0
  · rw [if_pos (show nI ((tsO T.2.1).countP (fun t => t.2.2.1)) = 0 from by rw [h0]; rfl)]
    dsimp only
    rw [if_pos (k0 _), lt_eq, show wI (sI S (mw I m G')) m 0 1 = sI S (mw I m (uF G' 0 0 1)) from by rw [wI_sI, mw_up0], if_pos (k0 _), if_neg (show ¬ kI (sI S (mw I m (uF G' 0 0 1))) m 0 ≤ 0 from by rw [kI_sI, mw_0, uF_eq]; decide)]
    simp only [if_pos h0]
    exact ⟨_, rfl, uF_eq _ _ _ _, hG'.th _⟩
  · rw [if_neg (show ¬ nI ((tsO T.2.1).countP (fun t => t.2.2.1)) = 0 from fun z => h0 ((nI_eq0 (by omega)).mp z))]
    dsimp only
    rw [if_pos (k0 _), lt_eq, show wI (sI S (mw I m G')) m 0 0 = sI S (mw I m (uF G' 0 0 0)) from by rw [wI_sI, mw_up0], if_pos (k0 _), if_pos (show kI (sI S (mw I m (uF G' 0 0 0))) m 0 ≤ 0 from by rw [kI_sI, mw_0, uF_eq]; decide), if_pos (ddq _ (nI_ne0 (by omega) (by omega)))]
    simp only [if_neg h0]
    exact ⟨_, rfl, uF_eq _ _ _ _, hG'.th _⟩
theorem mx_isSound (hm : mS S m) (hG : mT G T) : ∃ G', f_X10_isSound (sI S (mw I m G)) m = some (sI S (mw I m G'), 1) ∧ G' 0 0 = 0 ∧ mT G' T := by
  unfold f_X10_isSound
  rw [if_pos (show kK (sI S (mw I m G)) m = 14 from xK_0 hm), lt_eq, show wI (sI S (mw I m G)) m 0 0 = sI S (mw I m (uF G 0 0 0)) from by rw [wI_sI, mw_up0]]
  exact ⟨_, rfl, uF_eq _ _ _ _, hG.th _⟩
end
