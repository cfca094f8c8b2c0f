/-! calls that look -/
section
variable {S : PS} {I G : Nat → Nat → Int32} {m : Nat} {T : St}
theorem x_placeL (hm : mS S m) {t : List Int32} (ht : t.length ≤ 160) (hk : mTk G t) {c j : Nat} (hc : c < 2800) (h32 : G 32 c = nI j) (hj : j < (tsO t).length) : f_X10_placeOf (sI S (mw I m G)) m (nI c) = some (nI (tF (tsO t) j)) := by
  have hl := (tsO_wT ht).1
  unfold f_X10_placeOf
  simp only [↓reduceIte, kK_sI, kQ_sI, kN_sI, kI_sI, wI_sI, Option.bind_some, lt, mw_0, mw_up0, xK_0 hm, xK_1 hm, xN_1 hm, xQ_1 hm, mw_1, mw_up1, xK_2 hm, xN_2 hm, xQ_2 hm, mw_2, mw_up2, xK_3 hm, xN_3 hm, xQ_3 hm, mw_3, mw_up3, xK_4 hm, xN_4 hm, xQ_4 hm, mw_4, mw_up4, xK_5 hm, xN_5 hm, xQ_5 hm, mw_5, mw_up5, xK_6 hm, xN_6 hm, xQ_6 hm, mw_6, mw_up6, xK_7 hm, xN_7 hm, xQ_7 hm, mw_7, mw_up7, xK_8 hm, xN_8 hm, xQ_8 hm, mw_8, mw_up8, xK_9 hm, xN_9 hm, xQ_9 hm, mw_9, mw_up9, xK_10 hm, xN_10 hm, xQ_10 hm, mw_10, mw_up10, xK_11 hm, xN_11 hm, xQ_11 hm, mw_11, mw_up11, xK_12 hm, xN_12 hm, xQ_12 hm, mw_12, mw_up12, xK_13 hm, xN_13 hm, xQ_13 hm, mw_13, mw_up13, xK_14 hm, xN_14 hm, xQ_14 hm, mw_14, mw_up14, xK_15 hm, xN_15 hm, xQ_15 hm, mw_15, mw_up15, xK_16 hm, xN_16 hm, xQ_16 hm, mw_16, mw_up16, xK_17 hm, xN_17 hm, xQ_17 hm, mw_17, mw_up17, xK_18 hm, xN_18 hm, xQ_18 hm, mw_18, mw_up18, xK_19 hm, xN_19 hm, xQ_19 hm, mw_19, mw_up19, xK_20 hm, xN_20 hm, xQ_20 hm, mw_20, mw_up20, xK_21 hm, xN_21 hm, xQ_21 hm, mw_21, mw_up21, xK_22 hm, xN_22 hm, xQ_22 hm, mw_22, mw_up22, xK_23 hm, xN_23 hm, xQ_23 hm, mw_23, mw_up23, xK_24 hm, xN_24 hm, xQ_24 hm, mw_24, mw_up24, xK_25 hm, xN_25 hm, xQ_25 hm, mw_25, mw_up25, xK_26 hm, xN_26 hm, xQ_26 hm, mw_26, mw_up26, xK_27 hm, xN_27 hm, xQ_27 hm, mw_27, mw_up27, xK_28 hm, xN_28 hm, xQ_28 hm, mw_28, mw_up28, xK_29 hm, xN_29 hm, xQ_29 hm, mw_29, mw_up29, xK_30 hm, xN_30 hm, xQ_30 hm, mw_30, mw_up30, xK_31 hm, xN_31 hm, xQ_31 hm, mw_31, mw_up31, xK_32 hm, xN_32 hm, xQ_32 hm, mw_32, mw_up32, xK_33 hm, xN_33 hm, xQ_33 hm, mw_33, mw_up33, xK_34 hm, xN_34 hm, xQ_34 hm, mw_34, mw_up34, xK_35 hm, xN_35 hm, xQ_35 hm, mw_35, mw_up35, xK_36 hm, xN_36 hm, xQ_36 hm, mw_36, mw_up36, xK_37 hm, xN_37 hm, xQ_37 hm, mw_37, mw_up37, nI_clamp (show c < 2 ^ 31 by omega), bd2 (show c < 2800 by omega) (show c < 2 ^ 31 by omega), not_false_eq_true, h32, nI_clamp (show j < 2 ^ 31 by omega), bd2 (show j < 160 by omega) (show j < 2 ^ 31 by omega), (hk.2.1 j hj).1]
theorem mLk.th {d : Nat} (h : mLk G T d) (v : Int32) : mLk (uF G 0 0 v) T d := by
  obtain ⟨h1, h2, h3⟩ := h
  refine ⟨h1.ext (fun k _ _ j => uF_ne (by omega)) (uF_ne (by omega)), by rw [uF_ne (by omega)]; exact h2, fun i hi => ?_⟩
  obtain ⟨c, c1, c2, c3, c4, c5, c6⟩ := h3 i hi
  exact ⟨c, c1, by rw [uF_ne (by omega)]; exact c2, by rw [uF_ne (by omega)]; exact c3, by rw [uF_ne (by omega)]; exact c4, by rw [uF_ne (by omega)]; exact c5, by rw [uF_ne (by omega)]; exact c6⟩
/-- one of the taken -/
theorem mLk.at {d : Nat} {TN : List Nat} (h : mLk G T d) (hm : mS S m) (hw : wf T) (hd : d < 4) (hs : iS T d TN) {i : Nat} (hi : i < (fL T d).length) : ∃ c, c < 2800 ∧ G 36 i = nI c ∧ f_X10_placeOf (sI S (mw I m G)) m (nI c) = some (nI (fO T (gp (fL T d) i))) ∧ G 32 c = nI (gp (fL T d) i).1 ∧ G 33 c = nI (fO T (gp (fL T d) i) + lO T (gp (fL T d) i)) ∧ G 34 c = nI (gp (fL T d) i).2 ∧ G 35 c = nI (rk T.2.2.2.2.1 (T.2.2.2.2.2.2 d).1 (gp (fL T d) i).2) ∧ (gp (fL T d) i).2 ≤ 20 ∧ fO T (gp (fL T d) i) + lO T (gp (fL T d) i) ≤ T.2.1.length ∧ fO T (gp (fL T d) i) < T.2.1.length ∧ (gp (fL T d) i).1 < (tsO T.2.1).length ∧ i < 160 := by
  obtain ⟨h1, h2, h3⟩ := h
  obtain ⟨c, c1, c2, c3, c4, c5, c6⟩ := h3 i hi
  obtain ⟨f1, f2, f3, f4, f5, f6⟩ := fL_ok hw hd hs (gp_mem hi)
  have hlen := fL_len hw hd hs
  have hj := f1.2.1
  have hb := tk_b hj
  refine ⟨c, c1, c2, x_placeL hm hw.2.1 h1 c1 c3 hj, c3, c4, c5, c6, f4, f5, ?_, hj, by omega⟩
  unfold fO
  omega
theorem mx_findings (hm : mS S m) (hG : mT G T) (hw : wf T) (hs : ∀ d, d < 4 → ∃ TN, iS T d TN) (p : Int32) : mZ S I m T (fun _ => 1) 0 (f_X10_findings (sI S (mw I m G)) m p) (a_findings T p) := by
  unfold f_X10_findings a_findings
  rw [if_pos (show kK (sI S (mw I m G)) m = 14 from xK_0 hm), x_noDesk hm]
  cases hp : ix p 4 with
  | none =>
    simp only [Option.bind_some, lt, Option.isSome_none, Bool.not_false, show ¬ bi true = 0 by decide, if_false]
    exact ⟨_, rfl, uF_eq _ _ _ _, hG.th _⟩
  | some d =>
    obtain ⟨hd, rfl⟩ := ix_some (by decide) hp
    obtain ⟨TN, hTN⟩ := hs d hd
    obtain ⟨G', e, q, hl⟩ := x_look (S := S) (I := I) hm hw hd (hG.th (bi false)) hTN
    simp only [Option.bind_some, lt, Option.isSome_some, Bool.not_true, show bi false = 0 by decide, if_true]
    rw [if_pos (show kK (sI S (mw I m (uF G 0 0 0))) m = 14 from xK_0 hm), show uF G 0 0 0 = uF G 0 0 (bi false) from rfl, e]
    simp only [Option.bind_some]
    rw [if_pos (show kK (sI S (mw I m G')) m = 14 from xK_0 hm), show kI (sI S (mw I m G')) m 42 = nI (fL T d).length from by rw [kI_sI, mw_0]; exact hl.2.1]
    exact ⟨G', rfl, (q.2 0 (by decide) (by decide) (by decide)).trans (uF_eq _ _ _ _), (hG.th _).q q.q⟩
theorem x_thing (S : PS) (c : Int32) : f_X10_isThing S c = some (bi (isTh c)) := by
  unfold f_X10_isThing isTh
  simp only [lt]
  by_cases e1 : c = 102
  · rw [if_pos e1]; simp [e1]; rfl
  · by_cases e2 : c = 108
    · rw [if_neg e1, if_pos e2]; simp [e2]; rfl
    · by_cases e3 : c = 114
      · rw [if_neg e1, if_neg e2, if_pos e3]; simp [e3]; rfl
      · by_cases e4 : c = 107
        · rw [if_neg e1, if_neg e2, if_neg e3, if_pos e4]; simp [e4]; rfl
        · by_cases e5 : c = 119
          · rw [if_neg e1, if_neg e2, if_neg e3, if_neg e4, if_pos e5]; simp [e5]; rfl
          · by_cases e6 : c = 115
            · rw [if_neg e1, if_neg e2, if_neg e3, if_neg e4, if_neg e5, if_pos e6]; simp [e6]; rfl
            · rw [if_neg e1, if_neg e2, if_neg e3, if_neg e4, if_neg e5, if_neg e6]; simp [e1, e2, e3, e4, e5, e6]; rfl
theorem x_sugOf (hm : mS S m) (hG : mT G T) (hw : wf T) {c r : Nat} (hc : c < 2800) (h34 : G 34 c = nI r) (hr : r ≤ 20) (hf : r < 12 → r < T.2.2.2.2.1.length) (hf2 : 12 ≤ r → r ≠ 20 → r - 12 < T.2.2.2.2.2.1.length) : f_X10_suggestionsOf (sI S (mw I m G)) m (nI c) = some (nI (sgN T r)) := by
  have hru := hw.2.2.2.2.2.2.1.1
  have hpl := hw.2.2.2.2.2.2.2.2.1
  unfold f_X10_suggestionsOf
  simp only [↓reduceIte, kK_sI, kQ_sI, kN_sI, kI_sI, wI_sI, Option.bind_some, lt, mw_0, mw_up0, xK_0 hm, xK_1 hm, xN_1 hm, xQ_1 hm, mw_1, mw_up1, xK_2 hm, xN_2 hm, xQ_2 hm, mw_2, mw_up2, xK_3 hm, xN_3 hm, xQ_3 hm, mw_3, mw_up3, xK_4 hm, xN_4 hm, xQ_4 hm, mw_4, mw_up4, xK_5 hm, xN_5 hm, xQ_5 hm, mw_5, mw_up5, xK_6 hm, xN_6 hm, xQ_6 hm, mw_6, mw_up6, xK_7 hm, xN_7 hm, xQ_7 hm, mw_7, mw_up7, xK_8 hm, xN_8 hm, xQ_8 hm, mw_8, mw_up8, xK_9 hm, xN_9 hm, xQ_9 hm, mw_9, mw_up9, xK_10 hm, xN_10 hm, xQ_10 hm, mw_10, mw_up10, xK_11 hm, xN_11 hm, xQ_11 hm, mw_11, mw_up11, xK_12 hm, xN_12 hm, xQ_12 hm, mw_12, mw_up12, xK_13 hm, xN_13 hm, xQ_13 hm, mw_13, mw_up13, xK_14 hm, xN_14 hm, xQ_14 hm, mw_14, mw_up14, xK_15 hm, xN_15 hm, xQ_15 hm, mw_15, mw_up15, xK_16 hm, xN_16 hm, xQ_16 hm, mw_16, mw_up16, xK_17 hm, xN_17 hm, xQ_17 hm, mw_17, mw_up17, xK_18 hm, xN_18 hm, xQ_18 hm, mw_18, mw_up18, xK_19 hm, xN_19 hm, xQ_19 hm, mw_19, mw_up19, xK_20 hm, xN_20 hm, xQ_20 hm, mw_20, mw_up20, xK_21 hm, xN_21 hm, xQ_21 hm, mw_21, mw_up21, xK_22 hm, xN_22 hm, xQ_22 hm, mw_22, mw_up22, xK_23 hm, xN_23 hm, xQ_23 hm, mw_23, mw_up23, xK_24 hm, xN_24 hm, xQ_24 hm, mw_24, mw_up24, xK_25 hm, xN_25 hm, xQ_25 hm, mw_25, mw_up25, xK_26 hm, xN_26 hm, xQ_26 hm, mw_26, mw_up26, xK_27 hm, xN_27 hm, xQ_27 hm, mw_27, mw_up27, xK_28 hm, xN_28 hm, xQ_28 hm, mw_28, mw_up28, xK_29 hm, xN_29 hm, xQ_29 hm, mw_29, mw_up29, xK_30 hm, xN_30 hm, xQ_30 hm, mw_30, mw_up30, xK_31 hm, xN_31 hm, xQ_31 hm, mw_31, mw_up31, xK_32 hm, xN_32 hm, xQ_32 hm, mw_32, mw_up32, xK_33 hm, xN_33 hm, xQ_33 hm, mw_33, mw_up33, xK_34 hm, xN_34 hm, xQ_34 hm, mw_34, mw_up34, xK_35 hm, xN_35 hm, xQ_35 hm, mw_35, mw_up35, xK_36 hm, xN_36 hm, xQ_36 hm, mw_36, mw_up36, xK_37 hm, xN_37 hm, xQ_37 hm, mw_37, mw_up37, nI_clamp (show c < 2 ^ 31 by omega), bd2 (show c < 2800 by omega) (show c < 2 ^ 31 by omega), not_false_eq_true, h34, show (20 : Int32) = nI 20 from rfl, show (12 : Int32) = nI 12 from rfl, nI_eq (show r < 2 ^ 31 by omega) (show 20 < 2 ^ 31 by decide), nI_ltI (show r < 2 ^ 31 by omega) (show 12 < 2 ^ 31 by decide)]
  unfold sgN
  by_cases e : r = 20
  · rw [if_pos e, List.getElem?_eq_none (by omega)]
    simp only
    rw [if_neg (fun z => by omega)]
    rfl
  · rw [if_neg e]
    by_cases e2 : r < 12
    · obtain ⟨v, hv⟩ : ∃ v, T.2.2.2.2.1[r]? = some v := ⟨_, List.getElem?_eq_getElem (hf e2)⟩
      rw [if_pos e2, hv]
      simp only [nI_clamp (show r < 2 ^ 31 by omega), bd2 (show r < 12 by omega) (show r < 2 ^ 31 by omega), not_false_eq_true, if_true, (hG.2.2.2.1.2.1 r v hv).2.2.2.2.2.2.2.1]
    · have := hf2 (by omega) e
      rw [if_neg e2, List.getElem?_eq_none (by omega)]
      simp only
      rw [if_pos ⟨by omega, this⟩]
      rfl
/-- what is taken is of a rule, a pair or a number -/
theorem fL_kind (hw : wf T) {d : Nat} (hd : d < 4) {TN : List Nat} (hs : iS T d TN) {p : Nat × Nat} (hp : p ∈ fL T d) : (p.2 < 12 → p.2 < T.2.2.2.2.1.length) ∧ (12 ≤ p.2 → p.2 ≠ 20 → p.2 - 12 < T.2.2.2.2.2.1.length) := by
  have hc := (fL_ok hw hd hs hp).1
  have hru := hw.2.2.2.2.2.2.1.1
  rcases cn_kinds hw hc with y | y | ⟨q, y1, y2⟩
  · exact ⟨fun _ => y, fun _ _ => by omega⟩
  · exact ⟨fun _ => by omega, fun _ z => absurd y z⟩
  · exact ⟨fun _ => by omega, fun _ _ => by omega⟩
theorem mx_of (hm : mS S m) (hG : mT G T) (hw : wf T) (hs : ∀ d, d < 4 → ∃ TN, iS T d TN) (p i c : Int32) : mZ S I m T (fun k => if k = 1 then 1 else 2) 0 (f_X10_of (sI S (mw I m G)) m p i c) (a_of T p i c) := by
  have k0 : ∀ J, kK (sI S J) m = 14 := fun J => xK_0 hm
  unfold f_X10_of a_of
  rw [x_desk, Option.bind_some, lt_eq, lt_eq]
  cases hp : ix p 4 with
  | none =>
    rw [if_pos (show bi (none : Option Nat).isSome = 0 from rfl)]
    dsimp only
    rw [if_pos (k0 _), lt_eq, show wI (sI S (mw I m G)) m 0 1 = sI S (mw I m (uF G 0 0 1)) from by rw [wI_sI, mw_up0], if_pos (k0 _), if_neg (show ¬ kI (sI S (mw I m (uF G 0 0 1))) m 0 ≤ 0 from by rw [kI_sI, mw_0, uF_eq]; decide)]
    exact ⟨_, rfl, uF_eq _ _ _ _, hG.th _⟩
  | some d =>
    obtain ⟨hd, rfl⟩ := ix_some (by decide) hp
    rw [if_neg (show ¬ bi (some d : Option Nat).isSome = 0 from (by decide : ¬ bi true = 0)), x_thing, Option.bind_some]
    cases hth : isTh c with
    | false =>
      rw [if_pos (show bi false = 0 from rfl)]
      dsimp only
      rw [if_neg (show ¬ false = true by decide), if_pos (k0 _), lt_eq, show wI (sI S (mw I m G)) m 0 1 = sI S (mw I m (uF G 0 0 1)) from by rw [wI_sI, mw_up0], if_pos (k0 _), if_neg (show ¬ kI (sI S (mw I m (uF G 0 0 1))) m 0 ≤ 0 from by rw [kI_sI, mw_0, uF_eq]; decide)]
      exact ⟨_, rfl, uF_eq _ _ _ _, hG.th _⟩
    | true =>
      obtain ⟨TN, hTN⟩ := hs d hd
      obtain ⟨G', e, q, hl⟩ := x_look (S := S) (I := I) hm hw hd (hG.th 0) hTN
      have hG' : mT G' T := (hG.th 0).q q.q
      have hlen := fL_len hw hd hTN
      rw [if_neg (show ¬ bi true = 0 by decide)]
      dsimp only
      rw [if_pos (k0 _), lt_eq, show wI (sI S (mw I m G)) m 0 0 = sI S (mw I m (uF G 0 0 0)) from by rw [wI_sI, mw_up0], if_pos (k0 _), if_pos (show kI (sI S (mw I m (uF G 0 0 0))) m 0 ≤ 0 from by rw [kI_sI, mw_0, uF_eq]; decide), e, Option.bind_some, if_pos (k0 _), show kI (sI S (mw I m G')) m 42 = nI (fL T d).length from by rw [kI_sI, mw_0]; exact hl.2.1, x_ix _ i (show (fL T d).length < 2 ^ 31 by omega), Option.bind_some, lt_eq, if_pos (show true = true from rfl)]
      cases hi : ix i (fL T d).length with
      | none =>
        rw [if_pos (show bi (none : Option Nat).isSome = 0 from rfl)]
        dsimp only
        rw [lt_eq, show wI (sI S (mw I m G')) m 0 2 = sI S (mw I m (uF G' 0 0 2)) from by rw [wI_sI, mw_up0], if_pos (k0 _), if_neg (show ¬ kI (sI S (mw I m (uF G' 0 0 2))) m 0 ≤ 0 from by rw [kI_sI, mw_0, uF_eq]; decide)]
        exact ⟨_, rfl, uF_eq _ _ _ _, hG'.th _⟩
      | some n =>
        obtain ⟨hn, rfl⟩ := ix_some (by omega) hi
        obtain ⟨z, z1, z2, z3, z4, z5, z6, z7, z8, z9, z10, z11, z12⟩ := (hl.th 0).at (S := S) (I := I) hm hw hd hTN hn
        have hk9 := fL_kind hw hd hTN (gp_mem hn)
        have hsg := x_sugOf (S := S) (I := I) hm (hG'.th 0) hw z1 z6 z8 hk9.1 hk9.2
        have ht := hw.2.1
        have hw2 := (hG'.th 0).2.1.2.2 _ z10
        rw [if_neg (show ¬ bi (some n : Option Nat).isSome = 0 from (by decide : ¬ bi true = 0))]
        dsimp only
        rw [lt_eq, show wI (sI S (mw I m G')) m 0 0 = sI S (mw I m (uF G' 0 0 0)) from by rw [wI_sI, mw_up0], if_pos (k0 _), if_pos (show kI (sI S (mw I m (uF G' 0 0 0))) m 0 ≤ 0 from by rw [kI_sI, mw_0, uF_eq]; decide)]
        refine ⟨_, ?_, uF_eq G' 0 0 0, hG'.th 0⟩
        simp only [↓reduceIte, kK_sI, kQ_sI, kN_sI, kI_sI, wI_sI, Option.bind_some, lt, mw_0, mw_up0, xK_0 hm, xK_1 hm, xN_1 hm, xQ_1 hm, mw_1, mw_up1, xK_2 hm, xN_2 hm, xQ_2 hm, mw_2, mw_up2, xK_3 hm, xN_3 hm, xQ_3 hm, mw_3, mw_up3, xK_4 hm, xN_4 hm, xQ_4 hm, mw_4, mw_up4, xK_5 hm, xN_5 hm, xQ_5 hm, mw_5, mw_up5, xK_6 hm, xN_6 hm, xQ_6 hm, mw_6, mw_up6, xK_7 hm, xN_7 hm, xQ_7 hm, mw_7, mw_up7, xK_8 hm, xN_8 hm, xQ_8 hm, mw_8, mw_up8, xK_9 hm, xN_9 hm, xQ_9 hm, mw_9, mw_up9, xK_10 hm, xN_10 hm, xQ_10 hm, mw_10, mw_up10, xK_11 hm, xN_11 hm, xQ_11 hm, mw_11, mw_up11, xK_12 hm, xN_12 hm, xQ_12 hm, mw_12, mw_up12, xK_13 hm, xN_13 hm, xQ_13 hm, mw_13, mw_up13, xK_14 hm, xN_14 hm, xQ_14 hm, mw_14, mw_up14, xK_15 hm, xN_15 hm, xQ_15 hm, mw_15, mw_up15, xK_16 hm, xN_16 hm, xQ_16 hm, mw_16, mw_up16, xK_17 hm, xN_17 hm, xQ_17 hm, mw_17, mw_up17, xK_18 hm, xN_18 hm, xQ_18 hm, mw_18, mw_up18, xK_19 hm, xN_19 hm, xQ_19 hm, mw_19, mw_up19, xK_20 hm, xN_20 hm, xQ_20 hm, mw_20, mw_up20, xK_21 hm, xN_21 hm, xQ_21 hm, mw_21, mw_up21, xK_22 hm, xN_22 hm, xQ_22 hm, mw_22, mw_up22, xK_23 hm, xN_23 hm, xQ_23 hm, mw_23, mw_up23, xK_24 hm, xN_24 hm, xQ_24 hm, mw_24, mw_up24, xK_25 hm, xN_25 hm, xQ_25 hm, mw_25, mw_up25, xK_26 hm, xN_26 hm, xQ_26 hm, mw_26, mw_up26, xK_27 hm, xN_27 hm, xQ_27 hm, mw_27, mw_up27, xK_28 hm, xN_28 hm, xQ_28 hm, mw_28, mw_up28, xK_29 hm, xN_29 hm, xQ_29 hm, mw_29, mw_up29, xK_30 hm, xN_30 hm, xQ_30 hm, mw_30, mw_up30, xK_31 hm, xN_31 hm, xQ_31 hm, mw_31, mw_up31, xK_32 hm, xN_32 hm, xQ_32 hm, mw_32, mw_up32, xK_33 hm, xN_33 hm, xQ_33 hm, mw_33, mw_up33, xK_34 hm, xN_34 hm, xQ_34 hm, mw_34, mw_up34, xK_35 hm, xN_35 hm, xQ_35 hm, mw_35, mw_up35, xK_36 hm, xN_36 hm, xQ_36 hm, mw_36, mw_up36, xK_37 hm, xN_37 hm, xQ_37 hm, mw_37, mw_up37, nI_clamp (show n < 2 ^ 31 by omega), bd2 (show n < 160 by omega) (show n < 2 ^ 31 by omega), not_false_eq_true, z2, z3, nI_clamp (show z < 2 ^ 31 by omega), bd2 (show z < 2800 by omega) (show z < 2 ^ 31 by omega), z5, z6, z7, hsg, nI_clamp (show fO T (gp (fL T d) n) < 2 ^ 31 by omega), bd2 (show fO T (gp (fL T d) n) < 161 by omega) (show fO T (gp (fL T d) n) < 2 ^ 31 by omega), hw2, pk_sub (show fO T (gp (fL T d) n) ≤ fO T (gp (fL T d) n) + lO T (gp (fL T d) n) by omega), Nat.add_sub_cancel_left]
        unfold ofV
        by_cases c1 : c = 102
        · rw [if_pos c1, if_pos c1]
        · rw [if_neg c1, if_neg c1]
          by_cases c2 : c = 108
          · rw [if_pos c2, if_pos c2]
          · rw [if_neg c2, if_neg c2]
            by_cases c3 : c = 114
            · rw [if_pos c3, if_pos c3]
            · rw [if_neg c3, if_neg c3]
              by_cases c4 : c = 107
              · rw [if_pos c4, if_pos c4]
              · rw [if_neg c4, if_neg c4]
                by_cases c5 : c = 119
                · rw [if_pos c5, if_pos c5]
                · rw [if_neg c5, if_neg c5]
end
