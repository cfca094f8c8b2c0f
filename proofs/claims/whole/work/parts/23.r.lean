section
variable {S : PS} {I G : Nat → Nat → Int32} {m : Nat} {T : St}
theorem mOut.th {l : List Int32} (h : mOut G l) (v : Int32) : mOut (uF G 0 0 v) l := ⟨by rw [uF_ne (by omega)]; exact h.1, fun i hi => by rw [uF_ne (by omega)]; exact h.2 i hi⟩
theorem mx_size (hm : mS S m) (hG : mT G T) (hw : wf T) (hs : ∀ d, d < 4 → ∃ TN, iS T d TN) (p i s : Int32) : mZ S I m T (fun k => if k = 1 then 1 else 2) 0 (f_X10_size (sI S (mw I m G)) m p i s) (a_size T p i s) := by
  have k0 : ∀ J, kK (sI S J) m = 14 := fun J => xK_0 hm
  unfold f_X10_size a_size
  rw [if_pos (k0 _), x_noDesk hm, Option.bind_some, lt_eq]
  dsimp only
  cases hp : ix p 4 with
  | none =>
    rw [if_neg (show ¬ bi (!(none : Option Nat).isSome) = 0 from (by decide : ¬ bi true = 0))]
    exact ⟨_, rfl, uF_eq _ _ _ _, hG.th _⟩
  | some d =>
    obtain ⟨hd, rfl⟩ := ix_some (by decide) hp
    obtain ⟨TN, hTN⟩ := hs d hd
    have hlen := fL_len hw hd hTN
    obtain ⟨G', b, e, hG', hl, h00, hmd⟩ := x_isMade (S := S) (I := I) hm hw hd (hG.th (bi (!(some d : Option Nat).isSome))) hTN i s
    rw [if_pos (show bi (!(some d : Option Nat).isSome) = 0 from rfl), if_pos (k0 _), e, Option.bind_some, lt_eq, lt_eq]
    dsimp only
    have bad : b = false → (if bi b = 0 then (if kK (sI S (mw I m G')) m = 14 then lt (wI (sI S (mw I m G')) m 0 2) fun S15 => if kK S15 m = 14 then if kI S15 m 0 ≤ 0 then some (S15, kI S15 m 45) else some (S15, 0) else none else none) else (if kK (sI S (mw I m G')) m = 14 then lt (wI (sI S (mw I m G')) m 0 0) fun S15 => if kK S15 m = 14 then if kI S15 m 0 ≤ 0 then some (S15, kI S15 m 45) else some (S15, 0) else none else none)) = some (sI S (mw I m (uF G' 0 0 2)), 0) := fun hb => by
      rw [hb, if_pos (show bi false = 0 from rfl), if_pos (k0 _), lt_eq, show wI (sI S (mw I m G')) m 0 2 = sI S (mw I m (uF G' 0 0 2)) from by rw [wI_sI, mw_up0], if_pos (k0 _), if_neg (show ¬ kI (sI S (mw I m (uF G' 0 0 2))) m 0 ≤ 0 from by rw [kI_sI, mw_0, uF_eq]; decide)]
    unfold mdP at hmd
    cases hi : ix i (fL T d).length with
    | none =>
      rw [hi] at hmd
      exact ⟨_, bad hmd, uF_eq _ _ _ _, hG'.th _⟩
    | some q =>
      rw [hi] at hmd
      simp only at hmd ⊢
      cases hk : ix s (sgN T (gp (fL T d) q).2) with
      | none =>
        rw [hk] at hmd
        exact ⟨_, bad hmd, uF_eq _ _ _ _, hG'.th _⟩
      | some k =>
        rw [hk] at hmd
        obtain ⟨hb, ho⟩ := hmd
        refine ⟨uF G' 0 0 0, ?_, uF_eq _ _ _ _, hG'.th _⟩
        rw [hb, if_neg (show ¬ bi true = 0 by decide), if_pos (k0 _), lt_eq, show wI (sI S (mw I m G')) m 0 0 = sI S (mw I m (uF G' 0 0 0)) from by rw [wI_sI, mw_up0], if_pos (k0 _), if_pos (show kI (sI S (mw I m (uF G' 0 0 0))) m 0 ≤ 0 from by rw [kI_sI, mw_0, uF_eq]; decide), show kI (sI S (mw I m (uF G' 0 0 0))) m 45 = nI (sugL T (gp (fL T d) q) k).length from by rw [kI_sI, mw_0]; exact (ho.th 0).1]
theorem mx_sign (hm : mS S m) (hG : mT G T) (hw : wf T) (hs : ∀ d, d < 4 → ∃ TN, iS T d TN) (p i s c : Int32) : mZ S I m T (fun k => if k = 1 then 1 else 2) 32 (f_X10_sign (sI S (mw I m G)) m p i s c) (a_sign T p i s c) := by
  have k0 : ∀ J, kK (sI S J) m = 14 := fun J => xK_0 hm
  unfold f_X10_sign a_sign
  rw [if_pos (k0 _), x_noDesk hm, Option.bind_some, lt_eq]
  dsimp only
  cases hp : ix p 4 with
  | none =>
    rw [if_neg (show ¬ bi (!(none : Option Nat).isSome) = 0 from (by decide : ¬ bi true = 0))]
    exact ⟨_, rfl, uF_eq _ _ _ _, hG.th _⟩
  | some d =>
    obtain ⟨hd, rfl⟩ := ix_some (by decide) hp
    obtain ⟨TN, hTN⟩ := hs d hd
    have hlen := fL_len hw hd hTN
    obtain ⟨G', b, e, hG', hl, h00, hmd⟩ := x_isMade (S := S) (I := I) hm hw hd (hG.th (bi (!(some d : Option Nat).isSome))) hTN i s
    rw [if_pos (show bi (!(some d : Option Nat).isSome) = 0 from rfl), if_pos (k0 _), e, Option.bind_some, lt_eq, lt_eq]
    dsimp only
    rw [lt_eq]
    have two : ∀ (A : Int32 → Option (PS × Int32)), A = (fun x12 => if kK (sI S (mw I m G')) m = 14 then lt (wI (sI S (mw I m G')) m 0 x12) fun S15 => if kK S15 m = 14 then if kI S15 m 0 ≤ 0 then (kQ S15 m 44).bind fun a19 => if kK S15 a19 = 102 then if ¬ (c < 0 ∨ kN S15 a19 ≤ c.toNatClampNeg) then if vp_nar .char (kI S15 a19 c.toNatClampNeg) = kI S15 a19 c.toNatClampNeg then some (S15, kI S15 a19 c.toNatClampNeg) else none else none else none else some (S15, 32) else none else none) → A 2 = some (sI S (mw I m (uF G' 0 0 2)), 32) := fun A hA => by
      rw [hA]
      dsimp only
      rw [if_pos (k0 _), lt_eq, show wI (sI S (mw I m G')) m 0 2 = sI S (mw I m (uF G' 0 0 2)) from by rw [wI_sI, mw_up0], if_pos (k0 _), if_neg (show ¬ kI (sI S (mw I m (uF G' 0 0 2))) m 0 ≤ 0 from by rw [kI_sI, mw_0, uF_eq]; decide)]
    unfold mdP at hmd
    cases hi : ix i (fL T d).length with
    | none =>
      rw [hi] at hmd
      rw [show b = false from hmd, if_pos (show bi false = 0 from rfl)]
      exact ⟨_, two _ rfl, uF_eq _ _ _ _, hG'.th _⟩
    | some q =>
      rw [hi] at hmd
      simp only at hmd ⊢
      cases hk : ix s (sgN T (gp (fL T d) q).2) with
      | none =>
        rw [hk] at hmd
        rw [show b = false from hmd, if_pos (show bi false = 0 from rfl)]
        exact ⟨_, two _ rfl, uF_eq _ _ _ _, hG'.th _⟩
      | some k =>
        rw [hk] at hmd
        obtain ⟨hb, ho⟩ := hmd
        have hsgn : sgN T (gp (fL T d) q).2 ≤ 2 := by
          unfold sgN
          cases hv : T.2.2.2.2.1[(gp (fL T d) q).2]? with
          | none => simp only; split <;> omega
          | some v => exact (hw.2.2.2.2.2.2.1.2 _ v hv).2.2.2.2.2
        obtain ⟨hks, -⟩ := ix_some (show sgN T (gp (fL T d) q).2 < 2 ^ 31 by omega) hk
        have hsl := sugL_len hw (p := gp (fL T d) q) hks
        rw [hb, if_neg (show ¬ bi true = 0 by decide), if_pos (k0 _), show kI (sI S (mw I m G')) m 45 = nI (sugL T (gp (fL T d) q) k).length from by rw [kI_sI, mw_0]; exact ho.1, x_ix _ c (show (sugL T (gp (fL T d) q) k).length < 2 ^ 31 by omega), Option.bind_some]
        simp only
        cases hc : ix c (sugL T (gp (fL T d) q) k).length with
        | none =>
          rw [if_pos (show bi (none : Option Nat).isSome = 0 from rfl)]
          exact ⟨_, two _ rfl, uF_eq _ _ _ _, hG'.th _⟩
        | some n =>
          obtain ⟨hn, rfl⟩ := ix_some (show (sugL T (gp (fL T d) q) k).length < 2 ^ 31 by omega) hc
          have hid : vp_nar .char (la (sugL T (gp (fL T d) q) k) n) = la (sugL T (gp (fL T d) q) k) n := (char_id (Or.inl (sugL_tx hw hks _ (by rw [la_lt hn]; exact List.getElem_mem hn)))).2
          have h37 := (ho.th 0).2 n hn
          rw [if_neg (show ¬ bi (some n : Option Nat).isSome = 0 from (by decide : ¬ bi true = 0))]
          refine ⟨uF G' 0 0 0, ?_, uF_eq _ _ _ _, hG'.th _⟩
          rw [if_pos (k0 _), lt_eq, show wI (sI S (mw I m G')) m 0 0 = sI S (mw I m (uF G' 0 0 0)) from by rw [wI_sI, mw_up0], if_pos (k0 _), if_pos (show kI (sI S (mw I m (uF G' 0 0 0))) m 0 ≤ 0 from by rw [kI_sI, mw_0, uF_eq]; decide), show kQ (sI S (mw I m (uF G' 0 0 0))) m 44 = some (m + 37) from xQ_37 hm, Option.bind_some, if_pos (show kK (sI S (mw I m (uF G' 0 0 0))) (m + 37) = 102 from xK_37 hm), if_pos (show ¬ (nI n < 0 ∨ kN (sI S (mw I m (uF G' 0 0 0))) (m + 37) ≤ (nI n).toNatClampNeg) from by rw [show kN (sI S (mw I m (uF G' 0 0 0))) (m + 37) = 200 from xN_37 hm]; exact bd (by omega) (by omega)), nI_clamp (show n < 2 ^ 31 by omega), show kI (sI S (mw I m (uF G' 0 0 0))) (m + 37) n = la (sugL T (gp (fL T d) q) k) n from by rw [kI_sI, mw_37]; exact h37, if_pos hid]
theorem mx_ignore (hm : mS S m) (hG : mT G T) (hw : wf T) (hs : ∀ d, d < 4 → ∃ TN, iS T d TN) (p i : Int32) : mZ S I m T (fun k => if k = 1 then 1 else if k = 5 then 2 else 3) 0 (f_X10_ignore (sI S (mw I m G)) m p i) (a_ignore T p i) := by
  have k0 : ∀ J, kK (sI S J) m = 14 := fun J => xK_0 hm
  unfold f_X10_ignore a_ignore
  rw [if_pos (k0 _), x_noDesk hm, Option.bind_some, lt_eq]
  dsimp only
  cases hp : ix p 4 with
  | none =>
    rw [if_neg (show ¬ bi (!(none : Option Nat).isSome) = 0 from (by decide : ¬ bi true = 0))]
    exact ⟨_, rfl, uF_eq _ _ _ _, hG.th _⟩
  | some d =>
    obtain ⟨hd, rfl⟩ := ix_some (by decide) hp
    obtain ⟨TN, hTN⟩ := hs d hd
    have hlen := fL_len hw hd hTN
    obtain ⟨G', e, q9, hl⟩ := x_look (S := S) (I := I) hm hw hd (hG.th (bi (!(some d : Option Nat).isSome))) hTN
    have hG' : mT G' T := (hG.th _).q q9.q
    obtain ⟨b1, b2, b3, b4, b5⟩ := hG'.2.2.2.2.2 d hd
    obtain ⟨w1, w2, w3, w4, w5, w6⟩ := (hw.2.2.2.2.2.2.2.2.2.2 d hd).1
    rw [if_pos (show bi (!(some d : Option Nat).isSome) = 0 from rfl), if_pos (k0 _), e, Option.bind_some, if_pos (k0 _), show kI (sI S (mw I m G')) m 42 = nI (fL T d).length from by rw [kI_sI, mw_0]; exact hl.2.1, x_ix _ i (show (fL T d).length < 2 ^ 31 by omega), Option.bind_some, lt_eq]
    simp only
    cases hi : ix i (fL T d).length with
    | none =>
      rw [if_pos (show bi (none : Option Nat).isSome = 0 from rfl)]
      dsimp only
      rw [lt_eq, show wI (sI S (mw I m G')) m 0 2 = sI S (mw I m (uF G' 0 0 2)) from by rw [wI_sI, mw_up0], if_pos (k0 _), if_neg (show ¬ kI (sI S (mw I m (uF G' 0 0 2))) m 0 ≤ 0 from by rw [kI_sI, mw_0, uF_eq]; decide)]
      exact ⟨_, rfl, uF_eq _ _ _ _, hG'.th _⟩
    | some n =>
      obtain ⟨hn, rfl⟩ := ix_some (by omega) hi
      rw [if_neg (show ¬ bi (some n : Option Nat).isSome = 0 from (by decide : ¬ bi true = 0)), show kQ (sI S (mw I m G')) m 26 = some (m + 22) from xQ_22 hm, Option.bind_some, if_pos (show kK (sI S (mw I m G')) (m + 22) = 101 from xK_22 hm), if_pos (show ¬ (nI d < 0 ∨ kN (sI S (mw I m G')) (m + 22) ≤ (nI d).toNatClampNeg) from by rw [show kN (sI S (mw I m G')) (m + 22) = 4 from xN_22 hm]; exact bd hd (by omega)), nI_clamp (show d < 2 ^ 31 by omega), show kI (sI S (mw I m G')) (m + 22) d = nI (T.2.2.2.2.2.2 d).2.2.2.length from by rw [kI_sI, mw_22]; exact b4]
      dsimp only
      by_cases e20 : (T.2.2.2.2.2.2 d).2.2.2.length < 20
      · have hne : ¬ nI (T.2.2.2.2.2.2 d).2.2.2.length = 20 := fun z => by have := (nI_eq (show (T.2.2.2.2.2.2 d).2.2.2.length < 2 ^ 31 by omega) (show 20 < 2 ^ 31 by decide)).mp z; omega
        rw [if_neg hne, if_pos e20]
        obtain ⟨G1, hG1⟩ : ∃ G1, G1 = uF G' 0 0 0 := ⟨_, rfl⟩
        have hT1 : mT G1 T := by rw [hG1]; exact hG'.th 0
        have hl1 : mLk G1 T d := by rw [hG1]; exact hl.th 0
        obtain ⟨b1, b2, b3, b4, b5⟩ := hT1.2.2.2.2.2 d hd
        obtain ⟨L, hL⟩ : ∃ L, L = (T.2.2.2.2.2.2 d).2.2.2.length := ⟨_, rfl⟩
        rw [← hL] at e20 b4 ⊢
        obtain ⟨z, z1, z2, z3, z4, z5, z6, z7, z8, z9, z10, z11, z12⟩ := hl1.at (S := S) (I := I) hm hw hd hTN hn
        have h00 : G1 0 0 = 0 := by rw [hG1, uF_eq]
        rw [lt_eq, show wI (sI S (mw I m G')) m 0 0 = sI S (mw I m G1) from by rw [wI_sI, mw_up0, hG1], if_pos (k0 _), if_pos (show kI (sI S (mw I m G1)) m 0 ≤ 0 from by rw [kI_sI, mw_0, h00]; decide)]
        have r1 : ∀ (H : Nat → Nat → Int32) (j i : Nat) (v : Int32), uF H 23 j v 36 i = H 36 i := fun H j i v => uF_ne (Or.inl (by decide))
        have r2 : ∀ (H : Nat → Nat → Int32) (j i : Nat) (v : Int32), uF H 24 j v 36 i = H 36 i := fun H j i v => uF_ne (Or.inl (by decide))
        have r3 : ∀ (H : Nat → Nat → Int32) (j i : Nat) (v : Int32), uF H 23 j v 33 i = H 33 i := fun H j i v => uF_ne (Or.inl (by decide))
        have r4 : ∀ (H : Nat → Nat → Int32) (j i : Nat) (v : Int32), uF H 24 j v 33 i = H 33 i := fun H j i v => uF_ne (Or.inl (by decide))
        have r5 : ∀ (H : Nat → Nat → Int32) (j i : Nat) (v : Int32), uF H 23 j v 22 i = H 22 i := fun H j i v => uF_ne (Or.inl (by decide))
        have r6 : ∀ (H : Nat → Nat → Int32) (j i : Nat) (v : Int32), uF H 24 j v 22 i = H 22 i := fun H j i v => uF_ne (Or.inl (by decide))
        have r7 : ∀ (H : Nat → Nat → Int32) (j i : Nat) (v : Int32), uF H 25 j v 22 i = H 22 i := fun H j i v => uF_ne (Or.inl (by decide))
        have hpl : ∀ (j : Nat) (v : Int32), f_X10_placeOf (sI S (mw I m (uF G1 23 j v))) m (nI z) = some (nI (fO T (gp (fL T d) n))) := fun j v => x_placeL hm hw.2.1 (hl1.1.ext (fun k _ _ j => uF_ne (by omega)) (uF_ne (by omega))) z1 (by rw [uF_ne (by omega)]; exact z4) z11
        simp only [↓reduceIte, kK_sI, kQ_sI, kN_sI, kI_sI, wI_sI, Option.bind_some, lt, mw_0, mw_up0, xK_0 hm, xK_1 hm, xN_1 hm, xQ_1 hm, mw_1, mw_up1, xK_2 hm, xN_2 hm, xQ_2 hm, mw_2, mw_up2, xK_3 hm, xN_3 hm, xQ_3 hm, mw_3, mw_up3, xK_4 hm, xN_4 hm, xQ_4 hm, mw_4, mw_up4, xK_5 hm, xN_5 hm, xQ_5 hm, mw_5, mw_up5, xK_6 hm, xN_6 hm, xQ_6 hm, mw_6, mw_up6, xK_7 hm, xN_7 hm, xQ_7 hm, mw_7, mw_up7, xK_8 hm, xN_8 hm, xQ_8 hm, mw_8, mw_up8, xK_9 hm, xN_9 hm, xQ_9 hm, mw_9, mw_up9, xK_10 hm, xN_10 hm, xQ_10 hm, mw_10, mw_up10, xK_11 hm, xN_11 hm, xQ_11 hm, mw_11, mw_up11, xK_12 hm, xN_12 hm, xQ_12 hm, mw_12, mw_up12, xK_13 hm, xN_13 hm, xQ_13 hm, mw_13, mw_up13, xK_14 hm, xN_14 hm, xQ_14 hm, mw_14, mw_up14, xK_15 hm, xN_15 hm, xQ_15 hm, mw_15, mw_up15, xK_16 hm, xN_16 hm, xQ_16 hm, mw_16, mw_up16, xK_17 hm, xN_17 hm, xQ_17 hm, mw_17, mw_up17, xK_18 hm, xN_18 hm, xQ_18 hm, mw_18, mw_up18, xK_19 hm, xN_19 hm, xQ_19 hm, mw_19, mw_up19, xK_20 hm, xN_20 hm, xQ_20 hm, mw_20, mw_up20, xK_21 hm, xN_21 hm, xQ_21 hm, mw_21, mw_up21, xK_22 hm, xN_22 hm, xQ_22 hm, mw_22, mw_up22, xK_23 hm, xN_23 hm, xQ_23 hm, mw_23, mw_up23, xK_24 hm, xN_24 hm, xQ_24 hm, mw_24, mw_up24, xK_25 hm, xN_25 hm, xQ_25 hm, mw_25, mw_up25, xK_26 hm, xN_26 hm, xQ_26 hm, mw_26, mw_up26, xK_27 hm, xN_27 hm, xQ_27 hm, mw_27, mw_up27, xK_28 hm, xN_28 hm, xQ_28 hm, mw_28, mw_up28, xK_29 hm, xN_29 hm, xQ_29 hm, mw_29, mw_up29, xK_30 hm, xN_30 hm, xQ_30 hm, mw_30, mw_up30, xK_31 hm, xN_31 hm, xQ_31 hm, mw_31, mw_up31, xK_32 hm, xN_32 hm, xQ_32 hm, mw_32, mw_up32, xK_33 hm, xN_33 hm, xQ_33 hm, mw_33, mw_up33, xK_34 hm, xN_34 hm, xQ_34 hm, mw_34, mw_up34, xK_35 hm, xN_35 hm, xQ_35 hm, mw_35, mw_up35, xK_36 hm, xN_36 hm, xQ_36 hm, mw_36, mw_up36, xK_37 hm, xN_37 hm, xQ_37 hm, mw_37, mw_up37, nI_clamp (show d < 2 ^ 31 by omega), bd2 hd (show d < 2 ^ 31 by omega), not_false_eq_true, b4, x_mul20, nI_add, nI_clamp (show n < 2 ^ 31 by omega), bd2 z12 (show n < 2 ^ 31 by omega), z2, nI_clamp (show z < 2 ^ 31 by omega), bd2 z1 (show z < 2 ^ 31 by omega), nI_clamp (show d * 20 + L < 2 ^ 31 by omega), bd2 (show d * 20 + L < 80 by omega) (show d * 20 + L < 2 ^ 31 by omega), z6, r1, r2, r3, r4, r5, r6, r7, hpl, z5, nI_1, uF_eq]
        have hfr : ∀ c j, ¬ (23 ≤ c ∧ c ≤ 25 ∧ j = d * 20 + L) → ¬ (c = 22 ∧ j = d) → uF (uF (uF (uF G1 23 (d * 20 + L) (nI (gp (fL T d) n).2)) 24 (d * 20 + L) (nI (fO T (gp (fL T d) n)))) 25 (d * 20 + L) (nI (fO T (gp (fL T d) n) + lO T (gp (fL T d) n)))) 22 d (nI (L + 1)) c j = G1 c j := fun c j h1 h2 => by rw [uF_ne (by omega), uF_ne (by omega), uF_ne (by omega), uF_ne (by omega)]
        refine ⟨_, rfl, (hfr 0 0 (by omega) (by omega)).trans h00, hT1.ds (fun c j hc h0 => hfr c j (by omega) (by omega)) ⟨fun r hr => (hfr _ _ (by omega) (by omega)).trans (b1 r hr), fun r v hv => (hfr _ _ (by omega) (by omega)).trans (b2 r v hv), (hfr _ _ (by omega) (by omega)).trans b3, by rw [uF_eq]; exact congrArg nI (by simp [uG, hL]), fun q g hg => ?_⟩ (fun e he hne => ?_)⟩
        · have hg : ((T.2.2.2.2.2.2 d).2.2.2 ++ [((gp (fL T d) n).2, fO T (gp (fL T d) n), lO T (gp (fL T d) n))])[q]? = some g := hg
          rw [List.getElem?_append, ← hL] at hg
          by_cases e9 : q < L
          · rw [if_pos e9] at hg
            obtain ⟨y1, y2, y3⟩ := b5 q g hg
            exact ⟨(hfr _ _ (by omega) (by omega)).trans y1, (hfr _ _ (by omega) (by omega)).trans y2, (hfr _ _ (by omega) (by omega)).trans y3⟩
          · rw [if_neg e9] at hg
            have e10 : q = L := by
              have := (List.getElem?_eq_some_iff.mp hg).1
              simp at this
              omega
            rw [e10]
            rw [e10, Nat.sub_self] at hg
            simp only [List.getElem?_cons_zero, Option.some.injEq] at hg
            subst hg
            exact ⟨by rw [uF_ne (by omega), uF_ne (by omega), uF_ne (by omega), uF_eq], by rw [uF_ne (by omega), uF_ne (by omega), uF_eq], by rw [uF_ne (by omega), uF_eq]⟩
        · obtain ⟨b1, b2, b3, b4, b5⟩ := hT1.2.2.2.2.2 e he
          have w4' := (hw.2.2.2.2.2.2.2.2.2.2 e he).1.2.2.2.1
          exact ⟨fun r hr => (hfr _ _ (by omega) (by omega)).trans (b1 r hr), fun r v hv => (hfr _ _ (by omega) (by omega)).trans (b2 r v hv), (hfr _ _ (by omega) (by omega)).trans b3, (hfr _ _ (by omega) (by omega)).trans b4, fun q g hg => by
            have hq := (List.getElem?_eq_some_iff.mp hg).1
            obtain ⟨y1, y2, y3⟩ := b5 q g hg
            have hne2 : e * 20 + q ≠ d * 20 + L := by omega
            exact ⟨(hfr _ _ (fun y => hne2 y.2.2) (by omega)).trans y1, (hfr _ _ (fun y => hne2 y.2.2) (by omega)).trans y2, (hfr _ _ (fun y => hne2 y.2.2) (by omega)).trans y3⟩⟩
      · have h20 : (T.2.2.2.2.2.2 d).2.2.2.length = 20 := by omega
        rw [if_pos (show nI (T.2.2.2.2.2.2 d).2.2.2.length = 20 from by rw [h20]; rfl), if_neg e20]
        rw [lt_eq, show wI (sI S (mw I m G')) m 0 3 = sI S (mw I m (uF G' 0 0 3)) from by rw [wI_sI, mw_up0], if_pos (k0 _), if_neg (show ¬ kI (sI S (mw I m (uF G' 0 0 3))) m 0 ≤ 0 from by rw [kI_sI, mw_0, uF_eq]; decide)]
        exact ⟨_, rfl, uF_eq _ _ _ _, hG'.th _⟩
end
