/-! a rule, in the model -/
theorem in19 (n : Int32) : (1 ≤ n ∧ n ≤ 9) ↔ ∃ r, ix n 10 = some r ∧ 1 ≤ r := by
  constructor
  · intro ⟨h1, h2⟩
    have h0 : 0 ≤ n ∧ n < nI 10 := by
      rw [Int32.le_iff_toInt_le] at h1 h2
      have e1 : (1 : Int32).toInt = 1 := by decide
      have e9 : (9 : Int32).toInt = 9 := by decide
      refine ⟨by rw [Int32.le_iff_toInt_le]; have e0 : (0 : Int32).toInt = 0 := by decide
                 omega, by rw [Int32.lt_iff_toInt_lt, nI_toInt (by decide)]; omega⟩
    have hx : ix n 10 = some n.toNatClampNeg := by unfold ix; rw [if_pos h0]
    obtain ⟨hr, hn⟩ := ix_some (by decide) hx
    refine ⟨_, hx, ?_⟩
    rw [hn] at h1
    exact (nI_leI (show 1 < 2 ^ 31 by decide) (by omega)).mp h1
  · intro ⟨r, hx, h1⟩
    obtain ⟨hr, hn⟩ := ix_some (by decide) hx
    rw [hn]
    exact ⟨nI_le h1 (by omega), nI_le (b := 9) (by omega) (by decide)⟩
def xrR (a0 : Nat) (p1 p2 p3 : Int32) (x3 : Int32) (S4 : PS) : Option (PS × Int32) := if kK S4 a0 = 14 then (lt (wI S4 a0 0 x3) fun S7 => if kK S7 a0 = 14 then (if (kI S7 a0 0) ≤ 0 then ((kQ S7 a0 11).bind fun a11 => if kK S7 a11 = 102 then (if ¬ ((kI S7 a0 6) < 0 ∨ kN S7 a11 ≤ (kI S7 a0 6).toNatClampNeg) then (lt (wI S7 a11 (kI S7 a0 6).toNatClampNeg (vp_nar .char p1)) fun S15 => if kK S15 a0 = 14 then ((kQ S15 a0 12).bind fun a18 => if kK S15 a18 = 103 then (if ¬ ((kI S15 a0 6) < 0 ∨ kN S15 a18 ≤ (kI S15 a0 6).toNatClampNeg) then (lt (wI S15 a18 (kI S15 a0 6).toNatClampNeg (vp_nar .boolean p2)) fun S22 => if kK S22 a0 = 14 then ((kQ S22 a0 13).bind fun a25 => if kK S22 a25 = 101 then (if ¬ ((kI S22 a0 6) < 0 ∨ kN S22 a25 ≤ (kI S22 a0 6).toNatClampNeg) then (lt (wI S22 a25 (kI S22 a0 6).toNatClampNeg p3) fun S29 => if kK S29 a0 = 14 then (lt (wI S29 a0 6 ((kI S29 a0 6) + 1)) fun S32 => if kK S32 a0 = 14 then (lt (wI S32 a0 5 0) fun S35 => if kK S35 a0 = 14 then ((f_X10_marksAll S35 a0).bind fun r38 => if kK r38 a0 = 14 then (some (r38, ((kI r38 a0 6) - 1))) else none) else none) else none) else none) else none) else none) else none) else none) else none) else none) else none) else none) else (some (S7, 0))) else none) else none
def xrG (S : PS) (a0 : Nat) (p1 p2 p3 : Int32) : Option (PS × Int32) := if kK S a0 = 14 then ((f_X10_isPattern S a0).bind fun r44 => if r44.2 = 0 then xrR a0 p1 p2 p3 2 r44.1 else (if kK r44.1 a0 = 14 then (if (kI r44.1 a0 6) = (12 : Int32) then xrR a0 p1 p2 p3 3 r44.1 else xrR a0 p1 p2 p3 0 r44.1) else none)) else none
theorem x_ruleE (S : PS) (a0 : Nat) (p1 p2 p3 : Int32) : f_X10_rule S a0 p1 p2 p3 = lt (fun (x1 : Int32) => if x1 = 0 then xrR a0 p1 p2 p3 1 S else xrG S a0 p1 p2 p3) fun j2 => lt (fun (u53 : Unit) => j2 0) fun j52 => lt (fun (u59 : Unit) => (f_X10_in S p3 1 9).bind fun r56 => if r56 = 0 then (j52 ()) else (j2 1)) fun j55 => if p1 = (97 : Int32) then (j55 ()) else (if p1 = (115 : Int32) then (j55 ()) else (if p1 = (109 : Int32) then (j55 ()) else (j52 ()))) := rfl
theorem x_ruleF (S : PS) (a0 : Nat) (c b n : Int32) : f_X10_rule S a0 c b n = if (c = 97 ∨ c = 115 ∨ c = 109) ∧ (1 ≤ n ∧ n ≤ 9) then xrG S a0 c b n else xrR a0 c b n 1 S := by
  rw [x_ruleE]
  simp only [lt, x_in, Option.bind_some, bi_eq0, decide_eq_false_iff_not, show ¬ (1 : Int32) = 0 by decide, if_false, if_true]
  by_cases h9 : 1 ≤ n ∧ n ≤ 9
  · by_cases h1 : c = 97
    · rw [if_pos h1, if_neg (fun z => z h9), if_pos ⟨Or.inl h1, h9⟩]
    · by_cases h2 : c = 115
      · rw [if_neg h1, if_pos h2, if_neg (fun z => z h9), if_pos ⟨Or.inr (Or.inl h2), h9⟩]
      · by_cases h3 : c = 109
        · rw [if_neg h1, if_neg h2, if_pos h3, if_neg (fun z => z h9), if_pos ⟨Or.inr (Or.inr h3), h9⟩]
        · rw [if_neg h1, if_neg h2, if_neg h3, if_neg (fun z => z.1.elim h1 (fun q => q.elim h2 h3))]
  · rw [if_neg (show ¬ ((c = 97 ∨ c = 115 ∨ c = 109) ∧ (1 ≤ n ∧ n ≤ 9)) from fun z => h9 z.2)]
    simp only [h9, not_false_eq_true, if_true, ite_self]
section
variable {S : PS} {I G : Nat → Nat → Int32} {m : Nat} {T : St}
theorem xrR_bad (hm : mS S m) {c b n v : Int32} (hv : ¬ v ≤ 0) : xrR m c b n v (sI S (mw I m G)) = some (sI S (mw I m (uF G 0 0 v)), 0) := by
  unfold xrR
  simp only [kK_sI, kQ_sI, kN_sI, kI_sI, wI_sI, Option.bind_some, lt, mw_0, mw_up0, xK_0 hm, xK_1 hm, xN_1 hm, xQ_1 hm, mw_1, mw_up1, xK_2 hm, xN_2 hm, xQ_2 hm, mw_2, mw_up2, xK_3 hm, xN_3 hm, xQ_3 hm, mw_3, mw_up3, xK_4 hm, xN_4 hm, xQ_4 hm, mw_4, mw_up4, xK_5 hm, xN_5 hm, xQ_5 hm, mw_5, mw_up5, xK_6 hm, xN_6 hm, xQ_6 hm, mw_6, mw_up6, xK_7 hm, xN_7 hm, xQ_7 hm, mw_7, mw_up7, xK_8 hm, xN_8 hm, xQ_8 hm, mw_8, mw_up8, xK_9 hm, xN_9 hm, xQ_9 hm, mw_9, mw_up9, xK_10 hm, xN_10 hm, xQ_10 hm, mw_10, mw_up10, xK_11 hm, xN_11 hm, xQ_11 hm, mw_11, mw_up11, xK_12 hm, xN_12 hm, xQ_12 hm, mw_12, mw_up12, xK_13 hm, xN_13 hm, xQ_13 hm, mw_13, mw_up13, xK_14 hm, xN_14 hm, xQ_14 hm, mw_14, mw_up14, xK_15 hm, xN_15 hm, xQ_15 hm, mw_15, mw_up15, xK_16 hm, xN_16 hm, xQ_16 hm, mw_16, mw_up16, xK_17 hm, xN_17 hm, xQ_17 hm, mw_17, mw_up17, xK_18 hm, xN_18 hm, xQ_18 hm, mw_18, mw_up18, xK_19 hm, xN_19 hm, xQ_19 hm, mw_19, mw_up19, xK_20 hm, xN_20 hm, xQ_20 hm, mw_20, mw_up20, xK_21 hm, xN_21 hm, xQ_21 hm, mw_21, mw_up21, xK_22 hm, xN_22 hm, xQ_22 hm, mw_22, mw_up22, xK_23 hm, xN_23 hm, xQ_23 hm, mw_23, mw_up23, xK_24 hm, xN_24 hm, xQ_24 hm, mw_24, mw_up24, xK_25 hm, xN_25 hm, xQ_25 hm, mw_25, mw_up25, xK_26 hm, xN_26 hm, xQ_26 hm, mw_26, mw_up26, xK_27 hm, xN_27 hm, xQ_27 hm, mw_27, mw_up27, xK_28 hm, xN_28 hm, xQ_28 hm, mw_28, mw_up28, xK_29 hm, xN_29 hm, xQ_29 hm, mw_29, mw_up29, xK_30 hm, xN_30 hm, xQ_30 hm, mw_30, mw_up30, xK_31 hm, xN_31 hm, xQ_31 hm, mw_31, mw_up31, xK_32 hm, xN_32 hm, xQ_32 hm, mw_32, mw_up32, xK_33 hm, xN_33 hm, xQ_33 hm, mw_33, mw_up33, xK_34 hm, xN_34 hm, xQ_34 hm, mw_34, mw_up34, xK_35 hm, xN_35 hm, xQ_35 hm, mw_35, mw_up35, xK_36 hm, xN_36 hm, xQ_36 hm, mw_36, mw_up36, xK_37 hm, xN_37 hm, xQ_37 hm, mw_37, mw_up37, if_true, uF_eq, if_neg hv]
theorem mT.fK {nr : Nat} {G' : Nat → Nat → Int32} (h : mT G T) (hn : T.2.2.2.2.1.length = nr) (hf : fK G G' nr) (hw : wf T) : mT G' T := by
  obtain ⟨a1, a2, a3, a4, a5, a6⟩ := h
  refine ⟨⟨(hf _ _ (by omega) (by omega) (by omega)).trans a1.1, fun j hj => (hf _ _ (by omega) (by omega) (by omega)).trans (a1.2 j hj)⟩, a2.ext (hf _ _ (by omega) (by omega) (by omega)) (fun j => hf _ _ (by omega) (by omega) (by omega)) (fun j => hf _ _ (by omega) (by omega) (by omega)), a3.ext (fun j => hf _ _ (by omega) (by omega) (by omega)), ⟨(hf _ _ (by omega) (by omega) (by omega)).trans a4.1, fun r v hv => ?_, fun r h1 h2 => ⟨(hf _ _ (by omega) (by omega) (by omega)).trans (a4.2.2 r h1 h2).1, (hf _ _ (by omega) (by omega) (by omega)).trans (a4.2.2 r h1 h2).2⟩⟩, a5.ext (fun k h1 h2 j => hf _ _ (by omega) (by omega) (by omega)) (hf _ _ (by omega) (by omega) (by omega)), fun d hd => (a6 d hd).ext (fun k h1 h2 j => hf _ _ (by omega) (by omega) (by omega))⟩
  have hr := (List.getElem?_eq_some_iff.mp hv).1
  obtain ⟨w1, w2, -⟩ := hw.2.2.2.2.2.2.1.2 r v hv
  obtain ⟨-, wi, -⟩ := hw.2.2.2.2.2.2.2.1 r v hv
  obtain ⟨b1, b2, b3, b4, b5, b6, b7, b8, b9⟩ := a4.2.1 r v hv
  refine ⟨(hf _ _ (by omega) (by omega) (by omega)).trans b1, fun i it hi => ?_, (hf _ _ (by omega) (by omega) (by omega)).trans b3, (hf _ _ (by omega) (by omega) (by omega)).trans b4, (hf _ _ (by omega) (by omega) (by omega)).trans b5, (hf _ _ (by omega) (by omega) (by omega)).trans b6, fun i l hi => (b7 i l hi).ext (fun j => hf _ _ (by omega) (by omega) (by omega)) (hf _ _ (by omega) (by omega) (by omega)), (hf _ _ (by omega) (by omega) (by omega)).trans b8, fun i l hi => (b9 i l hi).ext (fun j => hf _ _ (by omega) (by omega) (by omega)) (hf _ _ (by omega) (by omega) (by omega))⟩
  have hi3 := (List.getElem?_eq_some_iff.mp hi).1
  have hl := (wi it (List.mem_of_getElem? hi)).1
  obtain ⟨y1, y2, y3⟩ := b2 i it hi
  exact ⟨(hf _ _ (by omega) (by omega) (by omega)).trans y1, (hf _ _ (by omega) (by omega) (by omega)).trans y2, fun j hj => (hf _ _ (by omega) (by omega) (by omega)).trans (y3 j hj)⟩
theorem mx_rule (hm : mS S m) (hG : mT G T) (hw : wf T) (c b n : Int32) (hb : b = 0 ∨ b = 1) : mZ S I m T (fun k => if k = 1 then 1 else if k = 4 then 2 else 3) 0 (f_X10_rule (sI S (mw I m G)) m c b n) (a_rule T c b n) := by
  have hru := hw.2.2.2.2.2.2.1.1
  have h20 := hw.1.1
  rw [x_ruleF]
  unfold a_rule
  by_cases hcn : (c = 97 ∨ c = 115 ∨ c = 109) ∧ (1 ≤ n ∧ n ≤ 9)
  · obtain ⟨r, hr, h1⟩ := (in19 n).mp hcn.2
    obtain ⟨hr10, rfl⟩ := ix_some (by decide) hr
    rw [if_pos hcn, hr]
    simp only
    rw [if_pos (show (c = 97 ∨ c = 115 ∨ c = 109) ∧ 1 ≤ r from ⟨hcn.1, h1⟩)]
    generalize hnr : T.2.2.2.2.1.length = nr at *
    have h6 : G 0 6 = nI nr := by have := hG.2.2.2.1.1; rw [hnr] at this; exact this
    obtain ⟨G1, e1, f1, f2⟩ := x_pat (I := I) hm hG.1 h20 hw.1.2 h6 hru
    have hm1 := hG.fK hnr f1 hw
    have h61 : G1 0 6 = nI nr := (f1 _ _ (by omega) (by omega) (by omega)).trans h6
    unfold xrG
    simp only [kK_sI, kI_sI, mw_0, xK_0 hm, if_true, e1, Option.bind_some, bi_eq0, h61]
    cases hp : isPat T.1 with
    | false =>
      rw [if_pos rfl, if_neg (by decide), xrR_bad hm (by decide)]
      exact ⟨_, rfl, uF_eq _ _ _ _, hm1.th 2⟩
    | true =>
      rw [if_neg (by decide), if_pos rfl]
      by_cases h12 : nr < 12
      · rw [if_neg (fun z => by have := nI_inj (show nr < 2 ^ 31 by omega) (show 12 < 2 ^ 31 by decide) z; omega), if_pos h12]
        obtain ⟨p4, pk⟩ := f2 hp h12
        obtain ⟨q1, q2, q3⟩ := isPat_ok h20 hp
        have hm2 := hm1.th 0
        obtain ⟨bq, rfl⟩ := bi_of01 hb
        have hchar := (cond_ok hcn.1).1
        have h00 : uF G1 0 0 0 0 0 = 0 := uF_eq _ _ _ _
        have k4 : uF G1 0 0 0 4 nr = nI (iK T.1 (T.1.length + 1)).1.length := by rw [uF_ne (Or.inl (by decide))]; exact p4
        have kk : sK (uF G1 0 0 0) nr (iK T.1 (T.1.length + 1)).1 := fun i it hi => by
          obtain ⟨y1, y2⟩ := pk i it hi
          exact ⟨by rw [uF_ne (Or.inl (by decide))]; exact y1, y2.ext (fun j => uF_ne (Or.inl (by decide))) (uF_ne (Or.inl (by decide)))⟩
        unfold xrR
        simp only [kK_sI, kQ_sI, kN_sI, kI_sI, wI_sI, Option.bind_some, lt, mw_0, mw_up0, xK_0 hm, xK_1 hm, xN_1 hm, xQ_1 hm, mw_1, mw_up1, xK_2 hm, xN_2 hm, xQ_2 hm, mw_2, mw_up2, xK_3 hm, xN_3 hm, xQ_3 hm, mw_3, mw_up3, xK_4 hm, xN_4 hm, xQ_4 hm, mw_4, mw_up4, xK_5 hm, xN_5 hm, xQ_5 hm, mw_5, mw_up5, xK_6 hm, xN_6 hm, xQ_6 hm, mw_6, mw_up6, xK_7 hm, xN_7 hm, xQ_7 hm, mw_7, mw_up7, xK_8 hm, xN_8 hm, xQ_8 hm, mw_8, mw_up8, xK_9 hm, xN_9 hm, xQ_9 hm, mw_9, mw_up9, xK_10 hm, xN_10 hm, xQ_10 hm, mw_10, mw_up10, xK_11 hm, xN_11 hm, xQ_11 hm, mw_11, mw_up11, xK_12 hm, xN_12 hm, xQ_12 hm, mw_12, mw_up12, xK_13 hm, xN_13 hm, xQ_13 hm, mw_13, mw_up13, xK_14 hm, xN_14 hm, xQ_14 hm, mw_14, mw_up14, xK_15 hm, xN_15 hm, xQ_15 hm, mw_15, mw_up15, xK_16 hm, xN_16 hm, xQ_16 hm, mw_16, mw_up16, xK_17 hm, xN_17 hm, xQ_17 hm, mw_17, mw_up17, xK_18 hm, xN_18 hm, xQ_18 hm, mw_18, mw_up18, xK_19 hm, xN_19 hm, xQ_19 hm, mw_19, mw_up19, xK_20 hm, xN_20 hm, xQ_20 hm, mw_20, mw_up20, xK_21 hm, xN_21 hm, xQ_21 hm, mw_21, mw_up21, xK_22 hm, xN_22 hm, xQ_22 hm, mw_22, mw_up22, xK_23 hm, xN_23 hm, xQ_23 hm, mw_23, mw_up23, xK_24 hm, xN_24 hm, xQ_24 hm, mw_24, mw_up24, xK_25 hm, xN_25 hm, xQ_25 hm, mw_25, mw_up25, xK_26 hm, xN_26 hm, xQ_26 hm, mw_26, mw_up26, xK_27 hm, xN_27 hm, xQ_27 hm, mw_27, mw_up27, xK_28 hm, xN_28 hm, xQ_28 hm, mw_28, mw_up28, xK_29 hm, xN_29 hm, xQ_29 hm, mw_29, mw_up29, xK_30 hm, xN_30 hm, xQ_30 hm, mw_30, mw_up30, xK_31 hm, xN_31 hm, xQ_31 hm, mw_31, mw_up31, xK_32 hm, xN_32 hm, xQ_32 hm, mw_32, mw_up32, xK_33 hm, xN_33 hm, xQ_33 hm, mw_33, mw_up33, xK_34 hm, xN_34 hm, xQ_34 hm, mw_34, mw_up34, xK_35 hm, xN_35 hm, xQ_35 hm, mw_35, mw_up35, xK_36 hm, xN_36 hm, xQ_36 hm, mw_36, mw_up36, xK_37 hm, xN_37 hm, xQ_37 hm, mw_37, mw_up37, if_true, uF_eq, show (0 : Int32) ≤ 0 by decide]
        generalize uF G1 0 0 0 = H at hm2 h00 k4 kk ⊢
        have s6 : H 0 6 = nI nr := by have := hm2.2.2.2.1.1; rw [hnr] at this; exact this
        have s6a : uF H 8 nr c 0 6 = nI nr := by rw [uF_ne (Or.inl (by decide))]; exact s6
        have s6b : uF (uF H 8 nr c) 9 nr (bi bq) 0 6 = nI nr := by rw [uF_ne (Or.inl (by decide))]; exact s6a
        have s6c : uF (uF (uF H 8 nr c) 9 nr (bi bq)) 10 nr (nI r) 0 6 = nI nr := by rw [uF_ne (Or.inl (by decide))]; exact s6b
        have hK : ∀ c9 j, ¬ ((8 ≤ c9 ∧ c9 ≤ 10) ∧ j = nr) → ¬ (c9 = 0 ∧ j = 6) → uF (uF (uF (uF H 8 nr c) 9 nr (bi bq)) 10 nr (nI r)) 0 6 (nI (nr + 1)) c9 j = H c9 j := fun c9 j h1 h2 => by rw [uF_ne (by omega), uF_ne (by omega), uF_ne (by omega), uF_ne (by omega)]
        have v8 : uF (uF (uF (uF H 8 nr c) 9 nr (bi bq)) 10 nr (nI r)) 0 6 (nI (nr + 1)) 8 nr = c := by rw [uF_ne (Or.inl (by decide)), uF_ne (Or.inl (by decide)), uF_ne (Or.inl (by decide)), uF_eq]
        have v9 : uF (uF (uF (uF H 8 nr c) 9 nr (bi bq)) 10 nr (nI r)) 0 6 (nI (nr + 1)) 9 nr = bi bq := by rw [uF_ne (Or.inl (by decide)), uF_ne (Or.inl (by decide)), uF_eq]
        have v10 : uF (uF (uF (uF H 8 nr c) 9 nr (bi bq)) 10 nr (nI r)) 0 6 (nI (nr + 1)) 10 nr = nI r := by rw [uF_ne (Or.inl (by decide)), uF_eq]
        have m1 : mT (uF (uF (uF (uF H 8 nr c) 9 nr (bi bq)) 10 nr (nI r)) 0 6 (nI (nr + 1))) (T.1, T.2.1, T.2.2.1, T.2.2.2.1, T.2.2.2.2.1 ++ [((iK T.1 (T.1.length + 1)).1, c, decide (bi bq = 1), r, [], [])], T.2.2.2.2.2) := by
          obtain ⟨a1, a2, a3, a4, a5, a6⟩ := hm2
          refine ⟨⟨(hK _ _ (by omega) (by omega)).trans a1.1, fun j hj => (hK _ _ (by omega) (by omega)).trans (a1.2 j hj)⟩, a2.ext (hK _ _ (by omega) (by omega)) (fun j => hK _ _ (by omega) (by omega)) (fun j => hK _ _ (by omega) (by omega)), a3.ext (fun j => hK _ _ (by omega) (by omega)), ⟨by rw [uF_eq, List.length_append, hnr]; rfl, fun q v hv => ?_, fun q h1 h2 => ?_⟩, a5.ext (fun k h1 h2 j => hK _ _ (by omega) (by omega)) (hK _ _ (by omega) (by omega)), fun d hd => (a6 d hd).ext (fun k h1 h2 j => hK _ _ (by omega) (by omega))⟩
          · have hv : (T.2.2.2.2.1 ++ [((iK T.1 (T.1.length + 1)).1, c, decide (bi bq = 1), r, [], [])])[q]? = some v := hv
            by_cases e9 : q < T.2.2.2.2.1.length
            · rw [List.getElem?_append_left e9] at hv
              obtain ⟨b1, b2, b3, b4, b5, b6, b7, b8, b9⟩ := a4.2.1 q v hv
              exact ⟨(hK _ _ (by omega) (by omega)).trans b1, fun i it hi => ⟨(hK _ _ (by omega) (by omega)).trans (b2 i it hi).1, (b2 i it hi).2.ext (fun j => hK _ _ (by omega) (by omega)) (hK _ _ (by omega) (by omega))⟩, (hK _ _ (by omega) (by omega)).trans b3, (hK _ _ (by omega) (by omega)).trans b4, (hK _ _ (by omega) (by omega)).trans b5, (hK _ _ (by omega) (by omega)).trans b6, fun i l hi => (b7 i l hi).ext (fun j => hK _ _ (by omega) (by omega)) (hK _ _ (by omega) (by omega)), (hK _ _ (by omega) (by omega)).trans b8, fun i l hi => (b9 i l hi).ext (fun j => hK _ _ (by omega) (by omega)) (hK _ _ (by omega) (by omega))⟩
            · have hq9 : q = nr := by
                have := (List.getElem?_eq_some_iff.mp hv).1
                simp at this; omega
              rw [List.getElem?_append_right (by omega), hnr, hq9, Nat.sub_self] at hv
              cases hv
              rw [hq9]
              obtain ⟨z11, z14⟩ := a4.2.2 nr (by omega) h12
              refine ⟨(hK _ _ (by omega) (by omega)).trans k4, fun i it hi => ⟨(hK _ _ (by omega) (by omega)).trans (kk i it hi).1, (kk i it hi).2.ext (fun j => hK _ _ (by omega) (by omega)) (hK _ _ (by omega) (by omega))⟩, v8, ?_, v10, (hK _ _ (by omega) (by omega)).trans z11, fun i l hi => by simp at hi, (hK _ _ (by omega) (by omega)).trans z14, fun i l hi => by simp at hi⟩
              rw [v9]
              cases bq <;> rfl
          · have h1 : T.2.2.2.2.1.length + 1 ≤ q := by have := h1; rw [List.length_append] at this; exact this
            obtain ⟨z11, z14⟩ := a4.2.2 q (by omega) h2
            exact ⟨(hK _ _ (by omega) (by omega)).trans z11, (hK _ _ (by omega) (by omega)).trans z14⟩
        have m2 : mTx (uF (uF (uF (uF (uF H 8 nr c) 9 nr (bi bq)) 10 nr (nI r)) 0 6 (nI (nr + 1))) 0 5 0) T.2.1 T.2.2.1 := m1.2.1.ext (uF_ne (Or.inr (by decide))) (fun j => uF_ne (Or.inl (by decide))) (fun j => uF_ne (Or.inl (by decide)))
        obtain ⟨G3, e3, k1, k2⟩ := x_marksAll (I := I) hm m2 hw.2.1
        have s20c : G3 0 6 = nI (nr + 1) := by rw [k1 _ _ (by decide), uF_ne (Or.inr (by decide)), uF_eq]
        simp only [kK_sI, kQ_sI, kN_sI, kI_sI, wI_sI, Option.bind_some, lt, mw_0, mw_up0, xK_0 hm, xK_1 hm, xN_1 hm, xQ_1 hm, mw_1, mw_up1, xK_2 hm, xN_2 hm, xQ_2 hm, mw_2, mw_up2, xK_3 hm, xN_3 hm, xQ_3 hm, mw_3, mw_up3, xK_4 hm, xN_4 hm, xQ_4 hm, mw_4, mw_up4, xK_5 hm, xN_5 hm, xQ_5 hm, mw_5, mw_up5, xK_6 hm, xN_6 hm, xQ_6 hm, mw_6, mw_up6, xK_7 hm, xN_7 hm, xQ_7 hm, mw_7, mw_up7, xK_8 hm, xN_8 hm, xQ_8 hm, mw_8, mw_up8, xK_9 hm, xN_9 hm, xQ_9 hm, mw_9, mw_up9, xK_10 hm, xN_10 hm, xQ_10 hm, mw_10, mw_up10, xK_11 hm, xN_11 hm, xQ_11 hm, mw_11, mw_up11, xK_12 hm, xN_12 hm, xQ_12 hm, mw_12, mw_up12, xK_13 hm, xN_13 hm, xQ_13 hm, mw_13, mw_up13, xK_14 hm, xN_14 hm, xQ_14 hm, mw_14, mw_up14, xK_15 hm, xN_15 hm, xQ_15 hm, mw_15, mw_up15, xK_16 hm, xN_16 hm, xQ_16 hm, mw_16, mw_up16, xK_17 hm, xN_17 hm, xQ_17 hm, mw_17, mw_up17, xK_18 hm, xN_18 hm, xQ_18 hm, mw_18, mw_up18, xK_19 hm, xN_19 hm, xQ_19 hm, mw_19, mw_up19, xK_20 hm, xN_20 hm, xQ_20 hm, mw_20, mw_up20, xK_21 hm, xN_21 hm, xQ_21 hm, mw_21, mw_up21, xK_22 hm, xN_22 hm, xQ_22 hm, mw_22, mw_up22, xK_23 hm, xN_23 hm, xQ_23 hm, mw_23, mw_up23, xK_24 hm, xN_24 hm, xQ_24 hm, mw_24, mw_up24, xK_25 hm, xN_25 hm, xQ_25 hm, mw_25, mw_up25, xK_26 hm, xN_26 hm, xQ_26 hm, mw_26, mw_up26, xK_27 hm, xN_27 hm, xQ_27 hm, mw_27, mw_up27, xK_28 hm, xN_28 hm, xQ_28 hm, mw_28, mw_up28, xK_29 hm, xN_29 hm, xQ_29 hm, mw_29, mw_up29, xK_30 hm, xN_30 hm, xQ_30 hm, mw_30, mw_up30, xK_31 hm, xN_31 hm, xQ_31 hm, mw_31, mw_up31, xK_32 hm, xN_32 hm, xQ_32 hm, mw_32, mw_up32, xK_33 hm, xN_33 hm, xQ_33 hm, mw_33, mw_up33, xK_34 hm, xN_34 hm, xQ_34 hm, mw_34, mw_up34, xK_35 hm, xN_35 hm, xQ_35 hm, mw_35, mw_up35, xK_36 hm, xN_36 hm, xQ_36 hm, mw_36, mw_up36, xK_37 hm, xN_37 hm, xQ_37 hm, mw_37, mw_up37, if_true, s6, hchar, s6a, nar_bi, s6b, s6c, s20c, nI_1, nI_clamp (show nr < 2 ^ 31 by omega), bd2 (show nr < 12 by omega) (show nr < 2 ^ 31 by omega), not_false_eq_true, e3, nI_pred]
        refine ⟨G3, rfl, ?_, m1.told (show T.2.2.2.1.length = slN T.2.1 T.2.1.length + 1 from hw.2.2.2.2.2.1) (fun k j hk => ?_) ?_ k2⟩
        · rw [k1 _ _ (by decide), uF_ne (Or.inr (by decide)), hK _ _ (by omega) (by omega)]; exact h00
        · by_cases e9 : k = 0 ∧ j = 5
          · exact Or.inl e9
          · exact Or.inr (by rw [k1 _ _ hk, uF_ne (by omega)])
        · rw [k1 _ _ (by decide), uF_eq]
      · rw [if_pos (by rw [show nr = 12 by omega]; rfl), if_neg h12, xrR_bad hm (by decide)]
        exact ⟨_, rfl, uF_eq _ _ _ _, hm1.th 3⟩
  · rw [if_neg hcn, xrR_bad hm (by decide)]
    have bad : mZ S I m T (fun k => if k = 1 then 1 else if k = 4 then 2 else 3) 0 (some (sI S (mw I m (uF G 0 0 1)), 0)) (.inr 1) := ⟨_, rfl, uF_eq _ _ _ _, hG.th 1⟩
    cases hn : ix n 10 with
    | none => exact bad
    | some r =>
      simp only
      rw [if_neg (fun z => hcn ⟨z.1, (in19 n).mpr ⟨r, hn, z.2⟩⟩)]
      exact bad
end
