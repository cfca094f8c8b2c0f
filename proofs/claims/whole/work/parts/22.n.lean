/-! a pair typed, in the model -/
def xpR (S : PS) (a0 : Nat) (r2 x4 : Int32) : Option (PS × Int32) := lt (fun (x6 : Int32) => lt (fun (x8 : Int32) => lt (fun (x12 : Int32) => lt (fun (x15 : Int32) => lt (wI S a0 0 x15) fun S17 => if kK S17 a0 = 14 then (if (kI S17 a0 0) ≤ 0 then (lt (fun (S23 : PS) => lt (fun (S28 : PS) => if kK S28 a0 = 14 then ((kQ S28 a0 22).bind fun a32 => if kK S28 a32 = 101 then (if ¬ ((2 * (kI S28 a0 20)) < 0 ∨ kN S28 a32 ≤ (2 * (kI S28 a0 20)).toNatClampNeg) then (lt (wI S28 a32 (2 * (kI S28 a0 20)).toNatClampNeg r2) fun S36 => if kK S36 a0 = 14 then ((kQ S36 a0 22).bind fun a39 => if kK S36 a39 = 101 then (if ¬ (((2 * (kI S36 a0 20)) + 1) < 0 ∨ kN S36 a39 ≤ ((2 * (kI S36 a0 20)) + 1).toNatClampNeg) then (lt (wI S36 a39 ((2 * (kI S36 a0 20)) + 1).toNatClampNeg x4) fun S43 => if kK S43 a0 = 14 then (lt (wI S43 a0 20 ((kI S43 a0 20) + 1)) fun S46 => if kK S46 a0 = 14 then (lt (wI S46 a0 5 0) fun S49 => if kK S49 a0 = 14 then ((f_X10_marksAll S49 a0).bind fun r52 => if kK r52 a0 = 14 then (some (r52, ((kI r52 a0 20) - 1))) else none) else none) else none) else none) else none) else none) else none) else none) else none) else none) fun k29 => (iter (fun (v : Int32 × PS) => f_X10_pair_b204 a0 r2 x4 v.1 v.2) kF (0, S23)).bind (fun (v : PS) => k29 v)) fun k24 => (iter (fun (v : Int32 × PS) => f_X10_pair_b165 a0 r2 v.1 v.2) kF (0, S17)).bind (fun (v : PS) => k24 v)) else (some (S17, 0))) else none) fun j16 => lt (fun (u87 : Unit) => j16 1) fun j86 => if x6 = 0 then (j86 ()) else (if x12 = 0 then (if (kI S a0 20) = (4 : Int32) then (j16 2) else (j16 0)) else (j86 ()))) fun k13 => (iter (fun (v : Int32 × Int32) => f_X10_pair_b78 a0 r2 S v.1 v.2) kF (x8, 0)).bind (fun (v : Int32) => k13 v)) fun j9 => if r2 = x4 then (j9 1) else (j9 0)) fun j7 => lt (fun (u110 : Unit) => j7 0) fun j109 => if r2 ≤ 0 then (j109 ()) else (if x4 ≤ 0 then (j109 ()) else (if ((r2 + 1) + x4) = (kI S a0 5) then (j7 1) else (j109 ())))
theorem x_pairE (S : PS) (a0 : Nat) : f_X10_pair S a0 = if kK S a0 = 14 then ((f_X10_lettersFrom S a0 0).bind fun r2 => if (kI S a0 5) ≤ r2 then xpR S a0 r2 0 else ((kQ S a0 4).bind fun a120 => if kK S a120 = 102 then (if ¬ (r2 < 0 ∨ kN S a120 ≤ r2.toNatClampNeg) then (if (kI S a120 r2.toNatClampNeg) = (32 : Int32) then ((f_X10_lettersFrom S a0 (r2 + 1)).bind fun r125 => xpR S a0 r2 r125) else xpR S a0 r2 0) else none) else none)) else none := rfl
theorem sb_like {ty : List Int32} {n1 n2 : Nat} (h : n1 + 1 + n2 = ty.length) : (sb ty 0 n1 = sb ty (n1 + 1) ty.length) ↔ (n1 = n2 ∧ ∀ i, i < n1 → la ty i = la ty (n1 + 1 + i)) := by
  constructor
  · intro e
    have hl := congrArg List.length e
    rw [sb_len, sb_len] at hl
    refine ⟨by omega, fun i hi => ?_⟩
    have : la (sb ty 0 n1) i = la (sb ty (n1 + 1) ty.length) i := by rw [e]
    rw [la_sb (by omega), la_sb (by omega), Nat.zero_add] at this
    exact this
  · intro ⟨e1, e2⟩
    refine la_ext (by rw [sb_len, sb_len]; omega) (fun j hj => ?_)
    rw [sb_len] at hj
    rw [la_sb (by omega), la_sb (by omega), Nat.zero_add]
    exact e2 j (by omega)
section
variable {S : PS} {I G : Nat → Nat → Int32} {m : Nat} {T : St}
theorem x_pairR (hm : mS S m) (hG : mT G T) (hw : wf T) {n1 n2 : Nat} (b1 : n1 ≤ 20) (b2 : n2 = 0 ∨ n1 + 1 + n2 ≤ T.1.length) (hok : ((0 < n1 ∧ 0 < n2 ∧ n1 + 1 + n2 = T.1.length) → fb T.1 = some n1 ∧ wdB T.1 0 n1 = true ∧ wdB T.1 (n1 + 1) T.1.length = true) ∧ (¬ (0 < n1 ∧ 0 < n2 ∧ n1 + 1 + n2 = T.1.length) → ∀ k, fb T.1 = some k → ¬ (wdB T.1 0 k = true ∧ wdB T.1 (k + 1) T.1.length = true))) : mZ S I m T (fun k => if k = 4 then 1 else 2) 0 (xpR (sI S (mw I m G)) m (nI n1) (nI n2)) (a_pair T) := by
  have h20 := hw.1.1
  have hpl := hw.2.2.2.2.2.2.2.2.1
  have hb := x_b78 (I := I) hm hG.1 h20 (n1 := n1) (n2 := n2) b1 (fun e => by omega)
  have hp := hG.2.2.2.2.1.1
  unfold xpR
  simp only [kK_sI, kQ_sI, kN_sI, kI_sI, wI_sI, Option.bind_some, lt, mw_0, mw_up0, xK_0 hm, xK_1 hm, xN_1 hm, xQ_1 hm, mw_1, mw_up1, xK_2 hm, xN_2 hm, xQ_2 hm, mw_2, mw_up2, xK_3 hm, xN_3 hm, xQ_3 hm, mw_3, mw_up3, xK_4 hm, xN_4 hm, xQ_4 hm, mw_4, mw_up4, xK_5 hm, xN_5 hm, xQ_5 hm, mw_5, mw_up5, xK_6 hm, xN_6 hm, xQ_6 hm, mw_6, mw_up6, xK_7 hm, xN_7 hm, xQ_7 hm, mw_7, mw_up7, xK_8 hm, xN_8 hm, xQ_8 hm, mw_8, mw_up8, xK_9 hm, xN_9 hm, xQ_9 hm, mw_9, mw_up9, xK_10 hm, xN_10 hm, xQ_10 hm, mw_10, mw_up10, xK_11 hm, xN_11 hm, xQ_11 hm, mw_11, mw_up11, xK_12 hm, xN_12 hm, xQ_12 hm, mw_12, mw_up12, xK_13 hm, xN_13 hm, xQ_13 hm, mw_13, mw_up13, xK_14 hm, xN_14 hm, xQ_14 hm, mw_14, mw_up14, xK_15 hm, xN_15 hm, xQ_15 hm, mw_15, mw_up15, xK_16 hm, xN_16 hm, xQ_16 hm, mw_16, mw_up16, xK_17 hm, xN_17 hm, xQ_17 hm, mw_17, mw_up17, xK_18 hm, xN_18 hm, xQ_18 hm, mw_18, mw_up18, xK_19 hm, xN_19 hm, xQ_19 hm, mw_19, mw_up19, xK_20 hm, xN_20 hm, xQ_20 hm, mw_20, mw_up20, xK_21 hm, xN_21 hm, xQ_21 hm, mw_21, mw_up21, xK_22 hm, xN_22 hm, xQ_22 hm, mw_22, mw_up22, xK_23 hm, xN_23 hm, xQ_23 hm, mw_23, mw_up23, xK_24 hm, xN_24 hm, xQ_24 hm, mw_24, mw_up24, xK_25 hm, xN_25 hm, xQ_25 hm, mw_25, mw_up25, xK_26 hm, xN_26 hm, xQ_26 hm, mw_26, mw_up26, xK_27 hm, xN_27 hm, xQ_27 hm, mw_27, mw_up27, xK_28 hm, xN_28 hm, xQ_28 hm, mw_28, mw_up28, xK_29 hm, xN_29 hm, xQ_29 hm, mw_29, mw_up29, xK_30 hm, xN_30 hm, xQ_30 hm, mw_30, mw_up30, xK_31 hm, xN_31 hm, xQ_31 hm, mw_31, mw_up31, xK_32 hm, xN_32 hm, xQ_32 hm, mw_32, mw_up32, xK_33 hm, xN_33 hm, xQ_33 hm, mw_33, mw_up33, xK_34 hm, xN_34 hm, xQ_34 hm, mw_34, mw_up34, xK_35 hm, xN_35 hm, xQ_35 hm, mw_35, mw_up35, xK_36 hm, xN_36 hm, xQ_36 hm, mw_36, mw_up36, xK_37 hm, xN_37 hm, xQ_37 hm, mw_37, mw_up37, if_true, nI_1, nI_add, nI_le0 (show n1 < 2 ^ 31 by omega), nI_le0 (show n2 < 2 ^ 31 by omega), hG.1.1, nI_eq (show n1 + 1 + n2 < 2 ^ 31 by omega) (show T.1.length < 2 ^ 31 by omega), nI_eq (show n1 < 2 ^ 31 by omega) (show n2 < 2 ^ 31 by omega), uF_eq, show ¬ (1 : Int32) ≤ 0 by decide, show ¬ (2 : Int32) ≤ 0 by decide, show (0 : Int32) ≤ 0 by decide, if_false, hp]
  have hbad : (∀ k, fb T.1 = some k → ¬ (wdB T.1 0 k = true ∧ wdB T.1 (k + 1) T.1.length = true)) → mZ S I m T (fun k => if k = 4 then 1 else 2) 0 (some (sI S (mw I m (uF G 0 0 1)), 0)) (a_pair T) := fun h => by
    unfold a_pair
    cases hf : fb T.1 with
    | none => exact ⟨_, rfl, uF_eq _ _ _ _, hG.th 1⟩
    | some k =>
      simp only
      rw [if_neg (h k hf)]
      exact ⟨_, rfl, uF_eq _ _ _ _, hG.th 1⟩
  have sel : ∀ (z : Int32), (if n1 = n2 then (iter (fun (v : Int32 × Int32) => f_X10_pair_b78 m (nI n1) (sI S (mw I m G)) v.1 v.2) kF (1, 0)) else (iter (fun (v : Int32 × Int32) => f_X10_pair_b78 m (nI n1) (sI S (mw I m G)) v.1 v.2) kF (0, 0))) = some (bi (decide (n1 = n2 ∧ ∀ i, i < n1 → la T.1 i = la T.1 (n1 + 1 + i)))) := fun _ => by
    rw [← hb]
    by_cases e : n1 = n2
    · rw [if_pos e, decide_eq_true e]; rfl
    · rw [if_neg e, decide_eq_false e]; rfl
  have i1 : n1 = n2 → iter (fun (v : Int32 × Int32) => f_X10_pair_b78 m (nI n1) (sI S (mw I m G)) v.1 v.2) kF (1, 0) = some (bi (decide (n1 = n2 ∧ ∀ i, i < n1 → la T.1 i = la T.1 (n1 + 1 + i)))) := fun e => by have := sel 0; rw [if_pos e] at this; exact this
  have i0 : ¬ n1 = n2 → iter (fun (v : Int32 × Int32) => f_X10_pair_b78 m (nI n1) (sI S (mw I m G)) v.1 v.2) kF (0, 0) = some (bi (decide (n1 = n2 ∧ ∀ i, i < n1 → la T.1 i = la T.1 (n1 + 1 + i)))) := fun e => by have := sel 0; rw [if_neg e] at this; exact this
  by_cases hgood : 0 < n1 ∧ 0 < n2 ∧ n1 + 1 + n2 = T.1.length
  · rw [if_neg (show ¬ n1 = 0 by omega), if_neg (show ¬ n2 = 0 by omega), if_pos hgood.2.2]
    obtain ⟨o1, o2, o3⟩ := hok.1 hgood
    have hlk := sb_like hgood.2.2
    have main : mZ S I m T (fun k => if k = 4 then 1 else 2) 0 (some (sI S (mw I m (uF G 0 0 2)), 0)) (.inr 2) := ⟨_, rfl, uF_eq _ _ _ _, hG.th 2⟩
    unfold a_pair
    rw [o1]
    simp only
    rw [if_pos (show wdB T.1 0 n1 = true ∧ wdB T.1 (n1 + 1) T.1.length = true from ⟨o2, o3⟩)]
    have hsel : ∀ K : Int32 → Option (PS × Int32), (if n1 = n2 then (iter (fun (v : Int32 × Int32) => f_X10_pair_b78 m (nI n1) (sI S (mw I m G)) v.1 v.2) kF (1, 0)).bind K else (iter (fun (v : Int32 × Int32) => f_X10_pair_b78 m (nI n1) (sI S (mw I m G)) v.1 v.2) kF (0, 0)).bind K) = K (bi (decide (n1 = n2 ∧ ∀ i, i < n1 → la T.1 i = la T.1 (n1 + 1 + i)))) := fun K => by
      by_cases e : n1 = n2
      · rw [if_pos e, i1 e]; rfl
      · rw [if_neg e, i0 e]; rfl
    rw [hsel]
    by_cases hlike : n1 = n2 ∧ ∀ i, i < n1 → la T.1 i = la T.1 (n1 + 1 + i)
    · rw [decide_eq_true hlike, if_pos (hlk.mpr hlike)]
      simp only [show ¬ bi true = 0 by decide, show ¬ (1 : Int32) = 0 by decide, if_false]
      exact ⟨_, rfl, uF_eq _ _ _ _, hG.th 1⟩
    · rw [decide_eq_false hlike, if_neg (fun z => hlike (hlk.mp z))]
      simp only [show bi false = 0 by decide, show ¬ (1 : Int32) = 0 by decide, if_false, if_true]
      by_cases h4 : T.2.2.2.2.2.1.length < 4
      · rw [if_neg (fun z => by have := nI_inj (show T.2.2.2.2.2.1.length < 2 ^ 31 by omega) (show 4 < 2 ^ 31 by decide) z; omega), if_pos h4]
        have hH := hG.th 0
        have h00 : uF G 0 0 0 0 0 = 0 := uF_eq _ _ _ _
        generalize uF G 0 0 0 = H at hH h00
        generalize hpr : T.2.2.2.2.2.1.length = pr at *
        have hp0 : H 0 20 = nI pr := by have := hH.2.2.2.2.1.1; rw [hpr] at this; exact this
        obtain ⟨G1, e1, c1, c2⟩ := x_cpA (I := I) hm hH.1 h20 hw.1.2 hp0 h4 (show n1 ≤ T.1.length by omega)
        obtain ⟨G2, e2, c3, c4⟩ := x_cpB (I := I) hm (hH.1.ext (c2 _ _ (by omega)) (fun j _ => c2 _ _ (by omega)) h20) h20 hw.1.2 (show G1 0 20 = nI pr by rw [c2 _ _ (by omega)]; exact hp0) h4 (show n1 + 1 + n2 ≤ T.1.length by omega)
        rw [e1]
        simp only [Option.bind_some]
        rw [e2]
        have s20 : G2 0 20 = nI pr := by rw [c4 _ _ (by omega), c2 _ _ (by omega)]; exact hp0
        have hK : ∀ c j, ¬ (c = 17 ∧ 2 * pr * 20 ≤ j ∧ j < 2 * pr * 20 + 40) → ¬ (c = 18 ∧ (j = 2 * pr ∨ j = 2 * pr + 1)) → ¬ (c = 0 ∧ j = 20) → uF (uF (uF G2 18 (2 * pr) (nI n1)) 18 (2 * pr + 1) (nI n2)) 0 20 (nI (pr + 1)) c j = H c j := fun c j h1 h2 h3 => by rw [uF_ne (by omega), uF_ne (by omega), uF_ne (by omega), c4 _ _ (by omega), c2 _ _ (by omega)]
        have m1 : mT (uF (uF (uF G2 18 (2 * pr) (nI n1)) 18 (2 * pr + 1) (nI n2)) 0 20 (nI (pr + 1))) (T.1, T.2.1, T.2.2.1, T.2.2.2.1, T.2.2.2.2.1, T.2.2.2.2.2.1 ++ [(sb T.1 0 n1, sb T.1 (n1 + 1) T.1.length)], T.2.2.2.2.2.2) := by
          obtain ⟨a1, a2, a3, a4, a5, a6⟩ := hH
          refine ⟨⟨(hK _ _ (by omega) (by omega) (by omega)).trans a1.1, fun j hj => (hK _ _ (by omega) (by omega) (by omega)).trans (a1.2 j hj)⟩, a2.ext (hK _ _ (by omega) (by omega) (by omega)) (fun j => hK _ _ (by omega) (by omega) (by omega)) (fun j => hK _ _ (by omega) (by omega) (by omega)), a3.ext (fun j => hK _ _ (by omega) (by omega) (by omega)), a4.ext (fun k h1 h2 j => hK _ _ (by omega) (by omega) (by omega)) (hK _ _ (by omega) (by omega) (by omega)), ⟨by rw [uF_eq, List.length_append, hpr]; rfl, fun q p hq => ?_⟩, fun d hd => (a6 d hd).ext (fun k h1 h2 j => hK _ _ (by omega) (by omega) (by omega))⟩
          have hq : (T.2.2.2.2.2.1 ++ [(sb T.1 0 n1, sb T.1 (n1 + 1) T.1.length)])[q]? = some p := hq
          by_cases e9 : q < T.2.2.2.2.2.1.length
          · rw [List.getElem?_append_left e9] at hq
            obtain ⟨⟨y1, y2⟩, y3, y4⟩ := a5.2 q p hq
            obtain ⟨⟨-, v1, -⟩, ⟨-, v2, -⟩, -⟩ := hw.2.2.2.2.2.2.2.2.2.1 p (List.mem_of_getElem? hq)
            exact ⟨⟨(hK _ _ (by omega) (by omega) (by omega)).trans y1, fun j hj => (hK _ _ (by omega) (by omega) (by omega)).trans (y2 j hj)⟩, (hK _ _ (by omega) (by omega) (by omega)).trans y3, fun j hj => (hK _ _ (by omega) (by omega) (by omega)).trans (y4 j hj)⟩
          · have hi9 : q = pr := by
              have := (List.getElem?_eq_some_iff.mp hq).1
              simp at this; omega
            rw [List.getElem?_append_right (by omega), hpr, hi9, Nat.sub_self] at hq
            cases hq
            rw [hi9]
            refine ⟨⟨?_, fun j hj => ?_⟩, ?_, fun j hj => ?_⟩
            · rw [uF_ne (Or.inl (by decide)), uF_ne (Or.inr (by omega)), uF_eq, sb_len, Nat.sub_zero]
            · rw [sb_len, Nat.sub_zero] at hj
              rw [uF_ne (Or.inl (by decide)), uF_ne (Or.inl (by decide)), uF_ne (Or.inl (by decide)), c4 _ _ (by omega), c1 j hj, la_sb (by omega), Nat.zero_add]
            · rw [uF_ne (Or.inl (by decide)), uF_eq, sb_len]
              congr 1; omega
            · rw [sb_len] at hj
              rw [uF_ne (Or.inl (by decide)), uF_ne (Or.inl (by decide)), uF_ne (Or.inl (by decide)), c3 j (by omega), la_sb (by omega)]
        have m2 : mTx (uF (uF (uF (uF G2 18 (2 * pr) (nI n1)) 18 (2 * pr + 1) (nI n2)) 0 20 (nI (pr + 1))) 0 5 0) T.2.1 T.2.2.1 := m1.2.1.ext (uF_ne (Or.inr (by decide))) (fun j => uF_ne (Or.inl (by decide))) (fun j => uF_ne (Or.inl (by decide)))
        obtain ⟨G3, e3, k1, k2⟩ := x_marksAll (I := I) hm m2 hw.2.1
        have s20b : uF (uF G2 18 (2 * pr) (nI n1)) 18 (2 * pr + 1) (nI n2) 0 20 = nI pr := by rw [uF_ne (Or.inl (by decide)), uF_ne (Or.inl (by decide))]; exact s20
        have s20a : uF G2 18 (2 * pr) (nI n1) 0 20 = nI pr := by rw [uF_ne (Or.inl (by decide))]; exact s20
        have s20c : G3 0 20 = nI (pr + 1) := by rw [k1 _ _ (by decide), uF_ne (Or.inr (by decide)), uF_eq]
        simp only [kK_sI, kQ_sI, kN_sI, kI_sI, wI_sI, Option.bind_some, lt, mw_0, mw_up0, xK_0 hm, xK_1 hm, xN_1 hm, xQ_1 hm, mw_1, mw_up1, xK_2 hm, xN_2 hm, xQ_2 hm, mw_2, mw_up2, xK_3 hm, xN_3 hm, xQ_3 hm, mw_3, mw_up3, xK_4 hm, xN_4 hm, xQ_4 hm, mw_4, mw_up4, xK_5 hm, xN_5 hm, xQ_5 hm, mw_5, mw_up5, xK_6 hm, xN_6 hm, xQ_6 hm, mw_6, mw_up6, xK_7 hm, xN_7 hm, xQ_7 hm, mw_7, mw_up7, xK_8 hm, xN_8 hm, xQ_8 hm, mw_8, mw_up8, xK_9 hm, xN_9 hm, xQ_9 hm, mw_9, mw_up9, xK_10 hm, xN_10 hm, xQ_10 hm, mw_10, mw_up10, xK_11 hm, xN_11 hm, xQ_11 hm, mw_11, mw_up11, xK_12 hm, xN_12 hm, xQ_12 hm, mw_12, mw_up12, xK_13 hm, xN_13 hm, xQ_13 hm, mw_13, mw_up13, xK_14 hm, xN_14 hm, xQ_14 hm, mw_14, mw_up14, xK_15 hm, xN_15 hm, xQ_15 hm, mw_15, mw_up15, xK_16 hm, xN_16 hm, xQ_16 hm, mw_16, mw_up16, xK_17 hm, xN_17 hm, xQ_17 hm, mw_17, mw_up17, xK_18 hm, xN_18 hm, xQ_18 hm, mw_18, mw_up18, xK_19 hm, xN_19 hm, xQ_19 hm, mw_19, mw_up19, xK_20 hm, xN_20 hm, xQ_20 hm, mw_20, mw_up20, xK_21 hm, xN_21 hm, xQ_21 hm, mw_21, mw_up21, xK_22 hm, xN_22 hm, xQ_22 hm, mw_22, mw_up22, xK_23 hm, xN_23 hm, xQ_23 hm, mw_23, mw_up23, xK_24 hm, xN_24 hm, xQ_24 hm, mw_24, mw_up24, xK_25 hm, xN_25 hm, xQ_25 hm, mw_25, mw_up25, xK_26 hm, xN_26 hm, xQ_26 hm, mw_26, mw_up26, xK_27 hm, xN_27 hm, xQ_27 hm, mw_27, mw_up27, xK_28 hm, xN_28 hm, xQ_28 hm, mw_28, mw_up28, xK_29 hm, xN_29 hm, xQ_29 hm, mw_29, mw_up29, xK_30 hm, xN_30 hm, xQ_30 hm, mw_30, mw_up30, xK_31 hm, xN_31 hm, xQ_31 hm, mw_31, mw_up31, xK_32 hm, xN_32 hm, xQ_32 hm, mw_32, mw_up32, xK_33 hm, xN_33 hm, xQ_33 hm, mw_33, mw_up33, xK_34 hm, xN_34 hm, xQ_34 hm, mw_34, mw_up34, xK_35 hm, xN_35 hm, xQ_35 hm, mw_35, mw_up35, xK_36 hm, xN_36 hm, xQ_36 hm, mw_36, mw_up36, xK_37 hm, xN_37 hm, xQ_37 hm, mw_37, mw_up37, if_true, s20, s20a, s20b, s20c, x_2mul, nI_1, nI_clamp (show 2 * pr < 2 ^ 31 by omega), nI_clamp (show 2 * pr + 1 < 2 ^ 31 by omega), bd2 (show 2 * pr < 8 by omega) (show 2 * pr < 2 ^ 31 by omega), bd2 (show 2 * pr + 1 < 8 by omega) (show 2 * pr + 1 < 2 ^ 31 by omega), not_false_eq_true, e3, nI_pred]
        refine ⟨G3, rfl, ?_, m1.told (show T.2.2.2.1.length = slN T.2.1 T.2.1.length + 1 from hw.2.2.2.2.2.1) (fun k j hk => ?_) ?_ k2⟩
        · rw [k1 _ _ (by decide), uF_ne (Or.inr (by decide)), hK _ _ (by omega) (by omega) (by omega)]; exact h00
        · by_cases e9 : k = 0 ∧ j = 5
          · exact Or.inl e9
          · exact Or.inr (by rw [k1 _ _ hk, uF_ne (by omega)])
        · rw [k1 _ _ (by decide), uF_eq]
      · rw [if_pos (by rw [show T.2.2.2.2.2.1.length = 4 by omega]; rfl), if_neg h4]
        exact main
  · have hB := hbad (hok.2 hgood)
    by_cases e : n1 = n2
    · simp only [if_pos e, i1 e, Option.bind_some]
      by_cases q1 : n1 = 0
      · rw [if_pos q1]; exact hB
      · by_cases q2 : n2 = 0
        · rw [if_neg q1, if_pos q2]; exact hB
        · rw [if_neg q1, if_neg q2, if_neg (fun z => hgood ⟨by omega, by omega, z⟩)]; exact hB
    · simp only [if_neg e, i0 e, Option.bind_some]
      by_cases q1 : n1 = 0
      · rw [if_pos q1]; exact hB
      · by_cases q2 : n2 = 0
        · rw [if_neg q1, if_pos q2]; exact hB
        · rw [if_neg q1, if_neg q2, if_neg (fun z => hgood ⟨by omega, by omega, z⟩)]; exact hB
theorem mx_pair (hm : mS S m) (hG : mT G T) (hw : wf T) : mZ S I m T (fun k => if k = 4 then 1 else 2) 0 (f_X10_pair (sI S (mw I m G)) m) (a_pair T) := by
  have h20 := hw.1.1
  obtain ⟨n1, e1, l1, l2, l3⟩ := x_lf (I := I) hm hG.1 h20 (f := 0) (by omega)
  rw [x_pairE]
  simp only [kK_sI, kQ_sI, kN_sI, kI_sI, wI_sI, Option.bind_some, lt, mw_0, mw_up0, xK_0 hm, xK_1 hm, xN_1 hm, xQ_1 hm, mw_1, mw_up1, xK_2 hm, xN_2 hm, xQ_2 hm, mw_2, mw_up2, xK_3 hm, xN_3 hm, xQ_3 hm, mw_3, mw_up3, xK_4 hm, xN_4 hm, xQ_4 hm, mw_4, mw_up4, xK_5 hm, xN_5 hm, xQ_5 hm, mw_5, mw_up5, xK_6 hm, xN_6 hm, xQ_6 hm, mw_6, mw_up6, xK_7 hm, xN_7 hm, xQ_7 hm, mw_7, mw_up7, xK_8 hm, xN_8 hm, xQ_8 hm, mw_8, mw_up8, xK_9 hm, xN_9 hm, xQ_9 hm, mw_9, mw_up9, xK_10 hm, xN_10 hm, xQ_10 hm, mw_10, mw_up10, xK_11 hm, xN_11 hm, xQ_11 hm, mw_11, mw_up11, xK_12 hm, xN_12 hm, xQ_12 hm, mw_12, mw_up12, xK_13 hm, xN_13 hm, xQ_13 hm, mw_13, mw_up13, xK_14 hm, xN_14 hm, xQ_14 hm, mw_14, mw_up14, xK_15 hm, xN_15 hm, xQ_15 hm, mw_15, mw_up15, xK_16 hm, xN_16 hm, xQ_16 hm, mw_16, mw_up16, xK_17 hm, xN_17 hm, xQ_17 hm, mw_17, mw_up17, xK_18 hm, xN_18 hm, xQ_18 hm, mw_18, mw_up18, xK_19 hm, xN_19 hm, xQ_19 hm, mw_19, mw_up19, xK_20 hm, xN_20 hm, xQ_20 hm, mw_20, mw_up20, xK_21 hm, xN_21 hm, xQ_21 hm, mw_21, mw_up21, xK_22 hm, xN_22 hm, xQ_22 hm, mw_22, mw_up22, xK_23 hm, xN_23 hm, xQ_23 hm, mw_23, mw_up23, xK_24 hm, xN_24 hm, xQ_24 hm, mw_24, mw_up24, xK_25 hm, xN_25 hm, xQ_25 hm, mw_25, mw_up25, xK_26 hm, xN_26 hm, xQ_26 hm, mw_26, mw_up26, xK_27 hm, xN_27 hm, xQ_27 hm, mw_27, mw_up27, xK_28 hm, xN_28 hm, xQ_28 hm, mw_28, mw_up28, xK_29 hm, xN_29 hm, xQ_29 hm, mw_29, mw_up29, xK_30 hm, xN_30 hm, xQ_30 hm, mw_30, mw_up30, xK_31 hm, xN_31 hm, xQ_31 hm, mw_31, mw_up31, xK_32 hm, xN_32 hm, xQ_32 hm, mw_32, mw_up32, xK_33 hm, xN_33 hm, xQ_33 hm, mw_33, mw_up33, xK_34 hm, xN_34 hm, xQ_34 hm, mw_34, mw_up34, xK_35 hm, xN_35 hm, xQ_35 hm, mw_35, mw_up35, xK_36 hm, xN_36 hm, xQ_36 hm, mw_36, mw_up36, xK_37 hm, xN_37 hm, xQ_37 hm, mw_37, mw_up37, if_true, show f_X10_lettersFrom (sI S (mw I m G)) m 0 = some (nI n1) from e1, hG.1.1, nI_leI (show T.1.length < 2 ^ 31 by omega) (show n1 < 2 ^ 31 by omega)]
  by_cases hl : T.1.length ≤ n1
  · rw [if_pos hl]
    exact x_pairR hm hG hw (n2 := 0) (by omega) (Or.inl rfl) (pr_ok l1 l2 l3 (Or.inr ⟨rfl, fun z => by omega⟩))
  · rw [if_neg hl]
    simp only [nI_clamp (show n1 < 2 ^ 31 by omega), bd2 (show n1 < 20 by omega) (show n1 < 2 ^ 31 by omega), not_false_eq_true, if_true, hG.1.2 n1 (by omega), nI_1]
    by_cases h32 : la T.1 n1 = 32
    · obtain ⟨n2, e2, q1, q2, q3⟩ := x_lf (I := I) hm hG.1 h20 (f := n1 + 1) (by omega)
      rw [if_pos h32, e2]
      exact x_pairR hm hG hw (n2 := n2) (by omega) q1 (pr_ok l1 l2 l3 (Or.inl ⟨by omega, h32, q1, q2, q3⟩))
    · rw [if_neg h32]
      exact x_pairR hm hG hw (n2 := 0) (by omega) (Or.inl rfl) (pr_ok l1 l2 l3 (Or.inr ⟨rfl, fun z => h32 z.2⟩))
end
