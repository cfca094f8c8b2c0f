section
variable {S : PS} {I G : Nat → Nat → Int32} {m : Nat} {T : St}
theorem mx_put (hm : mS S m) (hG : mT G T) (hw : wf T) (p c w : Int32) : mZ S I m T (fun k => if k = 3 then 1 else if k = 1 then 2 else 3) 0 (f_X10_put (sI S (mw I m G)) m p c w) (a_put T p c w) := by
  have h160 := hw.2.1
  have cond : ∀ (K : Int32 → Option (PS × Int32)) (S0 : PS), ((f_X10_isLetter S0 c).bind fun r10 => if r10 = 0 then ((f_X10_isDigit S0 c).bind fun r37 => if r37 = 0 then (if c = (32 : Int32) then (K 1) else (if c = (46 : Int32) then (K 1) else (if c = (34 : Int32) then (K 1) else (if c = (47 : Int32) then (K 1) else (K 0))))) else (K 1)) else (K 1)) = K (bi (txS c)) := by
    intro K S0
    simp only [x_letter, x_digit, Option.bind_some, bi_eq0]
    unfold txS
    cases hL : isL c with
    | true => simp [bi]
    | false =>
      cases hD : isD c with
      | true => simp [bi]
      | false =>
        by_cases e1 : c = 32
        · simp [e1, bi]
        · by_cases e2 : c = 46
          · simp [e2, bi]
          · by_cases e3 : c = 34
            · simp [e3, bi]
            · by_cases e4 : c = 47
              · simp [e4, bi]
              · simp [e1, e2, e3, e4, bi]
  unfold f_X10_put a_put
  simp only [kK_sI, kQ_sI, kN_sI, kI_sI, wI_sI, Option.bind_some, lt, mw_0, mw_up0, xK_0 hm, xK_1 hm, xN_1 hm, xQ_1 hm, mw_1, mw_up1, xK_2 hm, xN_2 hm, xQ_2 hm, mw_2, mw_up2, xK_3 hm, xN_3 hm, xQ_3 hm, mw_3, mw_up3, xK_4 hm, xN_4 hm, xQ_4 hm, mw_4, mw_up4, xK_5 hm, xN_5 hm, xQ_5 hm, mw_5, mw_up5, xK_6 hm, xN_6 hm, xQ_6 hm, mw_6, mw_up6, xK_7 hm, xN_7 hm, xQ_7 hm, mw_7, mw_up7, xK_8 hm, xN_8 hm, xQ_8 hm, mw_8, mw_up8, xK_9 hm, xN_9 hm, xQ_9 hm, mw_9, mw_up9, xK_10 hm, xN_10 hm, xQ_10 hm, mw_10, mw_up10, xK_11 hm, xN_11 hm, xQ_11 hm, mw_11, mw_up11, xK_12 hm, xN_12 hm, xQ_12 hm, mw_12, mw_up12, xK_13 hm, xN_13 hm, xQ_13 hm, mw_13, mw_up13, xK_14 hm, xN_14 hm, xQ_14 hm, mw_14, mw_up14, xK_15 hm, xN_15 hm, xQ_15 hm, mw_15, mw_up15, xK_16 hm, xN_16 hm, xQ_16 hm, mw_16, mw_up16, xK_17 hm, xN_17 hm, xQ_17 hm, mw_17, mw_up17, xK_18 hm, xN_18 hm, xQ_18 hm, mw_18, mw_up18, xK_19 hm, xN_19 hm, xQ_19 hm, mw_19, mw_up19, xK_20 hm, xN_20 hm, xQ_20 hm, mw_20, mw_up20, xK_21 hm, xN_21 hm, xQ_21 hm, mw_21, mw_up21, xK_22 hm, xN_22 hm, xQ_22 hm, mw_22, mw_up22, xK_23 hm, xN_23 hm, xQ_23 hm, mw_23, mw_up23, xK_24 hm, xN_24 hm, xQ_24 hm, mw_24, mw_up24, xK_25 hm, xN_25 hm, xQ_25 hm, mw_25, mw_up25, xK_26 hm, xN_26 hm, xQ_26 hm, mw_26, mw_up26, xK_27 hm, xN_27 hm, xQ_27 hm, mw_27, mw_up27, xK_28 hm, xN_28 hm, xQ_28 hm, mw_28, mw_up28, xK_29 hm, xN_29 hm, xQ_29 hm, mw_29, mw_up29, xK_30 hm, xN_30 hm, xQ_30 hm, mw_30, mw_up30, xK_31 hm, xN_31 hm, xQ_31 hm, mw_31, mw_up31, xK_32 hm, xN_32 hm, xQ_32 hm, mw_32, mw_up32, xK_33 hm, xN_33 hm, xQ_33 hm, mw_33, mw_up33, xK_34 hm, xN_34 hm, xQ_34 hm, mw_34, mw_up34, xK_35 hm, xN_35 hm, xQ_35 hm, mw_35, mw_up35, xK_36 hm, xN_36 hm, xQ_36 hm, mw_36, mw_up36, xK_37 hm, xN_37 hm, xQ_37 hm, mw_37, mw_up37, if_true, hG.2.1.1, x_ix1 _ p (show T.2.1.length + 1 < 2 ^ 31 by omega), uF_eq, show ¬ (1 : Int32) ≤ 0 by decide, show ¬ (2 : Int32) ≤ 0 by decide, show ¬ (3 : Int32) ≤ 0 by decide, show (0 : Int32) ≤ 0 by decide, if_false]
  cases hp : ix p (T.2.1.length + 1) with
  | none =>
    simp only [Option.isSome_none, show bi false = 0 by decide, if_true]
    exact ⟨_, rfl, uF_eq _ _ _ _, hG.th _⟩
  | some q =>
    obtain ⟨hq, rfl⟩ := ix_some (by omega) hp
    have cc := fun K => cond K (sI S (mw I m (uF G 0 0 0)))
    simp only [Option.isSome_some, show ¬ bi true = 0 by decide, if_false]
    have e9 := cc (fun x12 => if x12 = 0 then some (sI S (mw I m (uF (uF G 0 0 0) 0 0 2)), 0) else (f_X10_in (sI S (mw I m (uF G 0 0 0))) w 0 3).bind fun r28 => if r28 = 0 then some (sI S (mw I m (uF (uF G 0 0 0) 0 0 2)), 0) else if uF G 0 0 0 0 3 = 160 then some (sI S (mw I m (uF (uF G 0 0 0) 0 0 3)), 0) else (f_X10_puts (sI S (mw I m (uF (uF G 0 0 0) 0 0 0))) m (nI q) c w).bind fun r20 => if kK r20 m = 14 then some (r20, kI r20 m 3) else none)
    refine Eq.mpr (congrArg (fun o => mZ S I m T (fun k => if k = 3 then 1 else if k = 1 then 2 else 3) 0 o _) e9) ?_
    rw [show f_X10_in (sI S (mw I m (uF G 0 0 0))) w 0 3 = some (bi (ix w 4).isSome) from x_ix1 _ w (n := 3) (by decide)]
    simp only [Option.bind_some, bi_eq0]
    cases hc : txS c with
    | false =>
      rw [if_pos rfl, if_neg (fun z => by cases z.1)]
      exact ⟨_, rfl, uF_eq _ _ _ _, (hG.th _).th _⟩
    | true =>
      rw [if_neg (by decide)]
      cases hw4 : (ix w 4).isSome with
      | false =>
        rw [if_pos rfl, if_neg (fun z => by cases z.2)]
        exact ⟨_, rfl, uF_eq _ _ _ _, (hG.th _).th _⟩
      | true =>
        rw [if_neg (show ¬ (true = false) by decide), if_pos (show true = true ∧ true = true from ⟨rfl, rfl⟩), uF_ne (F := G) (k := 0) (j := 0) (a := 0) (b := 3) (Or.inr (by decide)), hG.2.1.1]
        by_cases hl : T.2.1.length < 160
        · rw [if_neg (fun z => by have := nI_inj (show T.2.1.length < 2 ^ 31 by omega) (show 160 < 2 ^ 31 by decide) z; omega), if_pos hl]
          obtain ⟨v, hv⟩ := Option.isSome_iff_exists.mp hw4
          obtain ⟨hv4, rfl⟩ := ix_some (by decide) hv
          obtain ⟨G', e1, g1, g2, g3⟩ := x_puts (I := I) hm ((hG.th 0).th 0) hw (show q ≤ T.2.1.length by omega) hl hc (w := v)
          rw [e1]
          simp only [kK_sI, kQ_sI, kN_sI, kI_sI, wI_sI, Option.bind_some, lt, mw_0, mw_up0, xK_0 hm, xK_1 hm, xN_1 hm, xQ_1 hm, mw_1, mw_up1, xK_2 hm, xN_2 hm, xQ_2 hm, mw_2, mw_up2, xK_3 hm, xN_3 hm, xQ_3 hm, mw_3, mw_up3, xK_4 hm, xN_4 hm, xQ_4 hm, mw_4, mw_up4, xK_5 hm, xN_5 hm, xQ_5 hm, mw_5, mw_up5, xK_6 hm, xN_6 hm, xQ_6 hm, mw_6, mw_up6, xK_7 hm, xN_7 hm, xQ_7 hm, mw_7, mw_up7, xK_8 hm, xN_8 hm, xQ_8 hm, mw_8, mw_up8, xK_9 hm, xN_9 hm, xQ_9 hm, mw_9, mw_up9, xK_10 hm, xN_10 hm, xQ_10 hm, mw_10, mw_up10, xK_11 hm, xN_11 hm, xQ_11 hm, mw_11, mw_up11, xK_12 hm, xN_12 hm, xQ_12 hm, mw_12, mw_up12, xK_13 hm, xN_13 hm, xQ_13 hm, mw_13, mw_up13, xK_14 hm, xN_14 hm, xQ_14 hm, mw_14, mw_up14, xK_15 hm, xN_15 hm, xQ_15 hm, mw_15, mw_up15, xK_16 hm, xN_16 hm, xQ_16 hm, mw_16, mw_up16, xK_17 hm, xN_17 hm, xQ_17 hm, mw_17, mw_up17, xK_18 hm, xN_18 hm, xQ_18 hm, mw_18, mw_up18, xK_19 hm, xN_19 hm, xQ_19 hm, mw_19, mw_up19, xK_20 hm, xN_20 hm, xQ_20 hm, mw_20, mw_up20, xK_21 hm, xN_21 hm, xQ_21 hm, mw_21, mw_up21, xK_22 hm, xN_22 hm, xQ_22 hm, mw_22, mw_up22, xK_23 hm, xN_23 hm, xQ_23 hm, mw_23, mw_up23, xK_24 hm, xN_24 hm, xQ_24 hm, mw_24, mw_up24, xK_25 hm, xN_25 hm, xQ_25 hm, mw_25, mw_up25, xK_26 hm, xN_26 hm, xQ_26 hm, mw_26, mw_up26, xK_27 hm, xN_27 hm, xQ_27 hm, mw_27, mw_up27, xK_28 hm, xN_28 hm, xQ_28 hm, mw_28, mw_up28, xK_29 hm, xN_29 hm, xQ_29 hm, mw_29, mw_up29, xK_30 hm, xN_30 hm, xQ_30 hm, mw_30, mw_up30, xK_31 hm, xN_31 hm, xQ_31 hm, mw_31, mw_up31, xK_32 hm, xN_32 hm, xQ_32 hm, mw_32, mw_up32, xK_33 hm, xN_33 hm, xQ_33 hm, mw_33, mw_up33, xK_34 hm, xN_34 hm, xQ_34 hm, mw_34, mw_up34, xK_35 hm, xN_35 hm, xQ_35 hm, mw_35, mw_up35, xK_36 hm, xN_36 hm, xQ_36 hm, mw_36, mw_up36, xK_37 hm, xN_37 hm, xQ_37 hm, mw_37, mw_up37, if_true]
          refine ⟨G', ?_, (g2 0 (by decide)).trans (uF_eq _ _ _ _), g1⟩
          rw [g1.2.1.1]
          show some (_, nI (T.2.1.insertIdx q c).length) = _
          rw [List.length_insertIdx, if_pos (by omega)]
        · rw [if_pos (by rw [show T.2.1.length = 160 by omega]; rfl), if_neg hl]
          exact ⟨_, rfl, uF_eq _ _ _ _, (hG.th _).th _⟩
end
/-! a sign is taken out, in the model -/
theorem mkT_len {mk t : List Int32} {p : Nat} (h : slN t p < mk.length) (h2 : la t p = 47 → slN t p + 1 < mk.length) : (mkT mk t p).length = mk.length - (if la t p = 47 then 1 else 0) := by
  unfold mkT
  by_cases e : la t p = 47
  · rw [if_pos e, if_pos e, List.length_eraseIdx, List.length_set, if_pos (h2 e)]
  · rw [if_neg e, if_neg e, List.length_set]; rfl
theorem tb_mkT {mk t : List Int32} {p q e : Nat} (h : slN t p < mk.length) (he : e < 4) : tb (la (mkT mk t p) q) e = if q = slN t p then true else if la t p = 47 ∧ slN t p < q then tb (la mk (q + 1)) e else tb (la mk q) e := by
  unfold mkT
  by_cases hc : la t p = 47
  · rw [if_pos hc, la_erase]
    by_cases e1 : q = slN t p
    · rw [if_pos e1, if_pos (by omega), la_set, if_pos ⟨e1, h⟩, tb_15 he]
    · rw [if_neg e1]
      by_cases e3 : q < slN t p + 1
      · rw [if_pos e3, if_neg (fun z => by omega), la_set, if_neg (by omega)]
      · rw [if_neg e3, if_pos ⟨hc, by omega⟩, la_set, if_neg (by omega)]
  · rw [if_neg hc, la_set]
    by_cases e1 : q = slN t p
    · rw [if_pos e1, if_pos ⟨e1, h⟩, tb_15 he]
    · rw [if_neg e1, if_neg (fun z => e1 z.1), if_neg (fun z => hc z.1)]
section
variable {S : PS} {I G : Nat → Nat → Int32} {m : Nat}
/-- the marks of a desk move down, from place w + 1 on -/
theorem x_down (hm : mS S m) {d w n : Nat} (hd : d < 4) (hn : n ≤ 161) (hw : w + 1 < n) (hb : ∀ q, q < n → ∃ b : Bool, G 26 (d * 161 + q) = bi b) : ∃ G', iter (fun (v : Int32 × PS) => f_X10_takesOut_b110 m (nI n) (nI (d * 161)) v.1 v.2) kF (nI (w + 1), sI S (mw I m G)) = some (sI S (mw I m G')) ∧ (∀ c j, c ≠ 26 → G' c j = G c j) ∧ ∀ j, G' 26 j = if d * 161 + (w + 1) ≤ j ∧ j < d * 161 + (n - 1) then G 26 (j + 1) else G 26 j := by
  obtain ⟨z, e1, G', rfl, h1, h2⟩ := it_up (b := fun (v : Int32 × PS) => f_X10_takesOut_b110 m (nI n) (nI (d * 161)) v.1 v.2) (n - 1)
    (P := fun k s => w + 1 ≤ k ∧ ∃ G', s = (nI k, sI S (mw I m G')) ∧ (∀ c j, c ≠ 26 → G' c j = G c j) ∧ ∀ j, G' 26 j = if d * 161 + (w + 1) ≤ j ∧ j < d * 161 + k then G 26 (j + 1) else G 26 j)
    (Q := fun z => ∃ G', z = sI S (mw I m G') ∧ (∀ c j, c ≠ 26 → G' c j = G c j) ∧ ∀ j, G' 26 j = if d * 161 + (w + 1) ≤ j ∧ j < d * 161 + (n - 1) then G 26 (j + 1) else G 26 j)
    (fun k s hk9 ⟨hk1, G', e, h1, h2⟩ => by
      subst e
      simp only
      unfold f_X10_takesOut_b110
      rw [nI_sub1 (show 0 < n by omega), if_neg (fun z => by have := (nI_leI (show n - 1 < 2 ^ 31 by omega) (show k < 2 ^ 31 by omega)).mp z; omega)]
      obtain ⟨b, hb9⟩ := hb (k + 1) (by omega)
      have hr : G' 26 (d * 161 + k + 1) = bi b := by
        rw [h2, if_neg (by omega), show d * 161 + k + 1 = d * 161 + (k + 1) by omega, hb9]
      simp only [kK_sI, kQ_sI, kN_sI, kI_sI, wI_sI, Option.bind_some, lt, mw_0, mw_up0, xK_0 hm, xK_1 hm, xN_1 hm, xQ_1 hm, mw_1, mw_up1, xK_2 hm, xN_2 hm, xQ_2 hm, mw_2, mw_up2, xK_3 hm, xN_3 hm, xQ_3 hm, mw_3, mw_up3, xK_4 hm, xN_4 hm, xQ_4 hm, mw_4, mw_up4, xK_5 hm, xN_5 hm, xQ_5 hm, mw_5, mw_up5, xK_6 hm, xN_6 hm, xQ_6 hm, mw_6, mw_up6, xK_7 hm, xN_7 hm, xQ_7 hm, mw_7, mw_up7, xK_8 hm, xN_8 hm, xQ_8 hm, mw_8, mw_up8, xK_9 hm, xN_9 hm, xQ_9 hm, mw_9, mw_up9, xK_10 hm, xN_10 hm, xQ_10 hm, mw_10, mw_up10, xK_11 hm, xN_11 hm, xQ_11 hm, mw_11, mw_up11, xK_12 hm, xN_12 hm, xQ_12 hm, mw_12, mw_up12, xK_13 hm, xN_13 hm, xQ_13 hm, mw_13, mw_up13, xK_14 hm, xN_14 hm, xQ_14 hm, mw_14, mw_up14, xK_15 hm, xN_15 hm, xQ_15 hm, mw_15, mw_up15, xK_16 hm, xN_16 hm, xQ_16 hm, mw_16, mw_up16, xK_17 hm, xN_17 hm, xQ_17 hm, mw_17, mw_up17, xK_18 hm, xN_18 hm, xQ_18 hm, mw_18, mw_up18, xK_19 hm, xN_19 hm, xQ_19 hm, mw_19, mw_up19, xK_20 hm, xN_20 hm, xQ_20 hm, mw_20, mw_up20, xK_21 hm, xN_21 hm, xQ_21 hm, mw_21, mw_up21, xK_22 hm, xN_22 hm, xQ_22 hm, mw_22, mw_up22, xK_23 hm, xN_23 hm, xQ_23 hm, mw_23, mw_up23, xK_24 hm, xN_24 hm, xQ_24 hm, mw_24, mw_up24, xK_25 hm, xN_25 hm, xQ_25 hm, mw_25, mw_up25, xK_26 hm, xN_26 hm, xQ_26 hm, mw_26, mw_up26, xK_27 hm, xN_27 hm, xQ_27 hm, mw_27, mw_up27, xK_28 hm, xN_28 hm, xQ_28 hm, mw_28, mw_up28, xK_29 hm, xN_29 hm, xQ_29 hm, mw_29, mw_up29, xK_30 hm, xN_30 hm, xQ_30 hm, mw_30, mw_up30, xK_31 hm, xN_31 hm, xQ_31 hm, mw_31, mw_up31, xK_32 hm, xN_32 hm, xQ_32 hm, mw_32, mw_up32, xK_33 hm, xN_33 hm, xQ_33 hm, mw_33, mw_up33, xK_34 hm, xN_34 hm, xQ_34 hm, mw_34, mw_up34, xK_35 hm, xN_35 hm, xQ_35 hm, mw_35, mw_up35, xK_36 hm, xN_36 hm, xQ_36 hm, mw_36, mw_up36, xK_37 hm, xN_37 hm, xQ_37 hm, mw_37, mw_up37, if_true, nI_add, nI_1, nI_clamp (show d * 161 + k < 2 ^ 31 by omega), nI_clamp (show d * 161 + k + 1 < 2 ^ 31 by omega), bd2 (show d * 161 + k < 644 by omega) (show d * 161 + k < 2 ^ 31 by omega), bd2 (show d * 161 + k + 1 < 644 by omega) (show d * 161 + k + 1 < 2 ^ 31 by omega), not_false_eq_true, hr, nar_bi]
      refine Or.inl ⟨_, rfl, by omega, _, rfl, fun c j hc => (uF_ne (Or.inl hc)).trans (h1 c j hc), fun j => ?_⟩
      rw [uF_at]
      by_cases e : j = d * 161 + k
      · rw [if_pos ⟨rfl, e⟩, if_pos (by omega), e, ← hr, h2, if_neg (by omega)]
      · rw [if_neg (fun z => e z.2), h2]
        by_cases e2 : d * 161 + (w + 1) ≤ j ∧ j < d * 161 + k
        · rw [if_pos e2, if_pos (by omega)]
        · rw [if_neg e2, if_neg (by omega)])
    (fun s ⟨hk1, G', e, h1, h2⟩ => by
      subst e
      refine ⟨_, ?_, G', rfl, h1, h2⟩
      simp only
      unfold f_X10_takesOut_b110
      rw [nI_sub1 (show 0 < n by omega), if_pos ((nI_leI (show n - 1 < 2 ^ 31 by omega) (show n - 1 < 2 ^ 31 by omega)).mpr (Nat.le_refl _))])
    (w + 1) (nI (w + 1), sI S (mw I m G)) ⟨Nat.le_refl _, G, rfl, fun _ _ _ => rfl, fun j => by rw [if_neg (by omega)]⟩ (by omega) kF (by unfold kF; omega)
  exact ⟨G', e1, h1, h2⟩
theorem x_td (hm : mS S m) {d p : Nat} {mks t : List Int32} {k : Dk} (hd : d < 4) (hmk : ∀ q, q < mks.length → G 26 (d * 161 + q) = bi (tb (la mks q) d)) (hk : mDk G d k) (hkl : k.2.2.2.length ≤ 20) (hkb : ∀ g ∈ k.2.2.2, g.2.1 ≤ 1000 ∧ g.2.2 ≤ 1000) (hlen : mks.length ≤ 161) (hw : slN t p < mks.length) (hw2 : la t p = 47 → slN t p + 1 < mks.length) (hp : p ≤ 160) : ∃ G', f_X10_takesOut_b84 m (nI p) (nI (slN t p)) (nI mks.length) (la t p) (nI d) (sI S (mw I m G)) = some (.inl (nI (d + 1), sI S (mw I m G'))) ∧ (∀ q, q < (mkT mks t p).length → G' 26 (d * 161 + q) = bi (tb (la (mkT mks t p) q) d)) ∧ mDk G' d (uG k (k.2.2.2.filterMap (fT p))) ∧ ∀ c j, ¬ (c = 26 ∧ d * 161 ≤ j ∧ j < d * 161 + 161) → ¬ (c = 22 ∧ j = d) → ¬ ((23 ≤ c ∧ c ≤ 25) ∧ d * 20 ≤ j ∧ j < d * 20 + 20) → G' c j = G c j := by
  generalize hc9 : la t p = c at hw2
  obtain ⟨H, eH, hH, fH⟩ : ∃ H, (∀ (K : PS → Option ((Int32 × PS) ⊕ PS)), (if c = (47 : Int32) then (lt (nI (slN t p) + 1) fun x45 => lt (fun (S49 : PS) => if kK S49 m = 14 then ((kQ S49 m 30).bind fun a53 => if kK S49 a53 = 103 then (if ¬ (((nI d * 161 + nI mks.length) - 1) < 0 ∨ kN S49 a53 ≤ ((nI d * 161 + nI mks.length) - 1).toNatClampNeg) then (lt (wI S49 a53 ((nI d * 161 + nI mks.length) - 1).toNatClampNeg (vp_nar .boolean 0)) fun S57 => K S57) else none) else none) else none) fun k50 => (iter (fun (v : Int32 × PS) => f_X10_takesOut_b110 m (nI mks.length) (nI d * 161) v.1 v.2) kF (x45, sI S (mw I m G))).bind (fun (v : PS) => k50 v)) else (K (sI S (mw I m G)))) = K (sI S (mw I m H))) ∧ (∀ q, q < (mkT mks t p).length → q ≠ slN t p → H 26 (d * 161 + q) = bi (tb (la (mkT mks t p) q) d)) ∧ ∀ c j, ¬ (c = 26 ∧ d * 161 ≤ j ∧ j < d * 161 + 161) → H c j = G c j := by
    by_cases hc : c = 47
    · have hw2 := hw2 hc
      obtain ⟨G1, e1, h1, h2⟩ := x_down (G := G) (I := I) hm hd hlen hw2 (fun q hq => ⟨_, hmk q hq⟩)
      refine ⟨uF G1 26 (d * 161 + mks.length - 1) 0, fun K => ?_, fun q hq hne => ?_, fun c j hcj => ?_⟩
      · rw [if_pos hc]
        simp only [x_mul161, nI_add, nI_1, e1, kK_sI, kQ_sI, kN_sI, kI_sI, wI_sI, Option.bind_some, lt, mw_0, mw_up0, xK_0 hm, xK_1 hm, xN_1 hm, xQ_1 hm, mw_1, mw_up1, xK_2 hm, xN_2 hm, xQ_2 hm, mw_2, mw_up2, xK_3 hm, xN_3 hm, xQ_3 hm, mw_3, mw_up3, xK_4 hm, xN_4 hm, xQ_4 hm, mw_4, mw_up4, xK_5 hm, xN_5 hm, xQ_5 hm, mw_5, mw_up5, xK_6 hm, xN_6 hm, xQ_6 hm, mw_6, mw_up6, xK_7 hm, xN_7 hm, xQ_7 hm, mw_7, mw_up7, xK_8 hm, xN_8 hm, xQ_8 hm, mw_8, mw_up8, xK_9 hm, xN_9 hm, xQ_9 hm, mw_9, mw_up9, xK_10 hm, xN_10 hm, xQ_10 hm, mw_10, mw_up10, xK_11 hm, xN_11 hm, xQ_11 hm, mw_11, mw_up11, xK_12 hm, xN_12 hm, xQ_12 hm, mw_12, mw_up12, xK_13 hm, xN_13 hm, xQ_13 hm, mw_13, mw_up13, xK_14 hm, xN_14 hm, xQ_14 hm, mw_14, mw_up14, xK_15 hm, xN_15 hm, xQ_15 hm, mw_15, mw_up15, xK_16 hm, xN_16 hm, xQ_16 hm, mw_16, mw_up16, xK_17 hm, xN_17 hm, xQ_17 hm, mw_17, mw_up17, xK_18 hm, xN_18 hm, xQ_18 hm, mw_18, mw_up18, xK_19 hm, xN_19 hm, xQ_19 hm, mw_19, mw_up19, xK_20 hm, xN_20 hm, xQ_20 hm, mw_20, mw_up20, xK_21 hm, xN_21 hm, xQ_21 hm, mw_21, mw_up21, xK_22 hm, xN_22 hm, xQ_22 hm, mw_22, mw_up22, xK_23 hm, xN_23 hm, xQ_23 hm, mw_23, mw_up23, xK_24 hm, xN_24 hm, xQ_24 hm, mw_24, mw_up24, xK_25 hm, xN_25 hm, xQ_25 hm, mw_25, mw_up25, xK_26 hm, xN_26 hm, xQ_26 hm, mw_26, mw_up26, xK_27 hm, xN_27 hm, xQ_27 hm, mw_27, mw_up27, xK_28 hm, xN_28 hm, xQ_28 hm, mw_28, mw_up28, xK_29 hm, xN_29 hm, xQ_29 hm, mw_29, mw_up29, xK_30 hm, xN_30 hm, xQ_30 hm, mw_30, mw_up30, xK_31 hm, xN_31 hm, xQ_31 hm, mw_31, mw_up31, xK_32 hm, xN_32 hm, xQ_32 hm, mw_32, mw_up32, xK_33 hm, xN_33 hm, xQ_33 hm, mw_33, mw_up33, xK_34 hm, xN_34 hm, xQ_34 hm, mw_34, mw_up34, xK_35 hm, xN_35 hm, xQ_35 hm, mw_35, mw_up35, xK_36 hm, xN_36 hm, xQ_36 hm, mw_36, mw_up36, xK_37 hm, xN_37 hm, xQ_37 hm, mw_37, mw_up37, if_true, nI_sub1 (show 0 < d * 161 + mks.length by omega), nI_clamp (show d * 161 + mks.length - 1 < 2 ^ 31 by omega), bd2 (show d * 161 + mks.length - 1 < 644 by omega) (show d * 161 + mks.length - 1 < 2 ^ 31 by omega), not_false_eq_true, show vp_nar .boolean 0 = 0 by decide]
      · rw [mkT_len hw (fun _ => hw2), hc9, if_pos hc] at hq
        rw [tb_mkT hw hd, if_neg hne, uF_ne (Or.inr (by omega)), h2, hc9]
        by_cases e3 : slN t p < q
        · rw [if_pos (⟨hc, e3⟩ : c = 47 ∧ slN t p < q), if_pos (by omega)]; exact hmk (q + 1) (by omega)
        · rw [if_neg (show ¬ (d * 161 + (slN t p + 1) ≤ d * 161 + q ∧ d * 161 + q < d * 161 + (mks.length - 1)) by omega), if_neg (fun z => e3 z.2)]; exact hmk _ (by omega)
      · rw [uF_ne (by omega)]
        by_cases hc26 : c = 26
        · rw [hc26, h2, if_neg (by omega)]
        · exact h1 c j hc26
    · refine ⟨G, fun K => by rw [if_neg hc], fun q hq hne => ?_, fun _ _ _ => rfl⟩
      have hc' : ¬ la t p = 47 := by rw [hc9]; exact hc
      rw [mkT_len hw (fun z => absurd z hc'), if_neg hc', Nat.sub_zero] at hq
      rw [tb_mkT hw hd, if_neg hne, if_neg (fun z => hc' z.1)]
      exact hmk q hq
  have hk1 : mDk (uF H 26 (d * 161 + slN t p) 1) d k := hk.ext (fun c h1 h2 j => by rw [uF_ne (by omega), fH c j (by omega)])
  obtain ⟨G2, e2, q1, q2, q3⟩ := x_follows (I := I) (f := fT p) hm hd hkl hk1.2.2.2.1 (fun j g hg => hk1.2.2.2.2 j g hg) (p := p) (by9 := -1) (fun H i L g hg hi hL h22 he => x_fbT hm hd (by omega) hi hkl hL h22 he (hkb g (List.mem_of_getElem? hg)))
  refine ⟨G2, ?_, fun q hq => ?_, ?_, fun c j h1 h2 h3 => ?_⟩
  · unfold f_X10_takesOut_b84
    rw [if_neg (show ¬ (4 : Int32) ≤ nI d from fun z => by
      have := (nI_leI (show 4 < 2 ^ 31 by decide) (show d < 2 ^ 31 by omega)).mp z
      omega)]
    simp only [lt_eq] at eH ⊢
    rw [eH (fun S29 => if kK S29 m = 14 then ((kQ S29 m 30).bind fun a32 => if kK S29 a32 = 103 then (if ¬ ((nI d * 161 + nI (slN t p)) < 0 ∨ kN S29 a32 ≤ (nI d * 161 + nI (slN t p)).toNatClampNeg) then (if kK (wI S29 a32 (nI d * 161 + nI (slN t p)).toNatClampNeg (vp_nar .boolean 1)) m = 14 then ((f_X10_follows (wI S29 a32 (nI d * 161 + nI (slN t p)).toNatClampNeg (vp_nar .boolean 1)) m (nI d) (nI p) (-1)).bind fun r39 => some (.inl (nI d + 1, r39))) else none) else none) else none) else none)]
    simp only [kK_sI, kQ_sI, kN_sI, kI_sI, wI_sI, Option.bind_some, lt, mw_0, mw_up0, xK_0 hm, xK_1 hm, xN_1 hm, xQ_1 hm, mw_1, mw_up1, xK_2 hm, xN_2 hm, xQ_2 hm, mw_2, mw_up2, xK_3 hm, xN_3 hm, xQ_3 hm, mw_3, mw_up3, xK_4 hm, xN_4 hm, xQ_4 hm, mw_4, mw_up4, xK_5 hm, xN_5 hm, xQ_5 hm, mw_5, mw_up5, xK_6 hm, xN_6 hm, xQ_6 hm, mw_6, mw_up6, xK_7 hm, xN_7 hm, xQ_7 hm, mw_7, mw_up7, xK_8 hm, xN_8 hm, xQ_8 hm, mw_8, mw_up8, xK_9 hm, xN_9 hm, xQ_9 hm, mw_9, mw_up9, xK_10 hm, xN_10 hm, xQ_10 hm, mw_10, mw_up10, xK_11 hm, xN_11 hm, xQ_11 hm, mw_11, mw_up11, xK_12 hm, xN_12 hm, xQ_12 hm, mw_12, mw_up12, xK_13 hm, xN_13 hm, xQ_13 hm, mw_13, mw_up13, xK_14 hm, xN_14 hm, xQ_14 hm, mw_14, mw_up14, xK_15 hm, xN_15 hm, xQ_15 hm, mw_15, mw_up15, xK_16 hm, xN_16 hm, xQ_16 hm, mw_16, mw_up16, xK_17 hm, xN_17 hm, xQ_17 hm, mw_17, mw_up17, xK_18 hm, xN_18 hm, xQ_18 hm, mw_18, mw_up18, xK_19 hm, xN_19 hm, xQ_19 hm, mw_19, mw_up19, xK_20 hm, xN_20 hm, xQ_20 hm, mw_20, mw_up20, xK_21 hm, xN_21 hm, xQ_21 hm, mw_21, mw_up21, xK_22 hm, xN_22 hm, xQ_22 hm, mw_22, mw_up22, xK_23 hm, xN_23 hm, xQ_23 hm, mw_23, mw_up23, xK_24 hm, xN_24 hm, xQ_24 hm, mw_24, mw_up24, xK_25 hm, xN_25 hm, xQ_25 hm, mw_25, mw_up25, xK_26 hm, xN_26 hm, xQ_26 hm, mw_26, mw_up26, xK_27 hm, xN_27 hm, xQ_27 hm, mw_27, mw_up27, xK_28 hm, xN_28 hm, xQ_28 hm, mw_28, mw_up28, xK_29 hm, xN_29 hm, xQ_29 hm, mw_29, mw_up29, xK_30 hm, xN_30 hm, xQ_30 hm, mw_30, mw_up30, xK_31 hm, xN_31 hm, xQ_31 hm, mw_31, mw_up31, xK_32 hm, xN_32 hm, xQ_32 hm, mw_32, mw_up32, xK_33 hm, xN_33 hm, xQ_33 hm, mw_33, mw_up33, xK_34 hm, xN_34 hm, xQ_34 hm, mw_34, mw_up34, xK_35 hm, xN_35 hm, xQ_35 hm, mw_35, mw_up35, xK_36 hm, xN_36 hm, xQ_36 hm, mw_36, mw_up36, xK_37 hm, xN_37 hm, xQ_37 hm, mw_37, mw_up37, if_true, x_mul161, nI_add, nI_clamp (show d * 161 + slN t p < 2 ^ 31 by omega), bd2 (show d * 161 + slN t p < 644 by omega) (show d * 161 + slN t p < 2 ^ 31 by omega), not_false_eq_true, show vp_nar .boolean 1 = 1 by decide, e2, nI_1]
  · rw [q3 _ _ (by omega) (by omega), uF_at]
    by_cases e : q = slN t p
    · rw [if_pos ⟨rfl, by omega⟩, tb_mkT hw hd, if_pos e]; rfl
    · rw [if_neg (by omega)]
      exact hH q hq e
  · obtain ⟨b1, b2, b3, b4, b5⟩ := hk1
    exact ⟨fun r hr => (q3 _ _ (by omega) (by omega)).trans (b1 r hr), fun r v hv => (q3 _ _ (by omega) (by omega)).trans (b2 r v hv), (q3 _ _ (by omega) (by omega)).trans b3, q1, q2⟩
  · rw [q3 _ _ h2 h3, uF_ne (by omega), fH c j h1]
end
