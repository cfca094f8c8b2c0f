/-! a sign is put, in the model: the desks -/
theorem nar_bi (b : Bool) : vp_nar .boolean (bi b) = bi b := by cases b <;> decide
theorem tb_15 {e : Nat} (he : e < 4) : tb 15 e = true := by
  have : ∀ e, e < 4 → tb 15 e = true := by decide +kernel
  exact this e he
theorem mkP_len {mk t : List Int32} {p : Nat} {c : Int32} (h : slN t p < mk.length) : (mkP mk t p c).length = mk.length + (if c = 47 then 1 else 0) := by
  unfold mkP
  split
  · rw [List.length_insertIdx, List.length_set, if_pos (by omega)]
  · rw [List.length_set]; rfl
theorem tb_mkP {mk t : List Int32} {p q e : Nat} {c : Int32} (h : slN t p < mk.length) (he : e < 4) : tb (la (mkP mk t p c) q) e = if q = slN t p then true else if c = 47 then (if q = slN t p + 1 then true else if q < slN t p then tb (la mk q) e else tb (la mk (q - 1)) e) else tb (la mk q) e := by
  unfold mkP
  by_cases hc : c = 47
  · rw [if_pos hc, if_pos hc, la_insert (by rw [List.length_set]; omega)]
    by_cases e1 : q = slN t p
    · rw [if_pos e1, if_pos (by omega), la_set, if_pos ⟨e1, h⟩, tb_15 he]
    · rw [if_neg e1]
      by_cases e2 : q = slN t p + 1
      · rw [if_pos e2, if_neg (by omega), if_pos e2, tb_15 he]
      · simp only [if_neg e2]
        by_cases e3 : q < slN t p
        · rw [if_pos e3, if_pos (by omega), la_set, if_neg (by omega)]
        · rw [if_neg e3, if_neg (by omega), la_set, if_neg (by omega)]
  · rw [if_neg hc, if_neg hc, la_set]
    by_cases e1 : q = slN t p
    · rw [if_pos e1, if_pos ⟨e1, h⟩, tb_15 he]
    · rw [if_neg e1, if_neg (fun z => e1 z.1)]
section
variable {S : PS} {I G : Nat → Nat → Int32} {m : Nat}
/-- the marks of a desk move up, from place w on -/
theorem x_up (hm : mS S m) {d w n : Nat} (hd : d < 4) (hn : n ≤ 160) (hw : w < n) (hb : ∀ q, q < n → ∃ b : Bool, G 26 (d * 161 + q) = bi b) : ∃ G', iter (fun (v : Int32 × PS) => f_X10_puts_b114 m (nI w) (nI (d * 161)) v.1 v.2) kF (nI n, sI S (mw I m G)) = some (sI S (mw I m G')) ∧ (∀ c j, c ≠ 26 → G' c j = G c j) ∧ ∀ j, G' 26 j = if d * 161 + (w + 1) < j ∧ j ≤ d * 161 + n then G 26 (j - 1) else G 26 j := by
  obtain ⟨z, e1, G', rfl, h1, h2⟩ := it_gen (b := fun (v : Int32 × PS) => f_X10_puts_b114 m (nI w) (nI (d * 161)) v.1 v.2)
    (P := fun k s => w + 1 ≤ k ∧ k ≤ n ∧ ∃ G', s = (nI k, sI S (mw I m G')) ∧ (∀ c j, c ≠ 26 → G' c j = G c j) ∧ ∀ j, G' 26 j = if d * 161 + k < j ∧ j ≤ d * 161 + n then G 26 (j - 1) else G 26 j)
    (Q := fun z => ∃ G', z = sI S (mw I m G') ∧ (∀ c j, c ≠ 26 → G' c j = G c j) ∧ ∀ j, G' 26 j = if d * 161 + (w + 1) < j ∧ j ≤ d * 161 + n then G 26 (j - 1) else G 26 j)
    (fun k s ⟨hk1, hk2, G', e, h1, h2⟩ => by
      subst e
      simp only
      unfold f_X10_puts_b114
      rw [nI_1]
      by_cases hk : k ≤ w + 1
      · rw [if_pos ((nI_leI (by omega) (by omega)).mpr hk)]
        have : k = w + 1 := by omega
        subst this
        exact Or.inr ⟨_, rfl, G', rfl, h1, h2⟩
      · rw [if_neg (fun z => hk ((nI_leI (by omega) (by omega)).mp z))]
        obtain ⟨b, hb9⟩ := hb (k - 1) (by omega)
        have hr : G' 26 (d * 161 + k - 1) = bi b := by
          rw [h2, if_neg (by omega), show d * 161 + k - 1 = d * 161 + (k - 1) by omega, hb9]
        simp only [kK_sI, kQ_sI, kN_sI, kI_sI, wI_sI, Option.bind_some, lt, mw_0, mw_up0, xK_0 hm, xK_1 hm, xN_1 hm, xQ_1 hm, mw_1, mw_up1, xK_2 hm, xN_2 hm, xQ_2 hm, mw_2, mw_up2, xK_3 hm, xN_3 hm, xQ_3 hm, mw_3, mw_up3, xK_4 hm, xN_4 hm, xQ_4 hm, mw_4, mw_up4, xK_5 hm, xN_5 hm, xQ_5 hm, mw_5, mw_up5, xK_6 hm, xN_6 hm, xQ_6 hm, mw_6, mw_up6, xK_7 hm, xN_7 hm, xQ_7 hm, mw_7, mw_up7, xK_8 hm, xN_8 hm, xQ_8 hm, mw_8, mw_up8, xK_9 hm, xN_9 hm, xQ_9 hm, mw_9, mw_up9, xK_10 hm, xN_10 hm, xQ_10 hm, mw_10, mw_up10, xK_11 hm, xN_11 hm, xQ_11 hm, mw_11, mw_up11, xK_12 hm, xN_12 hm, xQ_12 hm, mw_12, mw_up12, xK_13 hm, xN_13 hm, xQ_13 hm, mw_13, mw_up13, xK_14 hm, xN_14 hm, xQ_14 hm, mw_14, mw_up14, xK_15 hm, xN_15 hm, xQ_15 hm, mw_15, mw_up15, xK_16 hm, xN_16 hm, xQ_16 hm, mw_16, mw_up16, xK_17 hm, xN_17 hm, xQ_17 hm, mw_17, mw_up17, xK_18 hm, xN_18 hm, xQ_18 hm, mw_18, mw_up18, xK_19 hm, xN_19 hm, xQ_19 hm, mw_19, mw_up19, xK_20 hm, xN_20 hm, xQ_20 hm, mw_20, mw_up20, xK_21 hm, xN_21 hm, xQ_21 hm, mw_21, mw_up21, xK_22 hm, xN_22 hm, xQ_22 hm, mw_22, mw_up22, xK_23 hm, xN_23 hm, xQ_23 hm, mw_23, mw_up23, xK_24 hm, xN_24 hm, xQ_24 hm, mw_24, mw_up24, xK_25 hm, xN_25 hm, xQ_25 hm, mw_25, mw_up25, xK_26 hm, xN_26 hm, xQ_26 hm, mw_26, mw_up26, xK_27 hm, xN_27 hm, xQ_27 hm, mw_27, mw_up27, xK_28 hm, xN_28 hm, xQ_28 hm, mw_28, mw_up28, xK_29 hm, xN_29 hm, xQ_29 hm, mw_29, mw_up29, xK_30 hm, xN_30 hm, xQ_30 hm, mw_30, mw_up30, xK_31 hm, xN_31 hm, xQ_31 hm, mw_31, mw_up31, xK_32 hm, xN_32 hm, xQ_32 hm, mw_32, mw_up32, xK_33 hm, xN_33 hm, xQ_33 hm, mw_33, mw_up33, xK_34 hm, xN_34 hm, xQ_34 hm, mw_34, mw_up34, xK_35 hm, xN_35 hm, xQ_35 hm, mw_35, mw_up35, xK_36 hm, xN_36 hm, xQ_36 hm, mw_36, mw_up36, xK_37 hm, xN_37 hm, xQ_37 hm, mw_37, mw_up37, if_true, nI_add, nI_sub1 (show 0 < d * 161 + k by omega), nI_clamp (show d * 161 + k < 2 ^ 31 by omega), nI_clamp (show d * 161 + k - 1 < 2 ^ 31 by omega), bd2 (show d * 161 + k < 644 by omega) (show d * 161 + k < 2 ^ 31 by omega), bd2 (show d * 161 + k - 1 < 644 by omega) (show d * 161 + k - 1 < 2 ^ 31 by omega), not_false_eq_true, hr, nar_bi, m1_eq, nI_sub1 (show 0 < k by omega)]
        refine Or.inl ⟨_, k - 1, rfl, by omega, by omega, by omega, _, rfl, fun c j hc => (uF_ne (Or.inl hc)).trans (h1 c j hc), fun j => ?_⟩
        rw [uF_at]
        by_cases e : j = d * 161 + k
        · rw [if_pos ⟨rfl, e⟩, if_pos (by omega), e, ← hr, h2, if_neg (by omega)]
        · rw [if_neg (fun z => e z.2), h2]
          by_cases e2 : d * 161 + k < j ∧ j ≤ d * 161 + n
          · rw [if_pos e2, if_pos (by omega)]
          · rw [if_neg e2, if_neg (by omega)])
    kF n (nI n, sI S (mw I m G)) (by unfold kF; omega) ⟨by omega, Nat.le_refl _, G, rfl, fun _ _ _ => rfl, fun j => by rw [if_neg (by omega)]⟩
  exact ⟨G', e1, h1, h2⟩
theorem x_pd (hm : mS S m) {d p : Nat} {mks t : List Int32} {c : Int32} {k : Dk} (hd : d < 4) (hmk : ∀ q, q < mks.length → G 26 (d * 161 + q) = bi (tb (la mks q) d)) (hk : mDk G d k) (hkl : k.2.2.2.length ≤ 20) (hkb : ∀ g ∈ k.2.2.2, g.2.1 ≤ 1000 ∧ g.2.2 ≤ 1000) (hlen : mks.length ≤ 160) (hw : slN t p < mks.length) (hp : p ≤ 160) : ∃ G', f_X10_puts_b90 m (nI p) c (nI (slN t p)) (nI mks.length) (nI d) (sI S (mw I m G)) = some (.inl (nI (d + 1), sI S (mw I m G'))) ∧ (∀ q, q < (mkP mks t p c).length → G' 26 (d * 161 + q) = bi (tb (la (mkP mks t p c) q) d)) ∧ mDk G' d (uG k (k.2.2.2.filterMap (fP p))) ∧ ∀ c j, ¬ (c = 26 ∧ d * 161 ≤ j ∧ j < d * 161 + 161) → ¬ (c = 22 ∧ j = d) → ¬ ((23 ≤ c ∧ c ≤ 25) ∧ d * 20 ≤ j ∧ j < d * 20 + 20) → G' c j = G c j := by
  -- the marks
  obtain ⟨H, eH, hH, fH⟩ : ∃ H, (∀ (K : PS → Option ((Int32 × PS) ⊕ PS)), (if c = (47 : Int32) then (lt (fun (S57 : PS) => if kK S57 m = 14 then ((kQ S57 m 30).bind fun a61 => if kK S57 a61 = 103 then (if ¬ (((nI d * 161 + nI (slN t p)) + 1) < 0 ∨ kN S57 a61 ≤ ((nI d * 161 + nI (slN t p)) + 1).toNatClampNeg) then (lt (wI S57 a61 ((nI d * 161 + nI (slN t p)) + 1).toNatClampNeg (vp_nar .boolean 1)) fun S65 => K S65) else none) else none) else none) fun k58 => (iter (fun (v : Int32 × PS) => f_X10_puts_b114 m (nI (slN t p)) (nI d * 161) v.1 v.2) kF (nI mks.length, sI S (mw I m G))).bind (fun (v : PS) => k58 v)) else (K (sI S (mw I m G)))) = K (sI S (mw I m H))) ∧ (∀ q, q < (mkP mks t p c).length → q ≠ slN t p → H 26 (d * 161 + q) = bi (tb (la (mkP mks t p c) q) d)) ∧ ∀ c j, ¬ (c = 26 ∧ d * 161 ≤ j ∧ j < d * 161 + 161) → H c j = G c j := by
    by_cases hc : c = 47
    · obtain ⟨G1, e1, h1, h2⟩ := x_up (G := G) (I := I) hm hd hlen hw (fun q hq => ⟨_, hmk q hq⟩)
      refine ⟨uF G1 26 (d * 161 + slN t p + 1) 1, fun K => ?_, fun q hq hne => ?_, fun c j hcj => ?_⟩
      · rw [if_pos hc]
        simp only [x_mul161, nI_add, nI_1, e1, kK_sI, kQ_sI, kN_sI, kI_sI, wI_sI, Option.bind_some, lt, mw_0, mw_up0, xK_0 hm, xK_1 hm, xN_1 hm, xQ_1 hm, mw_1, mw_up1, xK_2 hm, xN_2 hm, xQ_2 hm, mw_2, mw_up2, xK_3 hm, xN_3 hm, xQ_3 hm, mw_3, mw_up3, xK_4 hm, xN_4 hm, xQ_4 hm, mw_4, mw_up4, xK_5 hm, xN_5 hm, xQ_5 hm, mw_5, mw_up5, xK_6 hm, xN_6 hm, xQ_6 hm, mw_6, mw_up6, xK_7 hm, xN_7 hm, xQ_7 hm, mw_7, mw_up7, xK_8 hm, xN_8 hm, xQ_8 hm, mw_8, mw_up8, xK_9 hm, xN_9 hm, xQ_9 hm, mw_9, mw_up9, xK_10 hm, xN_10 hm, xQ_10 hm, mw_10, mw_up10, xK_11 hm, xN_11 hm, xQ_11 hm, mw_11, mw_up11, xK_12 hm, xN_12 hm, xQ_12 hm, mw_12, mw_up12, xK_13 hm, xN_13 hm, xQ_13 hm, mw_13, mw_up13, xK_14 hm, xN_14 hm, xQ_14 hm, mw_14, mw_up14, xK_15 hm, xN_15 hm, xQ_15 hm, mw_15, mw_up15, xK_16 hm, xN_16 hm, xQ_16 hm, mw_16, mw_up16, xK_17 hm, xN_17 hm, xQ_17 hm, mw_17, mw_up17, xK_18 hm, xN_18 hm, xQ_18 hm, mw_18, mw_up18, xK_19 hm, xN_19 hm, xQ_19 hm, mw_19, mw_up19, xK_20 hm, xN_20 hm, xQ_20 hm, mw_20, mw_up20, xK_21 hm, xN_21 hm, xQ_21 hm, mw_21, mw_up21, xK_22 hm, xN_22 hm, xQ_22 hm, mw_22, mw_up22, xK_23 hm, xN_23 hm, xQ_23 hm, mw_23, mw_up23, xK_24 hm, xN_24 hm, xQ_24 hm, mw_24, mw_up24, xK_25 hm, xN_25 hm, xQ_25 hm, mw_25, mw_up25, xK_26 hm, xN_26 hm, xQ_26 hm, mw_26, mw_up26, xK_27 hm, xN_27 hm, xQ_27 hm, mw_27, mw_up27, xK_28 hm, xN_28 hm, xQ_28 hm, mw_28, mw_up28, xK_29 hm, xN_29 hm, xQ_29 hm, mw_29, mw_up29, xK_30 hm, xN_30 hm, xQ_30 hm, mw_30, mw_up30, xK_31 hm, xN_31 hm, xQ_31 hm, mw_31, mw_up31, xK_32 hm, xN_32 hm, xQ_32 hm, mw_32, mw_up32, xK_33 hm, xN_33 hm, xQ_33 hm, mw_33, mw_up33, xK_34 hm, xN_34 hm, xQ_34 hm, mw_34, mw_up34, xK_35 hm, xN_35 hm, xQ_35 hm, mw_35, mw_up35, xK_36 hm, xN_36 hm, xQ_36 hm, mw_36, mw_up36, xK_37 hm, xN_37 hm, xQ_37 hm, mw_37, mw_up37, if_true, nI_clamp (show d * 161 + slN t p + 1 < 2 ^ 31 by omega), bd2 (show d * 161 + slN t p + 1 < 644 by omega) (show d * 161 + slN t p + 1 < 2 ^ 31 by omega), not_false_eq_true, show vp_nar .boolean 1 = 1 by decide]
      · rw [mkP_len hw, if_pos hc] at hq
        rw [tb_mkP hw hd, if_neg hne, if_pos hc, uF_at]
        by_cases e2 : q = slN t p + 1
        · rw [if_pos e2, if_pos ⟨rfl, by omega⟩]; rfl
        · rw [if_neg e2, if_neg (by omega), h2]
          by_cases e3 : q < slN t p
          · rw [if_pos e3, if_neg (by omega)]; exact hmk q (by omega)
          · rw [if_neg e3, if_pos (by omega), show d * 161 + q - 1 = d * 161 + (q - 1) by omega]; exact hmk _ (by omega)
      · rw [uF_ne (by omega)]
        by_cases hc26 : c = 26
        · rw [hc26, h2, if_neg (by omega)]
        · exact h1 c j hc26
    · refine ⟨G, fun K => by rw [if_neg hc], fun q hq hne => ?_, fun _ _ _ => rfl⟩
      rw [mkP_len hw, if_neg hc, Nat.add_zero] at hq
      rw [tb_mkP hw hd, if_neg hne, if_neg hc]
      exact hmk q hq
  have hk1 : mDk (uF H 26 (d * 161 + slN t p) 1) d k := hk.ext (fun c h1 h2 j => by rw [uF_ne (by omega), fH c j (by omega)])
  obtain ⟨G2, e2, q1, q2, q3⟩ := x_follows (I := I) (f := fP p) hm hd hkl hk1.2.2.2.1 (fun j g hg => hk1.2.2.2.2 j g hg) (p := p) (by9 := 1) (fun H i L g hg hi hL h22 he => x_fbP hm hd (by omega) hi hkl hL h22 he (hkb g (List.mem_of_getElem? hg)))
  refine ⟨G2, ?_, fun q hq => ?_, ?_, fun c j h1 h2 h3 => ?_⟩
  · unfold f_X10_puts_b90
    rw [if_neg (show ¬ (4 : Int32) ≤ nI d from fun z => by
      have := (nI_leI (show 4 < 2 ^ 31 by decide) (show d < 2 ^ 31 by omega)).mp z
      omega)]
    show (if c = (47 : Int32) then _ else _) = _
    simp only [lt_eq] at eH ⊢
    rw [eH (fun S39 => if kK S39 m = 14 then ((kQ S39 m 30).bind fun a42 => if kK S39 a42 = 103 then (if ¬ ((nI d * 161 + nI (slN t p)) < 0 ∨ kN S39 a42 ≤ (nI d * 161 + nI (slN t p)).toNatClampNeg) then (if kK (wI S39 a42 (nI d * 161 + nI (slN t p)).toNatClampNeg (vp_nar .boolean 1)) m = 14 then ((f_X10_follows (wI S39 a42 (nI d * 161 + nI (slN t p)).toNatClampNeg (vp_nar .boolean 1)) m (nI d) (nI p) 1).bind fun r49 => some (.inl (nI d + 1, r49))) else none) else none) else none) else none)]
    simp only [kK_sI, kQ_sI, kN_sI, kI_sI, wI_sI, Option.bind_some, lt, mw_0, mw_up0, xK_0 hm, xK_1 hm, xN_1 hm, xQ_1 hm, mw_1, mw_up1, xK_2 hm, xN_2 hm, xQ_2 hm, mw_2, mw_up2, xK_3 hm, xN_3 hm, xQ_3 hm, mw_3, mw_up3, xK_4 hm, xN_4 hm, xQ_4 hm, mw_4, mw_up4, xK_5 hm, xN_5 hm, xQ_5 hm, mw_5, mw_up5, xK_6 hm, xN_6 hm, xQ_6 hm, mw_6, mw_up6, xK_7 hm, xN_7 hm, xQ_7 hm, mw_7, mw_up7, xK_8 hm, xN_8 hm, xQ_8 hm, mw_8, mw_up8, xK_9 hm, xN_9 hm, xQ_9 hm, mw_9, mw_up9, xK_10 hm, xN_10 hm, xQ_10 hm, mw_10, mw_up10, xK_11 hm, xN_11 hm, xQ_11 hm, mw_11, mw_up11, xK_12 hm, xN_12 hm, xQ_12 hm, mw_12, mw_up12, xK_13 hm, xN_13 hm, xQ_13 hm, mw_13, mw_up13, xK_14 hm, xN_14 hm, xQ_14 hm, mw_14, mw_up14, xK_15 hm, xN_15 hm, xQ_15 hm, mw_15, mw_up15, xK_16 hm, xN_16 hm, xQ_16 hm, mw_16, mw_up16, xK_17 hm, xN_17 hm, xQ_17 hm, mw_17, mw_up17, xK_18 hm, xN_18 hm, xQ_18 hm, mw_18, mw_up18, xK_19 hm, xN_19 hm, xQ_19 hm, mw_19, mw_up19, xK_20 hm, xN_20 hm, xQ_20 hm, mw_20, mw_up20, xK_21 hm, xN_21 hm, xQ_21 hm, mw_21, mw_up21, xK_22 hm, xN_22 hm, xQ_22 hm, mw_22, mw_up22, xK_23 hm, xN_23 hm, xQ_23 hm, mw_23, mw_up23, xK_24 hm, xN_24 hm, xQ_24 hm, mw_24, mw_up24, xK_25 hm, xN_25 hm, xQ_25 hm, mw_25, mw_up25, xK_26 hm, xN_26 hm, xQ_26 hm, mw_26, mw_up26, xK_27 hm, xN_27 hm, xQ_27 hm, mw_27, mw_up27, xK_28 hm, xN_28 hm, xQ_28 hm, mw_28, mw_up28, xK_29 hm, xN_29 hm, xQ_29 hm, mw_29, mw_up29, xK_30 hm, xN_30 hm, xQ_30 hm, mw_30, mw_up30, xK_31 hm, xN_31 hm, xQ_31 hm, mw_31, mw_up31, xK_32 hm, xN_32 hm, xQ_32 hm, mw_32, mw_up32, xK_33 hm, xN_33 hm, xQ_33 hm, mw_33, mw_up33, xK_34 hm, xN_34 hm, xQ_34 hm, mw_34, mw_up34, xK_35 hm, xN_35 hm, xQ_35 hm, mw_35, mw_up35, xK_36 hm, xN_36 hm, xQ_36 hm, mw_36, mw_up36, xK_37 hm, xN_37 hm, xQ_37 hm, mw_37, mw_up37, if_true, x_mul161, nI_add, nI_clamp (show d * 161 + slN t p < 2 ^ 31 by omega), bd2 (show d * 161 + slN t p < 644 by omega) (show d * 161 + slN t p < 2 ^ 31 by omega), not_false_eq_true, show vp_nar .boolean 1 = 1 by decide, e2, nI_1]
  · rw [q3 _ _ (by omega) (by omega), uF_at]
    by_cases e : q = slN t p
    · rw [if_pos ⟨rfl, by omega⟩, tb_mkP hw hd, if_pos e]; rfl
    · rw [if_neg (by omega)]
      exact hH q hq e
  · obtain ⟨b1, b2, b3, b4, b5⟩ := hk1
    exact ⟨fun r hr => (q3 _ _ (by omega) (by omega)).trans (b1 r hr), fun r v hv => (q3 _ _ (by omega) (by omega)).trans (b2 r v hv), (q3 _ _ (by omega) (by omega)).trans b3, q1, q2⟩
  · rw [q3 _ _ h2 h3, uF_ne (by omega), fH c j h1]
end
