/-! the model puts a suggestion together -/
def mOut (G : Nat → Nat → Int32) (l : List Int32) : Prop := G 0 45 = nI l.length ∧ ∀ i, i < l.length → G 37 i = la l i
def mQo (G G' : Nat → Nat → Int32) : Prop := (∀ k, 1 ≤ k → k ≠ 37 → ∀ j, G' k j = G k j) ∧ ∀ j, j ≠ 45 → G' 0 j = G 0 j
theorem mQo.rf {G : Nat → Nat → Int32} : mQo G G := ⟨fun _ _ _ _ => rfl, fun _ _ => rfl⟩
theorem mQo.tr {G G' G'' : Nat → Nat → Int32} (h : mQo G G') (h' : mQo G' G'') : mQo G G'' := ⟨fun k a b j => (h'.1 k a b j).trans (h.1 k a b j), fun j a => (h'.2 j a).trans (h.2 j a)⟩
theorem mQo.q {G G' : Nat → Nat → Int32} (h : mQo G G') : mQ G G' := ⟨fun k h1 h2 j => h.1 k h1 (by omega) j, h.2 _ (by decide), h.2 _ (by decide), h.2 _ (by decide), h.2 _ (by decide)⟩
theorem mQo.tk {G G' : Nat → Nat → Int32} {t : List Int32} (h : mQo G G') (hk : mTk G t) : mTk G' t := hk.ext (fun k a b j => h.1 k (by omega) (by omega) j) (h.2 31 (by decide))
theorem mQo.lk {G G' : Nat → Nat → Int32} {T : St} {d : Nat} (h : mQo G G') (hk : mLk G T d) : mLk G' T d := by
  obtain ⟨h1, h2, h3⟩ := hk
  refine ⟨h.tk h1, (h.2 _ (by decide)).trans h2, fun i hi => ?_⟩
  obtain ⟨c, c1, c2, c3, c4, c5, c6⟩ := h3 i hi
  exact ⟨c, c1, (h.1 _ (by decide) (by decide) _).trans c2, (h.1 _ (by decide) (by decide) _).trans c3, (h.1 _ (by decide) (by decide) _).trans c4, (h.1 _ (by decide) (by decide) _).trans c5, (h.1 _ (by decide) (by decide) _).trans c6⟩
section
variable {S : PS} {I G : Nat → Nat → Int32} {m : Nat} {T : St}
theorem x_outs (hm : mS S m) {l : List Int32} (hl : l.length < 200) (ho : mOut G l) {c : Int32} (hc : vp_nar .char c = c) : ∃ G', f_X10_outs (sI S (mw I m G)) m c = some (sI S (mw I m G')) ∧ mQo G G' ∧ mOut G' (l ++ [c]) := by
  have r37 : ∀ (H : Nat → Nat → Int32) (j : Nat) (v : Int32), uF H 37 j v 0 45 = H 0 45 := fun H j v => uF_ne (Or.inl (by decide))
  unfold f_X10_outs
  simp only [↓reduceIte, kK_sI, kQ_sI, kN_sI, kI_sI, wI_sI, Option.bind_some, lt, mw_0, mw_up0, xK_0 hm, xK_1 hm, xN_1 hm, xQ_1 hm, mw_1, mw_up1, xK_2 hm, xN_2 hm, xQ_2 hm, mw_2, mw_up2, xK_3 hm, xN_3 hm, xQ_3 hm, mw_3, mw_up3, xK_4 hm, xN_4 hm, xQ_4 hm, mw_4, mw_up4, xK_5 hm, xN_5 hm, xQ_5 hm, mw_5, mw_up5, xK_6 hm, xN_6 hm, xQ_6 hm, mw_6, mw_up6, xK_7 hm, xN_7 hm, xQ_7 hm, mw_7, mw_up7, xK_8 hm, xN_8 hm, xQ_8 hm, mw_8, mw_up8, xK_9 hm, xN_9 hm, xQ_9 hm, mw_9, mw_up9, xK_10 hm, xN_10 hm, xQ_10 hm, mw_10, mw_up10, xK_11 hm, xN_11 hm, xQ_11 hm, mw_11, mw_up11, xK_12 hm, xN_12 hm, xQ_12 hm, mw_12, mw_up12, xK_13 hm, xN_13 hm, xQ_13 hm, mw_13, mw_up13, xK_14 hm, xN_14 hm, xQ_14 hm, mw_14, mw_up14, xK_15 hm, xN_15 hm, xQ_15 hm, mw_15, mw_up15, xK_16 hm, xN_16 hm, xQ_16 hm, mw_16, mw_up16, xK_17 hm, xN_17 hm, xQ_17 hm, mw_17, mw_up17, xK_18 hm, xN_18 hm, xQ_18 hm, mw_18, mw_up18, xK_19 hm, xN_19 hm, xQ_19 hm, mw_19, mw_up19, xK_20 hm, xN_20 hm, xQ_20 hm, mw_20, mw_up20, xK_21 hm, xN_21 hm, xQ_21 hm, mw_21, mw_up21, xK_22 hm, xN_22 hm, xQ_22 hm, mw_22, mw_up22, xK_23 hm, xN_23 hm, xQ_23 hm, mw_23, mw_up23, xK_24 hm, xN_24 hm, xQ_24 hm, mw_24, mw_up24, xK_25 hm, xN_25 hm, xQ_25 hm, mw_25, mw_up25, xK_26 hm, xN_26 hm, xQ_26 hm, mw_26, mw_up26, xK_27 hm, xN_27 hm, xQ_27 hm, mw_27, mw_up27, xK_28 hm, xN_28 hm, xQ_28 hm, mw_28, mw_up28, xK_29 hm, xN_29 hm, xQ_29 hm, mw_29, mw_up29, xK_30 hm, xN_30 hm, xQ_30 hm, mw_30, mw_up30, xK_31 hm, xN_31 hm, xQ_31 hm, mw_31, mw_up31, xK_32 hm, xN_32 hm, xQ_32 hm, mw_32, mw_up32, xK_33 hm, xN_33 hm, xQ_33 hm, mw_33, mw_up33, xK_34 hm, xN_34 hm, xQ_34 hm, mw_34, mw_up34, xK_35 hm, xN_35 hm, xQ_35 hm, mw_35, mw_up35, xK_36 hm, xN_36 hm, xQ_36 hm, mw_36, mw_up36, xK_37 hm, xN_37 hm, xQ_37 hm, mw_37, mw_up37, ho.1, nI_clamp (show l.length < 2 ^ 31 by omega), bd2 hl (show l.length < 2 ^ 31 by omega), not_false_eq_true, r37, hc, nI_1]
  refine ⟨_, rfl, ⟨fun k h1 h2 j => by rw [uF_ne (by omega), uF_ne (by omega)], fun j h => by rw [uF_ne (by omega), uF_ne (by omega)]⟩, ?_, fun i hi => ?_⟩
  · rw [uF_eq, List.length_append]; rfl
  · rw [List.length_append] at hi
    rw [uF_ne (by omega), la_append]
    by_cases e : i < l.length
    · rw [if_pos e, uF_ne (by omega)]; exact ho.2 i e
    · have : i = l.length := by simp at hi; omega
      rw [if_neg e, this, uF_eq, Nat.sub_self]; rfl
/-- the signs of a token from a place on -/
theorem x_starTok (hm : mS S m) (hG : mT G T) (hw : wf T) (hk : mTk G T.2.1) {l : List Int32} (ho : mOut G l) (hl : l.length < 40) {j n : Nat} (h20 : n ≤ 20) (hj : j < (tsO T.2.1).length) : ∃ G', iter (fun (v : Int32 × PS) => f_X10_star_b87 m (nI j) v.1 v.2) kF (nI (tF (tsO T.2.1) j + n), sI S (mw I m G)) = some (sI S (mw I m G')) ∧ mQo G G' ∧ mOut G' (l ++ tkS T.2.1 (tsO T.2.1) j n) := by
  have ht := hw.2.1
  have hn := (tsO_wT ht).1
  have hb := tk_b hj
  have hend : ∀ G' k, mTk G' T.2.1 → tE (tsO T.2.1) j ≤ k → k < 2 ^ 31 → f_X10_star_b87 m (nI j) (nI k) (sI S (mw I m G')) = some (.inr (sI S (mw I m G'))) := fun G' k hk' h1 h2 => by
    unfold f_X10_star_b87
    simp only [↓reduceIte, kK_sI, kQ_sI, kN_sI, kI_sI, wI_sI, Option.bind_some, lt, mw_0, mw_up0, xK_0 hm, xK_1 hm, xN_1 hm, xQ_1 hm, mw_1, mw_up1, xK_2 hm, xN_2 hm, xQ_2 hm, mw_2, mw_up2, xK_3 hm, xN_3 hm, xQ_3 hm, mw_3, mw_up3, xK_4 hm, xN_4 hm, xQ_4 hm, mw_4, mw_up4, xK_5 hm, xN_5 hm, xQ_5 hm, mw_5, mw_up5, xK_6 hm, xN_6 hm, xQ_6 hm, mw_6, mw_up6, xK_7 hm, xN_7 hm, xQ_7 hm, mw_7, mw_up7, xK_8 hm, xN_8 hm, xQ_8 hm, mw_8, mw_up8, xK_9 hm, xN_9 hm, xQ_9 hm, mw_9, mw_up9, xK_10 hm, xN_10 hm, xQ_10 hm, mw_10, mw_up10, xK_11 hm, xN_11 hm, xQ_11 hm, mw_11, mw_up11, xK_12 hm, xN_12 hm, xQ_12 hm, mw_12, mw_up12, xK_13 hm, xN_13 hm, xQ_13 hm, mw_13, mw_up13, xK_14 hm, xN_14 hm, xQ_14 hm, mw_14, mw_up14, xK_15 hm, xN_15 hm, xQ_15 hm, mw_15, mw_up15, xK_16 hm, xN_16 hm, xQ_16 hm, mw_16, mw_up16, xK_17 hm, xN_17 hm, xQ_17 hm, mw_17, mw_up17, xK_18 hm, xN_18 hm, xQ_18 hm, mw_18, mw_up18, xK_19 hm, xN_19 hm, xQ_19 hm, mw_19, mw_up19, xK_20 hm, xN_20 hm, xQ_20 hm, mw_20, mw_up20, xK_21 hm, xN_21 hm, xQ_21 hm, mw_21, mw_up21, xK_22 hm, xN_22 hm, xQ_22 hm, mw_22, mw_up22, xK_23 hm, xN_23 hm, xQ_23 hm, mw_23, mw_up23, xK_24 hm, xN_24 hm, xQ_24 hm, mw_24, mw_up24, xK_25 hm, xN_25 hm, xQ_25 hm, mw_25, mw_up25, xK_26 hm, xN_26 hm, xQ_26 hm, mw_26, mw_up26, xK_27 hm, xN_27 hm, xQ_27 hm, mw_27, mw_up27, xK_28 hm, xN_28 hm, xQ_28 hm, mw_28, mw_up28, xK_29 hm, xN_29 hm, xQ_29 hm, mw_29, mw_up29, xK_30 hm, xN_30 hm, xQ_30 hm, mw_30, mw_up30, xK_31 hm, xN_31 hm, xQ_31 hm, mw_31, mw_up31, xK_32 hm, xN_32 hm, xQ_32 hm, mw_32, mw_up32, xK_33 hm, xN_33 hm, xQ_33 hm, mw_33, mw_up33, xK_34 hm, xN_34 hm, xQ_34 hm, mw_34, mw_up34, xK_35 hm, xN_35 hm, xQ_35 hm, mw_35, mw_up35, xK_36 hm, xN_36 hm, xQ_36 hm, mw_36, mw_up36, xK_37 hm, xN_37 hm, xQ_37 hm, mw_37, mw_up37, nI_clamp (show j < 2 ^ 31 by omega), bd2 (show j < 160 by omega) (show j < 2 ^ 31 by omega), not_false_eq_true, (hk'.2.1 j hj).2.1, nI_leI (show tE (tsO T.2.1) j < 2 ^ 31 by omega) h2, h1]
  by_cases e0 : tE (tsO T.2.1) j ≤ tF (tsO T.2.1) j + n
  · refine ⟨G, ?_, mQo.rf, ?_⟩
    · exact iter_done (b := fun (v : Int32 × PS) => f_X10_star_b87 m (nI j) v.1 v.2) (s := (nI (tF (tsO T.2.1) j + n), sI S (mw I m G))) (hend G _ hk e0 (by omega)) 99999
    · rw [show tkS T.2.1 (tsO T.2.1) j n = [] from by unfold tkS; rw [show tE (tsO T.2.1) j - (tF (tsO T.2.1) j + n) = 0 by omega]; rfl, List.append_nil]
      exact ho
  · obtain ⟨z, e1, G', rfl, q1, q2⟩ := it_up (b := fun (v : Int32 × PS) => f_X10_star_b87 m (nI j) v.1 v.2) (tE (tsO T.2.1) j)
      (P := fun k s => tF (tsO T.2.1) j + n ≤ k ∧ ∃ G', s = (nI k, sI S (mw I m G')) ∧ mQo G G' ∧ mOut G' (l ++ (List.range (k - (tF (tsO T.2.1) j + n))).map (fun q => la T.2.1 (tF (tsO T.2.1) j + n + q))))
      (Q := fun z => ∃ G', z = sI S (mw I m G') ∧ mQo G G' ∧ mOut G' (l ++ tkS T.2.1 (tsO T.2.1) j n))
      (fun k s hk1 ⟨hk2, G', e, q1, q2⟩ => by
        subst e
        have hx := (hG.q q1.q).2.1
        have hk' := q1.tk hk
        have hid := (char_id (Or.inl (hw.2.2.1 k (by omega)))).2
        obtain ⟨G2, e2, q3, q4⟩ := x_outs (S := S) (I := I) hm (by simp; omega) q2 hid
        refine Or.inl ⟨_, ?_, by omega, G2, rfl, q1.tr q3, ?_⟩
        · simp only
          unfold f_X10_star_b87
          simp only [↓reduceIte, kK_sI, kQ_sI, kN_sI, kI_sI, wI_sI, Option.bind_some, lt, mw_0, mw_up0, xK_0 hm, xK_1 hm, xN_1 hm, xQ_1 hm, mw_1, mw_up1, xK_2 hm, xN_2 hm, xQ_2 hm, mw_2, mw_up2, xK_3 hm, xN_3 hm, xQ_3 hm, mw_3, mw_up3, xK_4 hm, xN_4 hm, xQ_4 hm, mw_4, mw_up4, xK_5 hm, xN_5 hm, xQ_5 hm, mw_5, mw_up5, xK_6 hm, xN_6 hm, xQ_6 hm, mw_6, mw_up6, xK_7 hm, xN_7 hm, xQ_7 hm, mw_7, mw_up7, xK_8 hm, xN_8 hm, xQ_8 hm, mw_8, mw_up8, xK_9 hm, xN_9 hm, xQ_9 hm, mw_9, mw_up9, xK_10 hm, xN_10 hm, xQ_10 hm, mw_10, mw_up10, xK_11 hm, xN_11 hm, xQ_11 hm, mw_11, mw_up11, xK_12 hm, xN_12 hm, xQ_12 hm, mw_12, mw_up12, xK_13 hm, xN_13 hm, xQ_13 hm, mw_13, mw_up13, xK_14 hm, xN_14 hm, xQ_14 hm, mw_14, mw_up14, xK_15 hm, xN_15 hm, xQ_15 hm, mw_15, mw_up15, xK_16 hm, xN_16 hm, xQ_16 hm, mw_16, mw_up16, xK_17 hm, xN_17 hm, xQ_17 hm, mw_17, mw_up17, xK_18 hm, xN_18 hm, xQ_18 hm, mw_18, mw_up18, xK_19 hm, xN_19 hm, xQ_19 hm, mw_19, mw_up19, xK_20 hm, xN_20 hm, xQ_20 hm, mw_20, mw_up20, xK_21 hm, xN_21 hm, xQ_21 hm, mw_21, mw_up21, xK_22 hm, xN_22 hm, xQ_22 hm, mw_22, mw_up22, xK_23 hm, xN_23 hm, xQ_23 hm, mw_23, mw_up23, xK_24 hm, xN_24 hm, xQ_24 hm, mw_24, mw_up24, xK_25 hm, xN_25 hm, xQ_25 hm, mw_25, mw_up25, xK_26 hm, xN_26 hm, xQ_26 hm, mw_26, mw_up26, xK_27 hm, xN_27 hm, xQ_27 hm, mw_27, mw_up27, xK_28 hm, xN_28 hm, xQ_28 hm, mw_28, mw_up28, xK_29 hm, xN_29 hm, xQ_29 hm, mw_29, mw_up29, xK_30 hm, xN_30 hm, xQ_30 hm, mw_30, mw_up30, xK_31 hm, xN_31 hm, xQ_31 hm, mw_31, mw_up31, xK_32 hm, xN_32 hm, xQ_32 hm, mw_32, mw_up32, xK_33 hm, xN_33 hm, xQ_33 hm, mw_33, mw_up33, xK_34 hm, xN_34 hm, xQ_34 hm, mw_34, mw_up34, xK_35 hm, xN_35 hm, xQ_35 hm, mw_35, mw_up35, xK_36 hm, xN_36 hm, xQ_36 hm, mw_36, mw_up36, xK_37 hm, xN_37 hm, xQ_37 hm, mw_37, mw_up37, nI_clamp (show j < 2 ^ 31 by omega), bd2 (show j < 160 by omega) (show j < 2 ^ 31 by omega), not_false_eq_true, (hk'.2.1 j hj).2.1, nI_leI (show tE (tsO T.2.1) j < 2 ^ 31 by omega) (show k < 2 ^ 31 by omega), if_neg (show ¬ tE (tsO T.2.1) j ≤ k by omega), nI_clamp (show k < 2 ^ 31 by omega), bd2 (show k < 161 by omega) (show k < 2 ^ 31 by omega), hx.2.1 k (by omega), e2, nI_1]
        · rw [List.append_assoc] at q4
          rw [show k + 1 - (tF (tsO T.2.1) j + n) = (k - (tF (tsO T.2.1) j + n)) + 1 by omega, List.range_succ, List.map_append]
          simp only [List.map_cons, List.map_nil]
          rw [show tF (tsO T.2.1) j + n + (k - (tF (tsO T.2.1) j + n)) = k by omega]
          exact q4)
      (fun s ⟨hk2, G', e, q1, q2⟩ => by
        subst e
        exact ⟨_, hend G' _ (q1.tk hk) (Nat.le_refl _) (by omega), G', rfl, q1, q2⟩)
      (tF (tsO T.2.1) j + n) (nI (tF (tsO T.2.1) j + n), sI S (mw I m G)) ⟨Nat.le_refl _, G, rfl, mQo.rf, by rw [Nat.sub_self]; simpa using ho⟩ (by omega) kF (by unfold kF; omega)
    exact ⟨G', e1, q1, q2⟩
end
