section
variable {S : PS} {I G : Nat → Nat → Int32} {m : Nat} {T : St} {d : Nat}
theorem fA.tr {G0 G G' : Nat → Nat → Int32} {L L' : List (Nat × Nat)} (h : fA G0 G T d L) (h' : fA G G' T d L') : fA G0 G' T d L' := ⟨h.1.tr h'.1, h'.2⟩
theorem fA.mt {G0 G : Nat → Nat → Int32} {L : List (Nat × Nat)} (h : fA G0 G T d L) (hG : mT G0 T) : mT G T := hG.q h.1.q
theorem fA.k {G0 G : Nat → Nat → Int32} {L : List (Nat × Nat)} (h : fA G0 G T d L) (hk : mTk G0 T.2.1) : mTk G T.2.1 := h.1.tk hk
/-- what a rule finds -/
theorem x_faR (hm : mS S m) (hw : wf T) (hd : d < 4) (hG : mT G T) (hk : mTk G T.2.1) {L : List (Nat × Nat)} (hf : mFd G T.2.1 T.2.2.2.2.1 (T.2.2.2.2.2.2 d) L) (hL : L.length ≤ 2000) {r : Nat} {v : Rv} (hv : T.2.2.2.2.1[r]? = some v) :
    ∃ G' L', (iter (fun (v : Int32 × PS) => f_X10_findsAll_b21 m (nI d) (nI r) v.1 v.2) kF (0, sI S (mw I m G))) = some (sI S (mw I m G')) ∧ fA G G' T d L' ∧ L'.length ≤ L.length + (tsO T.2.1).length ∧ ∀ q, q ∈ L' ↔ q ∈ L ∨ (q.2 = r ∧ q.1 < (tsO T.2.1).length ∧ cnT T d q.1 q.2) := by
  have ht := hw.2.1
  have hl := (tsO_wT ht).1
  have hr := (List.getElem?_eq_some_iff.mp hv).1
  have hru := hw.2.2.2.2.2.2.1.1
  have hlen : ∀ G', mTk G' T.2.1 → ∀ j, j ≤ (tsO T.2.1).length → ¬ j < (tsO T.2.1).length ∨ tb (T.2.2.2.2.2.2 d).2.1 r = true → mT G' T → f_X10_findsAll_b21 m (nI d) (nI r) (nI j) (sI S (mw I m G')) = some (.inr (sI S (mw I m G'))) := fun G' hk' j hj h1 hG' => by
    have hD := hG'.2.2.2.2.2 d hd
    unfold f_X10_findsAll_b21
    by_cases e : (tsO T.2.1).length ≤ j
    · simp only [↓reduceIte, kK_sI, kQ_sI, kN_sI, kI_sI, wI_sI, Option.bind_some, lt, mw_0, mw_up0, xK_0 hm, xK_1 hm, xN_1 hm, xQ_1 hm, mw_1, mw_up1, xK_2 hm, xN_2 hm, xQ_2 hm, mw_2, mw_up2, xK_3 hm, xN_3 hm, xQ_3 hm, mw_3, mw_up3, xK_4 hm, xN_4 hm, xQ_4 hm, mw_4, mw_up4, xK_5 hm, xN_5 hm, xQ_5 hm, mw_5, mw_up5, xK_6 hm, xN_6 hm, xQ_6 hm, mw_6, mw_up6, xK_7 hm, xN_7 hm, xQ_7 hm, mw_7, mw_up7, xK_8 hm, xN_8 hm, xQ_8 hm, mw_8, mw_up8, xK_9 hm, xN_9 hm, xQ_9 hm, mw_9, mw_up9, xK_10 hm, xN_10 hm, xQ_10 hm, mw_10, mw_up10, xK_11 hm, xN_11 hm, xQ_11 hm, mw_11, mw_up11, xK_12 hm, xN_12 hm, xQ_12 hm, mw_12, mw_up12, xK_13 hm, xN_13 hm, xQ_13 hm, mw_13, mw_up13, xK_14 hm, xN_14 hm, xQ_14 hm, mw_14, mw_up14, xK_15 hm, xN_15 hm, xQ_15 hm, mw_15, mw_up15, xK_16 hm, xN_16 hm, xQ_16 hm, mw_16, mw_up16, xK_17 hm, xN_17 hm, xQ_17 hm, mw_17, mw_up17, xK_18 hm, xN_18 hm, xQ_18 hm, mw_18, mw_up18, xK_19 hm, xN_19 hm, xQ_19 hm, mw_19, mw_up19, xK_20 hm, xN_20 hm, xQ_20 hm, mw_20, mw_up20, xK_21 hm, xN_21 hm, xQ_21 hm, mw_21, mw_up21, xK_22 hm, xN_22 hm, xQ_22 hm, mw_22, mw_up22, xK_23 hm, xN_23 hm, xQ_23 hm, mw_23, mw_up23, xK_24 hm, xN_24 hm, xQ_24 hm, mw_24, mw_up24, xK_25 hm, xN_25 hm, xQ_25 hm, mw_25, mw_up25, xK_26 hm, xN_26 hm, xQ_26 hm, mw_26, mw_up26, xK_27 hm, xN_27 hm, xQ_27 hm, mw_27, mw_up27, xK_28 hm, xN_28 hm, xQ_28 hm, mw_28, mw_up28, xK_29 hm, xN_29 hm, xQ_29 hm, mw_29, mw_up29, xK_30 hm, xN_30 hm, xQ_30 hm, mw_30, mw_up30, xK_31 hm, xN_31 hm, xQ_31 hm, mw_31, mw_up31, xK_32 hm, xN_32 hm, xQ_32 hm, mw_32, mw_up32, xK_33 hm, xN_33 hm, xQ_33 hm, mw_33, mw_up33, xK_34 hm, xN_34 hm, xQ_34 hm, mw_34, mw_up34, xK_35 hm, xN_35 hm, xQ_35 hm, mw_35, mw_up35, xK_36 hm, xN_36 hm, xQ_36 hm, mw_36, mw_up36, xK_37 hm, xN_37 hm, xQ_37 hm, mw_37, mw_up37, hk'.1, nI_leI (show (tsO T.2.1).length < 2 ^ 31 by omega) (show j < 2 ^ 31 by omega), e]
    · rcases h1 with h1 | h1
      · omega
      · simp only [↓reduceIte, kK_sI, kQ_sI, kN_sI, kI_sI, wI_sI, Option.bind_some, lt, mw_0, mw_up0, xK_0 hm, xK_1 hm, xN_1 hm, xQ_1 hm, mw_1, mw_up1, xK_2 hm, xN_2 hm, xQ_2 hm, mw_2, mw_up2, xK_3 hm, xN_3 hm, xQ_3 hm, mw_3, mw_up3, xK_4 hm, xN_4 hm, xQ_4 hm, mw_4, mw_up4, xK_5 hm, xN_5 hm, xQ_5 hm, mw_5, mw_up5, xK_6 hm, xN_6 hm, xQ_6 hm, mw_6, mw_up6, xK_7 hm, xN_7 hm, xQ_7 hm, mw_7, mw_up7, xK_8 hm, xN_8 hm, xQ_8 hm, mw_8, mw_up8, xK_9 hm, xN_9 hm, xQ_9 hm, mw_9, mw_up9, xK_10 hm, xN_10 hm, xQ_10 hm, mw_10, mw_up10, xK_11 hm, xN_11 hm, xQ_11 hm, mw_11, mw_up11, xK_12 hm, xN_12 hm, xQ_12 hm, mw_12, mw_up12, xK_13 hm, xN_13 hm, xQ_13 hm, mw_13, mw_up13, xK_14 hm, xN_14 hm, xQ_14 hm, mw_14, mw_up14, xK_15 hm, xN_15 hm, xQ_15 hm, mw_15, mw_up15, xK_16 hm, xN_16 hm, xQ_16 hm, mw_16, mw_up16, xK_17 hm, xN_17 hm, xQ_17 hm, mw_17, mw_up17, xK_18 hm, xN_18 hm, xQ_18 hm, mw_18, mw_up18, xK_19 hm, xN_19 hm, xQ_19 hm, mw_19, mw_up19, xK_20 hm, xN_20 hm, xQ_20 hm, mw_20, mw_up20, xK_21 hm, xN_21 hm, xQ_21 hm, mw_21, mw_up21, xK_22 hm, xN_22 hm, xQ_22 hm, mw_22, mw_up22, xK_23 hm, xN_23 hm, xQ_23 hm, mw_23, mw_up23, xK_24 hm, xN_24 hm, xQ_24 hm, mw_24, mw_up24, xK_25 hm, xN_25 hm, xQ_25 hm, mw_25, mw_up25, xK_26 hm, xN_26 hm, xQ_26 hm, mw_26, mw_up26, xK_27 hm, xN_27 hm, xQ_27 hm, mw_27, mw_up27, xK_28 hm, xN_28 hm, xQ_28 hm, mw_28, mw_up28, xK_29 hm, xN_29 hm, xQ_29 hm, mw_29, mw_up29, xK_30 hm, xN_30 hm, xQ_30 hm, mw_30, mw_up30, xK_31 hm, xN_31 hm, xQ_31 hm, mw_31, mw_up31, xK_32 hm, xN_32 hm, xQ_32 hm, mw_32, mw_up32, xK_33 hm, xN_33 hm, xQ_33 hm, mw_33, mw_up33, xK_34 hm, xN_34 hm, xQ_34 hm, mw_34, mw_up34, xK_35 hm, xN_35 hm, xQ_35 hm, mw_35, mw_up35, xK_36 hm, xN_36 hm, xQ_36 hm, mw_36, mw_up36, xK_37 hm, xN_37 hm, xQ_37 hm, mw_37, mw_up37, hk'.1, nI_leI (show (tsO T.2.1).length < 2 ^ 31 by omega) (show j < 2 ^ 31 by omega), e, x_mul12, nI_add, nI_clamp (show d * 12 + r < 2 ^ 31 by omega), bd2 (show d * 12 + r < 48 by omega) (show d * 12 + r < 2 ^ 31 by omega), not_false_eq_true, hD.1 r (by omega), h1, bi_eq0, Bool.true_eq_false]
  cases hlo : tb (T.2.2.2.2.2.2 d).2.1 r with
  | true =>
    refine ⟨G, L, ?_, ⟨mQf.rf, hf⟩, by omega, fun q => ⟨fun z => Or.inl z, fun z => z.elim id (fun z => ?_)⟩⟩
    · exact iter_done (b := fun (v : Int32 × PS) => f_X10_findsAll_b21 m (nI d) (nI r) v.1 v.2) (s := (0, sI S (mw I m G))) (hlen G hk 0 (Nat.zero_le _) (Or.inr hlo) hG) 99999
    · have h9 := ((cn_rule (d := d) hw (by rw [z.1]; exact hv) z.2.1).mp z.2.2).1.2
      rw [z.1, hlo] at h9
      cases h9
  | false =>
    obtain ⟨z, e1, G', L', rfl, q1, q2, q3⟩ := it_up (b := fun (v : Int32 × PS) => f_X10_findsAll_b21 m (nI d) (nI r) v.1 v.2) (tsO T.2.1).length
      (P := fun k s => ∃ G' L', s = (nI k, sI S (mw I m G')) ∧ fA G G' T d L' ∧ L'.length ≤ L.length + k ∧ ∀ q, q ∈ L' ↔ q ∈ L ∨ (q.2 = r ∧ q.1 < k ∧ cnT T d q.1 q.2))
      (Q := fun z => ∃ G' L', z = sI S (mw I m G') ∧ fA G G' T d L' ∧ L'.length ≤ L.length + (tsO T.2.1).length ∧ ∀ q, q ∈ L' ↔ q ∈ L ∨ (q.2 = r ∧ q.1 < (tsO T.2.1).length ∧ cnT T d q.1 q.2))
      (fun k s hk1 ⟨G', L', e, f1, f2, f3⟩ => by
        subst e
        obtain ⟨G2, L2, e2, g1, g2⟩ := x_fa1 (S := S) (I := I) hm hw hd (f1.mt hG) (f1.k hk) f1.2 (by omega) hv hk1 hlo
        refine Or.inl ⟨_, e2, G2, L2, rfl, f1.tr g1, by have := g2.1; omega, fun q => ?_⟩
        rw [g2.2, f3]
        constructor
        · rintro ((z | z) | z)
          · exact Or.inl z
          · exact Or.inr ⟨z.1, by omega, z.2.2⟩
          · rw [z.1]; exact Or.inr ⟨rfl, by simp, z.2⟩
        · rintro (z | z)
          · exact Or.inl (Or.inl z)
          · by_cases e : q.1 = k
            · exact Or.inr ⟨Prod.ext e z.1, by have := z.2.2; rw [e, z.1] at this; exact this⟩
            · exact Or.inl (Or.inr ⟨z.1, by omega, z.2.2⟩))
      (fun s ⟨G', L', e, f1, f2, f3⟩ => by
        subst e
        exact ⟨_, hlen G' (f1.k hk) _ (Nat.le_refl _) (Or.inl (by omega)) (f1.mt hG), G', L', rfl, f1, f2, f3⟩)
      0 (0, sI S (mw I m G)) ⟨G, L, rfl, ⟨mQf.rf, hf⟩, by omega, fun q => ⟨fun z => Or.inl z, fun z => z.elim id (fun y => absurd y.2.1 (by omega))⟩⟩ (Nat.zero_le _) kF (by unfold kF; omega)
    exact ⟨G', L', e1, q1, q2, q3⟩
/-- what all rules find -/
theorem x_fa (hm : mS S m) (hw : wf T) (hd : d < 4) (hG : mT G T) (hk : mTk G T.2.1) (hf : mFd G T.2.1 T.2.2.2.2.1 (T.2.2.2.2.2.2 d) []) :
    ∃ G' L', (iter (fun (v : Int32 × PS) => f_X10_findsAll_b11 m (nI d) v.1 v.2) kF (0, sI S (mw I m G))) = some (sI S (mw I m G')) ∧ fA G G' T d L' ∧ L'.length ≤ 1920 ∧ ∀ q, q ∈ L' ↔ q.2 < T.2.2.2.2.1.length ∧ q.1 < (tsO T.2.1).length ∧ cnT T d q.1 q.2 := by
  have hl := (tsO_wT hw.2.1).1
  have hru := hw.2.2.2.2.2.2.1.1
  obtain ⟨z, e1, G', L', rfl, q1, q2, q3⟩ := it_up (b := fun (v : Int32 × PS) => f_X10_findsAll_b11 m (nI d) v.1 v.2) T.2.2.2.2.1.length
    (P := fun k s => ∃ G' L', s = (nI k, sI S (mw I m G')) ∧ fA G G' T d L' ∧ L'.length ≤ k * 160 ∧ ∀ q, q ∈ L' ↔ q.2 < k ∧ q.1 < (tsO T.2.1).length ∧ cnT T d q.1 q.2)
    (Q := fun z => ∃ G' L', z = sI S (mw I m G') ∧ fA G G' T d L' ∧ L'.length ≤ T.2.2.2.2.1.length * 160 ∧ ∀ q, q ∈ L' ↔ q.2 < T.2.2.2.2.1.length ∧ q.1 < (tsO T.2.1).length ∧ cnT T d q.1 q.2)
    (fun k s hk1 ⟨G', L', e, f1, f2, f3⟩ => by
      subst e
      obtain ⟨v, hv⟩ : ∃ v, T.2.2.2.2.1[k]? = some v := ⟨_, List.getElem?_eq_getElem hk1⟩
      obtain ⟨G2, L2, e2, g1, g2, g3⟩ := x_faR (S := S) (I := I) hm hw hd (f1.mt hG) (f1.k hk) f1.2 (by omega) hv
      have h6 := (f1.mt hG).2.2.2.1.1
      refine Or.inl ⟨_, ?_, G2, L2, rfl, f1.tr g1, by omega, fun q => ?_⟩
      · simp only
        unfold f_X10_findsAll_b11
        simp only [↓reduceIte, kK_sI, kQ_sI, kN_sI, kI_sI, wI_sI, Option.bind_some, lt, mw_0, mw_up0, xK_0 hm, xK_1 hm, xN_1 hm, xQ_1 hm, mw_1, mw_up1, xK_2 hm, xN_2 hm, xQ_2 hm, mw_2, mw_up2, xK_3 hm, xN_3 hm, xQ_3 hm, mw_3, mw_up3, xK_4 hm, xN_4 hm, xQ_4 hm, mw_4, mw_up4, xK_5 hm, xN_5 hm, xQ_5 hm, mw_5, mw_up5, xK_6 hm, xN_6 hm, xQ_6 hm, mw_6, mw_up6, xK_7 hm, xN_7 hm, xQ_7 hm, mw_7, mw_up7, xK_8 hm, xN_8 hm, xQ_8 hm, mw_8, mw_up8, xK_9 hm, xN_9 hm, xQ_9 hm, mw_9, mw_up9, xK_10 hm, xN_10 hm, xQ_10 hm, mw_10, mw_up10, xK_11 hm, xN_11 hm, xQ_11 hm, mw_11, mw_up11, xK_12 hm, xN_12 hm, xQ_12 hm, mw_12, mw_up12, xK_13 hm, xN_13 hm, xQ_13 hm, mw_13, mw_up13, xK_14 hm, xN_14 hm, xQ_14 hm, mw_14, mw_up14, xK_15 hm, xN_15 hm, xQ_15 hm, mw_15, mw_up15, xK_16 hm, xN_16 hm, xQ_16 hm, mw_16, mw_up16, xK_17 hm, xN_17 hm, xQ_17 hm, mw_17, mw_up17, xK_18 hm, xN_18 hm, xQ_18 hm, mw_18, mw_up18, xK_19 hm, xN_19 hm, xQ_19 hm, mw_19, mw_up19, xK_20 hm, xN_20 hm, xQ_20 hm, mw_20, mw_up20, xK_21 hm, xN_21 hm, xQ_21 hm, mw_21, mw_up21, xK_22 hm, xN_22 hm, xQ_22 hm, mw_22, mw_up22, xK_23 hm, xN_23 hm, xQ_23 hm, mw_23, mw_up23, xK_24 hm, xN_24 hm, xQ_24 hm, mw_24, mw_up24, xK_25 hm, xN_25 hm, xQ_25 hm, mw_25, mw_up25, xK_26 hm, xN_26 hm, xQ_26 hm, mw_26, mw_up26, xK_27 hm, xN_27 hm, xQ_27 hm, mw_27, mw_up27, xK_28 hm, xN_28 hm, xQ_28 hm, mw_28, mw_up28, xK_29 hm, xN_29 hm, xQ_29 hm, mw_29, mw_up29, xK_30 hm, xN_30 hm, xQ_30 hm, mw_30, mw_up30, xK_31 hm, xN_31 hm, xQ_31 hm, mw_31, mw_up31, xK_32 hm, xN_32 hm, xQ_32 hm, mw_32, mw_up32, xK_33 hm, xN_33 hm, xQ_33 hm, mw_33, mw_up33, xK_34 hm, xN_34 hm, xQ_34 hm, mw_34, mw_up34, xK_35 hm, xN_35 hm, xQ_35 hm, mw_35, mw_up35, xK_36 hm, xN_36 hm, xQ_36 hm, mw_36, mw_up36, xK_37 hm, xN_37 hm, xQ_37 hm, mw_37, mw_up37, h6, nI_leI (show T.2.2.2.2.1.length < 2 ^ 31 by omega) (show k < 2 ^ 31 by omega), if_neg (show ¬ T.2.2.2.2.1.length ≤ k by omega), e2, nI_1]
      · rw [g3, f3]
        constructor
        · rintro (z | z)
          · exact ⟨by omega, z.2⟩
          · exact ⟨by omega, z.2⟩
        · intro z
          by_cases e : q.2 = k
          · exact Or.inr ⟨e, z.2⟩
          · exact Or.inl ⟨by omega, z.2⟩)
    (fun s ⟨G', L', e, f1, f2, f3⟩ => by
      subst e
      have h6 := (f1.mt hG).2.2.2.1.1
      refine ⟨_, ?_, G', L', rfl, f1, f2, f3⟩
      simp only
      unfold f_X10_findsAll_b11
      simp only [↓reduceIte, kK_sI, kQ_sI, kN_sI, kI_sI, wI_sI, Option.bind_some, lt, mw_0, mw_up0, xK_0 hm, xK_1 hm, xN_1 hm, xQ_1 hm, mw_1, mw_up1, xK_2 hm, xN_2 hm, xQ_2 hm, mw_2, mw_up2, xK_3 hm, xN_3 hm, xQ_3 hm, mw_3, mw_up3, xK_4 hm, xN_4 hm, xQ_4 hm, mw_4, mw_up4, xK_5 hm, xN_5 hm, xQ_5 hm, mw_5, mw_up5, xK_6 hm, xN_6 hm, xQ_6 hm, mw_6, mw_up6, xK_7 hm, xN_7 hm, xQ_7 hm, mw_7, mw_up7, xK_8 hm, xN_8 hm, xQ_8 hm, mw_8, mw_up8, xK_9 hm, xN_9 hm, xQ_9 hm, mw_9, mw_up9, xK_10 hm, xN_10 hm, xQ_10 hm, mw_10, mw_up10, xK_11 hm, xN_11 hm, xQ_11 hm, mw_11, mw_up11, xK_12 hm, xN_12 hm, xQ_12 hm, mw_12, mw_up12, xK_13 hm, xN_13 hm, xQ_13 hm, mw_13, mw_up13, xK_14 hm, xN_14 hm, xQ_14 hm, mw_14, mw_up14, xK_15 hm, xN_15 hm, xQ_15 hm, mw_15, mw_up15, xK_16 hm, xN_16 hm, xQ_16 hm, mw_16, mw_up16, xK_17 hm, xN_17 hm, xQ_17 hm, mw_17, mw_up17, xK_18 hm, xN_18 hm, xQ_18 hm, mw_18, mw_up18, xK_19 hm, xN_19 hm, xQ_19 hm, mw_19, mw_up19, xK_20 hm, xN_20 hm, xQ_20 hm, mw_20, mw_up20, xK_21 hm, xN_21 hm, xQ_21 hm, mw_21, mw_up21, xK_22 hm, xN_22 hm, xQ_22 hm, mw_22, mw_up22, xK_23 hm, xN_23 hm, xQ_23 hm, mw_23, mw_up23, xK_24 hm, xN_24 hm, xQ_24 hm, mw_24, mw_up24, xK_25 hm, xN_25 hm, xQ_25 hm, mw_25, mw_up25, xK_26 hm, xN_26 hm, xQ_26 hm, mw_26, mw_up26, xK_27 hm, xN_27 hm, xQ_27 hm, mw_27, mw_up27, xK_28 hm, xN_28 hm, xQ_28 hm, mw_28, mw_up28, xK_29 hm, xN_29 hm, xQ_29 hm, mw_29, mw_up29, xK_30 hm, xN_30 hm, xQ_30 hm, mw_30, mw_up30, xK_31 hm, xN_31 hm, xQ_31 hm, mw_31, mw_up31, xK_32 hm, xN_32 hm, xQ_32 hm, mw_32, mw_up32, xK_33 hm, xN_33 hm, xQ_33 hm, mw_33, mw_up33, xK_34 hm, xN_34 hm, xQ_34 hm, mw_34, mw_up34, xK_35 hm, xN_35 hm, xQ_35 hm, mw_35, mw_up35, xK_36 hm, xN_36 hm, xQ_36 hm, mw_36, mw_up36, xK_37 hm, xN_37 hm, xQ_37 hm, mw_37, mw_up37, h6, nI_leI (show T.2.2.2.2.1.length < 2 ^ 31 by omega) (show T.2.2.2.2.1.length < 2 ^ 31 by omega), Nat.le_refl])
    0 (0, sI S (mw I m G)) ⟨G, [], rfl, ⟨mQf.rf, hf⟩, by simp, fun q => by simp⟩ (Nat.zero_le _) kF (by unfold kF; omega)
  exact ⟨G', L', e1, q1, by omega, q3⟩
/-- small numbers -/
theorem x_fN1 (hm : mS S m) (hw : wf T) (hd : d < 4) (hG : mT G T) (hk : mTk G T.2.1) {L : List (Nat × Nat)} (hf : mFd G T.2.1 T.2.2.2.2.1 (T.2.2.2.2.2.2 d) L) (hL : L.length < 2800) {j : Nat} (hj : j < (tsO T.2.1).length) :
    ∃ G' L', f_X10_findsAll_b190 m (nI d) (nI j) (sI S (mw I m G)) = some (.inl (nI (j + 1), sI S (mw I m G'))) ∧ fA G G' T d L' ∧ nx L L' (j, 20) (cnT T d j 20) := by
  have ht := hw.2.1
  have hl := (tsO_wT ht).1
  have hru := hw.2.2.2.2.2.2.1.1
  obtain ⟨a1, a2, a3, a4, a5, a6⟩ := id hG
  have hD := a6 d hd
  have hwk := (hw.2.2.2.2.2.2.2.2.2.2 d hd).1
  have hcn := cn_num (d := d) hw hj
  have hm9 : mI9 T.2.2.2.2.1 20 = 1 := m9_ge (by omega)
  have hrk : rk T.2.2.2.2.1 (T.2.2.2.2.2.2 d).1 20 = 1 := by
    unfold rk
    rw [List.getElem?_eq_none (by omega)]
    rfl
  rw [hm9] at hcn
  have hb := tk_b hj
  obtain ⟨G', e9, e10, e11⟩ := x_finds (S := S) (I := I) (j := j) (r := 20) hm hk ht hd hD hwk hf hL (by omega) (by omega) (by rw [hm9]; omega)
  rw [hm9, hrk] at e9
  rw [hm9] at e11
  rw [show j + 1 - 1 = j by omega] at e9 e11 hcn
  cases hW : tW (tsO T.2.1) j with
  | true =>
    refine ⟨G, L, ?_, ⟨mQf.rf, hf⟩, nx.no (fun z => ?_)⟩
    · unfold f_X10_findsAll_b190
      simp only [↓reduceIte, kK_sI, kQ_sI, kN_sI, kI_sI, wI_sI, Option.bind_some, lt, mw_0, mw_up0, xK_0 hm, xK_1 hm, xN_1 hm, xQ_1 hm, mw_1, mw_up1, xK_2 hm, xN_2 hm, xQ_2 hm, mw_2, mw_up2, xK_3 hm, xN_3 hm, xQ_3 hm, mw_3, mw_up3, xK_4 hm, xN_4 hm, xQ_4 hm, mw_4, mw_up4, xK_5 hm, xN_5 hm, xQ_5 hm, mw_5, mw_up5, xK_6 hm, xN_6 hm, xQ_6 hm, mw_6, mw_up6, xK_7 hm, xN_7 hm, xQ_7 hm, mw_7, mw_up7, xK_8 hm, xN_8 hm, xQ_8 hm, mw_8, mw_up8, xK_9 hm, xN_9 hm, xQ_9 hm, mw_9, mw_up9, xK_10 hm, xN_10 hm, xQ_10 hm, mw_10, mw_up10, xK_11 hm, xN_11 hm, xQ_11 hm, mw_11, mw_up11, xK_12 hm, xN_12 hm, xQ_12 hm, mw_12, mw_up12, xK_13 hm, xN_13 hm, xQ_13 hm, mw_13, mw_up13, xK_14 hm, xN_14 hm, xQ_14 hm, mw_14, mw_up14, xK_15 hm, xN_15 hm, xQ_15 hm, mw_15, mw_up15, xK_16 hm, xN_16 hm, xQ_16 hm, mw_16, mw_up16, xK_17 hm, xN_17 hm, xQ_17 hm, mw_17, mw_up17, xK_18 hm, xN_18 hm, xQ_18 hm, mw_18, mw_up18, xK_19 hm, xN_19 hm, xQ_19 hm, mw_19, mw_up19, xK_20 hm, xN_20 hm, xQ_20 hm, mw_20, mw_up20, xK_21 hm, xN_21 hm, xQ_21 hm, mw_21, mw_up21, xK_22 hm, xN_22 hm, xQ_22 hm, mw_22, mw_up22, xK_23 hm, xN_23 hm, xQ_23 hm, mw_23, mw_up23, xK_24 hm, xN_24 hm, xQ_24 hm, mw_24, mw_up24, xK_25 hm, xN_25 hm, xQ_25 hm, mw_25, mw_up25, xK_26 hm, xN_26 hm, xQ_26 hm, mw_26, mw_up26, xK_27 hm, xN_27 hm, xQ_27 hm, mw_27, mw_up27, xK_28 hm, xN_28 hm, xQ_28 hm, mw_28, mw_up28, xK_29 hm, xN_29 hm, xQ_29 hm, mw_29, mw_up29, xK_30 hm, xN_30 hm, xQ_30 hm, mw_30, mw_up30, xK_31 hm, xN_31 hm, xQ_31 hm, mw_31, mw_up31, xK_32 hm, xN_32 hm, xQ_32 hm, mw_32, mw_up32, xK_33 hm, xN_33 hm, xQ_33 hm, mw_33, mw_up33, xK_34 hm, xN_34 hm, xQ_34 hm, mw_34, mw_up34, xK_35 hm, xN_35 hm, xQ_35 hm, mw_35, mw_up35, xK_36 hm, xN_36 hm, xQ_36 hm, mw_36, mw_up36, xK_37 hm, xN_37 hm, xQ_37 hm, mw_37, mw_up37, nI_clamp (show j < 2 ^ 31 by omega), bd2 (show j < 160 by omega) (show j < 2 ^ 31 by omega), not_false_eq_true, hk.1, nI_leI (show (tsO T.2.1).length < 2 ^ 31 by omega) (show j < 2 ^ 31 by omega), if_neg (show ¬ (tsO T.2.1).length ≤ j by omega), (hk.2.1 _ hj).2.2, hW, bi_eq0, Bool.true_eq_false, nI_1]
    · have := (hcn.mp z).1.1
      rw [hW] at this
      cases this
  | false =>
    obtain ⟨n, e1, hn⟩ := x_value (S := S) (I := I) hm a2 hk ht hj hW
    have hn9 : n < 10000 := by unfold vR at hn; omega
    have hlim := hwk.2.2.1
    have hE : f_X10_findsAll_b190 m (nI d) (nI j) (sI S (mw I m G)) = if tQ (tsO T.2.1) j = false ∧ tV (tsO T.2.1) j < (T.2.2.2.2.2.2 d).2.2.1 then some (.inl (nI (j + 1), sI S (mw I m G'))) else some (.inl (nI (j + 1), sI S (mw I m G))) := by
      unfold f_X10_findsAll_b190
      simp only [↓reduceIte, kK_sI, kQ_sI, kN_sI, kI_sI, wI_sI, Option.bind_some, lt, mw_0, mw_up0, xK_0 hm, xK_1 hm, xN_1 hm, xQ_1 hm, mw_1, mw_up1, xK_2 hm, xN_2 hm, xQ_2 hm, mw_2, mw_up2, xK_3 hm, xN_3 hm, xQ_3 hm, mw_3, mw_up3, xK_4 hm, xN_4 hm, xQ_4 hm, mw_4, mw_up4, xK_5 hm, xN_5 hm, xQ_5 hm, mw_5, mw_up5, xK_6 hm, xN_6 hm, xQ_6 hm, mw_6, mw_up6, xK_7 hm, xN_7 hm, xQ_7 hm, mw_7, mw_up7, xK_8 hm, xN_8 hm, xQ_8 hm, mw_8, mw_up8, xK_9 hm, xN_9 hm, xQ_9 hm, mw_9, mw_up9, xK_10 hm, xN_10 hm, xQ_10 hm, mw_10, mw_up10, xK_11 hm, xN_11 hm, xQ_11 hm, mw_11, mw_up11, xK_12 hm, xN_12 hm, xQ_12 hm, mw_12, mw_up12, xK_13 hm, xN_13 hm, xQ_13 hm, mw_13, mw_up13, xK_14 hm, xN_14 hm, xQ_14 hm, mw_14, mw_up14, xK_15 hm, xN_15 hm, xQ_15 hm, mw_15, mw_up15, xK_16 hm, xN_16 hm, xQ_16 hm, mw_16, mw_up16, xK_17 hm, xN_17 hm, xQ_17 hm, mw_17, mw_up17, xK_18 hm, xN_18 hm, xQ_18 hm, mw_18, mw_up18, xK_19 hm, xN_19 hm, xQ_19 hm, mw_19, mw_up19, xK_20 hm, xN_20 hm, xQ_20 hm, mw_20, mw_up20, xK_21 hm, xN_21 hm, xQ_21 hm, mw_21, mw_up21, xK_22 hm, xN_22 hm, xQ_22 hm, mw_22, mw_up22, xK_23 hm, xN_23 hm, xQ_23 hm, mw_23, mw_up23, xK_24 hm, xN_24 hm, xQ_24 hm, mw_24, mw_up24, xK_25 hm, xN_25 hm, xQ_25 hm, mw_25, mw_up25, xK_26 hm, xN_26 hm, xQ_26 hm, mw_26, mw_up26, xK_27 hm, xN_27 hm, xQ_27 hm, mw_27, mw_up27, xK_28 hm, xN_28 hm, xQ_28 hm, mw_28, mw_up28, xK_29 hm, xN_29 hm, xQ_29 hm, mw_29, mw_up29, xK_30 hm, xN_30 hm, xQ_30 hm, mw_30, mw_up30, xK_31 hm, xN_31 hm, xQ_31 hm, mw_31, mw_up31, xK_32 hm, xN_32 hm, xQ_32 hm, mw_32, mw_up32, xK_33 hm, xN_33 hm, xQ_33 hm, mw_33, mw_up33, xK_34 hm, xN_34 hm, xQ_34 hm, mw_34, mw_up34, xK_35 hm, xN_35 hm, xQ_35 hm, mw_35, mw_up35, xK_36 hm, xN_36 hm, xQ_36 hm, mw_36, mw_up36, xK_37 hm, xN_37 hm, xQ_37 hm, mw_37, mw_up37, nI_clamp (show j < 2 ^ 31 by omega), bd2 (show j < 160 by omega) (show j < 2 ^ 31 by omega), not_false_eq_true, hk.1, nI_leI (show (tsO T.2.1).length < 2 ^ 31 by omega) (show j < 2 ^ 31 by omega), if_neg (show ¬ (tsO T.2.1).length ≤ j by omega), (hk.2.1 _ hj).2.2, hW, bi_eq0, e1, nI_clamp (show d < 2 ^ 31 by omega), bd2 (show d < 4 by omega) (show d < 2 ^ 31 by omega), hD.2.2.1, nI_leI (show (T.2.2.2.2.2.2 d).2.2.1 < 2 ^ 31 by omega) (show n < 2 ^ 31 by omega), (hk.2.1 _ hj).1, (hk.2.1 _ hj).2.1, x_anyT hm hk ht hj, show (20 : Int32) = nI 20 from rfl, show (1 : Int32) = nI 1 from rfl, e9, show nI j + nI 1 = nI (j + 1) from nI_1 _]
      by_cases e2 : (T.2.2.2.2.2.2 d).2.2.1 ≤ n
      · rw [if_pos e2, if_neg (fun z => by unfold vR at hn; omega)]
      · rw [if_neg e2]
        have h3 : tV (tsO T.2.1) j < (T.2.2.2.2.2.2 d).2.2.1 := by unfold vR at hn; omega
        cases e4 : tQ (tsO T.2.1) j with
        | false => rw [if_pos rfl, if_pos ⟨rfl, h3⟩]
        | true => rw [if_neg (by decide), if_neg (fun z => by cases z.1)]
    rw [hE]
    by_cases eF : tQ (tsO T.2.1) j = false ∧ tV (tsO T.2.1) j < (T.2.2.2.2.2.2 d).2.2.1
    · rw [if_pos eF]
      refine ⟨G', _, rfl, ⟨e10, e11⟩, ?_⟩
      by_cases e3 : (20, tF (tsO T.2.1) j, tE (tsO T.2.1) j - tF (tsO T.2.1) j) ∈ (T.2.2.2.2.2.2 d).2.2.2
      · rw [if_pos e3]
        exact nx.no (fun z => (hcn.mp z).2 e3)
      · rw [if_neg e3]
        exact nx.app (hcn.mpr ⟨⟨hW, eF⟩, e3⟩)
    · rw [if_neg eF]
      exact ⟨G, L, rfl, ⟨mQf.rf, hf⟩, nx.no (fun z => eF (hcn.mp z).1.2)⟩
theorem x_fN (hm : mS S m) (hw : wf T) (hd : d < 4) (hG : mT G T) (hk : mTk G T.2.1) {L : List (Nat × Nat)} (hf : mFd G T.2.1 T.2.2.2.2.1 (T.2.2.2.2.2.2 d) L) (hL : L.length ≤ 1920) :
    ∃ G' L', (iter (fun (v : Int32 × PS) => f_X10_findsAll_b190 m (nI d) v.1 v.2) kF (0, sI S (mw I m G))) = some (sI S (mw I m G')) ∧ fA G G' T d L' ∧ L'.length ≤ 2080 ∧ ∀ q, q ∈ L' ↔ q ∈ L ∨ (q.2 = 20 ∧ q.1 < (tsO T.2.1).length ∧ cnT T d q.1 q.2) := by
  have hl := (tsO_wT hw.2.1).1
  obtain ⟨z, e1, G', L', rfl, q1, q2, q3⟩ := it_up (b := fun (v : Int32 × PS) => f_X10_findsAll_b190 m (nI d) v.1 v.2) (tsO T.2.1).length
    (P := fun k s => ∃ G' L', s = (nI k, sI S (mw I m G')) ∧ fA G G' T d L' ∧ L'.length ≤ L.length + k ∧ ∀ q, q ∈ L' ↔ q ∈ L ∨ (q.2 = 20 ∧ q.1 < k ∧ cnT T d q.1 q.2))
    (Q := fun z => ∃ G' L', z = sI S (mw I m G') ∧ fA G G' T d L' ∧ L'.length ≤ L.length + (tsO T.2.1).length ∧ ∀ q, q ∈ L' ↔ q ∈ L ∨ (q.2 = 20 ∧ q.1 < (tsO T.2.1).length ∧ cnT T d q.1 q.2))
    (fun k s hk1 ⟨G', L', e, f1, f2, f3⟩ => by
      subst e
      obtain ⟨G2, L2, e2, g1, g2⟩ := x_fN1 (S := S) (I := I) hm hw hd (f1.mt hG) (f1.k hk) f1.2 (by omega) hk1
      refine Or.inl ⟨_, e2, G2, L2, rfl, f1.tr g1, by have := g2.1; omega, fun q => ?_⟩
      rw [g2.2, f3]
      constructor
      · rintro ((z | z) | z)
        · exact Or.inl z
        · exact Or.inr ⟨z.1, by omega, z.2.2⟩
        · rw [z.1]; exact Or.inr ⟨rfl, by simp, z.2⟩
      · rintro (z | z)
        · exact Or.inl (Or.inl z)
        · by_cases e : q.1 = k
          · exact Or.inr ⟨Prod.ext e z.1, by have := z.2.2; rw [e, z.1] at this; exact this⟩
          · exact Or.inl (Or.inr ⟨z.1, by omega, z.2.2⟩))
    (fun s ⟨G', L', e, f1, f2, f3⟩ => by
      subst e
      refine ⟨_, ?_, G', L', rfl, f1, f2, f3⟩
      have h6 := (f1.k hk).1
      simp only
      unfold f_X10_findsAll_b190
      simp only [↓reduceIte, kK_sI, kQ_sI, kN_sI, kI_sI, wI_sI, Option.bind_some, lt, mw_0, mw_up0, xK_0 hm, xK_1 hm, xN_1 hm, xQ_1 hm, mw_1, mw_up1, xK_2 hm, xN_2 hm, xQ_2 hm, mw_2, mw_up2, xK_3 hm, xN_3 hm, xQ_3 hm, mw_3, mw_up3, xK_4 hm, xN_4 hm, xQ_4 hm, mw_4, mw_up4, xK_5 hm, xN_5 hm, xQ_5 hm, mw_5, mw_up5, xK_6 hm, xN_6 hm, xQ_6 hm, mw_6, mw_up6, xK_7 hm, xN_7 hm, xQ_7 hm, mw_7, mw_up7, xK_8 hm, xN_8 hm, xQ_8 hm, mw_8, mw_up8, xK_9 hm, xN_9 hm, xQ_9 hm, mw_9, mw_up9, xK_10 hm, xN_10 hm, xQ_10 hm, mw_10, mw_up10, xK_11 hm, xN_11 hm, xQ_11 hm, mw_11, mw_up11, xK_12 hm, xN_12 hm, xQ_12 hm, mw_12, mw_up12, xK_13 hm, xN_13 hm, xQ_13 hm, mw_13, mw_up13, xK_14 hm, xN_14 hm, xQ_14 hm, mw_14, mw_up14, xK_15 hm, xN_15 hm, xQ_15 hm, mw_15, mw_up15, xK_16 hm, xN_16 hm, xQ_16 hm, mw_16, mw_up16, xK_17 hm, xN_17 hm, xQ_17 hm, mw_17, mw_up17, xK_18 hm, xN_18 hm, xQ_18 hm, mw_18, mw_up18, xK_19 hm, xN_19 hm, xQ_19 hm, mw_19, mw_up19, xK_20 hm, xN_20 hm, xQ_20 hm, mw_20, mw_up20, xK_21 hm, xN_21 hm, xQ_21 hm, mw_21, mw_up21, xK_22 hm, xN_22 hm, xQ_22 hm, mw_22, mw_up22, xK_23 hm, xN_23 hm, xQ_23 hm, mw_23, mw_up23, xK_24 hm, xN_24 hm, xQ_24 hm, mw_24, mw_up24, xK_25 hm, xN_25 hm, xQ_25 hm, mw_25, mw_up25, xK_26 hm, xN_26 hm, xQ_26 hm, mw_26, mw_up26, xK_27 hm, xN_27 hm, xQ_27 hm, mw_27, mw_up27, xK_28 hm, xN_28 hm, xQ_28 hm, mw_28, mw_up28, xK_29 hm, xN_29 hm, xQ_29 hm, mw_29, mw_up29, xK_30 hm, xN_30 hm, xQ_30 hm, mw_30, mw_up30, xK_31 hm, xN_31 hm, xQ_31 hm, mw_31, mw_up31, xK_32 hm, xN_32 hm, xQ_32 hm, mw_32, mw_up32, xK_33 hm, xN_33 hm, xQ_33 hm, mw_33, mw_up33, xK_34 hm, xN_34 hm, xQ_34 hm, mw_34, mw_up34, xK_35 hm, xN_35 hm, xQ_35 hm, mw_35, mw_up35, xK_36 hm, xN_36 hm, xQ_36 hm, mw_36, mw_up36, xK_37 hm, xN_37 hm, xQ_37 hm, mw_37, mw_up37, h6, nI_leI (show (tsO T.2.1).length < 2 ^ 31 by omega) (show (tsO T.2.1).length < 2 ^ 31 by omega), Nat.le_refl])
    0 (0, sI S (mw I m G)) ⟨G, L, rfl, ⟨mQf.rf, hf⟩, by omega, fun q => ⟨fun z => Or.inl z, fun z => z.elim id (fun y => absurd y.2.1 (by omega))⟩⟩ (Nat.zero_le _) kF (by unfold kF; omega)
  exact ⟨G', L', e1, q1, by omega, q3⟩
end
