/-! a pattern is read, in the model -/
def sK (G : Nat → Nat → Int32) (nr : Nat) (L : List Iv) : Prop := ∀ (i : Nat) (it : Iv), L[i]? = some it → G 7 (nr * 3 + i) = nI (sor it) ∧ wA G 5 6 (nr * 3 + i) it.2.2
def fK (G G' : Nat → Nat → Int32) (nr : Nat) : Prop := ∀ c j, ¬ (c = 4 ∧ j = nr) → ¬ (c = 5 ∧ nr * 60 ≤ j) → ¬ ((c = 6 ∨ c = 7) ∧ nr * 3 ≤ j) → G' c j = G c j
section
variable {S : PS} {I G : Nat → Nat → Int32} {m : Nat} {ty : List Int32}
theorem x_pat (hm : mS S m) (hy : mTy G ty) (h20 : ty.length ≤ 20) (hty : ∀ j, j < ty.length → tyS (la ty j) = true) {nr : Nat} (h6 : G 0 6 = nI nr) (hnr : nr ≤ 12) : ∃ G', f_X10_isPattern (sI S (mw I m G)) m = some (sI S (mw I m G'), bi (isPat ty)) ∧ fK G G' nr ∧ (isPat ty = true → nr < 12 → G' 4 nr = nI (iK ty (ty.length + 1)).1.length ∧ sK G' nr (iK ty (ty.length + 1)).1) := by
  have run : 0 < ty.length → ∃ z, iter (fun (v : Int32 × Int32 × Int32 × Int32 × PS) => f_X10_isPattern_b20 m v.1 v.2.1 v.2.2.1 v.2.2.2.1 v.2.2.2.2) kF (0, 0, 1, 1, sI S (mw I m G)) = some z ∧ ∃ G', z = (bi (isPat ty), sI S (mw I m G')) ∧ fK G G' nr ∧ (isPat ty = true → nr < 12 → G' 4 nr = nI (iK ty (ty.length + 1)).1.length ∧ sK G' nr (iK ty (ty.length + 1)).1) := fun hpos => by
    refine it_gen (b := fun (v : Int32 × Int32 × Int32 × Int32 × PS) => f_X10_isPattern_b20 m v.1 v.2.1 v.2.2.1 v.2.2.2.1 v.2.2.2.2)
      (P := fun q s => (∃ f k G', q = ty.length - f + 1 ∧ s = (nI f, nI k, 1, 1, sI S (mw I m G')) ∧ f < ty.length ∧ k ≤ 3 ∧ pK ty f = some (k, f) ∧ fK G G' nr ∧ (nr < 12 → sK G' nr (iK ty f).1)) ∨ (∃ u v w G', s = (u, v, 0, w, sI S (mw I m G')) ∧ isPat ty = false ∧ fK G G' nr) ∨ (∃ u v G', s = (u, v, 1, 0, sI S (mw I m G')) ∧ isPat ty = true ∧ fK G G' nr ∧ (nr < 12 → G' 4 nr = nI (iK ty (ty.length + 1)).1.length ∧ sK G' nr (iK ty (ty.length + 1)).1)))
      (Q := fun z => ∃ G', z = (bi (isPat ty), sI S (mw I m G')) ∧ fK G G' nr ∧ (isPat ty = true → nr < 12 → G' 4 nr = nI (iK ty (ty.length + 1)).1.length ∧ sK G' nr (iK ty (ty.length + 1)).1))
      (fun q s hs => ?_) kF (ty.length + 1) _ (by unfold kF; omega) (Or.inl ⟨0, 0, G, by omega, rfl, hpos, by omega, rfl, fun _ _ _ _ _ => rfl, fun _ i it hi => by simp [iK] at hi⟩)
    rcases hs with ⟨f, k, G', rfl, rfl, hf, hk, hp, hfr, hst⟩ | ⟨u, v, w, G', rfl, hp, hfr⟩ | ⟨u, v, G', rfl, hp, hfr, hst⟩
    · have hy' : mTy G' ty := hy.ext (hfr _ _ (by omega) (by omega) (by omega)) (fun j _ => hfr _ _ (by omega) (by omega) (by omega)) h20
      obtain ⟨n, G2, l1, l2, l3, e1, s1, s2⟩ := x_turn (I := I) hm hy' h20 hty ((hfr 0 6 (by omega) (by omega) (by omega)).trans h6) hnr hk hf
      have hfr2 : fK G G2 nr := fun c j h1 h2 h3 => (s2 c j (by
        by_cases h9 : k < 3
        · exact Or.inl ⟨h1, by omega, by omega⟩
        · exact Or.inr (fun z => h9 z.1))).trans (hfr c j h1 h2 h3)
      by_cases hg : k < 3 ∧ f < pEn ty f n ∧ (pEn ty f n = ty.length ∨ (la ty (pEn ty f n) = 45 ∧ pEn ty f n + 1 < ty.length))
      · obtain ⟨g1, g2⟩ := p_good hp hf l1 l2 hg.2
        have hlen : (iK ty f).1.length = k := (iK_pK f (k, f) hp).2
        have hst2 : nr < 12 → sK G2 nr (iK ty (pEn ty f n + 1)).1 := fun h12 => by
          rw [g2]
          intro i it hi
          have hi : ((iK ty f).1 ++ [(pNu ty f n, pSt ty f n, sb ty f (f + n))])[i]? = some it := hi
          by_cases e9 : i < k
          · rw [List.getElem?_append_left (by omega)] at hi
            obtain ⟨y1, y2, y3⟩ := hst h12 i it hi
            have hl20 : it.2.2.length ≤ 20 := (iK_it h20 f (k, f) (by omega) hp it (List.mem_of_getElem? hi)).1
            exact ⟨(s2 _ _ (Or.inl ⟨by omega, by omega, by omega⟩)).trans y1, (s2 _ _ (Or.inl ⟨by omega, by omega, by omega⟩)).trans y2, fun j hj => (s2 _ _ (Or.inl ⟨by omega, by omega, by omega⟩)).trans (y3 j hj)⟩
          · have hik : i = k := by
              have := (List.getElem?_eq_some_iff.mp hi).1
              simp at this; omega
            rw [List.getElem?_append_right (by omega), hlen, hik, Nat.sub_self] at hi
            cases hi
            rw [hik]
            exact (s1 hg h12).2
        rw [decide_eq_true hg] at e1
        by_cases hend : pEn ty f n = ty.length
        · rw [decide_eq_false (by omega)] at e1
          have hpat : isPat ty = true := by
            unfold isPat
            rw [hend] at g1
            rw [g1]
            exact decide_eq_true (by simp only; omega)
          refine Or.inl ⟨_, 0, e1, by omega, Or.inr (Or.inr ⟨_, _, G2, rfl, hpat, hfr2, fun h12 => ?_⟩)⟩
          have hst3 := hst2 h12
          rw [hend] at g2 hst3
          refine ⟨?_, hst3⟩
          rw [g2, (s1 hg h12).1]
          show _ = nI ((iK ty f).1 ++ [_]).length
          rw [List.length_append, hlen]; rfl
        · have h9 : pEn ty f n + 1 < ty.length := by
            rcases hg.2.2 with h | h
            · exact absurd h hend
            · exact h.2
          rw [decide_eq_true (by omega)] at e1
          exact Or.inl ⟨_, ty.length - (pEn ty f n + 1) + 1, e1, by omega, Or.inl ⟨_, _, G2, rfl, rfl, h9, by omega, g1, hfr2, hst2⟩⟩
      · rw [decide_eq_false hg] at e1
        exact Or.inl ⟨_, 0, e1, by omega, Or.inr (Or.inl ⟨_, _, _, G2, rfl, p_bad hp hf l1 l2 l3 hg, hfr2⟩)⟩
    · refine Or.inr ⟨(0, sI S (mw I m G')), ?_, G', by rw [hp]; rfl, hfr, fun z => by rw [hp] at z; cases z⟩
      show f_X10_isPattern_b20 m u v 0 w (sI S (mw I m G')) = _
      unfold f_X10_isPattern_b20
      rw [if_pos rfl]
    · refine Or.inr ⟨(1, sI S (mw I m G')), ?_, G', by rw [hp]; rfl, hfr, fun _ => hst⟩
      show f_X10_isPattern_b20 m u v 1 0 (sI S (mw I m G')) = _
      unfold f_X10_isPattern_b20
      rw [if_neg (by decide), if_pos rfl]
  unfold f_X10_isPattern
  simp only [kK_sI, kQ_sI, kN_sI, kI_sI, wI_sI, Option.bind_some, lt, mw_0, mw_up0, xK_0 hm, xK_1 hm, xN_1 hm, xQ_1 hm, mw_1, mw_up1, xK_2 hm, xN_2 hm, xQ_2 hm, mw_2, mw_up2, xK_3 hm, xN_3 hm, xQ_3 hm, mw_3, mw_up3, xK_4 hm, xN_4 hm, xQ_4 hm, mw_4, mw_up4, xK_5 hm, xN_5 hm, xQ_5 hm, mw_5, mw_up5, xK_6 hm, xN_6 hm, xQ_6 hm, mw_6, mw_up6, xK_7 hm, xN_7 hm, xQ_7 hm, mw_7, mw_up7, xK_8 hm, xN_8 hm, xQ_8 hm, mw_8, mw_up8, xK_9 hm, xN_9 hm, xQ_9 hm, mw_9, mw_up9, xK_10 hm, xN_10 hm, xQ_10 hm, mw_10, mw_up10, xK_11 hm, xN_11 hm, xQ_11 hm, mw_11, mw_up11, xK_12 hm, xN_12 hm, xQ_12 hm, mw_12, mw_up12, xK_13 hm, xN_13 hm, xQ_13 hm, mw_13, mw_up13, xK_14 hm, xN_14 hm, xQ_14 hm, mw_14, mw_up14, xK_15 hm, xN_15 hm, xQ_15 hm, mw_15, mw_up15, xK_16 hm, xN_16 hm, xQ_16 hm, mw_16, mw_up16, xK_17 hm, xN_17 hm, xQ_17 hm, mw_17, mw_up17, xK_18 hm, xN_18 hm, xQ_18 hm, mw_18, mw_up18, xK_19 hm, xN_19 hm, xQ_19 hm, mw_19, mw_up19, xK_20 hm, xN_20 hm, xQ_20 hm, mw_20, mw_up20, xK_21 hm, xN_21 hm, xQ_21 hm, mw_21, mw_up21, xK_22 hm, xN_22 hm, xQ_22 hm, mw_22, mw_up22, xK_23 hm, xN_23 hm, xQ_23 hm, mw_23, mw_up23, xK_24 hm, xN_24 hm, xQ_24 hm, mw_24, mw_up24, xK_25 hm, xN_25 hm, xQ_25 hm, mw_25, mw_up25, xK_26 hm, xN_26 hm, xQ_26 hm, mw_26, mw_up26, xK_27 hm, xN_27 hm, xQ_27 hm, mw_27, mw_up27, xK_28 hm, xN_28 hm, xQ_28 hm, mw_28, mw_up28, xK_29 hm, xN_29 hm, xQ_29 hm, mw_29, mw_up29, xK_30 hm, xN_30 hm, xQ_30 hm, mw_30, mw_up30, xK_31 hm, xN_31 hm, xQ_31 hm, mw_31, mw_up31, xK_32 hm, xN_32 hm, xQ_32 hm, mw_32, mw_up32, xK_33 hm, xN_33 hm, xQ_33 hm, mw_33, mw_up33, xK_34 hm, xN_34 hm, xQ_34 hm, mw_34, mw_up34, xK_35 hm, xN_35 hm, xQ_35 hm, mw_35, mw_up35, xK_36 hm, xN_36 hm, xQ_36 hm, mw_36, mw_up36, xK_37 hm, xN_37 hm, xQ_37 hm, mw_37, mw_up37, if_true, hy.1, nI_le0 (show ty.length < 2 ^ 31 by omega)]
  by_cases h0 : ty.length = 0
  · rw [if_pos h0]
    have hpat : isPat ty = false := by
      unfold isPat
      have : pK ty (ty.length + 1) = none := by
        rw [h0]
        simp only [pK]
        rw [if_pos (show sepB ty 0 = true by unfold sepB; rw [decide_eq_true h0.symm]; rfl), if_neg (fun z => absurd (itB_lt z) (Nat.lt_irrefl _))]
      rw [this]
    have e1 : iter (fun (v : Int32 × Int32 × Int32 × Int32 × PS) => f_X10_isPattern_b20 m v.1 v.2.1 v.2.2.1 v.2.2.2.1 v.2.2.2.2) kF (0, 0, 0, 1, sI S (mw I m G)) = some (0, sI S (mw I m G)) := by
      have hb : f_X10_isPattern_b20 m 0 0 0 1 (sI S (mw I m G)) = some (.inr (0, sI S (mw I m G))) := by unfold f_X10_isPattern_b20; rw [if_pos rfl]
      show ((f_X10_isPattern_b20 m 0 0 0 1 (sI S (mw I m G))).bind fun o => _) = _
      rw [hb]
      rfl
    rw [e1]
    exact ⟨G, by rw [hpat]; rfl, fun _ _ _ _ _ => rfl, fun z => by rw [hpat] at z; cases z⟩
  · rw [if_neg h0]
    obtain ⟨z, e1, G', rfl, h1, h2⟩ := run (by omega)
    rw [e1]
    refine ⟨G', ?_, h1, h2⟩
    cases isPat ty <;> rfl
end
