/-! what is ignored follows an edit, in the model -/
def eN (G : Nat → Nat → Int32) (d i : Nat) (g : Gn) : Prop := G 23 (d * 20 + i) = nI g.1 ∧ G 24 (d * 20 + i) = nI g.2.1 ∧ G 25 (d * 20 + i) = nI (g.2.1 + g.2.2)
def w3 (G : Nat → Nat → Int32) (j : Nat) (g : Gn) : Nat → Nat → Int32 := uF (uF (uF G 23 j (nI g.1)) 24 j (nI g.2.1)) 25 j (nI (g.2.1 + g.2.2))
theorem w3_ne {G : Nat → Nat → Int32} {j : Nat} {g : Gn} {c i : Nat} (h : (c < 23 ∨ 25 < c) ∨ i ≠ j) : w3 G j g c i = G c i := by
  unfold w3
  rw [uF_ne (by omega), uF_ne (by omega), uF_ne (by omega)]
theorem w3_eN (G : Nat → Nat → Int32) (d i : Nat) (g : Gn) : eN (w3 G (d * 20 + i) g) d i g := by
  unfold w3 eN
  exact ⟨by rw [uF_ne (Or.inl (by decide)), uF_ne (Or.inl (by decide)), uF_eq], by rw [uF_ne (Or.inl (by decide)), uF_eq], uF_eq _ _ _ _⟩
section
variable {S : PS} {I G : Nat → Nat → Int32} {m : Nat}
theorem x_fbP (hm : mS S m) {d p i L n : Nat} {g : Gn} (hd : d < 4) (hp : p ≤ 1000) (hi : i < n) (hn : n ≤ 20) (hL : L ≤ i) (h22 : G 22 d = nI n) (he : eN G d i g) (hg : g.2.1 ≤ 1000 ∧ g.2.2 ≤ 1000) : f_X10_follows_b6 m (nI d) (nI p) 1 (nI L) (nI i) (sI S (mw I m G)) = match fP p g with
    | none => some (.inl (nI L, nI (i + 1), sI S (mw I m G)))
    | some g' => some (.inl (nI (L + 1), nI (i + 1), sI S (mw I m (w3 G (d * 20 + L) g')))) := by
  obtain ⟨e1, e2, e3⟩ := he
  obtain ⟨g1, g2⟩ := hg
  unfold f_X10_follows_b6
  simp only [kK_sI, kQ_sI, kN_sI, kI_sI, wI_sI, Option.bind_some, lt, mw_0, mw_up0, xK_0 hm, xK_1 hm, xN_1 hm, xQ_1 hm, mw_1, mw_up1, xK_2 hm, xN_2 hm, xQ_2 hm, mw_2, mw_up2, xK_3 hm, xN_3 hm, xQ_3 hm, mw_3, mw_up3, xK_4 hm, xN_4 hm, xQ_4 hm, mw_4, mw_up4, xK_5 hm, xN_5 hm, xQ_5 hm, mw_5, mw_up5, xK_6 hm, xN_6 hm, xQ_6 hm, mw_6, mw_up6, xK_7 hm, xN_7 hm, xQ_7 hm, mw_7, mw_up7, xK_8 hm, xN_8 hm, xQ_8 hm, mw_8, mw_up8, xK_9 hm, xN_9 hm, xQ_9 hm, mw_9, mw_up9, xK_10 hm, xN_10 hm, xQ_10 hm, mw_10, mw_up10, xK_11 hm, xN_11 hm, xQ_11 hm, mw_11, mw_up11, xK_12 hm, xN_12 hm, xQ_12 hm, mw_12, mw_up12, xK_13 hm, xN_13 hm, xQ_13 hm, mw_13, mw_up13, xK_14 hm, xN_14 hm, xQ_14 hm, mw_14, mw_up14, xK_15 hm, xN_15 hm, xQ_15 hm, mw_15, mw_up15, xK_16 hm, xN_16 hm, xQ_16 hm, mw_16, mw_up16, xK_17 hm, xN_17 hm, xQ_17 hm, mw_17, mw_up17, xK_18 hm, xN_18 hm, xQ_18 hm, mw_18, mw_up18, xK_19 hm, xN_19 hm, xQ_19 hm, mw_19, mw_up19, xK_20 hm, xN_20 hm, xQ_20 hm, mw_20, mw_up20, xK_21 hm, xN_21 hm, xQ_21 hm, mw_21, mw_up21, xK_22 hm, xN_22 hm, xQ_22 hm, mw_22, mw_up22, xK_23 hm, xN_23 hm, xQ_23 hm, mw_23, mw_up23, xK_24 hm, xN_24 hm, xQ_24 hm, mw_24, mw_up24, xK_25 hm, xN_25 hm, xQ_25 hm, mw_25, mw_up25, xK_26 hm, xN_26 hm, xQ_26 hm, mw_26, mw_up26, xK_27 hm, xN_27 hm, xQ_27 hm, mw_27, mw_up27, xK_28 hm, xN_28 hm, xQ_28 hm, mw_28, mw_up28, xK_29 hm, xN_29 hm, xQ_29 hm, mw_29, mw_up29, xK_30 hm, xN_30 hm, xQ_30 hm, mw_30, mw_up30, xK_31 hm, xN_31 hm, xQ_31 hm, mw_31, mw_up31, xK_32 hm, xN_32 hm, xQ_32 hm, mw_32, mw_up32, xK_33 hm, xN_33 hm, xQ_33 hm, mw_33, mw_up33, xK_34 hm, xN_34 hm, xQ_34 hm, mw_34, mw_up34, xK_35 hm, xN_35 hm, xQ_35 hm, mw_35, mw_up35, xK_36 hm, xN_36 hm, xQ_36 hm, mw_36, mw_up36, xK_37 hm, xN_37 hm, xQ_37 hm, mw_37, mw_up37, if_true, h22, bd2 hd (show d < 2 ^ 31 by omega), nI_clamp (show d < 2 ^ 31 by omega), not_false_eq_true, nI_leI (show n < 2 ^ 31 by omega) (show i < 2 ^ 31 by omega), if_neg (show ¬ n ≤ i by omega), x_mul20, nI_add, bd2 (show d * 20 + i < 80 by omega) (show d * 20 + i < 2 ^ 31 by omega), nI_clamp (show d * 20 + i < 2 ^ 31 by omega), bd2 (show d * 20 + L < 80 by omega) (show d * 20 + L < 2 ^ 31 by omega), nI_clamp (show d * 20 + L < 2 ^ 31 by omega), e1, e2, e3, show ¬ (1 : Int32) ≤ 0 by decide, if_false, nI_leI (show p < 2 ^ 31 by omega) (show g.2.1 < 2 ^ 31 by omega), nI_ltI (show g.2.1 < 2 ^ 31 by omega) (show p < 2 ^ 31 by omega), nI_leI (show g.2.1 + g.2.2 < 2 ^ 31 by omega) (show p < 2 ^ 31 by omega), nI_1, show ¬ (1 : Int32) = 0 by decide, show ∀ a, nI a + 0 = nI a from fun a => nI_add a 0]
  unfold fP
  by_cases h1 : p ≤ g.2.1
  · rw [if_pos h1, if_neg (by omega), if_pos h1]
    simp only [w3]
    rw [show g.2.1 + 1 + g.2.2 = g.2.1 + g.2.2 + 1 by omega]
  · rw [if_neg h1, if_neg h1]
    by_cases h2 : g.2.1 + g.2.2 ≤ p
    · rw [if_pos h2, if_pos (by omega), if_neg (by omega)]
      simp only [w3]
    · simp only [if_neg h2, if_pos (show g.2.1 < p by omega), if_pos (show p < g.2.1 + g.2.2 by omega)]
theorem x_fbT (hm : mS S m) {d p i L n : Nat} {g : Gn} (hd : d < 4) (hp : p ≤ 1000) (hi : i < n) (hn : n ≤ 20) (hL : L ≤ i) (h22 : G 22 d = nI n) (he : eN G d i g) (hg : g.2.1 ≤ 1000 ∧ g.2.2 ≤ 1000) : f_X10_follows_b6 m (nI d) (nI p) (-1) (nI L) (nI i) (sI S (mw I m G)) = match fT p g with
    | none => some (.inl (nI L, nI (i + 1), sI S (mw I m G)))
    | some g' => some (.inl (nI (L + 1), nI (i + 1), sI S (mw I m (w3 G (d * 20 + L) g')))) := by
  obtain ⟨e1, e2, e3⟩ := he
  obtain ⟨g1, g2⟩ := hg
  unfold f_X10_follows_b6
  simp only [kK_sI, kQ_sI, kN_sI, kI_sI, wI_sI, Option.bind_some, lt, mw_0, mw_up0, xK_0 hm, xK_1 hm, xN_1 hm, xQ_1 hm, mw_1, mw_up1, xK_2 hm, xN_2 hm, xQ_2 hm, mw_2, mw_up2, xK_3 hm, xN_3 hm, xQ_3 hm, mw_3, mw_up3, xK_4 hm, xN_4 hm, xQ_4 hm, mw_4, mw_up4, xK_5 hm, xN_5 hm, xQ_5 hm, mw_5, mw_up5, xK_6 hm, xN_6 hm, xQ_6 hm, mw_6, mw_up6, xK_7 hm, xN_7 hm, xQ_7 hm, mw_7, mw_up7, xK_8 hm, xN_8 hm, xQ_8 hm, mw_8, mw_up8, xK_9 hm, xN_9 hm, xQ_9 hm, mw_9, mw_up9, xK_10 hm, xN_10 hm, xQ_10 hm, mw_10, mw_up10, xK_11 hm, xN_11 hm, xQ_11 hm, mw_11, mw_up11, xK_12 hm, xN_12 hm, xQ_12 hm, mw_12, mw_up12, xK_13 hm, xN_13 hm, xQ_13 hm, mw_13, mw_up13, xK_14 hm, xN_14 hm, xQ_14 hm, mw_14, mw_up14, xK_15 hm, xN_15 hm, xQ_15 hm, mw_15, mw_up15, xK_16 hm, xN_16 hm, xQ_16 hm, mw_16, mw_up16, xK_17 hm, xN_17 hm, xQ_17 hm, mw_17, mw_up17, xK_18 hm, xN_18 hm, xQ_18 hm, mw_18, mw_up18, xK_19 hm, xN_19 hm, xQ_19 hm, mw_19, mw_up19, xK_20 hm, xN_20 hm, xQ_20 hm, mw_20, mw_up20, xK_21 hm, xN_21 hm, xQ_21 hm, mw_21, mw_up21, xK_22 hm, xN_22 hm, xQ_22 hm, mw_22, mw_up22, xK_23 hm, xN_23 hm, xQ_23 hm, mw_23, mw_up23, xK_24 hm, xN_24 hm, xQ_24 hm, mw_24, mw_up24, xK_25 hm, xN_25 hm, xQ_25 hm, mw_25, mw_up25, xK_26 hm, xN_26 hm, xQ_26 hm, mw_26, mw_up26, xK_27 hm, xN_27 hm, xQ_27 hm, mw_27, mw_up27, xK_28 hm, xN_28 hm, xQ_28 hm, mw_28, mw_up28, xK_29 hm, xN_29 hm, xQ_29 hm, mw_29, mw_up29, xK_30 hm, xN_30 hm, xQ_30 hm, mw_30, mw_up30, xK_31 hm, xN_31 hm, xQ_31 hm, mw_31, mw_up31, xK_32 hm, xN_32 hm, xQ_32 hm, mw_32, mw_up32, xK_33 hm, xN_33 hm, xQ_33 hm, mw_33, mw_up33, xK_34 hm, xN_34 hm, xQ_34 hm, mw_34, mw_up34, xK_35 hm, xN_35 hm, xQ_35 hm, mw_35, mw_up35, xK_36 hm, xN_36 hm, xQ_36 hm, mw_36, mw_up36, xK_37 hm, xN_37 hm, xQ_37 hm, mw_37, mw_up37, if_true, h22, bd2 hd (show d < 2 ^ 31 by omega), nI_clamp (show d < 2 ^ 31 by omega), not_false_eq_true, nI_leI (show n < 2 ^ 31 by omega) (show i < 2 ^ 31 by omega), if_neg (show ¬ n ≤ i by omega), x_mul20, nI_add, bd2 (show d * 20 + i < 80 by omega) (show d * 20 + i < 2 ^ 31 by omega), nI_clamp (show d * 20 + i < 2 ^ 31 by omega), bd2 (show d * 20 + L < 80 by omega) (show d * 20 + L < 2 ^ 31 by omega), nI_clamp (show d * 20 + L < 2 ^ 31 by omega), e1, e2, e3, show (-1 : Int32) ≤ 0 by decide, if_true, nI_ltI (show p < 2 ^ 31 by omega) (show g.2.1 < 2 ^ 31 by omega), nI_leI (show g.2.1 < 2 ^ 31 by omega) (show p < 2 ^ 31 by omega), nI_leI (show g.2.1 + g.2.2 < 2 ^ 31 by omega) (show p < 2 ^ 31 by omega), nI_1, show ¬ (1 : Int32) = 0 by decide, if_false, show ∀ a, nI a + 0 = nI a from fun a => nI_add a 0]
  unfold fT
  by_cases h1 : p < g.2.1
  · rw [if_pos h1, if_neg (by omega), if_pos h1]
    simp only [w3]
    rw [show g.2.1 - 1 + g.2.2 = g.2.1 + g.2.2 - 1 by omega, m1_eq, m1_eq, nI_sub1 (by omega), nI_sub1 (by omega)]
  · rw [if_neg h1, if_neg h1]
    by_cases h2 : g.2.1 + g.2.2 ≤ p
    · rw [if_pos h2, if_pos (by omega), if_neg (by omega)]
      simp only [w3]
    · simp only [if_neg h2, if_pos (show g.2.1 ≤ p by omega), if_pos (show p < g.2.1 + g.2.2 by omega)]
theorem x_follows (hm : mS S m) {d p : Nat} {by9 : Int32} {f : Gn → Option Gn} (hd : d < 4) {il : List Gn} (hn : il.length ≤ 20) (h22 : G 22 d = nI il.length) (hel : ∀ (j : Nat) (g : Gn), il[j]? = some g → eN G d j g) (hstep : ∀ (H : Nat → Nat → Int32) (i L : Nat) (g : Gn), il[i]? = some g → i < il.length → L ≤ i → H 22 d = nI il.length → eN H d i g → f_X10_follows_b6 m (nI d) (nI p) by9 (nI L) (nI i) (sI S (mw I m H)) = match f g with
    | none => some (.inl (nI L, nI (i + 1), sI S (mw I m H)))
    | some g' => some (.inl (nI (L + 1), nI (i + 1), sI S (mw I m (w3 H (d * 20 + L) g'))))) : ∃ G', f_X10_follows (sI S (mw I m G)) m (nI d) (nI p) by9 = some (sI S (mw I m G')) ∧ G' 22 d = nI (il.filterMap f).length ∧ (∀ (j : Nat) (g : Gn), (il.filterMap f)[j]? = some g → eN G' d j g) ∧ ∀ c j, ¬ (c = 22 ∧ j = d) → ¬ ((23 ≤ c ∧ c ≤ 25) ∧ d * 20 ≤ j ∧ j < d * 20 + 20) → G' c j = G c j := by
  unfold f_X10_follows
  obtain ⟨z, e1, G', rfl, h1, h2⟩ := it_up (b := fun (v : Int32 × Int32 × PS) => f_X10_follows_b6 m (nI d) (nI p) by9 v.1 v.2.1 v.2.2) il.length
    (P := fun i z => ∃ G', z = (nI ((il.take i).filterMap f).length, nI i, sI S (mw I m G')) ∧ (∀ (j : Nat) (g : Gn), ((il.take i).filterMap f)[j]? = some g → eN G' d j g) ∧ (∀ (j : Nat) (g : Gn), i ≤ j → il[j]? = some g → eN G' d j g) ∧ ∀ c j, ¬ ((23 ≤ c ∧ c ≤ 25) ∧ d * 20 ≤ j ∧ j < d * 20 + 20) → G' c j = G c j)
    (Q := fun z => ∃ G', z = (nI (il.filterMap f).length, sI S (mw I m G')) ∧ (∀ (j : Nat) (g : Gn), (il.filterMap f)[j]? = some g → eN G' d j g) ∧ ∀ c j, ¬ ((23 ≤ c ∧ c ≤ 25) ∧ d * 20 ≤ j ∧ j < d * 20 + 20) → G' c j = G c j)
    (fun i z hi ⟨G', e, h1, h2, h3⟩ => by
      subst e
      have hg : il[i]? = some il[i] := List.getElem?_eq_getElem hi
      have hL : ((il.take i).filterMap f).length ≤ i := Nat.le_trans (List.length_filterMap_le _ _) (by simp; omega)
      have hs := hstep G' i _ _ hg hi hL ((h3 22 d (by omega)).trans h22) (h2 i _ (Nat.le_refl _) hg)
      rw [List.take_succ_eq_append_getElem hi, List.filterMap_append]
      refine Or.inl ?_
      show ∃ s', f_X10_follows_b6 m (nI d) (nI p) by9 (nI ((il.take i).filterMap f).length) (nI i) (sI S (mw I m G')) = some (.inl s') ∧ _
      rw [hs]
      cases hf : f il[i] with
      | none =>
        refine ⟨_, rfl, G', ?_, fun j g hj => ?_, fun j g hj hg => h2 j g (by omega) hg, h3⟩
        · simp [hf]
        · rw [List.filterMap_cons_none hf, List.filterMap_nil, List.append_nil] at hj
          exact h1 j g hj
      | some g' =>
        have hlen : ((il.take i).filterMap f ++ [il[i]].filterMap f) = (il.take i).filterMap f ++ [g'] := by rw [List.filterMap_cons_some hf, List.filterMap_nil]
        rw [hlen]
        refine ⟨_, rfl, w3 G' (d * 20 + ((il.take i).filterMap f).length) g', ?_, fun j g hj => ?_, fun j g hj hg => ?_, fun c j hc => ?_⟩
        · rw [List.length_append, List.length_singleton]
        · by_cases hj9 : j < ((il.take i).filterMap f).length
          · rw [List.getElem?_append_left hj9] at hj
            obtain ⟨a1, a2, a3⟩ := h1 j g hj
            exact ⟨by rw [w3_ne (Or.inr (by omega))]; exact a1, by rw [w3_ne (Or.inr (by omega))]; exact a2, by rw [w3_ne (Or.inr (by omega))]; exact a3⟩
          · rw [List.getElem?_append_right (by omega)] at hj
            have : j - ((il.take i).filterMap f).length = 0 := by
              have := (List.getElem?_eq_some_iff.mp hj).1
              simp at this; omega
            rw [this] at hj
            simp at hj
            rw [← hj, show j = ((il.take i).filterMap f).length by omega]
            exact w3_eN _ _ _ _
        · obtain ⟨a1, a2, a3⟩ := h2 j g (by omega) hg
          exact ⟨by rw [w3_ne (Or.inr (by omega))]; exact a1, by rw [w3_ne (Or.inr (by omega))]; exact a2, by rw [w3_ne (Or.inr (by omega))]; exact a3⟩
        · rw [w3_ne (by omega)]
          exact h3 c j hc)
    (fun z ⟨G', e, h1, h2, h3⟩ => by
      subst e
      rw [List.take_length] at h1 ⊢
      refine ⟨_, ?_, G', rfl, h1, h3⟩
      unfold f_X10_follows_b6
      simp only [kK_sI, kQ_sI, kN_sI, kI_sI, wI_sI, Option.bind_some, lt, mw_0, mw_up0, xK_0 hm, xK_1 hm, xN_1 hm, xQ_1 hm, mw_1, mw_up1, xK_2 hm, xN_2 hm, xQ_2 hm, mw_2, mw_up2, xK_3 hm, xN_3 hm, xQ_3 hm, mw_3, mw_up3, xK_4 hm, xN_4 hm, xQ_4 hm, mw_4, mw_up4, xK_5 hm, xN_5 hm, xQ_5 hm, mw_5, mw_up5, xK_6 hm, xN_6 hm, xQ_6 hm, mw_6, mw_up6, xK_7 hm, xN_7 hm, xQ_7 hm, mw_7, mw_up7, xK_8 hm, xN_8 hm, xQ_8 hm, mw_8, mw_up8, xK_9 hm, xN_9 hm, xQ_9 hm, mw_9, mw_up9, xK_10 hm, xN_10 hm, xQ_10 hm, mw_10, mw_up10, xK_11 hm, xN_11 hm, xQ_11 hm, mw_11, mw_up11, xK_12 hm, xN_12 hm, xQ_12 hm, mw_12, mw_up12, xK_13 hm, xN_13 hm, xQ_13 hm, mw_13, mw_up13, xK_14 hm, xN_14 hm, xQ_14 hm, mw_14, mw_up14, xK_15 hm, xN_15 hm, xQ_15 hm, mw_15, mw_up15, xK_16 hm, xN_16 hm, xQ_16 hm, mw_16, mw_up16, xK_17 hm, xN_17 hm, xQ_17 hm, mw_17, mw_up17, xK_18 hm, xN_18 hm, xQ_18 hm, mw_18, mw_up18, xK_19 hm, xN_19 hm, xQ_19 hm, mw_19, mw_up19, xK_20 hm, xN_20 hm, xQ_20 hm, mw_20, mw_up20, xK_21 hm, xN_21 hm, xQ_21 hm, mw_21, mw_up21, xK_22 hm, xN_22 hm, xQ_22 hm, mw_22, mw_up22, xK_23 hm, xN_23 hm, xQ_23 hm, mw_23, mw_up23, xK_24 hm, xN_24 hm, xQ_24 hm, mw_24, mw_up24, xK_25 hm, xN_25 hm, xQ_25 hm, mw_25, mw_up25, xK_26 hm, xN_26 hm, xQ_26 hm, mw_26, mw_up26, xK_27 hm, xN_27 hm, xQ_27 hm, mw_27, mw_up27, xK_28 hm, xN_28 hm, xQ_28 hm, mw_28, mw_up28, xK_29 hm, xN_29 hm, xQ_29 hm, mw_29, mw_up29, xK_30 hm, xN_30 hm, xQ_30 hm, mw_30, mw_up30, xK_31 hm, xN_31 hm, xQ_31 hm, mw_31, mw_up31, xK_32 hm, xN_32 hm, xQ_32 hm, mw_32, mw_up32, xK_33 hm, xN_33 hm, xQ_33 hm, mw_33, mw_up33, xK_34 hm, xN_34 hm, xQ_34 hm, mw_34, mw_up34, xK_35 hm, xN_35 hm, xQ_35 hm, mw_35, mw_up35, xK_36 hm, xN_36 hm, xQ_36 hm, mw_36, mw_up36, xK_37 hm, xN_37 hm, xQ_37 hm, mw_37, mw_up37, if_true, (h3 22 d (by omega)).trans h22, bd2 hd (show d < 2 ^ 31 by omega), nI_clamp (show d < 2 ^ 31 by omega), not_false_eq_true, nI_leI (show il.length < 2 ^ 31 by omega) (show il.length < 2 ^ 31 by omega), Nat.le_refl])
    0 (0, 0, sI S (mw I m G)) ⟨G, rfl, fun j g hj => by simp at hj, fun j g _ hj => hel j g hj, fun _ _ _ => rfl⟩ (Nat.zero_le _) kF (by unfold kF; omega)
  rw [e1]
  simp only [kK_sI, kQ_sI, kN_sI, kI_sI, wI_sI, Option.bind_some, lt, mw_0, mw_up0, xK_0 hm, xK_1 hm, xN_1 hm, xQ_1 hm, mw_1, mw_up1, xK_2 hm, xN_2 hm, xQ_2 hm, mw_2, mw_up2, xK_3 hm, xN_3 hm, xQ_3 hm, mw_3, mw_up3, xK_4 hm, xN_4 hm, xQ_4 hm, mw_4, mw_up4, xK_5 hm, xN_5 hm, xQ_5 hm, mw_5, mw_up5, xK_6 hm, xN_6 hm, xQ_6 hm, mw_6, mw_up6, xK_7 hm, xN_7 hm, xQ_7 hm, mw_7, mw_up7, xK_8 hm, xN_8 hm, xQ_8 hm, mw_8, mw_up8, xK_9 hm, xN_9 hm, xQ_9 hm, mw_9, mw_up9, xK_10 hm, xN_10 hm, xQ_10 hm, mw_10, mw_up10, xK_11 hm, xN_11 hm, xQ_11 hm, mw_11, mw_up11, xK_12 hm, xN_12 hm, xQ_12 hm, mw_12, mw_up12, xK_13 hm, xN_13 hm, xQ_13 hm, mw_13, mw_up13, xK_14 hm, xN_14 hm, xQ_14 hm, mw_14, mw_up14, xK_15 hm, xN_15 hm, xQ_15 hm, mw_15, mw_up15, xK_16 hm, xN_16 hm, xQ_16 hm, mw_16, mw_up16, xK_17 hm, xN_17 hm, xQ_17 hm, mw_17, mw_up17, xK_18 hm, xN_18 hm, xQ_18 hm, mw_18, mw_up18, xK_19 hm, xN_19 hm, xQ_19 hm, mw_19, mw_up19, xK_20 hm, xN_20 hm, xQ_20 hm, mw_20, mw_up20, xK_21 hm, xN_21 hm, xQ_21 hm, mw_21, mw_up21, xK_22 hm, xN_22 hm, xQ_22 hm, mw_22, mw_up22, xK_23 hm, xN_23 hm, xQ_23 hm, mw_23, mw_up23, xK_24 hm, xN_24 hm, xQ_24 hm, mw_24, mw_up24, xK_25 hm, xN_25 hm, xQ_25 hm, mw_25, mw_up25, xK_26 hm, xN_26 hm, xQ_26 hm, mw_26, mw_up26, xK_27 hm, xN_27 hm, xQ_27 hm, mw_27, mw_up27, xK_28 hm, xN_28 hm, xQ_28 hm, mw_28, mw_up28, xK_29 hm, xN_29 hm, xQ_29 hm, mw_29, mw_up29, xK_30 hm, xN_30 hm, xQ_30 hm, mw_30, mw_up30, xK_31 hm, xN_31 hm, xQ_31 hm, mw_31, mw_up31, xK_32 hm, xN_32 hm, xQ_32 hm, mw_32, mw_up32, xK_33 hm, xN_33 hm, xQ_33 hm, mw_33, mw_up33, xK_34 hm, xN_34 hm, xQ_34 hm, mw_34, mw_up34, xK_35 hm, xN_35 hm, xQ_35 hm, mw_35, mw_up35, xK_36 hm, xN_36 hm, xQ_36 hm, mw_36, mw_up36, xK_37 hm, xN_37 hm, xQ_37 hm, mw_37, mw_up37, if_true, bd2 hd (show d < 2 ^ 31 by omega), nI_clamp (show d < 2 ^ 31 by omega), not_false_eq_true]
  refine ⟨_, rfl, uF_eq _ _ _ _, fun j g hj => ?_, fun c j hc hc2 => by rw [uF_ne (by omega)]; exact h2 c j hc2⟩
  obtain ⟨a1, a2, a3⟩ := h1 j g hj
  exact ⟨by rw [uF_ne (Or.inl (by decide))]; exact a1, by rw [uF_ne (Or.inl (by decide))]; exact a2, by rw [uF_ne (Or.inl (by decide))]; exact a3⟩
end
