/-! the model takes the best that is free, again and again -/
section
variable {S : PS} {I G : Nat → Nat → Int32} {m : Nat} {T : St} {d : Nat} {L : List (Nat × Nat)}
abbrev frT (T : St) (L : List (Nat × Nat)) (is : List Nat) (c : Nat) : Prop := ∀ i, i < is.length → ¬ ovT T L c (ga is i)
theorem x_best (hm : mS S m) (hw : wf T) (hd : d < 4) (hk : mTk G T.2.1) (hf : mFd G T.2.1 T.2.2.2.2.1 (T.2.2.2.2.2.2 d) L) (hL : okL T d L) {is : List Nat} (hi : mTa G is) (h160 : is.length ≤ 160) (his : ∀ i, i < is.length → ga is i < L.length) :
    (iter (fun (v : Int32 × Int32) => f_X10_look_b21 m (sI S (mw I m G)) v.1 v.2) kF ((-1), 0) = some (-1) ∧ ∀ c, c < L.length → ¬ frT T L is c) ∨ ∃ c, c < L.length ∧ iter (fun (v : Int32 × Int32) => f_X10_look_b21 m (sI S (mw I m G)) v.1 v.2) kF ((-1), 0) = some (nI c) ∧ frT T L is c ∧ ∀ c', c' < L.length → frT T L is c' → ¬ ahT T d L c' c := by
  have hn := hL.1
  obtain ⟨z, e1, q⟩ := it_up (b := fun (v : Int32 × Int32) => f_X10_look_b21 m (sI S (mw I m G)) v.1 v.2) L.length
    (P := fun k s => (s = (-1, nI k) ∧ ∀ c, c < k → ¬ frT T L is c) ∨ ∃ c, c < k ∧ s = (nI c, nI k) ∧ frT T L is c ∧ ∀ c', c' < k → frT T L is c' → ¬ ahT T d L c' c)
    (Q := fun z => (z = -1 ∧ ∀ c, c < L.length → ¬ frT T L is c) ∨ ∃ c, c < L.length ∧ z = nI c ∧ frT T L is c ∧ ∀ c', c' < L.length → frT T L is c' → ¬ ahT T d L c' c)
    (fun k s hk1 h => by
      obtain ⟨b, e2, hb⟩ := x_free (S := S) (I := I) hm hw hk hf hL hi h160 his hk1
      rcases h with ⟨e, h1⟩ | ⟨c, hc, e, h1, h2⟩
      · subst e
        simp only
        unfold f_X10_look_b21
        simp only [↓reduceIte, kK_sI, kQ_sI, kN_sI, kI_sI, wI_sI, Option.bind_some, lt, mw_0, mw_up0, xK_0 hm, xK_1 hm, xN_1 hm, xQ_1 hm, mw_1, mw_up1, xK_2 hm, xN_2 hm, xQ_2 hm, mw_2, mw_up2, xK_3 hm, xN_3 hm, xQ_3 hm, mw_3, mw_up3, xK_4 hm, xN_4 hm, xQ_4 hm, mw_4, mw_up4, xK_5 hm, xN_5 hm, xQ_5 hm, mw_5, mw_up5, xK_6 hm, xN_6 hm, xQ_6 hm, mw_6, mw_up6, xK_7 hm, xN_7 hm, xQ_7 hm, mw_7, mw_up7, xK_8 hm, xN_8 hm, xQ_8 hm, mw_8, mw_up8, xK_9 hm, xN_9 hm, xQ_9 hm, mw_9, mw_up9, xK_10 hm, xN_10 hm, xQ_10 hm, mw_10, mw_up10, xK_11 hm, xN_11 hm, xQ_11 hm, mw_11, mw_up11, xK_12 hm, xN_12 hm, xQ_12 hm, mw_12, mw_up12, xK_13 hm, xN_13 hm, xQ_13 hm, mw_13, mw_up13, xK_14 hm, xN_14 hm, xQ_14 hm, mw_14, mw_up14, xK_15 hm, xN_15 hm, xQ_15 hm, mw_15, mw_up15, xK_16 hm, xN_16 hm, xQ_16 hm, mw_16, mw_up16, xK_17 hm, xN_17 hm, xQ_17 hm, mw_17, mw_up17, xK_18 hm, xN_18 hm, xQ_18 hm, mw_18, mw_up18, xK_19 hm, xN_19 hm, xQ_19 hm, mw_19, mw_up19, xK_20 hm, xN_20 hm, xQ_20 hm, mw_20, mw_up20, xK_21 hm, xN_21 hm, xQ_21 hm, mw_21, mw_up21, xK_22 hm, xN_22 hm, xQ_22 hm, mw_22, mw_up22, xK_23 hm, xN_23 hm, xQ_23 hm, mw_23, mw_up23, xK_24 hm, xN_24 hm, xQ_24 hm, mw_24, mw_up24, xK_25 hm, xN_25 hm, xQ_25 hm, mw_25, mw_up25, xK_26 hm, xN_26 hm, xQ_26 hm, mw_26, mw_up26, xK_27 hm, xN_27 hm, xQ_27 hm, mw_27, mw_up27, xK_28 hm, xN_28 hm, xQ_28 hm, mw_28, mw_up28, xK_29 hm, xN_29 hm, xQ_29 hm, mw_29, mw_up29, xK_30 hm, xN_30 hm, xQ_30 hm, mw_30, mw_up30, xK_31 hm, xN_31 hm, xQ_31 hm, mw_31, mw_up31, xK_32 hm, xN_32 hm, xQ_32 hm, mw_32, mw_up32, xK_33 hm, xN_33 hm, xQ_33 hm, mw_33, mw_up33, xK_34 hm, xN_34 hm, xQ_34 hm, mw_34, mw_up34, xK_35 hm, xN_35 hm, xQ_35 hm, mw_35, mw_up35, xK_36 hm, xN_36 hm, xQ_36 hm, mw_36, mw_up36, xK_37 hm, xN_37 hm, xQ_37 hm, mw_37, mw_up37, hf.1, nI_leI (show L.length < 2 ^ 31 by omega) (show k < 2 ^ 31 by omega), if_neg (show ¬ L.length ≤ k by omega), e2, bi_eq0, show ((-1 : Int32) < 0) from by decide, nI_1]
        cases b with
        | false =>
          rw [if_pos rfl]
          refine Or.inl ⟨_, rfl, Or.inl ⟨rfl, fun c hc z => ?_⟩⟩
          by_cases e : c = k
          · rw [e] at z; exact absurd (hb.mpr z) (by decide)
          · exact h1 c (by omega) z
        | true =>
          rw [if_neg (by decide)]
          have hfr := hb.mp rfl
          refine Or.inl ⟨_, rfl, Or.inr ⟨k, by omega, rfl, hfr, fun c' hc' z => ?_⟩⟩
          by_cases e : c' = k
          · rw [e]; exact ah_irr
          · exact absurd z (h1 c' (by omega))
      · subst e
        have hc9 : c < L.length := by omega
        obtain ⟨a, e3, ha⟩ := x_ahead (S := S) (I := I) hm hw hd hk hf hL hk1 hc9
        simp only
        unfold f_X10_look_b21
        simp only [↓reduceIte, kK_sI, kQ_sI, kN_sI, kI_sI, wI_sI, Option.bind_some, lt, mw_0, mw_up0, xK_0 hm, xK_1 hm, xN_1 hm, xQ_1 hm, mw_1, mw_up1, xK_2 hm, xN_2 hm, xQ_2 hm, mw_2, mw_up2, xK_3 hm, xN_3 hm, xQ_3 hm, mw_3, mw_up3, xK_4 hm, xN_4 hm, xQ_4 hm, mw_4, mw_up4, xK_5 hm, xN_5 hm, xQ_5 hm, mw_5, mw_up5, xK_6 hm, xN_6 hm, xQ_6 hm, mw_6, mw_up6, xK_7 hm, xN_7 hm, xQ_7 hm, mw_7, mw_up7, xK_8 hm, xN_8 hm, xQ_8 hm, mw_8, mw_up8, xK_9 hm, xN_9 hm, xQ_9 hm, mw_9, mw_up9, xK_10 hm, xN_10 hm, xQ_10 hm, mw_10, mw_up10, xK_11 hm, xN_11 hm, xQ_11 hm, mw_11, mw_up11, xK_12 hm, xN_12 hm, xQ_12 hm, mw_12, mw_up12, xK_13 hm, xN_13 hm, xQ_13 hm, mw_13, mw_up13, xK_14 hm, xN_14 hm, xQ_14 hm, mw_14, mw_up14, xK_15 hm, xN_15 hm, xQ_15 hm, mw_15, mw_up15, xK_16 hm, xN_16 hm, xQ_16 hm, mw_16, mw_up16, xK_17 hm, xN_17 hm, xQ_17 hm, mw_17, mw_up17, xK_18 hm, xN_18 hm, xQ_18 hm, mw_18, mw_up18, xK_19 hm, xN_19 hm, xQ_19 hm, mw_19, mw_up19, xK_20 hm, xN_20 hm, xQ_20 hm, mw_20, mw_up20, xK_21 hm, xN_21 hm, xQ_21 hm, mw_21, mw_up21, xK_22 hm, xN_22 hm, xQ_22 hm, mw_22, mw_up22, xK_23 hm, xN_23 hm, xQ_23 hm, mw_23, mw_up23, xK_24 hm, xN_24 hm, xQ_24 hm, mw_24, mw_up24, xK_25 hm, xN_25 hm, xQ_25 hm, mw_25, mw_up25, xK_26 hm, xN_26 hm, xQ_26 hm, mw_26, mw_up26, xK_27 hm, xN_27 hm, xQ_27 hm, mw_27, mw_up27, xK_28 hm, xN_28 hm, xQ_28 hm, mw_28, mw_up28, xK_29 hm, xN_29 hm, xQ_29 hm, mw_29, mw_up29, xK_30 hm, xN_30 hm, xQ_30 hm, mw_30, mw_up30, xK_31 hm, xN_31 hm, xQ_31 hm, mw_31, mw_up31, xK_32 hm, xN_32 hm, xQ_32 hm, mw_32, mw_up32, xK_33 hm, xN_33 hm, xQ_33 hm, mw_33, mw_up33, xK_34 hm, xN_34 hm, xQ_34 hm, mw_34, mw_up34, xK_35 hm, xN_35 hm, xQ_35 hm, mw_35, mw_up35, xK_36 hm, xN_36 hm, xQ_36 hm, mw_36, mw_up36, xK_37 hm, xN_37 hm, xQ_37 hm, mw_37, mw_up37, hf.1, nI_leI (show L.length < 2 ^ 31 by omega) (show k < 2 ^ 31 by omega), if_neg (show ¬ L.length ≤ k by omega), e2, bi_eq0, nI_lt0 (show c < 2 ^ 31 by omega), if_false, e3, nI_1]
        have keep : (frT T L is k → ¬ ahT T d L k c) → ∀ c', c' < k + 1 → frT T L is c' → ¬ ahT T d L c' c := fun h3 c' hc' z => by
          by_cases e : c' = k
          · rw [e] at z ⊢; exact h3 z
          · exact h2 c' (by omega) z
        cases b with
        | false =>
          rw [if_pos rfl]
          exact Or.inl ⟨_, rfl, Or.inr ⟨c, by omega, rfl, h1, keep (fun z => absurd (hb.mpr z) (by decide))⟩⟩
        | true =>
          rw [if_neg (by decide)]
          cases a with
          | false =>
            rw [if_pos rfl]
            exact Or.inl ⟨_, rfl, Or.inr ⟨c, by omega, rfl, h1, keep (fun _ z => absurd (ha.mpr z) (by decide))⟩⟩
          | true =>
            rw [if_neg (by decide)]
            have hak := ha.mp rfl
            refine Or.inl ⟨_, rfl, Or.inr ⟨k, by omega, rfl, hb.mp rfl, fun c' hc' z z2 => ?_⟩⟩
            by_cases e : c' = k
            · rw [e] at z2; exact ah_irr z2
            · exact h2 c' (by omega) z (ah_trans z2 hak))
    (fun s h => by
      rcases h with ⟨e, h1⟩ | ⟨c, hc, e, h1, h2⟩
      · subst e
        refine ⟨_, ?_, Or.inl ⟨rfl, h1⟩⟩
        simp only
        unfold f_X10_look_b21
        simp only [↓reduceIte, kK_sI, kQ_sI, kN_sI, kI_sI, wI_sI, Option.bind_some, lt, mw_0, mw_up0, xK_0 hm, xK_1 hm, xN_1 hm, xQ_1 hm, mw_1, mw_up1, xK_2 hm, xN_2 hm, xQ_2 hm, mw_2, mw_up2, xK_3 hm, xN_3 hm, xQ_3 hm, mw_3, mw_up3, xK_4 hm, xN_4 hm, xQ_4 hm, mw_4, mw_up4, xK_5 hm, xN_5 hm, xQ_5 hm, mw_5, mw_up5, xK_6 hm, xN_6 hm, xQ_6 hm, mw_6, mw_up6, xK_7 hm, xN_7 hm, xQ_7 hm, mw_7, mw_up7, xK_8 hm, xN_8 hm, xQ_8 hm, mw_8, mw_up8, xK_9 hm, xN_9 hm, xQ_9 hm, mw_9, mw_up9, xK_10 hm, xN_10 hm, xQ_10 hm, mw_10, mw_up10, xK_11 hm, xN_11 hm, xQ_11 hm, mw_11, mw_up11, xK_12 hm, xN_12 hm, xQ_12 hm, mw_12, mw_up12, xK_13 hm, xN_13 hm, xQ_13 hm, mw_13, mw_up13, xK_14 hm, xN_14 hm, xQ_14 hm, mw_14, mw_up14, xK_15 hm, xN_15 hm, xQ_15 hm, mw_15, mw_up15, xK_16 hm, xN_16 hm, xQ_16 hm, mw_16, mw_up16, xK_17 hm, xN_17 hm, xQ_17 hm, mw_17, mw_up17, xK_18 hm, xN_18 hm, xQ_18 hm, mw_18, mw_up18, xK_19 hm, xN_19 hm, xQ_19 hm, mw_19, mw_up19, xK_20 hm, xN_20 hm, xQ_20 hm, mw_20, mw_up20, xK_21 hm, xN_21 hm, xQ_21 hm, mw_21, mw_up21, xK_22 hm, xN_22 hm, xQ_22 hm, mw_22, mw_up22, xK_23 hm, xN_23 hm, xQ_23 hm, mw_23, mw_up23, xK_24 hm, xN_24 hm, xQ_24 hm, mw_24, mw_up24, xK_25 hm, xN_25 hm, xQ_25 hm, mw_25, mw_up25, xK_26 hm, xN_26 hm, xQ_26 hm, mw_26, mw_up26, xK_27 hm, xN_27 hm, xQ_27 hm, mw_27, mw_up27, xK_28 hm, xN_28 hm, xQ_28 hm, mw_28, mw_up28, xK_29 hm, xN_29 hm, xQ_29 hm, mw_29, mw_up29, xK_30 hm, xN_30 hm, xQ_30 hm, mw_30, mw_up30, xK_31 hm, xN_31 hm, xQ_31 hm, mw_31, mw_up31, xK_32 hm, xN_32 hm, xQ_32 hm, mw_32, mw_up32, xK_33 hm, xN_33 hm, xQ_33 hm, mw_33, mw_up33, xK_34 hm, xN_34 hm, xQ_34 hm, mw_34, mw_up34, xK_35 hm, xN_35 hm, xQ_35 hm, mw_35, mw_up35, xK_36 hm, xN_36 hm, xQ_36 hm, mw_36, mw_up36, xK_37 hm, xN_37 hm, xQ_37 hm, mw_37, mw_up37, hf.1, nI_leI (show L.length < 2 ^ 31 by omega) (show L.length < 2 ^ 31 by omega), Nat.le_refl]
      · subst e
        refine ⟨_, ?_, Or.inr ⟨c, hc, rfl, h1, h2⟩⟩
        simp only
        unfold f_X10_look_b21
        simp only [↓reduceIte, kK_sI, kQ_sI, kN_sI, kI_sI, wI_sI, Option.bind_some, lt, mw_0, mw_up0, xK_0 hm, xK_1 hm, xN_1 hm, xQ_1 hm, mw_1, mw_up1, xK_2 hm, xN_2 hm, xQ_2 hm, mw_2, mw_up2, xK_3 hm, xN_3 hm, xQ_3 hm, mw_3, mw_up3, xK_4 hm, xN_4 hm, xQ_4 hm, mw_4, mw_up4, xK_5 hm, xN_5 hm, xQ_5 hm, mw_5, mw_up5, xK_6 hm, xN_6 hm, xQ_6 hm, mw_6, mw_up6, xK_7 hm, xN_7 hm, xQ_7 hm, mw_7, mw_up7, xK_8 hm, xN_8 hm, xQ_8 hm, mw_8, mw_up8, xK_9 hm, xN_9 hm, xQ_9 hm, mw_9, mw_up9, xK_10 hm, xN_10 hm, xQ_10 hm, mw_10, mw_up10, xK_11 hm, xN_11 hm, xQ_11 hm, mw_11, mw_up11, xK_12 hm, xN_12 hm, xQ_12 hm, mw_12, mw_up12, xK_13 hm, xN_13 hm, xQ_13 hm, mw_13, mw_up13, xK_14 hm, xN_14 hm, xQ_14 hm, mw_14, mw_up14, xK_15 hm, xN_15 hm, xQ_15 hm, mw_15, mw_up15, xK_16 hm, xN_16 hm, xQ_16 hm, mw_16, mw_up16, xK_17 hm, xN_17 hm, xQ_17 hm, mw_17, mw_up17, xK_18 hm, xN_18 hm, xQ_18 hm, mw_18, mw_up18, xK_19 hm, xN_19 hm, xQ_19 hm, mw_19, mw_up19, xK_20 hm, xN_20 hm, xQ_20 hm, mw_20, mw_up20, xK_21 hm, xN_21 hm, xQ_21 hm, mw_21, mw_up21, xK_22 hm, xN_22 hm, xQ_22 hm, mw_22, mw_up22, xK_23 hm, xN_23 hm, xQ_23 hm, mw_23, mw_up23, xK_24 hm, xN_24 hm, xQ_24 hm, mw_24, mw_up24, xK_25 hm, xN_25 hm, xQ_25 hm, mw_25, mw_up25, xK_26 hm, xN_26 hm, xQ_26 hm, mw_26, mw_up26, xK_27 hm, xN_27 hm, xQ_27 hm, mw_27, mw_up27, xK_28 hm, xN_28 hm, xQ_28 hm, mw_28, mw_up28, xK_29 hm, xN_29 hm, xQ_29 hm, mw_29, mw_up29, xK_30 hm, xN_30 hm, xQ_30 hm, mw_30, mw_up30, xK_31 hm, xN_31 hm, xQ_31 hm, mw_31, mw_up31, xK_32 hm, xN_32 hm, xQ_32 hm, mw_32, mw_up32, xK_33 hm, xN_33 hm, xQ_33 hm, mw_33, mw_up33, xK_34 hm, xN_34 hm, xQ_34 hm, mw_34, mw_up34, xK_35 hm, xN_35 hm, xQ_35 hm, mw_35, mw_up35, xK_36 hm, xN_36 hm, xQ_36 hm, mw_36, mw_up36, xK_37 hm, xN_37 hm, xQ_37 hm, mw_37, mw_up37, hf.1, nI_leI (show L.length < 2 ^ 31 by omega) (show L.length < 2 ^ 31 by omega), Nat.le_refl])
    0 (-1, 0) (Or.inl ⟨rfl, fun c hc => absurd hc (by omega)⟩) (Nat.zero_le _) kF (by unfold kF; omega)
  rcases q with ⟨e, q⟩ | ⟨c, hc, e, q⟩
  · subst e; exact Or.inl ⟨e1, q⟩
  · subst e; exact Or.inr ⟨c, hc, e1, q⟩
/-- only what is taken changed -/
def mQl (G G' : Nat → Nat → Int32) : Prop := (∀ k, 1 ≤ k → k ≠ 36 → ∀ j, G' k j = G k j) ∧ ∀ j, j ≠ 42 → G' 0 j = G 0 j
theorem mQl.rf {G : Nat → Nat → Int32} : mQl G G := ⟨fun _ _ _ _ => rfl, fun _ _ => rfl⟩
theorem mQl.tr {G G' G'' : Nat → Nat → Int32} (h : mQl G G') (h' : mQl G' G'') : mQl G G'' := ⟨fun k a b j => (h'.1 k a b j).trans (h.1 k a b j), fun j a => (h'.2 j a).trans (h.2 j a)⟩
theorem mQl.tk {G G' : Nat → Nat → Int32} {t : List Int32} (h : mQl G G') (hk : mTk G t) : mTk G' t := hk.ext (fun k a b j => h.1 k (by omega) (by omega) j) (h.2 31 (by decide))
theorem mQl.fd {G G' : Nat → Nat → Int32} {t : List Int32} {ru : List Rv} {k : Dk} {L : List (Nat × Nat)} (h : mQl G G') (hf : mFd G t ru k L) : mFd G' t ru k L := by
  refine ⟨(h.2 37 (by decide)).trans hf.1, fun i p hp => ?_⟩
  obtain ⟨y1, y2, y3, y4⟩ := hf.2 i p hp
  exact ⟨(h.1 32 (by decide) (by decide) i).trans y1, (h.1 33 (by decide) (by decide) i).trans y2, (h.1 34 (by decide) (by decide) i).trans y3, (h.1 35 (by decide) (by decide) i).trans y4⟩
theorem ga_ins {is : List Nat} {at1 c i : Nat} (h : at1 ≤ is.length) : ga (is.insertIdx at1 c) i = if i < at1 then ga is i else if i = at1 then c else ga is (i - 1) := by
  unfold ga
  rw [List.getElem?_insertIdx]
  by_cases e1 : i < at1
  · rw [if_pos e1, if_pos e1]
  · rw [if_neg e1, if_neg e1]
    by_cases e2 : i = at1
    · rw [if_pos e2, if_pos e2, if_pos (by omega)]; rfl
    · rw [if_neg e2, if_neg e2]
/-- a finding is put in by its first sign -/
theorem x_insert (hm : mS S m) (hw : wf T) (hk : mTk G T.2.1) (hf : mFd G T.2.1 T.2.2.2.2.1 (T.2.2.2.2.2.2 d) L) (hL : okL T d L) {is : List Nat} (hi : mTa G is) (h160 : is.length < 160) (his : ∀ i, i < is.length → ga is i < L.length) {c : Nat} (hc : c < L.length) :
    ∃ G' at1, iter (fun (v : Int32 × PS) => f_X10_look_b86 m (nI c) v.1 v.2) kF (nI is.length, sI S (mw I m G)) = some (nI at1, sI S (mw I m G')) ∧ mQl G G' ∧ G' 0 42 = nI is.length ∧ at1 ≤ is.length ∧ (at1 = 0 ∨ pl T L (ga is (at1 - 1)) ≤ pl T L c) ∧ (∀ i, at1 ≤ i → i < is.length → pl T L c < pl T L (ga is i)) ∧ (∀ i, i < at1 → G' 36 i = nI (ga is i)) ∧ ∀ i, at1 < i → i ≤ is.length → G' 36 i = nI (ga is (i - 1)) := by
  have hn := hL.1
  have ht := hw.2.1
  have pc := hL.pe hw hc
  obtain ⟨z, e1, G', at1, rfl, q⟩ := it_gen (b := fun (v : Int32 × PS) => f_X10_look_b86 m (nI c) v.1 v.2)
    (P := fun at1 s => ∃ G', s = (nI at1, sI S (mw I m G')) ∧ mQl G G' ∧ G' 0 42 = nI is.length ∧ at1 ≤ is.length ∧ (∀ i, at1 ≤ i → i < is.length → pl T L c < pl T L (ga is i)) ∧ (∀ i, i < at1 → G' 36 i = nI (ga is i)) ∧ ∀ i, at1 < i → i ≤ is.length → G' 36 i = nI (ga is (i - 1)))
    (Q := fun z => ∃ G' at1, z = (nI at1, sI S (mw I m G')) ∧ mQl G G' ∧ G' 0 42 = nI is.length ∧ at1 ≤ is.length ∧ (at1 = 0 ∨ pl T L (ga is (at1 - 1)) ≤ pl T L c) ∧ (∀ i, at1 ≤ i → i < is.length → pl T L c < pl T L (ga is i)) ∧ (∀ i, i < at1 → G' 36 i = nI (ga is i)) ∧ ∀ i, at1 < i → i ≤ is.length → G' 36 i = nI (ga is (i - 1)))
    (fun at1 s ⟨G', e, f1, f2, f3, f4, f5, f6⟩ => by
      subst e
      simp only
      unfold f_X10_look_b86
      by_cases h0 : at1 = 0
      · subst h0
        rw [if_pos (show nI 0 ≤ 0 from by decide)]
        exact Or.inr ⟨_, rfl, G', 0, rfl, f1, f2, f3, Or.inl rfl, f4, f5, f6⟩
      · rw [if_neg (fun z => h0 ((nI_le0 (by omega)).mp z))]
        have hca := his (at1 - 1) (by omega)
        have pa := hL.pe hw hca
        simp only [↓reduceIte, kK_sI, kQ_sI, kN_sI, kI_sI, wI_sI, Option.bind_some, lt, mw_0, mw_up0, xK_0 hm, xK_1 hm, xN_1 hm, xQ_1 hm, mw_1, mw_up1, xK_2 hm, xN_2 hm, xQ_2 hm, mw_2, mw_up2, xK_3 hm, xN_3 hm, xQ_3 hm, mw_3, mw_up3, xK_4 hm, xN_4 hm, xQ_4 hm, mw_4, mw_up4, xK_5 hm, xN_5 hm, xQ_5 hm, mw_5, mw_up5, xK_6 hm, xN_6 hm, xQ_6 hm, mw_6, mw_up6, xK_7 hm, xN_7 hm, xQ_7 hm, mw_7, mw_up7, xK_8 hm, xN_8 hm, xQ_8 hm, mw_8, mw_up8, xK_9 hm, xN_9 hm, xQ_9 hm, mw_9, mw_up9, xK_10 hm, xN_10 hm, xQ_10 hm, mw_10, mw_up10, xK_11 hm, xN_11 hm, xQ_11 hm, mw_11, mw_up11, xK_12 hm, xN_12 hm, xQ_12 hm, mw_12, mw_up12, xK_13 hm, xN_13 hm, xQ_13 hm, mw_13, mw_up13, xK_14 hm, xN_14 hm, xQ_14 hm, mw_14, mw_up14, xK_15 hm, xN_15 hm, xQ_15 hm, mw_15, mw_up15, xK_16 hm, xN_16 hm, xQ_16 hm, mw_16, mw_up16, xK_17 hm, xN_17 hm, xQ_17 hm, mw_17, mw_up17, xK_18 hm, xN_18 hm, xQ_18 hm, mw_18, mw_up18, xK_19 hm, xN_19 hm, xQ_19 hm, mw_19, mw_up19, xK_20 hm, xN_20 hm, xQ_20 hm, mw_20, mw_up20, xK_21 hm, xN_21 hm, xQ_21 hm, mw_21, mw_up21, xK_22 hm, xN_22 hm, xQ_22 hm, mw_22, mw_up22, xK_23 hm, xN_23 hm, xQ_23 hm, mw_23, mw_up23, xK_24 hm, xN_24 hm, xQ_24 hm, mw_24, mw_up24, xK_25 hm, xN_25 hm, xQ_25 hm, mw_25, mw_up25, xK_26 hm, xN_26 hm, xQ_26 hm, mw_26, mw_up26, xK_27 hm, xN_27 hm, xQ_27 hm, mw_27, mw_up27, xK_28 hm, xN_28 hm, xQ_28 hm, mw_28, mw_up28, xK_29 hm, xN_29 hm, xQ_29 hm, mw_29, mw_up29, xK_30 hm, xN_30 hm, xQ_30 hm, mw_30, mw_up30, xK_31 hm, xN_31 hm, xQ_31 hm, mw_31, mw_up31, xK_32 hm, xN_32 hm, xQ_32 hm, mw_32, mw_up32, xK_33 hm, xN_33 hm, xQ_33 hm, mw_33, mw_up33, xK_34 hm, xN_34 hm, xQ_34 hm, mw_34, mw_up34, xK_35 hm, xN_35 hm, xQ_35 hm, mw_35, mw_up35, xK_36 hm, xN_36 hm, xQ_36 hm, mw_36, mw_up36, xK_37 hm, xN_37 hm, xQ_37 hm, mw_37, mw_up37, nI_sub1 (show 0 < at1 by omega), nI_clamp (show at1 - 1 < 2 ^ 31 by omega), bd2 (show at1 - 1 < 160 by omega) (show at1 - 1 < 2 ^ 31 by omega), nI_clamp (show at1 < 2 ^ 31 by omega), bd2 (show at1 < 160 by omega) (show at1 < 2 ^ 31 by omega), not_false_eq_true, f5 (at1 - 1) (by omega), x_place hm hw (f1.tk hk) (f1.fd hf) hL hca, x_place hm hw (f1.tk hk) (f1.fd hf) hL hc, nI_leI (show pl T L (ga is (at1 - 1)) < 2 ^ 31 by omega) (show pl T L c < 2 ^ 31 by omega), show nI at1 + (-1) = nI (at1 - 1) from (Int32.sub_eq_add_neg (nI at1) 1).symm.trans (nI_sub1 (show 0 < at1 by omega))]
        by_cases h1 : pl T L (ga is (at1 - 1)) ≤ pl T L c
        · rw [if_pos h1]
          exact Or.inr ⟨_, rfl, G', at1, rfl, f1, f2, f3, Or.inr h1, f4, f5, f6⟩
        · rw [if_neg h1]
          refine Or.inl ⟨_, at1 - 1, rfl, by omega, _, rfl, f1.tr ⟨fun k a b j => uF_ne (Or.inl b), fun j _ => uF_ne (Or.inl (by decide))⟩, by rw [uF_ne (Or.inl (by decide))]; exact f2, by omega, fun i hi1 hi2 => ?_, fun i hi1 => ?_, fun i hi1 hi2 => ?_⟩
          · by_cases e : i = at1 - 1
            · rw [e]; omega
            · exact f4 i (by omega) hi2
          · rw [uF_ne (Or.inr (by omega))]; exact f5 i (by omega)
          · by_cases e : i = at1
            · rw [e, uF_eq]
            · rw [uF_ne (Or.inr e)]; exact f6 i (by omega) hi2)
    kF is.length (nI is.length, sI S (mw I m G)) (by unfold kF; omega) ⟨G, rfl, mQl.rf, hi.1, Nat.le_refl _, fun i h1 h2 => absurd h1 (by omega), hi.2, fun i h1 h2 => absurd h1 (by omega)⟩
  exact ⟨G', at1, e1, q⟩
/-- what holds of the taken -/
def tkI (T : St) (d : Nat) (L : List (Nat × Nat)) (is : List Nat) : Prop := (∀ i, i < is.length → ga is i < L.length) ∧ (∀ i i', i < i' → i' < is.length → en T L (ga is i) ≤ pl T L (ga is i')) ∧ ∀ c, c < L.length → frT T L is c ∨ ∃ i, i < is.length ∧ (gp L (ga is i) = gp L c ∨ (ahT T d L (ga is i) c ∧ ovT T L (ga is i) c))
theorem tkI.len {is : List Nat} (h : tkI T d L is) (hw : wf T) (hL : okL T d L) : is.length ≤ (tsO T.2.1).length := by
  obtain ⟨h1, h2, -⟩ := h
  have hj : ∀ i, i < is.length → i ≤ (gp L (ga is i)).1 := by
    intro i
    induction i with
    | zero => exact fun _ => Nat.zero_le _
    | succ i ih =>
      intro hi
      have y := ih (by omega)
      have g := h2 i (i + 1) (by omega) hi
      have c1 := hL.c hw (h1 i (by omega))
      have c2 := hL.c hw (h1 (i + 1) hi)
      unfold en pl at g
      have := (tE_tF (by omega) (by omega)).mp g
      omega
  by_cases e : is.length = 0
  · omega
  · have y := hj (is.length - 1) (by omega)
    have c1 := hL.c hw (h1 (is.length - 1) (by omega))
    omega
theorem tkI.ins {is : List Nat} (h : tkI T d L is) (hw : wf T) (hL : okL T d L) {c : Nat} (hc : c < L.length) (hfr : frT T L is c) (hbest : ∀ c', c' < L.length → frT T L is c' → ¬ ahT T d L c' c) {at1 : Nat} (ha : at1 ≤ is.length) (hl : at1 = 0 ∨ pl T L (ga is (at1 - 1)) ≤ pl T L c) (hr : ∀ i, at1 ≤ i → i < is.length → pl T L c < pl T L (ga is i)) : tkI T d L (is.insertIdx at1 c) := by
  obtain ⟨h1, h2, h3⟩ := h
  have hlen : (is.insertIdx at1 c).length = is.length + 1 := by rw [List.length_insertIdx, if_pos ha]
  have pc := hL.pe hw hc
  have hle : ∀ i, i < at1 → en T L (ga is i) ≤ pl T L c := fun i hi => by
    have p1 := hL.pe hw (h1 i (by omega))
    have hpi : pl T L (ga is i) ≤ pl T L c := by
      rcases hl with z | z
      · omega
      · by_cases e : i = at1 - 1
        · rw [e]; exact z
        · have := h2 i (at1 - 1) (by omega) (by omega)
          omega
    rcases (hL.ap hw hc (h1 i (by omega))).mpr (hfr i (by omega)) with z | z
    · omega
    · exact z
  have hge : ∀ i, at1 ≤ i → i < is.length → en T L c ≤ pl T L (ga is i) := fun i hi1 hi2 => by
    have p1 := hL.pe hw (h1 i (by omega))
    have := hr i hi1 hi2
    rcases (hL.ap hw hc (h1 i (by omega))).mpr (hfr i (by omega)) with z | z
    · exact z
    · omega
  refine ⟨fun i hi => ?_, fun i i' hii hi' => ?_, fun c' hc' => ?_⟩
  · rw [hlen] at hi
    rw [ga_ins ha]
    split
    · exact h1 i (by omega)
    · split
      · exact hc
      · exact h1 (i - 1) (by omega)
  · rw [hlen] at hi'
    rw [ga_ins ha, ga_ins ha]
    by_cases e1 : i < at1
    · rw [if_pos e1]
      by_cases e2 : i' < at1
      · rw [if_pos e2]; exact h2 i i' hii (by omega)
      · rw [if_neg e2]
        by_cases e3 : i' = at1
        · rw [if_pos e3]; exact hle i e1
        · rw [if_neg e3]; exact h2 i (i' - 1) (by omega) (by omega)
    · rw [if_neg e1, if_neg (show ¬ i' < at1 by omega), if_neg (show ¬ i' = at1 by omega)]
      by_cases e3 : i = at1
      · rw [if_pos e3]; exact hge (i' - 1) (by omega) (by omega)
      · rw [if_neg e3]; exact h2 (i - 1) (i' - 1) (by omega) (by omega)
  · have hold : ∀ i, i < is.length → ∃ i', i' < (is.insertIdx at1 c).length ∧ ga (is.insertIdx at1 c) i' = ga is i := fun i hi => by
      by_cases e : i < at1
      · exact ⟨i, by omega, by rw [ga_ins ha, if_pos e]⟩
      · exact ⟨i + 1, by omega, by rw [ga_ins ha, if_neg (by omega), if_neg (by omega), Nat.add_sub_cancel]⟩
    rcases h3 c' hc' with z | ⟨i, z1, z2⟩
    · by_cases e : ovT T L c c'
      · refine Or.inr ⟨at1, by omega, ?_⟩
        rw [ga_ins ha, if_neg (by omega), if_pos rfl]
        rcases ah_total (hbest c' hc' z) with y | y
        · exact Or.inl y.symm
        · exact Or.inr ⟨y, e⟩
      · refine Or.inl (fun i hi => ?_)
        rw [hlen] at hi
        rw [ga_ins ha]
        split
        · exact z i (by omega)
        · split
          · exact fun y => e ⟨y.2, y.1⟩
          · exact z (i - 1) (by omega)
    · obtain ⟨i', y1, y2⟩ := hold i z1
      exact Or.inr ⟨i', y1, by rw [y2]; exact z2⟩
end
