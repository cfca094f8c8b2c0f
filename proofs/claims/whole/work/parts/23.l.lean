/-! the model's look: the taken are the findings of the class -/
theorem eq_sorted : ∀ (L L' : List (Nat × Nat)), L.Pairwise (fun a b => a.1 < b.1) → L'.Pairwise (fun a b => a.1 < b.1) → (∀ p, p ∈ L ↔ p ∈ L') → L = L'
  | [], L', _, _, h => by
    cases L' with
    | nil => rfl
    | cons b l => exact absurd ((h b).mpr (List.mem_cons_self ..)) (by simp)
  | a :: L, L', h1, h2, h => by
    cases L' with
    | nil => exact absurd ((h a).mp (List.mem_cons_self ..)) (by simp)
    | cons b L2 =>
      obtain ⟨x1, x2⟩ := List.pairwise_cons.mp h1
      obtain ⟨y1, y2⟩ := List.pairwise_cons.mp h2
      have e : a = b := by
        apply Classical.byContradiction
        intro z
        have ha := List.mem_cons.mp ((h a).mp (List.mem_cons_self ..))
        have hb := List.mem_cons.mp ((h b).mpr (List.mem_cons_self ..))
        rcases ha with ha | ha
        · exact z ha
        · rcases hb with hb | hb
          · exact z hb.symm
          · have := x1 b hb
            have := y1 a ha
            omega
      subst e
      refine congrArg (a :: ·) (eq_sorted L L2 x2 y2 fun p => ⟨fun z => ?_, fun z => ?_⟩)
      · rcases List.mem_cons.mp ((h p).mp (List.mem_cons_of_mem _ z)) with y | y
        · have := x1 p z
          rw [y] at this
          omega
        · exact y
      · rcases List.mem_cons.mp ((h p).mpr (List.mem_cons_of_mem _ z)) with y | y
        · have := y1 p z
          rw [y] at this
          omega
        · exact y
section
variable {S : PS} {I G : Nat → Nat → Int32} {m : Nat} {T : St} {d : Nat} {L : List (Nat × Nat)}
/-- the taken are a solution, so they are the findings -/
theorem tkI.fL {is : List Nat} (h : tkI T d L is) (hw : wf T) (hd : d < 4) (hL : okL T d L) (hno : ∀ c, c < L.length → ¬ frT T L is c) {TN : List Nat} (hs : iS T d TN) : is.map (gp L) = fL T d := by
  obtain ⟨h1, h2, h3⟩ := h
  have hgi : ∀ i, i < is.length → is[i]? = some (ga is i) := fun i hi => by
    unfold ga
    rw [List.getElem?_eq_getElem hi]
    rfl
  have hsol : sol (mI9 T.2.2.2.2.1) (rk T.2.2.2.2.1 (T.2.2.2.2.2.2 d).1) (cnT T d) (fun j r => ∃ i, i < is.length ∧ gp L (ga is i) = (j, r)) := by
    refine ⟨fun j r ⟨i, hi, e⟩ => ?_, fun j r j' r' ⟨i, hi, e⟩ ⟨i', hi', e'⟩ ho => ?_, fun j r hc => ?_⟩
    · have := (hL.2 _).mp (gp_mem (h1 i hi))
      rw [e] at this
      exact this
    · have hov : ovT T L (ga is i) (ga is i') := by
        unfold ovT
        rw [e, e']
        exact ho
      have hii : i = i' := by
        apply Classical.byContradiction
        intro z
        rcases Nat.lt_or_gt_of_ne z with y | y
        · exact (hL.ap hw (h1 i hi) (h1 i' hi')).mp (Or.inl (h2 i i' y hi')) hov
        · exact (hL.ap hw (h1 i hi) (h1 i' hi')).mp (Or.inr (h2 i' i y hi)) hov
      subst hii
      rw [e] at e'
      exact ⟨congrArg Prod.fst e', congrArg Prod.snd e'⟩
    · obtain ⟨c, hc1⟩ := List.getElem?_of_mem ((hL.2 (j, r)).mpr hc)
      have hcl := (List.getElem?_eq_some_iff.mp hc1).1
      have hg : gp L c = (j, r) := by
        unfold gp
        rw [hc1]
        rfl
      rcases h3 c hcl with z | ⟨i, z1, z2 | z2⟩
      · exact absurd z (hno c hcl)
      · exact Or.inl ⟨i, z1, by rw [z2, hg]⟩
      · refine Or.inr ⟨(gp L (ga is i)).1, (gp L (ga is i)).2, ⟨i, z1, rfl⟩, ?_, ?_⟩
        · have := z2.1
          unfold ahT at this
          rw [hg] at this
          exact this
        · have := z2.2
          unfold ovT at this
          rw [hg] at this
          exact this
  have hu := sol_uniq hsol hs.2.2 (fun j r hc => ⟨hc.1, by have := (tsO_wT hw.2.1).1; have := hc.2.1; omega⟩) (fun r => (hw.2.2.2.2.2.2.1.m r).2) (fun r => (rk_range hw.2.2.2.2.2.2.1 (hw.2.2.2.2.2.2.2.2.2.2 d hd).1 r).2)
  have hu2 : ∀ j r, (∃ i, i < is.length ∧ gp L (ga is i) = (j, r)) ↔ aT TN j r := fun j r => hu _ j r (Nat.lt_succ_self _)
  refine eq_sorted _ _ ?_ ?_ (fun p => ?_)
  · rw [List.pairwise_map, List.pairwise_iff_getElem]
    intro i i' hi hi' hii
    have g := h2 i i' hii hi'
    have c1 := hL.c hw (h1 i hi)
    have c2 := hL.c hw (h1 i' hi')
    unfold en pl at g
    have := (tE_tF (by omega) (by omega)).mp g
    have e1 : is[i] = ga is i := by have := hgi i hi; rw [List.getElem?_eq_getElem hi] at this; exact Option.some.inj this
    have e2 : is[i'] = ga is i' := by have := hgi i' hi'; rw [List.getElem?_eq_getElem hi'] at this; exact Option.some.inj this
    rw [e1, e2]
    omega
  · rw [List.pairwise_iff_getElem]
    intro i i' hi hi' hii
    have := fL_sorted T d hii hi'
    unfold gp at this
    rw [List.getElem?_eq_getElem hi, List.getElem?_eq_getElem hi'] at this
    exact this
  · rw [fL_mem hw hd hs, ← hu2, List.mem_map]
    constructor
    · rintro ⟨c, hc, e⟩
      obtain ⟨i, hi⟩ := List.getElem?_of_mem hc
      have hil := (List.getElem?_eq_some_iff.mp hi).1
      refine ⟨i, hil, ?_⟩
      rw [show ga is i = c from by unfold ga; rw [hi]; rfl, e]
    · rintro ⟨i, hi, e⟩
      exact ⟨ga is i, List.mem_of_getElem? (hgi i hi), e⟩
/-- what a look leaves -/
def mLk (G : Nat → Nat → Int32) (T : St) (d : Nat) : Prop := mTk G T.2.1 ∧ G 0 42 = nI (fL T d).length ∧ ∀ i, i < (fL T d).length → ∃ c, c < 2800 ∧ G 36 i = nI c ∧ G 32 c = nI (gp (fL T d) i).1 ∧ G 33 c = nI (fO T (gp (fL T d) i) + lO T (gp (fL T d) i)) ∧ G 34 c = nI (gp (fL T d) i).2 ∧ G 35 c = nI (rk T.2.2.2.2.1 (T.2.2.2.2.2.2 d).1 (gp (fL T d) i).2)
theorem x_look (hm : mS S m) (hw : wf T) (hd : d < 4) (hG : mT G T) {TN : List Nat} (hs : iS T d TN) : ∃ G', f_X10_look (sI S (mw I m G)) m (nI d) = some (sI S (mw I m G')) ∧ mQ5 G G' ∧ mLk G' T d := by
  obtain ⟨G1, L, e1, s1, hk1, hf1, hL1, hL2⟩ := x_findsAll (S := S) (I := I) hm hw hd hG
  have hL : okL T d L := ⟨hL1, hL2⟩
  have hl := (tsO_wT hw.2.1).1
  obtain ⟨G2, hG2⟩ : ∃ G2, G2 = uF G1 0 42 0 := ⟨_, rfl⟩
  have s2 : mQl G1 G2 := ⟨fun k a b j => by rw [hG2, uF_ne (by omega)], fun j a => by rw [hG2, uF_ne (by omega)]⟩
  obtain ⟨z, e2, G3, is, rfl, f1, f2, f3, f4⟩ := it_gen (b := fun (v : Int32 × PS) => f_X10_look_b12 m v.1 v.2)
    (P := fun k s => ∃ G' is, mQl G1 G' ∧ mTa G' is ∧ tkI T d L is ∧ ((k = 162 - is.length ∧ s = (1, sI S (mw I m G'))) ∨ (k = 0 ∧ s = (0, sI S (mw I m G')) ∧ ∀ c, c < L.length → ¬ frT T L is c)))
    (Q := fun z => ∃ G' is, z = sI S (mw I m G') ∧ mQl G1 G' ∧ mTa G' is ∧ tkI T d L is ∧ ∀ c, c < L.length → ¬ frT T L is c)
    (fun k s ⟨G', is, f1, f2, f3, h⟩ => by
      have hil := f3.len hw hL
      rcases h with ⟨hk, e⟩ | ⟨hk, e, h4⟩
      · subst e
        refine Or.inl ?_
        simp only
        unfold f_X10_look_b12
        rw [if_neg (show ¬ (1 : Int32) = 0 by decide), lt_eq]
        rcases x_best (S := S) (I := I) hm hw hd (f1.tk hk1) (f1.fd hf1) hL f2 (by omega) f3.1 with ⟨e3, h4⟩ | ⟨c, hc, e3, h4, h5⟩
        · rw [e3]
          refine ⟨(0, sI S (mw I m G')), 0, rfl, by omega, G', is, f1, f2, f3, Or.inr ⟨rfl, rfl, h4⟩⟩
        · have hc9 := hL.1
          rw [e3]
          simp only [Option.bind_some]
          rw [lt_eq, if_neg (nI_pos (show c < 2 ^ 31 by omega))]
          dsimp only
          rw [lt_eq, lt_eq, if_neg (show ¬ (1 : Int32) = 0 by decide), if_pos (show kK (sI S (mw I m G')) m = 14 from xK_0 hm), lt_eq, show kI (sI S (mw I m G')) m 42 = nI is.length from by rw [kI_sI, mw_0]; exact f2.1]
          have hlt : is.length < 160 := by
            -- one more can be taken
            have hz : tkI T d L (is.insertIdx is.length c) → is.length + 1 ≤ (tsO T.2.1).length := fun y => by
              have := y.len hw hL
              rw [List.length_insertIdx, if_pos (Nat.le_refl _)] at this
              exact this
            apply Classical.byContradiction
            intro hz2
            -- the place where it goes, by its first sign
            have hex : ∃ at1, at1 ≤ is.length ∧ (at1 = 0 ∨ pl T L (ga is (at1 - 1)) ≤ pl T L c) ∧ ∀ i, at1 ≤ i → i < is.length → pl T L c < pl T L (ga is i) := by
              have : ∀ n, n ≤ is.length → (∀ i, n ≤ i → i < is.length → pl T L c < pl T L (ga is i)) → ∃ at1, at1 ≤ is.length ∧ (at1 = 0 ∨ pl T L (ga is (at1 - 1)) ≤ pl T L c) ∧ ∀ i, at1 ≤ i → i < is.length → pl T L c < pl T L (ga is i) := by
                intro n
                induction n with
                | zero => exact fun h0 h9 => ⟨0, h0, Or.inl rfl, h9⟩
                | succ n ih =>
                  intro h0 h9
                  by_cases e : pl T L (ga is n) ≤ pl T L c
                  · exact ⟨n + 1, h0, Or.inr e, h9⟩
                  · exact ih (by omega) (fun i hi1 hi2 => by
                      by_cases e2 : i = n
                      · rw [e2]; omega
                      · exact h9 i (by omega) hi2)
              exact this is.length (Nat.le_refl _) (fun i h1 h2 => absurd h1 (by omega))
            obtain ⟨at1, y1, y2, y3⟩ := hex
            have := (f3.ins hw hL hc h4 h5 y1 y2 y3).len hw hL
            rw [List.length_insertIdx, if_pos y1] at this
            omega
          obtain ⟨G4, at1, e4, g1, g2, g3, g4, g5, g6, g7⟩ := x_insert (S := S) (I := I) hm hw (f1.tk hk1) (f1.fd hf1) hL f2 hlt f3.1 hc
          rw [e4]
          have hlen : (is.insertIdx at1 c).length = is.length + 1 := by rw [List.length_insertIdx, if_pos g3]
          refine ⟨(1, sI S (mw I m (uF (uF G4 36 at1 (nI c)) 0 42 (nI (is.length + 1))))), 162 - (is.length + 1), ?_, by omega, _, is.insertIdx at1 c, (f1.tr g1).tr ⟨fun k a b j => by rw [uF_ne (by omega), uF_ne (by omega)], fun j a => by rw [uF_ne (by omega), uF_ne (by omega)]⟩, ⟨by rw [uF_eq, hlen], fun i hi => ?_⟩, f3.ins hw hL hc h4 h5 g3 g4 g5, Or.inl ⟨by rw [hlen], rfl⟩⟩
          · have r36 : uF G4 36 at1 (nI c) 0 42 = nI is.length := by rw [uF_ne (Or.inl (by decide))]; exact g2
            simp only [↓reduceIte, kK_sI, kQ_sI, kN_sI, kI_sI, wI_sI, Option.bind_some, lt, mw_0, mw_up0, xK_0 hm, xK_1 hm, xN_1 hm, xQ_1 hm, mw_1, mw_up1, xK_2 hm, xN_2 hm, xQ_2 hm, mw_2, mw_up2, xK_3 hm, xN_3 hm, xQ_3 hm, mw_3, mw_up3, xK_4 hm, xN_4 hm, xQ_4 hm, mw_4, mw_up4, xK_5 hm, xN_5 hm, xQ_5 hm, mw_5, mw_up5, xK_6 hm, xN_6 hm, xQ_6 hm, mw_6, mw_up6, xK_7 hm, xN_7 hm, xQ_7 hm, mw_7, mw_up7, xK_8 hm, xN_8 hm, xQ_8 hm, mw_8, mw_up8, xK_9 hm, xN_9 hm, xQ_9 hm, mw_9, mw_up9, xK_10 hm, xN_10 hm, xQ_10 hm, mw_10, mw_up10, xK_11 hm, xN_11 hm, xQ_11 hm, mw_11, mw_up11, xK_12 hm, xN_12 hm, xQ_12 hm, mw_12, mw_up12, xK_13 hm, xN_13 hm, xQ_13 hm, mw_13, mw_up13, xK_14 hm, xN_14 hm, xQ_14 hm, mw_14, mw_up14, xK_15 hm, xN_15 hm, xQ_15 hm, mw_15, mw_up15, xK_16 hm, xN_16 hm, xQ_16 hm, mw_16, mw_up16, xK_17 hm, xN_17 hm, xQ_17 hm, mw_17, mw_up17, xK_18 hm, xN_18 hm, xQ_18 hm, mw_18, mw_up18, xK_19 hm, xN_19 hm, xQ_19 hm, mw_19, mw_up19, xK_20 hm, xN_20 hm, xQ_20 hm, mw_20, mw_up20, xK_21 hm, xN_21 hm, xQ_21 hm, mw_21, mw_up21, xK_22 hm, xN_22 hm, xQ_22 hm, mw_22, mw_up22, xK_23 hm, xN_23 hm, xQ_23 hm, mw_23, mw_up23, xK_24 hm, xN_24 hm, xQ_24 hm, mw_24, mw_up24, xK_25 hm, xN_25 hm, xQ_25 hm, mw_25, mw_up25, xK_26 hm, xN_26 hm, xQ_26 hm, mw_26, mw_up26, xK_27 hm, xN_27 hm, xQ_27 hm, mw_27, mw_up27, xK_28 hm, xN_28 hm, xQ_28 hm, mw_28, mw_up28, xK_29 hm, xN_29 hm, xQ_29 hm, mw_29, mw_up29, xK_30 hm, xN_30 hm, xQ_30 hm, mw_30, mw_up30, xK_31 hm, xN_31 hm, xQ_31 hm, mw_31, mw_up31, xK_32 hm, xN_32 hm, xQ_32 hm, mw_32, mw_up32, xK_33 hm, xN_33 hm, xQ_33 hm, mw_33, mw_up33, xK_34 hm, xN_34 hm, xQ_34 hm, mw_34, mw_up34, xK_35 hm, xN_35 hm, xQ_35 hm, mw_35, mw_up35, xK_36 hm, xN_36 hm, xQ_36 hm, mw_36, mw_up36, xK_37 hm, xN_37 hm, xQ_37 hm, mw_37, mw_up37, nI_clamp (show at1 < 2 ^ 31 by omega), bd2 (show at1 < 160 by omega) (show at1 < 2 ^ 31 by omega), not_false_eq_true, r36, nI_1]
          · rw [hlen] at hi
            rw [uF_ne (Or.inl (by decide)), ga_ins g3]
            by_cases h6 : i < at1
            · rw [if_pos h6, uF_ne (Or.inr (by omega))]; exact g6 i h6
            · rw [if_neg h6]
              by_cases h7 : i = at1
              · rw [if_pos h7, h7, uF_eq]
              · rw [if_neg h7, uF_ne (Or.inr h7)]; exact g7 i (by omega) (by omega)
      · subst e
        refine Or.inr ⟨_, ?_, G', is, rfl, f1, f2, f3, h4⟩
        simp only
        unfold f_X10_look_b12
        exact if_pos rfl)
    kF 162 (1, sI S (mw I m G2)) (by unfold kF; omega) ⟨G2, [], s2, ⟨by rw [hG2, uF_eq]; rfl, fun i hi => absurd hi (Nat.not_lt_zero _)⟩, ⟨fun i hi => absurd hi (Nat.not_lt_zero _), fun i i' _ hi => absurd hi (Nat.not_lt_zero _), fun c _ => Or.inl (fun i hi => absurd hi (Nat.not_lt_zero _))⟩, Or.inl ⟨rfl, rfl⟩⟩
  have hfl := f3.fL hw hd hL f4 hs
  have hfd := f1.fd hf1
  refine ⟨G3, ?_, ⟨fun k h1 h2 j => (f1.1 k h1 (by omega) j).trans (s1.1 k h1 h2 j), fun j h1 h2 h3 => (f1.2 j h3).trans (s1.2 j h1 h2 h3)⟩, f1.tk hk1, ?_, fun i hi => ?_⟩
  · unfold f_X10_look
    rw [if_pos (show kK (sI S (mw I m G)) m = 14 from xK_0 hm), e1, Option.bind_some, if_pos (show kK (sI S (mw I m G1)) m = 14 from xK_0 hm), lt_eq, show wI (sI S (mw I m G1)) m 42 0 = sI S (mw I m G2) from by rw [wI_sI, mw_up0, hG2], lt_eq, e2]
    rfl
  · rw [f2.1, ← hfl, List.length_map]
  · rw [← hfl, List.length_map] at hi
    have hc := f3.1 i hi
    have hg : gp (fL T d) i = gp L (ga is i) := by
      rw [← hfl]
      unfold gp ga
      rw [List.getElem?_map, List.getElem?_eq_getElem hi]
      rfl
    obtain ⟨y1, y2, y3, y4⟩ := hfd.2 _ _ (gp_at hc)
    have hp := hL.pe hw hc
    have hn := hL.1
    rw [hg]
    refine ⟨ga is i, by omega, f2.2 i hi, y1, ?_, y3, y4⟩
    rw [y2]
    unfold pl en at hp
    unfold fO lO
    exact congrArg nI (by omega)
end
