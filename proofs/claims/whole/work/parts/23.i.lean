section
variable {S : PS} {I G : Nat → Nat → Int32} {m : Nat} {T : St} {d : Nat}
/-- the word of a pair that decides: 2 while none does -/
def dcN (t : List Int32) (ts : List Tk) (p : List Int32 × List Int32) (k : Nat) : Nat := match pD t ts p k with
  | none => 2
  | some w => if w = p.2 then 0 else 1
theorem pD_or {t : List Int32} {ts : List Tk} {p : List Int32 × List Int32} : ∀ {k : Nat} {w : List Int32}, pD t ts p k = some w → w = p.1 ∨ w = p.2
  | 0, w, h => by simp [pD] at h
  | k + 1, w, h => by
    unfold pD at h
    split at h
    · exact pD_or h
    · split at h
      · rename_i h2
        cases h
        exact pD_or h2
      · split at h
        · cases h; exact Or.inr rfl
        · split at h
          · cases h; exact Or.inl rfl
          · cases h
theorem iT_one {t : List Int32} {ts : List Tk} {l l' : List Int32} {j : Nat} (h : iT t ts l j = true) (h' : iT t ts l' j = true) : l = l' := by
  unfold iT at h h'
  rw [decide_eq_true_eq] at h h'
  exact la_ext (by omega) (fun i hi => by rw [← h.2.2 i hi, ← h'.2.2 i (by omega)])
theorem x_fP1 (hm : mS S m) (hw : wf T) (hd : d < 4) (hG : mT G T) (hk : mTk G T.2.1) {L : List (Nat × Nat)} (hf : mFd G T.2.1 T.2.2.2.2.1 (T.2.2.2.2.2.2 d) L) (hL : L.length < 2800) {j : Nat} (hj : j < (tsO T.2.1).length) {q : Nat} {p : List Int32 × List Int32} (hp : T.2.2.2.2.2.1[q]? = some p) :
    ∃ G' L', f_X10_findsAll_b271 m (nI d) (nI q) (nI (dcN T.2.1 (tsO T.2.1) p j)) (nI j) (sI S (mw I m G)) = some (.inl (nI (dcN T.2.1 (tsO T.2.1) p (j + 1)), nI (j + 1), sI S (mw I m G'))) ∧ fA G G' T d L' ∧ nx L L' (j, 12 + q) (cnT T d j (12 + q)) := by
  have ht := hw.2.1
  have hl := (tsO_wT ht).1
  have hru := hw.2.2.2.2.2.2.1.1
  have hpl := hw.2.2.2.2.2.2.2.2.1
  have hq := (List.getElem?_eq_some_iff.mp hp).1
  obtain ⟨p1, p2, p3⟩ := hw.2.2.2.2.2.2.2.2.2.1 p (List.mem_of_getElem? hp)
  obtain ⟨a1, a2, a3, a4, a5, a6⟩ := id hG
  have hD := a6 d hd
  have hwk := (hw.2.2.2.2.2.2.2.2.2.2 d hd).1
  have hcn := cn_pair hw hd hp hj
  have hm9 : mI9 T.2.2.2.2.1 (12 + q) = 1 := m9_ge (by omega)
  have hrk : rk T.2.2.2.2.1 (T.2.2.2.2.2.2 d).1 (12 + q) = 5 := by
    unfold rk
    rw [List.getElem?_eq_none (by omega)]
    exact if_neg (by omega)
  rw [hm9] at hcn
  have hb := tk_b hj
  obtain ⟨G', e9, e10, e11⟩ := x_finds (S := S) (I := I) (j := j) (r := 12 + q) hm hk ht hd hD hwk hf hL (by omega) (by omega) (by rw [hm9]; omega)
  rw [hm9, hrk] at e9
  rw [hm9] at e11
  rw [show j + 1 - 1 = j by omega] at e9 e11 hcn
  have hwo := x_wordOf (S := S) (I := I) hm a2 hk ht hj (show q < 4 by omega) (a5.2 q p hp).1 (a5.2 q p hp).2 p1 p2
  have hno : ¬ (iT T.2.1 (tsO T.2.1) p.1 j = true ∧ iT T.2.1 (tsO T.2.1) p.2 j = true) := fun z => p3 (iT_one z.1 z.2)
  have hE : f_X10_findsAll_b271 m (nI d) (nI q) (nI (dcN T.2.1 (tsO T.2.1) p j)) (nI j) (sI S (mw I m G)) = if pF T.2.1 (tsO T.2.1) p j = true then some (.inl (nI (dcN T.2.1 (tsO T.2.1) p (j + 1)), nI (j + 1), sI S (mw I m G'))) else some (.inl (nI (dcN T.2.1 (tsO T.2.1) p (j + 1)), nI (j + 1), sI S (mw I m G))) := by
    unfold f_X10_findsAll_b271
    simp only [↓reduceIte, kK_sI, kQ_sI, kN_sI, kI_sI, wI_sI, Option.bind_some, lt, mw_0, mw_up0, xK_0 hm, xK_1 hm, xN_1 hm, xQ_1 hm, mw_1, mw_up1, xK_2 hm, xN_2 hm, xQ_2 hm, mw_2, mw_up2, xK_3 hm, xN_3 hm, xQ_3 hm, mw_3, mw_up3, xK_4 hm, xN_4 hm, xQ_4 hm, mw_4, mw_up4, xK_5 hm, xN_5 hm, xQ_5 hm, mw_5, mw_up5, xK_6 hm, xN_6 hm, xQ_6 hm, mw_6, mw_up6, xK_7 hm, xN_7 hm, xQ_7 hm, mw_7, mw_up7, xK_8 hm, xN_8 hm, xQ_8 hm, mw_8, mw_up8, xK_9 hm, xN_9 hm, xQ_9 hm, mw_9, mw_up9, xK_10 hm, xN_10 hm, xQ_10 hm, mw_10, mw_up10, xK_11 hm, xN_11 hm, xQ_11 hm, mw_11, mw_up11, xK_12 hm, xN_12 hm, xQ_12 hm, mw_12, mw_up12, xK_13 hm, xN_13 hm, xQ_13 hm, mw_13, mw_up13, xK_14 hm, xN_14 hm, xQ_14 hm, mw_14, mw_up14, xK_15 hm, xN_15 hm, xQ_15 hm, mw_15, mw_up15, xK_16 hm, xN_16 hm, xQ_16 hm, mw_16, mw_up16, xK_17 hm, xN_17 hm, xQ_17 hm, mw_17, mw_up17, xK_18 hm, xN_18 hm, xQ_18 hm, mw_18, mw_up18, xK_19 hm, xN_19 hm, xQ_19 hm, mw_19, mw_up19, xK_20 hm, xN_20 hm, xQ_20 hm, mw_20, mw_up20, xK_21 hm, xN_21 hm, xQ_21 hm, mw_21, mw_up21, xK_22 hm, xN_22 hm, xQ_22 hm, mw_22, mw_up22, xK_23 hm, xN_23 hm, xQ_23 hm, mw_23, mw_up23, xK_24 hm, xN_24 hm, xQ_24 hm, mw_24, mw_up24, xK_25 hm, xN_25 hm, xQ_25 hm, mw_25, mw_up25, xK_26 hm, xN_26 hm, xQ_26 hm, mw_26, mw_up26, xK_27 hm, xN_27 hm, xQ_27 hm, mw_27, mw_up27, xK_28 hm, xN_28 hm, xQ_28 hm, mw_28, mw_up28, xK_29 hm, xN_29 hm, xQ_29 hm, mw_29, mw_up29, xK_30 hm, xN_30 hm, xQ_30 hm, mw_30, mw_up30, xK_31 hm, xN_31 hm, xQ_31 hm, mw_31, mw_up31, xK_32 hm, xN_32 hm, xQ_32 hm, mw_32, mw_up32, xK_33 hm, xN_33 hm, xQ_33 hm, mw_33, mw_up33, xK_34 hm, xN_34 hm, xQ_34 hm, mw_34, mw_up34, xK_35 hm, xN_35 hm, xQ_35 hm, mw_35, mw_up35, xK_36 hm, xN_36 hm, xQ_36 hm, mw_36, mw_up36, xK_37 hm, xN_37 hm, xQ_37 hm, mw_37, mw_up37, nI_clamp (show j < 2 ^ 31 by omega), bd2 (show j < 160 by omega) (show j < 2 ^ 31 by omega), not_false_eq_true, hk.1, nI_leI (show (tsO T.2.1).length < 2 ^ 31 by omega) (show j < 2 ^ 31 by omega), if_neg (show ¬ (tsO T.2.1).length ≤ j by omega), (hk.2.1 _ hj).1, (hk.2.1 _ hj).2.1, x_anyT hm hk ht hj, bi_eq0, hwo, show (12 : Int32) + nI q = nI (12 + q) from nI_add .., show (5 : Int32) = nI 5 from rfl, e9, nI_1]
    unfold dcN pF
    cases eQ : tQ (tsO T.2.1) j with
    | true =>
      rw [show pD T.2.1 (tsO T.2.1) p (j + 1) = pD T.2.1 (tsO T.2.1) p j from if_pos eQ]
      simp only [if_neg (show ¬ (true = false) by decide), Bool.not_true, Bool.false_and, Bool.false_eq_true, if_false]
      cases pD T.2.1 (tsO T.2.1) p j with
      | none => rfl
      | some u =>
        simp only
        by_cases e : u = p.2
        · rw [if_pos e]; rfl
        · rw [if_neg e]; rfl
    | false =>
      have hpd : pD T.2.1 (tsO T.2.1) p (j + 1) = match pD T.2.1 (tsO T.2.1) p j with
        | some w => some w
        | none => if iT T.2.1 (tsO T.2.1) p.1 j = true then some p.2 else if iT T.2.1 (tsO T.2.1) p.2 j = true then some p.1 else none := by
        rw [pD, eQ]; exact if_neg (by decide)
      rw [hpd]
      unfold wO
      simp only [if_true, Bool.not_false, Bool.true_and]
      cases hpj : pD T.2.1 (tsO T.2.1) p j with
      | none =>
        simp only
        cases e1 : iT T.2.1 (tsO T.2.1) p.1 j <;> cases e2 : iT T.2.1 (tsO T.2.1) p.2 j
        · rfl
        · have : ¬ p.1 = p.2 := p3
          simp only [Bool.false_eq_true, if_false, if_true, if_neg this]; rfl
        · simp only [Bool.false_eq_true, if_false, if_true]; rfl
        · exact absurd ⟨e1, e2⟩ hno
      | some u =>
        simp only
        rcases pD_or hpj with e | e
        · have : ¬ u = p.2 := by rw [e]; exact p3
          rw [if_neg this, e]
          cases e1 : iT T.2.1 (tsO T.2.1) p.1 j <;> cases e2 : iT T.2.1 (tsO T.2.1) p.2 j
          · rfl
          · rfl
          · rfl
          · exact absurd ⟨e1, e2⟩ hno
        · rw [if_pos e, e]
          cases e1 : iT T.2.1 (tsO T.2.1) p.1 j <;> cases e2 : iT T.2.1 (tsO T.2.1) p.2 j
          · rfl
          · rfl
          · rfl
          · exact absurd ⟨e1, e2⟩ hno
  rw [hE]
  by_cases eF : pF T.2.1 (tsO T.2.1) p j = true
  · rw [if_pos eF]
    refine ⟨G', _, rfl, ⟨e10, e11⟩, ?_⟩
    by_cases e3 : (12 + q, tF (tsO T.2.1) j, tE (tsO T.2.1) j - tF (tsO T.2.1) j) ∈ (T.2.2.2.2.2.2 d).2.2.2
    · rw [if_pos e3]
      exact nx.no (fun z => (hcn.mp z).2 e3)
    · rw [if_neg e3]
      exact nx.app (hcn.mpr ⟨eF, e3⟩)
  · rw [if_neg eF]
    exact ⟨G, L, rfl, ⟨mQf.rf, hf⟩, nx.no (fun z => eF (hcn.mp z).1)⟩
theorem x_fPR (hm : mS S m) (hw : wf T) (hd : d < 4) (hG : mT G T) (hk : mTk G T.2.1) {L : List (Nat × Nat)} (hf : mFd G T.2.1 T.2.2.2.2.1 (T.2.2.2.2.2.2 d) L) (hL : L.length ≤ 2600) {r : Nat} {p : List Int32 × List Int32} (hp : T.2.2.2.2.2.1[r]? = some p) :
    ∃ G' L', (iter (fun (v : Int32 × Int32 × PS) => f_X10_findsAll_b271 m (nI d) (nI r) v.1 v.2.1 v.2.2) kF (2, 0, sI S (mw I m G))) = some (sI S (mw I m G')) ∧ fA G G' T d L' ∧ L'.length ≤ L.length + (tsO T.2.1).length ∧ ∀ q, q ∈ L' ↔ q ∈ L ∨ (q.2 = 12 + r ∧ q.1 < (tsO T.2.1).length ∧ cnT T d q.1 q.2) := by
  have hl := (tsO_wT hw.2.1).1
  obtain ⟨z, e1, G', L', rfl, q1, q2, q3⟩ := it_up (b := fun (v : Int32 × Int32 × PS) => f_X10_findsAll_b271 m (nI d) (nI r) v.1 v.2.1 v.2.2) (tsO T.2.1).length
    (P := fun k s => ∃ G' L', s = (nI (dcN T.2.1 (tsO T.2.1) p k), nI k, sI S (mw I m G')) ∧ fA G G' T d L' ∧ L'.length ≤ L.length + k ∧ ∀ q, q ∈ L' ↔ q ∈ L ∨ (q.2 = 12 + r ∧ q.1 < k ∧ cnT T d q.1 q.2))
    (Q := fun z => ∃ G' L', z = sI S (mw I m G') ∧ fA G G' T d L' ∧ L'.length ≤ L.length + (tsO T.2.1).length ∧ ∀ q, q ∈ L' ↔ q ∈ L ∨ (q.2 = 12 + r ∧ q.1 < (tsO T.2.1).length ∧ cnT T d q.1 q.2))
    (fun k s hk1 ⟨G', L', e, f1, f2, f3⟩ => by
      subst e
      obtain ⟨G2, L2, e2, g1, g2⟩ := x_fP1 (S := S) (I := I) hm hw hd (f1.mt hG) (f1.k hk) f1.2 (by omega) hk1 hp
      refine Or.inl ⟨_, e2, G2, L2, rfl, f1.tr g1, by have := g2.1; omega, fun q => ?_⟩
      rw [g2.2, f3]
      constructor
      · rintro ((z | z) | z)
        · exact Or.inl z
        · exact Or.inr ⟨z.1, by omega, z.2.2⟩
        · rw [z.1]; exact Or.inr ⟨rfl, by simp, z.2⟩
      · rintro (z | z)
        · exact Or.inl (Or.inl z)
        · by_cases e : q.1 = k
          · exact Or.inr ⟨Prod.ext e z.1, by have := z.2.2; rw [e, z.1] at this; exact this⟩
          · exact Or.inl (Or.inr ⟨z.1, by omega, z.2.2⟩))
    (fun s ⟨G', L', e, f1, f2, f3⟩ => by
      subst e
      refine ⟨_, ?_, G', L', rfl, f1, f2, f3⟩
      have h6 := (f1.k hk).1
      simp only
      unfold f_X10_findsAll_b271
      simp only [↓reduceIte, kK_sI, kQ_sI, kN_sI, kI_sI, wI_sI, Option.bind_some, lt, mw_0, mw_up0, xK_0 hm, xK_1 hm, xN_1 hm, xQ_1 hm, mw_1, mw_up1, xK_2 hm, xN_2 hm, xQ_2 hm, mw_2, mw_up2, xK_3 hm, xN_3 hm, xQ_3 hm, mw_3, mw_up3, xK_4 hm, xN_4 hm, xQ_4 hm, mw_4, mw_up4, xK_5 hm, xN_5 hm, xQ_5 hm, mw_5, mw_up5, xK_6 hm, xN_6 hm, xQ_6 hm, mw_6, mw_up6, xK_7 hm, xN_7 hm, xQ_7 hm, mw_7, mw_up7, xK_8 hm, xN_8 hm, xQ_8 hm, mw_8, mw_up8, xK_9 hm, xN_9 hm, xQ_9 hm, mw_9, mw_up9, xK_10 hm, xN_10 hm, xQ_10 hm, mw_10, mw_up10, xK_11 hm, xN_11 hm, xQ_11 hm, mw_11, mw_up11, xK_12 hm, xN_12 hm, xQ_12 hm, mw_12, mw_up12, xK_13 hm, xN_13 hm, xQ_13 hm, mw_13, mw_up13, xK_14 hm, xN_14 hm, xQ_14 hm, mw_14, mw_up14, xK_15 hm, xN_15 hm, xQ_15 hm, mw_15, mw_up15, xK_16 hm, xN_16 hm, xQ_16 hm, mw_16, mw_up16, xK_17 hm, xN_17 hm, xQ_17 hm, mw_17, mw_up17, xK_18 hm, xN_18 hm, xQ_18 hm, mw_18, mw_up18, xK_19 hm, xN_19 hm, xQ_19 hm, mw_19, mw_up19, xK_20 hm, xN_20 hm, xQ_20 hm, mw_20, mw_up20, xK_21 hm, xN_21 hm, xQ_21 hm, mw_21, mw_up21, xK_22 hm, xN_22 hm, xQ_22 hm, mw_22, mw_up22, xK_23 hm, xN_23 hm, xQ_23 hm, mw_23, mw_up23, xK_24 hm, xN_24 hm, xQ_24 hm, mw_24, mw_up24, xK_25 hm, xN_25 hm, xQ_25 hm, mw_25, mw_up25, xK_26 hm, xN_26 hm, xQ_26 hm, mw_26, mw_up26, xK_27 hm, xN_27 hm, xQ_27 hm, mw_27, mw_up27, xK_28 hm, xN_28 hm, xQ_28 hm, mw_28, mw_up28, xK_29 hm, xN_29 hm, xQ_29 hm, mw_29, mw_up29, xK_30 hm, xN_30 hm, xQ_30 hm, mw_30, mw_up30, xK_31 hm, xN_31 hm, xQ_31 hm, mw_31, mw_up31, xK_32 hm, xN_32 hm, xQ_32 hm, mw_32, mw_up32, xK_33 hm, xN_33 hm, xQ_33 hm, mw_33, mw_up33, xK_34 hm, xN_34 hm, xQ_34 hm, mw_34, mw_up34, xK_35 hm, xN_35 hm, xQ_35 hm, mw_35, mw_up35, xK_36 hm, xN_36 hm, xQ_36 hm, mw_36, mw_up36, xK_37 hm, xN_37 hm, xQ_37 hm, mw_37, mw_up37, h6, nI_leI (show (tsO T.2.1).length < 2 ^ 31 by omega) (show (tsO T.2.1).length < 2 ^ 31 by omega), Nat.le_refl])
    0 (2, 0, sI S (mw I m G)) ⟨G, L, rfl, ⟨mQf.rf, hf⟩, by omega, fun q => ⟨fun z => Or.inl z, fun z => z.elim id (fun y => absurd y.2.1 (by omega))⟩⟩ (Nat.zero_le _) kF (by unfold kF; omega)
  exact ⟨G', L', e1, q1, q2, q3⟩
theorem x_fP (hm : mS S m) (hw : wf T) (hd : d < 4) (hG : mT G T) (hk : mTk G T.2.1) {L : List (Nat × Nat)} (hf : mFd G T.2.1 T.2.2.2.2.1 (T.2.2.2.2.2.2 d) L) (hL : L.length ≤ 2080) :
    ∃ G' L', (iter (fun (v : Int32 × PS) => f_X10_findsAll_b258 m (nI d) v.1 v.2) kF (0, sI S (mw I m G))) = some (sI S (mw I m G')) ∧ fA G G' T d L' ∧ L'.length ≤ 2720 ∧ ∀ q, q ∈ L' ↔ q ∈ L ∨ ∃ r, r < T.2.2.2.2.2.1.length ∧ q.2 = 12 + r ∧ q.1 < (tsO T.2.1).length ∧ cnT T d q.1 q.2 := by
  have hl := (tsO_wT hw.2.1).1
  have hpl := hw.2.2.2.2.2.2.2.2.1
  obtain ⟨z, e1, G', L', rfl, q1, q2, q3⟩ := it_up (b := fun (v : Int32 × PS) => f_X10_findsAll_b258 m (nI d) v.1 v.2) T.2.2.2.2.2.1.length
    (P := fun k s => ∃ G' L', s = (nI k, sI S (mw I m G')) ∧ fA G G' T d L' ∧ L'.length ≤ L.length + k * 160 ∧ ∀ q, q ∈ L' ↔ q ∈ L ∨ ∃ r, r < k ∧ q.2 = 12 + r ∧ q.1 < (tsO T.2.1).length ∧ cnT T d q.1 q.2)
    (Q := fun z => ∃ G' L', z = sI S (mw I m G') ∧ fA G G' T d L' ∧ L'.length ≤ L.length + T.2.2.2.2.2.1.length * 160 ∧ ∀ q, q ∈ L' ↔ q ∈ L ∨ ∃ r, r < T.2.2.2.2.2.1.length ∧ q.2 = 12 + r ∧ q.1 < (tsO T.2.1).length ∧ cnT T d q.1 q.2)
    (fun k s hk1 ⟨G', L', e, f1, f2, f3⟩ => by
      subst e
      obtain ⟨v, hv⟩ : ∃ v, T.2.2.2.2.2.1[k]? = some v := ⟨_, List.getElem?_eq_getElem hk1⟩
      obtain ⟨G2, L2, e2, g1, g2, g3⟩ := x_fPR (S := S) (I := I) hm hw hd (f1.mt hG) (f1.k hk) f1.2 (by omega) hv
      have h6 := (f1.mt hG).2.2.2.2.1.1
      refine Or.inl ⟨_, ?_, G2, L2, rfl, f1.tr g1, by omega, fun q => ?_⟩
      · simp only
        unfold f_X10_findsAll_b258
        simp only [↓reduceIte, kK_sI, kQ_sI, kN_sI, kI_sI, wI_sI, Option.bind_some, lt, mw_0, mw_up0, xK_0 hm, xK_1 hm, xN_1 hm, xQ_1 hm, mw_1, mw_up1, xK_2 hm, xN_2 hm, xQ_2 hm, mw_2, mw_up2, xK_3 hm, xN_3 hm, xQ_3 hm, mw_3, mw_up3, xK_4 hm, xN_4 hm, xQ_4 hm, mw_4, mw_up4, xK_5 hm, xN_5 hm, xQ_5 hm, mw_5, mw_up5, xK_6 hm, xN_6 hm, xQ_6 hm, mw_6, mw_up6, xK_7 hm, xN_7 hm, xQ_7 hm, mw_7, mw_up7, xK_8 hm, xN_8 hm, xQ_8 hm, mw_8, mw_up8, xK_9 hm, xN_9 hm, xQ_9 hm, mw_9, mw_up9, xK_10 hm, xN_10 hm, xQ_10 hm, mw_10, mw_up10, xK_11 hm, xN_11 hm, xQ_11 hm, mw_11, mw_up11, xK_12 hm, xN_12 hm, xQ_12 hm, mw_12, mw_up12, xK_13 hm, xN_13 hm, xQ_13 hm, mw_13, mw_up13, xK_14 hm, xN_14 hm, xQ_14 hm, mw_14, mw_up14, xK_15 hm, xN_15 hm, xQ_15 hm, mw_15, mw_up15, xK_16 hm, xN_16 hm, xQ_16 hm, mw_16, mw_up16, xK_17 hm, xN_17 hm, xQ_17 hm, mw_17, mw_up17, xK_18 hm, xN_18 hm, xQ_18 hm, mw_18, mw_up18, xK_19 hm, xN_19 hm, xQ_19 hm, mw_19, mw_up19, xK_20 hm, xN_20 hm, xQ_20 hm, mw_20, mw_up20, xK_21 hm, xN_21 hm, xQ_21 hm, mw_21, mw_up21, xK_22 hm, xN_22 hm, xQ_22 hm, mw_22, mw_up22, xK_23 hm, xN_23 hm, xQ_23 hm, mw_23, mw_up23, xK_24 hm, xN_24 hm, xQ_24 hm, mw_24, mw_up24, xK_25 hm, xN_25 hm, xQ_25 hm, mw_25, mw_up25, xK_26 hm, xN_26 hm, xQ_26 hm, mw_26, mw_up26, xK_27 hm, xN_27 hm, xQ_27 hm, mw_27, mw_up27, xK_28 hm, xN_28 hm, xQ_28 hm, mw_28, mw_up28, xK_29 hm, xN_29 hm, xQ_29 hm, mw_29, mw_up29, xK_30 hm, xN_30 hm, xQ_30 hm, mw_30, mw_up30, xK_31 hm, xN_31 hm, xQ_31 hm, mw_31, mw_up31, xK_32 hm, xN_32 hm, xQ_32 hm, mw_32, mw_up32, xK_33 hm, xN_33 hm, xQ_33 hm, mw_33, mw_up33, xK_34 hm, xN_34 hm, xQ_34 hm, mw_34, mw_up34, xK_35 hm, xN_35 hm, xQ_35 hm, mw_35, mw_up35, xK_36 hm, xN_36 hm, xQ_36 hm, mw_36, mw_up36, xK_37 hm, xN_37 hm, xQ_37 hm, mw_37, mw_up37, h6, nI_leI (show T.2.2.2.2.2.1.length < 2 ^ 31 by omega) (show k < 2 ^ 31 by omega), if_neg (show ¬ T.2.2.2.2.2.1.length ≤ k by omega), e2, nI_1]
      · rw [g3, f3]
        constructor
        · rintro ((z | ⟨r, z1, z2, z3⟩) | z)
          · exact Or.inl z
          · exact Or.inr ⟨r, by omega, z2, z3⟩
          · exact Or.inr ⟨k, by omega, z⟩
        · rintro (z | ⟨r, z1, z2, z3⟩)
          · exact Or.inl (Or.inl z)
          · by_cases e : r = k
            · rw [e] at z2; exact Or.inr ⟨z2, z3⟩
            · exact Or.inl (Or.inr ⟨r, by omega, z2, z3⟩))
    (fun s ⟨G', L', e, f1, f2, f3⟩ => by
      subst e
      have h6 := (f1.mt hG).2.2.2.2.1.1
      refine ⟨_, ?_, G', L', rfl, f1, f2, f3⟩
      simp only
      unfold f_X10_findsAll_b258
      simp only [↓reduceIte, kK_sI, kQ_sI, kN_sI, kI_sI, wI_sI, Option.bind_some, lt, mw_0, mw_up0, xK_0 hm, xK_1 hm, xN_1 hm, xQ_1 hm, mw_1, mw_up1, xK_2 hm, xN_2 hm, xQ_2 hm, mw_2, mw_up2, xK_3 hm, xN_3 hm, xQ_3 hm, mw_3, mw_up3, xK_4 hm, xN_4 hm, xQ_4 hm, mw_4, mw_up4, xK_5 hm, xN_5 hm, xQ_5 hm, mw_5, mw_up5, xK_6 hm, xN_6 hm, xQ_6 hm, mw_6, mw_up6, xK_7 hm, xN_7 hm, xQ_7 hm, mw_7, mw_up7, xK_8 hm, xN_8 hm, xQ_8 hm, mw_8, mw_up8, xK_9 hm, xN_9 hm, xQ_9 hm, mw_9, mw_up9, xK_10 hm, xN_10 hm, xQ_10 hm, mw_10, mw_up10, xK_11 hm, xN_11 hm, xQ_11 hm, mw_11, mw_up11, xK_12 hm, xN_12 hm, xQ_12 hm, mw_12, mw_up12, xK_13 hm, xN_13 hm, xQ_13 hm, mw_13, mw_up13, xK_14 hm, xN_14 hm, xQ_14 hm, mw_14, mw_up14, xK_15 hm, xN_15 hm, xQ_15 hm, mw_15, mw_up15, xK_16 hm, xN_16 hm, xQ_16 hm, mw_16, mw_up16, xK_17 hm, xN_17 hm, xQ_17 hm, mw_17, mw_up17, xK_18 hm, xN_18 hm, xQ_18 hm, mw_18, mw_up18, xK_19 hm, xN_19 hm, xQ_19 hm, mw_19, mw_up19, xK_20 hm, xN_20 hm, xQ_20 hm, mw_20, mw_up20, xK_21 hm, xN_21 hm, xQ_21 hm, mw_21, mw_up21, xK_22 hm, xN_22 hm, xQ_22 hm, mw_22, mw_up22, xK_23 hm, xN_23 hm, xQ_23 hm, mw_23, mw_up23, xK_24 hm, xN_24 hm, xQ_24 hm, mw_24, mw_up24, xK_25 hm, xN_25 hm, xQ_25 hm, mw_25, mw_up25, xK_26 hm, xN_26 hm, xQ_26 hm, mw_26, mw_up26, xK_27 hm, xN_27 hm, xQ_27 hm, mw_27, mw_up27, xK_28 hm, xN_28 hm, xQ_28 hm, mw_28, mw_up28, xK_29 hm, xN_29 hm, xQ_29 hm, mw_29, mw_up29, xK_30 hm, xN_30 hm, xQ_30 hm, mw_30, mw_up30, xK_31 hm, xN_31 hm, xQ_31 hm, mw_31, mw_up31, xK_32 hm, xN_32 hm, xQ_32 hm, mw_32, mw_up32, xK_33 hm, xN_33 hm, xQ_33 hm, mw_33, mw_up33, xK_34 hm, xN_34 hm, xQ_34 hm, mw_34, mw_up34, xK_35 hm, xN_35 hm, xQ_35 hm, mw_35, mw_up35, xK_36 hm, xN_36 hm, xQ_36 hm, mw_36, mw_up36, xK_37 hm, xN_37 hm, xQ_37 hm, mw_37, mw_up37, h6, nI_leI (show T.2.2.2.2.2.1.length < 2 ^ 31 by omega) (show T.2.2.2.2.2.1.length < 2 ^ 31 by omega), Nat.le_refl])
    0 (0, sI S (mw I m G)) ⟨G, L, rfl, ⟨mQf.rf, hf⟩, by omega, fun q => ⟨fun z => Or.inl z, fun z => z.elim id (fun ⟨r, y, _⟩ => absurd y (by omega))⟩⟩ (Nat.zero_le _) kF (by unfold kF; omega)
  exact ⟨G', L', e1, q1, by omega, q3⟩
/-- only what a look writes changed -/
def mQ5 (G G' : Nat → Nat → Int32) : Prop := (∀ k, 1 ≤ k → k ≤ 26 → ∀ j, G' k j = G k j) ∧ ∀ j, j ≠ 31 → j ≠ 37 → j ≠ 42 → G' 0 j = G 0 j
theorem mQ5.q {G G' : Nat → Nat → Int32} (h : mQ5 G G') : mQ G G' := ⟨h.1, h.2 _ (by decide) (by decide) (by decide), h.2 _ (by decide) (by decide) (by decide), h.2 _ (by decide) (by decide) (by decide), h.2 _ (by decide) (by decide) (by decide)⟩
theorem x_findsAll (hm : mS S m) (hw : wf T) (hd : d < 4) (hG : mT G T) : ∃ G' L, f_X10_findsAll (sI S (mw I m G)) m (nI d) = some (sI S (mw I m G')) ∧ mQ5 G G' ∧ mTk G' T.2.1 ∧ mFd G' T.2.1 T.2.2.2.2.1 (T.2.2.2.2.2.2 d) L ∧ L.length ≤ 2720 ∧ ∀ q, q ∈ L ↔ cnT T d q.1 q.2 := by
  obtain ⟨G1, e1, s1, s2⟩ := x_scan (S := S) (I := I) hm hG.2.1 hw.2.1
  have hk1 : mTk (uF G1 0 37 0) T.2.1 := s2.tk.ext (fun k h1 h2 j => uF_ne (by omega)) (uF_ne (by omega))
  have hG1 : mT (uF G1 0 37 0) T := (hG.q s1.q).q ⟨fun k h1 h2 j => uF_ne (by omega), uF_ne (by omega), uF_ne (by omega), uF_ne (by omega), uF_ne (by omega)⟩
  have hf1 : mFd (uF G1 0 37 0) T.2.1 T.2.2.2.2.1 (T.2.2.2.2.2.2 d) [] := ⟨uF_eq _ _ _ _, fun i p hp => by simp at hp⟩
  obtain ⟨G2, L2, e2, f2, n2, c2⟩ := x_fa (S := S) (I := I) hm hw hd hG1 hk1 hf1
  obtain ⟨G3, L3, e3, f3, n3, c3⟩ := x_fN (S := S) (I := I) hm hw hd (f2.mt hG1) (f2.k hk1) f2.2 n2
  obtain ⟨G4, L4, e4, f4, n4, c4⟩ := x_fP (S := S) (I := I) hm hw hd (f3.mt (f2.mt hG1)) (f3.k (f2.k hk1)) f3.2 n3
  have f14 := (f2.tr f3).tr f4
  refine ⟨G4, L4, ?_, ⟨fun k h1 h2 j => ?_, fun j h1 h2 h3 => ?_⟩, f14.k hk1, f4.2, n4, fun q => ?_⟩
  · unfold f_X10_findsAll
    rw [if_pos (show kK (sI S (mw I m G)) m = 14 from xK_0 hm), e1, Option.bind_some, if_pos (show kK (sI S (mw I m G1)) m = 14 from xK_0 hm), lt_eq, show wI (sI S (mw I m G1)) m 37 0 = sI S (mw I m (uF G1 0 37 0)) from by rw [wI_sI, mw_up0]]
    simp only [lt, e2, e3, e4, Option.bind_some]
  · rw [f14.1.1 k h1 (Or.inl (by omega)) j, uF_ne (by omega), s1.1 k h1 (Or.inl h2) j]
  · rw [f14.1.2 j h2, uF_ne (by omega), s1.2 j h1]
  · rw [c4, c3, c2]
    constructor
    · rintro ((z | z) | ⟨r, z⟩)
      · exact z.2.2
      · exact z.2.2
      · exact z.2.2.2
    · intro z
      have hj := z.2.1
      rcases cn_kinds hw z with y | y | ⟨r, y1, y2⟩
      · exact Or.inl (Or.inl ⟨y, hj, z⟩)
      · exact Or.inl (Or.inr ⟨y, hj, z⟩)
      · exact Or.inr ⟨r, y1, y2, hj, z⟩
end
