/-! the checker is sound -/
theorem oT.lt {ts : List Tk} (h : oT ts) (hw : wT ts) {j j' : Nat} (hj : j ≤ j') (hn : j' < ts.length) : tF ts j < tE ts j' := by
  have st : ∀ k, k < ts.length → tF ts k < tE ts k := by
    intro k hk
    have := (hw.2 k _ (List.getElem?_eq_getElem hk)).1
    unfold tF tE
    rw [List.getElem?_eq_getElem hk]
    exact this
  by_cases e : j = j'
  · subst e; exact st j hn
  · have := h j j' (by omega) hn
    have := st j (by omega)
    have := st j' hn
    omega
theorem tlk_sorted (TN : List Nat) : ∀ (k i i' : Nat), i < i' → i' < (tlk TN k).length → (gp (tlk TN k) i).1 < (gp (tlk TN k) i').1
  | 0, i, i', h, h2 => by simp [tlk] at h2
  | k + 1, i, i', h, h2 => by
    have ih := tlk_sorted TN k i i' h
    simp only [tlk] at h2 ⊢
    split at h2
    · rename_i h0
      rw [if_pos h0, List.append_nil]
      rw [List.append_nil] at h2
      exact ih h2
    · rename_i h0
      rw [if_neg h0]
      simp at h2
      have g1 : ∀ a, a < (tlk TN k).length → gp (tlk TN k ++ [(k, la9 TN k - 1)]) a = gp (tlk TN k) a := by
        intro a ha
        unfold gp
        rw [List.getElem?_append_left ha]
      rw [g1 i (by omega)]
      by_cases e : i' < (tlk TN k).length
      · rw [g1 i' e]; exact ih e
      · have : i' = (tlk TN k).length := by omega
        subst this
        have hm := (mem_tlk TN k _).mp (gp_mem (show i < (tlk TN k).length by omega))
        unfold gp at hm ⊢
        rw [List.getElem?_append_right (Nat.le_refl _)]
        simp only [Nat.sub_self, List.getElem?_cons_zero, Option.getD_some]
        exact hm.1
theorem fL_sorted (T : St) (d : Nat) {i i' : Nat} (h : i < i') (h2 : i' < (fL T d).length) : (gp (fL T d) i).1 < (gp (fL T d) i').1 := tlk_sorted _ _ i i' h h2
theorem fL_mem {T : St} {d : Nat} (hw : wf T) (hd : d < 4) {TN : List Nat} (h : iS T d TN) (p : Nat × Nat) : p ∈ fL T d ↔ aT TN p.1 p.2 := by
  unfold fL
  rw [sl_eq hw hd h, mem_tlk]
  constructor
  · rintro ⟨h1, h2⟩
    exact (aT_la9 h1).mpr h2
  · intro ha
    have hl : p.1 < TN.length := (List.getElem?_eq_some_iff.mp ha).1
    exact ⟨hl, (aT_la9 hl).mp ha⟩
/-- the findings are apart -/
theorem fL_apart {T : St} {d : Nat} (hw : wf T) (hd : d < 4) {TN : List Nat} (h : iS T d TN) {i i' : Nat} (hi : i < i') (hi' : i' < (fL T d).length) : fO T (gp (fL T d) i) + lO T (gp (fL T d) i) ≤ fO T (gp (fL T d) i') := by
  have m1 := gp_mem (show i < (fL T d).length by omega)
  have m2 := gp_mem hi'
  have o1 := fL_ok hw hd h m1
  have o2 := fL_ok hw hd h m2
  have hs := fL_sorted T d hi hi'
  have mm := (hw.2.2.2.2.2.2.1.m (gp (fL T d) i').2).1
  have hno : ¬ (gp (fL T d) i').1 < (gp (fL T d) i).1 + mI9 T.2.2.2.2.1 (gp (fL T d) i).2 := fun z => by
    have := h.2.2.2.1 _ _ _ _ ((fL_mem hw hd h _).mp m1) ((fL_mem hw hd h _).mp m2) ⟨by omega, z⟩
    omega
  have m3 := (hw.2.2.2.2.2.2.1.m (gp (fL T d) i).2).1
  have := tsO_oT T.2.1 ((gp (fL T d) i).1 + mI9 T.2.2.2.2.1 (gp (fL T d) i).2 - 1) (gp (fL T d) i').1 (by omega) (by omega)
  have := o1.2.2.2.2.2
  unfold fO lO
  omega
section
variable {S : PS} {I : Nat → Nat → Int32} {x : Nat} {T : St} {R : Nat → List Int32} {F : Nat → Nat → Int32} {d : Nat} {TN : List Nat}
theorem cf_share (hS : cS S x) (hB : dB S I x T.2.2.2.2.1 T.2.2.2.2.2.1) (h : c9 S I x T d TN R F) (hw : wf T) (hd : d < 4) : f_X2_shareNoSign (sI S I) (x + 68) = some 1 := by
  have hl := h.L hw hd
  have hw2 := hw.2.1
  unfold f_X2_shareNoSign
  simp only [lt]
  by_cases h0 : (fL T d).length = 0
  · have : iter (fun (v : Int32) => f_X2_shareNoSign_b2 (x + 68) (sI S I) v) kF 1 = some (.inl ()) := by
      show iter _ (99999 + 1) 1 = _
      unfold iter f_X2_shareNoSign_b2
      simp only [kK_sI, kQ_sI, kN_sI, kZ_sI, kI_sI, wI_sI, if_true, Option.bind_some, lt, cK_68 hS, cf_count hS h hw hd, h0, if_pos (show nI 0 ≤ 1 by decide +kernel)]
    rw [this]
    rfl
  · obtain ⟨z, e1, q⟩ := it_up (b := fun (v : Int32) => f_X2_shareNoSign_b2 (x + 68) (sI S I) v) (fL T d).length
      (P := fun i s => s = nI i ∧ 1 ≤ i) (Q := fun z => z = .inl ())
      (fun i s hi ⟨e, hi1⟩ => by
        subst e
        have o1 := fL_ok hw hd h.2.2.2.2.2.1 (gp_mem (show i - 1 < (fL T d).length by omega))
        have o2 := fL_ok hw hd h.2.2.2.2.2.1 (gp_mem hi)
        have ap := fL_apart hw hd h.2.2.2.2.2.1 (show i - 1 < i by omega) hi
        unfold f_X2_shareNoSign_b2
        simp only [kK_sI, kQ_sI, kN_sI, kZ_sI, kI_sI, wI_sI, if_true, Option.bind_some, lt, cK_68 hS, cf_count hS h hw hd, nI_leI (show (fL T d).length < 2 ^ 31 by omega) (show i < 2 ^ 31 by omega), if_neg (show ¬ (fL T d).length ≤ i by omega), nI_sub1 (show 0 < i by omega), cf_fromOf hS h hw hd (show i - 1 < (fL T d).length by omega), cf_lengthOf hS hB h hw hd (show i - 1 < (fL T d).length by omega), cf_fromOf hS h hw hd hi, nI_add, nI_leI (show fO T (gp (fL T d) (i - 1)) + lO T (gp (fL T d) (i - 1)) < 2 ^ 31 by omega) (show fO T (gp (fL T d) i) < 2 ^ 31 by omega), if_pos ap]
        exact Or.inl ⟨_, rfl, nI_1 i, by omega⟩)
      (fun s ⟨e, hi1⟩ => by
        subst e
        unfold f_X2_shareNoSign_b2
        simp only [kK_sI, kQ_sI, kN_sI, kZ_sI, kI_sI, wI_sI, if_true, Option.bind_some, lt, cK_68 hS, cf_count hS h hw hd, if_pos (show nI (fL T d).length ≤ nI (fL T d).length from (nI_leI (show (fL T d).length < 2 ^ 31 by omega) (by omega)).mpr (Nat.le_refl _))]
        exact ⟨_, rfl, rfl⟩)
      1 1 ⟨rfl, Nat.le_refl _⟩ (by omega) kF (kF_big (by omega))
    rw [e1, q]
    rfl
theorem cf_leftOut (hS : cS S x) (hB : dB S I x T.2.2.2.2.1 T.2.2.2.2.2.1) (h : c9 S I x T d TN R F) (hw : wf T) (hd : d < 4) {j r : Nat} (hj : j < (tsO T.2.1).length) (hr : r ≤ 20) (hf : fd T.2.1 (tsO T.2.1) T.2.2.2.2.1 T.2.2.2.2.2.1 (T.2.2.2.2.2.2 d) j r = true) (ha : ¬ aT TN j r) : f_X2_isLeftOut (sI S I) (x + 68) (x + dO d) (nI r) (nI j) = some 1 := by
  have hl := h.L hw hd
  have hw2 := hw.2.1
  have hwt := tsO_wT hw2
  have hn := hwt.1
  have hot := tsO_oT T.2.1
  have hin := fd_in hw.2.2.2.2.2.2.1 hj hf
  have hm := hw.2.2.2.2.2.2.1.m r
  have hlt := hot.lt hwt (show j ≤ j + mI9 T.2.2.2.2.1 r - 1 by omega) (by omega)
  have hfe := hwt.fe (j + mI9 T.2.2.2.2.1 r - 1)
  have hk := h.2.1.2.2.2.2.2.2.2 d hd
  have hwk := (hw.2.2.2.2.2.2.2.2.2.2 d hd).1
  unfold f_X2_isLeftOut
  simp only [kK_sI, kQ_sI, kN_sI, kZ_sI, kI_sI, wI_sI, if_true, Option.bind_some, lt, cK_68 hS, cQ_68_0 hS, cQ_68_1 hS, cQ_68_2 hS, cQ_68_3 hS, cQ_68_4 hS, cQ_68_5 hS, cR9_69 hS, cR9_71 hS, cR9_73 hS, cR9_75 hS, cK_10 hS, ct_fromOf hS h.1 h.2.2.2.2.1.1 (show j < 2 ^ 31 by omega), cd_lengthAt hS h.1 h.2.2.2.2.1.1 hB h.2.1.2.2.2.2.1 hw.2.2.2.2.2.2.1 (show r < 2 ^ 31 by omega) (show j < 2 ^ 30 by omega), pk_sub (show tF (tsO T.2.1) j ≤ tE (tsO T.2.1) (j + mI9 T.2.2.2.2.1 r - 1) by omega), cK_d hS hd, cd_ignores hS h.1 hd hk hwk (show r < 2 ^ 31 by omega) (show tF (tsO T.2.1) j < 2 ^ 31 by omega) (show tE (tsO T.2.1) (j + mI9 T.2.2.2.2.1 r - 1) - tF (tsO T.2.1) j < 2 ^ 31 by omega), bi_eq0]
  by_cases hig : (r, tF (tsO T.2.1) j, tE (tsO T.2.1) (j + mI9 T.2.2.2.2.1 r - 1) - tF (tsO T.2.1) j) ∈ (T.2.2.2.2.2.2 d).2.2.2
  · rw [decide_eq_true hig, if_neg (by decide)]
  · rw [decide_eq_false hig, if_pos rfl]
    have hcn : cn T.2.1 (tsO T.2.1) T.2.2.2.2.1 T.2.2.2.2.2.1 (T.2.2.2.2.2.2 d) j r := ⟨hr, hj, hf, hig⟩
    obtain ⟨a, b, hab, hah, hov⟩ : ∃ a b, aT TN a b ∧ ah (mI9 T.2.2.2.2.1) (rk T.2.2.2.2.1 (T.2.2.2.2.2.2 d).1) a b j r ∧ ov (mI9 T.2.2.2.2.1) a b j r := by
      rcases h.2.2.2.2.2.1.2.2.2.2 j r hcn with q | q
      · exact absurd q ha
      · exact q
    have hmem := (fL_mem hw hd h.2.2.2.2.2.1 (a, b)).mpr hab
    obtain ⟨i0, hi0, e0⟩ := List.getElem_of_mem hmem
    have hgp : gp (fL T d) i0 = (a, b) := by unfold gp; rw [List.getElem?_eq_getElem hi0, e0]; rfl
    have hok := fL_ok hw hd h.2.2.2.2.2.1 hmem
    have hmb := hw.2.2.2.2.2.2.1.m b
    have q1 : fO T (a, b) < tE (tsO T.2.1) (j + mI9 T.2.2.2.2.1 r - 1) := hot.lt hwt (show a ≤ _ by have := hov.1; omega) (by omega)
    have q2 : tF (tsO T.2.1) j < tE (tsO T.2.1) (a + mI9 T.2.2.2.2.1 b - 1) := hot.lt hwt (show j ≤ _ by have := hov.2; omega) (by have := hok.2.1; simp only at this; omega)
    have q3 : fO T (a, b) + lO T (a, b) = tE (tsO T.2.1) (a + mI9 T.2.2.2.2.1 b - 1) := by
      have := hok.2.2.2.2.2
      simp only at this
      show tF (tsO T.2.1) a + (tE (tsO T.2.1) (a + mI9 T.2.2.2.2.1 b - 1) - tF (tsO T.2.1) a) = _
      omega
    obtain ⟨z, e1, q⟩ := it_up (b := fun (v : Int32) => f_X2_isLeftOut_b35 (x + 68) (nI (tF (tsO T.2.1) j)) (nI (tE (tsO T.2.1) (j + mI9 T.2.2.2.2.1 r - 1) - tF (tsO T.2.1) j)) (sI S I) v) (fL T d).length
      (P := fun i s => s = nI i ∧ i ≤ i0) (Q := fun z => z = .inr ())
      (fun i s hi ⟨e, hle⟩ => by
        subst e
        have o1 := fL_ok hw hd h.2.2.2.2.2.1 (gp_mem hi)
        unfold f_X2_isLeftOut_b35
        simp only [kK_sI, kQ_sI, kN_sI, kZ_sI, kI_sI, wI_sI, if_true, Option.bind_some, lt, cf_count hS h hw hd, nI_leI (show (fL T d).length < 2 ^ 31 by omega) (show i < 2 ^ 31 by omega), if_neg (show ¬ (fL T d).length ≤ i by omega), cf_fromOf hS h hw hd hi, cf_lengthOf hS hB h hw hd hi, nI_add, show tF (tsO T.2.1) j + (tE (tsO T.2.1) (j + mI9 T.2.2.2.2.1 r - 1) - tF (tsO T.2.1) j) = tE (tsO T.2.1) (j + mI9 T.2.2.2.2.1 r - 1) by omega, nI_leI (show tE (tsO T.2.1) (j + mI9 T.2.2.2.2.1 r - 1) < 2 ^ 31 by omega) (show fO T (gp (fL T d) i) < 2 ^ 31 by omega), nI_leI (show fO T (gp (fL T d) i) + lO T (gp (fL T d) i) < 2 ^ 31 by omega) (show tF (tsO T.2.1) j < 2 ^ 31 by omega)]
        by_cases g1 : tE (tsO T.2.1) (j + mI9 T.2.2.2.2.1 r - 1) ≤ fO T (gp (fL T d) i)
        · rw [if_pos g1]
          have : i ≠ i0 := fun z => by subst z; rw [hgp] at g1; omega
          exact Or.inl ⟨_, rfl, nI_1 i, by omega⟩
        · rw [if_neg g1]
          by_cases g2 : fO T (gp (fL T d) i) + lO T (gp (fL T d) i) ≤ tF (tsO T.2.1) j
          · rw [if_pos g2]
            have : i ≠ i0 := fun z => by subst z; rw [hgp, q3] at g2; omega
            exact Or.inl ⟨_, rfl, nI_1 i, by omega⟩
          · rw [if_neg g2]
            exact Or.inr ⟨_, rfl, rfl⟩)
      (fun s ⟨e, hle⟩ => by omega)
      0 0 ⟨nI_0.symm, Nat.zero_le _⟩ (by omega) kF (kF_big (by omega))
    rw [e1, q]
    rfl
theorem cf_account (hS : cS S x) (hB : dB S I x T.2.2.2.2.1 T.2.2.2.2.2.1) (h : c9 S I x T d TN R F) (hw : wf T) (hd : d < 4) : f_X2_accountForAll (sI S I) (x + 68) (x + dO d) = some 1 := by
  have hl := h.L hw hd
  have hw2 := hw.2.1
  have hwt := tsO_wT hw2
  have hn := hwt.1
  have hk := h.2.1.2.2.2.2.2.2.2 d hd
  have hwk := (hw.2.2.2.2.2.2.2.2.2.2 d hd).1
  unfold f_X2_accountForAll
  simp only [lt]
  obtain ⟨z, e1, q⟩ := it_up (b := fun (v : Int32) => f_X2_accountForAll_b2 (x + 68) (x + dO d) (sI S I) v) (tsO T.2.1).length
    (P := fun i s => s = nI i) (Q := fun z => z = .inl ())
    (fun j s hj e => by
      subst e
      have hj3 : j < 2 ^ 31 := by omega
      obtain ⟨w, gw, hw9⟩ := cd_foundAt (t := T.2.1) (ru := T.2.2.2.2.1) (pa := T.2.2.2.2.2.1) hS h.1 h.2.2.2.2.1.1 hwt hd hk hwk rfl h.2.2.2.2.1.2 hj
      unfold f_X2_accountForAll_b2
      simp only [kK_sI, kQ_sI, kN_sI, kZ_sI, kI_sI, wI_sI, if_true, Option.bind_some, lt, cK_68 hS, cQ_68_0 hS, cQ_68_1 hS, cQ_68_2 hS, cQ_68_3 hS, cQ_68_4 hS, cQ_68_5 hS, cR9_69 hS, cR9_71 hS, cR9_73 hS, cR9_75 hS, cK_10 hS, cK_25 hS, ct_count hS h.1 h.2.2.2.2.1.1, nI_leI (show (tsO T.2.1).length < 2 ^ 31 by omega) hj3, if_neg (show ¬ (tsO T.2.1).length ≤ j by omega), gw]
      obtain ⟨z, e1, q⟩ := it_up (b := fun (v : Int32) => f_X2_accountForAll_b30 (x + 68) (x + dO d) w (nI j) (sI S I) v) 21
        (P := fun i s => s = nI i) (Q := fun z => z = .inl ())
        (fun r s hr e => by
          subst e
          have hr3 : r < 2 ^ 31 := by omega
          have h21 := h.2.2.2.2.2.1.2.1 j
          have hTN : aT TN j r ↔ la9 TN j = r + 1 := aT_la9 (by rw [h.2.2.2.2.2.1.1]; exact hj)
          unfold f_X2_accountForAll_b30
          rw [show (20 : Int32) = nI 20 from rfl]
          simp only [kK_sI, kQ_sI, kN_sI, kZ_sI, kI_sI, wI_sI, if_true, Option.bind_some, lt, cK_68 hS, cQ_68_0 hS, cQ_68_1 hS, cQ_68_2 hS, cQ_68_3 hS, cQ_68_4 hS, cQ_68_5 hS, cR9_69 hS, cR9_71 hS, cR9_73 hS, cR9_75 hS, nI_ltI (show 20 < 2 ^ 31 by decide) hr3, if_neg (show ¬ 20 < r by omega), cm_getn hS h.1 (k := 71) (by decide) hj3, h.2.2.2.2.2.2.1, la9_nI, nI_1, nI_eq (show la9 TN j < 2 ^ 31 by omega) (show r + 1 < 2 ^ 31 by omega), show (1 : Int32) <<< (nI r &&& 31) = mk r from rfl, tb_ne, hw9 r (by omega)]
          left
          by_cases g1 : la9 TN j = r + 1
          · have hf : fd T.2.1 (tsO T.2.1) T.2.2.2.2.1 T.2.2.2.2.2.1 (T.2.2.2.2.2.2 d) j r = true := (h.2.2.2.2.2.1.2.2.1 j r (hTN.mpr g1)).2.2.1
            rw [if_pos g1, hf]
            exact ⟨_, rfl, rfl⟩
          · rw [if_neg g1]
            cases hf : fd T.2.1 (tsO T.2.1) T.2.2.2.2.1 T.2.2.2.2.2.1 (T.2.2.2.2.2.2 d) j r
            · exact ⟨_, rfl, rfl⟩
            · rw [cf_leftOut hS hB h hw hd hj (by omega) hf (fun z => g1 (hTN.mp z))]
              exact ⟨_, rfl, rfl⟩)
        (fun s e => by
          subst e
          unfold f_X2_accountForAll_b30
          rw [if_pos (show (20 : Int32) < nI 21 by decide +kernel)]
          exact ⟨_, rfl, rfl⟩)
        0 0 nI_0.symm (by omega) kF (kF_big (by omega))
      rw [e1, q]
      exact Or.inl ⟨_, rfl, nI_1 j⟩)
    (fun s e => by
      subst e
      unfold f_X2_accountForAll_b2
      simp only [kK_sI, kQ_sI, kN_sI, kZ_sI, kI_sI, wI_sI, if_true, Option.bind_some, lt, cK_68 hS, cQ_68_0 hS, cQ_68_1 hS, cQ_68_2 hS, cQ_68_3 hS, cQ_68_4 hS, cQ_68_5 hS, cR9_69 hS, cR9_71 hS, cR9_73 hS, cR9_75 hS, cK_10 hS, ct_count hS h.1 h.2.2.2.2.1.1, if_pos (show nI (tsO T.2.1).length ≤ nI (tsO T.2.1).length from (nI_leI (show (tsO T.2.1).length < 2 ^ 31 by omega) (by omega)).mpr (Nat.le_refl _))]
      exact ⟨_, rfl, rfl⟩)
    0 0 nI_0.symm (by omega) kF (kF_big (by omega))
  rw [e1, q]
  rfl
theorem cf_within (hS : cS S x) (hM : cM I x R F) (hT : cT T R F) (hw : wf T) (hd : d < 4) : f_X1_ignoredLieWithin (sI S I) (x + dO d) (nI T.2.1.length) = some 1 := by
  have hk := hT.2.2.2.2.2.2.2 d hd
  obtain ⟨hwk, hwg⟩ := hw.2.2.2.2.2.2.2.2.2.2 d hd
  have hw2 := hw.2.1
  have hl := hwk.2.2.2.1
  unfold f_X1_ignoredLieWithin
  simp only [lt]
  obtain ⟨z, e1, q⟩ := it_up (b := fun (v : Int32) => f_X1_ignoredLieWithin_b2 (x + dO d) (nI T.2.1.length) (sI S I) v) (T.2.2.2.2.2.2 d).2.2.2.length
    (P := fun i s => s = nI i) (Q := fun z => z = .inl ())
    (fun i s hi e => by
      subst e
      have hi3 : i < 2 ^ 31 := by omega
      obtain ⟨g, hg⟩ : ∃ g, (T.2.2.2.2.2.2 d).2.2.2[i]? = some g := ⟨_, List.getElem?_eq_getElem hi⟩
      have hgg := hwg g (List.mem_of_getElem? hg)
      unfold f_X1_ignoredLieWithin_b2
      simp only [kK_sI, kQ_sI, kN_sI, kZ_sI, kI_sI, wI_sI, if_true, Option.bind_some, lt, cK_d hS hd, cQ_d_0 hS hd, cQ_d_1 hS hd, cQ_d_2 hS hd, cQ_d_3 hS hd, cR9_d1 hS hd, cR9_d3 hS hd, cR9_d5 hS hd, cR9_d7 hS hd, cd_count hS hM hd hk, nI_leI (show (T.2.2.2.2.2.2 d).2.2.2.length < 2 ^ 31 by omega) hi3, if_neg (show ¬ (T.2.2.2.2.2.2 d).2.2.2.length ≤ i by omega), cm_getn hS hM (k := dO d + 5) (by rw [capT_d5]; decide) hi3, cm_getn hS hM (k := dO d + 7) (by rw [capT_d7]; decide) hi3, hk.2.2.2.2.1, hk.2.2.2.2.2, la_map, hg, nI_lt0 (show g.2.1 < 2 ^ 31 by omega), if_false, nI_add, nI_leI (show g.2.1 + g.2.2 < 2 ^ 31 by omega) (show T.2.1.length < 2 ^ 31 by omega), if_pos hgg]
      exact Or.inl ⟨_, rfl, nI_1 i⟩)
    (fun s e => by
      subst e
      unfold f_X1_ignoredLieWithin_b2
      simp only [kK_sI, kQ_sI, kN_sI, kZ_sI, kI_sI, wI_sI, if_true, Option.bind_some, lt, cK_d hS hd, cQ_d_0 hS hd, cQ_d_1 hS hd, cQ_d_2 hS hd, cQ_d_3 hS hd, cR9_d1 hS hd, cR9_d3 hS hd, cR9_d5 hS hd, cR9_d7 hS hd, cd_count hS hM hd hk, if_pos (show nI (T.2.2.2.2.2.2 d).2.2.2.length ≤ nI (T.2.2.2.2.2.2 d).2.2.2.length from (nI_leI (show (T.2.2.2.2.2.2 d).2.2.2.length < 2 ^ 31 by omega) (by omega)).mpr (Nat.le_refl _))]
      exact ⟨_, rfl, rfl⟩)
    0 0 nI_0.symm (by omega) kF (kF_big (by omega))
  rw [e1, q]
  rfl
theorem bn2_l {α β γ ε : Type} (a : α) (b : β) (f : α → β → Option γ) : bn2 (some (.inl (a, b) : (α × β) ⊕ ε)) f = f a b := rfl
theorem ci_isSound (hI : cI S I x T) (hw : wf T) : ∃ J, f_X9_isSound (sI S I) x = some (sI S J, 1) ∧ ou I J x ∧ cI S J x T := by
  have hS := hI.1
  unfold f_X9_isSound
  simp only [lt]
  obtain ⟨z, e1, J, rfl, u, hJ⟩ := it_up (b := fun (v : Int32 × Int32 × PS) => f_X9_isSound_b4 x v.1 v.2.1 v.2.2) 4
    (P := fun i s => ∃ J, s = (1, nI i, sI S J) ∧ ou I J x ∧ cI S J x T) (Q := fun z => ∃ J, z = (1, sI S J) ∧ ou I J x ∧ cI S J x T)
    (fun i s hi ⟨J, e, u, hJ⟩ => by
      subst e
      obtain ⟨-, hB, R, F, hM, hT, hC⟩ := id hJ
      have hn : J (x + 30) 2 = nI 4 := by rw [hM.2 30 2 rfl, hT.2.2.2.2.2.2.1]
      obtain ⟨J2, R2, F2, TN, g, u2, h9⟩ := ci_findFor hJ hw hi
      have hB2 := hB.kept u2
      unfold f_X9_isSound_b4
      simp only [kK_sI, kQ_sI, kN_sI, kZ_sI, kI_sI, wI_sI, if_true, Option.bind_some, lt, cK_0 hS, cQ_0_0 hS, cQ_0_1 hS, cQ_0_2 hS, cQ_0_3 hS, cQ_0_4 hS, cQ_0_5 hS, cQ_0_6 hS, cR9_1 hS, cR9_77 hS, cK_3 hS, cQ_3_0 hS, cQ_3_1 hS, cQ_3_2 hS, cR9_4 hS, cR9_6 hS, cR9_8 hS, cK_30 hS, cK_68 hS, dl_size (dl_desks hS) hn, nI_leI (show 4 < 2 ^ 31 by decide) (show i < 2 ^ 31 by omega), if_neg (show ¬ 4 ≤ i by omega), g, bn2_l, cf_share hS hB2 h9 hw hi, cf_account hS hB2 h9 hw hi, cm_count hS h9.1 (k := 4) (by decide), h9.2.1.2.1, cK_d hS hi, cf_within hS h9.1 h9.2.1 hw hi, show ¬ ((1 : Int32) = 0) by decide, if_false, nI_1]
      exact Or.inl ⟨_, rfl, J2, rfl, u.tr u2, h9.ci hS hB2 hi⟩)
    (fun s ⟨J, e, u, hJ⟩ => by
      subst e
      obtain ⟨-, hB, R, F, hM, hT, hC⟩ := id hJ
      have hn : J (x + 30) 2 = nI 4 := by rw [hM.2 30 2 rfl, hT.2.2.2.2.2.2.1]
      unfold f_X9_isSound_b4
      simp only [kK_sI, kQ_sI, kN_sI, kZ_sI, kI_sI, wI_sI, if_true, Option.bind_some, lt, cK_0 hS, cQ_0_0 hS, cQ_0_1 hS, cQ_0_2 hS, cQ_0_3 hS, cQ_0_4 hS, cQ_0_5 hS, cQ_0_6 hS, cR9_1 hS, cR9_77 hS, cK_30 hS, dl_size (dl_desks hS) hn, if_pos (show nI 4 ≤ nI 4 by decide +kernel)]
      exact ⟨_, rfl, J, rfl, u, hJ⟩)
    0 (1, 0, sI S I) ⟨I, by rw [nI_0], ou.rf, hI⟩ (by omega) 5 (by omega)
  rw [e1]
  exact ⟨J, rfl, u, hJ⟩
end
