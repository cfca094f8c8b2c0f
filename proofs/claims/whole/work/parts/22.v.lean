/-! the model scans the text -/
section
variable {α : Type}
theorem d_open (q : Bool) (c : Int32) (F : Int32 → Option α) : (lt F fun j28 => lt (fun (u112 : Unit) => j28 0) fun j111 => if bi q = 0 then (j111 ()) else (if c = (47 : Int32) then (j111 ()) else (j28 1))) = F (bi (q && decide (c ≠ 47))) := by
  simp only [lt, bi_eq0]
  cases q
  · rfl
  · by_cases e : c = 47
    · rw [if_neg (by decide), if_pos e, decide_eq_false (fun z => z e)]; rfl
    · rw [if_neg (by decide), if_neg e, decide_eq_true e]; rfl
theorem d_quo (o : Bool) (c : Int32) (F : Int32 → Option α) : (lt F fun j33 => lt (fun (u106 : Unit) => j33 1) fun j105 => if bi o = 0 then (if c = (34 : Int32) then (j105 ()) else (j33 0)) else (j105 ())) = F (bi (o || decide (c = 34))) := by
  simp only [lt, bi_eq0]
  cases o
  · by_cases e : c = 34
    · rw [if_pos rfl, if_pos e, decide_eq_true e]; rfl
    · rw [if_pos rfl, if_neg e, decide_eq_false e]; rfl
  · rw [if_neg (by decide)]; rfl
theorem d_tog (o : Bool) (c : Int32) (F : Int32 → Option α) : (lt F fun j39 => if c = (34 : Int32) then (if bi o = 0 then (j39 1) else (j39 0)) else (j39 (bi o))) = F (bi (if c = 34 then !o else o)) := by
  simp only [lt, bi_eq0]
  by_cases e : c = 34
  · rw [if_pos e, if_pos e]; cases o <;> rfl
  · rw [if_neg e, if_neg e]
theorem d_par (c : Int32) (F : Int32 → Option α) : (lt F fun j41 => if c = (47 : Int32) then (j41 1) else (j41 0)) = F (nI (if c = 47 then 1 else 0)) := by
  simp only [lt]
  by_cases e : c = 47
  · rw [if_pos e, if_pos e]; rfl
  · rw [if_neg e, if_neg e]; rfl
theorem d_kind (S : PS) (c : Int32) (F : Int32 → Option α) : (lt F fun j47 => if bi (isL c) = 0 then ((f_X10_isDigit S c).bind fun r96 => if r96 = 0 then (j47 0) else (j47 2)) else (j47 1)) = F (nI (kd c)) := by
  simp only [lt, x_digit, Option.bind_some, bi_eq0]
  unfold kd
  cases isL c <;> cases isD c <;> rfl
end
def pq (t : List Int32) (k : Nat) : Bool := ((sc t k).2.1 && decide (la t k ≠ 47)) || decide (la t k = 34)
/-- what the model has scanned of the first k signs -/
def mSc (G : Nat → Nat → Int32) (t : List Int32) (k : Nat) : Prop := G 0 31 = nI (sc t k).1.length ∧ (∀ (j : Nat) (v : Tk), (sc t k).1[j]? = some v → G 27 j = nI v.1 ∧ G 28 j = nI v.2.1 ∧ G 29 j = bi v.2.2.1) ∧ ∀ i, i < k → G 30 i = nI (slN t i) ∧ G 31 i = bi (pq t i)
/-- nothing but what a scan writes changed -/
def mQ2 (G G' : Nat → Nat → Int32) : Prop := (∀ k, 1 ≤ k → (k ≤ 26 ∨ 32 ≤ k) → ∀ j, G' k j = G k j) ∧ ∀ j, j ≠ 31 → G' 0 j = G 0 j
theorem mQ2.q {G G' : Nat → Nat → Int32} (h : mQ2 G G') : mQ G G' := ⟨fun k h1 h2 j => h.1 k h1 (Or.inl h2) j, h.2 _ (by decide), h.2 _ (by decide), h.2 _ (by decide), h.2 _ (by decide)⟩
theorem sc_last (t : List Int32) (k : Nat) : (sc t (k + 1)).2.2.2.2 = kd (la t k) := by
  simp only [sc]
  by_cases g1 : kd (la t k) = 0
  · rw [stp0 g1, g1]
  · by_cases g2 : kd (la t k) = (sc t k).2.2.2.2
    · rw [stp1 g1 g2]
    · rw [stp2 g1 g2]
theorem sc_end (t : List Int32) : ∀ k : Nat, (sc t k).2.2.2.2 ≠ 0 → ∃ v, (sc t k).1[(sc t k).1.length - 1]? = some v ∧ v.2.1 = k
  | 0, h => absurd rfl h
  | k + 1, h => by
    rw [sc_last] at h
    obtain ⟨v1, v2, v3, v4⟩ := sc_inv t k
    simp only [sc]
    by_cases g2 : kd (la t k) = (sc t k).2.2.2.2
    · rw [stp1 h g2]
      obtain ⟨v, e1, e2⟩ := sc_end t k (by rw [← g2]; exact h)
      refine ⟨lenT (la t k) v, ?_, by simp only [lenT, e2]⟩
      simp only [List.length_modify, List.getElem?_modify, if_true, e1]
      rfl
    · rw [stp2 h g2]
      refine ⟨lenT (la t k) (k, k, kd (la t k) == 1, 0, (sc t k).2.1, (sc t k).2.2.1, (sc t k).2.2.2.1), ?_, rfl⟩
      simp
theorem sc_open (t : List Int32) (k : Nat) : (sc t (k + 1)).2.1 = if la t k = 34 then !((sc t k).2.1 && decide (la t k ≠ 47)) else ((sc t k).2.1 && decide (la t k ≠ 47)) := by
  simp only [sc]
  by_cases g1 : kd (la t k) = 0
  · rw [stp0 g1]
    by_cases e : la t k = 47
    · simp [e]
    · by_cases e2 : la t k = 34
      · simp [e2]
      · simp [e, e2]
  · have e47 : la t k ≠ 47 := fun z => g1 (by rw [z]; decide)
    have e34 : la t k ≠ 34 := fun z => g1 (by rw [z]; decide)
    rw [if_neg e34, decide_eq_true e47, Bool.and_true]
    by_cases g2 : kd (la t k) = (sc t k).2.2.2.2
    · rw [stp1 g1 g2]
    · rw [stp2 g1 g2]
section
variable {S : PS} {I G : Nat → Nat → Int32} {m : Nat} {t w : List Int32}
theorem x_scan1 (hm : mS S m) (hx : mTx G t w) (ht : t.length ≤ 160) {k : Nat} (hk : k < t.length) (hs : mSc G t k) : ∃ G', f_X10_scan_b14 m (nI (slN t k)) (bi (sc t k).2.1) (nI (sc t k).2.2.2.2) (nI k) (sI S (mw I m G)) = some (.inl (nI (slN t (k + 1)), bi (sc t (k + 1)).2.1, nI (sc t (k + 1)).2.2.2.2, nI (k + 1), sI S (mw I m G'))) ∧ mQ2 G G' ∧ mSc G' t (k + 1) := by
  obtain ⟨h1, h2, h3⟩ := hs
  obtain ⟨v1, v2, v3, v4⟩ := sc_inv t k
  obtain ⟨G1, hG1⟩ : ∃ G1, G1 = uF (uF G 30 k (nI (slN t k))) 31 k (bi (pq t k)) := ⟨_, rfl⟩
  have f1 : ∀ c j, ¬ (c = 30 ∧ j = k) → ¬ (c = 31 ∧ j = k) → G1 c j = G c j := fun c j q1 q2 => by rw [hG1, uF_ne (by omega), uF_ne (by omega)]
  have g31 : G1 0 31 = nI (sc t k).1.length := by rw [f1 _ _ (by omega) (by omega)]; exact h1
  have hpar : ∀ i, i < k + 1 → G1 30 i = nI (slN t i) ∧ G1 31 i = bi (pq t i) := fun i hi => by
    by_cases e : i = k
    · rw [e, hG1]; exact ⟨by rw [uF_ne (Or.inl (by decide)), uF_eq], uF_eq _ _ _ _⟩
    · rw [f1 _ _ (by omega) (by omega), f1 _ _ (by omega) (by omega)]; exact h3 i (by omega)
  have hq1 : mQ2 G G1 := ⟨fun c q1 q2 j => f1 c j (by omega) (by omega), fun j q => f1 0 j (by omega) (by omega)⟩
  -- the tokens
  obtain ⟨G', e9, q2, q3⟩ : ∃ G', (∀ (F : PS → Option ((Int32 × Int32 × Int32 × Int32 × PS) ⊕ PS)), (lt F fun j49 => lt (fun (u83 : Unit) => if nI (kd (la t k)) ≤ 0 then (j49 (sI S (mw I m G1))) else (if kK (sI S (mw I m G1)) m = 14 then ((kQ (sI S (mw I m G1)) m 32).bind fun a56 => if kK (sI S (mw I m G1)) a56 = 101 then (if ¬ ((kI (sI S (mw I m G1)) m 31) < 0 ∨ kN (sI S (mw I m G1)) a56 ≤ (kI (sI S (mw I m G1)) m 31).toNatClampNeg) then (lt (wI (sI S (mw I m G1)) a56 (kI (sI S (mw I m G1)) m 31).toNatClampNeg (nI k)) fun S60 => if kK S60 m = 14 then ((kQ S60 m 33).bind fun a63 => if kK S60 a63 = 101 then (if ¬ ((kI S60 m 31) < 0 ∨ kN S60 a63 ≤ (kI S60 m 31).toNatClampNeg) then (lt (wI S60 a63 (kI S60 m 31).toNatClampNeg (nI k + 1)) fun S67 => if kK S67 m = 14 then ((kQ S67 m 34).bind fun a70 => lt (fun (x72 : Int32) => if kK S67 a70 = 103 then (if ¬ ((kI S67 m 31) < 0 ∨ kN S67 a70 ≤ (kI S67 m 31).toNatClampNeg) then (lt (wI S67 a70 (kI S67 m 31).toNatClampNeg (vp_nar .boolean x72)) fun S76 => if kK S76 m = 14 then (lt (wI S76 m 31 ((kI S76 m 31) + 1)) fun S79 => j49 S79) else none) else none) else none) fun j73 => if nI (kd (la t k)) = (1 : Int32) then (j73 1) else (j73 0)) else none) else none) else none) else none) else none) else none) else none)) fun j53 => if nI (kd (la t k)) ≤ 0 then (j53 ()) else (if nI (kd (la t k)) = nI (sc t k).2.2.2.2 then (if kK (sI S (mw I m G1)) m = 14 then ((kQ (sI S (mw I m G1)) m 33).bind fun a88 => if kK (sI S (mw I m G1)) a88 = 101 then (if ¬ (((kI (sI S (mw I m G1)) m 31) - 1) < 0 ∨ kN (sI S (mw I m G1)) a88 ≤ ((kI (sI S (mw I m G1)) m 31) - 1).toNatClampNeg) then (lt (wI (sI S (mw I m G1)) a88 ((kI (sI S (mw I m G1)) m 31) - 1).toNatClampNeg (nI k + 1)) fun S92 => j49 S92) else none) else none) else none) else (j53 ()))) = F (sI S (mw I m G'))) ∧ mQ2 G G' ∧ mSc G' t (k + 1) := by
    have hkd := kd_012 (la t k)
    have hlk : (sc t k).2.2.2.2 ≤ 2 := by
      cases k with
      | zero => simp [sc]
      | succ k =>
        simp only [sc]
        unfold stp
        have := kd_012 (la t k)
        split
        · simp
        · split <;> simp only <;> omega
    simp only [kK_sI, kQ_sI, kN_sI, kI_sI, wI_sI, Option.bind_some, lt, mw_0, mw_up0, xK_0 hm, xK_1 hm, xN_1 hm, xQ_1 hm, mw_1, mw_up1, xK_2 hm, xN_2 hm, xQ_2 hm, mw_2, mw_up2, xK_3 hm, xN_3 hm, xQ_3 hm, mw_3, mw_up3, xK_4 hm, xN_4 hm, xQ_4 hm, mw_4, mw_up4, xK_5 hm, xN_5 hm, xQ_5 hm, mw_5, mw_up5, xK_6 hm, xN_6 hm, xQ_6 hm, mw_6, mw_up6, xK_7 hm, xN_7 hm, xQ_7 hm, mw_7, mw_up7, xK_8 hm, xN_8 hm, xQ_8 hm, mw_8, mw_up8, xK_9 hm, xN_9 hm, xQ_9 hm, mw_9, mw_up9, xK_10 hm, xN_10 hm, xQ_10 hm, mw_10, mw_up10, xK_11 hm, xN_11 hm, xQ_11 hm, mw_11, mw_up11, xK_12 hm, xN_12 hm, xQ_12 hm, mw_12, mw_up12, xK_13 hm, xN_13 hm, xQ_13 hm, mw_13, mw_up13, xK_14 hm, xN_14 hm, xQ_14 hm, mw_14, mw_up14, xK_15 hm, xN_15 hm, xQ_15 hm, mw_15, mw_up15, xK_16 hm, xN_16 hm, xQ_16 hm, mw_16, mw_up16, xK_17 hm, xN_17 hm, xQ_17 hm, mw_17, mw_up17, xK_18 hm, xN_18 hm, xQ_18 hm, mw_18, mw_up18, xK_19 hm, xN_19 hm, xQ_19 hm, mw_19, mw_up19, xK_20 hm, xN_20 hm, xQ_20 hm, mw_20, mw_up20, xK_21 hm, xN_21 hm, xQ_21 hm, mw_21, mw_up21, xK_22 hm, xN_22 hm, xQ_22 hm, mw_22, mw_up22, xK_23 hm, xN_23 hm, xQ_23 hm, mw_23, mw_up23, xK_24 hm, xN_24 hm, xQ_24 hm, mw_24, mw_up24, xK_25 hm, xN_25 hm, xQ_25 hm, mw_25, mw_up25, xK_26 hm, xN_26 hm, xQ_26 hm, mw_26, mw_up26, xK_27 hm, xN_27 hm, xQ_27 hm, mw_27, mw_up27, xK_28 hm, xN_28 hm, xQ_28 hm, mw_28, mw_up28, xK_29 hm, xN_29 hm, xQ_29 hm, mw_29, mw_up29, xK_30 hm, xN_30 hm, xQ_30 hm, mw_30, mw_up30, xK_31 hm, xN_31 hm, xQ_31 hm, mw_31, mw_up31, xK_32 hm, xN_32 hm, xQ_32 hm, mw_32, mw_up32, xK_33 hm, xN_33 hm, xQ_33 hm, mw_33, mw_up33, xK_34 hm, xN_34 hm, xQ_34 hm, mw_34, mw_up34, xK_35 hm, xN_35 hm, xQ_35 hm, mw_35, mw_up35, xK_36 hm, xN_36 hm, xQ_36 hm, mw_36, mw_up36, xK_37 hm, xN_37 hm, xQ_37 hm, mw_37, mw_up37, if_true, g31, nI_le0 (show kd (la t k) < 2 ^ 31 by omega), nI_eq (show kd (la t k) < 2 ^ 31 by omega) (show (sc t k).2.2.2.2 < 2 ^ 31 by omega), nI_1]
    by_cases g1 : kd (la t k) = 0
    · refine ⟨G1, fun F => by simp only [if_pos g1], hq1, ?_, ?_, hpar⟩
      · simp only [sc]; rw [stp0 g1]; exact g31
      · simp only [sc]; rw [stp0 g1]
        intro j v hj
        rw [f1 _ _ (by omega) (by omega), f1 _ _ (by omega) (by omega), f1 _ _ (by omega) (by omega)]
        exact h2 j v hj
    · by_cases g2 : kd (la t k) = (sc t k).2.2.2.2
      · obtain ⟨n1, n2⟩ := v2 (by omega)
        refine ⟨uF G1 28 ((sc t k).1.length - 1) (nI (k + 1)), fun F => ?_, ⟨fun c q1 q2 j => by rw [uF_ne (by omega)]; exact hq1.1 c q1 q2 j, fun j q => by rw [uF_ne (by omega)]; exact hq1.2 j q⟩, ?_, ?_, fun i hi => ?_⟩
        · simp only [if_neg g1, if_pos g2, nI_sub1 (show 0 < (sc t k).1.length by omega), nI_clamp (show (sc t k).1.length - 1 < 2 ^ 31 by omega), bd2 (show (sc t k).1.length - 1 < 160 by omega) (show (sc t k).1.length - 1 < 2 ^ 31 by omega), not_false_eq_true, if_true]
        · simp only [sc]; rw [stp1 g1 g2, uF_ne (Or.inl (by decide)), List.length_modify]; exact g31
        · simp only [sc]; rw [stp1 g1 g2]
          intro j v hj
          rw [List.getElem?_modify] at hj
          by_cases e : (sc t k).1.length - 1 = j
          · obtain ⟨u, hu, hu2⟩ := sc_end t k (by rw [← g2]; exact g1)
            rw [e] at hu
            simp only [if_pos e, hu, Option.map_eq_map, Option.map_some, Option.some.injEq] at hj
            subst hj
            obtain ⟨y1, y2, y3⟩ := h2 j u hu
            rw [uF_ne (Or.inl (by decide)), ← e, uF_eq, e, uF_ne (Or.inl (by decide)), f1 _ _ (by omega) (by omega), f1 _ _ (by omega) (by omega)]
            simp only [lenT, hu2]
            exact ⟨y1, trivial, y3⟩
          · have hj : (sc t k).1[j]? = some v := by
              simp only [if_neg e, Option.map_eq_map] at hj
              simpa using hj
            rw [uF_ne (Or.inl (by decide)), uF_ne (Or.inr (Ne.symm e)), uF_ne (Or.inl (by decide)), f1 _ _ (by omega) (by omega), f1 _ _ (by omega) (by omega), f1 _ _ (by omega) (by omega)]
            exact h2 j v hj
        · rw [uF_ne (Or.inl (by decide)), uF_ne (Or.inl (by decide))]; exact hpar i hi
      · obtain ⟨L, hL⟩ : ∃ L, L = (sc t k).1.length := ⟨_, rfl⟩
        rw [← hL] at g31
        have hL1 : L ≤ k := by omega
        obtain ⟨G2, hG2⟩ : ∃ G2, G2 = uF (uF (uF (uF G1 27 L (nI k)) 28 L (nI (k + 1))) 29 L (bi (kd (la t k) == 1))) 0 31 (nI (L + 1)) := ⟨_, rfl⟩
        have f2 : ∀ c j, ¬ (27 ≤ c ∧ c ≤ 29 ∧ j = L) → ¬ (c = 0 ∧ j = 31) → G2 c j = G1 c j := fun c j q1 q2 => by rw [hG2, uF_ne (by omega), uF_ne (by omega), uF_ne (by omega), uF_ne (by omega)]
        refine ⟨G2, fun F => ?_, ⟨fun c q1 q2 j => by rw [f2 _ _ (by omega) (by omega)]; exact hq1.1 c q1 q2 j, fun j q => by rw [f2 _ _ (by omega) (by omega)]; exact hq1.2 j q⟩, ?_, ?_, fun i hi => ?_⟩
        · have r27 : ∀ (H : Nat → Nat → Int32) (j : Nat) (v : Int32), uF H 27 j v 0 31 = H 0 31 := fun H j v => uF_ne (Or.inl (by decide))
          have r28 : ∀ (H : Nat → Nat → Int32) (j : Nat) (v : Int32), uF H 28 j v 0 31 = H 0 31 := fun H j v => uF_ne (Or.inl (by decide))
          have r29 : ∀ (H : Nat → Nat → Int32) (j : Nat) (v : Int32), uF H 29 j v 0 31 = H 0 31 := fun H j v => uF_ne (Or.inl (by decide))
          have hb : ∀ (H : Nat → Nat → Int32), H 0 31 = nI L → ((if nI (kd (la t k)) = (1 : Int32) then F (sI S (mw I m (uF (uF H 29 L (vp_nar .boolean 1)) 0 31 (nI (L + 1))))) else F (sI S (mw I m (uF (uF H 29 L (vp_nar .boolean 0)) 0 31 (nI (L + 1))))))) = F (sI S (mw I m (uF (uF H 29 L (bi (kd (la t k) == 1))) 0 31 (nI (L + 1))))) := fun H hH => by
            by_cases e : kd (la t k) = 1
            · rw [if_pos (by rw [e]; rfl), e]; rfl
            · rw [if_neg (fun z => e (by have := (nI_eq (show kd (la t k) < 2 ^ 31 by omega) (show 1 < 2 ^ 31 by omega)).mp z; exact this)), show (kd (la t k) == 1) = false from by simpa using e]; rfl
          simp only [if_neg g1, if_neg g2, ← hL, nI_clamp (show L < 2 ^ 31 by omega), bd2 (show L < 160 by omega) (show L < 2 ^ 31 by omega), not_false_eq_true, if_true, r27, r28, r29, g31, nI_1]
          rw [hG2]
          exact hb _ (by simp only [r27, r28, g31])
        · simp only [sc]; rw [stp2 g1 g2, hG2, uF_eq, List.length_append, ← hL]; rfl
        · simp only [sc]; rw [stp2 g1 g2]
          intro j v hj
          rw [List.getElem?_append, ← hL] at hj
          by_cases e : j < L
          · rw [if_pos e] at hj
            rw [f2 _ _ (by omega) (by omega), f2 _ _ (by omega) (by omega), f2 _ _ (by omega) (by omega), f1 _ _ (by omega) (by omega), f1 _ _ (by omega) (by omega), f1 _ _ (by omega) (by omega)]
            exact h2 j v hj
          · rw [if_neg e] at hj
            have e2 : j = L := by
              have := (List.getElem?_eq_some_iff.mp hj).1
              simp at this
              omega
            subst e2
            simp only [Nat.sub_self, List.getElem?_cons_zero, Option.some.injEq] at hj
            subst hj
            rw [hG2]
            exact ⟨by rw [uF_ne (by omega), uF_ne (by omega), uF_ne (by omega), uF_eq]; rfl, by rw [uF_ne (by omega), uF_ne (by omega), uF_eq]; rfl, by rw [uF_ne (by omega), uF_eq]; rfl⟩
        · rw [f2 _ _ (by omega) (by omega), f2 _ _ (by omega) (by omega)]; exact hpar i hi
  refine ⟨G', ?_, q2, q3⟩
  have k0 : ∀ J, kK (sI S J) m = 14 := fun J => xK_0 hm
  have b161 : ∀ a J, kN S a = 161 → ¬ (nI k < 0 ∨ kN (sI S J) a ≤ (nI k).toNatClampNeg) := fun a J e => by rw [show kN (sI S J) a = 161 from e]; exact bd (by omega) (by omega)
  have hc : (nI k).toNatClampNeg = k := nI_clamp (by omega)
  unfold f_X10_scan_b14
  rw [if_pos (k0 _), if_neg (show ¬ kI (sI S (mw I m G)) m 3 ≤ nI k from by rw [kI_sI, mw_0, hx.1, nI_leI (by omega) (by omega)]; omega), show kQ (sI S (mw I m G)) m 1 = some (m + 1) from xQ_1 hm, Option.bind_some, if_pos (show kK (sI S (mw I m G)) (m + 1) = 102 from xK_1 hm), if_pos (b161 _ _ (xN_1 hm)), lt_eq,
    show kI (sI S (mw I m G)) (m + 1) (nI k).toNatClampNeg = la t k from by rw [hc, kI_sI, mw_1]; exact hx.2.1 k hk, show kQ (sI S (mw I m G)) m 35 = some (m + 30) from xQ_30 hm, Option.bind_some, if_pos (show kK (sI S (mw I m G)) (m + 30) = 101 from xK_30 hm), if_pos (b161 _ _ (xN_30 hm)), lt_eq, hc,
    show wI (sI S (mw I m G)) (m + 30) k (nI (slN t k)) = sI S (mw I m (uF G 30 k (nI (slN t k)))) from by rw [wI_sI, mw_up30], d_open, if_pos (k0 _), show kQ (sI S (mw I m (uF G 30 k (nI (slN t k))))) m 36 = some (m + 31) from xQ_31 hm, Option.bind_some, d_quo, if_pos (show kK (sI S (mw I m (uF G 30 k (nI (slN t k))))) (m + 31) = 103 from xK_31 hm)]
  rw [if_pos (show ¬ (nI k < 0 ∨ kN (sI S (mw I m (uF G 30 k (nI (slN t k))))) (m + 31) ≤ k) from (by have h9 := b161 (m + 31) (mw I m (uF G 30 k (nI (slN t k)))) (xN_31 hm); rw [hc] at h9; exact h9)), lt_eq,
    show wI (sI S (mw I m (uF G 30 k (nI (slN t k))))) (m + 31) k (vp_nar .boolean (bi ((sc t k).2.1 && decide (la t k ≠ 47) || decide (la t k = 34)))) = sI S (mw I m G1) from by rw [wI_sI, mw_up31, nar_bi, hG1]; rfl, d_tog, d_par, lt_eq, x_letter, Option.bind_some, d_kind, e9, lt_eq]
  rw [sc_last, sc_open, show nI k + 1 = nI (k + 1) from nI_1 _]
  refine congrArg (fun z => some (Sum.inl z)) ?_
  refine Prod.ext ?_ rfl
  simp only [slN]
  by_cases e : la t k = 47
  · rw [if_pos e]; exact nI_add _ _
  · rw [if_neg e]; exact nI_add _ _
/-- the scan -/
theorem x_scan (hm : mS S m) (hx : mTx G t w) (ht : t.length ≤ 160) : ∃ G', f_X10_scan (sI S (mw I m G)) m = some (sI S (mw I m G')) ∧ mQ2 G G' ∧ mSc G' t t.length := by
  unfold f_X10_scan
  rw [if_pos (show kK (sI S (mw I m G)) m = 14 from xK_0 hm), lt_eq, show wI (sI S (mw I m G)) m 31 0 = sI S (mw I m (uF G 0 31 0)) from by rw [wI_sI, mw_up0], lt_eq]
  obtain ⟨z, e1, G', rfl, q1, q2⟩ := it_up (b := fun (v : Int32 × Int32 × Int32 × Int32 × PS) => f_X10_scan_b14 m v.1 v.2.1 v.2.2.1 v.2.2.2.1 v.2.2.2.2) t.length
    (P := fun k s => ∃ G', s = (nI (slN t k), bi (sc t k).2.1, nI (sc t k).2.2.2.2, nI k, sI S (mw I m G')) ∧ mQ2 G G' ∧ mSc G' t k)
    (Q := fun z => ∃ G', z = sI S (mw I m G') ∧ mQ2 G G' ∧ mSc G' t t.length)
    (fun k s hk ⟨G', e, q1, q2⟩ => by
      subst e
      obtain ⟨G'', e2, q3, q4⟩ := x_scan1 (S := S) (I := I) hm (hx.ext (q1.2 3 (by decide)) (q1.1 1 (by decide) (by decide)) (q1.1 2 (by decide) (by decide))) ht hk q2
      exact Or.inl ⟨_, e2, G'', rfl, ⟨fun c h1 h2 j => (q3.1 c h1 h2 j).trans (q1.1 c h1 h2 j), fun j hj => (q3.2 j hj).trans (q1.2 j hj)⟩, q4⟩)
    (fun s ⟨G', e, q1, q2⟩ => by
      subst e
      refine ⟨_, ?_, G', rfl, q1, q2⟩
      simp only
      unfold f_X10_scan_b14
      rw [if_pos (show kK (sI S (mw I m G')) m = 14 from xK_0 hm), if_pos (show kI (sI S (mw I m G')) m 3 ≤ nI t.length from by rw [kI_sI, mw_0, q1.2 3 (by decide), hx.1, nI_leI (by omega) (by omega)]; exact Nat.le_refl _)])
    0 (0, 0, 0, 0, sI S (mw I m (uF G 0 31 0))) ⟨_, rfl, ⟨fun c h1 h2 j => uF_ne (by omega), fun j hj => uF_ne (by omega)⟩, uF_eq _ _ _ _, fun j v hj => by simp [sc] at hj, fun i hi => absurd hi (by omega)⟩ (Nat.zero_le _) kF (by unfold kF; omega)
  rw [e1]
  exact ⟨G', rfl, q1, q2⟩
end
