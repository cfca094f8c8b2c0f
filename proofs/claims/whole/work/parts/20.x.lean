/-! sums and shares -/
def ck1 (t : List Int32) : Nat → Int64
  | 0 => 7
  | k + 1 => 31 * ck1 t k + (la t k).toInt64
def ck2 (T : St) (L : List (Nat × Nat)) (s : Int64) : Nat → Int64
  | 0 => s
  | k + 1 => 31 * (31 * ck2 T L s k + (nI (fO T (gp L k))).toInt64) + (nI (gp L k).2).toInt64
noncomputable def a_checksum (T : St) : Int64 := ck2 T (fL T 0) (ck1 T.2.1 T.2.1.length) (fL T 0).length
noncomputable def a_share (T : St) (p : Int32) : UInt32 ⊕ Nat := match ix p 4 with
  | none => .inr 1
  | some d => if T.2.1.length = 0 then .inr 6 else .inl (FP.fdiv (FP.i2f (nI (sumT (lO T) (fL T d)))) (FP.i2f (nI T.2.1.length)))
def tL (t : Tk) : Nat := if t.2.2.1 = true then t.2.1 - t.1 else 0
def a_mean (T : St) : UInt64 ⊕ Nat := if (tsO T.2.1).countP (fun t => t.2.2.1) = 0 then .inr 6 else .inl (FP.ddiv (FP.i2d (nI (sumT tL (tsO T.2.1)))) (FP.i2d (nI ((tsO T.2.1).countP (fun t => t.2.2.1)))))
def a_tokens (T : St) (b : Int32) : Int32 := nI ((tsO T.2.1).countP (fun t => decide (bi t.2.2.2.2.1 = b)))
section
variable {S : PS} {I : Nat → Nat → Int32} {x : Nat} {T : St}
theorem ci_checksum (hI : cI S I x T) (hw : wf T) : ∃ J, f_X9_checksum (sI S I) x = some (sI S J, a_checksum T) ∧ ou I J x ∧ cI S J x T := by
  have hS := hI.1
  have hw2 := hw.2.1
  have hd : 0 < 4 := by decide
  obtain ⟨J, R, F, TN, g, u, h9⟩ := ci_findFor hI hw hd
  have hJ := h9.ci hS (hI.2.1.kept u) hd
  have hl := h9.L hw hd
  rw [nI_0] at g
  unfold f_X9_checksum
  simp only [kK_sI, kQ_sI, kN_sI, kZ_sI, kI_sI, wI_sI, if_true, Option.bind_some, lt, cK_0 hS, g, bn2_l]
  obtain ⟨z, e1, q⟩ := it_up (b := fun (w : Int64 × Int32) => f_X9_checksum_b12 x (sI S J) w.1 w.2) T.2.1.length
    (P := fun i s => s = (ck1 T.2.1 i, nI i)) (Q := fun z => z = ck1 T.2.1 T.2.1.length)
    (fun i s hi e => by
      subst e
      have hi3 : i < 2 ^ 31 := by omega
      unfold f_X9_checksum_b12
      simp only [kK_sI, kQ_sI, kN_sI, kZ_sI, kI_sI, wI_sI, if_true, Option.bind_some, lt, cK_0 hS, cQ_0_0 hS, cQ_0_1 hS, cQ_0_2 hS, cQ_0_3 hS, cQ_0_4 hS, cQ_0_5 hS, cQ_0_6 hS, cR9_1 hS, cR9_77 hS, cK_3 hS, cQ_3_0 hS, cQ_3_1 hS, cQ_3_2 hS, cR9_4 hS, cR9_6 hS, cR9_8 hS, cm_count hS h9.1 (k := 4) (by decide), h9.2.1.2.1, nI_leI (show T.2.1.length < 2 ^ 31 by omega) hi3, if_neg (show ¬ T.2.1.length ≤ i by omega), cm_getn hS h9.1 (k := 4) (by decide) hi3, nI_1]
      exact Or.inl ⟨_, rfl, rfl⟩)
    (fun s e => by
      subst e
      unfold f_X9_checksum_b12
      simp only [kK_sI, kQ_sI, kN_sI, kZ_sI, kI_sI, wI_sI, if_true, Option.bind_some, lt, cK_0 hS, cQ_0_0 hS, cQ_0_1 hS, cQ_0_2 hS, cQ_0_3 hS, cQ_0_4 hS, cQ_0_5 hS, cQ_0_6 hS, cR9_1 hS, cR9_77 hS, cK_3 hS, cQ_3_0 hS, cQ_3_1 hS, cQ_3_2 hS, cR9_4 hS, cR9_6 hS, cR9_8 hS, cm_count hS h9.1 (k := 4) (by decide), h9.2.1.2.1, if_pos (show nI T.2.1.length ≤ nI T.2.1.length from (nI_leI (show T.2.1.length < 2 ^ 31 by omega) (by omega)).mpr (Nat.le_refl _))]
      exact ⟨_, rfl, rfl⟩)
    0 (7, 0) (by simp [nI_0, ck1]) (by omega) kF (kF_big (by omega))
  rw [e1, q]
  simp only [Option.bind_some]
  obtain ⟨z, e1, q⟩ := it_up (b := fun (w : Int64 × Int32) => f_X9_checksum_b53 x (sI S J) w.1 w.2) (fL T 0).length
    (P := fun i s => s = (ck2 T (fL T 0) (ck1 T.2.1 T.2.1.length) i, nI i)) (Q := fun z => z = a_checksum T)
    (fun i s hi e => by
      subst e
      have hi3 : i < 2 ^ 31 := by omega
      unfold f_X9_checksum_b53
      simp only [kK_sI, kQ_sI, kN_sI, kZ_sI, kI_sI, wI_sI, if_true, Option.bind_some, lt, cK_0 hS, cQ_0_5 hS, cK_68 hS, cf_count hS h9 hw hd, nI_leI (show (fL T 0).length < 2 ^ 31 by omega) hi3, if_neg (show ¬ (fL T 0).length ≤ i by omega), cf_fromOf hS h9 hw hd hi, cf_ruleOf hS h9 hw hd hi, nI_1]
      exact Or.inl ⟨_, rfl, rfl⟩)
    (fun s e => by
      subst e
      unfold f_X9_checksum_b53
      simp only [kK_sI, kQ_sI, kN_sI, kZ_sI, kI_sI, wI_sI, if_true, Option.bind_some, lt, cK_0 hS, cQ_0_5 hS, cK_68 hS, cf_count hS h9 hw hd, if_pos (show nI (fL T 0).length ≤ nI (fL T 0).length from (nI_leI (show (fL T 0).length < 2 ^ 31 by omega) (by omega)).mpr (Nat.le_refl _))]
      exact ⟨_, rfl, rfl⟩)
    0 (ck1 T.2.1 T.2.1.length, 0) (by simp [nI_0, ck2]) (by omega) kF (kF_big (by omega))
  rw [e1, q]
  exact ⟨J, rfl, u, hJ⟩
theorem lO_le {d : Nat} (hw : wf T) (hd : d < 4) {TN : List Nat} (h : iS T d TN) : sumT (lO T) (fL T d) ≤ 160 * 160 := by
  have hw2 := hw.2.1
  have h1 := sumT_le (lO T) (b := 160) (fL T d) (fun p hp => by have := fL_ok hw hd h hp; omega)
  have h2 : (fL T d).length ≤ 160 := by
    unfold fL
    rw [sl_eq hw hd h]
    have := tlk_len TN TN.length
    have := h.1
    have := (tsO_wT hw.2.1).1
    omega
  have := Nat.mul_le_mul_right 160 h2
  omega
theorem ci_share (hI : cI S I x T) (hw : wf T) (p : Int32) : ∃ J, f_X9_foundShare (sI S I) x p = some (match a_share T p with | .inl v => .inl (sI S J, v) | .inr k => .inr (sI S J, k)) ∧ ou I J x ∧ cI S J x T := by
  have hS := hI.1
  have hw2 := hw.2.1
  unfold f_X9_foundShare a_share
  simp only [kK_sI, kQ_sI, kN_sI, kZ_sI, kI_sI, wI_sI, if_true, Option.bind_some, lt, cK_0 hS]
  cases hp : ix p 4 with
  | none =>
    rw [ci_findNo hI (ix_none hp)]
    exact ⟨I, rfl, ou.rf, hI⟩
  | some d =>
    obtain ⟨hd, rfl⟩ := ix_some (by decide) hp
    obtain ⟨J, R, F, TN, g, u, h9⟩ := ci_findFor hI hw hd
    have hB := hI.2.1.kept u
    have hJ := h9.ci hS hB hd
    have hl := h9.L hw hd
    rw [g]
    simp only [bx2_l, bx2_r, bx1_l, bx1_r, kK_sI, kQ_sI, kN_sI, kZ_sI, kI_sI, wI_sI, if_true, Option.bind_some, lt, cK_0 hS, cQ_0_0 hS, cQ_0_1 hS, cQ_0_2 hS, cQ_0_3 hS, cQ_0_4 hS, cQ_0_5 hS, cQ_0_6 hS, cR9_1 hS, cR9_77 hS, cK_3 hS, cQ_3_0 hS, cQ_3_1 hS, cQ_3_2 hS, cR9_4 hS, cR9_6 hS, cR9_8 hS, cm_count hS h9.1 (k := 4) (by decide), h9.2.1.2.1, nI_eq0 (show T.2.1.length < 2 ^ 31 by omega)]
    by_cases h0 : T.2.1.length = 0
    · simp only [if_pos h0]
      exact ⟨J, rfl, u, hJ⟩
    · simp only [if_neg h0]
      obtain ⟨z, e1, q⟩ := it_up (b := fun (w : Int32 × Int32) => f_X9_foundShare_b37 x (sI S J) w.1 w.2) (fL T d).length
        (P := fun i s => s = (nI (sumT (lO T) ((fL T d).take i)), nI i)) (Q := fun z => z = nI (sumT (lO T) (fL T d)))
        (fun i s hi e => by
          subst e
          have hi3 : i < 2 ^ 31 := by omega
          have hg : (fL T d)[i]? = some (gp (fL T d) i) := by unfold gp; rw [List.getElem?_eq_getElem hi]; rfl
          unfold f_X9_foundShare_b37
          simp only [kK_sI, kQ_sI, kN_sI, kZ_sI, kI_sI, wI_sI, if_true, Option.bind_some, lt, cQ_0_5 hS, cK_68 hS, cf_count hS h9 hw hd, nI_leI (show (fL T d).length < 2 ^ 31 by omega) hi3, if_neg (show ¬ (fL T d).length ≤ i by omega), cf_lengthOf hS hB h9 hw hd hi, nI_add, nI_1]
          left
          rw [sumT_take_succ _ _ hg]
          exact ⟨_, rfl, rfl⟩)
        (fun s e => by
          subst e
          unfold f_X9_foundShare_b37
          simp only [kK_sI, kQ_sI, kN_sI, kZ_sI, kI_sI, wI_sI, if_true, Option.bind_some, lt, cQ_0_5 hS, cK_68 hS, cf_count hS h9 hw hd, if_pos (show nI (fL T d).length ≤ nI (fL T d).length from (nI_leI (show (fL T d).length < 2 ^ 31 by omega) (by omega)).mpr (Nat.le_refl _)), List.take_length]
          exact ⟨_, rfl, rfl⟩)
        0 (0, 0) (by simp [nI_0, sumT]) (by omega) kF (kF_big (by omega))
      rw [e1, q]
      simp only [Option.bind_some, if_pos (fdq (nI (sumT (lO T) (fL T d))) (b := nI T.2.1.length) (nI_ne0 (by omega) (by omega)))]
      exact ⟨J, rfl, u, hJ⟩
/-- the tokens are read anew -/
theorem ci_read (hI : cI S I x T) : ∃ J R F, f_X8_read (sI S I) (x + 10) = some (sI S J) ∧ ou I J x ∧ cI S J x T ∧ cM J x R F ∧ tM R (tsO T.2.1) := by
  obtain ⟨hS, hB, R, F, hM, hT, hC⟩ := hI
  obtain ⟨R1, F1, ⟨I1, g1, m1, u1⟩, s1, e1⟩ := cx_read hS hM hT.2.1
  refine ⟨I1, R1, F1, g1, u1, ⟨hS, hB.kept u1, R1, F1, m1, e1.c.t hT, ?_⟩, m1, s1.1⟩
  have f7 : F1 0 7 = F 0 7 := e1.2 0 7 (by decide)
  have f8 : F1 0 8 = F 0 8 := e1.2 0 8 (by decide)
  unfold cC
  rw [f7, f8]
  refine ⟨?_, ?_⟩
  · rcases hC.1 with h | ⟨h, h2⟩
    · exact Or.inl h
    · exact Or.inr ⟨h, s1.1, by rw [e1.1 28 (by omega)]; exact h2.2⟩
  · rcases hC.2 with h | ⟨h, d, TN, h2, h3, h4, h5, h6, h7⟩
    · exact Or.inl h
    · exact Or.inr ⟨h, d, TN, h2, h3, h4, by rw [e1.1 71 (by omega)]; exact h5, by rw [e1.1 73 (by omega)]; exact h6, by rw [e1.1 75 (by omega)]; exact h7⟩
theorem ci_tokens (hI : cI S I x T) (hw : wf T) (b : Int32) : ∃ J, f_X9_tokens (sI S I) x b = some (sI S J, a_tokens T b) ∧ ou I J x ∧ cI S J x T := by
  have hS := hI.1
  have hn := (tsO_wT hw.2.1).1
  obtain ⟨J, R, F, g, u, hJ, hM, hT⟩ := ci_read hI
  unfold f_X9_tokens
  simp only [kK_sI, kQ_sI, kN_sI, kZ_sI, kI_sI, wI_sI, if_true, Option.bind_some, lt, cK_0 hS, cQ_0_2 hS, cK_10 hS, g]
  obtain ⟨z, e1, q⟩ := it_up (b := fun (w : Int32 × Int32) => f_X9_tokens_b11 x b (sI S J) w.1 w.2) (tsO T.2.1).length
    (P := fun i s => s = (nI (((tsO T.2.1).take i).countP (fun t => decide (bi t.2.2.2.2.1 = b))), nI i)) (Q := fun z => z = a_tokens T b)
    (fun i s hi e => by
      subst e
      have hi3 : i < 2 ^ 31 := by omega
      have hg : (tsO T.2.1)[i]? = some (tsO T.2.1)[i] := List.getElem?_eq_getElem hi
      have hq : tQ (tsO T.2.1) i = (tsO T.2.1)[i].2.2.2.2.1 := by unfold tQ; rw [hg]
      unfold f_X9_tokens_b11
      simp only [kK_sI, kQ_sI, kN_sI, kZ_sI, kI_sI, wI_sI, if_true, Option.bind_some, lt, cK_0 hS, cQ_0_2 hS, cK_10 hS, ct_count hS hM hT, nI_leI (show (tsO T.2.1).length < 2 ^ 31 by omega) hi3, if_neg (show ¬ (tsO T.2.1).length ≤ i by omega), ct_isQuoted hS hM hT hi3, nI_1, hq]
      left
      rw [countP_take_succ _ _ hg]
      by_cases e : bi (tsO T.2.1)[i].2.2.2.2.1 = b
      · rw [if_pos e]; exact ⟨_, rfl, by simp [e]⟩
      · rw [if_neg e]; exact ⟨_, rfl, by simp [e]⟩)
    (fun s e => by
      subst e
      unfold f_X9_tokens_b11
      simp only [kK_sI, kQ_sI, kN_sI, kZ_sI, kI_sI, wI_sI, if_true, Option.bind_some, lt, cK_0 hS, cQ_0_2 hS, cK_10 hS, ct_count hS hM hT, if_pos (show nI (tsO T.2.1).length ≤ nI (tsO T.2.1).length from (nI_leI (show (tsO T.2.1).length < 2 ^ 31 by omega) (by omega)).mpr (Nat.le_refl _)), List.take_length]
      exact ⟨_, rfl, rfl⟩)
    0 (0, 0) (by simp [nI_0]) (by omega) kF (kF_big (by omega))
  rw [e1, q]
  exact ⟨J, rfl, u, hJ⟩
theorem ci_mean (hI : cI S I x T) (hw : wf T) : ∃ J, f_X9_meanWord (sI S I) x = some (match a_mean T with | .inl v => .inl (sI S J, v) | .inr k => .inr (sI S J, k)) ∧ ou I J x ∧ cI S J x T := by
  have hS := hI.1
  have hwt := tsO_wT hw.2.1
  have hn := hwt.1
  obtain ⟨J, R, F, g, u, hJ, hM, hT⟩ := ci_read hI
  have hcn : (tsO T.2.1).countP (fun t => t.2.2.1) ≤ 160 := Nat.le_trans List.countP_le_length hn
  have hsm : sumT tL (tsO T.2.1) ≤ 160 * 160 := by
    have h1 := sumT_le tL (b := 160) (tsO T.2.1) (fun t ht => by
      obtain ⟨i, hi, e⟩ := List.getElem_of_mem ht
      have := (hwt.2 i t (by rw [List.getElem?_eq_getElem hi, e])).2.1
      unfold tL
      split <;> omega)
    have := Nat.mul_le_mul_right 160 hn
    omega
  unfold f_X9_meanWord
  simp only [kK_sI, kQ_sI, kN_sI, kZ_sI, kI_sI, wI_sI, if_true, Option.bind_some, lt, cK_0 hS, cQ_0_2 hS, cK_10 hS, g]
  obtain ⟨z, e1, q⟩ := it_up (b := fun (w : Int32 × Int32 × Int32) => f_X9_meanWord_b13 x (sI S J) w.1 w.2.1 w.2.2) (tsO T.2.1).length
    (P := fun i s => s = (nI (sumT tL ((tsO T.2.1).take i)), nI (((tsO T.2.1).take i).countP (fun t => t.2.2.1)), nI i)) (Q := fun z => z = (nI (sumT tL (tsO T.2.1)), nI ((tsO T.2.1).countP (fun t => t.2.2.1))))
    (fun i s hi e => by
      subst e
      have hi3 : i < 2 ^ 31 := by omega
      have hg : (tsO T.2.1)[i]? = some (tsO T.2.1)[i] := List.getElem?_eq_getElem hi
      have hq : tW (tsO T.2.1) i = (tsO T.2.1)[i].2.2.1 := by unfold tW; rw [hg]
      have hs : tS (tsO T.2.1) i = (tsO T.2.1)[i].2.1 - (tsO T.2.1)[i].1 := by unfold tS tE tF; rw [hg]
      unfold f_X9_meanWord_b13
      simp only [kK_sI, kQ_sI, kN_sI, kZ_sI, kI_sI, wI_sI, if_true, Option.bind_some, lt, cK_0 hS, cQ_0_2 hS, cK_10 hS, ct_count hS hM hT, nI_leI (show (tsO T.2.1).length < 2 ^ 31 by omega) hi3, if_neg (show ¬ (tsO T.2.1).length ≤ i by omega), ct_isWord hS hM hT hi3, nI_1, hq, bi_eq0, ct_lengthOf hS hM hT hwt hi3, hs, nI_add]
      left
      rw [countP_take_succ _ _ hg, sumT_take_succ _ _ hg]
      unfold tL
      cases e : (tsO T.2.1)[i].2.2.1
      · rw [if_pos rfl]; exact ⟨_, rfl, by simp⟩
      · rw [if_neg (by decide)]; exact ⟨_, rfl, by simp⟩)
    (fun s e => by
      subst e
      unfold f_X9_meanWord_b13
      simp only [kK_sI, kQ_sI, kN_sI, kZ_sI, kI_sI, wI_sI, if_true, Option.bind_some, lt, cK_0 hS, cQ_0_2 hS, cK_10 hS, ct_count hS hM hT, if_pos (show nI (tsO T.2.1).length ≤ nI (tsO T.2.1).length from (nI_leI (show (tsO T.2.1).length < 2 ^ 31 by omega) (by omega)).mpr (Nat.le_refl _)), List.take_length]
      exact ⟨_, rfl, rfl⟩)
    0 (0, 0, 0) (by simp [nI_0, sumT]) (by omega) kF (kF_big (by omega))
  rw [e1, q]
  unfold a_mean
  simp only [Option.bind_some, nI_eq0 (show (tsO T.2.1).countP (fun t => t.2.2.1) < 2 ^ 31 by omega)]
  by_cases h0 : (tsO T.2.1).countP (fun t => t.2.2.1) = 0
  · simp only [if_pos h0]
    exact ⟨J, rfl, u, hJ⟩
  · simp only [if_neg h0, if_pos (ddq (nI (sumT tL (tsO T.2.1))) (b := nI ((tsO T.2.1).countP (fun t => t.2.2.1))) (nI_ne0 (by omega) (by omega)))]
    exact ⟨J, rfl, u, hJ⟩
end
