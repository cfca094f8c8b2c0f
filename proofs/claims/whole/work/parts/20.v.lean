/-! the quotients are numbers -/
theorem fdq (a : Int32) {b : Int32} (hb : b ≠ 0) : FP.fdiv (FP.i2f a) (FP.i2f b) &&& 0x7fffffff ≤ 0x7f800000 := by
  have h1 := FP.Core.i2f_mag a
  have h2 := FP.Core.i2f_big (FP.Core.int32_ne hb)
  have h3 := FP.Core.fdiv_mag (K := 160) (L := 127) h1 h2.1 h2.2 (by decide) (by decide)
  rw [UInt32.le_iff_toNat_le, UInt32.toNat_and]
  rw [show (0x7fffffff : UInt32).toNat = 2 ^ 31 - 1 from rfl, Nat.and_two_pow_sub_one_eq_mod, show (0x7f800000 : UInt32).toNat = 2139095040 from rfl]
  have h4 : (FP.fdiv (FP.i2f a) (FP.i2f b)).toNat % 2 ^ 31 < (160 + (149 - 23 - 1) - 127 + 3) * 2 ^ 23 := h3
  omega
theorem ddq (a : Int32) {b : Int32} (hb : b ≠ 0) : FP.ddiv (FP.i2d a) (FP.i2d b) &&& 0x7fffffffffffffff ≤ 0x7ff0000000000000 := by
  have h1 := FP.Core.i2d_mag a
  have h2 := FP.Core.i2d_big (FP.Core.int32_ne hb)
  have h3 := FP.Core.ddiv_mag (K := 1056) (L := 1023) h1 h2.1 h2.2 (by decide) (by decide)
  rw [UInt64.le_iff_toNat_le, UInt64.toNat_and]
  rw [show (0x7fffffffffffffff : UInt64).toNat = 2 ^ 63 - 1 from rfl, Nat.and_two_pow_sub_one_eq_mod, show (0x7ff0000000000000 : UInt64).toNat = 9218868437227405312 from rfl]
  have h4 : (FP.ddiv (FP.i2d a) (FP.i2d b)).toNat % 2 ^ 63 < (1056 + (1074 - 52 - 1) - 1023 + 3) * 2 ^ 52 := h3
  omega
/-! the calls that count -/
def sumT {α : Type} (f : α → Nat) : List α → Nat
  | [] => 0
  | a :: l => f a + sumT f l
theorem sumT_snoc {α : Type} (f : α → Nat) (l : List α) (a : α) : sumT f (l ++ [a]) = sumT f l + f a := by
  induction l with
  | nil => simp [sumT]
  | cons b l ih => simp only [List.cons_append, sumT, ih]; omega
theorem sumT_take_succ {α : Type} (f : α → Nat) (l : List α) {i : Nat} {v : α} (h : l[i]? = some v) : sumT f (l.take (i + 1)) = sumT f (l.take i) + f v := by
  have hi := (List.getElem?_eq_some_iff.mp h).1
  have he := (List.getElem?_eq_some_iff.mp h).2
  rw [List.take_succ_eq_append_getElem hi, he, sumT_snoc]
theorem sumT_le {α : Type} (f : α → Nat) {b : Nat} : ∀ (l : List α), (∀ a ∈ l, f a ≤ b) → sumT f l ≤ l.length * b
  | [], _ => Nat.zero_le _
  | a :: l, h => by
    have h1 := h a List.mem_cons_self
    have h2 := sumT_le f l (fun c hc => h c (List.mem_cons_of_mem _ hc))
    simp only [sumT, List.length_cons, Nat.add_mul]
    omega
theorem countP_take_le {α : Type} (f : α → Bool) (l : List α) (i : Nat) : (l.take i).countP f ≤ i := Nat.le_trans (List.countP_le_length) (by simp; omega)
section
variable {S : PS} {I : Nat → Nat → Int32} {x : Nat} {T : St} {R : Nat → List Int32} {F : Nat → Nat → Int32}
theorem ci_byRule (hI : cI S I x T) (hw : wf T) (p r : Int32) : cV S I x T (f_X9_byRule (sI S I) x p r) (a_byRule T p r) := by
  have hS := hI.1
  unfold f_X9_byRule a_byRule
  simp only [kK_sI, kQ_sI, kN_sI, kZ_sI, kI_sI, wI_sI, if_true, Option.bind_some, lt, cK_0 hS]
  cases hp : ix p 4 with
  | none =>
    rw [ci_findNo hI (ix_none hp)]
    exact cV.no hI
  | some d =>
    obtain ⟨hd, rfl⟩ := ix_some (by decide) hp
    obtain ⟨J, R, F, TN, g, u, h9⟩ := ci_findFor hI hw hd
    have hJ := h9.ci hS (hI.2.1.kept u) hd
    have hl := h9.L hw hd
    rw [g]
    simp only [bx2_l, bx2_r, bx1_l, bx1_r]
    cases hn : ix r 21 with
    | none =>
      have : cV S I x T (some (.inr (sI S J, 1))) (.inr 1) := ⟨J, rfl, u, hJ⟩
      rcases ix_none hn with h | h
      · rw [if_pos h]; exact this
      · by_cases h0 : r < 0
        · rw [if_pos h0]; exact this
        · rw [if_neg h0, if_neg (fun z => by
            obtain ⟨v, hv, rfl⟩ := nI_of h0
            rw [nI_leI (by decide) hv] at h
            rw [show (20 : Int32) = nI 20 from rfl, nI_leI hv (by decide)] at z
            omega)]
          exact this
    | some v =>
      obtain ⟨hv, rfl⟩ := ix_some (by decide) hn
      rw [if_neg (nI_pos (by omega)), if_pos (show nI v ≤ 20 from (nI_leI (b := 20) (by omega) (by decide)).mpr (by omega))]
      obtain ⟨z, e1, q⟩ := it_up (b := fun (w : Int32 × Int32) => f_X9_byRule_b32 x (nI v) (sI S J) w.1 w.2) (fL T d).length
        (P := fun i s => s = (nI (((fL T d).take i).countP (fun z => decide (z.2 = v))), nI i)) (Q := fun z => z = nI ((fL T d).countP (fun z => decide (z.2 = v))))
        (fun i s hi e => by
          subst e
          have hi3 : i < 2 ^ 31 := by omega
          have hg : (fL T d)[i]? = some (gp (fL T d) i) := by unfold gp; rw [List.getElem?_eq_getElem hi]; rfl
          have hok := fL_ok hw hd h9.2.2.2.2.2.1 (gp_mem hi)
          unfold f_X9_byRule_b32
          simp only [kK_sI, kQ_sI, kN_sI, kZ_sI, kI_sI, wI_sI, if_true, Option.bind_some, lt, cK_0 hS, cQ_0_5 hS, cK_68 hS, cf_count hS h9 hw hd, nI_leI (show (fL T d).length < 2 ^ 31 by omega) hi3, if_neg (show ¬ (fL T d).length ≤ i by omega), cf_ruleOf hS h9 hw hd hi, nI_eq (show (gp (fL T d) i).2 < 2 ^ 31 by omega) (show v < 2 ^ 31 by omega), nI_1]
          left
          rw [countP_take_succ _ _ hg]
          by_cases e : (gp (fL T d) i).2 = v
          · rw [if_pos e]; exact ⟨_, rfl, by simp [e]⟩
          · rw [if_neg e]; exact ⟨_, rfl, by simp [e]⟩)
        (fun s e => by
          subst e
          unfold f_X9_byRule_b32
          simp only [kK_sI, kQ_sI, kN_sI, kZ_sI, kI_sI, wI_sI, if_true, Option.bind_some, lt, cK_0 hS, cQ_0_5 hS, cK_68 hS, cf_count hS h9 hw hd, if_pos (show nI (fL T d).length ≤ nI (fL T d).length from (nI_leI (show (fL T d).length < 2 ^ 31 by omega) (by omega)).mpr (Nat.le_refl _)), List.take_length]
          exact ⟨_, rfl, rfl⟩)
        0 (0, 0) (by simp [nI_0]) (by omega) kF (kF_big (by omega))
      rw [e1, q]
      exact ⟨J, rfl, u, hJ⟩
theorem ci_byWriter (hI : cI S I x T) (hw : wf T) (p r : Int32) : cV S I x T (f_X9_byWriter (sI S I) x p r) (a_byWriter T p r) := by
  have hS := hI.1
  have hw2 := hw.2.1
  unfold f_X9_byWriter a_byWriter
  simp only [kK_sI, kQ_sI, kN_sI, kZ_sI, kI_sI, wI_sI, if_true, Option.bind_some, lt, cK_0 hS]
  cases hp : ix p 4 with
  | none =>
    rw [ci_findNo hI (ix_none hp)]
    exact cV.no hI
  | some d =>
    obtain ⟨hd, rfl⟩ := ix_some (by decide) hp
    obtain ⟨J, R, F, TN, g, u, h9⟩ := ci_findFor hI hw hd
    have hJ := h9.ci hS (hI.2.1.kept u) hd
    have hl := h9.L hw hd
    rw [g]
    simp only [bx2_l, bx2_r, bx1_l, bx1_r, cx_isWriter, Option.bind_some, bi_eq0]
    cases hn : ix r 4 with
    | none => exact ⟨J, rfl, u, hJ⟩
    | some v =>
      obtain ⟨hv, rfl⟩ := ix_some (by decide) hn
      simp only [Option.isSome_some, Bool.true_eq_false, if_false]
      obtain ⟨z, e1, q⟩ := it_up (b := fun (w : Int32 × Int32) => f_X9_byWriter_b29 x (nI v) (sI S J) w.1 w.2) (fL T d).length
        (P := fun i s => s = (nI (((fL T d).take i).countP (fun z => decide (la T.2.2.1 (fO T z) = nI v))), nI i)) (Q := fun z => z = nI ((fL T d).countP (fun z => decide (la T.2.2.1 (fO T z) = nI v))))
        (fun i s hi e => by
          subst e
          have hi3 : i < 2 ^ 31 := by omega
          have hg : (fL T d)[i]? = some (gp (fL T d) i) := by unfold gp; rw [List.getElem?_eq_getElem hi]; rfl
          have hok := fL_ok hw hd h9.2.2.2.2.2.1 (gp_mem hi)
          unfold f_X9_byWriter_b29
          simp only [kK_sI, kQ_sI, kN_sI, kZ_sI, kI_sI, wI_sI, if_true, Option.bind_some, lt, cK_0 hS, cQ_0_5 hS, cQ_0_1 hS, cK_3 hS, cQ_3_0 hS, cQ_3_1 hS, cQ_3_2 hS, cR9_4 hS, cR9_6 hS, cR9_8 hS, cK_68 hS, cf_count hS h9 hw hd, nI_leI (show (fL T d).length < 2 ^ 31 by omega) hi3, if_neg (show ¬ (fL T d).length ≤ i by omega), cf_fromOf hS h9 hw hd hi, cm_getn hS h9.1 (k := 6) (by decide) (show fO T (gp (fL T d) i) < 2 ^ 31 by omega), h9.2.1.2.2.1, nI_1]
          left
          rw [countP_take_succ _ _ hg]
          by_cases e : la T.2.2.1 (fO T (gp (fL T d) i)) = nI v
          · rw [if_pos e]; exact ⟨_, rfl, by simp [e]⟩
          · rw [if_neg e]; exact ⟨_, rfl, by simp [e]⟩)
        (fun s e => by
          subst e
          unfold f_X9_byWriter_b29
          simp only [kK_sI, kQ_sI, kN_sI, kZ_sI, kI_sI, wI_sI, if_true, Option.bind_some, lt, cK_0 hS, cQ_0_5 hS, cK_68 hS, cf_count hS h9 hw hd, if_pos (show nI (fL T d).length ≤ nI (fL T d).length from (nI_leI (show (fL T d).length < 2 ^ 31 by omega) (by omega)).mpr (Nat.le_refl _)), List.take_length]
          exact ⟨_, rfl, rfl⟩)
        0 (0, 0) (by simp [nI_0]) (by omega) kF (kF_big (by omega))
      rw [e1, q]
      exact ⟨J, rfl, u, hJ⟩
theorem ci_ignore (hI : cI S I x T) (hw : wf T) (p i : Int32) : cV S I x T (f_X9_ignore (sI S I) x p i) (a_ignore T p i) := by
  have hS := hI.1
  have hw2 := hw.2.1
  unfold f_X9_ignore a_ignore
  simp only [kK_sI, kQ_sI, kN_sI, kZ_sI, kI_sI, wI_sI, if_true, Option.bind_some, lt, cK_0 hS]
  cases hp : ix p 4 with
  | none =>
    rw [ci_findNo hI (ix_none hp)]
    exact cV.no hI
  | some d =>
    obtain ⟨hd, rfl⟩ := ix_some (by decide) hp
    obtain ⟨J, R, F, TN, g, u, h9⟩ := ci_findFor hI hw hd
    have hB := hI.2.1.kept u
    have hJ := h9.ci hS hB hd
    have hl := h9.L hw hd
    rw [g]
    simp only [bx2_l, bx2_r, bx1_l, bx1_r, kK_sI, kQ_sI, kN_sI, kZ_sI, kI_sI, wI_sI, if_true, Option.bind_some, lt, cK_0 hS, cf_need hS h9 hw hd]
    cases hq : ix i (fL T d).length with
    | none => exact ⟨J, rfl, u, hJ⟩
    | some q =>
      obtain ⟨hqi, rfl⟩ := ix_some (by omega) hq
      have hok := fL_ok hw hd h9.2.2.2.2.2.1 (gp_mem hqi)
      have hk := h9.2.1.2.2.2.2.2.2.2 d hd
      have hwk := (hw.2.2.2.2.2.2.2.2.2.2 d hd).1.2.2.2.1
      have hlt := dO_lt d
      simp only [bx2_l, bx2_r, bx1_l, bx1_r, kK_sI, kQ_sI, kN_sI, kZ_sI, kI_sI, wI_sI, if_true, Option.bind_some, lt, cK_d hS hd, cd_count hS h9.1 hd hk, show (20 : Int32) = nI 20 from rfl, nI_ltI (show (T.2.2.2.2.2.2 d).2.2.2.length < 2 ^ 31 by omega) (show 20 < 2 ^ 31 by decide)]
      by_cases h20 : (T.2.2.2.2.2.2 d).2.2.2.length < 20
      · rw [if_pos h20, if_pos h20]
        unfold f_X1_addIgnored
        simp only [kK_sI, kQ_sI, kN_sI, kZ_sI, kI_sI, wI_sI, if_true, Option.bind_some, lt, cK_0 hS, cQ_0_5 hS, cK_68 hS, cf_ruleOf hS h9 hw hd hqi, cf_fromOf hS h9 hw hd hqi, cf_lengthOf hS hB h9 hw hd hqi, cK_d hS hd, cQ_d_0 hS hd, cQ_d_1 hS hd, cQ_d_2 hS hd, cQ_d_3 hS hd, cR9_d1 hS hd, cR9_d3 hS hd, cR9_d5 hS hd, cR9_d7 hS hd]
        obtain ⟨I1, g1, m1, u1⟩ := cm_add hS h9.1 (k := dO d + 3) (by rw [capT_d3]; decide) (by rw [hk.2.2.2.1, List.length_map, capT_d3]; exact h20) (nI (gp (fL T d) q).2)
        rw [g1]
        simp only [kK_sI, kQ_sI, kN_sI, kZ_sI, kI_sI, wI_sI, if_true, Option.bind_some, lt, cK_d hS hd, cQ_d_0 hS hd, cQ_d_1 hS hd, cQ_d_2 hS hd, cQ_d_3 hS hd, cR9_d1 hS hd, cR9_d3 hS hd, cR9_d5 hS hd, cR9_d7 hS hd]
        obtain ⟨I2, g2, m2, u2⟩ := cm_add hS m1 (k := dO d + 5) (by rw [capT_d5]; decide) (by rw [uR_ne (by omega), hk.2.2.2.2.1, List.length_map, capT_d5]; exact h20) (nI (fO T (gp (fL T d) q)))
        rw [g2]
        simp only [kK_sI, kQ_sI, kN_sI, kZ_sI, kI_sI, wI_sI, if_true, Option.bind_some, lt, cK_d hS hd, cQ_d_0 hS hd, cQ_d_1 hS hd, cQ_d_2 hS hd, cQ_d_3 hS hd, cR9_d1 hS hd, cR9_d3 hS hd, cR9_d5 hS hd, cR9_d7 hS hd]
        obtain ⟨I3, g3, m3, u3⟩ := cm_add hS m2 (k := dO d + 7) (by rw [capT_d7]; decide) (by rw [uR_ne (by omega), uR_ne (by omega), hk.2.2.2.2.2, List.length_map, capT_d7]; exact h20) (nI (lO T (gp (fL T d) q)))
        rw [g3]
        simp only [kK_sI, kQ_sI, kN_sI, kZ_sI, kI_sI, wI_sI, if_true, Option.bind_some, lt, cK_0 hS, cK_d hS hd]
        obtain ⟨m4, u4⟩ := m3.u0 8 (-1)
        have hk4 : dM (uR (uR (uR R (dO d + 3) (R (dO d + 3) ++ [nI (gp (fL T d) q).2])) (dO d + 5) (uR R (dO d + 3) (R (dO d + 3) ++ [nI (gp (fL T d) q).2]) (dO d + 5) ++ [nI (fO T (gp (fL T d) q))])) (dO d + 7) (uR (uR R (dO d + 3) (R (dO d + 3) ++ [nI (gp (fL T d) q).2])) (dO d + 5) (uR R (dO d + 3) (R (dO d + 3) ++ [nI (gp (fL T d) q).2]) (dO d + 5) ++ [nI (fO T (gp (fL T d) q))]) (dO d + 7) ++ [nI (lO T (gp (fL T d) q))])) (uF F 0 8 (-1)) d (uG (T.2.2.2.2.2.2 d) ((T.2.2.2.2.2.2 d).2.2.2 ++ [((gp (fL T d) q).2, fO T (gp (fL T d) q), lO T (gp (fL T d) q))])) := by
          refine ⟨?_, ?_, ?_, ?_, ?_, ?_⟩
          · rw [uR_ne (by omega), uR_ne (by omega), uR_ne (by omega)]; exact hk.1
          · rw [uF_ne (Or.inl (by omega))]; exact hk.2.1
          · rw [uF_ne (Or.inl (by omega))]; exact hk.2.2.1
          · rw [uR_ne (by omega), uR_ne (by omega), uR_eq, hk.2.2.2.1, uG, List.map_append]; rfl
          · rw [uR_ne (by omega), uR_eq, uR_ne (by omega), hk.2.2.2.2.1, uG, List.map_append]; rfl
          · rw [uR_eq, uR_ne (by omega), uR_ne (by omega), hk.2.2.2.2.2, uG, List.map_append]; rfl
        have hc := cd_count hS m4 hd hk4
        rw [show (uG (T.2.2.2.2.2.2 d) ((T.2.2.2.2.2.2 d).2.2.2 ++ [((gp (fL T d) q).2, fO T (gp (fL T d) q), lO T (gp (fL T d) q))])).2.2.2.length = (T.2.2.2.2.2.2 d).2.2.2.length + 1 by simp [uG]] at hc
        rw [hc]
        have ua : ou J _ x := ((u1.tr u2).tr u3).tr u4
        refine ⟨_, rfl, u.tr ua, hS, hB.kept ua, _, _, m4, ?_, ?_⟩
        · exact eX.t (F := uF F 0 8 (-1)) ⟨fun i h1 h3 h5 h7 => by rw [uR_ne h7, uR_ne h5, uR_ne h3], fun i j hi => rfl⟩ hd ((eC.rf.f (k := 0) (j := 8) (v := -1) (by decide)).t h9.2.1) hk4
        · refine ⟨Or.inr ⟨by rw [uF_ne (Or.inr (by decide))]; exact h9.2.2.1, cR_kept (d := d) h9.2.2.2.2.1 rfl rfl rfl (fun i h1 h2 => by rw [uR_ne (by omega), uR_ne (by omega), uR_ne (by omega)])⟩, Or.inl (uF_eq _ _ _ _)⟩
      · rw [if_neg h20, if_neg h20]
        exact ⟨J, rfl, u, hJ⟩
/-- one desk's marks are cleared -/
theorem ci_check (hI : cI S I x T) (hw : wf T) (p : Int32) : cV S I x T (f_X9_check (sI S I) x p) (a_check T p) := by
  obtain ⟨hS, hB, R, F, hM, hT, hC⟩ := id hI
  have h161 := (hM.1 8 (by decide)).2
  rw [show capT 8 = 161 from rfl] at h161
  unfold f_X9_check a_check
  simp only [kK_sI, kQ_sI, kN_sI, kZ_sI, kI_sI, wI_sI, if_true, Option.bind_some, lt, cK_0 hS, cx_deskAt9 hI]
  cases hp : ix p 4 with
  | none => exact cV.no hI
  | some d =>
    obtain ⟨hd, rfl⟩ := ix_some (by decide) hp
    have h8 : R 8 = T.2.2.2.1 := hT.2.2.2.1
    rw [h8] at h161
    generalize hg : T.2.2.2.1 = g0 at *
    unfold f_X7_clearChanged
    simp only [bx2_l, bx2_r, bx1_l, bx1_r, kK_sI, kQ_sI, kN_sI, kZ_sI, kI_sI, wI_sI, if_true, Option.bind_some, lt, cK_0 hS, cQ_0_1 hS, cK_3 hS, show (1 : Int32) <<< (nI d &&& 31) = mk d from rfl]
    obtain ⟨z, e1, J, G, rfl, m, u, g1, g2⟩ := it_up (b := fun (w : Int32 × Int32 × PS) => f_X7_clearChanged_b4 (x + 3) (mk d) w.1 w.2.1 w.2.2) g0.length
      (P := fun i s => ∃ J G, s = (nI ((g0.take i).countP (fun v => tb v d)), nI i, sI S J) ∧ cM J x (uR R 8 G) F ∧ ou I J x ∧ G.length = g0.length ∧ ∀ j, j < g0.length → la G j = if j < i then clM d (la g0 j) else la g0 j)
      (Q := fun z => ∃ J G, z = (nI (g0.countP (fun v => tb v d)), sI S J) ∧ cM J x (uR R 8 G) F ∧ ou I J x ∧ G.length = g0.length ∧ ∀ j, j < g0.length → la G j = clM d (la g0 j))
      (fun i s hi ⟨J, G, e, m, u, g1, g2⟩ => by
        subst e
        have hi3 : i < 2 ^ 31 := by omega
        have hgi : g0[i]? = some (la g0 i) := by rw [la_lt hi]; exact List.getElem?_eq_getElem hi
        unfold f_X7_clearChanged_b4
        simp only [kK_sI, kQ_sI, kN_sI, kZ_sI, kI_sI, wI_sI, if_true, Option.bind_some, lt, cK_3 hS, cQ_3_0 hS, cQ_3_1 hS, cQ_3_2 hS, cR9_4 hS, cR9_6 hS, cR9_8 hS, cm_count hS m (k := 8) (by decide), uR_eq, g1, nI_leI (show g0.length < 2 ^ 31 by omega) hi3, if_neg (show ¬ g0.length ≤ i by omega), cm_getn hS m (k := 8) (by decide) hi3, g2 i hi, if_neg (Nat.lt_irrefl i), nI_1, tb_ne]
        left
        rw [countP_take_succ _ _ hgi]
        have lst : ∀ (G' : List Int32), (∀ j, j < g0.length → la G' j = if j = i then clM d (la g0 i) else la G j) → ∀ j, j < g0.length → la G' j = if j < i + 1 then clM d (la g0 j) else la g0 j := by
          intro G' h j hj
          rw [h j hj]
          by_cases e : j = i
          · subst e; rw [if_pos rfl, if_pos (Nat.lt_succ_self _)]
          · rw [if_neg e, g2 j hj]
            by_cases e2 : j < i
            · rw [if_pos e2, if_pos (by omega)]
            · rw [if_neg e2, if_neg (by omega)]
        cases hb : tb (la g0 i) d
        · rw [if_pos rfl]
          refine ⟨_, rfl, J, G, by simp, m, u, g1, lst G (fun j hj => ?_)⟩
          by_cases e : j = i
          · subst e; rw [if_pos rfl, g2 j hj, if_neg (Nat.lt_irrefl _)]; unfold clM; rw [hb]; rfl
          · rw [if_neg e]
        · rw [if_neg (by decide)]
          obtain ⟨J2, w1, m2, u2⟩ := cm_set hS m (k := 8) (by decide) hi3 (la g0 i &&& (mk d ^^^ (-1)))
          rw [w1]
          rw [uR_uR, uR_eq] at m2
          refine ⟨_, rfl, J2, _, by simp, m2, u.tr u2, by rw [List.length_set]; exact g1, lst _ (fun j hj => ?_)⟩
          rw [la_set]
          by_cases e : j = i
          · subst e; rw [if_pos ⟨rfl, by omega⟩, if_pos rfl]; unfold clM; rw [if_pos hb]
          · rw [if_neg (fun z => e z.1), if_neg e])
      (fun s ⟨J, G, e, m, u, g1, g2⟩ => by
        subst e
        unfold f_X7_clearChanged_b4
        simp only [kK_sI, kQ_sI, kN_sI, kZ_sI, kI_sI, wI_sI, if_true, Option.bind_some, lt, cK_3 hS, cQ_3_0 hS, cQ_3_1 hS, cQ_3_2 hS, cR9_4 hS, cR9_6 hS, cR9_8 hS, cm_count hS m (k := 8) (by decide), uR_eq, g1, if_pos (show nI g0.length ≤ nI g0.length from (nI_leI (show g0.length < 2 ^ 31 by omega) (by omega)).mpr (Nat.le_refl _)), List.take_length]
        exact ⟨_, rfl, J, G, rfl, m, u, g1, fun j hj => by rw [g2 j hj, if_pos hj]⟩)
      0 (0, 0, sI S I) ⟨I, g0, by simp [nI_0], by rw [← h8, uR_self]; exact hM, ou.rf, rfl, fun j hj => by rw [if_neg (Nat.not_lt_zero _)]⟩ (by omega) kF (kF_big (by omega))
    rw [e1]
    have : G = g0.map (clM d) := la_ext (by rw [List.length_map, g1]) (fun j hj => by
      rw [g2 j (by omega), la_map, List.getElem?_eq_getElem (by omega)]
      simp only
      rw [la_lt (by omega)])
    subst this
    refine ⟨J, rfl, u, hS, hB.kept u, _, F, m, ?_, hC⟩
    obtain ⟨a1, a2, a3, a4, a5, a6, a7, a8⟩ := hT
    refine ⟨a1, a2, a3, uR_eq _ _ _, a5, a6, a7, fun e he => ?_⟩
    have hl := dO_lt e
    obtain ⟨b1, b2, b3, b4, b5, b6⟩ := a8 e he
    refine ⟨?_, b2, b3, ?_, ?_, ?_⟩ <;> rw [uR_ne (by omega)] <;> assumption
end
