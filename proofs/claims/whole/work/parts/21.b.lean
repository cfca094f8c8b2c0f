/-! suggestions are of the text's signs -/
theorem tE_le (t : List Int32) (j : Nat) : tE (tsO t) j ≤ t.length := by
  unfold tE
  cases e : (tsO t)[j]? with
  | none => exact Nat.zero_le _
  | some v => exact ((sc_inv t t.length).2.2.1 _ v e).1
theorem la_mem {l : List Int32} {j : Nat} (h : j < l.length) : la l j ∈ l := by
  rw [la_lt h]; exact List.getElem_mem h
theorem tkS_tx {t : List Int32} (ht : ∀ j, j < t.length → txS (la t j) = true) (j n : Nat) : ∀ v ∈ tkS t (tsO t) j n, txS v = true := by
  intro v hv
  unfold tkS at hv
  obtain ⟨q, hq, rfl⟩ := List.mem_map.mp hv
  have := List.mem_range.mp hq
  have := tE_le t j
  exact ht _ (by omega)
theorem stK_tx {t : List Int32} (ht : ∀ j, j < t.length → txS (la t j) = true) : ∀ (l : List Iv) (j : Nat), ∀ v ∈ stK t (tsO t) j l, txS v = true
  | [], _, v, hv => by cases hv
  | w :: l, j, v, hv => by
    rw [stK_cons] at hv
    split at hv
    · exact tkS_tx ht _ _ v hv
    · exact stK_tx ht l (j + 1) v hv
theorem sgK_tx {star sg : List Int32} (hs : ∀ v ∈ star, txS v = true) (hg : ∀ j, j < sg.length → la sg j ≠ 42 → txS (la sg j) = true) : ∀ k, k ≤ sg.length → ∀ v ∈ sgK star sg k, txS v = true
  | 0, _, v, hv => by cases hv
  | k + 1, hk, v, hv => by
    simp only [sgK, List.mem_append] at hv
    rcases hv with hv | hv
    · exact sgK_tx hs hg k (by omega) v hv
    · split at hv
      · exact hs v hv
      · rename_i e
        rw [List.mem_singleton] at hv
        subst hv
        exact hg k (by omega) e
theorem tx_of {v : Int32} (h : isL v = true ∨ isD v = true ∨ v = 32) : txS v = true := by
  unfold txS
  rcases h with h | h | h
  · rw [h]; rfl
  · rw [h]; simp
  · subst h; decide
theorem sugL_tx {T : St} (hw : wf T) {p : Nat × Nat} {s : Nat} (hs : s < sgN T p.2) : ∀ v ∈ sugL T p s, txS v = true := by
  unfold sugL
  unfold sgN at hs
  cases hv : T.2.2.2.2.1[p.2]? with
  | none =>
    rw [hv] at hs
    simp only at hs ⊢
    cases hw9 : T.2.2.2.2.2.1[p.2 - 12]? with
    | none => intro v hv; cases hv
    | some w =>
      have hww := hw.2.2.2.2.2.2.2.2.2.1 w (List.mem_of_getElem? hw9)
      have hwd : ∀ l : List Int32, isWd l → ∀ v ∈ l, txS v = true := by
        intro l hl v hv
        obtain ⟨i, hi, e⟩ := List.getElem_of_mem hv
        have := hl.2.2 i hi
        rw [la_lt hi, e] at this
        exact tx_of (Or.inl this)
      simp only
      split
      · exact hwd _ hww.2.1
      · exact hwd _ hww.1
  | some v =>
    rw [hv] at hs
    simp only at hs ⊢
    obtain ⟨sg, hsg⟩ : ∃ sg, v.2.2.2.2.2[s]? = some sg := ⟨_, List.getElem?_eq_getElem hs⟩
    obtain ⟨q1, q2, q3, q4⟩ := (hw.2.2.2.2.2.2.2.1 _ v hv).2.2.2 sg (List.mem_of_getElem? hsg)
    rw [hsg]
    simp only [Option.getD_some]
    refine sgK_tx (stK_tx hw.2.2.1 _ _) (fun j hj h42 => ?_) _ (Nat.le_refl _)
    rcases q3 j hj with h | h | h | h
    · exact tx_of (Or.inl h)
    · exact tx_of (Or.inr (Or.inl h))
    · exact tx_of (Or.inr (Or.inr h))
    · exact absurd h h42
/-- taking out and putting in, many times -/
theorem tkN_ok {T : St} (hw : wf T) {f : Nat} : ∀ n, f + n ≤ T.2.1.length → wf (tkN T f n) ∧ (tkN T f n).2.1.length = T.2.1.length - n
  | 0, _ => ⟨hw, rfl⟩
  | n + 1, h => by
    obtain ⟨h1, h2⟩ := tkN_ok hw (f := f) n (by omega)
    have h3 := wf_take h1 (p := f) (by omega)
    refine ⟨h3, ?_⟩
    show ((tkN T f n).2.1.eraseIdx f).length = _
    rw [List.length_eraseIdx, if_pos (by omega)]
    omega
theorem ptN_ok {T : St} (hw : wf T) {f w : Nat} (hw4 : w < 4) {l : List Int32} (hl : ∀ v ∈ l, txS v = true) (hf : f ≤ T.2.1.length) (hlen : T.2.1.length + l.length ≤ 160) : ∀ n, n ≤ l.length → wf (ptN T f l (nI w) n) ∧ (ptN T f l (nI w) n).2.1.length = T.2.1.length + n
  | 0, _ => ⟨hw, rfl⟩
  | n + 1, h => by
    obtain ⟨h1, h2⟩ := ptN_ok hw hw4 hl hf hlen n (by omega)
    have h3 := wf_put h1 (p := f + n) (by omega) (by omega) (hl _ (la_mem (show n < l.length by omega))) hw4
    refine ⟨h3, ?_⟩
    show ((ptN T f l (nI w) n).2.1.insertIdx (f + n) (la l n)).length = _
    rw [List.length_insertIdx, if_pos (by omega)]
    omega
theorem tkN_ru (T : St) (f : Nat) : ∀ n, (tkN T f n).2.2.2.2.1 = T.2.2.2.2.1 ∧ (tkN T f n).2.2.2.2.2.1 = T.2.2.2.2.2.1
  | 0 => ⟨rfl, rfl⟩
  | n + 1 => tkN_ru T f n
theorem ptN_ru (T : St) (f : Nat) (l : List Int32) (w : Int32) : ∀ n, (ptN T f l w n).2.2.2.2.1 = T.2.2.2.2.1 ∧ (ptN T f l w n).2.2.2.2.2.1 = T.2.2.2.2.2.1
  | 0 => ⟨rfl, rfl⟩
  | n + 1 => ptN_ru T f l w n
section
variable {S : PS} {I : Nat → Nat → Int32} {x : Nat} {T : St}
theorem ci_size (hI : cI S I x T) (hw : wf T) (p i s : Int32) : cV S I x T (f_X9_size (sI S I) x p i s) (a_size T p i s) := by
  have hS := hI.1
  unfold f_X9_size a_size
  simp only [kK_sI, kQ_sI, kN_sI, kZ_sI, kI_sI, wI_sI, if_true, Option.bind_some, lt, cK_0 hS]
  cases hp : ix p 4 with
  | none =>
    rw [ci_findNo hI (ix_none hp)]
    exact cV.no hI
  | some d =>
    obtain ⟨hd, rfl⟩ := ix_some (by decide) hp
    obtain ⟨J, R, F, TN, g, u, h9⟩ := ci_findFor hI hw hd
    have hB := hI.2.1.kept u
    have hJ := h9.ci hS hB hd
    have hpr := cw_propose hS hB h9 hw hd i s
    rw [g]
    simp only [bx2_l, bx2_r, bx1_l, bx1_r, kK_sI, cK_0 hS, if_true]
    cases hi : ix i (fL T d).length with
    | none =>
      rw [hi] at hpr
      simp only at hpr
      rw [hpr]
      exact ⟨J, rfl, u, hJ⟩
    | some q =>
      rw [hi] at hpr
      simp only at hpr
      cases hs : ix s (sgN T (gp (fL T d) q).2) with
      | none =>
        simp only [hs] at hpr ⊢
        rw [hpr]
        exact ⟨J, rfl, u, hJ⟩
      | some k =>
        simp only [hs] at hpr ⊢
        obtain ⟨J2, R2, g2, u2, h92, h77⟩ := hpr
        rw [g2]
        simp only [bx2_l, bx2_r, bx1_l, bx1_r, kK_sI, kQ_sI, kN_sI, kZ_sI, kI_sI, wI_sI, if_true, Option.bind_some, lt, cK_0 hS, cQ_0_6 hS, cR9_77 hS, cm_count hS h92.1 (k := 77) (by decide), h77]
        exact ⟨J2, rfl, u.tr u2, h92.ci hS (hB.kept u2) hd⟩
theorem ci_sign (hI : cI S I x T) (hw : wf T) (p i s c : Int32) : cV S I x T (f_X9_sign (sI S I) x p i s c) (a_sign T p i s c) := by
  have hS := hI.1
  unfold f_X9_sign a_sign
  simp only [kK_sI, kQ_sI, kN_sI, kZ_sI, kI_sI, wI_sI, if_true, Option.bind_some, lt, cK_0 hS]
  cases hp : ix p 4 with
  | none =>
    rw [ci_findNo hI (ix_none hp)]
    exact cV.no hI
  | some d =>
    obtain ⟨hd, rfl⟩ := ix_some (by decide) hp
    obtain ⟨J, R, F, TN, g, u, h9⟩ := ci_findFor hI hw hd
    have hB := hI.2.1.kept u
    have hJ := h9.ci hS hB hd
    have hpr := cw_propose hS hB h9 hw hd i s
    rw [g]
    simp only [bx2_l, bx2_r, bx1_l, bx1_r, kK_sI, cK_0 hS, if_true]
    cases hi : ix i (fL T d).length with
    | none =>
      rw [hi] at hpr
      simp only at hpr
      rw [hpr]
      exact ⟨J, rfl, u, hJ⟩
    | some q =>
      rw [hi] at hpr
      simp only at hpr
      cases hs : ix s (sgN T (gp (fL T d) q).2) with
      | none =>
        simp only [hs] at hpr ⊢
        rw [hpr]
        exact ⟨J, rfl, u, hJ⟩
      | some k =>
        simp only [hs] at hpr ⊢
        obtain ⟨J2, R2, g2, u2, h92, h77⟩ := hpr
        have hJ2 := h92.ci hS (hB.kept u2) hd
        have hsn : sgN T (gp (fL T d) q).2 ≤ 2 := by
          unfold sgN
          cases e : T.2.2.2.2.1[(gp (fL T d) q).2]? with
          | none => simp only; split <;> omega
          | some v => exact (hw.2.2.2.2.2.2.1.2 _ v e).2.2.2.2.2
        have hki := (ix_some (by omega) hs).1
        have hlen := sugL_len hw hki
        rw [g2]
        simp only [bx2_l, bx2_r, bx1_l, bx1_r, kK_sI, kQ_sI, kN_sI, kZ_sI, kI_sI, wI_sI, if_true, Option.bind_some, lt, cK_0 hS, cQ_0_6 hS, cR9_77 hS, cm_count hS h92.1 (k := 77) (by decide), h77]
        cases hc : ix c (sugL T (gp (fL T d) q) k).length with
        | none =>
          have : cV S I x T (some (.inr (sI S J2, 5))) (.inr 5) := ⟨J2, rfl, u.tr u2, hJ2⟩
          rcases ix_none hc with z | z
          · rw [if_pos z]; exact this
          · by_cases h0 : c < 0
            · rw [if_pos h0]; exact this
            · rw [if_neg h0, if_neg (Int32.not_lt.mpr z)]; exact this
        | some n =>
          obtain ⟨hn, rfl⟩ := ix_some (by omega) hc
          have hid := char_id (Or.inl (sugL_tx hw hki _ (la_mem hn)))
          rw [if_neg (nI_pos (by omega)), if_pos ((nI_ltI (by omega) (by omega)).mpr hn)]
          simp only [cm_getn hS h92.1 (k := 77) (by decide) (show n < 2 ^ 31 by omega), h77, Option.bind_some, hid.1, hid.2, if_true]
          exact ⟨J2, rfl, u.tr u2, hJ2⟩
theorem ci_apply (hI : cI S I x T) (hw : wf T) (p i s w : Int32) : cV S I x T (f_X9_apply (sI S I) x p i s w) (a_apply T p i s w) := by
  have hS := hI.1
  have hw2 := hw.2.1
  unfold f_X9_apply a_apply
  simp only [kK_sI, kQ_sI, kN_sI, kZ_sI, kI_sI, wI_sI, if_true, Option.bind_some, lt, cK_0 hS]
  cases hp : ix p 4 with
  | none =>
    rw [ci_findNo hI (ix_none hp)]
    exact cV.no hI
  | some d =>
    obtain ⟨hd, rfl⟩ := ix_some (by decide) hp
    obtain ⟨J, R, F, TN, g, u, h9⟩ := ci_findFor hI hw hd
    have hB := hI.2.1.kept u
    have hJ := h9.ci hS hB hd
    have hpr := cw_propose hS hB h9 hw hd i s
    rw [g]
    simp only [bx2_l, bx2_r, bx1_l, bx1_r, cx_isWriter, Option.bind_some, bi_eq0]
    cases hn : ix w 4 with
    | none => exact ⟨J, rfl, u, hJ⟩
    | some v =>
      obtain ⟨hv, rfl⟩ := ix_some (by decide) hn
      simp only [Option.isSome_some, Bool.true_eq_false, if_false, kK_sI, cK_0 hS, if_true]
      cases hi : ix i (fL T d).length with
      | none =>
        rw [hi] at hpr
        simp only at hpr
        rw [hpr]
        exact ⟨J, rfl, u, hJ⟩
      | some q =>
        rw [hi] at hpr
        simp only at hpr
        cases hs : ix s (sgN T (gp (fL T d) q).2) with
        | none =>
          simp only [hs] at hpr ⊢
          rw [hpr]
          exact ⟨J, rfl, u, hJ⟩
        | some k =>
          simp only [hs] at hpr ⊢
          obtain ⟨J2, R2, g2, u2, h92, h77⟩ := hpr
          have hB2 := hB.kept u2
          have hJ2 := h92.ci hS hB2 hd
          have hl2 := h92.L hw hd
          obtain ⟨hqi, rfl⟩ := ix_some (by omega) hi
          have hok := fL_ok hw hd h92.2.2.2.2.2.1 (gp_mem hqi)
          have hsn : sgN T (gp (fL T d) q).2 ≤ 2 := by
            unfold sgN
            cases e : T.2.2.2.2.1[(gp (fL T d) q).2]? with
            | none => simp only; split <;> omega
            | some v => exact (hw.2.2.2.2.2.2.1.2 _ v e).2.2.2.2.2
          have hki := (ix_some (by omega) hs).1
          have hlen := sugL_len hw hki
          have htx := sugL_tx hw hki
          rw [g2]
          generalize sugL T (gp (fL T d) q) k = l at *
          simp only [bx2_l, bx2_r, bx1_l, bx1_r, kK_sI, kQ_sI, kN_sI, kZ_sI, kI_sI, wI_sI, if_true, Option.bind_some, lt, cK_0 hS, cQ_0_1 hS, cQ_0_5 hS, cQ_0_6 hS, cK_3 hS, cQ_3_0 hS, cQ_3_1 hS, cQ_3_2 hS, cR9_4 hS, cR9_6 hS, cR9_8 hS, cR9_77 hS, cK_68 hS, cf_fromOf hS h92 hw hd hqi, cf_lengthOf hS hB2 h92 hw hd hqi, cm_count hS h92.1 (k := 4) (by decide), cm_count hS h92.1 (k := 77) (by decide), h77, h92.2.1.2.1]
          generalize hff : fO T (gp (fL T d) q) = f at *
          generalize hll : lO T (gp (fL T d) q) = n at *
          rw [pk_sub (show n ≤ T.2.1.length by omega), nI_add]
          simp only [show (160 : Int32) = nI 160 from rfl, nI_leI (show T.2.1.length - n + l.length < 2 ^ 31 by omega) (show 160 < 2 ^ 31 by decide)]
          by_cases h160 : T.2.1.length - n + l.length ≤ 160
          · rw [if_pos h160, if_pos h160]
            obtain ⟨z, e1, J3, R3, F3, rfl, u3, m3, t3, c3, r3⟩ := it_up (b := fun (v : Int32 × PS) => f_X9_apply_b92 x (nI f) (nI n) v.1 v.2) n
              (P := fun i z => ∃ J' R' F', z = (nI i, sI S J') ∧ ou J2 J' x ∧ cM J' x R' F' ∧ cT (tkN T f i) R' F' ∧ cC (tkN T f i) R' F' ∧ R' 77 = l)
              (Q := fun z => ∃ J' R' F', z = sI S J' ∧ ou J2 J' x ∧ cM J' x R' F' ∧ cT (tkN T f n) R' F' ∧ cC (tkN T f n) R' F' ∧ R' 77 = l)
              (fun i z hi ⟨J', R', F', e, u', m', t', c', r'⟩ => by
                subst e
                obtain ⟨o1, o2⟩ := tkN_ok hw (f := f) i (by omega)
                unfold f_X9_apply_b92
                simp only [kK_sI, kQ_sI, kN_sI, kZ_sI, kI_sI, wI_sI, if_true, Option.bind_some, lt, cK_0 hS, nI_leI (show n < 2 ^ 31 by omega) (show i < 2 ^ 31 by omega), if_neg (show ¬ n ≤ i by omega), nI_1]
                obtain ⟨J4, R4, F4, g4, u4, m4, t4, c4, r4⟩ := cx_takeOut hS m' t' o1 (p := f) (by omega)
                rw [g4]
                exact Or.inl ⟨_, rfl, J4, R4, F4, rfl, u'.tr u4, m4, t4, c4, r4.trans r'⟩)
              (fun z ⟨J', R', F', e, u', m', t', c', r'⟩ => by
                subst e
                unfold f_X9_apply_b92
                rw [if_pos (show nI n ≤ nI n from (nI_leI (show n < 2 ^ 31 by omega) (by omega)).mpr (Nat.le_refl _))]
                exact ⟨_, rfl, J', R', F', rfl, u', m', t', c', r'⟩)
              0 (0, sI S J2) ⟨J2, R2, F, by rw [nI_0], ou.rf, h92.1, h92.2.1, ⟨Or.inr ⟨h92.2.2.1, h92.2.2.2.2.1⟩, Or.inr ⟨h92.2.2.1, d, TN, hd, h92.2.2.2.1, h92.2.2.2.2.2⟩⟩, h77⟩ (by omega) kF (kF_big (by omega))
            rw [e1]
            simp only [Option.bind_some]
            obtain ⟨o1, o2⟩ := tkN_ok hw (f := f) n (by omega)
            obtain ⟨z, e1, J5, R5, F5, rfl, u5, m5, t5, c5, r5⟩ := it_up (b := fun (w : Int32 × PS) => f_X9_apply_b115 x (nI v) (nI f) w.1 w.2) l.length
              (P := fun i z => ∃ J' R' F', z = (nI i, sI S J') ∧ ou J2 J' x ∧ cM J' x R' F' ∧ cT (ptN (tkN T f n) f l (nI v) i) R' F' ∧ cC (ptN (tkN T f n) f l (nI v) i) R' F' ∧ R' 77 = l)
              (Q := fun z => ∃ J' R' F', z = sI S J' ∧ ou J2 J' x ∧ cM J' x R' F' ∧ cT (ptN (tkN T f n) f l (nI v) l.length) R' F' ∧ cC (ptN (tkN T f n) f l (nI v) l.length) R' F' ∧ R' 77 = l)
              (fun i z hi ⟨J', R', F', e, u', m', t', c', r'⟩ => by
                subst e
                obtain ⟨p1, p2⟩ := ptN_ok o1 hv htx (f := f) (by omega) (by omega) i (by omega)
                unfold f_X9_apply_b115
                simp only [kK_sI, kQ_sI, kN_sI, kZ_sI, kI_sI, wI_sI, if_true, Option.bind_some, lt, cK_0 hS, cQ_0_6 hS, cR9_77 hS, cm_count hS m' (k := 77) (by decide), r', nI_leI (show l.length < 2 ^ 31 by omega) (show i < 2 ^ 31 by omega), if_neg (show ¬ l.length ≤ i by omega), cm_getn hS m' (k := 77) (by decide) (show i < 2 ^ 31 by omega), nI_add, (char_id (Or.inl (htx _ (la_mem hi)))).1, nI_1]
                obtain ⟨J4, R4, F4, g4, u4, m4, t4, c4, r4⟩ := cx_putIn hS m' t' p1 (p := f + i) (by omega) (by omega) (la l i) (nI v)
                rw [g4]
                exact Or.inl ⟨_, rfl, J4, R4, F4, rfl, u'.tr u4, m4, t4, c4, r4.trans r'⟩)
              (fun z ⟨J', R', F', e, u', m', t', c', r'⟩ => by
                subst e
                unfold f_X9_apply_b115
                simp only [kK_sI, kQ_sI, kN_sI, kZ_sI, kI_sI, wI_sI, if_true, Option.bind_some, lt, cK_0 hS, cQ_0_6 hS, cR9_77 hS, cm_count hS m' (k := 77) (by decide), r', if_pos (show nI l.length ≤ nI l.length from (nI_leI (show l.length < 2 ^ 31 by omega) (by omega)).mpr (Nat.le_refl _))]
                exact ⟨_, rfl, J', R', F', rfl, u', m', t', c', r'⟩)
              0 (0, sI S J3) ⟨J3, R3, F3, by rw [nI_0], u3, m3, t3, c3, r3⟩ (by omega) kF (kF_big (by omega))
            rw [e1]
            simp only [Option.bind_some, kK_sI, kQ_sI, kN_sI, kZ_sI, kI_sI, wI_sI, if_true, Option.bind_some, lt, cK_0 hS, cQ_0_1 hS, cK_3 hS, cQ_3_0 hS, cQ_3_1 hS, cQ_3_2 hS, cR9_4 hS, cR9_6 hS, cR9_8 hS, cm_count hS m5 (k := 4) (by decide), t5.2.1]
            refine ⟨J5, rfl, (u.tr u2).tr u5, hS, ?_, R5, F5, m5, t5, c5⟩
            show dB S J5 x (ptN (tkN T f n) f l (nI v) l.length).2.2.2.2.1 (ptN (tkN T f n) f l (nI v) l.length).2.2.2.2.2.1
            rw [(ptN_ru _ _ _ _ _).1, (ptN_ru _ _ _ _ _).2, (tkN_ru _ _ _).1, (tkN_ru _ _ _).2]
            exact hB2.kept u5
          · rw [if_neg h160, if_neg h160]
            exact ⟨J2, rfl, u.tr u2, hJ2⟩
end
