/-! a suggestion is written into the proposal -/
section
variable {S : PS} {I : Nat → Nat → Int32} {x : Nat} {T : St} {R : Nat → List Int32} {F : Nat → Nat → Int32}
theorem cw_rule (hS : cS S x) (hM : cM I x R F) {ts : List Tk} {t : List Int32} (hT : tM R ts) (hwt : wT ts) (h4 : R 4 = t) (h77 : R 77 = []) {j : Nat} (hj : j < 1000) {a : Nat} {v : Rv} (hd : dR S I x a v) (hg : ∀ l ∈ v.2.2.2.2.2, isGs l) {s : Nat} (hs : s < v.2.2.2.2.2.length) : cO S I x (uR R 77 (sgK (stK t ts j v.1) ((v.2.2.2.2.2[s]?).getD []) ((v.2.2.2.2.2[s]?).getD []).length)) F (f_X6_writeSuggestion (sI S I) a (x + 10) (nI j) (nI s) (x + 77)) := by
  obtain ⟨d1, d2, d3, d4, d5, d6, d7, h, e6, as, ⟨e7, e8, e9⟩, e10⟩ := id hd
  have hn := e7.2.1
  obtain ⟨sg, hsg⟩ : ∃ sg, v.2.2.2.2.2[s]? = some sg := ⟨_, List.getElem?_eq_getElem hs⟩
  have hdw := e10 s sg hsg
  obtain ⟨q1, q2, q3, q4⟩ := hg sg (List.mem_of_getElem? hsg)
  have hst := stK_len (t := t) hwt v.1 j
  rw [hsg]
  simp only [Option.getD_some]
  unfold f_X6_writeSuggestion
  simp only [kK_sI, kQ_sI, kN_sI, kZ_sI, kI_sI, wI_sI, if_true, Option.bind_some, lt, nI_lt0 (show s < 2 ^ 31 by omega), if_false, d1, e6, e7.1, dl_size e7 e8, nI_ltI (show s < 2 ^ 31 by omega) (show v.2.2.2.2.2.length < 2 ^ 31 by omega), if_pos hs, dl_get e7 e8 hs, hdw.k]
  obtain ⟨z, e1, J, rfl, m, u⟩ := it_up (b := fun (w : Int32 × PS) => f_X6_writeSuggestion_b32 a (x + 10) (x + 77) (nI j) (as s) w.1 w.2) sg.length
    (P := fun i z => ∃ J, z = (nI i, sI S J) ∧ cM J x (uR R 77 (sgK (stK t ts j v.1) sg i)) F ∧ ou I J x)
    (Q := fun z => ∃ J, z = sI S J ∧ cM J x (uR R 77 (sgK (stK t ts j v.1) sg sg.length)) F ∧ ou I J x)
    (fun i z hi ⟨J, e, m, u⟩ => by
      subst e
      have hlen := sgK_len hst q4 (i + 1) (by omega)
      simp only [sgK, List.length_append] at hlen
      unfold f_X6_writeSuggestion_b32
      simp only [kK_sI, kQ_sI, kN_sI, kZ_sI, kI_sI, wI_sI, if_true, Option.bind_some, lt, (hdw.kept u).count, (hdw.kept u).get (show i < 2 ^ 31 by omega), hdw.k, nI_leI (show sg.length < 2 ^ 31 by omega) (show i < 2 ^ 31 by omega), if_neg (show ¬ sg.length ≤ i by omega), d1, cR9_77 hS, nI_1]
      left
      by_cases e : la sg i = 42
      · rw [if_pos e] at hlen ⊢
        obtain ⟨J2, g, m2, u2⟩ := cw_taken hS m (hT.k77 (H := sgK (stK t ts j v.1) sg i)) hwt (show (uR R 77 (sgK (stK t ts j v.1) sg i)) 4 = t from h4) (P0 := sgK (stK t ts j v.1) sg i) (uR_eq _ _ _) hj (hd.kept u) (by omega)
        rw [g]
        rw [uR_uR] at m2
        exact ⟨_, rfl, J2, rfl, by simp only [sgK, if_pos e]; exact m2, u.tr u2⟩
      · rw [if_neg e] at hlen ⊢
        obtain ⟨J2, g, m2, u2⟩ := cm_add hS m (k := 77) (by decide) (by rw [uR_eq, show capT 77 = 180 from rfl]; simp only [List.length_singleton] at hlen; omega) (la sg i)
        rw [g]
        rw [uR_uR, uR_eq] at m2
        exact ⟨_, rfl, J2, rfl, by simp only [sgK, if_neg e]; exact m2, u.tr u2⟩)
    (fun z ⟨J, e, m, u⟩ => by
      subst e
      unfold f_X6_writeSuggestion_b32
      simp only [kK_sI, kQ_sI, kN_sI, kZ_sI, kI_sI, wI_sI, if_true, Option.bind_some, lt, (hdw.kept u).count, hdw.k, if_pos (show nI sg.length ≤ nI sg.length from (nI_leI (show sg.length < 2 ^ 31 by omega) (by omega)).mpr (Nat.le_refl _))]
      exact ⟨_, rfl, J, rfl, m, u⟩)
    0 (0, sI S I) ⟨I, by rw [nI_0], by simp only [sgK]; rw [← h77, uR_self]; exact hM, ou.rf⟩ (by omega) kF (kF_big (by omega))
  rw [e1]
  exact ⟨J, rfl, m, u⟩
theorem cw_book (hS : cS S x) (hB : dB S I x T.2.2.2.2.1 T.2.2.2.2.2.1) (hM : cM I x R F) (hT : cT T R F) (hR : tM R (tsO T.2.1)) (hw : wf T) (h77 : R 77 = []) {p : Nat × Nat} (hj : p.1 < 1000) (hr : p.2 ≤ 20) {s : Nat} (hs : s < sgN T p.2) : cO S I x (uR R 77 (sugL T p s)) F (f_X0_writeSuggestion (sI S I) (x + 25) (x + 10) (nI p.1) (nI p.2) (nI s) (x + 77)) := by
  have hwt := tsO_wT hw.2.1
  have hw1 := hw.2.2.2.2.2.2.1.1
  have hw2 := hw.2.2.2.2.2.2.2.2.1
  obtain ⟨⟨ra, l1, l2⟩, ⟨pb, l3, l4⟩⟩ := hB
  have hsz : I (x + 26) 2 = nI T.2.2.2.2.1.length := by rw [hM.2 26 2 rfl, hT.2.2.2.2.1]
  have hsz2 : I (x + 27) 2 = nI T.2.2.2.2.2.1.length := by rw [hM.2 27 2 rfl, hT.2.2.2.2.2.1]
  have hr3 : p.2 < 2 ^ 31 := by omega
  unfold f_X0_writeSuggestion
  simp only [kK_sI, kQ_sI, kN_sI, kZ_sI, kI_sI, wI_sI, if_true, Option.bind_some, lt, cK_25 hS, cQ_25_0 hS, cQ_25_1 hS, cQ_25_2 hS, cR9_28 hS, cK_26 hS, cK_27 hS, dl_size l1 hsz, dl_size l3 hsz2, nI_lt0 hr3, if_false, nI_leI (show T.2.2.2.2.1.length < 2 ^ 31 by omega) hr3, show (12 : Int32) = nI 12 from rfl, nI_ltI hr3 (show 12 < 2 ^ 31 by decide)]
  by_cases h : T.2.2.2.2.1.length ≤ p.2
  · have hno : T.2.2.2.2.1[p.2]? = none := List.getElem?_eq_none h
    have h12 : 12 ≤ p.2 ∧ p.2 - 12 < T.2.2.2.2.2.1.length := by
      unfold sgN at hs
      rw [hno] at hs
      simp only at hs
      split at hs
      · assumption
      · omega
    obtain ⟨w, hw9⟩ : ∃ w, T.2.2.2.2.2.1[p.2 - 12]? = some w := ⟨_, List.getElem?_eq_getElem h12.2⟩
    have hdp := l4 _ w hw9
    obtain ⟨k1, k2, ⟨ho, k3, k4⟩, ⟨hx, k5, k6⟩⟩ := id hdp
    have hww := hw.2.2.2.2.2.2.2.2.2.1 w (List.mem_of_getElem? hw9)
    rw [if_pos h, if_neg (by omega), pk_sub h12.1]
    simp only [nI_leI (show T.2.2.2.2.2.1.length < 2 ^ 31 by omega) (show p.2 - 12 < 2 ^ 31 by omega), if_neg (show ¬ T.2.2.2.2.2.1.length ≤ p.2 - 12 by omega), dl_get l3 hsz2 h12.2, Option.bind_some, k1, if_true]
    -- the word that decides
    have hun : ∃ b l, f_X4_unlike (sI S I) (pb (p.2 - 12)) (x + 10) (nI p.1) = some b ∧ dW S I x b l ∧ l = sugL T p s ∧ l.length ≤ 20 := by
      unfold f_X4_unlike sugL
      simp only [kK_sI, kQ_sI, kN_sI, kZ_sI, kI_sI, wI_sI, if_true, Option.bind_some, lt, k1, k3, k5, cK_10 hS, ct_isThe hS hM hR hwt hT.2.1 (show p.1 < 2 ^ 31 by omega) k4, bi_eq0, hno, hw9]
      cases iT T.2.1 (tsO T.2.1) w.1 p.1
      · exact ⟨ho, w.1, rfl, k4, rfl, hww.1.2.1⟩
      · exact ⟨hx, w.2, rfl, k6, rfl, hww.2.1.2.1⟩
    obtain ⟨b, l, g, hdl, hl, hl20⟩ := hun
    rw [g, ← hl]
    simp only [Option.bind_some]
    obtain ⟨z, e1, J, rfl, m, u⟩ := it_up (b := fun (w : Int32 × PS) => f_X0_writeSuggestion_b82 (x + 77) b w.1 w.2) l.length
      (P := fun i z => ∃ J, z = (nI i, sI S J) ∧ cM J x (uR R 77 (l.take i)) F ∧ ou I J x)
      (Q := fun z => ∃ J, z = sI S J ∧ cM J x (uR R 77 l) F ∧ ou I J x)
      (fun i z hi ⟨J, e, m, u⟩ => by
        subst e
        unfold f_X0_writeSuggestion_b82
        simp only [kK_sI, kQ_sI, kN_sI, kZ_sI, kI_sI, wI_sI, if_true, Option.bind_some, lt, (hdl.kept u).count, (hdl.kept u).get (show i < 2 ^ 31 by omega), hdl.k, nI_leI (show l.length < 2 ^ 31 by omega) (show i < 2 ^ 31 by omega), if_neg (show ¬ l.length ≤ i by omega), cR9_77 hS, nI_1]
        obtain ⟨J2, g, m2, u2⟩ := cm_add hS m (k := 77) (by decide) (by rw [uR_eq, List.length_take, show capT 77 = 180 from rfl]; omega) (la l i)
        rw [g]
        rw [uR_uR, uR_eq] at m2
        exact Or.inl ⟨_, rfl, J2, rfl, by rw [List.take_succ_eq_append_getElem hi, ← la_lt hi]; exact m2, u.tr u2⟩)
      (fun z ⟨J, e, m, u⟩ => by
        subst e
        unfold f_X0_writeSuggestion_b82
        simp only [kK_sI, kQ_sI, kN_sI, kZ_sI, kI_sI, wI_sI, if_true, Option.bind_some, lt, (hdl.kept u).count, hdl.k, if_pos (show nI l.length ≤ nI l.length from (nI_leI (show l.length < 2 ^ 31 by omega) (by omega)).mpr (Nat.le_refl _))]
        rw [List.take_length] at m
        exact ⟨_, rfl, J, rfl, m, u⟩)
      0 (0, sI S I) ⟨I, by rw [nI_0], by rw [List.take_zero, ← h77, uR_self]; exact hM, ou.rf⟩ (by omega) kF (kF_big (by omega))
    rw [e1]
    exact ⟨J, rfl, m, u⟩
  · rw [if_neg h]
    obtain ⟨v, hv⟩ : ∃ v, T.2.2.2.2.1[p.2]? = some v := ⟨_, List.getElem?_eq_getElem (by omega)⟩
    have hdr := l2 _ v hv
    simp only [dl_get l1 hsz (show p.2 < T.2.2.2.2.1.length by omega), Option.bind_some, hdr.1, if_true]
    have hs2 : s < v.2.2.2.2.2.length := by
      unfold sgN at hs
      rw [hv] at hs
      exact hs
    obtain ⟨J, g, m, u⟩ := cw_rule hS hM hR hwt hT.2.1 h77 hj hdr (hw.2.2.2.2.2.2.2.1 _ v hv).2.2.2 hs2
    rw [g]
    refine ⟨J, rfl, ?_, u⟩
    unfold sugL
    rw [hv]
    exact m
theorem sugL_len (hw : wf T) {p : Nat × Nat} {s : Nat} (hs : s < sgN T p.2) : (sugL T p s).length ≤ 180 := by
  have hwt := tsO_wT hw.2.1
  unfold sugL
  unfold sgN at hs
  cases hv : T.2.2.2.2.1[p.2]? with
  | none =>
    rw [hv] at hs
    simp only at hs ⊢
    cases hw9 : T.2.2.2.2.2.1[p.2 - 12]? with
    | none => simp
    | some w =>
      have hww := hw.2.2.2.2.2.2.2.2.2.1 w (List.mem_of_getElem? hw9)
      simp only
      split
      · have := hww.2.1.2.1; omega
      · have := hww.1.2.1; omega
  | some v =>
    rw [hv] at hs
    simp only at hs ⊢
    obtain ⟨sg, hsg⟩ : ∃ sg, v.2.2.2.2.2[s]? = some sg := ⟨_, List.getElem?_eq_getElem hs⟩
    obtain ⟨q1, q2, q3, q4⟩ := (hw.2.2.2.2.2.2.2.1 _ v hv).2.2.2 sg (List.mem_of_getElem? hsg)
    rw [hsg]
    simp only [Option.getD_some]
    have := sgK_len (stK_len (t := T.2.1) hwt v.1 p.1) q4 sg.length (Nat.le_refl _)
    omega
theorem eC.c9 {d : Nat} {TN : List Nat} {J : Nat → Nat → Int32} {R' : Nat → List Int32} (h : c9 S I x T d TN R F) (hM : cM J x R' F) (hR : ∀ i, i < 77 → R' i = R i) : c9 S J x T d TN R' F := by
  obtain ⟨a1, a2, a3, a4, ⟨⟨t1, t2, t3, t4, t5, t6, t7⟩, a6⟩, a7, a8, a9, a10⟩ := h
  refine ⟨hM, eC.t (R := R) (F := F) ⟨fun i hi => hR i (by omega), fun i _ hi => hR i (by omega), fun _ _ _ => rfl⟩ a2, a3, a4, ⟨⟨?_, ?_, ?_, ?_, ?_, ?_, ?_⟩, ?_⟩, a7, ?_, ?_, ?_⟩
  all_goals first | (rw [hR _ (by decide)]; assumption)
/-- what 'propose' does: it throws, or lays the suggestion out -/
theorem cw_propose (hS : cS S x) (hB : dB S I x T.2.2.2.2.1 T.2.2.2.2.2.1) {d : Nat} {TN : List Nat} (h : c9 S I x T d TN R F) (hw : wf T) (hd : d < 4) (i s : Int32) : match ix i (fL T d).length with
    | none => f_X9_propose (sI S I) x i s = some (.inr (sI S I, 5))
    | some q => match ix s (sgN T (gp (fL T d) q).2) with
      | none => f_X9_propose (sI S I) x i s = some (.inr (sI S I, 5))
      | some k => ∃ J R', f_X9_propose (sI S I) x i s = some (.inl (sI S J)) ∧ ou I J x ∧ c9 S J x T d TN R' F ∧ R' 77 = sugL T (gp (fL T d) q) k := by
  have hl := h.L hw hd
  have hq := cf_need hS h hw hd i
  cases hi : ix i (fL T d).length with
  | none =>
    rw [hi] at hq
    unfold f_X9_propose
    simp only [kK_sI, kQ_sI, kN_sI, kZ_sI, kI_sI, wI_sI, if_true, Option.bind_some, lt, cK_0 hS, hq, bx2_l, bx2_r, bx1_l, bx1_r]
  | some q =>
    rw [hi] at hq
    obtain ⟨hqi, rfl⟩ := ix_some (by omega) hi
    have hok := fL_ok hw hd h.2.2.2.2.2.1 (gp_mem hqi)
    have hsg := cf_sugOf hS hB h.1 h.2.1 hw (r := (gp (fL T d) q).2) (by omega)
    have hsn : sgN T (gp (fL T d) q).2 ≤ 2 := by
      unfold sgN
      cases e : T.2.2.2.2.1[(gp (fL T d) q).2]? with
      | none => simp only; split <;> omega
      | some v => exact (hw.2.2.2.2.2.2.1.2 _ v e).2.2.2.2.2
    simp only
    cases hs : ix s (sgN T (gp (fL T d) q).2) with
    | none =>
      unfold f_X9_propose
      simp only [kK_sI, kQ_sI, kN_sI, kZ_sI, kI_sI, wI_sI, if_true, Option.bind_some, lt, cK_0 hS, hq, bx2_l, bx2_r, bx1_l, bx1_r, cQ_0_5 hS, cQ_0_3 hS, cK_68 hS, cK_25 hS, cf_ruleOf hS h hw hd hqi, hsg]
      rcases ix_none hs with z | z
      · rw [if_pos z]
      · by_cases h0 : s < 0
        · rw [if_pos h0]
        · rw [if_neg h0, if_neg (Int32.not_lt.mpr z)]
    | some k =>
      obtain ⟨hki, rfl⟩ := ix_some (by omega) hs
      unfold f_X9_propose
      simp only [kK_sI, kQ_sI, kN_sI, kZ_sI, kI_sI, wI_sI, if_true, Option.bind_some, lt, cK_0 hS, hq, bx2_l, bx2_r, bx1_l, bx1_r, cQ_0_5 hS, cQ_0_3 hS, cQ_0_6 hS, cQ_0_2 hS, cR9_77 hS, cK_68 hS, cK_25 hS, cf_ruleOf hS h hw hd hqi, hsg, nI_lt0 (show k < 2 ^ 31 by omega), if_false, nI_ltI (show k < 2 ^ 31 by omega) (show sgN T (gp (fL T d) q).2 < 2 ^ 31 by omega), if_pos hki]
      obtain ⟨I1, g1, m1, u1⟩ := cm_clear hS h.1 (k := 77) (by decide)
      have h1 : c9 S I1 x T d TN (uR R 77 []) F := eC.c9 h m1 (fun i hi => uR_ne (by omega))
      rw [g1]
      simp only [kK_sI, kQ_sI, kN_sI, kZ_sI, kI_sI, wI_sI, if_true, Option.bind_some, lt, cK_0 hS, cQ_0_5 hS, cQ_0_3 hS, cQ_0_6 hS, cQ_0_2 hS, cK_68 hS, cK_25 hS, cf_tokenOf hS h1 hw hd hqi]
      obtain ⟨I2, g2, m2, u2⟩ := cw_book hS (hB.kept u1) h1.1 h1.2.1 h1.2.2.2.2.1.1 hw (uR_eq _ _ _) (p := gp (fL T d) q) (by omega) (by omega) hki
      rw [g2]
      exact ⟨I2, _, rfl, u1.tr u2, eC.c9 h1 m2 (fun i hi => uR_ne (by omega)), uR_eq _ _ _⟩
end
noncomputable def a_size (T : St) (p i s : Int32) : An := match ix p 4 with
  | none => .inr 1
  | some d => match ix i (fL T d).length with
    | none => .inr 5
    | some q => match ix s (sgN T (gp (fL T d) q).2) with
      | none => .inr 5
      | some k => .inl (T, nI (sugL T (gp (fL T d) q) k).length)
noncomputable def a_sign (T : St) (p i s c : Int32) : An := match ix p 4 with
  | none => .inr 1
  | some d => match ix i (fL T d).length with
    | none => .inr 5
    | some q => match ix s (sgN T (gp (fL T d) q).2) with
      | none => .inr 5
      | some k => match ix c (sugL T (gp (fL T d) q) k).length with
        | none => .inr 5
        | some n => .inl (T, la (sugL T (gp (fL T d) q) k) n)
def tkN (T : St) (f : Nat) : Nat → St
  | 0 => T
  | n + 1 => uTake (tkN T f n) f
def ptN (T : St) (f : Nat) (l : List Int32) (w : Int32) : Nat → St
  | 0 => T
  | n + 1 => uPut (ptN T f l w n) (f + n) (la l n) w
noncomputable def a_apply (T : St) (p i s w : Int32) : An := match ix p 4 with
  | none => .inr 1
  | some d => match ix w 4 with
    | none => .inr 1
    | some v => match ix i (fL T d).length with
      | none => .inr 5
      | some q => match ix s (sgN T (gp (fL T d) q).2) with
        | none => .inr 5
        | some k => let l := sugL T (gp (fL T d) q) k
          let T' := ptN (tkN T (fO T (gp (fL T d) q)) (lO T (gp (fL T d) q))) (fO T (gp (fL T d) q)) l (nI v) l.length
          if T.2.1.length - lO T (gp (fL T d) q) + l.length ≤ 160 then .inl (T', nI T'.2.1.length) else .inr 2
