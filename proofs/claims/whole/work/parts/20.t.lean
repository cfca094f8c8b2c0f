/-! the desks' settings -/
def uDs (T : St) (d : Nat) (k : Dk) : St := (T.1, T.2.1, T.2.2.1, T.2.2.2.1, T.2.2.2.2.1, T.2.2.2.2.2.1, fun e => if e = d then k else T.2.2.2.2.2.2 e)
def uMk (T : St) (v : Int32) : St := (T.1, T.2.1, T.2.2.1, T.2.2.2.1.map (fun m => m ||| v), T.2.2.2.2.1, T.2.2.2.2.2.1, T.2.2.2.2.2.2)
def eX (d : Nat) (R R' : Nat → List Int32) (F F' : Nat → Nat → Int32) : Prop := (∀ i, i ≠ dO d + 1 → i ≠ dO d + 3 → i ≠ dO d + 5 → i ≠ dO d + 7 → R' i = R i) ∧ ∀ i j, i ≠ dO d → F' i j = F i j
theorem dO_ne {d e : Nat} (h : d ≠ e) (hd : d < 4) (he : e < 4) : dO d + 9 ≤ dO e ∨ dO e + 9 ≤ dO d := by
  by_cases q : d < e
  · exact Or.inl (dO_sep q he)
  · exact Or.inr (dO_sep (by omega) hd)
theorem eX.t {T : St} {d : Nat} {k : Dk} {R R' : Nat → List Int32} {F F' : Nat → Nat → Int32} (h : eX d R R' F F') (hd : d < 4) (hT : cT T R F) (hk : dM R' F' d k) : cT (uDs T d k) R' F' := by
  obtain ⟨a1, a2, a3, a4, a5, a6, a7, a8⟩ := hT
  have hl := dO_lt d
  refine ⟨(h.1 1 (by omega) (by omega) (by omega) (by omega)).trans a1, (h.1 4 (by omega) (by omega) (by omega) (by omega)).trans a2, (h.1 6 (by omega) (by omega) (by omega) (by omega)).trans a3, (h.1 8 (by omega) (by omega) (by omega) (by omega)).trans a4, (h.2 26 2 (by omega)).trans a5, (h.2 27 2 (by omega)).trans a6, (h.2 30 2 (by omega)).trans a7, fun e he => ?_⟩
  by_cases q : e = d
  · subst q
    simp only [uDs, if_true]
    exact hk
  · have hs := dO_ne q he hd
    simp only [uDs, if_neg q]
    obtain ⟨b1, b2, b3, b4, b5, b6⟩ := a8 e he
    exact ⟨(h.1 _ (by omega) (by omega) (by omega) (by omega)).trans b1, (h.2 _ _ (by omega)).trans b2, (h.2 _ _ (by omega)).trans b3, (h.1 _ (by omega) (by omega) (by omega) (by omega)).trans b4, (h.1 _ (by omega) (by omega) (by omega) (by omega)).trans b5, (h.1 _ (by omega) (by omega) (by omega) (by omega)).trans b6⟩
/-- what is read stands, what was solved does not -/
theorem cC.unsolve {T T' : St} {R R' : Nat → List Int32} {F F' : Nat → Nat → Int32} (h : cC T R F) (h7 : F' 0 7 = F 0 7) (h8 : F' 0 8 = -1) (hR : cR T R → cR T' R') : cC T' R' F' := by
  refine ⟨?_, Or.inl h8⟩
  rw [h7]
  rcases h.1 with h | ⟨h, h2⟩
  · exact Or.inl h
  · exact Or.inr ⟨h, hR h2⟩
section
variable {S : PS} {I : Nat → Nat → Int32} {x : Nat} {T : St} {R : Nat → List Int32} {F : Nat → Nat → Int32}
theorem cx_markAll (hS : cS S x) (hM : cM I x R F) (v : Int32) : cO S I x (uR R 8 ((R 8).map (fun m => m ||| v))) F (f_X7_markAll (sI S I) (x + 3) v) := by
  have h161 := (hM.1 8 (by decide)).2
  rw [show capT 8 = 161 from rfl] at h161
  unfold f_X7_markAll
  simp only [lt]
  obtain ⟨z, e1, J, G, rfl, m, u, g1, g2⟩ := it_up (b := fun (w : Int32 × PS) => f_X7_markAll_b2 (x + 3) v w.1 w.2) (R 8).length
    (P := fun i s => ∃ J G, s = (nI i, sI S J) ∧ cM J x (uR R 8 G) F ∧ ou I J x ∧ G.length = (R 8).length ∧ ∀ j, j < (R 8).length → la G j = if j < i then la (R 8) j ||| v else la (R 8) j)
    (Q := fun z => ∃ J G, z = sI S J ∧ cM J x (uR R 8 G) F ∧ ou I J x ∧ G.length = (R 8).length ∧ ∀ j, j < (R 8).length → la G j = la (R 8) j ||| v)
    (fun i s hi ⟨J, G, e, m, u, g1, g2⟩ => by
      subst e
      have hi3 : i < 2 ^ 31 := by omega
      unfold f_X7_markAll_b2
      simp only [kK_sI, kQ_sI, kN_sI, kZ_sI, kI_sI, wI_sI, if_true, Option.bind_some, lt, cK_3 hS, cQ_3_0 hS, cQ_3_1 hS, cQ_3_2 hS, cR9_4 hS, cR9_6 hS, cR9_8 hS, cm_count hS m (k := 8) (by decide), uR_eq, g1, nI_leI (show (R 8).length < 2 ^ 31 by omega) hi3, if_neg (show ¬ (R 8).length ≤ i by omega), cm_getn hS m (k := 8) (by decide) hi3, g2 i hi, if_neg (Nat.lt_irrefl i), nI_1]
      obtain ⟨J2, w1, m2, u2⟩ := cm_set hS m (k := 8) (by decide) hi3 (la (R 8) i ||| v)
      rw [w1]
      rw [uR_uR, uR_eq] at m2
      refine Or.inl ⟨_, rfl, J2, _, rfl, m2, u.tr u2, by rw [List.length_set]; exact g1, fun j hj => ?_⟩
      rw [la_set, g2 j hj]
      by_cases e : j = i
      · subst e; rw [if_pos ⟨rfl, by omega⟩, if_pos (Nat.lt_succ_self _)]
      · rw [if_neg (fun z => e z.1)]
        by_cases e2 : j < i
        · rw [if_pos e2, if_pos (by omega)]
        · rw [if_neg e2, if_neg (by omega)])
    (fun s ⟨J, G, e, m, u, g1, g2⟩ => by
      subst e
      unfold f_X7_markAll_b2
      simp only [kK_sI, kQ_sI, kN_sI, kZ_sI, kI_sI, wI_sI, if_true, Option.bind_some, lt, cK_3 hS, cQ_3_0 hS, cQ_3_1 hS, cQ_3_2 hS, cR9_4 hS, cR9_6 hS, cR9_8 hS, cm_count hS m (k := 8) (by decide), uR_eq, g1, if_pos (show nI (R 8).length ≤ nI (R 8).length from (nI_leI (show (R 8).length < 2 ^ 31 by omega) (by omega)).mpr (Nat.le_refl _))]
      exact ⟨_, rfl, J, G, rfl, m, u, g1, fun j hj => by rw [g2 j hj, if_pos hj]⟩)
    0 (0, sI S I) ⟨I, R 8, by rw [nI_0], by rw [uR_self]; exact hM, ou.rf, rfl, fun j hj => by rw [if_neg (Nat.not_lt_zero _)]⟩ (by omega) kF (kF_big (by omega))
  rw [e1]
  have : G = (R 8).map (fun m => m ||| v) := la_ext (by rw [List.length_map, g1]) (fun j hj => by
    rw [g2 j (by omega), la_map, List.getElem?_eq_getElem (by omega)]
    simp only
    rw [la_lt (by omega)])
  subst this
  exact ⟨J, rfl, m, u⟩
theorem cT_mark (hT : cT T R F) (v : Int32) : cT (uMk T v) (uR R 8 ((R 8).map (fun m => m ||| v))) F := by
  obtain ⟨a1, a2, a3, a4, a5, a6, a7, a8⟩ := hT
  refine ⟨a1, a2, a3, by rw [uR_eq, a4]; rfl, a5, a6, a7, fun d hd => ?_⟩
  have hl := dO_lt d
  obtain ⟨b1, b2, b3, b4, b5, b6⟩ := a8 d hd
  refine ⟨?_, b2, b3, ?_, ?_, ?_⟩ <;> rw [uR_ne (by omega)] <;> assumption
/-- a desk's settings were told -/
theorem cx_noteSettings (hS : cS S x) (hB : dB S I x T.2.2.2.2.1 T.2.2.2.2.2.1) (hM : cM I x R F) (hT : cT T R F) (h7 : F 0 7 = 0 ∨ (F 0 7 = 1 ∧ cR T R)) (d : Nat) : ∃ J, f_X9_noteSettings (sI S I) x (nI d) = some (sI S J) ∧ ou I J x ∧ cI S J x (uMk T (mk d)) := by
  unfold f_X9_noteSettings
  simp only [kK_sI, kQ_sI, kN_sI, kZ_sI, kI_sI, wI_sI, if_true, Option.bind_some, lt, cK_0 hS, cQ_0_0 hS, cQ_0_1 hS, cQ_0_2 hS, cQ_0_3 hS, cQ_0_4 hS, cQ_0_5 hS, cQ_0_6 hS, cR9_1 hS, cR9_77 hS, cK_3 hS]
  obtain ⟨J, g, m, u⟩ := cx_markAll hS hM (mk d)
  unfold mk at g
  rw [g]
  obtain ⟨m2, u2⟩ := m.u0 8 (-1)
  simp only [kK_sI, kQ_sI, kN_sI, kZ_sI, kI_sI, wI_sI, if_true, Option.bind_some, lt, cK_0 hS]
  refine ⟨_, rfl, u.tr u2, hS, hB.kept (u.tr u2), _, _, m2, ?_, ?_, Or.inl (uF_eq _ _ _ _)⟩
  · exact (eC.rf.f (k := 0) (by decide)).t (cT_mark hT (mk d))
  · rw [uF_ne (Or.inr (by decide))]
    rcases h7 with h | ⟨h, h2⟩
    · exact Or.inl h
    · exact Or.inr ⟨h, h2⟩
theorem cx_ruleAt (hI : cI S I x T) (hw : wf T) (r : Int32) : ∃ a, f_X9_ruleAt (sI S I) x r = some (match ix r T.2.2.2.2.1.length with | none => .inr (sI S I, 3) | some _ => .inl (sI S I, a)) ∧ ∀ q, ix r T.2.2.2.2.1.length = some q → ∃ v, T.2.2.2.2.1[q]? = some v ∧ dR S I x a v := by
  obtain ⟨hS, hB, R, F, hM, hT, hC⟩ := id hI
  have hw2 := hw.2.2.2.2.2.2.1.1
  obtain ⟨⟨ra, l1, l2⟩, -⟩ := hB
  have hsz : I (x + 26) 2 = nI T.2.2.2.2.1.length := by rw [hM.2 26 2 rfl, hT.2.2.2.2.1]
  unfold f_X9_ruleAt
  simp only [kK_sI, kQ_sI, kN_sI, kZ_sI, kI_sI, wI_sI, if_true, Option.bind_some, lt, cK_0 hS, cQ_0_0 hS, cQ_0_1 hS, cQ_0_2 hS, cQ_0_3 hS, cQ_0_4 hS, cQ_0_5 hS, cQ_0_6 hS, cR9_1 hS, cR9_77 hS, cK_25 hS, cQ_25_0 hS, cQ_25_1 hS, cQ_25_2 hS, cR9_28 hS, cK_26 hS, dl_size l1 hsz]
  cases hp : ix r T.2.2.2.2.1.length with
  | none =>
    refine ⟨0, ?_, fun q hq => by cases hq⟩
    rcases ix_none hp with h | h
    · rw [if_pos h]
    · by_cases h0 : r < 0
      · rw [if_pos h0]
      · rw [if_neg h0, if_neg (Int32.not_lt.mpr h)]
  | some q =>
    obtain ⟨h1, rfl⟩ := ix_some (by omega) hp
    obtain ⟨v, hv⟩ : ∃ v, T.2.2.2.2.1[q]? = some v := ⟨_, List.getElem?_eq_getElem h1⟩
    have hd := l2 q v hv
    refine ⟨ra q, ?_, fun q' hq => ?_⟩
    · rw [if_neg (nI_pos (by omega)), if_pos ((nI_ltI (by omega) (by omega)).mpr h1), dl_get l1 hsz h1]
      simp only [Option.bind_some, hd.1, if_true]
    · cases hq
      exact ⟨v, hv, hd⟩
theorem cx_deskAt9 (hI : cI S I x T) (p : Int32) : f_X9_deskAt (sI S I) x p = some (match ix p 4 with | none => .inr (sI S I, 1) | some d => .inl (sI S I, x + dO d)) := by
  obtain ⟨hS, hB, R, F, hM, hT, hC⟩ := id hI
  cases hp : ix p 4 with
  | none => exact cx_deskNo hS hM hT.2.2.2.2.2.2.1 (ix_none hp)
  | some d =>
    obtain ⟨h1, rfl⟩ := ix_some (by decide) hp
    exact cx_deskAt hS hM hT.2.2.2.2.2.2.1 h1
end
def a_use (T : St) (p r b : Int32) : An := match ix r T.2.2.2.2.1.length with
  | none => .inr 3
  | some q => match ix p 4 with
    | none => .inr 1
    | some d => let k := T.2.2.2.2.2.2 d
      .inl (uMk (uDs T d (k.1, (if b = 0 then k.2.1 ||| mk q else k.2.1 &&& (mk q ^^^ (-1))), k.2.2)) (mk d), bi (!tb k.2.1 q))
def a_rank (T : St) (p r n : Int32) : An := match ix r T.2.2.2.2.1.length with
  | none => .inr 3
  | some q => match ix p 4 with
    | none => .inr 1
    | some d => match ix n 10 with
      | none => .inr 1
      | some v => let k := T.2.2.2.2.2.2 d
        .inl (uMk (uDs T d (k.1.set q v, k.2)) (mk d), nI (rk T.2.2.2.2.1 k.1 q))
def a_limit (T : St) (p n : Int32) : An := match ix p 4 with
  | none => .inr 1
  | some d => match ix n 21 with
    | none => .inr 1
    | some v => let k := T.2.2.2.2.2.2 d
      .inl (uMk (uDs T d (k.1, k.2.1, v, k.2.2.2)) (mk d), nI k.2.2.1)
def a_ignored (T : St) (p : Int32) : An := match ix p 4 with
  | none => .inr 1
  | some d => .inl (T, nI (T.2.2.2.2.2.2 d).2.2.2.length)
def a_heed (T : St) (p : Int32) : An := match ix p 4 with
  | none => .inr 1
  | some d => .inl (uDs T d (uG (T.2.2.2.2.2.2 d) []), nI (T.2.2.2.2.2.2 d).2.2.2.length)
def clM (d : Nat) (v : Int32) : Int32 := if tb v d = true then v &&& (mk d ^^^ (-1)) else v
def a_check (T : St) (p : Int32) : An := match ix p 4 with
  | none => .inr 1
  | some d => .inl ((T.1, T.2.1, T.2.2.1, T.2.2.2.1.map (clM d), T.2.2.2.2), nI (T.2.2.2.1.countP (fun v => tb v d)))
section
variable {S : PS} {I : Nat → Nat → Int32} {x : Nat} {T : St} {R : Nat → List Int32} {F : Nat → Nat → Int32}
theorem ci_use (hI : cI S I x T) (hw : wf T) (p r b : Int32) : cV S I x T (f_X9_use (sI S I) x p r b) (a_use T p r b) := by
  obtain ⟨hS, hB, R, F, hM, hT, hC⟩ := id hI
  obtain ⟨a, e1, e2⟩ := cx_ruleAt hI hw r
  unfold f_X9_use a_use
  rw [e1]
  simp only [kK_sI, kQ_sI, kN_sI, kZ_sI, kI_sI, wI_sI, if_true, Option.bind_some, lt, cK_0 hS, cx_deskAt9 hI]
  cases hr : ix r T.2.2.2.2.1.length with
  | none => exact ⟨I, rfl, ou.rf, hI⟩
  | some q =>
    obtain ⟨h1, rfl⟩ := ix_some (by have := hw.2.2.2.2.2.2.1.1; omega) hr
    simp only [bx2_l, bx2_r, bx1_l, bx1_r, kK_sI, kQ_sI, kN_sI, kZ_sI, kI_sI, wI_sI, if_true, Option.bind_some, lt, cK_0 hS, cx_deskAt9 hI]
    cases hp : ix p 4 with
    | none => exact ⟨I, rfl, ou.rf, hI⟩
    | some d =>
      obtain ⟨hd, rfl⟩ := ix_some (by decide) hp
      have hk := hT.2.2.2.2.2.2.2 d hd
      unfold f_X1_uses f_X1_setUse
      simp only [bx2_l, bx2_r, bx1_l, bx1_r, kK_sI, kQ_sI, kN_sI, kZ_sI, kI_sI, wI_sI, if_true, Option.bind_some, lt, cK_d hS hd, cQ_d_0 hS hd, cQ_d_1 hS hd, cQ_d_2 hS hd, cQ_d_3 hS hd, cR9_d1 hS hd, cR9_d3 hS hd, cR9_d5 hS hd, cR9_d7 hS hd, hM.2 (dO d) _ (objT_d d), hk.2.1, show (1 : Int32) <<< (nI q &&& 31) = mk q from rfl, tb_ne]
      -- what was used
      have hu : (if tb (T.2.2.2.2.2.2 d).2.1 q = false then some (1 : Int32) else some 0) = some (bi (!tb (T.2.2.2.2.2.2 d).2.1 q)) := by cases tb (T.2.2.2.2.2.2 d).2.1 q <;> rfl
      rw [hu]
      simp only [Option.bind_some]
      have hv : (if b = 0 then some (sI S (up I (x + dO d) 5 ((T.2.2.2.2.2.2 d).2.1 ||| mk q))) else some (sI S (up I (x + dO d) 5 ((T.2.2.2.2.2.2 d).2.1 &&& (mk q ^^^ (-1)))))) = some (sI S (up I (x + dO d) 5 (if b = 0 then (T.2.2.2.2.2.2 d).2.1 ||| mk q else (T.2.2.2.2.2.2 d).2.1 &&& (mk q ^^^ (-1))))) := by by_cases hb : b = 0 <;> simp [hb]
      rw [hv]
      generalize (if b = 0 then (T.2.2.2.2.2.2 d).2.1 ||| mk q else (T.2.2.2.2.2.2 d).2.1 &&& (mk q ^^^ (-1))) = v
      simp only [Option.bind_some, kK_sI, cK_0 hS, if_true]
      obtain ⟨m1, u1⟩ := hM.fld (objT_d d) 5 v
      have hlt := dO_lt d
      have hk1 : dM R (uF F (dO d) 5 v) d ((T.2.2.2.2.2.2 d).1, v, (T.2.2.2.2.2.2 d).2.2) := ⟨hk.1, uF_eq _ _ _ _, by rw [uF_ne (Or.inr (by decide))]; exact hk.2.2.1, hk.2.2.2⟩
      have ht1 := eX.t (R := R) (R' := R) (F := F) (F' := uF F (dO d) 5 v) ⟨fun i _ _ _ _ => rfl, fun i j hi => uF_ne (Or.inl hi)⟩ hd hT hk1
      obtain ⟨J, g, u, hJ⟩ := cx_noteSettings (T := uDs T d ((T.2.2.2.2.2.2 d).1, v, (T.2.2.2.2.2.2 d).2.2)) hS (hB.kept u1) m1 ht1 (by rw [uF_ne (Or.inl (by omega))]; exact hC.1) d
      rw [g]
      simp only [Option.bind_some, if_pos (bi_01 _)]
      exact ⟨J, rfl, u1.tr u, hJ⟩
theorem ci_rank (hI : cI S I x T) (hw : wf T) (p r n : Int32) : cV S I x T (f_X9_rank (sI S I) x p r n) (a_rank T p r n) := by
  obtain ⟨hS, hB, R, F, hM, hT, hC⟩ := id hI
  obtain ⟨a, e1, e2⟩ := cx_ruleAt hI hw r
  unfold f_X9_rank a_rank
  rw [e1]
  simp only [kK_sI, kQ_sI, kN_sI, kZ_sI, kI_sI, wI_sI, if_true, Option.bind_some, lt, cK_0 hS, cx_deskAt9 hI]
  cases hr : ix r T.2.2.2.2.1.length with
  | none => exact ⟨I, rfl, ou.rf, hI⟩
  | some q =>
    obtain ⟨h1, rfl⟩ := ix_some (by have := hw.2.2.2.2.2.2.1.1; omega) hr
    simp only [bx2_l, bx2_r, bx1_l, bx1_r, kK_sI, kQ_sI, kN_sI, kZ_sI, kI_sI, wI_sI, if_true, Option.bind_some, lt, cK_0 hS, cx_deskAt9 hI]
    cases hp : ix p 4 with
    | none => exact ⟨I, rfl, ou.rf, hI⟩
    | some d =>
      obtain ⟨hd, rfl⟩ := ix_some (by decide) hp
      have hk := hT.2.2.2.2.2.2.2 d hd
      have hwk := (hw.2.2.2.2.2.2.2.2.2.2 d hd).1
      have hru := hw.2.2.2.2.2.2.1.1
      simp only [bx2_l, bx2_r, bx1_l, bx1_r, kK_sI, kQ_sI, kN_sI, kZ_sI, kI_sI, wI_sI, if_true, Option.bind_some, lt, cK_0 hS, cQ_0_3 hS, cK_25 hS, cK_d hS hd, cQ_d_0 hS hd, cQ_d_1 hS hd, cQ_d_2 hS hd, cQ_d_3 hS hd, cR9_d1 hS hd, cR9_d3 hS hd, cR9_d5 hS hd, cR9_d7 hS hd]
      cases hn : ix n 10 with
      | none =>
        have : cV S I x T (some (.inr (sI S I, 1))) (.inr 1) := ⟨I, rfl, ou.rf, hI⟩
        rcases ix_none hn with h | h
        · rw [if_pos h]; exact this
        · by_cases h0 : n < 0
          · rw [if_pos h0]; exact this
          · rw [if_neg h0, if_neg (fun z => by
              obtain ⟨v, hv, rfl⟩ := nI_of h0
              rw [nI_leI (by decide) hv] at h
              rw [show (9 : Int32) = nI 9 from rfl, nI_leI hv (by decide)] at z
              omega)]
            exact this
      | some v =>
        obtain ⟨hv, rfl⟩ := ix_some (by decide) hn
        rw [if_neg (nI_pos (by omega)), if_pos (show nI v ≤ 9 from (nI_leI (b := 9) (by omega) (by decide)).mpr (by omega))]
        rw [cd_rankAt hS hM hB hT.2.2.2.2.1 hw.2.2.2.2.2.2.1 hd hk hwk (show q < 2 ^ 31 by omega)]
        simp only [Option.bind_some]
        have c1 : capT (dO d + 1) ≠ 0 := by rw [capT_d1]; decide
        obtain ⟨I1, g1, m1, u1⟩ := cm_set hS hM c1 (show q < 2 ^ 31 by omega) (nI v)
        rw [g1]
        simp only [Option.bind_some, kK_sI, cK_0 hS, if_true]
        have hlt := dO_lt d
        have hk1 : dM (uR R (dO d + 1) ((R (dO d + 1)).set q (nI v))) F d ((T.2.2.2.2.2.2 d).1.set q v, (T.2.2.2.2.2.2 d).2) := ⟨by rw [uR_eq, hk.1, map_set], hk.2.1, hk.2.2.1, by rw [uR_ne (by omega)]; exact hk.2.2.2.1, by rw [uR_ne (by omega)]; exact hk.2.2.2.2.1, by rw [uR_ne (by omega)]; exact hk.2.2.2.2.2⟩
        have ht1 := eX.t (F := F) (F' := F) ⟨fun i h _ _ _ => uR_ne h, fun i j hi => rfl⟩ hd hT hk1
        obtain ⟨J, g, u, hJ⟩ := cx_noteSettings (T := uDs T d ((T.2.2.2.2.2.2 d).1.set q v, (T.2.2.2.2.2.2 d).2)) hS (hB.kept u1) m1 ht1 (by
          rcases hC.1 with h | ⟨h, h2⟩
          · exact Or.inl h
          · refine Or.inr ⟨h, ?_, ?_⟩
            · obtain ⟨t1, t2, t3, t4, t5, t6, t7⟩ := h2.1
              refine ⟨?_, ?_, ?_, ?_, ?_, ?_, ?_⟩ <;> rw [uR_ne (by omega)] <;> assumption
            · rw [uR_ne (by omega)]; exact h2.2) d
        rw [g]
        exact ⟨J, rfl, u1.tr u, hJ⟩
theorem ci_limit (hI : cI S I x T) (p n : Int32) : cV S I x T (f_X9_limit (sI S I) x p n) (a_limit T p n) := by
  obtain ⟨hS, hB, R, F, hM, hT, hC⟩ := id hI
  unfold f_X9_limit a_limit
  simp only [kK_sI, kQ_sI, kN_sI, kZ_sI, kI_sI, wI_sI, if_true, Option.bind_some, lt, cK_0 hS, cx_deskAt9 hI]
  cases hp : ix p 4 with
  | none => exact ⟨I, rfl, ou.rf, hI⟩
  | some d =>
    obtain ⟨hd, rfl⟩ := ix_some (by decide) hp
    have hk := hT.2.2.2.2.2.2.2 d hd
    simp only [bx2_l, bx2_r, bx1_l, bx1_r, kK_sI, kQ_sI, kN_sI, kZ_sI, kI_sI, wI_sI, if_true, Option.bind_some, lt, cK_0 hS, cK_d hS hd, cQ_d_0 hS hd, cQ_d_1 hS hd, cQ_d_2 hS hd, cQ_d_3 hS hd, cR9_d1 hS hd, cR9_d3 hS hd, cR9_d5 hS hd, cR9_d7 hS hd]
    cases hn : ix n 21 with
    | none =>
      have : cV S I x T (some (.inr (sI S I, 1))) (.inr 1) := ⟨I, rfl, ou.rf, hI⟩
      rcases ix_none hn with h | h
      · rw [if_pos h]; exact this
      · by_cases h0 : n < 0
        · rw [if_pos h0]; exact this
        · rw [if_neg h0, if_neg (fun z => by
            obtain ⟨v, hv, rfl⟩ := nI_of h0
            rw [nI_leI (by decide) hv] at h
            rw [show (20 : Int32) = nI 20 from rfl, nI_leI hv (by decide)] at z
            omega)]
          exact this
    | some v =>
      obtain ⟨hv, rfl⟩ := ix_some (by decide) hn
      rw [if_neg (nI_pos (by omega)), if_pos (show nI v ≤ 20 from (nI_leI (b := 20) (by omega) (by decide)).mpr (by omega))]
      simp only [hM.2 (dO d) _ (objT_d d), hk.2.2.1]
      obtain ⟨m1, u1⟩ := hM.fld (objT_d d) 4 (nI v)
      have hlt := dO_lt d
      have hk1 : dM R (uF F (dO d) 4 (nI v)) d ((T.2.2.2.2.2.2 d).1, (T.2.2.2.2.2.2 d).2.1, v, (T.2.2.2.2.2.2 d).2.2.2) := ⟨hk.1, by rw [uF_ne (Or.inr (by decide))]; exact hk.2.1, uF_eq _ _ _ _, hk.2.2.2⟩
      have ht1 := eX.t (R := R) (R' := R) (F := F) (F' := uF F (dO d) 4 (nI v)) ⟨fun i _ _ _ _ => rfl, fun i j hi => uF_ne (Or.inl hi)⟩ hd hT hk1
      obtain ⟨J, g, u, hJ⟩ := cx_noteSettings (T := uDs T d ((T.2.2.2.2.2.2 d).1, (T.2.2.2.2.2.2 d).2.1, v, (T.2.2.2.2.2.2 d).2.2.2)) hS (hB.kept u1) m1 ht1 (by rw [uF_ne (Or.inl (by omega))]; exact hC.1) d
      rw [g]
      exact ⟨J, rfl, u1.tr u, hJ⟩
theorem ci_ignored (hI : cI S I x T) (p : Int32) : cV S I x T (f_X9_ignored (sI S I) x p) (a_ignored T p) := by
  obtain ⟨hS, hB, R, F, hM, hT, hC⟩ := id hI
  unfold f_X9_ignored a_ignored
  simp only [kK_sI, kQ_sI, kN_sI, kZ_sI, kI_sI, wI_sI, if_true, Option.bind_some, lt, cK_0 hS, cx_deskAt9 hI]
  cases hp : ix p 4 with
  | none => exact ⟨I, rfl, ou.rf, hI⟩
  | some d =>
    obtain ⟨hd, rfl⟩ := ix_some (by decide) hp
    simp only [bx2_l, bx2_r, bx1_l, bx1_r, kK_sI, kQ_sI, kN_sI, kZ_sI, kI_sI, wI_sI, if_true, Option.bind_some, lt, cK_d hS hd, cd_count hS hM hd (hT.2.2.2.2.2.2.2 d hd)]
    exact ⟨I, rfl, ou.rf, hI⟩
theorem cR_kept {T' : St} {d : Nat} {R' : Nat → List Int32} (h : cR T R) (ht : T'.2.1 = T.2.1) (hru : T'.2.2.2.2.1 = T.2.2.2.2.1) (hpa : T'.2.2.2.2.2.1 = T.2.2.2.2.2.1) (hR : ∀ i, 10 ≤ i → i < 30 → R' i = R i) : cR T' R' := by
  unfold cR
  rw [ht, hru, hpa]
  obtain ⟨⟨t1, t2, t3, t4, t5, t6, t7⟩, h2⟩ := h
  refine ⟨⟨?_, ?_, ?_, ?_, ?_, ?_, ?_⟩, ?_⟩ <;> rw [hR _ (by decide) (by decide)] <;> assumption
theorem ci_heed (hI : cI S I x T) (p : Int32) : cV S I x T (f_X9_heed (sI S I) x p) (a_heed T p) := by
  obtain ⟨hS, hB, R, F, hM, hT, hC⟩ := id hI
  unfold f_X9_heed a_heed
  simp only [kK_sI, kQ_sI, kN_sI, kZ_sI, kI_sI, wI_sI, if_true, Option.bind_some, lt, cK_0 hS, cx_deskAt9 hI]
  cases hp : ix p 4 with
  | none => exact ⟨I, rfl, ou.rf, hI⟩
  | some d =>
    obtain ⟨hd, rfl⟩ := ix_some (by decide) hp
    have hk := hT.2.2.2.2.2.2.2 d hd
    have hlt := dO_lt d
    unfold f_X1_clearIgnored
    simp only [bx2_l, bx2_r, bx1_l, bx1_r, kK_sI, kQ_sI, kN_sI, kZ_sI, kI_sI, wI_sI, if_true, Option.bind_some, lt, cK_d hS hd, cQ_d_0 hS hd, cQ_d_1 hS hd, cQ_d_2 hS hd, cQ_d_3 hS hd, cR9_d1 hS hd, cR9_d3 hS hd, cR9_d5 hS hd, cR9_d7 hS hd, cd_count hS hM hd hk]
    obtain ⟨I1, g1, m1, u1⟩ := cm_clear hS hM (k := dO d + 3) (by rw [capT_d3]; decide)
    rw [g1]
    simp only [kK_sI, kQ_sI, kN_sI, kZ_sI, kI_sI, wI_sI, if_true, Option.bind_some, lt, cK_d hS hd, cQ_d_0 hS hd, cQ_d_1 hS hd, cQ_d_2 hS hd, cQ_d_3 hS hd, cR9_d1 hS hd, cR9_d3 hS hd, cR9_d5 hS hd, cR9_d7 hS hd]
    obtain ⟨I2, g2, m2, u2⟩ := cm_clear hS m1 (k := dO d + 5) (by rw [capT_d5]; decide)
    rw [g2]
    simp only [kK_sI, kQ_sI, kN_sI, kZ_sI, kI_sI, wI_sI, if_true, Option.bind_some, lt, cK_d hS hd, cQ_d_0 hS hd, cQ_d_1 hS hd, cQ_d_2 hS hd, cQ_d_3 hS hd, cR9_d1 hS hd, cR9_d3 hS hd, cR9_d5 hS hd, cR9_d7 hS hd]
    obtain ⟨I3, g3, m3, u3⟩ := cm_clear hS m2 (k := dO d + 7) (by rw [capT_d7]; decide)
    rw [g3]
    simp only [kK_sI, kQ_sI, kN_sI, kZ_sI, kI_sI, wI_sI, if_true, Option.bind_some, lt, cK_0 hS]
    obtain ⟨m4, u4⟩ := m3.u0 8 (-1)
    have u : ou I _ x := ((u1.tr u2).tr u3).tr u4
    refine ⟨_, rfl, u, hS, hB.kept u, _, _, m4, ?_, hC.unsolve (by rw [uF_ne (Or.inr (by decide))]) (uF_eq _ _ _ _) (fun h => cR_kept (d := d) h rfl rfl rfl (fun i h1 h2 => by rw [uR_ne (by omega), uR_ne (by omega), uR_ne (by omega)]))⟩
    refine eX.t (F := uF F 0 8 (-1)) ⟨fun i h1 h3 h5 h7 => by rw [uR_ne h7, uR_ne h5, uR_ne h3], fun i j hi => rfl⟩ hd ((eC.rf.f (k := 0) (j := 8) (v := -1) (by decide)).t hT) ?_
    · refine ⟨?_, ?_, ?_, ?_, ?_, ?_⟩
      · rw [uR_ne (by omega), uR_ne (by omega), uR_ne (by omega)]; exact hk.1
      · rw [uF_ne (Or.inl (by omega))]; exact hk.2.1
      · rw [uF_ne (Or.inl (by omega))]; exact hk.2.2.1
      · rw [uR_ne (by omega), uR_ne (by omega), uR_eq]; rfl
      · rw [uR_ne (by omega), uR_eq]; rfl
      · rw [uR_eq]; rfl
end
