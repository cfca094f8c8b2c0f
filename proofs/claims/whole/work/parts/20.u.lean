/-! what is found, read by its number -/
theorem mem_tlk (TN : List Nat) : ∀ (k : Nat) (p : Nat × Nat), p ∈ tlk TN k ↔ p.1 < k ∧ la9 TN p.1 = p.2 + 1
  | 0, p => by simp [tlk]
  | k + 1, p => by
    simp only [tlk, List.mem_append, mem_tlk TN k p]
    constructor
    · rintro (⟨h1, h2⟩ | h)
      · exact ⟨by omega, h2⟩
      · split at h
        · cases h
        · rename_i h0
          simp at h
          subst h
          exact ⟨Nat.lt_succ_self _, by simp only; omega⟩
    · rintro ⟨h1, h2⟩
      by_cases e : p.1 = k
      · right
        subst e
        rw [if_neg (by omega)]
        simp
        exact Prod.ext rfl (by simp only; omega)
      · exact Or.inl ⟨by omega, h2⟩
theorem aT_la9 {TN : List Nat} {j r : Nat} (hj : j < TN.length) : aT TN j r ↔ la9 TN j = r + 1 := by
  unfold aT la9
  rw [List.getElem?_eq_getElem hj]
  simp
/-- span of a finding -/
def fO (T : St) (p : Nat × Nat) : Nat := tF (tsO T.2.1) p.1
def lO (T : St) (p : Nat × Nat) : Nat := tE (tsO T.2.1) (p.1 + mI9 T.2.2.2.2.1 p.2 - 1) - tF (tsO T.2.1) p.1
def sgN (T : St) (r : Nat) : Nat := match T.2.2.2.2.1[r]? with
  | some v => v.2.2.2.2.2.length
  | none => if 12 ≤ r ∧ r - 12 < T.2.2.2.2.2.1.length then 1 else 0
def gp (L : List (Nat × Nat)) (i : Nat) : Nat × Nat := (L[i]?).getD (0, 0)
theorem gp_mem {L : List (Nat × Nat)} {i : Nat} (h : i < L.length) : gp L i ∈ L := by
  unfold gp
  rw [List.getElem?_eq_getElem h]
  exact List.getElem_mem h
theorem la_gp (f : Nat × Nat → Int32) (L : List (Nat × Nat)) {i : Nat} (h : i < L.length) : la (L.map f) i = f (gp L i) := by
  rw [la_map]
  unfold gp
  rw [List.getElem?_eq_getElem h]
  rfl
/-- each of the findings is in place -/
theorem fL_ok {T : St} {d : Nat} (hw : wf T) (hd : d < 4) {TN : List Nat} (h : iS T d TN) {p : Nat × Nat} (hp : p ∈ fL T d) : cn T.2.1 (tsO T.2.1) T.2.2.2.2.1 T.2.2.2.2.2.1 (T.2.2.2.2.2.2 d) p.1 p.2 ∧ p.1 + mI9 T.2.2.2.2.1 p.2 ≤ (tsO T.2.1).length ∧ p.1 < 160 ∧ p.2 ≤ 20 ∧ fO T p + lO T p ≤ T.2.1.length ∧ tF (tsO T.2.1) p.1 ≤ tE (tsO T.2.1) (p.1 + mI9 T.2.2.2.2.1 p.2 - 1) := by
  unfold fL at hp
  rw [sl_eq hw hd h] at hp
  obtain ⟨h1, h2⟩ := (mem_tlk _ _ _).mp hp
  have hc := h.2.2.1 p.1 p.2 ((aT_la9 h1).mpr h2)
  have hin := fd_in hw.2.2.2.2.2.2.1 hc.2.1 hc.2.2.1
  have hwt := tsO_wT hw.2.1
  have hm := hw.2.2.2.2.2.2.1.m p.2
  have hle := (tsO_oT T.2.1).le hwt (show p.1 ≤ p.1 + mI9 T.2.2.2.2.1 p.2 - 1 by omega) (by omega)
  refine ⟨hc, hin, by have := hwt.1; omega, hc.1, ?_, hle⟩
  have he : tE (tsO T.2.1) (p.1 + mI9 T.2.2.2.2.1 p.2 - 1) ≤ T.2.1.length := by
    unfold tE
    cases e : (tsO T.2.1)[p.1 + mI9 T.2.2.2.2.1 p.2 - 1]? with
    | none => exact Nat.zero_le _
    | some v => exact ((sc_inv T.2.1 T.2.1.length).2.2.1 _ v e).1
  unfold fO lO
  omega
section
variable {S : PS} {I : Nat → Nat → Int32} {x : Nat} {T : St} {R : Nat → List Int32} {F : Nat → Nat → Int32} {d : Nat} {TN : List Nat}
theorem c9.L (h : c9 S I x T d TN R F) (hw : wf T) (hd : d < 4) : R 73 = (fL T d).map (fun p => nI p.1) ∧ R 75 = (fL T d).map (fun p => nI p.2) ∧ (fL T d).length ≤ 160 := by
  have hs := sl_eq hw hd h.2.2.2.2.2.1
  unfold fL
  rw [hs]
  exact ⟨h.2.2.2.2.2.2.2.1, h.2.2.2.2.2.2.2.2, by
    have := tlk_len TN TN.length
    have := h.2.2.2.2.2.1.1
    have := (tsO_wT hw.2.1).1
    omega⟩
theorem cf_count (hS : cS S x) (h : c9 S I x T d TN R F) (hw : wf T) (hd : d < 4) : f_X2_count (sI S I) (x + 68) = some (nI (fL T d).length) := by
  unfold f_X2_count
  simp only [kK_sI, kQ_sI, kN_sI, kZ_sI, kI_sI, wI_sI, if_true, Option.bind_some, lt, cK_68 hS, cQ_68_0 hS, cQ_68_1 hS, cQ_68_2 hS, cQ_68_3 hS, cQ_68_4 hS, cQ_68_5 hS, cR9_69 hS, cR9_71 hS, cR9_73 hS, cR9_75 hS, cm_count hS h.1 (k := 73) (by decide), (h.L hw hd).1, List.length_map]
theorem cf_ruleOf (hS : cS S x) (h : c9 S I x T d TN R F) (hw : wf T) (hd : d < 4) {i : Nat} (hi : i < (fL T d).length) : f_X2_ruleOf (sI S I) (x + 68) (nI i) = some (nI (gp (fL T d) i).2) := by
  have hl := h.L hw hd
  unfold f_X2_ruleOf
  simp only [kK_sI, kQ_sI, kN_sI, kZ_sI, kI_sI, wI_sI, if_true, Option.bind_some, lt, cK_68 hS, cQ_68_0 hS, cQ_68_1 hS, cQ_68_2 hS, cQ_68_3 hS, cQ_68_4 hS, cQ_68_5 hS, cR9_69 hS, cR9_71 hS, cR9_73 hS, cR9_75 hS, cm_getn hS h.1 (k := 75) (by decide) (show i < 2 ^ 31 by omega), hl.2.1, la_gp _ _ hi]
theorem cf_tokenOf (hS : cS S x) (h : c9 S I x T d TN R F) (hw : wf T) (hd : d < 4) {i : Nat} (hi : i < (fL T d).length) : f_X2_tokenOf (sI S I) (x + 68) (nI i) = some (nI (gp (fL T d) i).1) := by
  have hl := h.L hw hd
  unfold f_X2_tokenOf
  simp only [kK_sI, kQ_sI, kN_sI, kZ_sI, kI_sI, wI_sI, if_true, Option.bind_some, lt, cK_68 hS, cQ_68_0 hS, cQ_68_1 hS, cQ_68_2 hS, cQ_68_3 hS, cQ_68_4 hS, cQ_68_5 hS, cR9_69 hS, cR9_71 hS, cR9_73 hS, cR9_75 hS, cm_getn hS h.1 (k := 73) (by decide) (show i < 2 ^ 31 by omega), hl.1, la_gp _ _ hi]
theorem cf_fromOf (hS : cS S x) (h : c9 S I x T d TN R F) (hw : wf T) (hd : d < 4) {i : Nat} (hi : i < (fL T d).length) : f_X2_fromOf (sI S I) (x + 68) (nI i) = some (nI (fO T (gp (fL T d) i))) := by
  have hl := h.L hw hd
  have hp := fL_ok hw hd h.2.2.2.2.2.1 (gp_mem hi)
  unfold f_X2_fromOf
  simp only [kK_sI, kQ_sI, kN_sI, kZ_sI, kI_sI, wI_sI, if_true, Option.bind_some, lt, cK_68 hS, cQ_68_0 hS, cQ_68_1 hS, cQ_68_2 hS, cQ_68_3 hS, cQ_68_4 hS, cQ_68_5 hS, cR9_69 hS, cR9_71 hS, cR9_73 hS, cR9_75 hS, cK_10 hS, cm_getn hS h.1 (k := 73) (by decide) (show i < 2 ^ 31 by omega), hl.1, la_gp _ _ hi, ct_fromOf hS h.1 h.2.2.2.2.1.1 (show (gp (fL T d) i).1 < 2 ^ 31 by omega), fO]
theorem cf_lengthOf (hS : cS S x) (hB : dB S I x T.2.2.2.2.1 T.2.2.2.2.2.1) (h : c9 S I x T d TN R F) (hw : wf T) (hd : d < 4) {i : Nat} (hi : i < (fL T d).length) : f_X2_lengthOf (sI S I) (x + 68) (nI i) = some (nI (lO T (gp (fL T d) i))) := by
  have hl := h.L hw hd
  have hp := fL_ok hw hd h.2.2.2.2.2.1 (gp_mem hi)
  unfold f_X2_lengthOf
  simp only [kK_sI, kQ_sI, kN_sI, kZ_sI, kI_sI, wI_sI, if_true, Option.bind_some, lt, cK_68 hS, cQ_68_0 hS, cQ_68_1 hS, cQ_68_2 hS, cQ_68_3 hS, cQ_68_4 hS, cQ_68_5 hS, cR9_69 hS, cR9_71 hS, cR9_73 hS, cR9_75 hS, cm_getn hS h.1 (k := 75) (by decide) (show i < 2 ^ 31 by omega), cm_getn hS h.1 (k := 73) (by decide) (show i < 2 ^ 31 by omega), hl.1, hl.2.1, la_gp _ _ hi, cd_lengthAt hS h.1 h.2.2.2.2.1.1 hB h.2.1.2.2.2.2.1 hw.2.2.2.2.2.2.1 (show (gp (fL T d) i).2 < 2 ^ 31 by omega) (show (gp (fL T d) i).1 < 2 ^ 30 by omega), pk_sub hp.2.2.2.2.2, lO]
theorem cf_need (hS : cS S x) (h : c9 S I x T d TN R F) (hw : wf T) (hd : d < 4) (p : Int32) : f_X9_needFinding (sI S I) x p = some (match ix p (fL T d).length with | none => .inr (sI S I, 5) | some _ => .inl (sI S I)) := by
  have hl := (h.L hw hd).2.2
  unfold f_X9_needFinding
  simp only [kK_sI, kQ_sI, kN_sI, kZ_sI, kI_sI, wI_sI, if_true, Option.bind_some, lt, cK_0 hS, cQ_0_5 hS, cK_68 hS, cf_count hS h hw hd]
  cases hp : ix p (fL T d).length with
  | none =>
    rcases ix_none hp with h | h
    · rw [if_pos h]
    · by_cases h0 : p < 0
      · rw [if_pos h0]
      · rw [if_neg h0, if_neg (Int32.not_lt.mpr h)]
  | some q =>
    obtain ⟨h1, rfl⟩ := ix_some (by omega) hp
    rw [if_neg (nI_pos (by omega)), if_pos ((nI_ltI (by omega) (by omega)).mpr h1)]
theorem cf_sugOf (hS : cS S x) (hB : dB S I x T.2.2.2.2.1 T.2.2.2.2.2.1) (hM : cM I x R F) (hT : cT T R F) (hw : wf T) {r : Nat} (hr : r < 2 ^ 30) : f_X0_suggestionsOf (sI S I) (x + 25) (nI r) = some (nI (sgN T r)) := by
  obtain ⟨⟨ra, l1, l2⟩, ⟨pb, l3, l4⟩⟩ := hB
  have hsz : I (x + 26) 2 = nI T.2.2.2.2.1.length := by rw [hM.2 26 2 rfl, hT.2.2.2.2.1]
  have hsz2 : I (x + 27) 2 = nI T.2.2.2.2.2.1.length := by rw [hM.2 27 2 rfl, hT.2.2.2.2.2.1]
  have hw1 := hw.2.2.2.2.2.2.1.1
  have hw2 := hw.2.2.2.2.2.2.2.2.1
  have hr3 : r < 2 ^ 31 := by omega
  unfold f_X0_suggestionsOf
  simp only [kK_sI, kQ_sI, kN_sI, kZ_sI, kI_sI, wI_sI, if_true, Option.bind_some, lt, cK_25 hS, cQ_25_0 hS, cQ_25_1 hS, cQ_25_2 hS, cR9_28 hS, cK_26 hS, cK_27 hS, dl_size l1 hsz, dl_size l3 hsz2, nI_lt0 hr3, if_false, nI_leI (show T.2.2.2.2.1.length < 2 ^ 31 by omega) hr3, show (12 : Int32) = nI 12 from rfl, nI_ltI hr3 (show 12 < 2 ^ 31 by decide)]
  unfold sgN
  by_cases h : T.2.2.2.2.1.length ≤ r
  · rw [if_pos h, List.getElem?_eq_none h]
    by_cases h12 : r < 12
    · rw [if_pos h12]
      simp only
      rw [if_neg (by omega)]
      exact congrArg some nI_0.symm
    · rw [if_neg h12, pk_sub (show 12 ≤ r by omega)]
      simp only [nI_leI (show T.2.2.2.2.2.1.length < 2 ^ 31 by omega) (show r - 12 < 2 ^ 31 by omega)]
      by_cases h2 : T.2.2.2.2.2.1.length ≤ r - 12
      · rw [if_pos h2, if_neg (by omega)]
        exact congrArg some nI_0.symm
      · rw [if_neg h2, if_pos (by omega)]
        rfl
  · rw [if_neg h]
    obtain ⟨v, hv⟩ : ∃ v, T.2.2.2.2.1[r]? = some v := ⟨_, List.getElem?_eq_getElem (by omega)⟩
    obtain ⟨d1, d2, d3, d4, d5, -, -, h5, d6, as, ⟨d7, d8, d9⟩, d10⟩ := l2 r v hv
    simp only [dl_get l1 hsz (show r < T.2.2.2.2.1.length by omega), kK_sI, kQ_sI, kN_sI, kZ_sI, kI_sI, wI_sI, if_true, Option.bind_some, lt, d1, d6, d7.1, dl_size d7 d8, hv]
end
/-! the calls that ask what is found -/
def isTh (c : Int32) : Bool := decide (c = 102) || decide (c = 108) || decide (c = 114) || decide (c = 107) || decide (c = 119) || decide (c = 115)
noncomputable def a_findings (T : St) (p : Int32) : An := match ix p 4 with
  | none => .inr 1
  | some d => .inl (T, nI (fL T d).length)
def ofV (T : St) (d : Nat) (p : Nat × Nat) (c : Int32) : Int32 := if c = 102 then nI (fO T p) else if c = 108 then nI (lO T p) else if c = 114 then nI p.2 else if c = 107 then nI (rk T.2.2.2.2.1 (T.2.2.2.2.2.2 d).1 p.2) else if c = 119 then la T.2.2.1 (fO T p) else nI (sgN T p.2)
noncomputable def a_of (T : St) (p i c : Int32) : An := match ix p 4 with
  | none => .inr 1
  | some d => if isTh c = true then (match ix i (fL T d).length with
    | none => .inr 5
    | some q => .inl (T, ofV T d (gp (fL T d) q) c)) else .inr 1
noncomputable def a_byRule (T : St) (p r : Int32) : An := match ix p 4 with
  | none => .inr 1
  | some d => match ix r 21 with
    | none => .inr 1
    | some q => .inl (T, nI ((fL T d).countP (fun z => decide (z.2 = q))))
noncomputable def a_byWriter (T : St) (p w : Int32) : An := match ix p 4 with
  | none => .inr 1
  | some d => match ix w 4 with
    | none => .inr 1
    | some q => .inl (T, nI ((fL T d).countP (fun z => decide (la T.2.2.1 (fO T z) = nI q))))
noncomputable def a_ignore (T : St) (p i : Int32) : An := match ix p 4 with
  | none => .inr 1
  | some d => match ix i (fL T d).length with
    | none => .inr 5
    | some q => if (T.2.2.2.2.2.2 d).2.2.2.length < 20 then .inl (uDs T d (uG (T.2.2.2.2.2.2 d) ((T.2.2.2.2.2.2 d).2.2.2 ++ [((gp (fL T d) q).2, fO T (gp (fL T d) q), lO T (gp (fL T d) q))])), nI ((T.2.2.2.2.2.2 d).2.2.2.length + 1)) else .inr 2
theorem countP_take_succ {α : Type} (f : α → Bool) (l : List α) {i : Nat} {v : α} (h : l[i]? = some v) : (l.take (i + 1)).countP f = (l.take i).countP f + (if f v = true then 1 else 0) := by
  have hi := (List.getElem?_eq_some_iff.mp h).1
  have he := (List.getElem?_eq_some_iff.mp h).2
  rw [List.take_succ_eq_append_getElem hi, he, List.countP_append, List.countP_singleton]
section
variable {S : PS} {I : Nat → Nat → Int32} {x : Nat} {T : St}
theorem cV.no {k : Nat} (hI : cI S I x T) : cV S I x T (some (.inr (sI S I, k))) (.inr k) := ⟨I, rfl, ou.rf, hI⟩
theorem ci_findings (hI : cI S I x T) (hw : wf T) (p : Int32) : cV S I x T (f_X9_findings (sI S I) x p) (a_findings T p) := by
  have hS := hI.1
  unfold f_X9_findings a_findings
  simp only [kK_sI, kQ_sI, kN_sI, kZ_sI, kI_sI, wI_sI, if_true, Option.bind_some, lt, cK_0 hS]
  cases hp : ix p 4 with
  | none =>
    rw [ci_findNo hI (ix_none hp)]
    exact cV.no hI
  | some d =>
    obtain ⟨hd, rfl⟩ := ix_some (by decide) hp
    obtain ⟨J, R, F, TN, g, u, h9⟩ := ci_findFor hI hw hd
    rw [g]
    simp only [bx2_l, bx2_r, bx1_l, bx1_r, kK_sI, kQ_sI, kN_sI, kZ_sI, kI_sI, wI_sI, if_true, Option.bind_some, lt, cK_0 hS, cQ_0_5 hS, cK_68 hS, cf_count hS h9 hw hd]
    exact ⟨J, rfl, u, h9.ci hS (hI.2.1.kept u) hd⟩
theorem ci_of (hI : cI S I x T) (hw : wf T) (p i c : Int32) : cV S I x T (f_X9_of (sI S I) x p i c) (a_of T p i c) := by
  have hS := hI.1
  unfold f_X9_of a_of
  simp only [kK_sI, kQ_sI, kN_sI, kZ_sI, kI_sI, wI_sI, if_true, Option.bind_some, lt, cK_0 hS]
  cases hp : ix p 4 with
  | none =>
    rw [ci_findNo hI (ix_none hp)]
    exact cV.no hI
  | some d =>
    obtain ⟨hd, rfl⟩ := ix_some (by decide) hp
    obtain ⟨J, R, F, TN, g, u, h9⟩ := ci_findFor hI hw hd
    have hB := hI.2.1.kept u
    have hJ := h9.ci hS hB hd
    rw [g]
    simp only [bx2_l, bx2_r, bx1_l, bx1_r, kK_sI, kQ_sI, kN_sI, kZ_sI, kI_sI, wI_sI, if_true, Option.bind_some, lt, cK_0 hS, cf_need hS h9 hw hd]
    have key : ∀ (o : Option ((PS × Int32) ⊕ (PS × Nat))), cV S J x T o (match ix i (fL T d).length with | none => .inr 5 | some q => .inl (T, ofV T d (gp (fL T d) q) c)) → cV S I x T o (match ix i (fL T d).length with | none => .inr 5 | some q => .inl (T, ofV T d (gp (fL T d) q) c)) := by
      intro o h
      cases hq : ix i (fL T d).length with
      | none =>
        rw [hq] at h
        obtain ⟨J2, e, u2, h2⟩ := h
        exact ⟨J2, e, u.tr u2, h2⟩
      | some q =>
        rw [hq] at h
        obtain ⟨J2, e, u2, h2⟩ := h
        exact ⟨J2, e, u.tr u2, h2⟩
    have main : cV S J x T (bx1 (some (match ix i (fL T d).length with | none => .inr (sI S J, 5) | some _ => .inl (sI S J))) fun S8 => if kK S8 x = 13 then ((kQ S8 x 5).bind fun a10 => if kK S8 a10 = 6 then ((f_X2_ruleOf S8 a10 i).bind fun r13 => if c = (102 : Int32) then ((f_X2_fromOf S8 a10 i).bind fun r42 => some (.inl (S8, r42))) else (if c = (108 : Int32) then ((f_X2_lengthOf S8 a10 i).bind fun r40 => some (.inl (S8, r40))) else (if c = (114 : Int32) then (some (.inl (S8, r13))) else (if c = (107 : Int32) then ((kQ S8 x 3).bind fun a35 => if kK S8 a35 = 4 then ((f_X0_rankAt S8 a35 (x + dO d) r13).bind fun r38 => some (.inl (S8, r38))) else none) else (if c = (119 : Int32) then ((kQ S8 x 1).bind fun a25 => if kK S8 a25 = 11 then ((kQ S8 a25 1).bind fun a28 => (f_X2_fromOf S8 a10 i).bind fun r30 => if kK S8 a28 = 9 then ((f_X5_get S8 a28 r30).bind fun r33 => some (.inl (S8, r33))) else none) else none) else ((kQ S8 x 3).bind fun a20 => if kK S8 a20 = 4 then ((f_X0_suggestionsOf S8 a20 r13).bind fun r23 => some (.inl (S8, r23))) else none)))))) else none) else none) (match ix i (fL T d).length with | none => .inr 5 | some q => .inl (T, ofV T d (gp (fL T d) q) c)) := by
      cases hq : ix i (fL T d).length with
      | none => exact cV.no hJ
      | some q =>
        have hl := h9.L hw hd
        obtain ⟨hqi, rfl⟩ := ix_some (by omega) hq
        have hok := fL_ok hw hd h9.2.2.2.2.2.1 (gp_mem hqi)
        have hw2 := hw.2.1
        have hff : fO T (gp (fL T d) q) < 2 ^ 31 := by omega
        simp only [bx2_l, bx2_r, bx1_l, bx1_r, kK_sI, kQ_sI, kN_sI, kZ_sI, kI_sI, wI_sI, if_true, Option.bind_some, lt, cK_0 hS, cQ_0_0 hS, cQ_0_1 hS, cQ_0_2 hS, cQ_0_3 hS, cQ_0_4 hS, cQ_0_5 hS, cQ_0_6 hS, cR9_1 hS, cR9_77 hS, cK_3 hS, cQ_3_0 hS, cQ_3_1 hS, cQ_3_2 hS, cR9_4 hS, cR9_6 hS, cR9_8 hS, cK_25 hS, cK_68 hS, cf_ruleOf hS h9 hw hd hqi, cf_fromOf hS h9 hw hd hqi, cf_lengthOf hS hB h9 hw hd hqi, cd_rankAt hS h9.1 hB h9.2.1.2.2.2.2.1 hw.2.2.2.2.2.2.1 hd (h9.2.1.2.2.2.2.2.2.2 d hd) (hw.2.2.2.2.2.2.2.2.2.2 d hd).1 (show (gp (fL T d) q).2 < 2 ^ 31 by omega), cm_getn hS h9.1 (k := 6) (by decide) hff, h9.2.1.2.2.1, cf_sugOf hS hB h9.1 h9.2.1 hw (show (gp (fL T d) q).2 < 2 ^ 30 by omega)]
        refine ⟨J, ?_, ou.rf, hJ⟩
        unfold ofV
        by_cases h1 : c = 102
        · simp only [h1, if_true]
        · by_cases h2 : c = 108
          · subst h2; rfl
          · by_cases h3 : c = 114
            · subst h3; rfl
            · by_cases h4 : c = 107
              · subst h4; rfl
              · by_cases h5 : c = 119
                · subst h5; rfl
                · simp only [if_neg h1, if_neg h2, if_neg h3, if_neg h4, if_neg h5]
    have main := key _ main
    unfold isTh
    by_cases h1 : c = 102
    · subst h1; exact main
    · by_cases h2 : c = 108
      · subst h2; exact main
      · by_cases h3 : c = 114
        · subst h3; exact main
        · by_cases h4 : c = 107
          · subst h4; exact main
          · by_cases h5 : c = 119
            · subst h5; exact main
            · by_cases h6 : c = 115
              · subst h6; exact main
              · simp only [if_neg h1, if_neg h2, if_neg h3, if_neg h4, if_neg h5, if_neg h6, h1, h2, h3, h4, h5, h6, decide_false, Bool.or_false, Bool.false_eq_true, if_false]
                exact ⟨J, rfl, u, hJ⟩
end
