/-! the solving, token by token -/
theorem sV.mono {n : Nat} {m rk : Nat → Nat} {cand P P' : Nat → Nat → Prop} {TN : List Nat} {C : List Int32} (h : sV n m rk cand P TN C) (hp : ∀ j r, cand j r → (P j r ↔ P' j r)) : sV n m rk cand P' TN C :=
  ⟨h.1, h.2.1, fun j r ha => ⟨(h.2.2.1 j r ha).1, (hp j r (h.2.2.1 j r ha).1).mp (h.2.2.1 j r ha).2⟩, h.2.2.2.1, fun j r hc hP => h.2.2.2.2.1 j r hc ((hp j r hc).mpr hP), h.2.2.2.2.2⟩
def Pq (rk : Nat → Nat) (q j : Nat) (j' r' : Nat) : Prop := q < rk r' ∨ (rk r' = q ∧ j' < j)
theorem aT_set {TN : List Nat} {j r : Nat} (hj : j < TN.length) (j' r' : Nat) : aT (TN.set j (r + 1)) j' r' ↔ (j' = j ∧ r' = r) ∨ (j' ≠ j ∧ aT TN j' r') := by
  unfold aT
  rw [List.getElem?_set]
  by_cases e : j = j'
  · subst e
    rw [if_pos rfl, if_pos hj]
    simp
    exact eq_comm
  · rw [if_neg e]
    simp [Ne.symm e]
theorem sV.none {n : Nat} {m rk : Nat → Nat} {cand : Nat → Nat → Prop} {TN : List Nat} {C : List Int32} {q j : Nat} (hm : ∀ r, 1 ≤ m r) (h : sV n m rk cand (Pq rk q j) TN C) (hle : ∀ r, cand j r → j + m r ≤ n) (hno : ∀ r, cand j r → rk r = q → ¬ ∀ i, i < m r → la C (j + i) = 0) : sV n m rk cand (Pq rk q (j + 1)) TN C := by
  obtain ⟨h1, h2, h3, h4, h5, h6⟩ := h
  refine ⟨h1, h2, fun j' r' ha => ⟨(h3 j' r' ha).1, ?_⟩, h4, fun j' r' hc hP => ?_, h6⟩
  · rcases (h3 j' r' ha).2 with z | z
    · exact Or.inl z
    · exact Or.inr ⟨z.1, by omega⟩
  · rcases hP with z | ⟨z1, z2⟩
    · exact h5 j' r' hc (Or.inl z)
    · by_cases e : j' = j
      · subst e
        right
        have hn := hno r' hc z1
        have : ∃ i, i < m r' ∧ ¬ la C (j' + i) = 0 := by
          apply Classical.byContradiction
          intro hx
          exact hn (fun i hi => Classical.byContradiction (fun hz => hx ⟨i, hi, hz⟩))
        obtain ⟨i, hi, hz⟩ := this
        obtain ⟨a, b, ha, g1, g2⟩ := (h6 (j' + i) (by have := hle r' hc; omega)).mp hz
        refine ⟨a, b, ha, ?_, by unfold ov; have := hm b; have := hm r'; omega⟩
        rcases (h3 a b ha).2 with w | ⟨w1, w2⟩
        · exact Or.inl (by omega)
        · exact Or.inr ⟨by omega, Or.inl w2⟩
      · exact h5 j' r' hc (Or.inr ⟨z1, by omega⟩)
theorem sV.some {n : Nat} {m rk : Nat → Nat} {cand : Nat → Nat → Prop} {TN : List Nat} {C C' : List Int32} {q j r : Nat} (hm : ∀ r, 1 ≤ m r) (h : sV n m rk cand (Pq rk q j) TN C) (hle : ∀ r, cand j r → j + m r ≤ n) (hc0 : cand j r) (hq : rk r = q) (hfree : ∀ i, i < m r → la C (j + i) = 0) (hbest : ∀ r', cand j r' → rk r' = q → (∀ i, i < m r' → la C (j + i) = 0) → m r' < m r ∨ (m r' = m r ∧ r ≤ r')) (hC1 : C'.length = C.length) (hC2 : ∀ i, i < C.length → la C' i = if j ≤ i ∧ i < j + m r then 1 else la C i) : sV n m rk cand (Pq rk q (j + 1)) (TN.set j (r + 1)) C' := by
  obtain ⟨h1, h2, h3, h4, h5, h6⟩ := h
  have hjn := hle r hc0
  have hmr := hm r
  have hjl : j < TN.length := by omega
  have hout : ∀ j' r', aT TN j' r' → ¬ ov m j' r' j r := by
    intro j' r' ha ho
    obtain ⟨o1, o2⟩ := ho
    have hm' := hm r'
    by_cases e : j' ≤ j
    · have := (h6 j (by omega)).mpr ⟨j', r', ha, e, o2⟩
      exact this (hfree 0 (by omega))
    · have := (h6 j' (by omega)).mpr ⟨j', r', ha, Nat.le_refl _, by omega⟩
      have hz := hfree (j' - j) (by omega)
      rw [show j + (j' - j) = j' by omega] at hz
      exact this hz
  have hnj : ∀ j' r', aT TN j' r' → j' ≠ j := by
    intro j' r' ha e
    subst e
    exact hout j' r' ha ⟨by omega, by have := hm r'; omega⟩
  have hsym : ∀ {a b c d : Nat}, ov m a b c d → ov m c d a b := fun z => ⟨z.2, z.1⟩
  refine ⟨by rw [List.length_set]; exact h1, by rw [hC1]; exact h2, fun j' r' ha => ?_, fun j1 r1 j2 r2 ha1 ha2 ho => ?_, fun j' r' hc hP => ?_, fun i hi => ?_⟩
  · rcases (aT_set hjl j' r').mp ha with ⟨rfl, rfl⟩ | ⟨e, ha⟩
    · exact ⟨hc0, Or.inr ⟨hq, Nat.lt_succ_self _⟩⟩
    · refine ⟨(h3 j' r' ha).1, ?_⟩
      rcases (h3 j' r' ha).2 with z | z
      · exact Or.inl z
      · exact Or.inr ⟨z.1, by omega⟩
  · rcases (aT_set hjl j1 r1).mp ha1 with ⟨rfl, rfl⟩ | ⟨e1, hb1⟩
    · rcases (aT_set hjl j2 r2).mp ha2 with ⟨rfl, rfl⟩ | ⟨e2, ha2⟩
      · exact ⟨rfl, rfl⟩
      · exact absurd (hsym ho) (hout _ _ ha2)
    · rcases (aT_set hjl j2 r2).mp ha2 with ⟨rfl, rfl⟩ | ⟨e2, hb2⟩
      · exact absurd ho (hout _ _ hb1)
      · exact h4 _ _ _ _ hb1 hb2 ho
  · have lift : (aT TN j' r' ∨ ∃ a b, aT TN a b ∧ ah m rk a b j' r' ∧ ov m a b j' r') → aT (TN.set j (r + 1)) j' r' ∨ ∃ a b, aT (TN.set j (r + 1)) a b ∧ ah m rk a b j' r' ∧ ov m a b j' r' := by
      rintro (ha | ⟨a, b, ha, g⟩)
      · exact Or.inl ((aT_set hjl _ _).mpr (Or.inr ⟨hnj _ _ ha, ha⟩))
      · exact Or.inr ⟨a, b, (aT_set hjl _ _).mpr (Or.inr ⟨hnj _ _ ha, ha⟩), g⟩
    rcases hP with z | ⟨z1, z2⟩
    · exact lift (h5 j' r' hc (Or.inl z))
    · by_cases e : j' = j
      · subst e
        by_cases er : r' = r
        · subst er
          exact Or.inl ((aT_set hjl _ _).mpr (Or.inl ⟨rfl, rfl⟩))
        · by_cases hf : ∀ i, i < m r' → la C (j' + i) = 0
          · refine Or.inr ⟨j', r, (aT_set hjl _ _).mpr (Or.inl ⟨rfl, rfl⟩), Or.inr ⟨by omega, Or.inr ⟨rfl, ?_⟩⟩, ⟨by have := hm r'; omega, by omega⟩⟩
            rcases hbest r' hc z1 hf with w | ⟨w1, w2⟩
            · exact Or.inl w
            · exact Or.inr ⟨w1.symm, by omega⟩
          · have : ∃ i, i < m r' ∧ ¬ la C (j' + i) = 0 := by
              apply Classical.byContradiction
              intro hx
              exact hf (fun i hi => Classical.byContradiction (fun hz => hx ⟨i, hi, hz⟩))
            obtain ⟨i, hi, hz⟩ := this
            obtain ⟨a, b, ha, g1, g2⟩ := (h6 (j' + i) (by have := hle r' hc; omega)).mp hz
            refine lift (Or.inr ⟨a, b, ha, ?_, by unfold ov; have := hm b; have := hm r'; omega⟩)
            rcases (h3 a b ha).2 with w | ⟨w1, w2⟩
            · exact Or.inl (by omega)
            · exact Or.inr ⟨by omega, Or.inl w2⟩
      · exact lift (h5 j' r' hc (Or.inr ⟨z1, by omega⟩))
  · rw [hC2 i (by omega)]
    by_cases e : j ≤ i ∧ i < j + m r
    · rw [if_pos e]
      exact ⟨fun _ => ⟨j, r, (aT_set hjl _ _).mpr (Or.inl ⟨rfl, rfl⟩), e⟩, fun _ => by decide⟩
    · rw [if_neg e, h6 i hi]
      constructor
      · rintro ⟨a, b, ha, g⟩
        exact ⟨a, b, (aT_set hjl _ _).mpr (Or.inr ⟨hnj _ _ ha, ha⟩), g⟩
      · rintro ⟨a, b, ha, g⟩
        rcases (aT_set hjl a b).mp ha with ⟨rfl, rfl⟩ | ⟨e1, ha⟩
        · exact absurd g e
        · exact ⟨a, b, ha, g⟩
/-- what is taken, by tokens -/
def tlk (TN : List Nat) : Nat → List (Nat × Nat)
  | 0 => []
  | k + 1 => tlk TN k ++ (if la9 TN k = 0 then [] else [(k, la9 TN k - 1)])
theorem tlk_len (TN : List Nat) : ∀ k, (tlk TN k).length ≤ k
  | 0 => Nat.le_refl _
  | k + 1 => by
    have := tlk_len TN k
    simp only [tlk, List.length_append]
    split <;> simp <;> omega
theorem map_set (f : Nat → Int32) (l : List Nat) (j v : Nat) : (l.map f).set j (f v) = (l.set j v).map f := by
  apply List.ext_getElem?
  intro i
  simp only [List.getElem?_map, List.getElem?_set, List.length_map]
  by_cases e : j = i
  · subst e
    by_cases hl : j < l.length
    · simp [hl]
    · simp [hl]
  · simp [e]
section
variable {S : PS} {I : Nat → Nat → Int32} {x : Nat} {R : Nat → List Int32} {F : Nat → Nat → Int32} {ts : List Tk} {t : List Int32} {ru : List Rv} {pa : List (List Int32 × List Int32)} {d : Nat} {k : Dk}
/-- but the findings' rows all is as it was -/
def eF (R R' : Nat → List Int32) : Prop := ∀ i, i < 69 ∨ 75 < i → R' i = R i
theorem eF.rf {R : Nat → List Int32} : eF R R := fun _ _ => rfl
theorem eF.r {R R' : Nat → List Int32} (h : eF R R') {i : Nat} {l : List Int32} (h1 : 69 ≤ i) (h2 : i ≤ 75) : eF R (uR R' i l) := fun j hj => by rw [uR_ne (by omega)]; exact h j hj
theorem eF.tr {R R' R'' : Nat → List Int32} (h1 : eF R R') (h2 : eF R' R'') : eF R R'' := fun j hj => (h2 j hj).trans (h1 j hj)
theorem eF.tM {R R' : Nat → List Int32} (h : eF R R') (hT : tM R ts) : tM R' ts := by
  obtain ⟨t1, t2, t3, t4, t5, t6, t7⟩ := hT
  exact ⟨(h 11 (by omega)).trans t1, (h 13 (by omega)).trans t2, (h 15 (by omega)).trans t3, (h 17 (by omega)).trans t4, (h 19 (by omega)).trans t5, (h 21 (by omega)).trans t6, (h 23 (by omega)).trans t7⟩
theorem dO_lt (d : Nat) : 31 ≤ dO d ∧ dO d + 7 < 69 := by unfold dO; split <;> omega
theorem eF.dM {R R' : Nat → List Int32} (h : eF R R') (hk : dM R F d k) : dM R' F d k := by
  have := dO_lt d
  obtain ⟨t1, t2, t3, t4, t5, t6⟩ := hk
  exact ⟨(h _ (by omega)).trans t1, t2, t3, (h _ (by omega)).trans t4, (h _ (by omega)).trans t5, (h _ (by omega)).trans t6⟩
theorem cs_takeBest (hS : cS S x) (hM : cM I x R F) (hT : tM R ts) (hB9 : dB S I x ru pa) (hF1 : F 26 2 = nI ru.length) (hw : wR ru) (hwt : wT ts) (hot : oT ts) (hd : d < 4) (hk : dM R F d k) (hwk : wD k) {j : Nat} (hj : j < ts.length) {p3 : Int32} {q : Nat} (hp : ∀ r, r ≤ 20 → (tb p3 r = true ↔ fd t ts ru pa k j r = true ∧ rk ru k.1 r = q)) (hin : ∀ r, fd t ts ru pa k j r = true → j + mI9 ru r ≤ ts.length) {TN : List Nat} {C : List Int32} (h71 : R 71 = TN.map nI) (h69 : R 69 = C) (hV : sV ts.length (mI9 ru) (rk ru k.1) (cn t ts ru pa k) (Pq (rk ru k.1) q j) TN C) : ∃ TN' C' R', cO S I x R' F (f_X2_takeBest (sI S I) (x + 68) (x + dO d) (nI j) p3) ∧ eF R R' ∧ R' 71 = TN'.map nI ∧ R' 69 = C' ∧ sV ts.length (mI9 ru) (rk ru k.1) (cn t ts ru pa k) (Pq (rk ru k.1) q (j + 1)) TN' C' := by
  have hn := hwt.1
  have hm1 : ∀ r, 1 ≤ mI9 ru r := fun r => (hw.m r).1
  have hgc : ∀ r, cn t ts ru pa k j r → rk ru k.1 r = q → (∀ i, i < mI9 ru r → la C (j + i) = 0) → gT R ts ru k p3 j r := fun r hc hq hf => ⟨(hp r hc.1).mpr ⟨hc.2.2.1, hq⟩, by rw [h69]; exact hf, hc.2.2.2⟩
  unfold f_X2_takeBest
  by_cases h0 : p3 = 0
  · rw [if_pos h0]
    refine ⟨TN, C, R, ⟨I, rfl, hM, ou.rf⟩, eF.rf, h71, h69, hV.none hm1 (fun r hc => hin r hc.2.2.1) (fun r hc hq hf => ?_)⟩
    have := (hgc r hc hq hf).1
    rw [h0, tb_0] at this
    cases this
  · rw [if_neg h0]
    simp only [lt]
    obtain ⟨z, e1, h⟩ := cs_search hS hM hT hB9 hF1 hw hwt hot hd hk hwk hj (fun r hr hb => hin r ((hp r hr).mp hb).1)
    rw [e1]
    rcases h with ⟨rfl, h⟩ | ⟨r, hr, rfl, h1, h2⟩
    · exact ⟨TN, C, R, ⟨I, rfl, hM, ou.rf⟩, eF.rf, h71, h69, hV.none hm1 (fun r hc => hin r hc.2.2.1) (fun r hc hq hf => h r hc.1 (hgc r hc hq hf))⟩
    · have hb := (hp r hr).mp h1.1
      have hle := hin r hb.1
      have hm3 := (hw.m r).2
      simp only [Option.bind_some, Sum.elim_inr, kK_sI, kQ_sI, kN_sI, kZ_sI, kI_sI, wI_sI, if_true, Option.bind_some, lt, cK_68 hS, cQ_68_0 hS, cQ_68_1 hS, cQ_68_2 hS, cQ_68_3 hS, cQ_68_4 hS, cQ_68_5 hS, cR9_69 hS, cR9_71 hS, cR9_73 hS, cR9_75 hS]
      obtain ⟨C', ⟨J1, g1, m1, u1⟩, c1, c2⟩ := cs_cover hS hM (j := j) (m := mI9 ru r) (by omega) hm3 h69 (by rw [hV.2.1]; exact hle)
      rw [g1]
      simp only [Option.bind_some, kK_sI, kQ_sI, kN_sI, kZ_sI, kI_sI, wI_sI, if_true, Option.bind_some, lt, cK_68 hS, cQ_68_0 hS, cQ_68_1 hS, cQ_68_2 hS, cQ_68_3 hS, cQ_68_4 hS, cQ_68_5 hS, cR9_69 hS, cR9_71 hS, cR9_73 hS, cR9_75 hS, nI_1]
      obtain ⟨J2, g2, m2, u2⟩ := cm_set hS m1 (k := 71) (by decide) (show j < 2 ^ 31 by omega) (nI (r + 1))
      rw [g2]
      refine ⟨TN.set j (r + 1), C', _, ⟨J2, rfl, m2, u1.tr u2⟩, (eF.rf.r (by decide) (by decide)).r (by decide) (by decide), ?_, ?_, hV.some hm1 (fun r hc => hin r hc.2.2.1) ⟨hr, hj, hb.1, h1.2.2⟩ hb.2 (by rw [← h69]; exact h1.2.1) (fun r' hc hq hf => h2 r' hc.1 (hgc r' hc hq hf)) c1 c2⟩
      · rw [uR_eq, uR_ne (by decide), h71, map_set]
      · rw [uR_ne (by decide), uR_eq]
theorem cs_solve (hS : cS S x) (hM : cM I x R F) (hT : tM R ts) (hB9 : dB S I x ru pa) (hF1 : F 26 2 = nI ru.length) (hw : wR ru) (hwt : wT ts) (hot : oT ts) (hd : d < 4) (hk : dM R F d k) (hwk : wD k) {H : List Int32} (hH : R 28 = H) (hb : hB H ts.length (hit t ts ru pa)) (hin : ∀ j r, j < ts.length → fd t ts ru pa k j r = true → j + mI9 ru r ≤ ts.length) : ∃ TN R', cO S I x R' F (f_X2_solve (sI S I) (x + 68) (x + dO d)) ∧ eF R R' ∧ R' 71 = TN.map nI ∧ TN.length = ts.length ∧ sol (mI9 ru) (rk ru k.1) (cn t ts ru pa k) (aT TN) ∧ (∀ j, la9 TN j ≤ 21) ∧ R' 73 = (tlk TN ts.length).map (fun p => nI p.1) ∧ R' 75 = (tlk TN ts.length).map (fun p => nI p.2) := by
  have hn := hwt.1
  unfold f_X2_solve
  simp only [kK_sI, kQ_sI, kN_sI, kZ_sI, kI_sI, wI_sI, if_true, Option.bind_some, lt, cK_68 hS, cQ_68_0 hS, cQ_68_1 hS, cQ_68_2 hS, cQ_68_3 hS, cQ_68_4 hS, cQ_68_5 hS, cR9_69 hS, cR9_71 hS, cR9_73 hS, cR9_75 hS, cK_10 hS, ct_count hS hM hT]
  obtain ⟨I1, g1, m1, u1⟩ := cm_reset hS hM (k := 69) (by decide) (n := ts.length) hn
  rw [g1]
  simp only [kK_sI, kQ_sI, kN_sI, kZ_sI, kI_sI, wI_sI, if_true, Option.bind_some, lt, cK_68 hS, cQ_68_0 hS, cQ_68_1 hS, cQ_68_2 hS, cQ_68_3 hS, cQ_68_4 hS, cQ_68_5 hS, cR9_69 hS, cR9_71 hS, cR9_73 hS, cR9_75 hS, cK_10 hS, ct_count hS m1 (show tM (uR R 69 (List.replicate ts.length 0)) ts from hT)]
  obtain ⟨I2, g2, m2, u2⟩ := cm_reset hS m1 (k := 71) (by decide) (n := ts.length) hn
  rw [g2]
  simp only [kK_sI, kQ_sI, kN_sI, kZ_sI, kI_sI, wI_sI, if_true, Option.bind_some, lt]
  have e0 : eF R (uR (uR R 69 (List.replicate ts.length 0)) 71 (List.replicate ts.length 0)) := (eF.rf.r (by decide) (by decide)).r (by decide) (by decide)
  obtain ⟨z, e1, TN, C, R3, J3, rfl, m3, u3, e3, h71, h69, hV⟩ := it_gen (b := fun (v : Int32 × PS) => f_X2_solve_b31 (x + 68) (x + dO d) v.1 v.2)
    (P := fun q s => q ≤ 9 ∧ ∃ TN C R' J, s = (nI q, sI S J) ∧ cM J x R' F ∧ ou I J x ∧ eF R R' ∧ R' 71 = TN.map nI ∧ R' 69 = C ∧ sV ts.length (mI9 ru) (rk ru k.1) (cn t ts ru pa k) (Pq (rk ru k.1) q 0) TN C)
    (Q := fun z => ∃ TN C R' J, z = sI S J ∧ cM J x R' F ∧ ou I J x ∧ eF R R' ∧ R' 71 = TN.map nI ∧ R' 69 = C ∧ sV ts.length (mI9 ru) (rk ru k.1) (cn t ts ru pa k) (fun _ _ => True) TN C)
    (fun q s ⟨hq, TN, C, R', J, e, m, u, ef, h71, h69, hV⟩ => by
      subst e
      unfold f_X2_solve_b31
      by_cases hq0 : q = 0
      · subst hq0
        rw [if_pos (show nI 0 < 1 by decide +kernel)]
        refine Or.inr ⟨_, rfl, TN, C, R', J, rfl, m, u, ef, h71, h69, hV.mono (fun j r hc => ?_)⟩
        have := (rk_range hw hwk r).1
        exact ⟨fun _ => trivial, fun _ => Or.inl (by omega)⟩
      · rw [if_neg (show ¬ nI q < 1 by rw [show (1 : Int32) = nI 1 from rfl, nI_ltI (show q < 2 ^ 31 by omega) (by decide)]; omega)]
        obtain ⟨v, gv, hv⟩ := cd_ofRank hS m (hB9.kept u) hF1 hw hd (ef.dM hk) hwk (q := q) (by omega)
        simp only [kK_sI, kQ_sI, kN_sI, kZ_sI, kI_sI, wI_sI, if_true, Option.bind_some, lt, cK_68 hS, cQ_68_0 hS, cQ_68_1 hS, cQ_68_2 hS, cQ_68_3 hS, cQ_68_4 hS, cQ_68_5 hS, cR9_69 hS, cR9_71 hS, cR9_73 hS, cR9_75 hS, cK_25 hS, gv]
        obtain ⟨z, e1, TN2, C2, R2, J2, rfl, m2, u2, e2, i71, i69, hV2⟩ := it_up (b := fun (v9 : Int32 × PS) => f_X2_solve_b49 (x + 68) (x + dO d) v v9.1 v9.2) ts.length
          (P := fun j s => ∃ TN C R' J, s = (nI j, sI S J) ∧ cM J x R' F ∧ ou I J x ∧ eF R R' ∧ R' 71 = TN.map nI ∧ R' 69 = C ∧ sV ts.length (mI9 ru) (rk ru k.1) (cn t ts ru pa k) (Pq (rk ru k.1) q j) TN C)
          (Q := fun z => ∃ TN C R' J, z = sI S J ∧ cM J x R' F ∧ ou I J x ∧ eF R R' ∧ R' 71 = TN.map nI ∧ R' 69 = C ∧ sV ts.length (mI9 ru) (rk ru k.1) (cn t ts ru pa k) (Pq (rk ru k.1) (q - 1) 0) TN C)
          (fun j s hj ⟨TN, C, R', J, e, m, u, ef, h71, h69, hV⟩ => by
            subst e
            have hj3 : j < 2 ^ 31 := by omega
            unfold f_X2_solve_b49
            simp only [kK_sI, kQ_sI, kN_sI, kZ_sI, kI_sI, wI_sI, if_true, Option.bind_some, lt, cK_68 hS, cQ_68_0 hS, cQ_68_1 hS, cQ_68_2 hS, cQ_68_3 hS, cQ_68_4 hS, cQ_68_5 hS, cR9_69 hS, cR9_71 hS, cR9_73 hS, cR9_75 hS, cK_25 hS, cK_10 hS, ct_count hS m (ef.tM hT), nI_leI (show ts.length < 2 ^ 31 by omega) hj3, if_neg (show ¬ ts.length ≤ j by omega)]
            by_cases hv0 : v = 0
            · rw [if_pos hv0]
              refine Or.inr ⟨_, rfl, TN, C, R', J, rfl, m, u, ef, h71, h69, hV.mono (fun j r hc => ?_)⟩
              have := hv r (by have := hc.1; omega)
              rw [hv0, tb_0] at this
              have hne : ¬ rk ru k.1 r = q := fun z => by simp [hc.1, z] at this
              unfold Pq
              omega
            · rw [if_neg hv0]
              obtain ⟨w, gw, hw9⟩ := cd_foundAt (t := t) (ru := ru) (pa := pa) hS m (ef.tM hT) hwt hd (ef.dM hk) hwk ((ef 28 (by omega)).trans hH) hb hj
              rw [gw]
              simp only [kK_sI, kQ_sI, kN_sI, kZ_sI, kI_sI, wI_sI, if_true, Option.bind_some, lt]
              obtain ⟨TN', C', R'', ⟨J', g, m', u'⟩, f1, f2, f3, f4⟩ := cs_takeBest (t := t) (ru := ru) (pa := pa) (p3 := w &&& v) (q := q) hS m (ef.tM hT) (hB9.kept u) hF1 hw hwt hot hd (ef.dM hk) hwk hj (fun r hr => by
                rw [tb_and (by omega), hw9 r (by omega), hv r (by omega)]
                simp [hr]) (fun r hf => hin j r hj hf) h71 h69 hV
              rw [g]
              exact Or.inl ⟨_, rfl, TN', C', R'', J', by rw [nI_1], m', u.tr u', ef.tr f1, f2, f3, f4⟩)
          (fun s ⟨TN, C, R', J, e, m, u, ef, h71, h69, hV⟩ => by
            subst e
            unfold f_X2_solve_b49
            simp only [kK_sI, kQ_sI, kN_sI, kZ_sI, kI_sI, wI_sI, if_true, Option.bind_some, lt, cK_68 hS, cQ_68_0 hS, cQ_68_1 hS, cQ_68_2 hS, cQ_68_3 hS, cQ_68_4 hS, cQ_68_5 hS, cR9_69 hS, cR9_71 hS, cR9_73 hS, cR9_75 hS, cK_10 hS, ct_count hS m (ef.tM hT), if_pos (show nI ts.length ≤ nI ts.length from (nI_leI (show ts.length < 2 ^ 31 by omega) (by omega)).mpr (Nat.le_refl _))]
            refine ⟨_, rfl, TN, C, R', J, rfl, m, u, ef, h71, h69, hV.mono (fun j r hc => ?_)⟩
            have := hc.2.1
            unfold Pq
            omega)
          0 (0, sI S J) ⟨TN, C, R', J, by rw [nI_0], m, u, ef, h71, h69, hV⟩ (by omega) kF (kF_big (by omega))
        rw [e1]
        exact Or.inl ⟨_, q - 1, rfl, by omega, by omega, TN2, C2, R2, J2, by rw [← pk_m1 (q - 1), show q - 1 + 1 = q by omega], m2, u2, e2, i71, i69, hV2⟩)
    kF 9 (9, sI S I2) (kF_big (by omega)) ⟨Nat.le_refl _, List.replicate ts.length 0, List.replicate ts.length 0, _, I2, rfl, m2, u1.tr u2, e0, by rw [uR_eq, List.map_replicate, nI_0], by rw [uR_ne (by decide), uR_eq], by simp, by simp, fun j r ha => by unfold aT at ha; simp [List.getElem?_replicate] at ha, fun j r j' r' ha => by unfold aT at ha; simp [List.getElem?_replicate] at ha, fun j r hc hP => by have := (rk_range hw hwk r).2; unfold Pq at hP; omega, fun i hi => by simp [la, hi, aT, List.getElem?_replicate]⟩
  rw [e1]
  simp only [kK_sI, kQ_sI, kN_sI, kZ_sI, kI_sI, wI_sI, if_true, Option.bind_some, lt, cK_68 hS, cQ_68_0 hS, cQ_68_1 hS, cQ_68_2 hS, cQ_68_3 hS, cQ_68_4 hS, cQ_68_5 hS, cR9_69 hS, cR9_71 hS, cR9_73 hS, cR9_75 hS]
  obtain ⟨I4, g4, m4, u4⟩ := cm_clear hS m3 (k := 73) (by decide)
  rw [g4]
  simp only [kK_sI, kQ_sI, kN_sI, kZ_sI, kI_sI, wI_sI, if_true, Option.bind_some, lt, cK_68 hS, cQ_68_0 hS, cQ_68_1 hS, cQ_68_2 hS, cQ_68_3 hS, cQ_68_4 hS, cQ_68_5 hS, cR9_69 hS, cR9_71 hS, cR9_73 hS, cR9_75 hS]
  obtain ⟨I5, g5, m5, u5⟩ := cm_clear hS m4 (k := 75) (by decide)
  rw [g5]
  simp only [kK_sI, kQ_sI, kN_sI, kZ_sI, kI_sI, wI_sI, if_true, Option.bind_some, lt]
  have h21 : ∀ j, la9 TN j ≤ 21 := by
    intro j
    unfold la9
    cases e : TN[j]? with
    | none => simp
    | some v =>
      simp only [Option.getD_some]
      cases v with
      | zero => omega
      | succ r => have := (hV.2.2.1 j r e).1.1; omega
  obtain ⟨z, e1, R6, J6, rfl, m6, u6, f1, f2, f3, f4⟩ := it_up (b := fun (v : Int32 × PS) => f_X2_solve_b116 (x + 68) v.1 v.2) ts.length
    (P := fun j s => ∃ R' J, s = (nI j, sI S J) ∧ cM J x R' F ∧ ou I J x ∧ eF R R' ∧ R' 71 = TN.map nI ∧ R' 73 = (tlk TN j).map (fun p => nI p.1) ∧ R' 75 = (tlk TN j).map (fun p => nI p.2))
    (Q := fun z => ∃ R' J, z = sI S J ∧ cM J x R' F ∧ ou I J x ∧ eF R R' ∧ R' 71 = TN.map nI ∧ R' 73 = (tlk TN ts.length).map (fun p => nI p.1) ∧ R' 75 = (tlk TN ts.length).map (fun p => nI p.2))
    (fun j s hj ⟨R', J, e, m, u, ef, h71, h73, h75⟩ => by
      subst e
      have hj3 : j < 2 ^ 31 := by omega
      have hl := tlk_len TN j
      have h21j := h21 j
      unfold f_X2_solve_b116
      simp only [kK_sI, kQ_sI, kN_sI, kZ_sI, kI_sI, wI_sI, if_true, Option.bind_some, lt, cK_68 hS, cQ_68_0 hS, cQ_68_1 hS, cQ_68_2 hS, cQ_68_3 hS, cQ_68_4 hS, cQ_68_5 hS, cR9_69 hS, cR9_71 hS, cR9_73 hS, cR9_75 hS, cK_10 hS, ct_count hS m (ef.tM hT), nI_leI (show ts.length < 2 ^ 31 by omega) hj3, if_neg (show ¬ ts.length ≤ j by omega), cm_getn hS m (k := 71) (by decide) hj3, h71, la9_nI, nI_eq0 (show la9 TN j < 2 ^ 31 by omega), nI_1]
      by_cases h0 : la9 TN j = 0
      · rw [if_pos h0]
        exact Or.inl ⟨_, rfl, R', J, rfl, m, u, ef, h71, by simp only [tlk, if_pos h0, List.append_nil]; exact h73, by simp only [tlk, if_pos h0, List.append_nil]; exact h75⟩
      · rw [if_neg h0]
        obtain ⟨J1, w1, m1, u1⟩ := cm_add hS m (k := 73) (by decide) (by rw [h73, List.length_map, show capT 73 = 160 from rfl]; omega) (nI j)
        rw [w1]
        simp only [kK_sI, kQ_sI, kN_sI, kZ_sI, kI_sI, wI_sI, if_true, Option.bind_some, lt, cK_68 hS, cQ_68_0 hS, cQ_68_1 hS, cQ_68_2 hS, cQ_68_3 hS, cQ_68_4 hS, cQ_68_5 hS, cR9_69 hS, cR9_71 hS, cR9_73 hS, cR9_75 hS, cm_getn hS m1 (k := 71) (by decide) hj3, uR_ne (show 71 ≠ 73 by decide), h71, la9_nI, nI_sub1 (show 0 < la9 TN j by omega)]
        obtain ⟨J2, w2, m2, u2⟩ := cm_add hS m1 (k := 75) (by decide) (by rw [uR_ne (by decide), h75, List.length_map, show capT 75 = 160 from rfl]; omega) (nI (la9 TN j - 1))
        rw [w2]
        refine Or.inl ⟨_, rfl, _, J2, rfl, m2, (u.tr u1).tr u2, (ef.r (by decide) (by decide)).r (by decide) (by decide), ?_, ?_, ?_⟩
        · rw [uR_ne (by decide), uR_ne (by decide)]; exact h71
        · rw [uR_ne (by decide), uR_eq, h73]; simp only [tlk, if_neg h0, List.map_append]; rfl
        · rw [uR_eq, uR_ne (by decide), h75]; simp only [tlk, if_neg h0, List.map_append]; rfl)
    (fun s ⟨R', J, e, m, u, ef, h71, h73, h75⟩ => by
      subst e
      unfold f_X2_solve_b116
      simp only [kK_sI, kQ_sI, kN_sI, kZ_sI, kI_sI, wI_sI, if_true, Option.bind_some, lt, cK_68 hS, cQ_68_0 hS, cQ_68_1 hS, cQ_68_2 hS, cQ_68_3 hS, cQ_68_4 hS, cQ_68_5 hS, cR9_69 hS, cR9_71 hS, cR9_73 hS, cR9_75 hS, cK_10 hS, ct_count hS m (ef.tM hT), if_pos (show nI ts.length ≤ nI ts.length from (nI_leI (show ts.length < 2 ^ 31 by omega) (by omega)).mpr (Nat.le_refl _))]
      exact ⟨_, rfl, R', J, rfl, m, u, ef, h71, h73, h75⟩)
    0 (0, sI S I5) ⟨_, I5, by rw [nI_0], m5, (u3.tr u4).tr u5, (e3.r (by decide) (by decide)).r (by decide) (by decide), by rw [uR_ne (by decide), uR_ne (by decide)]; exact h71, by rw [uR_ne (by decide), uR_eq]; rfl, by rw [uR_eq]; rfl⟩ (by omega) kF (kF_big (by omega))
  rw [e1]
  exact ⟨TN, R6, ⟨J6, rfl, m6, u6⟩, f1, f2, hV.1, ⟨fun j r ha => (hV.2.2.1 j r ha).1, hV.2.2.2.1, fun j r hc => hV.2.2.2.2.1 j r hc trivial⟩, h21, f3, f4⟩
end
