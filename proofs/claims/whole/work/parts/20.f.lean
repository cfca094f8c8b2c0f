/-! the class reads its tokens -/
theorem li_oI (l : List Int32) (o : Option Nat) (h : ∀ j, o = some j → j < 2 ^ 31) : li l (oI o) = match o with | none => 0 | some j => la l j := by
  cases o with
  | none => exact if_pos (by decide)
  | some j => exact li_nI (h j rfl)
theorem map_modify {α : Type} (f : α → Int32) (g : α → α) (l : List α) (j : Nat) (v : Int32) (h : ∀ t, l[j]? = some t → f (g t) = v) : (l.modify j g).map f = (l.map f).set j v := by
  apply List.ext_getElem?
  intro i
  simp only [List.getElem?_map, List.getElem?_modify, List.getElem?_set, List.length_map]
  by_cases e : j = i
  · subst e
    by_cases hl : j < l.length
    · have := h _ (List.getElem?_eq_getElem hl)
      simp [hl, this]
    · simp [hl]
  · simp [e]
theorem map_modify_id {α : Type} (f : α → Int32) (g : α → α) (l : List α) (j : Nat) (h : ∀ t, f (g t) = f t) : (l.modify j g).map f = l.map f := by
  apply List.ext_getElem?
  intro i
  simp only [List.getElem?_map, List.getElem?_modify]
  cases l[i]? with
  | none => rfl
  | some t => by_cases e : j = i <;> simp [e, h]
theorem la_map {α : Type} (f : α → Int32) (l : List α) (j : Nat) : la (l.map f) j = match l[j]? with | none => 0 | some t => f t := by
  simp only [la, List.getElem?_map]
  cases l[j]? <;> rfl
section
variable {S : PS} {I : Nat → Nat → Int32} {x : Nat} {R : Nat → List Int32} {F : Nat → Nat → Int32}
theorem cx_beginP (hS : cS S x) (hM : cM I x R F) : cO S I x R (uF (uF (uF F 10 8 0) 10 9 1) 10 10 (-1)) (f_X8_beginParagraph (sI S I) (x + 10)) := by
  unfold f_X8_beginParagraph
  simp only [kK_sI, kQ_sI, kN_sI, kZ_sI, kI_sI, wI_sI, if_true, Option.bind_some, lt, cK_10 hS, cQ_10_0 hS, cQ_10_1 hS, cQ_10_2 hS, cQ_10_3 hS, cQ_10_4 hS, cQ_10_5 hS, cQ_10_6 hS, cQ_10_7 hS, cR9_4 hS, cR9_11 hS, cR9_13 hS, cR9_15 hS, cR9_17 hS, cR9_19 hS, cR9_21 hS, cR9_23 hS]
  obtain ⟨m1, u1⟩ := hM.fld (k := 10) rfl 8 0
  obtain ⟨m2, u2⟩ := m1.fld (k := 10) rfl 9 1
  obtain ⟨m3, u3⟩ := m2.fld (k := 10) rfl 10 (-1)
  exact ⟨_, rfl, m3, (u1.tr u2).tr u3⟩
theorem cx_pass (hS : cS S x) (hM : cM I x R F) (s : Int32) {st : Sc} (hs : sM R F st) (i : Nat) (hk : kd s = 0) : ∃ R' F', cO S I x R' F' (f_X8_passSign (sI S I) (x + 10) s) ∧ sM R' F' (stp st i s) ∧ eT R R' F F' := by
  obtain ⟨h1, h2, h3, h4⟩ := hs
  unfold f_X8_passSign stp
  rw [if_pos hk]
  simp only [kK_sI, kQ_sI, kN_sI, kZ_sI, kI_sI, wI_sI, if_true, Option.bind_some, lt, cK_10 hS, cQ_10_0 hS, cQ_10_1 hS, cQ_10_2 hS, cQ_10_3 hS, cQ_10_4 hS, cQ_10_5 hS, cQ_10_6 hS, cQ_10_7 hS, cR9_4 hS, cR9_11 hS, cR9_13 hS, cR9_15 hS, cR9_17 hS, cR9_19 hS, cR9_21 hS, cR9_23 hS]
  by_cases e1 : s = 47
  · subst e1
    obtain ⟨I1, g1, m1, u1⟩ := cx_beginP hS hM
    rw [g1]
    refine ⟨_, _, ⟨I1, rfl, m1, u1⟩, ⟨h1, ?_, ?_, ?_⟩, (eT.rf.f.f).f⟩
    · simp [uF_at, bi]
    · simp [uF_at, bi]
    · simp [uF_at, oI]
  · rw [if_neg e1]
    by_cases e2 : s = 46
    · subst e2
      obtain ⟨m1, u1⟩ := hM.fld (k := 10) rfl 9 1
      refine ⟨_, _, ⟨_, rfl, m1, u1⟩, ⟨h1, ?_, ?_, ?_⟩, eT.rf.f⟩
      · simp [uF_at, h2]
      · simp [uF_at, bi]
      · simp [uF_at, h4]
    · rw [if_neg e2]
      by_cases e3 : s = 34
      · subst e3
        simp only [if_true, hM.2 10 _ rfl, h2]
        obtain ⟨m1, u1⟩ := hM.fld (k := 10) rfl 8 (bi (!st.2.1))
        refine ⟨R, uF F 10 8 (bi (!st.2.1)), ⟨_, ?_, m1, u1⟩, ⟨h1, ?_, ?_, ?_⟩, eT.rf.f⟩
        · cases st.2.1 <;> simp [bi]
        · simp [uF_at]
        · simp [uF_at, h3]
        · simp [uF_at, h4]
      · rw [if_neg e3]
        refine ⟨R, F, ⟨I, rfl, hM, ou.rf⟩, ⟨h1, ?_, ?_, ?_⟩, eT.rf⟩
        · simp [e1, e3, h2]
        · simp [e1, e2, h3]
        · simp [e1, h4]
theorem cx_count (hS : cS S x) (hM : cM I x R F) : f_X8_count (sI S I) (x + 10) = some (nI (R 11).length) := by
  unfold f_X8_count
  simp only [kK_sI, kQ_sI, kN_sI, kZ_sI, kI_sI, wI_sI, if_true, Option.bind_some, lt, cK_10 hS, cQ_10_0 hS, cQ_10_1 hS, cQ_10_2 hS, cQ_10_3 hS, cQ_10_4 hS, cQ_10_5 hS, cQ_10_6 hS, cQ_10_7 hS, cR9_4 hS, cR9_11 hS, cR9_13 hS, cR9_15 hS, cR9_17 hS, cR9_19 hS, cR9_21 hS, cR9_23 hS, cm_count hS hM (k := 11) (by decide)]
/-- a token begins, yet without a sign -/
theorem cx_begin (hS : cS S x) (hM : cM I x R F) {st : Sc} (hs : sM R F st) (i : Nat) (w : Bool) (hn : st.1.length < 160) : ∃ R' F', cO S I x R' F' (f_X8_beginToken (sI S I) (x + 10) (nI i) (if w = true then 1 else 2)) ∧ sM R' F' (st.1 ++ [(i, i, w, 0, st.2.1, st.2.2.1, st.2.2.2.1)], st.2.1, false, some st.1.length, 0) ∧ eT R R' F F' := by
  obtain ⟨⟨t1, t2, t3, t4, t5, t6, t7⟩, h2, h3, h4⟩ := hs
  unfold f_X8_beginToken
  simp only [kK_sI, kQ_sI, kN_sI, kZ_sI, kI_sI, wI_sI, if_true, Option.bind_some, lt, cK_10 hS, cQ_10_0 hS, cQ_10_1 hS, cQ_10_2 hS, cQ_10_3 hS, cQ_10_4 hS, cQ_10_5 hS, cQ_10_6 hS, cQ_10_7 hS, cR9_4 hS, cR9_11 hS, cR9_13 hS, cR9_15 hS, cR9_17 hS, cR9_19 hS, cR9_21 hS, cR9_23 hS]
  obtain ⟨I1, g1, m1, u1⟩ := cm_add hS hM (k := 11) (by decide) (by rw [t1, List.length_map]; exact hn) (nI i)
  rw [g1]
  simp only [kK_sI, kQ_sI, kN_sI, kZ_sI, kI_sI, wI_sI, if_true, Option.bind_some, lt, cK_10 hS, cQ_10_0 hS, cQ_10_1 hS, cQ_10_2 hS, cQ_10_3 hS, cQ_10_4 hS, cQ_10_5 hS, cQ_10_6 hS, cQ_10_7 hS, cR9_4 hS, cR9_11 hS, cR9_13 hS, cR9_15 hS, cR9_17 hS, cR9_19 hS, cR9_21 hS, cR9_23 hS]
  obtain ⟨I2, g2, m2, u2⟩ := cm_add hS m1 (k := 13) (by decide) (by rw [uR_ne (by decide), t2, List.length_map]; exact hn) (nI i)
  rw [g2]
  simp only [kK_sI, kQ_sI, kN_sI, kZ_sI, kI_sI, wI_sI, if_true, Option.bind_some, lt, cK_10 hS, cQ_10_0 hS, cQ_10_1 hS, cQ_10_2 hS, cQ_10_3 hS, cQ_10_4 hS, cQ_10_5 hS, cQ_10_6 hS, cQ_10_7 hS, cR9_4 hS, cR9_11 hS, cR9_13 hS, cR9_15 hS, cR9_17 hS, cR9_19 hS, cR9_21 hS, cR9_23 hS]
  obtain ⟨I3, g3, m3, u3⟩ := cm_add hS m2 (k := 15) (by decide) (by rw [uR_ne (by decide), uR_ne (by decide), t3, List.length_map]; exact hn) (if w = true then 1 else 2)
  rw [g3]
  simp only [kK_sI, kQ_sI, kN_sI, kZ_sI, kI_sI, wI_sI, if_true, Option.bind_some, lt, cK_10 hS, cQ_10_0 hS, cQ_10_1 hS, cQ_10_2 hS, cQ_10_3 hS, cQ_10_4 hS, cQ_10_5 hS, cQ_10_6 hS, cQ_10_7 hS, cR9_4 hS, cR9_11 hS, cR9_13 hS, cR9_15 hS, cR9_17 hS, cR9_19 hS, cR9_21 hS, cR9_23 hS]
  obtain ⟨I4, g4, m4, u4⟩ := cm_add hS m3 (k := 17) (by decide) (by simp only [uR_at]; simp [t4]; exact hn) 0
  rw [g4]
  simp only [kK_sI, kQ_sI, kN_sI, kZ_sI, kI_sI, wI_sI, if_true, Option.bind_some, lt, cK_10 hS, cQ_10_0 hS, cQ_10_1 hS, cQ_10_2 hS, cQ_10_3 hS, cQ_10_4 hS, cQ_10_5 hS, cQ_10_6 hS, cQ_10_7 hS, cR9_4 hS, cR9_11 hS, cR9_13 hS, cR9_15 hS, cR9_17 hS, cR9_19 hS, cR9_21 hS, cR9_23 hS]
  obtain ⟨I5, g5, m5, u5⟩ := cm_add hS m4 (k := 19) (by decide) (by simp only [uR_at]; simp [t5]; exact hn) (bi st.2.1)
  have g5' : (if kI (sI S I4) (x + 10) 8 = 0 then f_X5_add (sI S I4) (x + 19) 0 else f_X5_add (sI S I4) (x + 19) 1) = some (sI S I5) := by
    rw [← g5, kI_sI, m4.2 10 8 rfl, h2]
    cases st.2.1 <;> rfl
  obtain ⟨I6, g6, m6, u6⟩ := cm_add hS m5 (k := 21) (by decide) (by simp only [uR_at]; simp [t6]; exact hn) (bi st.2.2.1)
  obtain ⟨I7, g7, m7, u7⟩ := cm_add hS m6 (k := 23) (by decide) (by simp only [uR_at]; simp [t7]; exact hn) (oI st.2.2.2.1)
  obtain ⟨m8, u8⟩ := m7.fld (k := 10) rfl 9 0
  have g9 := cx_count hS m8
  obtain ⟨m9, u9⟩ := m8.fld (k := 10) rfl 10 (nI st.1.length)
  refine ⟨_, _, ⟨_, ?_, m9, ((((((((u1.tr u2).tr u3).tr u4).tr u5).tr u6).tr u7).tr u8).tr u9)⟩, ⟨⟨?_, ?_, ?_, ?_, ?_, ?_, ?_⟩, ?_, ?_, ?_⟩, (((((((eT.rf.r (by decide) (by decide)).r (by decide) (by decide)).r (by decide) (by decide)).r (by decide) (by decide)).r (by decide) (by decide)).r (by decide) (by decide)).r (by decide) (by decide)).f.f⟩
  · have e4 : I4 (x + 10) 8 = bi st.2.1 := by rw [m4.2 10 8 rfl, h2]
    have e5 : I5 (x + 10) 9 = bi st.2.2.1 := by rw [m5.2 10 9 rfl, h3]
    have e6 : I6 (x + 10) 10 = oI st.2.2.2.1 := by rw [m6.2 10 10 rfl, h4]
    simp only [e4, bi_eq0]
    cases hq : st.2.1
    all_goals
      simp only [hq, bi, if_true, if_false, Bool.false_eq_true] at g5 ⊢
      simp only [g5, kK_sI, kQ_sI, kN_sI, kZ_sI, kI_sI, wI_sI, if_true, Option.bind_some, lt, cK_10 hS, cQ_10_0 hS, cQ_10_1 hS, cQ_10_2 hS, cQ_10_3 hS, cQ_10_4 hS, cQ_10_5 hS, cQ_10_6 hS, cQ_10_7 hS, cR9_4 hS, cR9_11 hS, cR9_13 hS, cR9_15 hS, cR9_17 hS, cR9_19 hS, cR9_21 hS, cR9_23 hS, e5, bi_eq0]
      cases hf : st.2.2.1
      all_goals
        simp only [hf, bi, if_true, if_false, Bool.false_eq_true] at g6 ⊢
        simp only [g6, kK_sI, kQ_sI, kN_sI, kZ_sI, kI_sI, wI_sI, if_true, Option.bind_some, lt, cK_10 hS, cQ_10_0 hS, cQ_10_1 hS, cQ_10_2 hS, cQ_10_3 hS, cQ_10_4 hS, cQ_10_5 hS, cQ_10_6 hS, cQ_10_7 hS, cR9_4 hS, cR9_11 hS, cR9_13 hS, cR9_15 hS, cR9_17 hS, cR9_19 hS, cR9_21 hS, cR9_23 hS, e6, g7, g9]
        congr 2
        simp [uR_at, t1, ← nI_1, Int32.add_sub_cancel]
  all_goals simp [uR_at, uF_at, t1, t2, t3, t4, t5, t6, t7, h2, h3, h4]
  all_goals rfl
theorem cx_len (hS : cS S x) (hM : cM I x R F) (s : Int32) {ts : List Tk} {n : Nat} (ht : tM R ts) (hL : F 10 10 = nI n) (hn : ts.length = n + 1) (hn2 : n < 160) (hv : ∀ t, ts[n]? = some t → t.2.2.2.1 ≤ 100) : ∃ R', cO S I x R' F (f_X8_lengthen (sI S I) (x + 10) s) ∧ tM R' (ts.modify n (lenT s)) ∧ eT R R' F F := by
  obtain ⟨t1, t2, t3, t4, t5, t6, t7⟩ := ht
  have hn3 : n < 2 ^ 31 := by omega
  obtain ⟨t, hg⟩ : ∃ t, ts[n]? = some t := ⟨_, List.getElem?_eq_getElem (by omega)⟩
  have hv := hv t hg
  unfold f_X8_lengthen
  simp only [kK_sI, kQ_sI, kN_sI, kZ_sI, kI_sI, wI_sI, if_true, Option.bind_some, lt, cK_10 hS, cQ_10_0 hS, cQ_10_1 hS, cQ_10_2 hS, cQ_10_3 hS, cQ_10_4 hS, cQ_10_5 hS, cQ_10_6 hS, cQ_10_7 hS, cR9_4 hS, cR9_11 hS, cR9_13 hS, cR9_15 hS, cR9_17 hS, cR9_19 hS, cR9_21 hS, cR9_23 hS, hM.2 10 10 rfl, hL, cm_getn hS hM (k := 13) (by decide) hn3]
  have e2 : la (R 13) n = nI t.2.1 := by rw [t2, la_map, hg]
  obtain ⟨I1, g1, m1, u1⟩ := cm_set hS hM (k := 13) (by decide) hn3 (nI (t.2.1 + 1))
  rw [e2, nI_1, g1]
  have e4 : la (uR R 13 ((R 13).set n (nI (t.2.1 + 1))) 17) n = nI t.2.2.2.1 := by rw [uR_ne (by decide), t4, la_map, hg]
  simp only [kK_sI, kQ_sI, kN_sI, kZ_sI, kI_sI, wI_sI, if_true, Option.bind_some, lt, cK_10 hS, cQ_10_0 hS, cQ_10_1 hS, cQ_10_2 hS, cQ_10_3 hS, cQ_10_4 hS, cQ_10_5 hS, cQ_10_6 hS, cQ_10_7 hS, cR9_4 hS, cR9_11 hS, cR9_13 hS, cR9_15 hS, cR9_17 hS, cR9_19 hS, cR9_21 hS, cR9_23 hS, m1.2 10 10 rfl, hL, cm_getn hS m1 (k := 17) (by decide) hn3, e4, cx_isDigit, bi_eq0]
  have key : ∀ w : Nat, (lenT s t).2.2.2.1 = w → ∃ R', cO S I x R' F ((f_X5_set (sI S I1) (x + 17) (nI n) (nI w)).bind fun r => some r) ∧ tM R' (ts.modify n (lenT s)) ∧ eT R R' F F := by
    intro w hw
    obtain ⟨I2, g2, m2, u2⟩ := cm_set hS m1 (k := 17) (by decide) hn3 (nI w)
    rw [g2]
    refine ⟨_, ⟨I2, rfl, m2, u1.tr u2⟩, ⟨?_, ?_, ?_, ?_, ?_, ?_, ?_⟩, (eT.rf.r (by decide) (by decide)).r (by decide) (by decide)⟩
    · simp only [uR_at]; rw [map_modify_id _ (lenT s) _ _ (fun _ => rfl)]; simp [t1]
    · simp only [uR_at]; rw [map_modify _ _ _ _ (nI (t.2.1 + 1)) (fun u hu => by rw [hg] at hu; cases hu; rfl)]; simp [t2]
    · simp only [uR_at]; rw [map_modify_id _ (lenT s) _ _ (fun _ => rfl)]; simp [t3]
    · simp only [uR_at]; rw [map_modify _ _ _ _ (nI w) (fun u hu => by rw [hg] at hu; cases hu; rw [hw])]; simp [t4]
    · simp only [uR_at]; rw [map_modify_id _ (lenT s) _ _ (fun _ => rfl)]; simp [t5]
    · simp only [uR_at]; rw [map_modify_id _ (lenT s) _ _ (fun _ => rfl)]; simp [t6]
    · simp only [uR_at]; rw [map_modify_id _ (lenT s) _ _ (fun _ => rfl)]; simp [t7]
  cases hd : isD s
  · rw [if_pos rfl]
    exact key 0 (by unfold lenT; simp [hd])
  · rw [if_neg (by decide)]
    obtain ⟨c, hc, q1, q2, q3⟩ := isD_nI hd
    have e5 : nI t.2.2.2.1 * 10 + (s - 48) = nI (10 * t.2.2.2.1 + c) := by
      rw [q3, show (10 : Int32) = nI 10 from rfl, pk_mul, nI_add, Nat.mul_comm]
    have e6 : (if (100 : Int32) < nI (10 * t.2.2.2.1 + c) then (100 : Int32) else nI (10 * t.2.2.2.1 + c)) = nI (if 10 * t.2.2.2.1 + c < 100 then 10 * t.2.2.2.1 + c else 100) := by
      rw [show (100 : Int32) = nI 100 from rfl]
      simp only [nI_ltI (show 100 < 2 ^ 31 by decide) (show 10 * t.2.2.2.1 + c < 2 ^ 31 by omega)]
      by_cases h : 100 < 10 * t.2.2.2.1 + c
      · rw [if_pos h, if_neg (by omega)]
      · rw [if_neg h]
        by_cases h2 : 10 * t.2.2.2.1 + c < 100
        · rw [if_pos h2]
        · rw [if_neg h2, show 10 * t.2.2.2.1 + c = 100 by omega]
    rw [e5, e6]
    exact key _ (by unfold lenT; simp [hd, q2])
theorem cx_clear (hS : cS S x) (hM : cM I x R F) : ∃ R', cO S I x R' F (f_X8_clear (sI S I) (x + 10)) ∧ tM R' [] ∧ eT R R' F F := by
  unfold f_X8_clear
  simp only [kK_sI, kQ_sI, kN_sI, kZ_sI, kI_sI, wI_sI, if_true, Option.bind_some, lt, cK_10 hS, cQ_10_0 hS, cQ_10_1 hS, cQ_10_2 hS, cQ_10_3 hS, cQ_10_4 hS, cQ_10_5 hS, cQ_10_6 hS, cQ_10_7 hS, cR9_4 hS, cR9_11 hS, cR9_13 hS, cR9_15 hS, cR9_17 hS, cR9_19 hS, cR9_21 hS, cR9_23 hS]
  obtain ⟨I1, g1, m1, u1⟩ := cm_clear hS hM (k := 11) (by decide)
  rw [g1]
  simp only [kK_sI, kQ_sI, kN_sI, kZ_sI, kI_sI, wI_sI, if_true, Option.bind_some, lt, cK_10 hS, cQ_10_0 hS, cQ_10_1 hS, cQ_10_2 hS, cQ_10_3 hS, cQ_10_4 hS, cQ_10_5 hS, cQ_10_6 hS, cQ_10_7 hS, cR9_4 hS, cR9_11 hS, cR9_13 hS, cR9_15 hS, cR9_17 hS, cR9_19 hS, cR9_21 hS, cR9_23 hS]
  obtain ⟨I2, g2, m2, u2⟩ := cm_clear hS m1 (k := 13) (by decide)
  rw [g2]
  simp only [kK_sI, kQ_sI, kN_sI, kZ_sI, kI_sI, wI_sI, if_true, Option.bind_some, lt, cK_10 hS, cQ_10_0 hS, cQ_10_1 hS, cQ_10_2 hS, cQ_10_3 hS, cQ_10_4 hS, cQ_10_5 hS, cQ_10_6 hS, cQ_10_7 hS, cR9_4 hS, cR9_11 hS, cR9_13 hS, cR9_15 hS, cR9_17 hS, cR9_19 hS, cR9_21 hS, cR9_23 hS]
  obtain ⟨I3, g3, m3, u3⟩ := cm_clear hS m2 (k := 15) (by decide)
  rw [g3]
  simp only [kK_sI, kQ_sI, kN_sI, kZ_sI, kI_sI, wI_sI, if_true, Option.bind_some, lt, cK_10 hS, cQ_10_0 hS, cQ_10_1 hS, cQ_10_2 hS, cQ_10_3 hS, cQ_10_4 hS, cQ_10_5 hS, cQ_10_6 hS, cQ_10_7 hS, cR9_4 hS, cR9_11 hS, cR9_13 hS, cR9_15 hS, cR9_17 hS, cR9_19 hS, cR9_21 hS, cR9_23 hS]
  obtain ⟨I4, g4, m4, u4⟩ := cm_clear hS m3 (k := 17) (by decide)
  rw [g4]
  simp only [kK_sI, kQ_sI, kN_sI, kZ_sI, kI_sI, wI_sI, if_true, Option.bind_some, lt, cK_10 hS, cQ_10_0 hS, cQ_10_1 hS, cQ_10_2 hS, cQ_10_3 hS, cQ_10_4 hS, cQ_10_5 hS, cQ_10_6 hS, cQ_10_7 hS, cR9_4 hS, cR9_11 hS, cR9_13 hS, cR9_15 hS, cR9_17 hS, cR9_19 hS, cR9_21 hS, cR9_23 hS]
  obtain ⟨I5, g5, m5, u5⟩ := cm_clear hS m4 (k := 19) (by decide)
  rw [g5]
  simp only [kK_sI, kQ_sI, kN_sI, kZ_sI, kI_sI, wI_sI, if_true, Option.bind_some, lt, cK_10 hS, cQ_10_0 hS, cQ_10_1 hS, cQ_10_2 hS, cQ_10_3 hS, cQ_10_4 hS, cQ_10_5 hS, cQ_10_6 hS, cQ_10_7 hS, cR9_4 hS, cR9_11 hS, cR9_13 hS, cR9_15 hS, cR9_17 hS, cR9_19 hS, cR9_21 hS, cR9_23 hS]
  obtain ⟨I6, g6, m6, u6⟩ := cm_clear hS m5 (k := 21) (by decide)
  rw [g6]
  simp only [kK_sI, kQ_sI, kN_sI, kZ_sI, kI_sI, wI_sI, if_true, Option.bind_some, lt, cK_10 hS, cQ_10_0 hS, cQ_10_1 hS, cQ_10_2 hS, cQ_10_3 hS, cQ_10_4 hS, cQ_10_5 hS, cQ_10_6 hS, cQ_10_7 hS, cR9_4 hS, cR9_11 hS, cR9_13 hS, cR9_15 hS, cR9_17 hS, cR9_19 hS, cR9_21 hS, cR9_23 hS]
  obtain ⟨I7, g7, m7, u7⟩ := cm_clear hS m6 (k := 23) (by decide)
  rw [g7]
  refine ⟨_, ⟨I7, rfl, m7, ((((((u1.tr u2).tr u3).tr u4).tr u5).tr u6).tr u7)⟩, ⟨?_, ?_, ?_, ?_, ?_, ?_, ?_⟩, (((((((eT.rf.r (by decide) (by decide)).r (by decide) (by decide)).r (by decide) (by decide)).r (by decide) (by decide)).r (by decide) (by decide)).r (by decide) (by decide)).r (by decide) (by decide))⟩ <;> simp [uR_at]
theorem cx_step (hS : cS S x) (hM : cM I x R F) {t : List Int32} {i : Nat} (hi : i < 160) (hs : sM R F (sc t i)) (h4 : R 4 = t) (hit : i < t.length) : ∃ R' F' J, f_X8_read_b12 (x + 10) (nI (sc t i).2.2.2.2) (nI i) (sI S I) = some (.inl (nI (sc t (i + 1)).2.2.2.2, nI (i + 1), sI S J)) ∧ cM J x R' F' ∧ ou I J x ∧ sM R' F' (sc t (i + 1)) ∧ eT R R' F F' := by
  have hi3 : i < 2 ^ 31 := by omega
  have ht160 : t.length ≤ 160 := by rw [← h4]; exact (hM.1 4 (by decide)).2
  obtain ⟨v1, v2, v3, v4⟩ := sc_inv t i
  unfold f_X8_read_b12
  simp only [kK_sI, kQ_sI, kN_sI, kZ_sI, kI_sI, wI_sI, if_true, Option.bind_some, lt, cK_10 hS, cQ_10_0 hS, cQ_10_1 hS, cQ_10_2 hS, cQ_10_3 hS, cQ_10_4 hS, cQ_10_5 hS, cQ_10_6 hS, cQ_10_7 hS, cR9_4 hS, cR9_11 hS, cR9_13 hS, cR9_15 hS, cR9_17 hS, cR9_19 hS, cR9_21 hS, cR9_23 hS, cm_count hS hM (k := 4) (by decide), cm_getn hS hM (k := 4) (by decide) hi3, h4, nI_leI (show t.length < 2 ^ 31 by omega) hi3, if_neg (show ¬ t.length ≤ i by omega), cx_kindOf, nI_1]
  have hsc : sc t (i + 1) = stp (sc t i) i (la t i) := rfl
  have hkd : kd (la t i) < 2 ^ 31 := by rcases kd_012 (la t i) with h | h | h <;> omega
  simp only [nI_eq0 hkd]
  by_cases hk : kd (la t i) = 0
  · rw [if_pos hk]
    obtain ⟨R', F', ⟨J, g, m, u⟩, q1, q2⟩ := cx_pass hS hM (la t i) hs i hk
    rw [g]
    refine ⟨R', F', J, ?_, m, u, q1, q2⟩
    rw [hsc, stp0 hk]
    simp only [Option.bind_some, hk]
  · rw [if_neg hk]
    have hbe : (sc t i).2.2.2.2 < 2 ^ 31 := by
      cases i with
      | zero => exact Nat.two_pow_pos 31
      | succ n =>
        simp only [sc]
        unfold stp
        have := kd_012 (la t n)
        split
        · exact Nat.two_pow_pos 31
        · split <;> simp only <;> omega
    simp only [nI_eq hkd hbe]
    by_cases hb : kd (la t i) = (sc t i).2.2.2.2
    · rw [if_pos hb]
      obtain ⟨w1, w2⟩ := v2 (by rw [← hb]; exact hk)
      obtain ⟨hs1, hs2, hs3, hs4⟩ := hs
      obtain ⟨R', ⟨J, g, m, u⟩, q1, q2⟩ := cx_len hS hM (la t i) (n := (sc t i).1.length - 1) hs1 (by rw [hs4, w2]; rfl) (by omega) (by omega) (fun u hu => (v3 _ _ hu).2.1)
      rw [g]
      refine ⟨R', F, J, ?_, m, u, ?_, q2⟩
      · rw [hsc, stp1 hk hb]
        simp only [Option.bind_some]
      · rw [hsc, stp1 hk hb]
        exact ⟨q1, hs2, hs3, hs4⟩
    · rw [if_neg hb]
      obtain ⟨R1, F1, ⟨J1, g1, m1, u1⟩, q1, q2⟩ := cx_begin hS hM hs i (kd (la t i) == 1) (by omega)
      have e : nI (kd (la t i)) = (if (kd (la t i) == 1) = true then (1 : Int32) else 2) := by
        rcases kd_012 (la t i) with h | h | h
        · exact absurd h hk
        · rw [h]; rfl
        · rw [h]; rfl
      rw [e, g1]
      obtain ⟨hs1, hs2, hs3, hs4⟩ := q1
      simp only [kK_sI, kQ_sI, kN_sI, kZ_sI, kI_sI, wI_sI, if_true, Option.bind_some, lt, cK_10 hS, cQ_10_0 hS, cQ_10_1 hS, cQ_10_2 hS, cQ_10_3 hS, cQ_10_4 hS, cQ_10_5 hS, cQ_10_6 hS, cQ_10_7 hS, cR9_4 hS, cR9_11 hS, cR9_13 hS, cR9_15 hS, cR9_17 hS, cR9_19 hS, cR9_21 hS, cR9_23 hS]
      obtain ⟨R', ⟨J, g, m, u⟩, q3, q4⟩ := cx_len hS m1 (la t i) (n := (sc t i).1.length) hs1 (by rw [hs4]; rfl) (by simp) (by omega) (fun u hu => by simp at hu; subst hu; simp)
      rw [g]
      refine ⟨R', F1, J, ?_, m, u1.tr u, ?_, q2.tr q4⟩
      · rw [hsc, stp2 hk hb]
        simp only [Option.bind_some, e]
      · rw [hsc, stp2 hk hb]
        refine ⟨?_, hs2, hs3, hs4⟩
        rw [show ((sc t i).1 ++ [lenT (la t i) (i, i, kd (la t i) == 1, 0, (sc t i).2.1, (sc t i).2.2.1, (sc t i).2.2.2.1)]) = ((sc t i).1 ++ [(i, i, kd (la t i) == 1, 0, (sc t i).2.1, (sc t i).2.2.1, (sc t i).2.2.2.1)]).modify (sc t i).1.length (lenT (la t i)) from ?_]
        · exact q3
        · apply List.ext_getElem?
          intro j
          simp only [List.getElem?_modify, List.getElem?_append]
          by_cases e9 : (sc t i).1.length = j
          · subst e9; simp
          · by_cases e8 : j < (sc t i).1.length
            · simp [e8, e9]
            · rw [if_neg e8, if_neg e8, List.getElem?_eq_none (by simp; omega), List.getElem?_eq_none (by simp; omega)]; rfl
theorem cx_read (hS : cS S x) (hM : cM I x R F) {t : List Int32} (h4 : R 4 = t) : ∃ R' F', cO S I x R' F' (f_X8_read (sI S I) (x + 10)) ∧ sM R' F' (sc t t.length) ∧ eT R R' F F' := by
  have ht160 : t.length ≤ 160 := by rw [← h4]; exact (hM.1 4 (by decide)).2
  unfold f_X8_read
  simp only [kK_sI, kQ_sI, kN_sI, kZ_sI, kI_sI, wI_sI, if_true, Option.bind_some, lt, cK_10 hS, cQ_10_0 hS, cQ_10_1 hS, cQ_10_2 hS, cQ_10_3 hS, cQ_10_4 hS, cQ_10_5 hS, cQ_10_6 hS, cQ_10_7 hS, cR9_4 hS, cR9_11 hS, cR9_13 hS, cR9_15 hS, cR9_17 hS, cR9_19 hS, cR9_21 hS, cR9_23 hS]
  obtain ⟨R1, ⟨I1, g1, m1, u1⟩, q1, q2⟩ := cx_clear hS hM
  rw [g1]
  simp only [kK_sI, kQ_sI, kN_sI, kZ_sI, kI_sI, wI_sI, if_true, Option.bind_some, lt, cK_10 hS, cQ_10_0 hS, cQ_10_1 hS, cQ_10_2 hS, cQ_10_3 hS, cQ_10_4 hS, cQ_10_5 hS, cQ_10_6 hS, cQ_10_7 hS, cR9_4 hS, cR9_11 hS, cR9_13 hS, cR9_15 hS, cR9_17 hS, cR9_19 hS, cR9_21 hS, cR9_23 hS]
  obtain ⟨I2, g2, m2, u2⟩ := cx_beginP hS m1
  rw [g2]
  simp only [kK_sI, kQ_sI, kN_sI, kZ_sI, kI_sI, wI_sI, if_true, Option.bind_some, lt]
  obtain ⟨T, e1, R', F', J, rfl, w1, w2, w3, w4⟩ := it_up (b := fun (v : Int32 × Int32 × PS) => f_X8_read_b12 (x + 10) v.1 v.2.1 v.2.2) t.length
    (P := fun i s => ∃ R' F' J, s = (nI (sc t i).2.2.2.2, nI i, sI S J) ∧ cM J x R' F' ∧ ou I J x ∧ sM R' F' (sc t i) ∧ eT R R' F F')
    (Q := fun T => ∃ R' F' J, T = sI S J ∧ cM J x R' F' ∧ ou I J x ∧ sM R' F' (sc t t.length) ∧ eT R R' F F')
    (fun i s hi ⟨R', F', J, e, w1, w2, w3, w4⟩ => by
      subst e
      obtain ⟨R2, F2, J2, z1, z2, z3, z4, z5⟩ := cx_step hS w1 (t := t) (i := i) (by omega) w3 (by rw [w4.1 4 (Or.inl (by decide)), h4]) hi
      exact Or.inl ⟨_, z1, R2, F2, J2, rfl, z2, w2.tr z3, z4, w4.tr z5⟩)
    (fun s ⟨R', F', J, e, w1, w2, w3, w4⟩ => by
      subst e
      unfold f_X8_read_b12
      have hb : t.length < 2 ^ 31 := by omega
      simp only [kK_sI, kQ_sI, kN_sI, kZ_sI, kI_sI, wI_sI, if_true, Option.bind_some, lt, cK_10 hS, cQ_10_0 hS, cQ_10_1 hS, cQ_10_2 hS, cQ_10_3 hS, cQ_10_4 hS, cQ_10_5 hS, cQ_10_6 hS, cQ_10_7 hS, cR9_4 hS, cR9_11 hS, cR9_13 hS, cR9_15 hS, cR9_17 hS, cR9_19 hS, cR9_21 hS, cR9_23 hS, cm_count hS w1 (k := 4) (by decide), w4.1 4 (Or.inl (by decide)), h4, if_pos (show nI t.length ≤ nI t.length from (nI_leI hb hb).mpr (Nat.le_refl _))]
      exact ⟨_, rfl, R', F', J, rfl, w1, w2, w3, w4⟩)
    0 (0, 0, sI S I2) ⟨_, _, I2, by rw [show nI 0 = 0 from nI_0]; rfl, m2, u1.tr u2, ⟨q1, by simp [sc, uF_at, bi], by simp [sc, uF_at, bi], by simp [sc, uF_at, oI]⟩, q2.tr (eT.rf.f.f.f)⟩ (by omega) kF (kF_big (by omega))
  rw [e1]
  exact ⟨R', F', ⟨J, rfl, w1, w2⟩, w3, w4⟩
end
