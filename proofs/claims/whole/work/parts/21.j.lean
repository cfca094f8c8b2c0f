/-! exceptions, suggestions, pairs -/
section
variable {S S' : PS} {I I' : Nat → Nat → Int32} {x : Nat} {T : St} {R : Nat → List Int32} {F : Nat → Nat → Int32}
theorem cM.far {l : Nat} (hP : PF S) (hS : cS S x) (hi : Ix S I I' l) (hl : x + 79 ≤ l) (hM : cM I x R F) : cM I' x R F := by
  have hb := hS.big hP
  refine ⟨fun k hk => ⟨⟨?_, fun j hj => ?_⟩, (hM.1 k hk).2⟩, fun k j hk => ?_⟩
  · have := capT_lt hk
    rw [hi _ _ (by omega) (by omega)]; exact (hM.1 k hk).1.1
  · have := capT_lt hk
    rw [hi _ _ (by omega) (by omega)]; exact (hM.1 k hk).1.2 j hj
  · have := objT_lt hk
    rw [hi _ _ (by omega) (by omega)]; exact hM.2 k j hk
theorem cx_ruleAt2 (hI : cI S I x T) (hw : wf T) {ra : Nat → Nat} (l1 : dL S (x + 26) T.2.2.2.2.1.length ra) (l2 : ∀ (j : Nat) (v : Rv), T.2.2.2.2.1[j]? = some v → dR S I x (ra j) v) (r : Int32) : f_X9_ruleAt (sI S I) x r = some (match ix r T.2.2.2.2.1.length with | none => .inr (sI S I, 3) | some q => .inl (sI S I, ra q)) := by
  obtain ⟨hS, hB, R, F, hM, hT, hC⟩ := id hI
  have hw2 := hw.2.2.2.2.2.2.1.1
  have hsz : I (x + 26) 2 = nI T.2.2.2.2.1.length := by rw [hM.2 26 2 rfl, hT.2.2.2.2.1]
  unfold f_X9_ruleAt
  simp only [kK_sI, kQ_sI, kN_sI, kZ_sI, kI_sI, wI_sI, if_true, Option.bind_some, lt, cK_0 hS, cQ_0_0 hS, cQ_0_1 hS, cQ_0_2 hS, cQ_0_3 hS, cQ_0_4 hS, cQ_0_5 hS, cQ_0_6 hS, cR9_1 hS, cR9_77 hS, cK_25 hS, cQ_25_0 hS, cQ_25_1 hS, cQ_25_2 hS, cR9_28 hS, cK_26 hS, dl_size l1 hsz]
  cases hp : ix r T.2.2.2.2.1.length with
  | none =>
    rcases ix_none hp with h | h
    · rw [if_pos h]
    · by_cases h0 : r < 0
      · rw [if_pos h0]
      · rw [if_neg h0, if_neg (Int32.not_lt.mpr h)]
  | some q =>
    obtain ⟨h1, rfl⟩ := ix_some (by omega) hp
    obtain ⟨v, hv⟩ : ∃ v, T.2.2.2.2.1[q]? = some v := ⟨_, List.getElem?_eq_getElem h1⟩
    have hd := l2 q v hv
    rw [if_neg (nI_pos (by omega)), if_pos ((nI_ltI (by omega) (by omega)).mpr h1), dl_get l1 hsz h1]
    simp only [Option.bind_some, hd.1, if_true]
/-- one rule has changed, by one of its lists -/
theorem dB.upd {ru : List Rv} {pa : List (List Int32 × List Int32)} {ra pb : Nat → Nat} {q l n j4 : Nat} {v' : Rv} (hg : gI S) (l1 : dL S (x + 26) ru.length ra) (l2 : ∀ (j : Nat) (v : Rv), ru[j]? = some v → dR S I x (ra j) v) (l3 : dL S (x + 27) pa.length pb) (l4 : ∀ (j : Nat) (v : List Int32 × List Int32), pa[j]? = some v → dP S I x (pb j) v) (hx : Xt S S' l n) (hl : kK S l = 3) (hi : Ix S I I' l) (hlx : x + 79 ≤ l) (hq : q < ru.length) (hq4 : kQ S (ra q) j4 = some l) (hd : dR S' I' x (ra q) v') : dB S' I' x (ru.set q v') pa := by
  refine ⟨⟨ra, by rw [List.length_set]; exact l1.ext hg.1 hg.2.1 hx hl (by omega), fun j v hv => ?_⟩, ⟨pb, l3.ext hg.1 hg.2.1 hx hl (by omega), fun j v hv => (l4 j v hv).ext hg.1 hx hl hi⟩⟩
  rw [List.getElem?_set] at hv
  by_cases e : q = j
  · subst e
    rw [if_pos rfl, if_pos hq] at hv
    cases hv
    exact hd
  · rw [if_neg e] at hv
    have hr := l2 j v hv
    have hj := (List.getElem?_eq_some_iff.mp hv).1
    obtain ⟨u, hu⟩ : ∃ u, ru[q]? = some u := ⟨_, List.getElem?_eq_getElem hq⟩
    have hrq := l2 q u hu
    have no : ∀ i, kQ S (ra j) i ≠ some l := fun i hi9 => by
      have := (hg.2.2 (ra q) (ra j) j4 i l hrq.1 hr.1 hq4 hi9).1
      obtain ⟨-, -, arr, -, -, -, inj⟩ := l1
      exact e (inj q j hq hj this hrq.1)
    exact hr.ext hg.1 hg.2.1 hx hl hi ⟨no 0, no 4, no 5⟩
end
def uEx (v : Rv) (w : List Int32) : Rv := (v.1, v.2.1, v.2.2.1, v.2.2.2.1, v.2.2.2.2.1 ++ [w], v.2.2.2.2.2)
def uSu (v : Rv) (w : List Int32) : Rv := (v.1, v.2.1, v.2.2.1, v.2.2.2.1, v.2.2.2.2.1, v.2.2.2.2.2 ++ [w])
def uRu (T : St) (ru : List Rv) : St := (T.1, T.2.1, T.2.2.1, T.2.2.2.1, ru, T.2.2.2.2.2)
theorem sb_all (l : List Int32) : sb l 0 l.length = l := la_ext (by rw [sb_len]; rfl) (fun j hj => by rw [sb_len] at hj; rw [la_sb hj, Nat.zero_add])
theorem cT.ru {T : St} {R : Nat → List Int32} {F : Nat → Nat → Int32} {ru : List Rv} (h : cT T R F) (hn : ru.length = T.2.2.2.2.1.length) : cT (uRu T ru) R F := by
  obtain ⟨a1, a2, a3, a4, a5, a6, a7, a8⟩ := h
  exact ⟨a1, a2, a3, a4, by rw [a5, ← hn]; rfl, a6, a7, a8⟩
def a_except (T : St) (r : Int32) : An := match ix r T.2.2.2.2.1.length with
  | none => .inr 3
  | some q => match T.2.2.2.2.1[q]? with
    | none => .inr 3
    | some v => if wdB T.1 0 T.1.length = true then (if v.2.2.2.2.1.length < 3 then .inl (uTold (uRu T (T.2.2.2.2.1.set q (uEx v T.1))), nI (v.2.2.2.2.1.length + 1)) else .inr 2) else .inr 4
def a_suggest (T : St) (r : Int32) : An := match ix r T.2.2.2.2.1.length with
  | none => .inr 3
  | some q => match T.2.2.2.2.1[q]? with
    | none => .inr 3
    | some v => if isSg T.1 = true then (if v.2.2.2.2.2.length < 2 then .inl (uTold (uRu T (T.2.2.2.2.1.set q (uSu v T.1))), nI (v.2.2.2.2.2.length + 1)) else .inr 2) else .inr 4
section
variable {S : PS} {I : Nat → Nat → Int32} {x : Nat} {T : St}
/-- a list of words in a rule gets what is typed -/
theorem cx_addWord (hg : gI S) (hI : cI S I x T) (hw : wf T) {ra pb : Nat → Nat} (l1 : dL S (x + 26) T.2.2.2.2.1.length ra) (l2 : ∀ (j : Nat) (v : Rv), T.2.2.2.2.1[j]? = some v → dR S I x (ra j) v) (l3 : dL S (x + 27) T.2.2.2.2.2.1.length pb) (l4 : ∀ (j : Nat) (v : List Int32 × List Int32), T.2.2.2.2.2.1[j]? = some v → dP S I x (pb j) v) {q : Nat} {v : Rv} (hv : T.2.2.2.2.1[q]? = some v) {j4 h4 : Nat} (hq4 : kQ S (ra q) j4 = some h4) {ws : List (List Int32)} (hws : dWs S I x h4 ws) (hn3 : ws.length < 3) {v' : Rv} (hup : ∀ (S2 : PS) (I2 : Nat → Nat → Int32), kK S2 (ra q) = 10 → (∀ j, kQ S2 (ra q) j = kQ S (ra q) j) → (∀ j, I2 (ra q) j = I (ra q) j) → dWs S2 I2 x h4 (ws ++ [T.1]) → (∀ h l, kQ S (ra q) 0 = some h → dIs S I x h l → dIs S2 I2 x h l) → (∀ j h l, j ≠ j4 → kQ S (ra q) j = some h → dWs S I x h l → dWs S2 I2 x h l) → dR S2 I2 x (ra q) v') (hj0 : j4 ≠ 0) : ∃ S2 I2, ((f_X5_part (sI S I) (x + 1) 0 (nI T.1.length)).bind fun r23 => if kK r23.1 h4 = 3 then (f_Jx4a65c_add_9ea2d r23.1 h4 r23.2).bind fun r28 => if kK r28.1 x = 13 then (f_X9_noteTold r28.1 x).bind fun r33 => if kK r33 (ra q) = 10 then (kQ r33 (ra q) j4).bind fun a36 => if kK r33 a36 = 3 then (f_Jx4a65c_size_8abf5 r33 a36).bind fun r39 => some (Sum.inl (r33, r39)) else none else none else none else none : Option ((PS × Int32) ⊕ (PS × Nat))) = some (.inl (sI S2 I2, nI (ws.length + 1))) ∧ gI S2 ∧ cI S2 I2 x (uTold (uRu T (T.2.2.2.2.1.set q v'))) ∧ fx S I S2 I2 x := by
  obtain ⟨hS, hB, R, F, hM, hT, hC⟩ := id hI
  have hru := hw.2.2.2.2.2.2.1.1
  have h20 := hw.1.1
  have hb79 := hS.big hg.1
  have hrow : rS S (x + 1) 20 := cR_1 hS
  have hrl : rL I (x + 1) T.1 := by have := (hM.1 1 (by decide)).1; rw [hT.1] at this; exact this
  have hqlt := (List.getElem?_eq_some_iff.mp hv).1
  have hdr := l2 q v hv
  have halt := hg.1.lt (show kK S (ra q) ≠ 0 by rw [hdr.1]; decide)
  obtain ⟨as, ⟨d7, d8, d9⟩, d10⟩ := id hws
  obtain ⟨I1, e1, r1, i1⟩ := nw_part hg.1 hrow hrl h20 (show 0 ≤ T.1.length from Nat.zero_le _) (by omega) (by omega)
  rw [sb_all] at r1
  rw [Nat.sub_zero, nI_0] at e1
  have x1 := Xn_nR S T.1.length
  have g1 := gI_nR hg T.1.length
  rw [e1]
  have hI1 := hI.xn hg x1 i1
  have hS1 := hI1.1
  have hM1 := hM.inn hg.1 hS i1
  have m4 := d7.xm hg.1 (x1.m i1)
  have n4 : I1 h4 2 = nI ws.length := (i1 _ _ (hg.1.lt (by rw [d7.1]; decide))).trans d8
  simp only [Option.bind_some, kK_sI, m4.1, if_true]
  have kz : kK (nR S T.1.length) (kZ S) = 9 := by rw [kK_nR, if_neg (by omega), if_pos rfl]
  obtain ⟨S2, I2, y1, y2, y3, y4, y5, y6, y7, y8⟩ := ls_add (b := kZ S) g1 m4 n4 (show ws.length < 12 by omega) (fun h9 => by omega) (Or.inr (Or.inr (Or.inr (Or.inl kz)))) (fun h9 => by rw [kz] at h9; cases h9)
  rw [y1]
  have hS2 : cS S2 x := hS1.ext g1.1 g1.2.1 y3 m4.1 (by omega)
  have hM2 := hM1.far g1.1 hS1 y4 d9
  have k1 : kK (nR S T.1.length) (ra q) = 10 := ((x1.2 _ halt).1).trans hdr.1
  have q1 : ∀ j, kQ (nR S T.1.length) (ra q) j = kQ S (ra q) j := (x1.2 _ halt).2.2
  have halt1 : ra q < kZ (nR S T.1.length) := Nat.lt_of_lt_of_le halt x1.1
  have hne : ra q ≠ h4 := fun z => by have := hdr.1; rw [z, d7.1] at this; cases this
  obtain ⟨c1, c2, c3⟩ := y3.2 _ halt1
  have q2 : ∀ j, kQ S2 (ra q) j = kQ S (ra q) j := fun j => (c3 j (fun z => hne z.1) (fun z => by rw [k1] at z; cases z.2.1)).trans (q1 j)
  have hw1 : dW (nR S T.1.length) I1 x (kZ S) T.1 := ⟨T.1.length, rS_nR S (by omega), r1, Nat.le_refl _, hb79⟩
  have hd2 : dR S2 I2 x (ra q) v' := by
    refine hup S2 I2 (c1.trans k1) q2 (fun j => (y4 _ _ halt1 hne).trans (i1 _ _ halt)) ⟨_, ⟨by rw [List.length_append]; exact y5, by rw [List.length_append]; exact y6, d9⟩, fun j w hw9 => ?_⟩ (fun h l hh hd => ?_) (fun j h l hj hh hd => ?_)
    · rw [List.getElem?_append] at hw9
      by_cases hj : j < ws.length
      · rw [if_pos hj] at hw9
        simp only [if_pos hj]
        exact ((d10 j w hw9).xm hg.1 (x1.m i1)).ext g1.1 y3 m4.1 y4
      · rw [if_neg hj] at hw9
        simp only [if_neg hj]
        have hj0 := (List.getElem?_eq_some_iff.mp hw9).1
        simp at hj0
        rw [show j - ws.length = 0 by omega] at hw9
        simp at hw9
        subst hw9
        exact hw1.ext g1.1 y3 m4.1 y4
    · exact (hd.xm hg.1 (x1.m i1)).ext g1.1 g1.2.1 y3 m4.1 y4 (fun z => by
        subst z
        exact hj0 ((hg.2.2 _ _ _ _ _ hdr.1 hdr.1 hq4 hh).2))
    · exact (hd.xm hg.1 (x1.m i1)).ext g1.1 g1.2.1 y3 m4.1 y4 (fun z => by
        subst z
        exact hj ((hg.2.2 _ _ _ _ _ hdr.1 hdr.1 hq4 hh).2).symm)
  have hB2 : dB S2 I2 x (T.2.2.2.2.1.set q v') T.2.2.2.2.2.1 := dB.upd (S := nR S T.1.length) (I := I1) g1 (l1.xm hg.1 (x1.m i1)) (fun j w hw9 => (l2 j w hw9).xn hg.1 x1 i1) (l3.xm hg.1 (x1.m i1)) (fun j w hw9 => (l4 j w hw9).xn hg.1 x1 i1) y3 m4.1 y4 d9 hqlt ((q1 j4).trans hq4) hd2
  obtain ⟨J, R', F', z1, z2, z3, z4, z5⟩ := cx_told hS2 hM2 (hT.ru (ru := T.2.2.2.2.1.set q v') (by rw [List.length_set]))
  have y5' : kK S2 h4 = 3 := y5.1
  simp only [Option.bind_some, kK_sI, cK_0 hS2, if_true, z1, c1.trans k1, kQ_sI, (q2 j4).trans hq4, y5']
  have hsz3 : J h4 2 = nI (ws.length + 1) := (z2 _ _ (Or.inr d9)).trans y6
  rw [dl_size y5 hsz3]
  exact ⟨S2, J, rfl, y2, ⟨hS2, hB2.kept z2, R', F', z3, z4, z5⟩, ((x1.fx i1).tr (y3.fx y4 m4.1)).tr z2.fx⟩
theorem ci_except (hg : gI S) (hI : cI S I x T) (hw : wf T) (r : Int32) : cX S I x T (f_X9_except (sI S I) x r) (a_except T r) := by
  obtain ⟨hS, hB, R, F, hM, hT, hC⟩ := id hI
  obtain ⟨⟨ra, l1, l2⟩, ⟨pb, l3, l4⟩⟩ := id hB
  have hru := hw.2.2.2.2.2.2.1.1
  have h20 := hw.1.1
  have no : ∀ k, cX S I x T (some (.inr (sI S I, k))) (.inr k) := fun k => ⟨S, I, rfl, hg, hI, ou.rf.fx⟩
  have hrow : rS S (x + 1) 20 := cR_1 hS
  have hrl : rL I (x + 1) T.1 := by have := (hM.1 1 (by decide)).1; rw [hT.1] at this; exact this
  unfold f_X9_except a_except
  rw [cx_ruleAt2 hI hw l1 l2 r]
  simp only [lt, kK_sI, cK_0 hS, if_true]
  cases hr : ix r T.2.2.2.2.1.length with
  | none => exact no 3
  | some q =>
    obtain ⟨hq, rfl⟩ := ix_some (by omega) hr
    obtain ⟨v, hv⟩ : ∃ v, T.2.2.2.2.1[q]? = some v := ⟨_, List.getElem?_eq_getElem hq⟩
    have hdr := l2 q v hv
    obtain ⟨d1, d2, d3, d4, d5, ⟨h1, e1, f1⟩, ⟨h4, e4, f4⟩, ⟨h5, e5, f5⟩⟩ := id hdr
    have hex := (hw.2.2.2.2.2.2.1.2 q v hv).2.2.2.2.1
    have hwd := cx_isWord hrow hrl h20 (f := 0) (e := T.1.length) (by omega) (by omega)
    rw [nI_0] at hwd
    obtain ⟨as, ⟨d7, d8, d9⟩, d10⟩ := id f4
    simp only [bx2_l, bx2_r, bx1_l, bx1_r, kK_sI, kQ_sI, cK_0 hS, cQ_0_0 hS, cR9_1 hS, if_true, Option.bind_some, rw_count hrow hrl, hwd, bi_eq0, hv, d1, e4, d7.1, dl_size d7 d8, show (3 : Int32) = nI 3 from rfl, nI_ltI (show v.2.2.2.2.1.length < 2 ^ 31 by omega) (show 3 < 2 ^ 31 by decide)]
    cases hword : wdB T.1 0 T.1.length
    · rw [if_pos rfl]; exact no 4
    · rw [if_neg (by decide), if_pos rfl]
      by_cases h3 : v.2.2.2.2.1.length < 3
      · rw [if_pos h3, if_pos h3]
        obtain ⟨S2, I2, g, gg, hI2, hf⟩ := cx_addWord (v' := uEx v T.1) hg hI hw l1 l2 l3 l4 hv e4 f4 h3 (fun S2 I2 k q i w1 w2 w3 => ⟨k, d2, (i 1).trans d3, (i 2).trans d4, (i 3).trans d5, ⟨h1, (q 0).trans e1, w2 _ _ e1 f1⟩, ⟨h4, (q 4).trans e4, w1⟩, ⟨h5, (q 5).trans e5, w3 5 _ _ (by decide) e5 f5⟩⟩) (by decide)
        exact ⟨S2, I2, g, gg, hI2, hf⟩
      · rw [if_neg h3, if_neg h3]; exact no 2
theorem ci_suggest (hg : gI S) (hI : cI S I x T) (hw : wf T) (r : Int32) : cX S I x T (f_X9_suggest (sI S I) x r) (a_suggest T r) := by
  obtain ⟨hS, hB, R, F, hM, hT, hC⟩ := id hI
  obtain ⟨⟨ra, l1, l2⟩, ⟨pb, l3, l4⟩⟩ := id hB
  have hru := hw.2.2.2.2.2.2.1.1
  have h20 := hw.1.1
  have no : ∀ k, cX S I x T (some (.inr (sI S I, k))) (.inr k) := fun k => ⟨S, I, rfl, hg, hI, ou.rf.fx⟩
  have hrow : rS S (x + 1) 20 := cR_1 hS
  have hrl : rL I (x + 1) T.1 := by have := (hM.1 1 (by decide)).1; rw [hT.1] at this; exact this
  unfold f_X9_suggest a_suggest
  rw [cx_ruleAt2 hI hw l1 l2 r]
  simp only [lt, kK_sI, cK_0 hS, if_true]
  cases hr : ix r T.2.2.2.2.1.length with
  | none => exact no 3
  | some q =>
    obtain ⟨hq, rfl⟩ := ix_some (by omega) hr
    obtain ⟨v, hv⟩ : ∃ v, T.2.2.2.2.1[q]? = some v := ⟨_, List.getElem?_eq_getElem hq⟩
    have hdr := l2 q v hv
    obtain ⟨d1, d2, d3, d4, d5, ⟨h1, e1, f1⟩, ⟨h4, e4, f4⟩, ⟨h5, e5, f5⟩⟩ := id hdr
    have hex := (hw.2.2.2.2.2.2.1.2 q v hv).2.2.2.2.2
    have hsg := cx_isSg hrow hrl h20 h20
    obtain ⟨as, ⟨d7, d8, d9⟩, d10⟩ := id f5
    simp only [bx2_l, bx2_r, bx1_l, bx1_r, kK_sI, kQ_sI, cK_0 hS, cQ_0_0 hS, cR9_1 hS, if_true, Option.bind_some, rw_count hrow hrl, hsg, bi_eq0, hv, d1, e5, d7.1, dl_size d7 d8, show (2 : Int32) = nI 2 from rfl, nI_ltI (show v.2.2.2.2.2.length < 2 ^ 31 by omega) (show 2 < 2 ^ 31 by decide)]
    cases hword : isSg T.1
    · rw [if_pos rfl]; exact no 4
    · rw [if_neg (by decide), if_pos rfl]
      by_cases h3 : v.2.2.2.2.2.length < 2
      · rw [if_pos h3, if_pos h3]
        obtain ⟨S2, I2, g, gg, hI2, hf⟩ := cx_addWord (v' := uSu v T.1) hg hI hw l1 l2 l3 l4 hv e5 f5 (by omega) (fun S2 I2 k q i w1 w2 w3 => ⟨k, d2, (i 1).trans d3, (i 2).trans d4, (i 3).trans d5, ⟨h1, (q 0).trans e1, w2 _ _ e1 f1⟩, ⟨h4, (q 4).trans e4, w3 4 _ _ (by decide) e4 f4⟩, ⟨h5, (q 5).trans e5, w1⟩⟩) (by decide)
        exact ⟨S2, I2, g, gg, hI2, hf⟩
      · rw [if_neg h3, if_neg h3]; exact no 2
end
