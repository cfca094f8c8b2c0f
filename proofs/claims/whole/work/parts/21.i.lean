/-! the calls that tell rules and pairs -/
/-- behind the fixed cells all but lists and their arrays is as it was -/
def fx (S : PS) (I : Nat → Nat → Int32) (S' : PS) (J : Nat → Nat → Int32) (x : Nat) : Prop := kZ S ≤ kZ S' ∧ ∀ a, x + 79 ≤ a → a < kZ S → kK S a ≠ 3 → kK S a ≠ 104 → kK S' a = kK S a ∧ kN S' a = kN S a ∧ (∀ j, kQ S' a j = kQ S a j) ∧ ∀ j, J a j = I a j
theorem fx.tr {S S' S'' : PS} {I J K : Nat → Nat → Int32} {x : Nat} (h1 : fx S I S' J x) (h2 : fx S' J S'' K x) : fx S I S'' K x := ⟨Nat.le_trans h1.1 h2.1, fun a ha hz h3 h4 => by
  obtain ⟨a1, a2, a3, a4⟩ := h1.2 a ha hz h3 h4
  obtain ⟨b1, b2, b3, b4⟩ := h2.2 a ha (Nat.lt_of_lt_of_le hz h1.1) (by rw [a1]; exact h3) (by rw [a1]; exact h4)
  exact ⟨b1.trans a1, b2.trans a2, fun j => (b3 j).trans (a3 j), fun j => (b4 j).trans (a4 j)⟩⟩
theorem ou.fx {S : PS} {I J : Nat → Nat → Int32} {x : Nat} (h : ou I J x) : fx S I S J x := ⟨Nat.le_refl _, fun a ha _ _ _ => ⟨rfl, rfl, fun _ => rfl, fun j => h a j (Or.inr ha)⟩⟩
theorem Xn.fx {S S' : PS} {I J : Nat → Nat → Int32} {x : Nat} (h : Xn S S') (hi : In S I J) : fx S I S' J x := ⟨h.1, fun a _ hz _ _ => ⟨(h.2 a hz).1, (h.2 a hz).2.1, (h.2 a hz).2.2, fun j => hi a j hz⟩⟩
theorem Xt.fx {S S' : PS} {I J : Nat → Nat → Int32} {x l n : Nat} (h : Xt S S' l n) (hi : Ix S I J l) (hl : kK S l = 3) : fx S I S' J x := ⟨h.1, fun a _ hz h3 h4 => by
  have hne : a ≠ l := fun z => h3 (by rw [z]; exact hl)
  obtain ⟨a1, a2, a3⟩ := h.2 a hz
  exact ⟨a1, a2, fun j => a3 j (fun z => hne z.1) (fun z => h4 z.2.1), fun j => hi a j hz hne⟩⟩
def cX (S : PS) (I : Nat → Nat → Int32) (x : Nat) (T : St) (o : Option ((PS × Int32) ⊕ (PS × Nat))) (e : An) : Prop := match e with
  | .inl v => ∃ S' J, o = some (.inl (sI S' J, v.2)) ∧ gI S' ∧ cI S' J x v.1 ∧ fx S I S' J x
  | .inr k => ∃ S' J, o = some (.inr (sI S' J, k)) ∧ gI S' ∧ cI S' J x T ∧ fx S I S' J x
theorem cV.x {S : PS} {I : Nat → Nat → Int32} {x : Nat} {T : St} {o : Option ((PS × Int32) ⊕ (PS × Nat))} {e : An} (hg : gI S) (h : cV S I x T o e) : cX S I x T o e := by
  cases e with
  | inl v => obtain ⟨J, e, u, hJ⟩ := h; exact ⟨S, J, e, hg, hJ, u.fx⟩
  | inr k => obtain ⟨J, e, u, hJ⟩ := h; exact ⟨S, J, e, hg, hJ, u.fx⟩
section
variable {S S' : PS} {I I' : Nat → Nat → Int32} {x : Nat} {T : St} {R : Nat → List Int32} {F : Nat → Nat → Int32}
theorem cS.big (hP : PF S) (hS : cS S x) : x + 79 ≤ kZ S := by
  have := hP.lt (show kK S (x + 77 + 1) ≠ 0 by rw [(cR_77 hS).2.2.1]; decide)
  omega
theorem cM.inn (hP : PF S) (hS : cS S x) (hi : In S I I') (hM : cM I x R F) : cM I' x R F := by
  have hb := hS.big hP
  refine ⟨fun k hk => ⟨⟨?_, fun j hj => ?_⟩, (hM.1 k hk).2⟩, fun k j hk => ?_⟩
  · have := capT_lt hk
    rw [hi _ _ (by omega)]; exact (hM.1 k hk).1.1
  · have := capT_lt hk
    rw [hi _ _ (by omega)]; exact (hM.1 k hk).1.2 j hj
  · have := objT_lt hk
    rw [hi _ _ (by omega)]; exact hM.2 k j hk
theorem dR.xn {a : Nat} {v : Rv} (hP : PF S) (hx : Xn S S') (hi : In S I I') (hd : dR S I x a v) : dR S' I' x a v := by
  have hm := hx.m hi
  obtain ⟨d1, d2, d3, d4, d5, ⟨h1, e1, f1⟩, ⟨h2, e2, f2⟩, ⟨h3, e3, f3⟩⟩ := hd
  have ha : a < kZ S := hP.lt (by rw [d1]; decide)
  obtain ⟨a1, a2, a3⟩ := hx.2 a ha
  exact ⟨a1.trans d1, d2, (hi _ _ ha).trans d3, (hi _ _ ha).trans d4, (hi _ _ ha).trans d5, ⟨h1, (a3 0).trans e1, f1.xm hP hm⟩, ⟨h2, (a3 4).trans e2, f2.xm hP hm⟩, ⟨h3, (a3 5).trans e3, f3.xm hP hm⟩⟩
theorem dP.xn {a : Nat} {v : List Int32 × List Int32} (hP : PF S) (hx : Xn S S') (hi : In S I I') (hd : dP S I x a v) : dP S' I' x a v := by
  have hm := hx.m hi
  obtain ⟨d1, d2, ⟨h1, d3, d4⟩, ⟨h2, d5, d6⟩⟩ := hd
  obtain ⟨a1, a2, a3⟩ := hx.2 a (hP.lt (by rw [d1]; decide))
  exact ⟨a1.trans d1, d2, ⟨h1, (a3 0).trans d3, d4.xm hP hm⟩, ⟨h2, (a3 1).trans d5, d6.xm hP hm⟩⟩
theorem dB.xn {ru : List Rv} {pa : List (List Int32 × List Int32)} (hP : PF S) (hx : Xn S S') (hi : In S I I') : dB S I x ru pa → dB S' I' x ru pa := fun ⟨⟨as, h1, h2⟩, ⟨bs, h3, h4⟩⟩ => ⟨⟨as, h1.xm hP (hx.m hi), fun j v hv => (h2 j v hv).xn hP hx hi⟩, ⟨bs, h3.xm hP (hx.m hi), fun j v hv => (h4 j v hv).xn hP hx hi⟩⟩
theorem cI.xn (hg : gI S) (hx : Xn S S') (hi : In S I I') (hI : cI S I x T) : cI S' I' x T := by
  obtain ⟨hS, hB, R, F, hM, hT, hC⟩ := hI
  exact ⟨hS.ext hg.1 hg.2.1 (hx.t (x + 26) 0) (cK_26 hS) (by omega), hB.xn hg.1 hx hi, R, F, hM.inn hg.1 hS hi, hT, hC⟩
def uTold (T : St) : St := uMk (uWipe T) 15
theorem cx_told (hS : cS S x) (hM : cM I x R F) (hT : cT T R F) : ∃ J R' F', f_X9_noteTold (sI S I) x = some (sI S J) ∧ ou I J x ∧ cM J x R' F' ∧ cT (uTold T) R' F' ∧ cC (uTold T) R' F' := by
  unfold f_X9_noteTold
  simp only [kK_sI, kQ_sI, kN_sI, kZ_sI, kI_sI, wI_sI, if_true, Option.bind_some, lt, cK_0 hS, cQ_0_0 hS, cQ_0_1 hS, cQ_0_2 hS, cQ_0_3 hS, cQ_0_4 hS, cQ_0_5 hS, cQ_0_6 hS, cR9_1 hS, cR9_77 hS, cK_3 hS]
  obtain ⟨I1, g1, m1, u1⟩ := cm_clear hS hM (k := 1) (by decide)
  rw [g1]
  simp only [kK_sI, kQ_sI, kN_sI, kZ_sI, kI_sI, wI_sI, if_true, Option.bind_some, lt, cK_0 hS, cQ_0_0 hS, cQ_0_1 hS, cQ_0_2 hS, cQ_0_3 hS, cQ_0_4 hS, cQ_0_5 hS, cQ_0_6 hS, cR9_1 hS, cR9_77 hS, cK_3 hS]
  obtain ⟨I2, g2, m2, u2⟩ := cx_markAll hS m1 15
  rw [g2]
  simp only [kK_sI, kQ_sI, kN_sI, kZ_sI, kI_sI, wI_sI, if_true, Option.bind_some, lt, cK_0 hS]
  obtain ⟨I3, g3, m3, u3⟩ := cx_stale hS m2
  rw [g3]
  exact ⟨I3, _, _, rfl, (u1.tr u2).tr u3, m3, (((eC.rf.f (k := 0) (by decide)).f (k := 0) (by decide))).t (cT_mark (cT_wipe hT) 15), cC_stale⟩
/-- a list of the book gets one more: the ints that the class has in fixed cells -/
theorem cM.lst (hP : PF S) (hS : cS S x) {k : Nat} (hk : objT k = true) (hi : Ix S I I' (x + k)) (hM : cM I x R F) : cM I' x R (fun q j => if q = k then I' (x + k) j else F q j) := by
  have hb := hS.big hP
  have hk2 := objT_lt hk
  have hcap : capT k = 0 := by
    apply Classical.byContradiction
    intro h
    have := (capT_next k hk2 h).2.2
    rw [hk] at this
    cases this
  refine ⟨fun q hq => ⟨⟨?_, fun j hj => ?_⟩, (hM.1 q hq).2⟩, fun q j hq => ?_⟩
  · have := capT_lt hq
    rw [hi _ _ (by omega) (fun z => by have : q = k := by omega
                                       rw [this] at hq; exact hq hcap)]
    exact (hM.1 q hq).1.1
  · have := capT_lt hq
    rw [hi _ _ (by omega) (fun z => by
      have e : q + 1 = k := by omega
      have := (capT_next q (by omega) hq).2.1
      rw [e, hk] at this
      cases this)]
    exact (hM.1 q hq).1.2 j hj
  · have := objT_lt hq
    by_cases e : q = k
    · subst e; simp only [if_true]
    · simp only [if_neg e]
      rw [hi _ _ (by omega) (by omega)]
      exact hM.2 q j hq
end
theorem bi_of01 {b : Int32} (h : b = 0 ∨ b = 1) : ∃ q : Bool, b = bi q := by
  rcases h with rfl | rfl
  · exact ⟨false, rfl⟩
  · exact ⟨true, rfl⟩
def a_rule (T : St) (c b n : Int32) : An := match ix n 10 with
  | none => .inr 1
  | some r => if (c = 97 ∨ c = 115 ∨ c = 109) ∧ 1 ≤ r then (if isPat T.1 = true then (if T.2.2.2.2.1.length < 12 then .inl (uTold (T.1, T.2.1, T.2.2.1, T.2.2.2.1, T.2.2.2.2.1 ++ [((iK T.1 (T.1.length + 1)).1, c, decide (b = 1), r, [], [])], T.2.2.2.2.2), nI T.2.2.2.2.1.length) else .inr 2) else .inr 4) else .inr 1
theorem ci_rule {S : PS} {I : Nat → Nat → Int32} {x : Nat} {T : St} (hg : gI S) (hI : cI S I x T) (hw : wf T) (c b n : Int32) (hb : b = 0 ∨ b = 1) : cX S I x T (f_X9_rule (sI S I) x c b n) (a_rule T c b n) := by
  obtain ⟨hS, hB, R, F, hM, hT, hC⟩ := id hI
  have hru := hw.2.2.2.2.2.2.1.1
  have h20 := hw.1.1
  have hb79 := hS.big hg.1
  have no : ∀ k, cX S I x T (some (.inr (sI S I, k))) (.inr k) := fun k => ⟨S, I, rfl, hg, hI, ou.rf.fx⟩
  have hrow : rS S (x + 1) 20 := cR_1 hS
  have hrl : rL I (x + 1) T.1 := by have := (hM.1 1 (by decide)).1; rw [hT.1] at this; exact this
  unfold f_X9_rule
  simp only [lt]
  -- the condition
  have main : (c = 97 ∨ c = 115 ∨ c = 109) → cX S I x T (if (1 : Int32) = 0 then some (Sum.inr (sI S I, 1)) else if n < 1 then some (Sum.inr (sI S I, 1)) else if n ≤ 9 then if kK (sI S I) x = 13 then (kQ (sI S I) x 0).bind fun a10 => (f_X6_isPattern (sI S I) a10).bind fun r12 => if r12 = 0 then some (Sum.inr (sI S I, 4)) else (kQ (sI S I) x 3).bind fun a15 => if kK (sI S I) a15 = 4 then (kQ (sI S I) a15 0).bind fun a18 => if kK (sI S I) a18 = 3 then (f_Jx4a65c_size_8abf5 (sI S I) a18).bind fun r21 => if r21 < 12 then if kK (wN (sI S I) 10 0) x = 13 then (kQ (wN (sI S I) 10 0) x 0).bind fun a29 => (f_X6_init (wN (sI S I) 10 0) (kZ (sI S I)) a29 c b n).bind fun r31 => if kK r31 a18 = 3 then (f_Jx4a65c_add_9ea2d r31 a18 (kZ (sI S I))).bind fun r34 => if kK r34.1 x = 13 then (f_X9_noteTold r34.1 x).bind fun r39 => if kK r39 x = 13 then (kQ r39 x 3).bind fun a42 => if kK r39 a42 = 4 then (kQ r39 a42 0).bind fun a45 => if kK r39 a45 = 3 then (f_Jx4a65c_size_8abf5 r39 a45).bind fun r48 => some (Sum.inl (r39, r48 - 1)) else none else none else none else none else none else none else some (Sum.inr (sI S I, 2)) else none else none else none else some (Sum.inr (sI S I, 1))) (a_rule T c b n) := by
    intro hc
    rw [if_neg (by decide)]
    unfold a_rule
    cases hn : ix n 10 with
    | none =>
      rcases ix_none hn with h | h
      · rw [if_pos (show n < 1 from by
          rw [Int32.lt_iff_toInt_lt] at h ⊢
          have e1 : (1 : Int32).toInt = 1 := by decide
          have e0 : (0 : Int32).toInt = 0 := by decide
          omega)]
        exact no 1
      · by_cases h1 : n < 1
        · rw [if_pos h1]; exact no 1
        · rw [if_neg h1, if_neg (fun z => by
            rw [Int32.le_iff_toInt_le] at z h
            rw [nI_toInt (show 10 < 2 ^ 31 by decide)] at h
            have e9 : (9 : Int32).toInt = 9 := by decide
            omega)]
          exact no 1
    | some r =>
      obtain ⟨hr, rfl⟩ := ix_some (by decide) hn
      by_cases hr1 : 1 ≤ r
      · rw [if_neg (show ¬ nI r < 1 by rw [show (1 : Int32) = nI 1 from rfl, nI_ltI (by omega) (by decide)]; omega), if_pos (show nI r ≤ 9 from (nI_leI (b := 9) (by omega) (by decide)).mpr (by omega))]
        simp only [kK_sI, kQ_sI, kN_sI, kZ_sI, kI_sI, wI_sI, if_true, Option.bind_some, lt, cK_0 hS, cQ_0_0 hS, cQ_0_1 hS, cQ_0_2 hS, cQ_0_3 hS, cQ_0_4 hS, cQ_0_5 hS, cQ_0_6 hS, cR9_1 hS, cR9_77 hS, cK_25 hS, cQ_25_0 hS, cQ_25_1 hS, cQ_25_2 hS, cR9_28 hS, cK_26 hS, cx_isPattern hrow hrl h20 h20, bi_eq0, if_pos (show (c = 97 ∨ c = 115 ∨ c = 109) ∧ 1 ≤ r from ⟨hc, hr1⟩)]
        cases hp : isPat T.1
        · rw [if_pos rfl]; exact no 4
        · rw [if_neg (by decide)]
          obtain ⟨⟨ra, l1, l2⟩, ⟨pb, l3, l4⟩⟩ := id hB
          have hsz : I (x + 26) 2 = nI T.2.2.2.2.1.length := by rw [hM.2 26 2 rfl, hT.2.2.2.2.1]
          simp only [dl_size l1 hsz, Option.bind_some, show (12 : Int32) = nI 12 from rfl, nI_ltI (show T.2.2.2.2.1.length < 2 ^ 31 by omega) (show 12 < 2 ^ 31 by decide)]
          by_cases h12 : T.2.2.2.2.1.length < 12
          · rw [if_pos h12]
            simp only [if_pos h12]
            obtain ⟨q, rfl⟩ := bi_of01 hb
            obtain ⟨S1, I1, e1, g1, x1, i1, d1⟩ := nw_rule hg hrow hrl h20 h20 hb79 hp hc q r
            have hI1 := hI.xn hg x1 i1
            obtain ⟨hS1, hB1, -⟩ := id hI1
            have hM1 := hM.inn hg.1 hS i1
            have kx : kK (wN S 10 0) x = 13 := by rw [kK_wN, if_neg (by omega)]; exact cK_0 hS
            have qx : kQ (wN S 10 0) x 0 = some (x + 1) := by rw [kQ_wN, if_neg (by omega)]; exact cQ_0_0 hS
            simp only [wN_sI, kK_sI, kx, if_true, kQ_sI, qx, Option.bind_some, e1, cK_26 hS1]
            have m1 := l1.xm hg.1 (x1.m i1)
            have m2 : ∀ (j : Nat) (v : Rv), T.2.2.2.2.1[j]? = some v → dR S1 I1 x (ra j) v := fun j v hv => (l2 j v hv).xn hg.1 x1 i1
            have m3 := l3.xm hg.1 (x1.m i1)
            have m4 : ∀ (j : Nat) (v : List Int32 × List Int32), T.2.2.2.2.2.1[j]? = some v → dP S1 I1 x (pb j) v := fun j v hv => (l4 j v hv).xn hg.1 x1 i1
            have hsz1 : I1 (x + 26) 2 = nI T.2.2.2.2.1.length := by rw [hM1.2 26 2 rfl, hT.2.2.2.2.1]
            obtain ⟨S2, I2, y1, y2, y3, y4, y5, y6, y7, y8⟩ := ls_add (b := kZ S) g1 m1 hsz1 h12 (fun h9 j hj => by
              obtain ⟨v, hv⟩ : ∃ v, T.2.2.2.2.1[j]? = some v := ⟨_, List.getElem?_eq_getElem (by omega)⟩
              exact (m2 j v hv).1) (Or.inr (Or.inr (Or.inr (Or.inr d1.1)))) (fun _ j hj he => by
              obtain ⟨v, hv⟩ : ∃ v, T.2.2.2.2.1[j]? = some v := ⟨_, List.getElem?_eq_getElem (by omega)⟩
              have := hg.1.lt (show kK S (ra j) ≠ 0 by rw [(l2 j v hv).1]; decide)
              omega)
            rw [y1]
            have hS2 : cS S2 x := hS1.ext g1.1 g1.2.1 y3 (cK_26 hS1) (by omega)
            have hM2 := hM1.lst (k := 26) g1.1 hS1 rfl y4
            have nl : ∀ {a : Nat} {v : Rv}, dR S1 I1 x a v → kQ S1 a 0 ≠ some (x + 26) ∧ kQ S1 a 4 ≠ some (x + 26) ∧ kQ S1 a 5 ≠ some (x + 26) := by
              intro a v hd
              obtain ⟨-, -, -, -, -, ⟨h1, e1, as1, f1, -⟩, ⟨h2, e2, as2, f2, -⟩, ⟨h3, e3, as3, f3, -⟩⟩ := hd
              have := f1.2.2
              have := f2.2.2
              have := f3.2.2
              exact ⟨fun z => by rw [e1] at z; cases z; omega, fun z => by rw [e2] at z; cases z; omega, fun z => by rw [e3] at z; cases z; omega⟩
            have hB2 : dB S2 I2 x (T.2.2.2.2.1 ++ [((iK T.1 (T.1.length + 1)).1, c, q, r, [], [])]) T.2.2.2.2.2.1 := by
              refine ⟨⟨_, by rw [List.length_append]; exact y5, fun j v hv => ?_⟩, ⟨pb, m3.ext g1.1 g1.2.1 y3 (cK_26 hS1) (by omega), fun j v hv => (m4 j v hv).ext g1.1 y3 (cK_26 hS1) y4⟩⟩
              rw [List.getElem?_append] at hv
              by_cases hj : j < T.2.2.2.2.1.length
              · rw [if_pos hj] at hv
                simp only [if_pos hj]
                exact (m2 j v hv).ext g1.1 g1.2.1 y3 (cK_26 hS1) y4 (nl (m2 j v hv))
              · rw [if_neg hj] at hv
                simp only [if_neg hj]
                have hj0 := (List.getElem?_eq_some_iff.mp hv).1
                simp at hj0
                rw [show j - T.2.2.2.2.1.length = 0 by omega] at hv
                simp at hv
                subst hv
                exact d1.ext g1.1 g1.2.1 y3 (cK_26 hS1) y4 (nl d1)
            have hT2 : cT (T.1, T.2.1, T.2.2.1, T.2.2.2.1, T.2.2.2.2.1 ++ [((iK T.1 (T.1.length + 1)).1, c, q, r, [], [])], T.2.2.2.2.2) R (fun k j => if k = 26 then I2 (x + 26) j else F k j) := by
              obtain ⟨a1, a2, a3, a4, a5, a6, a7, a8⟩ := hT
              refine ⟨a1, a2, a3, a4, by simp only [if_true, List.length_append]; exact y6, a6, a7, fun d hd => ?_⟩
              have hl := dO_lt d
              obtain ⟨b1, b2, b3, b4, b5, b6⟩ := a8 d hd
              exact ⟨b1, by simp only [if_neg (show ¬ dO d = 26 by omega)]; exact b2, by simp only [if_neg (show ¬ dO d = 26 by omega)]; exact b3, b4, b5, b6⟩
            obtain ⟨J, R', F', z1, z2, z3, z4, z5⟩ := cx_told hS2 hM2 hT2
            simp only [Option.bind_some, kK_sI, cK_0 hS2, if_true, z1, kQ_sI, cQ_0_3 hS2, cK_25 hS2, cQ_25_0 hS2, cK_26 hS2]
            obtain ⟨⟨rc, n1, n2⟩, -⟩ := id (hB2.kept z2)
            have hsz3 : J (x + 26) 2 = nI (T.2.2.2.2.1.length + 1) := by
              rw [z3.2 26 2 rfl, z4.2.2.2.2.1]
              simp [uTold, uMk, uWipe]
            rw [List.length_append, List.length_singleton] at n1
            rw [dl_size n1 hsz3]
            have hdq : decide (bi q = 1) = q := by cases q <;> decide
            refine ⟨S2, J, ?_, y2, ?_, ((x1.fx i1).tr (y3.fx y4 (cK_26 hS1))).tr z2.fx⟩
            · simp only [Option.bind_some]
              rw [show nI (T.2.2.2.2.1.length + 1) - 1 = nI T.2.2.2.2.1.length by rw [nI_sub1 (by omega)]; rfl]
            · rw [hdq]
              exact ⟨hS2, hB2.kept z2, R', F', z3, z4, z5⟩
          · rw [if_neg h12]
            simp only [if_neg h12]
            exact no 2
      · rw [if_pos (show nI r < 1 by rw [show (1 : Int32) = nI 1 from rfl, nI_ltI (by omega) (by decide)]; omega)]
        simp only [if_neg (show ¬ ((c = 97 ∨ c = 115 ∨ c = 109) ∧ 1 ≤ r) from fun z => hr1 z.2)]
        exact no 1
  by_cases h1 : c = 97
  · rw [if_pos h1]; exact main (Or.inl h1)
  · rw [if_neg h1]
    by_cases h2 : c = 115
    · rw [if_pos h2]; exact main (Or.inr (Or.inl h2))
    · rw [if_neg h2]
      by_cases h3 : c = 109
      · rw [if_pos h3]; exact main (Or.inr (Or.inr h3))
      · rw [if_neg h3]
        simp only [if_true]
        have : a_rule T c b n = .inr 1 := by
          unfold a_rule
          cases ix n 10 with
          | none => rfl
          | some r => simp only; rw [if_neg (fun z => by rcases z.1 with z | z | z; exact h1 z; exact h2 z; exact h3 z)]
        rw [this]
        exact no 1
