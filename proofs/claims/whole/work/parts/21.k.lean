/-! pairs of words -/
def fb (ty : List Int32) : Option Nat := (List.range ty.length).find? (fun j => decide (la ty j = 32))
theorem fb_some {ty : List Int32} {k : Nat} (hk : k < ty.length) (h1 : la ty k = 32) (h2 : ∀ j, j < k → la ty j ≠ 32) : fb ty = some k := by
  unfold fb
  rw [List.find?_range_eq_some]
  exact ⟨by simp [h1], by simp [hk], fun j hj => by simp [h2 j hj]⟩
theorem fb_none {ty : List Int32} (h : ∀ j, j < ty.length → la ty j ≠ 32) : fb ty = none := by
  unfold fb
  rw [List.find?_eq_none]
  intro j hj
  simp [h j (List.mem_range.mp hj)]
def a_pair (T : St) : An := match fb T.1 with
  | none => .inr 4
  | some k => if wdB T.1 0 k = true ∧ wdB T.1 (k + 1) T.1.length = true then (if sb T.1 0 k = sb T.1 (k + 1) T.1.length then .inr 4 else if T.2.2.2.2.2.1.length < 4 then .inl (uTold (T.1, T.2.1, T.2.2.1, T.2.2.2.1, T.2.2.2.2.1, T.2.2.2.2.2.1 ++ [(sb T.1 0 k, sb T.1 (k + 1) T.1.length)], T.2.2.2.2.2.2), nI T.2.2.2.2.2.1.length) else .inr 2) else .inr 4
theorem x4_init {S : PS} {I : Nat → Nat → Int32} {a b1 b2 : Nat} (h : kK S a = 8) : f_X4_init (sI S I) a b1 b2 = some (sI (wQ (wQ S a 0 (some b1)) a 1 (some b2)) I) := by
  unfold f_X4_init
  rw [kK_sI, if_pos h]
  simp only [lt, wQ_sI, kK_sI]
  exact if_pos h
theorem ci_pair {S : PS} {I : Nat → Nat → Int32} {x : Nat} {T : St} (hg : gI S) (hI : cI S I x T) (hw : wf T) : cX S I x T (f_X9_pair (sI S I) x) (a_pair T) := by
  obtain ⟨hS, hB, R, F, hM, hT, hC⟩ := id hI
  obtain ⟨⟨ra, l1, l2⟩, ⟨pb, l3, l4⟩⟩ := id hB
  have hpa := hw.2.2.2.2.2.2.2.2.1
  have h20 := hw.1.1
  have hb79 := hS.big hg.1
  have no : ∀ k, cX S I x T (some (.inr (sI S I, k))) (.inr k) := fun k => ⟨S, I, rfl, hg, hI, ou.rf.fx⟩
  have hrow : rS S (x + 1) 20 := cR_1 hS
  have hrl : rL I (x + 1) T.1 := by have := (hM.1 1 (by decide)).1; rw [hT.1] at this; exact this
  have z10 : ¬ ((1 : Int32) = 0) := by decide
  unfold f_X9_pair a_pair
  obtain ⟨r, hr, hpl⟩ := rw_placeOf hrow hrl h20 32
  simp only [lt, kK_sI, kQ_sI, cK_0 hS, cQ_0_0 hS, cR9_1 hS, if_true, Option.bind_some, hr, rw_count hrow hrl]
  rcases hpl with ⟨rfl, hno⟩ | ⟨k, hk, rfl, hk32, hfirst⟩
  · rw [fb_none hno, cx_isWordNo _ _ (show (-1 : Int32) ≤ 0 by decide)]
    simp only [Option.bind_some, if_true]
    exact no 4
  · rw [fb_some hk hk32 hfirst]
    have hw1 := cx_isWord hrow hrl h20 (f := 0) (e := k) (by omega) (by omega)
    rw [nI_0] at hw1
    have hw2 := cx_isWord hrow hrl h20 (f := k + 1) (e := T.1.length) (by omega) (by omega)
    rw [← nI_1] at hw2
    rw [hw1]
    simp only [Option.bind_some, bi_eq0]
    cases b1 : wdB T.1 0 k
    · simp only [if_true, Bool.false_eq_true, false_and, if_false]
      exact no 4
    · rw [if_neg (by decide), hw2]
      simp only [Option.bind_some, bi_eq0]
      cases b2 : wdB T.1 (k + 1) T.1.length
      · simp only [if_true, Bool.false_eq_true, and_false, if_false]
        exact no 4
      · rw [if_neg (by decide)]
        simp only [and_self, if_true]
        -- the pair's cell
        have g1 := hg.new 8 0 (Or.inr trivial)
        have x1 : Xn S (wN S 8 0) := Xn_wN
        have i1 : In S I (nz I (kZ S)) := fun a j ha => nz_ne (by omega)
        have hI1 := hI.xn hg x1 i1
        have hS1 := hI1.1
        have hrow1 : rS (wN S 8 0) (x + 1) 20 := cR_1 hS1
        have hrl1 := hrl.ext (S' := wN S 8 0) hg.1 hrow i1
        have k8 : kK (wN S 8 0) (kZ S) = 8 := by rw [kK_wN, if_pos rfl]
        simp only [kZ_sI, wN_sI, kK_sI, kQ_sI, cK_0 hS1, cQ_0_0 hS1, cR9_1 hS1, if_true, Option.bind_some]
        -- its first word
        obtain ⟨I2, e2, r2, i2⟩ := nw_part g1.1 hrow1 hrl1 h20 (show 0 ≤ k from Nat.zero_le _) (by omega) (by omega)
        rw [Nat.sub_zero, nI_0] at e2
        rw [e2]
        have x2 := Xn_nR (wN S 8 0) k
        have g2 := gI_nR g1 k
        have hI2 := hI1.xn g1 x2 i2
        have hS2 := hI2.1
        have hrow2 : rS (nR (wN S 8 0) k) (x + 1) 20 := cR_1 hS2
        have hrl2 := hrl1.ext (S' := nR (wN S 8 0) k) g1.1 hrow1 i2
        simp only [kK_sI, kQ_sI, cK_0 hS2, cQ_0_0 hS2, cR9_1 hS2, if_true, Option.bind_some, rw_count hrow2 hrl2, nI_1]
        -- the other
        obtain ⟨I3, e3, r3, i3⟩ := nw_part g2.1 hrow2 hrl2 h20 (show k + 1 ≤ T.1.length by omega) (by omega) (by omega)
        rw [e3]
        have x3 := Xn_nR (nR (wN S 8 0) k) (T.1.length - (k + 1))
        have g3 := gI_nR g2 (T.1.length - (k + 1))
        have hI3 := hI2.xn g2 x3 i3
        have z1 : kZ (wN S 8 0) = kZ S + 1 := rfl
        have z2 : kZ (nR (wN S 8 0) k) = kZ S + 1 + 2 := rfl
        have k8' : kK (nR (nR (wN S 8 0) k) (T.1.length - (k + 1))) (kZ S) = 8 := by
          rw [(x3.2 _ (by omega)).1, (x2.2 _ (by omega)).1]; exact k8
        simp only [Option.bind_some, x4_init k8']
        generalize hS4 : wQ (wQ (nR (nR (wN S 8 0) k) (T.1.length - (k + 1))) (kZ S) 0 (some (kZ (wN S 8 0)))) (kZ S) 1 (some (kZ (nR (wN S 8 0) k))) = S4
        have kS4 : ∀ a, kK S4 a = kK (nR (nR (wN S 8 0) k) (T.1.length - (k + 1))) a := fun a => by rw [← hS4]; rfl
        have g4 : gI S4 := by
          rw [← hS4]
          exact (g3.set (a := kZ S) (j := 0) (b := kZ (wN S 8 0)) (by rw [k8']; decide) (by rw [k8']; decide) (by rw [k8']; decide) (by show kZ S + 1 < kZ S + 1 + 2 + 2; omega)).set (by rw [kK_wQ, k8']; decide) (by rw [kK_wQ, k8']; decide) (by rw [kK_wQ, k8']; decide) (by show kZ S + 1 + 2 < kZ S + 1 + 2 + 2; omega)
        have x4 : Xn S S4 := by
          rw [← hS4]
          exact Xn_wQ10 (Xn_wQ10 ((x1.tr x2).tr x3) (Nat.le_refl _)) (Nat.le_refl _)
        have i4 : In S I I3 := (i1.tr x1.1 i2).tr (x1.tr x2).1 i3
        have hI4 := hI.xn hg x4 i4
        have hS4c := hI4.1
        have q0 : kQ S4 (kZ S) 0 = some (kZ S + 1) := by rw [← hS4, kQ_wQ, if_neg (fun z => by cases z.2), kQ_wQ, if_pos ⟨rfl, rfl⟩]; rfl
        have q1 : kQ S4 (kZ S) 1 = some (kZ S + 3) := by rw [← hS4, kQ_wQ, if_pos ⟨rfl, rfl⟩]; rfl
        have rowq : ∀ {h c : Nat}, rS (nR (nR (wN S 8 0) k) (T.1.length - (k + 1))) h c → rS S4 h c := by
          intro h c ⟨a1, a2, a3, a4, a5⟩
          have hne : h ≠ kZ S := fun z => by rw [z, k8'] at a1; cases a1
          refine ⟨(kS4 _).trans a1, ?_, (kS4 _).trans a3, ?_, a5⟩
          · rw [← hS4, kQ_wQ, if_neg (fun z => hne z.1), kQ_wQ, if_neg (fun z => hne z.1)]; exact a2
          · rw [← hS4]; exact a4
        have d1 : dW S4 I3 x (kZ S + 1) (sb T.1 0 k) := by
          refine ⟨k, rowq ((rS_nR (wN S 8 0) (n := k) (by omega)).ext g2.1 (x3.t 0 0)), ?_, by rw [sb_len]; omega, by omega⟩
          exact rL.ext (S' := S4) g2.1 (rS_nR (wN S 8 0) (n := k) (by omega)) i3 r2
        have d2 : dW S4 I3 x (kZ S + 3) (sb T.1 (k + 1) T.1.length) := by
          refine ⟨T.1.length - (k + 1), rowq (rS_nR (nR (wN S 8 0) k) (n := T.1.length - (k + 1)) (by omega)), r3, by rw [sb_len]; exact Nat.le_refl _, by omega⟩
        have hdp : dP S4 I3 x (kZ S) (sb T.1 0 k, sb T.1 (k + 1) T.1.length) := ⟨(kS4 _).trans k8', hb79, ⟨_, q0, d1⟩, ⟨_, q1, d2⟩⟩
        have hlike : f_X5_isLike (sI S4 I3) (kZ S + 1) (kZ S + 3) = some (if sb T.1 0 k = sb T.1 (k + 1) T.1.length then 1 else 0) := by
          obtain ⟨c1, w1, w2, w3, -⟩ := d1
          obtain ⟨c2, w4, w5, w6, -⟩ := d2
          exact rw_isLike w1 w2 w3 w4 w5 w6
        simp only [kK_sI, kQ_sI, hdp.1, q0, q1, d1.k, if_true, Option.bind_some, hlike]
        have f4 : fx S I S4 I3 x := x4.fx i4
        by_cases hlk : sb T.1 0 k = sb T.1 (k + 1) T.1.length
        · rw [if_pos hlk, if_neg z10, if_pos hlk]
          exact ⟨S4, I3, rfl, g4, hI4, f4⟩
        · rw [if_neg hlk, if_pos rfl, if_neg hlk]
          have m1 := l1.xm hg.1 (x4.m i4)
          have m2 : ∀ (j : Nat) (v : Rv), T.2.2.2.2.1[j]? = some v → dR S4 I3 x (ra j) v := fun j v hv => (l2 j v hv).xn hg.1 x4 i4
          have m3 := l3.xm hg.1 (x4.m i4)
          have m4 : ∀ (j : Nat) (v : List Int32 × List Int32), T.2.2.2.2.2.1[j]? = some v → dP S4 I3 x (pb j) v := fun j v hv => (l4 j v hv).xn hg.1 x4 i4
          have hM4 := hM.inn hg.1 hS i4
          have hsz : I3 (x + 27) 2 = nI T.2.2.2.2.2.1.length := by rw [hM4.2 27 2 rfl, hT.2.2.2.2.2.1]
          simp only [cK_0 hS4c, cQ_0_3 hS4c, cK_25 hS4c, cQ_25_1 hS4c, cK_27 hS4c, if_true, Option.bind_some, dl_size m3 hsz, show (4 : Int32) = nI 4 from rfl, nI_ltI (show T.2.2.2.2.2.1.length < 2 ^ 31 by omega) (show 4 < 2 ^ 31 by decide)]
          by_cases h4 : T.2.2.2.2.2.1.length < 4
          · rw [if_pos h4, if_pos h4]
            obtain ⟨S5, I5, y1, y2, y3, y4, y5, y6, y7, y8⟩ := ls_add (b := kZ S) g4 m3 hsz (show _ < 12 by omega) (fun h9 => by omega) (Or.inr (Or.inr (Or.inl hdp.1))) (fun h9 => by rw [hdp.1] at h9; cases h9)
            rw [y1]
            have hS5 : cS S5 x := hS4c.ext g4.1 g4.2.1 y3 (cK_27 hS4c) (by omega)
            have hM5 := hM4.lst (k := 27) g4.1 hS4c rfl y4
            have nl : ∀ {a : Nat} {v : Rv}, dR S4 I3 x a v → kQ S4 a 0 ≠ some (x + 27) ∧ kQ S4 a 4 ≠ some (x + 27) ∧ kQ S4 a 5 ≠ some (x + 27) := by
              intro a v hd
              obtain ⟨-, -, -, -, -, ⟨h1, e1, as1, f1, -⟩, ⟨h2, e2, as2, f2, -⟩, ⟨h3, e3, as3, f3, -⟩⟩ := hd
              have := f1.2.2
              have := f2.2.2
              have := f3.2.2
              exact ⟨fun z => by rw [e1] at z; cases z; omega, fun z => by rw [e2] at z; cases z; omega, fun z => by rw [e3] at z; cases z; omega⟩
            have hB5 : dB S5 I5 x T.2.2.2.2.1 (T.2.2.2.2.2.1 ++ [(sb T.1 0 k, sb T.1 (k + 1) T.1.length)]) := by
              refine ⟨⟨ra, m1.ext g4.1 g4.2.1 y3 (cK_27 hS4c) (by omega), fun j v hv => (m2 j v hv).ext g4.1 g4.2.1 y3 (cK_27 hS4c) y4 (nl (m2 j v hv))⟩, ⟨_, by rw [List.length_append]; exact y5, fun j v hv => ?_⟩⟩
              rw [List.getElem?_append] at hv
              by_cases hj : j < T.2.2.2.2.2.1.length
              · rw [if_pos hj] at hv
                simp only [if_pos hj]
                exact (m4 j v hv).ext g4.1 y3 (cK_27 hS4c) y4
              · rw [if_neg hj] at hv
                simp only [if_neg hj]
                have hj0 := (List.getElem?_eq_some_iff.mp hv).1
                simp at hj0
                rw [show j - T.2.2.2.2.2.1.length = 0 by omega] at hv
                simp at hv
                subst hv
                exact hdp.ext g4.1 y3 (cK_27 hS4c) y4
            have hT5 : cT (T.1, T.2.1, T.2.2.1, T.2.2.2.1, T.2.2.2.2.1, T.2.2.2.2.2.1 ++ [(sb T.1 0 k, sb T.1 (k + 1) T.1.length)], T.2.2.2.2.2.2) R (fun q j => if q = 27 then I5 (x + 27) j else F q j) := by
              obtain ⟨a1, a2, a3, a4, a5, a6, a7, a8⟩ := hT
              refine ⟨a1, a2, a3, a4, a5, by simp only [if_true, List.length_append]; exact y6, a7, fun d hd => ?_⟩
              have hl := dO_lt d
              obtain ⟨b1, b2, b3, b4, b5, b6⟩ := a8 d hd
              exact ⟨b1, by simp only [if_neg (show ¬ dO d = 27 by omega)]; exact b2, by simp only [if_neg (show ¬ dO d = 27 by omega)]; exact b3, b4, b5, b6⟩
            obtain ⟨J, R', F', w1, w2, w3, w4, w5⟩ := cx_told hS5 hM5 hT5
            simp only [Option.bind_some, kK_sI, cK_0 hS5, if_true, w1, kQ_sI, cQ_0_3 hS5, cK_25 hS5, cQ_25_1 hS5, cK_27 hS5]
            obtain ⟨-, ⟨rc, n1, n2⟩⟩ := id (hB5.kept w2)
            have hsz3 : J (x + 27) 2 = nI (T.2.2.2.2.2.1.length + 1) := by
              rw [w3.2 27 2 rfl, w4.2.2.2.2.2.1]
              simp [uTold, uMk, uWipe]
            rw [List.length_append, List.length_singleton] at n1
            rw [dl_size n1 hsz3]
            refine ⟨S5, J, ?_, y2, ⟨hS5, hB5.kept w2, R', F', w3, w4, w5⟩, (f4.tr (y3.fx y4 (cK_27 hS4c))).tr w2.fx⟩
            simp only [Option.bind_some]
            rw [show nI (T.2.2.2.2.2.1.length + 1) - 1 = nI T.2.2.2.2.2.1.length by rw [nI_sub1 (by omega)]; rfl]
          · rw [if_neg h4, if_neg h4]
            exact ⟨S4, I3, rfl, g4, hI4, f4⟩
