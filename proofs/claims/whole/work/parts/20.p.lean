/-! edits of the text -/
def mkP (mk t : List Int32) (p : Nat) (c : Int32) : List Int32 := if c = 47 then (mk.set (slN t p) 15).insertIdx (slN t p + 1) 15 else mk.set (slN t p) 15
def mkT (mk t : List Int32) (p : Nat) : List Int32 := if la t p = 47 then (mk.set (slN t p) 15).eraseIdx (slN t p + 1) else mk.set (slN t p) 15
def uPut (T : St) (p : Nat) (c w : Int32) : St := (T.1, T.2.1.insertIdx p c, T.2.2.1.insertIdx p w, mkP T.2.2.2.1 T.2.1 p c, T.2.2.2.2.1, T.2.2.2.2.2.1, fun d => uG (T.2.2.2.2.2.2 d) ((T.2.2.2.2.2.2 d).2.2.2.filterMap (fP p)))
def uTake (T : St) (p : Nat) : St := (T.1, T.2.1.eraseIdx p, T.2.2.1.eraseIdx p, mkT T.2.2.2.1 T.2.1 p, T.2.2.2.2.1, T.2.2.2.2.2.1, fun d => uG (T.2.2.2.2.2.2 d) ((T.2.2.2.2.2.2 d).2.2.2.filterMap (fT p)))
theorem slN_le (t : List Int32) : ∀ i, slN t i ≤ i
  | 0 => Nat.le_refl _
  | i + 1 => by
    have := slN_le t i
    simp only [slN]
    split <;> omega
theorem slN_mono (t : List Int32) {i j : Nat} (h : i ≤ j) : slN t i ≤ slN t j := by
  induction j with
  | zero => have : i = 0 := by omega
            subst this; exact Nat.le_refl _
  | succ j ih =>
    by_cases e : i = j + 1
    · subst e; exact Nat.le_refl _
    · have := ih (by omega)
      simp only [slN]
      omega
theorem char_id {v : Int32} (h : txS v = true ∨ tyS v = true) : (v.toUInt32 % 65536).toInt32 = v ∧ vp_nar .char v = v := by
  have hs : ∃ c, c < 128 ∧ v = nI c := by
    have h0 : ∀ (a b : Nat), a < 128 → b < 128 → decide (nI a ≤ v ∧ v ≤ nI b) = true → ∃ c, c < 128 ∧ v = nI c := by
      intro a b ha hb h
      have h := of_decide_eq_true h
      by_cases h1 : v < 0
      · rw [Int32.le_iff_toInt_le, Int32.le_iff_toInt_le] at h
        rw [Int32.lt_iff_toInt_lt] at h1
        rw [nI_toInt (show b < 2 ^ 31 by omega)] at h
        have e0 : (0 : Int32).toInt = 0 := by decide
        rw [nI_toInt (show a < 2 ^ 31 by omega)] at h
        omega
      · obtain ⟨c, hc, rfl⟩ := nI_of h1
        have := (nI_leI hc (show b < 2 ^ 31 by omega)).mp h.2
        exact ⟨c, by omega, rfl⟩
    rcases h with h | h
    · unfold txS isL isD at h
      simp only [Bool.or_eq_true] at h
      rcases h with ((((h | h) | h) | h) | h) | h
      · exact h0 97 122 (by decide) (by decide) h
      · exact h0 48 57 (by decide) (by decide) h
      · exact ⟨32, by decide, of_decide_eq_true h⟩
      · exact ⟨46, by decide, of_decide_eq_true h⟩
      · exact ⟨34, by decide, of_decide_eq_true h⟩
      · exact ⟨47, by decide, of_decide_eq_true h⟩
    · unfold tyS isL isD at h
      simp only [Bool.or_eq_true] at h
      rcases h with ((((h | h) | h) | h) | h) | h
      · exact h0 97 122 (by decide) (by decide) h
      · exact h0 48 57 (by decide) (by decide) h
      · exact ⟨32, by decide, of_decide_eq_true h⟩
      · exact ⟨42, by decide, of_decide_eq_true h⟩
      · exact ⟨35, by decide, of_decide_eq_true h⟩
      · exact ⟨45, by decide, of_decide_eq_true h⟩
  obtain ⟨c, hc, rfl⟩ := hs
  have : ∀ c, c < 128 → ((nI c).toUInt32 % 65536).toInt32 = nI c ∧ vp_nar .char (nI c) = nI c := by decide +kernel
  exact this c hc
section
variable {S : PS} {I : Nat → Nat → Int32} {x : Nat} {T : St} {R : Nat → List Int32} {F : Nat → Nat → Int32}
theorem cx_stale (hS : cS S x) (hM : cM I x R F) : cO S I x R (uF (uF F 0 7 0) 0 8 (-1)) (f_X9_noteStale (sI S I) x) := by
  unfold f_X9_noteStale
  simp only [kK_sI, kQ_sI, kN_sI, kZ_sI, kI_sI, wI_sI, if_true, Option.bind_some, lt, cK_0 hS]
  obtain ⟨m1, u1⟩ := hM.u0 7 0
  obtain ⟨m2, u2⟩ := m1.u0 8 (-1)
  exact ⟨_, rfl, m2, u1.tr u2⟩
theorem cC_stale {R : Nat → List Int32} {F : Nat → Nat → Int32} : cC T R (uF (uF F 0 7 0) 0 8 (-1)) := ⟨Or.inl (by simp [uF_at]), Or.inl (by simp [uF_at])⟩
theorem cx_tInsert (hS : cS S x) (hM : cM I x R F) (hw : wf T) (h4 : R 4 = T.2.1) (h6 : R 6 = T.2.2.1) (h8 : R 8 = T.2.2.2.1) {p : Nat} (hp : p ≤ T.2.1.length) (hl : T.2.1.length < 160) (c w : Int32) : cO S I x (uR (uR (uR R 4 (T.2.1.insertIdx p c)) 6 (T.2.2.1.insertIdx p w)) 8 (mkP T.2.2.2.1 T.2.1 p c)) F (f_X7_insert (sI S I) (x + 3) (nI p) c w) := by
  obtain ⟨w1, w2, w3, w4, w5, w6, w7⟩ := hw
  have hq : slN T.2.1 p ≤ slN T.2.1 T.2.1.length := slN_mono _ hp
  have hq2 := slN_le T.2.1 T.2.1.length
  unfold f_X7_insert
  simp only [kK_sI, kQ_sI, kN_sI, kZ_sI, kI_sI, wI_sI, if_true, Option.bind_some, lt, cK_3 hS, cQ_3_0 hS, cQ_3_1 hS, cQ_3_2 hS, cR9_4 hS, cR9_6 hS, cR9_8 hS, cx_paragraphAt hS hM (by rw [h4]; exact hp)]
  obtain ⟨I1, g1, m1, u1⟩ := cm_insert hS hM (k := 4) (by decide) (by rw [h4]; exact hl) (j := p) (by rw [h4]; exact hp) c
  rw [g1]
  simp only [kK_sI, kQ_sI, kN_sI, kZ_sI, kI_sI, wI_sI, if_true, Option.bind_some, lt, cK_3 hS, cQ_3_0 hS, cQ_3_1 hS, cQ_3_2 hS, cR9_4 hS, cR9_6 hS, cR9_8 hS]
  obtain ⟨I2, g2, m2, u2⟩ := cm_insert hS m1 (k := 6) (by decide) (by rw [uR_ne (by decide), h6, w4]; exact hl) (j := p) (by rw [uR_ne (by decide), h6, w4]; exact hp) w
  rw [g2]
  simp only [kK_sI, kQ_sI, kN_sI, kZ_sI, kI_sI, wI_sI, if_true, Option.bind_some, lt, cK_3 hS, cQ_3_0 hS, cQ_3_1 hS, cQ_3_2 hS, cR9_4 hS, cR9_6 hS, cR9_8 hS]
  obtain ⟨I3, g3, m3, u3⟩ := cm_set hS m2 (k := 8) (by decide) (show slN (R 4) p < 2 ^ 31 by rw [h4]; omega) 15
  rw [g3]
  simp only [kK_sI, kQ_sI, kN_sI, kZ_sI, kI_sI, wI_sI, if_true, Option.bind_some, lt, cK_3 hS, cQ_3_0 hS, cQ_3_1 hS, cQ_3_2 hS, cR9_4 hS, cR9_6 hS, cR9_8 hS]
  by_cases e : c = 47
  · rw [if_pos e]
    obtain ⟨I4, g4, m4, u4⟩ := cm_insert hS m3 (k := 8) (by decide) (by rw [uR_eq, List.length_set, uR_ne (by decide), uR_ne (by decide), h8, w6, show capT 8 = 161 from rfl]; omega) (j := slN (R 4) p + 1) (by rw [uR_eq, List.length_set, uR_ne (by decide), uR_ne (by decide), h8, w6, h4]; omega) 15
    rw [nI_1, g4]
    refine ⟨I4, rfl, ?_, ((u1.tr u2).tr u3).tr u4⟩
    rw [uR_uR, uR_eq, uR_ne (show 8 ≠ 6 by decide), uR_ne (show 8 ≠ 4 by decide), uR_ne (show 6 ≠ 4 by decide), h4, h6, h8] at m4
    unfold mkP
    rw [if_pos e]
    exact m4
  · rw [if_neg e]
    refine ⟨I3, rfl, ?_, (u1.tr u2).tr u3⟩
    rw [uR_ne (show 8 ≠ 6 by decide), uR_ne (show 8 ≠ 4 by decide), uR_ne (show 6 ≠ 4 by decide), h4, h6, h8] at m3
    unfold mkP
    rw [if_neg e]
    exact m3
theorem cx_tRemove (hS : cS S x) (hM : cM I x R F) (hw : wf T) (h4 : R 4 = T.2.1) (h6 : R 6 = T.2.2.1) (h8 : R 8 = T.2.2.2.1) {p : Nat} (hp : p < T.2.1.length) : cA S I x (uR (uR (uR R 4 (T.2.1.eraseIdx p)) 6 (T.2.2.1.eraseIdx p)) 8 (mkT T.2.2.2.1 T.2.1 p)) F (la T.2.1 p) (f_X7_remove (sI S I) (x + 3) (nI p)) := by
  obtain ⟨w1, w2, w3, w4, w5, w6, w7⟩ := hw
  have hq : slN T.2.1 (p + 1) ≤ slN T.2.1 T.2.1.length := slN_mono _ hp
  have hq2 := slN_le T.2.1 T.2.1.length
  have hq3 : slN T.2.1 p ≤ slN T.2.1 (p + 1) := slN_mono _ (by omega)
  have hc := char_id (Or.inl (w3 p hp))
  unfold f_X7_remove
  simp only [kK_sI, kQ_sI, kN_sI, kZ_sI, kI_sI, wI_sI, if_true, Option.bind_some, lt, cK_3 hS, cQ_3_0 hS, cQ_3_1 hS, cQ_3_2 hS, cR9_4 hS, cR9_6 hS, cR9_8 hS, cx_paragraphAt hS hM (show p ≤ (R 4).length by rw [h4]; omega)]
  obtain ⟨I1, g1, m1, u1⟩ := cm_remove hS hM (k := 4) (by decide) (j := p) (by rw [h4]; exact hp)
  rw [g1]
  simp only [kK_sI, kQ_sI, kN_sI, kZ_sI, kI_sI, wI_sI, if_true, Option.bind_some, lt, cK_3 hS, cQ_3_0 hS, cQ_3_1 hS, cQ_3_2 hS, cR9_4 hS, cR9_6 hS, cR9_8 hS]
  obtain ⟨I2, g2, m2, u2⟩ := cm_remove hS m1 (k := 6) (by decide) (j := p) (by rw [uR_ne (by decide), h6, w4]; exact hp)
  rw [g2]
  simp only [kK_sI, kQ_sI, kN_sI, kZ_sI, kI_sI, wI_sI, if_true, Option.bind_some, lt, cK_3 hS, cQ_3_0 hS, cQ_3_1 hS, cQ_3_2 hS, cR9_4 hS, cR9_6 hS, cR9_8 hS]
  obtain ⟨I3, g3, m3, u3⟩ := cm_set hS m2 (k := 8) (by decide) (show slN (R 4) p < 2 ^ 31 by rw [h4]; omega) 15
  rw [g3]
  simp only [kK_sI, kQ_sI, kN_sI, kZ_sI, kI_sI, wI_sI, if_true, Option.bind_some, lt, cK_3 hS, cQ_3_0 hS, cQ_3_1 hS, cQ_3_2 hS, cR9_4 hS, cR9_6 hS, cR9_8 hS, h4, hc.1, hc.2]
  by_cases e : la T.2.1 p = 47
  · rw [if_pos e]
    have hsl : slN T.2.1 (p + 1) = slN T.2.1 p + 1 := by simp only [slN, if_pos e]
    obtain ⟨I4, g4, m4, u4⟩ := cm_remove hS m3 (k := 8) (by decide) (j := slN (R 4) p + 1) (by rw [uR_eq, List.length_set, uR_ne (by decide), uR_ne (by decide), h8, w6, h4]; omega)
    rw [h4] at g4
    rw [nI_1, g4]
    refine ⟨I4, rfl, ?_, ((u1.tr u2).tr u3).tr u4⟩
    rw [uR_uR, uR_eq, uR_ne (show 8 ≠ 6 by decide), uR_ne (show 8 ≠ 4 by decide), uR_ne (show 6 ≠ 4 by decide), h4, h6, h8] at m4
    unfold mkT
    rw [if_pos e]
    exact m4
  · rw [if_neg e]
    refine ⟨I3, rfl, ?_, (u1.tr u2).tr u3⟩
    rw [uR_ne (show 8 ≠ 6 by decide), uR_ne (show 8 ≠ 4 by decide), uR_ne (show 6 ≠ 4 by decide), h4, h6, h8] at m3
    unfold mkT
    rw [if_neg e]
    exact m3
/-- the desks' rows alone have changed -/
def eG (R R' : Nat → List Int32) : Prop := ∀ i, i < 30 ∨ 69 ≤ i → R' i = R i
theorem eD.g {R R' : Nat → List Int32} {d : Nat} (h : eD d R R') : eG R R' := fun i hi => by
  have := dO_lt d
  exact h i (by omega) (by omega) (by omega)
theorem eG.tr {R R' R'' : Nat → List Int32} (h1 : eG R R') (h2 : eG R' R'') : eG R R'' := fun i hi => (h2 i hi).trans (h1 i hi)
theorem cx_putIn (hS : cS S x) (hM : cM I x R F) (hT : cT T R F) (hw : wf T) {p : Nat} (hp : p ≤ T.2.1.length) (hl : T.2.1.length < 160) (c w : Int32) : ∃ J R' F', f_X9_putIn (sI S I) x (nI p) c w = some (sI S J) ∧ ou I J x ∧ cM J x R' F' ∧ cT (uPut T p c w) R' F' ∧ cC (uPut T p c w) R' F' ∧ R' 77 = R 77 := by
  obtain ⟨a1, a2, a3, a4, a5, a6, a7, a8⟩ := hT
  have hwd := hw.2.2.2.2.2.2.2.2.2.2
  unfold f_X9_putIn
  simp only [kK_sI, kQ_sI, kN_sI, kZ_sI, kI_sI, wI_sI, if_true, Option.bind_some, lt, cK_0 hS, cQ_0_0 hS, cQ_0_1 hS, cQ_0_2 hS, cQ_0_3 hS, cQ_0_4 hS, cQ_0_5 hS, cQ_0_6 hS, cR9_1 hS, cR9_77 hS, cK_3 hS]
  obtain ⟨I1, g1, m1, u1⟩ := cx_tInsert hS hM hw a2 a3 a4 hp hl c w
  rw [g1]
  simp only [Option.bind_some]
  generalize hR1 : uR (uR (uR R 4 (T.2.1.insertIdx p c)) 6 (T.2.2.1.insertIdx p w)) 8 (mkP T.2.2.2.1 T.2.1 p c) = R1 at m1
  have hd1 : ∀ d, d < 4 → dM R1 F d (T.2.2.2.2.2.2 d) := by
    intro d hd
    have hl := dO_lt d
    obtain ⟨b1, b2, b3, b4, b5, b6⟩ := a8 d hd
    subst hR1
    refine ⟨?_, b2, b3, ?_, ?_, ?_⟩ <;> rw [uR_ne (by omega), uR_ne (by omega), uR_ne (by omega)] <;> assumption
  obtain ⟨z, e1, R2, J2, rfl, m2, u2, q1, q2⟩ := it_up (b := fun (v : Int32 × PS) => f_X9_putIn_b13 x (nI p) v.1 v.2) 4
    (P := fun i s => ∃ R' J, s = (nI i, sI S J) ∧ cM J x R' F ∧ ou I J x ∧ eG R1 R' ∧ ∀ d, d < 4 → dM R' F d (if d < i then uG (T.2.2.2.2.2.2 d) ((T.2.2.2.2.2.2 d).2.2.2.filterMap (fP p)) else T.2.2.2.2.2.2 d))
    (Q := fun z => ∃ R' J, z = sI S J ∧ cM J x R' F ∧ ou I J x ∧ eG R1 R' ∧ ∀ d, d < 4 → dM R' F d (uG (T.2.2.2.2.2.2 d) ((T.2.2.2.2.2.2 d).2.2.2.filterMap (fP p))))
    (fun i s hi ⟨R', J, e, m, u, eg, hd⟩ => by
      subst e
      have hi3 : i < 2 ^ 31 := by omega
      have hn : J (x + 30) 2 = nI 4 := by rw [m.2 30 2 rfl, a7]
      have hk := hd i hi
      rw [if_neg (Nat.lt_irrefl _)] at hk
      obtain ⟨wd, wg⟩ := hwd i hi
      unfold f_X9_putIn_b13
      simp only [kK_sI, kQ_sI, kN_sI, kZ_sI, kI_sI, wI_sI, if_true, Option.bind_some, lt, cK_0 hS, cQ_0_0 hS, cQ_0_1 hS, cQ_0_2 hS, cQ_0_3 hS, cQ_0_4 hS, cQ_0_5 hS, cQ_0_6 hS, cR9_1 hS, cR9_77 hS, cK_30 hS, dl_size (dl_desks hS) hn, nI_leI (show 4 < 2 ^ 31 by decide) hi3, if_neg (show ¬ 4 ≤ i by omega), dl_get (dl_desks hS) hn hi, cK_d hS hi, nI_1]
      obtain ⟨R2, ⟨J2, g2, m2, u2⟩, f1, f2⟩ := cd_followPut hS m hi hk wd.2.2.2.1 (fun g hg => by have := wg g hg; have := hw.2.1; omega) (p := p) (by omega)
      rw [g2]
      refine Or.inl ⟨_, rfl, R2, J2, rfl, m2, u.tr u2, eg.tr f1.g, fun d hd4 => ?_⟩
      by_cases e : d = i
      · subst e; rw [if_pos (Nat.lt_succ_self _)]; exact f2
      · have := f1.dM (Ne.symm e) hi hd4 (hd d hd4)
        by_cases e2 : d < i
        · rw [if_pos e2] at this; rw [if_pos (by omega)]; exact this
        · rw [if_neg e2] at this; rw [if_neg (by omega)]; exact this)
    (fun s ⟨R', J, e, m, u, eg, hd⟩ => by
      subst e
      have hn : J (x + 30) 2 = nI 4 := by rw [m.2 30 2 rfl, a7]
      unfold f_X9_putIn_b13
      simp only [kK_sI, kQ_sI, kN_sI, kZ_sI, kI_sI, wI_sI, if_true, Option.bind_some, lt, cK_0 hS, cQ_0_0 hS, cQ_0_1 hS, cQ_0_2 hS, cQ_0_3 hS, cQ_0_4 hS, cQ_0_5 hS, cQ_0_6 hS, cR9_1 hS, cR9_77 hS, cK_30 hS, dl_size (dl_desks hS) hn, if_pos (show nI 4 ≤ nI 4 by decide +kernel)]
      exact ⟨_, rfl, R', J, rfl, m, u, eg, fun d hd4 => by have := hd d hd4; rw [if_pos hd4] at this; exact this⟩)
    0 (0, sI S I1) ⟨R1, I1, by rw [nI_0], m1, u1, fun _ _ => rfl, fun d hd => by rw [if_neg (Nat.not_lt_zero _)]; exact hd1 d hd⟩ (by omega) kF (kF_big (by omega))
  rw [e1]
  simp only [Option.bind_some, kK_sI, cK_0 hS, if_true]
  obtain ⟨I3, g3, m3, u3⟩ := cx_stale hS m2
  rw [g3]
  refine ⟨I3, R2, _, rfl, u2.tr u3, m3, ⟨?_, ?_, ?_, ?_, ?_, ?_, ?_, fun d hd => ?_⟩, cC_stale, by rw [q1 77 (by omega), ← hR1, uR_ne (by decide), uR_ne (by decide), uR_ne (by decide)]⟩
  · rw [q1 1 (by omega), ← hR1, uR_ne (by decide), uR_ne (by decide), uR_ne (by decide)]; exact a1
  · rw [q1 4 (by omega), ← hR1, uR_ne (by decide), uR_ne (by decide), uR_eq]; rfl
  · rw [q1 6 (by omega), ← hR1, uR_ne (by decide), uR_eq]; rfl
  · rw [q1 8 (by omega), ← hR1, uR_eq]; rfl
  · rw [uF_ne (by decide), uF_ne (by decide)]; exact a5
  · rw [uF_ne (by decide), uF_ne (by decide)]; exact a6
  · rw [uF_ne (by decide), uF_ne (by decide)]; exact a7
  · have hl := dO_lt d
    obtain ⟨b1, b2, b3, b4, b5, b6⟩ := q2 d hd
    exact ⟨b1, by rw [uF_ne (by omega), uF_ne (by omega)]; exact b2, by rw [uF_ne (by omega), uF_ne (by omega)]; exact b3, b4, b5, b6⟩
theorem cx_takeOut (hS : cS S x) (hM : cM I x R F) (hT : cT T R F) (hw : wf T) {p : Nat} (hp : p < T.2.1.length) : ∃ J R' F', f_X9_takeOut (sI S I) x (nI p) = some (sI S J, la T.2.1 p) ∧ ou I J x ∧ cM J x R' F' ∧ cT (uTake T p) R' F' ∧ cC (uTake T p) R' F' ∧ R' 77 = R 77 := by
  obtain ⟨a1, a2, a3, a4, a5, a6, a7, a8⟩ := hT
  have hwd := hw.2.2.2.2.2.2.2.2.2.2
  have hw2 := hw.2.1
  unfold f_X9_takeOut
  simp only [kK_sI, kQ_sI, kN_sI, kZ_sI, kI_sI, wI_sI, if_true, Option.bind_some, lt, cK_0 hS, cQ_0_0 hS, cQ_0_1 hS, cQ_0_2 hS, cQ_0_3 hS, cQ_0_4 hS, cQ_0_5 hS, cQ_0_6 hS, cR9_1 hS, cR9_77 hS, cK_3 hS]
  obtain ⟨I1, g1, m1, u1⟩ := cx_tRemove hS hM hw a2 a3 a4 hp
  rw [g1]
  simp only [Option.bind_some]
  generalize hR1 : uR (uR (uR R 4 (T.2.1.eraseIdx p)) 6 (T.2.2.1.eraseIdx p)) 8 (mkT T.2.2.2.1 T.2.1 p) = R1 at m1
  have hd1 : ∀ d, d < 4 → dM R1 F d (T.2.2.2.2.2.2 d) := by
    intro d hd
    have hl := dO_lt d
    obtain ⟨b1, b2, b3, b4, b5, b6⟩ := a8 d hd
    subst hR1
    refine ⟨?_, b2, b3, ?_, ?_, ?_⟩ <;> rw [uR_ne (by omega), uR_ne (by omega), uR_ne (by omega)] <;> assumption
  obtain ⟨z, e1, R2, J2, rfl, m2, u2, q1, q2⟩ := it_up (b := fun (v : Int32 × PS) => f_X9_takeOut_b11 x (nI p) v.1 v.2) 4
    (P := fun i s => ∃ R' J, s = (nI i, sI S J) ∧ cM J x R' F ∧ ou I J x ∧ eG R1 R' ∧ ∀ d, d < 4 → dM R' F d (if d < i then uG (T.2.2.2.2.2.2 d) ((T.2.2.2.2.2.2 d).2.2.2.filterMap (fT p)) else T.2.2.2.2.2.2 d))
    (Q := fun z => ∃ R' J, z = sI S J ∧ cM J x R' F ∧ ou I J x ∧ eG R1 R' ∧ ∀ d, d < 4 → dM R' F d (uG (T.2.2.2.2.2.2 d) ((T.2.2.2.2.2.2 d).2.2.2.filterMap (fT p))))
    (fun i s hi ⟨R', J, e, m, u, eg, hd⟩ => by
      subst e
      have hi3 : i < 2 ^ 31 := by omega
      have hn : J (x + 30) 2 = nI 4 := by rw [m.2 30 2 rfl, a7]
      have hk := hd i hi
      rw [if_neg (Nat.lt_irrefl _)] at hk
      obtain ⟨wd, wg⟩ := hwd i hi
      unfold f_X9_takeOut_b11
      simp only [kK_sI, kQ_sI, kN_sI, kZ_sI, kI_sI, wI_sI, if_true, Option.bind_some, lt, cK_0 hS, cQ_0_0 hS, cQ_0_1 hS, cQ_0_2 hS, cQ_0_3 hS, cQ_0_4 hS, cQ_0_5 hS, cQ_0_6 hS, cR9_1 hS, cR9_77 hS, cK_30 hS, dl_size (dl_desks hS) hn, nI_leI (show 4 < 2 ^ 31 by decide) hi3, if_neg (show ¬ 4 ≤ i by omega), dl_get (dl_desks hS) hn hi, cK_d hS hi, nI_1]
      obtain ⟨R2, ⟨J2, g2, m2, u2⟩, f1, f2⟩ := cd_followTake hS m hi hk wd.2.2.2.1 (fun g hg => by have := wg g hg; omega) (p := p) (by omega)
      rw [g2]
      refine Or.inl ⟨_, rfl, R2, J2, rfl, m2, u.tr u2, eg.tr f1.g, fun d hd4 => ?_⟩
      by_cases e : d = i
      · subst e; rw [if_pos (Nat.lt_succ_self _)]; exact f2
      · have := f1.dM (Ne.symm e) hi hd4 (hd d hd4)
        by_cases e2 : d < i
        · rw [if_pos e2] at this; rw [if_pos (by omega)]; exact this
        · rw [if_neg e2] at this; rw [if_neg (by omega)]; exact this)
    (fun s ⟨R', J, e, m, u, eg, hd⟩ => by
      subst e
      have hn : J (x + 30) 2 = nI 4 := by rw [m.2 30 2 rfl, a7]
      unfold f_X9_takeOut_b11
      simp only [kK_sI, kQ_sI, kN_sI, kZ_sI, kI_sI, wI_sI, if_true, Option.bind_some, lt, cK_0 hS, cQ_0_0 hS, cQ_0_1 hS, cQ_0_2 hS, cQ_0_3 hS, cQ_0_4 hS, cQ_0_5 hS, cQ_0_6 hS, cR9_1 hS, cR9_77 hS, cK_30 hS, dl_size (dl_desks hS) hn, if_pos (show nI 4 ≤ nI 4 by decide +kernel)]
      exact ⟨_, rfl, R', J, rfl, m, u, eg, fun d hd4 => by have := hd d hd4; rw [if_pos hd4] at this; exact this⟩)
    0 (0, sI S I1) ⟨R1, I1, by rw [nI_0], m1, u1, fun _ _ => rfl, fun d hd => by rw [if_neg (Nat.not_lt_zero _)]; exact hd1 d hd⟩ (by omega) kF (kF_big (by omega))
  rw [e1]
  simp only [Option.bind_some, kK_sI, cK_0 hS, if_true]
  obtain ⟨I3, g3, m3, u3⟩ := cx_stale hS m2
  rw [g3]
  simp only [Option.bind_some, if_pos (char_id (Or.inl (hw.2.2.1 p hp))).2]
  refine ⟨I3, R2, _, rfl, u2.tr u3, m3, ⟨?_, ?_, ?_, ?_, ?_, ?_, ?_, fun d hd => ?_⟩, cC_stale, by rw [q1 77 (by omega), ← hR1, uR_ne (by decide), uR_ne (by decide), uR_ne (by decide)]⟩
  · rw [q1 1 (by omega), ← hR1, uR_ne (by decide), uR_ne (by decide), uR_ne (by decide)]; exact a1
  · rw [q1 4 (by omega), ← hR1, uR_ne (by decide), uR_ne (by decide), uR_eq]; rfl
  · rw [q1 6 (by omega), ← hR1, uR_ne (by decide), uR_eq]; rfl
  · rw [q1 8 (by omega), ← hR1, uR_eq]; rfl
  · rw [uF_ne (by decide), uF_ne (by decide)]; exact a5
  · rw [uF_ne (by decide), uF_ne (by decide)]; exact a6
  · rw [uF_ne (by decide), uF_ne (by decide)]; exact a7
  · have hl := dO_lt d
    obtain ⟨b1, b2, b3, b4, b5, b6⟩ := q2 d hd
    exact ⟨b1, by rw [uF_ne (by omega), uF_ne (by omega)]; exact b2, by rw [uF_ne (by omega), uF_ne (by omega)]; exact b3, b4, b5, b6⟩
end
