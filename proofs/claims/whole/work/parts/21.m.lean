/-! the constructors of Text, Tokens, Findings, Desk, Book -/
theorem x7_init {S : PS} {I : Nat → Nat → Int32} (hg : gI S) {a : Nat} (ha : kK S a = 11) : ∃ I', f_X7_init (sI S I) a = some (sI (rb S a [(0, 160), (1, 160), (2, 161)]) I') ∧ In S I I' ∧ rL I' (kZ S) [] ∧ rL I' (kZ S + 2) [] ∧ rL I' (kZ S + 4) [15] := by
  have hlt := hg.1.lt (show kK S a ≠ 0 by rw [ha]; decide)
  obtain ⟨q1, q2, q3, q4⟩ := rb_ok a 11 (by decide) (by decide) (by decide) (by decide) [(0, 160), (1, 160), (2, 161)] S 0 hg ha (by decide) (fun i p hp => by match i, hp with | 0, hp => (cases hp; rfl) | 1, hp => (cases hp; rfl) | 2, hp => (cases hp; rfl))
  unfold f_X7_init
  rw [show (160 : Int32) = nI 160 from rfl, show (161 : Int32) = nI 161 from rfl]
  simp only [lt]
  obtain ⟨I1, e1, t1, w1, r1, i1⟩ := st_row (I := I) hg ha (by decide) 0 (n := 160) (by decide)
  rw [e1]
  simp only [Option.bind_some, kK_sI, t1, if_true, w1]
  have g1 := gI_oR (j := 0) (c := 160) hg ha (by decide) (by decide) (by decide)
  have k1 : kK (oR S a 0 160) a = 11 := (kK_oR (hg.1.lt (by rw [ha]; decide))).trans ha
  obtain ⟨I2, e2, t2, w2, r2, i2⟩ := st_row (I := I1) g1 k1 (by decide) 1 (n := 160) (by decide)
  rw [e2]
  simp only [Option.bind_some, kK_sI, t2, if_true, w2]
  have g2 := gI_oR (j := 1) (c := 160) g1 k1 (by decide) (by decide) (by decide)
  have k2 : kK (oR (oR S a 0 160) a 1 160) a = 11 := (kK_oR (g1.1.lt (by rw [k1]; decide))).trans k1
  obtain ⟨I3, e3, t3, w3, r3, i3⟩ := st_row (I := I2) g2 k2 (by decide) 2 (n := 161) (by decide)
  rw [e3]
  simp only [Option.bind_some, kK_sI, t3, if_true, w3]
  have g3 := gI_oR (j := 2) (c := 161) g2 k2 (by decide) (by decide) (by decide)
  have k3 : kK (oR (oR (oR S a 0 160) a 1 160) a 2 161) a = 11 := (kK_oR (g2.1.lt (by rw [k2]; decide))).trans k2
  have hb : (oR (oR (oR S a 0 160) a 1 160) a 2 161) = rb S a [(0, 160), (1, 160), (2, 161)] := rfl
  rw [hb]
  have k9 : kK (rb S a [(0, 160), (1, 160), (2, 161)]) a = 11 := k3
  obtain ⟨rs, rq⟩ := q4 2 (2, 161) rfl
  simp only [kK_sI, kQ_sI, k9, rq, rs.1, if_true, Option.bind_some]
  obtain ⟨I4, e4, r4, f4⟩ := rw_add (I := I3) rs r3 (by decide) 15
  rw [e4]
  have z1 : kZ (oR S a 0 160) = kZ S + 2 := rfl
  have z2 : kZ (oR (oR S a 0 160) a 1 160) = kZ S + 4 := rfl
  have fi : ∀ b i, b < kZ S + 4 → I4 b i = I3 b i := fun b i hb => f4 b i (by omega) (by omega)
  refine ⟨I4, rfl, fun b i hb => ?_, ⟨?_, fun j hj => absurd hj (Nat.not_lt_zero _)⟩, ⟨?_, fun j hj => absurd hj (Nat.not_lt_zero _)⟩, r4⟩
  · rw [fi b i (by omega), i3 b i (by omega), i2 b i (by omega), i1 b i hb]
  · rw [fi _ _ (by omega), i3 _ _ (by omega), i2 _ _ (by omega)]; exact r1.1
  · rw [fi _ _ (by omega), i3 _ _ (by omega)]; exact r2.1
theorem x8_init {S : PS} {I : Nat → Nat → Int32} (hg : gI S) {a b : Nat} (ha : kK S a = 12) (hb : b < kZ S) : ∃ I', f_X8_init (sI S I) a b = some (sI (rb (wQ S a 0 (some b)) a [(1, 160), (2, 160), (3, 160), (4, 160), (5, 160), (6, 160), (7, 160)]) I') ∧ (∀ c i, c < kZ S → c ≠ a → I' c i = I c i) ∧ (∀ i, i < 7 → rL I' (kZ S + 2 * i) []) ∧ I' a 8 = 0 ∧ I' a 9 = 1 ∧ I' a 10 = -1 := by
  have hlt := hg.1.lt (show kK S a ≠ 0 by rw [ha]; decide)
  have g0 := hg.set (a := a) (j := 0) (b := b) (by rw [ha]; decide) (by rw [ha]; decide) (by rw [ha]; decide) hb
  have k0 : kK (wQ S a 0 (some b)) a = 12 := ha
  unfold f_X8_init
  rw [show (160 : Int32) = nI 160 from rfl]
  simp only [lt, kK_sI, ha, if_true, wQ_sI]
  obtain ⟨I1, e1, t1, w1, r1, i1⟩ := st_row (I := I) g0 k0 (by decide) 1 (n := 160) (by decide)
  rw [e1]
  simp only [Option.bind_some, kK_sI, t1, if_true, w1]
  have g1 := gI_oR (j := 1) (c := 160) g0 k0 (by decide) (by decide) (by decide)
  have k1 : kK (oR (wQ S a 0 (some b)) a 1 160) a = 12 := (kK_oR (g0.1.lt (by rw [k0]; decide))).trans k0
  obtain ⟨I2, e2, t2, w2, r2, i2⟩ := st_row (I := I1) g1 k1 (by decide) 2 (n := 160) (by decide)
  rw [e2]
  simp only [Option.bind_some, kK_sI, t2, if_true, w2]
  have g2 := gI_oR (j := 2) (c := 160) g1 k1 (by decide) (by decide) (by decide)
  have k2 : kK (oR (oR (wQ S a 0 (some b)) a 1 160) a 2 160) a = 12 := (kK_oR (g1.1.lt (by rw [k1]; decide))).trans k1
  obtain ⟨I3, e3, t3, w3, r3, i3⟩ := st_row (I := I2) g2 k2 (by decide) 3 (n := 160) (by decide)
  rw [e3]
  simp only [Option.bind_some, kK_sI, t3, if_true, w3]
  have g3 := gI_oR (j := 3) (c := 160) g2 k2 (by decide) (by decide) (by decide)
  have k3 : kK (oR (oR (oR (wQ S a 0 (some b)) a 1 160) a 2 160) a 3 160) a = 12 := (kK_oR (g2.1.lt (by rw [k2]; decide))).trans k2
  obtain ⟨I4, e4, t4, w4, r4, i4⟩ := st_row (I := I3) g3 k3 (by decide) 4 (n := 160) (by decide)
  rw [e4]
  simp only [Option.bind_some, kK_sI, t4, if_true, w4]
  have g4 := gI_oR (j := 4) (c := 160) g3 k3 (by decide) (by decide) (by decide)
  have k4 : kK (oR (oR (oR (oR (wQ S a 0 (some b)) a 1 160) a 2 160) a 3 160) a 4 160) a = 12 := (kK_oR (g3.1.lt (by rw [k3]; decide))).trans k3
  obtain ⟨I5, e5, t5, w5, r5, i5⟩ := st_row (I := I4) g4 k4 (by decide) 5 (n := 160) (by decide)
  rw [e5]
  simp only [Option.bind_some, kK_sI, t5, if_true, w5]
  have g5 := gI_oR (j := 5) (c := 160) g4 k4 (by decide) (by decide) (by decide)
  have k5 : kK (oR (oR (oR (oR (oR (wQ S a 0 (some b)) a 1 160) a 2 160) a 3 160) a 4 160) a 5 160) a = 12 := (kK_oR (g4.1.lt (by rw [k4]; decide))).trans k4
  obtain ⟨I6, e6, t6, w6, r6, i6⟩ := st_row (I := I5) g5 k5 (by decide) 6 (n := 160) (by decide)
  rw [e6]
  simp only [Option.bind_some, kK_sI, t6, if_true, w6]
  have g6 := gI_oR (j := 6) (c := 160) g5 k5 (by decide) (by decide) (by decide)
  have k6 : kK (oR (oR (oR (oR (oR (oR (wQ S a 0 (some b)) a 1 160) a 2 160) a 3 160) a 4 160) a 5 160) a 6 160) a = 12 := (kK_oR (g5.1.lt (by rw [k5]; decide))).trans k5
  obtain ⟨I7, e7, t7, w7, r7, i7⟩ := st_row (I := I6) g6 k6 (by decide) 7 (n := 160) (by decide)
  rw [e7]
  simp only [Option.bind_some, kK_sI, t7, if_true, w7]
  have g7 := gI_oR (j := 7) (c := 160) g6 k6 (by decide) (by decide) (by decide)
  have k7 : kK (oR (oR (oR (oR (oR (oR (oR (wQ S a 0 (some b)) a 1 160) a 2 160) a 3 160) a 4 160) a 5 160) a 6 160) a 7 160) a = 12 := (kK_oR (g6.1.lt (by rw [k6]; decide))).trans k6
  have hb9 : (oR (oR (oR (oR (oR (oR (oR (wQ S a 0 (some b)) a 1 160) a 2 160) a 3 160) a 4 160) a 5 160) a 6 160) a 7 160) = rb (wQ S a 0 (some b)) a [(1, 160), (2, 160), (3, 160), (4, 160), (5, 160), (6, 160), (7, 160)] := rfl
  rw [hb9]
  have k9 : kK (rb (wQ S a 0 (some b)) a [(1, 160), (2, 160), (3, 160), (4, 160), (5, 160), (6, 160), (7, 160)]) a = 12 := k7
  simp only [kK_sI, k9, if_true, wI_sI]
  have z0 : kZ (wQ S a 0 (some b)) = kZ S + 0 := rfl
  have z1 : kZ (oR (wQ S a 0 (some b)) a 1 160) = kZ S + 2 := rfl
  have z2 : kZ (oR (oR (wQ S a 0 (some b)) a 1 160) a 2 160) = kZ S + 4 := rfl
  have z3 : kZ (oR (oR (oR (wQ S a 0 (some b)) a 1 160) a 2 160) a 3 160) = kZ S + 6 := rfl
  have z4 : kZ (oR (oR (oR (oR (wQ S a 0 (some b)) a 1 160) a 2 160) a 3 160) a 4 160) = kZ S + 8 := rfl
  have z5 : kZ (oR (oR (oR (oR (oR (wQ S a 0 (some b)) a 1 160) a 2 160) a 3 160) a 4 160) a 5 160) = kZ S + 10 := rfl
  have z6 : kZ (oR (oR (oR (oR (oR (oR (wQ S a 0 (some b)) a 1 160) a 2 160) a 3 160) a 4 160) a 5 160) a 6 160) = kZ S + 12 := rfl
  have z7 : kZ (oR (oR (oR (oR (oR (oR (oR (wQ S a 0 (some b)) a 1 160) a 2 160) a 3 160) a 4 160) a 5 160) a 6 160) a 7 160) = kZ S + 14 := rfl
  have up3 : ∀ c i, c ≠ a → up (up (up I7 a 8 0) a 9 1) a 10 (-1) c i = I7 c i := fun c i hc => by rw [up_ne (Or.inl hc), up_ne (Or.inl hc), up_ne (Or.inl hc)]
  refine ⟨_, rfl, fun c i hc hca => ?_, fun i hi => ⟨?_, fun j hj => absurd hj (Nat.not_lt_zero _)⟩, ?_, ?_, ?_⟩
  · rw [up3 c i hca, i7 c i (by omega), i6 c i (by omega), i5 c i (by omega), i4 c i (by omega), i3 c i (by omega), i2 c i (by omega), i1 c i (by omega)]
  · rw [up3 _ _ (by omega)]
    have cs : i = 0 ∨ i = 1 ∨ i = 2 ∨ i = 3 ∨ i = 4 ∨ i = 5 ∨ i = 6 := by omega
    rcases cs with rfl | rfl | rfl | rfl | rfl | rfl | rfl
    · rw [i7 _ _ (by omega), i6 _ _ (by omega), i5 _ _ (by omega), i4 _ _ (by omega), i3 _ _ (by omega), i2 _ _ (by omega)]; exact r1.1
    · rw [i7 _ _ (by omega), i6 _ _ (by omega), i5 _ _ (by omega), i4 _ _ (by omega), i3 _ _ (by omega)]; exact r2.1
    · rw [i7 _ _ (by omega), i6 _ _ (by omega), i5 _ _ (by omega), i4 _ _ (by omega)]; exact r3.1
    · rw [i7 _ _ (by omega), i6 _ _ (by omega), i5 _ _ (by omega)]; exact r4.1
    · rw [i7 _ _ (by omega), i6 _ _ (by omega)]; exact r5.1
    · rw [i7 _ _ (by omega)]; exact r6.1
    · exact r7.1
  · rw [up_ne (Or.inr (by decide)), up_ne (Or.inr (by decide)), up_eq]
  · rw [up_ne (Or.inr (by decide)), up_eq]
  · rw [up_eq]
theorem x2_init {S : PS} {I : Nat → Nat → Int32} (hg : gI S) {a b c : Nat} (ha : kK S a = 6) (hb : b < kZ S) (hc : c < kZ S) : ∃ I', f_X2_init (sI S I) a b c = some (sI (rb (wQ (wQ S a 0 (some b)) a 1 (some c)) a [(2, 160), (3, 160), (4, 160), (5, 160)]) I') ∧ In S I I' ∧ ∀ i, i < 4 → rL I' (kZ S + 2 * i) [] := by
  have hlt := hg.1.lt (show kK S a ≠ 0 by rw [ha]; decide)
  have g0 := (hg.set (a := a) (j := 0) (b := b) (by rw [ha]; decide) (by rw [ha]; decide) (by rw [ha]; decide) hb).set (a := a) (j := 1) (b := c) (by rw [kK_wQ, ha]; decide) (by rw [kK_wQ, ha]; decide) (by rw [kK_wQ, ha]; decide) hc
  have k00 : kK (wQ S a 0 (some b)) a = 6 := ha
  have k0 : kK (wQ (wQ S a 0 (some b)) a 1 (some c)) a = 6 := ha
  unfold f_X2_init
  rw [show (160 : Int32) = nI 160 from rfl]
  simp only [lt, kK_sI, ha, if_true, wQ_sI, k00]
  obtain ⟨I1, e1, t1, w1, r1, i1⟩ := st_row (I := I) g0 k0 (by decide) 2 (n := 160) (by decide)
  rw [e1]
  simp only [Option.bind_some, kK_sI, t1, if_true, w1]
  have g1 := gI_oR (j := 2) (c := 160) g0 k0 (by decide) (by decide) (by decide)
  have k1 : kK (oR (wQ (wQ S a 0 (some b)) a 1 (some c)) a 2 160) a = 6 := (kK_oR (g0.1.lt (by rw [k0]; decide))).trans k0
  obtain ⟨I2, e2, t2, w2, r2, i2⟩ := st_row (I := I1) g1 k1 (by decide) 3 (n := 160) (by decide)
  rw [e2]
  simp only [Option.bind_some, kK_sI, t2, if_true, w2]
  have g2 := gI_oR (j := 3) (c := 160) g1 k1 (by decide) (by decide) (by decide)
  have k2 : kK (oR (oR (wQ (wQ S a 0 (some b)) a 1 (some c)) a 2 160) a 3 160) a = 6 := (kK_oR (g1.1.lt (by rw [k1]; decide))).trans k1
  obtain ⟨I3, e3, t3, w3, r3, i3⟩ := st_row (I := I2) g2 k2 (by decide) 4 (n := 160) (by decide)
  rw [e3]
  simp only [Option.bind_some, kK_sI, t3, if_true, w3]
  have g3 := gI_oR (j := 4) (c := 160) g2 k2 (by decide) (by decide) (by decide)
  have k3 : kK (oR (oR (oR (wQ (wQ S a 0 (some b)) a 1 (some c)) a 2 160) a 3 160) a 4 160) a = 6 := (kK_oR (g2.1.lt (by rw [k2]; decide))).trans k2
  obtain ⟨I4, e4, t4, w4, r4, i4⟩ := st_row (I := I3) g3 k3 (by decide) 5 (n := 160) (by decide)
  rw [e4]
  simp only [Option.bind_some, kK_sI, t4, if_true, w4]
  have g4 := gI_oR (j := 5) (c := 160) g3 k3 (by decide) (by decide) (by decide)
  have k4 : kK (oR (oR (oR (oR (wQ (wQ S a 0 (some b)) a 1 (some c)) a 2 160) a 3 160) a 4 160) a 5 160) a = 6 := (kK_oR (g3.1.lt (by rw [k3]; decide))).trans k3
  have hb9 : (oR (oR (oR (oR (wQ (wQ S a 0 (some b)) a 1 (some c)) a 2 160) a 3 160) a 4 160) a 5 160) = rb (wQ (wQ S a 0 (some b)) a 1 (some c)) a [(2, 160), (3, 160), (4, 160), (5, 160)] := rfl
  rw [hb9]
  have z0 : kZ (wQ (wQ S a 0 (some b)) a 1 (some c)) = kZ S + 0 := rfl
  have z1 : kZ (oR (wQ (wQ S a 0 (some b)) a 1 (some c)) a 2 160) = kZ S + 2 := rfl
  have z2 : kZ (oR (oR (wQ (wQ S a 0 (some b)) a 1 (some c)) a 2 160) a 3 160) = kZ S + 4 := rfl
  have z3 : kZ (oR (oR (oR (wQ (wQ S a 0 (some b)) a 1 (some c)) a 2 160) a 3 160) a 4 160) = kZ S + 6 := rfl
  have z4 : kZ (oR (oR (oR (oR (wQ (wQ S a 0 (some b)) a 1 (some c)) a 2 160) a 3 160) a 4 160) a 5 160) = kZ S + 8 := rfl
  refine ⟨_, rfl, fun c i hc => ?_, fun i hi => ⟨?_, fun j hj => absurd hj (Nat.not_lt_zero _)⟩⟩
  · rw [i4 c i (by omega), i3 c i (by omega), i2 c i (by omega), i1 c i (by omega)]
  · have cs : i = 0 ∨ i = 1 ∨ i = 2 ∨ i = 3 := by omega
    rcases cs with rfl | rfl | rfl | rfl
    · rw [i4 _ _ (by omega), i3 _ _ (by omega), i2 _ _ (by omega)]; exact r1.1
    · rw [i4 _ _ (by omega), i3 _ _ (by omega)]; exact r2.1
    · rw [i4 _ _ (by omega)]; exact r3.1
    · exact r4.1
theorem x1_init {S : PS} {I : Nat → Nat → Int32} (hg : gI S) {a : Nat} (ha : kK S a = 5) : ∃ I', f_X1_init (sI S I) a = some (sI (rb S a [(0, 12), (1, 20), (2, 20), (3, 20)]) I') ∧ (∀ c i, c < kZ S → c ≠ a → I' c i = I c i) ∧ rL I' (kZ S) (List.replicate 12 0) ∧ rL I' (kZ S + 2) [] ∧ rL I' (kZ S + 4) [] ∧ rL I' (kZ S + 6) [] ∧ I' a 4 = 0 ∧ I' a 5 = 0 := by
  have hlt := hg.1.lt (show kK S a ≠ 0 by rw [ha]; decide)
  unfold f_X1_init
  rw [show (12 : Int32) = nI 12 from rfl, show (20 : Int32) = nI 20 from rfl]
  simp only [lt]
  obtain ⟨I1, e1, t1, w1, r1, i1⟩ := st_row (I := I) hg ha (by decide) 0 (n := 12) (by decide)
  rw [e1]
  have g1 := gI_oR (j := 0) (c := 12) hg ha (by decide) (by decide) (by decide)
  have k1 : kK (oR S a 0 12) a = 5 := (kK_oR hlt).trans ha
  have q1 : kQ (oR S a 0 12) a 0 = some (kZ S) := by rw [kQ_oR hlt, if_pos ⟨rfl, rfl⟩]
  have s1 : rS (oR S a 0 12) (kZ S) 12 := rS_oR hlt (by decide)
  simp only [Option.bind_some, kK_sI, t1, if_true, w1, k1, kQ_sI, q1, s1.1]
  obtain ⟨J, ej, rj, fj⟩ := rw_reset (I := I1) s1 (n := 12) (Nat.le_refl _)
  rw [ej]
  simp only [Option.bind_some]
  obtain ⟨I2, e2, t2, w2, r2, i2⟩ := st_row (I := J) g1 k1 (by decide) 1 (n := 20) (by decide)
  rw [e2]
  simp only [Option.bind_some, kK_sI, t2, if_true, w2]
  have g2 := gI_oR (j := 1) (c := 20) g1 k1 (by decide) (by decide) (by decide)
  have k2 : kK (oR (oR S a 0 12) a 1 20) a = 5 := (kK_oR (g1.1.lt (by rw [k1]; decide))).trans k1
  obtain ⟨I3, e3, t3, w3, r3, i3⟩ := st_row (I := I2) g2 k2 (by decide) 2 (n := 20) (by decide)
  rw [e3]
  simp only [Option.bind_some, kK_sI, t3, if_true, w3]
  have g3 := gI_oR (j := 2) (c := 20) g2 k2 (by decide) (by decide) (by decide)
  have k3 : kK (oR (oR (oR S a 0 12) a 1 20) a 2 20) a = 5 := (kK_oR (g2.1.lt (by rw [k2]; decide))).trans k2
  obtain ⟨I4, e4, t4, w4, r4, i4⟩ := st_row (I := I3) g3 k3 (by decide) 3 (n := 20) (by decide)
  rw [e4]
  simp only [Option.bind_some, kK_sI, t4, if_true, w4]
  have g4 := gI_oR (j := 3) (c := 20) g3 k3 (by decide) (by decide) (by decide)
  have k4 : kK (oR (oR (oR (oR S a 0 12) a 1 20) a 2 20) a 3 20) a = 5 := (kK_oR (g3.1.lt (by rw [k3]; decide))).trans k3
  have hb9 : (oR (oR (oR (oR S a 0 12) a 1 20) a 2 20) a 3 20) = rb S a [(0, 12), (1, 20), (2, 20), (3, 20)] := rfl
  rw [hb9]
  have k9 : kK (rb S a [(0, 12), (1, 20), (2, 20), (3, 20)]) a = 5 := k4
  simp only [kK_sI, k9, if_true, wI_sI]
  have z1 : kZ (oR S a 0 12) = kZ S + 2 := rfl
  have z2 : kZ (oR (oR S a 0 12) a 1 20) = kZ S + 4 := rfl
  have z3 : kZ (oR (oR (oR S a 0 12) a 1 20) a 2 20) = kZ S + 6 := rfl
  have z4 : kZ (oR (oR (oR (oR S a 0 12) a 1 20) a 2 20) a 3 20) = kZ S + 8 := rfl
  have up3 : ∀ c i, c ≠ a → up (up I4 a 4 0) a 5 0 c i = I4 c i := fun c i hc => by rw [up_ne (Or.inl hc), up_ne (Or.inl hc)]
  have jj : ∀ c i, c < kZ S + 2 → up (up I4 a 4 0) a 5 0 c i = if c = a then up (up I4 a 4 0) a 5 0 c i else J c i := fun c i hc => by
    by_cases e : c = a
    · rw [if_pos e]
    · rw [if_neg e, up3 c i e, i4 c i (by omega), i3 c i (by omega), i2 c i (by omega)]
  refine ⟨_, rfl, fun c i hc hca => ?_, ⟨?_, fun j hj => ?_⟩, ⟨?_, fun j hj => absurd hj (Nat.not_lt_zero _)⟩, ⟨?_, fun j hj => absurd hj (Nat.not_lt_zero _)⟩, ⟨?_, fun j hj => absurd hj (Nat.not_lt_zero _)⟩, ?_, ?_⟩
  · rw [jj c i (by omega), if_neg hca, fj c i (by omega) (by omega), i1 c i hc]
  · rw [jj _ _ (by omega), if_neg (by omega)]; exact rj.1
  · rw [jj _ _ (by omega), if_neg (by omega)]; exact rj.2 j hj
  · rw [up3 _ _ (by omega), i4 _ _ (by omega), i3 _ _ (by omega)]; exact r2.1
  · rw [up3 _ _ (by omega), i4 _ _ (by omega)]; exact r3.1
  · rw [up3 _ _ (by omega)]; exact r4.1
  · rw [up_ne (Or.inr (by decide)), up_eq]
  · rw [up_eq]
