/-! the desks -/
section
variable {A : PS} {J : Nat → Nat → Int32} {x : Nat} {ks : List Nat} {qs : List (Nat × Nat)} {rs : List Nat} {is : List (Nat × Nat)} {ls : List Nat}
theorem s_desk {n : Nat} (hg : gI A) (hx : kK A x = 13) (hz : kZ A = x + n) (hp : pS A J x ks qs rs is ls) (hn : 30 < n) (hk : kT n = 5) (hq : ∀ i, i < 4 → qT n i = n + 1 + 2 * i) (hc0 : capT (n + 1) = 12) (hci : ∀ i, i < 4 → 0 < i → capT (n + 1 + 2 * i) = 20) (hr0 : r0 (n + 1) = List.replicate 12 0) (hri : ∀ i, i < 4 → 0 < i → r0 (n + 1 + 2 * i) = []) (hc1 : ck n n n 0 ks qs rs is ls = true) (hc2 : ck (n + 1) n n 0 (n :: ks) qs rs is ls = true) : ∃ B J', f_X1_init (wN (sI A J) 5 0) (kZ (sI A J)) = some (sI B J') ∧ kZ (sI A J) = x + n ∧ gI B ∧ kK B x = 13 ∧ kZ B = x + (n + 9) ∧ kK B (x + n) = 5 ∧ Xn A B ∧ In A J J' ∧ pS B J' x (n :: ks) ([(n, 0), (n, 1), (n, 2), (n, 3)] ++ qs) ([n + 1, n + 3, n + 5, n + 7] ++ rs) ((n, 5) :: (n, 4) :: is) ls := by
  obtain ⟨g1, z1, k1, m1, p1⟩ := hp.wn hg hx hz (n := n) (K := 5) hk (by omega) hc1
  rw [kZ_sI, wN_sI, hz]
  obtain ⟨J', e, i, r1, r2, r3, r4, i4, i5⟩ := x1_init (I := nz J (x + n)) g1 m1
  obtain ⟨b1, b2, b3, b4⟩ := p1.rb (K := 5) (j0 := 0) (fs := [(0, 12), (1, 20), (2, 20), (3, 20)]) (I' := J') g1 m1 (by decide) z1 (by omega) (by decide) (fun i p h => by
    match i, h with
    | 0, h => cases h; exact ⟨rfl, hq 0 (by decide), hc0⟩
    | 1, h => cases h; exact ⟨rfl, hq 1 (by decide), hci 1 (by decide) (by decide)⟩
    | 2, h => cases h; exact ⟨rfl, hq 2 (by decide), hci 2 (by decide) (by decide)⟩
    | 3, h => cases h; exact ⟨rfl, hq 3 (by decide), hci 3 (by decide) (by decide)⟩) hc2 (fun c v h => i c v (by omega) (by omega)) (fun i hi => by
    match i, hi with
    | 0, _ => rw [show r0 (n + 1 + 2 * 0) = List.replicate 12 0 from hr0]; exact r1
    | 1, _ => rw [hri 1 (by decide) (by decide)]; exact r2
    | 2, _ => rw [hri 2 (by decide) (by decide)]; exact r3
    | 3, _ => rw [hri 3 (by decide) (by decide)]; exact r4)
  refine ⟨_, J', e, rfl, b1, (b3.2 x (by omega)).1.trans k1, b2, (b3.2 (x + n) (by omega)).1.trans m1, Xo.n Xn_wN b3 (by omega), fun c v h => ?_, (b4.i (k := n) (j := 4) i4).i (k := n) (j := 5) i5⟩
  rw [i c v (by omega) (by omega), nz_ne (by omega)]
theorem s_adB {e0 : Nat} (hg : gI A) (hx : kK A x = 13) (hz : kZ A = x + 40) (hp : pS A J x ks qs rs is ls) (h30 : kK A (x + 30) = 3) (h31 : kK A (x + 31) = 5) (he1 : kQ A (x + 30) 1 = some e0) (he2 : kK A e0 = 105) (he3 : kN A e0 = 0) (he4 : kQ A 0 0 = some e0) (hsz : J (x + 30) 2 = nI 0) (hc1 : ck 40 40 40 0 ks qs rs is ls = true) (hc2 : ck 41 40 30 1 (40 :: ks) qs rs is ls = true) (hc3 : ck 41 40 40 0 (40 :: ks) ((30, 1) :: qs) rs is ls = true) : ∃ B J', f_Jx4a65c_add_9ea2d (sI A J) (x + 30) (x + 31) = some (sI B J', 1) ∧ gI B ∧ kK B x = 13 ∧ kZ B = x + 41 ∧ kN B (x + 40) = 10 ∧ J' (x + 30) 2 = nI 1 ∧ pS B J' x (40 :: ks) ((40, 0) :: (30, 1) :: qs) rs is ls := by
  have e := ls_addB (I := J) hg.1 h30 he1 he2 he3 he4 hsz (b := x + 31) (Or.inl h31)
  rw [hz] at e
  have g1 := hg.grow (n := 10) h30
  rw [hz] at g1
  have hx1 : kK (wN A 104 10) x = 13 := by rw [kK_wN, if_neg (by omega)]; exact hx
  have h30' : kK (wQ (wN A 104 10) (x + 30) 1 (some (x + 40))) (x + 30) = 3 := by rw [kK_wQ, kK_wN, if_neg (by omega)]; exact h30
  have h31' : kK (wQ (wN A 104 10) (x + 30) 1 (some (x + 40))) (x + 31) = 5 := by rw [kK_wQ, kK_wN, if_neg (by omega)]; exact h31
  have h40' : kK (wQ (wN A 104 10) (x + 30) 1 (some (x + 40))) (x + 40) = 104 := by rw [kK_wQ, kK_wN, if_pos hz.symm]
  have q40 : kQ (wQ (wN A 104 10) (x + 30) 1 (some (x + 40))) (x + 30) 1 = some (x + 40) := by rw [kQ_wQ, if_pos ⟨rfl, rfl⟩]
  have g2 := g1.add (n := 0) (b := x + 31) h30' q40 h40' (by rw [h31']; decide)
  have z1 : kZ (wN A 104 10) = x + 41 := by rw [kZ_wN]; omega
  have p1 := (hp.o (a := 40) (j := 0) (I' := up (nz (up J (x + 30) 0 (J (x + 30) 0 + 1)) (x + 40)) (x + 30) 2 (nI 1)) hg.1 ((Xn_wN (kd := 104) (n := 10)).o _ _) (by omega) (by omega) hc1 (fun c v h h3 => by rw [up_ne (Or.inl h3), nz_ne (by omega), up_ne (Or.inl h3)])).k (k := 40) (by rw [kK_wN, if_pos hz.symm]; rfl)
  have gw := hg.new 104 10 (Or.inr trivial)
  have p2 := (p1.o (a := 30) (j := 1) (I' := up (nz (up J (x + 30) 0 (J (x + 30) 0 + 1)) (x + 40)) (x + 30) 2 (nI 1)) gw.1 (Xo_wQ _ _ _ (some (x + 40))) (by omega) (by omega) hc2 (fun c v h h3 => rfl)).q (k := 30) (j := 1) q40
  have p3 := (p2.o (a := 40) (j := 0) (I' := up (nz (up J (x + 30) 0 (J (x + 30) 0 + 1)) (x + 40)) (x + 30) 2 (nI 1)) g1.1 (Xo_wQ _ _ _ (some (x + 31))) (by omega) (by rw [kZ_wQ]; omega) hc3 (fun c v h h3 => rfl)).q (k := 40) (j := 0) (by rw [kQ_wQ, if_pos ⟨rfl, rfl⟩]; rfl)
  refine ⟨_, _, e, g2, hx1, z1, ?_, up_eq _ _ _ _, p3⟩
  show kN (wN A 104 10) (x + 40) = 10
  rw [kN_wN, if_pos hz.symm]
theorem s_adA {n d m : Nat} (hg : gI A) (hx : kK A x = 13) (hz : kZ A = x + m) (hp : pS A J x ks qs rs is ls) (h30 : kK A (x + 30) = 3) (h40 : kK A (x + 40) = 104) (hnn : kK A (x + n) = 5) (hq : kQ A (x + 30) 1 = some (x + 40)) (hN : kN A (x + 40) = 10) (hd : d < 4) (hT : qT 40 d = n) (hsz : J (x + 30) 2 = nI d) (hc : ck m m 40 d ks qs rs is ls = true) : ∃ B J', f_Jx4a65c_add_9ea2d (sI A J) (x + 30) (x + n) = some (sI B J', 1) ∧ gI B ∧ kK B x = 13 ∧ kZ B = x + m ∧ kN B (x + 40) = 10 ∧ J' (x + 30) 2 = nI (d + 1) ∧ pS B J' x ks ((40, d) :: qs) rs is ls := by
  have e := ls_addA (I := J) h30 hq h40 (n := d) (by omega) hN hsz (b := x + n) (Or.inl hnn)
  have g2 := hg.add (n := d) (b := x + n) h30 hq h40 (by rw [hnn]; decide)
  refine ⟨_, _, e, g2, hx, hz, hN, up_eq _ _ _ _, ?_⟩
  exact (hp.o (a := 40) (j := d) hg.1 (Xo_wQ _ _ _ (some (x + n))) (by omega) (by omega) hc (fun c v h h3 => by rw [up_ne (Or.inl h3), up_ne (Or.inl h3)])).q (k := 40) (j := d) (by rw [kQ_wQ, if_pos ⟨rfl, rfl⟩, hT])
/-- one more desk -/
theorem s_more {n d : Nat} {v : Int32} (hv : ¬ (4 : Int32) ≤ v) (hg : gI A) (hx : kK A x = 13) (hz : kZ A = x + n) (hp : pS A J x ks qs rs is ls) (hq4 : kQ A x 4 = some (x + 30)) (h30 : kK A (x + 30) = 3) (h40 : kK A (x + 40) = 104) (hq : kQ A (x + 30) 1 = some (x + 40)) (hN : kN A (x + 40) = 10) (hd : d < 4) (hT : qT 40 d = n) (hsz : J (x + 30) 2 = nI d) (hn : 40 < n) (hk : kT n = 5) (hqi : ∀ i, i < 4 → qT n i = n + 1 + 2 * i) (hc0 : capT (n + 1) = 12) (hci : ∀ i, i < 4 → 0 < i → capT (n + 1 + 2 * i) = 20) (hr0 : r0 (n + 1) = List.replicate 12 0) (hri : ∀ i, i < 4 → 0 < i → r0 (n + 1 + 2 * i) = []) (hc1 : ck n n n 0 ks qs rs is ls = true) (hc2 : ck (n + 1) n n 0 (n :: ks) qs rs is ls = true) (hc3 : ck (n + 9) (n + 9) 40 d (n :: ks) ([(n, 0), (n, 1), (n, 2), (n, 3)] ++ qs) ([n + 1, n + 3, n + 5, n + 7] ++ rs) ((n, 5) :: (n, 4) :: is) ls = true) : ∃ B J', f_X9_init_b70 x v (sI A J) = some (.inl (v + 1, sI B J')) ∧ gI B ∧ kK B x = 13 ∧ kZ B = x + (n + 9) ∧ kN B (x + 40) = 10 ∧ J' (x + 30) 2 = nI (d + 1) ∧ pS B J' x (n :: ks) ((40, d) :: ([(n, 0), (n, 1), (n, 2), (n, 3)] ++ qs)) ([n + 1, n + 3, n + 5, n + 7] ++ rs) ((n, 5) :: (n, 4) :: is) ls := by
  obtain ⟨B, J1, e1, z1, g1, k1, z2, m1, xn, i1, p1⟩ := s_desk hg hx hz hp (by omega) hk hqi hc0 hci hr0 hri hc1 hc2
  have h30' : kK B (x + 30) = 3 := (xn.2 _ (by omega)).1.trans h30
  obtain ⟨C, J2, e2, g2, k2, z3, n3, s3, p3⟩ := s_adA (d := d) (n := n) (m := n + 9) g1 k1 z2 p1 h30' ((xn.2 _ (by omega)).1.trans h40) m1 (((xn.2 _ (by omega)).2.2 1).trans hq) (((xn.2 _ (by omega)).2.1).trans hN) hd hT (by rw [i1 _ _ (by omega)]; exact hsz) hc3
  refine ⟨C, J2, ?_, g2, k2, z3, n3, s3, p3⟩
  unfold f_X9_init_b70
  rw [if_neg hv, kK_sI, if_pos hx, kQ_sI, hq4]
  simp only [Option.bind_some, lt]
  rw [e1]
  simp only [Option.bind_some, kK_sI, h30', if_true]
  rw [kZ_sI, hz, e2]
  rfl
theorem s_one {e0 : Nat} {v : Int32} (hv : ¬ (4 : Int32) ≤ v) (hg : gI A) (hx : kK A x = 13) (hz : kZ A = x + 31) (hp : pS A J x ks qs rs is ls) (hq4 : kQ A x 4 = some (x + 30)) (h30 : kK A (x + 30) = 3) (he1 : kQ A (x + 30) 1 = some e0) (he2 : kK A e0 = 105) (he3 : kN A e0 = 0) (he4 : kQ A 0 0 = some e0) (hsz : J (x + 30) 2 = nI 0) (hc1 : ck 31 31 31 0 ks qs rs is ls = true) (hc2 : ck 32 31 31 0 (31 :: ks) qs rs is ls = true) (hc3 : ck 40 40 40 0 (31 :: ks) ([(31, 0), (31, 1), (31, 2), (31, 3)] ++ qs) ([32, 34, 36, 38] ++ rs) ((31, 5) :: (31, 4) :: is) ls = true) (hc4 : ck 41 40 30 1 (40 :: 31 :: ks) ([(31, 0), (31, 1), (31, 2), (31, 3)] ++ qs) ([32, 34, 36, 38] ++ rs) ((31, 5) :: (31, 4) :: is) ls = true) (hc5 : ck 41 40 40 0 (40 :: 31 :: ks) ((30, 1) :: ([(31, 0), (31, 1), (31, 2), (31, 3)] ++ qs)) ([32, 34, 36, 38] ++ rs) ((31, 5) :: (31, 4) :: is) ls = true) : ∃ B J', f_X9_init_b70 x v (sI A J) = some (.inl (v + 1, sI B J')) ∧ gI B ∧ kK B x = 13 ∧ kZ B = x + 41 ∧ kN B (x + 40) = 10 ∧ J' (x + 30) 2 = nI 1 ∧ pS B J' x (40 :: 31 :: ks) ((40, 0) :: (30, 1) :: ([(31, 0), (31, 1), (31, 2), (31, 3)] ++ qs)) ([32, 34, 36, 38] ++ rs) ((31, 5) :: (31, 4) :: is) ls := by
  obtain ⟨B, J1, e1, z1, g1, k1, z2, m1, xn, i1, p1⟩ := s_desk (n := 31) hg hx hz hp (by omega) rfl (by decide) rfl (by decide) rfl (by decide) hc1 hc2
  have he0 : e0 < kZ A := hg.1.lt (by rw [he2]; decide)
  have h30' : kK B (x + 30) = 3 := (xn.2 _ (by omega)).1.trans h30
  obtain ⟨C, J2, e2, g2, k2, z3, n3, s3, p3⟩ := s_adB g1 k1 z2 p1 h30' m1 (((xn.2 _ (by omega)).2.2 1).trans he1) ((xn.2 _ he0).1.trans he2) ((xn.2 _ he0).2.1.trans he3) (((xn.2 _ (by omega)).2.2 0).trans he4) (by rw [i1 _ _ (by omega)]; exact hsz) hc3 hc4 hc5
  refine ⟨C, J2, ?_, g2, k2, z3, n3, s3, p3⟩
  unfold f_X9_init_b70
  rw [if_neg hv, kK_sI, if_pos hx, kQ_sI, hq4]
  simp only [Option.bind_some, lt]
  rw [e1]
  simp only [Option.bind_some, kK_sI, h30', if_true]
  rw [kZ_sI, hz, e2]
  rfl
end
