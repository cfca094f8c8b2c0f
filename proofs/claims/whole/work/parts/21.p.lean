/-! the parts of the class, one by one -/
section
variable {A : PS} {J : Nat → Nat → Int32} {x : Nat} {ks : List Nat} {qs : List (Nat × Nat)} {rs : List Nat} {is : List (Nat × Nat)} {ls : List Nat}
theorem s_row {n j c : Nat} (hg : gI A) (hx : kK A x = 13) (hz : kZ A = x + n) (hp : pS A J x ks qs rs is ls) (hc : c ≤ 180) (hcap : capT n = c) (hr0 : r0 n = []) (hq : qT 0 j = n) (hck : ck n n 0 j ks qs rs is ls = true) : ∃ J', f_X5_init (wN (sI A J) 9 0) (kZ (sI A J)) (nI c) = some (sI (nR A c) J') ∧ kK (sI (nR A c) J') x = 13 ∧ wQ (sI (nR A c) J') x j (some (kZ (sI A J))) = sI (oR A x j c) J' ∧ gI (oR A x j c) ∧ kK (oR A x j c) x = 13 ∧ kZ (oR A x j c) = x + (n + 2) ∧ pS (oR A x j c) J' x ks ((0, j) :: qs) (n :: rs) is ls ∧ In A J J' := by
  have hlt := hg.1.lt (show kK A x ≠ 0 by rw [hx]; decide)
  have hx0 : x + 0 ≠ 0 := fun z => by
    obtain ⟨e0, -, -, -, k0⟩ := hg.1.2.2
    rw [show x = 0 from z] at hx; rcases k0 with k | k <;> rw [k] at hx <;> cases hx
  obtain ⟨J', e, t, w, r, i⟩ := st_row (I := J) hg hx (by decide) j (n := c) hc
  refine ⟨J', e, t, w, gI_oR hg hx (by decide) (by decide) (by decide), (kK_oR hlt).trans hx, by rw [kZ_oR, hz]; omega, pS.r (pS.q (hp.o (a := 0) (j := j) hg.1 (Xo_oR A x j c) hx0 (by omega) hck (fun q v h _ => i q v (by omega))) ?_) ?_ ?_, i⟩
  · show kQ (oR A x j c) x j = _
    rw [kQ_oR hlt, if_pos ⟨rfl, rfl⟩, hq, hz]
  · rw [← hz, hcap]
    exact rS_oR hlt (by omega)
  · rw [← hz, hr0]
    exact r
theorem s_text (hg : gI A) (hx : kK A x = 13) (hz : kZ A = x + 3) (hp : pS A J x ks qs rs is ls) (hc1 : ck 3 3 3 0 ks qs rs is ls = true) (hc2 : ck 4 3 3 0 (3 :: ks) qs rs is ls = true) : ∃ B J', f_X7_init (wN (sI A J) 11 0) (kZ (sI A J)) = some (sI B J') ∧ kZ (sI A J) = x + 3 ∧ gI B ∧ kK B x = 13 ∧ kZ B = x + 10 ∧ pS B J' x (3 :: ks) ([(3, 0), (3, 1), (3, 2)] ++ qs) ([4, 6, 8] ++ rs) is ls := by
  obtain ⟨g1, z1, k1, m1, p1⟩ := hp.wn hg hx hz (n := 3) (K := 11) rfl (by decide) hc1
  rw [kZ_sI, wN_sI, hz]
  obtain ⟨J', e, i, r1, r2, r3⟩ := x7_init (I := nz J (x + 3)) g1 m1
  obtain ⟨b1, b2, b3, b4⟩ := p1.rb (K := 11) (j0 := 0) (fs := [(0, 160), (1, 160), (2, 161)]) (I' := J') g1 m1 (by decide) z1 (by omega) (by decide) (fun i p h => by
    match i, h with
    | 0, h => cases h; decide
    | 1, h => cases h; decide
    | 2, h => cases h; decide) hc2 (fun c v h => i c v (by omega)) (fun i hi => by
    match i, hi with
    | 0, _ => exact r1
    | 1, _ => exact r2
    | 2, _ => exact r3)
  exact ⟨_, J', e, rfl, b1, (b3.2 x (by omega)).1.trans k1, b2, b4⟩
theorem s_tok (hg : gI A) (hx : kK A x = 13) (hz : kZ A = x + 10) (hp : pS A J x ks qs rs is ls) (hc1 : ck 10 10 10 0 ks qs rs is ls = true) (hc2 : ck 11 10 10 0 (10 :: ks) qs rs is ls = true) (hc3 : ck 11 10 10 1 (10 :: ks) ((10, 0) :: qs) rs is ls = true) : ∃ B J', f_X8_init (wN (sI A J) 12 0) (kZ (sI A J)) (x + 4) = some (sI B J') ∧ kZ (sI A J) = x + 10 ∧ gI B ∧ kK B x = 13 ∧ kZ B = x + 25 ∧ pS B J' x (10 :: ks) ([(10, 1), (10, 2), (10, 3), (10, 4), (10, 5), (10, 6), (10, 7)] ++ ((10, 0) :: qs)) ([11, 13, 15, 17, 19, 21, 23] ++ rs) is ls := by
  obtain ⟨g1, z1, k1, m1, p1⟩ := hp.wn hg hx hz (n := 10) (K := 12) rfl (by decide) hc1
  rw [kZ_sI, wN_sI, hz]
  obtain ⟨J', e, i, r, -, -, -⟩ := x8_init (I := nz J (x + 10)) g1 m1 (b := x + 4) (by omega)
  have g2 := g1.set (a := x + 10) (j := 0) (b := x + 4) (by rw [m1]; decide) (by rw [m1]; decide) (by rw [m1]; decide) (by omega)
  have p2 := (p1.o (a := 10) (j := 0) (I' := nz J (x + 10)) g1.1 (Xo_wQ _ (x + 10) 0 (some (x + 4))) (by omega) (by omega) hc2 (fun c v _ _ => rfl)).q (k := 10) (j := 0) (by rw [kQ_wQ, if_pos ⟨rfl, rfl⟩]; rfl)
  obtain ⟨b1, b2, b3, b4⟩ := p2.rb (K := 12) (j0 := 1) (fs := [(1, 160), (2, 160), (3, 160), (4, 160), (5, 160), (6, 160), (7, 160)]) (I' := J') g2 (show kK _ (x + 10) = 12 from m1) (by decide) z1 (by omega) (by decide) (fun i p h => by
    match i, h with
    | 0, h => cases h; decide
    | 1, h => cases h; decide
    | 2, h => cases h; decide
    | 3, h => cases h; decide
    | 4, h => cases h; decide
    | 5, h => cases h; decide
    | 6, h => cases h; decide) hc3 (fun c v h => i c v (by omega) (by omega)) (fun i hi => by
    have := r i hi
    rw [show r0 (10 + 1 + 2 * i) = [] from by
      have : i < 7 := hi
      unfold r0; rw [if_neg (by omega), if_neg (by omega)]]
    exact this)
  exact ⟨_, J', e, rfl, b1, (b3.2 x (show x < kZ (wN A 12 0) by omega)).1.trans k1, b2, b4⟩
theorem s_book (hg : gI A) (hx : kK A x = 13) (hz : kZ A = x + 25) (hp : pS A J x ks qs rs is ls) (hc1 : ck 25 25 25 0 ks qs rs is ls = true) (hc2 : ck 26 25 25 0 (25 :: ks) qs rs is ls = true) : ∃ B J', f_X0_init (wN (sI A J) 4 0) (kZ (sI A J)) = some (sI B J') ∧ kZ (sI A J) = x + 25 ∧ gI B ∧ kK B x = 13 ∧ kZ B = x + 30 ∧ pS B J' x (27 :: 26 :: 25 :: ks) ((25, 2) :: (25, 1) :: (25, 0) :: qs) (28 :: rs) ((27, 2) :: (26, 2) :: is) (27 :: 26 :: ls) := by
  obtain ⟨g1, z1, k1, m1, p1⟩ := hp.wn hg hx hz (n := 25) (K := 4) rfl (by decide) hc1
  rw [kZ_sI, wN_sI, hz]
  obtain ⟨B, J', e, g2, xo, z2, i, q0, q1, q2, d0, d1, n0, n1, s2, l2⟩ := x0_init (I := nz J (x + 25)) g1 m1
  rw [z1] at z2 q0 q1 q2 d0 d1 n0 n1 s2 l2
  have p2 := p1.o (a := 25) (j := 0) (I' := J') g1.1 xo (by omega) (by omega) hc2 (fun c v h _ => i c v (by omega))
  exact ⟨B, J', e, rfl, g2, (xo.2 x (by omega)).1.trans k1, z2, ((((((((((p2.k (k := 26) (d0 (fun _ => 0)).1).k (k := 27) (d1 (fun _ => 0)).1).q (k := 25) (j := 0) q0).q (k := 25) (j := 1) q1).q (k := 25) (j := 2) q2).r (k := 28) s2 l2).i (k := 26) (j := 2) n0).i (k := 27) (j := 2) n1).l (k := 26) d0).l (k := 27) d1)⟩
theorem s_list (hg : gI A) (hx : kK A x = 13) (hz : kZ A = x + 30) (hp : pS A J x ks qs rs is ls) (hc1 : ck 30 30 30 0 ks qs rs is ls = true) : ∃ B J' e0, f_Jx4a65c_init_da8c8 (wN (sI A J) 3 0) (kZ (sI A J)) = some (sI B J') ∧ kZ (sI A J) = x + 30 ∧ gI B ∧ kK B x = 13 ∧ kZ B = x + 31 ∧ pS B J' x (30 :: ks) qs rs is ls ∧ J' (x + 30) 2 = nI 0 ∧ kQ B (x + 30) 1 = some e0 ∧ kK B e0 = 105 ∧ kN B e0 = 0 ∧ kQ B 0 0 = some e0 := by
  rw [kZ_sI, wN_sI]
  obtain ⟨B, J', e0, e, g2, xn, i, d0, n0, z2, q1, q2, q3, q4⟩ := nw_list2 (I := J) hg
  rw [hz] at e d0 n0 z2 q1 ⊢
  exact ⟨B, J', e0, e, rfl, g2, (xn.2 x (by omega)).1.trans hx, z2, (hp.o (a := 30) (j := 0) (I' := J') hg.1 (xn.o _ _) (by omega) (by omega) hc1 (fun c v h _ => i c v (by omega))).k (k := 30) (d0 (fun _ => 0)).1, n0, q1, q2, q3, q4⟩
theorem s_find (hg : gI A) (hx : kK A x = 13) (hz : kZ A = x + 68) (hp : pS A J x ks qs rs is ls) (hc1 : ck 68 68 68 0 ks qs rs is ls = true) (hc2 : ck 69 68 68 0 (68 :: ks) qs rs is ls = true) (hc3 : ck 69 68 68 2 (68 :: ks) ((68, 1) :: (68, 0) :: qs) rs is ls = true) : ∃ B J', f_X2_init (wN (sI A J) 6 0) (kZ (sI A J)) (x + 25) (x + 10) = some (sI B J') ∧ kZ (sI A J) = x + 68 ∧ gI B ∧ kK B x = 13 ∧ kZ B = x + 77 ∧ kN B (x + 40) = kN A (x + 40) ∧ J' (x + 30) 2 = J (x + 30) 2 ∧ pS B J' x (68 :: ks) ([(68, 2), (68, 3), (68, 4), (68, 5)] ++ ((68, 1) :: (68, 0) :: qs)) ([69, 71, 73, 75] ++ rs) is ls := by
  obtain ⟨g1, z1, k1, m1, p1⟩ := hp.wn hg hx hz (n := 68) (K := 6) rfl (by decide) hc1
  rw [kZ_sI, wN_sI, hz]
  obtain ⟨J', e, i, r⟩ := x2_init (I := nz J (x + 68)) g1 m1 (b := x + 25) (c := x + 10) (by omega) (by omega)
  have g2 := g1.set (a := x + 68) (j := 0) (b := x + 25) (by rw [m1]; decide) (by rw [m1]; decide) (by rw [m1]; decide) (by omega)
  have m2 : kK (wQ (wN A 6 0) (x + 68) 0 (some (x + 25))) (x + 68) = 6 := m1
  have g3 := g2.set (a := x + 68) (j := 1) (b := x + 10) (by rw [m2]; decide) (by rw [m2]; decide) (by rw [m2]; decide) (show _ < kZ (wN A 6 0) by omega)
  have xx : Xo (wN A 6 0) (wQ (wQ (wN A 6 0) (x + 68) 0 (some (x + 25))) (x + 68) 1 (some (x + 10))) (x + 68) 0 := (Xo_wQ _ _ _ _).tr (Xo_wQ _ _ _ _) (by decide)
  have p2 := ((p1.o (a := 68) (j := 0) (I' := nz J (x + 68)) g1.1 xx (by omega) (by omega) hc2 (fun c v _ _ => rfl)).q (k := 68) (j := 0) (by rw [kQ_wQ, if_neg (by omega), kQ_wQ, if_pos ⟨rfl, rfl⟩]; rfl)).q (k := 68) (j := 1) (by rw [kQ_wQ, if_pos ⟨rfl, rfl⟩]; rfl)
  obtain ⟨b1, b2, b3, b4⟩ := p2.rb (K := 6) (j0 := 2) (fs := [(2, 160), (3, 160), (4, 160), (5, 160)]) (I' := J') g3 (show kK _ (x + 68) = 6 from m1) (by decide) z1 (by omega) (by decide) (fun i p h => by
    match i, h with
    | 0, h => cases h; decide
    | 1, h => cases h; decide
    | 2, h => cases h; decide
    | 3, h => cases h; decide) hc3 (fun c v h => i c v (by omega)) (fun i hi => by
    have := r i hi
    rw [show r0 (68 + 1 + 2 * i) = [] from by
      have : i < 4 := hi
      unfold r0; rw [if_neg (by omega), if_neg (by omega)]]
    exact this)
  refine ⟨_, J', e, rfl, b1, (b3.2 x (show x < kZ (wN A 6 0) by omega)).1.trans k1, b2, ?_, ?_, b4⟩
  · rw [(b3.2 (x + 40) (show x + 40 < kZ (wN A 6 0) by omega)).2.1]
    show kN (wN A 6 0) (x + 40) = _
    rw [kN_wN, if_neg (by omega)]
  · rw [i _ _ (by omega), nz_ne (by omega)]
end
