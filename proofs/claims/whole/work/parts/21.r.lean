/-! the class is made -/
def T0 : St := ([], [], [], [15], [], [], fun _ => (List.replicate 12 0, 0, 0, []))
theorem kT_lt {k : Nat} (h : kT k ≠ 0) : k < 79 := by
  unfold kT at h
  split at h <;> first | omega | exact absurd rfl h
theorem qT_lt {k j : Nat} (h : qT k j ≠ 0) : k < 79 ∧ j < 8 := by
  unfold qT at h
  split at h <;> first | omega | exact absurd rfl h
theorem pS.full {S : PS} {I : Nat → Nat → Int32} {x : Nat} {ks : List Nat} {qs : List (Nat × Nat)} {rs : List Nat} {is : List (Nat × Nat)} {ls : List Nat} (h : pS S I x ks qs rs is ls) (h40 : kN S (x + 40) = 10) (c1 : ∀ k, k < 79 → kT k ≠ 0 → k ∈ ks) (c2 : ((List.range 79).all fun k => (List.range 8).all fun j => decide (qT k j = 0) || qs.contains (k, j)) = true) (c3 : ∀ k, k < 79 → capT k ≠ 0 → k ∈ rs) : cS S x ∧ (∀ k, capT k ≠ 0 → rL I (x + k) (r0 k)) := ⟨⟨fun k hk => h.1 k (c1 k (kT_lt hk) hk), fun k j hk => h.2.1 (k, j) (by
  have c := List.all_eq_true.mp (List.all_eq_true.mp c2 k (List.mem_range.mpr (qT_lt hk).1)) j (List.mem_range.mpr (qT_lt hk).2)
  rw [decide_eq_false hk, Bool.false_or] at c
  exact List.contains_iff_mem.mp c), fun k hk => (h.2.2.1 k (c3 k (Nat.lt_succ_of_lt (capT_lt hk)) hk)).1, h40⟩, fun k hk => (h.2.2.1 k (c3 k (Nat.lt_succ_of_lt (capT_lt hk)) hk)).2⟩
theorem r0_d (d i : Nat) (hd : d < 4) (hi : i = 3 ∨ i = 5 ∨ i = 7) : r0 (dO d + i) = [] := by
  rcases dO_cases hd with rfl | rfl | rfl | rfl <;> rcases hi with rfl | rfl | rfl <;> decide
theorem r0_1 (d : Nat) (hd : d < 4) : r0 (dO d + 1) = List.replicate 12 0 := by
  rcases dO_cases hd with rfl | rfl | rfl | rfl <;> decide
theorem r0_cap (k : Nat) (hk : capT k ≠ 0) : (r0 k).length ≤ capT k := by
  have h : ∀ k, k < 79 → capT k ≠ 0 → (r0 k).length ≤ capT k := by decide
  exact h k (Nat.lt_succ_of_lt (capT_lt hk)) hk
theorem cI_T0 {S : PS} {J : Nat → Nat → Int32} {x : Nat} (hS : cS S x) (hL : ∀ k, capT k ≠ 0 → rL J (x + k) (r0 k)) (h26 : J (x + 26) 2 = 0) (h27 : J (x + 27) 2 = 0) (h30 : J (x + 30) 2 = nI 4) (h5 : ∀ d, d < 4 → J (x + dO d) 5 = 0) (h4 : ∀ d, d < 4 → J (x + dO d) 4 = 0) (l26 : ∀ as, dL S (x + 26) 0 as) (l27 : ∀ as, dL S (x + 27) 0 as) : cI S (up (up J x 7 0) x 8 (-1)) x T0 := by
  have ux : ∀ k j, k ≠ 0 → up (up J x 7 0) x 8 (-1) (x + k) j = J (x + k) j := fun k j hk => by rw [up_ne (Or.inl (by omega)), up_ne (Or.inl (by omega))]
  have hz0 : ∀ k, capT k ≠ 0 → k ≠ 0 := fun k hk z => by rw [z] at hk; exact hk rfl
  have hd0 : ∀ d, dO d ≠ 0 := fun d => by unfold dO; split <;> decide
  refine ⟨hS, ⟨⟨fun _ => 0, l26 _, fun j v hv => by simp [T0] at hv⟩, ⟨fun _ => 0, l27 _, fun j v hv => by simp [T0] at hv⟩⟩, r0, fun k j => up (up J x 7 0) x 8 (-1) (x + k) j, ⟨fun k hk => ⟨⟨?_, fun j hj => ?_⟩, r0_cap k hk⟩, fun k j _ => rfl⟩, ⟨rfl, rfl, rfl, rfl, ?_, ?_, ?_, fun d hd => ⟨?_, ?_, ?_, ?_, ?_, ?_⟩⟩, Or.inl ?_, Or.inl ?_⟩
  · rw [ux _ _ (hz0 k hk)]; exact (hL k hk).1
  · rw [show x + k + 1 = x + (k + 1) from rfl, ux _ _ (Nat.succ_ne_zero k)]; exact (hL k hk).2 j hj
  · show up (up J x 7 0) x 8 (-1) (x + 26) 2 = _
    rw [ux _ _ (by decide), h26]; rfl
  · show up (up J x 7 0) x 8 (-1) (x + 27) 2 = _
    rw [ux _ _ (by decide), h27]; rfl
  · show up (up J x 7 0) x 8 (-1) (x + 30) 2 = _
    rw [ux _ _ (by decide), h30]
  · rw [r0_1 d hd]; rfl
  · show up (up J x 7 0) x 8 (-1) (x + dO d) 5 = _
    rw [ux _ _ (hd0 d), h5 d hd]; rfl
  · show up (up J x 7 0) x 8 (-1) (x + dO d) 4 = _
    rw [ux _ _ (hd0 d), h4 d hd]; rfl
  · rw [r0_d d 3 hd (by decide)]; rfl
  · rw [r0_d d 5 hd (by decide)]; rfl
  · rw [r0_d d 7 hd (by decide)]; rfl
  · show up (up J x 7 0) x 8 (-1) x 7 = 0
    rw [up_ne (Or.inr (by decide)), up_eq]
  · exact up_eq _ _ _ _
theorem lt_eq {α β : Type} (v : α) (f : α → β) : lt v f = f v := rfl
theorem x9_init {S : PS} {I : Nat → Nat → Int32} (hg : gI S) : ∃ S' I', f_X9_init (sI (wN S 13 0) (nz I (kZ S))) (kZ S) = some (sI S' I') ∧ gI S' ∧ kZ S' = kZ S + 79 ∧ cI S' I' (kZ S) T0 := by
  generalize hxx : kZ S = x
  have gA := hg.new 13 0 (Or.inr trivial)
  have zA : kZ (wN S 13 0) = x + 1 := by rw [kZ_wN, hxx]
  have kA : kK (wN S 13 0) x = 13 := by rw [kK_wN, if_pos hxx.symm]
  have pA : pS (wN S 13 0) (nz I x) x [0] [] [] [] [] := ⟨fun k hk => by
    have : k = 0 := by simpa using hk
    subst this; exact kA, fun p hp => absurd hp List.not_mem_nil, fun p hp => absurd hp List.not_mem_nil, fun p hp => absurd hp List.not_mem_nil, fun p hp => absurd hp List.not_mem_nil⟩
  generalize wN S 13 0 = A at gA zA kA pA
  generalize nz I x = J at pA
  unfold f_X9_init
  rw [show (20 : Int32) = nI 20 from rfl, show (180 : Int32) = nI 180 from rfl]
  rw [lt_eq, lt_eq]
  obtain ⟨J1, e1, k1, w1, g1, kx1, z1, p1, -⟩ := s_row (n := 1) (j := 0) (c := 20) gA kA zA pA (by decide +kernel) rfl rfl rfl (by decide +kernel)
  rw [e1, Option.bind_some, if_pos k1]
  rw [w1]
  generalize oR A x 0 20 = B1 at g1 kx1 z1 p1 ⊢
  rw [lt_eq, lt_eq, lt_eq]
  obtain ⟨C2, J2, e2, y2, g2, kx2, z2, p2⟩ := s_text g1 kx1 z1 p1 (by decide +kernel) (by decide +kernel)
  rw [e2, Option.bind_some, kK_sI, if_pos kx2, y2, wQ_sI]
  obtain ⟨g3, kx3, z3, p3⟩ := pS.rt (n := 3) (j := 1) g2 kx2 z2 p2 (by decide +kernel) rfl (by decide +kernel)
  have q31 : kQ (wQ C2 x 1 (some (x + 3))) x 1 = some (x + 3) := p3.2.1 (0, 1) (by decide +kernel)
  have q30 : kQ (wQ C2 x 1 (some (x + 3))) (x + 3) 0 = some (x + 4) := p3.2.1 (3, 0) (by decide +kernel)
  have k33 : kK (wQ C2 x 1 (some (x + 3))) (x + 3) = 11 := p3.1 3 (by decide +kernel)
  generalize wQ C2 x 1 (some (x + 3)) = B3 at g3 kx3 z3 p3 q31 q30 k33 ⊢
  rw [lt_eq, lt_eq, lt_eq]
  have ha : kK (wN (sI B3 J2) 12 0) x = 13 ∧ kQ (wN (sI B3 J2) 12 0) x 1 = some (x + 3) ∧ kK (wN (sI B3 J2) 12 0) (x + 3) = 11 ∧ kQ (wN (sI B3 J2) 12 0) (x + 3) 0 = some (x + 4) := by
    exact ⟨by rw [wN_sI, kK_sI, kK_wN, if_neg (by omega)]; exact kx3, by rw [wN_sI, kQ_sI, kQ_wN, if_neg (by omega)]; exact q31, by rw [wN_sI, kK_sI, kK_wN, if_neg (by omega)]; exact k33, by rw [wN_sI, kQ_sI, kQ_wN, if_neg (by omega)]; exact q30⟩
  rw [if_pos ha.1, ha.2.1, Option.bind_some, if_pos ha.2.2.1, ha.2.2.2, Option.bind_some]
  obtain ⟨C4, J4, e4, y4, g4, kx4, z4, p4⟩ := s_tok g3 kx3 z3 p3 (by decide +kernel) (by decide +kernel) (by decide +kernel)
  rw [e4, Option.bind_some, kK_sI, if_pos kx4, y4, wQ_sI]
  obtain ⟨g5, kx5, z5, p5⟩ := pS.rt (n := 10) (j := 2) g4 kx4 z4 p4 (by decide +kernel) rfl (by decide +kernel)
  generalize wQ C4 x 2 (some (x + 10)) = B5 at g5 kx5 z5 p5 ⊢
  rw [lt_eq, lt_eq, lt_eq]
  obtain ⟨C6, J6, e6, y6, g6, kx6, z6, p6⟩ := s_book g5 kx5 z5 p5 (by decide +kernel) (by decide +kernel)
  rw [e6, Option.bind_some, kK_sI, if_pos kx6, y6, wQ_sI]
  obtain ⟨g7, kx7, z7, p7⟩ := pS.rt (n := 25) (j := 3) g6 kx6 z6 p6 (by decide +kernel) rfl (by decide +kernel)
  generalize wQ C6 x 3 (some (x + 25)) = B7 at g7 kx7 z7 p7 ⊢
  rw [lt_eq, lt_eq, lt_eq]
  obtain ⟨C8, J8, e0, e8, y8, g8, kx8, z8, p8, n8, l1, l2, l3, l4⟩ := s_list g7 kx7 z7 p7 (by decide +kernel)
  rw [e8, Option.bind_some, kK_sI, if_pos kx8, y8, wQ_sI]
  obtain ⟨g9, kx9, z9, p9⟩ := pS.rt (n := 30) (j := 4) g8 kx8 z8 p8 (by decide +kernel) rfl (by decide +kernel)
  have l1' : kQ (wQ C8 x 4 (some (x + 30))) (x + 30) 1 = some e0 := by rw [kQ_wQ, if_neg (by omega)]; exact l1
  have l4' : kQ (wQ C8 x 4 (some (x + 30))) 0 0 = some e0 := by rw [kQ_wQ, if_neg (by omega)]; exact l4
  have l2' : kK (wQ C8 x 4 (some (x + 30))) e0 = 105 := l2
  have l3' : kN (wQ C8 x 4 (some (x + 30))) e0 = 0 := l3
  generalize wQ C8 x 4 (some (x + 30)) = B9 at g9 kx9 z9 p9 l1' l2' l3' l4' ⊢
  rw [lt_eq, lt_eq]
  obtain ⟨D1, I1, f1, g10, kx10, z10, n10, s10, p10⟩ := s_one (v := 0) (by decide +kernel) g9 kx9 z9 p9 (p9.2.1 (0, 4) (by decide +kernel)) (p9.1 30 (by decide +kernel)) l1' l2' l3' l4' n8 (by decide +kernel) (by decide +kernel) (by decide +kernel) (by decide +kernel) (by decide +kernel)
  obtain ⟨D2, I2, f2, g11, kx11, z11, n11, s11, p11⟩ := s_more (n := 41) (d := 1) (v := 0 + 1) (by decide +kernel) g10 kx10 z10 p10 (p10.2.1 (0, 4) (by decide +kernel)) (p10.1 30 (by decide +kernel)) (p10.1 40 (by decide +kernel)) (p10.2.1 (30, 1) (by decide +kernel)) n10 (by decide +kernel) rfl s10 (by decide +kernel) rfl (by decide +kernel) rfl (by decide +kernel) rfl (by decide +kernel) (by decide +kernel) (by decide +kernel) (by decide +kernel)
  obtain ⟨D3, I3, f3, g12, kx12, z12, n12, s12, p12⟩ := s_more (n := 50) (d := 2) (v := 0 + 1 + 1) (by decide +kernel) g11 kx11 z11 p11 (p11.2.1 (0, 4) (by decide +kernel)) (p11.1 30 (by decide +kernel)) (p11.1 40 (by decide +kernel)) (p11.2.1 (30, 1) (by decide +kernel)) n11 (by decide +kernel) rfl s11 (by decide +kernel) rfl (by decide +kernel) rfl (by decide +kernel) rfl (by decide +kernel) (by decide +kernel) (by decide +kernel) (by decide +kernel)
  obtain ⟨D4, I4, f4, g13, kx13, z13, n13, s13, p13⟩ := s_more (n := 59) (d := 3) (v := 0 + 1 + 1 + 1) (by decide +kernel) g12 kx12 z12 p12 (p12.2.1 (0, 4) (by decide +kernel)) (p12.1 30 (by decide +kernel)) (p12.1 40 (by decide +kernel)) (p12.2.1 (30, 1) (by decide +kernel)) n12 (by decide +kernel) rfl s12 (by decide +kernel) rfl (by decide +kernel) rfl (by decide +kernel) rfl (by decide +kernel) (by decide +kernel) (by decide +kernel) (by decide +kernel)
  have f5 : f_X9_init_b70 x (0 + 1 + 1 + 1 + 1) (sI D4 I4) = some (.inr (sI D4 I4)) := by unfold f_X9_init_b70; rw [if_pos (by decide +kernel)]
  rw [show iter (fun (v : Int32 × PS) => f_X9_init_b70 x v.1 v.2) 5 (0, sI B9 J8) = some (sI D4 I4) by simp only [iter, f1, f2, f3, f4, f5, Option.bind_some]]
  simp only [Option.bind_some]
  rw [lt_eq, lt_eq]
  clear f1 f2 f3 f4 f5 s10 s11 s12 n10 n11 n12 p12 p11 p10 p9 l1' l2' l3' l4' n8 z10 z11 z12 g10 g11 g12 kx10 kx11 kx12 z9 g9 kx9
  have x13 : ¬ x = kZ D4 := by rw [z13]; exact Nat.ne_of_lt (Nat.lt_add_of_pos_right (by decide))
  have hb : kK (wN (sI D4 I4) 6 0) x = 13 ∧ kQ (wN (sI D4 I4) 6 0) x 3 = some (x + 25) ∧ kQ (wN (sI D4 I4) 6 0) x 2 = some (x + 10) := by
    exact ⟨by rw [wN_sI, kK_sI, kK_wN, if_neg x13]; exact kx13, by rw [wN_sI, kQ_sI, kQ_wN, if_neg x13]; exact p13.2.1 (0, 3) (by decide +kernel), by rw [wN_sI, kQ_sI, kQ_wN, if_neg x13]; exact p13.2.1 (0, 2) (by decide +kernel)⟩
  rw [if_pos hb.1, hb.2.1, Option.bind_some, hb.2.2, Option.bind_some]
  obtain ⟨C14, J14, e14, y14, g14, kx14, z14, n14, s14, p14⟩ := s_find g13 kx13 z13 p13 (by decide +kernel) (by decide +kernel) (by decide +kernel)
  rw [e14, Option.bind_some, kK_sI, if_pos kx14, y14, wQ_sI]
  obtain ⟨g15, kx15, z15, p15⟩ := pS.rt (n := 68) (j := 5) g14 kx14 z14 p14 (by decide +kernel) rfl (by decide +kernel)
  have n15 : kN (wQ C14 x 5 (some (x + 68))) (x + 40) = 10 := n14.trans n13
  generalize wQ C14 x 5 (some (x + 68)) = B15 at g15 kx15 z15 p15 n15 ⊢
  rw [lt_eq, lt_eq, lt_eq]
  obtain ⟨J16, e16, k16, w16, g16, kx16, z16, p16, i16⟩ := s_row (n := 77) (j := 6) (c := 180) g15 kx15 z15 p15 (by decide +kernel) rfl rfl rfl (by decide +kernel)
  rw [e16, Option.bind_some, if_pos k16]
  rw [w16]
  simp only [kK_sI, kx16, if_true, wI_sI, lt]
  have n16 : kN (oR B15 x 6 180) (x + 40) = 10 := (kN_oR (by rw [z15]; exact Nat.add_lt_add_left (by decide) x)).trans n15
  have s16 : J16 (x + 30) 2 = nI 4 := by rw [i16 _ _ (show x + 30 < kZ B15 by rw [z15]; exact Nat.add_lt_add_left (by decide) x), s14, s13]
  generalize oR B15 x 6 180 = B16 at g16 kx16 z16 p16 n16 ⊢
  obtain ⟨hS, hL⟩ := p16.full n16 (by decide +kernel) (by decide +kernel) (by decide +kernel)
  refine ⟨B16, _, rfl, g16, z16, cI_T0 hS hL (p16.2.2.2.1 (26, 2) (by decide +kernel)) (p16.2.2.2.1 (27, 2) (by decide +kernel)) s16 (fun d hd => ?_) (fun d hd => ?_) (p16.2.2.2.2 26 (by decide +kernel)) (p16.2.2.2.2 27 (by decide +kernel))⟩
  · exact p16.2.2.2.1 (dO d, 5) (by rcases dO_cases hd with rfl | rfl | rfl | rfl <;> decide +kernel)
  · exact p16.2.2.2.1 (dO d, 4) (by rcases dO_cases hd with rfl | rfl | rfl | rfl <;> decide +kernel)
