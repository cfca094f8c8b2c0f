/-! lists with known places; the book -/
theorem ls_addA {S : PS} {I : Nat → Nat → Int32} {h n arr b : Nat} (hh : kK S h = 3) (harr : kQ S h 1 = some arr) (hk : kK S arr = 104) (hN : n < kN S arr) (hN2 : kN S arr = 10) (hsz : I h 2 = nI n) (hb : kK S b = 5 ∨ kK S b = 7 ∨ kK S b = 8 ∨ kK S b = 9 ∨ kK S b = 10) : f_Jx4a65c_add_9ea2d (sI S I) h b = some (sI (wQ S arr n (some b)) (up (up I h 0 (I h 0 + 1)) h 2 (nI (n + 1))), 1) := by
  have hn3 : n < 2 ^ 31 := by omega
  unfold f_Jx4a65c_add_9ea2d f_Jx4a65c_add_72be8
  simp only [kK_sI, kQ_sI, kN_sI, kZ_sI, kI_sI, wI_sI, if_true, Option.bind_some, lt, hh, harr, show (up I h 0 (I h 0 + 1)) h 2 = nI n by rw [up_ne (Or.inr (by decide))]; exact hsz]
  rw [if_pos (show 103 < kK S arr by rw [hk]; decide), if_neg (fun z => by have := nI_inj hn3 (by omega) z; omega)]
  simp only [Option.bind_some, kK_sI, kN_sI, wQ_sI, wI_sI, kK_wQ, hk, hh, hb, if_true, nI_clamp hn3, show ¬ (nI n < 0 ∨ kN S arr ≤ n) from fun z => z.elim (nI_pos hn3) (by omega), not_false_eq_true, nI_1]
theorem ls_addB {S : PS} {I : Nat → Nat → Int32} {h arr b : Nat} (hP : PF S) (hh : kK S h = 3) (harr : kQ S h 1 = some arr) (hk : kK S arr = 105) (hkN : kN S arr = 0) (he : kQ S 0 0 = some arr) (hsz : I h 2 = nI 0) (hb : kK S b = 5 ∨ kK S b = 7 ∨ kK S b = 8 ∨ kK S b = 9 ∨ kK S b = 10) : f_Jx4a65c_add_9ea2d (sI S I) h b = some (sI (wQ (wQ (wN S 104 10) h 1 (some (kZ S))) (kZ S) 0 (some b)) (up (nz (up I h 0 (I h 0 + 1)) (kZ S)) h 2 (nI 1)), 1) := by
  have hlt : h < kZ S := hP.lt (by rw [hh]; decide)
  have hblt : b < kZ S := hP.lt (by rcases hb with z | z | z | z | z <;> rw [z] <;> decide)
  unfold f_Jx4a65c_add_9ea2d f_Jx4a65c_add_72be8
  simp only [kK_sI, kQ_sI, kN_sI, kZ_sI, kI_sI, wI_sI, if_true, Option.bind_some, lt, hh, harr, show (up I h 0 (I h 0 + 1)) h 2 = nI 0 by rw [up_ne (Or.inr (by decide))]; exact hsz]
  rw [if_pos (show 103 < kK S arr by rw [hk]; decide), hkN, if_pos rfl]
  unfold f_Jx4a65c_grow_d5877 f_Jx4a65c_grow_92f84
  simp only [kK_sI, kQ_sI, kN_sI, kZ_sI, kI_sI, wI_sI, if_true, Option.bind_some, lt, hh, harr, show (up I h 0 (I h 0 + 1)) h 2 = nI 0 by rw [up_ne (Or.inr (by decide))]; exact hsz, if_pos (show 103 < kK S arr by rw [hk]; decide), hkN, show ¬ (0 : Int32) < nI 0 by decide +kernel, if_false, he, show (if 10 < nI 0 + 1 then nI 0 + 1 else (10 : Int32)) = nI 10 by decide +kernel, show ¬ nI 10 < 0 ∧ (nI 10).toNatClampNeg ≤ 20 by decide +kernel, show (nI 10).toNatClampNeg = 10 by decide +kernel, wN_sI]
  have kh : kK (wN S 104 10) h = 3 := by rw [kK_wN, if_neg (by omega)]; exact hh
  have kb : kK (wN S 104 10) b = 5 ∨ kK (wN S 104 10) b = 7 ∨ kK (wN S 104 10) b = 8 ∨ kK (wN S 104 10) b = 9 ∨ kK (wN S 104 10) b = 10 := by rw [kK_wN, if_neg (by omega)]; exact hb
  have kz : kK (wN S 104 10) (kZ S) = 104 := by rw [kK_wN, if_pos rfl]
  have kn : kN (wN S 104 10) (kZ S) = 10 := by rw [kN_wN, if_pos rfl]
  simp only [true_and, show 10 ≤ 20 by decide, kh, if_true, Option.bind_some, wQ_sI, kK_sI, kN_sI, wI_sI, kK_wQ, kN_wQ, kz, kn, kb, kZ_sI, show (nI 0).toNatClampNeg = 0 by decide +kernel, show ¬ (nI 0 < 0 ∨ 10 ≤ 0) by decide +kernel, not_false_eq_true, nI_1]
/-- an empty list, with its array -/
theorem nw_list2 {S : PS} {I : Nat → Nat → Int32} (hg : gI S) : ∃ S' I' e0, f_Jx4a65c_init_da8c8 (sI (wN S 3 0) (nz I (kZ S))) (kZ S) = some (sI S' I') ∧ gI S' ∧ Xn S S' ∧ In S I I' ∧ (∀ as, dL S' (kZ S) 0 as) ∧ I' (kZ S) 2 = nI 0 ∧ kZ S' = kZ S + 1 ∧ kQ S' (kZ S) 1 = some e0 ∧ kK S' e0 = 105 ∧ kN S' e0 = 0 ∧ kQ S' 0 0 = some e0 := by
  obtain ⟨S', I', h1, h2, h3, h4, h5, h6, h7, h8, h9⟩ := nw_list (I := I) hg
  obtain ⟨d1, d2, arr, d3, d4, d5, d6⟩ := h5 (fun _ => 0)
  have hk := h8 arr d3
  rcases d5 with ⟨e1, -, -⟩ | ⟨e1, -, e3⟩
  · rw [hk] at e1; cases e1
  · obtain ⟨e0, q1, q2, q3, q4⟩ := h2.1.2.2
    rw [e3] at q1
    cases q1
    exact ⟨S', I', arr, h1, h2, h3, h4, h5, h6, h7, d3, hk, q3, e3⟩
theorem dL.o {S S' : PS} {a j h n : Nat} {as : Nat → Nat} (hP : PF S) (hx : Xo S S' a j) (h0 : kK S a ≠ 0 ∧ kK S a ≠ 105) (h3 : kK S a ≠ 3) (h104 : kK S a ≠ 104) (hd : dL S h n as) : dL S' h n as := by
  obtain ⟨d1, d2, arr, d3, d4, d5, d6⟩ := hd
  have hh : h < kZ S := hP.lt (by rw [d1]; decide)
  obtain ⟨a1, a2, a3⟩ := hx.2 h hh
  have k0 : kK S 0 = 0 ∨ kK S 0 = 105 := by obtain ⟨e0, -, -, -, z⟩ := hP.2.2; exact z
  refine ⟨a1.trans d1, d2, arr, (a3 1 (Or.inl (fun z => h3 (by rw [← z]; exact d1)))).trans d3, fun j hj => ?_, ?_, fun i j hi hj h1 h2 => d6 i j hi hj h1 (by
    obtain ⟨e1, e2, e3⟩ := d4 i hi
    rw [(hx.2 (as i) (hP.2.1 arr i (as i) (by rw [e1]; decide) e3)).1] at h2
    exact h2)⟩
  · obtain ⟨e1, e2, e3⟩ := d4 j hj
    obtain ⟨b1, b2, b3⟩ := hx.2 arr (hP.lt (by rw [e1]; decide))
    exact ⟨b1.trans e1, by rw [b2]; exact e2, (b3 j (Or.inl (fun z => h104 (by rw [← z]; exact e1)))).trans e3⟩
  · rcases d5 with ⟨e1, e2, e3⟩ | ⟨e1, e2, e3⟩
    · obtain ⟨b1, b2, b3⟩ := hx.2 arr (hP.lt (by rw [e1]; decide))
      exact Or.inl ⟨b1.trans e1, by rw [b2]; exact e2, by rw [b2]; exact e3⟩
    · obtain ⟨b1, b2, b3⟩ := hx.2 arr (hP.lt (by rw [e1]; decide))
      exact Or.inr ⟨b1.trans e1, e2, ((hx.2 0 (by omega)).2.2 0 (Or.inl (fun z => z0_ne k0 h0.1 h0.2 z.symm))).trans e3⟩
theorem x0_init {S : PS} {I : Nat → Nat → Int32} (hg : gI S) {a : Nat} (ha : kK S a = 4) : ∃ S' I', f_X0_init (sI S I) a = some (sI S' I') ∧ gI S' ∧ Xo S S' a 0 ∧ kZ S' = kZ S + 4 ∧ In S I I' ∧ kQ S' a 0 = some (kZ S) ∧ kQ S' a 1 = some (kZ S + 1) ∧ kQ S' a 2 = some (kZ S + 2) ∧ (∀ as, dL S' (kZ S) 0 as) ∧ (∀ as, dL S' (kZ S + 1) 0 as) ∧ I' (kZ S) 2 = nI 0 ∧ I' (kZ S + 1) 2 = nI 0 ∧ rS S' (kZ S + 2) 160 ∧ rL I' (kZ S + 2) [] := by
  have hlt := hg.1.lt (show kK S a ≠ 0 by rw [ha]; decide)
  unfold f_X0_init
  rw [show (160 : Int32) = nI 160 from rfl]
  simp only [lt, kZ_sI, wN_sI]
  obtain ⟨S1, I1, e0, e1, g1, x1, i1, d1, n1, z1, -⟩ := nw_list2 (I := I) hg
  have k1 : kK S1 a = 4 := ((x1.2 a hlt).1).trans ha
  rw [e1]
  simp only [Option.bind_some, kK_sI, k1, if_true, wQ_sI, kZ_sI, wN_sI]
  have g2 := g1.set (a := a) (j := 0) (b := kZ S) (by rw [k1]; decide) (by rw [k1]; decide) (by rw [k1]; decide) (by omega)
  have k2 : kK (wQ S1 a 0 (some (kZ S))) a = 4 := k1
  have zz2 : kZ (wQ S1 a 0 (some (kZ S))) = kZ S + 1 := z1
  obtain ⟨S3, I3, e9, e3, g3, x3, i3, d3, n3, z3, -⟩ := nw_list2 (I := I1) g2
  have k3 : kK S3 a = 4 := ((x3.2 a (by omega)).1).trans k2
  rw [e3]
  simp only [Option.bind_some, kK_sI, k3, if_true, wQ_sI]
  have g4 := g3.set (a := a) (j := 1) (b := kZ (wQ S1 a 0 (some (kZ S)))) (by rw [k3]; decide) (by rw [k3]; decide) (by rw [k3]; decide) (by omega)
  have k4 : kK (wQ S3 a 1 (some (kZ (wQ S1 a 0 (some (kZ S)))))) a = 4 := k3
  have zz4 : kZ (wQ S3 a 1 (some (kZ (wQ S1 a 0 (some (kZ S)))))) = kZ S + 2 := by show kZ S3 = _; omega
  obtain ⟨I5, e5, t5, w5, r5, i5⟩ := st_row (I := I3) g4 k4 (by decide) 2 (n := 160) (by decide)
  rw [e5]
  simp only [Option.bind_some, kK_sI, t5, if_true, w5]
  generalize hB : wQ S3 a 1 (some (kZ (wQ S1 a 0 (some (kZ S))))) = B at *
  have g5 := gI_oR (j := 2) (c := 160) g4 k4 (by decide) (by decide) (by decide)
  have xo : Xo B (oR B a 2 160) a 2 := Xo_oR B a 2 160
  have xB : Xo S3 B a 1 := by rw [← hB]; exact Xo_wQ _ _ _ _
  have x2 : Xo S1 (wQ S1 a 0 (some (kZ S))) a 0 := Xo_wQ _ _ _ _
  have all : Xo S (oR B a 2 160) a 0 := ((x1.o a 0).tr x2 (Nat.le_refl _)).tr (((x3.o a 1).tr xB (Nat.le_refl _)).tr xo (by decide)) (by decide)
  have q0 : kQ (wQ S1 a 0 (some (kZ S))) a 0 = some (kZ S) := by rw [kQ_wQ, if_pos ⟨rfl, rfl⟩]
  have q1 : kQ B a 1 = some (kZ S + 1) := by rw [← hB, kQ_wQ, if_pos ⟨rfl, rfl⟩, zz2]
  have hBlt : a < kZ B := by omega
  refine ⟨oR B a 2 160, I5, rfl, g5, all, by rw [kZ_oR]; omega, fun c i hc => by rw [i5 c i (by omega), i3 c i (by omega), i1 c i hc], ?_, ?_, ?_, fun as => ?_, fun as => ?_, ?_, ?_, ?_, ?_⟩
  · rw [(xo.2 a hBlt).2.2 0 (Or.inr (by decide)), (xB.2 a (by omega)).2.2 0 (Or.inr (by decide)), (x3.2 a (by omega)).2.2 0, q0]
  · rw [(xo.2 a hBlt).2.2 1 (Or.inr (by decide)), q1]
  · rw [kQ_oR hBlt, if_pos ⟨rfl, rfl⟩, zz4]
  · exact ((((d1 as).o g1.1 x2 (by rw [k1]; decide) (by rw [k1]; decide) (by rw [k1]; decide)).o g2.1 (x3.o a 0) (by rw [k2]; decide) (by rw [k2]; decide) (by rw [k2]; decide)).o g3.1 xB (by rw [k3]; decide) (by rw [k3]; decide) (by rw [k3]; decide)).o g4.1 xo (by rw [k4]; decide) (by rw [k4]; decide) (by rw [k4]; decide)
  · rw [zz2] at d3
    exact ((d3 as).o g3.1 xB (by rw [k3]; decide) (by rw [k3]; decide) (by rw [k3]; decide)).o g4.1 xo (by rw [k4]; decide) (by rw [k4]; decide) (by rw [k4]; decide)
  · rw [i5 _ _ (by omega), i3 _ _ (by omega)]; exact n1
  · rw [zz2] at n3
    rw [i5 _ _ (by omega)]; exact n3
  · have := rS_oR (j := 2) (c := 160) hBlt (by decide)
    rw [zz4] at this
    exact this
  · rw [zz4] at r5
    exact r5
