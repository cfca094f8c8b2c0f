/-! the model is made -/
theorem xJ_lt {j : Nat} (h : xJ j ≠ 0) : j < 45 := by
  unfold xJ at h
  split at h <;> first | omega | exact absurd rfl h
theorem xJ_inj {j j' : Nat} (h : xJ j = xJ j') (h0 : xJ j ≠ 0) : j = j' := by
  have e : ∀ a, a < 45 → ∀ b, b < 45 → xJ a = xJ b → xJ a ≠ 0 → a = b := by decide +kernel
  exact e j (xJ_lt h0) j' (xJ_lt (by rw [← h]; exact h0)) h h0
theorem xJ_le (j : Nat) : xJ j ≤ 37 := by
  unfold xJ
  split <;> decide
/-- k arrays are made -/
def mp (S0 : PS) (I0 : Nat → Nat → Int32) (S : PS) (I : Nat → Nat → Int32) (m k : Nat) : Prop := gI S ∧ kZ S0 = m ∧ kZ S = m + k + 1 ∧ (∀ i, i ≤ k → kK S (m + i) = xK i) ∧ (∀ i, 1 ≤ i → i ≤ k → kN S (m + i) = xN i) ∧ (∀ j, xJ j ≠ 0 → xJ j ≤ k → kQ S m j = some (m + xJ j)) ∧ (∀ i j, i ≤ k → I (m + i) j = 0) ∧ Xn S0 S ∧ In S0 I0 I
/-- what a program of the constructor ends in -/
def ini (S0 : PS) (I0 : Nat → Nat → Int32) (m : Nat) (o : Option PS) : Prop := ∃ S' I', o = some (sI S' I') ∧ gI S' ∧ kZ S' = m + 38 ∧ mS S' m ∧ Xn S0 S' ∧ In S0 I0 I' ∧ ∃ G, I' = mw I' m G ∧ mT G T0
theorem s_arr {S0 : PS} {I0 : Nat → Nat → Int32} {S : PS} {I : Nat → Nat → Int32} {m k : Nat} (h : mp S0 I0 S I m k) {N : Int32} {n kd j : Nat} {K : PS → Option PS} (hN : ¬ N < 0 ∧ N.toNatClampNeg ≤ n) (h1 : kd = xK (k + 1)) (h2 : N.toNatClampNeg = xN (k + 1)) (h3 : xJ j = k + 1) (hK : ∀ S' I', mp S0 I0 S' I' m (k + 1) → ini S0 I0 m (K (sI S' I'))) : ini S0 I0 m (if ¬ N < 0 ∧ N.toNatClampNeg ≤ n then (lt (kZ (sI S I)) fun a => lt (wN (sI S I) kd N.toNatClampNeg) fun S4 => if kK S4 m = 14 then (lt (wQ S4 m j (some a)) K) else none) else none) := by
  obtain ⟨g, z0, z1, p1, p2, p3, p4, p5, p6⟩ := h
  have hk0 : kK S m = 14 := p1 0 (Nat.zero_le _)
  have hk1 : kK (wN S kd N.toNatClampNeg) m = 14 := by rw [kK_wN, if_neg (by omega)]; exact hk0
  rw [if_pos hN, lt_eq, lt_eq, wN_sI, if_pos (show kK (sI (wN S kd N.toNatClampNeg) (nz I (kZ S))) m = 14 from hk1), lt_eq, wQ_sI, show kZ (sI S I) = kZ S from rfl]
  refine hK _ _ ⟨(g.new kd _ (Or.inr trivial)).set (by rw [hk1]; decide) (by rw [hk1]; decide) (by rw [hk1]; decide) (show kZ S < kZ S + 1 by omega), z0, ?_, fun i hi => ?_, fun i hi1 hi2 => ?_, fun j' h4 h5 => ?_, fun i j' hi => ?_, Xn_wQ10 (p5.tr Xn_wN) (by omega), fun a j' ha => ?_⟩
  · show kZ S + 1 = _
    omega
  · show kK (wN S kd N.toNatClampNeg) (m + i) = _
    rw [kK_wN]
    by_cases e : i = k + 1
    · rw [if_pos (by omega), e]; exact h1
    · rw [if_neg (by omega)]; exact p1 i (by omega)
  · show kN (wN S kd N.toNatClampNeg) (m + i) = _
    rw [kN_wN]
    by_cases e : i = k + 1
    · rw [if_pos (by omega), e]; exact h2
    · rw [if_neg (by omega)]; exact p2 i hi1 (by omega)
  · rw [kQ_wQ]
    by_cases e : j' = j
    · rw [if_pos ⟨rfl, e⟩, e, h3, z1]; rfl
    · rw [if_neg (fun y => e y.2), kQ_wN, if_neg (by omega)]
      refine p3 j' h4 ?_
      have : xJ j' ≠ k + 1 := fun y => e (xJ_inj (y.trans h3.symm) h4)
      omega
  · show (if m + i = kZ S then 0 else I (m + i) j') = 0
    by_cases e : i = k + 1
    · rw [if_pos (by omega)]
    · rw [if_neg (by omega)]; exact p4 i j' (by omega)
  · show (if a = kZ S then 0 else I a j') = I0 a j'
    rw [if_neg (by have := p5.1; omega)]
    exact p6 a j' ha
theorem mT_T0 {G : Nat → Nat → Int32} (h : ∀ k j, k ≤ 37 → k ≠ 26 → G k j = 0) (h26 : ∀ d, d < 4 → G 26 (d * 161) = 1) : mT G T0 := by
  refine ⟨⟨h _ _ (by decide) (by decide), fun j hj => absurd hj (Nat.not_lt_zero _)⟩, ⟨h _ _ (by decide) (by decide), fun j hj => absurd hj (Nat.not_lt_zero _), fun j hj => absurd hj (Nat.not_lt_zero _)⟩, fun d hd p hp => ?_, ⟨h _ _ (by decide) (by decide), fun r v hv => by simp [T0] at hv, fun r _ _ => ⟨h _ _ (by decide) (by decide), h _ _ (by decide) (by decide)⟩⟩, ⟨h _ _ (by decide) (by decide), fun q p hp => by simp [T0] at hp⟩, fun d hd => ⟨fun r hr => ?_, fun r v hv => ?_, h _ _ (by decide) (by decide), h _ _ (by decide) (by decide), fun i g hg => by simp [T0] at hg⟩⟩
  · have hp0 : p = 0 := by
      have : p < 1 := hp
      omega
    subst hp0
    rw [Nat.add_zero, h26 d hd]
    show (1 : Int32) = bi (tb (la [15] 0) d)
    rw [show la [15] 0 = (15 : Int32) from rfl, tb_15 hd]; rfl
  · rw [h _ _ (by decide) (by decide)]
    show (0 : Int32) = bi (tb 0 r)
    have : tb 0 r = false := by
      unfold tb
      simp
    rw [this]; rfl
  · rw [h _ _ (by decide) (by decide)]
    have hv : (List.replicate 12 0)[r]? = some v := hv
    rw [List.getElem?_replicate] at hv
    split at hv
    · cases hv; rfl
    · cases hv
theorem s_end {S0 : PS} {I0 : Nat → Nat → Int32} {S : PS} {I : Nat → Nat → Int32} {m : Nat} (h : mp S0 I0 S I m 37) : ini S0 I0 m (lt (fun (S299 : PS) => some S299) fun k300 => (iter (fun (v : Int32 × PS) => f_X10_init_b318 m v.1 v.2) kF (0, sI S I)).bind (fun (v : PS) => k300 v)) := by
  obtain ⟨g, z0, z1, p1, p2, p3, p4, p5, p6⟩ := h
  have hm : mS S m := ⟨p1, p2, fun j hj => p3 j hj (xJ_le j)⟩
  obtain ⟨z, e1, I', rfl, q1, q2⟩ := it_up (b := fun (v : Int32 × PS) => f_X10_init_b318 m v.1 v.2) 4
    (P := fun k s => ∃ I', s = (nI k, sI S I') ∧ (∀ a j, a ≠ m + 26 → I' a j = I a j) ∧ ∀ d, d < k → I' (m + 26) (d * 161) = 1)
    (Q := fun z => ∃ I', z = sI S I' ∧ (∀ a j, a ≠ m + 26 → I' a j = I a j) ∧ ∀ d, d < 4 → I' (m + 26) (d * 161) = 1)
    (fun k s hk ⟨I', e, q1, q2⟩ => by
      subst e
      refine Or.inl ⟨(nI (k + 1), sI S (up I' (m + 26) (k * 161) 1)), ?_, _, rfl, fun a j ha => (up_ne (Or.inl ha)).trans (q1 a j ha), fun d hd => ?_⟩
      · simp only
        unfold f_X10_init_b318
        rw [if_neg (show ¬ (4 : Int32) ≤ nI k from fun y => absurd ((nI_leI (show 4 < 2 ^ 31 by decide) (show k < 2 ^ 31 by omega)).mp y) (by omega)), if_pos (show kK (sI S I') m = 14 from xK_0 hm), show kQ (sI S I') m 30 = some (m + 26) from xQ_26 hm, Option.bind_some, if_pos (show kK (sI S I') (m + 26) = 103 from xK_26 hm), x_mul161, if_pos (show ¬ (nI (k * 161) < 0 ∨ kN (sI S I') (m + 26) ≤ (nI (k * 161)).toNatClampNeg) from by rw [show kN (sI S I') (m + 26) = 644 from xN_26 hm]; exact bd (by omega) (by omega)), nI_clamp (show k * 161 < 2 ^ 31 by omega), lt_eq, lt_eq, wI_sI, nI_1]
        rfl
      · by_cases e : d = k
        · rw [e, up_eq]
        · rw [up_ne (Or.inr (by omega))]; exact q2 d (by omega))
    (fun s ⟨I', e, q1, q2⟩ => by
      subst e
      refine ⟨_, ?_, I', rfl, q1, q2⟩
      simp only
      unfold f_X10_init_b318
      exact if_pos (by decide +kernel))
    0 (0, sI S I) ⟨I, rfl, fun _ _ _ => rfl, fun d hd => absurd hd (Nat.not_lt_zero _)⟩ (Nat.zero_le _) kF (by unfold kF; omega)
  rw [lt_eq, e1]
  refine ⟨S, I', rfl, g, by omega, hm, p5, fun a j ha => ?_, fun k j => I' (m + k) j, ?_, ?_⟩
  · rw [q1 a j (by omega)]; exact p6 a j ha
  · funext a j
    unfold mw
    by_cases e : m ≤ a ∧ a ≤ m + 37
    · rw [if_pos e]
      dsimp only
      rw [show m + (a - m) = a by omega]
    · rw [if_neg e]
  · exact mT_T0 (fun k j hk h26 => by rw [q1 _ _ (by omega)]; exact p4 k j hk) q2
theorem x10_init {S : PS} {I : Nat → Nat → Int32} (hg : gI S) : ini S I (kZ S) (f_X10_init (sI (wN S 14 0) (nz I (kZ S))) (kZ S)) := by
  have h0 : mp S I (wN S 14 0) (nz I (kZ S)) (kZ S) 0 := by
    refine ⟨hg.new 14 0 (Or.inr trivial), rfl, rfl, fun i hi => ?_, fun i h1 h2 => absurd h1 (by omega), fun j h1 h2 => absurd h1 (by omega), fun i j hi => ?_, Xn_wN, fun a j ha => ?_⟩
    · have : i = 0 := by omega
      subst this
      rw [Nat.add_zero, kK_wN, if_pos rfl]; rfl
    · have : i = 0 := by omega
      subst this
      exact if_pos rfl
    · show (if a = kZ S then 0 else I a j) = I a j
      rw [if_neg (by omega)]
  generalize kZ S = m at h0 ⊢
  generalize wN S 14 0 = S9 at h0 ⊢
  generalize nz I m = I9 at h0 ⊢
  unfold f_X10_init
  refine s_arr h0 (N := 161) (n := 161) (kd := 102) (j := 1) (by decide +kernel) rfl (by decide +kernel) rfl (fun S100 I100 h1 => ?_)
  refine s_arr h1 (N := 161) (n := 161) (kd := 101) (j := 2) (by decide +kernel) rfl (by decide +kernel) rfl (fun S101 I101 h2 => ?_)
  refine s_arr h2 (N := 20) (n := 20) (kd := 102) (j := 4) (by decide +kernel) rfl (by decide +kernel) rfl (fun S102 I102 h3 => ?_)
  refine s_arr h3 (N := 12) (n := 12) (kd := 101) (j := 7) (by decide +kernel) rfl (by decide +kernel) rfl (fun S103 I103 h4 => ?_)
  refine s_arr h4 (N := 720) (n := 720) (kd := 102) (j := 8) (by decide +kernel) rfl (by decide +kernel) rfl (fun S104 I104 h5 => ?_)
  refine s_arr h5 (N := 36) (n := 36) (kd := 101) (j := 9) (by decide +kernel) rfl (by decide +kernel) rfl (fun S105 I105 h6 => ?_)
  refine s_arr h6 (N := 36) (n := 36) (kd := 101) (j := 10) (by decide +kernel) rfl (by decide +kernel) rfl (fun S106 I106 h7 => ?_)
  refine s_arr h7 (N := 12) (n := 12) (kd := 102) (j := 11) (by decide +kernel) rfl (by decide +kernel) rfl (fun S107 I107 h8 => ?_)
  refine s_arr h8 (N := 12) (n := 12) (kd := 103) (j := 12) (by decide +kernel) rfl (by decide +kernel) rfl (fun S108 I108 h9 => ?_)
  refine s_arr h9 (N := 12) (n := 12) (kd := 101) (j := 13) (by decide +kernel) rfl (by decide +kernel) rfl (fun S109 I109 h10 => ?_)
  refine s_arr h10 (N := 12) (n := 12) (kd := 101) (j := 14) (by decide +kernel) rfl (by decide +kernel) rfl (fun S110 I110 h11 => ?_)
  refine s_arr h11 (N := 720) (n := 720) (kd := 102) (j := 15) (by decide +kernel) rfl (by decide +kernel) rfl (fun S111 I111 h12 => ?_)
  refine s_arr h12 (N := 36) (n := 36) (kd := 101) (j := 16) (by decide +kernel) rfl (by decide +kernel) rfl (fun S112 I112 h13 => ?_)
  refine s_arr h13 (N := 12) (n := 12) (kd := 101) (j := 17) (by decide +kernel) rfl (by decide +kernel) rfl (fun S113 I113 h14 => ?_)
  refine s_arr h14 (N := 480) (n := 480) (kd := 102) (j := 18) (by decide +kernel) rfl (by decide +kernel) rfl (fun S114 I114 h15 => ?_)
  refine s_arr h15 (N := 24) (n := 24) (kd := 101) (j := 19) (by decide +kernel) rfl (by decide +kernel) rfl (fun S115 I115 h16 => ?_)
  refine s_arr h16 (N := 160) (n := 160) (kd := 102) (j := 21) (by decide +kernel) rfl (by decide +kernel) rfl (fun S116 I116 h17 => ?_)
  refine s_arr h17 (N := 8) (n := 8) (kd := 101) (j := 22) (by decide +kernel) rfl (by decide +kernel) rfl (fun S117 I117 h18 => ?_)
  refine s_arr h18 (N := 48) (n := 48) (kd := 103) (j := 23) (by decide +kernel) rfl (by decide +kernel) rfl (fun S118 I118 h19 => ?_)
  refine s_arr h19 (N := 48) (n := 48) (kd := 101) (j := 24) (by decide +kernel) rfl (by decide +kernel) rfl (fun S119 I119 h20 => ?_)
  refine s_arr h20 (N := 4) (n := 4) (kd := 101) (j := 25) (by decide +kernel) rfl (by decide +kernel) rfl (fun S120 I120 h21 => ?_)
  refine s_arr h21 (N := 4) (n := 4) (kd := 101) (j := 26) (by decide +kernel) rfl (by decide +kernel) rfl (fun S121 I121 h22 => ?_)
  refine s_arr h22 (N := 80) (n := 80) (kd := 101) (j := 27) (by decide +kernel) rfl (by decide +kernel) rfl (fun S122 I122 h23 => ?_)
  refine s_arr h23 (N := 80) (n := 80) (kd := 101) (j := 28) (by decide +kernel) rfl (by decide +kernel) rfl (fun S123 I123 h24 => ?_)
  refine s_arr h24 (N := 80) (n := 80) (kd := 101) (j := 29) (by decide +kernel) rfl (by decide +kernel) rfl (fun S124 I124 h25 => ?_)
  refine s_arr h25 (N := 644) (n := 644) (kd := 103) (j := 30) (by decide +kernel) rfl (by decide +kernel) rfl (fun S125 I125 h26 => ?_)
  refine s_arr h26 (N := 160) (n := 160) (kd := 101) (j := 32) (by decide +kernel) rfl (by decide +kernel) rfl (fun S126 I126 h27 => ?_)
  refine s_arr h27 (N := 160) (n := 160) (kd := 101) (j := 33) (by decide +kernel) rfl (by decide +kernel) rfl (fun S127 I127 h28 => ?_)
  refine s_arr h28 (N := 160) (n := 160) (kd := 103) (j := 34) (by decide +kernel) rfl (by decide +kernel) rfl (fun S128 I128 h29 => ?_)
  refine s_arr h29 (N := 161) (n := 161) (kd := 101) (j := 35) (by decide +kernel) rfl (by decide +kernel) rfl (fun S129 I129 h30 => ?_)
  refine s_arr h30 (N := 161) (n := 161) (kd := 103) (j := 36) (by decide +kernel) rfl (by decide +kernel) rfl (fun S130 I130 h31 => ?_)
  refine s_arr h31 (N := 2800) (n := 2800) (kd := 101) (j := 38) (by decide +kernel) rfl (by decide +kernel) rfl (fun S131 I131 h32 => ?_)
  refine s_arr h32 (N := 2800) (n := 2800) (kd := 101) (j := 39) (by decide +kernel) rfl (by decide +kernel) rfl (fun S132 I132 h33 => ?_)
  refine s_arr h33 (N := 2800) (n := 2800) (kd := 101) (j := 40) (by decide +kernel) rfl (by decide +kernel) rfl (fun S133 I133 h34 => ?_)
  refine s_arr h34 (N := 2800) (n := 2800) (kd := 101) (j := 41) (by decide +kernel) rfl (by decide +kernel) rfl (fun S134 I134 h35 => ?_)
  refine s_arr h35 (N := 160) (n := 160) (kd := 101) (j := 43) (by decide +kernel) rfl (by decide +kernel) rfl (fun S135 I135 h36 => ?_)
  refine s_arr h36 (N := 200) (n := 200) (kd := 102) (j := 44) (by decide +kernel) rfl (by decide +kernel) rfl (fun S136 I136 h37 => ?_)
  exact s_end h37
