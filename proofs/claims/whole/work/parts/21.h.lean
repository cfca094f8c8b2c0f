/-! a new rule, whole -/
theorem cond_ok {c : Int32} (h : c = 97 ∨ c = 115 ∨ c = 109) : vp_nar .char c = c ∧ fits .char (.int c) = true := by
  rcases h with rfl | rfl | rfl <;> decide +kernel
theorem nw_rule {S : PS} {I : Nat → Nat → Int32} (hg : gI S) {x h c : Nat} {ty : List Int32} (hs : rS S h c) (hl : rL I h ty) (hc : ty.length ≤ c) (h20 : ty.length ≤ 20) (hx : x + 79 ≤ kZ S) (hp : isPat ty = true) {cond : Int32} (hcond : cond = 97 ∨ cond = 115 ∨ cond = 109) (inq : Bool) (rank : Nat) : ∃ S' I', f_X6_init (sI (wN S 10 0) (nz I (kZ S))) (kZ S) h cond (bi inq) (nI rank) = some (sI S' I') ∧ gI S' ∧ Xn S S' ∧ In S I I' ∧ dR S' I' x (kZ S) ((iK ty (ty.length + 1)).1, cond, inq, rank, [], []) := by
  have hB := hg.new 10 0 (Or.inr trivial)
  have k10 : kK (wN S 10 0) (kZ S) = 10 := by rw [kK_wN, if_pos rfl]
  have hz : kZ (wN S 10 0) = kZ S + 1 := rfl
  have hnew : ∀ q, kZ S ≤ q → kK (wN S 10 0) q = 10 → q = kZ S := fun q hq h9 => by
    rw [kK_wN] at h9
    split at h9
    · assumption
    · rw [hg.1.1 q hq] at h9; cases h9
  -- the list of items
  obtain ⟨S1, J1, e1, g1, x1, i1, d1, n1, z1, a1, o1⟩ := nw_list (I := nz I (kZ S)) hB
  rw [hz] at e1 d1 n1 z1 a1
  unfold f_X6_init
  simp only [lt, kZ_sI, wN_sI, hz]
  rw [e1]
  have k1 : kK S1 (kZ S) = 10 := ((x1.2 (kZ S) (by rw [hz]; omega)).1).trans k10
  simp only [Option.bind_some, kK_sI, k1, if_true, wQ_sI]
  have g2 : gI (wQ S1 (kZ S) 0 (some (kZ S + 1))) := g1.rule k1 (by omega) (no_ref hB.1 x1 (by rw [hz]; exact Nat.le_refl _) o1)
  have d2 : ∀ as, dL (wQ S1 (kZ S) 0 (some (kZ S + 1))) (kZ S + 1) 0 as := fun as => (d1 as).xm (I := J1) g1.1 (Xm_wQ k1)
  have x2 : Xn S (wQ S1 (kZ S) 0 (some (kZ S + 1))) := Xn_wQ10 (Xn_wN.tr x1) (Nat.le_refl _)
  have i2 : In S I J1 := fun a j ha => by rw [i1 a j (by rw [hz]; omega), nz_ne (by omega)]
  have o2 : ∀ q, kZ S ≤ q → kK (wQ S1 (kZ S) 0 (some (kZ S + 1))) q = 10 → q = kZ S := fun q hq h9 => by
    by_cases hq2 : q < kZ S + 1
    · omega
    · exact absurd h9 (o1 q (by rw [hz]; omega))
  obtain ⟨S3, J3, e3, g3, x3, i3, k3, q3, d3, o3⟩ := nw_items hg hs hl hc h20 hx (a := kZ S) (z1 := kZ S + 1) g2 x2 i2 (Nat.le_refl _) k1 (by omega) (by rw [kQ_wQ, if_pos ⟨rfl, rfl⟩]) d2 n1 (fun q hq h104 => by
    rw [kQ_wQ, if_neg (by omega)] at hq
    have := a1 q hq
    rw [kK_wQ, this] at h104
    cases h104) o2 hp
  rw [e3]
  have hzz : kZ S < kZ S3 := g3.1.lt (by rw [k3]; decide)
  simp only [Option.bind_some, kK_sI, k3, if_true, if_pos (cond_ok hcond), wI_sI, bi_01, kZ_sI, wN_sI]
  generalize hJ4 : up (up (up J3 (kZ S) 1 cond) (kZ S) 2 (bi inq)) (kZ S) 3 (nI rank) = J4
  have m4 : Xm S3 S3 J3 J4 := by
    rw [← hJ4]
    exact ((Xm_up k3).tr (Xm_up k3)).tr (Xm_up k3)
  have j1 : J4 (kZ S) 1 = cond := by rw [← hJ4, up_ne (Or.inr (by decide)), up_ne (Or.inr (by decide)), up_eq]
  have j2 : J4 (kZ S) 2 = bi inq := by rw [← hJ4, up_ne (Or.inr (by decide)), up_eq]
  have j3 : J4 (kZ S) 3 = nI rank := by rw [← hJ4, up_eq]
  have i4 : In S I J4 := fun a j ha => by rw [← hJ4, up_ne (Or.inl (by omega)), up_ne (Or.inl (by omega)), up_ne (Or.inl (by omega))]; exact i3 a j ha
  -- the exceptions
  obtain ⟨S5, J5, e5, g5, x5, i5, d5, n5, z5, a5, o5⟩ := nw_list (I := J4) g3
  rw [e5]
  have k5 : kK S5 (kZ S) = 10 := ((x5.2 (kZ S) hzz).1).trans k3
  simp only [Option.bind_some, kK_sI, k5, if_true, wQ_sI, kZ_sI, wN_sI]
  have g6 : gI (wQ S5 (kZ S) 4 (some (kZ S3))) := g5.rule k5 (by omega) (no_ref g3.1 x5 (Nat.le_refl _) o5)
  have k6 : kK (wQ S5 (kZ S) 4 (some (kZ S3))) (kZ S) = 10 := k5
  have m6 : Xm S3 (wQ S5 (kZ S) 4 (some (kZ S3))) J4 J5 := (x5.m i5).tr (Xm_wQ k5)
  -- the suggestions
  obtain ⟨S7, J7, e7, g7, x7, i7, d7, n7, z7, a7, o7⟩ := nw_list (I := J5) g6
  rw [e7]
  have hz6 : kZ (wQ S5 (kZ S) 4 (some (kZ S3))) = kZ S3 + 1 := z5
  have k7 : kK S7 (kZ S) = 10 := ((x7.2 (kZ S) (by omega)).1).trans k6
  simp only [Option.bind_some, kK_sI, k7, if_true, wQ_sI]
  have g8 : gI (wQ S7 (kZ S) 5 (some (kZ (wQ S5 (kZ S) 4 (some (kZ S3)))))) := g7.rule k7 (by omega) (no_ref g6.1 x7 (Nat.le_refl _) o7)
  have m8 : Xm (wQ S5 (kZ S) 4 (some (kZ S3))) (wQ S7 (kZ S) 5 (some (kZ (wQ S5 (kZ S) 4 (some (kZ S3)))))) J5 J7 := (x7.m i7).tr (Xm_wQ k7)
  have xs : Xn S (wQ S7 (kZ S) 5 (some (kZ (wQ S5 (kZ S) 4 (some (kZ S3)))))) := Xn_wQ10 ((Xn_wQ10 (x3.tr x5) (Nat.le_refl _)).tr x7) (Nat.le_refl _)
  have q7 : ∀ j, j ≠ 5 → kQ (wQ S7 (kZ S) 5 (some (kZ (wQ S5 (kZ S) 4 (some (kZ S3)))))) (kZ S) j = if j = 4 then some (kZ S3) else kQ S3 (kZ S) j := fun j hj => by
    rw [kQ_wQ, if_neg (fun z => hj z.2), (x7.2 (kZ S) (by omega)).2.2 j, kQ_wQ, (x5.2 (kZ S) hzz).2.2 j]
    by_cases e : j = 4
    · rw [if_pos ⟨rfl, e⟩, if_pos e]
    · rw [if_neg (fun z => e z.2), if_neg e]
  have jj : ∀ j, J7 (kZ S) j = J4 (kZ S) j := fun j => by rw [i7 _ _ (by omega), i5 _ _ hzz]
  refine ⟨_, J7, rfl, g8, xs, (i4.tr x3.1 i5).tr (Nat.le_trans x3.1 (by omega)) i7, k7, hx, ?_, ?_, ?_, ⟨kZ S + 1, by rw [q7 0 (by decide), if_neg (by decide)]; exact q3, ((d3.xm g3.1 m4).xm g3.1 m6).xm g6.1 m8⟩, ⟨kZ S3, by rw [q7 4 (by decide), if_pos rfl], fun _ => 0, ?_, fun j v hv => by simp at hv⟩, ⟨kZ S3 + 1, by rw [kQ_wQ, if_pos ⟨rfl, rfl⟩, hz6], fun _ => 0, ?_, fun j v hv => by simp at hv⟩⟩
  · rw [jj]; exact j1
  · rw [jj]; exact j2
  · rw [jj]; exact j3
  · exact dD.xm g6.1 m8 ⟨(d5 _).xm (I := J5) g5.1 (Xm_wQ k5), n5, by omega⟩
  · rw [hz6] at d7 n7
    exact ⟨(d7 _).xm (I := J7) g7.1 (Xm_wQ k7), n7, by omega⟩
