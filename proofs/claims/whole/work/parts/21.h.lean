/-! what stays when new cells come and rules are written -/
def Xm (S S' : PS) (I I' : Nat → Nat → Int32) : Prop := kZ S ≤ kZ S' ∧ ∀ a, a < kZ S → kK S' a = kK S a ∧ kN S' a = kN S a ∧ (kK S a ≠ 10 → (∀ j, kQ S' a j = kQ S a j) ∧ ∀ j, I' a j = I a j)
theorem Xn.m {S S' : PS} {I I' : Nat → Nat → Int32} (h : Xn S S') (hi : In S I I') : Xm S S' I I' := ⟨h.1, fun a ha => ⟨(h.2 a ha).1, (h.2 a ha).2.1, fun _ => ⟨(h.2 a ha).2.2, fun j => hi a j ha⟩⟩⟩
section
variable {S S' : PS} {I I' : Nat → Nat → Int32} {x : Nat}
theorem dW.xm {h : Nat} {w : List Int32} (hP : PF S) (hx : Xm S S' I I') (hd : dW S I x h w) : dW S' I' x h w := by
  obtain ⟨c, ⟨s1, s2, s3, s4, s5⟩, r, q1, q2⟩ := hd
  obtain ⟨a1, a2, a3⟩ := hx.2 h (hP.lt (by rw [s1]; decide))
  obtain ⟨b1, b2, b3⟩ := hx.2 (h + 1) (hP.lt (by rw [s3]; decide))
  have a4 := a3 (by rw [s1]; decide)
  have b4 := b3 (by rw [s3]; decide)
  exact ⟨c, ⟨a1.trans s1, (a4.1 0).trans s2, b1.trans s3, b2.trans s4, s5⟩, ⟨(a4.2 1).trans r.1, fun j hj => (b4.2 j).trans (r.2 j hj)⟩, q1, q2⟩
theorem dI.xm {a : Nat} {v : Iv} (hP : PF S) (hx : Xm S S' I I') (hd : dI S I x a v) : dI S' I' x a v := by
  obtain ⟨d1, d2, d3, d4, h, d5, d6⟩ := hd
  obtain ⟨a1, a2, a3⟩ := hx.2 a (hP.lt (by rw [d1]; decide))
  have a4 := a3 (by rw [d1]; decide)
  exact ⟨a1.trans d1, d2, (a4.2 0).trans d3, (a4.2 1).trans d4, h, (a4.1 2).trans d5, d6.xm hP hx⟩
theorem dL.xm {h n : Nat} {as : Nat → Nat} (hP : PF S) (hx : Xm S S' I I') (hd : dL S h n as) : dL S' h n as := by
  obtain ⟨d1, d2, arr, d3, d4, d5⟩ := hd
  have hh : h < kZ S := hP.lt (by rw [d1]; decide)
  obtain ⟨a1, a2, a3⟩ := hx.2 h hh
  have k0 : kK S 0 = 0 := by obtain ⟨e0, -, -, -, z⟩ := hP.2.2; exact z
  refine ⟨a1.trans d1, d2, arr, ((a3 (by rw [d1]; decide)).1 1).trans d3, fun j hj => ?_, ?_⟩
  · obtain ⟨e1, e2, e3⟩ := d4 j hj
    obtain ⟨b1, b2, b3⟩ := hx.2 arr (hP.lt (by rw [e1]; decide))
    exact ⟨b1.trans e1, by rw [b2]; exact e2, ((b3 (by rw [e1]; decide)).1 j).trans e3⟩
  · rcases d5 with ⟨e1, e2, e3⟩ | ⟨e1, e2, e3⟩
    · obtain ⟨b1, b2, b3⟩ := hx.2 arr (hP.lt (by rw [e1]; decide))
      exact Or.inl ⟨b1.trans e1, by rw [b2]; exact e2, by rw [b2]; exact e3⟩
    · obtain ⟨b1, b2, b3⟩ := hx.2 arr (hP.lt (by rw [e1]; decide))
      exact Or.inr ⟨b1.trans e1, e2, (((hx.2 0 (by omega)).2.2 (by rw [k0]; decide)).1 0).trans e3⟩
theorem dD.xm {h n : Nat} {as : Nat → Nat} (hP : PF S) (hx : Xm S S' I I') (hd : dD S I x h n as) : dD S' I' x h n as := by
  have h3 := hd.1.1
  exact ⟨hd.1.xm hP hx, (((hx.2 h (hP.lt (by rw [h3]; decide))).2.2 (by rw [h3]; decide)).2 2).trans hd.2.1, hd.2.2⟩
theorem dIs.xm {h : Nat} {l : List Iv} (hP : PF S) (hx : Xm S S' I I') : dIs S I x h l → dIs S' I' x h l := fun ⟨as, h1, h2⟩ => ⟨as, h1.xm hP hx, fun j v hv => (h2 j v hv).xm hP hx⟩
theorem dWs.xm {h : Nat} {l : List (List Int32)} (hP : PF S) (hx : Xm S S' I I') : dWs S I x h l → dWs S' I' x h l := fun ⟨as, h1, h2⟩ => ⟨as, h1.xm hP hx, fun j v hv => (h2 j v hv).xm hP hx⟩
theorem Xm_wQ {a j b : Nat} (h10 : kK S a = 10) : Xm S (wQ S a j (some b)) I I := ⟨Nat.le_refl _, fun q hq => ⟨rfl, rfl, fun hn => ⟨fun i => by rw [kQ_wQ, if_neg (fun z => hn (by rw [z.1]; exact h10))], fun _ => rfl⟩⟩⟩
theorem Xm_up {a j : Nat} {v : Int32} (h10 : kK S a = 10) : Xm S S I (up I a j v) := ⟨Nat.le_refl _, fun q hq => ⟨rfl, rfl, fun hn => ⟨fun i => rfl, fun i => up_ne (Or.inl (fun z => hn (by rw [z]; exact h10)))⟩⟩⟩
theorem Xm.tr {S'' : PS} {I'' : Nat → Nat → Int32} (h1 : Xm S S' I I') (h2 : Xm S' S'' I' I'') : Xm S S'' I I'' := ⟨Nat.le_trans h1.1 h2.1, fun a ha => by
  obtain ⟨a1, a2, a3⟩ := h1.2 a ha
  obtain ⟨b1, b2, b3⟩ := h2.2 a (Nat.lt_of_lt_of_le ha h1.1)
  exact ⟨b1.trans a1, b2.trans a2, fun hn => ⟨fun j => ((b3 (by rw [a1]; exact hn)).1 j).trans ((a3 hn).1 j), fun j => ((b3 (by rw [a1]; exact hn)).2 j).trans ((a3 hn).2 j)⟩⟩⟩
end
theorem cond_ok {c : Int32} (h : c = 97 ∨ c = 115 ∨ c = 109) : vp_nar .char c = c ∧ fits .char (.int c) = true := by
  rcases h with rfl | rfl | rfl <;> decide +kernel
theorem nw_rule {S : PS} {I : Nat → Nat → Int32} (hg : gI S) {x h c : Nat} {ty : List Int32} (hs : rS S h c) (hl : rL I h ty) (hc : ty.length ≤ c) (h20 : ty.length ≤ 20) (hx : x + 79 ≤ kZ S) (hp : isPat ty = true) {cond : Int32} (hcond : cond = 97 ∨ cond = 115 ∨ cond = 109) (inq : Bool) (rank : Nat) : ∃ S' I', f_X6_init (sI (wN S 10 0) (nz I (kZ S))) (kZ S) h cond (bi inq) (nI rank) = some (sI S' I') ∧ gI S' ∧ Xn S S' ∧ In S I I' ∧ dR S' I' x (kZ S) ((iK ty (ty.length + 1)).1, cond, inq, rank, [], []) := by
  have hB := hg.new 10 0 (Or.inr trivial)
  have k10 : kK (wN S 10 0) (kZ S) = 10 := by rw [kK_wN, if_pos rfl]
  have hz : kZ (wN S 10 0) = kZ S + 1 := rfl
  have hnew : ∀ q, kZ S ≤ q → kK (wN S 10 0) q = 10 → q = kZ S := fun q hq h9 => by
    rw [kK_wN] at h9
    split at h9
    · assumption
    · rw [hg.1.1 q hq] at h9; cases h9
  -- the list of items
  obtain ⟨S1, J1, e1, g1, x1, i1, d1, n1, z1, a1, o1⟩ := nw_list (I := nz I (kZ S)) hB
  rw [hz] at e1 d1 n1 z1 a1
  unfold f_X6_init
  simp only [lt, kZ_sI, wN_sI, hz]
  rw [e1]
  have k1 : kK S1 (kZ S) = 10 := ((x1.2 (kZ S) (by rw [hz]; omega)).1).trans k10
  simp only [Option.bind_some, kK_sI, k1, if_true, wQ_sI]
  have g2 : gI (wQ S1 (kZ S) 0 (some (kZ S + 1))) := g1.rule k1 (by omega) (no_ref hB.1 x1 (by rw [hz]; exact Nat.le_refl _) o1)
  have d2 : ∀ as, dL (wQ S1 (kZ S) 0 (some (kZ S + 1))) (kZ S + 1) 0 as := fun as => (d1 as).xm (I := J1) g1.1 (Xm_wQ k1)
  have x2 : Xn S (wQ S1 (kZ S) 0 (some (kZ S + 1))) := Xn_wQ10 (Xn_wN.tr x1) (Nat.le_refl _)
  have i2 : In S I J1 := fun a j ha => by rw [i1 a j (by rw [hz]; omega), nz_ne (by omega)]
  have o2 : ∀ q, kZ S ≤ q → kK (wQ S1 (kZ S) 0 (some (kZ S + 1))) q = 10 → q = kZ S := fun q hq h9 => by
    by_cases hq2 : q < kZ S + 1
    · omega
    · exact absurd h9 (o1 q (by rw [hz]; omega))
  obtain ⟨S3, J3, e3, g3, x3, i3, k3, q3, d3, o3⟩ := nw_items hg hs hl hc h20 hx (a := kZ S) (z1 := kZ S + 1) g2 x2 i2 (Nat.le_refl _) k1 (by omega) (by rw [kQ_wQ, if_pos ⟨rfl, rfl⟩]) d2 n1 (fun q hq h104 => by
    rw [kQ_wQ, if_neg (by omega)] at hq
    have := a1 q hq
    rw [kK_wQ, this] at h104
    cases h104) o2 hp
  rw [e3]
  have hzz : kZ S < kZ S3 := g3.1.lt (by rw [k3]; decide)
  simp only [Option.bind_some, kK_sI, k3, if_true, if_pos (cond_ok hcond), wI_sI, bi_01, kZ_sI, wN_sI]
  generalize hJ4 : up (up (up J3 (kZ S) 1 cond) (kZ S) 2 (bi inq)) (kZ S) 3 (nI rank) = J4
  have m4 : Xm S3 S3 J3 J4 := by
    rw [← hJ4]
    exact ((Xm_up k3).tr (Xm_up k3)).tr (Xm_up k3)
  have j1 : J4 (kZ S) 1 = cond := by rw [← hJ4, up_ne (Or.inr (by decide)), up_ne (Or.inr (by decide)), up_eq]
  have j2 : J4 (kZ S) 2 = bi inq := by rw [← hJ4, up_ne (Or.inr (by decide)), up_eq]
  have j3 : J4 (kZ S) 3 = nI rank := by rw [← hJ4, up_eq]
  have i4 : In S I J4 := fun a j ha => by rw [← hJ4, up_ne (Or.inl (by omega)), up_ne (Or.inl (by omega)), up_ne (Or.inl (by omega))]; exact i3 a j ha
  -- the exceptions
  obtain ⟨S5, J5, e5, g5, x5, i5, d5, n5, z5, a5, o5⟩ := nw_list (I := J4) g3
  rw [e5]
  have k5 : kK S5 (kZ S) = 10 := ((x5.2 (kZ S) hzz).1).trans k3
  simp only [Option.bind_some, kK_sI, k5, if_true, wQ_sI, kZ_sI, wN_sI]
  have g6 : gI (wQ S5 (kZ S) 4 (some (kZ S3))) := g5.rule k5 (by omega) (no_ref g3.1 x5 (Nat.le_refl _) o5)
  have k6 : kK (wQ S5 (kZ S) 4 (some (kZ S3))) (kZ S) = 10 := k5
  have m6 : Xm S3 (wQ S5 (kZ S) 4 (some (kZ S3))) J4 J5 := (x5.m i5).tr (Xm_wQ k5)
  -- the suggestions
  obtain ⟨S7, J7, e7, g7, x7, i7, d7, n7, z7, a7, o7⟩ := nw_list (I := J5) g6
  rw [e7]
  have hz6 : kZ (wQ S5 (kZ S) 4 (some (kZ S3))) = kZ S3 + 1 := z5
  have k7 : kK S7 (kZ S) = 10 := ((x7.2 (kZ S) (by omega)).1).trans k6
  simp only [Option.bind_some, kK_sI, k7, if_true, wQ_sI]
  have g8 : gI (wQ S7 (kZ S) 5 (some (kZ (wQ S5 (kZ S) 4 (some (kZ S3)))))) := g7.rule k7 (by omega) (no_ref g6.1 x7 (Nat.le_refl _) o7)
  have m8 : Xm (wQ S5 (kZ S) 4 (some (kZ S3))) (wQ S7 (kZ S) 5 (some (kZ (wQ S5 (kZ S) 4 (some (kZ S3)))))) J5 J7 := (x7.m i7).tr (Xm_wQ k7)
  have xs : Xn S (wQ S7 (kZ S) 5 (some (kZ (wQ S5 (kZ S) 4 (some (kZ S3)))))) := Xn_wQ10 ((Xn_wQ10 (x3.tr x5) (Nat.le_refl _)).tr x7) (Nat.le_refl _)
  have q7 : ∀ j, j ≠ 5 → kQ (wQ S7 (kZ S) 5 (some (kZ (wQ S5 (kZ S) 4 (some (kZ S3)))))) (kZ S) j = if j = 4 then some (kZ S3) else kQ S3 (kZ S) j := fun j hj => by
    rw [kQ_wQ, if_neg (fun z => hj z.2), (x7.2 (kZ S) (by omega)).2.2 j, kQ_wQ, (x5.2 (kZ S) hzz).2.2 j]
    by_cases e : j = 4
    · rw [if_pos ⟨rfl, e⟩, if_pos e]
    · rw [if_neg (fun z => e z.2), if_neg e]
  have jj : ∀ j, J7 (kZ S) j = J4 (kZ S) j := fun j => by rw [i7 _ _ (by omega), i5 _ _ hzz]
  refine ⟨_, J7, rfl, g8, xs, (i4.tr x3.1 i5).tr (Nat.le_trans x3.1 (by omega)) i7, k7, hx, ?_, ?_, ?_, ⟨kZ S + 1, by rw [q7 0 (by decide), if_neg (by decide)]; exact q3, ((d3.xm g3.1 m4).xm g3.1 m6).xm g6.1 m8⟩, ⟨kZ S3, by rw [q7 4 (by decide), if_pos rfl], fun _ => 0, ?_, fun j v hv => by simp at hv⟩, ⟨kZ S3 + 1, by rw [kQ_wQ, if_pos ⟨rfl, rfl⟩, hz6], fun _ => 0, ?_, fun j v hv => by simp at hv⟩⟩
  · rw [jj]; exact j1
  · rw [jj]; exact j2
  · rw [jj]; exact j3
  · exact dD.xm g6.1 m8 ⟨(d5 _).xm (I := J5) g5.1 (Xm_wQ k5), n5, by omega⟩
  · rw [hz6] at d7 n7
    exact ⟨(d7 _).xm (I := J7) g7.1 (Xm_wQ k7), n7, by omega⟩
