/-! new rows, items, lists, pairs -/
theorem gI.new {S : PS} (hg : gI S) (kd n : Nat) (hk : kd ≠ 105 ∨ True) : gI (wN S kd n) := by
  obtain ⟨⟨p1, p2, e0, p3, p4, p5, p6⟩, hL, hR⟩ := hg
  have hP : PF S := ⟨p1, p2, e0, p3, p4, p5, p6⟩
  have helt := hP.lt (show kK S e0 ≠ 0 by rw [p4]; decide)
  refine ⟨⟨fun a ha => ?_, fun a j c ha hq => ?_, e0, ?_, ?_, ?_, ?_⟩, fun h1 h2 q a1 a2 a3 a4 a5 => ?_, fun a1 a2 j1 j2 q b1 b2 b3 b4 => ?_⟩
  · have ha : kZ S + 1 ≤ a := ha
    rw [kK_wN, if_neg (by omega)]; exact p1 a (by omega)
  · rw [kQ_wN] at hq
    rw [kK_wN] at ha
    show c < kZ S + 1
    split at hq
    · cases hq
    · rename_i z
      rw [if_neg z] at ha
      have := p2 a j c ha hq
      omega
  · rw [kQ_wN, if_neg (by omega)]; exact p3
  · rw [kK_wN, if_neg (by omega)]; exact p4
  · rw [kN_wN, if_neg (by omega)]; exact p5
  · rw [kK_wN, if_neg (by omega)]; exact p6
  · rw [kQ_wN] at a3 a4
    split at a3
    · cases a3
    · rename_i n1
      split at a4
      · cases a4
      · rename_i n2
        rw [kK_wN, if_neg n1] at a1
        rw [kK_wN, if_neg n2] at a2
        have := p2 h1 1 q (by rw [a1]; decide) a3
        rw [kK_wN, if_neg (by omega)] at a5
        exact hL h1 h2 q a1 a2 a3 a4 a5
  · rw [kQ_wN] at b3 b4
    split at b3
    · cases b3
    · rename_i n1
      split at b4
      · cases b4
      · rename_i n2
        rw [kK_wN, if_neg n1] at b1
        rw [kK_wN, if_neg n2] at b2
        exact hR a1 a2 j1 j2 q b1 b2 b3 b4
/-- a reference is set in an object that is neither a list nor a rule -/
theorem gI.set {S : PS} (hg : gI S) {a j b : Nat} (h3 : kK S a ≠ 3) (h10 : kK S a ≠ 10) (h0 : kK S a ≠ 0 ∧ kK S a ≠ 105) (hb : b < kZ S) : gI (wQ S a j (some b)) := by
  obtain ⟨⟨p1, p2, e0, p3, p4, p5, p6⟩, hL, hR⟩ := hg
  have ha0 : a ≠ 0 := z0_ne p6 h0.1 h0.2
  refine ⟨⟨p1, fun q i c hq hc => ?_, e0, ?_, p4, p5, p6⟩, fun h1 h2 q a1 a2 a3 a4 a5 => ?_, fun a1 a2 j1 j2 q b1 b2 b3 b4 => ?_⟩
  · rw [kQ_wQ] at hc
    split at hc
    · cases hc; exact hb
    · exact p2 q i c hq hc
  · rw [kQ_wQ, if_neg (fun z => ha0 z.1.symm)]; exact p3
  · rw [kQ_wQ, if_neg (fun z => h3 (by rw [← z.1]; exact a1))] at a3
    rw [kQ_wQ, if_neg (fun z => h3 (by rw [← z.1]; exact a2))] at a4
    exact hL h1 h2 q a1 a2 a3 a4 a5
  · rw [kQ_wQ, if_neg (fun z => h10 (by rw [← z.1]; exact b1))] at b3
    rw [kQ_wQ, if_neg (fun z => h10 (by rw [← z.1]; exact b2))] at b4
    exact hR a1 a2 j1 j2 q b1 b2 b3 b4
/-- an empty list gets the empty array -/
theorem gI.list {S : PS} (hg : gI S) {a e : Nat} (h3 : kK S a = 3) (he : kK S e = 105) : gI (wQ S a 1 (some e)) := by
  obtain ⟨⟨p1, p2, e0, p3, p4, p5, p6⟩, hL, hR⟩ := hg
  have hP : PF S := ⟨p1, p2, e0, p3, p4, p5, p6⟩
  have ha0 : a ≠ 0 := z0_ne p6 (by rw [h3]; decide) (by rw [h3]; decide)
  refine ⟨⟨p1, fun q i c hq hc => ?_, e0, ?_, p4, p5, p6⟩, fun h1 h2 q a1 a2 a3 a4 a5 => ?_, fun a1 a2 j1 j2 q b1 b2 b3 b4 => ?_⟩
  · rw [kQ_wQ] at hc
    split at hc
    · cases hc; exact hP.lt (by rw [he]; decide)
    · exact p2 q i c hq hc
  · rw [kQ_wQ, if_neg (fun z => ha0 z.1.symm)]; exact p3
  · have a5 : kK S q = 104 := a5
    have hqe : q ≠ e := fun z => by rw [z, he] at a5; cases a5
    rw [kQ_wQ] at a3 a4
    split at a3
    · cases a3; exact absurd rfl hqe
    · split at a4
      · cases a4; exact absurd rfl hqe
      · exact hL h1 h2 q a1 a2 a3 a4 a5
  · rw [kQ_wQ, if_neg (fun z => by rw [kK_wQ, z.1, h3] at b1; cases b1)] at b3
    rw [kQ_wQ, if_neg (fun z => by rw [kK_wQ, z.1, h3] at b2; cases b2)] at b4
    exact hR a1 a2 j1 j2 q b1 b2 b3 b4
/-- a rule gets a list that no rule has -/
theorem gI.rule {S : PS} (hg : gI S) {a j b : Nat} (h10 : kK S a = 10) (hb : b < kZ S) (hno : ∀ q i, kK S q = 10 → kQ S q i ≠ some b) : gI (wQ S a j (some b)) := by
  obtain ⟨⟨p1, p2, e0, p3, p4, p5, p6⟩, hL, hR⟩ := hg
  have ha0 : a ≠ 0 := z0_ne p6 (by rw [h10]; decide) (by rw [h10]; decide)
  refine ⟨⟨p1, fun q i c hq hc => ?_, e0, ?_, p4, p5, p6⟩, fun h1 h2 q a1 a2 a3 a4 a5 => ?_, fun a1 a2 j1 j2 q b1 b2 b3 b4 => ?_⟩
  · rw [kQ_wQ] at hc
    split at hc
    · cases hc; exact hb
    · exact p2 q i c hq hc
  · rw [kQ_wQ, if_neg (fun z => ha0 z.1.symm)]; exact p3
  · rw [kQ_wQ, if_neg (fun z => by rw [kK_wQ, z.1, h10] at a1; cases a1)] at a3
    rw [kQ_wQ, if_neg (fun z => by rw [kK_wQ, z.1, h10] at a2; cases a2)] at a4
    exact hL h1 h2 q a1 a2 a3 a4 a5
  · rw [kQ_wQ] at b3 b4
    split at b3
    · rename_i z1
      cases b3
      split at b4
      · rename_i z2
        exact ⟨z1.1.trans z2.1.symm, z1.2.trans z2.2.symm⟩
      · exact absurd b4 (hno a2 j2 b2)
    · split at b4
      · cases b4
        exact absurd b3 (hno a1 j1 b1)
      · exact hR a1 a2 j1 j2 q b1 b2 b3 b4
/-- the heap with a new row -/
def nR (S : PS) (n : Nat) : PS := wQ (wN (wN S 9 0) 101 n) (kZ S) 0 (some (kZ S + 1))
theorem kZ_nR (S : PS) (n : Nat) : kZ (nR S n) = kZ S + 2 := rfl
theorem kK_nR (S : PS) (n a : Nat) : kK (nR S n) a = if a = kZ S + 1 then 101 else if a = kZ S then 9 else kK S a := by
  unfold nR
  rw [kK_wQ, kK_wN, kK_wN, kZ_wN]
theorem kN_nR (S : PS) (n a : Nat) : kN (nR S n) a = if a = kZ S + 1 then n else if a = kZ S then 0 else kN S a := by
  unfold nR
  rw [kN_wQ, kN_wN, kN_wN, kZ_wN]
theorem kQ_nR (S : PS) (n a j : Nat) : kQ (nR S n) a j = if a = kZ S ∧ j = 0 then some (kZ S + 1) else if a = kZ S + 1 then none else if a = kZ S then none else kQ S a j := by
  unfold nR
  rw [kQ_wQ, kQ_wN, kQ_wN, kZ_wN]
theorem Xn_nR (S : PS) (n : Nat) : Xn S (nR S n) := ⟨Nat.le_add_right _ 2, fun a ha => ⟨by rw [kK_nR, if_neg (by omega), if_neg (by omega)], by rw [kN_nR, if_neg (by omega), if_neg (by omega)], fun j => by rw [kQ_nR, if_neg (by omega), if_neg (by omega), if_neg (by omega)]⟩⟩
theorem gI_nR {S : PS} (hg : gI S) (n : Nat) : gI (nR S n) := by
  have h1 := (hg.new 9 0 (Or.inr trivial)).new 101 n (Or.inr trivial)
  have e : kK (wN (wN S 9 0) 101 n) (kZ S) = 9 := by rw [kK_wN, kK_wN, kZ_wN, if_neg (by omega), if_pos rfl]
  exact h1.set (by rw [e]; decide) (by rw [e]; decide) (by rw [e]; decide) (Nat.lt_succ_self _)
theorem rS_nR (S : PS) {n : Nat} (hn : n ≤ 1000) : rS (nR S n) (kZ S) n := ⟨by rw [kK_nR, if_neg (by omega), if_pos rfl], by rw [kQ_nR, if_pos ⟨rfl, rfl⟩], by rw [kK_nR, if_pos rfl], by rw [kN_nR, if_pos rfl], hn⟩
theorem nw_row {S : PS} (I : Nat → Nat → Int32) {n : Nat} (hn : n ≤ 180) : ∃ I', f_X5_init (sI (wN S 9 0) (nz I (kZ S))) (kZ S) (nI n) = some (sI (nR S n) I') ∧ rL I' (kZ S) [] ∧ In S I I' := by
  have hn3 : n < 2 ^ 31 := by omega
  have key : (if ¬ nI n < 0 ∧ (nI n).toNatClampNeg ≤ 180 then (lt (kZ (sI (wN S 9 0) (nz I (kZ S)))) fun a4 => lt (wN (sI (wN S 9 0) (nz I (kZ S))) 101 (nI n).toNatClampNeg) fun S6 => if kK S6 (kZ S) = 9 then (lt (wQ S6 (kZ S) 0 (some a4)) fun S9 => if kK S9 (kZ S) = 9 then (lt (wI S9 (kZ S) 1 0) fun S12 => some S12) else none) else none) else none) = some (sI (nR S n) (up (nz (nz I (kZ S)) (kZ S + 1)) (kZ S) 1 0)) := by
    have e : kK (wN (wN S 9 0) 101 n) (kZ S) = 9 := by rw [kK_wN, kK_wN, kZ_wN, if_neg (by omega), if_pos rfl]
    rw [if_pos ⟨nI_pos hn3, by rw [nI_clamp hn3]; exact hn⟩, nI_clamp hn3]
    simp only [lt, wN_sI, kK_sI, kZ_sI, e, if_true, wQ_sI, kK_wQ, wI_sI]
    rfl
  refine ⟨up (nz (nz I (kZ S)) (kZ S + 1)) (kZ S) 1 0, ?_, ⟨by rw [up_eq]; exact nI_0.symm, fun j hj => absurd hj (Nat.not_lt_zero _)⟩, fun a j ha => ?_⟩
  · unfold f_X5_init
    by_cases h0 : n = 0
    · subst h0
      rw [nI_0] at key
      simp only [lt, show nI 0 ≤ 0 by decide +kernel, if_true]
      simp only [lt] at key
      exact key
    · simp only [lt, nI_nle (show 0 < n by omega) hn3, if_false]
      simp only [lt] at key
      exact key
  · rw [up_ne (Or.inl (by omega)), nz_ne (by omega), nz_ne (by omega)]
/-- a part of a list of signs -/
def sb (l : List Int32) (f e : Nat) : List Int32 := (List.range (e - f)).map (fun i => la l (f + i))
theorem sb_len (l : List Int32) (f e : Nat) : (sb l f e).length = e - f := by unfold sb; simp
theorem la_sb {l : List Int32} {f e i : Nat} (h : i < e - f) : la (sb l f e) i = la l (f + i) := by
  unfold sb la
  simp [h]
theorem nw_part {S : PS} {I : Nat → Nat → Int32} (hP : PF S) {h c : Nat} {l : List Int32} (hs : rS S h c) (hl : rL I h l) (hc : l.length ≤ c) {f e : Nat} (hfe : f ≤ e) (he : e ≤ 1000) (h180 : e - f ≤ 180) : ∃ I', f_X5_part (sI S I) h (nI f) (nI e) = some (sI (nR S (e - f)) I', kZ S) ∧ rL I' (kZ S) (sb l f e) ∧ In S I I' := by
  have hlt1 := hP.lt (show kK S h ≠ 0 by rw [hs.1]; decide)
  have hlt2 := hP.lt (show kK S (h + 1) ≠ 0 by rw [hs.2.2.1]; decide)
  obtain ⟨I1, g1, r1, i1⟩ := nw_row (S := S) I (n := e - f) h180
  have hsR := rS_nR S (n := e - f) (by omega)
  have hsh : rS (nR S (e - f)) h c := hs.ext hP ((Xn_nR S (e - f)).t 0 0)
  unfold f_X5_part
  simp only [lt, kZ_sI, wN_sI]
  rw [pk_sub hfe, g1]
  simp only [Option.bind_some]
  obtain ⟨z, e1, J, rfl, q1, q2⟩ := it_up (b := fun (v : Int32 × PS) => f_X5_part_b14 h (kZ S) (nI e) v.1 v.2) e
    (P := fun i s => f ≤ i ∧ ∃ J, s = (nI i, sI (nR S (e - f)) J) ∧ rL J (kZ S) (sb l f i) ∧ In S I J)
    (Q := fun z => ∃ J, z = sI (nR S (e - f)) J ∧ rL J (kZ S) (sb l f e) ∧ In S I J)
    (fun i s hi ⟨hfi, J, e9, q1, q2⟩ => by
      subst e9
      have hlJ : rL J h l := ⟨(q2 _ _ hlt1).trans hl.1, fun j hj => (q2 _ _ hlt2).trans (hl.2 j hj)⟩
      unfold f_X5_part_b14
      rw [if_neg (show ¬ nI e ≤ nI i by rw [nI_leI (by omega) (by omega)]; omega), kK_sI, if_pos hsh.1, rw_getn hsh hlJ hc (show i < 2 ^ 31 by omega)]
      simp only [Option.bind_some]
      rw [if_pos hsR.1]
      obtain ⟨J2, g2, w1, w2⟩ := rw_add (I := J) hsR q1 (by rw [sb_len]; omega) (la l i)
      rw [g2]
      refine Or.inl ⟨_, rfl, by omega, J2, by rw [nI_1], ?_, fun a j ha => by rw [w2 a j (by omega) (by omega)]; exact q2 a j ha⟩
      have : sb l f (i + 1) = sb l f i ++ [la l i] := by
        unfold sb
        rw [show i + 1 - f = (i - f) + 1 by omega, List.range_succ, List.map_append]
        simp [show f + (i - f) = i by omega]
      rw [this]
      exact w1)
    (fun s ⟨hfi, J, e9, q1, q2⟩ => by
      subst e9
      unfold f_X5_part_b14
      rw [if_pos (show nI e ≤ nI e from (nI_leI (show e < 2 ^ 31 by omega) (by omega)).mpr (Nat.le_refl _))]
      exact ⟨_, rfl, J, rfl, q1, q2⟩)
    f (nI f, sI (nR S (e - f)) I1) ⟨Nat.le_refl _, I1, rfl, by unfold sb; rw [Nat.sub_self]; exact r1, i1⟩ hfe kF (kF_big (by omega))
  rw [e1]
  exact ⟨J, rfl, q1, q2⟩
/-- an item out of what is typed -/
def itO (ty : List Int32) (f e : Nat) : Iv := (decide (la ty (e - 1) = 35), decide (la ty (e - 1) = 42), sb ty f (if la ty (e - 1) = 35 ∨ la ty (e - 1) = 42 then e - 1 else e))
theorem nw_item {S : PS} {I : Nat → Nat → Int32} (hg : gI S) {x h c : Nat} {ty : List Int32} (hs : rS S h c) (hl : rL I h ty) (hc : ty.length ≤ c) (hx : x + 79 ≤ kZ S) {f e : Nat} (hfe : f < e) (he : e ≤ 20) : ∃ S' I', f_X3_init (sI (wN S 7 0) (nz I (kZ S))) (kZ S) h (nI f) (nI e) = some (sI S' I') ∧ gI S' ∧ Xn S S' ∧ In S I I' ∧ dI S' I' x (kZ S) (itO ty f e) ∧ ∀ q, kZ S ≤ q → kK S' q ≠ 10 := by
  have hP := hg.1
  have hlt1 := hP.lt (show kK S h ≠ 0 by rw [hs.1]; decide)
  have hlt2 := hP.lt (show kK S (h + 1) ≠ 0 by rw [hs.2.2.1]; decide)
  have hg1 := hg.new 7 0 (Or.inr trivial)
  have hs1 : rS (wN S 7 0) h c := hs.ext hP (Xn_wN.t 0 0)
  have k7 : kK (wN S 7 0) (kZ S) = 7 := by rw [kK_wN, if_pos rfl]
  have kept : ∀ (J : Nat → Nat → Int32) (j : Nat) (b : Int32), rL J h ty → rL (up J (kZ S) j b) h ty := fun J j b ⟨q1, q2⟩ => ⟨by rw [up_ne (Or.inl (by omega))]; exact q1, fun i hi => by rw [up_ne (Or.inl (by omega))]; exact q2 i hi⟩
  have hl1 : rL (nz I (kZ S)) h ty := ⟨by rw [nz_ne (by omega)]; exact hl.1, fun j hj => by rw [nz_ne (by omega)]; exact hl.2 j hj⟩
  generalize hv : la ty (e - 1) = v
  have fin : ∀ (b1 b2 : Bool) (e' : Nat), decide (v = 35) = b1 → decide (v = 42) = b2 → (if v = 35 ∨ v = 42 then e - 1 else e) = e' → ∃ S' I', ((f_X5_part (sI (wN S 7 0) (up (up (nz I (kZ S)) (kZ S) 0 (bi b1)) (kZ S) 1 (bi b2))) h (nI f) (nI e')).bind fun r23 => if kK r23.1 (kZ S) = 7 then some (wQ r23.1 (kZ S) 2 (some r23.2)) else none) = some (sI S' I') ∧ gI S' ∧ Xn S S' ∧ In S I I' ∧ dI S' I' x (kZ S) (itO ty f e) ∧ ∀ q, kZ S ≤ q → kK S' q ≠ 10 := by
    intro b1 b2 e' hb1 hb2 hee
    have f0 : up (up (nz I (kZ S)) (kZ S) 0 (bi b1)) (kZ S) 1 (bi b2) (kZ S) 0 = bi b1 := by rw [up_ne (Or.inr (by decide)), up_eq]
    have f1 : up (up (nz I (kZ S)) (kZ S) 0 (bi b1)) (kZ S) 1 (bi b2) (kZ S) 1 = bi b2 := up_eq _ _ _ _
    have he' : f ≤ e' ∧ e' ≤ 20 := by rw [← hee]; split <;> omega
    obtain ⟨J, g, r1, i1⟩ := nw_part hg1.1 hs1 (kept _ 1 (bi b2) (kept _ 0 (bi b1) hl1)) hc he'.1 (by omega) (by omega)
    rw [g]
    have k7' : kK (nR (wN S 7 0) (e' - f)) (kZ S) = 7 := by rw [kK_nR, kZ_wN, if_neg (by omega), if_neg (by omega)]; exact k7
    simp only [Option.bind_some, kK_sI, k7', if_true, wQ_sI]
    refine ⟨_, J, rfl, (gI_nR hg1 _).set (by rw [k7']; decide) (by rw [k7']; decide) (by rw [k7']; decide) (by rw [kZ_nR, kZ_wN]; omega), ⟨by show kZ S ≤ kZ S + 1 + 2; omega, fun a ha => ?_⟩, fun a j ha => ?_, ⟨k7', hx, ?_, ?_, kZ S + 1, by rw [kQ_wQ, if_pos ⟨rfl, rfl⟩]; rfl, e' - f, ?_, ?_, ?_, by omega⟩, fun q hq => ?_⟩
    · refine ⟨by rw [kK_wQ, kK_nR, kZ_wN, if_neg (by omega), if_neg (by omega), kK_wN, if_neg (by omega)], by rw [kN_wQ, kN_nR, kZ_wN, if_neg (by omega), if_neg (by omega), kN_wN, if_neg (by omega)], fun j => by rw [kQ_wQ, if_neg (by omega), kQ_nR, kZ_wN, if_neg (by omega), if_neg (by omega), if_neg (by omega), kQ_wN, if_neg (by omega)]⟩
    · rw [i1 a j (by rw [kZ_wN]; omega), up_ne (Or.inl (by omega)), up_ne (Or.inl (by omega)), nz_ne (by omega)]
    · rw [i1 _ _ (by rw [kZ_wN]; omega), f0, ← hb1]; unfold itO; rw [hv]
    · rw [i1 _ _ (by rw [kZ_wN]; omega), f1, ← hb2]; unfold itO; rw [hv]
    · have := rS_nR (wN S 7 0) (n := e' - f) (by omega)
      rw [kZ_wN] at this
      obtain ⟨a1, a2, a3, a4, a5⟩ := this
      exact ⟨a1, by rw [kQ_wQ, if_neg (by omega)]; exact a2, a3, a4, a5⟩
    · unfold itO
      simp only [hv, hee]
      rw [kZ_wN] at r1
      exact r1
    · unfold itO
      simp only [hv, hee]
      rw [sb_len]
      exact Nat.le_refl _
    · rw [kK_wQ, kK_nR, kK_wN]
      split
      · decide
      · split
        · decide
        · split
          · decide
          · rw [hP.1 q hq]; decide
  have k0 := fun (b : Bool) => rw_getn hs1 (kept _ 0 (bi b) hl1) hc (show e - 1 < 2 ^ 31 by omega)
  have z10 : ¬ ((1 : Int32) = 0) := by decide
  unfold f_X3_init
  rw [kK_sI, if_pos hs1.1, nI_sub1 (show 0 < e by omega), rw_getn hs1 hl1 hc (show e - 1 < 2 ^ 31 by omega)]
  simp only [Option.bind_some, lt, hv]
  have up0 : ∀ (b : Int32) (J : Nat → Nat → Int32), up J (kZ S) 0 b (kZ S) 0 = b := fun b J => up_eq _ _ _ _
  have up1 : ∀ (b : Int32) (J : Nat → Nat → Int32), up J (kZ S) 1 b (kZ S) 1 = b := fun b J => up_eq _ _ _ _
  have up01 : ∀ (b : Int32) (J : Nat → Nat → Int32), up J (kZ S) 1 b (kZ S) 0 = J (kZ S) 0 := fun b J => up_ne (Or.inr (by decide))
  have kt := k0 true
  have kf := k0 false
  simp only [bi, if_true, Bool.false_eq_true, if_false] at kt kf
  by_cases h1 : v = 35
  · have h2 : ¬ v = 42 := by rw [h1]; decide
    simp only [if_pos h1, if_neg h2, kK_sI, k7, hs1.1, wI_sI, if_true, kt, hv, Option.bind_some, kI_sI, up0, up1, up01, or_true, true_or, z10, if_false, nI_sub1 (show 0 < e by omega)]
    exact fin true false (e - 1) (decide_eq_true h1) (decide_eq_false h2) (if_pos (Or.inl h1))
  · by_cases h2 : v = 42
    · simp only [if_neg h1, if_pos h2, kK_sI, k7, hs1.1, wI_sI, if_true, kf, hv, Option.bind_some, kI_sI, up0, up1, up01, or_true, true_or, z10, if_false, nI_sub1 (show 0 < e by omega)]
      exact fin false true (e - 1) (decide_eq_false h1) (decide_eq_true h2) (if_pos (Or.inr h2))
    · simp only [if_neg h1, if_neg h2, kK_sI, k7, hs1.1, wI_sI, if_true, kf, hv, Option.bind_some, kI_sI, up0, up1, up01, or_true, true_or, z10, if_false]
      exact fin false false e (decide_eq_false h1) (decide_eq_false h2) (if_neg (fun z => z.elim h1 h2))
/-- an empty list -/
theorem nw_list {S : PS} {I : Nat → Nat → Int32} (hg : gI S) : ∃ S' I', f_Jx4a65c_init_da8c8 (sI (wN S 3 0) (nz I (kZ S))) (kZ S) = some (sI S' I') ∧ gI S' ∧ Xn S S' ∧ In S I I' ∧ (∀ as, dL S' (kZ S) 0 as) ∧ I' (kZ S) 2 = nI 0 ∧ kZ S' = kZ S + 1 ∧ (∀ q, kQ S' (kZ S) 1 = some q → kK S' q = 105) ∧ ∀ q, kZ S ≤ q → kK S' q ≠ 10 := by
  have hP := hg.1
  obtain ⟨e0, p3, p4, p5, p6⟩ := hP.2.2
  have helt := hP.lt (show kK S e0 ≠ 0 by rw [p4]; decide)
  have k3 : kK (wN S 3 0) (kZ S) = 3 := by rw [kK_wN, if_pos rfl]
  have q0 : kQ (wN S 3 0) 0 0 = some e0 := by rw [kQ_wN, if_neg (by omega)]; exact p3
  have ke : kK (wN S 3 0) e0 = 105 := by rw [kK_wN, if_neg (by omega)]; exact p4
  unfold f_Jx4a65c_init_da8c8 f_Jxc12de_init_da8c8 f_Jxa1e45_init_da8c8
  simp only [Option.bind_some, lt, kK_sI, k3, if_true, wI_sI, kQ_sI, q0, wQ_sI]
  refine ⟨_, _, rfl, (hg.new 3 0 (Or.inr trivial)).list k3 ke, ⟨Nat.le_succ _, fun a ha => ⟨by rw [kK_wQ, kK_wN, if_neg (by omega)], by rw [kN_wQ, kN_wN, if_neg (by omega)], fun j => by rw [kQ_wQ, if_neg (by omega), kQ_wN, if_neg (by omega)]⟩⟩, fun a j ha => by rw [up_ne (Or.inl (by omega)), nz_ne (by omega)], fun as => ⟨k3, by decide, e0, by rw [kQ_wQ, if_pos ⟨rfl, rfl⟩], fun j hj => absurd hj (Nat.not_lt_zero _), Or.inr ⟨ke, rfl, by rw [kQ_wQ, if_neg (by omega)]; exact q0⟩, fun i j hi => absurd hi (Nat.not_lt_zero _)⟩, ?_, rfl, fun q hq => ?_, fun q hq => ?_⟩
  · rw [up_ne (Or.inr (by decide)), nI_0]
    exact if_pos rfl
  · rw [kQ_wQ, if_pos ⟨rfl, rfl⟩] at hq
    cases hq
    exact ke
  · rw [kK_wQ, kK_wN]
    split
    · decide
    · rw [hP.1 q hq]; decide
