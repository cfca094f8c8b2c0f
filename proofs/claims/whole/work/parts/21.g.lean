/-! a new rule -/
theorem no_ref {S S' : PS} (hP : PF S) (hx : Xn S S') {b : Nat} (hb : kZ S ≤ b) (hn : ∀ q, kZ S ≤ q → kK S' q ≠ 10) : ∀ q i, kK S' q = 10 → kQ S' q i ≠ some b := by
  intro q i hq hc
  have hlt : q < kZ S := Classical.byContradiction fun z => hn q (Nat.not_lt.mp z) hq
  obtain ⟨a1, a2, a3⟩ := hx.2 q hlt
  rw [a3 i] at hc
  have := hP.2.1 q i b (by rw [← a1, hq]; decide) hc
  omega
theorem Xn.add {S0 S' S'' : PS} {h n : Nat} (h1 : Xn S0 S') (h2 : Xt S' S'' h n) (hh : kZ S0 ≤ h) (harr : ∀ q, kQ S' h 1 = some q → kK S' q = 104 → kZ S0 ≤ q) : Xn S0 S'' := ⟨Nat.le_trans h1.1 h2.1, fun a ha => by
  obtain ⟨a1, a2, a3⟩ := h1.2 a ha
  obtain ⟨b1, b2, b3⟩ := h2.2 a (Nat.lt_of_lt_of_le ha h1.1)
  exact ⟨b1.trans a1, b2.trans a2, fun j => (b3 j (fun z => by omega) (fun z => by have := harr a z.1 z.2.1; omega)).trans (a3 j)⟩⟩
theorem In.add {S0 S' : PS} {h : Nat} {I I' I'' : Nat → Nat → Int32} (hx : kZ S0 ≤ kZ S') (h1 : In S0 I I') (h2 : Ix S' I' I'' h) (hh : kZ S0 ≤ h) : In S0 I I'' := fun a j ha => (h2 a j (Nat.lt_of_lt_of_le ha hx) (by omega)).trans (h1 a j ha)
theorem rL.ext {S S' : PS} {I I' : Nat → Nat → Int32} {h c : Nat} {l : List Int32} (hP : PF S) (hs : rS S h c) (hi : In S I I') (hl : rL I h l) : rL I' h l := ⟨(hi _ _ (hP.lt (by rw [hs.1]; decide))).trans hl.1, fun j hj => (hi _ _ (hP.lt (by rw [hs.2.2.1]; decide))).trans (hl.2 j hj)⟩
theorem nw_items {S : PS} {I : Nat → Nat → Int32} (hg : gI S) {x h c a z1 : Nat} {ty : List Int32} (hs : rS S h c) (hl : rL I h ty) (hc : ty.length ≤ c) (h20 : ty.length ≤ 20) (hx : x + 79 ≤ kZ S) {S1 : PS} {I1 : Nat → Nat → Int32} (hg1 : gI S1) (hx1 : Xn S S1) (hi1 : In S I I1) (ha : kZ S ≤ a) (ha10 : kK S1 a = 10) (hz1 : kZ S ≤ z1) (hq : kQ S1 a 0 = some z1) (hd : ∀ as, dL S1 z1 0 as) (hn : I1 z1 2 = nI 0) (harr : ∀ q, kQ S1 z1 1 = some q → kK S1 q = 104 → kZ S ≤ q) (ho : ∀ q, kZ S ≤ q → kK S1 q = 10 → q = a) (hp : isPat ty = true) : ∃ S' I', iter (fun (v : Int32 × Int32 × PS) => f_X6_init_b21 a h v.1 v.2.1 v.2.2) 22 (0, 0, sI S1 I1) = some (sI S' I') ∧ gI S' ∧ Xn S S' ∧ In S I I' ∧ kK S' a = 10 ∧ kQ S' a 0 = some z1 ∧ dIs S' I' x z1 (iK ty (ty.length + 1)).1 ∧ ∀ q, kZ S ≤ q → kK S' q = 10 → q = a := by
  obtain ⟨v9, hv9, h3⟩ : ∃ v, pK ty (ty.length + 1) = some v ∧ v.1 ≤ 3 := by
    unfold isPat at hp
    cases e : pK ty (ty.length + 1) with
    | none => rw [e] at hp; cases hp
    | some v => rw [e] at hp; exact ⟨v, rfl, of_decide_eq_true hp⟩
  have mono : ∀ i, i ≤ ty.length + 1 → (iK ty i).1.length ≤ (iK ty (ty.length + 1)).1.length := by
    intro i hi
    have step : ∀ k, (iK ty i).1.length ≤ (iK ty (i + k)).1.length := by
      intro k
      induction k with
      | zero => exact Nat.le_refl _
      | succ k ih =>
        rw [← Nat.add_assoc]
        simp only [iK]
        split
        · simp; omega
        · exact ih
    have := step (ty.length + 1 - i)
    rw [show i + (ty.length + 1 - i) = ty.length + 1 by omega] at this
    exact this
  have hfin := (iK_pK _ _ hv9).2
  obtain ⟨z, e1, S', I', rfl, q1, q2, q3, q4, q5, q6, q7⟩ := it_up (b := fun (v : Int32 × Int32 × PS) => f_X6_init_b21 a h v.1 v.2.1 v.2.2) (ty.length + 1)
    (P := fun i s => ∃ S' I' as, s = (nI (iK ty i).2, nI i, sI S' I') ∧ gI S' ∧ Xn S S' ∧ In S I I' ∧ kK S' a = 10 ∧ kQ S' a 0 = some z1 ∧ dL S' z1 (iK ty i).1.length as ∧ I' z1 2 = nI (iK ty i).1.length ∧ (∀ j v, (iK ty i).1[j]? = some v → dI S' I' x (as j) v) ∧ (∀ q, kQ S' z1 1 = some q → kK S' q = 104 → kZ S ≤ q) ∧ ∀ q, kZ S ≤ q → kK S' q = 10 → q = a)
    (Q := fun z => ∃ S' I', z = sI S' I' ∧ gI S' ∧ Xn S S' ∧ In S I I' ∧ kK S' a = 10 ∧ kQ S' a 0 = some z1 ∧ dIs S' I' x z1 (iK ty (ty.length + 1)).1 ∧ ∀ q, kZ S ≤ q → kK S' q = 10 → q = a)
    (fun i s hi ⟨S', I', as, e, g1, g2, g3, g4, g5, g6, g7, g8, g9, g10⟩ => by
      subst e
      have hi3 : i < 2 ^ 31 := by omega
      obtain ⟨v, hv⟩ := pK_pre2 (ty := ty) (ty.length + 1) i (by omega) ⟨v9, hv9⟩
      obtain ⟨hf, hm⟩ := iK_pK i v hv
      have hs' : rS S' h c := hs.ext hg.1 (g2.t 0 0)
      have hl' : rL I' h ty := hl.ext (S' := S') hg.1 hs g3
      have hml := mono i (by omega)
      unfold f_X6_init_b21
      simp only [lt, kK_sI, hs'.1, if_true, rw_count hs' hl', Option.bind_some, nI_ltI (show ty.length < 2 ^ 31 by omega) hi3, if_neg (show ¬ ty.length < i by omega), rw_getn hs' hl' hc hi3, nI_eq hi3 (show ty.length < 2 ^ 31 by omega), g4, kQ_sI, g5, kZ_sI, wN_sI, nI_1]
      have item : sepB ty i = true → (∃ s', ((f_X3_init (sI (wN S' 7 0) (nz I' (kZ S'))) (kZ S') h (nI (iK ty i).2) (nI i)).bind fun r66 => if kK r66 z1 = 3 then (f_Jx4a65c_add_9ea2d r66 z1 (kZ S')).bind fun r69 => some (Sum.inl (nI (i + 1), nI (i + 1), r69.1)) else none : Option ((Int32 × Int32 × PS) ⊕ PS)) = some (.inl s') ∧ ∃ S' I' as, s' = (nI (iK ty (i + 1)).2, nI (i + 1), sI S' I') ∧ gI S' ∧ Xn S S' ∧ In S I I' ∧ kK S' a = 10 ∧ kQ S' a 0 = some z1 ∧ dL S' z1 (iK ty (i + 1)).1.length as ∧ I' z1 2 = nI (iK ty (i + 1)).1.length ∧ (∀ j v, (iK ty (i + 1)).1[j]? = some v → dI S' I' x (as j) v) ∧ (∀ q, kQ S' z1 1 = some q → kK S' q = 104 → kZ S ≤ q) ∧ ∀ q, kZ S ≤ q → kK S' q = 10 → q = a) := by
        intro hsep
        have hlt : (iK ty i).2 < i := by
          obtain ⟨w, hw⟩ := pK_pre2 (ty := ty) (ty.length + 1) (i + 1) (by omega) ⟨v9, hv9⟩
          simp only [pK, hv, hsep, if_true] at hw
          split at hw
          · rename_i hb
            rw [hf]; exact itB_lt hb
          · cases hw
        have hnx : iK ty (i + 1) = ((iK ty i).1 ++ [itO ty (iK ty i).2 i], i + 1) := by simp only [iK, if_pos hsep]
        have hml1 := mono (i + 1) (by omega)
        rw [hnx, List.length_append, List.length_singleton] at hml1
        obtain ⟨S2, I2, w1, w2, w3, w4, w5, w6⟩ := nw_item g1 hs' hl' hc (x := x) (Nat.le_trans hx g2.1) hlt (show i ≤ 20 by omega)
        have hz3 : kK S2 z1 = 3 := ((w3.2 z1 (g1.1.lt (by rw [g6.1]; decide))).1).trans g6.1
        rw [w1]
        simp only [Option.bind_some, kK_sI, hz3, if_true]
        have hz1lt : z1 < kZ S' := g1.1.lt (by rw [g6.1]; decide)
        have hz1z : z1 ≠ z1 + 1 := by omega
        -- the list stands
        have d2 : dL S2 z1 (iK ty i).1.length as := g6.xm g1.1 (w3.m w4)
        obtain ⟨S3, I3, y1, y2, y3, y4, y5, y6, y7, y8⟩ := ls_add (b := kZ S') w2 d2 ((w4 _ _ hz1lt).trans g7) (show (iK ty i).1.length < 12 by omega) (fun h9 => by omega) (Or.inr (Or.inl w5.1)) (fun h9 => by rw [w5.1] at h9; cases h9)
        rw [y1]
        have hk104 : ∀ q, kQ S2 z1 1 = some q → kK S2 q = 104 → kZ S ≤ q := fun q hq h104 => by
          rw [(w3.2 z1 hz1lt).2.2 1] at hq
          have hqlt := g1.1.2.1 z1 1 q (by rw [g6.1]; decide) hq
          exact g9 q hq ((w3.2 q hqlt).1 ▸ h104)
        have halt : a < kZ S' := g1.1.lt (by rw [g4]; decide)
        have haz : a ≠ z1 := fun e => by rw [e, g6.1] at g4; cases g4
        have x2 : Xn S S2 := g2.tr w3
        have ka2 : kK S2 a = 10 := ((w3.2 a halt).1).trans g4
        have qa2 : kQ S2 a 0 = some z1 := ((w3.2 a halt).2.2 0).trans g5
        have halt2 : a < kZ S2 := Nat.lt_of_lt_of_le halt w3.1
        obtain ⟨c1, c2, c3⟩ := y3.2 a halt2
        refine ⟨_, rfl, S3, I3, (fun j => if j < (iK ty i).1.length then as j else kZ S'), by rw [hnx], y2, x2.add y3 hz1 hk104, (g3.tr g2.1 w4).add x2.1 y4 hz1, c1.trans ka2, (c3 0 (fun z => haz z.1) (fun z => by rw [ka2] at z; cases z.2.1)).trans qa2, ?_, ?_, ?_, ?_, ?_⟩
        · rw [hnx, List.length_append]; exact y5
        · rw [hnx, List.length_append]; exact y6
        · intro j v hj
          rw [hnx] at hj
          simp only at hj
          rw [List.getElem?_append] at hj
          by_cases hjl : j < (iK ty i).1.length
          · rw [if_pos hjl] at hj
            simp only [if_pos hjl]
            exact ((g8 j v hj).ext g1.1 (w3.t z1 0) g6.1 (w4.x z1)).ext w2.1 y3 hz3 y4
          · rw [if_neg hjl] at hj
            simp only [if_neg hjl]
            have hj0 := (List.getElem?_eq_some_iff.mp hj).1
            simp at hj0
            rw [show j - (iK ty i).1.length = 0 by omega] at hj
            simp at hj
            subst hj
            exact w5.ext w2.1 y3 hz3 y4
        · intro q hq h104
          rcases y7 q hq with hq | hq
          · have hqlt := w2.1.2.1 z1 1 q (by rw [hz3]; decide) hq
            exact hk104 q hq ((y3.2 q hqlt).1 ▸ h104)
          · exact Nat.le_trans x2.1 hq
        · intro q hq h10
          by_cases e2 : kZ S2 ≤ q
          · exact absurd h10 (y8 q e2)
          · rw [(y3.2 q (by omega)).1] at h10
            by_cases e3 : kZ S' ≤ q
            · exact absurd h10 (w6 q e3)
            · rw [(w3.2 q (by omega)).1] at h10
              exact g10 q hq h10
      left
      by_cases h1 : i = ty.length
      · rw [if_pos h1]
        exact item (by unfold sepB; rw [decide_eq_true h1]; rfl)
      · rw [if_neg h1]
        by_cases h2 : la ty i = 45
        · rw [if_pos h2]
          exact item (by unfold sepB; rw [decide_eq_true h2]; simp)
        · rw [if_neg h2]
          have hnx : iK ty (i + 1) = iK ty i := by
            have hsep : sepB ty i = false := by unfold sepB; rw [decide_eq_false h1, decide_eq_false h2]; rfl
            simp only [iK, hsep]
            rfl
          exact ⟨_, rfl, S', I', as, by rw [hnx], g1, g2, g3, g4, g5, by rw [hnx]; exact g6, by rw [hnx]; exact g7, by rw [hnx]; exact g8, g9, g10⟩)
    (fun s ⟨S', I', as, e, g1, g2, g3, g4, g5, g6, g7, g8, g9, g10⟩ => by
      subst e
      have hs' : rS S' h c := hs.ext hg.1 (g2.t 0 0)
      have hl' : rL I' h ty := hl.ext (S' := S') hg.1 hs g3
      unfold f_X6_init_b21
      simp only [lt, kK_sI, hs'.1, if_true, rw_count hs' hl', Option.bind_some, if_pos (show nI ty.length < nI (ty.length + 1) from (nI_ltI (show ty.length < 2 ^ 31 by omega) (by omega)).mpr (Nat.lt_succ_self _))]
      exact ⟨_, rfl, S', I', rfl, g1, g2, g3, g4, g5, ⟨as, ⟨g6, g7, Nat.le_trans hx hz1⟩, g8⟩, g10⟩)
    0 (0, 0, sI S1 I1) ⟨S1, I1, fun _ => 0, by simp [iK, nI_0], hg1, hx1, hi1, ha10, hq, hd _, hn, fun j v hj => by simp [iK] at hj, harr, ho⟩ (by omega) 22 (by omega)
  exact ⟨S', I', e1, q1, q2, q3, q4, q5, q6, q7⟩
/-- an object of another kind is written: words, items and lists stay -/
theorem Xn_wQ10 {S0 S : PS} {a j b : Nat} (h : Xn S0 S) (ha : kZ S0 ≤ a) : Xn S0 (wQ S a j (some b)) := ⟨h.1, fun q hq => ⟨(h.2 q hq).1, (h.2 q hq).2.1, fun i => by rw [kQ_wQ, if_neg (by omega)]; exact (h.2 q hq).2.2 i⟩⟩
