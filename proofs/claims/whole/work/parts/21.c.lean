/-! NEW CELLS -/
def PF (S : PS) : Prop := (∀ a, kZ S ≤ a → kK S a = 0) ∧ (∀ a j b, kK S a ≠ 0 → kQ S a j = some b → b < kZ S) ∧ ∃ e0, kQ S 0 0 = some e0 ∧ kK S e0 = 105 ∧ kN S e0 = 0 ∧ (kK S 0 = 0 ∨ kK S 0 = 105)
/-- a list's array is its own -/
def LI (S : PS) : Prop := ∀ h1 h2 arr, kK S h1 = 3 → kK S h2 = 3 → kQ S h1 1 = some arr → kQ S h2 1 = some arr → kK S arr = 104 → h1 = h2
/-- a rule's lists are its own -/
def RI (S : PS) : Prop := ∀ a1 a2 j1 j2 h, kK S a1 = 10 → kK S a2 = 10 → kQ S a1 j1 = some h → kQ S a2 j2 = some h → a1 = a2 ∧ j1 = j2
def gI (S : PS) : Prop := PF S ∧ LI S ∧ RI S
/-- new cells came, all old ones are as they were: kinds, lengths, references -/
def Xn (S S' : PS) : Prop := kZ S ≤ kZ S' ∧ ∀ a, a < kZ S → kK S' a = kK S a ∧ kN S' a = kN S a ∧ ∀ j, kQ S' a j = kQ S a j
/-- .. but for the list h of n elements, which may have got one more -/
def Xt (S S' : PS) (h n : Nat) : Prop := kZ S ≤ kZ S' ∧ ∀ a, a < kZ S → kK S' a = kK S a ∧ kN S' a = kN S a ∧ ∀ j, ¬ (a = h ∧ j = 1) → ¬ (kQ S h 1 = some a ∧ kK S a = 104 ∧ n ≤ j) → kQ S' a j = kQ S a j
/-- ints of old cells are as they were, but in h -/
def Ix (S : PS) (I I' : Nat → Nat → Int32) (h : Nat) : Prop := ∀ a j, a < kZ S → a ≠ h → I' a j = I a j
/-- all of them -/
def In (S : PS) (I I' : Nat → Nat → Int32) : Prop := ∀ a j, a < kZ S → I' a j = I a j
theorem Xn.rf {S : PS} : Xn S S := ⟨Nat.le_refl _, fun _ _ => ⟨rfl, rfl, fun _ => rfl⟩⟩
theorem Xn.tr {S S' S'' : PS} (h1 : Xn S S') (h2 : Xn S' S'') : Xn S S'' := ⟨Nat.le_trans h1.1 h2.1, fun a ha => by
  obtain ⟨a1, a2, a3⟩ := h1.2 a ha
  obtain ⟨b1, b2, b3⟩ := h2.2 a (Nat.lt_of_lt_of_le ha h1.1)
  exact ⟨b1.trans a1, b2.trans a2, fun j => (b3 j).trans (a3 j)⟩⟩
theorem In.rf {S : PS} {I : Nat → Nat → Int32} : In S I I := fun _ _ _ => rfl
theorem In.tr {S S' : PS} {I I' I'' : Nat → Nat → Int32} (hx : kZ S ≤ kZ S') (h1 : In S I I') (h2 : In S' I' I'') : In S I I'' := fun a j ha => (h2 a j (Nat.lt_of_lt_of_le ha hx)).trans (h1 a j ha)
theorem Xn.t {S S' : PS} (h : Xn S S') (l n : Nat) : Xt S S' l n := ⟨h.1, fun a ha => ⟨(h.2 a ha).1, (h.2 a ha).2.1, fun j _ _ => (h.2 a ha).2.2 j⟩⟩
theorem In.x {S : PS} {I I' : Nat → Nat → Int32} (h : In S I I') (l : Nat) : Ix S I I' l := fun a j ha _ => h a j ha
theorem PF.lt {S : PS} (h : PF S) {a : Nat} (ha : kK S a ≠ 0) : a < kZ S := Classical.byContradiction fun hn => ha (h.1 a (Nat.not_lt.mp hn))
section
variable {S S' : PS} {I I' : Nat → Nat → Int32} {x : Nat}
theorem rS.ext {h c l n : Nat} (hP : PF S) (hx : Xt S S' l n) (hs : rS S h c) : rS S' h c := by
  obtain ⟨s1, s2, s3, s4, s5⟩ := hs
  obtain ⟨a1, a2, a3⟩ := hx.2 h (hP.lt (by rw [s1]; decide))
  obtain ⟨b1, b2, b3⟩ := hx.2 (h + 1) (hP.lt (by rw [s3]; decide))
  exact ⟨a1.trans s1, (a3 0 (fun z => by cases z.2) (fun z => by rw [s1] at z; cases z.2.1)).trans s2, b1.trans s3, b2.trans s4, s5⟩
theorem dW.ext {h l n : Nat} {w : List Int32} (hP : PF S) (hx : Xt S S' l n) (hl : kK S l = 3) (hi : Ix S I I' l) (hd : dW S I x h w) : dW S' I' x h w := by
  obtain ⟨c, s, r, q1, q2⟩ := hd
  have h1 : h < kZ S := hP.lt (by rw [s.1]; decide)
  have h2 : h + 1 < kZ S := hP.lt (by rw [s.2.2.1]; decide)
  have n1 : h ≠ l := fun z => by subst z; rw [s.1] at hl; cases hl
  have n2 : h + 1 ≠ l := fun z => by rw [← z, s.2.2.1] at hl; cases hl
  exact ⟨c, s.ext hP hx, ⟨(hi _ _ h1 n1).trans r.1, fun j hj => (hi _ _ h2 n2).trans (r.2 j hj)⟩, q1, q2⟩
theorem dI.ext {a l n : Nat} {v : Iv} (hP : PF S) (hx : Xt S S' l n) (hl : kK S l = 3) (hi : Ix S I I' l) (hd : dI S I x a v) : dI S' I' x a v := by
  obtain ⟨d1, d2, d3, d4, h, d5, d6⟩ := hd
  have ha : a < kZ S := hP.lt (by rw [d1]; decide)
  have n1 : a ≠ l := fun z => by subst z; rw [d1] at hl; cases hl
  obtain ⟨a1, a2, a3⟩ := hx.2 a ha
  exact ⟨a1.trans d1, d2, (hi _ _ ha n1).trans d3, (hi _ _ ha n1).trans d4, h, (a3 2 (fun z => n1 z.1) (fun z => by rw [d1] at z; cases z.2.1)).trans d5, d6.ext hP hx hl hi⟩
theorem dL.ext {h l n m : Nat} {as : Nat → Nat} (hP : PF S) (hL : LI S) (hx : Xt S S' l n) (hl : kK S l = 3) (hne : h ≠ l) (hd : dL S h m as) : dL S' h m as := by
  obtain ⟨d1, d2, arr, d3, d4, d5, d6⟩ := hd
  have hh : h < kZ S := hP.lt (by rw [d1]; decide)
  obtain ⟨a1, a2, a3⟩ := hx.2 h hh
  have k0 : kK S 0 = 0 ∨ kK S 0 = 105 := by obtain ⟨e0, -, -, -, z⟩ := hP.2.2; exact z
  refine ⟨a1.trans d1, d2, arr, (a3 1 (fun z => hne z.1) (fun z => by rw [d1] at z; cases z.2.1)).trans d3, fun j hj => ?_, ?_, fun i j hi hj h1 h2 => d6 i j hi hj h1 (by
    obtain ⟨e1, e2, e3⟩ := d4 i hi
    rw [(hx.2 (as i) (hP.2.1 arr i (as i) (by rw [e1]; decide) e3)).1] at h2
    exact h2)⟩
  rotate_left
  · rcases d5 with ⟨e1, e2, e3⟩ | ⟨e1, e2, e3⟩
    · obtain ⟨b1, b2, b3⟩ := hx.2 arr (hP.lt (by rw [e1]; decide))
      exact Or.inl ⟨b1.trans e1, by rw [b2]; exact e2, by rw [b2]; exact e3⟩
    · obtain ⟨b1, b2, b3⟩ := hx.2 arr (hP.lt (by rw [e1]; decide))
      exact Or.inr ⟨b1.trans e1, e2, ((hx.2 0 (by omega)).2.2 0 (fun z => by cases z.2) (fun z => by rcases k0 with k | k <;> rw [k] at z <;> cases z.2.1)).trans e3⟩
  obtain ⟨e1, e2, e3⟩ := d4 j hj
  obtain ⟨b1, b2, b3⟩ := hx.2 arr (hP.lt (by rw [e1]; decide))
  refine ⟨b1.trans e1, by rw [b2]; exact e2, (b3 j (fun z => ?_) (fun z => ?_)).trans e3⟩
  · rw [z.1, hl] at e1; cases e1
  · exact hne (hL h l arr d1 hl d3 z.1 z.2.1)
theorem dD.ext {h l n m : Nat} {as : Nat → Nat} (hP : PF S) (hL : LI S) (hx : Xt S S' l n) (hl : kK S l = 3) (hi : Ix S I I' l) (hne : h ≠ l) (hd : dD S I x h m as) : dD S' I' x h m as :=
  ⟨hd.1.ext hP hL hx hl hne, (hi _ _ (hP.lt (by rw [hd.1.1]; decide)) hne).trans hd.2.1, hd.2.2⟩
theorem dWs.ext {h l n : Nat} {w : List (List Int32)} (hP : PF S) (hL : LI S) (hx : Xt S S' l n) (hl : kK S l = 3) (hi : Ix S I I' l) (hne : h ≠ l) : dWs S I x h w → dWs S' I' x h w := fun ⟨as, h1, h2⟩ => ⟨as, h1.ext hP hL hx hl hi hne, fun j v hv => (h2 j v hv).ext hP hx hl hi⟩
theorem dIs.ext {h l n : Nat} {w : List Iv} (hP : PF S) (hL : LI S) (hx : Xt S S' l n) (hl : kK S l = 3) (hi : Ix S I I' l) (hne : h ≠ l) : dIs S I x h w → dIs S' I' x h w := fun ⟨as, h1, h2⟩ => ⟨as, h1.ext hP hL hx hl hi hne, fun j v hv => (h2 j v hv).ext hP hx hl hi⟩
theorem dP.ext {a l n : Nat} {v : List Int32 × List Int32} (hP : PF S) (hx : Xt S S' l n) (hl : kK S l = 3) (hi : Ix S I I' l) (hd : dP S I x a v) : dP S' I' x a v := by
  obtain ⟨d1, d2, ⟨h1, d3, d4⟩, ⟨h2, d5, d6⟩⟩ := hd
  have ha : a < kZ S := hP.lt (by rw [d1]; decide)
  have n1 : a ≠ l := fun z => by subst z; rw [d1] at hl; cases hl
  obtain ⟨a1, a2, a3⟩ := hx.2 a ha
  exact ⟨a1.trans d1, d2, ⟨h1, (a3 0 (fun z => n1 z.1) (fun z => by rw [d1] at z; cases z.2.1)).trans d3, d4.ext hP hx hl hi⟩, ⟨h2, (a3 1 (fun z => n1 z.1) (fun z => by rw [d1] at z; cases z.2.1)).trans d5, d6.ext hP hx hl hi⟩⟩
/-- a rule that has not this list stays -/
theorem dR.ext {a l n : Nat} {v : Rv} (hP : PF S) (hL : LI S) (hx : Xt S S' l n) (hl : kK S l = 3) (hi : Ix S I I' l) (hne : kQ S a 0 ≠ some l ∧ kQ S a 4 ≠ some l ∧ kQ S a 5 ≠ some l) (hd : dR S I x a v) : dR S' I' x a v := by
  obtain ⟨d1, d2, d3, d4, d5, ⟨h1, e1, f1⟩, ⟨h2, e2, f2⟩, ⟨h3, e3, f3⟩⟩ := hd
  have ha : a < kZ S := hP.lt (by rw [d1]; decide)
  have n1 : a ≠ l := fun z => by subst z; rw [d1] at hl; cases hl
  obtain ⟨a1, a2, a3⟩ := hx.2 a ha
  have q : ∀ j, kQ S' a j = kQ S a j := fun j => a3 j (fun z => n1 z.1) (fun z => by rw [d1] at z; cases z.2.1)
  exact ⟨a1.trans d1, d2, (hi _ _ ha n1).trans d3, (hi _ _ ha n1).trans d4, (hi _ _ ha n1).trans d5, ⟨h1, (q 0).trans e1, f1.ext hP hL hx hl hi (fun z => hne.1 (z ▸ e1))⟩, ⟨h2, (q 4).trans e2, f2.ext hP hL hx hl hi (fun z => hne.2.1 (z ▸ e2))⟩, ⟨h3, (q 5).trans e3, f3.ext hP hL hx hl hi (fun z => hne.2.2 (z ▸ e3))⟩⟩
/-- the class' fixed cells stay -/
theorem cS.ext {l n : Nat} (hP : PF S) (hL : LI S) (hx : Xt S S' l n) (hl : kK S l = 3) (h30 : l ≠ x + 30) (hS : cS S x) : cS S' x := by
  have hk : ∀ k, kT k ≠ 0 → kT k ≠ 3 → x + k ≠ l := fun k h0 h3 z => by
    have := hS.1 k h0
    rw [z, hl] at this
    exact h3 this.symm
  refine ⟨fun k hk0 => ?_, fun k j hq => ?_, fun k hc => (hS.2.2.1 k hc).ext hP hx, ?_⟩
  · have := hS.1 k hk0
    exact (hx.2 _ (hP.lt (by rw [this]; exact hk0))).1.trans this
  · have h1 := hS.2.1 k j hq
    have hkk : kT k ≠ 0 ∧ (kT k = 3 → k = 30) := by
      have : ∀ k j, qT k j ≠ 0 → kT k ≠ 0 ∧ (kT k = 3 → k = 30) := by
        intro k j
        unfold qT
        split <;> first | decide | (intro h; exact absurd rfl h)
      exact this k j hq
    have hK := hS.1 k hkk.1
    obtain ⟨a1, a2, a3⟩ := hx.2 _ (hP.lt (by rw [hK]; exact hkk.1))
    refine (a3 j (fun z => ?_) (fun z => ?_)).trans h1
    · by_cases h3 : kT k = 3
      · have := hkk.2 h3
        subst this
        exact h30 z.1.symm
      · exact hk k hkk.1 h3 z.1
    · have h40 : x + k = x + 40 → False := fun e => by
        have e2 : k = 40 := by omega
        subst e2
        have := hL l (x + 30) (x + 40) hl (cK_30 hS) z.1 (cQ_30_1 hS) (cK_40 hS)
        exact h30 this
      have : kT k = 104 := by rw [← hK]; exact z.2.1
      have h104 : ∀ k, kT k = 104 → k = 40 := by
        intro k
        unfold kT
        split <;> (intro h; first | rfl | cases h)
      exact h40 (by rw [h104 k this])
  · have := hS.1 40 (by decide)
    exact (hx.2 _ (hP.lt (by rw [this]; decide))).2.1.trans hS.2.2.2
end
