/-! what stays when new cells come and rules are written -/
def Xm (S S' : PS) (I I' : Nat → Nat → Int32) : Prop := kZ S ≤ kZ S' ∧ ∀ a, a < kZ S → kK S' a = kK S a ∧ kN S' a = kN S a ∧ (kK S a ≠ 10 → (∀ j, kQ S' a j = kQ S a j) ∧ ∀ j, I' a j = I a j)
theorem Xn.m {S S' : PS} {I I' : Nat → Nat → Int32} (h : Xn S S') (hi : In S I I') : Xm S S' I I' := ⟨h.1, fun a ha => ⟨(h.2 a ha).1, (h.2 a ha).2.1, fun _ => ⟨(h.2 a ha).2.2, fun j => hi a j ha⟩⟩⟩
section
variable {S S' : PS} {I I' : Nat → Nat → Int32} {x : Nat}
theorem dW.xm {h : Nat} {w : List Int32} (hP : PF S) (hx : Xm S S' I I') (hd : dW S I x h w) : dW S' I' x h w := by
  obtain ⟨c, ⟨s1, s2, s3, s4, s5⟩, r, q1, q2⟩ := hd
  obtain ⟨a1, a2, a3⟩ := hx.2 h (hP.lt (by rw [s1]; decide))
  obtain ⟨b1, b2, b3⟩ := hx.2 (h + 1) (hP.lt (by rw [s3]; decide))
  have a4 := a3 (by rw [s1]; decide)
  have b4 := b3 (by rw [s3]; decide)
  exact ⟨c, ⟨a1.trans s1, (a4.1 0).trans s2, b1.trans s3, b2.trans s4, s5⟩, ⟨(a4.2 1).trans r.1, fun j hj => (b4.2 j).trans (r.2 j hj)⟩, q1, q2⟩
theorem dI.xm {a : Nat} {v : Iv} (hP : PF S) (hx : Xm S S' I I') (hd : dI S I x a v) : dI S' I' x a v := by
  obtain ⟨d1, d2, d3, d4, h, d5, d6⟩ := hd
  obtain ⟨a1, a2, a3⟩ := hx.2 a (hP.lt (by rw [d1]; decide))
  have a4 := a3 (by rw [d1]; decide)
  exact ⟨a1.trans d1, d2, (a4.2 0).trans d3, (a4.2 1).trans d4, h, (a4.1 2).trans d5, d6.xm hP hx⟩
theorem dL.xm {h n : Nat} {as : Nat → Nat} (hP : PF S) (hx : Xm S S' I I') (hd : dL S h n as) : dL S' h n as := by
  obtain ⟨d1, d2, arr, d3, d4, d5, d6⟩ := hd
  have hh : h < kZ S := hP.lt (by rw [d1]; decide)
  obtain ⟨a1, a2, a3⟩ := hx.2 h hh
  have k0 : kK S 0 = 0 ∨ kK S 0 = 105 := by obtain ⟨e0, -, -, -, z⟩ := hP.2.2; exact z
  refine ⟨a1.trans d1, d2, arr, ((a3 (by rw [d1]; decide)).1 1).trans d3, fun j hj => ?_, ?_, fun i j hi hj h1 h2 => d6 i j hi hj h1 (by
    obtain ⟨e1, e2, e3⟩ := d4 i hi
    rw [(hx.2 (as i) (hP.2.1 arr i (as i) (by rw [e1]; decide) e3)).1] at h2
    exact h2)⟩
  · obtain ⟨e1, e2, e3⟩ := d4 j hj
    obtain ⟨b1, b2, b3⟩ := hx.2 arr (hP.lt (by rw [e1]; decide))
    exact ⟨b1.trans e1, by rw [b2]; exact e2, ((b3 (by rw [e1]; decide)).1 j).trans e3⟩
  · rcases d5 with ⟨e1, e2, e3⟩ | ⟨e1, e2, e3⟩
    · obtain ⟨b1, b2, b3⟩ := hx.2 arr (hP.lt (by rw [e1]; decide))
      exact Or.inl ⟨b1.trans e1, by rw [b2]; exact e2, by rw [b2]; exact e3⟩
    · obtain ⟨b1, b2, b3⟩ := hx.2 arr (hP.lt (by rw [e1]; decide))
      exact Or.inr ⟨b1.trans e1, e2, (((hx.2 0 (by omega)).2.2 (by rcases k0 with k | k <;> rw [k] <;> decide)).1 0).trans e3⟩
theorem dD.xm {h n : Nat} {as : Nat → Nat} (hP : PF S) (hx : Xm S S' I I') (hd : dD S I x h n as) : dD S' I' x h n as := by
  have h3 := hd.1.1
  exact ⟨hd.1.xm hP hx, (((hx.2 h (hP.lt (by rw [h3]; decide))).2.2 (by rw [h3]; decide)).2 2).trans hd.2.1, hd.2.2⟩
theorem dIs.xm {h : Nat} {l : List Iv} (hP : PF S) (hx : Xm S S' I I') : dIs S I x h l → dIs S' I' x h l := fun ⟨as, h1, h2⟩ => ⟨as, h1.xm hP hx, fun j v hv => (h2 j v hv).xm hP hx⟩
theorem dWs.xm {h : Nat} {l : List (List Int32)} (hP : PF S) (hx : Xm S S' I I') : dWs S I x h l → dWs S' I' x h l := fun ⟨as, h1, h2⟩ => ⟨as, h1.xm hP hx, fun j v hv => (h2 j v hv).xm hP hx⟩
theorem Xm_wQ {a j b : Nat} (h10 : kK S a = 10) : Xm S (wQ S a j (some b)) I I := ⟨Nat.le_refl _, fun q hq => ⟨rfl, rfl, fun hn => ⟨fun i => by rw [kQ_wQ, if_neg (fun z => hn (by rw [z.1]; exact h10))], fun _ => rfl⟩⟩⟩
theorem Xm_up {a j : Nat} {v : Int32} (h10 : kK S a = 10) : Xm S S I (up I a j v) := ⟨Nat.le_refl _, fun q hq => ⟨rfl, rfl, fun hn => ⟨fun i => rfl, fun i => up_ne (Or.inl (fun z => hn (by rw [z]; exact h10)))⟩⟩⟩
theorem Xm.tr {S'' : PS} {I'' : Nat → Nat → Int32} (h1 : Xm S S' I I') (h2 : Xm S' S'' I' I'') : Xm S S'' I I'' := ⟨Nat.le_trans h1.1 h2.1, fun a ha => by
  obtain ⟨a1, a2, a3⟩ := h1.2 a ha
  obtain ⟨b1, b2, b3⟩ := h2.2 a (Nat.lt_of_lt_of_le ha h1.1)
  exact ⟨b1.trans a1, b2.trans a2, fun hn => ⟨fun j => ((b3 (by rw [a1]; exact hn)).1 j).trans ((a3 hn).1 j), fun j => ((b3 (by rw [a1]; exact hn)).2 j).trans ((a3 hn).2 j)⟩⟩⟩
end
