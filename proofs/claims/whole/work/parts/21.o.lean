/-! THE CLASS IS MADE: what is known of its cells so far, as lists -/
def r0 (k : Nat) : List Int32 := if k = 8 then [15] else if k = 32 ∨ k = 42 ∨ k = 51 ∨ k = 60 then List.replicate 12 0 else []
def pS (S : PS) (I : Nat → Nat → Int32) (x : Nat) (ks : List Nat) (qs : List (Nat × Nat)) (rs : List Nat) (is : List (Nat × Nat)) (ls : List Nat) : Prop := (∀ k ∈ ks, kK S (x + k) = kT k) ∧ (∀ p ∈ qs, kQ S (x + p.1) p.2 = some (x + qT p.1 p.2)) ∧ (∀ r ∈ rs, rS S (x + r) (capT r) ∧ rL I (x + r) (r0 r)) ∧ (∀ p ∈ is, I (x + p.1) p.2 = 0) ∧ ∀ h ∈ ls, ∀ as, dL S (x + h) 0 as
/-- a change of the fields of a from j on touches none of it; ints below mi may stand, but for place 30 -/
def ck (m mi a j : Nat) (ks : List Nat) (qs : List (Nat × Nat)) (rs : List Nat) (is : List (Nat × Nat)) (ls : List Nat) : Bool := ks.all (fun k => decide (k < m)) && qs.all (fun p => decide (p.1 < m ∧ (p.1 ≠ a ∨ p.2 < j))) && rs.all (fun r => decide (r + 1 < m ∧ r + 1 < mi ∧ r ≠ a ∧ r ≠ 30 ∧ r ≠ 29)) && is.all (fun p => decide (p.1 < mi ∧ p.1 ≠ 30)) && ls.all (fun h => decide (h < m ∧ h ≠ a))
theorem dL.z {S S' : PS} {a j h : Nat} {as : Nat → Nat} (hP : PF S) (hx : Xo S S' a j) (ha : a ≠ h) (h0 : a ≠ 0) (hd : dL S h 0 as) : dL S' h 0 as := by
  obtain ⟨d1, d2, arr, d3, d4, d5, d6⟩ := hd
  have hh : h < kZ S := hP.lt (by rw [d1]; decide)
  obtain ⟨a1, a2, a3⟩ := hx.2 h hh
  have harr : arr < kZ S := hP.2.1 h 1 arr (by rw [d1]; decide) d3
  obtain ⟨b1, b2, b3⟩ := hx.2 arr harr
  refine ⟨a1.trans d1, d2, arr, (a3 1 (Or.inl (Ne.symm ha))).trans d3, fun j hj => absurd hj (Nat.not_lt_zero _), ?_, fun i j hi => absurd hi (Nat.not_lt_zero _)⟩
  rcases d5 with ⟨e1, e2, e3⟩ | ⟨e1, e2, e3⟩
  · exact Or.inl ⟨b1.trans e1, by rw [b2]; exact e2, by rw [b2]; exact e3⟩
  · exact Or.inr ⟨b1.trans e1, e2, ((hx.2 0 (by omega)).2.2 0 (Or.inl (Ne.symm h0))).trans e3⟩
section
variable {S S' : PS} {I I' : Nat → Nat → Int32} {x : Nat} {ks : List Nat} {qs : List (Nat × Nat)} {rs : List Nat} {is : List (Nat × Nat)} {ls : List Nat}
theorem pS.o {m mi a j : Nat} (h : pS S I x ks qs rs is ls) (hP : PF S) (hx : Xo S S' (x + a) j) (h0 : x + a ≠ 0) (hm : x + m ≤ kZ S) (hc : ck m mi a j ks qs rs is ls = true) (hI : ∀ c i, c < x + mi → c ≠ x + 30 → I' c i = I c i) : pS S' I' x ks qs rs is ls := by
  unfold ck at hc
  simp only [Bool.and_eq_true, List.all_eq_true, decide_eq_true_eq] at hc
  obtain ⟨⟨⟨⟨c1, c2⟩, c3⟩, c4⟩, c5⟩ := hc
  obtain ⟨p1, p2, p3, p4, p5⟩ := h
  refine ⟨fun k hk => ?_, fun p hp => ?_, fun r hr => ⟨?_, ?_, fun i hi => ?_⟩, fun p hp => ?_, fun h hh as => ?_⟩
  · have := c1 k hk
    exact ((hx.2 (x + k) (by omega)).1).trans (p1 k hk)
  · have := c2 p hp
    exact ((hx.2 (x + p.1) (by omega)).2.2 p.2 (by omega)).trans (p2 p hp)
  · have := c3 r hr
    obtain ⟨s1, s2, s3, s4, s5⟩ := (p3 r hr).1
    obtain ⟨a1, a2, a3⟩ := hx.2 (x + r) (by omega)
    obtain ⟨b1, b2, b3⟩ := hx.2 (x + r + 1) (by omega)
    exact ⟨a1.trans s1, (a3 0 (Or.inl (by omega))).trans s2, b1.trans s3, b2.trans s4, s5⟩
  · have := c3 r hr
    rw [hI _ _ (by omega) (by omega)]
    exact (p3 r hr).2.1
  · have := c3 r hr
    rw [hI _ _ (by omega) (by omega)]
    exact (p3 r hr).2.2 i hi
  · have := c4 p hp
    rw [hI _ _ (by omega) (by omega)]
    exact p4 p hp
  · have := c5 h hh
    exact (p5 h hh as).z hP hx (by omega) h0
theorem pS.k {k : Nat} (h : pS S I x ks qs rs is ls) (hk : kK S (x + k) = kT k) : pS S I x (k :: ks) qs rs is ls := ⟨List.forall_mem_cons.mpr ⟨hk, h.1⟩, h.2⟩
theorem pS.q {k j : Nat} (h : pS S I x ks qs rs is ls) (hk : kQ S (x + k) j = some (x + qT k j)) : pS S I x ks ((k, j) :: qs) rs is ls := ⟨h.1, List.forall_mem_cons.mpr ⟨hk, h.2.1⟩, h.2.2⟩
theorem pS.r {k : Nat} (h : pS S I x ks qs rs is ls) (hk : rS S (x + k) (capT k)) (hl : rL I (x + k) (r0 k)) : pS S I x ks qs (k :: rs) is ls := ⟨h.1, h.2.1, List.forall_mem_cons.mpr ⟨⟨hk, hl⟩, h.2.2.1⟩, h.2.2.2⟩
theorem pS.i {k j : Nat} (h : pS S I x ks qs rs is ls) (hk : I (x + k) j = 0) : pS S I x ks qs rs ((k, j) :: is) ls := ⟨h.1, h.2.1, h.2.2.1, List.forall_mem_cons.mpr ⟨hk, h.2.2.2.1⟩, h.2.2.2.2⟩
theorem pS.l {k : Nat} (h : pS S I x ks qs rs is ls) (hk : ∀ as, dL S (x + k) 0 as) : pS S I x ks qs rs is (k :: ls) := ⟨h.1, h.2.1, h.2.2.1, h.2.2.2.1, List.forall_mem_cons.mpr ⟨hk, h.2.2.2.2⟩⟩
/-- the new rows of the object at place n -/
theorem pS.rb {n K j0 : Nat} {fs : List (Nat × Nat)} (hg : gI S) (hk : kK S (x + n) = K) (hK : K = 5 ∨ K = 6 ∨ K = 11 ∨ K = 12) (hz : kZ S = x + (n + 1)) (hp : pS S I x ks qs rs is ls) (hn0 : x + n ≠ 0) (h1 : ∀ p ∈ fs, p.2 ≤ 1000) (h2 : ∀ (i : Nat) (p : Nat × Nat), fs[i]? = some p → p.1 = j0 + i ∧ qT n p.1 = n + 1 + 2 * i ∧ capT (n + 1 + 2 * i) = p.2) (hc : ck (n + 1) n n j0 ks qs rs is ls = true) (hI : ∀ c i, c < x + n → I' c i = I c i) (hr : ∀ i, i < fs.length → rL I' (kZ S + 2 * i) (r0 (n + 1 + 2 * i))) : gI (rb S (x + n) fs) ∧ kZ (rb S (x + n) fs) = x + (n + 1 + 2 * fs.length) ∧ Xo S (rb S (x + n) fs) (x + n) j0 ∧ pS (rb S (x + n) fs) I' x ks (fs.map (fun p => (n, p.1)) ++ qs) ((List.range fs.length).map (fun i => n + 1 + 2 * i) ++ rs) is ls := by
  obtain ⟨b1, b2, b3, b4⟩ := rb_ok (x + n) K (by omega) (by omega) (by omega) (by omega) fs S j0 hg hk h1 (fun i p hp => (h2 i p hp).1)
  obtain ⟨p1, p2, p3, p4, p5⟩ := hp.o (I' := I') hg.1 b3 hn0 (by omega) hc (fun c i h _ => hI c i h)
  refine ⟨b1, by omega, b3, p1, fun p hp => ?_, fun r hr9 => ?_, p4, p5⟩
  · rcases List.mem_append.mp hp with hp | hp
    · obtain ⟨v, hv, rfl⟩ := List.mem_map.mp hp
      obtain ⟨i, hi⟩ := List.getElem?_of_mem hv
      obtain ⟨-, e1, -⟩ := h2 i v hi
      show kQ _ (x + n) v.1 = some (x + qT n v.1)
      rw [(b4 i v hi).2, e1, hz]
      congr 1; omega
    · exact p2 p hp
  · rcases List.mem_append.mp hr9 with hq | hq
    · obtain ⟨i, hi, rfl⟩ := List.mem_map.mp hq
      have hi := List.mem_range.mp hi
      have hv := List.getElem?_eq_getElem hi
      obtain ⟨-, -, e2⟩ := h2 i _ hv
      have a1 := (b4 i _ hv).1
      have a2 := hr i hi
      rw [show kZ S + 2 * i = x + (n + 1 + 2 * i) by omega] at a1 a2
      exact ⟨by rw [e2]; exact a1, a2⟩
    · exact p3 r hq
end
/-- a new object at place n -/
theorem pS.wn {A : PS} {J : Nat → Nat → Int32} {x n K : Nat} {ks : List Nat} {qs : List (Nat × Nat)} {rs : List Nat} {is : List (Nat × Nat)} {ls : List Nat} (hg : gI A) (hx : kK A x = 13) (hz : kZ A = x + n) (hp : pS A J x ks qs rs is ls) (hK : kT n = K) (hn : 0 < n) (hc : ck n n n 0 ks qs rs is ls = true) : gI (wN A K 0) ∧ kZ (wN A K 0) = x + (n + 1) ∧ kK (wN A K 0) x = 13 ∧ kK (wN A K 0) (x + n) = K ∧ pS (wN A K 0) (nz J (x + n)) x (n :: ks) qs rs is ls := by
  have kn : kK (wN A K 0) (x + n) = K := by rw [kK_wN, if_pos hz.symm]
  refine ⟨hg.new K 0 (Or.inr trivial), by rw [kZ_wN]; omega, by rw [kK_wN, if_neg (by omega)]; exact hx, kn, pS.k ?_ (by rw [kn, hK])⟩
  exact hp.o (a := n) (j := 0) hg.1 (Xn_wN.o _ _) (by omega) (by omega) hc (fun c i h _ => nz_ne (by omega))
/-- the object is put into field j of the class -/
theorem pS.rt {A : PS} {J : Nat → Nat → Int32} {x n j m : Nat} {ks : List Nat} {qs : List (Nat × Nat)} {rs : List Nat} {is : List (Nat × Nat)} {ls : List Nat} (hg : gI A) (hx : kK A x = 13) (hz : kZ A = x + m) (hp : pS A J x ks qs rs is ls) (hn : n < m) (hq : qT 0 j = n) (hc : ck m m 0 j ks qs rs is ls = true) : gI (wQ A x j (some (x + n))) ∧ kK (wQ A x j (some (x + n))) x = 13 ∧ kZ (wQ A x j (some (x + n))) = x + m ∧ pS (wQ A x j (some (x + n))) J x ks ((0, j) :: qs) rs is ls := by
  have hx0 : x + 0 ≠ 0 := fun z => by
    obtain ⟨e0, -, -, -, k0⟩ := hg.1.2.2
    rw [show x = 0 from z] at hx; rcases k0 with k | k <;> rw [k] at hx <;> cases hx
  refine ⟨hg.set (by rw [hx]; decide) (by rw [hx]; decide) (by rw [hx]; decide) (by omega), hx, hz, pS.q ?_ ?_⟩
  · exact hp.o (a := 0) (j := j) hg.1 (Xo_wQ A x j _) hx0 (by omega) hc (fun c i _ _ => rfl)
  · show kQ (wQ A x j (some (x + n))) x j = _
    rw [kQ_wQ, if_pos ⟨rfl, rfl⟩, hq]
