/-! objects with rows, as they are made -/
/-- a row is made and put into field j of a -/
def oR (S : PS) (a j c : Nat) : PS := wQ (nR S c) a j (some (kZ S))
def rb (S : PS) (a : Nat) : List (Nat × Nat) → PS
  | [] => S
  | p :: l => rb (oR S a p.1 p.2) a l
theorem kZ_oR (S : PS) (a j c : Nat) : kZ (oR S a j c) = kZ S + 2 := rfl
theorem kK_oR {S : PS} {a j c b : Nat} (hb : b < kZ S) : kK (oR S a j c) b = kK S b := by
  unfold oR; rw [kK_wQ, kK_nR, if_neg (by omega), if_neg (by omega)]
theorem kN_oR {S : PS} {a j c b : Nat} (hb : b < kZ S) : kN (oR S a j c) b = kN S b := by
  unfold oR; rw [kN_wQ, kN_nR, if_neg (by omega), if_neg (by omega)]
theorem kQ_oR {S : PS} {a j c b i : Nat} (hb : b < kZ S) : kQ (oR S a j c) b i = if b = a ∧ i = j then some (kZ S) else kQ S b i := by
  unfold oR; rw [kQ_wQ, kQ_nR, if_neg (show ¬ (b = kZ S ∧ i = 0) by omega), if_neg (show ¬ b = kZ S + 1 by omega), if_neg (show ¬ b = kZ S by omega)]
theorem rS_oR {S : PS} {a j c : Nat} (ha : a < kZ S) (hc : c ≤ 1000) : rS (oR S a j c) (kZ S) c := by
  obtain ⟨a1, a2, a3, a4, a5⟩ := rS_nR S hc
  exact ⟨a1, by unfold oR; rw [kQ_wQ, if_neg (by omega)]; exact a2, a3, a4, a5⟩
theorem gI_oR {S : PS} (hg : gI S) {a j c K : Nat} (ha : kK S a = K) (h0 : K ≠ 0 ∧ K ≠ 105) (h3 : K ≠ 3) (h10 : K ≠ 10) : gI (oR S a j c) := by
  have hlt := hg.1.lt (show kK S a ≠ 0 by rw [ha]; exact h0.1)
  have e : kK (nR S c) a = K := by rw [kK_nR, if_neg (by omega), if_neg (by omega)]; exact ha
  exact (gI_nR hg c).set (by rw [e]; exact h3) (by rw [e]; exact h10) (by rw [e]; exact h0) (by rw [kZ_nR]; omega)
/-- old cells stay, but for the fields of a from j on -/
def Xo (S S' : PS) (a j : Nat) : Prop := kZ S ≤ kZ S' ∧ ∀ b, b < kZ S → kK S' b = kK S b ∧ kN S' b = kN S b ∧ ∀ i, (b ≠ a ∨ i < j) → kQ S' b i = kQ S b i
theorem Xo.tr {S S' S'' : PS} {a j j' : Nat} (h1 : Xo S S' a j) (h2 : Xo S' S'' a j') (hj : j ≤ j') : Xo S S'' a j := ⟨Nat.le_trans h1.1 h2.1, fun b hb => by
  obtain ⟨a1, a2, a3⟩ := h1.2 b hb
  obtain ⟨b1, b2, b3⟩ := h2.2 b (Nat.lt_of_lt_of_le hb h1.1)
  exact ⟨b1.trans a1, b2.trans a2, fun i hi => (b3 i (by omega)).trans (a3 i hi)⟩⟩
theorem Xo.le {S S' : PS} {a j j' : Nat} (h : Xo S S' a j) (hj : j' ≤ j) : Xo S S' a j' := ⟨h.1, fun b hb => ⟨(h.2 b hb).1, (h.2 b hb).2.1, fun i hi => (h.2 b hb).2.2 i (by omega)⟩⟩
theorem Xo_oR (S : PS) (a j c : Nat) : Xo S (oR S a j c) a j := ⟨Nat.le_add_right _ 2, fun b hb => ⟨kK_oR hb, kN_oR hb, fun i hi => by rw [kQ_oR hb, if_neg (by omega)]⟩⟩
theorem Xn.o {S S' : PS} (h : Xn S S') (a j : Nat) : Xo S S' a j := ⟨h.1, fun b hb => ⟨(h.2 b hb).1, (h.2 b hb).2.1, fun i _ => (h.2 b hb).2.2 i⟩⟩
theorem Xo_wQ (S : PS) (a j : Nat) (v : Option Nat) : Xo S (wQ S a j v) a j := ⟨Nat.le_refl _, fun b hb => ⟨rfl, rfl, fun i hi => by rw [kQ_wQ, if_neg (by omega)]⟩⟩
/-- seen from before a came: nothing old changed -/
theorem Xo.n {S0 S S' : PS} {a j : Nat} (h0 : Xn S0 S) (h : Xo S S' a j) (ha : kZ S0 ≤ a) : Xn S0 S' := ⟨Nat.le_trans h0.1 h.1, fun b hb => by
  obtain ⟨a1, a2, a3⟩ := h0.2 b hb
  obtain ⟨b1, b2, b3⟩ := h.2 b (Nat.lt_of_lt_of_le hb h0.1)
  exact ⟨b1.trans a1, b2.trans a2, fun i => (b3 i (Or.inl (by omega))).trans (a3 i)⟩⟩
theorem rS.o {S S' : PS} {a j h c : Nat} (hP : PF S) (hx : Xo S S' a j) (ha : kK S a ≠ 9) (hs : rS S h c) : rS S' h c := by
  obtain ⟨s1, s2, s3, s4, s5⟩ := hs
  obtain ⟨a1, a2, a3⟩ := hx.2 h (hP.lt (by rw [s1]; decide))
  obtain ⟨b1, b2, b3⟩ := hx.2 (h + 1) (hP.lt (by rw [s3]; decide))
  exact ⟨a1.trans s1, (a3 0 (Or.inl (fun z => ha (by rw [← z]; exact s1)))).trans s2, b1.trans s3, b2.trans s4, s5⟩
theorem rb_ok (a K : Nat) (h0 : K ≠ 0 ∧ K ≠ 105) (h3 : K ≠ 3) (h10 : K ≠ 10) (h9 : K ≠ 9) : ∀ (fs : List (Nat × Nat)) (S : PS) (j0 : Nat), gI S → kK S a = K → (∀ p ∈ fs, p.2 ≤ 1000) → (∀ (i : Nat) (p : Nat × Nat), fs[i]? = some p → p.1 = j0 + i) → gI (rb S a fs) ∧ kZ (rb S a fs) = kZ S + 2 * fs.length ∧ Xo S (rb S a fs) a j0 ∧ ∀ (i : Nat) (p : Nat × Nat), fs[i]? = some p → rS (rb S a fs) (kZ S + 2 * i) p.2 ∧ kQ (rb S a fs) a p.1 = some (kZ S + 2 * i)
  | [], S, j0, hg, ha, hc, hj => ⟨hg, rfl, Xn.rf.o a j0, fun i p hp => by simp at hp⟩
  | q :: fs, S, j0, hg, ha, hc, hj => by
    have hlt := hg.1.lt (show kK S a ≠ 0 by rw [ha]; exact h0.1)
    have hq : q.1 = j0 := by have := hj 0 q rfl; omega
    have g1 : gI (oR S a q.1 q.2) := gI_oR hg ha h0 h3 h10
    have k1 : kK (oR S a q.1 q.2) a = K := (kK_oR hlt).trans ha
    obtain ⟨r1, r2, r3, r4⟩ := rb_ok a K h0 h3 h10 h9 fs (oR S a q.1 q.2) (j0 + 1) g1 k1 (fun p hp => hc p (List.mem_cons_of_mem _ hp)) (fun i p hp => by
      have := hj (i + 1) p (by rw [List.getElem?_cons_succ]; exact hp)
      omega)
    rw [kZ_oR] at r2 r4
    refine ⟨r1, by rw [show rb S a (q :: fs) = rb (oR S a q.1 q.2) a fs from rfl, r2, List.length_cons]; omega, ?_, fun i p hp => ?_⟩
    · have := (Xo_oR S a q.1 q.2).tr r3 (by omega)
      rw [hq] at this
      exact (hq ▸ this)
    · cases i with
      | zero =>
        simp at hp
        subst hp
        refine ⟨(rS_oR hlt (hc q List.mem_cons_self)).o g1.1 r3 (by rw [k1]; exact h9), ?_⟩
        show kQ (rb (oR S a q.1 q.2) a fs) a q.1 = _
        rw [(r3.2 a (by rw [kZ_oR]; omega)).2.2 q.1 (Or.inr (by omega)), kQ_oR hlt, if_pos ⟨rfl, rfl⟩]
        rfl
      | succ i =>
        rw [List.getElem?_cons_succ] at hp
        have := r4 i p hp
        rw [show kZ S + 2 + 2 * i = kZ S + 2 * (i + 1) by omega] at this
        exact this
/-- making a row for a field -/
theorem st_row {S : PS} {I : Nat → Nat → Int32} (hg : gI S) {a K : Nat} (ha : kK S a = K) (h0 : K ≠ 0) (j : Nat) {n : Nat} (hn : n ≤ 180) : ∃ I', f_X5_init (wN (sI S I) 9 0) (kZ (sI S I)) (nI n) = some (sI (nR S n) I') ∧ kK (nR S n) a = K ∧ wQ (sI (nR S n) I') a j (some (kZ (sI S I))) = sI (oR S a j n) I' ∧ rL I' (kZ S) [] ∧ In S I I' := by
  have hlt := hg.1.lt (show kK S a ≠ 0 by rw [ha]; exact h0)
  obtain ⟨I', e, r, i⟩ := nw_row (S := S) I hn
  exact ⟨I', e, by rw [kK_nR, if_neg (by omega), if_neg (by omega)]; exact ha, rfl, r, i⟩
theorem rL.inn {S : PS} {I I' : Nat → Nat → Int32} {h : Nat} {l : List Int32} (hh : h + 1 < kZ S) (hi : In S I I') (hl : rL I h l) : rL I' h l := ⟨(hi _ _ (by omega)).trans hl.1, fun j hj => (hi _ _ hh).trans (hl.2 j hj)⟩
