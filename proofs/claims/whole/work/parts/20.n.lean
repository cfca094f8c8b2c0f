/-! the class finds for a desk -/
theorem bx2_l {α β γ ε : Type} (a : α) (b : β) (f : α → β → Option (γ ⊕ ε)) : bx2 (some (.inl (a, b))) f = f a b := rfl
theorem bx2_r {α β γ ε : Type} (e : ε) (f : α → β → Option (γ ⊕ ε)) : bx2 (some (.inr e)) f = some (.inr e) := rfl
theorem bx1_l {α γ ε : Type} (a : α) (f : α → Option (γ ⊕ ε)) : bx1 (some (.inl a)) f = f a := rfl
theorem bx1_r {α γ ε : Type} (e : ε) (f : α → Option (γ ⊕ ε)) : bx1 (some (.inr e)) f = some (.inr e) := rfl
theorem cM.f0 {I : Nat → Nat → Int32} {x : Nat} {R : Nat → List Int32} {F : Nat → Nat → Int32} (h : cM I x R F) (j : Nat) : I x j = F 0 j := h.2 0 j rfl
theorem cM.u0 {I : Nat → Nat → Int32} {x : Nat} {R : Nat → List Int32} {F : Nat → Nat → Int32} (h : cM I x R F) (j : Nat) (v : Int32) : cM (up I x j v) x R (uF F 0 j v) ∧ ou I (up I x j v) x := h.fld (k := 0) rfl j v
def eC (R R' : Nat → List Int32) (F F' : Nat → Nat → Int32) : Prop := (∀ i, i < 9 → R' i = R i) ∧ (∀ i, 30 ≤ i → i < 69 → R' i = R i) ∧ ∀ i j, 11 ≤ i → F' i j = F i j
theorem eC.rf {R : Nat → List Int32} {F : Nat → Nat → Int32} : eC R R F F := ⟨fun _ _ => rfl, fun _ _ _ => rfl, fun _ _ _ => rfl⟩
theorem eC.tr {R R' R'' : Nat → List Int32} {F F' F'' : Nat → Nat → Int32} (h1 : eC R R' F F') (h2 : eC R' R'' F' F'') : eC R R'' F F'' := ⟨fun i hi => (h2.1 i hi).trans (h1.1 i hi), fun i a b => (h2.2.1 i a b).trans (h1.2.1 i a b), fun i j a => (h2.2.2 i j a).trans (h1.2.2 i j a)⟩
theorem eC.r {R R' : Nat → List Int32} {F F' : Nat → Nat → Int32} (h : eC R R' F F') {k : Nat} {l : List Int32} (hk : (9 ≤ k ∧ k < 30) ∨ 69 ≤ k) : eC R (uR R' k l) F F' := ⟨fun i hi => by rw [uR_ne (by omega)]; exact h.1 i hi, fun i a b => by rw [uR_ne (by omega)]; exact h.2.1 i a b, h.2.2⟩
theorem eC.f {R R' : Nat → List Int32} {F F' : Nat → Nat → Int32} (h : eC R R' F F') {k j : Nat} {v : Int32} (hk : k < 11) : eC R R' F (uF F' k j v) := ⟨h.1, h.2.1, fun i q hi => by rw [uF_ne (Or.inl (by omega))]; exact h.2.2 i q hi⟩
theorem eT.c {R R' : Nat → List Int32} {F F' : Nat → Nat → Int32} (h : eT R R' F F') : eC R R' F F' := ⟨fun i hi => h.1 i (by omega), fun i a b => h.1 i (by omega), fun i j a => h.2 i j (by omega)⟩
theorem eF.c {R R' : Nat → List Int32} {F : Nat → Nat → Int32} (h : eF R R') : eC R R' F F := ⟨fun i hi => h i (by omega), fun i a b => h i (by omega), fun i j a => rfl⟩
theorem eC.t {R R' : Nat → List Int32} {F F' : Nat → Nat → Int32} {T : St} (h : eC R R' F F') (hT : cT T R F) : cT T R' F' := by
  obtain ⟨a1, a2, a3, a4, a5, a6, a7, a8⟩ := hT
  refine ⟨(h.1 1 (by omega)).trans a1, (h.1 4 (by omega)).trans a2, (h.1 6 (by omega)).trans a3, (h.1 8 (by omega)).trans a4, (h.2.2 26 2 (by omega)).trans a5, (h.2.2 27 2 (by omega)).trans a6, (h.2.2 30 2 (by omega)).trans a7, fun d hd => ?_⟩
  have hl := dO_lt d
  obtain ⟨b1, b2, b3, b4, b5, b6⟩ := a8 d hd
  exact ⟨(h.2.1 _ (by omega) (by omega)).trans b1, (h.2.2 _ _ (by omega)).trans b2, (h.2.2 _ _ (by omega)).trans b3, (h.2.1 _ (by omega) (by omega)).trans b4, (h.2.1 _ (by omega) (by omega)).trans b5, (h.2.1 _ (by omega) (by omega)).trans b6⟩
/-- .. when it has found for a desk -/
def c9 (S : PS) (I : Nat → Nat → Int32) (x : Nat) (T : St) (d : Nat) (TN : List Nat) (R : Nat → List Int32) (F : Nat → Nat → Int32) : Prop := cM I x R F ∧ cT T R F ∧ F 0 7 = 1 ∧ F 0 8 = nI d ∧ cR T R ∧ cF T d TN R
theorem c9.ci {S : PS} {I : Nat → Nat → Int32} {x : Nat} {T : St} {d : Nat} {TN : List Nat} {R : Nat → List Int32} {F : Nat → Nat → Int32} (h : c9 S I x T d TN R F) (hS : cS S x) (hB : dB S I x T.2.2.2.2.1 T.2.2.2.2.2.1) (hd : d < 4) : cI S I x T :=
  ⟨hS, hB, R, F, h.1, h.2.1, Or.inr ⟨h.2.2.1, h.2.2.2.2.1⟩, Or.inr ⟨h.2.2.1, d, TN, hd, h.2.2.2.1, h.2.2.2.2.2⟩⟩
section
variable {S : PS} {I : Nat → Nat → Int32} {x : Nat} {T : St} {R : Nat → List Int32} {F : Nat → Nat → Int32}
theorem dl_desks (hS : cS S x) : dL S (x + 30) 4 (fun d => x + dO d) := ⟨cK_30 hS, by decide, x + 40, cQ_30_1 hS, fun j hj => ⟨cK_40 hS, by rw [cN_40 hS]; omega, cQ_40_d hS hj⟩, Or.inl ⟨cK_40 hS, by rw [cN_40 hS]; decide, Or.inl (cN_40 hS)⟩, fun i j hi hj h1 h2 => by simp only [cK_d hS hi] at h2; cases h2⟩
theorem cx_deskNo (hS : cS S x) (hM : cM I x R F) (hF : F 30 2 = nI 4) {p : Int32} (hp : p < 0 ∨ nI 4 ≤ p) : f_X9_deskAt (sI S I) x p = some (.inr (sI S I, 1)) := by
  unfold f_X9_deskAt
  simp only [kK_sI, kQ_sI, kN_sI, kZ_sI, kI_sI, wI_sI, if_true, Option.bind_some, lt, cK_0 hS, cQ_0_0 hS, cQ_0_1 hS, cQ_0_2 hS, cQ_0_3 hS, cQ_0_4 hS, cQ_0_5 hS, cQ_0_6 hS, cR9_1 hS, cR9_77 hS, cK_30 hS, dl_size (dl_desks hS) (show I (x + 30) 2 = nI 4 by rw [hM.2 30 2 rfl, hF])]
  rcases hp with hp | hp
  · rw [if_pos hp]
  · by_cases h0 : p < 0
    · rw [if_pos h0]
    · rw [if_neg h0, if_neg (Int32.not_lt.mpr hp)]
theorem cx_deskAt (hS : cS S x) (hM : cM I x R F) (hF : F 30 2 = nI 4) {d : Nat} (hd : d < 4) : f_X9_deskAt (sI S I) x (nI d) = some (.inl (sI S I, x + dO d)) := by
  have hd3 : d < 2 ^ 31 := by omega
  have hn : I (x + 30) 2 = nI 4 := by rw [hM.2 30 2 rfl, hF]
  unfold f_X9_deskAt
  simp only [kK_sI, kQ_sI, kN_sI, kZ_sI, kI_sI, wI_sI, if_true, Option.bind_some, lt, cK_0 hS, cQ_0_0 hS, cQ_0_1 hS, cQ_0_2 hS, cQ_0_3 hS, cQ_0_4 hS, cQ_0_5 hS, cQ_0_6 hS, cR9_1 hS, cR9_77 hS, cK_30 hS, dl_size (dl_desks hS) hn, nI_lt0 hd3, if_false, nI_ltI hd3 (show 4 < 2 ^ 31 by decide), if_pos hd, dl_get (dl_desks hS) hn hd, cK_d hS hd]
theorem ci_solve (hS : cS S x) (hB : dB S I x T.2.2.2.2.1 T.2.2.2.2.2.1) (hw : wf T) (hM : cM I x R F) (hT : cT T R F) (h7 : F 0 7 = 1) (hR : cR T R) {d : Nat} (hd : d < 4) : ∃ J R' TN, f_X2_solve (sI S I) (x + 68) (x + dO d) = some (sI S J) ∧ ou I J x ∧ c9 S (up J x 8 (nI d)) x T d TN R' (uF F 0 8 (nI d)) ∧ ou I (up J x 8 (nI d)) x := by
  obtain ⟨w1, w2, w3, w4, w5, w6, w7, w8, w9, w10, w11⟩ := hw
  obtain ⟨a1, a2, a3, a4, a5, a6, a7, a8⟩ := hT
  obtain ⟨TN, R', ⟨J, g, m, u⟩, f1, f2, f3, f4, f5, f6, f7⟩ := cs_solve hS hM hR.1 hB a5 w7 (tsO_wT w2) (tsO_oT _) hd (a8 d hd) (w11 d hd).1 rfl hR.2 (fun j r hj h => fd_in w7 hj h)
  obtain ⟨m2, u2⟩ := m.u0 8 (nI d)
  refine ⟨J, R', TN, g, u, ⟨m2, (f1.c.f (by decide)).t ⟨a1, a2, a3, a4, a5, a6, a7, a8⟩, ?_, uF_eq _ _ _ _, ⟨f1.tM hR.1, ?_⟩, ⟨f3, f5, f4⟩, f2, ?_, ?_⟩, u.tr u2⟩
  · rw [uF_ne (Or.inr (by decide))]; exact h7
  · rw [f1 28 (by omega)]; exact hR.2
  · rw [f3]; exact f6
  · rw [f3]; exact f7
theorem ci_findFor (hI : cI S I x T) (hw : wf T) {d : Nat} (hd : d < 4) : ∃ J R' F' TN, f_X9_findFor (sI S I) x (nI d) = some (.inl (sI S J, x + dO d)) ∧ ou I J x ∧ c9 S J x T d TN R' F' := by
  obtain ⟨hS, hB, R, F, hM, hT, hC1, hC2⟩ := hI
  have hw2 := hw.2.1
  have hd3 : d < 2 ^ 31 := by omega
  unfold f_X9_findFor
  simp only [kK_sI, kQ_sI, kN_sI, kZ_sI, kI_sI, wI_sI, if_true, Option.bind_some, lt, cK_0 hS, cx_deskAt hS hM hT.2.2.2.2.2.2.1 hd, bx2_l, bx2_r, bx1_l, bx1_r, hM.f0]
  -- what follows when all is read
  have key : ∀ (J : Nat → Nat → Int32) (R' : Nat → List Int32) (F' : Nat → Nat → Int32), ou I J x → cM J x R' F' → cT T R' F' → F' 0 7 = 1 → cR T R' → (F' 0 8 = -1 ∨ ∃ e TN, e < 4 ∧ F' 0 8 = nI e ∧ cF T e TN R') → ∃ J2 R2 F2 TN, (if J x 8 = nI d then some (Sum.inl (sI S J, x + dO d)) else (kQ S x 5).bind fun a10 => if kK S a10 = 6 then (f_X2_solve (sI S J) a10 (x + dO d)).bind fun r13 => if kK r13 x = 13 then some (Sum.inl (wI r13 x 8 (nI d), x + dO d)) else none else none : Option ((PS × Nat) ⊕ (PS × Nat))) = some (.inl (sI S J2, x + dO d)) ∧ ou I J2 x ∧ c9 S J2 x T d TN R2 F2 := by
    intro J R' F' u m ht h7 hr h8
    rw [m.f0]
    by_cases e : F' 0 8 = nI d
    · rw [if_pos e]
      rcases h8 with h8 | ⟨e2, TN, h9, h10, h11⟩
      · rw [e] at h8
        have := nI_pos hd3
        rw [h8] at this
        exact absurd (by decide) this
      · have : e2 = d := nI_inj (by omega) hd3 (h10.symm.trans e)
        subst this
        exact ⟨J, R', F', TN, rfl, u, m, ht, h7, e, hr, h11⟩
    · rw [if_neg e]
      obtain ⟨J2, R2, TN, g, u2, h9, u3⟩ := ci_solve hS (hB.kept u) hw m ht h7 hr hd
      simp only [cQ_0_5 hS, cK_68 hS, if_true, Option.bind_some, g, kK_sI, cK_0 hS, wI_sI]
      exact ⟨_, R2, _, TN, rfl, u.tr u3, h9⟩
  by_cases e : F 0 7 = 0
  · rw [if_pos e]
    have h8 : F 0 8 = -1 := by
      rcases hC2 with h | ⟨h, -⟩
      · exact h
      · rw [e] at h; exact absurd h (by decide)
    obtain ⟨R1, F1, ⟨I1, g1, m1, u1⟩, s1, e1⟩ := cx_read hS hM hT.2.1
    simp only [cQ_0_2 hS, cQ_0_3 hS, cK_10 hS, cK_25 hS, if_true, Option.bind_some, g1, kK_sI, kQ_sI, kN_sI, kZ_sI, kI_sI, wI_sI, if_true, Option.bind_some, lt, cK_0 hS]
    have ht1 := e1.c.t hT
    obtain ⟨H, ⟨I2, g2, m2, u2⟩, b2⟩ := ct_look hS m1 s1.1 (tsO_wT hw2) ht1.2.1 (hB.kept u1) ht1.2.2.2.2.1 ht1.2.2.2.2.2.1 hw.2.2.2.2.2.2.1.1 hw.2.2.2.2.2.2.2.2.1
    simp only [g2, Option.bind_some, kK_sI, cK_0 hS, if_true, wI_sI]
    obtain ⟨m3, u3⟩ := m2.u0 7 1
    have ht2 := ((eC.rf (R := R1) (F := F1)).r (k := 28) (l := H) (by omega)).t ht1
    have ht3 := (eC.rf.f (k := 0) (j := 7) (v := 1) (by decide)).t ht2
    refine key _ _ _ ((u1.tr u2).tr u3) m3 ht3 (uF_eq _ _ _ _) ⟨s1.1.kept, by rw [uR_eq]; exact b2⟩ (Or.inl ?_)
    rw [uF_ne (Or.inr (by decide)), e1.2 0 8 (by decide), h8]
  · rw [if_neg e]
    have h7 : F 0 7 = 1 ∧ cR T R := by
      rcases hC1 with h | h
      · exact absurd h e
      · exact h
    have h8 := key I R F ou.rf hM hT h7.1 h7.2 (by
      rcases hC2 with h | ⟨-, h⟩
      · exact Or.inl h
      · exact Or.inr h)
    rw [hM.f0] at h8
    exact h8
theorem ci_findNo (hI : cI S I x T) {p : Int32} (hp : p < 0 ∨ nI 4 ≤ p) : f_X9_findFor (sI S I) x p = some (.inr (sI S I, 1)) := by
  obtain ⟨hS, hB, R, F, hM, hT, hC⟩ := hI
  unfold f_X9_findFor
  simp only [kK_sI, kQ_sI, kN_sI, kZ_sI, kI_sI, wI_sI, if_true, Option.bind_some, lt, cK_0 hS, cx_deskNo hS hM hT.2.2.2.2.2.2.1 hp, bx2_l, bx2_r, bx1_l, bx1_r]
end
