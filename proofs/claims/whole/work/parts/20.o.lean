/-! edits: what is ignored goes on with them -/
theorem m1_eq (v : Int32) : v + (-1) = v - 1 := (Int32.sub_eq_add_neg (a := v) (b := 1)).symm
def fP (p : Nat) (g : Gn) : Option Gn := if p ≤ g.2.1 then some (g.1, g.2.1 + 1, g.2.2) else if p < g.2.1 + g.2.2 then none else some g
def fT (p : Nat) (g : Gn) : Option Gn := if p < g.2.1 then some (g.1, g.2.1 - 1, g.2.2) else if p < g.2.1 + g.2.2 then none else some g
theorem set_mid {α : Type} (A B : List α) (g v : α) : (A ++ g :: B).set A.length v = A ++ v :: B := by
  induction A with
  | nil => rfl
  | cons a A ih => simp only [List.cons_append, List.length_cons, List.set_cons_succ, ih]
theorem erase_mid {α : Type} (A B : List α) (g : α) : (A ++ g :: B).eraseIdx A.length = A ++ B := by
  induction A with
  | nil => rfl
  | cons a A ih => simp only [List.cons_append, List.length_cons, List.eraseIdx_cons_succ, ih]
theorem get_mid {α : Type} (A B : List α) (g : α) : (A ++ g :: B)[A.length]? = some g := by
  simp
theorem dO_sep {d e : Nat} (h : d < e) (he : e < 4) : dO d + 9 ≤ dO e := by
  have h1 : dO 0 = 31 := rfl
  have h2 : dO 1 = 41 := rfl
  have h3 : dO 2 = 50 := rfl
  have h4 : dO 3 = 59 := rfl
  rcases dO_cases he with rfl | rfl | rfl | rfl
  · omega
  · have : d = 0 := by omega
    subst this; omega
  · have : d = 0 ∨ d = 1 := by omega
    rcases this with rfl | rfl <;> omega
  · have : d = 0 ∨ d = 1 ∨ d = 2 := by omega
    rcases this with rfl | rfl | rfl <;> omega
def eD (d : Nat) (R R' : Nat → List Int32) : Prop := ∀ i, i ≠ dO d + 3 → i ≠ dO d + 5 → i ≠ dO d + 7 → R' i = R i
theorem eD.rf {d : Nat} {R : Nat → List Int32} : eD d R R := fun _ _ _ _ => rfl
theorem eD.tr {d : Nat} {R R' R'' : Nat → List Int32} (h1 : eD d R R') (h2 : eD d R' R'') : eD d R R'' := fun i a b c => (h2 i a b c).trans (h1 i a b c)
theorem eD.r {d : Nat} {R R' : Nat → List Int32} (h : eD d R R') {k : Nat} {l : List Int32} (hk : k = dO d + 3 ∨ k = dO d + 5 ∨ k = dO d + 7) : eD d R (uR R' k l) := fun i a b c => by
  rw [uR_ne (by rcases hk with rfl | rfl | rfl <;> assumption)]
  exact h i a b c
theorem eD.dM {d e : Nat} {R R' : Nat → List Int32} {F : Nat → Nat → Int32} {k : Dk} (h : eD d R R') (hde : d ≠ e) (hd : d < 4) (he : e < 4) (hk : dM R F e k) : dM R' F e k := by
  have hs : dO d + 9 ≤ dO e ∨ dO e + 9 ≤ dO d := by
    by_cases q : d < e
    · exact Or.inl (dO_sep q he)
    · exact Or.inr (dO_sep (by omega) hd)
  obtain ⟨b1, b2, b3, b4, b5, b6⟩ := hk
  exact ⟨(h _ (by omega) (by omega) (by omega)).trans b1, b2, b3, (h _ (by omega) (by omega) (by omega)).trans b4, (h _ (by omega) (by omega) (by omega)).trans b5, (h _ (by omega) (by omega) (by omega)).trans b6⟩
def uG (k : Dk) (gl : List Gn) : Dk := (k.1, k.2.1, k.2.2.1, gl)
section
variable {S : PS} {I : Nat → Nat → Int32} {x : Nat} {R : Nat → List Int32} {F : Nat → Nat → Int32} {d : Nat} {k : Dk}
theorem cd_forget (hS : cS S x) (hM : cM I x R F) (hd : d < 4) {A B : List Gn} {g : Gn} (hl : (A ++ g :: B).length ≤ 20) (hk : dM R F d (uG k (A ++ g :: B))) : ∃ R', cO S I x R' F (f_X1_forget (sI S I) (x + dO d) (nI A.length)) ∧ eD d R R' ∧ dM R' F d (uG k (A ++ B)) := by
  obtain ⟨b1, b2, b3, b4, b5, b6⟩ := hk
  have c3 : capT (dO d + 3) ≠ 0 := by rw [capT_d3]; decide
  have c5 : capT (dO d + 5) ≠ 0 := by rw [capT_d5]; decide
  have c7 : capT (dO d + 7) ≠ 0 := by rw [capT_d7]; decide
  simp only [uG] at b4 b5 b6
  unfold f_X1_forget
  simp only [kK_sI, kQ_sI, kN_sI, kZ_sI, kI_sI, wI_sI, if_true, Option.bind_some, lt, cK_d hS hd, cQ_d_0 hS hd, cQ_d_1 hS hd, cQ_d_2 hS hd, cQ_d_3 hS hd, cR9_d1 hS hd, cR9_d3 hS hd, cR9_d5 hS hd, cR9_d7 hS hd]
  obtain ⟨I1, g1, m1, u1⟩ := cm_remove hS hM c3 (j := A.length) (by rw [b4]; simp)
  rw [g1]
  simp only [kK_sI, kQ_sI, kN_sI, kZ_sI, kI_sI, wI_sI, if_true, Option.bind_some, lt, cK_d hS hd, cQ_d_0 hS hd, cQ_d_1 hS hd, cQ_d_2 hS hd, cQ_d_3 hS hd, cR9_d1 hS hd, cR9_d3 hS hd, cR9_d5 hS hd, cR9_d7 hS hd]
  obtain ⟨I2, g2, m2, u2⟩ := cm_remove hS m1 c5 (j := A.length) (by rw [uR_ne (by omega), b5]; simp)
  rw [g2]
  simp only [kK_sI, kQ_sI, kN_sI, kZ_sI, kI_sI, wI_sI, if_true, Option.bind_some, lt, cK_d hS hd, cQ_d_0 hS hd, cQ_d_1 hS hd, cQ_d_2 hS hd, cQ_d_3 hS hd, cR9_d1 hS hd, cR9_d3 hS hd, cR9_d5 hS hd, cR9_d7 hS hd]
  obtain ⟨I3, g3, m3, u3⟩ := cm_remove hS m2 c7 (j := A.length) (by rw [uR_ne (by omega), uR_ne (by omega), b6]; simp)
  rw [g3]
  have er : ∀ f : Gn → Int32, ((A ++ g :: B).map f).eraseIdx A.length = (A ++ B).map f := by
    intro f
    rw [List.map_append, List.map_cons, List.map_append, ← erase_mid (A.map f) (B.map f) (f g), List.length_map]
  refine ⟨_, ⟨I3, rfl, m3, (u1.tr u2).tr u3⟩, ((eD.rf.r (Or.inl rfl)).r (Or.inr (Or.inl rfl))).r (Or.inr (Or.inr rfl)), ?_, b2, b3, ?_, ?_, ?_⟩
  · rw [uR_ne (by omega), uR_ne (by omega), uR_ne (by omega)]; exact b1
  · rw [uR_ne (by omega), uR_ne (by omega), uR_eq, b4, er]; rfl
  · rw [uR_ne (by omega), uR_eq, uR_ne (by omega), b5, er]; rfl
  · rw [uR_eq, uR_ne (by omega), uR_ne (by omega), b6, er]; rfl
theorem cd_setFrom (hS : cS S x) (hM : cM I x R F) (hd : d < 4) {A B : List Gn} {g : Gn} (hl : A.length < 2 ^ 31) (v : Nat) (hk : dM R F d (uG k (A ++ g :: B))) : ∃ R', cO S I x R' F (f_X5_set (sI S I) (x + (dO d + 5)) (nI A.length) (nI v)) ∧ eD d R R' ∧ dM R' F d (uG k (A ++ (g.1, v, g.2.2) :: B)) := by
  obtain ⟨b1, b2, b3, b4, b5, b6⟩ := hk
  have c5 : capT (dO d + 5) ≠ 0 := by rw [capT_d5]; decide
  simp only [uG] at b4 b5 b6
  obtain ⟨I1, g1, m1, u1⟩ := cm_set hS hM c5 (j := A.length) hl (nI v)
  rw [g1]
  refine ⟨_, ⟨I1, rfl, m1, u1⟩, eD.rf.r (Or.inr (Or.inl rfl)), ?_, b2, b3, ?_, ?_, ?_⟩
  · rw [uR_ne (by omega)]; exact b1
  · rw [uR_ne (by omega), b4]; simp [uG]
  · rw [uR_eq, b5]
    simp only [uG, List.map_append, List.map_cons]
    rw [← List.length_map (f := fun g : Gn => nI g.2.1), set_mid]
  · rw [uR_ne (by omega), b6]; simp [uG]
theorem split_at {α : Type} (l : List α) (m : Nat) (hm : 0 < m) (hl : m ≤ l.length) : ∃ A g B, l = A ++ g :: B ∧ A.length = m - 1 ∧ l.take m = A ++ [g] ∧ l.drop m = B ∧ l.take (m - 1) = A ∧ l.drop (m - 1) = g :: B := by
  have hg : l.drop (m - 1) = l[m - 1] :: l.drop m := by
    have := List.drop_eq_getElem_cons (l := l) (i := m - 1) (by omega)
    rw [this, show m - 1 + 1 = m by omega]
  refine ⟨l.take (m - 1), l[m - 1], l.drop m, ?_, by simp; omega, ?_, rfl, rfl, hg⟩
  · rw [← hg, List.take_append_drop]
  · have := List.take_succ_eq_append_getElem (l := l) (i := m - 1) (by omega)
    rw [show m - 1 + 1 = m by omega] at this
    exact this
theorem cd_followPut (hS : cS S x) (hM : cM I x R F) (hd : d < 4) (hk : dM R F d k) (hl : k.2.2.2.length ≤ 20) (hb : ∀ g ∈ k.2.2.2, g.2.1 ≤ 1000 ∧ g.2.2 ≤ 1000) {p : Nat} (hp : p < 1000) : ∃ R', cO S I x R' F (f_X1_followPut (sI S I) (x + dO d) (nI p)) ∧ eD d R R' ∧ dM R' F d (uG k (k.2.2.2.filterMap (fP p))) := by
  unfold f_X1_followPut
  simp only [kK_sI, kQ_sI, kN_sI, kZ_sI, kI_sI, wI_sI, if_true, Option.bind_some, lt, cK_d hS hd, cQ_d_0 hS hd, cQ_d_1 hS hd, cQ_d_2 hS hd, cQ_d_3 hS hd, cR9_d1 hS hd, cR9_d3 hS hd, cR9_d5 hS hd, cR9_d7 hS hd, cd_count hS hM hd hk]
  obtain ⟨z, e1, R1, J1, rfl, q1, q2, q3, q4⟩ := it_gen (b := fun (v : Int32 × PS) => f_X1_followPut_b7 (x + dO d) (nI p) v.1 v.2)
    (P := fun m s => m ≤ k.2.2.2.length ∧ ∃ R' J, s = (nI m - 1, sI S J) ∧ cM J x R' F ∧ ou I J x ∧ eD d R R' ∧ dM R' F d (uG k (k.2.2.2.take m ++ (k.2.2.2.drop m).filterMap (fP p))))
    (Q := fun z => ∃ R' J, z = sI S J ∧ cM J x R' F ∧ ou I J x ∧ eD d R R' ∧ dM R' F d (uG k (k.2.2.2.filterMap (fP p))))
    (fun m s ⟨hm, R', J, e, m1, u1, e9, hk'⟩ => by
      subst e
      unfold f_X1_followPut_b7
      by_cases h0 : m = 0
      · subst h0
        rw [if_pos (show nI 0 - 1 < 0 by decide +kernel)]
        exact Or.inr ⟨_, rfl, R', J, rfl, m1, u1, e9, by simpa using hk'⟩
      · obtain ⟨A, g, B, s1, s2, s3, s4, s5, s6⟩ := split_at k.2.2.2 m (by omega) hm
        have hA3 : A.length < 2 ^ 31 := by omega
        have hgm : g ∈ k.2.2.2 := by rw [s1]; simp
        obtain ⟨bb1, bb2⟩ := hb g hgm
        have hlen : (B.filterMap (fP p)).length ≤ B.length := List.length_filterMap_le _ _
        have hAB : A.length + B.length + 1 ≤ 20 := by rw [s1] at hl; simp at hl; omega
        rw [s3, s4, List.append_assoc, List.singleton_append] at hk'
        rw [nI_sub1 (show 0 < m by omega), ← s2, if_neg (nI_pos hA3)]
        have f5 : la (R' (dO d + 5)) A.length = nI g.2.1 := by rw [hk'.2.2.2.2.1, la_map]; simp only [uG, get_mid]
        have f7 : la (R' (dO d + 7)) A.length = nI g.2.2 := by rw [hk'.2.2.2.2.2, la_map]; simp only [uG, get_mid]
        simp only [kK_sI, kQ_sI, kN_sI, kZ_sI, kI_sI, wI_sI, if_true, Option.bind_some, lt, cK_d hS hd, cQ_d_0 hS hd, cQ_d_1 hS hd, cQ_d_2 hS hd, cQ_d_3 hS hd, cR9_d1 hS hd, cR9_d3 hS hd, cR9_d5 hS hd, cR9_d7 hS hd, cm_getn hS m1 (k := dO d + 5) (by rw [capT_d5]; decide) hA3, cm_getn hS m1 (k := dO d + 7) (by rw [capT_d7]; decide) hA3, f5, f7, nI_ltI (show g.2.1 < 2 ^ 31 by omega) (show p < 2 ^ 31 by omega), nI_add, nI_leI (show g.2.1 + g.2.2 < 2 ^ 31 by omega) (show p < 2 ^ 31 by omega), nI_1]
        have fin : ∀ (R2 : Nat → List Int32) (J2 : Nat → Nat → Int32), cM J2 x R2 F → ou I J2 x → eD d R R2 → dM R2 F d (uG k (A ++ (g :: B).filterMap (fP p))) → (∃ s' k', (some (Sum.inl (nI A.length + (-1), sI S J2)) : Option ((Int32 × PS) ⊕ PS)) = some (.inl s') ∧ k' < m ∧ k' ≤ k.2.2.2.length ∧ ∃ R' J, s' = (nI k' - 1, sI S J) ∧ cM J x R' F ∧ ou I J x ∧ eD d R R' ∧ dM R' F d (uG k (k.2.2.2.take k' ++ (k.2.2.2.drop k').filterMap (fP p)))) := by
          intro R2 J2 w1 w2 w3 w4
          exact ⟨_, m - 1, rfl, by omega, by omega, R2, J2, by rw [s2, m1_eq], w1, w2, w3, by rw [s5, s6]; exact w4⟩
        by_cases h1 : g.2.1 < p
        · rw [if_pos h1]
          by_cases h2 : g.2.1 + g.2.2 ≤ p
          · rw [if_pos h2]
            refine Or.inl (fin R' J m1 u1 e9 ?_)
            have : fP p g = some g := by unfold fP; rw [if_neg (by omega), if_neg (by omega)]
            rw [List.filterMap_cons_some this]
            exact hk'
          · rw [if_neg h2]
            obtain ⟨R2, ⟨J2, g2, m2, u2⟩, w1, w2⟩ := cd_forget hS m1 hd (by simp; omega) hk'
            rw [g2]
            refine Or.inl (fin R2 J2 m2 (u1.tr u2) (e9.tr w1) ?_)
            have : fP p g = none := by unfold fP; rw [if_neg (by omega), if_pos (by omega)]
            rw [List.filterMap_cons_none this]
            exact w2
        · rw [if_neg h1]
          obtain ⟨R2, ⟨J2, g2, m2, u2⟩, w1, w2⟩ := cd_setFrom hS m1 hd hA3 (g.2.1 + 1) hk'
          rw [g2]
          refine Or.inl (fin R2 J2 m2 (u1.tr u2) (e9.tr w1) ?_)
          have : fP p g = some (g.1, g.2.1 + 1, g.2.2) := by unfold fP; rw [if_pos (by omega)]
          rw [List.filterMap_cons_some this]
          exact w2)
    kF k.2.2.2.length (nI k.2.2.2.length - 1, sI S I) (kF_big (by omega)) ⟨Nat.le_refl _, R, I, rfl, hM, ou.rf, eD.rf, by simpa [uG] using hk⟩
  rw [e1]
  exact ⟨R1, ⟨J1, rfl, q1, q2⟩, q3, q4⟩
theorem cd_followTake (hS : cS S x) (hM : cM I x R F) (hd : d < 4) (hk : dM R F d k) (hl : k.2.2.2.length ≤ 20) (hb : ∀ g ∈ k.2.2.2, g.2.1 ≤ 1000 ∧ g.2.2 ≤ 1000) {p : Nat} (hp : p < 1000) : ∃ R', cO S I x R' F (f_X1_followTake (sI S I) (x + dO d) (nI p)) ∧ eD d R R' ∧ dM R' F d (uG k (k.2.2.2.filterMap (fT p))) := by
  unfold f_X1_followTake
  simp only [kK_sI, kQ_sI, kN_sI, kZ_sI, kI_sI, wI_sI, if_true, Option.bind_some, lt, cK_d hS hd, cQ_d_0 hS hd, cQ_d_1 hS hd, cQ_d_2 hS hd, cQ_d_3 hS hd, cR9_d1 hS hd, cR9_d3 hS hd, cR9_d5 hS hd, cR9_d7 hS hd, cd_count hS hM hd hk]
  obtain ⟨z, e1, R1, J1, rfl, q1, q2, q3, q4⟩ := it_gen (b := fun (v : Int32 × PS) => f_X1_followTake_b7 (x + dO d) (nI p) v.1 v.2)
    (P := fun m s => m ≤ k.2.2.2.length ∧ ∃ R' J, s = (nI m - 1, sI S J) ∧ cM J x R' F ∧ ou I J x ∧ eD d R R' ∧ dM R' F d (uG k (k.2.2.2.take m ++ (k.2.2.2.drop m).filterMap (fT p))))
    (Q := fun z => ∃ R' J, z = sI S J ∧ cM J x R' F ∧ ou I J x ∧ eD d R R' ∧ dM R' F d (uG k (k.2.2.2.filterMap (fT p))))
    (fun m s ⟨hm, R', J, e, m1, u1, e9, hk'⟩ => by
      subst e
      unfold f_X1_followTake_b7
      by_cases h0 : m = 0
      · subst h0
        rw [if_pos (show nI 0 - 1 < 0 by decide +kernel)]
        exact Or.inr ⟨_, rfl, R', J, rfl, m1, u1, e9, by simpa using hk'⟩
      · obtain ⟨A, g, B, s1, s2, s3, s4, s5, s6⟩ := split_at k.2.2.2 m (by omega) hm
        have hA3 : A.length < 2 ^ 31 := by omega
        have hgm : g ∈ k.2.2.2 := by rw [s1]; simp
        obtain ⟨bb1, bb2⟩ := hb g hgm
        have hlen : (B.filterMap (fT p)).length ≤ B.length := List.length_filterMap_le _ _
        have hAB : A.length + B.length + 1 ≤ 20 := by rw [s1] at hl; simp at hl; omega
        rw [s3, s4, List.append_assoc, List.singleton_append] at hk'
        rw [nI_sub1 (show 0 < m by omega), ← s2, if_neg (nI_pos hA3)]
        have f5 : la (R' (dO d + 5)) A.length = nI g.2.1 := by rw [hk'.2.2.2.2.1, la_map]; simp only [uG, get_mid]
        have f7 : la (R' (dO d + 7)) A.length = nI g.2.2 := by rw [hk'.2.2.2.2.2, la_map]; simp only [uG, get_mid]
        simp only [kK_sI, kQ_sI, kN_sI, kZ_sI, kI_sI, wI_sI, if_true, Option.bind_some, lt, cK_d hS hd, cQ_d_0 hS hd, cQ_d_1 hS hd, cQ_d_2 hS hd, cQ_d_3 hS hd, cR9_d1 hS hd, cR9_d3 hS hd, cR9_d5 hS hd, cR9_d7 hS hd, cm_getn hS m1 (k := dO d + 5) (by rw [capT_d5]; decide) hA3, cm_getn hS m1 (k := dO d + 7) (by rw [capT_d7]; decide) hA3, f5, f7, nI_leI (show g.2.1 < 2 ^ 31 by omega) (show p < 2 ^ 31 by omega), nI_add, nI_leI (show g.2.1 + g.2.2 < 2 ^ 31 by omega) (show p < 2 ^ 31 by omega)]
        have fin : ∀ (R2 : Nat → List Int32) (J2 : Nat → Nat → Int32), cM J2 x R2 F → ou I J2 x → eD d R R2 → dM R2 F d (uG k (A ++ (g :: B).filterMap (fT p))) → (∃ s' k', (some (Sum.inl (nI A.length + (-1), sI S J2)) : Option ((Int32 × PS) ⊕ PS)) = some (.inl s') ∧ k' < m ∧ k' ≤ k.2.2.2.length ∧ ∃ R' J, s' = (nI k' - 1, sI S J) ∧ cM J x R' F ∧ ou I J x ∧ eD d R R' ∧ dM R' F d (uG k (k.2.2.2.take k' ++ (k.2.2.2.drop k').filterMap (fT p)))) := by
          intro R2 J2 w1 w2 w3 w4
          exact ⟨_, m - 1, rfl, by omega, by omega, R2, J2, by rw [s2, m1_eq], w1, w2, w3, by rw [s5, s6]; exact w4⟩
        by_cases h1 : g.2.1 ≤ p
        · rw [if_pos h1]
          by_cases h2 : g.2.1 + g.2.2 ≤ p
          · rw [if_pos h2]
            refine Or.inl (fin R' J m1 u1 e9 ?_)
            have : fT p g = some g := by unfold fT; rw [if_neg (by omega), if_neg (by omega)]
            rw [List.filterMap_cons_some this]
            exact hk'
          · rw [if_neg h2]
            obtain ⟨R2, ⟨J2, g2, m2, u2⟩, w1, w2⟩ := cd_forget hS m1 hd (by simp; omega) hk'
            rw [g2]
            refine Or.inl (fin R2 J2 m2 (u1.tr u2) (e9.tr w1) ?_)
            have : fT p g = none := by unfold fT; rw [if_neg (by omega), if_pos (by omega)]
            rw [List.filterMap_cons_none this]
            exact w2
        · rw [if_neg h1, nI_sub1 (show 0 < g.2.1 by omega)]
          obtain ⟨R2, ⟨J2, g2, m2, u2⟩, w1, w2⟩ := cd_setFrom hS m1 hd hA3 (g.2.1 - 1) hk'
          rw [g2]
          refine Or.inl (fin R2 J2 m2 (u1.tr u2) (e9.tr w1) ?_)
          have : fT p g = some (g.1, g.2.1 - 1, g.2.2) := by unfold fT; rw [if_pos (by omega)]
          rw [List.filterMap_cons_some this]
          exact w2)
    kF k.2.2.2.length (nI k.2.2.2.length - 1, sI S I) (kF_big (by omega)) ⟨Nat.le_refl _, R, I, rfl, hM, ou.rf, eD.rf, by simpa [uG] using hk⟩
  rw [e1]
  exact ⟨R1, ⟨J1, rfl, q1, q2⟩, q3, q4⟩
/-- the paragraph of a place -/
theorem cx_paragraphAt (hS : cS S x) (hM : cM I x R F) {p : Nat} (hp : p ≤ (R 4).length) : f_X7_paragraphAt (sI S I) (x + 3) (nI p) = some (nI (slN (R 4) p)) := by
  have h160 := (hM.1 4 (by decide)).2
  rw [show capT 4 = 160 from rfl] at h160
  have hsl : ∀ i, slN (R 4) i ≤ i := by
    intro i
    induction i with
    | zero => exact Nat.le_refl _
    | succ i ih => simp only [slN]; split <;> omega
  unfold f_X7_paragraphAt
  simp only [lt]
  obtain ⟨z, e1, q⟩ := it_up (b := fun (v : Int32 × Int32) => f_X7_paragraphAt_b4 (x + 3) (nI p) (sI S I) v.1 v.2) p
    (P := fun i s => s = (nI (slN (R 4) i), nI i)) (Q := fun z => z = nI (slN (R 4) p))
    (fun i s hi e => by
      subst e
      have hi3 : i < 2 ^ 31 := by omega
      unfold f_X7_paragraphAt_b4
      simp only [kK_sI, kQ_sI, kN_sI, kZ_sI, kI_sI, wI_sI, if_true, Option.bind_some, lt, cK_3 hS, cQ_3_0 hS, cQ_3_1 hS, cQ_3_2 hS, cR9_4 hS, cR9_6 hS, cR9_8 hS, nI_leI (show p < 2 ^ 31 by omega) hi3, if_neg (show ¬ p ≤ i by omega), cm_count hS hM (k := 4) (by decide), nI_leI (show (R 4).length < 2 ^ 31 by omega) hi3, if_neg (show ¬ (R 4).length ≤ i by omega), cm_getn hS hM (k := 4) (by decide) hi3, nI_1]
      left
      by_cases e : la (R 4) i = 47
      · rw [if_pos e]
        exact ⟨_, rfl, by simp only [slN, if_pos e]⟩
      · rw [if_neg e]
        exact ⟨_, rfl, by simp only [slN, if_neg e, Nat.add_zero]⟩)
    (fun s e => by
      subst e
      unfold f_X7_paragraphAt_b4
      rw [if_pos (show nI p ≤ nI p from (nI_leI (show p < 2 ^ 31 by omega) (by omega)).mpr (Nat.le_refl _))]
      exact ⟨_, rfl, rfl⟩)
    0 (0, 0) (by simp [slN, nI_0]) (by omega) kF (kF_big (by omega))
  rw [e1, q]
  rfl
end
