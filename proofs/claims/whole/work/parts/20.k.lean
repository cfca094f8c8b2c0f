/-! what is taken -/
def ov (m : Nat → Nat) (j r j' r' : Nat) : Prop := j < j' + m r' ∧ j' < j + m r
def ah (m rk : Nat → Nat) (j r j' r' : Nat) : Prop := rk r' < rk r ∨ (rk r = rk r' ∧ (j < j' ∨ (j = j' ∧ (m r' < m r ∨ (m r = m r' ∧ r < r')))))
def aT (TN : List Nat) (j r : Nat) : Prop := TN[j]? = some (r + 1)
/-- what is found at a token for a desk and isn't ignored there -/
def cn (t : List Int32) (ts : List Tk) (ru : List Rv) (pa : List (List Int32 × List Int32)) (k : Dk) (j r : Nat) : Prop := r ≤ 20 ∧ j < ts.length ∧ fd t ts ru pa k j r = true ∧ (r, tF ts j, tE ts (j + mI9 ru r - 1) - tF ts j) ∉ k.2.2.2
def sol (m rk : Nat → Nat) (cand A : Nat → Nat → Prop) : Prop := (∀ j r, A j r → cand j r) ∧ (∀ j r j' r', A j r → A j' r' → ov m j r j' r' → j = j' ∧ r = r') ∧ ∀ j r, cand j r → A j r ∨ ∃ j' r', A j' r' ∧ ah m rk j' r' j r ∧ ov m j' r' j r
/-- the solving on its way: P is what was looked at -/
def sV (n : Nat) (m rk : Nat → Nat) (cand P : Nat → Nat → Prop) (TN : List Nat) (C : List Int32) : Prop := TN.length = n ∧ C.length = n ∧ (∀ j r, aT TN j r → cand j r ∧ P j r) ∧ (∀ j r j' r', aT TN j r → aT TN j' r' → ov m j r j' r' → j = j' ∧ r = r') ∧ (∀ j r, cand j r → P j r → aT TN j r ∨ ∃ j' r', aT TN j' r' ∧ ah m rk j' r' j r ∧ ov m j' r' j r) ∧ ∀ i, i < n → (¬ la C i = 0 ↔ ∃ j r, aT TN j r ∧ j ≤ i ∧ i < j + m r)
section
variable {S : PS} {I : Nat → Nat → Int32} {x : Nat} {R : Nat → List Int32} {F : Nat → Nat → Int32}
theorem cs_isFree (hS : cS S x) (hM : cM I x R F) {j m : Nat} (hj : j < 2 ^ 30) (hm : m ≤ 3) : f_X2_isFree (sI S I) (x + 68) (nI j) (nI m) = some (bi (decide (∀ i, i < m → la (R 69) (j + i) = 0))) := by
  unfold f_X2_isFree
  simp only [lt]
  obtain ⟨z, e1, q⟩ := it_up (b := fun (v : Int32) => f_X2_isFree_b2 (x + 68) (nI j) (nI m) (sI S I) v) m
    (P := fun i s => s = nI i ∧ ∀ i', i' < i → la (R 69) (j + i') = 0)
    (Q := fun z => (z = .inl () ∧ ∀ i, i < m → la (R 69) (j + i) = 0) ∨ (z = .inr () ∧ ¬ ∀ i, i < m → la (R 69) (j + i) = 0))
    (fun i s hi ⟨e, hp⟩ => by
      subst e
      unfold f_X2_isFree_b2
      simp only [kK_sI, kQ_sI, kN_sI, kZ_sI, kI_sI, wI_sI, if_true, Option.bind_some, lt, cK_68 hS, cQ_68_0 hS, cQ_68_1 hS, cQ_68_2 hS, cQ_68_3 hS, cQ_68_4 hS, cQ_68_5 hS, cR9_69 hS, cR9_71 hS, cR9_73 hS, cR9_75 hS, nI_leI (show m < 2 ^ 31 by omega) (show i < 2 ^ 31 by omega), if_neg (show ¬ m ≤ i by omega), nI_add, cm_getn hS hM (k := 69) (by decide) (show j + i < 2 ^ 31 by omega), nI_1]
      by_cases e : la (R 69) (j + i) = 0
      · rw [if_pos e]
        refine Or.inl ⟨_, rfl, rfl, fun i' hi' => ?_⟩
        by_cases e2 : i' = i
        · subst e2; exact e
        · exact hp i' (by omega)
      · rw [if_neg e]
        exact Or.inr ⟨_, rfl, Or.inr ⟨rfl, fun z => e (z i hi)⟩⟩)
    (fun s ⟨e, hp⟩ => by
      subst e
      unfold f_X2_isFree_b2
      rw [if_pos (show nI m ≤ nI m from (nI_leI (show m < 2 ^ 31 by omega) (by omega)).mpr (Nat.le_refl _))]
      exact ⟨_, rfl, Or.inl ⟨rfl, hp⟩⟩)
    0 0 ⟨nI_0.symm, fun i' hi' => absurd hi' (Nat.not_lt_zero _)⟩ (by omega) kF (kF_big (by omega))
  rw [e1]
  rcases q with ⟨rfl, q⟩ | ⟨rfl, q⟩
  · rw [decide_eq_true q]; rfl
  · rw [decide_eq_false q]; rfl
theorem cs_cover (hS : cS S x) (hM : cM I x R F) {j m : Nat} (hj : j < 2 ^ 30) (hm : m ≤ 3) {C : List Int32} (hC : R 69 = C) (hn : j + m ≤ C.length) : ∃ C', cO S I x (uR R 69 C') F (f_X2_cover (sI S I) (x + 68) (nI j) (nI m)) ∧ C'.length = C.length ∧ ∀ i, i < C.length → la C' i = if j ≤ i ∧ i < j + m then 1 else la C i := by
  unfold f_X2_cover
  simp only [lt]
  obtain ⟨z, e1, C', J, rfl, q1, q2, q3, q4⟩ := it_up (b := fun (v : Int32 × PS) => f_X2_cover_b2 (x + 68) (nI j) (nI m) v.1 v.2) m
    (P := fun k s => ∃ C' J, s = (nI k, sI S J) ∧ cM J x (uR R 69 C') F ∧ ou I J x ∧ C'.length = C.length ∧ ∀ i, i < C.length → la C' i = if j ≤ i ∧ i < j + k then 1 else la C i)
    (Q := fun z => ∃ C' J, z = sI S J ∧ cM J x (uR R 69 C') F ∧ ou I J x ∧ C'.length = C.length ∧ ∀ i, i < C.length → la C' i = if j ≤ i ∧ i < j + m then 1 else la C i)
    (fun k s hk ⟨C', J, e, m1, u1, h1, h2⟩ => by
      subst e
      unfold f_X2_cover_b2
      simp only [kK_sI, kQ_sI, kN_sI, kZ_sI, kI_sI, wI_sI, if_true, Option.bind_some, lt, cK_68 hS, cQ_68_0 hS, cQ_68_1 hS, cQ_68_2 hS, cQ_68_3 hS, cQ_68_4 hS, cQ_68_5 hS, cR9_69 hS, cR9_71 hS, cR9_73 hS, cR9_75 hS, nI_leI (show m < 2 ^ 31 by omega) (show k < 2 ^ 31 by omega), if_neg (show ¬ m ≤ k by omega), nI_add, nI_1]
      obtain ⟨J2, g, m2, u2⟩ := cm_set hS m1 (k := 69) (by decide) (show j + k < 2 ^ 31 by omega) 1
      rw [uR_uR, uR_eq] at m2
      rw [g]
      refine Or.inl ⟨_, rfl, _, J2, rfl, m2, u1.tr u2, by rw [List.length_set]; exact h1, fun i hi => ?_⟩
      rw [la_set, h2 i hi]
      by_cases e : i = j + k
      · subst e; rw [if_pos ⟨rfl, by omega⟩, if_pos (by omega)]
      · rw [if_neg (fun q => e q.1)]
        by_cases e2 : j ≤ i ∧ i < j + k
        · rw [if_pos e2, if_pos (by omega)]
        · rw [if_neg e2, if_neg (by omega)])
    (fun s ⟨C', J, e, m1, u1, h1, h2⟩ => by
      subst e
      unfold f_X2_cover_b2
      rw [if_pos (show nI m ≤ nI m from (nI_leI (show m < 2 ^ 31 by omega) (by omega)).mpr (Nat.le_refl _))]
      exact ⟨_, rfl, C', J, rfl, m1, u1, h1, h2⟩)
    0 (0, sI S I) ⟨C, I, by rw [nI_0], by rw [← hC, uR_self]; exact hM, ou.rf, rfl, fun i hi => by rw [if_neg (by omega)]⟩ (by omega) kF (kF_big (by omega))
  rw [e1]
  exact ⟨C', ⟨J, rfl, q1, q2⟩, q3, q4⟩
end
section
variable {S : PS} {I : Nat → Nat → Int32} {x : Nat} {R : Nat → List Int32} {F : Nat → Nat → Int32} {ts : List Tk} {t : List Int32} {ru : List Rv} {pa : List (List Int32 × List Int32)} {d : Nat} {k : Dk}
/-- what can be taken at a token out of these bits -/
def gT (R : Nat → List Int32) (ts : List Tk) (ru : List Rv) (k : Dk) (p3 : Int32) (j r : Nat) : Prop := tb p3 r = true ∧ (∀ i, i < mI9 ru r → la (R 69) (j + i) = 0) ∧ (r, tF ts j, tE ts (j + mI9 ru r - 1) - tF ts j) ∉ k.2.2.2
/-- the tokens stand in their order -/
def oT (ts : List Tk) : Prop := ∀ j j', j < j' → j' < ts.length → tE ts j ≤ tF ts j'
theorem oT.le {ts : List Tk} (h : oT ts) (hw : wT ts) {j j' : Nat} (hj : j ≤ j') (hn : j' < ts.length) : tF ts j ≤ tE ts j' := by
  by_cases e : j = j'
  · subst e; exact (hw.fe j).1
  · have := h j j' (by omega) hn
    have := hw.fe j
    have := hw.fe j'
    omega
theorem cs_search (hS : cS S x) (hM : cM I x R F) (hT : tM R ts) (hB9 : dB S I x ru pa) (hF1 : F 26 2 = nI ru.length) (hw : wR ru) (hwt : wT ts) (hot : oT ts) (hd : d < 4) (hk : dM R F d k) (hwk : wD k) {j : Nat} (hj : j < ts.length) {p3 : Int32} (hp : ∀ r, r ≤ 20 → tb p3 r = true → j + mI9 ru r ≤ ts.length) : ∃ z, iter (fun (v : Int32) => f_X2_takeBest_b8 (x + 68) (x + dO d) (nI j) p3 (sI S I) v) kF 3 = some z ∧ ((z = .inl () ∧ ∀ r, r ≤ 20 → ¬ gT R ts ru k p3 j r) ∨ ∃ r, r ≤ 20 ∧ z = .inr (nI (mI9 ru r), nI r) ∧ gT R ts ru k p3 j r ∧ ∀ r', r' ≤ 20 → gT R ts ru k p3 j r' → mI9 ru r' < mI9 ru r ∨ (mI9 ru r' = mI9 ru r ∧ r ≤ r')) := by
  have hn := hwt.1
  have inner : ∀ q, q ≤ 3 → ∃ z, iter (fun (v : Int32) => f_X2_takeBest_b17 (x + 68) (x + dO d) (nI j) p3 (nI q) (sI S I) v) kF 0 = some z ∧ ((z = .inl () ∧ ∀ r, r ≤ 20 → mI9 ru r = q → ¬ gT R ts ru k p3 j r) ∨ ∃ r, r ≤ 20 ∧ z = .inr (nI r) ∧ mI9 ru r = q ∧ gT R ts ru k p3 j r ∧ ∀ r', r' ≤ 20 → mI9 ru r' = q → gT R ts ru k p3 j r' → r ≤ r') := by
    intro q hq
    refine it_up (b := fun (v : Int32) => f_X2_takeBest_b17 (x + 68) (x + dO d) (nI j) p3 (nI q) (sI S I) v) 21
      (P := fun i s => s = nI i ∧ ∀ r, r < i → mI9 ru r = q → ¬ gT R ts ru k p3 j r)
      (Q := fun z => (z = .inl () ∧ ∀ r, r ≤ 20 → mI9 ru r = q → ¬ gT R ts ru k p3 j r) ∨ ∃ r, r ≤ 20 ∧ z = .inr (nI r) ∧ mI9 ru r = q ∧ gT R ts ru k p3 j r ∧ ∀ r', r' ≤ 20 → mI9 ru r' = q → gT R ts ru k p3 j r' → r ≤ r')
      (fun i s hi ⟨e, hp9⟩ => ?_) (fun s ⟨e, hp9⟩ => ?_) 0 0 ⟨nI_0.symm, fun i' hi' => absurd hi' (Nat.not_lt_zero _)⟩ (by omega) kF (kF_big (by omega))
    · subst e
      have hi3 : i < 2 ^ 31 := by omega
      have hm := hw.m i
      have hfe := hwt.fe j
      have hfe2 := hwt.fe (j + mI9 ru i - 1)
      have no : ¬ (mI9 ru i = q ∧ gT R ts ru k p3 j i) → ∀ r, r < i + 1 → mI9 ru r = q → ¬ gT R ts ru k p3 j r := by
        intro hne r hr h1 h2
        by_cases e : r = i
        · subst e; exact hne ⟨h1, h2⟩
        · exact hp9 r (by omega) h1 h2
      unfold f_X2_takeBest_b17
      rw [show (20 : Int32) = nI 20 from rfl]
      simp only [kK_sI, kQ_sI, kN_sI, kZ_sI, kI_sI, wI_sI, if_true, Option.bind_some, lt, cK_68 hS, cQ_68_0 hS, cQ_68_1 hS, cQ_68_2 hS, cQ_68_3 hS, cQ_68_4 hS, cQ_68_5 hS, cR9_69 hS, cR9_71 hS, cR9_73 hS, cR9_75 hS, cK_25 hS, cK_10 hS, cK_d hS hd, cd_itemsOf hS hM hB9 hF1 hw hi3, nI_ltI (show 20 < 2 ^ 31 by decide) hi3, if_neg (show ¬ 20 < i by omega), show (1 : Int32) <<< (nI i &&& 31) = mk i from rfl, tb_ne, nI_1, nI_eq (show mI9 ru i < 2 ^ 31 by omega) (show q < 2 ^ 31 by omega), cs_isFree hS hM (show j < 2 ^ 30 by omega) hq, ct_fromOf hS hM hT (show j < 2 ^ 31 by omega), cd_lengthAt hS hM hT hB9 hF1 hw hi3 (show j < 2 ^ 30 by omega), bi_eq0]
      cases hb : tb p3 i
      · rw [if_pos rfl]
        exact Or.inl ⟨_, rfl, rfl, no (fun z => by rw [z.2.1] at hb; cases hb)⟩
      · rw [if_neg (by decide)]
        have hle := hp i (by omega) hb
        have hsub : tF ts j ≤ tE ts (j + mI9 ru i - 1) := hot.le hwt (by omega) (by omega)
        rw [pk_sub hsub, cd_ignores hS hM hd hk hwk hi3 (show tF ts j < 2 ^ 31 by omega) (show tE ts (j + mI9 ru i - 1) - tF ts j < 2 ^ 31 by omega)]
        by_cases e1 : mI9 ru i = q
        · rw [if_pos e1]
          by_cases e2 : ∀ i', i' < q → la (R 69) (j + i') = 0
          · rw [decide_eq_true e2, if_neg (by decide)]
            simp only [Option.bind_some, bi_eq0]
            by_cases e3 : (i, tF ts j, tE ts (j + mI9 ru i - 1) - tF ts j) ∈ k.2.2.2
            · rw [decide_eq_true e3, if_neg (by decide)]
              exact Or.inl ⟨_, rfl, rfl, no (fun z => z.2.2.2 e3)⟩
            · rw [decide_eq_false e3, if_pos rfl]
              refine Or.inr ⟨_, rfl, Or.inr ⟨i, by omega, rfl, e1, ⟨hb, by rw [e1]; exact e2, e3⟩, fun r' h1 h2 h3 => ?_⟩⟩
              apply Classical.byContradiction
              intro h4
              exact hp9 r' (by omega) h2 h3
          · rw [decide_eq_false e2, if_pos rfl]
            exact Or.inl ⟨_, rfl, rfl, no (fun z => e2 (by rw [← e1]; exact z.2.2.1))⟩
        · rw [if_neg e1]
          exact Or.inl ⟨_, rfl, rfl, no (fun z => e1 z.1)⟩
    · subst e
      unfold f_X2_takeBest_b17
      rw [if_pos (show (20 : Int32) < nI 21 by decide +kernel)]
      exact ⟨_, rfl, Or.inl ⟨rfl, fun r hr => hp9 r (by omega)⟩⟩
  refine it_gen (b := fun (v : Int32) => f_X2_takeBest_b8 (x + 68) (x + dO d) (nI j) p3 (sI S I) v)
    (P := fun q s => q ≤ 3 ∧ s = nI q ∧ ∀ r, r ≤ 20 → gT R ts ru k p3 j r → mI9 ru r ≤ q)
    (Q := fun z => (z = .inl () ∧ ∀ r, r ≤ 20 → ¬ gT R ts ru k p3 j r) ∨ ∃ r, r ≤ 20 ∧ z = .inr (nI (mI9 ru r), nI r) ∧ gT R ts ru k p3 j r ∧ ∀ r', r' ≤ 20 → gT R ts ru k p3 j r' → mI9 ru r' < mI9 ru r ∨ (mI9 ru r' = mI9 ru r ∧ r ≤ r'))
    (fun q s ⟨hq, e, hp9⟩ => ?_) kF 3 3 (kF_big (by omega)) ⟨Nat.le_refl _, rfl, fun r _ _ => (hw.m r).2⟩
  subst e
  unfold f_X2_takeBest_b8
  by_cases e : q = 0
  · subst e
    rw [if_pos (show nI 0 < 1 by decide +kernel)]
    exact Or.inr ⟨_, rfl, Or.inl ⟨rfl, fun r hr hg => by have := hp9 r hr hg; have := hw.m r; omega⟩⟩
  · rw [if_neg (show ¬ nI q < 1 by rw [show (1 : Int32) = nI 1 from rfl, nI_ltI (show q < 2 ^ 31 by omega) (by decide)]; omega)]
    simp only [lt]
    obtain ⟨z, e1, h⟩ := inner q hq
    rw [e1]
    rcases h with ⟨rfl, h⟩ | ⟨r, hr, rfl, h1, h2, h3⟩
    · refine Or.inl ⟨_, q - 1, rfl, by omega, by omega, ?_, fun r hr hg => ?_⟩
      · rw [← pk_m1 (q - 1), show q - 1 + 1 = q by omega]
      · have := hp9 r hr hg
        by_cases e2 : mI9 ru r = q
        · exact absurd hg (h r hr e2)
        · omega
    · refine Or.inr ⟨_, rfl, Or.inr ⟨r, hr, by rw [h1], h2, fun r' hr' hg => ?_⟩⟩
      have := hp9 r' hr' hg
      by_cases e2 : mI9 ru r' = q
      · exact Or.inr ⟨by omega, h3 r' hr' e2 hg⟩
      · exact Or.inl (by omega)
end
