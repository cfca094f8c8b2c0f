/-! suggestions, as they would be put in -/
/-- the signs of a token behind its first n -/
def tkS (t : List Int32) (ts : List Tk) (j n : Nat) : List Int32 := (List.range (tE ts j - (tF ts j + n))).map (fun q => la t (tF ts j + n + q))
/-- what the first star takes: from the item i on -/
def stK (t : List Int32) (ts : List Tk) (j : Nat) : List Iv → List Int32
  | [] => []
  | v :: l => if v.2.1 = true then tkS t ts j v.2.2.length else stK t ts (j + 1) l
def sgK (star sg : List Int32) : Nat → List Int32
  | 0 => []
  | k + 1 => sgK star sg k ++ (if la sg k = 42 then star else [la sg k])
theorem stK_cons (t : List Int32) (ts : List Tk) (j : Nat) (v : Iv) (l : List Iv) : stK t ts j (v :: l) = if v.2.1 = true then tkS t ts j v.2.2.length else stK t ts (j + 1) l := rfl
def sugL (T : St) (p : Nat × Nat) (s : Nat) : List Int32 := match T.2.2.2.2.1[p.2]? with
  | some v => sgK (stK T.2.1 (tsO T.2.1) p.1 v.1) ((v.2.2.2.2.2[s]?).getD []) ((v.2.2.2.2.2[s]?).getD []).length
  | none => match T.2.2.2.2.2.1[p.2 - 12]? with
    | some w => if iT T.2.1 (tsO T.2.1) w.1 p.1 = true then w.2 else w.1
    | none => []
theorem tkS_len {t : List Int32} {ts : List Tk} (hw : wT ts) (j n : Nat) : (tkS t ts j n).length ≤ 160 := by
  have := hw.fe j
  unfold tkS
  simp
  omega
theorem stK_len {t : List Int32} {ts : List Tk} (hw : wT ts) : ∀ (l : List Iv) (j : Nat), (stK t ts j l).length ≤ 160
  | [], _ => Nat.zero_le _
  | v :: l, j => by
    unfold stK
    split
    · exact tkS_len hw _ _
    · exact stK_len hw l (j + 1)
theorem sgK_len {star sg : List Int32} (hs : star.length ≤ 160) (h1 : ∀ i j, i < sg.length → j < sg.length → la sg i = 42 → la sg j = 42 → i = j) : ∀ k, k ≤ sg.length → ((∀ i, i < k → la sg i ≠ 42) ∧ (sgK star sg k).length = k) ∨ ((∃ i, i < k ∧ la sg i = 42) ∧ (sgK star sg k).length ≤ k - 1 + 160)
  | 0, _ => Or.inl ⟨fun i hi => absurd hi (Nat.not_lt_zero _), rfl⟩
  | k + 1, hk => by
    have ih := sgK_len hs h1 k (by omega)
    simp only [sgK, List.length_append]
    by_cases e : la sg k = 42
    · right
      rw [if_pos e]
      refine ⟨⟨k, Nat.lt_succ_self _, e⟩, ?_⟩
      rcases ih with ⟨g1, g2⟩ | ⟨⟨i, g1, g2⟩, g3⟩
      · omega
      · have := h1 i k (by omega) (by omega) g2 e
        omega
    · rw [if_neg e]
      rcases ih with ⟨g1, g2⟩ | ⟨⟨i, g1, g2⟩, g3⟩
      · left
        refine ⟨fun i hi => ?_, by simp; omega⟩
        by_cases e2 : i = k
        · subst e2; exact e
        · exact g1 i (by omega)
      · right
        exact ⟨⟨i, by omega, g2⟩, by simp; omega⟩
section
variable {S : PS} {I : Nat → Nat → Int32} {x : Nat} {R : Nat → List Int32} {F : Nat → Nat → Int32} {ts : List Tk} {t : List Int32}
theorem tM.k77 {H : List Int32} (hT : tM R ts) : tM (uR R 77 H) ts := hT
theorem cw_write (hS : cS S x) (hM : cM I x R F) (hT : tM R ts) (hwt : wT ts) (h4 : R 4 = t) {P0 : List Int32} (h77 : R 77 = P0) {j n : Nat} (hj : j < 2 ^ 30) (hn : n ≤ 1000) (hc : P0.length + (tkS t ts j n).length ≤ 180) : cO S I x (uR R 77 (P0 ++ tkS t ts j n)) F (f_X8_write (sI S I) (x + 10) (nI j) (nI n) (x + 77)) := by
  have hfe := hwt.fe j
  have hlen : (tkS t ts j n).length = tE ts j - (tF ts j + n) := by unfold tkS; simp
  unfold f_X8_write
  simp only [kK_sI, kQ_sI, kN_sI, kZ_sI, kI_sI, wI_sI, if_true, Option.bind_some, lt, cK_10 hS, cQ_10_0 hS, cQ_10_1 hS, cQ_10_2 hS, cQ_10_3 hS, cQ_10_4 hS, cQ_10_5 hS, cQ_10_6 hS, cQ_10_7 hS, cR9_4 hS, cR9_11 hS, cR9_13 hS, cR9_15 hS, cR9_17 hS, cR9_19 hS, cR9_21 hS, cR9_23 hS, cm_getn hS hM (k := 11) (by decide) (show j < 2 ^ 31 by omega), la_froms hT, nI_add]
  obtain ⟨z, e1, J, rfl, m, u⟩ := it_gen (b := fun (v : Int32 × PS) => f_X8_write_b12 (x + 10) (x + 77) (nI j) v.1 v.2)
    (P := fun d s => ∃ q J, d = (tE ts j - (tF ts j + n)) - q ∧ q ≤ tE ts j - (tF ts j + n) ∧ s = (nI (tF ts j + n + q), sI S J) ∧ cM J x (uR R 77 (P0 ++ (tkS t ts j n).take q)) F ∧ ou I J x)
    (Q := fun z => ∃ J, z = sI S J ∧ cM J x (uR R 77 (P0 ++ tkS t ts j n)) F ∧ ou I J x)
    (fun d s ⟨q, J, h1, h2, e, m, u⟩ => by
      subst e
      unfold f_X8_write_b12
      simp only [kK_sI, kQ_sI, kN_sI, kZ_sI, kI_sI, wI_sI, if_true, Option.bind_some, lt, cK_10 hS, cQ_10_0 hS, cQ_10_1 hS, cQ_10_2 hS, cQ_10_3 hS, cQ_10_4 hS, cQ_10_5 hS, cQ_10_6 hS, cQ_10_7 hS, cR9_4 hS, cR9_11 hS, cR9_13 hS, cR9_15 hS, cR9_17 hS, cR9_19 hS, cR9_21 hS, cR9_23 hS, cm_getn hS m (k := 13) (by decide) (show j < 2 ^ 31 by omega), la_ends (hT.k77 (H := P0 ++ (tkS t ts j n).take q)), nI_leI (show tE ts j < 2 ^ 31 by omega) (show tF ts j + n + q < 2 ^ 31 by omega)]
      by_cases e : tE ts j ≤ tF ts j + n + q
      · rw [if_pos e]
        rw [List.take_of_length_le (by rw [hlen]; omega)] at m
        exact Or.inr ⟨_, rfl, J, rfl, m, u⟩
      · rw [if_neg e]
        simp only [cm_getn hS m (k := 4) (by decide) (show tF ts j + n + q < 2 ^ 31 by omega), uR_ne (show 4 ≠ 77 by decide), h4, Option.bind_some, cR9_77 hS, if_true, nI_1]
        obtain ⟨J2, g, m2, u2⟩ := cm_add hS m (k := 77) (by decide) (by rw [uR_eq, List.length_append, List.length_take, show capT 77 = 180 from rfl]; omega) (la t (tF ts j + n + q))
        rw [g]
        rw [uR_uR, uR_eq] at m2
        refine Or.inl ⟨_, (tE ts j - (tF ts j + n)) - (q + 1), rfl, by omega, q + 1, J2, rfl, by omega, rfl, ?_, u.tr u2⟩
        rw [List.take_succ_eq_append_getElem (by rw [hlen]; omega), ← List.append_assoc]
        have : (tkS t ts j n)[q]'(by rw [hlen]; omega) = la t (tF ts j + n + q) := by unfold tkS; simp
        rw [this]
        exact m2)
    kF (tE ts j - (tF ts j + n)) (nI (tF ts j + n), sI S I) (kF_big (by omega)) ⟨0, I, by omega, Nat.zero_le _, rfl, by rw [List.take_zero, List.append_nil, ← h77, uR_self]; exact hM, ou.rf⟩
  rw [e1]
  exact ⟨J, rfl, m, u⟩
theorem cw_taken (hS : cS S x) (hM : cM I x R F) (hT : tM R ts) (hwt : wT ts) (h4 : R 4 = t) {P0 : List Int32} (h77 : R 77 = P0) {j : Nat} (hj : j < 1000) {a : Nat} {v : Rv} (hd : dR S I x a v) (hc : P0.length + (stK t ts j v.1).length ≤ 180) : cO S I x (uR R 77 (P0 ++ stK t ts j v.1)) F (f_X6_writeTaken (sI S I) a (x + 10) (nI j) (x + 77)) := by
  obtain ⟨d1, d2, d3, d4, d5, ⟨h, d6, as, ⟨d7, d8, d9⟩, d10⟩, -, -⟩ := hd
  have hn := d7.2.1
  generalize v.1 = items at *
  unfold f_X6_writeTaken
  simp only [lt]
  obtain ⟨z, e1, q⟩ := it_up (b := fun (y : Int32) => f_X6_writeTaken_b3 a (sI S I) y) items.length
    (P := fun i s => s = nI i ∧ stK t ts j items = stK t ts (j + i) (items.drop i))
    (Q := fun z => (z = .inl () ∧ stK t ts j items = []) ∨ ∃ i w b, z = .inr (nI i, b) ∧ i < items.length ∧ dI S I x b w ∧ stK t ts j items = tkS t ts (j + i) w.2.2.length)
    (fun i s hi ⟨e, hp⟩ => by
      subst e
      obtain ⟨l, hl⟩ : ∃ l, items[i]? = some l := ⟨_, List.getElem?_eq_getElem hi⟩
      have hl2 := (List.getElem?_eq_some_iff.mp hl).2
      have hdl := d10 i l hl
      have hdr : items.drop i = l :: items.drop (i + 1) := by rw [List.drop_eq_getElem_cons hi, hl2]
      rw [hdr] at hp
      rw [stK_cons] at hp
      unfold f_X6_writeTaken_b3
      simp only [kK_sI, kQ_sI, kN_sI, kZ_sI, kI_sI, wI_sI, if_true, Option.bind_some, lt, d1, d6, d7.1, dl_size d7 d8, nI_leI (show items.length < 2 ^ 31 by omega) (show i < 2 ^ 31 by omega), if_neg (show ¬ items.length ≤ i by omega), dl_get d7 d8 hi, hdl.1, hdl.2.2.2.1, bi_eq0]
      cases hst : l.2.1
      · rw [if_pos rfl]
        rw [hst, if_neg (by decide)] at hp
        exact Or.inl ⟨_, rfl, nI_1 i, by rw [hp, show j + (i + 1) = j + i + 1 by omega]⟩
      · rw [if_neg (by decide)]
        rw [hst, if_pos rfl] at hp
        exact Or.inr ⟨_, rfl, Or.inr ⟨i, l, as i, rfl, hi, hdl, hp⟩⟩)
    (fun s ⟨e, hp⟩ => by
      subst e
      unfold f_X6_writeTaken_b3
      simp only [kK_sI, kQ_sI, kN_sI, kZ_sI, kI_sI, wI_sI, if_true, Option.bind_some, lt, d1, d6, d7.1, dl_size d7 d8, if_pos (show nI items.length ≤ nI items.length from (nI_leI (show items.length < 2 ^ 31 by omega) (by omega)).mpr (Nat.le_refl _))]
      refine ⟨_, rfl, Or.inl ⟨rfl, ?_⟩⟩
      rw [hp, List.drop_length]
      rfl)
    0 0 ⟨nI_0.symm, by rw [List.drop_zero, Nat.add_zero]⟩ (by omega) kF (kF_big (by omega))
  rw [e1]
  rcases q with ⟨rfl, q⟩ | ⟨i, w, b, rfl, hi, hdw, q⟩
  · rw [q, List.append_nil, ← h77, uR_self]
    exact ⟨I, rfl, hM, ou.rf⟩
  · rw [q] at hc ⊢
    obtain ⟨k1, k2, k3, k4, h2, k5, k6⟩ := hdw
    have := k6.n
    simp only [Option.bind_some, Sum.elim_inr, kK_sI, kQ_sI, k1, k5, k6.k, k6.count, cK_10 hS, if_true, nI_add]
    obtain ⟨J, g, m, u⟩ := cw_write hS hM hT hwt h4 h77 (j := j + i) (n := w.2.2.length) (by omega) this hc
    rw [g]
    exact ⟨J, rfl, m, u⟩
end
