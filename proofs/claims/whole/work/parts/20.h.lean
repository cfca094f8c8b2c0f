/-! where a rule is found -/
def ia (l : List Iv) (i : Nat) : Iv := (l[i]?).getD (false, false, [])
def exA (t : List Int32) (ts : List Tk) (exc : List (List Int32)) (j : Nat) : Bool := match tA ts j with
  | none => false
  | some a => exc.any (fun l => iT t ts l a)
def itA (t : List Int32) (ts : List Tk) (items : List Iv) (j : Nat) : Bool := decide (∀ i, i < items.length → (i = 0 ∨ gO t ts (j + i - 1) = true) ∧ fI t ts (ia items i) (j + i) = true)
def fR (t : List Int32) (ts : List Tk) (v : Rv) (j : Nat) : Bool := (!tQ ts j || v.2.2.1) && (decide (v.2.1 = 97) || t1 ts j == decide (v.2.1 = 115)) && itA t ts v.1 j && !exA t ts v.2.2.2.2.1 j
section
variable {S : PS} {I : Nat → Nat → Int32} {x : Nat} {R : Nat → List Int32} {F : Nat → Nat → Int32} {ts : List Tk} {t : List Int32}
theorem dI.fits (hS : cS S x) (hM : cM I x R F) (hT : tM R ts) (hw : wT ts) (h4 : R 4 = t) {j : Nat} (hj : j < 2 ^ 31) {a : Nat} {v : Iv} (hd : dI S I x a v) : f_X3_fits (sI S I) a (x + 10) (nI j) = some (bi (fI t ts v j)) := by
  obtain ⟨d1, d2, d3, d4, h, d5, d6⟩ := hd
  have hn := d6.n
  have hfe := hw.fe j
  unfold f_X3_fits fI
  simp only [kK_sI, kQ_sI, kN_sI, kZ_sI, kI_sI, wI_sI, if_true, Option.bind_some, lt, d1, d3, d4, d5, cK_10 hS, bi_eq0]
  cases v.1
  · simp only [if_true, ct_isWord hS hM hT hj, kK_sI, kQ_sI, kN_sI, kZ_sI, kI_sI, wI_sI, if_true, Option.bind_some, lt, ct_begins hS hM hT hw h4 hj d6, ct_lengthOf hS hM hT hw hj, d6.k, d6.count, bi_eq0, nI_eq (show tS ts j < 2 ^ 31 by unfold tS; omega) (show v.2.2.length < 2 ^ 31 by omega)]
    cases tW ts j
    · rfl
    · cases bg t ts j v.2.2
      · rfl
      · cases v.2.1
        · by_cases e : tS ts j = v.2.2.length <;> simp [e, bi]
        · rfl
  · simp only [ct_isNumber hS hM hT hj, Option.bind_some, bi_01, if_true]
    rfl
theorem dR.excepted (hS : cS S x) (hM : cM I x R F) (hT : tM R ts) (hw : wT ts) (h4 : R 4 = t) {j : Nat} (hj : j < ts.length) {a : Nat} {v : Rv} (hd : dR S I x a v) : f_X6_isExcepted (sI S I) a (x + 10) (nI j) = some (bi (exA t ts v.2.2.2.2.1 j)) := by
  have hw1 := hw.1
  obtain ⟨d1, d2, d3, d4, d5, -, ⟨h, d6, as, ⟨d7, d8, d9⟩, d10⟩, -⟩ := hd
  have hn := d7.2.1
  generalize v.2.2.2.2.1 = exc at *
  unfold f_X6_isExcepted
  simp only [kK_sI, kQ_sI, kN_sI, kZ_sI, kI_sI, wI_sI, if_true, Option.bind_some, lt, cK_10 hS, ct_aheadOf hS hM hT hj (show j < 2 ^ 31 by omega)]
  obtain ⟨z, e1, q⟩ := it_up (b := fun (v : Int32) => f_X6_isExcepted_b9 a (x + 10) (oI (tA ts j)) (sI S I) v) exc.length
    (P := fun i s => s = nI i ∧ ∀ i' l, i' < i → exc[i']? = some l → (match tA ts j with | none => false | some b => iT t ts l b) = false)
    (Q := fun z => (z = .inl () ∧ exA t ts exc j = false) ∨ (z = .inr () ∧ exA t ts exc j = true))
    (fun i s hi ⟨e, hp⟩ => by
      subst e
      obtain ⟨l, hl⟩ : ∃ l, exc[i]? = some l := ⟨_, List.getElem?_eq_getElem hi⟩
      have hdl := d10 i l hl
      unfold f_X6_isExcepted_b9
      simp only [kK_sI, kQ_sI, kN_sI, kZ_sI, kI_sI, wI_sI, if_true, Option.bind_some, lt, d1, d6, d7.1, dl_size d7 d8, nI_leI (show exc.length < 2 ^ 31 by omega) (show i < 2 ^ 31 by omega), if_neg (show ¬ exc.length ≤ i by omega), dl_get d7 d8 hi, hdl.k]
      have key : f_X8_isThe (sI S I) (x + 10) (as i) (oI (tA ts j)) = some (bi (match tA ts j with | none => false | some b => iT t ts l b)) := by
        cases hA : tA ts j with
        | none => exact ct_isThe_m1
        | some b =>
          have hb : b < 160 := by
            unfold tA at hA
            rw [List.getElem?_eq_getElem hj] at hA
            have := (hw.2 j _ (List.getElem?_eq_getElem hj)).2.2.2 b hA
            omega
          exact ct_isThe hS hM hT hw h4 (by omega) hdl
      rw [key]
      simp only [Option.bind_some, bi_eq0]
      cases hb : (match tA ts j with | none => false | some b => iT t ts l b)
      · rw [if_pos rfl]
        refine Or.inl ⟨_, rfl, nI_1 i, fun i' l' h1 h2 => ?_⟩
        by_cases e : i' = i
        · subst e; rw [hl] at h2; cases h2; exact hb
        · exact hp i' l' (by omega) h2
      · rw [if_neg (by decide)]
        refine Or.inr ⟨_, rfl, Or.inr ⟨rfl, ?_⟩⟩
        unfold exA
        cases hA : tA ts j with
        | none => rw [hA] at hb; cases hb
        | some b =>
          rw [hA] at hb
          exact List.any_eq_true.mpr ⟨l, List.mem_of_getElem? hl, hb⟩)
    (fun s ⟨e, hp⟩ => by
      subst e
      unfold f_X6_isExcepted_b9
      simp only [kK_sI, kQ_sI, kN_sI, kZ_sI, kI_sI, wI_sI, if_true, Option.bind_some, lt, d1, d6, d7.1, dl_size d7 d8, if_pos (show nI exc.length ≤ nI exc.length from (nI_leI (show exc.length < 2 ^ 31 by omega) (by omega)).mpr (Nat.le_refl _))]
      refine ⟨_, rfl, Or.inl ⟨rfl, ?_⟩⟩
      unfold exA
      cases hA : tA ts j with
      | none => rfl
      | some b =>
        simp only
        apply Bool.eq_false_iff.mpr
        intro hany
        obtain ⟨l, hl, hl2⟩ := List.any_eq_true.mp hany
        obtain ⟨i', hi', e⟩ := List.getElem_of_mem hl
        have := hp i' l hi' (by rw [List.getElem?_eq_getElem hi', e])
        rw [hA] at this
        simp only at this
        rw [this] at hl2
        cases hl2)
    0 0 ⟨nI_0.symm, fun i' _ hi' => absurd hi' (Nat.not_lt_zero _)⟩ (by omega) kF (kF_big (by omega))
  rw [e1]
  rcases q with ⟨rfl, q⟩ | ⟨rfl, q⟩ <;> rw [q] <;> rfl
theorem dR.found (hS : cS S x) (hM : cM I x R F) (hT : tM R ts) (hw : wT ts) (h4 : R 4 = t) {j : Nat} (hj : j < ts.length) {a : Nat} {v : Rv} (hd : dR S I x a v) : f_X6_isFoundAt (sI S I) a (x + 10) (nI j) = some (bi (fR t ts v j)) := by
  have hw1 := hw.1
  have hex := hd.excepted hS hM hT hw h4 hj
  obtain ⟨d1, d2, d3, d4, d5, ⟨h, d6, as, ⟨d7, d8, d9⟩, d10⟩, -, -⟩ := hd
  have hn := d7.2.1
  unfold f_X6_isFoundAt
  simp only [kK_sI, kQ_sI, kN_sI, kZ_sI, kI_sI, wI_sI, if_true, Option.bind_some, lt, cK_10 hS, ct_isQuoted hS hM hT (show j < 2 ^ 31 by omega), ct_isFirst hS hM hT (show j < 2 ^ 31 by omega), d1, d3, d4, bi_eq0, hex]
  have key : ∃ z, iter (fun (y : Int32) => f_X6_isFoundAt_b52 a (x + 10) (nI j) (sI S I) y) kF 0 = some z ∧ ((z = .inl () ∧ itA t ts v.1 j = true) ∨ ((z = .inr (.inl ()) ∨ z = .inr (.inr ())) ∧ itA t ts v.1 j = false)) := by
    refine it_up (b := fun (y : Int32) => f_X6_isFoundAt_b52 a (x + 10) (nI j) (sI S I) y) v.1.length
      (P := fun i s => s = nI i ∧ ∀ i', i' < i → (i' = 0 ∨ gO t ts (j + i' - 1) = true) ∧ fI t ts (ia v.1 i') (j + i') = true)
      (Q := fun z => (z = .inl () ∧ itA t ts v.1 j = true) ∨ ((z = .inr (.inl ()) ∨ z = .inr (.inr ())) ∧ itA t ts v.1 j = false))
      (fun i s hi ⟨e, hp⟩ => ?_) (fun s ⟨e, hp⟩ => ?_) 0 0 ⟨nI_0.symm, fun i' hi' => absurd hi' (Nat.not_lt_zero _)⟩ (by omega) kF (kF_big (by omega))
    · subst e
      obtain ⟨l, hl⟩ : ∃ l, v.1[i]? = some l := ⟨_, List.getElem?_eq_getElem hi⟩
      have hdl := d10 i l hl
      have hia : ia v.1 i = l := by unfold ia; rw [hl]; rfl
      unfold f_X6_isFoundAt_b52
      simp only [kK_sI, kQ_sI, kN_sI, kZ_sI, kI_sI, wI_sI, if_true, Option.bind_some, lt, d6, d7.1, dl_size d7 d8, nI_leI (show v.1.length < 2 ^ 31 by omega) (show i < 2 ^ 31 by omega), if_neg (show ¬ v.1.length ≤ i by omega), dl_get d7 d8 hi, hdl.1, nI_add, hdl.fits hS hM hT hw h4 (show j + i < 2 ^ 31 by omega), bi_eq0, nI_le0 (show i < 2 ^ 31 by omega)]
      have fin : (i = 0 ∨ gO t ts (j + i - 1) = true) → (∃ s', (if fI t ts l (j + i) = false then some (Sum.inr (Sum.inr (Sum.inr ()))) else some (Sum.inl (nI i + 1)) : Option (Int32 ⊕ (Unit ⊕ Unit ⊕ Unit))) = some (.inl s') ∧ s' = nI (i + 1) ∧ ∀ i', i' < i + 1 → (i' = 0 ∨ gO t ts (j + i' - 1) = true) ∧ fI t ts (ia v.1 i') (j + i') = true) ∨ (∃ r, (if fI t ts l (j + i) = false then some (Sum.inr (Sum.inr (Sum.inr ()))) else some (Sum.inl (nI i + 1)) : Option (Int32 ⊕ (Unit ⊕ Unit ⊕ Unit))) = some (.inr r) ∧ ((r = .inl () ∧ itA t ts v.1 j = true) ∨ ((r = .inr (.inl ()) ∨ r = .inr (.inr ())) ∧ itA t ts v.1 j = false))) := by
        intro hg
        cases hf : fI t ts l (j + i)
        · rw [if_pos rfl]
          refine Or.inr ⟨_, rfl, Or.inr ⟨Or.inr rfl, ?_⟩⟩
          exact decide_eq_false (fun z => by have := (z i hi).2; rw [hia, hf] at this; cases this)
        · rw [if_neg (by decide)]
          refine Or.inl ⟨_, rfl, nI_1 i, fun i' h1 => ?_⟩
          by_cases e : i' = i
          · subst e; rw [hia]; exact ⟨hg, hf⟩
          · exact hp i' (by omega)
      by_cases h0 : i = 0
      · rw [if_pos h0]
        exact fin (Or.inl h0)
      · rw [if_neg h0, nI_sub1 (show 0 < j + i by omega), ct_goesOn hS hM hT hw h4 (show j + i - 1 < 2 ^ 30 by omega)]
        simp only [Option.bind_some, bi_eq0]
        cases hg : gO t ts (j + i - 1)
        · rw [if_pos rfl]
          refine Or.inr ⟨_, rfl, Or.inr ⟨Or.inl rfl, ?_⟩⟩
          exact decide_eq_false (fun z => by
            rcases (z i hi).1 with q | q
            · exact h0 q
            · rw [hg] at q; cases q)
        · rw [if_neg (by decide)]
          exact fin (Or.inr hg)
    · subst e
      unfold f_X6_isFoundAt_b52
      simp only [kK_sI, kQ_sI, kN_sI, kZ_sI, kI_sI, wI_sI, if_true, Option.bind_some, lt, d6, d7.1, dl_size d7 d8, if_pos (show nI v.1.length ≤ nI v.1.length from (nI_leI (show v.1.length < 2 ^ 31 by omega) (by omega)).mpr (Nat.le_refl _))]
      exact ⟨_, rfl, Or.inl ⟨rfl, decide_eq_true hp⟩⟩
  obtain ⟨z, e1, q⟩ := key
  rw [e1]
  have key2 : (some z).bind (fun z => Sum.elim (fun (_ : Unit) => (some (bi (exA t ts v.2.2.2.2.1 j))).bind fun r10 => if r10 = 0 then some (1 : Int32) else some 0) (fun z => Sum.elim (fun (_ : Unit) => some 0) (fun (_ : Unit) => some 0) z) z) = some (bi (itA t ts v.1 j && !exA t ts v.2.2.2.2.1 j)) := by
    rcases q with ⟨rfl, q⟩ | ⟨rfl | rfl, q⟩
    · rw [q]; cases exA t ts v.2.2.2.2.1 j <;> rfl
    · rw [q]; rfl
    · rw [q]; rfl
  simp only [Option.bind_some, bi_eq0] at key2 ⊢
  rw [key2]
  unfold fR
  cases tQ ts j <;> cases v.2.2.1 <;> by_cases h97 : v.2.1 = 97 <;> by_cases h115 : v.2.1 = 115 <;> cases t1 ts j <;> simp [h97, h115, bi]
end
