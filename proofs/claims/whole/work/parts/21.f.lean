/-! patterns, as the class reads them -/
def wdB (ty : List Int32) (f e : Nat) : Bool := decide (f < e ∧ ∀ i, i < e - f → isL (la ty (f + i)) = true)
def ltI (ty : List Int32) (e : Nat) : Int32 := if e = 0 then 0 else la ty (e - 1)
def itB (ty : List Int32) (f e : Nat) : Bool := if e - f = 1 ∧ ltI ty e = 35 then true else if f < e ∧ ltI ty e = 42 then (decide (e - f = 1) || wdB ty f (e - 1)) else wdB ty f e
def sepB (ty : List Int32) (i : Nat) : Bool := decide (i = ty.length) || decide (la ty i = 45)
def pK (ty : List Int32) : Nat → Option (Nat × Nat)
  | 0 => some (0, 0)
  | i + 1 => match pK ty i with
    | none => none
    | some v => if sepB ty i = true then (if itB ty v.2 i = true then some (v.1 + 1, i + 1) else none) else some v
def isPat (ty : List Int32) : Bool := match pK ty (ty.length + 1) with
  | none => false
  | some v => decide (v.1 ≤ 3)
def iK (ty : List Int32) : Nat → List Iv × Nat
  | 0 => ([], 0)
  | i + 1 => if sepB ty i = true then ((iK ty i).1 ++ [itO ty (iK ty i).2 i], i + 1) else iK ty i
def isSg (ty : List Int32) : Bool := decide (0 < ty.length ∧ ty.countP (fun v => decide (v = 42)) ≤ 1 ∧ ∀ i, i < ty.length → la ty i = 42 ∨ isL (la ty i) = true ∨ isD (la ty i) = true ∨ la ty i = 32)
theorem itB_lt {ty : List Int32} {f e : Nat} (h : itB ty f e = true) : f < e := by
  unfold itB at h
  split at h
  · omega
  · split at h
    · rename_i h2; exact h2.1
    · unfold wdB at h
      exact (of_decide_eq_true h).1
theorem pK_le {ty : List Int32} : ∀ (i : Nat) (v : Nat × Nat), pK ty i = some v → v.2 ≤ i ∧ v.1 ≤ i
  | 0, v, h => by cases h; exact ⟨Nat.le_refl _, Nat.le_refl _⟩
  | i + 1, v, h => by
    simp only [pK] at h
    cases e : pK ty i with
    | none => rw [e] at h; cases h
    | some w =>
      have := pK_le i w e
      rw [e] at h
      simp only at h
      split at h
      · split at h
        · cases h; exact ⟨Nat.le_refl _, by simp only; omega⟩
        · cases h
      · cases h; omega
theorem pK_pre {ty : List Int32} {i : Nat} {v : Nat × Nat} (h : pK ty (i + 1) = some v) : ∃ w, pK ty i = some w := by
  simp only [pK] at h
  cases e : pK ty i with
  | none => rw [e] at h; cases h
  | some w => exact ⟨w, rfl⟩
theorem pK_pre2 {ty : List Int32} : ∀ (k i : Nat), i ≤ k → (∃ v, pK ty k = some v) → ∃ w, pK ty i = some w
  | 0, i, hi, h => by
    have : i = 0 := by omega
    subst this; exact h
  | k + 1, i, hi, ⟨v, h⟩ => by
    by_cases e : i = k + 1
    · subst e; exact ⟨v, h⟩
    · exact pK_pre2 k i (by omega) (pK_pre h)
theorem iK_pK {ty : List Int32} : ∀ (i : Nat) (v : Nat × Nat), pK ty i = some v → (iK ty i).2 = v.2 ∧ (iK ty i).1.length = v.1
  | 0, v, h => by cases h; exact ⟨rfl, rfl⟩
  | i + 1, v, h => by
    simp only [pK] at h
    simp only [iK]
    cases e : pK ty i with
    | none => rw [e] at h; cases h
    | some w =>
      obtain ⟨q1, q2⟩ := iK_pK i w e
      rw [e] at h
      simp only at h
      split at h
      · rename_i hs
        split at h
        · cases h
          rw [if_pos hs]
          exact ⟨rfl, by simp [q2]⟩
        · cases h
      · rename_i hs
        cases h
        rw [if_neg hs]
        exact ⟨q1, q2⟩
section
variable {S : PS} {I : Nat → Nat → Int32} {h c : Nat} {ty : List Int32}
theorem cx_isWord (hs : rS S h c) (hl : rL I h ty) (hc : ty.length ≤ c) {f e : Nat} (hf : f ≤ 1000) (he : e ≤ 1000) : f_X9_isWord (sI S I) h (nI f) (nI e) = some (bi (wdB ty f e)) := by
  unfold f_X9_isWord
  have hx : (lt (fun (x1 : Int32) => lt (fun (x5 : Int32) => if x5 = 0 ∨ x5 = 1 then (some x5) else none) fun k6 => (iter (fun (v : Int32 × Int32) => f_X9_isWord_b14 h (nI e) (sI S I) v.1 v.2) kF (x1, nI f)).bind (fun (v : Int32) => k6 v)) fun j2 => if nI e ≤ nI f then (j2 0) else (j2 1)) = lt (fun (x5 : Int32) => if x5 = 0 ∨ x5 = 1 then (some x5) else none) fun k6 => (iter (fun (v : Int32 × Int32) => f_X9_isWord_b14 h (nI e) (sI S I) v.1 v.2) kF (bi (decide (f < e)), nI f)).bind (fun (v : Int32) => k6 v) := by
    simp only [lt, nI_leI (show e < 2 ^ 31 by omega) (show f < 2 ^ 31 by omega)]
    by_cases h1 : e ≤ f
    · rw [if_pos h1, decide_eq_false (by omega)]; rfl
    · rw [if_neg h1, decide_eq_true (show f < e by omega)]; rfl
  rw [hx]
  simp only [lt]
  have key : ∃ z, iter (fun (v : Int32 × Int32) => f_X9_isWord_b14 h (nI e) (sI S I) v.1 v.2) kF (bi (decide (f < e)), nI f) = some z ∧ z = bi (wdB ty f e) := by
    by_cases hfe : f ≤ e
    · refine it_up (b := fun (v : Int32 × Int32) => f_X9_isWord_b14 h (nI e) (sI S I) v.1 v.2) e
        (P := fun i s => f ≤ i ∧ s = (bi (decide (f < e ∧ ∀ k, k < i - f → isL (la ty (f + k)) = true)), nI i)) (Q := fun z => z = bi (wdB ty f e))
        (fun i s hi ⟨hfi, e9⟩ => ?_) (fun s ⟨hfi, e9⟩ => ?_) f _ ⟨Nat.le_refl _, ?_⟩ hfe kF (kF_big (by omega))
      · subst e9
        have hlt : f < e := by omega
        unfold f_X9_isWord_b14
        simp only [nI_leI (show e < 2 ^ 31 by omega) (show i < 2 ^ 31 by omega), if_neg (show ¬ e ≤ i by omega), lt, kK_sI, hs.1, if_true, rw_getn hs hl hc (show i < 2 ^ 31 by omega), Option.bind_some, cx_isLetter, bi_eq0, nI_1]
        left
        have nx : decide (f < e ∧ ∀ k, k < i + 1 - f → isL (la ty (f + k)) = true) = (decide (f < e ∧ ∀ k, k < i - f → isL (la ty (f + k)) = true) && isL (la ty i)) := by
          cases hh : isL (la ty i)
          · rw [Bool.and_false]
            exact decide_eq_false (fun z => by have := z.2 (i - f) (by omega); rw [show f + (i - f) = i by omega, hh] at this; cases this)
          · rw [Bool.and_true]
            refine decide_eq_decide.mpr ⟨fun z => ⟨z.1, fun k hk => z.2 k (by omega)⟩, fun z => ⟨z.1, fun k hk => ?_⟩⟩
            by_cases e9 : k = i - f
            · subst e9; rw [show f + (i - f) = i by omega]; exact hh
            · exact z.2 k (by omega)
        rw [nx]
        cases hd : decide (f < e ∧ ∀ k, k < i - f → isL (la ty (f + k)) = true)
        · rw [if_pos rfl]
          exact ⟨_, rfl, by omega, by simp [bi]⟩
        · rw [if_neg (by decide)]
          cases hh : isL (la ty i)
          · rw [if_pos rfl]
            exact ⟨_, rfl, by omega, by simp [bi]⟩
          · rw [if_neg (by decide)]
            exact ⟨_, rfl, by omega, by simp [bi]⟩
      · subst e9
        unfold f_X9_isWord_b14
        rw [if_pos (show nI e ≤ nI e from (nI_leI (show e < 2 ^ 31 by omega) (by omega)).mpr (Nat.le_refl _))]
        exact ⟨_, rfl, rfl⟩
      · congr 2
        refine decide_eq_decide.mpr ⟨fun z => ⟨z, fun k hk => by omega⟩, fun z => z.1⟩
    · refine ⟨bi (wdB ty f e), ?_, rfl⟩
      have : wdB ty f e = false := decide_eq_false (fun z => by omega)
      rw [this, decide_eq_false (show ¬ f < e by omega)]
      show iter _ (99999 + 1) _ = _
      unfold iter f_X9_isWord_b14
      rw [if_pos (show nI e ≤ nI f from (nI_leI (by omega) (by omega)).mpr (by omega))]
      rfl
  obtain ⟨z, e1, q⟩ := key
  rw [e1, q]
  simp only [Option.bind_some, bi_01, if_true]
/-- nothing is no word -/
theorem cx_isWordNo (S : PS) (h : Nat) {p q : Int32} (hpq : q ≤ p) : f_X9_isWord S h p q = some 0 := by
  unfold f_X9_isWord
  simp only [lt, if_pos hpq]
  show (iter _ (99999 + 1) _).bind _ = _
  unfold iter f_X9_isWord_b14
  simp only [if_pos hpq, Option.bind_some, true_or, if_true]
theorem cx_isItem (hs : rS S h c) (hl : rL I h ty) (hc : ty.length ≤ c) (h20 : ty.length ≤ 20) {f e : Nat} (hfe : f ≤ e) (he : e ≤ 20) : f_X3_isItem (sI S I) h (nI f) (nI e) = some (bi (itB ty f e)) := by
  have hlast : f_X5_get (sI S I) h (nI e - 1) = some (ltI ty e) := by
    unfold ltI
    by_cases h0 : e = 0
    · subst h0
      rw [if_pos rfl, rw_get hs hl hc]
      unfold li
      rw [if_pos (by decide +kernel)]
    · rw [if_neg h0, nI_sub1 (by omega), rw_getn hs hl hc (by omega)]
  unfold f_X3_isItem
  rw [kK_sI, if_pos hs.1, hlast]
  simp only [Option.bind_some, lt, pk_sub hfe, nI_leI (show e < 2 ^ 31 by omega) (show f < 2 ^ 31 by omega), cx_isWord hs hl hc (show f ≤ 1000 by omega) (show e ≤ 1000 by omega), bi_01, if_true, show (1 : Int32) = nI 1 from rfl, nI_eq (show e - f < 2 ^ 31 by omega) (show 1 < 2 ^ 31 by decide)]
  unfold itB
  by_cases h1 : e - f = 1 ∧ ltI ty e = 35
  · rw [if_pos h1.1, if_pos h1.2, if_pos h1]; rfl
  · rw [if_neg h1]
    have w01 : (if bi (wdB ty f e) = 0 ∨ bi (wdB ty f e) = nI 1 then some (bi (wdB ty f e)) else none) = some (bi (wdB ty f e)) := if_pos (bi_01 _)
    simp only [w01]
    have main : (if e ≤ f then some (bi (wdB ty f e)) else if ltI ty e = 42 then (if e - f = 1 then some (nI 1) else (f_X9_isWord (sI S I) h (nI f) (nI e - nI 1)).bind fun r17 => if r17 = 0 then some 0 else some (nI 1)) else some (bi (wdB ty f e))) = some (bi (if f < e ∧ ltI ty e = 42 then (decide (e - f = 1) || wdB ty f (e - 1)) else wdB ty f e)) := by
      by_cases h2 : e ≤ f
      · rw [if_pos h2, if_neg (by omega)]
      · rw [if_neg h2]
        by_cases h3 : ltI ty e = 42
        · rw [if_pos h3, if_pos (show f < e ∧ ltI ty e = 42 from ⟨by omega, h3⟩)]
          by_cases h4 : e - f = 1
          · rw [if_pos h4, decide_eq_true h4]; rfl
          · rw [if_neg h4, decide_eq_false h4, pk_sub (show 1 ≤ e by omega), cx_isWord hs hl hc (show f ≤ 1000 by omega) (show e - 1 ≤ 1000 by omega)]
            cases wdB ty f (e - 1) <;> rfl
        · rw [if_neg h3, if_neg (fun z => h3 z.2)]
    by_cases h5 : e - f = 1
    · rw [if_pos h5]
      by_cases h6 : ltI ty e = 35
      · exact absurd ⟨h5, h6⟩ h1
      · rw [if_neg h6]; exact main
    · rw [if_neg h5]; exact main
theorem cx_isPattern (hs : rS S h c) (hl : rL I h ty) (hc : ty.length ≤ c) (h20 : ty.length ≤ 20) : f_X6_isPattern (sI S I) h = some (bi (isPat ty)) := by
  unfold f_X6_isPattern
  simp only [lt]
  obtain ⟨z, e1, q⟩ := it_up (b := fun (v : Int32 × Int32 × Int32) => f_X6_isPattern_b6 h (sI S I) v.1 v.2.1 v.2.2) (ty.length + 1)
    (P := fun i s => ∃ v, pK ty i = some v ∧ s = (nI v.1, nI v.2, nI i))
    (Q := fun z => (∃ v, pK ty (ty.length + 1) = some v ∧ z = .inl (nI v.1) ∧ v.1 ≤ 21) ∨ (pK ty (ty.length + 1) = none ∧ z = .inr ()))
    (fun i s hi ⟨v, hv, e⟩ => by
      subst e
      have hi3 : i < 2 ^ 31 := by omega
      obtain ⟨hle, -⟩ := pK_le i v hv
      unfold f_X6_isPattern_b6
      simp only [lt, kK_sI, hs.1, if_true, rw_count hs hl, Option.bind_some, nI_ltI (show ty.length < 2 ^ 31 by omega) hi3, if_neg (show ¬ ty.length < i by omega), cx_isItem hs hl hc h20 hle (show i ≤ 20 by omega), rw_getn hs hl hc hi3, nI_eq hi3 (show ty.length < 2 ^ 31 by omega), bi_eq0, nI_1]
      have stop : itB ty v.2 i = false → sepB ty i = true → pK ty (ty.length + 1) = none := by
        intro h1 h2
        have hn : pK ty (i + 1) = none := by simp only [pK, hv, h1, h2]; rfl
        cases e : pK ty (ty.length + 1) with
        | none => rfl
        | some w =>
          obtain ⟨w2, hw2⟩ := pK_pre2 (ty.length + 1) (i + 1) (by omega) ⟨w, e⟩
          rw [hn] at hw2; cases hw2
      have item : sepB ty i = true → (∃ s', (if itB ty v.2 i = false then some (Sum.inr (Sum.inr ())) else some (Sum.inl (nI (v.1 + 1), nI (i + 1), nI (i + 1))) : Option ((Int32 × Int32 × Int32) ⊕ (Int32 ⊕ Unit))) = some (.inl s') ∧ ∃ v, pK ty (i + 1) = some v ∧ s' = (nI v.1, nI v.2, nI (i + 1))) ∨ (∃ r, (if itB ty v.2 i = false then some (Sum.inr (Sum.inr ())) else some (Sum.inl (nI (v.1 + 1), nI (i + 1), nI (i + 1))) : Option ((Int32 × Int32 × Int32) ⊕ (Int32 ⊕ Unit))) = some (.inr r) ∧ ((∃ v, pK ty (ty.length + 1) = some v ∧ r = .inl (nI v.1) ∧ v.1 ≤ 21) ∨ (pK ty (ty.length + 1) = none ∧ r = .inr ()))) := by
        intro hsep
        cases hb : itB ty v.2 i
        · rw [if_pos rfl]
          exact Or.inr ⟨_, rfl, Or.inr ⟨stop hb hsep, rfl⟩⟩
        · rw [if_neg (by decide)]
          exact Or.inl ⟨_, rfl, (v.1 + 1, i + 1), by simp only [pK, hv, hb, hsep, if_true], rfl⟩
      by_cases h1 : i = ty.length
      · rw [if_pos h1]
        exact item (by unfold sepB; rw [decide_eq_true h1]; rfl)
      · rw [if_neg h1]
        by_cases h2 : la ty i = 45
        · rw [if_pos h2]
          exact item (by unfold sepB; rw [decide_eq_true h2]; simp)
        · rw [if_neg h2]
          refine Or.inl ⟨_, rfl, v, ?_, rfl⟩
          have hsep : sepB ty i = false := by unfold sepB; rw [decide_eq_false h1, decide_eq_false h2]; rfl
          simp only [pK, hv, hsep]
          rfl)
    (fun s ⟨v, hv, e⟩ => by
      subst e
      have := pK_le _ v hv
      unfold f_X6_isPattern_b6
      simp only [lt, kK_sI, hs.1, if_true, rw_count hs hl, Option.bind_some, if_pos (show nI ty.length < nI (ty.length + 1) from (nI_ltI (show ty.length < 2 ^ 31 by omega) (by omega)).mpr (Nat.lt_succ_self _))]
      exact ⟨_, rfl, Or.inl ⟨v, hv, rfl, by omega⟩⟩)
    0 (0, 0, 0) ⟨(0, 0), rfl, by simp [nI_0]⟩ (by omega) kF (kF_big (by omega))
  rw [e1]
  unfold isPat
  rcases q with ⟨v, hv, rfl, h21⟩ | ⟨hn, rfl⟩
  · rw [hv]
    simp only [Option.bind_some, Sum.elim_inl, show (3 : Int32) = nI 3 from rfl, nI_ltI (show 3 < 2 ^ 31 by decide) (show v.1 < 2 ^ 31 by omega)]
    by_cases h3 : 3 < v.1
    · rw [if_pos h3, decide_eq_false (by omega)]; rfl
    · rw [if_neg h3, decide_eq_true (by omega)]; rfl
  · rw [hn]; rfl
theorem cx_isSg (hs : rS S h c) (hl : rL I h ty) (hc : ty.length ≤ c) (h20 : ty.length ≤ 20) : f_X6_isSuggestion (sI S I) h = some (bi (isSg ty)) := by
  unfold f_X6_isSuggestion
  simp only [lt]
  obtain ⟨z, e1, q⟩ := it_up (b := fun (v : Int32 × Int32) => f_X6_isSuggestion_b4 h (sI S I) v.1 v.2) ty.length
    (P := fun i s => s = (nI ((ty.take i).countP (fun v => decide (v = 42))), nI i) ∧ ∀ k, k < i → la ty k = 42 ∨ isL (la ty k) = true ∨ isD (la ty k) = true ∨ la ty k = 32)
    (Q := fun z => (z = .inl (nI (ty.countP (fun v => decide (v = 42)))) ∧ ∀ k, k < ty.length → la ty k = 42 ∨ isL (la ty k) = true ∨ isD (la ty k) = true ∨ la ty k = 32) ∨ (z = .inr () ∧ isSg ty = false))
    (fun i s hi ⟨e, hp⟩ => by
      subst e
      have hi3 : i < 2 ^ 31 := by omega
      have hg : ty[i]? = some (la ty i) := by rw [la_lt hi]; exact List.getElem?_eq_getElem hi
      unfold f_X6_isSuggestion_b4
      simp only [lt, kK_sI, hs.1, if_true, rw_count hs hl, Option.bind_some, nI_leI (show ty.length < 2 ^ 31 by omega) hi3, if_neg (show ¬ ty.length ≤ i by omega), rw_getn hs hl hc hi3, cx_isLetter, cx_isDigit, bi_eq0, nI_1]
      have ok : ∀ (b : Nat), (if la ty i = 42 then 1 else 0) = b → (la ty i = 42 ∨ isL (la ty i) = true ∨ isD (la ty i) = true ∨ la ty i = 32) → (nI (((ty.take i).countP (fun v => decide (v = 42))) + b), nI (i + 1)) = (nI ((ty.take (i + 1)).countP (fun v => decide (v = 42))), nI (i + 1)) ∧ ∀ k, k < i + 1 → la ty k = 42 ∨ isL (la ty k) = true ∨ isD (la ty k) = true ∨ la ty k = 32 := by
        intro b hb h9
        rw [countP_take_succ _ _ hg]
        refine ⟨by rw [← hb]; simp, fun k hk => ?_⟩
        by_cases e : k = i
        · subst e; exact h9
        · exact hp k (by omega)
      by_cases h1 : la ty i = 42
      · rw [if_pos h1]
        exact Or.inl ⟨_, rfl, ok 1 (if_pos h1) (Or.inl h1)⟩
      · rw [if_neg h1]
        cases h2 : isL (la ty i)
        · rw [if_pos rfl]
          cases h3 : isD (la ty i)
          · rw [if_pos rfl]
            by_cases h4 : la ty i = 32
            · rw [if_pos h4]
              exact Or.inl ⟨_, rfl, ok 0 (if_neg h1) (Or.inr (Or.inr (Or.inr h4)))⟩
            · rw [if_neg h4]
              refine Or.inr ⟨_, rfl, Or.inr ⟨rfl, decide_eq_false (fun z => ?_)⟩⟩
              rcases z.2.2 i hi with z | z | z | z
              · exact h1 z
              · rw [h2] at z; cases z
              · rw [h3] at z; cases z
              · exact h4 z
          · rw [if_neg (by decide)]
            exact Or.inl ⟨_, rfl, ok 0 (if_neg h1) (Or.inr (Or.inr (Or.inl h3)))⟩
        · rw [if_neg (by decide)]
          exact Or.inl ⟨_, rfl, ok 0 (if_neg h1) (Or.inr (Or.inl h2))⟩)
    (fun s ⟨e, hp⟩ => by
      subst e
      unfold f_X6_isSuggestion_b4
      simp only [lt, kK_sI, hs.1, if_true, rw_count hs hl, Option.bind_some, if_pos (show nI ty.length ≤ nI ty.length from (nI_leI (show ty.length < 2 ^ 31 by omega) (by omega)).mpr (Nat.le_refl _)), List.take_length]
      exact ⟨_, rfl, Or.inl ⟨rfl, hp⟩⟩)
    0 (0, 0) ⟨by simp [nI_0], fun k hk => absurd hk (Nat.not_lt_zero _)⟩ (by omega) kF (kF_big (by omega))
  rw [e1]
  rcases q with ⟨rfl, q⟩ | ⟨rfl, q⟩
  · have hcp : ty.countP (fun v => decide (v = 42)) ≤ ty.length := List.countP_le_length
    simp only [Option.bind_some, Sum.elim_inl, kK_sI, hs.1, if_true, rw_count hs hl, nI_le0 (show ty.length < 2 ^ 31 by omega), show (1 : Int32) = nI 1 from rfl, nI_ltI (show 1 < 2 ^ 31 by decide) (show ty.countP (fun v => decide (v = 42)) < 2 ^ 31 by omega)]
    unfold isSg
    by_cases h1 : ty.length = 0
    · rw [if_pos h1, decide_eq_false (fun z => by omega)]; rfl
    · rw [if_neg h1]
      by_cases h2 : 1 < ty.countP (fun v => decide (v = 42))
      · rw [if_pos h2, decide_eq_false (fun z => by omega)]; rfl
      · rw [if_neg h2, decide_eq_true ⟨by omega, by omega, q⟩]; rfl
  · rw [q]; rfl
end
