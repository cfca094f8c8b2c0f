/-! THE PURE SIDE. A heap with its ints replaced; loops; rows as lists -/
def sI (S : PS) (I : Nat → Nat → Int32) : PS := (S.1, S.2.1, I, S.2.2.2)
def up (I : Nat → Nat → Int32) (a k : Nat) (v : Int32) : Nat → Nat → Int32 := fun b j => if b = a ∧ j = k then v else I b j
theorem kK_sI (S : PS) (I : Nat → Nat → Int32) : kK (sI S I) = kK S := rfl
theorem kN_sI (S : PS) (I : Nat → Nat → Int32) : kN (sI S I) = kN S := rfl
theorem kQ_sI (S : PS) (I : Nat → Nat → Int32) : kQ (sI S I) = kQ S := rfl
theorem kZ_sI (S : PS) (I : Nat → Nat → Int32) : kZ (sI S I) = kZ S := rfl
theorem kI_sI (S : PS) (I : Nat → Nat → Int32) : kI (sI S I) = I := rfl
theorem sI_sI (S : PS) (I J : Nat → Nat → Int32) : sI (sI S I) J = sI S J := rfl
theorem sI_kI (S : PS) : sI S (kI S) = S := rfl
theorem wI_sI (S : PS) (I : Nat → Nat → Int32) (a k : Nat) (v : Int32) : wI (sI S I) a k v = sI S (up I a k v) := rfl
theorem up_at (I : Nat → Nat → Int32) (a k : Nat) (v : Int32) (b j : Nat) : up I a k v b j = if b = a ∧ j = k then v else I b j := rfl
theorem up_eq (I : Nat → Nat → Int32) (a k : Nat) (v : Int32) : up I a k v a k = v := if_pos ⟨rfl, rfl⟩
theorem up_ne {I : Nat → Nat → Int32} {a k : Nat} {v : Int32} {b j : Nat} (h : b ≠ a ∨ j ≠ k) : up I a k v b j = I b j := if_neg (fun q => h.elim (fun z => z q.1) (fun z => z q.2))
/-! loops -/
theorem it_gen {σ ρ : Type} {b : σ → Option (σ ⊕ ρ)} (P : Nat → σ → Prop) (Q : ρ → Prop) (hs : ∀ k s, P k s → (∃ s' k', b s = some (.inl s') ∧ k' < k ∧ P k' s') ∨ (∃ r, b s = some (.inr r) ∧ Q r)) : ∀ (fuel k : Nat) (s : σ), k < fuel → P k s → ∃ r, iter b fuel s = some r ∧ Q r
  | 0, _, _, h, _ => absurd h (Nat.not_lt_zero _)
  | fuel + 1, k, s, h, hp => by
    rcases hs k s hp with ⟨s', k', e, hk, hp'⟩ | ⟨r, e, hq⟩
    · obtain ⟨r, e2, hq⟩ := it_gen P Q hs fuel k' s' (by omega) hp'
      exact ⟨r, by simp only [iter, e, Option.bind_some]; exact e2, hq⟩
    · exact ⟨r, by simp only [iter, e, Option.bind_some], hq⟩
/-- a counter that goes up to n, with a way out -/
theorem it_up {σ ρ : Type} {b : σ → Option (σ ⊕ ρ)} (n : Nat) (P : Nat → σ → Prop) (Q : ρ → Prop) (hs : ∀ k s, k < n → P k s → (∃ s', b s = some (.inl s') ∧ P (k + 1) s') ∨ (∃ r, b s = some (.inr r) ∧ Q r)) (he : ∀ s, P n s → ∃ r, b s = some (.inr r) ∧ Q r) (k0 : Nat) (s0 : σ) (h : P k0 s0) (hk : k0 ≤ n) (fuel : Nat) (hn : n - k0 < fuel) : ∃ r, iter b fuel s0 = some r ∧ Q r := by
  refine it_gen (fun d s => ∃ k, k ≤ n ∧ d = n - k ∧ P k s) Q (fun d s hp => ?_) fuel (n - k0) s0 hn ⟨k0, hk, rfl, h⟩
  obtain ⟨k, hk, rfl, hp⟩ := hp
  by_cases hlt : k < n
  · rcases hs k s hlt hp with ⟨s', e, hp'⟩ | h
    · exact Or.inl ⟨s', n - (k + 1), e, by omega, k + 1, by omega, rfl, hp'⟩
    · exact Or.inr h
  · have : k = n := by omega
    subst this
    exact Or.inr (he s hp)
theorem kF_big {n : Nat} (h : n < 100000) : n < kF := h
/-! ints -/
theorem nI_sub1 {a : Nat} (h : 0 < a) : nI a - 1 = nI (a - 1) := by
  have := pk_sub (a := a) (b := 1) h
  exact this
theorem nI_le0 {n : Nat} (h : n < 2 ^ 31) : nI n ≤ 0 ↔ n = 0 := by
  have := nI_leI h (show 0 < 2 ^ 31 by decide)
  rw [nI_0] at this
  rw [this]; omega
theorem nI_lt0 {n : Nat} (h : n < 2 ^ 31) : nI n < 0 ↔ False := iff_false_intro (nI_pos h)
theorem nI_eq0 {n : Nat} (h : n < 2 ^ 31) : nI n = 0 ↔ n = 0 := by
  have := nI_eq h (show 0 < 2 ^ 31 by decide)
  rw [nI_0] at this
  exact this
/-! lists of ints -/
def la (l : List Int32) (j : Nat) : Int32 := (l[j]?).getD 0
theorem la_lt {l : List Int32} {j : Nat} (h : j < l.length) : la l j = l[j] := by simp [la, h]
theorem la_ge {l : List Int32} {j : Nat} (h : l.length ≤ j) : la l j = 0 := by simp [la, h]
theorem la_ext {l l' : List Int32} (hn : l.length = l'.length) (h : ∀ j, j < l.length → la l j = la l' j) : l = l' := by
  apply List.ext_getElem hn
  intro j h1 h2
  have := h j h1
  rw [la_lt h1, la_lt h2] at this
  exact this
theorem la_append {l l' : List Int32} {j : Nat} : la (l ++ l') j = if j < l.length then la l j else la l' (j - l.length) := by
  simp only [la, List.getElem?_append]
  split <;> rfl
theorem la_set {l : List Int32} {k j : Nat} {v : Int32} : la (l.set k v) j = if j = k ∧ k < l.length then v else la l j := by
  simp only [la, List.getElem?_set]
  by_cases e : k = j
  · subst e
    by_cases h : k < l.length
    · simp [h]
    · simp [h]
  · simp [e, Ne.symm e]
theorem la_insert {l : List Int32} {k j : Nat} {v : Int32} (h : k ≤ l.length) : la (l.insertIdx k v) j = if j < k then la l j else if j = k then v else la l (j - 1) := by
  simp only [la, List.getElem?_insertIdx]
  by_cases h1 : j < k
  · simp [h1]
  · by_cases h2 : j = k
    · subst h2; simp [h]
    · simp [h1, h2]
theorem la_erase {l : List Int32} {k j : Nat} : la (l.eraseIdx k) j = if j < k then la l j else la l (j + 1) := by
  simp only [la, List.getElem?_eraseIdx]
  split <;> rfl
/-- what a row answers at a place -/
def li (l : List Int32) (p : Int32) : Int32 := if p < 0 then 0 else la l p.toNatClampNeg
theorem li_nI {l : List Int32} {k : Nat} (h : k < 2 ^ 31) : li l (nI k) = la l k := by
  unfold li
  rw [if_neg (nI_pos h), nI_clamp h]
/-! rows -/
def rS (S : PS) (h cap : Nat) : Prop := kK S h = 9 ∧ kQ S h 0 = some (h + 1) ∧ kK S (h + 1) = 101 ∧ kN S (h + 1) = cap ∧ cap ≤ 1000
def rL (I : Nat → Nat → Int32) (h : Nat) (l : List Int32) : Prop := I h 1 = nI l.length ∧ ∀ j, j < l.length → I (h + 1) j = la l j
/-- all but the row at h is as it was -/
def fr (I I' : Nat → Nat → Int32) (h : Nat) : Prop := ∀ a j, a ≠ h → a ≠ h + 1 → I' a j = I a j
theorem fr.rf {I : Nat → Nat → Int32} {h : Nat} : fr I I h := fun _ _ _ _ => rfl
theorem fr.tr {I I' I'' : Nat → Nat → Int32} {h : Nat} (h1 : fr I I' h) (h2 : fr I' I'' h) : fr I I'' h := fun a j p q => (h2 a j p q).trans (h1 a j p q)
theorem fr.up {I I' : Nat → Nat → Int32} {h a k : Nat} {v : Int32} (h1 : fr I I' h) (e : a = h ∨ a = h + 1) : fr I (up I' a k v) h := fun b j p q => by
  rw [up_ne (by rcases e with rfl | rfl <;> exact Or.inl (by assumption))]
  exact h1 b j p q
theorem rL.kept {I I' : Nat → Nat → Int32} {h h' : Nat} {l : List Int32} (hf : fr I I' h) (h1 : h' ≠ h) (h2 : h' ≠ h + 1) (h3 : h' + 1 ≠ h) (hl : rL I h' l) : rL I' h' l :=
  ⟨(hf _ _ h1 h2).trans hl.1, fun j hj => (hf _ _ h3 (by omega)).trans (hl.2 j hj)⟩
section
variable {S : PS} {I : Nat → Nat → Int32} {h c : Nat} {l : List Int32}
theorem rw_count (hS : rS S h c) (hl : rL I h l) : f_X5_count (sI S I) h = some (nI l.length) := by
  unfold f_X5_count
  rw [kK_sI, if_pos hS.1, kI_sI, hl.1]
theorem rw_get (hS : rS S h c) (hl : rL I h l) (hc : l.length ≤ c) (p : Int32) : f_X5_get (sI S I) h p = some (li l p) := by
  obtain ⟨s1, s2, s3, s4, s5⟩ := hS
  unfold f_X5_get li
  by_cases h0 : p < 0
  · rw [if_pos h0, if_pos h0]
  · rw [if_neg h0, if_neg h0]
    obtain ⟨k, hk, rfl⟩ := nI_of h0
    simp only [kK_sI, kQ_sI, kN_sI, kI_sI, s1, s2, s3, s4, if_true, Option.bind_some, hl.1, nI_clamp hk, nI_leI (show l.length < 2 ^ 31 by omega) hk, nI_leI (show c < 2 ^ 31 by omega) hk]
    by_cases h1 : l.length ≤ k
    · rw [if_pos h1, la_ge h1]
    · rw [if_neg h1]
      by_cases h2 : c ≤ k
      · omega
      · rw [if_neg h2, if_pos (by simp [nI_pos hk, h2]), hl.2 k (by omega)]
theorem rw_getn (hS : rS S h c) (hl : rL I h l) (hc : l.length ≤ c) {k : Nat} (hk : k < 2 ^ 31) : f_X5_get (sI S I) h (nI k) = some (la l k) := by
  rw [rw_get hS hl hc, li_nI hk]
theorem rL_set {k : Nat} {v : Int32} (hl : rL I h l) (hk : k < l.length) : rL (up I (h + 1) k v) h (l.set k v) := by
  refine ⟨?_, fun j hj => ?_⟩
  · rw [up_ne (Or.inl (by omega)), List.length_set]; exact hl.1
  · rw [List.length_set] at hj
    rw [la_set, up_at]
    by_cases e : j = k
    · subst e; simp [hk]
    · simp [e, hl.2 j hj]
theorem rw_set (hS : rS S h c) (hl : rL I h l) (hc : l.length ≤ c) {k : Nat} (hk : k < 2 ^ 31) (v : Int32) : ∃ I', f_X5_set (sI S I) h (nI k) v = some (sI S I') ∧ rL I' h (l.set k v) ∧ fr I I' h := by
  obtain ⟨s1, s2, s3, s4, s5⟩ := hS
  unfold f_X5_set
  simp only [kK_sI, kQ_sI, kN_sI, kI_sI, s1, s2, s3, s4, if_true, Option.bind_some, hl.1, nI_clamp hk, nI_leI (show l.length < 2 ^ 31 by omega) hk, nI_leI (show c < 2 ^ 31 by omega) hk, nI_lt0 hk, if_false, false_or, lt]
  by_cases h1 : l.length ≤ k
  · rw [if_pos h1]
    refine ⟨I, rfl, ?_, fr.rf⟩
    rw [List.set_eq_of_length_le h1]; exact hl
  · rw [if_neg h1, if_neg (by omega : ¬ c ≤ k), if_pos (by omega : ¬ c ≤ k)]
    exact ⟨_, rfl, rL_set hl (by omega), fr.rf.up (Or.inr rfl)⟩
theorem rw_add (hS : rS S h c) (hl : rL I h l) (hc : l.length < c) (v : Int32) : ∃ I', f_X5_add (sI S I) h v = some (sI S I') ∧ rL I' h (l ++ [v]) ∧ fr I I' h := by
  obtain ⟨s1, s2, s3, s4, s5⟩ := hS
  have hb : l.length < 2 ^ 31 := by omega
  unfold f_X5_add
  simp only [kK_sI, kQ_sI, kN_sI, kI_sI, s1, s2, s3, s4, if_true, Option.bind_some, hl.1, nI_clamp hb, nI_leI (show c < 2 ^ 31 by omega) hb, nI_lt0 hb, if_false, false_or, lt, wI_sI, if_neg (show ¬ c ≤ l.length by omega), if_pos (show ¬ c ≤ l.length by omega)]
  refine ⟨_, rfl, ⟨?_, fun j hj => ?_⟩, (fr.rf.up (Or.inr rfl)).up (Or.inl rfl)⟩
  · rw [up_eq, up_ne (Or.inl (by omega)), hl.1, nI_1]; simp
  · rw [up_ne (Or.inl (by omega)), up_at, la_append]
    simp at hj
    by_cases e : j = l.length
    · subst e; simp [la]
    · rw [if_neg (fun q => e q.2), if_pos (by omega), hl.2 j (by omega)]
theorem rw_clear (hS : rS S h c) (hl : rL I h l) : ∃ I', f_X5_clear (sI S I) h = some (sI S I') ∧ rL I' h [] ∧ fr I I' h := by
  unfold f_X5_clear
  rw [kK_sI, if_pos hS.1]
  refine ⟨up I h 1 0, rfl, ⟨by rw [up_eq]; exact nI_0.symm, fun j hj => absurd hj (Nat.not_lt_zero _)⟩, fr.rf.up (Or.inl rfl)⟩
end
