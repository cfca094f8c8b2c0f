/-! edits keep the state well formed -/
theorem slN_ins {t : List Int32} {p : Nat} {c : Int32} (hp : p ≤ t.length) : ∀ k, slN (t.insertIdx p c) k = if k ≤ p then slN t k else slN t (k - 1) + (if c = 47 then 1 else 0)
  | 0 => by rw [if_pos (Nat.zero_le _)]; rfl
  | k + 1 => by
    simp only [slN, slN_ins hp k, la_insert hp]
    by_cases h1 : k < p
    · rw [if_pos (show k ≤ p by omega), if_pos h1, if_pos (show k + 1 ≤ p by omega)]
    · by_cases h2 : k = p
      · subst h2
        rw [if_pos (Nat.le_refl k), if_neg h1, if_pos (rfl : k = k), if_neg (show ¬ k + 1 ≤ k by omega), Nat.add_sub_cancel]
      · rw [if_neg (show ¬ k ≤ p by omega), if_neg h1, if_neg h2, if_neg (show ¬ k + 1 ≤ p by omega), Nat.add_sub_cancel]
        obtain ⟨q, rfl⟩ : ∃ q, k = q + 1 := ⟨k - 1, by omega⟩
        simp only [Nat.add_sub_cancel, slN]
        omega
theorem slN_era {t : List Int32} {p : Nat} : ∀ k, slN (t.eraseIdx p) k = if k ≤ p then slN t k else slN t (k + 1) - (if la t p = 47 then 1 else 0)
  | 0 => by rw [if_pos (Nat.zero_le _)]; rfl
  | k + 1 => by
    simp only [slN, slN_era k, la_erase]
    by_cases h1 : k < p
    · rw [if_pos (show k ≤ p by omega), if_pos h1, if_pos (show k + 1 ≤ p by omega)]
    · rw [if_neg h1, if_neg (show ¬ k + 1 ≤ p by omega)]
      by_cases h2 : k = p
      · subst h2
        rw [if_pos (Nat.le_refl k)]
        omega
      · rw [if_neg (show ¬ k ≤ p by omega)]
        have : (if la t p = 47 then 1 else 0) ≤ slN t (k + 1) := by
          have := slN_mono t (show p + 1 ≤ k + 1 by omega)
          simp only [slN] at this ⊢
          omega
        simp only [slN] at this ⊢
        omega
theorem mem_gl {gl : List Gn} {f : Gn → Option Gn} {g : Gn} (h : g ∈ gl.filterMap f) : ∃ a ∈ gl, f a = some g := by
  simpa using h
theorem wD_map {k : Dk} {n n' : Nat} {f : Gn → Option Gn} (hn : n' ≤ 160) (hw : wD k ∧ ∀ g ∈ k.2.2.2, g.2.1 + g.2.2 ≤ n) (hf : ∀ g g', f g = some g' → g.2.1 + g.2.2 ≤ n → g'.1 = g.1 ∧ g'.2.2 = g.2.2 ∧ g'.2.1 + g'.2.2 ≤ n') : wD (uG k (k.2.2.2.filterMap f)) ∧ ∀ g ∈ (uG k (k.2.2.2.filterMap f)).2.2.2, g.2.1 + g.2.2 ≤ n' := by
  obtain ⟨⟨h1, h2, h3, h4, h5, h6⟩, h7⟩ := hw
  have h9 : ∀ g ∈ k.2.2.2.filterMap f, g.1 ≤ 20 ∧ g.2.1 + g.2.2 ≤ n' := by
    intro g hg
    obtain ⟨a, ha, e⟩ := mem_gl hg
    obtain ⟨q1, q2, q3⟩ := hf a g e (h7 a ha)
    obtain ⟨i, hi, e2⟩ := List.getElem_of_mem ha
    have := h5 i a (by rw [List.getElem?_eq_getElem hi, e2])
    exact ⟨by omega, q3⟩
  refine ⟨⟨h1, h2, h3, Nat.le_trans (List.length_filterMap_le _ _) h4, fun j g hg => ?_, h6⟩, fun g hg => (h9 g hg).2⟩
  have := h9 g (List.mem_of_getElem? hg)
  omega
theorem wf_put {T : St} (hw : wf T) {p w : Nat} (hp : p ≤ T.2.1.length) (hl : T.2.1.length < 160) {c : Int32} (hc : txS c = true) (hw4 : w < 4) : wf (uPut T p c (nI w)) := by
  obtain ⟨w1, w2, w3, w4, w5, w6, w7, w8, w9, w10, w11⟩ := hw
  have e1 : (T.2.1.insertIdx p c).length = T.2.1.length + 1 := by rw [List.length_insertIdx, if_pos hp]
  have e2 : (T.2.2.1.insertIdx p (nI w)).length = T.2.1.length + 1 := by rw [List.length_insertIdx, if_pos (by rw [w4]; exact hp), w4]
  have hq : slN T.2.1 p ≤ slN T.2.1 T.2.1.length := slN_mono _ hp
  refine ⟨w1, by rw [show (uPut T p c (nI w)).2.1 = T.2.1.insertIdx p c from rfl, e1]; exact hl, fun j hj => ?_, e2.trans e1.symm, fun j hj => ?_, ?_, w7, w8, w9, w10, fun d hd => ?_⟩
  · rw [show (uPut T p c (nI w)).2.1 = T.2.1.insertIdx p c from rfl] at hj ⊢
    rw [e1] at hj
    rw [la_insert hp]
    split
    · exact w3 j (by omega)
    · split
      · exact hc
      · exact w3 (j - 1) (by omega)
  · rw [show (uPut T p c (nI w)).2.1 = T.2.1.insertIdx p c from rfl, e1] at hj
    rw [show (uPut T p c (nI w)).2.2.1 = T.2.2.1.insertIdx p (nI w) from rfl, la_insert (by rw [w4]; exact hp)]
    split
    · exact w5 j (by omega)
    · split
      · exact ⟨w, hw4, rfl⟩
      · exact w5 (j - 1) (by omega)
  · show (mkP T.2.2.2.1 T.2.1 p c).length = slN (T.2.1.insertIdx p c) (T.2.1.insertIdx p c).length + 1
    rw [e1, slN_ins hp, if_neg (show ¬ T.2.1.length + 1 ≤ p by omega), Nat.add_sub_cancel]
    unfold mkP
    split
    · rw [List.length_insertIdx, List.length_set, if_pos (by omega), w6]
    · rw [List.length_set, w6]
  · show wD (uG _ _) ∧ ∀ g ∈ (uG _ _).2.2.2, g.2.1 + g.2.2 ≤ (T.2.1.insertIdx p c).length
    rw [e1]
    exact wD_map (by omega) (w11 d hd) (fun g g' hg hn => by
      unfold fP at hg
      split at hg
      · cases hg; exact ⟨rfl, rfl, by simp only; omega⟩
      · split at hg
        · cases hg
        · cases hg; exact ⟨rfl, rfl, by omega⟩)
theorem wf_take {T : St} (hw : wf T) {p : Nat} (hp : p < T.2.1.length) : wf (uTake T p) := by
  obtain ⟨w1, w2, w3, w4, w5, w6, w7, w8, w9, w10, w11⟩ := hw
  have e1 : (T.2.1.eraseIdx p).length = T.2.1.length - 1 := by rw [List.length_eraseIdx, if_pos hp]
  have e2 : (T.2.2.1.eraseIdx p).length = T.2.1.length - 1 := by rw [List.length_eraseIdx, if_pos (by rw [w4]; exact hp), w4]
  have hq : slN T.2.1 (p + 1) ≤ slN T.2.1 T.2.1.length := slN_mono _ hp
  refine ⟨w1, by rw [show (uTake T p).2.1 = T.2.1.eraseIdx p from rfl, e1]; omega, fun j hj => ?_, e2.trans e1.symm, fun j hj => ?_, ?_, w7, w8, w9, w10, fun d hd => ?_⟩
  · rw [show (uTake T p).2.1 = T.2.1.eraseIdx p from rfl] at hj ⊢
    rw [e1] at hj
    rw [la_erase]
    split
    · exact w3 j (by omega)
    · exact w3 (j + 1) (by omega)
  · rw [show (uTake T p).2.1 = T.2.1.eraseIdx p from rfl, e1] at hj
    rw [show (uTake T p).2.2.1 = T.2.2.1.eraseIdx p from rfl, la_erase]
    split
    · exact w5 j (by omega)
    · exact w5 (j + 1) (by omega)
  · show (mkT T.2.2.2.1 T.2.1 p).length = slN (T.2.1.eraseIdx p) (T.2.1.eraseIdx p).length + 1
    rw [e1, slN_era]
    unfold mkT
    simp only [slN] at hq
    by_cases e : la T.2.1 p = 47
    · rw [if_pos e] at hq ⊢
      rw [if_pos e, List.length_eraseIdx, List.length_set, if_pos (by omega), w6]
      by_cases h2 : T.2.1.length - 1 ≤ p
      · rw [if_pos h2]
        have : T.2.1.length = p + 1 := by omega
        rw [this]
        simp only [Nat.add_sub_cancel, slN, if_pos e]
      · rw [if_neg h2, show T.2.1.length - 1 + 1 = T.2.1.length by omega]
        omega
    · rw [if_neg e, if_neg e, List.length_set, w6]
      by_cases h2 : T.2.1.length - 1 ≤ p
      · rw [if_pos h2]
        have : T.2.1.length = p + 1 := by omega
        rw [this]
        simp only [Nat.add_sub_cancel, slN, if_neg e, Nat.add_zero]
      · rw [if_neg h2, show T.2.1.length - 1 + 1 = T.2.1.length by omega]
        omega
  · show wD (uG _ _) ∧ ∀ g ∈ (uG _ _).2.2.2, g.2.1 + g.2.2 ≤ (T.2.1.eraseIdx p).length
    rw [e1]
    exact wD_map (by omega) (w11 d hd) (fun g g' hg hn => by
      unfold fT at hg
      split at hg
      · cases hg; exact ⟨rfl, rfl, by simp only; omega⟩
      · split at hg
        · cases hg
        · cases hg; exact ⟨rfl, rfl, by omega⟩)
