/-! rows: the loops -/
section
variable {S : PS} {I : Nat → Nat → Int32} {h c : Nat} {l : List Int32}
theorem rw_insert (hS : rS S h c) (hl : rL I h l) (hc : l.length < c) {k : Nat} (hk : k ≤ l.length) (v : Int32) : ∃ I', f_X5_insert (sI S I) h (nI k) v = some (sI S I') ∧ rL I' h (l.insertIdx k v) ∧ fr I I' h := by
  obtain ⟨s1, s2, s3, s4, s5⟩ := hS
  have hb : l.length < 2 ^ 31 := by omega
  have hk2 : k < 2 ^ 31 := by omega
  unfold f_X5_insert
  simp only [kK_sI, kQ_sI, kN_sI, kI_sI, s1, s2, s3, s4, if_true, Option.bind_some, hl.1, nI_clamp hk2, nI_lt0 hk2, nI_ltI hb hk2, nI_ltI hb (show c < 2 ^ 31 by omega), if_false, false_or, lt, wI_sI, if_neg (show ¬ l.length < k by omega), if_pos hc]
  obtain ⟨S1, e1, I1, rfl, q1, q2, q3⟩ := it_gen (b := fun (v : Int32 × PS) => f_X5_insert_b30 h (nI k) v.1 v.2)
    (P := fun d s => ∃ i J, k ≤ i ∧ i ≤ l.length ∧ d = i - k ∧ s = (nI i, sI S J) ∧ J h 1 = nI l.length ∧ fr I J h ∧ ∀ j, J (h + 1) j = if i < j ∧ j ≤ l.length then I (h + 1) (j - 1) else I (h + 1) j)
    (Q := fun T => ∃ J, T = sI S J ∧ J h 1 = nI l.length ∧ fr I J h ∧ ∀ j, J (h + 1) j = if k < j ∧ j ≤ l.length then I (h + 1) (j - 1) else I (h + 1) j)
    (fun d s hp => by
      obtain ⟨i, J, h1, h2, rfl, rfl, h3, h4, h5⟩ := hp
      have hi : i < 2 ^ 31 := by omega
      unfold f_X5_insert_b30
      simp only [kK_sI, kQ_sI, kN_sI, kI_sI, s1, s2, s3, s4, if_true, Option.bind_some, nI_leI hi hk2, lt, wI_sI]
      by_cases e : i ≤ k
      · have : i = k := by omega
        subst this
        rw [if_pos (by omega)]
        exact Or.inr ⟨_, rfl, J, rfl, h3, h4, h5⟩
      · have hi1 : i - 1 < 2 ^ 31 := by omega
        rw [if_neg e]
        simp only [nI_sub1 (show 0 < i by omega), nI_clamp hi, nI_clamp hi1, nI_lt0 hi, nI_lt0 hi1, false_or, if_pos (show ¬ c ≤ i - 1 by omega), if_pos (show ¬ c ≤ i by omega)]
        refine Or.inl ⟨_, i - 1 - k, rfl, by omega, i - 1, up J (h + 1) i (J (h + 1) (i - 1)), by omega, by omega, rfl, ?_, by rw [up_ne (Or.inl (by omega))]; exact h3, h4.up (Or.inr rfl), fun j => ?_⟩
        · rw [show nI i + (-1) = nI (i - 1) from by rw [← pk_m1 (i - 1), show i - 1 + 1 = i by omega]]
        · rw [up_at, h5, h5]
          by_cases e2 : j = i
          · subst e2; rw [if_pos ⟨rfl, rfl⟩, if_neg (by omega), if_pos (by omega)]
          · rw [if_neg (by omega)]
            by_cases e3 : i < j ∧ j ≤ l.length
            · rw [if_pos e3, if_pos (by omega)]
            · rw [if_neg e3, if_neg (by omega)])
    kF (l.length - k) (nI l.length, sI S I) (kF_big (by omega)) ⟨l.length, I, hk, Nat.le_refl _, rfl, rfl, hl.1, fr.rf, fun j => by rw [if_neg (by omega)]⟩
  rw [e1]
  simp only [Option.bind_some, kK_sI, kQ_sI, kN_sI, kI_sI, s1, s2, s3, s4, if_true, wI_sI, nI_lt0 hk2, nI_clamp hk2, false_or, if_pos (show ¬ c ≤ k by omega)]
  refine ⟨_, rfl, ⟨?_, fun j hj => ?_⟩, (q2.up (Or.inr rfl)).up (Or.inl rfl)⟩
  · rw [up_eq, up_ne (Or.inl (by omega)), q1, nI_1, List.length_insertIdx, if_pos hk]
  · rw [List.length_insertIdx, if_pos hk] at hj
    rw [up_ne (Or.inl (by omega)), up_at, la_insert hk, q3]
    by_cases e : j = k
    · subst e; simp
    · rw [if_neg (by omega)]
      by_cases e2 : j < k
      · rw [if_neg (by omega), if_pos e2, hl.2 j (by omega)]
      · rw [if_pos (by omega), if_neg e2, if_neg e, hl.2 (j - 1) (by omega)]
theorem rw_remove (hS : rS S h c) (hl : rL I h l) (hc : l.length ≤ c) {k : Nat} (hk : k < l.length) : ∃ I', f_X5_remove (sI S I) h (nI k) = some (sI S I', la l k) ∧ rL I' h (l.eraseIdx k) ∧ fr I I' h := by
  obtain ⟨s1, s2, s3, s4, s5⟩ := hS
  have hb : l.length < 2 ^ 31 := by omega
  have hk2 : k < 2 ^ 31 := by omega
  unfold f_X5_remove
  simp only [kK_sI, kQ_sI, kN_sI, kI_sI, s1, s2, s3, s4, if_true, Option.bind_some, hl.1, nI_clamp hk2, nI_lt0 hk2, nI_leI hb hk2, nI_leI hb (show c < 2 ^ 31 by omega), if_false, false_or, lt, wI_sI, if_neg (show ¬ l.length ≤ k by omega), if_pos hc, if_pos (show ¬ c ≤ k by omega)]
  obtain ⟨S1, e1, I1, rfl, q1, q2, q3⟩ := it_up (b := fun (v : Int32 × PS) => f_X5_remove_b37 h v.1 v.2) l.length
    (P := fun i s => ∃ J, k < i ∧ s = (nI i, sI S J) ∧ J h 1 = nI l.length ∧ fr I J h ∧ ∀ j, J (h + 1) j = if k ≤ j ∧ j + 1 < i then I (h + 1) (j + 1) else I (h + 1) j)
    (Q := fun T => ∃ J, T = sI S J ∧ J h 1 = nI l.length ∧ fr I J h ∧ ∀ j, J (h + 1) j = if k ≤ j ∧ j + 1 < l.length then I (h + 1) (j + 1) else I (h + 1) j)
    (fun i s hi hp => by
      obtain ⟨J, h1, rfl, h3, h4, h5⟩ := hp
      have hi3 : i < 2 ^ 31 := by omega
      have hi1 : i - 1 < 2 ^ 31 := by omega
      unfold f_X5_remove_b37
      simp only [kK_sI, kQ_sI, kN_sI, kI_sI, s1, s2, s3, s4, if_true, Option.bind_some, h3, nI_leI hb hi3, if_neg (show ¬ l.length ≤ i by omega), lt, wI_sI, nI_sub1 (show 0 < i by omega), nI_clamp hi3, nI_clamp hi1, nI_lt0 hi3, nI_lt0 hi1, false_or, if_pos (show ¬ c ≤ i - 1 by omega), if_pos (show ¬ c ≤ i by omega)]
      refine Or.inl ⟨_, rfl, up J (h + 1) (i - 1) (J (h + 1) i), by omega, by rw [nI_1], by rw [up_ne (Or.inl (by omega))]; exact h3, h4.up (Or.inr rfl), fun j => ?_⟩
      rw [up_at, h5, h5]
      by_cases e2 : j = i - 1
      · subst e2; rw [if_pos ⟨rfl, rfl⟩, if_neg (by omega), if_pos (by omega), show i - 1 + 1 = i by omega]
      · rw [if_neg (by omega)]
        by_cases e3 : k ≤ j ∧ j + 1 < i
        · rw [if_pos e3, if_pos (by omega)]
        · rw [if_neg e3, if_neg (by omega)])
    (fun s hp => by
      obtain ⟨J, h1, rfl, h3, h4, h5⟩ := hp
      unfold f_X5_remove_b37
      simp only [kK_sI, kI_sI, s1, h3, if_true, if_pos (show nI l.length ≤ nI l.length from (nI_leI hb hb).mpr (Nat.le_refl _))]
      exact ⟨_, rfl, J, rfl, h3, h4, h5⟩)
    (k + 1) (nI k + 1, sI S I) ⟨I, by omega, by rw [nI_1], hl.1, fr.rf, fun j => by rw [if_neg (by omega)]⟩ (by omega) kF (kF_big (by omega))
  rw [e1]
  simp only [Option.bind_some, kK_sI, kI_sI, s1, if_true, wI_sI]
  refine ⟨_, by rw [hl.2 k hk], ⟨?_, fun j hj => ?_⟩, q2.up (Or.inl rfl)⟩
  · rw [up_eq, q1, List.length_eraseIdx, if_pos hk, nI_sub1 (by omega)]
  · rw [List.length_eraseIdx, if_pos hk] at hj
    rw [up_ne (Or.inl (by omega)), q3, la_erase]
    by_cases e : j < k
    · rw [if_neg (by omega), if_pos e, hl.2 j (by omega)]
    · rw [if_pos (by omega), if_neg e, hl.2 (j + 1) (by omega)]
theorem rw_reset (hS : rS S h c) {n : Nat} (hn : n ≤ c) : ∃ I', f_X5_reset (sI S I) h (nI n) = some (sI S I') ∧ rL I' h (List.replicate n 0) ∧ fr I I' h := by
  obtain ⟨s1, s2, s3, s4, s5⟩ := hS
  have hb : n < 2 ^ 31 := by omega
  unfold f_X5_reset
  simp only [kK_sI, s1, if_true, lt, wI_sI]
  obtain ⟨S1, e1, I1, rfl, q1, q2, q3⟩ := it_up (b := fun (v : Int32 × PS) => f_X5_reset_b7 h (nI n) v.1 v.2) n
    (P := fun i s => ∃ J, s = (nI i, sI S J) ∧ J h 1 = nI i ∧ fr I J h ∧ ∀ j, j < i → J (h + 1) j = 0)
    (Q := fun T => ∃ J, T = sI S J ∧ J h 1 = nI n ∧ fr I J h ∧ ∀ j, j < n → J (h + 1) j = 0)
    (fun i s hi hp => by
      obtain ⟨J, rfl, h3, h4, h5⟩ := hp
      have hi3 : i < 2 ^ 31 := by omega
      unfold f_X5_reset_b7
      simp only [kK_sI, kQ_sI, kN_sI, kI_sI, s1, s2, s3, s4, if_true, Option.bind_some, nI_leI hb hi3, nI_leI (show c < 2 ^ 31 by omega) hi3, if_neg (show ¬ n ≤ i by omega), if_neg (show ¬ c ≤ i by omega), lt, wI_sI, nI_clamp hi3, nI_lt0 hi3, false_or, if_pos (show ¬ c ≤ i by omega)]
      refine Or.inl ⟨_, rfl, _, by rw [nI_1], by rw [up_eq, up_ne (Or.inl (by omega)), h3, nI_1], (h4.up (Or.inr rfl)).up (Or.inl rfl), fun j hj => ?_⟩
      rw [up_ne (Or.inl (by omega)), up_at]
      by_cases e2 : j = i
      · subst e2; simp
      · rw [if_neg (by omega)]; exact h5 j (by omega))
    (fun s hp => by
      obtain ⟨J, rfl, h3, h4, h5⟩ := hp
      unfold f_X5_reset_b7
      simp only [if_pos (show nI n ≤ nI n from (nI_leI hb hb).mpr (Nat.le_refl _))]
      exact ⟨_, rfl, J, rfl, h3, h4, h5⟩)
    0 (0, sI S (up I h 1 0)) ⟨_, by rw [nI_0], by rw [up_eq, nI_0], fr.rf.up (Or.inl rfl), fun j hj => absurd hj (Nat.not_lt_zero _)⟩ (by omega) kF (kF_big (by omega))
  rw [e1]
  refine ⟨I1, rfl, ⟨by rw [q1, List.length_replicate], fun j hj => ?_⟩, q2⟩
  rw [List.length_replicate] at hj
  rw [q3 j hj]
  simp [la, hj]
/-- the first place of a value: -1 or it -/
theorem rw_placeOf (hS : rS S h c) (hl : rL I h l) (hc : l.length ≤ c) (v : Int32) : ∃ r, f_X5_placeOf (sI S I) h v = some r ∧ ((r = -1 ∧ ∀ j, j < l.length → la l j ≠ v) ∨ ∃ k, k < l.length ∧ r = nI k ∧ la l k = v ∧ ∀ j, j < k → la l j ≠ v) := by
  have hb : l.length < 2 ^ 31 := by have := hS.2.2.2.2; omega
  unfold f_X5_placeOf
  simp only [lt]
  obtain ⟨z, e1, q⟩ := it_up (b := fun (x : Int32) => f_X5_placeOf_b2 h v (sI S I) x) l.length
    (P := fun i s => s = nI i ∧ ∀ j, j < i → la l j ≠ v)
    (Q := fun z => (z = .inl () ∧ ∀ j, j < l.length → la l j ≠ v) ∨ ∃ k, k < l.length ∧ z = .inr (nI k) ∧ la l k = v ∧ ∀ j, j < k → la l j ≠ v)
    (fun i s hi hp => by
      obtain ⟨rfl, h5⟩ := hp
      have hi3 : i < 2 ^ 31 := by omega
      unfold f_X5_placeOf_b2
      rw [kK_sI, if_pos hS.1, kI_sI, hl.1, if_neg (by rw [nI_leI hb hi3]; omega), rw_getn hS hl hc hi3]
      simp only [Option.bind_some, lt]
      by_cases e : la l i = v
      · rw [if_pos e]
        exact Or.inr ⟨_, rfl, Or.inr ⟨i, hi, rfl, e, h5⟩⟩
      · rw [if_neg e]
        refine Or.inl ⟨_, rfl, nI_1 i, fun j hj => ?_⟩
        by_cases e2 : j = i
        · subst e2; exact e
        · exact h5 j (by omega))
    (fun s hp => by
      obtain ⟨rfl, h5⟩ := hp
      unfold f_X5_placeOf_b2
      rw [kK_sI, if_pos hS.1, kI_sI, hl.1, if_pos ((nI_leI hb hb).mpr (Nat.le_refl _))]
      exact ⟨_, rfl, Or.inl ⟨rfl, h5⟩⟩)
    0 0 ⟨nI_0.symm, fun j hj => absurd hj (Nat.not_lt_zero _)⟩ (by omega) kF (kF_big (by have := hS.2.2.2.2; omega))
  rw [e1]
  rcases q with ⟨rfl, q⟩ | ⟨k, q1, rfl, q2, q3⟩
  · exact ⟨_, rfl, Or.inl ⟨rfl, q⟩⟩
  · exact ⟨_, rfl, Or.inr ⟨k, q1, rfl, q2, q3⟩⟩
theorem rw_isLike (hS : rS S h c) (hl : rL I h l) (hc : l.length ≤ c) {h2 c2 : Nat} {l2 : List Int32} (hS2 : rS S h2 c2) (hl2 : rL I h2 l2) (hc2 : l2.length ≤ c2) : f_X5_isLike (sI S I) h h2 = some (if l = l2 then 1 else 0) := by
  have hb : l.length < 2 ^ 31 := by have := hS.2.2.2.2; omega
  have hb2 : l2.length < 2 ^ 31 := by have := hS2.2.2.2.2; omega
  unfold f_X5_isLike
  rw [kK_sI, if_pos hS.1, if_pos hS2.1, kI_sI, hl.1, hl2.1]
  simp only [lt, nI_eq hb hb2]
  by_cases hn : l.length = l2.length
  · rw [if_pos hn]
    obtain ⟨z, e1, q⟩ := it_up (b := fun (x : Int32) => f_X5_isLike_b15 h h2 (sI S I) x) l.length
      (P := fun i s => s = nI i ∧ ∀ j, j < i → la l j = la l2 j)
      (Q := fun z => (z = .inl () ∧ l = l2) ∨ (z = .inr () ∧ l ≠ l2))
      (fun i s hi hp => by
        obtain ⟨rfl, h5⟩ := hp
        have hi3 : i < 2 ^ 31 := by omega
        unfold f_X5_isLike_b15
        rw [kI_sI, hl.1, if_neg (by rw [nI_leI hb hi3]; omega), rw_getn hS hl hc hi3, rw_getn hS2 hl2 hc2 hi3]
        simp only [Option.bind_some, lt]
        by_cases e : la l i = la l2 i
        · rw [if_pos e]
          refine Or.inl ⟨_, rfl, nI_1 i, fun j hj => ?_⟩
          by_cases e2 : j = i
          · subst e2; exact e
          · exact h5 j (by omega)
        · rw [if_neg e]
          exact Or.inr ⟨_, rfl, Or.inr ⟨rfl, fun q => e (by rw [q])⟩⟩)
      (fun s hp => by
        obtain ⟨rfl, h5⟩ := hp
        unfold f_X5_isLike_b15
        rw [kI_sI, hl.1, if_pos ((nI_leI hb hb).mpr (Nat.le_refl _))]
        exact ⟨_, rfl, Or.inl ⟨rfl, la_ext hn h5⟩⟩)
      0 0 ⟨nI_0.symm, fun j hj => absurd hj (Nat.not_lt_zero _)⟩ (by omega) kF (kF_big (by have := hS.2.2.2.2; omega))
    rw [e1]
    rcases q with ⟨rfl, q⟩ | ⟨rfl, q⟩
    · rw [if_pos q]; rfl
    · rw [if_neg q]; rfl
  · rw [if_neg hn, if_neg (fun q => hn (by rw [q]))]
end
