/-! patterns by their separators -/
section
variable {ty : List Int32}
theorem nx_sep (ty : List Int32) : ∀ (k f : Nat), f + k = ty.length → ∃ e, f ≤ e ∧ e ≤ ty.length ∧ sepB ty e = true ∧ ∀ i, f ≤ i → i < e → sepB ty i = false
  | 0, f, h => ⟨f, Nat.le_refl _, by omega, by unfold sepB; rw [decide_eq_true (show f = ty.length by omega)]; rfl, fun i h1 h2 => by omega⟩
  | k + 1, f, h => by
    cases hs : sepB ty f with
    | true => exact ⟨f, Nat.le_refl _, by omega, hs, fun i h1 h2 => by omega⟩
    | false =>
      obtain ⟨e, h1, h2, h3, h4⟩ := nx_sep ty k (f + 1) (by omega)
      refine ⟨e, by omega, h2, h3, fun i h5 h6 => ?_⟩
      by_cases e9 : i = f
      · rw [e9]; exact hs
      · exact h4 i (by omega) h6
theorem pk_run {f k : Nat} (h : pK ty f = some (k, f)) : ∀ e, f ≤ e → (∀ i, f ≤ i → i < e → sepB ty i = false) → pK ty e = some (k, f) ∧ iK ty e = iK ty f
  | 0, h1, h2 => by
    have : f = 0 := by omega
    subst this
    exact ⟨h, rfl⟩
  | e + 1, h1, h2 => by
    by_cases e9 : f = e + 1
    · rw [← e9]; exact ⟨h, rfl⟩
    · obtain ⟨a1, a2⟩ := pk_run h e (by omega) (fun i h3 h4 => h2 i h3 (by omega))
      have hs := h2 e (by omega) (by omega)
      simp only [pK, iK]
      rw [a1, hs]
      exact ⟨by simp, by simp [a2]⟩
theorem pk_mono : ∀ (j i : Nat) (v w : Nat × Nat), i ≤ j → pK ty i = some v → pK ty j = some w → v.1 ≤ w.1
  | 0, i, v, w, h, h1, h2 => by
    have : i = 0 := by omega
    subst this
    rw [h1] at h2; cases h2; exact Nat.le_refl _
  | j + 1, i, v, w, h, h1, h2 => by
    by_cases e9 : i = j + 1
    · rw [e9, h2] at h1; cases h1; exact Nat.le_refl _
    · obtain ⟨u, hu⟩ := pK_pre h2
      have := pk_mono j i v u (by omega) h1 hu
      simp only [pK] at h2
      rw [hu] at h2
      simp only at h2
      split at h2
      · split at h2
        · cases h2; simp only; omega
        · cases h2
      · cases h2; exact this
theorem pk_sep {f k e : Nat} (h : pK ty f = some (k, f)) (hfe : f ≤ e) (hn : ∀ i, f ≤ i → i < e → sepB ty i = false) (hs : sepB ty e = true) : (itB ty f e = true → pK ty (e + 1) = some (k + 1, e + 1) ∧ iK ty (e + 1) = ((iK ty f).1 ++ [itO ty f e], e + 1)) ∧ (itB ty f e = false → pK ty (e + 1) = none) := by
  obtain ⟨a1, a2⟩ := pk_run h e hfe hn
  have a3 := (iK_pK f (k, f) h).1
  refine ⟨fun hb => ⟨?_, ?_⟩, fun hb => ?_⟩
  · simp only [pK]; rw [a1]; simp only; rw [if_pos hs, if_pos hb]
  · simp only [iK]; rw [if_pos hs, a2, a3]
  · simp only [pK]; rw [a1]; simp only; rw [if_pos hs, if_neg (by rw [hb]; decide)]
/-- what the model turns down is no pattern -/
theorem p_bad {f k n : Nat} (h : pK ty f = some (k, f)) (hf : f < ty.length) (a1 : n = 0 ∨ f + n ≤ ty.length) (a2 : ∀ i, i < n → isL (la ty (f + i)) = true) (a3 : f + n < ty.length → isL (la ty (f + n)) = false) (hb : ¬ (k < 3 ∧ f < pEn ty f n ∧ (pEn ty f n = ty.length ∨ (la ty (pEn ty f n) = 45 ∧ pEn ty f n + 1 < ty.length)))) : isPat ty = false := by
  cases hp : isPat ty with
  | false => rfl
  | true =>
    exfalso
    apply hb
    unfold isPat at hp
    cases hv : pK ty (ty.length + 1) with
    | none => rw [hv] at hp; cases hp
    | some v =>
      rw [hv] at hp
      have hv3 := of_decide_eq_true hp
      obtain ⟨e, e1, e2, e3, e4⟩ := nx_sep ty (ty.length - f) f (by omega)
      obtain ⟨s1, s2⟩ := pk_sep h e1 e4 e3
      obtain ⟨w, hw⟩ := pK_pre2 (ty.length + 1) (e + 1) (by omega) ⟨v, hv⟩
      cases hit : itB ty f e with
      | false => rw [s2 hit] at hw; cases hw
      | true =>
        obtain ⟨q1, -⟩ := s1 hit
        have hm := pk_mono (ty.length + 1) (e + 1) _ v (by omega) q1 hv
        have hee := p_no a1 a2 a3 e2 e3 hit
        rw [hee]
        refine ⟨by simp only at hm; omega, itB_lt hit, ?_⟩
        by_cases el : e = ty.length
        · exact Or.inl el
        · refine Or.inr ⟨?_, ?_⟩
          · unfold sepB at e3
            rw [decide_eq_false el, Bool.false_or] at e3
            exact of_decide_eq_true e3
          · by_cases e9 : e + 1 = ty.length
            · exfalso
              rw [e9] at q1
              have hn : pK ty (ty.length + 1) = none := by
                simp only [pK]
                rw [q1]
                simp only
                rw [if_pos (show sepB ty ty.length = true by unfold sepB; rw [decide_eq_true rfl]; rfl), if_neg (fun z => absurd (itB_lt z) (Nat.lt_irrefl _))]
              rw [hn] at hv; cases hv
            · omega
/-- what the model lets pass, goes on -/
theorem p_good {f k n : Nat} (h : pK ty f = some (k, f)) (hf : f < ty.length) (a1 : n = 0 ∨ f + n ≤ ty.length) (a2 : ∀ i, i < n → isL (la ty (f + i)) = true) (hb : f < pEn ty f n ∧ (pEn ty f n = ty.length ∨ (la ty (pEn ty f n) = 45 ∧ pEn ty f n + 1 < ty.length))) : pK ty (pEn ty f n + 1) = some (k + 1, pEn ty f n + 1) ∧ iK ty (pEn ty f n + 1) = ((iK ty f).1 ++ [(pNu ty f n, pSt ty f n, sb ty f (f + n))], pEn ty f n + 1) := by
  obtain ⟨b1, b2, b3, b4⟩ := p_yes a1 a2 hb.1 hf
  have hs : sepB ty (pEn ty f n) = true := by
    unfold sepB
    rcases hb.2 with h9 | h9
    · rw [decide_eq_true h9]; rfl
    · rw [decide_eq_true h9.1, Bool.or_true]
  obtain ⟨q1, q2⟩ := (pk_sep h (by omega) b2 hs).1 b1
  rw [b4] at q2
  exact ⟨q1, q2⟩
end
