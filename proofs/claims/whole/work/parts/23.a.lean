/-! what a token is; loops with a flag -/
theorem iter_done {σ ρ : Type} {b : σ → Option (σ ⊕ ρ)} {s : σ} {r : ρ} (h : b s = some (.inr r)) (n : Nat) : iter b (n + 1) s = some r := by
  simp only [iter, h, Option.bind_some]
theorem iter_next {σ ρ : Type} {b : σ → Option (σ ⊕ ρ)} {s s' : σ} (h : b s = some (.inl s')) (n : Nat) : iter b (n + 1) s = iter b n s' := by
  simp only [iter, h, Option.bind_some]
theorem it_all {b : Int32 × Int32 → Option ((Int32 × Int32) ⊕ Int32)} (n : Nat) (c : Nat → Bool) (o : Bool) (hn : n < 100000) (h0 : b (bi false, 0) = some (.inr (bi false))) (h1 : o = true → ∀ k, k < n → b (bi true, nI k) = some (.inl (bi (c k), nI (k + 1))) ∧ (k ≠ 0 → b (bi false, nI k) = some (.inr (bi false)))) (h2 : o = true → ∀ p, b (bi p, nI n) = some (.inr (bi p))) : ∃ r : Bool, iter b kF (bi o, 0) = some (bi r) ∧ (r = true ↔ o = true ∧ ∀ i, i < n → c i = true) := by
  cases o with
  | false =>
    exact ⟨false, iter_done h0 99999, by simp⟩
  | true =>
    obtain ⟨z, e1, r, rfl, q⟩ := it_up (b := b) n (P := fun k s => ∃ p : Bool, s = (bi p, nI k) ∧ (p = true ↔ ∀ i, i < k → c i = true)) (Q := fun z => ∃ r : Bool, z = bi r ∧ (r = true ↔ ∀ i, i < n → c i = true))
      (fun k s hk ⟨p, e, hp⟩ => by
        subst e
        cases p
        · have hk0 : k ≠ 0 := fun z => absurd (hp.mpr (fun i hi => absurd hi (by omega))) (by simp)
          rw [(h1 rfl k hk).2 hk0]
          refine Or.inr ⟨_, rfl, false, rfl, iff_of_false (by simp) (fun z => ?_)⟩
          exact absurd (hp.mpr fun i hi => z i (by omega)) (by simp)
        · rw [(h1 rfl k hk).1]
          refine Or.inl ⟨_, rfl, c k, rfl, fun z i hi => ?_, fun z => z k (by omega)⟩
          by_cases e : i = k
          · rw [e]; exact z
          · exact hp.mp rfl i (by omega))
      (fun s ⟨p, e, hp⟩ => by subst e; exact ⟨_, h2 rfl p, p, rfl, hp⟩)
      0 (bi true, 0) ⟨true, rfl, iff_of_true rfl (fun i hi => absurd hi (by omega))⟩ (Nat.zero_le _) kF (by unfold kF; omega)
    exact ⟨r, e1, by rw [q]; simp⟩
theorem it_any {b : Int32 × Int32 → Option ((Int32 × Int32) ⊕ Int32)} (a n : Nat) (c : Nat → Bool) (han : a ≤ n) (hn : n < 100000) (h1 : ∀ o k, a ≤ k → k < n → b (bi o, nI k) = some (.inl (bi (o || c k), nI (k + 1)))) (h2 : ∀ o, b (bi o, nI n) = some (.inr (bi o))) (o : Bool) : ∃ r : Bool, iter b kF (bi o, nI a) = some (bi r) ∧ (r = true ↔ o = true ∨ ∃ i, a ≤ i ∧ i < n ∧ c i = true) := by
  obtain ⟨z, e1, r, rfl, q⟩ := it_up (b := b) n (P := fun k s => a ≤ k ∧ ∃ p : Bool, s = (bi p, nI k) ∧ (p = true ↔ o = true ∨ ∃ i, a ≤ i ∧ i < k ∧ c i = true)) (Q := fun z => ∃ r : Bool, z = bi r ∧ (r = true ↔ o = true ∨ ∃ i, a ≤ i ∧ i < n ∧ c i = true))
    (fun k s hk ⟨hak, p, e, hp⟩ => by
      subst e
      rw [h1 p k hak hk]
      refine Or.inl ⟨_, rfl, by omega, _, rfl, ?_⟩
      rw [Bool.or_eq_true, hp]
      constructor
      · rintro ((z | ⟨i, z1, z2, z3⟩) | z)
        · exact Or.inl z
        · exact Or.inr ⟨i, z1, by omega, z3⟩
        · exact Or.inr ⟨k, hak, by omega, z⟩
      · rintro (z | ⟨i, z1, z2, z3⟩)
        · exact Or.inl (Or.inl z)
        · by_cases e : i = k
          · rw [← e]; exact Or.inr z3
          · exact Or.inl (Or.inr ⟨i, z1, by omega, z3⟩))
    (fun s ⟨_, p, e, hp⟩ => by subst e; exact ⟨_, h2 p, p, rfl, hp⟩)
    a (bi o, nI a) ⟨Nat.le_refl _, o, rfl, ⟨fun z => Or.inl z, fun z => z.elim id (fun ⟨i, z1, z2, _⟩ => absurd z1 (by omega))⟩⟩ han kF (by unfold kF; omega)
  exact ⟨r, e1, q⟩
/-- the end of the token ahead -/
def lE (ts : List Tk) (j : Nat) : Nat := if j = 0 then 0 else tE ts (j - 1)
def kdW (b : Bool) : Nat := if b = true then 1 else 2
/-- the value of digits, one hundred at most -/
def vc (t : List Int32) (a : Nat) : Nat → Nat
  | 0 => 0
  | n + 1 => if isD (la t (a + n)) = true then (if 10 * vc t a n + dv (la t (a + n)) < 100 then 10 * vc t a n + dv (la t (a + n)) else 100) else 0
theorem lE_mod {l : List Tk} {f : Tk → Tk} {j : Nat} (h : j < l.length) : lE (l.modify (l.length - 1) f) j = lE l j := by
  unfold lE
  by_cases e : j = 0
  · rw [if_pos e, if_pos e]
  · rw [if_neg e, if_neg e]
    unfold tE
    rw [List.getElem?_modify]
    simp only [if_neg (show ¬ l.length - 1 = j - 1 by omega)]
    cases l[j - 1]? <;> rfl
theorem lE_app {l : List Tk} {v : Tk} {j : Nat} (h : j ≤ l.length) : lE (l ++ [v]) j = lE l j := by
  unfold lE
  by_cases e : j = 0
  · rw [if_pos e, if_pos e]
  · rw [if_neg e, if_neg e]
    unfold tE
    rw [List.getElem?_append_left (by omega)]
/-- a token's marks -/
def tkP (t : List Int32) (ts : List Tk) (j : Nat) (v : Tk) : Prop := v.2.2.2.2.1 = (sc t v.1).2.1 ∧ (∀ i, v.1 ≤ i → i < v.2.1 → kd (la t i) = kdW v.2.2.1) ∧ v.2.2.2.1 = vc t v.1 (v.2.1 - v.1) ∧ (v.2.2.2.2.2.1 = true ↔ j = 0 ∨ ∃ i, lE ts j ≤ i ∧ i < v.1 ∧ (la t i = 47 ∨ la t i = 46)) ∧ ∀ p, v.2.2.2.2.2.2 = some p ↔ j ≠ 0 ∧ p = j - 1 ∧ ∀ i, lE ts j ≤ i → i < v.1 → la t i ≠ 47
theorem sc_tok (t : List Int32) : ∀ k : Nat, (∀ (j : Nat) (v : Tk), (sc t k).1[j]? = some v → tkP t (sc t k).1 j v) ∧ ((sc t k).2.2.1 = true ↔ (sc t k).1.length = 0 ∨ ∃ i, lE (sc t k).1 (sc t k).1.length ≤ i ∧ i < k ∧ (la t i = 47 ∨ la t i = 46)) ∧ ∀ p, (sc t k).2.2.2.1 = some p ↔ (sc t k).1.length ≠ 0 ∧ p = (sc t k).1.length - 1 ∧ ∀ i, lE (sc t k).1 (sc t k).1.length ≤ i → i < k → la t i ≠ 47
  | 0 => by
    refine ⟨fun j v h => by simp [sc] at h, by simp [sc], fun p => by simp [sc]⟩
  | k + 1 => by
    obtain ⟨h1, h2, h3⟩ := sc_tok t k
    obtain ⟨v1, v2, v3, v4⟩ := sc_inv t k
    have hend := sc_end t k
    have hop := sc_open t k
    obtain ⟨L, hL⟩ : ∃ L, L = (sc t k).1.length := ⟨_, rfl⟩
    by_cases g1 : kd (la t k) = 0
    · have hs : sc t (k + 1) = ((sc t k).1, if la t k = 47 then false else if la t k = 34 then !(sc t k).2.1 else (sc t k).2.1, if la t k = 47 ∨ la t k = 46 then true else (sc t k).2.2.1, if la t k = 47 then none else (sc t k).2.2.2.1, 0) := by simp only [sc]; exact stp0 g1
      rw [hs]
      refine ⟨h1, ?_, fun p => ?_⟩
      · simp only
        rw [← hL] at h2 ⊢
        by_cases e : la t k = 47 ∨ la t k = 46
        · rw [if_pos e]
          refine iff_of_true rfl ?_
          by_cases e2 : L = 0
          · exact Or.inl e2
          · refine Or.inr ⟨k, ?_, by omega, e⟩
            unfold lE
            rw [if_neg e2]
            unfold tE
            cases hv : (sc t k).1[L - 1]? with
            | none => exact Nat.zero_le _
            | some v => exact (v3 _ v hv).1
        · rw [if_neg e, h2]
          constructor
          · rintro (z | ⟨i, z1, z2, z3⟩)
            · exact Or.inl z
            · exact Or.inr ⟨i, z1, by omega, z3⟩
          · rintro (z | ⟨i, z1, z2, z3⟩)
            · exact Or.inl z
            · refine Or.inr ⟨i, z1, ?_, z3⟩
              by_cases e2 : i = k
              · rw [e2] at z3; exact absurd z3 e
              · omega
      · simp only
        have h3 := h3 p
        rw [← hL] at h3 ⊢
        by_cases e : la t k = 47
        · rw [if_pos e]
          refine iff_of_false (by simp) (fun z => ?_)
          refine z.2.2 k ?_ (by omega) e
          unfold lE
          rw [if_neg z.1]
          unfold tE
          cases hv : (sc t k).1[L - 1]? with
          | none => exact Nat.zero_le _
          | some v => exact (v3 _ v hv).1
        · rw [if_neg e, h3]
          refine and_congr_right fun _ => and_congr_right fun _ => ⟨fun z i hi1 hi2 => ?_, fun z i hi1 hi2 => z i hi1 (by omega)⟩
          by_cases e2 : i = k
          · rw [e2]; exact e
          · exact z i hi1 (by omega)
    · by_cases g2 : kd (la t k) = (sc t k).2.2.2.2
      · obtain ⟨n1, n2⟩ := v2 (by rw [← g2]; exact g1)
        obtain ⟨u, hu, hu2⟩ := hend (by rw [← g2]; exact g1)
        have hs : sc t (k + 1) = ((sc t k).1.modify ((sc t k).1.length - 1) (lenT (la t k)), (sc t k).2.1, (sc t k).2.2.1, (sc t k).2.2.2.1, kd (la t k)) := by simp only [sc]; exact stp1 g1 g2
        rw [hs]
        have hnew : lE ((sc t k).1.modify ((sc t k).1.length - 1) (lenT (la t k))) (sc t k).1.length = k + 1 := by
          unfold lE
          rw [if_neg n1]
          unfold tE
          rw [List.getElem?_modify, hu]
          simp only [if_true, Option.map_eq_map, Option.map_some]
          exact congrArg (· + 1) hu2
        have hold : lE (sc t k).1 (sc t k).1.length = k := by
          unfold lE
          rw [if_neg n1]
          unfold tE
          rw [hu]
          exact hu2
        refine ⟨fun j v hv => ?_, ?_, fun p => ?_⟩
        · simp only at hv ⊢
          rw [List.getElem?_modify] at hv
          have hj : j < (sc t k).1.length := by
            apply Classical.byContradiction
            intro z
            rw [List.getElem?_eq_none (by omega)] at hv
            simp at hv
          unfold tkP
          rw [lE_mod hj]
          by_cases e : (sc t k).1.length - 1 = j
          · rw [e] at hu
            simp only [if_pos e, hu, Option.map_eq_map, Option.map_some, Option.some.injEq] at hv
            subst hv
            obtain ⟨y1, y2, y3, y4, y5⟩ := h1 j u hu
            obtain ⟨w1, w2, w3⟩ := v3 j u hu
            refine ⟨y1, fun i hi1 hi2 => ?_, ?_, y4, y5⟩
            · simp only [lenT, hu2] at hi1 hi2 ⊢
              by_cases e2 : i = k
              · -- the kind of the last token is last
                rw [e2, g2]
                have hk0 : 0 < k := by omega
                obtain ⟨k', rfl⟩ : ∃ k', k = k' + 1 := ⟨k - 1, by omega⟩
                rw [sc_last, ← y2 k' (by omega) (by omega)]
              · exact y2 i hi1 (by omega)
            · simp only [lenT, hu2]
              rw [show k + 1 - u.1 = (k - u.1) + 1 by omega, vc, show u.1 + (k - u.1) = k by omega, y3, hu2]
          · have hv : (sc t k).1[j]? = some v := by
              simp only [if_neg e, Option.map_eq_map] at hv
              simpa using hv
            exact h1 j v hv
        · simp only [List.length_modify]
          rw [hnew, h2, hold]
          constructor
          · rintro (z | ⟨i, z1, z2, z3⟩)
            · exact Or.inl z
            · exact absurd z1 (by omega)
          · rintro (z | ⟨i, z1, z2, z3⟩)
            · exact Or.inl z
            · exact absurd z1 (by omega)
        · simp only [List.length_modify]
          rw [hnew, h3, hold]
          exact and_congr_right fun _ => and_congr_right fun _ => ⟨fun z i hi1 hi2 => absurd hi1 (by omega), fun z i hi1 hi2 => absurd hi1 (by omega)⟩
      · have hs : sc t (k + 1) = ((sc t k).1 ++ [lenT (la t k) (k, k, kd (la t k) == 1, 0, (sc t k).2.1, (sc t k).2.2.1, (sc t k).2.2.2.1)], (sc t k).2.1, false, some (sc t k).1.length, kd (la t k)) := by simp only [sc]; exact stp2 g1 g2
        have hkd := kd_012 (la t k)
        rw [hs]
        have hnew : lE ((sc t k).1 ++ [lenT (la t k) (k, k, kd (la t k) == 1, 0, (sc t k).2.1, (sc t k).2.2.1, (sc t k).2.2.2.1)]) ((sc t k).1.length + 1) = k + 1 := by
          unfold lE
          rw [if_neg (by omega)]
          unfold tE
          simp [lenT]
        refine ⟨fun j v hv => ?_, ?_, fun p => ?_⟩
        · simp only at hv ⊢
          rw [List.getElem?_append] at hv
          have hj : j ≤ (sc t k).1.length := by
            apply Classical.byContradiction
            intro z
            rw [if_neg (by omega), List.getElem?_eq_none (by simp; omega)] at hv
            cases hv
          unfold tkP
          rw [lE_app hj]
          by_cases e : j < (sc t k).1.length
          · rw [if_pos e] at hv
            exact h1 j v hv
          · have e2 : j = (sc t k).1.length := by omega
            subst e2
            rw [if_neg e] at hv
            simp only [Nat.sub_self, List.getElem?_cons_zero, Option.some.injEq] at hv
            subst hv
            refine ⟨rfl, fun i hi1 hi2 => ?_, ?_, h2, h3⟩
            · simp only [lenT] at hi1 hi2 ⊢
              have : i = k := by omega
              rw [this]
              unfold kdW
              rcases hkd with e | e | e
              · exact absurd e g1
              · rw [e]; rfl
              · rw [e]; rfl
            · simp only [lenT]
              rw [show k + 1 - k = 0 + 1 by omega, vc]
              rfl
        · simp only [List.length_append, List.length_singleton]
          rw [hnew]
          refine iff_of_false (by simp) ?_
          rintro (z | ⟨i, z1, z2, z3⟩)
          · omega
          · omega
        · simp only [List.length_append, List.length_singleton]
          rw [hnew]
          refine ⟨fun z => ⟨by omega, by cases z; omega, fun i hi1 hi2 => absurd hi1 (by omega)⟩, fun z => by rw [z.2.1]; rfl⟩
