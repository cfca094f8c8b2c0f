/-! .. rules, their lists, pairs, what is applied -/
theorem isIt_itO {ty : List Int32} {f e : Nat} (h : itB ty f e = true) (he : e ≤ 20) : isIt (itO ty f e) := by
  have hfe := itB_lt h
  unfold itB at h
  have hl : ltI ty e = la ty (e - 1) := by unfold ltI; rw [if_neg (by omega)]
  rw [hl] at h
  unfold isIt itO
  simp only
  split at h
  · rename_i h1
    obtain ⟨h1, h2⟩ := h1
    rw [decide_eq_true h2, if_pos (Or.inl h2), h2]
    have hn : sb ty f (e - 1) = [] := List.eq_nil_of_length_eq_zero (by rw [sb_len]; omega)
    rw [hn]
    exact ⟨Nat.zero_le _, fun _ => ⟨by decide, rfl⟩, fun z => (by cases z), fun j hj => absurd hj (Nat.not_lt_zero _)⟩
  · rename_i hn1
    split at h
    · rename_i h1
      obtain ⟨-, h2⟩ := h1
      rw [h2, if_pos (Or.inr rfl)]
      have e1 : decide ((42 : Int32) = 35) = false := by decide
      have e2 : decide ((42 : Int32) = 42) = true := by decide
      rw [e1, e2]
      refine ⟨by rw [sb_len]; omega, fun z => (by cases z), fun _ z => (by cases z), fun j hj => ?_⟩
      rw [sb_len] at hj
      rw [la_sb hj]
      rw [Bool.or_eq_true, decide_eq_true_eq] at h
      rcases h with h | h
      · omega
      · unfold wdB at h
        exact (of_decide_eq_true h).2 j hj
    · unfold wdB at h
      obtain ⟨h1, h2⟩ := of_decide_eq_true h
      have hL := h2 (e - 1 - f) (by omega)
      rw [show f + (e - 1 - f) = e - 1 by omega] at hL
      have n1 : la ty (e - 1) ≠ 35 := fun z => by rw [z] at hL; revert hL; decide
      have n2 : la ty (e - 1) ≠ 42 := fun z => by rw [z] at hL; revert hL; decide
      rw [decide_eq_false n1, decide_eq_false n2, if_neg (fun z => z.elim n1 n2)]
      refine ⟨by rw [sb_len]; omega, fun z => (by cases z), fun _ _ => by rw [sb_len]; omega, fun j hj => ?_⟩
      rw [sb_len] at hj
      rw [la_sb hj]
      exact h2 j hj
theorem iK_it {ty : List Int32} (h20 : ty.length ≤ 20) : ∀ (i : Nat) (v : Nat × Nat), i ≤ ty.length + 1 → pK ty i = some v → ∀ it ∈ (iK ty i).1, isIt it
  | 0, v, _, h, it, hit => by simp [iK] at hit
  | i + 1, v, hi, h, it, hit => by
    simp only [pK] at h
    simp only [iK] at hit
    cases e : pK ty i with
    | none => rw [e] at h; cases h
    | some w =>
      obtain ⟨q1, q2⟩ := iK_pK i w e
      rw [e] at h
      simp only at h
      split at h
      · rename_i hs
        split at h
        · rename_i hb
          rw [if_pos hs] at hit
          rcases List.mem_append.mp hit with h9 | h9
          · exact iK_it h20 i w (by omega) e it h9
          · rw [List.mem_singleton.mp h9, q1]
            exact isIt_itO hb (by omega)
        · cases h
      · rename_i hs
        rw [if_neg hs] at hit
        exact iK_it h20 i w (by omega) e it hit
theorem isPat_ok {ty : List Int32} (h20 : ty.length ≤ 20) (h : isPat ty = true) : 1 ≤ (iK ty (ty.length + 1)).1.length ∧ (iK ty (ty.length + 1)).1.length ≤ 3 ∧ ∀ it ∈ (iK ty (ty.length + 1)).1, isIt it := by
  unfold isPat at h
  cases e : pK ty (ty.length + 1) with
  | none => rw [e] at h; cases h
  | some v =>
    rw [e] at h
    have hv := of_decide_eq_true h
    refine ⟨?_, by rw [(iK_pK _ v e).2]; exact hv, iK_it h20 _ v (Nat.le_refl _) e⟩
    simp only [iK]
    rw [if_pos (show sepB ty ty.length = true by unfold sepB; rw [decide_eq_true rfl]; rfl)]
    rw [List.length_append, List.length_singleton]
    omega
theorem isWd_ok {ty : List Int32} {f e : Nat} (he : e ≤ 20) (h : wdB ty f e = true) : isWd (sb ty f e) := by
  unfold wdB at h
  obtain ⟨h1, h2⟩ := of_decide_eq_true h
  refine ⟨by rw [sb_len]; omega, by rw [sb_len]; omega, fun j hj => ?_⟩
  rw [sb_len] at hj
  rw [la_sb hj]
  exact h2 j hj
theorem isGs_ok {ty : List Int32} (h20 : ty.length ≤ 20) (h : isSg ty = true) : isGs ty := by
  unfold isSg at h
  obtain ⟨h1, h2, h3⟩ := of_decide_eq_true h
  have two : ∀ i j, i < j → j < ty.length → la ty i = 42 → la ty j = 42 → False := by
    intro i j hij hj e1 e2
    rw [← List.take_append_drop (i + 1) ty, List.countP_append] at h2
    have a1 : 0 < (ty.take (i + 1)).countP (fun v => decide (v = 42)) := List.countP_pos_iff.mpr ⟨la ty i, by
      rw [la_lt (by omega)]
      exact List.mem_take_iff_getElem.mpr ⟨i, by omega, rfl⟩, decide_eq_true e1⟩
    have a2 : 0 < (ty.drop (i + 1)).countP (fun v => decide (v = 42)) := List.countP_pos_iff.mpr ⟨la ty j, by
      rw [la_lt hj]
      exact List.mem_drop_iff_getElem.mpr ⟨j - (i + 1), by omega, by congr 1; omega⟩, decide_eq_true e2⟩
    omega
  refine ⟨h1, h20, fun j hj => ?_, fun i j hi hj e1 e2 => ?_⟩
  · rcases h3 j hj with h | h | h | h
    · exact Or.inr (Or.inr (Or.inr h))
    · exact Or.inl h
    · exact Or.inr (Or.inl h)
    · exact Or.inr (Or.inr (Or.inl h))
  · rcases Nat.lt_trichotomy i j with h | h | h
    · exact absurd (two i j h hj e1 e2) id
    · exact h
    · exact absurd (two j i h hi e2 e1) id
section
variable {T : St}
theorem wf_rule {c b n : Int32} {r : St × Int32} (hw : wf T) (h : a_rule T c b n = .inl r) : wf r.1 := by
  unfold a_rule at h
  cases h1 : ix n 10 with
  | none => rw [h1] at h; cases h
  | some v =>
    rw [h1] at h
    simp only at h
    split at h
    · rename_i hc
      split at h
      · rename_i hp
        split at h
        · rename_i h12
          cases h
          obtain ⟨hv, -⟩ := ix_some (by decide) h1
          obtain ⟨p1, p2, p3⟩ := isPat_ok hw.1.1 hp
          obtain ⟨w7, w8⟩ := hw.2.2.2.2.2.2.1
          refine (hw.ru (ru := T.2.2.2.2.1 ++ [((iK T.1 (T.1.length + 1)).1, c, decide (b = 1), v, [], [])]) ⟨by rw [List.length_append]; exact h12, fun j u hu => ?_⟩ (fun j u hu => ?_)).told
          · rcases List.mem_append.mp (List.mem_of_getElem? hu) with h9 | h9
            · obtain ⟨i, hi⟩ := List.getElem?_of_mem h9
              exact w8 i u hi
            · rw [List.mem_singleton.mp h9]
              exact ⟨p1, p2, hc.2, by simp only; omega, Nat.zero_le _, Nat.zero_le _⟩
          · rcases List.mem_append.mp (List.mem_of_getElem? hu) with h9 | h9
            · obtain ⟨i, hi⟩ := List.getElem?_of_mem h9
              exact hw.2.2.2.2.2.2.2.1 i u hi
            · rw [List.mem_singleton.mp h9]
              exact ⟨hc.1, p3, fun l hl => by simp at hl, fun l hl => by simp at hl⟩
        · cases h
      · cases h
    · cases h
theorem wf_except {q : Int32} {r : St × Int32} (hw : wf T) (h : a_except T q = .inl r) : wf r.1 := by
  unfold a_except at h
  cases h1 : ix q T.2.2.2.2.1.length with
  | none => rw [h1] at h; cases h
  | some q0 =>
    rw [h1] at h
    simp only at h
    cases h2 : T.2.2.2.2.1[q0]? with
    | none => rw [h2] at h; cases h
    | some v =>
      rw [h2] at h
      simp only at h
      split at h
      · rename_i hp
        split at h
        · rename_i h3
          cases h
          have hq := isWd_ok hw.1.1 hp
          rw [sb_all] at hq
          obtain ⟨w7, w8⟩ := hw.2.2.2.2.2.2.1
          obtain ⟨a1, a2, a3, a4, a5, a6⟩ := w8 q0 v h2
          obtain ⟨b1, b2, b3, b4⟩ := hw.2.2.2.2.2.2.2.1 q0 v h2
          refine (hw.ru (ru := T.2.2.2.2.1.set q0 (uEx v T.1)) ⟨by rw [List.length_set]; exact w7, fun j u hu => ?_⟩ (fun j u hu => ?_)).told
          · rcases List.mem_or_eq_of_mem_set (List.mem_of_getElem? hu) with h9 | h9
            · obtain ⟨i, hi⟩ := List.getElem?_of_mem h9
              exact w8 i u hi
            · rw [h9]
              exact ⟨a1, a2, a3, a4, by show (v.2.2.2.2.1 ++ [T.1]).length ≤ 3; rw [List.length_append]; exact h3, a6⟩
          · rcases List.mem_or_eq_of_mem_set (List.mem_of_getElem? hu) with h9 | h9
            · obtain ⟨i, hi⟩ := List.getElem?_of_mem h9
              exact hw.2.2.2.2.2.2.2.1 i u hi
            · rw [h9]
              refine ⟨b1, b2, fun l hl => ?_, b4⟩
              rcases List.mem_append.mp hl with h9 | h9
              · exact b3 l h9
              · rw [List.mem_singleton.mp h9]; exact hq
        · cases h
      · cases h
theorem wf_suggest {q : Int32} {r : St × Int32} (hw : wf T) (h : a_suggest T q = .inl r) : wf r.1 := by
  unfold a_suggest at h
  cases h1 : ix q T.2.2.2.2.1.length with
  | none => rw [h1] at h; cases h
  | some q0 =>
    rw [h1] at h
    simp only at h
    cases h2 : T.2.2.2.2.1[q0]? with
    | none => rw [h2] at h; cases h
    | some v =>
      rw [h2] at h
      simp only at h
      split at h
      · rename_i hp
        split at h
        · rename_i h3
          cases h
          have hq := isGs_ok hw.1.1 hp
          obtain ⟨w7, w8⟩ := hw.2.2.2.2.2.2.1
          obtain ⟨a1, a2, a3, a4, a5, a6⟩ := w8 q0 v h2
          obtain ⟨b1, b2, b3, b4⟩ := hw.2.2.2.2.2.2.2.1 q0 v h2
          refine (hw.ru (ru := T.2.2.2.2.1.set q0 (uSu v T.1)) ⟨by rw [List.length_set]; exact w7, fun j u hu => ?_⟩ (fun j u hu => ?_)).told
          · rcases List.mem_or_eq_of_mem_set (List.mem_of_getElem? hu) with h9 | h9
            · obtain ⟨i, hi⟩ := List.getElem?_of_mem h9
              exact w8 i u hi
            · rw [h9]
              exact ⟨a1, a2, a3, a4, a5, by show (v.2.2.2.2.2 ++ [T.1]).length ≤ 2; rw [List.length_append]; exact h3⟩
          · rcases List.mem_or_eq_of_mem_set (List.mem_of_getElem? hu) with h9 | h9
            · obtain ⟨i, hi⟩ := List.getElem?_of_mem h9
              exact hw.2.2.2.2.2.2.2.1 i u hi
            · rw [h9]
              refine ⟨b1, b2, b3, fun l hl => ?_⟩
              rcases List.mem_append.mp hl with h9 | h9
              · exact b4 l h9
              · rw [List.mem_singleton.mp h9]; exact hq
        · cases h
      · cases h
theorem wf_pair {r : St × Int32} (hw : wf T) (h : a_pair T = .inl r) : wf r.1 := by
  unfold a_pair at h
  cases h1 : fb T.1 with
  | none => rw [h1] at h; cases h
  | some k =>
    rw [h1] at h
    simp only at h
    split at h
    · rename_i hp
      split at h
      · cases h
      · rename_i hne
        split at h
        · rename_i h4
          cases h
          have hk : k ≤ 20 := by
            unfold fb at h1
            have := List.mem_of_find?_eq_some h1
            have := List.mem_range.mp this
            have := hw.1.1
            omega
          have q1 := isWd_ok hk hp.1
          have q2 := isWd_ok hw.1.1 hp.2
          obtain ⟨w1, w2, w3, w4, w5, w6, w7, w8, w9, w10, w11⟩ := hw
          refine wf.told ⟨w1, w2, w3, w4, w5, w6, w7, w8, by rw [List.length_append]; exact h4, fun p hp => ?_, w11⟩
          rcases List.mem_append.mp hp with h9 | h9
          · exact w10 p h9
          · rw [List.mem_singleton.mp h9]; exact ⟨q1, q2, hne⟩
        · cases h
    · cases h
theorem wf_apply {p i s w : Int32} {r : St × Int32} (hw : wf T) (hs : ∀ d, d < 4 → ∃ TN, iS T d TN) (h : a_apply T p i s w = .inl r) : wf r.1 := by
  unfold a_apply at h
  cases h1 : ix p 4 with
  | none => rw [h1] at h; cases h
  | some d =>
    rw [h1] at h
    simp only at h
    cases h2 : ix w 4 with
    | none => rw [h2] at h; cases h
    | some v =>
      rw [h2] at h
      simp only at h
      cases h3 : ix i (fL T d).length with
      | none => rw [h3] at h; cases h
      | some q =>
        rw [h3] at h
        simp only at h
        cases h4 : ix s (sgN T (gp (fL T d) q).2) with
        | none => rw [h4] at h; cases h
        | some k =>
          rw [h4] at h
          simp only at h
          split at h
          · rename_i h160
            cases h
            obtain ⟨hd, -⟩ := ix_some (by decide) h1
            obtain ⟨hv, -⟩ := ix_some (by decide) h2
            obtain ⟨TN, hTN⟩ := hs d hd
            obtain ⟨hl, -⟩ := ix_some (by have := fL_len hw hd hTN; omega) h3
            have hok := fL_ok hw hd hTN (gp_mem hl)
            have hsn : sgN T (gp (fL T d) q).2 ≤ 2 := by
              unfold sgN
              cases e : T.2.2.2.2.1[(gp (fL T d) q).2]? with
              | none => simp only; split <;> omega
              | some v => exact (hw.2.2.2.2.2.2.1.2 _ v e).2.2.2.2.2
            obtain ⟨hk, -⟩ := ix_some (by omega) h4
            obtain ⟨o1, o2⟩ := tkN_ok hw (f := fO T (gp (fL T d) q)) (lO T (gp (fL T d) q)) (by omega)
            exact (ptN_ok o1 hv (sugL_tx hw hk) (by omega) (by omega) _ (Nat.le_refl _)).1
          · cases h
end
