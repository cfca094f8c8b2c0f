/-! every answer's state is well formed -/
theorem wf_T0 : wf T0 := by
  refine ⟨⟨Nat.zero_le _, fun j hj => absurd hj (Nat.not_lt_zero _)⟩, Nat.zero_le _, fun j hj => absurd hj (Nat.not_lt_zero _), rfl, fun j hj => absurd hj (Nat.not_lt_zero _), rfl, ⟨Nat.zero_le _, fun j v hv => by simp [T0] at hv⟩, fun j v hv => by simp [T0] at hv, Nat.zero_le _, fun p hp => by simp [T0] at hp, fun d hd => ⟨⟨rfl, fun j v hv => ?_, Nat.zero_le _, Nat.zero_le _, fun j g hg => by simp [T0] at hg, fun r h1 h2 => tb_0 r⟩, fun g hg => by simp [T0] at hg⟩⟩
  have : v ∈ List.replicate 12 0 := List.mem_of_getElem? hv
  rw [(List.mem_replicate.mp this).2]
  exact Nat.zero_le _
section
variable {T : St}
theorem wf.t (hw : wf T) {ty : List Int32} (h1 : ty.length ≤ 20) (h2 : ∀ j, j < ty.length → tyS (la ty j) = true) : wf (ty, T.2) := ⟨⟨h1, h2⟩, hw.2⟩
theorem wf.m (hw : wf T) {m : List Int32} (h : m.length = T.2.2.2.1.length) : wf (T.1, T.2.1, T.2.2.1, m, T.2.2.2.2) := ⟨hw.1, hw.2.1, hw.2.2.1, hw.2.2.2.1, hw.2.2.2.2.1, h.trans hw.2.2.2.2.2.1, hw.2.2.2.2.2.2⟩
theorem wf.mk (hw : wf T) (v : Int32) : wf (uMk T v) := hw.m (List.length_map _)
theorem wf.wipe (hw : wf T) : wf (uWipe T) := hw.t (Nat.zero_le _) (fun j hj => absurd hj (Nat.not_lt_zero _))
theorem wf.told (hw : wf T) : wf (uTold T) := hw.wipe.mk 15
theorem wf.ds (hw : wf T) {d : Nat} {k : Dk} (h : wD k) (h2 : ∀ g ∈ k.2.2.2, g.2.1 + g.2.2 ≤ T.2.1.length) : wf (uDs T d k) := by
  obtain ⟨w1, w2, w3, w4, w5, w6, w7, w8, w9, w10, w11⟩ := hw
  refine ⟨w1, w2, w3, w4, w5, w6, w7, w8, w9, w10, fun e he => ?_⟩
  show wD (if e = d then k else _) ∧ ∀ g ∈ (if e = d then k else T.2.2.2.2.2.2 e).2.2.2, _
  by_cases h9 : e = d
  · rw [if_pos h9]; exact ⟨h, h2⟩
  · rw [if_neg h9]; exact w11 e he
theorem wf.ru (hw : wf T) {ru : List Rv} (h7 : wR ru) (h8 : ∀ (r : Nat) (v : Rv), ru[r]? = some v → (v.2.1 = 97 ∨ v.2.1 = 115 ∨ v.2.1 = 109) ∧ (∀ it ∈ v.1, isIt it) ∧ (∀ l ∈ v.2.2.2.2.1, isWd l) ∧ ∀ l ∈ v.2.2.2.2.2, isGs l) : wf (uRu T ru) := by
  obtain ⟨w1, w2, w3, w4, w5, w6, -, -, w9, w10, w11⟩ := hw
  exact ⟨w1, w2, w3, w4, w5, w6, h7, h8, w9, w10, w11⟩
theorem wf_type {c : Int32} {r : St × Int32} (hw : wf T) (h : a_type T c = .inl r) : wf r.1 := by
  unfold a_type at h
  split at h
  · split at h
    · cases h
      rename_i h1 h2
      refine hw.t (by rw [List.length_append]; exact h2) (fun j hj => ?_)
      rw [List.length_append] at hj
      rw [la_append]
      split
      · exact hw.1.2 j (by assumption)
      · have : j - T.1.length = 0 := by simp at hj; omega
        rw [this]; exact h1
    · cases h
  · cases h
theorem wf_use {p q b : Int32} {r : St × Int32} (hw : wf T) (h : a_use T p q b = .inl r) : wf r.1 := by
  unfold a_use at h
  cases h1 : ix q T.2.2.2.2.1.length with
  | none => rw [h1] at h; cases h
  | some q0 =>
    cases h2 : ix p 4 with
    | none => rw [h1, h2] at h; cases h
    | some d =>
      rw [h1, h2] at h
      cases h
      have hr := hw.2.2.2.2.2.2.1.1
      obtain ⟨hq, -⟩ := ix_some (by omega) h1
      obtain ⟨hd, -⟩ := ix_some (by decide) h2
      obtain ⟨⟨a1, a2, a3, a4, a5, a6⟩, a7⟩ := hw.2.2.2.2.2.2.2.2.2.2 d hd
      refine (hw.ds (k := ((T.2.2.2.2.2.2 d).1, (if b = 0 then (T.2.2.2.2.2.2 d).2.1 ||| mk q0 else (T.2.2.2.2.2.2 d).2.1 &&& (mk q0 ^^^ (-1))), (T.2.2.2.2.2.2 d).2.2)) ⟨a1, a2, a3, a4, a5, fun j h3 h4 => ?_⟩ a7).mk (mk d)
      show tb (if b = 0 then _ else _) j = false
      split
      · rw [tb_or h4, a6 j h3 h4, tb_mk (by omega) h4, decide_eq_false (by omega)]; rfl
      · rw [tb_and h4, a6 j h3 h4]; rfl
theorem wf_rank {p q n : Int32} {r : St × Int32} (hw : wf T) (h : a_rank T p q n = .inl r) : wf r.1 := by
  unfold a_rank at h
  cases h1 : ix q T.2.2.2.2.1.length with
  | none => rw [h1] at h; cases h
  | some q0 =>
    cases h2 : ix p 4 with
    | none => rw [h1, h2] at h; cases h
    | some d =>
      cases h3 : ix n 10 with
      | none => rw [h1, h2, h3] at h; cases h
      | some v =>
        rw [h1, h2, h3] at h
        cases h
        obtain ⟨hd, -⟩ := ix_some (by decide) h2
        obtain ⟨hv, -⟩ := ix_some (by decide) h3
        obtain ⟨⟨a1, a2, a3, a4, a5, a6⟩, a7⟩ := hw.2.2.2.2.2.2.2.2.2.2 d hd
        refine (hw.ds (k := ((T.2.2.2.2.2.2 d).1.set q0 v, (T.2.2.2.2.2.2 d).2)) ⟨by rw [List.length_set]; exact a1, fun j u hu => ?_, a3, a4, a5, a6⟩ a7).mk (mk d)
        rcases List.mem_or_eq_of_mem_set (List.mem_of_getElem? hu) with h9 | h9
        · obtain ⟨i, hi⟩ := List.getElem?_of_mem h9
          exact a2 i u hi
        · omega
theorem wf_limit {p n : Int32} {r : St × Int32} (hw : wf T) (h : a_limit T p n = .inl r) : wf r.1 := by
  unfold a_limit at h
  cases h2 : ix p 4 with
  | none => rw [h2] at h; cases h
  | some d =>
    cases h3 : ix n 21 with
    | none => rw [h2, h3] at h; cases h
    | some v =>
      rw [h2, h3] at h
      cases h
      obtain ⟨hd, -⟩ := ix_some (by decide) h2
      obtain ⟨hv, -⟩ := ix_some (by decide) h3
      obtain ⟨⟨a1, a2, a3, a4, a5, a6⟩, a7⟩ := hw.2.2.2.2.2.2.2.2.2.2 d hd
      exact (hw.ds (k := ((T.2.2.2.2.2.2 d).1, (T.2.2.2.2.2.2 d).2.1, v, (T.2.2.2.2.2.2 d).2.2.2)) ⟨a1, a2, by simp only; omega, a4, a5, a6⟩ a7).mk (mk d)
theorem wf_heed {p : Int32} {r : St × Int32} (hw : wf T) (h : a_heed T p = .inl r) : wf r.1 := by
  unfold a_heed at h
  cases h2 : ix p 4 with
  | none => rw [h2] at h; cases h
  | some d =>
    rw [h2] at h
    cases h
    obtain ⟨hd, -⟩ := ix_some (by decide) h2
    obtain ⟨⟨a1, a2, a3, a4, a5, a6⟩, a7⟩ := hw.2.2.2.2.2.2.2.2.2.2 d hd
    exact hw.ds (k := uG (T.2.2.2.2.2.2 d) []) ⟨a1, a2, a3, Nat.zero_le _, fun j g hg => by simp [uG] at hg, a6⟩ (fun g hg => by simp [uG] at hg)
theorem wf_check {p : Int32} {r : St × Int32} (hw : wf T) (h : a_check T p = .inl r) : wf r.1 := by
  unfold a_check at h
  cases h2 : ix p 4 with
  | none => rw [h2] at h; cases h
  | some d =>
    rw [h2] at h
    cases h
    exact hw.m (List.length_map _)
theorem fL_len {d : Nat} {TN : List Nat} (hw : wf T) (hd : d < 4) (h : iS T d TN) : (fL T d).length ≤ 160 := by
  unfold fL
  rw [sl_eq hw hd h]
  have h1 := tlk_len TN TN.length
  have h2 := h.1
  have h3 := (tsO_wT hw.2.1).1
  have h4 := hw.2.1
  omega
theorem wf_ignore {p i : Int32} {r : St × Int32} (hw : wf T) (hs : ∀ d, d < 4 → ∃ TN, iS T d TN) (h : a_ignore T p i = .inl r) : wf r.1 := by
  unfold a_ignore at h
  cases h2 : ix p 4 with
  | none => rw [h2] at h; cases h
  | some d =>
    rw [h2] at h
    simp only at h
    cases h3 : ix i (fL T d).length with
    | none => rw [h3] at h; cases h
    | some q =>
      rw [h3] at h
      simp only at h
      split at h
      · cases h
        rename_i h20
        obtain ⟨hd, -⟩ := ix_some (by decide) h2
        obtain ⟨TN, hTN⟩ := hs d hd
        obtain ⟨hl, -⟩ := ix_some (by have := fL_len hw hd hTN; omega) h3
        obtain ⟨-, -, -, k1, k2, -⟩ := fL_ok hw hd hTN (gp_mem hl)
        have hw2 := hw.2.1
        obtain ⟨⟨a1, a2, a3, a4, a5, a6⟩, a7⟩ := hw.2.2.2.2.2.2.2.2.2.2 d hd
        refine hw.ds (k := uG _ _) ⟨a1, a2, a3, ?_, fun j g hg => ?_, a6⟩ (fun g hg => ?_)
        · show ((T.2.2.2.2.2.2 d).2.2.2 ++ [_]).length ≤ 20
          rw [List.length_append]; exact h20
        · rcases List.mem_append.mp (List.mem_of_getElem? hg) with h9 | h9
          · obtain ⟨i, hi⟩ := List.getElem?_of_mem h9
            exact a5 i g hi
          · rw [List.mem_singleton.mp h9]
            exact ⟨k1, by simp only; omega, by simp only; omega⟩
        · rcases List.mem_append.mp hg with h9 | h9
          · exact a7 g h9
          · rw [List.mem_singleton.mp h9]; exact k2
      · cases h
end
