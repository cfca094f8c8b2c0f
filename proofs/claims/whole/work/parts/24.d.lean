theorem wf_putA {T : St} {p c w : Int32} {r : St × Int32} (hw : wf T) (h : a_put T p c w = .inl r) : wf r.1 := by
  unfold a_put at h
  split at h
  · cases h
  · rename_i q hq
    split at h
    · rename_i h1
      split at h
      · rename_i h2
        have hl := hw.2.1
        obtain ⟨hp, -⟩ := ix_some (by omega) hq
        obtain ⟨v, hv⟩ := Option.isSome_iff_exists.mp h1.2
        obtain ⟨hv4, rfl⟩ := ix_some (by decide) hv
        cases h
        exact wf_put hw (by omega) h2 h1.1 hv4
      · cases h
    · cases h
theorem wf_takeA {T : St} {p : Int32} {r : St × Int32} (hw : wf T) (h : a_take T p = .inl r) : wf r.1 := by
  unfold a_take at h
  split at h
  · cases h
  · rename_i q hq
    have hl := hw.2.1
    obtain ⟨hp, -⟩ := ix_some (by omega) hq
    cases h
    exact wf_take hw hp
theorem v_use {T : St} {p q b : Int32} {v : St × Int32} (h : a_use T p q b = .inl v) : v.2 = 0 ∨ v.2 = 1 := by
  unfold a_use at h
  (repeat' split at h) <;> first | (cases h; done) | (cases h; exact bi_01 _) | (cases h; simp; done)
theorem k_type {T : St} {p1 : Int32} {k : Nat} (h : a_type T p1 = .inr k) : k = 1 ∨ k = 2 := by
  unfold a_type at h
  (repeat' split at h) <;> first | (cases h; done) | (cases h; simp; done) | (simp at h; done) | (simp at h; omega)
theorem op_type {P : PS} {x : Nat} {T : St} (h : lP P x T) (p1 : Int32) : ∃ r, f_X9_type P x p1 = some r ∧ tieW x T r (fun Q => f_X10_type Q (x + 79) p1) (fun k => if k = 1 then 1 else 2) ∧ (∀ u, r = .inr u → u.2 = 1 ∨ u.2 = 2) ∧ ∀ u, r = .inl u → ∃ T', a_type T p1 = .inl (T', u.2) := by
  obtain ⟨r, e1, e2, e3, e4⟩ := tie_w (o := f_X9_type P x p1) (e := a_type T p1) (f := fun Q => f_X10_type Q (x + 79) p1) (co := (fun k => if k = 1 then 1 else 2)) h ((ci_type h.2.1 h.2.2.2.1 p1).x h.1) (fun r hr => wf_type h.2.2.2.1 hr) (fun k hk => by rcases k_type hk with rfl | rfl <;> exact ⟨by decide +kernel, by decide +kernel⟩) (fun S1 J1 G hm hG => mx_type hm hG h.2.2.2.1 p1)
  exact ⟨r, e1, e2, fun u hu => k_type (e3 u hu), e4⟩
theorem k_put {T : St} {p1 p2 p3 : Int32} {k : Nat} (h : a_put T p1 p2 p3 = .inr k) : k = 3 ∨ k = 1 ∨ k = 2 := by
  unfold a_put at h
  (repeat' split at h) <;> first | (cases h; done) | (cases h; simp; done) | (simp at h; done) | (simp at h; omega)
theorem op_put {P : PS} {x : Nat} {T : St} (h : lP P x T) (p1 p2 p3 : Int32) : ∃ r, f_X9_put P x p1 p2 p3 = some r ∧ tieW x T r (fun Q => f_X10_put Q (x + 79) p1 p2 p3) (fun k => if k = 3 then 1 else if k = 1 then 2 else 3) ∧ (∀ u, r = .inr u → u.2 = 3 ∨ u.2 = 1 ∨ u.2 = 2) ∧ ∀ u, r = .inl u → ∃ T', a_put T p1 p2 p3 = .inl (T', u.2) := by
  obtain ⟨r, e1, e2, e3, e4⟩ := tie_w (o := f_X9_put P x p1 p2 p3) (e := a_put T p1 p2 p3) (f := fun Q => f_X10_put Q (x + 79) p1 p2 p3) (co := (fun k => if k = 3 then 1 else if k = 1 then 2 else 3)) h ((ci_put h.2.1 h.2.2.2.1 p1 p2 p3).x h.1) (fun r hr => wf_putA h.2.2.2.1 hr) (fun k hk => by rcases k_put hk with rfl | rfl | rfl <;> exact ⟨by decide +kernel, by decide +kernel⟩) (fun S1 J1 G hm hG => mx_put hm hG h.2.2.2.1 p1 p2 p3)
  exact ⟨r, e1, e2, fun u hu => k_put (e3 u hu), e4⟩
theorem k_take {T : St} {p1 : Int32} {k : Nat} (h : a_take T p1 = .inr k) : k = 3 := by
  unfold a_take at h
  (repeat' split at h) <;> first | (cases h; done) | (cases h; simp; done) | (simp at h; done) | (simp at h; omega)
theorem op_take {P : PS} {x : Nat} {T : St} (h : lP P x T) (p1 : Int32) : ∃ r, f_X9_take P x p1 = some r ∧ tieW x T r (fun Q => f_X10_take Q (x + 79) p1) (fun _ => 1) ∧ (∀ u, r = .inr u → u.2 = 3) ∧ ∀ u, r = .inl u → ∃ T', a_take T p1 = .inl (T', u.2) := by
  obtain ⟨r, e1, e2, e3, e4⟩ := tie_w (o := f_X9_take P x p1) (e := a_take T p1) (f := fun Q => f_X10_take Q (x + 79) p1) (co := (fun _ => 1)) h ((ci_take h.2.1 h.2.2.2.1 p1).x h.1) (fun r hr => wf_takeA h.2.2.2.1 hr) (fun k hk => by rcases k_take hk with rfl <;> exact ⟨by decide +kernel, by decide +kernel⟩) (fun S1 J1 G hm hG => mx_take hm hG h.2.2.2.1 p1)
  exact ⟨r, e1, e2, fun u hu => k_take (e3 u hu), e4⟩
theorem k_at {T : St} {p1 : Int32} {k : Nat} (h : a_at T p1 = .inr k) : k = 3 := by
  unfold a_at at h
  (repeat' split at h) <;> first | (cases h; done) | (cases h; simp; done) | (simp at h; done) | (simp at h; omega)
theorem t_at {T : St} {p1 : Int32} {r : St × Int32} (h : a_at T p1 = .inl r) : r.1 = T := by
  unfold a_at at h
  (repeat' split at h) <;> first | (cases h; done) | (cases h; rfl)
theorem op_at {P : PS} {x : Nat} {T : St} (h : lP P x T) (p1 : Int32) : ∃ r, f_X9_at P x p1 = some r ∧ tieW x T r (fun Q => f_X10_at Q (x + 79) p1) (fun _ => 1) ∧ (∀ u, r = .inr u → u.2 = 3) ∧ ∀ u, r = .inl u → ∃ T', a_at T p1 = .inl (T', u.2) := by
  obtain ⟨r, e1, e2, e3, e4⟩ := tie_w (o := f_X9_at P x p1) (e := a_at T p1) (f := fun Q => f_X10_at Q (x + 79) p1) (co := (fun _ => 1)) h ((ci_at h.2.1 h.2.2.2.1 p1).x h.1) (fun r hr => by rw [t_at hr]; exact h.2.2.2.1) (fun k hk => by rcases k_at hk with rfl <;> exact ⟨by decide +kernel, by decide +kernel⟩) (fun S1 J1 G hm hG => mx_at hm hG h.2.2.2.1 p1)
  exact ⟨r, e1, e2, fun u hu => k_at (e3 u hu), e4⟩
theorem k_rule {T : St} {p1 p2 p3 : Int32} {k : Nat} (h : a_rule T p1 p2 p3 = .inr k) : k = 1 ∨ k = 4 ∨ k = 2 := by
  unfold a_rule at h
  (repeat' split at h) <;> first | (cases h; done) | (cases h; simp; done) | (simp at h; done) | (simp at h; omega)
theorem op_rule {P : PS} {x : Nat} {T : St} (h : lP P x T) (p1 p2 p3 : Int32) (hb : p2 = 0 ∨ p2 = 1) : ∃ r, f_X9_rule P x p1 p2 p3 = some r ∧ tieW x T r (fun Q => f_X10_rule Q (x + 79) p1 p2 p3) (fun k => if k = 1 then 1 else if k = 4 then 2 else 3) ∧ (∀ u, r = .inr u → u.2 = 1 ∨ u.2 = 4 ∨ u.2 = 2) ∧ ∀ u, r = .inl u → ∃ T', a_rule T p1 p2 p3 = .inl (T', u.2) := by
  obtain ⟨r, e1, e2, e3, e4⟩ := tie_w (o := f_X9_rule P x p1 p2 p3) (e := a_rule T p1 p2 p3) (f := fun Q => f_X10_rule Q (x + 79) p1 p2 p3) (co := (fun k => if k = 1 then 1 else if k = 4 then 2 else 3)) h (ci_rule h.1 h.2.1 h.2.2.2.1 p1 p2 p3 hb) (fun r hr => wf_rule h.2.2.2.1 hr) (fun k hk => by rcases k_rule hk with rfl | rfl | rfl <;> exact ⟨by decide +kernel, by decide +kernel⟩) (fun S1 J1 G hm hG => mx_rule hm hG h.2.2.2.1 p1 p2 p3 hb)
  exact ⟨r, e1, e2, fun u hu => k_rule (e3 u hu), e4⟩
theorem k_except {T : St} {p1 : Int32} {k : Nat} (h : a_except T p1 = .inr k) : k = 3 ∨ k = 4 ∨ k = 2 := by
  unfold a_except at h
  (repeat' split at h) <;> first | (cases h; done) | (cases h; simp; done) | (simp at h; done) | (simp at h; omega)
theorem op_except {P : PS} {x : Nat} {T : St} (h : lP P x T) (p1 : Int32) : ∃ r, f_X9_except P x p1 = some r ∧ tieW x T r (fun Q => f_X10_except Q (x + 79) p1) (fun k => if k = 3 then 1 else if k = 4 then 2 else 3) ∧ (∀ u, r = .inr u → u.2 = 3 ∨ u.2 = 4 ∨ u.2 = 2) ∧ ∀ u, r = .inl u → ∃ T', a_except T p1 = .inl (T', u.2) := by
  obtain ⟨r, e1, e2, e3, e4⟩ := tie_w (o := f_X9_except P x p1) (e := a_except T p1) (f := fun Q => f_X10_except Q (x + 79) p1) (co := (fun k => if k = 3 then 1 else if k = 4 then 2 else 3)) h (ci_except h.1 h.2.1 h.2.2.2.1 p1) (fun r hr => wf_except h.2.2.2.1 hr) (fun k hk => by rcases k_except hk with rfl | rfl | rfl <;> exact ⟨by decide +kernel, by decide +kernel⟩) (fun S1 J1 G hm hG => mx_except hm hG h.2.2.2.1 p1)
  exact ⟨r, e1, e2, fun u hu => k_except (e3 u hu), e4⟩
theorem k_suggest {T : St} {p1 : Int32} {k : Nat} (h : a_suggest T p1 = .inr k) : k = 3 ∨ k = 4 ∨ k = 2 := by
  unfold a_suggest at h
  (repeat' split at h) <;> first | (cases h; done) | (cases h; simp; done) | (simp at h; done) | (simp at h; omega)
theorem op_suggest {P : PS} {x : Nat} {T : St} (h : lP P x T) (p1 : Int32) : ∃ r, f_X9_suggest P x p1 = some r ∧ tieW x T r (fun Q => f_X10_suggest Q (x + 79) p1) (fun k => if k = 3 then 1 else if k = 4 then 2 else 3) ∧ (∀ u, r = .inr u → u.2 = 3 ∨ u.2 = 4 ∨ u.2 = 2) ∧ ∀ u, r = .inl u → ∃ T', a_suggest T p1 = .inl (T', u.2) := by
  obtain ⟨r, e1, e2, e3, e4⟩ := tie_w (o := f_X9_suggest P x p1) (e := a_suggest T p1) (f := fun Q => f_X10_suggest Q (x + 79) p1) (co := (fun k => if k = 3 then 1 else if k = 4 then 2 else 3)) h (ci_suggest h.1 h.2.1 h.2.2.2.1 p1) (fun r hr => wf_suggest h.2.2.2.1 hr) (fun k hk => by rcases k_suggest hk with rfl | rfl | rfl <;> exact ⟨by decide +kernel, by decide +kernel⟩) (fun S1 J1 G hm hG => mx_suggest hm hG h.2.2.2.1 p1)
  exact ⟨r, e1, e2, fun u hu => k_suggest (e3 u hu), e4⟩
theorem k_pair {T : St} {k : Nat} (h : a_pair T = .inr k) : k = 4 ∨ k = 2 := by
  unfold a_pair at h
  (repeat' split at h) <;> first | (cases h; done) | (cases h; simp; done) | (simp at h; done) | (simp at h; omega)
theorem op_pair {P : PS} {x : Nat} {T : St} (h : lP P x T) : ∃ r, f_X9_pair P x = some r ∧ tieW x T r (fun Q => f_X10_pair Q (x + 79)) (fun k => if k = 4 then 1 else 2) ∧ (∀ u, r = .inr u → u.2 = 4 ∨ u.2 = 2) ∧ ∀ u, r = .inl u → ∃ T', a_pair T = .inl (T', u.2) := by
  obtain ⟨r, e1, e2, e3, e4⟩ := tie_w (o := f_X9_pair P x) (e := a_pair T) (f := fun Q => f_X10_pair Q (x + 79)) (co := (fun k => if k = 4 then 1 else 2)) h (ci_pair h.1 h.2.1 h.2.2.2.1) (fun r hr => wf_pair h.2.2.2.1 hr) (fun k hk => by rcases k_pair hk with rfl | rfl <;> exact ⟨by decide +kernel, by decide +kernel⟩) (fun S1 J1 G hm hG => mx_pair hm hG h.2.2.2.1)
  exact ⟨r, e1, e2, fun u hu => k_pair (e3 u hu), e4⟩
theorem k_use {T : St} {p1 p2 p3 : Int32} {k : Nat} (h : a_use T p1 p2 p3 = .inr k) : k = 3 ∨ k = 1 := by
  unfold a_use at h
  (repeat' split at h) <;> first | (cases h; done) | (cases h; simp; done) | (simp at h; done) | (simp at h; omega)
theorem op_use {P : PS} {x : Nat} {T : St} (h : lP P x T) (p1 p2 p3 : Int32) : ∃ r, f_X9_use P x p1 p2 p3 = some r ∧ tieW x T r (fun Q => f_X10_use Q (x + 79) p1 p2 p3) (fun k => if k = 3 then 1 else 2) ∧ (∀ u, r = .inr u → u.2 = 3 ∨ u.2 = 1) ∧ ∀ u, r = .inl u → ∃ T', a_use T p1 p2 p3 = .inl (T', u.2) := by
  obtain ⟨r, e1, e2, e3, e4⟩ := tie_w (o := f_X9_use P x p1 p2 p3) (e := a_use T p1 p2 p3) (f := fun Q => f_X10_use Q (x + 79) p1 p2 p3) (co := (fun k => if k = 3 then 1 else 2)) h ((ci_use h.2.1 h.2.2.2.1 p1 p2 p3).x h.1) (fun r hr => wf_use h.2.2.2.1 hr) (fun k hk => by rcases k_use hk with rfl | rfl <;> exact ⟨by decide +kernel, by decide +kernel⟩) (fun S1 J1 G hm hG => mx_use hm hG h.2.2.2.1 p1 p2 p3)
  exact ⟨r, e1, e2, fun u hu => k_use (e3 u hu), e4⟩
theorem k_rank {T : St} {p1 p2 p3 : Int32} {k : Nat} (h : a_rank T p1 p2 p3 = .inr k) : k = 3 ∨ k = 1 := by
  unfold a_rank at h
  (repeat' split at h) <;> first | (cases h; done) | (cases h; simp; done) | (simp at h; done) | (simp at h; omega)
theorem op_rank {P : PS} {x : Nat} {T : St} (h : lP P x T) (p1 p2 p3 : Int32) : ∃ r, f_X9_rank P x p1 p2 p3 = some r ∧ tieW x T r (fun Q => f_X10_rank Q (x + 79) p1 p2 p3) (fun k => if k = 3 then 1 else 2) ∧ (∀ u, r = .inr u → u.2 = 3 ∨ u.2 = 1) ∧ ∀ u, r = .inl u → ∃ T', a_rank T p1 p2 p3 = .inl (T', u.2) := by
  obtain ⟨r, e1, e2, e3, e4⟩ := tie_w (o := f_X9_rank P x p1 p2 p3) (e := a_rank T p1 p2 p3) (f := fun Q => f_X10_rank Q (x + 79) p1 p2 p3) (co := (fun k => if k = 3 then 1 else 2)) h ((ci_rank h.2.1 h.2.2.2.1 p1 p2 p3).x h.1) (fun r hr => wf_rank h.2.2.2.1 hr) (fun k hk => by rcases k_rank hk with rfl | rfl <;> exact ⟨by decide +kernel, by decide +kernel⟩) (fun S1 J1 G hm hG => mx_rank hm hG h.2.2.2.1 p1 p2 p3)
  exact ⟨r, e1, e2, fun u hu => k_rank (e3 u hu), e4⟩
theorem k_limit {T : St} {p1 p2 : Int32} {k : Nat} (h : a_limit T p1 p2 = .inr k) : k = 1 := by
  unfold a_limit at h
  (repeat' split at h) <;> first | (cases h; done) | (cases h; simp; done) | (simp at h; done) | (simp at h; omega)
theorem op_limit {P : PS} {x : Nat} {T : St} (h : lP P x T) (p1 p2 : Int32) : ∃ r, f_X9_limit P x p1 p2 = some r ∧ tieW x T r (fun Q => f_X10_limit Q (x + 79) p1 p2) (fun _ => 1) ∧ (∀ u, r = .inr u → u.2 = 1) ∧ ∀ u, r = .inl u → ∃ T', a_limit T p1 p2 = .inl (T', u.2) := by
  obtain ⟨r, e1, e2, e3, e4⟩ := tie_w (o := f_X9_limit P x p1 p2) (e := a_limit T p1 p2) (f := fun Q => f_X10_limit Q (x + 79) p1 p2) (co := (fun _ => 1)) h ((ci_limit h.2.1 p1 p2).x h.1) (fun r hr => wf_limit h.2.2.2.1 hr) (fun k hk => by rcases k_limit hk with rfl <;> exact ⟨by decide +kernel, by decide +kernel⟩) (fun S1 J1 G hm hG => mx_limit hm hG h.2.2.2.1 p1 p2)
  exact ⟨r, e1, e2, fun u hu => k_limit (e3 u hu), e4⟩
theorem k_findings {T : St} {p1 : Int32} {k : Nat} (h : a_findings T p1 = .inr k) : k = 1 := by
  unfold a_findings at h
  (repeat' split at h) <;> first | (cases h; done) | (cases h; simp; done) | (simp at h; done) | (simp at h; omega)
theorem t_findings {T : St} {p1 : Int32} {r : St × Int32} (h : a_findings T p1 = .inl r) : r.1 = T := by
  unfold a_findings at h
  (repeat' split at h) <;> first | (cases h; done) | (cases h; rfl)
theorem op_findings {P : PS} {x : Nat} {T : St} (h : lP P x T) (p1 : Int32) : ∃ r, f_X9_findings P x p1 = some r ∧ tieW x T r (fun Q => f_X10_findings Q (x + 79) p1) (fun _ => 1) ∧ (∀ u, r = .inr u → u.2 = 1) ∧ ∀ u, r = .inl u → ∃ T', a_findings T p1 = .inl (T', u.2) := by
  obtain ⟨r, e1, e2, e3, e4⟩ := tie_w (o := f_X9_findings P x p1) (e := a_findings T p1) (f := fun Q => f_X10_findings Q (x + 79) p1) (co := (fun _ => 1)) h ((ci_findings h.2.1 h.2.2.2.1 p1).x h.1) (fun r hr => by rw [t_findings hr]; exact h.2.2.2.1) (fun k hk => by rcases k_findings hk with rfl <;> exact ⟨by decide +kernel, by decide +kernel⟩) (fun S1 J1 G hm hG => mx_findings hm hG h.2.2.2.1 h.sols p1)
  exact ⟨r, e1, e2, fun u hu => k_findings (e3 u hu), e4⟩
theorem k_of {T : St} {p1 p2 p3 : Int32} {k : Nat} (h : a_of T p1 p2 p3 = .inr k) : k = 1 ∨ k = 5 := by
  unfold a_of at h
  (repeat' split at h) <;> first | (cases h; done) | (cases h; simp; done) | (simp at h; done) | (simp at h; omega)
theorem t_of {T : St} {p1 p2 p3 : Int32} {r : St × Int32} (h : a_of T p1 p2 p3 = .inl r) : r.1 = T := by
  unfold a_of at h
  (repeat' split at h) <;> first | (cases h; done) | (cases h; rfl)
theorem op_of {P : PS} {x : Nat} {T : St} (h : lP P x T) (p1 p2 p3 : Int32) : ∃ r, f_X9_of P x p1 p2 p3 = some r ∧ tieW x T r (fun Q => f_X10_of Q (x + 79) p1 p2 p3) (fun k => if k = 1 then 1 else 2) ∧ (∀ u, r = .inr u → u.2 = 1 ∨ u.2 = 5) ∧ ∀ u, r = .inl u → ∃ T', a_of T p1 p2 p3 = .inl (T', u.2) := by
  obtain ⟨r, e1, e2, e3, e4⟩ := tie_w (o := f_X9_of P x p1 p2 p3) (e := a_of T p1 p2 p3) (f := fun Q => f_X10_of Q (x + 79) p1 p2 p3) (co := (fun k => if k = 1 then 1 else 2)) h ((ci_of h.2.1 h.2.2.2.1 p1 p2 p3).x h.1) (fun r hr => by rw [t_of hr]; exact h.2.2.2.1) (fun k hk => by rcases k_of hk with rfl | rfl <;> exact ⟨by decide +kernel, by decide +kernel⟩) (fun S1 J1 G hm hG => mx_of hm hG h.2.2.2.1 h.sols p1 p2 p3)
  exact ⟨r, e1, e2, fun u hu => k_of (e3 u hu), e4⟩
theorem k_size {T : St} {p1 p2 p3 : Int32} {k : Nat} (h : a_size T p1 p2 p3 = .inr k) : k = 1 ∨ k = 5 := by
  unfold a_size at h
  (repeat' split at h) <;> first | (cases h; done) | (cases h; simp; done) | (simp at h; done) | (simp at h; omega)
theorem t_size {T : St} {p1 p2 p3 : Int32} {r : St × Int32} (h : a_size T p1 p2 p3 = .inl r) : r.1 = T := by
  unfold a_size at h
  (repeat' split at h) <;> first | (cases h; done) | (cases h; rfl)
theorem op_size {P : PS} {x : Nat} {T : St} (h : lP P x T) (p1 p2 p3 : Int32) : ∃ r, f_X9_size P x p1 p2 p3 = some r ∧ tieW x T r (fun Q => f_X10_size Q (x + 79) p1 p2 p3) (fun k => if k = 1 then 1 else 2) ∧ (∀ u, r = .inr u → u.2 = 1 ∨ u.2 = 5) ∧ ∀ u, r = .inl u → ∃ T', a_size T p1 p2 p3 = .inl (T', u.2) := by
  obtain ⟨r, e1, e2, e3, e4⟩ := tie_w (o := f_X9_size P x p1 p2 p3) (e := a_size T p1 p2 p3) (f := fun Q => f_X10_size Q (x + 79) p1 p2 p3) (co := (fun k => if k = 1 then 1 else 2)) h ((ci_size h.2.1 h.2.2.2.1 p1 p2 p3).x h.1) (fun r hr => by rw [t_size hr]; exact h.2.2.2.1) (fun k hk => by rcases k_size hk with rfl | rfl <;> exact ⟨by decide +kernel, by decide +kernel⟩) (fun S1 J1 G hm hG => mx_size hm hG h.2.2.2.1 h.sols p1 p2 p3)
  exact ⟨r, e1, e2, fun u hu => k_size (e3 u hu), e4⟩
theorem k_sign {T : St} {p1 p2 p3 p4 : Int32} {k : Nat} (h : a_sign T p1 p2 p3 p4 = .inr k) : k = 1 ∨ k = 5 := by
  unfold a_sign at h
  (repeat' split at h) <;> first | (cases h; done) | (cases h; simp; done) | (simp at h; done) | (simp at h; omega)
theorem t_sign {T : St} {p1 p2 p3 p4 : Int32} {r : St × Int32} (h : a_sign T p1 p2 p3 p4 = .inl r) : r.1 = T := by
  unfold a_sign at h
  (repeat' split at h) <;> first | (cases h; done) | (cases h; rfl)
theorem op_sign {P : PS} {x : Nat} {T : St} (h : lP P x T) (p1 p2 p3 p4 : Int32) : ∃ r, f_X9_sign P x p1 p2 p3 p4 = some r ∧ tieW x T r (fun Q => f_X10_sign Q (x + 79) p1 p2 p3 p4) (fun k => if k = 1 then 1 else 2) ∧ (∀ u, r = .inr u → u.2 = 1 ∨ u.2 = 5) ∧ ∀ u, r = .inl u → ∃ T', a_sign T p1 p2 p3 p4 = .inl (T', u.2) := by
  obtain ⟨r, e1, e2, e3, e4⟩ := tie_w (o := f_X9_sign P x p1 p2 p3 p4) (e := a_sign T p1 p2 p3 p4) (f := fun Q => f_X10_sign Q (x + 79) p1 p2 p3 p4) (co := (fun k => if k = 1 then 1 else 2)) h ((ci_sign h.2.1 h.2.2.2.1 p1 p2 p3 p4).x h.1) (fun r hr => by rw [t_sign hr]; exact h.2.2.2.1) (fun k hk => by rcases k_sign hk with rfl | rfl <;> exact ⟨by decide +kernel, by decide +kernel⟩) (fun S1 J1 G hm hG => mx_sign hm hG h.2.2.2.1 h.sols p1 p2 p3 p4)
  exact ⟨r, e1, e2, fun u hu => k_sign (e3 u hu), e4⟩
theorem k_apply {T : St} {p1 p2 p3 p4 : Int32} {k : Nat} (h : a_apply T p1 p2 p3 p4 = .inr k) : k = 1 ∨ k = 5 ∨ k = 2 := by
  unfold a_apply at h
  dsimp only at h
  (repeat' split at h) <;> first | (cases h; done) | (cases h; simp; done) | (simp at h; done) | (simp at h; omega)
theorem op_apply {P : PS} {x : Nat} {T : St} (h : lP P x T) (p1 p2 p3 p4 : Int32) : ∃ r, f_X9_apply P x p1 p2 p3 p4 = some r ∧ tieW x T r (fun Q => f_X10_apply Q (x + 79) p1 p2 p3 p4) (fun k => if k = 1 then 1 else if k = 5 then 2 else 3) ∧ (∀ u, r = .inr u → u.2 = 1 ∨ u.2 = 5 ∨ u.2 = 2) ∧ ∀ u, r = .inl u → ∃ T', a_apply T p1 p2 p3 p4 = .inl (T', u.2) := by
  obtain ⟨r, e1, e2, e3, e4⟩ := tie_w (o := f_X9_apply P x p1 p2 p3 p4) (e := a_apply T p1 p2 p3 p4) (f := fun Q => f_X10_apply Q (x + 79) p1 p2 p3 p4) (co := (fun k => if k = 1 then 1 else if k = 5 then 2 else 3)) h ((ci_apply h.2.1 h.2.2.2.1 p1 p2 p3 p4).x h.1) (fun r hr => wf_apply h.2.2.2.1 h.sols hr) (fun k hk => by rcases k_apply hk with rfl | rfl | rfl <;> exact ⟨by decide +kernel, by decide +kernel⟩) (fun S1 J1 G hm hG => mx_apply hm hG h.2.2.2.1 h.sols p1 p2 p3 p4)
  exact ⟨r, e1, e2, fun u hu => k_apply (e3 u hu), e4⟩
theorem k_ignore {T : St} {p1 p2 : Int32} {k : Nat} (h : a_ignore T p1 p2 = .inr k) : k = 1 ∨ k = 5 ∨ k = 2 := by
  unfold a_ignore at h
  (repeat' split at h) <;> first | (cases h; done) | (cases h; simp; done) | (simp at h; done) | (simp at h; omega)
theorem op_ignore {P : PS} {x : Nat} {T : St} (h : lP P x T) (p1 p2 : Int32) : ∃ r, f_X9_ignore P x p1 p2 = some r ∧ tieW x T r (fun Q => f_X10_ignore Q (x + 79) p1 p2) (fun k => if k = 1 then 1 else if k = 5 then 2 else 3) ∧ (∀ u, r = .inr u → u.2 = 1 ∨ u.2 = 5 ∨ u.2 = 2) ∧ ∀ u, r = .inl u → ∃ T', a_ignore T p1 p2 = .inl (T', u.2) := by
  obtain ⟨r, e1, e2, e3, e4⟩ := tie_w (o := f_X9_ignore P x p1 p2) (e := a_ignore T p1 p2) (f := fun Q => f_X10_ignore Q (x + 79) p1 p2) (co := (fun k => if k = 1 then 1 else if k = 5 then 2 else 3)) h ((ci_ignore h.2.1 h.2.2.2.1 p1 p2).x h.1) (fun r hr => wf_ignore h.2.2.2.1 h.sols hr) (fun k hk => by rcases k_ignore hk with rfl | rfl | rfl <;> exact ⟨by decide +kernel, by decide +kernel⟩) (fun S1 J1 G hm hG => mx_ignore hm hG h.2.2.2.1 h.sols p1 p2)
  exact ⟨r, e1, e2, fun u hu => k_ignore (e3 u hu), e4⟩
theorem k_ignored {T : St} {p1 : Int32} {k : Nat} (h : a_ignored T p1 = .inr k) : k = 1 := by
  unfold a_ignored at h
  (repeat' split at h) <;> first | (cases h; done) | (cases h; simp; done) | (simp at h; done) | (simp at h; omega)
theorem t_ignored {T : St} {p1 : Int32} {r : St × Int32} (h : a_ignored T p1 = .inl r) : r.1 = T := by
  unfold a_ignored at h
  (repeat' split at h) <;> first | (cases h; done) | (cases h; rfl)
theorem op_ignored {P : PS} {x : Nat} {T : St} (h : lP P x T) (p1 : Int32) : ∃ r, f_X9_ignored P x p1 = some r ∧ tieW x T r (fun Q => f_X10_ignored Q (x + 79) p1) (fun _ => 1) ∧ (∀ u, r = .inr u → u.2 = 1) ∧ ∀ u, r = .inl u → ∃ T', a_ignored T p1 = .inl (T', u.2) := by
  obtain ⟨r, e1, e2, e3, e4⟩ := tie_w (o := f_X9_ignored P x p1) (e := a_ignored T p1) (f := fun Q => f_X10_ignored Q (x + 79) p1) (co := (fun _ => 1)) h ((ci_ignored h.2.1 p1).x h.1) (fun r hr => by rw [t_ignored hr]; exact h.2.2.2.1) (fun k hk => by rcases k_ignored hk with rfl <;> exact ⟨by decide +kernel, by decide +kernel⟩) (fun S1 J1 G hm hG => mx_ignored hm hG p1)
  exact ⟨r, e1, e2, fun u hu => k_ignored (e3 u hu), e4⟩
theorem k_heed {T : St} {p1 : Int32} {k : Nat} (h : a_heed T p1 = .inr k) : k = 1 := by
  unfold a_heed at h
  (repeat' split at h) <;> first | (cases h; done) | (cases h; simp; done) | (simp at h; done) | (simp at h; omega)
theorem op_heed {P : PS} {x : Nat} {T : St} (h : lP P x T) (p1 : Int32) : ∃ r, f_X9_heed P x p1 = some r ∧ tieW x T r (fun Q => f_X10_heed Q (x + 79) p1) (fun _ => 1) ∧ (∀ u, r = .inr u → u.2 = 1) ∧ ∀ u, r = .inl u → ∃ T', a_heed T p1 = .inl (T', u.2) := by
  obtain ⟨r, e1, e2, e3, e4⟩ := tie_w (o := f_X9_heed P x p1) (e := a_heed T p1) (f := fun Q => f_X10_heed Q (x + 79) p1) (co := (fun _ => 1)) h ((ci_heed h.2.1 p1).x h.1) (fun r hr => wf_heed h.2.2.2.1 hr) (fun k hk => by rcases k_heed hk with rfl <;> exact ⟨by decide +kernel, by decide +kernel⟩) (fun S1 J1 G hm hG => mx_heed hm hG p1)
  exact ⟨r, e1, e2, fun u hu => k_heed (e3 u hu), e4⟩
theorem k_check {T : St} {p1 : Int32} {k : Nat} (h : a_check T p1 = .inr k) : k = 1 := by
  unfold a_check at h
  (repeat' split at h) <;> first | (cases h; done) | (cases h; simp; done) | (simp at h; done) | (simp at h; omega)
theorem op_check {P : PS} {x : Nat} {T : St} (h : lP P x T) (p1 : Int32) : ∃ r, f_X9_check P x p1 = some r ∧ tieW x T r (fun Q => f_X10_check Q (x + 79) p1) (fun _ => 1) ∧ (∀ u, r = .inr u → u.2 = 1) ∧ ∀ u, r = .inl u → ∃ T', a_check T p1 = .inl (T', u.2) := by
  obtain ⟨r, e1, e2, e3, e4⟩ := tie_w (o := f_X9_check P x p1) (e := a_check T p1) (f := fun Q => f_X10_check Q (x + 79) p1) (co := (fun _ => 1)) h ((ci_check h.2.1 h.2.2.2.1 p1).x h.1) (fun r hr => wf_check h.2.2.2.1 hr) (fun k hk => by rcases k_check hk with rfl <;> exact ⟨by decide +kernel, by decide +kernel⟩) (fun S1 J1 G hm hG => mx_check hm hG h.2.2.2.1 p1)
  exact ⟨r, e1, e2, fun u hu => k_check (e3 u hu), e4⟩
theorem k_byRule {T : St} {p1 p2 : Int32} {k : Nat} (h : a_byRule T p1 p2 = .inr k) : k = 1 := by
  unfold a_byRule at h
  (repeat' split at h) <;> first | (cases h; done) | (cases h; simp; done) | (simp at h; done) | (simp at h; omega)
theorem t_byRule {T : St} {p1 p2 : Int32} {r : St × Int32} (h : a_byRule T p1 p2 = .inl r) : r.1 = T := by
  unfold a_byRule at h
  (repeat' split at h) <;> first | (cases h; done) | (cases h; rfl)
theorem op_byRule {P : PS} {x : Nat} {T : St} (h : lP P x T) (p1 p2 : Int32) : ∃ r, f_X9_byRule P x p1 p2 = some r ∧ tieW x T r (fun Q => f_X10_byRule Q (x + 79) p1 p2) (fun _ => 1) ∧ (∀ u, r = .inr u → u.2 = 1) ∧ ∀ u, r = .inl u → ∃ T', a_byRule T p1 p2 = .inl (T', u.2) := by
  obtain ⟨r, e1, e2, e3, e4⟩ := tie_w (o := f_X9_byRule P x p1 p2) (e := a_byRule T p1 p2) (f := fun Q => f_X10_byRule Q (x + 79) p1 p2) (co := (fun _ => 1)) h ((ci_byRule h.2.1 h.2.2.2.1 p1 p2).x h.1) (fun r hr => by rw [t_byRule hr]; exact h.2.2.2.1) (fun k hk => by rcases k_byRule hk with rfl <;> exact ⟨by decide +kernel, by decide +kernel⟩) (fun S1 J1 G hm hG => mx_byRule hm hG h.2.2.2.1 h.sols p1 p2)
  exact ⟨r, e1, e2, fun u hu => k_byRule (e3 u hu), e4⟩
theorem k_byWriter {T : St} {p1 p2 : Int32} {k : Nat} (h : a_byWriter T p1 p2 = .inr k) : k = 1 := by
  unfold a_byWriter at h
  (repeat' split at h) <;> first | (cases h; done) | (cases h; simp; done) | (simp at h; done) | (simp at h; omega)
theorem t_byWriter {T : St} {p1 p2 : Int32} {r : St × Int32} (h : a_byWriter T p1 p2 = .inl r) : r.1 = T := by
  unfold a_byWriter at h
  (repeat' split at h) <;> first | (cases h; done) | (cases h; rfl)
theorem op_byWriter {P : PS} {x : Nat} {T : St} (h : lP P x T) (p1 p2 : Int32) : ∃ r, f_X9_byWriter P x p1 p2 = some r ∧ tieW x T r (fun Q => f_X10_byWriter Q (x + 79) p1 p2) (fun _ => 1) ∧ (∀ u, r = .inr u → u.2 = 1) ∧ ∀ u, r = .inl u → ∃ T', a_byWriter T p1 p2 = .inl (T', u.2) := by
  obtain ⟨r, e1, e2, e3, e4⟩ := tie_w (o := f_X9_byWriter P x p1 p2) (e := a_byWriter T p1 p2) (f := fun Q => f_X10_byWriter Q (x + 79) p1 p2) (co := (fun _ => 1)) h ((ci_byWriter h.2.1 h.2.2.2.1 p1 p2).x h.1) (fun r hr => by rw [t_byWriter hr]; exact h.2.2.2.1) (fun k hk => by rcases k_byWriter hk with rfl <;> exact ⟨by decide +kernel, by decide +kernel⟩) (fun S1 J1 G hm hG => mx_byWriter hm hG h.2.2.2.1 h.sols p1 p2)
  exact ⟨r, e1, e2, fun u hu => k_byWriter (e3 u hu), e4⟩
