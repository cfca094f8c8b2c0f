section
variable {P : PS} {x : Nat} {T : St}
theorem op_wipe (h : lP P x T) : ∃ P1 v, f_X9_wipe P x = some (P1, v) ∧ ∃ P2 T', f_X10_wipe P1 (x + 79) = some (P2, v) ∧ lP P2 x T' := by
  obtain ⟨J, e, u, c⟩ := ci_wipe h.2.1
  obtain ⟨P2, e2, l2⟩ := tie0 (f := fun Q => f_X10_wipe Q (x + 79)) h u c h.2.2.2.1.wipe (fun G hG => by
    obtain ⟨G', e, -, e2⟩ := mx_wipe (I := J) h.2.2.1 hG h.2.2.2.1
    exact ⟨G', e, e2⟩)
  exact ⟨_, _, e, P2, _, e2, l2⟩
theorem op_length (h : lP P x T) : ∃ v, f_X9_length P x = some v ∧ ∃ P2, f_X10_length P (x + 79) = some (P2, v) ∧ lP P2 x T := by
  obtain ⟨P2, e2, l2⟩ := tie0 (f := fun Q => f_X10_length Q (x + 79)) h ou.rf h.2.1 h.2.2.2.1 (fun G hG => by
    obtain ⟨G', e, -, e2⟩ := mx_length (I := kI P) h.2.2.1 hG
    exact ⟨G', e, e2⟩)
  exact ⟨_, ci_length h.2.1, P2, e2, l2⟩
theorem op_paragraphs (h : lP P x T) : ∃ v, f_X9_paragraphs P x = some v ∧ ∃ P2, f_X10_paragraphs P (x + 79) = some (P2, v) ∧ lP P2 x T := by
  obtain ⟨P2, e2, l2⟩ := tie0 (f := fun Q => f_X10_paragraphs Q (x + 79)) h ou.rf h.2.1 h.2.2.2.1 (fun G hG => by
    obtain ⟨G', e, -, e2⟩ := mx_paragraphs (I := kI P) h.2.2.1 hG h.2.2.2.1
    exact ⟨G', e, e2⟩)
  refine ⟨_, ci_paragraphs h.2.1, P2, ?_, l2⟩
  rw [h.2.2.2.1.2.2.2.2.2.1]
  exact e2
theorem op_tokens (h : lP P x T) (b : Int32) : ∃ P1 v, f_X9_tokens P x b = some (P1, v) ∧ ∃ P2 T', f_X10_tokens P1 (x + 79) b = some (P2, v) ∧ lP P2 x T' := by
  obtain ⟨J, e, u, c⟩ := ci_tokens h.2.1 h.2.2.2.1 b
  obtain ⟨P2, e2, l2⟩ := tie0 (f := fun Q => f_X10_tokens Q (x + 79) b) h u c h.2.2.2.1 (fun G hG => by
    obtain ⟨G', e, -, e2⟩ := mx_tokens (I := J) h.2.2.1 hG h.2.2.2.1 b
    exact ⟨G', e, e2⟩)
  exact ⟨_, _, e, P2, _, e2, l2⟩
theorem op_checksum (h : lP P x T) : ∃ P1 v, f_X9_checksum P x = some (P1, v) ∧ ∃ P2 T', f_X10_checksum P1 (x + 79) = some (P2, v) ∧ lP P2 x T' := by
  obtain ⟨J, e, u, c⟩ := ci_checksum h.2.1 h.2.2.2.1
  obtain ⟨P2, e2, l2⟩ := tie0 (f := fun Q => f_X10_checksum Q (x + 79)) h u c h.2.2.2.1 (fun G hG => by
    obtain ⟨G', e, -, e2⟩ := mx_checksum (I := J) h.2.2.1 hG h.2.2.2.1 h.sols
    exact ⟨G', e, e2⟩)
  exact ⟨_, _, e, P2, _, e2, l2⟩
theorem op_isSound (h : lP P x T) : ∃ P1 v, f_X9_isSound P x = some (P1, v) ∧ ∃ P2 T', f_X10_isSound P1 (x + 79) = some (P2, v) ∧ lP P2 x T' := by
  obtain ⟨J, e, u, c⟩ := ci_isSound h.2.1 h.2.2.2.1
  obtain ⟨P2, e2, l2⟩ := tie0 (f := fun Q => f_X10_isSound Q (x + 79)) h u c h.2.2.2.1 (fun G hG => by
    obtain ⟨G', e, -, e2⟩ := mx_isSound (I := J) h.2.2.1 hG
    exact ⟨G', e, e2⟩)
  exact ⟨_, _, e, P2, _, e2, l2⟩
/-- an answer that is no int -/
def tieA {α : Type} (x : Nat) (T : St) (r : (PS × α) ⊕ (PS × Nat)) (f : PS → Option (PS × α)) (co : Nat → Int32) : Prop := match r with
  | .inl u => ∃ P2 T', f u.1 = some (P2, u.2) ∧ kI P2 (x + 79) 0 = 0 ∧ lP P2 x T'
  | .inr u => co u.2 ≠ 0 ∧ ∀ z, kZ u.1 ≤ z → ∃ P2 w, f (zS u.1 z) = some (P2, w) ∧ kI P2 (x + 79) 0 = co u.2 ∧ lP P2 x T
theorem thr0 {J : Nat → Nat → Int32} {G' : Nat → Nat → Int32} : mw J (x + 79) G' (x + 79) 0 = G' 0 0 := by
  have := mw_at J (x + 79) G' (show 0 ≤ 37 by omega) 0
  rwa [Nat.add_zero] at this
theorem op_foundShare (h : lP P x T) (p : Int32) : ∃ r, f_X9_foundShare P x p = some r ∧ tieA x T r (fun Q => f_X10_foundShare Q (x + 79) p) (fun k => if k = 1 then 1 else 2) ∧ (∀ u, r = .inr u → u.2 = 1 ∨ u.2 = 6) ∧ ∀ u, r = .inl u → u.2 &&& 0x7fffffff ≤ 0x7f800000 := by
  obtain ⟨J, e, u, c⟩ := ci_share h.2.1 h.2.2.2.1 p
  obtain ⟨hg, hI, hm, hw, hG⟩ := id h
  obtain ⟨m1, m2⟩ := hm.fx hg u.fx
  have hG1 : mT (fun k j => J (x + 79 + k) j) T := hG.q ⟨fun k h1 h2 j => m2 k (by omega) j, m2 0 (by omega) 3, m2 0 (by omega) 5, m2 0 (by omega) 6, m2 0 (by omega) 20⟩
  cases hA : a_share T p with
  | inl v =>
    rw [hA] at e
    refine ⟨_, e, ?_, fun u hu => by (cases hu), fun u hu => ?_⟩
    · obtain ⟨G', e1, e2, e3⟩ := mx_share (I := J) hm hG1 hw h.sols p
      rw [hA, mw_self] at e1
      rw [hA] at e2
      exact ⟨_, T, e1, thr0.trans e2, hg, c.om hm (om_mw _ _ _), hm, hw, e3.own⟩
    · cases hu
      unfold a_share at hA
      split at hA
      · cases hA
      · split at hA
        · cases hA
        · cases hA
          have := hw.2.1
          exact fdq _ (nI_ne0 (by omega) (by omega))
  | inr k =>
    rw [hA] at e
    have hk : k = 1 ∨ k = 6 := by
      unfold a_share at hA
      split at hA
      · cases hA; exact Or.inl rfl
      · split at hA
        · cases hA; exact Or.inr rfl
        · cases hA
    refine ⟨_, e, ⟨?_, fun z hz => ?_⟩, fun u hu => by cases hu; exact hk, fun u hu => by cases hu⟩
    · show (if k = 1 then (1 : Int32) else 2) ≠ 0
      split <;> decide
    · obtain ⟨G', e1, e2, e3⟩ := mx_share (S := zS P z) (I := J) hm hG1 hw h.sols p
      rw [hA, mw_self] at e1
      rw [hA] at e2
      refine ⟨_, _, e1, thr0.trans e2, ?_⟩
      have h0 : lP (sI P (mw J (x + 79) G')) x T := ⟨hg, c.om hm (om_mw _ _ _), hm, hw, e3.own⟩
      exact h0.z (z := z) hz
theorem op_meanWord (h : lP P x T) : ∃ r, f_X9_meanWord P x = some r ∧ tieA x T r (fun Q => f_X10_meanWord Q (x + 79)) (fun _ => 1) ∧ (∀ u, r = .inr u → u.2 = 6) ∧ ∀ u, r = .inl u → u.2 &&& 0x7fffffffffffffff ≤ 0x7ff0000000000000 := by
  obtain ⟨J, e, u, c⟩ := ci_mean h.2.1 h.2.2.2.1
  obtain ⟨hg, hI, hm, hw, hG⟩ := id h
  obtain ⟨m1, m2⟩ := hm.fx hg u.fx
  have hG1 : mT (fun k j => J (x + 79 + k) j) T := hG.q ⟨fun k h1 h2 j => m2 k (by omega) j, m2 0 (by omega) 3, m2 0 (by omega) 5, m2 0 (by omega) 6, m2 0 (by omega) 20⟩
  have hcn : (tsO T.2.1).countP (fun t => t.2.2.1) ≤ 160 := Nat.le_trans List.countP_le_length (tsO_wT hw.2.1).1
  cases hA : a_mean T with
  | inl v =>
    rw [hA] at e
    refine ⟨_, e, ?_, fun u hu => by (cases hu), fun u hu => ?_⟩
    · obtain ⟨G', e1, e2, e3⟩ := mx_mean (I := J) hm hG1 hw
      rw [hA, mw_self] at e1
      rw [hA] at e2
      exact ⟨_, T, e1, thr0.trans e2, hg, c.om hm (om_mw _ _ _), hm, hw, e3.own⟩
    · cases hu
      unfold a_mean at hA
      split at hA
      · cases hA
      · cases hA
        exact ddq _ (nI_ne0 (by omega) (by omega))
  | inr k =>
    rw [hA] at e
    have hk : k = 6 := by
      unfold a_mean at hA
      split at hA
      · cases hA; rfl
      · cases hA
    refine ⟨_, e, ⟨show (1 : Int32) ≠ 0 by decide, fun z hz => ?_⟩, fun u hu => by cases hu; exact hk, fun u hu => by cases hu⟩
    obtain ⟨G', e1, e2, e3⟩ := mx_mean (S := zS P z) (I := J) hm hG1 hw
    rw [hA, mw_self] at e1
    rw [hA] at e2
    refine ⟨_, _, e1, thr0.trans e2, ?_⟩
    have h0 : lP (sI P (mw J (x + 79) G')) x T := ⟨hg, c.om hm (om_mw _ _ _), hm, hw, e3.own⟩
    exact h0.z (z := z) hz
end
