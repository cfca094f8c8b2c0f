/-! what is found -/
def mFd (G : Nat → Nat → Int32) (t : List Int32) (ru : List Rv) (k : Dk) (L : List (Nat × Nat)) : Prop := G 0 37 = nI L.length ∧ ∀ (i : Nat) (p : Nat × Nat), L[i]? = some p → G 32 i = nI p.1 ∧ G 33 i = nI (tE (tsO t) (p.1 + mI9 ru p.2 - 1)) ∧ G 34 i = nI p.2 ∧ G 35 i = nI (rk ru k.1 p.2)
def mQf (G G' : Nat → Nat → Int32) : Prop := (∀ k, 1 ≤ k → (k ≤ 31 ∨ 36 ≤ k) → ∀ j, G' k j = G k j) ∧ ∀ j, j ≠ 37 → G' 0 j = G 0 j
theorem mQf.rf {G : Nat → Nat → Int32} : mQf G G := ⟨fun _ _ _ _ => rfl, fun _ _ => rfl⟩
theorem mQf.tr {G G' G'' : Nat → Nat → Int32} (h : mQf G G') (h' : mQf G' G'') : mQf G G'' := ⟨fun k a b j => (h'.1 k a b j).trans (h.1 k a b j), fun j a => (h'.2 j a).trans (h.2 j a)⟩
theorem mQf.q {G G' : Nat → Nat → Int32} (h : mQf G G') : mQ G G' := ⟨fun k h1 h2 j => h.1 k h1 (Or.inl (by omega)) j, h.2 _ (by decide), h.2 _ (by decide), h.2 _ (by decide), h.2 _ (by decide)⟩
theorem mTk.ext {G G' : Nat → Nat → Int32} {t : List Int32} (h1 : ∀ k, 27 ≤ k → k ≤ 31 → ∀ j, G' k j = G k j) (h2 : G' 0 31 = G 0 31) (h : mTk G t) : mTk G' t := by
  obtain ⟨a1, a2, a3⟩ := h
  exact ⟨h2.trans a1, fun j hj => ⟨(h1 27 (by decide) (by decide) j).trans (a2 j hj).1, (h1 28 (by decide) (by decide) j).trans (a2 j hj).2.1, (h1 29 (by decide) (by decide) j).trans (a2 j hj).2.2⟩, fun i hi => ⟨(h1 30 (by decide) (by decide) i).trans (a3 i hi).1, (h1 31 (by decide) (by decide) i).trans (a3 i hi).2⟩⟩
theorem mQf.tk {G G' : Nat → Nat → Int32} {t : List Int32} (h : mQf G G') (hk : mTk G t) : mTk G' t := hk.ext (fun k a b j => h.1 k (by omega) (Or.inl (by omega)) j) (h.2 31 (by decide))
/-- the ints of the heap S are the model's G' -/
def mO (S : PS) (I : Nat → Nat → Int32) (m : Nat) (o : Option PS) (P : (Nat → Nat → Int32) → Prop) : Prop := ∃ G', o = some (sI S (mw I m G')) ∧ P G'
section
variable {S : PS} {I G : Nat → Nat → Int32} {m : Nat} {t w : List Int32}
theorem x_finds (hm : mS S m) (hk : mTk G t) (ht : t.length ≤ 160) {d : Nat} (hd : d < 4) {k : Dk} (hkd : mDk G d k) (hw : wD k) {ru : List Rv} {L : List (Nat × Nat)} (hf : mFd G t ru k L) (hL : L.length < 2800) {j r : Nat} (hr : r ≤ 20) (hm1 : 1 ≤ mI9 ru r) (hj : j + mI9 ru r - 1 < (tsO t).length) :
    mO S I m (f_X10_finds (sI S (mw I m G)) m (nI d) (nI j) (nI (j + mI9 ru r - 1)) (nI r) (nI (rk ru k.1 r))) (fun G' => mQf G G' ∧ mFd G' t ru k (if (r, tF (tsO t) j, tE (tsO t) (j + mI9 ru r - 1) - tF (tsO t) j) ∈ k.2.2.2 then L else L ++ [(j, r)])) := by
  have hl := (tsO_wT ht).1
  have hj0 : j < (tsO t).length := by omega
  have hb := tk_b hj0
  have hb2 := tk_b hj
  have hlt : tF (tsO t) j < tE (tsO t) (j + mI9 ru r - 1) := (tsO_oT t).lt (tsO_wT ht) (by omega) hj
  obtain ⟨f1, f2⟩ := hf
  have r32 : ∀ (H : Nat → Nat → Int32) (j : Nat) (v : Int32), uF H 32 j v 0 37 = H 0 37 := fun H j v => uF_ne (Or.inl (by decide))
  have r33 : ∀ (H : Nat → Nat → Int32) (j : Nat) (v : Int32), uF H 33 j v 0 37 = H 0 37 := fun H j v => uF_ne (Or.inl (by decide))
  have r34 : ∀ (H : Nat → Nat → Int32) (j : Nat) (v : Int32), uF H 34 j v 0 37 = H 0 37 := fun H j v => uF_ne (Or.inl (by decide))
  have r35 : ∀ (H : Nat → Nat → Int32) (j : Nat) (v : Int32), uF H 35 j v 0 37 = H 0 37 := fun H j v => uF_ne (Or.inl (by decide))
  have r28 : ∀ (H : Nat → Nat → Int32) (i j : Nat) (v : Int32), uF H 32 j v 28 i = H 28 i := fun H i j v => uF_ne (Or.inl (by decide))
  unfold mO f_X10_finds
  simp only [kK_sI, kQ_sI, kN_sI, kI_sI, wI_sI, Option.bind_some, lt, mw_0, mw_up0, xK_0 hm, xK_1 hm, xN_1 hm, xQ_1 hm, mw_1, mw_up1, xK_2 hm, xN_2 hm, xQ_2 hm, mw_2, mw_up2, xK_3 hm, xN_3 hm, xQ_3 hm, mw_3, mw_up3, xK_4 hm, xN_4 hm, xQ_4 hm, mw_4, mw_up4, xK_5 hm, xN_5 hm, xQ_5 hm, mw_5, mw_up5, xK_6 hm, xN_6 hm, xQ_6 hm, mw_6, mw_up6, xK_7 hm, xN_7 hm, xQ_7 hm, mw_7, mw_up7, xK_8 hm, xN_8 hm, xQ_8 hm, mw_8, mw_up8, xK_9 hm, xN_9 hm, xQ_9 hm, mw_9, mw_up9, xK_10 hm, xN_10 hm, xQ_10 hm, mw_10, mw_up10, xK_11 hm, xN_11 hm, xQ_11 hm, mw_11, mw_up11, xK_12 hm, xN_12 hm, xQ_12 hm, mw_12, mw_up12, xK_13 hm, xN_13 hm, xQ_13 hm, mw_13, mw_up13, xK_14 hm, xN_14 hm, xQ_14 hm, mw_14, mw_up14, xK_15 hm, xN_15 hm, xQ_15 hm, mw_15, mw_up15, xK_16 hm, xN_16 hm, xQ_16 hm, mw_16, mw_up16, xK_17 hm, xN_17 hm, xQ_17 hm, mw_17, mw_up17, xK_18 hm, xN_18 hm, xQ_18 hm, mw_18, mw_up18, xK_19 hm, xN_19 hm, xQ_19 hm, mw_19, mw_up19, xK_20 hm, xN_20 hm, xQ_20 hm, mw_20, mw_up20, xK_21 hm, xN_21 hm, xQ_21 hm, mw_21, mw_up21, xK_22 hm, xN_22 hm, xQ_22 hm, mw_22, mw_up22, xK_23 hm, xN_23 hm, xQ_23 hm, mw_23, mw_up23, xK_24 hm, xN_24 hm, xQ_24 hm, mw_24, mw_up24, xK_25 hm, xN_25 hm, xQ_25 hm, mw_25, mw_up25, xK_26 hm, xN_26 hm, xQ_26 hm, mw_26, mw_up26, xK_27 hm, xN_27 hm, xQ_27 hm, mw_27, mw_up27, xK_28 hm, xN_28 hm, xQ_28 hm, mw_28, mw_up28, xK_29 hm, xN_29 hm, xQ_29 hm, mw_29, mw_up29, xK_30 hm, xN_30 hm, xQ_30 hm, mw_30, mw_up30, xK_31 hm, xN_31 hm, xQ_31 hm, mw_31, mw_up31, xK_32 hm, xN_32 hm, xQ_32 hm, mw_32, mw_up32, xK_33 hm, xN_33 hm, xQ_33 hm, mw_33, mw_up33, xK_34 hm, xN_34 hm, xQ_34 hm, mw_34, mw_up34, xK_35 hm, xN_35 hm, xQ_35 hm, mw_35, mw_up35, xK_36 hm, xN_36 hm, xQ_36 hm, mw_36, mw_up36, xK_37 hm, xN_37 hm, xQ_37 hm, mw_37, mw_up37, if_true, nI_clamp (show j < 2 ^ 31 by omega), bd2 (show j < 160 by omega) (show j < 2 ^ 31 by omega), nI_clamp (show j + mI9 ru r - 1 < 2 ^ 31 by omega), bd2 (show j + mI9 ru r - 1 < 160 by omega) (show j + mI9 ru r - 1 < 2 ^ 31 by omega), not_false_eq_true, (hk.2.1 _ hj0).1, (hk.2.1 _ hj).2.1, x_ignored hm hd hkd hw hr (Nat.le_of_lt hlt) (show tE (tsO t) (j + mI9 ru r - 1) ≤ 160 by omega), bi_eq0]
  by_cases e : (r, tF (tsO t) j, tE (tsO t) (j + mI9 ru r - 1) - tF (tsO t) j) ∈ k.2.2.2
  · rw [decide_eq_true e, if_neg (by decide), if_pos e]
    exact ⟨G, rfl, mQf.rf, f1, f2⟩
  · rw [decide_eq_false e, if_pos rfl, if_neg e]
    simp only [f1, nI_clamp (show L.length < 2 ^ 31 by omega), bd2 hL (show L.length < 2 ^ 31 by omega), not_false_eq_true, if_true, r32, r33, r34, r35, r28, (hk.2.1 _ hj).2.1, nI_1]
    refine ⟨_, rfl, ⟨fun c h1 h2 i => by rw [uF_ne (by omega), uF_ne (by omega), uF_ne (by omega), uF_ne (by omega), uF_ne (by omega)], fun i hi => by rw [uF_ne (by omega), uF_ne (by omega), uF_ne (by omega), uF_ne (by omega), uF_ne (by omega)]⟩, ?_, fun i p hp => ?_⟩
    · rw [uF_eq, List.length_append]; rfl
    · rw [List.getElem?_append] at hp
      by_cases e2 : i < L.length
      · rw [if_pos e2] at hp
        obtain ⟨y1, y2, y3, y4⟩ := f2 i p hp
        exact ⟨by rw [uF_ne (by omega), uF_ne (by omega), uF_ne (by omega), uF_ne (by omega), uF_ne (by omega)]; exact y1, by rw [uF_ne (by omega), uF_ne (by omega), uF_ne (by omega), uF_ne (by omega), uF_ne (by omega)]; exact y2, by rw [uF_ne (by omega), uF_ne (by omega), uF_ne (by omega), uF_ne (by omega), uF_ne (by omega)]; exact y3, by rw [uF_ne (by omega), uF_ne (by omega), uF_ne (by omega), uF_ne (by omega), uF_ne (by omega)]; exact y4⟩
      · rw [if_neg e2] at hp
        have e3 : i = L.length := by
          have := (List.getElem?_eq_some_iff.mp hp).1
          simp at this
          omega
        subst e3
        simp only [Nat.sub_self, List.getElem?_cons_zero, Option.some.injEq] at hp
        subst hp
        exact ⟨by rw [uF_ne (by omega), uF_ne (by omega), uF_ne (by omega), uF_ne (by omega), uF_eq], by rw [uF_ne (by omega), uF_ne (by omega), uF_ne (by omega), uF_eq], by rw [uF_ne (by omega), uF_ne (by omega), uF_eq], by rw [uF_ne (by omega), uF_eq]⟩
end
