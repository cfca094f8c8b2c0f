section
variable {S : PS} {I G : Nat → Nat → Int32} {m : Nat} {t w : List Int32}
def vR (n c : Nat) : Prop := (n = c ∧ c < 100) ∨ (c = 100 ∧ 100 ≤ n ∧ n < 10000)
theorem x_value (hm : mS S m) (hx : mTx G t w) (hk : mTk G t) (ht : t.length ≤ 160) {j : Nat} (hj : j < (tsO t).length) (hW : tW (tsO t) j = false) : ∃ n, f_X10_valueOf (sI S (mw I m G)) m (nI j) = some (nI n) ∧ vR n (tV (tsO t) j) := by
  have hl := (tsO_wT ht).1
  have hb := tk_b hj
  unfold f_X10_valueOf
  simp only [kK_sI, kQ_sI, kN_sI, kI_sI, wI_sI, Option.bind_some, lt, mw_0, mw_up0, xK_0 hm, xK_1 hm, xN_1 hm, xQ_1 hm, mw_1, mw_up1, xK_2 hm, xN_2 hm, xQ_2 hm, mw_2, mw_up2, xK_3 hm, xN_3 hm, xQ_3 hm, mw_3, mw_up3, xK_4 hm, xN_4 hm, xQ_4 hm, mw_4, mw_up4, xK_5 hm, xN_5 hm, xQ_5 hm, mw_5, mw_up5, xK_6 hm, xN_6 hm, xQ_6 hm, mw_6, mw_up6, xK_7 hm, xN_7 hm, xQ_7 hm, mw_7, mw_up7, xK_8 hm, xN_8 hm, xQ_8 hm, mw_8, mw_up8, xK_9 hm, xN_9 hm, xQ_9 hm, mw_9, mw_up9, xK_10 hm, xN_10 hm, xQ_10 hm, mw_10, mw_up10, xK_11 hm, xN_11 hm, xQ_11 hm, mw_11, mw_up11, xK_12 hm, xN_12 hm, xQ_12 hm, mw_12, mw_up12, xK_13 hm, xN_13 hm, xQ_13 hm, mw_13, mw_up13, xK_14 hm, xN_14 hm, xQ_14 hm, mw_14, mw_up14, xK_15 hm, xN_15 hm, xQ_15 hm, mw_15, mw_up15, xK_16 hm, xN_16 hm, xQ_16 hm, mw_16, mw_up16, xK_17 hm, xN_17 hm, xQ_17 hm, mw_17, mw_up17, xK_18 hm, xN_18 hm, xQ_18 hm, mw_18, mw_up18, xK_19 hm, xN_19 hm, xQ_19 hm, mw_19, mw_up19, xK_20 hm, xN_20 hm, xQ_20 hm, mw_20, mw_up20, xK_21 hm, xN_21 hm, xQ_21 hm, mw_21, mw_up21, xK_22 hm, xN_22 hm, xQ_22 hm, mw_22, mw_up22, xK_23 hm, xN_23 hm, xQ_23 hm, mw_23, mw_up23, xK_24 hm, xN_24 hm, xQ_24 hm, mw_24, mw_up24, xK_25 hm, xN_25 hm, xQ_25 hm, mw_25, mw_up25, xK_26 hm, xN_26 hm, xQ_26 hm, mw_26, mw_up26, xK_27 hm, xN_27 hm, xQ_27 hm, mw_27, mw_up27, xK_28 hm, xN_28 hm, xQ_28 hm, mw_28, mw_up28, xK_29 hm, xN_29 hm, xQ_29 hm, mw_29, mw_up29, xK_30 hm, xN_30 hm, xQ_30 hm, mw_30, mw_up30, xK_31 hm, xN_31 hm, xQ_31 hm, mw_31, mw_up31, xK_32 hm, xN_32 hm, xQ_32 hm, mw_32, mw_up32, xK_33 hm, xN_33 hm, xQ_33 hm, mw_33, mw_up33, xK_34 hm, xN_34 hm, xQ_34 hm, mw_34, mw_up34, xK_35 hm, xN_35 hm, xQ_35 hm, mw_35, mw_up35, xK_36 hm, xN_36 hm, xQ_36 hm, mw_36, mw_up36, xK_37 hm, xN_37 hm, xQ_37 hm, mw_37, mw_up37, if_true, nI_clamp (show j < 2 ^ 31 by omega), bd2 (show j < 160 by omega) (show j < 2 ^ 31 by omega), not_false_eq_true, (hk.2.1 _ hj).1]
  obtain ⟨z, e1, n, rfl, q⟩ := it_up (b := fun (v : Int32 × Int32) => f_X10_valueOf_b9 m (nI j) (sI S (mw I m G)) v.1 v.2) (tE (tsO t) j)
    (P := fun k s => tF (tsO t) j ≤ k ∧ ∃ n, s = (nI n, nI k) ∧ vR n (vc t (tF (tsO t) j) (k - tF (tsO t) j)))
    (Q := fun z => ∃ n, z = nI n ∧ vR n (vc t (tF (tsO t) j) (tE (tsO t) j - tF (tsO t) j)))
    (fun k s hk1 ⟨hk2, n, e, hn⟩ => by
      subst e
      have hD : isD (la t k) = true := kd_2.mp (by rw [tk_k hj hk2 hk1, hW]; rfl)
      obtain ⟨c, c1, c2, c3, -⟩ := isD_nI hD
      have hn4 : n < 10000 := by unfold vR at hn; omega
      simp only
      unfold f_X10_valueOf_b9
      simp only [kK_sI, kQ_sI, kN_sI, kI_sI, wI_sI, Option.bind_some, lt, mw_0, mw_up0, xK_0 hm, xK_1 hm, xN_1 hm, xQ_1 hm, mw_1, mw_up1, xK_2 hm, xN_2 hm, xQ_2 hm, mw_2, mw_up2, xK_3 hm, xN_3 hm, xQ_3 hm, mw_3, mw_up3, xK_4 hm, xN_4 hm, xQ_4 hm, mw_4, mw_up4, xK_5 hm, xN_5 hm, xQ_5 hm, mw_5, mw_up5, xK_6 hm, xN_6 hm, xQ_6 hm, mw_6, mw_up6, xK_7 hm, xN_7 hm, xQ_7 hm, mw_7, mw_up7, xK_8 hm, xN_8 hm, xQ_8 hm, mw_8, mw_up8, xK_9 hm, xN_9 hm, xQ_9 hm, mw_9, mw_up9, xK_10 hm, xN_10 hm, xQ_10 hm, mw_10, mw_up10, xK_11 hm, xN_11 hm, xQ_11 hm, mw_11, mw_up11, xK_12 hm, xN_12 hm, xQ_12 hm, mw_12, mw_up12, xK_13 hm, xN_13 hm, xQ_13 hm, mw_13, mw_up13, xK_14 hm, xN_14 hm, xQ_14 hm, mw_14, mw_up14, xK_15 hm, xN_15 hm, xQ_15 hm, mw_15, mw_up15, xK_16 hm, xN_16 hm, xQ_16 hm, mw_16, mw_up16, xK_17 hm, xN_17 hm, xQ_17 hm, mw_17, mw_up17, xK_18 hm, xN_18 hm, xQ_18 hm, mw_18, mw_up18, xK_19 hm, xN_19 hm, xQ_19 hm, mw_19, mw_up19, xK_20 hm, xN_20 hm, xQ_20 hm, mw_20, mw_up20, xK_21 hm, xN_21 hm, xQ_21 hm, mw_21, mw_up21, xK_22 hm, xN_22 hm, xQ_22 hm, mw_22, mw_up22, xK_23 hm, xN_23 hm, xQ_23 hm, mw_23, mw_up23, xK_24 hm, xN_24 hm, xQ_24 hm, mw_24, mw_up24, xK_25 hm, xN_25 hm, xQ_25 hm, mw_25, mw_up25, xK_26 hm, xN_26 hm, xQ_26 hm, mw_26, mw_up26, xK_27 hm, xN_27 hm, xQ_27 hm, mw_27, mw_up27, xK_28 hm, xN_28 hm, xQ_28 hm, mw_28, mw_up28, xK_29 hm, xN_29 hm, xQ_29 hm, mw_29, mw_up29, xK_30 hm, xN_30 hm, xQ_30 hm, mw_30, mw_up30, xK_31 hm, xN_31 hm, xQ_31 hm, mw_31, mw_up31, xK_32 hm, xN_32 hm, xQ_32 hm, mw_32, mw_up32, xK_33 hm, xN_33 hm, xQ_33 hm, mw_33, mw_up33, xK_34 hm, xN_34 hm, xQ_34 hm, mw_34, mw_up34, xK_35 hm, xN_35 hm, xQ_35 hm, mw_35, mw_up35, xK_36 hm, xN_36 hm, xQ_36 hm, mw_36, mw_up36, xK_37 hm, xN_37 hm, xQ_37 hm, mw_37, mw_up37, if_true, nI_clamp (show j < 2 ^ 31 by omega), bd2 (show j < 160 by omega) (show j < 2 ^ 31 by omega), not_false_eq_true, (hk.2.1 _ hj).2.1, nI_leI (show tE (tsO t) j < 2 ^ 31 by omega) (show k < 2 ^ 31 by omega), if_neg (show ¬ tE (tsO t) j ≤ k by omega), show (999 : Int32) = nI 999 from rfl, nI_leI (show n < 2 ^ 31 by omega) (show 999 < 2 ^ 31 by decide), nI_clamp (show k < 2 ^ 31 by omega), bd2 (show k < 161 by omega) (show k < 2 ^ 31 by omega), hx.2.1 k (by omega), nI_1]
      have hvc : vc t (tF (tsO t) j) (k + 1 - tF (tsO t) j) = if 10 * vc t (tF (tsO t) j) (k - tF (tsO t) j) + c < 100 then 10 * vc t (tF (tsO t) j) (k - tF (tsO t) j) + c else 100 := by
        rw [show k + 1 - tF (tsO t) j = (k - tF (tsO t) j) + 1 by omega, vc, show tF (tsO t) j + (k - tF (tsO t) j) = k by omega, if_pos hD, c3]
      by_cases e9 : n ≤ 999
      · rw [if_pos e9]
        have hx9 : 10 * nI n + la t k - 48 = nI (10 * n + c) := by
          rw [c2, Int32.mul_comm, show nI n * 10 = nI (n * 10) from pk_mul n 10, nI_add]
          exact (pk_sub (a := n * 10 + (48 + c)) (b := 48) (by omega)).trans (congrArg nI (by omega))
        rw [hx9]
        refine Or.inl ⟨_, rfl, by omega, _, rfl, ?_⟩
        rw [hvc]
        unfold vR at hn ⊢
        split <;> omega
      · rw [if_neg e9]
        refine Or.inl ⟨_, rfl, by omega, _, rfl, ?_⟩
        rw [hvc]
        unfold vR at hn ⊢
        split <;> omega)
    (fun s ⟨hk2, n, e, hn⟩ => by
      subst e
      refine ⟨_, ?_, n, rfl, hn⟩
      simp only
      unfold f_X10_valueOf_b9
      simp only [kK_sI, kQ_sI, kN_sI, kI_sI, wI_sI, Option.bind_some, lt, mw_0, mw_up0, xK_0 hm, xK_1 hm, xN_1 hm, xQ_1 hm, mw_1, mw_up1, xK_2 hm, xN_2 hm, xQ_2 hm, mw_2, mw_up2, xK_3 hm, xN_3 hm, xQ_3 hm, mw_3, mw_up3, xK_4 hm, xN_4 hm, xQ_4 hm, mw_4, mw_up4, xK_5 hm, xN_5 hm, xQ_5 hm, mw_5, mw_up5, xK_6 hm, xN_6 hm, xQ_6 hm, mw_6, mw_up6, xK_7 hm, xN_7 hm, xQ_7 hm, mw_7, mw_up7, xK_8 hm, xN_8 hm, xQ_8 hm, mw_8, mw_up8, xK_9 hm, xN_9 hm, xQ_9 hm, mw_9, mw_up9, xK_10 hm, xN_10 hm, xQ_10 hm, mw_10, mw_up10, xK_11 hm, xN_11 hm, xQ_11 hm, mw_11, mw_up11, xK_12 hm, xN_12 hm, xQ_12 hm, mw_12, mw_up12, xK_13 hm, xN_13 hm, xQ_13 hm, mw_13, mw_up13, xK_14 hm, xN_14 hm, xQ_14 hm, mw_14, mw_up14, xK_15 hm, xN_15 hm, xQ_15 hm, mw_15, mw_up15, xK_16 hm, xN_16 hm, xQ_16 hm, mw_16, mw_up16, xK_17 hm, xN_17 hm, xQ_17 hm, mw_17, mw_up17, xK_18 hm, xN_18 hm, xQ_18 hm, mw_18, mw_up18, xK_19 hm, xN_19 hm, xQ_19 hm, mw_19, mw_up19, xK_20 hm, xN_20 hm, xQ_20 hm, mw_20, mw_up20, xK_21 hm, xN_21 hm, xQ_21 hm, mw_21, mw_up21, xK_22 hm, xN_22 hm, xQ_22 hm, mw_22, mw_up22, xK_23 hm, xN_23 hm, xQ_23 hm, mw_23, mw_up23, xK_24 hm, xN_24 hm, xQ_24 hm, mw_24, mw_up24, xK_25 hm, xN_25 hm, xQ_25 hm, mw_25, mw_up25, xK_26 hm, xN_26 hm, xQ_26 hm, mw_26, mw_up26, xK_27 hm, xN_27 hm, xQ_27 hm, mw_27, mw_up27, xK_28 hm, xN_28 hm, xQ_28 hm, mw_28, mw_up28, xK_29 hm, xN_29 hm, xQ_29 hm, mw_29, mw_up29, xK_30 hm, xN_30 hm, xQ_30 hm, mw_30, mw_up30, xK_31 hm, xN_31 hm, xQ_31 hm, mw_31, mw_up31, xK_32 hm, xN_32 hm, xQ_32 hm, mw_32, mw_up32, xK_33 hm, xN_33 hm, xQ_33 hm, mw_33, mw_up33, xK_34 hm, xN_34 hm, xQ_34 hm, mw_34, mw_up34, xK_35 hm, xN_35 hm, xQ_35 hm, mw_35, mw_up35, xK_36 hm, xN_36 hm, xQ_36 hm, mw_36, mw_up36, xK_37 hm, xN_37 hm, xQ_37 hm, mw_37, mw_up37, if_true, nI_clamp (show j < 2 ^ 31 by omega), bd2 (show j < 160 by omega) (show j < 2 ^ 31 by omega), not_false_eq_true, (hk.2.1 _ hj).2.1, nI_leI (show tE (tsO t) j < 2 ^ 31 by omega) (show tE (tsO t) j < 2 ^ 31 by omega), Nat.le_refl])
    (tF (tsO t) j) (0, nI (tF (tsO t) j)) ⟨Nat.le_refl _, 0, rfl, by rw [Nat.sub_self]; exact Or.inl ⟨rfl, by simp [vc]⟩⟩ (by omega) kF (by unfold kF; omega)
  rw [e1]
  exact ⟨n, rfl, by rw [tk_v hj]; exact q⟩
/-- which word of a pair a token is -/
def wO (t : List Int32) (ts : List Tk) (p : List Int32 × List Int32) (j : Nat) : Nat := if iT t ts p.2 j = true then 1 else if iT t ts p.1 j = true then 0 else 2
theorem x_pairLoop (hm : mS S m) (hx : mTx G t w) (hk : mTk G t) (ht : t.length ≤ 160) {j : Nat} (hj : j < (tsO t).length) {q e : Nat} (he : 2 * q + e < 8) {l : List Int32} (hl20 : l.length ≤ 20) (hw : wA G 17 18 (2 * q + e) l) : ((iter (fun (z : Int32 × Int32) => f_X10_wordOf_b57 m (m + 27) (m + 18) (nI q) (nI j) (nI e) (sI S (mw I m G)) z.1 z.2) kF (bi (decide (tS (tsO t) j = l.length)), 0))) = some (bi (iT t (tsO t) l j)) := by
  have hl := (tsO_wT ht).1
  have hb := tk_b hj
  obtain ⟨w1, w2⟩ := hw
  have hpo : ∀ (o : Bool) (k : Nat), k ≤ l.length → (o = false ∨ k = l.length) → f_X10_wordOf_b57 m (m + 27) (m + 18) (nI q) (nI j) (nI e) (sI S (mw I m G)) (bi o) (nI k) = some (.inr (bi o)) := fun o k hk1 hk2 => by
    unfold f_X10_wordOf_b57
    simp only [kK_sI, kQ_sI, kN_sI, kI_sI, wI_sI, Option.bind_some, lt, mw_0, mw_up0, xK_0 hm, xK_1 hm, xN_1 hm, xQ_1 hm, mw_1, mw_up1, xK_2 hm, xN_2 hm, xQ_2 hm, mw_2, mw_up2, xK_3 hm, xN_3 hm, xQ_3 hm, mw_3, mw_up3, xK_4 hm, xN_4 hm, xQ_4 hm, mw_4, mw_up4, xK_5 hm, xN_5 hm, xQ_5 hm, mw_5, mw_up5, xK_6 hm, xN_6 hm, xQ_6 hm, mw_6, mw_up6, xK_7 hm, xN_7 hm, xQ_7 hm, mw_7, mw_up7, xK_8 hm, xN_8 hm, xQ_8 hm, mw_8, mw_up8, xK_9 hm, xN_9 hm, xQ_9 hm, mw_9, mw_up9, xK_10 hm, xN_10 hm, xQ_10 hm, mw_10, mw_up10, xK_11 hm, xN_11 hm, xQ_11 hm, mw_11, mw_up11, xK_12 hm, xN_12 hm, xQ_12 hm, mw_12, mw_up12, xK_13 hm, xN_13 hm, xQ_13 hm, mw_13, mw_up13, xK_14 hm, xN_14 hm, xQ_14 hm, mw_14, mw_up14, xK_15 hm, xN_15 hm, xQ_15 hm, mw_15, mw_up15, xK_16 hm, xN_16 hm, xQ_16 hm, mw_16, mw_up16, xK_17 hm, xN_17 hm, xQ_17 hm, mw_17, mw_up17, xK_18 hm, xN_18 hm, xQ_18 hm, mw_18, mw_up18, xK_19 hm, xN_19 hm, xQ_19 hm, mw_19, mw_up19, xK_20 hm, xN_20 hm, xQ_20 hm, mw_20, mw_up20, xK_21 hm, xN_21 hm, xQ_21 hm, mw_21, mw_up21, xK_22 hm, xN_22 hm, xQ_22 hm, mw_22, mw_up22, xK_23 hm, xN_23 hm, xQ_23 hm, mw_23, mw_up23, xK_24 hm, xN_24 hm, xQ_24 hm, mw_24, mw_up24, xK_25 hm, xN_25 hm, xQ_25 hm, mw_25, mw_up25, xK_26 hm, xN_26 hm, xQ_26 hm, mw_26, mw_up26, xK_27 hm, xN_27 hm, xQ_27 hm, mw_27, mw_up27, xK_28 hm, xN_28 hm, xQ_28 hm, mw_28, mw_up28, xK_29 hm, xN_29 hm, xQ_29 hm, mw_29, mw_up29, xK_30 hm, xN_30 hm, xQ_30 hm, mw_30, mw_up30, xK_31 hm, xN_31 hm, xQ_31 hm, mw_31, mw_up31, xK_32 hm, xN_32 hm, xQ_32 hm, mw_32, mw_up32, xK_33 hm, xN_33 hm, xQ_33 hm, mw_33, mw_up33, xK_34 hm, xN_34 hm, xQ_34 hm, mw_34, mw_up34, xK_35 hm, xN_35 hm, xQ_35 hm, mw_35, mw_up35, xK_36 hm, xN_36 hm, xQ_36 hm, mw_36, mw_up36, xK_37 hm, xN_37 hm, xQ_37 hm, mw_37, mw_up37, if_true, x_2mul, nI_add, nI_clamp (show 2 * q + e < 2 ^ 31 by omega), bd2 (show 2 * q + e < 8 by omega) (show 2 * q + e < 2 ^ 31 by omega), not_false_eq_true, w1, nI_leI (show l.length < 2 ^ 31 by omega) (show k < 2 ^ 31 by omega), bi_eq0]
    rcases hk2 with e | e
    · rw [if_pos e]; split <;> rfl
    · rw [if_pos (show l.length ≤ k by omega)]
  obtain ⟨z, e3, e4⟩ := it_all (b := fun (z : Int32 × Int32) => f_X10_wordOf_b57 m (m + 27) (m + 18) (nI q) (nI j) (nI e) (sI S (mw I m G)) z.1 z.2) l.length (fun q => decide (la t (tF (tsO t) j + q) = la l q)) (decide (tS (tsO t) j = l.length)) (by omega)
    (hpo false 0 (Nat.zero_le _) (Or.inl rfl))
    (fun h k hk1 => by
      have hle := of_decide_eq_true h
      refine ⟨?_, fun _ => hpo false k (by omega) (Or.inl rfl)⟩
      have hb3 : tF (tsO t) j + k < t.length := by unfold tS at hle; omega
      simp only
      unfold f_X10_wordOf_b57
      simp only [kK_sI, kQ_sI, kN_sI, kI_sI, wI_sI, Option.bind_some, lt, mw_0, mw_up0, xK_0 hm, xK_1 hm, xN_1 hm, xQ_1 hm, mw_1, mw_up1, xK_2 hm, xN_2 hm, xQ_2 hm, mw_2, mw_up2, xK_3 hm, xN_3 hm, xQ_3 hm, mw_3, mw_up3, xK_4 hm, xN_4 hm, xQ_4 hm, mw_4, mw_up4, xK_5 hm, xN_5 hm, xQ_5 hm, mw_5, mw_up5, xK_6 hm, xN_6 hm, xQ_6 hm, mw_6, mw_up6, xK_7 hm, xN_7 hm, xQ_7 hm, mw_7, mw_up7, xK_8 hm, xN_8 hm, xQ_8 hm, mw_8, mw_up8, xK_9 hm, xN_9 hm, xQ_9 hm, mw_9, mw_up9, xK_10 hm, xN_10 hm, xQ_10 hm, mw_10, mw_up10, xK_11 hm, xN_11 hm, xQ_11 hm, mw_11, mw_up11, xK_12 hm, xN_12 hm, xQ_12 hm, mw_12, mw_up12, xK_13 hm, xN_13 hm, xQ_13 hm, mw_13, mw_up13, xK_14 hm, xN_14 hm, xQ_14 hm, mw_14, mw_up14, xK_15 hm, xN_15 hm, xQ_15 hm, mw_15, mw_up15, xK_16 hm, xN_16 hm, xQ_16 hm, mw_16, mw_up16, xK_17 hm, xN_17 hm, xQ_17 hm, mw_17, mw_up17, xK_18 hm, xN_18 hm, xQ_18 hm, mw_18, mw_up18, xK_19 hm, xN_19 hm, xQ_19 hm, mw_19, mw_up19, xK_20 hm, xN_20 hm, xQ_20 hm, mw_20, mw_up20, xK_21 hm, xN_21 hm, xQ_21 hm, mw_21, mw_up21, xK_22 hm, xN_22 hm, xQ_22 hm, mw_22, mw_up22, xK_23 hm, xN_23 hm, xQ_23 hm, mw_23, mw_up23, xK_24 hm, xN_24 hm, xQ_24 hm, mw_24, mw_up24, xK_25 hm, xN_25 hm, xQ_25 hm, mw_25, mw_up25, xK_26 hm, xN_26 hm, xQ_26 hm, mw_26, mw_up26, xK_27 hm, xN_27 hm, xQ_27 hm, mw_27, mw_up27, xK_28 hm, xN_28 hm, xQ_28 hm, mw_28, mw_up28, xK_29 hm, xN_29 hm, xQ_29 hm, mw_29, mw_up29, xK_30 hm, xN_30 hm, xQ_30 hm, mw_30, mw_up30, xK_31 hm, xN_31 hm, xQ_31 hm, mw_31, mw_up31, xK_32 hm, xN_32 hm, xQ_32 hm, mw_32, mw_up32, xK_33 hm, xN_33 hm, xQ_33 hm, mw_33, mw_up33, xK_34 hm, xN_34 hm, xQ_34 hm, mw_34, mw_up34, xK_35 hm, xN_35 hm, xQ_35 hm, mw_35, mw_up35, xK_36 hm, xN_36 hm, xQ_36 hm, mw_36, mw_up36, xK_37 hm, xN_37 hm, xQ_37 hm, mw_37, mw_up37, if_true, x_2mul, nI_add, nI_clamp (show 2 * q + e < 2 ^ 31 by omega), bd2 (show 2 * q + e < 8 by omega) (show 2 * q + e < 2 ^ 31 by omega), not_false_eq_true, w1, nI_leI (show l.length < 2 ^ 31 by omega) (show k < 2 ^ 31 by omega), if_neg (show ¬ l.length ≤ k by omega), bi_eq0, Bool.true_eq_false, if_false, nI_clamp (show j < 2 ^ 31 by omega), bd2 (show j < 160 by omega) (show j < 2 ^ 31 by omega), (hk.2.1 _ hj).1, nI_clamp (show tF (tsO t) j + k < 2 ^ 31 by omega), bd2 (show tF (tsO t) j + k < 161 by omega) (show tF (tsO t) j + k < 2 ^ 31 by omega), x_mul20, nI_clamp (show (2 * q + e) * 20 + k < 2 ^ 31 by omega), bd2 (show (2 * q + e) * 20 + k < 160 by omega) (show (2 * q + e) * 20 + k < 2 ^ 31 by omega), hx.2.1 _ hb3, w2 k hk1, nI_1]
      by_cases e9 : la t (tF (tsO t) j + k) = la l k
      · rw [if_pos e9, decide_eq_true e9]; rfl
      · rw [if_neg e9, decide_eq_false e9]; rfl)
    (fun h p => hpo p l.length (Nat.le_refl _) (Or.inr rfl))
  rw [e3]
  refine congrArg (fun z => some (bi z)) (b_eq ?_)
  rw [e4]
  unfold iT
  simp only [decide_eq_true_eq]
  exact ⟨fun z => ⟨hj, z.1, z.2⟩, fun z => ⟨z.2.1, z.2.2⟩⟩
theorem x_wordOf (hm : mS S m) (hx : mTx G t w) (hk : mTk G t) (ht : t.length ≤ 160) {j : Nat} (hj : j < (tsO t).length) {q : Nat} (hq : q < 4) {p : List Int32 × List Int32} (hw1 : wA G 17 18 (2 * q) p.1) (hw2 : wA G 17 18 (2 * q + 1) p.2) (hd1 : isWd p.1) (hd2 : isWd p.2) : f_X10_wordOf (sI S (mw I m G)) m (nI q) (nI j) = some (nI (wO t (tsO t) p j)) := by
  have hl := (tsO_wT ht).1
  have hb := tk_b hj
  have hsz : nI (tE (tsO t) j) - nI (tF (tsO t) j) = nI (tS (tsO t) j) := pk_sub (by omega)
  have hts : tS (tsO t) j ≤ 160 := by unfold tS; omega
  unfold f_X10_wordOf
  simp only [lt]
  have step : ∀ (e : Nat) (l : List Int32) (x : Int32), e < 2 → isWd l → wA G 17 18 (2 * q + e) l → tW (tsO t) j = true → f_X10_wordOf_b5 m (nI q) (nI j) (sI S (mw I m G)) x (nI e) = some (.inl (if iT t (tsO t) l j = true then nI e else x, nI (e + 1))) := by
    intro e l x he hwd hla hW
    have hl20 := hwd.2.1
    have hloop := x_pairLoop (S := S) (I := I) hm hx hk ht hj (show 2 * q + e < 8 by omega) hl20 hla
    unfold f_X10_wordOf_b5
    simp only [kK_sI, kQ_sI, kN_sI, kI_sI, wI_sI, Option.bind_some, lt, mw_0, mw_up0, xK_0 hm, xK_1 hm, xN_1 hm, xQ_1 hm, mw_1, mw_up1, xK_2 hm, xN_2 hm, xQ_2 hm, mw_2, mw_up2, xK_3 hm, xN_3 hm, xQ_3 hm, mw_3, mw_up3, xK_4 hm, xN_4 hm, xQ_4 hm, mw_4, mw_up4, xK_5 hm, xN_5 hm, xQ_5 hm, mw_5, mw_up5, xK_6 hm, xN_6 hm, xQ_6 hm, mw_6, mw_up6, xK_7 hm, xN_7 hm, xQ_7 hm, mw_7, mw_up7, xK_8 hm, xN_8 hm, xQ_8 hm, mw_8, mw_up8, xK_9 hm, xN_9 hm, xQ_9 hm, mw_9, mw_up9, xK_10 hm, xN_10 hm, xQ_10 hm, mw_10, mw_up10, xK_11 hm, xN_11 hm, xQ_11 hm, mw_11, mw_up11, xK_12 hm, xN_12 hm, xQ_12 hm, mw_12, mw_up12, xK_13 hm, xN_13 hm, xQ_13 hm, mw_13, mw_up13, xK_14 hm, xN_14 hm, xQ_14 hm, mw_14, mw_up14, xK_15 hm, xN_15 hm, xQ_15 hm, mw_15, mw_up15, xK_16 hm, xN_16 hm, xQ_16 hm, mw_16, mw_up16, xK_17 hm, xN_17 hm, xQ_17 hm, mw_17, mw_up17, xK_18 hm, xN_18 hm, xQ_18 hm, mw_18, mw_up18, xK_19 hm, xN_19 hm, xQ_19 hm, mw_19, mw_up19, xK_20 hm, xN_20 hm, xQ_20 hm, mw_20, mw_up20, xK_21 hm, xN_21 hm, xQ_21 hm, mw_21, mw_up21, xK_22 hm, xN_22 hm, xQ_22 hm, mw_22, mw_up22, xK_23 hm, xN_23 hm, xQ_23 hm, mw_23, mw_up23, xK_24 hm, xN_24 hm, xQ_24 hm, mw_24, mw_up24, xK_25 hm, xN_25 hm, xQ_25 hm, mw_25, mw_up25, xK_26 hm, xN_26 hm, xQ_26 hm, mw_26, mw_up26, xK_27 hm, xN_27 hm, xQ_27 hm, mw_27, mw_up27, xK_28 hm, xN_28 hm, xQ_28 hm, mw_28, mw_up28, xK_29 hm, xN_29 hm, xQ_29 hm, mw_29, mw_up29, xK_30 hm, xN_30 hm, xQ_30 hm, mw_30, mw_up30, xK_31 hm, xN_31 hm, xQ_31 hm, mw_31, mw_up31, xK_32 hm, xN_32 hm, xQ_32 hm, mw_32, mw_up32, xK_33 hm, xN_33 hm, xQ_33 hm, mw_33, mw_up33, xK_34 hm, xN_34 hm, xQ_34 hm, mw_34, mw_up34, xK_35 hm, xN_35 hm, xQ_35 hm, mw_35, mw_up35, xK_36 hm, xN_36 hm, xQ_36 hm, mw_36, mw_up36, xK_37 hm, xN_37 hm, xQ_37 hm, mw_37, mw_up37, if_true, show (2 : Int32) = nI 2 from rfl, nI_leI (show 2 < 2 ^ 31 by decide) (show e < 2 ^ 31 by omega), if_neg (show ¬ 2 ≤ e by omega), nI_clamp (show j < 2 ^ 31 by omega), bd2 (show j < 160 by omega) (show j < 2 ^ 31 by omega), not_false_eq_true, (hk.2.1 _ hj).1, (hk.2.1 _ hj).2.1, (hk.2.1 _ hj).2.2, hW, bi_eq0, Bool.true_eq_false, if_false, hsz]
    simp only [show nI 2 * nI q = nI (2 * q) from x_2mul q, nI_add, nI_clamp (show 2 * q + e < 2 ^ 31 by omega), bd2 (show 2 * q + e < 8 by omega) (show 2 * q + e < 2 ^ 31 by omega), not_false_eq_true, if_true, hla.1, nI_eq (show tS (tsO t) j < 2 ^ 31 by omega) (show l.length < 2 ^ 31 by omega), nI_1]
    by_cases e9 : tS (tsO t) j = l.length
    · rw [decide_eq_true e9] at hloop
      rw [if_pos e9, show (1 : Int32) = bi true from rfl, hloop]
      simp only [Option.bind_some, bi_eq0]
      cases iT t (tsO t) l j <;> rfl
    · rw [decide_eq_false e9] at hloop
      have hl0 : (iter (fun (z : Int32 × Int32) => f_X10_wordOf_b57 m (m + 27) (m + 18) (nI q) (nI j) (nI e) (sI S (mw I m G)) z.1 z.2) kF ((0 : Int32), 0)) = some (bi (iT t (tsO t) l j)) := hloop
      rw [if_neg e9, hl0]
      simp only [Option.bind_some, bi_eq0]
      cases iT t (tsO t) l j <;> rfl
  have h2 : ∀ x, f_X10_wordOf_b5 m (nI q) (nI j) (sI S (mw I m G)) x (nI 2) = some (.inr x) := fun x => by
    unfold f_X10_wordOf_b5
    exact if_pos (by decide +kernel)
  cases hW : tW (tsO t) j with
  | false =>
    have hn : ∀ l, isWd l → iT t (tsO t) l j = false := fun l hl9 => by
      cases h : iT t (tsO t) l j with
      | false => rfl
      | true => rw [iT_word hl9 h] at hW; cases hW
    have h0 : f_X10_wordOf_b5 m (nI q) (nI j) (sI S (mw I m G)) 2 0 = some (.inr 2) := by
      unfold f_X10_wordOf_b5
      simp only [kK_sI, kQ_sI, kN_sI, kI_sI, wI_sI, Option.bind_some, lt, mw_0, mw_up0, xK_0 hm, xK_1 hm, xN_1 hm, xQ_1 hm, mw_1, mw_up1, xK_2 hm, xN_2 hm, xQ_2 hm, mw_2, mw_up2, xK_3 hm, xN_3 hm, xQ_3 hm, mw_3, mw_up3, xK_4 hm, xN_4 hm, xQ_4 hm, mw_4, mw_up4, xK_5 hm, xN_5 hm, xQ_5 hm, mw_5, mw_up5, xK_6 hm, xN_6 hm, xQ_6 hm, mw_6, mw_up6, xK_7 hm, xN_7 hm, xQ_7 hm, mw_7, mw_up7, xK_8 hm, xN_8 hm, xQ_8 hm, mw_8, mw_up8, xK_9 hm, xN_9 hm, xQ_9 hm, mw_9, mw_up9, xK_10 hm, xN_10 hm, xQ_10 hm, mw_10, mw_up10, xK_11 hm, xN_11 hm, xQ_11 hm, mw_11, mw_up11, xK_12 hm, xN_12 hm, xQ_12 hm, mw_12, mw_up12, xK_13 hm, xN_13 hm, xQ_13 hm, mw_13, mw_up13, xK_14 hm, xN_14 hm, xQ_14 hm, mw_14, mw_up14, xK_15 hm, xN_15 hm, xQ_15 hm, mw_15, mw_up15, xK_16 hm, xN_16 hm, xQ_16 hm, mw_16, mw_up16, xK_17 hm, xN_17 hm, xQ_17 hm, mw_17, mw_up17, xK_18 hm, xN_18 hm, xQ_18 hm, mw_18, mw_up18, xK_19 hm, xN_19 hm, xQ_19 hm, mw_19, mw_up19, xK_20 hm, xN_20 hm, xQ_20 hm, mw_20, mw_up20, xK_21 hm, xN_21 hm, xQ_21 hm, mw_21, mw_up21, xK_22 hm, xN_22 hm, xQ_22 hm, mw_22, mw_up22, xK_23 hm, xN_23 hm, xQ_23 hm, mw_23, mw_up23, xK_24 hm, xN_24 hm, xQ_24 hm, mw_24, mw_up24, xK_25 hm, xN_25 hm, xQ_25 hm, mw_25, mw_up25, xK_26 hm, xN_26 hm, xQ_26 hm, mw_26, mw_up26, xK_27 hm, xN_27 hm, xQ_27 hm, mw_27, mw_up27, xK_28 hm, xN_28 hm, xQ_28 hm, mw_28, mw_up28, xK_29 hm, xN_29 hm, xQ_29 hm, mw_29, mw_up29, xK_30 hm, xN_30 hm, xQ_30 hm, mw_30, mw_up30, xK_31 hm, xN_31 hm, xQ_31 hm, mw_31, mw_up31, xK_32 hm, xN_32 hm, xQ_32 hm, mw_32, mw_up32, xK_33 hm, xN_33 hm, xQ_33 hm, mw_33, mw_up33, xK_34 hm, xN_34 hm, xQ_34 hm, mw_34, mw_up34, xK_35 hm, xN_35 hm, xQ_35 hm, mw_35, mw_up35, xK_36 hm, xN_36 hm, xQ_36 hm, mw_36, mw_up36, xK_37 hm, xN_37 hm, xQ_37 hm, mw_37, mw_up37, if_true, show ¬ (2 : Int32) ≤ 0 by decide, if_false, nI_clamp (show j < 2 ^ 31 by omega), bd2 (show j < 160 by omega) (show j < 2 ^ 31 by omega), not_false_eq_true, (hk.2.1 _ hj).2.2, hW, bi_eq0]
    unfold wO
    rw [hn _ hd1, hn _ hd2]
    exact congrArg (fun o => o.bind fun v => some v) (iter_done (b := fun (v : Int32 × Int32) => f_X10_wordOf_b5 m (nI q) (nI j) (sI S (mw I m G)) v.1 v.2) (s := (2, 0)) h0 99999)
  | true =>
    have s0 := step 0 p.1 2 (by decide) hd1 hw1 hW
    have s1 := fun x => step 1 p.2 x (by decide) hd2 hw2 hW
    have e1 := (iter_next (b := fun (v : Int32 × Int32) => f_X10_wordOf_b5 m (nI q) (nI j) (sI S (mw I m G)) v.1 v.2) (s := (2, nI 0)) s0 99999).trans ((iter_next (s1 _) 99998).trans (iter_done (h2 _) 99997))
    refine (congrArg (fun o => o.bind fun v => some v) e1).trans ?_
    unfold wO
    cases iT t (tsO t) p.2 j <;> cases iT t (tsO t) p.1 j <;> rfl
theorem x_ignored (hm : mS S m) {d : Nat} (hd : d < 4) {k : Dk} (hk : mDk G d k) (hw : wD k) {r a b : Nat} (hr : r ≤ 20) (hab : a ≤ b) (hb : b ≤ 160) : f_X10_isIgnored (sI S (mw I m G)) m (nI d) (nI r) (nI a) (nI b) = some (bi (decide ((r, a, b - a) ∈ k.2.2.2))) := by
  obtain ⟨k1, k2, k3, k4, k5⟩ := hk
  obtain ⟨w1, w2, w3, w4, w5, w6⟩ := hw
  unfold f_X10_isIgnored
  simp only [lt, x_mul20]
  obtain ⟨z, e3, e4⟩ := it_any (b := fun (z : Int32 × Int32) => f_X10_isIgnored_b9 m (nI d) (nI r) (nI a) (nI b) (sI S (mw I m G)) z.1 z.2) (d * 20) (d * 20 + k.2.2.2.length) (fun i => match k.2.2.2[i - d * 20]? with | some g => decide (g.1 = r ∧ g.2.1 = a ∧ g.2.1 + g.2.2 = b) | none => false) (by omega) (by omega)
    (fun o i g1 g2 => by
      obtain ⟨g, hg⟩ : ∃ g, k.2.2.2[i - d * 20]? = some g := ⟨_, List.getElem?_eq_getElem (by omega)⟩
      obtain ⟨y1, y2, y3⟩ := k5 _ g hg
      rw [show d * 20 + (i - d * 20) = i by omega] at y1 y2 y3
      obtain ⟨z1, z2, z3⟩ := w5 _ g hg
      simp only
      unfold f_X10_isIgnored_b9
      simp only [kK_sI, kQ_sI, kN_sI, kI_sI, wI_sI, Option.bind_some, lt, mw_0, mw_up0, xK_0 hm, xK_1 hm, xN_1 hm, xQ_1 hm, mw_1, mw_up1, xK_2 hm, xN_2 hm, xQ_2 hm, mw_2, mw_up2, xK_3 hm, xN_3 hm, xQ_3 hm, mw_3, mw_up3, xK_4 hm, xN_4 hm, xQ_4 hm, mw_4, mw_up4, xK_5 hm, xN_5 hm, xQ_5 hm, mw_5, mw_up5, xK_6 hm, xN_6 hm, xQ_6 hm, mw_6, mw_up6, xK_7 hm, xN_7 hm, xQ_7 hm, mw_7, mw_up7, xK_8 hm, xN_8 hm, xQ_8 hm, mw_8, mw_up8, xK_9 hm, xN_9 hm, xQ_9 hm, mw_9, mw_up9, xK_10 hm, xN_10 hm, xQ_10 hm, mw_10, mw_up10, xK_11 hm, xN_11 hm, xQ_11 hm, mw_11, mw_up11, xK_12 hm, xN_12 hm, xQ_12 hm, mw_12, mw_up12, xK_13 hm, xN_13 hm, xQ_13 hm, mw_13, mw_up13, xK_14 hm, xN_14 hm, xQ_14 hm, mw_14, mw_up14, xK_15 hm, xN_15 hm, xQ_15 hm, mw_15, mw_up15, xK_16 hm, xN_16 hm, xQ_16 hm, mw_16, mw_up16, xK_17 hm, xN_17 hm, xQ_17 hm, mw_17, mw_up17, xK_18 hm, xN_18 hm, xQ_18 hm, mw_18, mw_up18, xK_19 hm, xN_19 hm, xQ_19 hm, mw_19, mw_up19, xK_20 hm, xN_20 hm, xQ_20 hm, mw_20, mw_up20, xK_21 hm, xN_21 hm, xQ_21 hm, mw_21, mw_up21, xK_22 hm, xN_22 hm, xQ_22 hm, mw_22, mw_up22, xK_23 hm, xN_23 hm, xQ_23 hm, mw_23, mw_up23, xK_24 hm, xN_24 hm, xQ_24 hm, mw_24, mw_up24, xK_25 hm, xN_25 hm, xQ_25 hm, mw_25, mw_up25, xK_26 hm, xN_26 hm, xQ_26 hm, mw_26, mw_up26, xK_27 hm, xN_27 hm, xQ_27 hm, mw_27, mw_up27, xK_28 hm, xN_28 hm, xQ_28 hm, mw_28, mw_up28, xK_29 hm, xN_29 hm, xQ_29 hm, mw_29, mw_up29, xK_30 hm, xN_30 hm, xQ_30 hm, mw_30, mw_up30, xK_31 hm, xN_31 hm, xQ_31 hm, mw_31, mw_up31, xK_32 hm, xN_32 hm, xQ_32 hm, mw_32, mw_up32, xK_33 hm, xN_33 hm, xQ_33 hm, mw_33, mw_up33, xK_34 hm, xN_34 hm, xQ_34 hm, mw_34, mw_up34, xK_35 hm, xN_35 hm, xQ_35 hm, mw_35, mw_up35, xK_36 hm, xN_36 hm, xQ_36 hm, mw_36, mw_up36, xK_37 hm, xN_37 hm, xQ_37 hm, mw_37, mw_up37, if_true, nI_clamp (show d < 2 ^ 31 by omega), bd2 (show d < 4 by omega) (show d < 2 ^ 31 by omega), not_false_eq_true, k4, x_mul20, nI_add, nI_leI (show d * 20 + k.2.2.2.length < 2 ^ 31 by omega) (show i < 2 ^ 31 by omega), if_neg (show ¬ d * 20 + k.2.2.2.length ≤ i by omega), nI_clamp (show i < 2 ^ 31 by omega), bd2 (show i < 80 by omega) (show i < 2 ^ 31 by omega), y1, y2, y3, bi_eq0, nI_eq (show g.1 < 2 ^ 31 by omega) (show r < 2 ^ 31 by omega), nI_eq (show g.2.1 < 2 ^ 31 by omega) (show a < 2 ^ 31 by omega), nI_eq (show g.2.1 + g.2.2 < 2 ^ 31 by omega) (show b < 2 ^ 31 by omega), nI_1, hg]
      cases o
      · by_cases q1 : g.1 = r
        · by_cases q2 : g.2.1 = a
          · by_cases q3 : g.2.1 + g.2.2 = b
            · rw [decide_eq_true ⟨q1, q2, q3⟩, if_pos rfl, if_pos q1, if_pos q2, if_pos q3]; rfl
            · rw [decide_eq_false (fun z => q3 z.2.2), if_pos rfl, if_pos q1, if_pos q2, if_neg q3]; rfl
          · rw [decide_eq_false (fun z => q2 z.2.1), if_pos rfl, if_pos q1, if_neg q2]; rfl
        · rw [decide_eq_false (fun z => q1 z.1), if_pos rfl, if_neg q1]; rfl
      · rfl)
    (fun o => by
      simp only
      unfold f_X10_isIgnored_b9
      simp only [kK_sI, kQ_sI, kN_sI, kI_sI, wI_sI, Option.bind_some, lt, mw_0, mw_up0, xK_0 hm, xK_1 hm, xN_1 hm, xQ_1 hm, mw_1, mw_up1, xK_2 hm, xN_2 hm, xQ_2 hm, mw_2, mw_up2, xK_3 hm, xN_3 hm, xQ_3 hm, mw_3, mw_up3, xK_4 hm, xN_4 hm, xQ_4 hm, mw_4, mw_up4, xK_5 hm, xN_5 hm, xQ_5 hm, mw_5, mw_up5, xK_6 hm, xN_6 hm, xQ_6 hm, mw_6, mw_up6, xK_7 hm, xN_7 hm, xQ_7 hm, mw_7, mw_up7, xK_8 hm, xN_8 hm, xQ_8 hm, mw_8, mw_up8, xK_9 hm, xN_9 hm, xQ_9 hm, mw_9, mw_up9, xK_10 hm, xN_10 hm, xQ_10 hm, mw_10, mw_up10, xK_11 hm, xN_11 hm, xQ_11 hm, mw_11, mw_up11, xK_12 hm, xN_12 hm, xQ_12 hm, mw_12, mw_up12, xK_13 hm, xN_13 hm, xQ_13 hm, mw_13, mw_up13, xK_14 hm, xN_14 hm, xQ_14 hm, mw_14, mw_up14, xK_15 hm, xN_15 hm, xQ_15 hm, mw_15, mw_up15, xK_16 hm, xN_16 hm, xQ_16 hm, mw_16, mw_up16, xK_17 hm, xN_17 hm, xQ_17 hm, mw_17, mw_up17, xK_18 hm, xN_18 hm, xQ_18 hm, mw_18, mw_up18, xK_19 hm, xN_19 hm, xQ_19 hm, mw_19, mw_up19, xK_20 hm, xN_20 hm, xQ_20 hm, mw_20, mw_up20, xK_21 hm, xN_21 hm, xQ_21 hm, mw_21, mw_up21, xK_22 hm, xN_22 hm, xQ_22 hm, mw_22, mw_up22, xK_23 hm, xN_23 hm, xQ_23 hm, mw_23, mw_up23, xK_24 hm, xN_24 hm, xQ_24 hm, mw_24, mw_up24, xK_25 hm, xN_25 hm, xQ_25 hm, mw_25, mw_up25, xK_26 hm, xN_26 hm, xQ_26 hm, mw_26, mw_up26, xK_27 hm, xN_27 hm, xQ_27 hm, mw_27, mw_up27, xK_28 hm, xN_28 hm, xQ_28 hm, mw_28, mw_up28, xK_29 hm, xN_29 hm, xQ_29 hm, mw_29, mw_up29, xK_30 hm, xN_30 hm, xQ_30 hm, mw_30, mw_up30, xK_31 hm, xN_31 hm, xQ_31 hm, mw_31, mw_up31, xK_32 hm, xN_32 hm, xQ_32 hm, mw_32, mw_up32, xK_33 hm, xN_33 hm, xQ_33 hm, mw_33, mw_up33, xK_34 hm, xN_34 hm, xQ_34 hm, mw_34, mw_up34, xK_35 hm, xN_35 hm, xQ_35 hm, mw_35, mw_up35, xK_36 hm, xN_36 hm, xQ_36 hm, mw_36, mw_up36, xK_37 hm, xN_37 hm, xQ_37 hm, mw_37, mw_up37, if_true, nI_clamp (show d < 2 ^ 31 by omega), bd2 (show d < 4 by omega) (show d < 2 ^ 31 by omega), not_false_eq_true, k4, x_mul20, nI_add, nI_leI (show d * 20 + k.2.2.2.length < 2 ^ 31 by omega) (show d * 20 + k.2.2.2.length < 2 ^ 31 by omega), Nat.le_refl]) false
  rw [show ((0 : Int32), nI (d * 20)) = (bi false, nI (d * 20)) from rfl, e3]
  simp only [Option.bind_some]
  rw [if_pos (by cases z <;> decide)]
  refine congrArg (fun z => some (bi z)) (b_eq ?_)
  rw [e4, decide_eq_true_eq]
  constructor
  · rintro (y | ⟨i, y1, y2, y3⟩)
    · cases y
    · obtain ⟨g, hg⟩ : ∃ g, k.2.2.2[i - d * 20]? = some g := ⟨_, List.getElem?_eq_getElem (by omega)⟩
      rw [hg] at y3
      obtain ⟨q1, q2, q3⟩ := of_decide_eq_true y3
      have : g = (r, a, b - a) := by
        obtain ⟨g1, g2, g3⟩ := g
        simp only at q1 q2 q3
        rw [q1, q2, show g3 = b - a by omega]
      rw [← this]
      exact List.mem_of_getElem? hg
  · intro y
    obtain ⟨i, hi⟩ := List.getElem?_of_mem y
    have := (List.getElem?_eq_some_iff.mp hi).1
    refine Or.inr ⟨d * 20 + i, by omega, by omega, ?_⟩
    rw [show d * 20 + i - d * 20 = i by omega, hi]
    exact decide_eq_true ⟨rfl, rfl, show a + (b - a) = b by omega⟩
theorem x_rankAt (hm : mS S m) {d : Nat} (hd : d < 4) {k : Dk} (hk : mDk G d k) (hw : wD k) {ru : List Rv} (hr : mRs G ru) {r : Nat} (hrl : r < ru.length) (h12 : ru.length ≤ 12) : f_X10_rankAt (sI S (mw I m G)) m (nI d) (nI r) = some (nI (rk ru k.1 r)) := by
  obtain ⟨v, hv⟩ : ∃ v, ru[r]? = some v := ⟨_, List.getElem?_eq_getElem hrl⟩
  obtain ⟨a1, a2, a3, a4, a5, -⟩ := hr.2.1 r v hv
  obtain ⟨n, hn⟩ : ∃ n, k.1[r]? = some n := ⟨_, List.getElem?_eq_getElem (by have := hw.1; omega)⟩
  have hn9 := hw.2.1 r n hn
  unfold f_X10_rankAt
  simp only [kK_sI, kQ_sI, kN_sI, kI_sI, wI_sI, Option.bind_some, lt, mw_0, mw_up0, xK_0 hm, xK_1 hm, xN_1 hm, xQ_1 hm, mw_1, mw_up1, xK_2 hm, xN_2 hm, xQ_2 hm, mw_2, mw_up2, xK_3 hm, xN_3 hm, xQ_3 hm, mw_3, mw_up3, xK_4 hm, xN_4 hm, xQ_4 hm, mw_4, mw_up4, xK_5 hm, xN_5 hm, xQ_5 hm, mw_5, mw_up5, xK_6 hm, xN_6 hm, xQ_6 hm, mw_6, mw_up6, xK_7 hm, xN_7 hm, xQ_7 hm, mw_7, mw_up7, xK_8 hm, xN_8 hm, xQ_8 hm, mw_8, mw_up8, xK_9 hm, xN_9 hm, xQ_9 hm, mw_9, mw_up9, xK_10 hm, xN_10 hm, xQ_10 hm, mw_10, mw_up10, xK_11 hm, xN_11 hm, xQ_11 hm, mw_11, mw_up11, xK_12 hm, xN_12 hm, xQ_12 hm, mw_12, mw_up12, xK_13 hm, xN_13 hm, xQ_13 hm, mw_13, mw_up13, xK_14 hm, xN_14 hm, xQ_14 hm, mw_14, mw_up14, xK_15 hm, xN_15 hm, xQ_15 hm, mw_15, mw_up15, xK_16 hm, xN_16 hm, xQ_16 hm, mw_16, mw_up16, xK_17 hm, xN_17 hm, xQ_17 hm, mw_17, mw_up17, xK_18 hm, xN_18 hm, xQ_18 hm, mw_18, mw_up18, xK_19 hm, xN_19 hm, xQ_19 hm, mw_19, mw_up19, xK_20 hm, xN_20 hm, xQ_20 hm, mw_20, mw_up20, xK_21 hm, xN_21 hm, xQ_21 hm, mw_21, mw_up21, xK_22 hm, xN_22 hm, xQ_22 hm, mw_22, mw_up22, xK_23 hm, xN_23 hm, xQ_23 hm, mw_23, mw_up23, xK_24 hm, xN_24 hm, xQ_24 hm, mw_24, mw_up24, xK_25 hm, xN_25 hm, xQ_25 hm, mw_25, mw_up25, xK_26 hm, xN_26 hm, xQ_26 hm, mw_26, mw_up26, xK_27 hm, xN_27 hm, xQ_27 hm, mw_27, mw_up27, xK_28 hm, xN_28 hm, xQ_28 hm, mw_28, mw_up28, xK_29 hm, xN_29 hm, xQ_29 hm, mw_29, mw_up29, xK_30 hm, xN_30 hm, xQ_30 hm, mw_30, mw_up30, xK_31 hm, xN_31 hm, xQ_31 hm, mw_31, mw_up31, xK_32 hm, xN_32 hm, xQ_32 hm, mw_32, mw_up32, xK_33 hm, xN_33 hm, xQ_33 hm, mw_33, mw_up33, xK_34 hm, xN_34 hm, xQ_34 hm, mw_34, mw_up34, xK_35 hm, xN_35 hm, xQ_35 hm, mw_35, mw_up35, xK_36 hm, xN_36 hm, xQ_36 hm, mw_36, mw_up36, xK_37 hm, xN_37 hm, xQ_37 hm, mw_37, mw_up37, if_true, x_mul12, nI_add, nI_clamp (show d * 12 + r < 2 ^ 31 by omega), bd2 (show d * 12 + r < 48 by omega) (show d * 12 + r < 2 ^ 31 by omega), not_false_eq_true, hk.2.1 r n hn, nI_eq0 (show n < 2 ^ 31 by omega), nI_clamp (show r < 2 ^ 31 by omega), bd2 (show r < 12 by omega) (show r < 2 ^ 31 by omega), a5]
  unfold rk la9
  rw [hv, hn]
  simp only [Option.getD_some]
  by_cases e : n = 0
  · rw [if_pos e, if_pos e]
  · rw [if_neg e, if_neg e]
end
