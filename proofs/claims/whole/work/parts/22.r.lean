/-! the item is kept -/
section
variable {S : PS} {I G : Nat → Nat → Int32} {m : Nat} {ty : List Int32} {α : Type}
theorem x_store (hm : mS S m) (hy : mTy G ty) (h20 : ty.length ≤ 20) (hty : ∀ j, j < ty.length → tyS (la ty j) = true) {f n k nr : Nat} {a b g : Bool} (h6 : G 0 6 = nI nr) (hnr : nr ≤ 12) (hk : g = true → k < 3) (hn : n = 0 ∨ f + n ≤ ty.length) : ∃ G', (∀ F : PS → Option α, (lt F fun j33 => if bi g = 0 then (j33 (sI S (mw I m G))) else (if (12 : Int32) ≤ (kI (sI S (mw I m G)) m 6) then (j33 (sI S (mw I m G))) else (lt (((kI (sI S (mw I m G)) m 6) * 3) + nI k) fun x46 => lt (fun (S50 : PS) => if kK S50 m = 14 then ((kQ S50 m 9).bind fun a54 => if kK S50 a54 = 101 then (if ¬ (x46 < 0 ∨ kN S50 a54 ≤ x46.toNatClampNeg) then (lt (wI S50 a54 x46.toNatClampNeg (nI n)) fun S58 => if kK S58 m = 14 then ((kQ S58 m 10).bind fun a61 => lt (fun (x63 : Int32) => if kK S58 a61 = 101 then (if ¬ (x46 < 0 ∨ kN S58 a61 ≤ x46.toNatClampNeg) then (lt (wI S58 a61 x46.toNatClampNeg x63) fun S67 => if kK S67 m = 14 then ((kQ S67 m 7).bind fun a70 => if kK S67 a70 = 101 then (if ¬ ((kI S67 m 6) < 0 ∨ kN S67 a70 ≤ (kI S67 m 6).toNatClampNeg) then (lt (wI S67 a70 (kI S67 m 6).toNatClampNeg (nI k + 1)) fun S74 => j33 S74) else none) else none) else none) else none) else none) fun j64 => if bi b = 0 then (if bi a = 0 then (j64 0) else (if nI n ≤ 0 then (j64 2) else (j64 1))) else (j64 3)) else none) else none) else none) else none) fun k51 => (iter (fun (v : Int32 × PS) => f_X10_isPattern_b198 m (nI n) (nI f) x46 v.1 v.2) kF (0, sI S (mw I m G))).bind (fun (v : PS) => k51 v)))) = F (sI S (mw I m G'))) ∧ (g = true → nr < 12 → G' 4 nr = nI (k + 1) ∧ G' 7 (nr * 3 + k) = nI (sor (b, a, sb ty f (f + n))) ∧ wA G' 5 6 (nr * 3 + k) (sb ty f (f + n))) ∧ ∀ c j, (¬ (c = 4 ∧ j = nr) ∧ ¬ (c = 5 ∧ (nr * 3 + k) * 20 ≤ j ∧ j < (nr * 3 + k) * 20 + 20) ∧ ¬ ((c = 6 ∨ c = 7) ∧ j = nr * 3 + k)) ∨ ¬ (g = true ∧ nr < 12) → G' c j = G c j := by
  by_cases hg : g = true ∧ nr < 12
  · obtain ⟨hg, h12⟩ := hg
    have hk := hk hg
    subst hg
    obtain ⟨G1, e1, c1, c2⟩ := x_cp198 (I := I) hm hy h20 hty (at9 := nr * 3 + k) (by omega) hn
    have hn20 : n ≤ 20 := by omega
    have hsl : (sb ty f (f + n)).length = n := by rw [sb_len]; omega
    refine ⟨uF (uF (uF G1 6 (nr * 3 + k) (nI n)) 7 (nr * 3 + k) (nI (sor (b, a, sb ty f (f + n))))) 4 nr (nI (k + 1)), fun F => ?_, fun _ _ => ⟨uF_eq _ _ _ _, by rw [uF_ne (Or.inl (by decide)), uF_eq], ?_, fun j hj => ?_⟩, fun c j hc => ?_⟩
    · have s6 : G1 0 6 = nI nr := by rw [c2 _ _ (by omega)]; exact h6
      have s6b : ∀ v, uF (uF G1 6 (nr * 3 + k) (nI n)) 7 (nr * 3 + k) v 0 6 = nI nr := fun v => by rw [uF_ne (Or.inl (by decide)), uF_ne (Or.inl (by decide))]; exact s6
      simp only [kK_sI, kQ_sI, kN_sI, kI_sI, wI_sI, Option.bind_some, lt, mw_0, mw_up0, xK_0 hm, xK_1 hm, xN_1 hm, xQ_1 hm, mw_1, mw_up1, xK_2 hm, xN_2 hm, xQ_2 hm, mw_2, mw_up2, xK_3 hm, xN_3 hm, xQ_3 hm, mw_3, mw_up3, xK_4 hm, xN_4 hm, xQ_4 hm, mw_4, mw_up4, xK_5 hm, xN_5 hm, xQ_5 hm, mw_5, mw_up5, xK_6 hm, xN_6 hm, xQ_6 hm, mw_6, mw_up6, xK_7 hm, xN_7 hm, xQ_7 hm, mw_7, mw_up7, xK_8 hm, xN_8 hm, xQ_8 hm, mw_8, mw_up8, xK_9 hm, xN_9 hm, xQ_9 hm, mw_9, mw_up9, xK_10 hm, xN_10 hm, xQ_10 hm, mw_10, mw_up10, xK_11 hm, xN_11 hm, xQ_11 hm, mw_11, mw_up11, xK_12 hm, xN_12 hm, xQ_12 hm, mw_12, mw_up12, xK_13 hm, xN_13 hm, xQ_13 hm, mw_13, mw_up13, xK_14 hm, xN_14 hm, xQ_14 hm, mw_14, mw_up14, xK_15 hm, xN_15 hm, xQ_15 hm, mw_15, mw_up15, xK_16 hm, xN_16 hm, xQ_16 hm, mw_16, mw_up16, xK_17 hm, xN_17 hm, xQ_17 hm, mw_17, mw_up17, xK_18 hm, xN_18 hm, xQ_18 hm, mw_18, mw_up18, xK_19 hm, xN_19 hm, xQ_19 hm, mw_19, mw_up19, xK_20 hm, xN_20 hm, xQ_20 hm, mw_20, mw_up20, xK_21 hm, xN_21 hm, xQ_21 hm, mw_21, mw_up21, xK_22 hm, xN_22 hm, xQ_22 hm, mw_22, mw_up22, xK_23 hm, xN_23 hm, xQ_23 hm, mw_23, mw_up23, xK_24 hm, xN_24 hm, xQ_24 hm, mw_24, mw_up24, xK_25 hm, xN_25 hm, xQ_25 hm, mw_25, mw_up25, xK_26 hm, xN_26 hm, xQ_26 hm, mw_26, mw_up26, xK_27 hm, xN_27 hm, xQ_27 hm, mw_27, mw_up27, xK_28 hm, xN_28 hm, xQ_28 hm, mw_28, mw_up28, xK_29 hm, xN_29 hm, xQ_29 hm, mw_29, mw_up29, xK_30 hm, xN_30 hm, xQ_30 hm, mw_30, mw_up30, xK_31 hm, xN_31 hm, xQ_31 hm, mw_31, mw_up31, xK_32 hm, xN_32 hm, xQ_32 hm, mw_32, mw_up32, xK_33 hm, xN_33 hm, xQ_33 hm, mw_33, mw_up33, xK_34 hm, xN_34 hm, xQ_34 hm, mw_34, mw_up34, xK_35 hm, xN_35 hm, xQ_35 hm, mw_35, mw_up35, xK_36 hm, xN_36 hm, xQ_36 hm, mw_36, mw_up36, xK_37 hm, xN_37 hm, xQ_37 hm, mw_37, mw_up37, if_true, h6, show (12 : Int32) = nI 12 from rfl, nI_leI (show 12 < 2 ^ 31 by decide) (show nr < 2 ^ 31 by omega), if_neg (show ¬ 12 ≤ nr by omega), if_neg (show ¬ bi true = 0 by decide), x_mul3, nI_add, e1, nI_clamp (show nr * 3 + k < 2 ^ 31 by omega), bd2 (show nr * 3 + k < 36 by omega) (show nr * 3 + k < 2 ^ 31 by omega), not_false_eq_true, s6b, nI_clamp (show nr < 2 ^ 31 by omega), bd2 (show nr < 12 by omega) (show nr < 2 ^ 31 by omega), nI_1, nI_le0 (show n < 2 ^ 31 by omega)]
      unfold sor
      simp only [hsl]
      cases b
      · cases a
        · rfl
        · by_cases h0 : n = 0
          · simp [bi, h0]; rfl
          · simp [bi, h0, Nat.pos_of_ne_zero h0]; rfl
      · rfl
    · rw [uF_ne (Or.inl (by decide)), uF_ne (Or.inl (by decide)), uF_eq, hsl]
    · rw [hsl] at hj
      rw [uF_ne (Or.inl (by decide)), uF_ne (Or.inl (by decide)), uF_ne (Or.inl (by decide)), c1 j hj, la_sb (by omega)]
    · rcases hc with ⟨h1, h2, h3⟩ | h
      · rw [uF_ne (by omega), uF_ne (by omega), uF_ne (by omega)]; exact c2 c j (by omega)
      · exact absurd ⟨rfl, h12⟩ h
  · refine ⟨G, fun F => ?_, fun h1 h2 => absurd ⟨h1, h2⟩ hg, fun _ _ _ => rfl⟩
    simp only [lt, bi_eq0]
    by_cases h1 : g = false
    · rw [if_pos h1]
    · rw [if_neg h1, if_pos (by
        rw [kI_sI, mw_0, h6]
        exact nI_le (by
          cases g
          · exact absurd rfl h1
          · exact Nat.not_lt.mp (fun z => hg ⟨rfl, z⟩)) (by omega))]
end
