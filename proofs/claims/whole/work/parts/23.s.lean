section
variable {S : PS} {I G : Nat → Nat → Int32} {m : Nat} {T : St}
/-- taking out, many times -/
theorem x_takeN (hm : mS S m) (hG : mT G T) (hw : wf T) {f n : Nat} (hf : f + n ≤ T.2.1.length) : ∃ G', iter (fun (v : Int32 × PS) => f_X10_apply_b130 m (nI f) (nI n) v.1 v.2) kF (0, sI S (mw I m G)) = some (sI S (mw I m G')) ∧ mT G' (tkN T f n) ∧ (∀ j, j ≠ 3 → G' 0 j = G 0 j) ∧ ∀ k, 27 ≤ k → ∀ j, G' k j = G k j := by
  have ht := hw.2.1
  obtain ⟨z, e1, G', rfl, q⟩ := it_up (b := fun (v : Int32 × PS) => f_X10_apply_b130 m (nI f) (nI n) v.1 v.2) n
    (P := fun k s => ∃ G', s = (nI k, sI S (mw I m G')) ∧ mT G' (tkN T f k) ∧ (∀ j, j ≠ 3 → G' 0 j = G 0 j) ∧ ∀ k, 27 ≤ k → ∀ j, G' k j = G k j)
    (Q := fun z => ∃ G', z = sI S (mw I m G') ∧ mT G' (tkN T f n) ∧ (∀ j, j ≠ 3 → G' 0 j = G 0 j) ∧ ∀ k, 27 ≤ k → ∀ j, G' k j = G k j)
    (fun k s hk1 ⟨G', e, p1, p2, p3⟩ => by
      subst e
      obtain ⟨wk, lk⟩ := tkN_ok hw (f := f) k (by omega)
      obtain ⟨G2, e2, y1, y2, y3⟩ := x_takes (S := S) (I := I) hm p1 wk (p := f) (by omega)
      refine Or.inl ⟨(nI (k + 1), sI S (mw I m G2)), ?_, G2, rfl, y1, fun j hj => (y2 j hj).trans (p2 j hj), fun k hk j => (y3 k hk j).trans (p3 k hk j)⟩
      simp only
      unfold f_X10_apply_b130
      rw [if_neg (show ¬ nI n ≤ nI k from fun y => absurd ((nI_leI (show n < 2 ^ 31 by omega) (show k < 2 ^ 31 by omega)).mp y) (by omega)), if_pos (show kK (sI S (mw I m G')) m = 14 from xK_0 hm), e2, Option.bind_some, lt_eq, nI_1])
    (fun s ⟨G', e, p⟩ => by
      subst e
      refine ⟨_, ?_, G', rfl, p⟩
      simp only
      unfold f_X10_apply_b130
      exact if_pos ((nI_leI (by omega) (by omega)).mpr (Nat.le_refl _)))
    0 (0, sI S (mw I m G)) ⟨G, rfl, hG, fun _ _ => rfl, fun _ _ _ => rfl⟩ (Nat.zero_le _) kF (by unfold kF; omega)
  exact ⟨G', e1, q⟩
/-- putting in, many times -/
theorem x_putN (hm : mS S m) (hG : mT G T) (hw : wf T) {f w : Nat} (hw4 : w < 4) {l : List Int32} (hl : ∀ v ∈ l, txS v = true) (hf : f ≤ T.2.1.length) (hlen : T.2.1.length + l.length ≤ 160) (ho : mOut G l) : ∃ G', iter (fun (v : Int32 × PS) => f_X10_apply_b152 m (nI w) (nI f) v.1 v.2) kF (0, sI S (mw I m G)) = some (sI S (mw I m G')) ∧ mT G' (ptN T f l (nI w) l.length) ∧ (∀ j, j ≠ 3 → G' 0 j = G 0 j) := by
  have ht := hw.2.1
  obtain ⟨z, e1, G', rfl, q1, q2, q3⟩ := it_up (b := fun (v : Int32 × PS) => f_X10_apply_b152 m (nI w) (nI f) v.1 v.2) l.length
    (P := fun k s => ∃ G', s = (nI k, sI S (mw I m G')) ∧ mT G' (ptN T f l (nI w) k) ∧ (∀ j, j ≠ 3 → G' 0 j = G 0 j) ∧ ∀ k, 27 ≤ k → ∀ j, G' k j = G k j)
    (Q := fun z => ∃ G', z = sI S (mw I m G') ∧ mT G' (ptN T f l (nI w) l.length) ∧ (∀ j, j ≠ 3 → G' 0 j = G 0 j) ∧ ∀ k, 27 ≤ k → ∀ j, G' k j = G k j)
    (fun k s hk1 ⟨G', e, p1, p2, p3⟩ => by
      subst e
      obtain ⟨wk, lk⟩ := ptN_ok hw hw4 hl hf hlen k (by omega)
      have hc : txS (la l k) = true := hl _ (by rw [la_lt hk1]; exact List.getElem_mem hk1)
      obtain ⟨G2, e2, y1, y2, y3⟩ := x_puts (S := S) (I := I) hm p1 wk (p := f + k) (w := w) (by omega) (by omega) hc
      refine Or.inl ⟨(nI (k + 1), sI S (mw I m G2)), ?_, G2, rfl, y1, fun j hj => (y2 j hj).trans (p2 j hj), fun k hk j => (y3 k hk j).trans (p3 k hk j)⟩
      have h45 : G' 0 45 = nI l.length := (p2 45 (by decide)).trans ho.1
      have h37 : G' 37 k = la l k := (p3 37 (by decide) k).trans (ho.2 k hk1)
      simp only
      unfold f_X10_apply_b152
      simp only [↓reduceIte, kK_sI, kQ_sI, kN_sI, kI_sI, wI_sI, Option.bind_some, lt, mw_0, mw_up0, xK_0 hm, xK_1 hm, xN_1 hm, xQ_1 hm, mw_1, mw_up1, xK_2 hm, xN_2 hm, xQ_2 hm, mw_2, mw_up2, xK_3 hm, xN_3 hm, xQ_3 hm, mw_3, mw_up3, xK_4 hm, xN_4 hm, xQ_4 hm, mw_4, mw_up4, xK_5 hm, xN_5 hm, xQ_5 hm, mw_5, mw_up5, xK_6 hm, xN_6 hm, xQ_6 hm, mw_6, mw_up6, xK_7 hm, xN_7 hm, xQ_7 hm, mw_7, mw_up7, xK_8 hm, xN_8 hm, xQ_8 hm, mw_8, mw_up8, xK_9 hm, xN_9 hm, xQ_9 hm, mw_9, mw_up9, xK_10 hm, xN_10 hm, xQ_10 hm, mw_10, mw_up10, xK_11 hm, xN_11 hm, xQ_11 hm, mw_11, mw_up11, xK_12 hm, xN_12 hm, xQ_12 hm, mw_12, mw_up12, xK_13 hm, xN_13 hm, xQ_13 hm, mw_13, mw_up13, xK_14 hm, xN_14 hm, xQ_14 hm, mw_14, mw_up14, xK_15 hm, xN_15 hm, xQ_15 hm, mw_15, mw_up15, xK_16 hm, xN_16 hm, xQ_16 hm, mw_16, mw_up16, xK_17 hm, xN_17 hm, xQ_17 hm, mw_17, mw_up17, xK_18 hm, xN_18 hm, xQ_18 hm, mw_18, mw_up18, xK_19 hm, xN_19 hm, xQ_19 hm, mw_19, mw_up19, xK_20 hm, xN_20 hm, xQ_20 hm, mw_20, mw_up20, xK_21 hm, xN_21 hm, xQ_21 hm, mw_21, mw_up21, xK_22 hm, xN_22 hm, xQ_22 hm, mw_22, mw_up22, xK_23 hm, xN_23 hm, xQ_23 hm, mw_23, mw_up23, xK_24 hm, xN_24 hm, xQ_24 hm, mw_24, mw_up24, xK_25 hm, xN_25 hm, xQ_25 hm, mw_25, mw_up25, xK_26 hm, xN_26 hm, xQ_26 hm, mw_26, mw_up26, xK_27 hm, xN_27 hm, xQ_27 hm, mw_27, mw_up27, xK_28 hm, xN_28 hm, xQ_28 hm, mw_28, mw_up28, xK_29 hm, xN_29 hm, xQ_29 hm, mw_29, mw_up29, xK_30 hm, xN_30 hm, xQ_30 hm, mw_30, mw_up30, xK_31 hm, xN_31 hm, xQ_31 hm, mw_31, mw_up31, xK_32 hm, xN_32 hm, xQ_32 hm, mw_32, mw_up32, xK_33 hm, xN_33 hm, xQ_33 hm, mw_33, mw_up33, xK_34 hm, xN_34 hm, xQ_34 hm, mw_34, mw_up34, xK_35 hm, xN_35 hm, xQ_35 hm, mw_35, mw_up35, xK_36 hm, xN_36 hm, xQ_36 hm, mw_36, mw_up36, xK_37 hm, xN_37 hm, xQ_37 hm, mw_37, mw_up37, h45, nI_leI (show l.length < 2 ^ 31 by omega) (show k < 2 ^ 31 by omega), if_neg (show ¬ l.length ≤ k by omega), nI_clamp (show k < 2 ^ 31 by omega), bd2 (show k < 200 by omega) (show k < 2 ^ 31 by omega), not_false_eq_true, h37, nI_add, e2, nI_1])
    (fun s ⟨G', e, p1, p2, p3⟩ => by
      subst e
      refine ⟨_, ?_, G', rfl, p1, p2, p3⟩
      have h45 : G' 0 45 = nI l.length := (p2 45 (by decide)).trans ho.1
      simp only
      unfold f_X10_apply_b152
      simp only [↓reduceIte, kK_sI, kQ_sI, kN_sI, kI_sI, wI_sI, Option.bind_some, lt, mw_0, mw_up0, xK_0 hm, xK_1 hm, xN_1 hm, xQ_1 hm, mw_1, mw_up1, xK_2 hm, xN_2 hm, xQ_2 hm, mw_2, mw_up2, xK_3 hm, xN_3 hm, xQ_3 hm, mw_3, mw_up3, xK_4 hm, xN_4 hm, xQ_4 hm, mw_4, mw_up4, xK_5 hm, xN_5 hm, xQ_5 hm, mw_5, mw_up5, xK_6 hm, xN_6 hm, xQ_6 hm, mw_6, mw_up6, xK_7 hm, xN_7 hm, xQ_7 hm, mw_7, mw_up7, xK_8 hm, xN_8 hm, xQ_8 hm, mw_8, mw_up8, xK_9 hm, xN_9 hm, xQ_9 hm, mw_9, mw_up9, xK_10 hm, xN_10 hm, xQ_10 hm, mw_10, mw_up10, xK_11 hm, xN_11 hm, xQ_11 hm, mw_11, mw_up11, xK_12 hm, xN_12 hm, xQ_12 hm, mw_12, mw_up12, xK_13 hm, xN_13 hm, xQ_13 hm, mw_13, mw_up13, xK_14 hm, xN_14 hm, xQ_14 hm, mw_14, mw_up14, xK_15 hm, xN_15 hm, xQ_15 hm, mw_15, mw_up15, xK_16 hm, xN_16 hm, xQ_16 hm, mw_16, mw_up16, xK_17 hm, xN_17 hm, xQ_17 hm, mw_17, mw_up17, xK_18 hm, xN_18 hm, xQ_18 hm, mw_18, mw_up18, xK_19 hm, xN_19 hm, xQ_19 hm, mw_19, mw_up19, xK_20 hm, xN_20 hm, xQ_20 hm, mw_20, mw_up20, xK_21 hm, xN_21 hm, xQ_21 hm, mw_21, mw_up21, xK_22 hm, xN_22 hm, xQ_22 hm, mw_22, mw_up22, xK_23 hm, xN_23 hm, xQ_23 hm, mw_23, mw_up23, xK_24 hm, xN_24 hm, xQ_24 hm, mw_24, mw_up24, xK_25 hm, xN_25 hm, xQ_25 hm, mw_25, mw_up25, xK_26 hm, xN_26 hm, xQ_26 hm, mw_26, mw_up26, xK_27 hm, xN_27 hm, xQ_27 hm, mw_27, mw_up27, xK_28 hm, xN_28 hm, xQ_28 hm, mw_28, mw_up28, xK_29 hm, xN_29 hm, xQ_29 hm, mw_29, mw_up29, xK_30 hm, xN_30 hm, xQ_30 hm, mw_30, mw_up30, xK_31 hm, xN_31 hm, xQ_31 hm, mw_31, mw_up31, xK_32 hm, xN_32 hm, xQ_32 hm, mw_32, mw_up32, xK_33 hm, xN_33 hm, xQ_33 hm, mw_33, mw_up33, xK_34 hm, xN_34 hm, xQ_34 hm, mw_34, mw_up34, xK_35 hm, xN_35 hm, xQ_35 hm, mw_35, mw_up35, xK_36 hm, xN_36 hm, xQ_36 hm, mw_36, mw_up36, xK_37 hm, xN_37 hm, xQ_37 hm, mw_37, mw_up37, h45, nI_leI (show l.length < 2 ^ 31 by omega) (show l.length < 2 ^ 31 by omega), Nat.le_refl])
    0 (0, sI S (mw I m G)) ⟨G, rfl, hG, fun _ _ => rfl, fun _ _ _ => rfl⟩ (Nat.zero_le _) kF (by unfold kF; omega)
  exact ⟨G', e1, q1, q2⟩
theorem mx_apply (hm : mS S m) (hG : mT G T) (hw : wf T) (hs : ∀ d, d < 4 → ∃ TN, iS T d TN) (p i s w : Int32) : mZ S I m T (fun k => if k = 1 then 1 else if k = 5 then 2 else 3) 0 (f_X10_apply (sI S (mw I m G)) m p i s w) (a_apply T p i s w) := by
  have k0 : ∀ J, kK (sI S J) m = 14 := fun J => xK_0 hm
  have ht := hw.2.1
  unfold f_X10_apply a_apply
  rw [x_desk, Option.bind_some, lt_eq, lt_eq]
  cases hp : ix p 4 with
  | none =>
    rw [if_pos (show bi (none : Option Nat).isSome = 0 from rfl)]
    dsimp only
    rw [if_pos (k0 _), lt_eq, show wI (sI S (mw I m G)) m 0 1 = sI S (mw I m (uF G 0 0 1)) from by rw [wI_sI, mw_up0], if_pos (k0 _), if_neg (show ¬ kI (sI S (mw I m (uF G 0 0 1))) m 0 ≤ 0 from by rw [kI_sI, mw_0, uF_eq]; decide)]
    exact ⟨_, rfl, uF_eq _ _ _ _, hG.th _⟩
  | some d =>
    obtain ⟨hd, rfl⟩ := ix_some (by decide) hp
    rw [if_neg (show ¬ bi (some d : Option Nat).isSome = 0 from (by decide : ¬ bi true = 0)), show f_X10_in (sI S (mw I m G)) w 0 3 = some (bi (ix w (3 + 1)).isSome) from x_ix1 _ w (show 3 + 1 < 2 ^ 31 by decide), Option.bind_some]
    simp only
    cases hr : ix w (3 + 1) with
    | none =>
      rw [if_pos (show bi (none : Option Nat).isSome = 0 from rfl)]
      rw [if_pos (k0 _), lt_eq, show wI (sI S (mw I m G)) m 0 1 = sI S (mw I m (uF G 0 0 1)) from by rw [wI_sI, mw_up0], if_pos (k0 _), if_neg (show ¬ kI (sI S (mw I m (uF G 0 0 1))) m 0 ≤ 0 from by rw [kI_sI, mw_0, uF_eq]; decide)]
      exact ⟨_, rfl, uF_eq _ _ _ _, hG.th _⟩
    | some v =>
      obtain ⟨hv, rfl⟩ := ix_some (by decide) hr
      obtain ⟨TN, hTN⟩ := hs d hd
      have hlen := fL_len hw hd hTN
      obtain ⟨G', b, e, hG', hl, h00, hmd⟩ := x_isMade (S := S) (I := I) hm hw hd (hG.th 0) hTN i s
      rw [if_neg (show ¬ bi (some v : Option Nat).isSome = 0 from (by decide : ¬ bi true = 0))]
      rw [if_pos (k0 _), lt_eq, show wI (sI S (mw I m G)) m 0 0 = sI S (mw I m (uF G 0 0 0)) from by rw [wI_sI, mw_up0], if_pos (k0 _), if_pos (show kI (sI S (mw I m (uF G 0 0 0))) m 0 ≤ 0 from by rw [kI_sI, mw_0, uF_eq]; decide), e, Option.bind_some, lt_eq, lt_eq]
      have bad : ∀ (X : Option (PS × Int32)), (lt (wI (sI S (mw I m G')) m 0 2) fun S17 => if kK S17 m = 14 then if kI S17 m 0 ≤ 0 then X else some (S17, 0) else none) = some (sI S (mw I m (uF G' 0 0 2)), 0) := fun X => by
        rw [lt_eq, show wI (sI S (mw I m G')) m 0 2 = sI S (mw I m (uF G' 0 0 2)) from by rw [wI_sI, mw_up0], if_pos (k0 _), if_neg (show ¬ kI (sI S (mw I m (uF G' 0 0 2))) m 0 ≤ 0 from by rw [kI_sI, mw_0, uF_eq]; decide)]
      unfold mdP at hmd
      cases hi : ix i (fL T d).length with
      | none =>
        rw [hi] at hmd
        rw [show b = false from hmd, if_pos (show bi false = 0 from rfl)]
        dsimp only
        rw [if_pos (k0 _), lt_eq, show wI (sI S (mw I m G')) m 0 2 = sI S (mw I m (uF G' 0 0 2)) from by rw [wI_sI, mw_up0], if_pos (k0 _), if_neg (show ¬ kI (sI S (mw I m (uF G' 0 0 2))) m 0 ≤ 0 from by rw [kI_sI, mw_0, uF_eq]; decide)]
        exact ⟨_, rfl, uF_eq _ _ _ _, hG'.th _⟩
      | some q =>
        rw [hi] at hmd
        simp only at hmd ⊢
        obtain ⟨hq, rfl⟩ := ix_some (by omega) hi
        cases hk : ix s (sgN T (gp (fL T d) q).2) with
        | none =>
          rw [hk] at hmd
          rw [show b = false from hmd, if_pos (show bi false = 0 from rfl)]
          rw [if_pos (k0 _), lt_eq, show wI (sI S (mw I m G')) m 0 2 = sI S (mw I m (uF G' 0 0 2)) from by rw [wI_sI, mw_up0], if_pos (k0 _), if_neg (show ¬ kI (sI S (mw I m (uF G' 0 0 2))) m 0 ≤ 0 from by rw [kI_sI, mw_0, uF_eq]; decide)]
          exact ⟨_, rfl, uF_eq _ _ _ _, hG'.th _⟩
        | some k =>
          rw [hk] at hmd
          obtain ⟨hb, ho⟩ := hmd
          have hsgn : sgN T (gp (fL T d) q).2 ≤ 2 := by
            unfold sgN
            cases hv : T.2.2.2.2.1[(gp (fL T d) q).2]? with
            | none => simp only; split <;> omega
            | some v => exact (hw.2.2.2.2.2.2.1.2 _ v hv).2.2.2.2.2
          obtain ⟨hks, -⟩ := ix_some (show sgN T (gp (fL T d) q).2 < 2 ^ 31 by omega) hk
          have hsl := sugL_len hw (p := gp (fL T d) q) hks
          have htx := sugL_tx hw (p := gp (fL T d) q) hks
          obtain ⟨l, hl9⟩ : ∃ l, l = sugL T (gp (fL T d) q) k := ⟨_, rfl⟩
          obtain ⟨f, hf⟩ : ∃ f, f = fO T (gp (fL T d) q) := ⟨_, rfl⟩
          obtain ⟨n, hn⟩ : ∃ n, n = lO T (gp (fL T d) q) := ⟨_, rfl⟩
          obtain ⟨G1, hG1⟩ : ∃ G1, G1 = uF G' 0 0 0 := ⟨_, rfl⟩
          have hT1 : mT G1 T := by rw [hG1]; exact hG'.th 0
          have hl1 : mLk G1 T d := by rw [hG1]; exact hl.th 0
          have ho1 : mOut G1 (sugL T (gp (fL T d) q) k) := by rw [hG1]; exact ho.th 0
          obtain ⟨z, z1, z2, z3, z4, z5, z6, z7, z8, z9, z10, z11, z12⟩ := hl1.at (S := S) (I := I) hm hw hd hTN hq
          have h001 : G1 0 0 = 0 := by rw [hG1, uF_eq]
          dsimp only
          rw [← hl9] at ho1 hsl htx ⊢
          rw [← hf, ← hn] at z9 ⊢
          rw [← hf] at z3 z10
          have z5' : G1 33 z = nI (f + n) := by rw [z5, hf, hn]
          have b160 : ¬ (nI q < 0 ∨ kN (sI S (mw I m G1)) (m + 36) ≤ (nI q).toNatClampNeg) := by rw [show kN (sI S (mw I m G1)) (m + 36) = 160 from xN_36 hm]; exact bd z12 (by omega)
          have b160' := b160
          rw [nI_clamp (show q < 2 ^ 31 by omega)] at b160'
          rw [hb, if_neg (show ¬ bi true = 0 by decide)]
          rw [if_pos (k0 _), lt_eq, show wI (sI S (mw I m G')) m 0 0 = sI S (mw I m G1) from by rw [wI_sI, mw_up0, hG1], if_pos (k0 _), if_pos (show kI (sI S (mw I m G1)) m 0 ≤ 0 from by rw [kI_sI, mw_0, h001]; decide), show kQ (sI S (mw I m G1)) m 43 = some (m + 36) from xQ_36 hm, Option.bind_some, if_pos (show kK (sI S (mw I m G1)) (m + 36) = 101 from xK_36 hm), if_pos b160, nI_clamp (show q < 2 ^ 31 by omega), show kI (sI S (mw I m G1)) (m + 36) q = nI z from by rw [kI_sI, mw_36]; exact z2, z3, Option.bind_some, show kQ (sI S (mw I m G1)) m 39 = some (m + 33) from xQ_33 hm, Option.bind_some, if_pos b160', if_pos (show kK (sI S (mw I m G1)) (m + 33) = 101 from xK_33 hm), if_pos (show ¬ (nI z < 0 ∨ kN (sI S (mw I m G1)) (m + 33) ≤ (nI z).toNatClampNeg) from by rw [show kN (sI S (mw I m G1)) (m + 33) = 2800 from xN_33 hm]; exact bd z1 (by omega)), lt_eq, lt_eq, nI_clamp (show z < 2 ^ 31 by omega), show kI (sI S (mw I m G1)) (m + 33) z = nI (f + n) from by rw [kI_sI, mw_33]; exact z5', show nI (f + n) - nI f = nI n from (pk_sub (show f ≤ f + n by omega)).trans (congrArg nI (by omega)), show kI (sI S (mw I m G1)) m 3 = nI T.2.1.length from by rw [kI_sI, mw_0]; exact hT1.2.1.1, show kI (sI S (mw I m G1)) m 45 = nI l.length from by rw [kI_sI, mw_0]; exact ho1.1, show nI T.2.1.length - nI n = nI (T.2.1.length - n) from pk_sub (by omega), nI_add]
          by_cases e160 : T.2.1.length - n + l.length ≤ 160
          · rw [if_pos (show nI (T.2.1.length - n + l.length) ≤ (160 : Int32) from (nI_leI (by omega) (show 160 < 2 ^ 31 by decide)).mpr e160), if_pos e160]
            obtain ⟨G2, hG2⟩ : ∃ G2, G2 = uF G1 0 0 0 := ⟨_, rfl⟩
            have hT2 : mT G2 T := by rw [hG2]; exact hT1.th 0
            have ho2 : mOut G2 l := by rw [hG2]; exact ho1.th 0
            have h002 : G2 0 0 = 0 := by rw [hG2, uF_eq]
            obtain ⟨w1, w2⟩ := tkN_ok hw (f := f) n z9
            obtain ⟨G3, e3, y1, y2, y3⟩ := x_takeN (S := S) (I := I) hm hT2 hw z9
            have ho3 : mOut G3 l := ⟨(y2 45 (by decide)).trans ho2.1, fun i hi => (y3 37 (by decide) i).trans (ho2.2 i hi)⟩
            obtain ⟨G4, e4, x1, x2⟩ := x_putN (S := S) (I := I) hm y1 w1 hv htx (f := f) (by omega) (by omega) ho3
            have w4 := (ptN_ok w1 hv htx (f := f) (by omega) (by omega) l.length (Nat.le_refl _)).2
            dsimp only
            rw [lt_eq, show wI (sI S (mw I m G1)) m 0 0 = sI S (mw I m G2) from by rw [wI_sI, mw_up0, hG2], if_pos (k0 _), if_pos (show kI (sI S (mw I m G2)) m 0 ≤ 0 from by rw [kI_sI, mw_0, h002]; decide), lt_eq, e3]
            simp only [Option.bind_some]
            rw [lt_eq, e4]
            simp only [Option.bind_some]
            rw [if_pos (k0 _), show kI (sI S (mw I m G4)) m 3 = nI (ptN (tkN T f n) f l (nI v) l.length).2.1.length from by rw [kI_sI, mw_0]; exact x1.2.1.1]
            exact ⟨G4, rfl, (x2 0 (by decide)).trans ((y2 0 (by decide)).trans h002), x1⟩
          · rw [if_neg (show ¬ nI (T.2.1.length - n + l.length) ≤ (160 : Int32) from fun y => e160 ((nI_leI (by omega) (show 160 < 2 ^ 31 by decide)).mp y)), if_neg e160]
            dsimp only
            rw [lt_eq, show wI (sI S (mw I m G1)) m 0 3 = sI S (mw I m (uF G1 0 0 3)) from by rw [wI_sI, mw_up0], if_pos (k0 _), if_neg (show ¬ kI (sI S (mw I m (uF G1 0 0 3))) m 0 ≤ 0 from by rw [kI_sI, mw_0, uF_eq]; decide)]
            exact ⟨_, rfl, uF_eq _ _ _ _, hT1.th _⟩
end
