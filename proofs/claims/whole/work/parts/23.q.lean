section
variable {S : PS} {I G : Nat → Nat → Int32} {m : Nat} {T : St}
/-- whether a suggestion is made -/
noncomputable def mdP (G' : Nat → Nat → Int32) (T : St) (d : Nat) (i s : Int32) (b : Bool) : Prop := match ix i (fL T d).length with
  | none => b = false
  | some q => match ix s (sgN T (gp (fL T d) q).2) with
    | none => b = false
    | some k => b = true ∧ mOut G' (sugL T (gp (fL T d) q) k)
theorem x_isMade (hm : mS S m) (hw : wf T) {d : Nat} (hd : d < 4) (hG : mT G T) {TN : List Nat} (hs : iS T d TN) (i s : Int32) : ∃ G' b, f_X10_isMade (sI S (mw I m G)) m (nI d) i s = some (sI S (mw I m G'), bi b) ∧ mT G' T ∧ mLk G' T d ∧ G' 0 0 = G 0 0 ∧ mdP G' T d i s b := by
  have k0 : ∀ J, kK (sI S J) m = 14 := fun J => xK_0 hm
  obtain ⟨G1, e, q9, hl0⟩ := x_look (S := S) (I := I) hm hw hd hG hs
  have hlen := fL_len hw hd hs
  obtain ⟨G2, hG2⟩ : ∃ G2, G2 = uF G1 0 45 0 := ⟨_, rfl⟩
  have hqo : mQo G1 G2 := ⟨fun k a b j => by rw [hG2, uF_ne (by omega)], fun j a => by rw [hG2, uF_ne (by omega)]⟩
  have hT2 : mT G2 T := (hG.q q9.q).q hqo.q
  have hl := hqo.lk hl0
  have h00 : G2 0 0 = G 0 0 := (hqo.2 0 (by decide)).trans (q9.2 0 (by decide) (by decide) (by decide))
  have ho : mOut G2 [] := ⟨by rw [hG2, uF_eq]; rfl, fun i hi => absurd hi (Nat.not_lt_zero _)⟩
  unfold f_X10_isMade mdP
  rw [if_pos (k0 _), e, Option.bind_some, if_pos (k0 _), lt_eq, show wI (sI S (mw I m G1)) m 45 0 = sI S (mw I m G2) from by rw [wI_sI, mw_up0, hG2], if_pos (k0 _), show kI (sI S (mw I m G2)) m 42 = nI (fL T d).length from by rw [kI_sI, mw_0]; exact hl.2.1, x_ix _ i (show (fL T d).length < 2 ^ 31 by omega), Option.bind_some]
  cases hi : ix i (fL T d).length with
  | none =>
    rw [if_pos (show bi (none : Option Nat).isSome = 0 from rfl)]
    exact ⟨G2, false, rfl, hT2, hl, h00, rfl⟩
  | some n =>
    obtain ⟨hn, rfl⟩ := ix_some (by omega) hi
    obtain ⟨z, z1, z2, z3, z4, z5, z6, z7, z8, z9, z10, z11, z12⟩ := hl.at (S := S) (I := I) hm hw hd hs hn
    have hk9 := fL_kind hw hd hs (gp_mem hn)
    have hsg := x_sugOf (S := S) (I := I) hm hT2 hw z1 z6 z8 hk9.1 hk9.2
    obtain ⟨f1, f2, -⟩ := fL_ok hw hd hs (gp_mem hn)
    have hsgn : sgN T (gp (fL T d) n).2 ≤ 2 := by
      unfold sgN
      cases hv : T.2.2.2.2.1[(gp (fL T d) n).2]? with
      | none => simp only; split <;> omega
      | some v => exact (hw.2.2.2.2.2.2.1.2 _ v hv).2.2.2.2.2
    have b160 : ¬ (nI n < 0 ∨ kN (sI S (mw I m G2)) (m + 36) ≤ (nI n).toNatClampNeg) := by rw [show kN (sI S (mw I m G2)) (m + 36) = 160 from xN_36 hm]; exact bd z12 (by omega)
    rw [if_neg (show ¬ bi (some n : Option Nat).isSome = 0 from (by decide : ¬ bi true = 0)), show kQ (sI S (mw I m G2)) m 43 = some (m + 36) from xQ_36 hm, Option.bind_some, if_pos (show kK (sI S (mw I m G2)) (m + 36) = 101 from xK_36 hm), if_pos b160, nI_clamp (show n < 2 ^ 31 by omega), show kI (sI S (mw I m G2)) (m + 36) n = nI z from by rw [kI_sI, mw_36]; exact z2, hsg, Option.bind_some, x_ix _ s (show sgN T (gp (fL T d) n).2 < 2 ^ 31 by omega), Option.bind_some]
    dsimp only
    cases hk : ix s (sgN T (gp (fL T d) n).2) with
    | none =>
      rw [if_pos (show bi (none : Option Nat).isSome = 0 from rfl)]
      exact ⟨G2, false, rfl, hT2, hl, h00, rfl⟩
    | some k =>
      obtain ⟨hks, rfl⟩ := ix_some (by omega) hk
      rw [if_neg (show ¬ bi (some k : Option Nat).isSome = 0 from (by decide : ¬ bi true = 0)), if_pos (by rw [nI_clamp (show n < 2 ^ 31 by omega)] at b160; exact b160), lt_eq, show kQ (sI S (mw I m G2)) m 40 = some (m + 34) from xQ_34 hm, Option.bind_some, if_pos (show kK (sI S (mw I m G2)) (m + 34) = 101 from xK_34 hm), if_pos (show ¬ (nI z < 0 ∨ kN (sI S (mw I m G2)) (m + 34) ≤ (nI z).toNatClampNeg) from by rw [show kN (sI S (mw I m G2)) (m + 34) = 2800 from xN_34 hm]; exact bd z1 (by omega)), lt_eq, nI_clamp (show z < 2 ^ 31 by omega), show kI (sI S (mw I m G2)) (m + 34) z = nI (gp (fL T d) n).2 from by rw [kI_sI, mw_34]; exact z6]
      obtain ⟨j, hj⟩ : ∃ j, j = (gp (fL T d) n).1 := ⟨_, rfl⟩
      obtain ⟨r, hr⟩ : ∃ r, r = (gp (fL T d) n).2 := ⟨_, rfl⟩
      have hgp : gp (fL T d) n = (j, r) := by rw [hj, hr]
      rw [hgp] at z4 z6 z8 z11 hks f1 f2 hk9 ⊢
      simp only at z4 z6 z8 z11 hks f1 f2 hk9 ⊢
      have hmain : ∃ G', (if nI r < 12 then lt (nI r * 2 + nI k) fun x30 => lt (fun (S34 : PS) => some (S34, (1 : Int32))) fun k35 => (iter (fun (v : Int32 × PS) => f_X10_isMade_b149 m (nI z) x30 v.1 v.2) kF (0, sI S (mw I m G2))).bind fun (v : PS) => k35 v else (kQ (sI S (mw I m G2)) m 38).bind fun a59 => if kK (sI S (mw I m G2)) a59 = 101 then if ¬ (nI z < 0 ∨ kN (sI S (mw I m G2)) a59 ≤ z) then (f_X10_wordOf (sI S (mw I m G2)) m (nI r - 12) (kI (sI S (mw I m G2)) a59 z)).bind fun r63 => lt (2 * (nI r - 12) + 1 - r63) fun x65 => lt (fun (S69 : PS) => some (S69, (1 : Int32))) fun k70 => (iter (fun (v : Int32 × PS) => f_X10_isMade_b101 m x65 v.1 v.2) kF (0, sI S (mw I m G2))).bind fun (v : PS) => k70 v else none else none) = some (sI S (mw I m G'), bi true) ∧ mQo G2 G' ∧ mOut G' (sugL T (j, r) k) := by
        unfold sgN at hks
        have hn2 := (tsO_wT hw.2.1).1
        have hpl := hw.2.2.2.2.2.2.2.2.1
        by_cases e12 : r < 12
        · obtain ⟨v, hv⟩ : ∃ v, T.2.2.2.2.1[r]? = some v := ⟨_, List.getElem?_eq_getElem (hk9.1 e12)⟩
          rw [hv] at hks
          simp only at hks
          obtain ⟨sg, hsg9⟩ : ∃ sg, v.2.2.2.2.2[k]? = some sg := ⟨_, List.getElem?_eq_getElem hks⟩
          have hm9 : mI9 T.2.2.2.2.1 r = v.1.length := by unfold mI9; rw [hv]
          obtain ⟨G', e2, p1, p2⟩ := x_made1 (S := S) (I := I) hm hT2 hw hl.1 ho z1 z4 z6 hv (by rw [← hm9]; exact f2) hsg9
          refine ⟨G', ?_, p1, ?_⟩
          · rw [if_pos (show nI r < (12 : Int32) from (nI_ltI (show r < 2 ^ 31 by omega) (show 12 < 2 ^ 31 by decide)).mpr e12), lt_eq, x_mul2, nI_add, lt_eq, e2]
            rfl
          · unfold sugL
            simp only [hv, hsg9, Option.getD_some]
            exact p2
        · have hru := hw.2.2.2.2.2.2.1.1
          have hnone : T.2.2.2.2.1[r]? = none := List.getElem?_eq_none (by omega)
          rw [hnone] at hks
          simp only at hks
          have hq : r - 12 < T.2.2.2.2.2.1.length := by
            apply Classical.byContradiction
            intro y
            rw [if_neg (fun y2 => y y2.2)] at hks
            omega
          have hk0 : k = 0 := by
            rw [if_pos ⟨by omega, hq⟩] at hks
            omega
          obtain ⟨p, hp⟩ : ∃ p, T.2.2.2.2.2.1[r - 12]? = some p := ⟨_, List.getElem?_eq_getElem hq⟩
          obtain ⟨p1, p2, p3⟩ := hw.2.2.2.2.2.2.2.2.2.1 p (List.mem_of_getElem? hp)
          have hwp := hT2.2.2.2.2.1.2 (r - 12) p hp
          have hwo := x_wordOf (S := S) (I := I) hm hT2.2.1 hl.1 hw.2.1 z11 (show r - 12 < 4 by omega) hwp.1 hwp.2 p1 p2
          have hpf : pF T.2.1 (tsO T.2.1) p j = true := by
            have h9 := f1
            rw [show r = 12 + (r - 12) by omega] at h9
            exact ((cn_pair hw hd hp z11).mp h9).1
          have hone : iT T.2.1 (tsO T.2.1) p.1 j = true ∨ iT T.2.1 (tsO T.2.1) p.2 j = true := by
            unfold pF at hpf
            rw [Bool.and_eq_true] at hpf
            have h9 := hpf.2
            cases hpd : pD T.2.1 (tsO T.2.1) p j with
            | none => rw [hpd] at h9; cases h9
            | some u =>
              rw [hpd] at h9
              simp only at h9
              rcases pD_or hpd with e | e
              · rw [e] at h9; exact Or.inl h9
              · rw [e] at h9; exact Or.inr h9
          have hsub : nI r - 12 = nI (r - 12) := pk_sub (b := 12) (by omega)
          have hsug : sugL T (j, r) k = if iT T.2.1 (tsO T.2.1) p.1 j = true then p.2 else p.1 := by
            unfold sugL
            simp only [hnone, hp]
          rw [hsug]
          rw [if_neg (show ¬ nI r < (12 : Int32) from fun y => e12 ((nI_ltI (show r < 2 ^ 31 by omega) (show 12 < 2 ^ 31 by decide)).mp y)), show kQ (sI S (mw I m G2)) m 38 = some (m + 32) from xQ_32 hm, Option.bind_some, if_pos (show kK (sI S (mw I m G2)) (m + 32) = 101 from xK_32 hm), if_pos (show ¬ (nI z < 0 ∨ kN (sI S (mw I m G2)) (m + 32) ≤ z) from by rw [show kN (sI S (mw I m G2)) (m + 32) = 2800 from xN_32 hm]; exact bd2 z1 (by omega)), show kI (sI S (mw I m G2)) (m + 32) z = nI j from by rw [kI_sI, mw_32]; exact z4, hsub, hwo, Option.bind_some, lt_eq, lt_eq, x_2mul, nI_1]
          by_cases e1 : iT T.2.1 (tsO T.2.1) p.1 j = true
          · have e2 : ¬ iT T.2.1 (tsO T.2.1) p.2 j = true := fun y => p3 (iT_one e1 y)
            have hwo0 : wO T.2.1 (tsO T.2.1) p j = 0 := by unfold wO; rw [if_neg e2, if_pos e1]
            rw [if_pos e1, hwo0, show nI (2 * (r - 12) + 1) - nI 0 = nI (2 * (r - 12) + 1) from (pk_sub (Nat.zero_le _)).trans rfl]
            obtain ⟨G', e3, y1, y2⟩ := x_made2 (S := S) (I := I) hm hT2 ho (show 2 * (r - 12) + 1 < 8 by omega) p2 (fun G' h => (h.2.2.2.2.1.2 (r - 12) p hp).2)
            rw [e3]
            exact ⟨G', rfl, y1, y2⟩
          · have e2 : iT T.2.1 (tsO T.2.1) p.2 j = true := hone.resolve_left e1
            have hwo0 : wO T.2.1 (tsO T.2.1) p j = 1 := by unfold wO; rw [if_pos e2]
            rw [if_neg e1, hwo0, show nI (2 * (r - 12) + 1) - nI 1 = nI (2 * (r - 12)) from (pk_sub (show 1 ≤ 2 * (r - 12) + 1 by omega)).trans rfl]
            obtain ⟨G', e3, y1, y2⟩ := x_made2 (S := S) (I := I) hm hT2 ho (show 2 * (r - 12) < 8 by omega) p1 (fun G' h => (h.2.2.2.2.1.2 (r - 12) p hp).1)
            rw [e3]
            exact ⟨G', rfl, y1, y2⟩
      obtain ⟨G', y1, y2, y3⟩ := hmain
      exact ⟨G', true, y1, hT2.q y2.q, y2.lk hl, (y2.2 0 (by decide)).trans h00, rfl, y3⟩
end
