section HCASE
variable {p : Program} {l : Launch} {e : Env} {s : State} {m : MethodId} {below : List Frame} {meth : Method} {c : Code} {H : Heap} {locs : List Loc} {cells slots : Nat} {Q : State → Prop}
variable {b L x o o2 i : Nat} {ls : Array Slot} {D : va_G × Nat} {S0 P : PS} {T : St} {c0 : Cond} {xs : Nat → Int32}
set_option maxHeartbeats 4000000 in
set_option maxRecDepth 100000 in
theorem case_byRule (C : LC p l s m c b c0 D S0 L xs) (hi : i + 5 ≤ L) (hL : LH D S0 s x o o2 T P H locs) (hl : lv_has ls 9 (LB b x o o2 i)) (hc : cells + 93 ≤ 603072) (hs : slots + 4545 ≤ 7211114) (K : LK p l e room_1 s m b below meth c cells slots Q D S0 x o o2 i) : W p l e room_1 s m #[Value.ref b] below meth c H locs cells slots Q (F0 m 1655 ls []) := by
  obtain ⟨hx, hb, hml, hown, hts, hE, hNE, hCN, hst, hB, hX, hbl, hbA, hL9⟩ := id C
  obtain ⟨hH, hP, ⟨w1, hO⟩, ⟨w2, hO2⟩, ho, ho2, hoz, ho2z, hoA, ho2A, hne⟩ := id hL
  have hek := hL.k9
  obtain ⟨r, hf, htie, hj, hv⟩ := op_byRule hP (xs (i + 1)) (xs (i + 2))
  refine lv_aload_n hx hb dL_law_1655 rfl (lv_at hl 1 rfl) ?_
  refine r_arg 1 C hH (lv_at hl 0 rfl) (lv_at hl 5 rfl) (by decide) hi dL_law_1656 dL_law_1657 dL_law_1659 dL_law_1660 dL_law_1661 ?_
  refine r_arg 2 C hH (lv_at hl 0 rfl) (lv_at hl 5 rfl) (by decide) hi dL_law_1662 dL_law_1663 dL_law_1665 dL_law_1666 dL_law_1667 ?_
  refine lv_aload_n hx hb dL_law_1668 rfl (lv_at hl 3 rfl) ?_
  refine r_wrap (As := [.ref x, .int (xs (i + 1)), .int (xs (i + 2)), .ref o]) (ty := .long) (o := o) (rest := []) ⟨hx, hb, hml, hown, hts⟩ (w_byRule l hst D P x (xs (i + 1)) (xs (i + 2)) o ho hoz (hB o hoA) hek r hf hj) (vx_cwSW 4 hts (gwS gw_48_19 gw_48_20 gw_43_13 gw_42_8) rfl rfl rfl (by decide +kernel) ⟨Nat.le_of_ble_eq_true rfl, Nat.le_of_ble_eq_true rfl⟩) hH hE hB hNE hCN hO hoA rfl hl.1 rfl (Nat.le_of_ble_eq_true rfl) dL_law_1669 ⟨by show _ + _ ≤ 603072; omega, by show _ + _ ≤ 7211114; omega⟩ (fun u H1 locs1 hru hH1 hO1 hk1 hq1 => ?_) (fun u z H1 locs1 hru hz hH1 hO1 hk1 hq1 => ?_)
  · cases r with
    | inr q => cases hru
    | inl q =>
      have hru : u = (q.1, _) := (Sum.inl.inj hru).symm
      subst hru
      obtain ⟨P2, T', hm9, hth, hl2⟩ := htie
      refine lv_istore (lv' := (6, .int 0) :: LB b x o o2 i) hx hb dL_law_1672 hl (by decide) rfl (fun ls hl => ?_)
      refine lv_aload_n hx hb dL_law_1674 rfl (lv_at hl 3 rfl) ?_
      refine r_arg 1 C hH1 (lv_at hl 1 rfl) (lv_at hl 6 rfl) (by decide) hi dL_law_1675 dL_law_1676 dL_law_1678 dL_law_1679 dL_law_1680 ?_
      refine r_arg 2 C hH1 (lv_at hl 1 rfl) (lv_at hl 6 rfl) (by decide) hi dL_law_1681 dL_law_1682 dL_law_1684 dL_law_1685 dL_law_1686 ?_
      refine r_ki (As := [.int (xs (i + 1)), .int (xs (i + 2))]) ⟨hx, hb, hml, hown, hts⟩ (c_X10_byRule l D q.1 (x + 79) (xs (i + 1)) (xs (i + 2)) (P2, q.2) hm9) (cwV 2 hts (gwV gw_48_21 gw_48_22 gw_48_23 gw_31_10 gw_38_8) rfl rfl rfl (by decide +kernel) ⟨Nat.le_of_ble_eq_true rfl, Nat.le_of_ble_eq_true rfl⟩) hH1 hNE 13 ((hk1.1 _ hP.lt).trans hP.k10) (by decide) rfl rfl rfl hl.1 rfl (Nat.le_of_ble_eq_true rfl) dL_law_1687 ⟨by show _ + _ ≤ 603072; omega, by show _ + _ ≤ 7211114; omega⟩ (fun H2 locs2 hH2 hk2 hq2 => ?_)
      refine lv_istore (lv' := (7, .int q.2) :: (6, .int 0) :: LB b x o o2 i) hx hb dL_law_1690 hl (by decide) rfl (fun ls hl => ?_)
      have hL2 := hL.mid hk1 ⟨_, hO1⟩ hq1 hH2 hk2 hq2 hl2
      have hek2 := hl2.k10
      refine r_tail (k := 0) (v := q.2) C hH2 hek2 hth ((hk1.tr hk2).no ho hoz) (fun _ => hO1.heap (hq2 o hO1.lt (hk1.no ho hoz))) hl (by omega) (by omega) dL_law_1692 dL_law_1693 dL_law_1696 dL_law_1698 dL_law_1703 dL_law_1705 dL_law_1708 dL_law_1709 dL_law_1710 dL_law_1711 dL_law_1713 dL_law_1714 dL_law_1715 (fun H3 locs3 hH3 hq3 => ?_)
      refine lv_goto (tgt := 1961) hx hb dL_law_1720 (by decide) ?_
      refine W.widen (k := cells + 93) (n := slots + 4545) (by omega) (by omega) ?_
      exact K _ _ _ _ _ (hL2.step hH3 KD.rf hq3 hl2) (lv_sub hl [2, 3, 4, 5, 6, 7] rfl)
  · cases r with
    | inl q => cases hru
    | inr q =>
      have hru : u = q := (Sum.inr.inj hru).symm
      subst hru
      obtain ⟨hco, htie⟩ := htie
      obtain ⟨P2, vv, hm9, hth, hl2⟩ := htie z hz
      obtain ⟨kv, hkv⟩ : ∃ kv, kv = (fun _ : Nat => (1 : Int32)) u.2 := ⟨_, rfl⟩
      replace hco : kv ≠ 0 := by rw [hkv]; exact hco
      replace hth : kI P2 (x + 79) 0 = kv := by rw [hkv]; exact hth
      refine lv_topE (y := kv) hkv.symm ?_
      refine lv_istore (lv' := (6, .int kv) :: LB b x o o2 i) hx hb dL_law_1672 hl (by decide) rfl (fun ls hl => ?_)
      refine lv_aload_n hx hb dL_law_1674 rfl (lv_at hl 3 rfl) ?_
      refine r_arg 1 C hH1 (lv_at hl 1 rfl) (lv_at hl 6 rfl) (by decide) hi dL_law_1675 dL_law_1676 dL_law_1678 dL_law_1679 dL_law_1680 ?_
      refine r_arg 2 C hH1 (lv_at hl 1 rfl) (lv_at hl 6 rfl) (by decide) hi dL_law_1681 dL_law_1682 dL_law_1684 dL_law_1685 dL_law_1686 ?_
      refine r_ki (As := [.int (xs (i + 1)), .int (xs (i + 2))]) ⟨hx, hb, hml, hown, hts⟩ (c_X10_byRule l D (zS u.1 z) (x + 79) (xs (i + 1)) (xs (i + 2)) (P2, vv) hm9) (cwV 2 hts (gwV gw_48_21 gw_48_22 gw_48_23 gw_31_10 gw_38_8) rfl rfl rfl (by decide +kernel) ⟨Nat.le_of_ble_eq_true rfl, Nat.le_of_ble_eq_true rfl⟩) hH1 hNE 13 (((hk1.z hz).1 _ hP.lt).trans hP.k10) (by decide) rfl rfl rfl hl.1 rfl (Nat.le_of_ble_eq_true rfl) dL_law_1687 ⟨by show _ + _ ≤ 603072; omega, by show _ + _ ≤ 7211114; omega⟩ (fun H2 locs2 hH2 hk2 hq2 => ?_)
      refine lv_istore (lv' := (7, .int vv) :: (6, .int kv) :: LB b x o o2 i) hx hb dL_law_1690 hl (by decide) rfl (fun ls hl => ?_)
      have hL2 := hL.mid (hk1.z hz) hO1 hq1 hH2 hk2 hq2 hl2
      have hek2 := hl2.k10
      refine r_tail (k := kv) (v := vv) C hH2 hek2 hth (((hk1.z hz).tr hk2).no ho hoz) (fun h => absurd h hco) hl (by omega) (by omega) dL_law_1692 dL_law_1693 dL_law_1696 dL_law_1698 dL_law_1703 dL_law_1705 dL_law_1708 dL_law_1709 dL_law_1710 dL_law_1711 dL_law_1713 dL_law_1714 dL_law_1715 (fun H3 locs3 hH3 hq3 => ?_)
      refine lv_goto (tgt := 1961) hx hb dL_law_1720 (by decide) ?_
      refine W.widen (k := cells + 93) (n := slots + 4545) (by omega) (by omega) ?_
      exact K _ _ _ _ _ (hL2.step hH3 KD.rf hq3 hl2) (lv_sub hl [2, 3, 4, 5, 6, 7] rfl)
set_option maxHeartbeats 4000000 in
set_option maxRecDepth 100000 in
theorem case_byWriter (C : LC p l s m c b c0 D S0 L xs) (hi : i + 5 ≤ L) (hL : LH D S0 s x o o2 T P H locs) (hl : lv_has ls 9 (LB b x o o2 i)) (hc : cells + 93 ≤ 603072) (hs : slots + 4545 ≤ 7211114) (K : LK p l e room_1 s m b below meth c cells slots Q D S0 x o o2 i) : W p l e room_1 s m #[Value.ref b] below meth c H locs cells slots Q (F0 m 1723 ls []) := by
  obtain ⟨hx, hb, hml, hown, hts, hE, hNE, hCN, hst, hB, hX, hbl, hbA, hL9⟩ := id C
  obtain ⟨hH, hP, ⟨w1, hO⟩, ⟨w2, hO2⟩, ho, ho2, hoz, ho2z, hoA, ho2A, hne⟩ := id hL
  have hek := hL.k9
  obtain ⟨r, hf, htie, hj, hv⟩ := op_byWriter hP (xs (i + 1)) (xs (i + 2))
  refine lv_aload_n hx hb dL_law_1723 rfl (lv_at hl 1 rfl) ?_
  refine r_arg 1 C hH (lv_at hl 0 rfl) (lv_at hl 5 rfl) (by decide) hi dL_law_1724 dL_law_1725 dL_law_1727 dL_law_1728 dL_law_1729 ?_
  refine r_arg 2 C hH (lv_at hl 0 rfl) (lv_at hl 5 rfl) (by decide) hi dL_law_1730 dL_law_1731 dL_law_1733 dL_law_1734 dL_law_1735 ?_
  refine lv_aload_n hx hb dL_law_1736 rfl (lv_at hl 3 rfl) ?_
  refine r_wrap (As := [.ref x, .int (xs (i + 1)), .int (xs (i + 2)), .ref o]) (ty := .long) (o := o) (rest := []) ⟨hx, hb, hml, hown, hts⟩ (w_byWriter l hst D P x (xs (i + 1)) (xs (i + 2)) o ho hoz (hB o hoA) hek r hf hj) (vx_cwSW 4 hts (gwS gw_49_0 gw_49_1 gw_43_13 gw_42_12) rfl rfl rfl (by decide +kernel) ⟨Nat.le_of_ble_eq_true rfl, Nat.le_of_ble_eq_true rfl⟩) hH hE hB hNE hCN hO hoA rfl hl.1 rfl (Nat.le_of_ble_eq_true rfl) dL_law_1737 ⟨by show _ + _ ≤ 603072; omega, by show _ + _ ≤ 7211114; omega⟩ (fun u H1 locs1 hru hH1 hO1 hk1 hq1 => ?_) (fun u z H1 locs1 hru hz hH1 hO1 hk1 hq1 => ?_)
  · cases r with
    | inr q => cases hru
    | inl q =>
      have hru : u = (q.1, _) := (Sum.inl.inj hru).symm
      subst hru
      obtain ⟨P2, T', hm9, hth, hl2⟩ := htie
      refine lv_istore (lv' := (6, .int 0) :: LB b x o o2 i) hx hb dL_law_1740 hl (by decide) rfl (fun ls hl => ?_)
      refine lv_aload_n hx hb dL_law_1742 rfl (lv_at hl 3 rfl) ?_
      refine r_arg 1 C hH1 (lv_at hl 1 rfl) (lv_at hl 6 rfl) (by decide) hi dL_law_1743 dL_law_1744 dL_law_1746 dL_law_1747 dL_law_1748 ?_
      refine r_arg 2 C hH1 (lv_at hl 1 rfl) (lv_at hl 6 rfl) (by decide) hi dL_law_1749 dL_law_1750 dL_law_1752 dL_law_1753 dL_law_1754 ?_
      refine r_ki (As := [.int (xs (i + 1)), .int (xs (i + 2))]) ⟨hx, hb, hml, hown, hts⟩ (c_X10_byWriter l D q.1 (x + 79) (xs (i + 1)) (xs (i + 2)) (P2, q.2) hm9) (cwV 2 hts (gwV gw_49_2 gw_49_3 gw_49_4 gw_31_10 gw_38_9) rfl rfl rfl (by decide +kernel) ⟨Nat.le_of_ble_eq_true rfl, Nat.le_of_ble_eq_true rfl⟩) hH1 hNE 13 ((hk1.1 _ hP.lt).trans hP.k10) (by decide) rfl rfl rfl hl.1 rfl (Nat.le_of_ble_eq_true rfl) dL_law_1755 ⟨by show _ + _ ≤ 603072; omega, by show _ + _ ≤ 7211114; omega⟩ (fun H2 locs2 hH2 hk2 hq2 => ?_)
      refine lv_istore (lv' := (7, .int q.2) :: (6, .int 0) :: LB b x o o2 i) hx hb dL_law_1758 hl (by decide) rfl (fun ls hl => ?_)
      have hL2 := hL.mid hk1 ⟨_, hO1⟩ hq1 hH2 hk2 hq2 hl2
      have hek2 := hl2.k10
      refine r_tail (k := 0) (v := q.2) C hH2 hek2 hth ((hk1.tr hk2).no ho hoz) (fun _ => hO1.heap (hq2 o hO1.lt (hk1.no ho hoz))) hl (by omega) (by omega) dL_law_1760 dL_law_1761 dL_law_1764 dL_law_1766 dL_law_1771 dL_law_1773 dL_law_1776 dL_law_1777 dL_law_1778 dL_law_1779 dL_law_1781 dL_law_1782 dL_law_1783 (fun H3 locs3 hH3 hq3 => ?_)
      refine lv_goto (tgt := 1961) hx hb dL_law_1788 (by decide) ?_
      refine W.widen (k := cells + 93) (n := slots + 4545) (by omega) (by omega) ?_
      exact K _ _ _ _ _ (hL2.step hH3 KD.rf hq3 hl2) (lv_sub hl [2, 3, 4, 5, 6, 7] rfl)
  · cases r with
    | inl q => cases hru
    | inr q =>
      have hru : u = q := (Sum.inr.inj hru).symm
      subst hru
      obtain ⟨hco, htie⟩ := htie
      obtain ⟨P2, vv, hm9, hth, hl2⟩ := htie z hz
      obtain ⟨kv, hkv⟩ : ∃ kv, kv = (fun _ : Nat => (1 : Int32)) u.2 := ⟨_, rfl⟩
      replace hco : kv ≠ 0 := by rw [hkv]; exact hco
      replace hth : kI P2 (x + 79) 0 = kv := by rw [hkv]; exact hth
      refine lv_topE (y := kv) hkv.symm ?_
      refine lv_istore (lv' := (6, .int kv) :: LB b x o o2 i) hx hb dL_law_1740 hl (by decide) rfl (fun ls hl => ?_)
      refine lv_aload_n hx hb dL_law_1742 rfl (lv_at hl 3 rfl) ?_
      refine r_arg 1 C hH1 (lv_at hl 1 rfl) (lv_at hl 6 rfl) (by decide) hi dL_law_1743 dL_law_1744 dL_law_1746 dL_law_1747 dL_law_1748 ?_
      refine r_arg 2 C hH1 (lv_at hl 1 rfl) (lv_at hl 6 rfl) (by decide) hi dL_law_1749 dL_law_1750 dL_law_1752 dL_law_1753 dL_law_1754 ?_
      refine r_ki (As := [.int (xs (i + 1)), .int (xs (i + 2))]) ⟨hx, hb, hml, hown, hts⟩ (c_X10_byWriter l D (zS u.1 z) (x + 79) (xs (i + 1)) (xs (i + 2)) (P2, vv) hm9) (cwV 2 hts (gwV gw_49_2 gw_49_3 gw_49_4 gw_31_10 gw_38_9) rfl rfl rfl (by decide +kernel) ⟨Nat.le_of_ble_eq_true rfl, Nat.le_of_ble_eq_true rfl⟩) hH1 hNE 13 (((hk1.z hz).1 _ hP.lt).trans hP.k10) (by decide) rfl rfl rfl hl.1 rfl (Nat.le_of_ble_eq_true rfl) dL_law_1755 ⟨by show _ + _ ≤ 603072; omega, by show _ + _ ≤ 7211114; omega⟩ (fun H2 locs2 hH2 hk2 hq2 => ?_)
      refine lv_istore (lv' := (7, .int vv) :: (6, .int kv) :: LB b x o o2 i) hx hb dL_law_1758 hl (by decide) rfl (fun ls hl => ?_)
      have hL2 := hL.mid (hk1.z hz) hO1 hq1 hH2 hk2 hq2 hl2
      have hek2 := hl2.k10
      refine r_tail (k := kv) (v := vv) C hH2 hek2 hth (((hk1.z hz).tr hk2).no ho hoz) (fun h => absurd h hco) hl (by omega) (by omega) dL_law_1760 dL_law_1761 dL_law_1764 dL_law_1766 dL_law_1771 dL_law_1773 dL_law_1776 dL_law_1777 dL_law_1778 dL_law_1779 dL_law_1781 dL_law_1782 dL_law_1783 (fun H3 locs3 hH3 hq3 => ?_)
      refine lv_goto (tgt := 1961) hx hb dL_law_1788 (by decide) ?_
      refine W.widen (k := cells + 93) (n := slots + 4545) (by omega) (by omega) ?_
      exact K _ _ _ _ _ (hL2.step hH3 KD.rf hq3 hl2) (lv_sub hl [2, 3, 4, 5, 6, 7] rfl)
set_option maxHeartbeats 4000000 in
set_option maxRecDepth 100000 in
theorem case_checksum (C : LC p l s m c b c0 D S0 L xs) (hi : i + 5 ≤ L) (hL : LH D S0 s x o o2 T P H locs) (hl : lv_has ls 9 (LB b x o o2 i)) (hc : cells + 93 ≤ 603072) (hs : slots + 4545 ≤ 7211114) (K : LK p l e room_1 s m b below meth c cells slots Q D S0 x o o2 i) : W p l e room_1 s m #[Value.ref b] below meth c H locs cells slots Q (F0 m 1791 ls []) := by
  obtain ⟨hx, hb, hml, hown, hts, hE, hNE, hCN, hst, hB, hX, hbl, hbA, hL9⟩ := id C
  obtain ⟨hH, hP, ⟨w1, hO⟩, ⟨w2, hO2⟩, ho, ho2, hoz, ho2z, hoA, ho2A, hne⟩ := id hL
  have hek := hL.k9
  obtain ⟨P1, v, hf, P2, T', hm9, hl2⟩ := op_checksum hP
  refine lv_aload_n hx hb dL_law_1791 rfl (lv_at hl 1 rfl) ?_
  refine r_kle (As := []) ⟨hx, hb, hml, hown, hts⟩ (c_X9_checksum l hst D P x (P1, v) hf) (cwV 0 hts (gwV gw_49_5 gw_49_6 gw_49_7 gw_14_5 gw_28_14) rfl rfl rfl (by decide +kernel) ⟨Nat.le_of_ble_eq_true rfl, Nat.le_of_ble_eq_true rfl⟩) hH hE hB hNE 12 hek (by decide) rfl rfl rfl hl.1 rfl (Nat.le_of_ble_eq_true rfl) dL_law_1792 ⟨by show _ + _ ≤ 603072; omega, by show _ + _ ≤ 7211114; omega⟩ (fun H1 locs1 hH1 hk1 hq1 => ?_)
  refine lv_aload_n hx hb dL_law_1795 rfl (lv_at hl 2 rfl) ?_
  refine r_kl (As := []) ⟨hx, hb, hml, hown, hts⟩ (c_X10_checksum l D P1 (x + 79) (P2, v) hm9) (cwV 0 hts (gwV gw_49_8 gw_49_9 gw_49_10 gw_31_10 gw_38_10) rfl rfl rfl (by decide +kernel) ⟨Nat.le_of_ble_eq_true rfl, Nat.le_of_ble_eq_true rfl⟩) hH1 hNE 13 ((hk1.1 _ hP.lt).trans hP.k10) (by decide) rfl rfl rfl hl.1 rfl (Nat.le_of_ble_eq_true rfl) dL_law_1796 ⟨by show _ + _ ≤ 603072; omega, by show _ + _ ≤ 7211114; omega⟩ (fun H2 locs2 hH2 hk2 hq2 => ?_)
  have hL1 := LH.mid hL hk1 ⟨w1, hO.heap (hq1 o hO.lt (KD.rf.no ho hoz))⟩ (fun q a b => hq1 q a (fun z => b (Or.inl z))) hH2 hk2 hq2 hl2
  refine W.lcmp hx hb dL_law_1799 ?_
  refine lv_if_eq (tgt := 1961) hx hb dL_law_1800 (by decide) (fun _ => ?_) (fun h => absurd (lg_cmp_self _) h)
  refine W.widen (k := cells + 93) (n := slots + 4545) (by omega) (by omega) ?_
  exact K _ _ _ _ _ hL1 hl
set_option maxHeartbeats 4000000 in
set_option maxRecDepth 100000 in
theorem case_foundShare (C : LC p l s m c b c0 D S0 L xs) (hi : i + 5 ≤ L) (hL : LH D S0 s x o o2 T P H locs) (hl : lv_has ls 9 (LB b x o o2 i)) (hc : cells + 93 ≤ 603072) (hs : slots + 4545 ≤ 7211114) (K : LK p l e room_1 s m b below meth c cells slots Q D S0 x o o2 i) : W p l e room_1 s m #[Value.ref b] below meth c H locs cells slots Q (F0 m 1805 ls []) := by
  obtain ⟨hx, hb, hml, hown, hts, hE, hNE, hCN, hst, hB, hX, hbl, hbA, hL9⟩ := id C
  obtain ⟨hH, hP, ⟨w1, hO⟩, ⟨w2, hO2⟩, ho, ho2, hoz, ho2z, hoA, ho2A, hne⟩ := id hL
  have hek := hL.k9
  obtain ⟨r, hf, htie, hj, hv⟩ := op_foundShare hP (xs (i + 1))
  refine lv_aload_n hx hb dL_law_1805 rfl (lv_at hl 1 rfl) ?_
  refine r_arg 1 C hH (lv_at hl 0 rfl) (lv_at hl 5 rfl) (by decide) hi dL_law_1806 dL_law_1807 dL_law_1809 dL_law_1810 dL_law_1811 ?_
  refine lv_aload hx hb dL_law_1812 (lv_at hl 4 rfl) ?_
  refine r_wrap (As := [.ref x, .int (xs (i + 1)), .ref o2]) (ty := .double) (o := o2) (rest := []) ⟨hx, hb, hml, hown, hts⟩ (w_foundShare l hst D P x (xs (i + 1)) o2 ho2 ho2z (hB o2 ho2A) hek r hf hj (fun u hu => vf_f2d (hv u hu))) (vx_cwSW 3 hts (gwS gw_49_11 gw_49_12 gw_43_13 gw_42_16) rfl rfl rfl (by decide +kernel) ⟨Nat.le_of_ble_eq_true rfl, Nat.le_of_ble_eq_true rfl⟩) hH hE hB hNE hCN hO2 ho2A rfl hl.1 rfl (Nat.le_of_ble_eq_true rfl) dL_law_1814 ⟨by show _ + _ ≤ 603072; omega, by show _ + _ ≤ 7211114; omega⟩ (fun u H1 locs1 hru hH1 hO1 hk1 hq1 => ?_) (fun u z H1 locs1 hru hz hH1 hO1 hk1 hq1 => ?_)
  · cases r with
    | inr q => cases hru
    | inl q =>
      have hru : u = (q.1, _) := (Sum.inl.inj hru).symm
      subst hru
      obtain ⟨P2, T', hm9, hth, hl2⟩ := htie
      refine lv_istore (lv' := (6, .int 0) :: LB b x o o2 i) hx hb dL_law_1817 hl (by decide) rfl (fun ls hl => ?_)
      refine lv_aload_n hx hb dL_law_1819 rfl (lv_at hl 3 rfl) ?_
      refine r_arg 1 C hH1 (lv_at hl 1 rfl) (lv_at hl 6 rfl) (by decide) hi dL_law_1820 dL_law_1821 dL_law_1823 dL_law_1824 dL_law_1825 ?_
      refine r_kf (As := [.int (xs (i + 1))]) ⟨hx, hb, hml, hown, hts⟩ (c_X10_foundShare l D q.1 (x + 79) (xs (i + 1)) (P2, q.2) hm9) (cwV 1 hts (gwV gw_49_13 gw_49_14 gw_49_15 gw_31_10 gw_38_13) rfl rfl rfl (by decide +kernel) ⟨Nat.le_of_ble_eq_true rfl, Nat.le_of_ble_eq_true rfl⟩) hH1 hNE 13 ((hk1.1 _ hP.lt).trans hP.k10) (by decide) rfl rfl rfl hl.1 rfl (Nat.le_of_ble_eq_true rfl) dL_law_1826 ⟨by show _ + _ ≤ 603072; omega, by show _ + _ ≤ 7211114; omega⟩ (fun H2 locs2 hH2 hk2 hq2 => ?_)
      refine lv_fstore (lv' := (7, .float q.2) :: (6, .int 0) :: LB b x o o2 i) hx hb dL_law_1829 hl (by decide) rfl (fun ls hl => ?_)
      have hL2 := hL.mid2 hk1 ⟨_, hO1⟩ hq1 hH2 hk2 hq2 hl2
      have hek2 := hl2.k10
      have hf9 : f_X10_thrown P2 (x + 79) = some (kI P2 (x + 79) 0) := by unfold f_X10_thrown; rw [if_pos hek2]
      refine lv_aload_n hx hb dL_law_1831 rfl (lv_at hl 4 rfl) ?_
      refine r_ki (As := []) ⟨hx, hb, hml, hown, hts⟩ (c_X10_thrown l D P2 (x + 79) _ hf9) (cwV 0 hts (gwV gw_43_17 gw_43_18 gw_43_19 gw_31_10 gw_31_2) rfl rfl rfl (by decide +kernel) ⟨Nat.le_of_ble_eq_true rfl, Nat.le_of_ble_eq_true rfl⟩) hH2 hNE 13 hek2 (by decide) rfl rfl rfl hl.1 rfl (Nat.le_of_ble_eq_true rfl) dL_law_1832 ⟨by show _ + _ ≤ 603072; omega, by show _ + _ ≤ 7211114; omega⟩ (fun H3 locs3 hH3 _ hq3 => ?_)
      refine lv_iload hx hb dL_law_1835 (lv_at hl 1 rfl) ?_
      refine lv_icmp_eq (tgt := 1842) hx hb dL_law_1837 (by decide) (fun _ => ?_) (fun h => absurd hth h)
      refine lv_iload hx hb dL_law_1842 (lv_at hl 1 rfl) ?_
      refine lv_if_ne (tgt := 1880) hx hb dL_law_1844 (by decide) (fun h => absurd rfl h) (fun _ => ?_)
      have hO2b := hO1.heap (hq2 o2 hO1.lt (hk1.no ho2 ho2z))
      have hO3 := hO2b.heap (hq3 o2 hO2b.lt ((hk1.tr hk2).no ho2 ho2z))
      refine lv_aload hx hb dL_law_1847 (lv_at hl 6 rfl) ?_
      refine lv_iconst (v := 0) hx hb dL_law_1849 (by decide) ?_
      refine r_dald hx hb hO3 dL_law_1850 ?_
      refine lv_fload hx hb dL_law_1851 (lv_at hl 0 rfl) ?_
      refine lv_f2d hx hb dL_law_1853 (vf_f2d (hv q rfl)) ?_
      refine lv_dcmp hx hb dL_law_1854 ?_
      refine lv_if_eq (tgt := 1880) hx hb dL_law_1855 (by decide) (fun _ => ?_) (fun h => absurd (dcmp_self (vf_f2d (hv q rfl))) h)
      refine lv_goto (tgt := 1961) hx hb dL_law_1880 (by decide) ?_
      refine W.widen (k := cells + 93) (n := slots + 4545) (by omega) (by omega) ?_
      exact K _ _ _ _ _ (hL2.step hH3 KD.rf hq3 hl2) (lv_sub hl [2, 3, 4, 5, 6, 7] rfl)
  · cases r with
    | inl q => cases hru
    | inr q =>
      have hru : u = q := (Sum.inr.inj hru).symm
      subst hru
      obtain ⟨hco, htie⟩ := htie
      obtain ⟨P2, vv, hm9, hth, hl2⟩ := htie z hz
      obtain ⟨kv, hkv⟩ : ∃ kv, kv = (fun k : Nat => if k = 1 then (1 : Int32) else (2 : Int32)) u.2 := ⟨_, rfl⟩
      replace hco : kv ≠ 0 := by rw [hkv]; exact hco
      replace hth : kI P2 (x + 79) 0 = kv := by rw [hkv]; exact hth
      refine lv_topE (y := kv) hkv.symm ?_
      refine lv_istore (lv' := (6, .int kv) :: LB b x o o2 i) hx hb dL_law_1817 hl (by decide) rfl (fun ls hl => ?_)
      refine lv_aload_n hx hb dL_law_1819 rfl (lv_at hl 3 rfl) ?_
      refine r_arg 1 C hH1 (lv_at hl 1 rfl) (lv_at hl 6 rfl) (by decide) hi dL_law_1820 dL_law_1821 dL_law_1823 dL_law_1824 dL_law_1825 ?_
      refine r_kf (As := [.int (xs (i + 1))]) ⟨hx, hb, hml, hown, hts⟩ (c_X10_foundShare l D (zS u.1 z) (x + 79) (xs (i + 1)) (P2, vv) hm9) (cwV 1 hts (gwV gw_49_13 gw_49_14 gw_49_15 gw_31_10 gw_38_13) rfl rfl rfl (by decide +kernel) ⟨Nat.le_of_ble_eq_true rfl, Nat.le_of_ble_eq_true rfl⟩) hH1 hNE 13 (((hk1.z hz).1 _ hP.lt).trans hP.k10) (by decide) rfl rfl rfl hl.1 rfl (Nat.le_of_ble_eq_true rfl) dL_law_1826 ⟨by show _ + _ ≤ 603072; omega, by show _ + _ ≤ 7211114; omega⟩ (fun H2 locs2 hH2 hk2 hq2 => ?_)
      refine lv_fstore (lv' := (7, .float vv) :: (6, .int kv) :: LB b x o o2 i) hx hb dL_law_1829 hl (by decide) rfl (fun ls hl => ?_)
      have hL2 := hL.mid2 (hk1.z hz) hO1 hq1 hH2 hk2 hq2 hl2
      have hek2 := hl2.k10
      have hf9 : f_X10_thrown P2 (x + 79) = some (kI P2 (x + 79) 0) := by unfold f_X10_thrown; rw [if_pos hek2]
      refine lv_aload_n hx hb dL_law_1831 rfl (lv_at hl 4 rfl) ?_
      refine r_ki (As := []) ⟨hx, hb, hml, hown, hts⟩ (c_X10_thrown l D P2 (x + 79) _ hf9) (cwV 0 hts (gwV gw_43_17 gw_43_18 gw_43_19 gw_31_10 gw_31_2) rfl rfl rfl (by decide +kernel) ⟨Nat.le_of_ble_eq_true rfl, Nat.le_of_ble_eq_true rfl⟩) hH2 hNE 13 hek2 (by decide) rfl rfl rfl hl.1 rfl (Nat.le_of_ble_eq_true rfl) dL_law_1832 ⟨by show _ + _ ≤ 603072; omega, by show _ + _ ≤ 7211114; omega⟩ (fun H3 locs3 hH3 _ hq3 => ?_)
      refine lv_iload hx hb dL_law_1835 (lv_at hl 1 rfl) ?_
      refine lv_icmp_eq (tgt := 1842) hx hb dL_law_1837 (by decide) (fun _ => ?_) (fun h => absurd hth h)
      refine lv_iload hx hb dL_law_1842 (lv_at hl 1 rfl) ?_
      refine lv_if_ne (tgt := 1880) hx hb dL_law_1844 (by decide) (fun _ => ?_) (fun h => absurd h hco)
      refine lv_goto (tgt := 1961) hx hb dL_law_1880 (by decide) ?_
      refine W.widen (k := cells + 93) (n := slots + 4545) (by omega) (by omega) ?_
      exact K _ _ _ _ _ (hL2.step hH3 KD.rf hq3 hl2) (lv_sub hl [2, 3, 4, 5, 6, 7] rfl)
set_option maxHeartbeats 4000000 in
set_option maxRecDepth 100000 in
theorem case_meanWord (C : LC p l s m c b c0 D S0 L xs) (hi : i + 5 ≤ L) (hL : LH D S0 s x o o2 T P H locs) (hl : lv_has ls 9 (LB b x o o2 i)) (hc : cells + 93 ≤ 603072) (hs : slots + 4545 ≤ 7211114) (K : LK p l e room_1 s m b below meth c cells slots Q D S0 x o o2 i) : W p l e room_1 s m #[Value.ref b] below meth c H locs cells slots Q (F0 m 1883 ls []) := by
  obtain ⟨hx, hb, hml, hown, hts, hE, hNE, hCN, hst, hB, hX, hbl, hbA, hL9⟩ := id C
  obtain ⟨hH, hP, ⟨w1, hO⟩, ⟨w2, hO2⟩, ho, ho2, hoz, ho2z, hoA, ho2A, hne⟩ := id hL
  have hek := hL.k9
  obtain ⟨r, hf, htie, hj, hv⟩ := op_meanWord hP 
  refine lv_aload_n hx hb dL_law_1883 rfl (lv_at hl 1 rfl) ?_
  refine lv_aload hx hb dL_law_1884 (lv_at hl 4 rfl) ?_
  refine r_wrap (As := [.ref x, .ref o2]) (ty := .double) (o := o2) (rest := []) ⟨hx, hb, hml, hown, hts⟩ (w_meanWord l hst D P x  o2 ho2 ho2z (hB o2 ho2A) hek r hf hj) (vx_cwSW 2 hts (gwS gw_49_16 gw_49_17 gw_43_13 gw_42_21) rfl rfl rfl (by decide +kernel) ⟨Nat.le_of_ble_eq_true rfl, Nat.le_of_ble_eq_true rfl⟩) hH hE hB hNE hCN hO2 ho2A rfl hl.1 rfl (Nat.le_of_ble_eq_true rfl) dL_law_1886 ⟨by show _ + _ ≤ 603072; omega, by show _ + _ ≤ 7211114; omega⟩ (fun u H1 locs1 hru hH1 hO1 hk1 hq1 => ?_) (fun u z H1 locs1 hru hz hH1 hO1 hk1 hq1 => ?_)
  · cases r with
    | inr q => cases hru
    | inl q =>
      have hru : u = (q.1, _) := (Sum.inl.inj hru).symm
      subst hru
      obtain ⟨P2, T', hm9, hth, hl2⟩ := htie
      refine lv_istore (lv' := (6, .int 0) :: LB b x o o2 i) hx hb dL_law_1889 hl (by decide) rfl (fun ls hl => ?_)
      refine lv_aload_n hx hb dL_law_1891 rfl (lv_at hl 3 rfl) ?_
      refine r_kd (As := []) ⟨hx, hb, hml, hown, hts⟩ (c_X10_meanWord l D q.1 (x + 79)  (P2, q.2) hm9) (cwV 0 hts (gwV gw_49_18 gw_49_19 gw_49_20 gw_31_10 gw_38_14) rfl rfl rfl (by decide +kernel) ⟨Nat.le_of_ble_eq_true rfl, Nat.le_of_ble_eq_true rfl⟩) hH1 hNE 13 ((hk1.1 _ hP.lt).trans hP.k10) (by decide) rfl rfl rfl hl.1 rfl (Nat.le_of_ble_eq_true rfl) dL_law_1892 ⟨by show _ + _ ≤ 603072; omega, by show _ + _ ≤ 7211114; omega⟩ (fun H2 locs2 hH2 hk2 hq2 => ?_)
      refine lv_dstore (lv' := (7, .double q.2) :: (6, .int 0) :: LB b x o o2 i) hx hb dL_law_1895 hl (by decide) rfl (fun ls hl => ?_)
      have hL2 := hL.mid2 hk1 ⟨_, hO1⟩ hq1 hH2 hk2 hq2 hl2
      have hek2 := hl2.k10
      have hf9 : f_X10_thrown P2 (x + 79) = some (kI P2 (x + 79) 0) := by unfold f_X10_thrown; rw [if_pos hek2]
      refine lv_aload_n hx hb dL_law_1897 rfl (lv_at hl 4 rfl) ?_
      refine r_ki (As := []) ⟨hx, hb, hml, hown, hts⟩ (c_X10_thrown l D P2 (x + 79) _ hf9) (cwV 0 hts (gwV gw_43_17 gw_43_18 gw_43_19 gw_31_10 gw_31_2) rfl rfl rfl (by decide +kernel) ⟨Nat.le_of_ble_eq_true rfl, Nat.le_of_ble_eq_true rfl⟩) hH2 hNE 13 hek2 (by decide) rfl rfl rfl hl.1 rfl (Nat.le_of_ble_eq_true rfl) dL_law_1898 ⟨by show _ + _ ≤ 603072; omega, by show _ + _ ≤ 7211114; omega⟩ (fun H3 locs3 hH3 _ hq3 => ?_)
      refine lv_iload hx hb dL_law_1901 (lv_at hl 1 rfl) ?_
      refine lv_icmp_eq (tgt := 1908) hx hb dL_law_1903 (by decide) (fun _ => ?_) (fun h => absurd hth h)
      refine lv_iload hx hb dL_law_1908 (lv_at hl 1 rfl) ?_
      refine lv_if_ne (tgt := 1945) hx hb dL_law_1910 (by decide) (fun h => absurd rfl h) (fun _ => ?_)
      have hO2b := hO1.heap (hq2 o2 hO1.lt (hk1.no ho2 ho2z))
      have hO3 := hO2b.heap (hq3 o2 hO2b.lt ((hk1.tr hk2).no ho2 ho2z))
      refine lv_aload hx hb dL_law_1913 (lv_at hl 6 rfl) ?_
      refine lv_iconst (v := 0) hx hb dL_law_1915 (by decide) ?_
      refine r_dald hx hb hO3 dL_law_1916 ?_
      refine lv_dload hx hb dL_law_1917 (lv_at hl 0 rfl) ?_
      refine lv_dcmp hx hb dL_law_1919 ?_
      refine lv_if_eq (tgt := 1945) hx hb dL_law_1920 (by decide) (fun _ => ?_) (fun h => absurd (dcmp_self (hv q rfl)) h)
      refine lv_goto (tgt := 1961) hx hb dL_law_1945 (by decide) ?_
      refine W.widen (k := cells + 93) (n := slots + 4545) (by omega) (by omega) ?_
      exact K _ _ _ _ _ (hL2.step hH3 KD.rf hq3 hl2) (lv_sub hl [2, 3, 4, 5, 6, 7] rfl)
  · cases r with
    | inl q => cases hru
    | inr q =>
      have hru : u = q := (Sum.inr.inj hru).symm
      subst hru
      obtain ⟨hco, htie⟩ := htie
      obtain ⟨P2, vv, hm9, hth, hl2⟩ := htie z hz
      obtain ⟨kv, hkv⟩ : ∃ kv, kv = (fun _ : Nat => (1 : Int32)) u.2 := ⟨_, rfl⟩
      replace hco : kv ≠ 0 := by rw [hkv]; exact hco
      replace hth : kI P2 (x + 79) 0 = kv := by rw [hkv]; exact hth
      refine lv_topE (y := kv) hkv.symm ?_
      refine lv_istore (lv' := (6, .int kv) :: LB b x o o2 i) hx hb dL_law_1889 hl (by decide) rfl (fun ls hl => ?_)
      refine lv_aload_n hx hb dL_law_1891 rfl (lv_at hl 3 rfl) ?_
      refine r_kd (As := []) ⟨hx, hb, hml, hown, hts⟩ (c_X10_meanWord l D (zS u.1 z) (x + 79)  (P2, vv) hm9) (cwV 0 hts (gwV gw_49_18 gw_49_19 gw_49_20 gw_31_10 gw_38_14) rfl rfl rfl (by decide +kernel) ⟨Nat.le_of_ble_eq_true rfl, Nat.le_of_ble_eq_true rfl⟩) hH1 hNE 13 (((hk1.z hz).1 _ hP.lt).trans hP.k10) (by decide) rfl rfl rfl hl.1 rfl (Nat.le_of_ble_eq_true rfl) dL_law_1892 ⟨by show _ + _ ≤ 603072; omega, by show _ + _ ≤ 7211114; omega⟩ (fun H2 locs2 hH2 hk2 hq2 => ?_)
      refine lv_dstore (lv' := (7, .double vv) :: (6, .int kv) :: LB b x o o2 i) hx hb dL_law_1895 hl (by decide) rfl (fun ls hl => ?_)
      have hL2 := hL.mid2 (hk1.z hz) hO1 hq1 hH2 hk2 hq2 hl2
      have hek2 := hl2.k10
      have hf9 : f_X10_thrown P2 (x + 79) = some (kI P2 (x + 79) 0) := by unfold f_X10_thrown; rw [if_pos hek2]
      refine lv_aload_n hx hb dL_law_1897 rfl (lv_at hl 4 rfl) ?_
      refine r_ki (As := []) ⟨hx, hb, hml, hown, hts⟩ (c_X10_thrown l D P2 (x + 79) _ hf9) (cwV 0 hts (gwV gw_43_17 gw_43_18 gw_43_19 gw_31_10 gw_31_2) rfl rfl rfl (by decide +kernel) ⟨Nat.le_of_ble_eq_true rfl, Nat.le_of_ble_eq_true rfl⟩) hH2 hNE 13 hek2 (by decide) rfl rfl rfl hl.1 rfl (Nat.le_of_ble_eq_true rfl) dL_law_1898 ⟨by show _ + _ ≤ 603072; omega, by show _ + _ ≤ 7211114; omega⟩ (fun H3 locs3 hH3 _ hq3 => ?_)
      refine lv_iload hx hb dL_law_1901 (lv_at hl 1 rfl) ?_
      refine lv_icmp_eq (tgt := 1908) hx hb dL_law_1903 (by decide) (fun _ => ?_) (fun h => absurd hth h)
      refine lv_iload hx hb dL_law_1908 (lv_at hl 1 rfl) ?_
      refine lv_if_ne (tgt := 1945) hx hb dL_law_1910 (by decide) (fun _ => ?_) (fun h => absurd h hco)
      refine lv_goto (tgt := 1961) hx hb dL_law_1945 (by decide) ?_
      refine W.widen (k := cells + 93) (n := slots + 4545) (by omega) (by omega) ?_
      exact K _ _ _ _ _ (hL2.step hH3 KD.rf hq3 hl2) (lv_sub hl [2, 3, 4, 5, 6, 7] rfl)
set_option maxHeartbeats 4000000 in
set_option maxRecDepth 100000 in
theorem case_isSound (C : LC p l s m c b c0 D S0 L xs) (hi : i + 5 ≤ L) (hL : LH D S0 s x o o2 T P H locs) (hl : lv_has ls 9 (LB b x o o2 i)) (hc : cells + 93 ≤ 603072) (hs : slots + 4545 ≤ 7211114) (K : LK p l e room_1 s m b below meth c cells slots Q D S0 x o o2 i) : W p l e room_1 s m #[Value.ref b] below meth c H locs cells slots Q (F0 m 1948 ls []) := by
  obtain ⟨hx, hb, hml, hown, hts, hE, hNE, hCN, hst, hB, hX, hbl, hbA, hL9⟩ := id C
  obtain ⟨hH, hP, ⟨w1, hO⟩, ⟨w2, hO2⟩, ho, ho2, hoz, ho2z, hoA, ho2A, hne⟩ := id hL
  have hek := hL.k9
  obtain ⟨P1, v, hf, P2, T', hm9, hl2⟩ := op_isSound hP
  refine lv_aload_n hx hb dL_law_1948 rfl (lv_at hl 1 rfl) ?_
  refine r_kie (As := []) ⟨hx, hb, hml, hown, hts⟩ (c_X9_isSound l hst D P x (P1, v) hf) (cwV 0 hts (gwV gw_49_21 gw_49_22 gw_49_23 gw_14_5 gw_28_23) rfl rfl rfl (by decide +kernel) ⟨Nat.le_of_ble_eq_true rfl, Nat.le_of_ble_eq_true rfl⟩) hH hE hB hNE 12 hek (by decide) rfl rfl rfl hl.1 rfl (Nat.le_of_ble_eq_true rfl) dL_law_1949 ⟨by show _ + _ ≤ 603072; omega, by show _ + _ ≤ 7211114; omega⟩ (fun H1 locs1 hH1 hk1 hq1 => ?_)
  refine lv_aload_n hx hb dL_law_1952 rfl (lv_at hl 2 rfl) ?_
  refine r_ki (As := []) ⟨hx, hb, hml, hown, hts⟩ (c_X10_isSound l D P1 (x + 79) (P2, v) hm9) (cwV 0 hts (gwV gw_50_0 gw_50_1 gw_50_2 gw_31_10 gw_38_15) rfl rfl rfl (by decide +kernel) ⟨Nat.le_of_ble_eq_true rfl, Nat.le_of_ble_eq_true rfl⟩) hH1 hNE 13 ((hk1.1 _ hP.lt).trans hP.k10) (by decide) rfl rfl rfl hl.1 rfl (Nat.le_of_ble_eq_true rfl) dL_law_1953 ⟨by show _ + _ ≤ 603072; omega, by show _ + _ ≤ 7211114; omega⟩ (fun H2 locs2 hH2 hk2 hq2 => ?_)
  have hL1 := LH.mid hL hk1 ⟨w1, hO.heap (hq1 o hO.lt (KD.rf.no ho hoz))⟩ (fun q a b => hq1 q a (fun z => b (Or.inl z))) hH2 hk2 hq2 hl2
  refine lv_icmp_eq (tgt := 1961) hx hb dL_law_1956 (by decide) (fun _ => ?_) (fun h => absurd rfl h)
  refine W.widen (k := cells + 93) (n := slots + 4545) (by omega) (by omega) ?_
  exact K _ _ _ _ _ hL1 hl
end HCASE
