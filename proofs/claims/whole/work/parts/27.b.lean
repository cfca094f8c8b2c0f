section HCASE
variable {p : Program} {l : Launch} {e : Env} {s : State} {m : MethodId} {below : List Frame} {meth : Method} {c : Code} {H : Heap} {locs : List Loc} {cells slots : Nat} {Q : State → Prop}
variable {b L x o o2 i : Nat} {ls : Array Slot} {D : va_G × Nat} {S0 P : PS} {T : St} {c0 : Cond} {xs : Nat → Int32}
set_option maxHeartbeats 4000000 in
set_option maxRecDepth 100000 in
theorem case_suggest (C : LC p l s m c b c0 D S0 L xs) (hi : i + 5 ≤ L) (hL : LH D S0 s x o o2 T P H locs) (hl : lv_has ls 9 (LB b x o o2 i)) (hc : cells + 93 ≤ 603072) (hs : slots + 4545 ≤ 7211114) (K : LK p l e room_1 s m b below meth c cells slots Q D S0 x o o2 i) : W p l e room_1 s m #[Value.ref b] below meth c H locs cells slots Q (F0 m 612 ls []) := by
  obtain ⟨hx, hb, hml, hown, hts, hE, hNE, hCN, hst, hB, hX, hbl, hbA, hL9⟩ := id C
  obtain ⟨hH, hP, ⟨w1, hO⟩, ⟨w2, hO2⟩, ho, ho2, hoz, ho2z, hoA, ho2A, hne⟩ := id hL
  have hek := hL.k9
  obtain ⟨r, hf, htie, hj, hv⟩ := op_suggest hP (xs (i + 1))
  refine lv_aload_n hx hb dL_law_612 rfl (lv_at hl 1 rfl) ?_
  refine r_arg 1 C hH (lv_at hl 0 rfl) (lv_at hl 5 rfl) (by decide) hi dL_law_613 dL_law_614 dL_law_616 dL_law_617 dL_law_618 ?_
  refine lv_aload_n hx hb dL_law_619 rfl (lv_at hl 3 rfl) ?_
  refine r_wrap (As := [.ref x, .int (xs (i + 1)), .ref o]) (ty := .long) (o := o) (rest := []) ⟨hx, hb, hml, hown, hts⟩ (w_suggest l hst D P x (xs (i + 1)) o ho hoz (hB o hoA) hek r hf hj) (vx_cwSW 3 hts (gwS gw_45_9 gw_45_10 gw_43_13 gw_39_23) rfl rfl rfl (by decide +kernel) ⟨Nat.le_of_ble_eq_true rfl, Nat.le_of_ble_eq_true rfl⟩) hH hE hB hNE hCN hO hoA rfl hl.1 rfl (Nat.le_of_ble_eq_true rfl) dL_law_620 ⟨by show _ + _ ≤ 603072; omega, by show _ + _ ≤ 7211114; omega⟩ (fun u H1 locs1 hru hH1 hO1 hk1 hq1 => ?_) (fun u z H1 locs1 hru hz hH1 hO1 hk1 hq1 => ?_)
  · cases r with
    | inr q => cases hru
    | inl q =>
      have hru : u = (q.1, _) := (Sum.inl.inj hru).symm
      subst hru
      obtain ⟨P2, T', hm9, hth, hl2⟩ := htie
      refine lv_istore (lv' := (6, .int 0) :: LB b x o o2 i) hx hb dL_law_623 hl (by decide) rfl (fun ls hl => ?_)
      refine lv_aload_n hx hb dL_law_625 rfl (lv_at hl 3 rfl) ?_
      refine r_arg 1 C hH1 (lv_at hl 1 rfl) (lv_at hl 6 rfl) (by decide) hi dL_law_626 dL_law_627 dL_law_629 dL_law_630 dL_law_631 ?_
      refine r_ki (As := [.int (xs (i + 1))]) ⟨hx, hb, hml, hown, hts⟩ (c_X10_suggest l D q.1 (x + 79) (xs (i + 1)) (P2, q.2) hm9) (cwV 1 hts (gwV gw_45_11 gw_45_12 gw_45_13 gw_31_10 gw_33_21) rfl rfl rfl (by decide +kernel) ⟨Nat.le_of_ble_eq_true rfl, Nat.le_of_ble_eq_true rfl⟩) hH1 hNE 13 ((hk1.1 _ hP.lt).trans hP.k10) (by decide) rfl rfl rfl hl.1 rfl (Nat.le_of_ble_eq_true rfl) dL_law_632 ⟨by show _ + _ ≤ 603072; omega, by show _ + _ ≤ 7211114; omega⟩ (fun H2 locs2 hH2 hk2 hq2 => ?_)
      refine lv_istore (lv' := (7, .int q.2) :: (6, .int 0) :: LB b x o o2 i) hx hb dL_law_635 hl (by decide) rfl (fun ls hl => ?_)
      have hL2 := hL.mid hk1 ⟨_, hO1⟩ hq1 hH2 hk2 hq2 hl2
      have hek2 := hl2.k10
      refine r_tail (k := 0) (v := q.2) C hH2 hek2 hth ((hk1.tr hk2).no ho hoz) (fun _ => hO1.heap (hq2 o hO1.lt (hk1.no ho hoz))) hl (by omega) (by omega) dL_law_637 dL_law_638 dL_law_641 dL_law_643 dL_law_648 dL_law_650 dL_law_653 dL_law_654 dL_law_655 dL_law_656 dL_law_658 dL_law_659 dL_law_660 (fun H3 locs3 hH3 hq3 => ?_)
      refine lv_goto (tgt := 1961) hx hb dL_law_665 (by decide) ?_
      refine W.widen (k := cells + 93) (n := slots + 4545) (by omega) (by omega) ?_
      exact K _ _ _ _ _ (hL2.step hH3 KD.rf hq3 hl2) (lv_sub hl [2, 3, 4, 5, 6, 7] rfl)
  · cases r with
    | inl q => cases hru
    | inr q =>
      have hru : u = q := (Sum.inr.inj hru).symm
      subst hru
      obtain ⟨hco, htie⟩ := htie
      obtain ⟨P2, vv, hm9, hth, hl2⟩ := htie z hz
      obtain ⟨kv, hkv⟩ : ∃ kv, kv = (fun k : Nat => if k = 3 then (1 : Int32) else if k = 4 then (2 : Int32) else (3 : Int32)) u.2 := ⟨_, rfl⟩
      replace hco : kv ≠ 0 := by rw [hkv]; exact hco
      replace hth : kI P2 (x + 79) 0 = kv := by rw [hkv]; exact hth
      refine lv_topE (y := kv) hkv.symm ?_
      refine lv_istore (lv' := (6, .int kv) :: LB b x o o2 i) hx hb dL_law_623 hl (by decide) rfl (fun ls hl => ?_)
      refine lv_aload_n hx hb dL_law_625 rfl (lv_at hl 3 rfl) ?_
      refine r_arg 1 C hH1 (lv_at hl 1 rfl) (lv_at hl 6 rfl) (by decide) hi dL_law_626 dL_law_627 dL_law_629 dL_law_630 dL_law_631 ?_
      refine r_ki (As := [.int (xs (i + 1))]) ⟨hx, hb, hml, hown, hts⟩ (c_X10_suggest l D (zS u.1 z) (x + 79) (xs (i + 1)) (P2, vv) hm9) (cwV 1 hts (gwV gw_45_11 gw_45_12 gw_45_13 gw_31_10 gw_33_21) rfl rfl rfl (by decide +kernel) ⟨Nat.le_of_ble_eq_true rfl, Nat.le_of_ble_eq_true rfl⟩) hH1 hNE 13 (((hk1.z hz).1 _ hP.lt).trans hP.k10) (by decide) rfl rfl rfl hl.1 rfl (Nat.le_of_ble_eq_true rfl) dL_law_632 ⟨by show _ + _ ≤ 603072; omega, by show _ + _ ≤ 7211114; omega⟩ (fun H2 locs2 hH2 hk2 hq2 => ?_)
      refine lv_istore (lv' := (7, .int vv) :: (6, .int kv) :: LB b x o o2 i) hx hb dL_law_635 hl (by decide) rfl (fun ls hl => ?_)
      have hL2 := hL.mid (hk1.z hz) hO1 hq1 hH2 hk2 hq2 hl2
      have hek2 := hl2.k10
      refine r_tail (k := kv) (v := vv) C hH2 hek2 hth (((hk1.z hz).tr hk2).no ho hoz) (fun h => absurd h hco) hl (by omega) (by omega) dL_law_637 dL_law_638 dL_law_641 dL_law_643 dL_law_648 dL_law_650 dL_law_653 dL_law_654 dL_law_655 dL_law_656 dL_law_658 dL_law_659 dL_law_660 (fun H3 locs3 hH3 hq3 => ?_)
      refine lv_goto (tgt := 1961) hx hb dL_law_665 (by decide) ?_
      refine W.widen (k := cells + 93) (n := slots + 4545) (by omega) (by omega) ?_
      exact K _ _ _ _ _ (hL2.step hH3 KD.rf hq3 hl2) (lv_sub hl [2, 3, 4, 5, 6, 7] rfl)
set_option maxHeartbeats 4000000 in
set_option maxRecDepth 100000 in
theorem case_pair (C : LC p l s m c b c0 D S0 L xs) (hi : i + 5 ≤ L) (hL : LH D S0 s x o o2 T P H locs) (hl : lv_has ls 9 (LB b x o o2 i)) (hc : cells + 93 ≤ 603072) (hs : slots + 4545 ≤ 7211114) (K : LK p l e room_1 s m b below meth c cells slots Q D S0 x o o2 i) : W p l e room_1 s m #[Value.ref b] below meth c H locs cells slots Q (F0 m 668 ls []) := by
  obtain ⟨hx, hb, hml, hown, hts, hE, hNE, hCN, hst, hB, hX, hbl, hbA, hL9⟩ := id C
  obtain ⟨hH, hP, ⟨w1, hO⟩, ⟨w2, hO2⟩, ho, ho2, hoz, ho2z, hoA, ho2A, hne⟩ := id hL
  have hek := hL.k9
  obtain ⟨r, hf, htie, hj, hv⟩ := op_pair hP 
  refine lv_aload_n hx hb dL_law_668 rfl (lv_at hl 1 rfl) ?_
  refine lv_aload_n hx hb dL_law_669 rfl (lv_at hl 3 rfl) ?_
  refine r_wrap (As := [.ref x, .ref o]) (ty := .long) (o := o) (rest := []) ⟨hx, hb, hml, hown, hts⟩ (w_pair l hst D P x  o ho hoz (hB o hoA) hek r hf hj) (vx_cwSW 2 hts (gwS gw_45_14 gw_45_15 gw_43_13 gw_40_3) rfl rfl rfl (by decide +kernel) ⟨Nat.le_of_ble_eq_true rfl, Nat.le_of_ble_eq_true rfl⟩) hH hE hB hNE hCN hO hoA rfl hl.1 rfl (Nat.le_of_ble_eq_true rfl) dL_law_670 ⟨by show _ + _ ≤ 603072; omega, by show _ + _ ≤ 7211114; omega⟩ (fun u H1 locs1 hru hH1 hO1 hk1 hq1 => ?_) (fun u z H1 locs1 hru hz hH1 hO1 hk1 hq1 => ?_)
  · cases r with
    | inr q => cases hru
    | inl q =>
      have hru : u = (q.1, _) := (Sum.inl.inj hru).symm
      subst hru
      obtain ⟨P2, T', hm9, hth, hl2⟩ := htie
      refine lv_istore (lv' := (6, .int 0) :: LB b x o o2 i) hx hb dL_law_673 hl (by decide) rfl (fun ls hl => ?_)
      refine lv_aload_n hx hb dL_law_675 rfl (lv_at hl 3 rfl) ?_
      refine r_ki (As := []) ⟨hx, hb, hml, hown, hts⟩ (c_X10_pair l D q.1 (x + 79)  (P2, q.2) hm9) (cwV 0 hts (gwV gw_45_16 gw_45_17 gw_45_18 gw_31_10 gw_33_22) rfl rfl rfl (by decide +kernel) ⟨Nat.le_of_ble_eq_true rfl, Nat.le_of_ble_eq_true rfl⟩) hH1 hNE 13 ((hk1.1 _ hP.lt).trans hP.k10) (by decide) rfl rfl rfl hl.1 rfl (Nat.le_of_ble_eq_true rfl) dL_law_676 ⟨by show _ + _ ≤ 603072; omega, by show _ + _ ≤ 7211114; omega⟩ (fun H2 locs2 hH2 hk2 hq2 => ?_)
      refine lv_istore (lv' := (7, .int q.2) :: (6, .int 0) :: LB b x o o2 i) hx hb dL_law_679 hl (by decide) rfl (fun ls hl => ?_)
      have hL2 := hL.mid hk1 ⟨_, hO1⟩ hq1 hH2 hk2 hq2 hl2
      have hek2 := hl2.k10
      refine r_tail (k := 0) (v := q.2) C hH2 hek2 hth ((hk1.tr hk2).no ho hoz) (fun _ => hO1.heap (hq2 o hO1.lt (hk1.no ho hoz))) hl (by omega) (by omega) dL_law_681 dL_law_682 dL_law_685 dL_law_687 dL_law_692 dL_law_694 dL_law_697 dL_law_698 dL_law_699 dL_law_700 dL_law_702 dL_law_703 dL_law_704 (fun H3 locs3 hH3 hq3 => ?_)
      refine lv_goto (tgt := 1961) hx hb dL_law_709 (by decide) ?_
      refine W.widen (k := cells + 93) (n := slots + 4545) (by omega) (by omega) ?_
      exact K _ _ _ _ _ (hL2.step hH3 KD.rf hq3 hl2) (lv_sub hl [2, 3, 4, 5, 6, 7] rfl)
  · cases r with
    | inl q => cases hru
    | inr q =>
      have hru : u = q := (Sum.inr.inj hru).symm
      subst hru
      obtain ⟨hco, htie⟩ := htie
      obtain ⟨P2, vv, hm9, hth, hl2⟩ := htie z hz
      obtain ⟨kv, hkv⟩ : ∃ kv, kv = (fun k : Nat => if k = 4 then (1 : Int32) else (2 : Int32)) u.2 := ⟨_, rfl⟩
      replace hco : kv ≠ 0 := by rw [hkv]; exact hco
      replace hth : kI P2 (x + 79) 0 = kv := by rw [hkv]; exact hth
      refine lv_topE (y := kv) hkv.symm ?_
      refine lv_istore (lv' := (6, .int kv) :: LB b x o o2 i) hx hb dL_law_673 hl (by decide) rfl (fun ls hl => ?_)
      refine lv_aload_n hx hb dL_law_675 rfl (lv_at hl 3 rfl) ?_
      refine r_ki (As := []) ⟨hx, hb, hml, hown, hts⟩ (c_X10_pair l D (zS u.1 z) (x + 79)  (P2, vv) hm9) (cwV 0 hts (gwV gw_45_16 gw_45_17 gw_45_18 gw_31_10 gw_33_22) rfl rfl rfl (by decide +kernel) ⟨Nat.le_of_ble_eq_true rfl, Nat.le_of_ble_eq_true rfl⟩) hH1 hNE 13 (((hk1.z hz).1 _ hP.lt).trans hP.k10) (by decide) rfl rfl rfl hl.1 rfl (Nat.le_of_ble_eq_true rfl) dL_law_676 ⟨by show _ + _ ≤ 603072; omega, by show _ + _ ≤ 7211114; omega⟩ (fun H2 locs2 hH2 hk2 hq2 => ?_)
      refine lv_istore (lv' := (7, .int vv) :: (6, .int kv) :: LB b x o o2 i) hx hb dL_law_679 hl (by decide) rfl (fun ls hl => ?_)
      have hL2 := hL.mid (hk1.z hz) hO1 hq1 hH2 hk2 hq2 hl2
      have hek2 := hl2.k10
      refine r_tail (k := kv) (v := vv) C hH2 hek2 hth (((hk1.z hz).tr hk2).no ho hoz) (fun h => absurd h hco) hl (by omega) (by omega) dL_law_681 dL_law_682 dL_law_685 dL_law_687 dL_law_692 dL_law_694 dL_law_697 dL_law_698 dL_law_699 dL_law_700 dL_law_702 dL_law_703 dL_law_704 (fun H3 locs3 hH3 hq3 => ?_)
      refine lv_goto (tgt := 1961) hx hb dL_law_709 (by decide) ?_
      refine W.widen (k := cells + 93) (n := slots + 4545) (by omega) (by omega) ?_
      exact K _ _ _ _ _ (hL2.step hH3 KD.rf hq3 hl2) (lv_sub hl [2, 3, 4, 5, 6, 7] rfl)
set_option maxHeartbeats 4000000 in
set_option maxRecDepth 100000 in
theorem case_use (C : LC p l s m c b c0 D S0 L xs) (hi : i + 5 ≤ L) (hL : LH D S0 s x o o2 T P H locs) (hl : lv_has ls 9 (LB b x o o2 i)) (hc : cells + 93 ≤ 603072) (hs : slots + 4545 ≤ 7211114) (K : LK p l e room_1 s m b below meth c cells slots Q D S0 x o o2 i) : W p l e room_1 s m #[Value.ref b] below meth c H locs cells slots Q (F0 m 712 ls []) := by
  obtain ⟨hx, hb, hml, hown, hts, hE, hNE, hCN, hst, hB, hX, hbl, hbA, hL9⟩ := id C
  obtain ⟨hH, hP, ⟨w1, hO⟩, ⟨w2, hO2⟩, ho, ho2, hoz, ho2z, hoA, ho2A, hne⟩ := id hL
  have hek := hL.k9
  obtain ⟨r, hf, htie, hj, hv⟩ := op_use hP (xs (i + 1)) (xs (i + 2)) (zb (xs (i + 3)))
  refine lv_aload_n hx hb dL_law_712 rfl (lv_at hl 1 rfl) ?_
  refine r_arg 1 C hH (lv_at hl 0 rfl) (lv_at hl 5 rfl) (by decide) hi dL_law_713 dL_law_714 dL_law_716 dL_law_717 dL_law_718 ?_
  refine r_arg 2 C hH (lv_at hl 0 rfl) (lv_at hl 5 rfl) (by decide) hi dL_law_719 dL_law_720 dL_law_722 dL_law_723 dL_law_724 ?_
  refine r_arg 3 C hH (lv_at hl 0 rfl) (lv_at hl 5 rfl) (by decide) hi dL_law_725 dL_law_726 dL_law_728 dL_law_729 dL_law_730 ?_
  refine r_bool hx hb dL_law_731 dL_law_734 dL_law_735 dL_law_738 ?_
  refine lv_aload_n hx hb dL_law_739 rfl (lv_at hl 3 rfl) ?_
  refine r_wrap (As := [.ref x, .int (xs (i + 1)), .int (xs (i + 2)), .int (zb (xs (i + 3))), .ref o]) (ty := .long) (o := o) (rest := []) ⟨hx, hb, hml, hown, hts⟩ (w_use l hst D P x (xs (i + 1)) (xs (i + 2)) (zb (xs (i + 3))) o ho hoz (hB o hoA) hek r hf hj (fun u hu => by obtain ⟨T', ha⟩ := hv u hu; exact v_use ha)) (vx_cwSW 5 hts (gwS gw_45_19 gw_45_20 gw_43_13 gw_40_7) rfl rfl rfl (by decide +kernel) ⟨Nat.le_of_ble_eq_true rfl, Nat.le_of_ble_eq_true rfl⟩) hH hE hB hNE hCN hO hoA rfl hl.1 rfl (Nat.le_of_ble_eq_true rfl) dL_law_740 ⟨by show _ + _ ≤ 603072; omega, by show _ + _ ≤ 7211114; omega⟩ (fun u H1 locs1 hru hH1 hO1 hk1 hq1 => ?_) (fun u z H1 locs1 hru hz hH1 hO1 hk1 hq1 => ?_)
  · cases r with
    | inr q => cases hru
    | inl q =>
      have hru : u = (q.1, _) := (Sum.inl.inj hru).symm
      subst hru
      obtain ⟨P2, T', hm9, hth, hl2⟩ := htie
      refine lv_istore (lv' := (6, .int 0) :: LB b x o o2 i) hx hb dL_law_743 hl (by decide) rfl (fun ls hl => ?_)
      refine lv_aload_n hx hb dL_law_745 rfl (lv_at hl 3 rfl) ?_
      refine r_arg 1 C hH1 (lv_at hl 1 rfl) (lv_at hl 6 rfl) (by decide) hi dL_law_746 dL_law_747 dL_law_749 dL_law_750 dL_law_751 ?_
      refine r_arg 2 C hH1 (lv_at hl 1 rfl) (lv_at hl 6 rfl) (by decide) hi dL_law_752 dL_law_753 dL_law_755 dL_law_756 dL_law_757 ?_
      refine r_arg 3 C hH1 (lv_at hl 1 rfl) (lv_at hl 6 rfl) (by decide) hi dL_law_758 dL_law_759 dL_law_761 dL_law_762 dL_law_763 ?_
      refine r_bool hx hb dL_law_764 dL_law_767 dL_law_768 dL_law_771 ?_
      refine r_ki (As := [.int (xs (i + 1)), .int (xs (i + 2)), .int (zb (xs (i + 3)))]) ⟨hx, hb, hml, hown, hts⟩ (c_X10_use l D q.1 (x + 79) (xs (i + 1)) (xs (i + 2)) (zb (xs (i + 3))) (P2, q.2) hm9) (cwV 3 hts (gwV gw_45_21 gw_45_22 gw_45_23 gw_31_10 gw_34_0) rfl rfl rfl (by decide +kernel) ⟨Nat.le_of_ble_eq_true rfl, Nat.le_of_ble_eq_true rfl⟩) hH1 hNE 13 ((hk1.1 _ hP.lt).trans hP.k10) (by decide) rfl rfl rfl hl.1 rfl (Nat.le_of_ble_eq_true rfl) dL_law_772 ⟨by show _ + _ ≤ 603072; omega, by show _ + _ ≤ 7211114; omega⟩ (fun H2 locs2 hH2 hk2 hq2 => ?_)
      refine lv_istore (lv' := (7, .int q.2) :: (6, .int 0) :: LB b x o o2 i) hx hb dL_law_775 hl (by decide) rfl (fun ls hl => ?_)
      have hL2 := hL.mid hk1 ⟨_, hO1⟩ hq1 hH2 hk2 hq2 hl2
      have hek2 := hl2.k10
      have hf9 : f_X10_thrown P2 (x + 79) = some (kI P2 (x + 79) 0) := by unfold f_X10_thrown; rw [if_pos hek2]
      refine lv_aload_n hx hb dL_law_777 rfl (lv_at hl 4 rfl) ?_
      refine r_ki (As := []) ⟨hx, hb, hml, hown, hts⟩ (c_X10_thrown l D P2 (x + 79) _ hf9) (cwV 0 hts (gwV gw_43_17 gw_43_18 gw_43_19 gw_31_10 gw_31_2) rfl rfl rfl (by decide +kernel) ⟨Nat.le_of_ble_eq_true rfl, Nat.le_of_ble_eq_true rfl⟩) hH2 hNE 13 hek2 (by decide) rfl rfl rfl hl.1 rfl (Nat.le_of_ble_eq_true rfl) dL_law_778 ⟨by show _ + _ ≤ 603072; omega, by show _ + _ ≤ 7211114; omega⟩ (fun H3 locs3 hH3 _ hq3 => ?_)
      refine lv_iload hx hb dL_law_781 (lv_at hl 1 rfl) ?_
      refine lv_icmp_eq (tgt := 788) hx hb dL_law_783 (by decide) (fun _ => ?_) (fun h => absurd hth h)
      refine lv_iload hx hb dL_law_788 (lv_at hl 1 rfl) ?_
      refine lv_if_ne (tgt := 812) hx hb dL_law_790 (by decide) (fun h => absurd rfl h) (fun _ => ?_)
      have hO2b := hO1.heap (hq2 o hO1.lt (hk1.no ho hoz))
      have hO3 := hO2b.heap (hq3 o hO2b.lt ((hk1.tr hk2).no ho hoz))
      refine lv_aload_n hx hb dL_law_793 rfl (lv_at hl 5 rfl) ?_
      refine lv_iconst (v := 0) hx hb dL_law_794 (by decide) ?_
      refine r_lald hx hb hO3 dL_law_795 ?_
      refine lv_iload hx hb dL_law_796 (lv_at hl 0 rfl) ?_
      have h01 : q.2 = 0 ∨ q.2 = 1 := by obtain ⟨T9, ha⟩ := hv q rfl; exact v_use ha
      refine lv_if_eq (tgt := 805) hx hb dL_law_798 (by decide) (fun h0 => ?_) (fun h0 => ?_)
      · refine lv_lconst (v := 0) hx hb dL_law_805 (by decide) ?_
        rw [h0, show (0 : Int32).toInt64 = 0 from rfl]
        refine W.lcmp hx hb dL_law_806 ?_
        refine lv_if_eq (tgt := 812) hx hb dL_law_807 (by decide) (fun _ => ?_) (fun h => absurd (lg_cmp_self _) h)
        refine lv_goto (tgt := 1961) hx hb dL_law_812 (by decide) ?_
        refine W.widen (k := cells + 93) (n := slots + 4545) (by omega) (by omega) ?_
        exact K _ _ _ _ _ (hL2.step hH3 KD.rf hq3 hl2) (lv_sub hl [2, 3, 4, 5, 6, 7] rfl)
      · refine lv_lconst (v := 1) hx hb dL_law_801 (by decide) ?_
        refine lv_goto (tgt := 806) hx hb dL_law_802 (by decide) ?_
        rw [h01.resolve_left h0, show (1 : Int32).toInt64 = 1 from rfl]
        refine W.lcmp hx hb dL_law_806 ?_
        refine lv_if_eq (tgt := 812) hx hb dL_law_807 (by decide) (fun _ => ?_) (fun h => absurd (lg_cmp_self _) h)
        refine lv_goto (tgt := 1961) hx hb dL_law_812 (by decide) ?_
        refine W.widen (k := cells + 93) (n := slots + 4545) (by omega) (by omega) ?_
        exact K _ _ _ _ _ (hL2.step hH3 KD.rf hq3 hl2) (lv_sub hl [2, 3, 4, 5, 6, 7] rfl)
  · cases r with
    | inl q => cases hru
    | inr q =>
      have hru : u = q := (Sum.inr.inj hru).symm
      subst hru
      obtain ⟨hco, htie⟩ := htie
      obtain ⟨P2, vv, hm9, hth, hl2⟩ := htie z hz
      obtain ⟨kv, hkv⟩ : ∃ kv, kv = (fun k : Nat => if k = 3 then (1 : Int32) else (2 : Int32)) u.2 := ⟨_, rfl⟩
      replace hco : kv ≠ 0 := by rw [hkv]; exact hco
      replace hth : kI P2 (x + 79) 0 = kv := by rw [hkv]; exact hth
      refine lv_topE (y := kv) hkv.symm ?_
      refine lv_istore (lv' := (6, .int kv) :: LB b x o o2 i) hx hb dL_law_743 hl (by decide) rfl (fun ls hl => ?_)
      refine lv_aload_n hx hb dL_law_745 rfl (lv_at hl 3 rfl) ?_
      refine r_arg 1 C hH1 (lv_at hl 1 rfl) (lv_at hl 6 rfl) (by decide) hi dL_law_746 dL_law_747 dL_law_749 dL_law_750 dL_law_751 ?_
      refine r_arg 2 C hH1 (lv_at hl 1 rfl) (lv_at hl 6 rfl) (by decide) hi dL_law_752 dL_law_753 dL_law_755 dL_law_756 dL_law_757 ?_
      refine r_arg 3 C hH1 (lv_at hl 1 rfl) (lv_at hl 6 rfl) (by decide) hi dL_law_758 dL_law_759 dL_law_761 dL_law_762 dL_law_763 ?_
      refine r_bool hx hb dL_law_764 dL_law_767 dL_law_768 dL_law_771 ?_
      refine r_ki (As := [.int (xs (i + 1)), .int (xs (i + 2)), .int (zb (xs (i + 3)))]) ⟨hx, hb, hml, hown, hts⟩ (c_X10_use l D (zS u.1 z) (x + 79) (xs (i + 1)) (xs (i + 2)) (zb (xs (i + 3))) (P2, vv) hm9) (cwV 3 hts (gwV gw_45_21 gw_45_22 gw_45_23 gw_31_10 gw_34_0) rfl rfl rfl (by decide +kernel) ⟨Nat.le_of_ble_eq_true rfl, Nat.le_of_ble_eq_true rfl⟩) hH1 hNE 13 (((hk1.z hz).1 _ hP.lt).trans hP.k10) (by decide) rfl rfl rfl hl.1 rfl (Nat.le_of_ble_eq_true rfl) dL_law_772 ⟨by show _ + _ ≤ 603072; omega, by show _ + _ ≤ 7211114; omega⟩ (fun H2 locs2 hH2 hk2 hq2 => ?_)
      refine lv_istore (lv' := (7, .int vv) :: (6, .int kv) :: LB b x o o2 i) hx hb dL_law_775 hl (by decide) rfl (fun ls hl => ?_)
      have hL2 := hL.mid (hk1.z hz) hO1 hq1 hH2 hk2 hq2 hl2
      have hek2 := hl2.k10
      have hf9 : f_X10_thrown P2 (x + 79) = some (kI P2 (x + 79) 0) := by unfold f_X10_thrown; rw [if_pos hek2]
      refine lv_aload_n hx hb dL_law_777 rfl (lv_at hl 4 rfl) ?_
      refine r_ki (As := []) ⟨hx, hb, hml, hown, hts⟩ (c_X10_thrown l D P2 (x + 79) _ hf9) (cwV 0 hts (gwV gw_43_17 gw_43_18 gw_43_19 gw_31_10 gw_31_2) rfl rfl rfl (by decide +kernel) ⟨Nat.le_of_ble_eq_true rfl, Nat.le_of_ble_eq_true rfl⟩) hH2 hNE 13 hek2 (by decide) rfl rfl rfl hl.1 rfl (Nat.le_of_ble_eq_true rfl) dL_law_778 ⟨by show _ + _ ≤ 603072; omega, by show _ + _ ≤ 7211114; omega⟩ (fun H3 locs3 hH3 _ hq3 => ?_)
      refine lv_iload hx hb dL_law_781 (lv_at hl 1 rfl) ?_
      refine lv_icmp_eq (tgt := 788) hx hb dL_law_783 (by decide) (fun _ => ?_) (fun h => absurd hth h)
      refine lv_iload hx hb dL_law_788 (lv_at hl 1 rfl) ?_
      refine lv_if_ne (tgt := 812) hx hb dL_law_790 (by decide) (fun _ => ?_) (fun h => absurd h hco)
      refine lv_goto (tgt := 1961) hx hb dL_law_812 (by decide) ?_
      refine W.widen (k := cells + 93) (n := slots + 4545) (by omega) (by omega) ?_
      exact K _ _ _ _ _ (hL2.step hH3 KD.rf hq3 hl2) (lv_sub hl [2, 3, 4, 5, 6, 7] rfl)
set_option maxHeartbeats 4000000 in
set_option maxRecDepth 100000 in
theorem case_rank (C : LC p l s m c b c0 D S0 L xs) (hi : i + 5 ≤ L) (hL : LH D S0 s x o o2 T P H locs) (hl : lv_has ls 9 (LB b x o o2 i)) (hc : cells + 93 ≤ 603072) (hs : slots + 4545 ≤ 7211114) (K : LK p l e room_1 s m b below meth c cells slots Q D S0 x o o2 i) : W p l e room_1 s m #[Value.ref b] below meth c H locs cells slots Q (F0 m 815 ls []) := by
  obtain ⟨hx, hb, hml, hown, hts, hE, hNE, hCN, hst, hB, hX, hbl, hbA, hL9⟩ := id C
  obtain ⟨hH, hP, ⟨w1, hO⟩, ⟨w2, hO2⟩, ho, ho2, hoz, ho2z, hoA, ho2A, hne⟩ := id hL
  have hek := hL.k9
  obtain ⟨r, hf, htie, hj, hv⟩ := op_rank hP (xs (i + 1)) (xs (i + 2)) (xs (i + 3))
  refine lv_aload_n hx hb dL_law_815 rfl (lv_at hl 1 rfl) ?_
  refine r_arg 1 C hH (lv_at hl 0 rfl) (lv_at hl 5 rfl) (by decide) hi dL_law_816 dL_law_817 dL_law_819 dL_law_820 dL_law_821 ?_
  refine r_arg 2 C hH (lv_at hl 0 rfl) (lv_at hl 5 rfl) (by decide) hi dL_law_822 dL_law_823 dL_law_825 dL_law_826 dL_law_827 ?_
  refine r_arg 3 C hH (lv_at hl 0 rfl) (lv_at hl 5 rfl) (by decide) hi dL_law_828 dL_law_829 dL_law_831 dL_law_832 dL_law_833 ?_
  refine lv_aload_n hx hb dL_law_834 rfl (lv_at hl 3 rfl) ?_
  refine r_wrap (As := [.ref x, .int (xs (i + 1)), .int (xs (i + 2)), .int (xs (i + 3)), .ref o]) (ty := .long) (o := o) (rest := []) ⟨hx, hb, hml, hown, hts⟩ (w_rank l hst D P x (xs (i + 1)) (xs (i + 2)) (xs (i + 3)) o ho hoz (hB o hoA) hek r hf hj) (vx_cwSW 5 hts (gwS gw_46_0 gw_46_1 gw_43_13 gw_40_11) rfl rfl rfl (by decide +kernel) ⟨Nat.le_of_ble_eq_true rfl, Nat.le_of_ble_eq_true rfl⟩) hH hE hB hNE hCN hO hoA rfl hl.1 rfl (Nat.le_of_ble_eq_true rfl) dL_law_835 ⟨by show _ + _ ≤ 603072; omega, by show _ + _ ≤ 7211114; omega⟩ (fun u H1 locs1 hru hH1 hO1 hk1 hq1 => ?_) (fun u z H1 locs1 hru hz hH1 hO1 hk1 hq1 => ?_)
  · cases r with
    | inr q => cases hru
    | inl q =>
      have hru : u = (q.1, _) := (Sum.inl.inj hru).symm
      subst hru
      obtain ⟨P2, T', hm9, hth, hl2⟩ := htie
      refine lv_istore (lv' := (6, .int 0) :: LB b x o o2 i) hx hb dL_law_838 hl (by decide) rfl (fun ls hl => ?_)
      refine lv_aload_n hx hb dL_law_840 rfl (lv_at hl 3 rfl) ?_
      refine r_arg 1 C hH1 (lv_at hl 1 rfl) (lv_at hl 6 rfl) (by decide) hi dL_law_841 dL_law_842 dL_law_844 dL_law_845 dL_law_846 ?_
      refine r_arg 2 C hH1 (lv_at hl 1 rfl) (lv_at hl 6 rfl) (by decide) hi dL_law_847 dL_law_848 dL_law_850 dL_law_851 dL_law_852 ?_
      refine r_arg 3 C hH1 (lv_at hl 1 rfl) (lv_at hl 6 rfl) (by decide) hi dL_law_853 dL_law_854 dL_law_856 dL_law_857 dL_law_858 ?_
      refine r_ki (As := [.int (xs (i + 1)), .int (xs (i + 2)), .int (xs (i + 3))]) ⟨hx, hb, hml, hown, hts⟩ (c_X10_rank l D q.1 (x + 79) (xs (i + 1)) (xs (i + 2)) (xs (i + 3)) (P2, q.2) hm9) (cwV 3 hts (gwV gw_46_2 gw_46_3 gw_46_4 gw_31_10 gw_34_2) rfl rfl rfl (by decide +kernel) ⟨Nat.le_of_ble_eq_true rfl, Nat.le_of_ble_eq_true rfl⟩) hH1 hNE 13 ((hk1.1 _ hP.lt).trans hP.k10) (by decide) rfl rfl rfl hl.1 rfl (Nat.le_of_ble_eq_true rfl) dL_law_859 ⟨by show _ + _ ≤ 603072; omega, by show _ + _ ≤ 7211114; omega⟩ (fun H2 locs2 hH2 hk2 hq2 => ?_)
      refine lv_istore (lv' := (7, .int q.2) :: (6, .int 0) :: LB b x o o2 i) hx hb dL_law_862 hl (by decide) rfl (fun ls hl => ?_)
      have hL2 := hL.mid hk1 ⟨_, hO1⟩ hq1 hH2 hk2 hq2 hl2
      have hek2 := hl2.k10
      refine r_tail (k := 0) (v := q.2) C hH2 hek2 hth ((hk1.tr hk2).no ho hoz) (fun _ => hO1.heap (hq2 o hO1.lt (hk1.no ho hoz))) hl (by omega) (by omega) dL_law_864 dL_law_865 dL_law_868 dL_law_870 dL_law_875 dL_law_877 dL_law_880 dL_law_881 dL_law_882 dL_law_883 dL_law_885 dL_law_886 dL_law_887 (fun H3 locs3 hH3 hq3 => ?_)
      refine lv_goto (tgt := 1961) hx hb dL_law_892 (by decide) ?_
      refine W.widen (k := cells + 93) (n := slots + 4545) (by omega) (by omega) ?_
      exact K _ _ _ _ _ (hL2.step hH3 KD.rf hq3 hl2) (lv_sub hl [2, 3, 4, 5, 6, 7] rfl)
  · cases r with
    | inl q => cases hru
    | inr q =>
      have hru : u = q := (Sum.inr.inj hru).symm
      subst hru
      obtain ⟨hco, htie⟩ := htie
      obtain ⟨P2, vv, hm9, hth, hl2⟩ := htie z hz
      obtain ⟨kv, hkv⟩ : ∃ kv, kv = (fun k : Nat => if k = 3 then (1 : Int32) else (2 : Int32)) u.2 := ⟨_, rfl⟩
      replace hco : kv ≠ 0 := by rw [hkv]; exact hco
      replace hth : kI P2 (x + 79) 0 = kv := by rw [hkv]; exact hth
      refine lv_topE (y := kv) hkv.symm ?_
      refine lv_istore (lv' := (6, .int kv) :: LB b x o o2 i) hx hb dL_law_838 hl (by decide) rfl (fun ls hl => ?_)
      refine lv_aload_n hx hb dL_law_840 rfl (lv_at hl 3 rfl) ?_
      refine r_arg 1 C hH1 (lv_at hl 1 rfl) (lv_at hl 6 rfl) (by decide) hi dL_law_841 dL_law_842 dL_law_844 dL_law_845 dL_law_846 ?_
      refine r_arg 2 C hH1 (lv_at hl 1 rfl) (lv_at hl 6 rfl) (by decide) hi dL_law_847 dL_law_848 dL_law_850 dL_law_851 dL_law_852 ?_
      refine r_arg 3 C hH1 (lv_at hl 1 rfl) (lv_at hl 6 rfl) (by decide) hi dL_law_853 dL_law_854 dL_law_856 dL_law_857 dL_law_858 ?_
      refine r_ki (As := [.int (xs (i + 1)), .int (xs (i + 2)), .int (xs (i + 3))]) ⟨hx, hb, hml, hown, hts⟩ (c_X10_rank l D (zS u.1 z) (x + 79) (xs (i + 1)) (xs (i + 2)) (xs (i + 3)) (P2, vv) hm9) (cwV 3 hts (gwV gw_46_2 gw_46_3 gw_46_4 gw_31_10 gw_34_2) rfl rfl rfl (by decide +kernel) ⟨Nat.le_of_ble_eq_true rfl, Nat.le_of_ble_eq_true rfl⟩) hH1 hNE 13 (((hk1.z hz).1 _ hP.lt).trans hP.k10) (by decide) rfl rfl rfl hl.1 rfl (Nat.le_of_ble_eq_true rfl) dL_law_859 ⟨by show _ + _ ≤ 603072; omega, by show _ + _ ≤ 7211114; omega⟩ (fun H2 locs2 hH2 hk2 hq2 => ?_)
      refine lv_istore (lv' := (7, .int vv) :: (6, .int kv) :: LB b x o o2 i) hx hb dL_law_862 hl (by decide) rfl (fun ls hl => ?_)
      have hL2 := hL.mid (hk1.z hz) hO1 hq1 hH2 hk2 hq2 hl2
      have hek2 := hl2.k10
      refine r_tail (k := kv) (v := vv) C hH2 hek2 hth (((hk1.z hz).tr hk2).no ho hoz) (fun h => absurd h hco) hl (by omega) (by omega) dL_law_864 dL_law_865 dL_law_868 dL_law_870 dL_law_875 dL_law_877 dL_law_880 dL_law_881 dL_law_882 dL_law_883 dL_law_885 dL_law_886 dL_law_887 (fun H3 locs3 hH3 hq3 => ?_)
      refine lv_goto (tgt := 1961) hx hb dL_law_892 (by decide) ?_
      refine W.widen (k := cells + 93) (n := slots + 4545) (by omega) (by omega) ?_
      exact K _ _ _ _ _ (hL2.step hH3 KD.rf hq3 hl2) (lv_sub hl [2, 3, 4, 5, 6, 7] rfl)
set_option maxHeartbeats 4000000 in
set_option maxRecDepth 100000 in
theorem case_limit (C : LC p l s m c b c0 D S0 L xs) (hi : i + 5 ≤ L) (hL : LH D S0 s x o o2 T P H locs) (hl : lv_has ls 9 (LB b x o o2 i)) (hc : cells + 93 ≤ 603072) (hs : slots + 4545 ≤ 7211114) (K : LK p l e room_1 s m b below meth c cells slots Q D S0 x o o2 i) : W p l e room_1 s m #[Value.ref b] below meth c H locs cells slots Q (F0 m 895 ls []) := by
  obtain ⟨hx, hb, hml, hown, hts, hE, hNE, hCN, hst, hB, hX, hbl, hbA, hL9⟩ := id C
  obtain ⟨hH, hP, ⟨w1, hO⟩, ⟨w2, hO2⟩, ho, ho2, hoz, ho2z, hoA, ho2A, hne⟩ := id hL
  have hek := hL.k9
  obtain ⟨r, hf, htie, hj, hv⟩ := op_limit hP (xs (i + 1)) (xs (i + 2))
  refine lv_aload_n hx hb dL_law_895 rfl (lv_at hl 1 rfl) ?_
  refine r_arg 1 C hH (lv_at hl 0 rfl) (lv_at hl 5 rfl) (by decide) hi dL_law_896 dL_law_897 dL_law_899 dL_law_900 dL_law_901 ?_
  refine r_arg 2 C hH (lv_at hl 0 rfl) (lv_at hl 5 rfl) (by decide) hi dL_law_902 dL_law_903 dL_law_905 dL_law_906 dL_law_907 ?_
  refine lv_aload_n hx hb dL_law_908 rfl (lv_at hl 3 rfl) ?_
  refine r_wrap (As := [.ref x, .int (xs (i + 1)), .int (xs (i + 2)), .ref o]) (ty := .long) (o := o) (rest := []) ⟨hx, hb, hml, hown, hts⟩ (w_limit l hst D P x (xs (i + 1)) (xs (i + 2)) o ho hoz (hB o hoA) hek r hf hj) (vx_cwSW 4 hts (gwS gw_46_5 gw_46_6 gw_43_13 gw_40_15) rfl rfl rfl (by decide +kernel) ⟨Nat.le_of_ble_eq_true rfl, Nat.le_of_ble_eq_true rfl⟩) hH hE hB hNE hCN hO hoA rfl hl.1 rfl (Nat.le_of_ble_eq_true rfl) dL_law_909 ⟨by show _ + _ ≤ 603072; omega, by show _ + _ ≤ 7211114; omega⟩ (fun u H1 locs1 hru hH1 hO1 hk1 hq1 => ?_) (fun u z H1 locs1 hru hz hH1 hO1 hk1 hq1 => ?_)
  · cases r with
    | inr q => cases hru
    | inl q =>
      have hru : u = (q.1, _) := (Sum.inl.inj hru).symm
      subst hru
      obtain ⟨P2, T', hm9, hth, hl2⟩ := htie
      refine lv_istore (lv' := (6, .int 0) :: LB b x o o2 i) hx hb dL_law_912 hl (by decide) rfl (fun ls hl => ?_)
      refine lv_aload_n hx hb dL_law_914 rfl (lv_at hl 3 rfl) ?_
      refine r_arg 1 C hH1 (lv_at hl 1 rfl) (lv_at hl 6 rfl) (by decide) hi dL_law_915 dL_law_916 dL_law_918 dL_law_919 dL_law_920 ?_
      refine r_arg 2 C hH1 (lv_at hl 1 rfl) (lv_at hl 6 rfl) (by decide) hi dL_law_921 dL_law_922 dL_law_924 dL_law_925 dL_law_926 ?_
      refine r_ki (As := [.int (xs (i + 1)), .int (xs (i + 2))]) ⟨hx, hb, hml, hown, hts⟩ (c_X10_limit l D q.1 (x + 79) (xs (i + 1)) (xs (i + 2)) (P2, q.2) hm9) (cwV 2 hts (gwV gw_46_7 gw_46_8 gw_46_9 gw_31_10 gw_34_6) rfl rfl rfl (by decide +kernel) ⟨Nat.le_of_ble_eq_true rfl, Nat.le_of_ble_eq_true rfl⟩) hH1 hNE 13 ((hk1.1 _ hP.lt).trans hP.k10) (by decide) rfl rfl rfl hl.1 rfl (Nat.le_of_ble_eq_true rfl) dL_law_927 ⟨by show _ + _ ≤ 603072; omega, by show _ + _ ≤ 7211114; omega⟩ (fun H2 locs2 hH2 hk2 hq2 => ?_)
      refine lv_istore (lv' := (7, .int q.2) :: (6, .int 0) :: LB b x o o2 i) hx hb dL_law_930 hl (by decide) rfl (fun ls hl => ?_)
      have hL2 := hL.mid hk1 ⟨_, hO1⟩ hq1 hH2 hk2 hq2 hl2
      have hek2 := hl2.k10
      refine r_tail (k := 0) (v := q.2) C hH2 hek2 hth ((hk1.tr hk2).no ho hoz) (fun _ => hO1.heap (hq2 o hO1.lt (hk1.no ho hoz))) hl (by omega) (by omega) dL_law_932 dL_law_933 dL_law_936 dL_law_938 dL_law_943 dL_law_945 dL_law_948 dL_law_949 dL_law_950 dL_law_951 dL_law_953 dL_law_954 dL_law_955 (fun H3 locs3 hH3 hq3 => ?_)
      refine lv_goto (tgt := 1961) hx hb dL_law_960 (by decide) ?_
      refine W.widen (k := cells + 93) (n := slots + 4545) (by omega) (by omega) ?_
      exact K _ _ _ _ _ (hL2.step hH3 KD.rf hq3 hl2) (lv_sub hl [2, 3, 4, 5, 6, 7] rfl)
  · cases r with
    | inl q => cases hru
    | inr q =>
      have hru : u = q := (Sum.inr.inj hru).symm
      subst hru
      obtain ⟨hco, htie⟩ := htie
      obtain ⟨P2, vv, hm9, hth, hl2⟩ := htie z hz
      obtain ⟨kv, hkv⟩ : ∃ kv, kv = (fun _ : Nat => (1 : Int32)) u.2 := ⟨_, rfl⟩
      replace hco : kv ≠ 0 := by rw [hkv]; exact hco
      replace hth : kI P2 (x + 79) 0 = kv := by rw [hkv]; exact hth
      refine lv_topE (y := kv) hkv.symm ?_
      refine lv_istore (lv' := (6, .int kv) :: LB b x o o2 i) hx hb dL_law_912 hl (by decide) rfl (fun ls hl => ?_)
      refine lv_aload_n hx hb dL_law_914 rfl (lv_at hl 3 rfl) ?_
      refine r_arg 1 C hH1 (lv_at hl 1 rfl) (lv_at hl 6 rfl) (by decide) hi dL_law_915 dL_law_916 dL_law_918 dL_law_919 dL_law_920 ?_
      refine r_arg 2 C hH1 (lv_at hl 1 rfl) (lv_at hl 6 rfl) (by decide) hi dL_law_921 dL_law_922 dL_law_924 dL_law_925 dL_law_926 ?_
      refine r_ki (As := [.int (xs (i + 1)), .int (xs (i + 2))]) ⟨hx, hb, hml, hown, hts⟩ (c_X10_limit l D (zS u.1 z) (x + 79) (xs (i + 1)) (xs (i + 2)) (P2, vv) hm9) (cwV 2 hts (gwV gw_46_7 gw_46_8 gw_46_9 gw_31_10 gw_34_6) rfl rfl rfl (by decide +kernel) ⟨Nat.le_of_ble_eq_true rfl, Nat.le_of_ble_eq_true rfl⟩) hH1 hNE 13 (((hk1.z hz).1 _ hP.lt).trans hP.k10) (by decide) rfl rfl rfl hl.1 rfl (Nat.le_of_ble_eq_true rfl) dL_law_927 ⟨by show _ + _ ≤ 603072; omega, by show _ + _ ≤ 7211114; omega⟩ (fun H2 locs2 hH2 hk2 hq2 => ?_)
      refine lv_istore (lv' := (7, .int vv) :: (6, .int kv) :: LB b x o o2 i) hx hb dL_law_930 hl (by decide) rfl (fun ls hl => ?_)
      have hL2 := hL.mid (hk1.z hz) hO1 hq1 hH2 hk2 hq2 hl2
      have hek2 := hl2.k10
      refine r_tail (k := kv) (v := vv) C hH2 hek2 hth (((hk1.z hz).tr hk2).no ho hoz) (fun h => absurd h hco) hl (by omega) (by omega) dL_law_932 dL_law_933 dL_law_936 dL_law_938 dL_law_943 dL_law_945 dL_law_948 dL_law_949 dL_law_950 dL_law_951 dL_law_953 dL_law_954 dL_law_955 (fun H3 locs3 hH3 hq3 => ?_)
      refine lv_goto (tgt := 1961) hx hb dL_law_960 (by decide) ?_
      refine W.widen (k := cells + 93) (n := slots + 4545) (by omega) (by omega) ?_
      exact K _ _ _ _ _ (hL2.step hH3 KD.rf hq3 hl2) (lv_sub hl [2, 3, 4, 5, 6, 7] rfl)
set_option maxHeartbeats 4000000 in
set_option maxRecDepth 100000 in
theorem case_findings (C : LC p l s m c b c0 D S0 L xs) (hi : i + 5 ≤ L) (hL : LH D S0 s x o o2 T P H locs) (hl : lv_has ls 9 (LB b x o o2 i)) (hc : cells + 93 ≤ 603072) (hs : slots + 4545 ≤ 7211114) (K : LK p l e room_1 s m b below meth c cells slots Q D S0 x o o2 i) : W p l e room_1 s m #[Value.ref b] below meth c H locs cells slots Q (F0 m 963 ls []) := by
  obtain ⟨hx, hb, hml, hown, hts, hE, hNE, hCN, hst, hB, hX, hbl, hbA, hL9⟩ := id C
  obtain ⟨hH, hP, ⟨w1, hO⟩, ⟨w2, hO2⟩, ho, ho2, hoz, ho2z, hoA, ho2A, hne⟩ := id hL
  have hek := hL.k9
  obtain ⟨r, hf, htie, hj, hv⟩ := op_findings hP (xs (i + 1))
  refine lv_aload_n hx hb dL_law_963 rfl (lv_at hl 1 rfl) ?_
  refine r_arg 1 C hH (lv_at hl 0 rfl) (lv_at hl 5 rfl) (by decide) hi dL_law_964 dL_law_965 dL_law_967 dL_law_968 dL_law_969 ?_
  refine lv_aload_n hx hb dL_law_970 rfl (lv_at hl 3 rfl) ?_
  refine r_wrap (As := [.ref x, .int (xs (i + 1)), .ref o]) (ty := .long) (o := o) (rest := []) ⟨hx, hb, hml, hown, hts⟩ (w_findings l hst D P x (xs (i + 1)) o ho hoz (hB o hoA) hek r hf hj) (vx_cwSW 3 hts (gwS gw_46_10 gw_46_11 gw_43_13 gw_40_19) rfl rfl rfl (by decide +kernel) ⟨Nat.le_of_ble_eq_true rfl, Nat.le_of_ble_eq_true rfl⟩) hH hE hB hNE hCN hO hoA rfl hl.1 rfl (Nat.le_of_ble_eq_true rfl) dL_law_971 ⟨by show _ + _ ≤ 603072; omega, by show _ + _ ≤ 7211114; omega⟩ (fun u H1 locs1 hru hH1 hO1 hk1 hq1 => ?_) (fun u z H1 locs1 hru hz hH1 hO1 hk1 hq1 => ?_)
  · cases r with
    | inr q => cases hru
    | inl q =>
      have hru : u = (q.1, _) := (Sum.inl.inj hru).symm
      subst hru
      obtain ⟨P2, T', hm9, hth, hl2⟩ := htie
      refine lv_istore (lv' := (6, .int 0) :: LB b x o o2 i) hx hb dL_law_974 hl (by decide) rfl (fun ls hl => ?_)
      refine lv_aload_n hx hb dL_law_976 rfl (lv_at hl 3 rfl) ?_
      refine r_arg 1 C hH1 (lv_at hl 1 rfl) (lv_at hl 6 rfl) (by decide) hi dL_law_977 dL_law_978 dL_law_980 dL_law_981 dL_law_982 ?_
      refine r_ki (As := [.int (xs (i + 1))]) ⟨hx, hb, hml, hown, hts⟩ (c_X10_findings l D q.1 (x + 79) (xs (i + 1)) (P2, q.2) hm9) (cwV 1 hts (gwV gw_46_12 gw_46_13 gw_46_14 gw_31_10 gw_36_19) rfl rfl rfl (by decide +kernel) ⟨Nat.le_of_ble_eq_true rfl, Nat.le_of_ble_eq_true rfl⟩) hH1 hNE 13 ((hk1.1 _ hP.lt).trans hP.k10) (by decide) rfl rfl rfl hl.1 rfl (Nat.le_of_ble_eq_true rfl) dL_law_983 ⟨by show _ + _ ≤ 603072; omega, by show _ + _ ≤ 7211114; omega⟩ (fun H2 locs2 hH2 hk2 hq2 => ?_)
      refine lv_istore (lv' := (7, .int q.2) :: (6, .int 0) :: LB b x o o2 i) hx hb dL_law_986 hl (by decide) rfl (fun ls hl => ?_)
      have hL2 := hL.mid hk1 ⟨_, hO1⟩ hq1 hH2 hk2 hq2 hl2
      have hek2 := hl2.k10
      refine r_tail (k := 0) (v := q.2) C hH2 hek2 hth ((hk1.tr hk2).no ho hoz) (fun _ => hO1.heap (hq2 o hO1.lt (hk1.no ho hoz))) hl (by omega) (by omega) dL_law_988 dL_law_989 dL_law_992 dL_law_994 dL_law_999 dL_law_1001 dL_law_1004 dL_law_1005 dL_law_1006 dL_law_1007 dL_law_1009 dL_law_1010 dL_law_1011 (fun H3 locs3 hH3 hq3 => ?_)
      refine lv_goto (tgt := 1961) hx hb dL_law_1016 (by decide) ?_
      refine W.widen (k := cells + 93) (n := slots + 4545) (by omega) (by omega) ?_
      exact K _ _ _ _ _ (hL2.step hH3 KD.rf hq3 hl2) (lv_sub hl [2, 3, 4, 5, 6, 7] rfl)
  · cases r with
    | inl q => cases hru
    | inr q =>
      have hru : u = q := (Sum.inr.inj hru).symm
      subst hru
      obtain ⟨hco, htie⟩ := htie
      obtain ⟨P2, vv, hm9, hth, hl2⟩ := htie z hz
      obtain ⟨kv, hkv⟩ : ∃ kv, kv = (fun _ : Nat => (1 : Int32)) u.2 := ⟨_, rfl⟩
      replace hco : kv ≠ 0 := by rw [hkv]; exact hco
      replace hth : kI P2 (x + 79) 0 = kv := by rw [hkv]; exact hth
      refine lv_topE (y := kv) hkv.symm ?_
      refine lv_istore (lv' := (6, .int kv) :: LB b x o o2 i) hx hb dL_law_974 hl (by decide) rfl (fun ls hl => ?_)
      refine lv_aload_n hx hb dL_law_976 rfl (lv_at hl 3 rfl) ?_
      refine r_arg 1 C hH1 (lv_at hl 1 rfl) (lv_at hl 6 rfl) (by decide) hi dL_law_977 dL_law_978 dL_law_980 dL_law_981 dL_law_982 ?_
      refine r_ki (As := [.int (xs (i + 1))]) ⟨hx, hb, hml, hown, hts⟩ (c_X10_findings l D (zS u.1 z) (x + 79) (xs (i + 1)) (P2, vv) hm9) (cwV 1 hts (gwV gw_46_12 gw_46_13 gw_46_14 gw_31_10 gw_36_19) rfl rfl rfl (by decide +kernel) ⟨Nat.le_of_ble_eq_true rfl, Nat.le_of_ble_eq_true rfl⟩) hH1 hNE 13 (((hk1.z hz).1 _ hP.lt).trans hP.k10) (by decide) rfl rfl rfl hl.1 rfl (Nat.le_of_ble_eq_true rfl) dL_law_983 ⟨by show _ + _ ≤ 603072; omega, by show _ + _ ≤ 7211114; omega⟩ (fun H2 locs2 hH2 hk2 hq2 => ?_)
      refine lv_istore (lv' := (7, .int vv) :: (6, .int kv) :: LB b x o o2 i) hx hb dL_law_986 hl (by decide) rfl (fun ls hl => ?_)
      have hL2 := hL.mid (hk1.z hz) hO1 hq1 hH2 hk2 hq2 hl2
      have hek2 := hl2.k10
      refine r_tail (k := kv) (v := vv) C hH2 hek2 hth (((hk1.z hz).tr hk2).no ho hoz) (fun h => absurd h hco) hl (by omega) (by omega) dL_law_988 dL_law_989 dL_law_992 dL_law_994 dL_law_999 dL_law_1001 dL_law_1004 dL_law_1005 dL_law_1006 dL_law_1007 dL_law_1009 dL_law_1010 dL_law_1011 (fun H3 locs3 hH3 hq3 => ?_)
      refine lv_goto (tgt := 1961) hx hb dL_law_1016 (by decide) ?_
      refine W.widen (k := cells + 93) (n := slots + 4545) (by omega) (by omega) ?_
      exact K _ _ _ _ _ (hL2.step hH3 KD.rf hq3 hl2) (lv_sub hl [2, 3, 4, 5, 6, 7] rfl)
set_option maxHeartbeats 4000000 in
set_option maxRecDepth 100000 in
theorem case_of (C : LC p l s m c b c0 D S0 L xs) (hi : i + 5 ≤ L) (hL : LH D S0 s x o o2 T P H locs) (hl : lv_has ls 9 (LB b x o o2 i)) (hc : cells + 93 ≤ 603072) (hs : slots + 4545 ≤ 7211114) (K : LK p l e room_1 s m b below meth c cells slots Q D S0 x o o2 i) : W p l e room_1 s m #[Value.ref b] below meth c H locs cells slots Q (F0 m 1019 ls []) := by
  obtain ⟨hx, hb, hml, hown, hts, hE, hNE, hCN, hst, hB, hX, hbl, hbA, hL9⟩ := id C
  obtain ⟨hH, hP, ⟨w1, hO⟩, ⟨w2, hO2⟩, ho, ho2, hoz, ho2z, hoA, ho2A, hne⟩ := id hL
  have hek := hL.k9
  obtain ⟨r, hf, htie, hj, hv⟩ := op_of hP (xs (i + 1)) (xs (i + 2)) (ch (xs (i + 3)))
  refine lv_aload_n hx hb dL_law_1019 rfl (lv_at hl 1 rfl) ?_
  refine r_arg 1 C hH (lv_at hl 0 rfl) (lv_at hl 5 rfl) (by decide) hi dL_law_1020 dL_law_1021 dL_law_1023 dL_law_1024 dL_law_1025 ?_
  refine r_arg 2 C hH (lv_at hl 0 rfl) (lv_at hl 5 rfl) (by decide) hi dL_law_1026 dL_law_1027 dL_law_1029 dL_law_1030 dL_law_1031 ?_
  refine r_arg 3 C hH (lv_at hl 0 rfl) (lv_at hl 5 rfl) (by decide) hi dL_law_1032 dL_law_1033 dL_law_1035 dL_law_1036 dL_law_1037 ?_
  refine lv_i2c hx hb dL_law_1038 (v := ch (xs (i + 3))) rfl ?_
  refine lv_aload_n hx hb dL_law_1039 rfl (lv_at hl 3 rfl) ?_
  refine r_wrap (As := [.ref x, .int (xs (i + 1)), .int (xs (i + 2)), .int (ch (xs (i + 3))), .ref o]) (ty := .long) (o := o) (rest := []) ⟨hx, hb, hml, hown, hts⟩ (w_of l hst D P x (xs (i + 1)) (xs (i + 2)) (ch (xs (i + 3))) o ho hoz (hB o hoA) hek r hf hj) (vx_cwSW 5 hts (gwS gw_46_15 gw_46_16 gw_43_13 gw_40_23) rfl rfl rfl (by decide +kernel) ⟨Nat.le_of_ble_eq_true rfl, Nat.le_of_ble_eq_true rfl⟩) hH hE hB hNE hCN hO hoA rfl hl.1 rfl (Nat.le_of_ble_eq_true rfl) dL_law_1040 ⟨by show _ + _ ≤ 603072; omega, by show _ + _ ≤ 7211114; omega⟩ (fun u H1 locs1 hru hH1 hO1 hk1 hq1 => ?_) (fun u z H1 locs1 hru hz hH1 hO1 hk1 hq1 => ?_)
  · cases r with
    | inr q => cases hru
    | inl q =>
      have hru : u = (q.1, _) := (Sum.inl.inj hru).symm
      subst hru
      obtain ⟨P2, T', hm9, hth, hl2⟩ := htie
      refine lv_istore (lv' := (6, .int 0) :: LB b x o o2 i) hx hb dL_law_1043 hl (by decide) rfl (fun ls hl => ?_)
      refine lv_aload_n hx hb dL_law_1045 rfl (lv_at hl 3 rfl) ?_
      refine r_arg 1 C hH1 (lv_at hl 1 rfl) (lv_at hl 6 rfl) (by decide) hi dL_law_1046 dL_law_1047 dL_law_1049 dL_law_1050 dL_law_1051 ?_
      refine r_arg 2 C hH1 (lv_at hl 1 rfl) (lv_at hl 6 rfl) (by decide) hi dL_law_1052 dL_law_1053 dL_law_1055 dL_law_1056 dL_law_1057 ?_
      refine r_arg 3 C hH1 (lv_at hl 1 rfl) (lv_at hl 6 rfl) (by decide) hi dL_law_1058 dL_law_1059 dL_law_1061 dL_law_1062 dL_law_1063 ?_
      refine lv_i2c hx hb dL_law_1064 (v := ch (xs (i + 3))) rfl ?_
      refine r_ki (As := [.int (xs (i + 1)), .int (xs (i + 2)), .int (ch (xs (i + 3)))]) ⟨hx, hb, hml, hown, hts⟩ (c_X10_of l D q.1 (x + 79) (xs (i + 1)) (xs (i + 2)) (ch (xs (i + 3))) (P2, q.2) hm9) (cwV 3 hts (gwV gw_46_17 gw_46_18 gw_46_19 gw_31_10 gw_37_4) rfl rfl rfl (by decide +kernel) ⟨Nat.le_of_ble_eq_true rfl, Nat.le_of_ble_eq_true rfl⟩) hH1 hNE 13 ((hk1.1 _ hP.lt).trans hP.k10) (by decide) rfl rfl rfl hl.1 rfl (Nat.le_of_ble_eq_true rfl) dL_law_1065 ⟨by show _ + _ ≤ 603072; omega, by show _ + _ ≤ 7211114; omega⟩ (fun H2 locs2 hH2 hk2 hq2 => ?_)
      refine lv_istore (lv' := (7, .int q.2) :: (6, .int 0) :: LB b x o o2 i) hx hb dL_law_1068 hl (by decide) rfl (fun ls hl => ?_)
      have hL2 := hL.mid hk1 ⟨_, hO1⟩ hq1 hH2 hk2 hq2 hl2
      have hek2 := hl2.k10
      refine r_tail (k := 0) (v := q.2) C hH2 hek2 hth ((hk1.tr hk2).no ho hoz) (fun _ => hO1.heap (hq2 o hO1.lt (hk1.no ho hoz))) hl (by omega) (by omega) dL_law_1070 dL_law_1071 dL_law_1074 dL_law_1076 dL_law_1081 dL_law_1083 dL_law_1086 dL_law_1087 dL_law_1088 dL_law_1089 dL_law_1091 dL_law_1092 dL_law_1093 (fun H3 locs3 hH3 hq3 => ?_)
      refine lv_goto (tgt := 1961) hx hb dL_law_1098 (by decide) ?_
      refine W.widen (k := cells + 93) (n := slots + 4545) (by omega) (by omega) ?_
      exact K _ _ _ _ _ (hL2.step hH3 KD.rf hq3 hl2) (lv_sub hl [2, 3, 4, 5, 6, 7] rfl)
  · cases r with
    | inl q => cases hru
    | inr q =>
      have hru : u = q := (Sum.inr.inj hru).symm
      subst hru
      obtain ⟨hco, htie⟩ := htie
      obtain ⟨P2, vv, hm9, hth, hl2⟩ := htie z hz
      obtain ⟨kv, hkv⟩ : ∃ kv, kv = (fun k : Nat => if k = 1 then (1 : Int32) else (2 : Int32)) u.2 := ⟨_, rfl⟩
      replace hco : kv ≠ 0 := by rw [hkv]; exact hco
      replace hth : kI P2 (x + 79) 0 = kv := by rw [hkv]; exact hth
      refine lv_topE (y := kv) hkv.symm ?_
      refine lv_istore (lv' := (6, .int kv) :: LB b x o o2 i) hx hb dL_law_1043 hl (by decide) rfl (fun ls hl => ?_)
      refine lv_aload_n hx hb dL_law_1045 rfl (lv_at hl 3 rfl) ?_
      refine r_arg 1 C hH1 (lv_at hl 1 rfl) (lv_at hl 6 rfl) (by decide) hi dL_law_1046 dL_law_1047 dL_law_1049 dL_law_1050 dL_law_1051 ?_
      refine r_arg 2 C hH1 (lv_at hl 1 rfl) (lv_at hl 6 rfl) (by decide) hi dL_law_1052 dL_law_1053 dL_law_1055 dL_law_1056 dL_law_1057 ?_
      refine r_arg 3 C hH1 (lv_at hl 1 rfl) (lv_at hl 6 rfl) (by decide) hi dL_law_1058 dL_law_1059 dL_law_1061 dL_law_1062 dL_law_1063 ?_
      refine lv_i2c hx hb dL_law_1064 (v := ch (xs (i + 3))) rfl ?_
      refine r_ki (As := [.int (xs (i + 1)), .int (xs (i + 2)), .int (ch (xs (i + 3)))]) ⟨hx, hb, hml, hown, hts⟩ (c_X10_of l D (zS u.1 z) (x + 79) (xs (i + 1)) (xs (i + 2)) (ch (xs (i + 3))) (P2, vv) hm9) (cwV 3 hts (gwV gw_46_17 gw_46_18 gw_46_19 gw_31_10 gw_37_4) rfl rfl rfl (by decide +kernel) ⟨Nat.le_of_ble_eq_true rfl, Nat.le_of_ble_eq_true rfl⟩) hH1 hNE 13 (((hk1.z hz).1 _ hP.lt).trans hP.k10) (by decide) rfl rfl rfl hl.1 rfl (Nat.le_of_ble_eq_true rfl) dL_law_1065 ⟨by show _ + _ ≤ 603072; omega, by show _ + _ ≤ 7211114; omega⟩ (fun H2 locs2 hH2 hk2 hq2 => ?_)
      refine lv_istore (lv' := (7, .int vv) :: (6, .int kv) :: LB b x o o2 i) hx hb dL_law_1068 hl (by decide) rfl (fun ls hl => ?_)
      have hL2 := hL.mid (hk1.z hz) hO1 hq1 hH2 hk2 hq2 hl2
      have hek2 := hl2.k10
      refine r_tail (k := kv) (v := vv) C hH2 hek2 hth (((hk1.z hz).tr hk2).no ho hoz) (fun h => absurd h hco) hl (by omega) (by omega) dL_law_1070 dL_law_1071 dL_law_1074 dL_law_1076 dL_law_1081 dL_law_1083 dL_law_1086 dL_law_1087 dL_law_1088 dL_law_1089 dL_law_1091 dL_law_1092 dL_law_1093 (fun H3 locs3 hH3 hq3 => ?_)
      refine lv_goto (tgt := 1961) hx hb dL_law_1098 (by decide) ?_
      refine W.widen (k := cells + 93) (n := slots + 4545) (by omega) (by omega) ?_
      exact K _ _ _ _ _ (hL2.step hH3 KD.rf hq3 hl2) (lv_sub hl [2, 3, 4, 5, 6, 7] rfl)
set_option maxHeartbeats 4000000 in
set_option maxRecDepth 100000 in
theorem case_size (C : LC p l s m c b c0 D S0 L xs) (hi : i + 5 ≤ L) (hL : LH D S0 s x o o2 T P H locs) (hl : lv_has ls 9 (LB b x o o2 i)) (hc : cells + 93 ≤ 603072) (hs : slots + 4545 ≤ 7211114) (K : LK p l e room_1 s m b below meth c cells slots Q D S0 x o o2 i) : W p l e room_1 s m #[Value.ref b] below meth c H locs cells slots Q (F0 m 1101 ls []) := by
  obtain ⟨hx, hb, hml, hown, hts, hE, hNE, hCN, hst, hB, hX, hbl, hbA, hL9⟩ := id C
  obtain ⟨hH, hP, ⟨w1, hO⟩, ⟨w2, hO2⟩, ho, ho2, hoz, ho2z, hoA, ho2A, hne⟩ := id hL
  have hek := hL.k9
  obtain ⟨r, hf, htie, hj, hv⟩ := op_size hP (xs (i + 1)) (xs (i + 2)) (xs (i + 3))
  refine lv_aload_n hx hb dL_law_1101 rfl (lv_at hl 1 rfl) ?_
  refine r_arg 1 C hH (lv_at hl 0 rfl) (lv_at hl 5 rfl) (by decide) hi dL_law_1102 dL_law_1103 dL_law_1105 dL_law_1106 dL_law_1107 ?_
  refine r_arg 2 C hH (lv_at hl 0 rfl) (lv_at hl 5 rfl) (by decide) hi dL_law_1108 dL_law_1109 dL_law_1111 dL_law_1112 dL_law_1113 ?_
  refine r_arg 3 C hH (lv_at hl 0 rfl) (lv_at hl 5 rfl) (by decide) hi dL_law_1114 dL_law_1115 dL_law_1117 dL_law_1118 dL_law_1119 ?_
  refine lv_aload_n hx hb dL_law_1120 rfl (lv_at hl 3 rfl) ?_
  refine r_wrap (As := [.ref x, .int (xs (i + 1)), .int (xs (i + 2)), .int (xs (i + 3)), .ref o]) (ty := .long) (o := o) (rest := []) ⟨hx, hb, hml, hown, hts⟩ (w_size l hst D P x (xs (i + 1)) (xs (i + 2)) (xs (i + 3)) o ho hoz (hB o hoA) hek r hf hj) (vx_cwSW 5 hts (gwS gw_46_20 gw_46_21 gw_43_13 gw_41_4) rfl rfl rfl (by decide +kernel) ⟨Nat.le_of_ble_eq_true rfl, Nat.le_of_ble_eq_true rfl⟩) hH hE hB hNE hCN hO hoA rfl hl.1 rfl (Nat.le_of_ble_eq_true rfl) dL_law_1121 ⟨by show _ + _ ≤ 603072; omega, by show _ + _ ≤ 7211114; omega⟩ (fun u H1 locs1 hru hH1 hO1 hk1 hq1 => ?_) (fun u z H1 locs1 hru hz hH1 hO1 hk1 hq1 => ?_)
  · cases r with
    | inr q => cases hru
    | inl q =>
      have hru : u = (q.1, _) := (Sum.inl.inj hru).symm
      subst hru
      obtain ⟨P2, T', hm9, hth, hl2⟩ := htie
      refine lv_istore (lv' := (6, .int 0) :: LB b x o o2 i) hx hb dL_law_1124 hl (by decide) rfl (fun ls hl => ?_)
      refine lv_aload_n hx hb dL_law_1126 rfl (lv_at hl 3 rfl) ?_
      refine r_arg 1 C hH1 (lv_at hl 1 rfl) (lv_at hl 6 rfl) (by decide) hi dL_law_1127 dL_law_1128 dL_law_1130 dL_law_1131 dL_law_1132 ?_
      refine r_arg 2 C hH1 (lv_at hl 1 rfl) (lv_at hl 6 rfl) (by decide) hi dL_law_1133 dL_law_1134 dL_law_1136 dL_law_1137 dL_law_1138 ?_
      refine r_arg 3 C hH1 (lv_at hl 1 rfl) (lv_at hl 6 rfl) (by decide) hi dL_law_1139 dL_law_1140 dL_law_1142 dL_law_1143 dL_law_1144 ?_
      refine r_ki (As := [.int (xs (i + 1)), .int (xs (i + 2)), .int (xs (i + 3))]) ⟨hx, hb, hml, hown, hts⟩ (c_X10_size l D q.1 (x + 79) (xs (i + 1)) (xs (i + 2)) (xs (i + 3)) (P2, q.2) hm9) (cwV 3 hts (gwV gw_46_22 gw_46_23 gw_47_0 gw_31_10 gw_37_20) rfl rfl rfl (by decide +kernel) ⟨Nat.le_of_ble_eq_true rfl, Nat.le_of_ble_eq_true rfl⟩) hH1 hNE 13 ((hk1.1 _ hP.lt).trans hP.k10) (by decide) rfl rfl rfl hl.1 rfl (Nat.le_of_ble_eq_true rfl) dL_law_1145 ⟨by show _ + _ ≤ 603072; omega, by show _ + _ ≤ 7211114; omega⟩ (fun H2 locs2 hH2 hk2 hq2 => ?_)
      refine lv_istore (lv' := (7, .int q.2) :: (6, .int 0) :: LB b x o o2 i) hx hb dL_law_1148 hl (by decide) rfl (fun ls hl => ?_)
      have hL2 := hL.mid hk1 ⟨_, hO1⟩ hq1 hH2 hk2 hq2 hl2
      have hek2 := hl2.k10
      refine r_tail (k := 0) (v := q.2) C hH2 hek2 hth ((hk1.tr hk2).no ho hoz) (fun _ => hO1.heap (hq2 o hO1.lt (hk1.no ho hoz))) hl (by omega) (by omega) dL_law_1150 dL_law_1151 dL_law_1154 dL_law_1156 dL_law_1161 dL_law_1163 dL_law_1166 dL_law_1167 dL_law_1168 dL_law_1169 dL_law_1171 dL_law_1172 dL_law_1173 (fun H3 locs3 hH3 hq3 => ?_)
      refine lv_goto (tgt := 1961) hx hb dL_law_1178 (by decide) ?_
      refine W.widen (k := cells + 93) (n := slots + 4545) (by omega) (by omega) ?_
      exact K _ _ _ _ _ (hL2.step hH3 KD.rf hq3 hl2) (lv_sub hl [2, 3, 4, 5, 6, 7] rfl)
  · cases r with
    | inl q => cases hru
    | inr q =>
      have hru : u = q := (Sum.inr.inj hru).symm
      subst hru
      obtain ⟨hco, htie⟩ := htie
      obtain ⟨P2, vv, hm9, hth, hl2⟩ := htie z hz
      obtain ⟨kv, hkv⟩ : ∃ kv, kv = (fun k : Nat => if k = 1 then (1 : Int32) else (2 : Int32)) u.2 := ⟨_, rfl⟩
      replace hco : kv ≠ 0 := by rw [hkv]; exact hco
      replace hth : kI P2 (x + 79) 0 = kv := by rw [hkv]; exact hth
      refine lv_topE (y := kv) hkv.symm ?_
      refine lv_istore (lv' := (6, .int kv) :: LB b x o o2 i) hx hb dL_law_1124 hl (by decide) rfl (fun ls hl => ?_)
      refine lv_aload_n hx hb dL_law_1126 rfl (lv_at hl 3 rfl) ?_
      refine r_arg 1 C hH1 (lv_at hl 1 rfl) (lv_at hl 6 rfl) (by decide) hi dL_law_1127 dL_law_1128 dL_law_1130 dL_law_1131 dL_law_1132 ?_
      refine r_arg 2 C hH1 (lv_at hl 1 rfl) (lv_at hl 6 rfl) (by decide) hi dL_law_1133 dL_law_1134 dL_law_1136 dL_law_1137 dL_law_1138 ?_
      refine r_arg 3 C hH1 (lv_at hl 1 rfl) (lv_at hl 6 rfl) (by decide) hi dL_law_1139 dL_law_1140 dL_law_1142 dL_law_1143 dL_law_1144 ?_
      refine r_ki (As := [.int (xs (i + 1)), .int (xs (i + 2)), .int (xs (i + 3))]) ⟨hx, hb, hml, hown, hts⟩ (c_X10_size l D (zS u.1 z) (x + 79) (xs (i + 1)) (xs (i + 2)) (xs (i + 3)) (P2, vv) hm9) (cwV 3 hts (gwV gw_46_22 gw_46_23 gw_47_0 gw_31_10 gw_37_20) rfl rfl rfl (by decide +kernel) ⟨Nat.le_of_ble_eq_true rfl, Nat.le_of_ble_eq_true rfl⟩) hH1 hNE 13 (((hk1.z hz).1 _ hP.lt).trans hP.k10) (by decide) rfl rfl rfl hl.1 rfl (Nat.le_of_ble_eq_true rfl) dL_law_1145 ⟨by show _ + _ ≤ 603072; omega, by show _ + _ ≤ 7211114; omega⟩ (fun H2 locs2 hH2 hk2 hq2 => ?_)
      refine lv_istore (lv' := (7, .int vv) :: (6, .int kv) :: LB b x o o2 i) hx hb dL_law_1148 hl (by decide) rfl (fun ls hl => ?_)
      have hL2 := hL.mid (hk1.z hz) hO1 hq1 hH2 hk2 hq2 hl2
      have hek2 := hl2.k10
      refine r_tail (k := kv) (v := vv) C hH2 hek2 hth (((hk1.z hz).tr hk2).no ho hoz) (fun h => absurd h hco) hl (by omega) (by omega) dL_law_1150 dL_law_1151 dL_law_1154 dL_law_1156 dL_law_1161 dL_law_1163 dL_law_1166 dL_law_1167 dL_law_1168 dL_law_1169 dL_law_1171 dL_law_1172 dL_law_1173 (fun H3 locs3 hH3 hq3 => ?_)
      refine lv_goto (tgt := 1961) hx hb dL_law_1178 (by decide) ?_
      refine W.widen (k := cells + 93) (n := slots + 4545) (by omega) (by omega) ?_
      exact K _ _ _ _ _ (hL2.step hH3 KD.rf hq3 hl2) (lv_sub hl [2, 3, 4, 5, 6, 7] rfl)
end HCASE
