/-! the law's loop -/
theorem and31 (v : Int32) : ∃ k, k < 32 ∧ v &&& 31 = nI k := by
  refine ⟨(v &&& 31).toBitVec.toNat, ?_, ?_⟩
  · rw [Int32.toBitVec_and, BitVec.toNat_and]
    exact Nat.lt_of_le_of_lt Nat.and_le_right (by decide)
  · apply Int32.toBitVec_inj.mp
    show (v &&& 31).toBitVec = (Int32.ofNat _).toBitVec
    simp
theorem sub5 {L i : Nat} (hL : L ≤ 2560) (hi : i ≤ L) : nI L - 5 < nI i ↔ ¬ i + 5 ≤ L := by
  by_cases h : 5 ≤ L
  · rw [show nI L - 5 = nI (L - 5) from pk_sub (b := 5) h, nI_ltI (by omega) (by omega)]
    omega
  · refine iff_of_true ?_ (by omega)
    have : L = 0 ∨ L = 1 ∨ L = 2 ∨ L = 3 ∨ L = 4 := by omega
    have hi4 : i = 0 ∨ i = 1 ∨ i = 2 ∨ i = 3 ∨ i = 4 := by omega
    rcases this with rfl | rfl | rfl | rfl | rfl <;> rcases hi4 with rfl | rfl | rfl | rfl | rfl <;> first | decide +kernel | omega
section HLOOP
variable {p : Program} {l : Launch} {e : Env} {s : State} {m : MethodId} {below : List Frame} {meth : Method} {c : Code} {Q : State → Prop}
variable {b L x o o2 : Nat} {D : va_G × Nat} {S0 : PS} {c0 : Cond} {xs : Nat → Int32}
set_option maxHeartbeats 4000000 in
set_option maxRecDepth 100000 in
theorem law_switch (C : LC p l s m c b c0 D S0 L xs) {i k : Nat} {T : St} {P : PS} {H : Heap} {locs : List Loc} {cells slots : Nat} {ls : Array Slot} (hk : k < 32) (hi : i + 5 ≤ L) (hL : LH D S0 s x o o2 T P H locs) (hl : lv_has ls 9 (LB b x o o2 i)) (hc : cells + 93 ≤ 603072) (hs : slots + 4545 ≤ 7211114) (K : LK p l e room_1 s m b below meth c cells slots Q D S0 x o o2 i) : W p l e room_1 s m #[Value.ref b] below meth c H locs cells slots Q (F0 m 44 ls [.int (nI k)]) := by
  have hx := C.1
  have hb := C.2.1
  have hk9 : k = 0 ∨ k = 1 ∨ k = 2 ∨ k = 3 ∨ k = 4 ∨ k = 5 ∨ k = 6 ∨ k = 7 ∨ k = 8 ∨ k = 9 ∨ k = 10 ∨ k = 11 ∨ k = 12 ∨ k = 13 ∨ k = 14 ∨ k = 15 ∨ k = 16 ∨ k = 17 ∨ k = 18 ∨ k = 19 ∨ k = 20 ∨ k = 21 ∨ k = 22 ∨ k = 23 ∨ k = 24 ∨ k = 25 ∨ k = 26 ∨ k = 27 ∨ k = 28 ∨ k = 29 ∨ 30 ≤ k := by omega
  rcases hk9 with rfl | rfl | rfl | rfl | rfl | rfl | rfl | rfl | rfl | rfl | rfl | rfl | rfl | rfl | rfl | rfl | rfl | rfl | rfl | rfl | rfl | rfl | rfl | rfl | rfl | rfl | rfl | rfl | rfl | rfl | hk9
  · exact lv_tableIn (tgt := 180) hx hb dL_law_44 (by decide +kernel) (by decide +kernel) (off := 136) rfl (by decide) (case_type C hi hL hl hc hs K)
  · exact lv_tableIn (tgt := 238) hx hb dL_law_44 (by decide +kernel) (by decide +kernel) (off := 194) rfl (by decide) (case_wipe C hi hL hl hc hs K)
  · exact lv_tableIn (tgt := 251) hx hb dL_law_44 (by decide +kernel) (by decide +kernel) (off := 207) rfl (by decide) (case_put C hi hL hl hc hs K)
  · exact lv_tableIn (tgt := 333) hx hb dL_law_44 (by decide +kernel) (by decide +kernel) (off := 289) rfl (by decide) (case_take C hi hL hl hc hs K)
  · exact lv_tableIn (tgt := 389) hx hb dL_law_44 (by decide +kernel) (by decide +kernel) (off := 345) rfl (by decide) (case_at C hi hL hl hc hs K)
  · exact lv_tableIn (tgt := 445) hx hb dL_law_44 (by decide +kernel) (by decide +kernel) (off := 401) rfl (by decide) (case_length C hi hL hl hc hs K)
  · exact lv_tableIn (tgt := 458) hx hb dL_law_44 (by decide +kernel) (by decide +kernel) (off := 414) rfl (by decide) (case_rule C hi hL hl hc hs K)
  · exact lv_tableIn (tgt := 556) hx hb dL_law_44 (by decide +kernel) (by decide +kernel) (off := 512) rfl (by decide) (case_except C hi hL hl hc hs K)
  · exact lv_tableIn (tgt := 612) hx hb dL_law_44 (by decide +kernel) (by decide +kernel) (off := 568) rfl (by decide) (case_suggest C hi hL hl hc hs K)
  · exact lv_tableIn (tgt := 668) hx hb dL_law_44 (by decide +kernel) (by decide +kernel) (off := 624) rfl (by decide) (case_pair C hi hL hl hc hs K)
  · exact lv_tableIn (tgt := 712) hx hb dL_law_44 (by decide +kernel) (by decide +kernel) (off := 668) rfl (by decide) (case_use C hi hL hl hc hs K)
  · exact lv_tableIn (tgt := 815) hx hb dL_law_44 (by decide +kernel) (by decide +kernel) (off := 771) rfl (by decide) (case_rank C hi hL hl hc hs K)
  · exact lv_tableIn (tgt := 895) hx hb dL_law_44 (by decide +kernel) (by decide +kernel) (off := 851) rfl (by decide) (case_limit C hi hL hl hc hs K)
  · exact lv_tableIn (tgt := 963) hx hb dL_law_44 (by decide +kernel) (by decide +kernel) (off := 919) rfl (by decide) (case_findings C hi hL hl hc hs K)
  · exact lv_tableIn (tgt := 1019) hx hb dL_law_44 (by decide +kernel) (by decide +kernel) (off := 975) rfl (by decide) (case_of C hi hL hl hc hs K)
  · exact lv_tableIn (tgt := 1101) hx hb dL_law_44 (by decide +kernel) (by decide +kernel) (off := 1057) rfl (by decide) (case_size C hi hL hl hc hs K)
  · exact lv_tableIn (tgt := 1181) hx hb dL_law_44 (by decide +kernel) (by decide +kernel) (off := 1137) rfl (by decide) (case_sign C hi hL hl hc hs K)
  · exact lv_tableIn (tgt := 1273) hx hb dL_law_44 (by decide +kernel) (by decide +kernel) (off := 1229) rfl (by decide) (case_apply C hi hL hl hc hs K)
  · exact lv_tableIn (tgt := 1365) hx hb dL_law_44 (by decide +kernel) (by decide +kernel) (off := 1321) rfl (by decide) (case_ignore C hi hL hl hc hs K)
  · exact lv_tableIn (tgt := 1433) hx hb dL_law_44 (by decide +kernel) (by decide +kernel) (off := 1389) rfl (by decide) (case_ignored C hi hL hl hc hs K)
  · exact lv_tableIn (tgt := 1489) hx hb dL_law_44 (by decide +kernel) (by decide +kernel) (off := 1445) rfl (by decide) (case_heed C hi hL hl hc hs K)
  · exact lv_tableIn (tgt := 1545) hx hb dL_law_44 (by decide +kernel) (by decide +kernel) (off := 1501) rfl (by decide) (case_tokens C hi hL hl hc hs K)
  · exact lv_tableIn (tgt := 1586) hx hb dL_law_44 (by decide +kernel) (by decide +kernel) (off := 1542) rfl (by decide) (case_paragraphs C hi hL hl hc hs K)
  · exact lv_tableIn (tgt := 1599) hx hb dL_law_44 (by decide +kernel) (by decide +kernel) (off := 1555) rfl (by decide) (case_check C hi hL hl hc hs K)
  · exact lv_tableIn (tgt := 1655) hx hb dL_law_44 (by decide +kernel) (by decide +kernel) (off := 1611) rfl (by decide) (case_byRule C hi hL hl hc hs K)
  · exact lv_tableIn (tgt := 1723) hx hb dL_law_44 (by decide +kernel) (by decide +kernel) (off := 1679) rfl (by decide) (case_byWriter C hi hL hl hc hs K)
  · exact lv_tableIn (tgt := 1791) hx hb dL_law_44 (by decide +kernel) (by decide +kernel) (off := 1747) rfl (by decide) (case_checksum C hi hL hl hc hs K)
  · exact lv_tableIn (tgt := 1805) hx hb dL_law_44 (by decide +kernel) (by decide +kernel) (off := 1761) rfl (by decide) (case_foundShare C hi hL hl hc hs K)
  · exact lv_tableIn (tgt := 1883) hx hb dL_law_44 (by decide +kernel) (by decide +kernel) (off := 1839) rfl (by decide) (case_meanWord C hi hL hl hc hs K)
  · exact lv_tableIn (tgt := 1948) hx hb dL_law_44 (by decide +kernel) (by decide +kernel) (off := 1904) rfl (by decide) (case_isSound C hi hL hl hc hs K)
  · refine lv_tableOut (tgt := 1961) hx hb dL_law_44 (Or.inr ?_) (by decide) ?_
    · rw [nI_toInt (by omega)]
      omega
    · refine W.widen (k := cells + 93) (n := slots + 4545) (by omega) (by omega) ?_
      exact K _ _ _ _ _ hL hl
set_option maxHeartbeats 4000000 in
set_option maxRecDepth 100000 in
theorem law_loop (C : LC p l s m c b c0 D S0 L xs) (KE : ∀ (H : Heap) (locs : List Loc) (ls : Array Slot) (P : PS) (cells slots : Nat), HI D S0 P s H locs → cells ≤ 603072 → slots ≤ 7211114 → W p l e room_1 s m #[Value.ref b] below meth c H locs cells slots Q (F0 m 1967 ls [])) :
    ∀ (n i : Nat) (T : St) (P : PS) (H : Heap) (locs : List Loc) (cells slots : Nat) (ls : Array Slot), L ≤ i + 5 * n → i ≤ L → LH D S0 s x o o2 T P H locs → lv_has ls 9 (LB b x o o2 i) → cells + 93 * n ≤ 603072 → slots + 4545 * n ≤ 7211114 → W p l e room_1 s m #[Value.ref b] below meth c H locs cells slots Q (F0 m 28 ls []) := by
  obtain ⟨hx, hb, hml, hown, hts, hE, hNE, hCN, hst, hB, hX, hbl, hbA, hL9⟩ := id C
  intro n
  induction n with
  | zero =>
    intro i T P H locs cells slots ls h1 h2 hL hl hc hs
    refine lv_iload hx hb dL_law_28 (lv_at hl 5 rfl) ?_
    refine lv_aload_n hx hb dL_law_30 rfl (lv_at hl 0 rfl) ?_
    refine va_slen hx hb hX hbl hbA hL.1.2.1 dL_law_31 ?_
    refine lv_iconst (v := 5) hx hb dL_law_32 (by decide) ?_
    refine lv_isub hx hb dL_law_33 ?_
    refine lv_icmp_gt (tgt := 1967) hx hb dL_law_34 (by decide) (fun _ => ?_) (fun h => absurd ((sub5 hL9 h2).mpr (by omega)) h)
    exact KE _ _ _ _ _ _ hL.1 (by omega) (by omega)
  | succ n ih =>
    intro i T P H locs cells slots ls h1 h2 hL hl hc hs
    refine lv_iload hx hb dL_law_28 (lv_at hl 5 rfl) ?_
    refine lv_aload_n hx hb dL_law_30 rfl (lv_at hl 0 rfl) ?_
    refine va_slen hx hb hX hbl hbA hL.1.2.1 dL_law_31 ?_
    refine lv_iconst (v := 5) hx hb dL_law_32 (by decide) ?_
    refine lv_isub hx hb dL_law_33 ?_
    refine lv_icmp_gt (tgt := 1967) hx hb dL_law_34 (by decide) (fun _ => ?_) (fun h => ?_)
    · exact KE _ _ _ _ _ _ hL.1 (by omega) (by omega)
    · have hi : i + 5 ≤ L := Classical.byContradiction fun z => h ((sub5 hL9 h2).mpr z)
      refine lv_aload_n hx hb dL_law_37 rfl (lv_at hl 0 rfl) ?_
      refine lv_iload hx hb dL_law_38 (lv_at hl 5 rfl) ?_
      refine va_sld hx hb hX hbl hbA hL.1.2.1 (i := nI i) (bd (by omega) (by omega)) dL_law_40 ?_
      refine lv_bipush (v := 31) hx hb dL_law_41 (by decide) ?_
      refine lv_iand hx hb dL_law_43 ?_
      obtain ⟨k, hk, ek⟩ := and31 (xs (nI i).toNatClampNeg)
      refine lv_topE ek ?_
      refine law_switch C hk hi hL hl (by omega) (by omega) (fun H1 locs1 P1 T1 ls1 hL1 hl1 => ?_)
      refine lv_iinc (k := 5) (lv' := (5, .int (nI (i + 5))) :: [(0, .ref b), (1, .ref x), (2, .ref (x + 79)), (3, .ref o), (4, .ref o2)]) (v := nI (i + 5)) hx hb dL_law_1961 hl1 rfl (nI_add i 5) (by decide) rfl (fun ls2 hl2 => ?_)
      refine lv_goto (tgt := 28) hx hb dL_law_1964 (by decide) ?_
      exact ih (i + 5) T1 P1 H1 locs1 (cells + 93) (slots + 4545) ls2 (by omega) hi hL1 (lv_sub hl2 [1, 2, 3, 4, 5, 0] rfl) (by omega) (by omega)
end HLOOP
