set_option maxRecDepth 100000 in
def f_X9_propose (S : PS) (a0 : Nat) (p1 : Int32) (p2 : Int32) : Option (PS ⊕ (PS × Nat)) := if kK S a0 = 13 then (bx1 (f_X9_needFinding S a0 p1) fun S3 => if kK S3 a0 = 13 then ((kQ S3 a0 5).bind fun a5 => if kK S3 a5 = 6 then ((f_X2_ruleOf S3 a5 p1).bind fun r8 => lt (fun (u11 : Unit) => some (.inr (S3, 5))) fun j10 => if p2 < 0 then (j10 ()) else ((kQ S3 a0 3).bind fun a14 => if kK S3 a14 = 4 then ((f_X0_suggestionsOf S3 a14 r8).bind fun r17 => if p2 < r17 then ((kQ S3 a0 6).bind fun a20 => if kK S3 a20 = 9 then ((f_X5_clear S3 a20).bind fun r23 => if kK r23 a0 = 13 then ((kQ r23 a0 3).bind fun a26 => (kQ r23 a0 2).bind fun a28 => (kQ r23 a0 5).bind fun a30 => if kK r23 a30 = 6 then ((f_X2_tokenOf r23 a30 p1).bind fun r33 => (kQ r23 a0 6).bind fun a35 => if kK r23 a26 = 4 then ((f_X0_writeSuggestion r23 a26 a28 r33 r8 p2 a35).bind fun r38 => some (.inl r38)) else none) else none) else none) else none) else (j10 ())) else none)) else none) else none) else none
abbrev rmX9_propose : Room := { frames := 7, cells := 2, slots := 12, locals := 142 }
set_option maxHeartbeats 4000000 in
set_option maxRecDepth 100000 in
theorem c_X9_propose (l : Launch) (hst9 : l.stackTraces = false) (D : va_G × Nat) (S : PS) (a0 : Nat) (p1 : Int32) (p2 : Int32) (r : PS ⊕ (PS × Nat)) (hf : f_X9_propose S a0 p1 p2 = some r) : XM l D yX9_propose wsX9_propose rmX9_propose S [.ref a0, .int p1, .int p2] (mV r) 2 12 := by
  unfold f_X9_propose at hf
  refine vx_ofW (cc := cX9_propose) (maxL := 4) (ret := none) (by decide) rfl ?_
  intro p e s m args below meth c s₁ B hml hxt hv
  obtain ⟨rfl, hH0, hE, hNE⟩ := hv
  have hB := hH0.base
  have hx := B.exec
  have hb := B.bytes
  have hr := B.returns
  have hts := atoms_spec (ws := wsX9_propose) B.pre
  have hown : s.vm.findClass RX9 = some m.cls := findClass_of_methodNamed B.named
  have hlocks := B.notSynchronized
  have hH : HI D S S s s.heap [] := HI.start hH0
  have hl := lv_entry ([.ref a0, .int p1, .int p2]) (n := 4) (Nat.le_of_ble_eq_true rfl)
  rw [lg_entry_eq]
  generalize (lg_sl ([.ref a0, .int p1, .int p2]) ++ List.replicate (4 - (lg_sl ([.ref a0, .int p1, .int p2])).length) Slot.unset).toArray = ls at hl ⊢
  have hl : lv_has ls 4 [(0, .ref a0), (1, .int p1), (2, .int p2)] := hl
  refine lv_aload_n hx hb dX9_propose_0 rfl (lv_at hl 0 rfl) ?_
  refine lv_iload_n hx hb dX9_propose_1 rfl (lv_at hl 1 rfl) ?_
  obtain ⟨ek1, hf⟩ := oc hf
  rcases obx1 hf with ⟨x3_, e2, rfl⟩ | ⟨S3, e2, hf⟩
  · refine r_xVex (As := [.int p1]) ⟨hx, hb, hml, hown, hts⟩ (c_X9_needFinding l hst9 D S a0 p1 (.inr x3_) e2) (cwV 1 hts (gwV gw_26_18 gw_26_19 gw_26_20 gw_14_5 gw_26_14) rfl rfl rfl (by decide +kernel) ⟨Nat.le_of_ble_eq_true rfl, Nat.le_of_ble_eq_true rfl⟩) hH hE hB hNE 12 ek1 (by decide) rfl rfl rfl hl.1 rfl (Nat.le_of_ble_eq_true rfl) dX9_propose_2 ⟨(Nat.le_of_ble_eq_true rfl), (Nat.le_of_ble_eq_true rfl)⟩ (fun z9 ce9 q9 H locs hH hk9 hz9 h91 h92 h93 => ?_)
    exact x_out hxt hlocks hH hk9 hz9 h91 h92 h93 ⟨Nat.le_of_ble_eq_true rfl, Nat.le_of_ble_eq_true rfl⟩
  refine r_xVok (As := [.int p1]) (S' := S3) (v := none) (st1 := []) ⟨hx, hb, hml, hown, hts⟩ (c_X9_needFinding l hst9 D S a0 p1 (.inl S3) e2) (cwV 1 hts (gwV gw_26_18 gw_26_19 gw_26_20 gw_14_5 gw_26_14) rfl rfl rfl (by decide +kernel) ⟨Nat.le_of_ble_eq_true rfl, Nat.le_of_ble_eq_true rfl⟩) hH hE hB hNE 12 ek1 (by decide) rfl rfl rfl hl.1 rfl (Nat.le_of_ble_eq_true rfl) dX9_propose_2 ⟨(Nat.le_of_ble_eq_true rfl), (Nat.le_of_ble_eq_true rfl)⟩ rfl (fun H locs hH => ?_)
  refine W.widen (k := 1) (n := 6) (by omega) (by omega) ?_
  refine lv_aload_n hx hb dX9_propose_5 rfl (lv_at hl 0 rfl) ?_
  obtain ⟨ek4, hf⟩ := oc hf
  obtain ⟨a5, e6, hf⟩ := ob hf
  refine r_getQ hx hb 12 hts (fun w h => List.mem_cons_of_mem _ (mwsX90 w h)) hown hH ek4 (by decide) rfl 5 (by decide) rfl (hts (.fieldLink RX9 63 "Housestyle" "found" "LHousestyle$Findings;") (List.mem_cons_of_mem _ gw_20_13)) (fun _ h9 => h9) dX9_propose_6 e6 ?_
  refine lv_iload_n hx hb dX9_propose_9 rfl (lv_at hl 1 rfl) ?_
  obtain ⟨ek7, hf⟩ := oc hf
  obtain ⟨r8, e9, hf⟩ := ob hf
  refine r_callVi (As := [.int p1]) ⟨hx, hb, hml, hown, hts⟩ (c_X2_ruleOf l D S3 a5 p1 r8 e9) (cwV 1 hts (gwV gw_26_21 gw_26_22 gw_26_23 gw_11_18 gw_11_0) rfl rfl rfl (by decide +kernel) ⟨Nat.le_of_ble_eq_true rfl, Nat.le_of_ble_eq_true rfl⟩) hH hNE 5 ek7 (by decide) rfl rfl rfl hl.1 rfl (Nat.le_of_ble_eq_true rfl) dX9_propose_10 ⟨(Nat.le_of_ble_eq_true rfl), (Nat.le_of_ble_eq_true rfl)⟩ (fun H locs hH => ?_)
  refine lv_istore_n (lv' := [(3, .int r8), (0, .ref a0), (1, .int p1), (2, .int p2)]) hx hb dX9_propose_13 rfl hl (by decide) rfl (fun ls hl => ?_)
  refine lv_iload_n hx hb dX9_propose_14 rfl (lv_at hl 3 rfl) ?_
  obtain ⟨j10, e12, hf⟩ := ol hf
  have Jj10 : ∀ (u11 : Unit) (H : Heap) (locs : List Loc) (ls : Array Slot), HI D S S3 s H locs → lv_has ls 4 [] → j10 u11 = some r → GX p l e (headSpec wsX9_propose rmX9_propose).room s m ([.ref a0, .int p1, .int p2] : List Value).toArray below meth c D S (mV r) H locs 1 6 2 12 (F0 m 30 ls []) := by
    intro u11 H locs ls hH hl hf
    rw [← e12] at hf
    cases hf
    exact r_throwWX (ix := 13) (rx := rx13) (x0 := by decide) (x1 := by decide) (x2 := by decide) (x5 := by decide) (text := "no such suggestion") (cls := "java/util/NoSuchElementException") (names := ["java/lang/RuntimeException", "java/lang/Exception"]) 5 hx hb hst9 hown xf4 xn (hts (.classLink RX9 275 "java/util/NoSuchElementException") (List.mem_cons_of_mem _ gw_26_15)) (hts (.initialized "java/util/NoSuchElementException") (List.mem_cons_of_mem _ gw_26_16)) (List.mem_of_getElem? (i := 25) rfl) (xa4 hts hE) xg4 hE hB hH (hl.1.trans hml.symm) rfl dX9_propose_30 dX9_propose_33 dX9_propose_34 dX9_propose_37 dX9_propose_40 hxt (Nat.le_of_ble_eq_true rfl) (Nat.le_of_ble_eq_true rfl) (Nat.le_of_ble_eq_true rfl) (Nat.le_of_ble_eq_true rfl) hlocks ⟨Nat.le_of_ble_eq_true rfl, Nat.le_of_ble_eq_true rfl⟩
  refine lv_if_lt (tgt := 30) hx hb dX9_propose_15 (by decide) (fun c13 => ?_) (fun c13 => ?_)
  · have hf := ip hf c13
    exact Jj10 () _ _ ls hH (lv_sub hl [] rfl) hf
  · have hf := iq hf c13
    refine lv_iload_n hx hb dX9_propose_18 rfl (lv_at hl 3 rfl) ?_
    refine lv_aload_n hx hb dX9_propose_19 rfl (lv_at hl 1 rfl) ?_
    obtain ⟨a14, e15, hf⟩ := ob hf
    refine r_getQ hx hb 12 hts (fun w h => List.mem_cons_of_mem _ (mwsX90 w h)) hown hH ek4 (by decide) rfl 3 (by decide) rfl (hts (.fieldLink RX9 40 "Housestyle" "book" "LHousestyle$Book;") (List.mem_cons_of_mem _ gw_20_6)) (fun _ h9 => h9) dX9_propose_20 e15 ?_
    refine lv_iload_n hx hb dX9_propose_23 rfl (lv_at hl 0 rfl) ?_
    obtain ⟨ek16, hf⟩ := oc hf
    obtain ⟨r17, e18, hf⟩ := ob hf
    refine r_callVi (As := [.int r8]) ⟨hx, hb, hml, hown, hts⟩ (c_X0_suggestionsOf l D S3 a14 r8 r17 e18) (cwV 1 hts (gwV gw_27_2 gw_27_3 gw_27_4 gw_6_5 gw_7_10) rfl rfl rfl (by decide +kernel) ⟨Nat.le_of_ble_eq_true rfl, Nat.le_of_ble_eq_true rfl⟩) hH hNE 3 ek16 (by decide) rfl rfl rfl hl.1 rfl (Nat.le_of_ble_eq_true rfl) dX9_propose_24 ⟨(Nat.le_of_ble_eq_true rfl), (Nat.le_of_ble_eq_true rfl)⟩ (fun H locs hH => ?_)
    refine lv_icmp_lt (tgt := 41) hx hb dX9_propose_27 (by decide) (fun c19 => ?_) (fun c19 => ?_)
    · have hf := ip hf c19
      refine lv_aload_n hx hb dX9_propose_41 rfl (lv_at hl 1 rfl) ?_
      obtain ⟨a20, e21, hf⟩ := ob hf
      refine r_getQ hx hb 12 hts (fun w h => List.mem_cons_of_mem _ (mwsX90 w h)) hown hH ek4 (by decide) rfl 6 (by decide) rfl (hts (.fieldLink RX9 67 "Housestyle" "proposal" "LHousestyle$Row;") (List.mem_cons_of_mem _ gw_20_14)) (fun _ h9 => h9) dX9_propose_42 e21 ?_
      obtain ⟨ek22, hf⟩ := oc hf
      obtain ⟨r23, e24, hf⟩ := ob hf
      refine r_callVv (As := []) ⟨hx, hb, hml, hown, hts⟩ (c_X5_clear l D S3 a20 r23 e24) (cwV 0 hts (gwV gw_21_18 gw_9_14 gw_9_15 gw_1_5 gw_9_11) rfl rfl rfl (by decide +kernel) ⟨Nat.le_of_ble_eq_true rfl, Nat.le_of_ble_eq_true rfl⟩) hH hNE 8 ek22 (by decide) rfl rfl rfl hl.1 rfl (Nat.le_of_ble_eq_true rfl) dX9_propose_45 ⟨(Nat.le_of_ble_eq_true rfl), (Nat.le_of_ble_eq_true rfl)⟩ (fun H locs hH => ?_)
      refine lv_aload_n hx hb dX9_propose_48 rfl (lv_at hl 1 rfl) ?_
      obtain ⟨ek25, hf⟩ := oc hf
      obtain ⟨a26, e27, hf⟩ := ob hf
      refine r_getQ hx hb 12 hts (fun w h => List.mem_cons_of_mem _ (mwsX90 w h)) hown hH ek25 (by decide) rfl 3 (by decide) rfl (hts (.fieldLink RX9 40 "Housestyle" "book" "LHousestyle$Book;") (List.mem_cons_of_mem _ gw_20_6)) (fun _ h9 => h9) dX9_propose_49 e27 ?_
      refine lv_aload_n hx hb dX9_propose_52 rfl (lv_at hl 1 rfl) ?_
      obtain ⟨a28, e29, hf⟩ := ob hf
      refine r_getQ hx hb 12 hts (fun w h => List.mem_cons_of_mem _ (mwsX90 w h)) hown hH ek25 (by decide) rfl 2 (by decide) rfl (hts (.fieldLink RX9 33 "Housestyle" "tokens" "LHousestyle$Tokens;") (List.mem_cons_of_mem _ gw_20_3)) (fun _ h9 => h9) dX9_propose_53 e29 ?_
      refine lv_aload_n hx hb dX9_propose_56 rfl (lv_at hl 1 rfl) ?_
      obtain ⟨a30, e31, hf⟩ := ob hf
      refine r_getQ hx hb 12 hts (fun w h => List.mem_cons_of_mem _ (mwsX90 w h)) hown hH ek25 (by decide) rfl 5 (by decide) rfl (hts (.fieldLink RX9 63 "Housestyle" "found" "LHousestyle$Findings;") (List.mem_cons_of_mem _ gw_20_13)) (fun _ h9 => h9) dX9_propose_57 e31 ?_
      refine lv_iload_n hx hb dX9_propose_60 rfl (lv_at hl 2 rfl) ?_
      obtain ⟨ek32, hf⟩ := oc hf
      obtain ⟨r33, e34, hf⟩ := ob hf
      refine r_callVi (As := [.int p1]) ⟨hx, hb, hml, hown, hts⟩ (c_X2_tokenOf l D r23 a30 p1 r33 e34) (cwV 1 hts (gwV gw_27_6 gw_27_7 gw_27_8 gw_11_18 gw_10_22) rfl rfl rfl (by decide +kernel) ⟨Nat.le_of_ble_eq_true rfl, Nat.le_of_ble_eq_true rfl⟩) hH hNE 5 ek32 (by decide) rfl rfl rfl hl.1 rfl (Nat.le_of_ble_eq_true rfl) dX9_propose_61 ⟨(Nat.le_of_ble_eq_true rfl), (Nat.le_of_ble_eq_true rfl)⟩ (fun H locs hH => ?_)
      refine lv_iload_n hx hb dX9_propose_64 rfl (lv_at hl 0 rfl) ?_
      refine lv_iload_n hx hb dX9_propose_65 rfl (lv_at hl 3 rfl) ?_
      refine lv_aload_n hx hb dX9_propose_66 rfl (lv_at hl 1 rfl) ?_
      obtain ⟨a35, e36, hf⟩ := ob hf
      refine r_getQ hx hb 12 hts (fun w h => List.mem_cons_of_mem _ (mwsX90 w h)) hown hH ek25 (by decide) rfl 6 (by decide) rfl (hts (.fieldLink RX9 67 "Housestyle" "proposal" "LHousestyle$Row;") (List.mem_cons_of_mem _ gw_20_14)) (fun _ h9 => h9) dX9_propose_67 e36 ?_
      obtain ⟨ek37, hf⟩ := oc hf
      obtain ⟨r38, e39, hf⟩ := ob hf
      refine r_callVv (As := [.ref a28, .int r33, .int r8, .int p2, .ref a35]) ⟨hx, hb, hml, hown, hts⟩ (c_X0_writeSuggestion l D r23 a26 a28 r33 r8 p2 a35 r38 e39) (cwV 5 hts (gwV gw_27_9 gw_27_10 gw_27_11 gw_6_5 gw_8_8) rfl rfl rfl (by decide +kernel) ⟨Nat.le_of_ble_eq_true rfl, Nat.le_of_ble_eq_true rfl⟩) hH hNE 3 ek37 (by decide) rfl rfl rfl hl.1 rfl (Nat.le_of_ble_eq_true rfl) dX9_propose_70 ⟨(Nat.le_of_ble_eq_true rfl), (Nat.le_of_ble_eq_true rfl)⟩ (fun H locs hH => ?_)
      refine W.widen (k := 2) (n := 12) (by omega) (by omega) ?_
      have hr9 := Option.some.inj hf
      subst hr9
      exact x_v hx hb hr hlocks hH dX9_propose_73
    · have hf := iq hf c19
      exact Jj10 () _ _ ls hH (lv_sub hl [] rfl) hf
set_option maxRecDepth 100000 in
def f_X9_size (S : PS) (a0 : Nat) (p1 : Int32) (p2 : Int32) (p3 : Int32) : Option ((PS × Int32) ⊕ (PS × Nat)) := if kK S a0 = 13 then (bx2 (f_X9_findFor S a0 p1) fun S3 a4 => if kK S3 a0 = 13 then (bx1 (f_X9_propose S3 a0 p2 p3) fun S7 => if kK S7 a0 = 13 then ((kQ S7 a0 6).bind fun a9 => if kK S7 a9 = 9 then ((f_X5_count S7 a9).bind fun r12 => some (.inl (S7, r12))) else none) else none) else none) else none
abbrev rmX9_size : Room := { frames := 8, cells := 3, slots := 18, locals := 178 }
set_option maxHeartbeats 4000000 in
set_option maxRecDepth 100000 in
theorem c_X9_size (l : Launch) (hst9 : l.stackTraces = false) (D : va_G × Nat) (S : PS) (a0 : Nat) (p1 : Int32) (p2 : Int32) (p3 : Int32) (r : (PS × Int32) ⊕ (PS × Nat)) (hf : f_X9_size S a0 p1 p2 p3 = some r) : XM l D yX9_size wsX9_size rmX9_size S [.ref a0, .int p1, .int p2, .int p3] (mI r) 3 18 := by
  unfold f_X9_size at hf
  refine vx_ofW (cc := cX9_size) (maxL := 4) (ret := (some .int)) (by decide) rfl ?_
  intro p e s m args below meth c s₁ B hml hxt hv
  obtain ⟨rfl, hH0, hE, hNE⟩ := hv
  have hB := hH0.base
  have hx := B.exec
  have hb := B.bytes
  have hr := B.returns
  have hts := atoms_spec (ws := wsX9_size) B.pre
  have hown : s.vm.findClass RX9 = some m.cls := findClass_of_methodNamed B.named
  have hlocks := B.notSynchronized
  have hH : HI D S S s s.heap [] := HI.start hH0
  have hl := lv_entry ([.ref a0, .int p1, .int p2, .int p3]) (n := 4) (Nat.le_of_ble_eq_true rfl)
  rw [lg_entry_eq]
  generalize (lg_sl ([.ref a0, .int p1, .int p2, .int p3]) ++ List.replicate (4 - (lg_sl ([.ref a0, .int p1, .int p2, .int p3])).length) Slot.unset).toArray = ls at hl ⊢
  have hl : lv_has ls 4 [(0, .ref a0), (1, .int p1), (2, .int p2), (3, .int p3)] := hl
  refine lv_aload_n hx hb dX9_size_0 rfl (lv_at hl 0 rfl) ?_
  refine lv_iload_n hx hb dX9_size_1 rfl (lv_at hl 1 rfl) ?_
  obtain ⟨ek1, hf⟩ := oc hf
  rcases obx2 hf with ⟨x4_, e2, rfl⟩ | ⟨S3, a4, e2, hf⟩
  · refine r_xVex (As := [.int p1]) ⟨hx, hb, hml, hown, hts⟩ (c_X9_findFor l hst9 D S a0 p1 (.inr x4_) e2) (cwV 1 hts (gwV gw_26_10 gw_26_11 gw_26_12 gw_14_5 gw_25_23) rfl rfl rfl (by decide +kernel) ⟨Nat.le_of_ble_eq_true rfl, Nat.le_of_ble_eq_true rfl⟩) hH hE hB hNE 12 ek1 (by decide) rfl rfl rfl hl.1 rfl (Nat.le_of_ble_eq_true rfl) dX9_size_2 ⟨(Nat.le_of_ble_eq_true rfl), (Nat.le_of_ble_eq_true rfl)⟩ (fun z9 ce9 q9 H locs hH hk9 hz9 h91 h92 h93 => ?_)
    exact x_out hxt hlocks hH hk9 hz9 h91 h92 h93 ⟨Nat.le_of_ble_eq_true rfl, Nat.le_of_ble_eq_true rfl⟩
  refine r_xVok (As := [.int p1]) (S' := S3) (v := (some (.ref a4))) (st1 := [.ref a4]) ⟨hx, hb, hml, hown, hts⟩ (c_X9_findFor l hst9 D S a0 p1 (.inl (S3, a4)) e2) (cwV 1 hts (gwV gw_26_10 gw_26_11 gw_26_12 gw_14_5 gw_25_23) rfl rfl rfl (by decide +kernel) ⟨Nat.le_of_ble_eq_true rfl, Nat.le_of_ble_eq_true rfl⟩) hH hE hB hNE 12 ek1 (by decide) rfl rfl rfl hl.1 rfl (Nat.le_of_ble_eq_true rfl) dX9_size_2 ⟨(Nat.le_of_ble_eq_true rfl), (Nat.le_of_ble_eq_true rfl)⟩ rfl (fun H locs hH => ?_)
  refine W.widen (k := 1) (n := 6) (by omega) (by omega) ?_
  refine lv_pop hx hb dX9_size_5 rfl ?_
  refine lv_aload_n hx hb dX9_size_6 rfl (lv_at hl 0 rfl) ?_
  refine lv_iload_n hx hb dX9_size_7 rfl (lv_at hl 2 rfl) ?_
  refine lv_iload_n hx hb dX9_size_8 rfl (lv_at hl 3 rfl) ?_
  obtain ⟨ek5, hf⟩ := oc hf
  rcases obx1 hf with ⟨x7_, e6, rfl⟩ | ⟨S7, e6, hf⟩
  · refine r_xVex (As := [.int p2, .int p3]) ⟨hx, hb, hml, hown, hts⟩ (c_X9_propose l hst9 D S3 a0 p2 p3 (.inr x7_) e6) (cwV 2 hts (gwV gw_27_13 gw_27_14 gw_27_15 gw_14_5 gw_27_5) rfl rfl rfl (by decide +kernel) ⟨Nat.le_of_ble_eq_true rfl, Nat.le_of_ble_eq_true rfl⟩) hH hE hB hNE 12 ek5 (by decide) rfl rfl rfl hl.1 rfl (Nat.le_of_ble_eq_true rfl) dX9_size_9 ⟨(Nat.le_of_ble_eq_true rfl), (Nat.le_of_ble_eq_true rfl)⟩ (fun z9 ce9 q9 H locs hH hk9 hz9 h91 h92 h93 => ?_)
    exact x_out hxt hlocks hH hk9 hz9 h91 h92 h93 ⟨Nat.le_of_ble_eq_true rfl, Nat.le_of_ble_eq_true rfl⟩
  refine r_xVok (As := [.int p2, .int p3]) (S' := S7) (v := none) (st1 := []) ⟨hx, hb, hml, hown, hts⟩ (c_X9_propose l hst9 D S3 a0 p2 p3 (.inl S7) e6) (cwV 2 hts (gwV gw_27_13 gw_27_14 gw_27_15 gw_14_5 gw_27_5) rfl rfl rfl (by decide +kernel) ⟨Nat.le_of_ble_eq_true rfl, Nat.le_of_ble_eq_true rfl⟩) hH hE hB hNE 12 ek5 (by decide) rfl rfl rfl hl.1 rfl (Nat.le_of_ble_eq_true rfl) dX9_size_9 ⟨(Nat.le_of_ble_eq_true rfl), (Nat.le_of_ble_eq_true rfl)⟩ rfl (fun H locs hH => ?_)
  refine W.widen (k := 3) (n := 18) (by omega) (by omega) ?_
  refine lv_aload_n hx hb dX9_size_12 rfl (lv_at hl 0 rfl) ?_
  obtain ⟨ek8, hf⟩ := oc hf
  obtain ⟨a9, e10, hf⟩ := ob hf
  refine r_getQ hx hb 12 hts (fun w h => List.mem_cons_of_mem _ (mwsX90 w h)) hown hH ek8 (by decide) rfl 6 (by decide) rfl (hts (.fieldLink RX9 67 "Housestyle" "proposal" "LHousestyle$Row;") (List.mem_cons_of_mem _ gw_20_14)) (fun _ h9 => h9) dX9_size_13 e10 ?_
  obtain ⟨ek11, hf⟩ := oc hf
  obtain ⟨r12, e13, hf⟩ := ob hf
  refine r_callVi (As := []) ⟨hx, hb, hml, hown, hts⟩ (c_X5_count l D S7 a9 r12 e13) (cwV 0 hts (gwV gw_21_15 gw_1_15 gw_1_16 gw_1_5 gw_1_11) rfl rfl rfl (by decide +kernel) ⟨Nat.le_of_ble_eq_true rfl, Nat.le_of_ble_eq_true rfl⟩) hH hNE 8 ek11 (by decide) rfl rfl rfl hl.1 rfl (Nat.le_of_ble_eq_true rfl) dX9_size_16 ⟨(Nat.le_of_ble_eq_true rfl), (Nat.le_of_ble_eq_true rfl)⟩ (fun H locs hH => ?_)
  have hr9 := Option.some.inj hf
  subst hr9
  exact x_i hx hb hr hlocks hH dX9_size_19
set_option maxRecDepth 100000 in
def f_X9_sign (S : PS) (a0 : Nat) (p1 : Int32) (p2 : Int32) (p3 : Int32) (p4 : Int32) : Option ((PS × Int32) ⊕ (PS × Nat)) := if kK S a0 = 13 then (bx2 (f_X9_findFor S a0 p1) fun S3 a4 => if kK S3 a0 = 13 then (bx1 (f_X9_propose S3 a0 p2 p3) fun S7 => lt (fun (u9 : Unit) => some (.inr (S7, 5))) fun j8 => if p4 < 0 then (j8 ()) else (if kK S7 a0 = 13 then ((kQ S7 a0 6).bind fun a13 => if kK S7 a13 = 9 then ((f_X5_count S7 a13).bind fun r16 => if p4 < r16 then ((f_X5_get S7 a13 p4).bind fun r19 => if vp_nar .char ((r19.toUInt32 % 65536).toInt32) = ((r19.toUInt32 % 65536).toInt32) then (some (.inl (S7, ((r19.toUInt32 % 65536).toInt32)))) else none) else (j8 ())) else none) else none)) else none) else none
abbrev rmX9_sign : Room := { frames := 8, cells := 4, slots := 24, locals := 178 }
set_option maxHeartbeats 4000000 in
set_option maxRecDepth 100000 in
theorem c_X9_sign (l : Launch) (hst9 : l.stackTraces = false) (D : va_G × Nat) (S : PS) (a0 : Nat) (p1 : Int32) (p2 : Int32) (p3 : Int32) (p4 : Int32) (r : (PS × Int32) ⊕ (PS × Nat)) (hf : f_X9_sign S a0 p1 p2 p3 p4 = some r) : XM l D yX9_sign wsX9_sign rmX9_sign S [.ref a0, .int p1, .int p2, .int p3, .int p4] (mI r) 4 24 := by
  unfold f_X9_sign at hf
  refine vx_ofW (cc := cX9_sign) (maxL := 5) (ret := (some .char)) (by decide) rfl ?_
  intro p e s m args below meth c s₁ B hml hxt hv
  obtain ⟨rfl, hH0, hE, hNE⟩ := hv
  have hB := hH0.base
  have hx := B.exec
  have hb := B.bytes
  have hr := B.returns
  have hts := atoms_spec (ws := wsX9_sign) B.pre
  have hown : s.vm.findClass RX9 = some m.cls := findClass_of_methodNamed B.named
  have hlocks := B.notSynchronized
  have hH : HI D S S s s.heap [] := HI.start hH0
  have hl := lv_entry ([.ref a0, .int p1, .int p2, .int p3, .int p4]) (n := 5) (Nat.le_of_ble_eq_true rfl)
  rw [lg_entry_eq]
  generalize (lg_sl ([.ref a0, .int p1, .int p2, .int p3, .int p4]) ++ List.replicate (5 - (lg_sl ([.ref a0, .int p1, .int p2, .int p3, .int p4])).length) Slot.unset).toArray = ls at hl ⊢
  have hl : lv_has ls 5 [(0, .ref a0), (1, .int p1), (2, .int p2), (3, .int p3), (4, .int p4)] := hl
  refine lv_aload_n hx hb dX9_sign_0 rfl (lv_at hl 0 rfl) ?_
  refine lv_iload_n hx hb dX9_sign_1 rfl (lv_at hl 1 rfl) ?_
  obtain ⟨ek1, hf⟩ := oc hf
  rcases obx2 hf with ⟨x4_, e2, rfl⟩ | ⟨S3, a4, e2, hf⟩
  · refine r_xVex (As := [.int p1]) ⟨hx, hb, hml, hown, hts⟩ (c_X9_findFor l hst9 D S a0 p1 (.inr x4_) e2) (cwV 1 hts (gwV gw_26_10 gw_26_11 gw_26_12 gw_14_5 gw_25_23) rfl rfl rfl (by decide +kernel) ⟨Nat.le_of_ble_eq_true rfl, Nat.le_of_ble_eq_true rfl⟩) hH hE hB hNE 12 ek1 (by decide) rfl rfl rfl hl.1 rfl (Nat.le_of_ble_eq_true rfl) dX9_sign_2 ⟨(Nat.le_of_ble_eq_true rfl), (Nat.le_of_ble_eq_true rfl)⟩ (fun z9 ce9 q9 H locs hH hk9 hz9 h91 h92 h93 => ?_)
    exact x_out hxt hlocks hH hk9 hz9 h91 h92 h93 ⟨Nat.le_of_ble_eq_true rfl, Nat.le_of_ble_eq_true rfl⟩
  refine r_xVok (As := [.int p1]) (S' := S3) (v := (some (.ref a4))) (st1 := [.ref a4]) ⟨hx, hb, hml, hown, hts⟩ (c_X9_findFor l hst9 D S a0 p1 (.inl (S3, a4)) e2) (cwV 1 hts (gwV gw_26_10 gw_26_11 gw_26_12 gw_14_5 gw_25_23) rfl rfl rfl (by decide +kernel) ⟨Nat.le_of_ble_eq_true rfl, Nat.le_of_ble_eq_true rfl⟩) hH hE hB hNE 12 ek1 (by decide) rfl rfl rfl hl.1 rfl (Nat.le_of_ble_eq_true rfl) dX9_sign_2 ⟨(Nat.le_of_ble_eq_true rfl), (Nat.le_of_ble_eq_true rfl)⟩ rfl (fun H locs hH => ?_)
  refine W.widen (k := 1) (n := 6) (by omega) (by omega) ?_
  refine lv_pop hx hb dX9_sign_5 rfl ?_
  refine lv_aload_n hx hb dX9_sign_6 rfl (lv_at hl 0 rfl) ?_
  refine lv_iload_n hx hb dX9_sign_7 rfl (lv_at hl 2 rfl) ?_
  refine lv_iload_n hx hb dX9_sign_8 rfl (lv_at hl 3 rfl) ?_
  obtain ⟨ek5, hf⟩ := oc hf
  rcases obx1 hf with ⟨x7_, e6, rfl⟩ | ⟨S7, e6, hf⟩
  · refine r_xVex (As := [.int p2, .int p3]) ⟨hx, hb, hml, hown, hts⟩ (c_X9_propose l hst9 D S3 a0 p2 p3 (.inr x7_) e6) (cwV 2 hts (gwV gw_27_13 gw_27_14 gw_27_15 gw_14_5 gw_27_5) rfl rfl rfl (by decide +kernel) ⟨Nat.le_of_ble_eq_true rfl, Nat.le_of_ble_eq_true rfl⟩) hH hE hB hNE 12 ek5 (by decide) rfl rfl rfl hl.1 rfl (Nat.le_of_ble_eq_true rfl) dX9_sign_9 ⟨(Nat.le_of_ble_eq_true rfl), (Nat.le_of_ble_eq_true rfl)⟩ (fun z9 ce9 q9 H locs hH hk9 hz9 h91 h92 h93 => ?_)
    exact x_out hxt hlocks hH hk9 hz9 h91 h92 h93 ⟨Nat.le_of_ble_eq_true rfl, Nat.le_of_ble_eq_true rfl⟩
  refine r_xVok (As := [.int p2, .int p3]) (S' := S7) (v := none) (st1 := []) ⟨hx, hb, hml, hown, hts⟩ (c_X9_propose l hst9 D S3 a0 p2 p3 (.inl S7) e6) (cwV 2 hts (gwV gw_27_13 gw_27_14 gw_27_15 gw_14_5 gw_27_5) rfl rfl rfl (by decide +kernel) ⟨Nat.le_of_ble_eq_true rfl, Nat.le_of_ble_eq_true rfl⟩) hH hE hB hNE 12 ek5 (by decide) rfl rfl rfl hl.1 rfl (Nat.le_of_ble_eq_true rfl) dX9_sign_9 ⟨(Nat.le_of_ble_eq_true rfl), (Nat.le_of_ble_eq_true rfl)⟩ rfl (fun H locs hH => ?_)
  refine W.widen (k := 3) (n := 18) (by omega) (by omega) ?_
  refine lv_iload hx hb dX9_sign_12 (lv_at hl 4 rfl) ?_
  obtain ⟨j8, e10, hf⟩ := ol hf
  have Jj8 : ∀ (u9 : Unit) (H : Heap) (locs : List Loc) (ls : Array Slot), HI D S S7 s H locs → lv_has ls 5 [] → j8 u9 = some r → GX p l e (headSpec wsX9_sign rmX9_sign).room s m ([.ref a0, .int p1, .int p2, .int p3, .int p4] : List Value).toArray below meth c D S (mI r) H locs 3 18 4 24 (F0 m 29 ls []) := by
    intro u9 H locs ls hH hl hf
    rw [← e10] at hf
    cases hf
    exact r_throwX (ix := 13) (rx := rx13) (x0 := by decide) (x1 := by decide) (x2 := by decide) (x5 := by decide) (text := "no such place") (cls := "java/util/NoSuchElementException") (names := ["java/lang/RuntimeException", "java/lang/Exception"]) 5 hx hb hst9 hown xf4 xn (hts (.classLink RX9 275 "java/util/NoSuchElementException") (List.mem_cons_of_mem _ gw_26_15)) (hts (.initialized "java/util/NoSuchElementException") (List.mem_cons_of_mem _ gw_26_16)) (List.mem_of_getElem? (i := 2) rfl) (xa4 hts hE) xg4 hE hB hH (hl.1.trans hml.symm) rfl dX9_sign_29 dX9_sign_32 dX9_sign_33 dX9_sign_35 dX9_sign_38 hxt (Nat.le_of_ble_eq_true rfl) (Nat.le_of_ble_eq_true rfl) (Nat.le_of_ble_eq_true rfl) (Nat.le_of_ble_eq_true rfl) hlocks ⟨Nat.le_of_ble_eq_true rfl, Nat.le_of_ble_eq_true rfl⟩
  refine lv_if_lt (tgt := 29) hx hb dX9_sign_14 (by decide) (fun c11 => ?_) (fun c11 => ?_)
  · have hf := ip hf c11
    exact Jj8 () _ _ ls hH (lv_sub hl [] rfl) hf
  · have hf := iq hf c11
    refine lv_iload hx hb dX9_sign_17 (lv_at hl 4 rfl) ?_
    refine lv_aload_n hx hb dX9_sign_19 rfl (lv_at hl 0 rfl) ?_
    obtain ⟨ek12, hf⟩ := oc hf
    obtain ⟨a13, e14, hf⟩ := ob hf
    refine r_getQ hx hb 12 hts (fun w h => List.mem_cons_of_mem _ (mwsX90 w h)) hown hH ek12 (by decide) rfl 6 (by decide) rfl (hts (.fieldLink RX9 67 "Housestyle" "proposal" "LHousestyle$Row;") (List.mem_cons_of_mem _ gw_20_14)) (fun _ h9 => h9) dX9_sign_20 e14 ?_
    obtain ⟨ek15, hf⟩ := oc hf
    obtain ⟨r16, e17, hf⟩ := ob hf
    refine r_callVi (As := []) ⟨hx, hb, hml, hown, hts⟩ (c_X5_count l D S7 a13 r16 e17) (cwV 0 hts (gwV gw_21_15 gw_1_15 gw_1_16 gw_1_5 gw_1_11) rfl rfl rfl (by decide +kernel) ⟨Nat.le_of_ble_eq_true rfl, Nat.le_of_ble_eq_true rfl⟩) hH hNE 8 ek15 (by decide) rfl rfl rfl hl.1 rfl (Nat.le_of_ble_eq_true rfl) dX9_sign_23 ⟨(Nat.le_of_ble_eq_true rfl), (Nat.le_of_ble_eq_true rfl)⟩ (fun H locs hH => ?_)
    refine lv_icmp_lt (tgt := 39) hx hb dX9_sign_26 (by decide) (fun c18 => ?_) (fun c18 => ?_)
    · have hf := ip hf c18
      refine lv_aload_n hx hb dX9_sign_39 rfl (lv_at hl 0 rfl) ?_
      refine r_getQ hx hb 12 hts (fun w h => List.mem_cons_of_mem _ (mwsX90 w h)) hown hH ek12 (by decide) rfl 6 (by decide) rfl (hts (.fieldLink RX9 67 "Housestyle" "proposal" "LHousestyle$Row;") (List.mem_cons_of_mem _ gw_20_14)) (fun _ h9 => h9) dX9_sign_40 e14 ?_
      refine lv_iload hx hb dX9_sign_43 (lv_at hl 4 rfl) ?_
      obtain ⟨r19, e20, hf⟩ := ob hf
      refine r_callVi (As := [.int p4]) ⟨hx, hb, hml, hown, hts⟩ (c_X5_get l D S7 a13 p4 r19 e20) (cwV 1 hts (gwV gw_14_2 gw_2_13 gw_2_14 gw_1_5 gw_2_9) rfl rfl rfl (by decide +kernel) ⟨Nat.le_of_ble_eq_true rfl, Nat.le_of_ble_eq_true rfl⟩) hH hNE 8 ek15 (by decide) rfl rfl rfl hl.1 rfl (Nat.le_of_ble_eq_true rfl) dX9_sign_45 ⟨(Nat.le_of_ble_eq_true rfl), (Nat.le_of_ble_eq_true rfl)⟩ (fun H locs hH => ?_)
      refine lv_i2c hx hb dX9_sign_48 rfl ?_
      refine W.widen (k := 4) (n := 24) (by omega) (by omega) ?_
      obtain ⟨en21, hf⟩ := oc hf
      have hr9 := Option.some.inj hf
      subst hr9
      exact x_z hx hb hr hlocks (nar_C en21) hH dX9_sign_49
    · have hf := iq hf c18
      exact Jj8 () _ _ ls hH (lv_sub hl [] rfl) hf
set_option maxRecDepth 100000 in
def f_X9_apply_b115 (a0 : Nat) (p4 : Int32) (r15 : Int32) (x38 : Int32) (S39 : PS) : Option ((Int32 × PS) ⊕ ((PS))) := if kK S39 a0 = 13 then ((kQ S39 a0 6).bind fun a54 => if kK S39 a54 = 9 then ((f_X5_count S39 a54).bind fun r57 => if r57 ≤ x38 then (some (.inr S39)) else ((f_X5_get S39 a54 x38).bind fun r60 => (f_X9_putIn S39 a0 (r15 + x38) ((r60.toUInt32 % 65536).toInt32) p4).bind fun r62 => lt (x38 + 1) fun x64 => some (.inl (x64, r62)))) else none) else none
set_option maxRecDepth 100000 in
def f_X9_apply_b92 (a0 : Nat) (r15 : Int32) (r17 : Int32) (x33 : Int32) (S34 : PS) : Option ((Int32 × PS) ⊕ ((PS))) := if r17 ≤ x33 then (some (.inr S34)) else (if kK S34 a0 = 13 then ((f_X9_takeOut S34 a0 r15).bind fun r69 => lt r69.1 fun S71 => lt (x33 + 1) fun x73 => some (.inl (x73, S71))) else none)
set_option maxRecDepth 100000 in
def f_X9_apply (S : PS) (a0 : Nat) (p1 : Int32) (p2 : Int32) (p3 : Int32) (p4 : Int32) : Option ((PS × Int32) ⊕ (PS × Nat)) := if kK S a0 = 13 then (bx2 (f_X9_findFor S a0 p1) fun S3 a4 => (f_X9_isWriter S3 p4).bind fun r5 => if r5 = 0 then (some (.inr (S3, 1))) else (if kK S3 a0 = 13 then (bx1 (f_X9_propose S3 a0 p2 p3) fun S10 => if kK S10 a0 = 13 then ((kQ S10 a0 5).bind fun a12 => if kK S10 a12 = 6 then ((f_X2_fromOf S10 a12 p2).bind fun r15 => (f_X2_lengthOf S10 a12 p2).bind fun r17 => (kQ S10 a0 1).bind fun a19 => if kK S10 a19 = 11 then ((kQ S10 a19 0).bind fun a22 => if kK S10 a22 = 9 then ((f_X5_count S10 a22).bind fun r25 => (kQ S10 a0 6).bind fun a27 => if kK S10 a27 = 9 then ((f_X5_count S10 a27).bind fun r30 => if ((r25 - r17) + r30) ≤ (160 : Int32) then (lt (fun (S35 : PS) => lt (fun (S40 : PS) => if kK S40 a0 = 13 then ((kQ S40 a0 1).bind fun a44 => if kK S40 a44 = 11 then ((kQ S40 a44 0).bind fun a47 => if kK S40 a47 = 9 then ((f_X5_count S40 a47).bind fun r50 => some (.inl (S40, r50))) else none) else none) else none) fun k41 => (iter (fun (v : Int32 × PS) => f_X9_apply_b115 a0 p4 r15 v.1 v.2) kF (0, S35)).bind (fun (v : PS) => k41 v)) fun k36 => (iter (fun (v : Int32 × PS) => f_X9_apply_b92 a0 r15 r17 v.1 v.2) kF (0, S10)).bind (fun (v : PS) => k36 v)) else (some (.inr (S10, 2)))) else none) else none) else none) else none) else none) else none)) else none
abbrev rmX9_apply : Room := { frames := 8, cells := 4, slots := 24, locals := 178 }
set_option maxHeartbeats 4000000 in
set_option maxRecDepth 100000 in
theorem c_X9_apply (l : Launch) (hst9 : l.stackTraces = false) (D : va_G × Nat) (S : PS) (a0 : Nat) (p1 : Int32) (p2 : Int32) (p3 : Int32) (p4 : Int32) (r : (PS × Int32) ⊕ (PS × Nat)) (hf : f_X9_apply S a0 p1 p2 p3 p4 = some r) : XM l D yX9_apply wsX9_apply rmX9_apply S [.ref a0, .int p1, .int p2, .int p3, .int p4] (mI r) 4 24 := by
  unfold f_X9_apply at hf
  refine vx_ofW (cc := cX9_apply) (maxL := 8) (ret := (some .int)) (by decide) rfl ?_
  intro p e s m args below meth c s₁ B hml hxt hv
  obtain ⟨rfl, hH0, hE, hNE⟩ := hv
  have hB := hH0.base
  have hx := B.exec
  have hb := B.bytes
  have hr := B.returns
  have hts := atoms_spec (ws := wsX9_apply) B.pre
  have hown : s.vm.findClass RX9 = some m.cls := findClass_of_methodNamed B.named
  have hlocks := B.notSynchronized
  have hH : HI D S S s s.heap [] := HI.start hH0
  have hl := lv_entry ([.ref a0, .int p1, .int p2, .int p3, .int p4]) (n := 8) (Nat.le_of_ble_eq_true rfl)
  rw [lg_entry_eq]
  generalize (lg_sl ([.ref a0, .int p1, .int p2, .int p3, .int p4]) ++ List.replicate (8 - (lg_sl ([.ref a0, .int p1, .int p2, .int p3, .int p4])).length) Slot.unset).toArray = ls at hl ⊢
  have hl : lv_has ls 8 [(0, .ref a0), (1, .int p1), (2, .int p2), (3, .int p3), (4, .int p4)] := hl
  refine lv_aload_n hx hb dX9_apply_0 rfl (lv_at hl 0 rfl) ?_
  refine lv_iload_n hx hb dX9_apply_1 rfl (lv_at hl 1 rfl) ?_
  obtain ⟨ek1, hf⟩ := oc hf
  rcases obx2 hf with ⟨x4_, e2, rfl⟩ | ⟨S3, a4, e2, hf⟩
  · refine r_xVex (As := [.int p1]) ⟨hx, hb, hml, hown, hts⟩ (c_X9_findFor l hst9 D S a0 p1 (.inr x4_) e2) (cwV 1 hts (gwV gw_26_10 gw_26_11 gw_26_12 gw_14_5 gw_25_23) rfl rfl rfl (by decide +kernel) ⟨Nat.le_of_ble_eq_true rfl, Nat.le_of_ble_eq_true rfl⟩) hH hE hB hNE 12 ek1 (by decide) rfl rfl rfl hl.1 rfl (Nat.le_of_ble_eq_true rfl) dX9_apply_2 ⟨(Nat.le_of_ble_eq_true rfl), (Nat.le_of_ble_eq_true rfl)⟩ (fun z9 ce9 q9 H locs hH hk9 hz9 h91 h92 h93 => ?_)
    exact x_out hxt hlocks hH hk9 hz9 h91 h92 h93 ⟨Nat.le_of_ble_eq_true rfl, Nat.le_of_ble_eq_true rfl⟩
  refine r_xVok (As := [.int p1]) (S' := S3) (v := (some (.ref a4))) (st1 := [.ref a4]) ⟨hx, hb, hml, hown, hts⟩ (c_X9_findFor l hst9 D S a0 p1 (.inl (S3, a4)) e2) (cwV 1 hts (gwV gw_26_10 gw_26_11 gw_26_12 gw_14_5 gw_25_23) rfl rfl rfl (by decide +kernel) ⟨Nat.le_of_ble_eq_true rfl, Nat.le_of_ble_eq_true rfl⟩) hH hE hB hNE 12 ek1 (by decide) rfl rfl rfl hl.1 rfl (Nat.le_of_ble_eq_true rfl) dX9_apply_2 ⟨(Nat.le_of_ble_eq_true rfl), (Nat.le_of_ble_eq_true rfl)⟩ rfl (fun H locs hH => ?_)
  refine W.widen (k := 1) (n := 6) (by omega) (by omega) ?_
  refine lv_pop hx hb dX9_apply_5 rfl ?_
  refine lv_iload hx hb dX9_apply_6 (lv_at hl 4 rfl) ?_
  obtain ⟨r5, e6, hf⟩ := ob hf
  refine r_callSi (As := [.int p4]) ⟨hx, hb, hml, hown, hts⟩ (c_X9_isWriter l D S3 p4 r5 e6) (va_cwS 1 hts (gwS gw_22_16 gw_22_17 gw_14_5 gw_21_20) rfl rfl rfl (by decide +kernel) ⟨Nat.le_of_ble_eq_true rfl, Nat.le_of_ble_eq_true rfl⟩) hH hNE rfl hl.1 rfl (Nat.le_of_ble_eq_true rfl) dX9_apply_8 ⟨(Nat.le_of_ble_eq_true rfl), (Nat.le_of_ble_eq_true rfl)⟩ (fun H locs hH => ?_)
  refine lv_if_ne (tgt := 25) hx hb dX9_apply_11 (by decide) (fun c7 => ?_) (fun c7 => ?_)
  · have hf := iq hf c7
    refine lv_aload_n hx hb dX9_apply_25 rfl (lv_at hl 0 rfl) ?_
    refine lv_iload_n hx hb dX9_apply_26 rfl (lv_at hl 2 rfl) ?_
    refine lv_iload_n hx hb dX9_apply_27 rfl (lv_at hl 3 rfl) ?_
    obtain ⟨ek8, hf⟩ := oc hf
    rcases obx1 hf with ⟨x10_, e9, rfl⟩ | ⟨S10, e9, hf⟩
    · refine r_xVex (As := [.int p2, .int p3]) ⟨hx, hb, hml, hown, hts⟩ (c_X9_propose l hst9 D S3 a0 p2 p3 (.inr x10_) e9) (cwV 2 hts (gwV gw_27_13 gw_27_14 gw_27_15 gw_14_5 gw_27_5) rfl rfl rfl (by decide +kernel) ⟨Nat.le_of_ble_eq_true rfl, Nat.le_of_ble_eq_true rfl⟩) hH hE hB hNE 12 ek8 (by decide) rfl rfl rfl hl.1 rfl (Nat.le_of_ble_eq_true rfl) dX9_apply_28 ⟨(Nat.le_of_ble_eq_true rfl), (Nat.le_of_ble_eq_true rfl)⟩ (fun z9 ce9 q9 H locs hH hk9 hz9 h91 h92 h93 => ?_)
      exact x_out hxt hlocks hH hk9 hz9 h91 h92 h93 ⟨Nat.le_of_ble_eq_true rfl, Nat.le_of_ble_eq_true rfl⟩
    refine r_xVok (As := [.int p2, .int p3]) (S' := S10) (v := none) (st1 := []) ⟨hx, hb, hml, hown, hts⟩ (c_X9_propose l hst9 D S3 a0 p2 p3 (.inl S10) e9) (cwV 2 hts (gwV gw_27_13 gw_27_14 gw_27_15 gw_14_5 gw_27_5) rfl rfl rfl (by decide +kernel) ⟨Nat.le_of_ble_eq_true rfl, Nat.le_of_ble_eq_true rfl⟩) hH hE hB hNE 12 ek8 (by decide) rfl rfl rfl hl.1 rfl (Nat.le_of_ble_eq_true rfl) dX9_apply_28 ⟨(Nat.le_of_ble_eq_true rfl), (Nat.le_of_ble_eq_true rfl)⟩ rfl (fun H locs hH => ?_)
    refine W.widen (k := 3) (n := 18) (by omega) (by omega) ?_
    refine lv_aload_n hx hb dX9_apply_31 rfl (lv_at hl 0 rfl) ?_
    obtain ⟨ek11, hf⟩ := oc hf
    obtain ⟨a12, e13, hf⟩ := ob hf
    refine r_getQ hx hb 12 hts (fun w h => List.mem_cons_of_mem _ (mwsX90 w h)) hown hH ek11 (by decide) rfl 5 (by decide) rfl (hts (.fieldLink RX9 63 "Housestyle" "found" "LHousestyle$Findings;") (List.mem_cons_of_mem _ gw_20_13)) (fun _ h9 => h9) dX9_apply_32 e13 ?_
    refine lv_iload_n hx hb dX9_apply_35 rfl (lv_at hl 2 rfl) ?_
    obtain ⟨ek14, hf⟩ := oc hf
    obtain ⟨r15, e16, hf⟩ := ob hf
    refine r_callVi (As := [.int p2]) ⟨hx, hb, hml, hown, hts⟩ (c_X2_fromOf l D S10 a12 p2 r15 e16) (cwV 1 hts (gwV gw_27_0 gw_13_3 gw_13_4 gw_11_18 gw_11_2) rfl rfl rfl (by decide +kernel) ⟨Nat.le_of_ble_eq_true rfl, Nat.le_of_ble_eq_true rfl⟩) hH hNE 5 ek14 (by decide) rfl rfl rfl hl.1 rfl (Nat.le_of_ble_eq_true rfl) dX9_apply_36 ⟨(Nat.le_of_ble_eq_true rfl), (Nat.le_of_ble_eq_true rfl)⟩ (fun H locs hH => ?_)
    refine lv_istore (lv' := [(5, .int r15), (0, .ref a0), (1, .int p1), (2, .int p2), (3, .int p3), (4, .int p4)]) hx hb dX9_apply_39 hl (by decide) rfl (fun ls hl => ?_)
    refine lv_aload_n hx hb dX9_apply_41 rfl (lv_at hl 1 rfl) ?_
    refine r_getQ hx hb 12 hts (fun w h => List.mem_cons_of_mem _ (mwsX90 w h)) hown hH ek11 (by decide) rfl 5 (by decide) rfl (hts (.fieldLink RX9 63 "Housestyle" "found" "LHousestyle$Findings;") (List.mem_cons_of_mem _ gw_20_13)) (fun _ h9 => h9) dX9_apply_42 e13 ?_
    refine lv_iload_n hx hb dX9_apply_45 rfl (lv_at hl 3 rfl) ?_
    obtain ⟨r17, e18, hf⟩ := ob hf
    refine r_callVi (As := [.int p2]) ⟨hx, hb, hml, hown, hts⟩ (c_X2_lengthOf l D S10 a12 p2 r17 e18) (cwV 1 hts (gwV gw_27_1 gw_13_6 gw_13_7 gw_11_18 gw_11_14) rfl rfl rfl (by decide +kernel) ⟨Nat.le_of_ble_eq_true rfl, Nat.le_of_ble_eq_true rfl⟩) hH hNE 5 ek14 (by decide) rfl rfl rfl hl.1 rfl (Nat.le_of_ble_eq_true rfl) dX9_apply_46 ⟨(Nat.le_of_ble_eq_true rfl), (Nat.le_of_ble_eq_true rfl)⟩ (fun H locs hH => ?_)
    refine lv_istore (lv' := [(6, .int r17), (5, .int r15), (0, .ref a0), (1, .int p1), (2, .int p2), (3, .int p3), (4, .int p4)]) hx hb dX9_apply_49 hl (by decide) rfl (fun ls hl => ?_)
    refine lv_aload_n hx hb dX9_apply_51 rfl (lv_at hl 2 rfl) ?_
    obtain ⟨a19, e20, hf⟩ := ob hf
    refine r_getQ hx hb 12 hts (fun w h => List.mem_cons_of_mem _ (mwsX90 w h)) hown hH ek11 (by decide) rfl 1 (by decide) rfl (hts (.fieldLink RX9 21 "Housestyle" "text" "LHousestyle$Text;") (List.mem_cons_of_mem _ gw_20_0)) (fun _ h9 => h9) dX9_apply_52 e20 ?_
    obtain ⟨ek21, hf⟩ := oc hf
    obtain ⟨a22, e23, hf⟩ := ob hf
    refine r_getQN hx hb 10 hts (fun w h => List.mem_cons_of_mem _ (mwsX70 w h)) hown hH ek21 (by decide) rfl 0 (by decide) rfl (nf_0 hNE) (fun _ h9 => h9) dX9_apply_55 e23 ?_
    obtain ⟨ek24, hf⟩ := oc hf
    obtain ⟨r25, e26, hf⟩ := ob hf
    refine r_callVi (As := []) ⟨hx, hb, hml, hown, hts⟩ (c_X5_count l D S10 a22 r25 e26) (cwV 0 hts (gwV gw_21_15 gw_1_15 gw_1_16 gw_1_5 gw_1_11) rfl rfl rfl (by decide +kernel) ⟨Nat.le_of_ble_eq_true rfl, Nat.le_of_ble_eq_true rfl⟩) hH hNE 8 ek24 (by decide) rfl rfl rfl hl.1 rfl (Nat.le_of_ble_eq_true rfl) dX9_apply_58 ⟨(Nat.le_of_ble_eq_true rfl), (Nat.le_of_ble_eq_true rfl)⟩ (fun H locs hH => ?_)
    refine lv_iload hx hb dX9_apply_61 (lv_at hl 0 rfl) ?_
    refine lv_isub hx hb dX9_apply_63 ?_
    refine lv_aload_n hx hb dX9_apply_64 rfl (lv_at hl 2 rfl) ?_
    obtain ⟨a27, e28, hf⟩ := ob hf
    refine r_getQ hx hb 12 hts (fun w h => List.mem_cons_of_mem _ (mwsX90 w h)) hown hH ek11 (by decide) rfl 6 (by decide) rfl (hts (.fieldLink RX9 67 "Housestyle" "proposal" "LHousestyle$Row;") (List.mem_cons_of_mem _ gw_20_14)) (fun _ h9 => h9) dX9_apply_65 e28 ?_
    obtain ⟨ek29, hf⟩ := oc hf
    obtain ⟨r30, e31, hf⟩ := ob hf
    refine r_callVi (As := []) ⟨hx, hb, hml, hown, hts⟩ (c_X5_count l D S10 a27 r30 e31) (cwV 0 hts (gwV gw_21_15 gw_1_15 gw_1_16 gw_1_5 gw_1_11) rfl rfl rfl (by decide +kernel) ⟨Nat.le_of_ble_eq_true rfl, Nat.le_of_ble_eq_true rfl⟩) hH hNE 8 ek29 (by decide) rfl rfl rfl hl.1 rfl (Nat.le_of_ble_eq_true rfl) dX9_apply_68 ⟨(Nat.le_of_ble_eq_true rfl), (Nat.le_of_ble_eq_true rfl)⟩ (fun H locs hH => ?_)
    refine lv_iadd hx hb dX9_apply_71 ?_
    refine lv_sipush (v := 160) hx hb dX9_apply_72 (by decide) ?_
    refine lv_icmp_le (tgt := 89) hx hb dX9_apply_75 (by decide) (fun c32 => ?_) (fun c32 => ?_)
    · have hf := ip hf c32
      refine lv_iconst (v := 0) hx hb dX9_apply_89 (by decide) ?_
      refine lv_istore (lv' := [(7, .int 0), (6, .int r17), (5, .int r15), (0, .ref a0), (1, .int p1), (2, .int p2), (3, .int p3), (4, .int p4)]) hx hb dX9_apply_90 hl (by decide) rfl (fun ls hl => ?_)
      obtain ⟨k36, e37, hf⟩ := ol hf
      have Xk36 : ∀ (S35 : PS) (H : Heap) (locs : List Loc) (ls : Array Slot), HI D S S35 s H locs → lv_has ls 8 [(0, .ref a0), (4, .int p4), (5, .int r15)] → k36 S35 = some r → GX p l e (headSpec wsX9_apply rmX9_apply).room s m ([.ref a0, .int p1, .int p2, .int p3, .int p4] : List Value).toArray below meth c D S (mI r) H locs 3 18 4 24 (F0 m 112 ls []) := by
        intro S35 H locs ls hH hl hf
        rw [← e37] at hf
        refine lv_iconst (v := 0) hx hb dX9_apply_112 (by decide) ?_
        refine lv_istore (lv' := [(7, .int 0), (0, .ref a0), (4, .int p4), (5, .int r15)]) hx hb dX9_apply_113 hl (by decide) rfl (fun ls hl => ?_)
        obtain ⟨k41, e42, hf⟩ := ol hf
        have Xk41 : ∀ (S40 : PS) (H : Heap) (locs : List Loc) (ls : Array Slot), HI D S S40 s H locs → lv_has ls 8 [(0, .ref a0)] → k41 S40 = some r → GX p l e (headSpec wsX9_apply rmX9_apply).room s m ([.ref a0, .int p1, .int p2, .int p3, .int p4] : List Value).toArray below meth c D S (mI r) H locs 3 18 4 24 (F0 m 154 ls []) := by
          intro S40 H locs ls hH hl hf
          rw [← e42] at hf
          refine lv_aload_n hx hb dX9_apply_154 rfl (lv_at hl 0 rfl) ?_
          obtain ⟨ek43, hf⟩ := oc hf
          obtain ⟨a44, e45, hf⟩ := ob hf
          refine r_getQ hx hb 12 hts (fun w h => List.mem_cons_of_mem _ (mwsX90 w h)) hown hH ek43 (by decide) rfl 1 (by decide) rfl (hts (.fieldLink RX9 21 "Housestyle" "text" "LHousestyle$Text;") (List.mem_cons_of_mem _ gw_20_0)) (fun _ h9 => h9) dX9_apply_155 e45 ?_
          obtain ⟨ek46, hf⟩ := oc hf
          obtain ⟨a47, e48, hf⟩ := ob hf
          refine r_getQN hx hb 10 hts (fun w h => List.mem_cons_of_mem _ (mwsX70 w h)) hown hH ek46 (by decide) rfl 0 (by decide) rfl (nf_0 hNE) (fun _ h9 => h9) dX9_apply_158 e48 ?_
          obtain ⟨ek49, hf⟩ := oc hf
          obtain ⟨r50, e51, hf⟩ := ob hf
          refine r_callVi (As := []) ⟨hx, hb, hml, hown, hts⟩ (c_X5_count l D S40 a47 r50 e51) (cwV 0 hts (gwV gw_21_15 gw_1_15 gw_1_16 gw_1_5 gw_1_11) rfl rfl rfl (by decide +kernel) ⟨Nat.le_of_ble_eq_true rfl, Nat.le_of_ble_eq_true rfl⟩) hH hNE 8 ek49 (by decide) rfl rfl rfl hl.1 rfl (Nat.le_of_ble_eq_true rfl) dX9_apply_161 ⟨(Nat.le_of_ble_eq_true rfl), (Nat.le_of_ble_eq_true rfl)⟩ (fun H locs hH => ?_)
          refine W.widen (k := 4) (n := 24) (by omega) (by omega) ?_
          have hr9 := Option.some.inj hf
          subst hr9
          exact x_i hx hb hr hlocks hH dX9_apply_164
        obtain ⟨o52, eo52, hq52f⟩ := ob hf
        have Lo52 : ∀ (n : Nat) (x38 : Int32) (S39 : PS), iter (fun (v : Int32 × PS) => f_X9_apply_b115 a0 p4 r15 v.1 v.2) n (x38, S39) = some o52 → ∀ (H : Heap) (locs : List Loc) (ls : Array Slot), HI D S S39 s H locs → lv_has ls 8 [(0, .ref a0), (4, .int p4), (5, .int r15), (7, .int x38)] → GX p l e (headSpec wsX9_apply rmX9_apply).room s m ([.ref a0, .int p1, .int p2, .int p3, .int p4] : List Value).toArray below meth c D S (mI r) H locs 3 18 4 24 (F0 m 115 ls []) := by
          intro n
          induction n with
          | zero => intro x38 S39 hi; cases hi
          | succ n ih52 =>
            intro x38 S39 hi H locs ls hH hl
            obtain ⟨q52_, hf, hq52⟩ := iter_s hi
            have hf : f_X9_apply_b115 a0 p4 r15 x38 S39 = some q52_ := hf
            unfold f_X9_apply_b115 at hf
            refine lv_iload hx hb dX9_apply_115 (lv_at hl 3 rfl) ?_
            refine lv_aload_n hx hb dX9_apply_117 rfl (lv_at hl 0 rfl) ?_
            obtain ⟨ek53, hf⟩ := oc hf
            obtain ⟨a54, e55, hf⟩ := ob hf
            refine r_getQ hx hb 12 hts (fun w h => List.mem_cons_of_mem _ (mwsX90 w h)) hown hH ek53 (by decide) rfl 6 (by decide) rfl (hts (.fieldLink RX9 67 "Housestyle" "proposal" "LHousestyle$Row;") (List.mem_cons_of_mem _ gw_20_14)) (fun _ h9 => h9) dX9_apply_118 e55 ?_
            obtain ⟨ek56, hf⟩ := oc hf
            obtain ⟨r57, e58, hf⟩ := ob hf
            refine r_callVi (As := []) ⟨hx, hb, hml, hown, hts⟩ (c_X5_count l D S39 a54 r57 e58) (cwV 0 hts (gwV gw_21_15 gw_1_15 gw_1_16 gw_1_5 gw_1_11) rfl rfl rfl (by decide +kernel) ⟨Nat.le_of_ble_eq_true rfl, Nat.le_of_ble_eq_true rfl⟩) hH hNE 8 ek56 (by decide) rfl rfl rfl hl.1 rfl (Nat.le_of_ble_eq_true rfl) dX9_apply_121 ⟨(Nat.le_of_ble_eq_true rfl), (Nat.le_of_ble_eq_true rfl)⟩ (fun H locs hH => ?_)
            refine lv_icmp_ge (tgt := 154) hx hb dX9_apply_124 (by decide) (fun c59 => ?_) (fun c59 => ?_)
            · have hf := ip hf c59
              cases hf
              have hf9 := itR (K := (fun (v : PS) => k41 v)) hq52 hq52f
              exact Xk41 S39 _ _ ls hH (lv_sub hl [0] rfl) hf9
            · have hf := iq hf c59
              refine lv_aload_n hx hb dX9_apply_127 rfl (lv_at hl 0 rfl) ?_
              refine lv_iload hx hb dX9_apply_128 (lv_at hl 2 rfl) ?_
              refine lv_iload hx hb dX9_apply_130 (lv_at hl 3 rfl) ?_
              refine lv_iadd hx hb dX9_apply_132 ?_
              refine lv_aload_n hx hb dX9_apply_133 rfl (lv_at hl 0 rfl) ?_
              refine r_getQ hx hb 12 hts (fun w h => List.mem_cons_of_mem _ (mwsX90 w h)) hown hH ek53 (by decide) rfl 6 (by decide) rfl (hts (.fieldLink RX9 67 "Housestyle" "proposal" "LHousestyle$Row;") (List.mem_cons_of_mem _ gw_20_14)) (fun _ h9 => h9) dX9_apply_134 e55 ?_
              refine lv_iload hx hb dX9_apply_137 (lv_at hl 3 rfl) ?_
              obtain ⟨r60, e61, hf⟩ := ob hf
              refine r_callVi (As := [.int x38]) ⟨hx, hb, hml, hown, hts⟩ (c_X5_get l D S39 a54 x38 r60 e61) (cwV 1 hts (gwV gw_14_2 gw_2_13 gw_2_14 gw_1_5 gw_2_9) rfl rfl rfl (by decide +kernel) ⟨Nat.le_of_ble_eq_true rfl, Nat.le_of_ble_eq_true rfl⟩) hH hNE 8 ek56 (by decide) rfl rfl rfl hl.1 rfl (Nat.le_of_ble_eq_true rfl) dX9_apply_139 ⟨(Nat.le_of_ble_eq_true rfl), (Nat.le_of_ble_eq_true rfl)⟩ (fun H locs hH => ?_)
              refine lv_i2c hx hb dX9_apply_142 rfl ?_
              refine lv_iload hx hb dX9_apply_143 (lv_at hl 1 rfl) ?_
              obtain ⟨r62, e63, hf⟩ := ob hf
              refine r_callVv (As := [.int (r15 + x38), .int ((r60.toUInt32 % 65536).toInt32), .int p4]) ⟨hx, hb, hml, hown, hts⟩ (c_X9_putIn l D S39 a0 (r15 + x38) ((r60.toUInt32 % 65536).toInt32) p4 r62 e63) (cwV 3 hts (gwV gw_22_18 gw_22_19 gw_22_20 gw_14_5 gw_21_22) rfl rfl rfl (by decide +kernel) ⟨Nat.le_of_ble_eq_true rfl, Nat.le_of_ble_eq_true rfl⟩) hH hNE 12 ek53 (by decide) rfl rfl rfl hl.1 rfl (Nat.le_of_ble_eq_true rfl) dX9_apply_145 ⟨(Nat.le_of_ble_eq_true rfl), (Nat.le_of_ble_eq_true rfl)⟩ (fun H locs hH => ?_)
              obtain ⟨x64, e65, hf⟩ := ol hf
              refine lv_iinc (v := x64) (lv' := [(7, .int x64), (0, .ref a0), (4, .int p4), (5, .int r15)]) hx hb dX9_apply_148 hl (k := 3) rfl (by rw [← e65]; rfl) (by decide) rfl (fun ls hl => ?_)
              refine lv_goto (tgt := 115) hx hb dX9_apply_151 (by decide) ?_
              cases hf
              exact ih52 x64 r62 hq52 _ _ ls hH (lv_sub hl [1, 2, 3, 0] rfl)
        exact Lo52 kF 0 S35 eo52 _ _ ls hH (lv_sub hl [1, 2, 3, 0] rfl)
      obtain ⟨o66, eo66, hq66f⟩ := ob hf
      have Lo66 : ∀ (n : Nat) (x33 : Int32) (S34 : PS), iter (fun (v : Int32 × PS) => f_X9_apply_b92 a0 r15 r17 v.1 v.2) n (x33, S34) = some o66 → ∀ (H : Heap) (locs : List Loc) (ls : Array Slot), HI D S S34 s H locs → lv_has ls 8 [(0, .ref a0), (4, .int p4), (5, .int r15), (6, .int r17), (7, .int x33)] → GX p l e (headSpec wsX9_apply rmX9_apply).room s m ([.ref a0, .int p1, .int p2, .int p3, .int p4] : List Value).toArray below meth c D S (mI r) H locs 3 18 4 24 (F0 m 92 ls []) := by
        intro n
        induction n with
        | zero => intro x33 S34 hi; cases hi
        | succ n ih66 =>
          intro x33 S34 hi H locs ls hH hl
          obtain ⟨q66_, hf, hq66⟩ := iter_s hi
          have hf : f_X9_apply_b92 a0 r15 r17 x33 S34 = some q66_ := hf
          unfold f_X9_apply_b92 at hf
          refine lv_iload hx hb dX9_apply_92 (lv_at hl 4 rfl) ?_
          refine lv_iload hx hb dX9_apply_94 (lv_at hl 3 rfl) ?_
          refine lv_icmp_ge (tgt := 112) hx hb dX9_apply_96 (by decide) (fun c67 => ?_) (fun c67 => ?_)
          · have hf := ip hf c67
            cases hf
            have hf9 := itR (K := (fun (v : PS) => k36 v)) hq66 hq66f
            exact Xk36 S34 _ _ ls hH (lv_sub hl [0, 1, 2] rfl) hf9
          · have hf := iq hf c67
            refine lv_aload_n hx hb dX9_apply_99 rfl (lv_at hl 0 rfl) ?_
            refine lv_iload hx hb dX9_apply_100 (lv_at hl 2 rfl) ?_
            obtain ⟨ek68, hf⟩ := oc hf
            obtain ⟨r69, e70, hf⟩ := ob hf
            refine r_callVi (As := [.int r15]) ⟨hx, hb, hml, hown, hts⟩ (c_X9_takeOut l D S34 a0 r15 r69 e70) (cwV 1 hts (gwV gw_23_9 gw_23_10 gw_23_11 gw_14_5 gw_22_22) rfl rfl rfl (by decide +kernel) ⟨Nat.le_of_ble_eq_true rfl, Nat.le_of_ble_eq_true rfl⟩) hH hNE 12 ek68 (by decide) rfl rfl rfl hl.1 rfl (Nat.le_of_ble_eq_true rfl) dX9_apply_102 ⟨(Nat.le_of_ble_eq_true rfl), (Nat.le_of_ble_eq_true rfl)⟩ (fun H locs hH => ?_)
            obtain ⟨S71, e72, hf⟩ := ol hf
            rw [e72] at hH
            refine lv_pop hx hb dX9_apply_105 rfl ?_
            obtain ⟨x73, e74, hf⟩ := ol hf
            refine lv_iinc (v := x73) (lv' := [(7, .int x73), (0, .ref a0), (4, .int p4), (5, .int r15), (6, .int r17)]) hx hb dX9_apply_106 hl (k := 4) rfl (by rw [← e74]; rfl) (by decide) rfl (fun ls hl => ?_)
            refine lv_goto (tgt := 92) hx hb dX9_apply_109 (by decide) ?_
            cases hf
            exact ih66 x73 S71 hq66 _ _ ls hH (lv_sub hl [1, 2, 3, 4, 0] rfl)
      exact Lo66 kF 0 S10 eo66 _ _ ls hH (lv_sub hl [3, 7, 2, 1, 0] rfl)
    · have hf := iq hf c32
      cases hf
      exact r_throwW (text := "the text would have more than 160") (cls := "java/lang/IllegalStateException") (names := ["java/lang/RuntimeException", "java/lang/Exception"]) 2 hx hb hst9 hown xf1 xn (hts (.classLink RX9 93 "java/lang/IllegalStateException") (List.mem_cons_of_mem _ gw_21_11)) (hts (.initialized "java/lang/IllegalStateException") (List.mem_cons_of_mem _ gw_21_12)) (List.mem_of_getElem? (i := 19) rfl) (xa1 hts hE) xg1 hE hB hH (hl.1.trans hml.symm) rfl dX9_apply_78 dX9_apply_81 dX9_apply_82 dX9_apply_85 dX9_apply_88 hxt (Nat.le_of_ble_eq_true rfl) (Nat.le_of_ble_eq_true rfl) (Nat.le_of_ble_eq_true rfl) (Nat.le_of_ble_eq_true rfl) hlocks ⟨Nat.le_of_ble_eq_true rfl, Nat.le_of_ble_eq_true rfl⟩
  · have hf := ip hf c7
    cases hf
    exact r_throwW (text := "no such writer") (cls := "java/lang/IllegalArgumentException") (names := ["java/lang/RuntimeException", "java/lang/Exception"]) 1 hx hb hst9 hown xf0 xn (hts (.classLink RX9 82 "java/lang/IllegalArgumentException") (List.mem_cons_of_mem _ gw_21_9)) (hts (.initialized "java/lang/IllegalArgumentException") (List.mem_cons_of_mem _ gw_21_10)) (List.mem_of_getElem? (i := 18) rfl) (xa0 hts hE) xg0 hE hB hH (hl.1.trans hml.symm) rfl dX9_apply_14 dX9_apply_17 dX9_apply_18 dX9_apply_21 dX9_apply_24 hxt (Nat.le_of_ble_eq_true rfl) (Nat.le_of_ble_eq_true rfl) (Nat.le_of_ble_eq_true rfl) (Nat.le_of_ble_eq_true rfl) hlocks ⟨Nat.le_of_ble_eq_true rfl, Nat.le_of_ble_eq_true rfl⟩
set_option maxRecDepth 100000 in
def f_X1_addIgnored (S : PS) (a0 : Nat) (p1 : Int32) (p2 : Int32) (p3 : Int32) : Option (PS) := if kK S a0 = 5 then ((kQ S a0 1).bind fun a2 => if kK S a2 = 9 then ((f_X5_add S a2 p1).bind fun r5 => if kK r5 a0 = 5 then ((kQ r5 a0 2).bind fun a8 => if kK r5 a8 = 9 then ((f_X5_add r5 a8 p2).bind fun r11 => if kK r11 a0 = 5 then ((kQ r11 a0 3).bind fun a14 => if kK r11 a14 = 9 then ((f_X5_add r11 a14 p3).bind fun r17 => some r17) else none) else none) else none) else none) else none) else none
abbrev rmX1_addIgnored : Room := { frames := 1, cells := 0, slots := 0, locals := 21 }
set_option maxHeartbeats 4000000 in
set_option maxRecDepth 100000 in
theorem c_X1_addIgnored (l : Launch) (D : va_G × Nat) (S : PS) (a0 : Nat) (p1 : Int32) (p2 : Int32) (p3 : Int32) (r : PS) (hf : f_X1_addIgnored S a0 p1 p2 p3 = some r) : MV l D yX1_addIgnored wsX1_addIgnored rmX1_addIgnored S [.ref a0, .int p1, .int p2, .int p3] r 0 0 := by
  unfold f_X1_addIgnored at hf
  refine Met.ofW (cc := cX1_addIgnored) (maxL := 4) (ret := none) (by decide) rfl ?_
  intro p e s m args below meth c s₁ B hml hv
  obtain ⟨rfl, hH0, hNE⟩ := hv
  have hx := B.exec
  have hb := B.bytes
  have hr := B.returns
  have hts := atoms_spec (ws := wsX1_addIgnored) B.pre
  have hown : s.vm.findClass RX1 = some m.cls := findClass_of_methodNamed B.named
  have hlocks := B.notSynchronized
  have hH : HI D S S s s.heap [] := HI.start hH0
  have hl := lv_entry ([.ref a0, .int p1, .int p2, .int p3]) (n := 4) (Nat.le_of_ble_eq_true rfl)
  rw [lg_entry_eq]
  generalize (lg_sl ([.ref a0, .int p1, .int p2, .int p3]) ++ List.replicate (4 - (lg_sl ([.ref a0, .int p1, .int p2, .int p3])).length) Slot.unset).toArray = ls at hl ⊢
  have hl : lv_has ls 4 [(0, .ref a0), (1, .int p1), (2, .int p2), (3, .int p3)] := hl
  refine lv_aload_n hx hb dX1_addIgnored_0 rfl (lv_at hl 0 rfl) ?_
  obtain ⟨ek1, hf⟩ := oc hf
  obtain ⟨a2, e3, hf⟩ := ob hf
  refine r_getQ hx hb 4 hts (fun w h => List.mem_cons_of_mem _ (mwsX10 w h)) hown hH ek1 (by decide) rfl 1 (by decide) rfl (hts (.fieldLink RX1 23 "Housestyle$Desk" "ignoredRules" "LHousestyle$Row;") (List.mem_cons_of_mem _ gw_8_22)) (fun _ h9 => h9) dX1_addIgnored_1 e3 ?_
  refine lv_iload_n hx hb dX1_addIgnored_4 rfl (lv_at hl 1 rfl) ?_
  obtain ⟨ek4, hf⟩ := oc hf
  obtain ⟨r5, e6, hf⟩ := ob hf
  refine r_callVv (As := [.int p1]) ⟨hx, hb, hml, hown, hts⟩ (c_X5_add l D S a2 p1 r5 e6) (cwV 1 hts (gwV gw_9_10 gw_7_14 gw_7_15 gw_1_5 gw_7_11) rfl rfl rfl (by decide +kernel) ⟨Nat.le_of_ble_eq_true rfl, Nat.le_of_ble_eq_true rfl⟩) hH hNE 8 ek4 (by decide) rfl rfl rfl hl.1 rfl (Nat.le_of_ble_eq_true rfl) dX1_addIgnored_5 ⟨(Nat.le_of_ble_eq_true rfl), (Nat.le_of_ble_eq_true rfl)⟩ (fun H locs hH => ?_)
  refine lv_aload_n hx hb dX1_addIgnored_8 rfl (lv_at hl 0 rfl) ?_
  obtain ⟨ek7, hf⟩ := oc hf
  obtain ⟨a8, e9, hf⟩ := ob hf
  refine r_getQ hx hb 4 hts (fun w h => List.mem_cons_of_mem _ (mwsX10 w h)) hown hH ek7 (by decide) rfl 2 (by decide) rfl (hts (.fieldLink RX1 26 "Housestyle$Desk" "ignoredFroms" "LHousestyle$Row;") (List.mem_cons_of_mem _ gw_8_23)) (fun _ h9 => h9) dX1_addIgnored_9 e9 ?_
  refine lv_iload_n hx hb dX1_addIgnored_12 rfl (lv_at hl 2 rfl) ?_
  obtain ⟨ek10, hf⟩ := oc hf
  obtain ⟨r11, e12, hf⟩ := ob hf
  refine r_callVv (As := [.int p2]) ⟨hx, hb, hml, hown, hts⟩ (c_X5_add l D r5 a8 p2 r11 e12) (cwV 1 hts (gwV gw_9_10 gw_7_14 gw_7_15 gw_1_5 gw_7_11) rfl rfl rfl (by decide +kernel) ⟨Nat.le_of_ble_eq_true rfl, Nat.le_of_ble_eq_true rfl⟩) hH hNE 8 ek10 (by decide) rfl rfl rfl hl.1 rfl (Nat.le_of_ble_eq_true rfl) dX1_addIgnored_13 ⟨(Nat.le_of_ble_eq_true rfl), (Nat.le_of_ble_eq_true rfl)⟩ (fun H locs hH => ?_)
  refine lv_aload_n hx hb dX1_addIgnored_16 rfl (lv_at hl 0 rfl) ?_
  obtain ⟨ek13, hf⟩ := oc hf
  obtain ⟨a14, e15, hf⟩ := ob hf
  refine r_getQ hx hb 4 hts (fun w h => List.mem_cons_of_mem _ (mwsX10 w h)) hown hH ek13 (by decide) rfl 3 (by decide) rfl (hts (.fieldLink RX1 29 "Housestyle$Desk" "ignoredLengths" "LHousestyle$Row;") (List.mem_cons_of_mem _ gw_9_0)) (fun _ h9 => h9) dX1_addIgnored_17 e15 ?_
  refine lv_iload_n hx hb dX1_addIgnored_20 rfl (lv_at hl 3 rfl) ?_
  obtain ⟨ek16, hf⟩ := oc hf
  obtain ⟨r17, e18, hf⟩ := ob hf
  refine r_callVv (As := [.int p3]) ⟨hx, hb, hml, hown, hts⟩ (c_X5_add l D r11 a14 p3 r17 e18) (cwV 1 hts (gwV gw_9_10 gw_7_14 gw_7_15 gw_1_5 gw_7_11) rfl rfl rfl (by decide +kernel) ⟨Nat.le_of_ble_eq_true rfl, Nat.le_of_ble_eq_true rfl⟩) hH hNE 8 ek16 (by decide) rfl rfl rfl hl.1 rfl (Nat.le_of_ble_eq_true rfl) dX1_addIgnored_21 ⟨(Nat.le_of_ble_eq_true rfl), (Nat.le_of_ble_eq_true rfl)⟩ (fun H locs hH => ?_)
  have hr9 := Option.some.inj hf
  subst hr9
  exact e_v hx hb hr hlocks hH dX1_addIgnored_24
set_option maxRecDepth 100000 in
def f_X9_ignore (S : PS) (a0 : Nat) (p1 : Int32) (p2 : Int32) : Option ((PS × Int32) ⊕ (PS × Nat)) := if kK S a0 = 13 then (bx2 (f_X9_findFor S a0 p1) fun S3 a4 => if kK S3 a0 = 13 then (bx1 (f_X9_needFinding S3 a0 p2) fun S7 => if kK S7 a4 = 5 then ((f_X1_ignoredCount S7 a4).bind fun r9 => if r9 < (20 : Int32) then (if kK S7 a0 = 13 then ((kQ S7 a0 5).bind fun a13 => if kK S7 a13 = 6 then ((f_X2_ruleOf S7 a13 p2).bind fun r16 => (f_X2_fromOf S7 a13 p2).bind fun r18 => (f_X2_lengthOf S7 a13 p2).bind fun r20 => (f_X1_addIgnored S7 a4 r16 r18 r20).bind fun r22 => if kK r22 a0 = 13 then (lt (wI r22 a0 8 (-1)) fun S25 => if kK S25 a4 = 5 then ((f_X1_ignoredCount S25 a4).bind fun r28 => some (.inl (S25, r28))) else none) else none) else none) else none) else (some (.inr (S7, 2)))) else none) else none) else none
abbrev rmX9_ignore : Room := { frames := 8, cells := 3, slots := 18, locals := 178 }
set_option maxHeartbeats 4000000 in
set_option maxRecDepth 100000 in
theorem c_X9_ignore (l : Launch) (hst9 : l.stackTraces = false) (D : va_G × Nat) (S : PS) (a0 : Nat) (p1 : Int32) (p2 : Int32) (r : (PS × Int32) ⊕ (PS × Nat)) (hf : f_X9_ignore S a0 p1 p2 = some r) : XM l D yX9_ignore wsX9_ignore rmX9_ignore S [.ref a0, .int p1, .int p2] (mI r) 3 18 := by
  unfold f_X9_ignore at hf
  refine vx_ofW (cc := cX9_ignore) (maxL := 4) (ret := (some .int)) (by decide) rfl ?_
  intro p e s m args below meth c s₁ B hml hxt hv
  obtain ⟨rfl, hH0, hE, hNE⟩ := hv
  have hB := hH0.base
  have hx := B.exec
  have hb := B.bytes
  have hr := B.returns
  have hts := atoms_spec (ws := wsX9_ignore) B.pre
  have hown : s.vm.findClass RX9 = some m.cls := findClass_of_methodNamed B.named
  have hlocks := B.notSynchronized
  have hH : HI D S S s s.heap [] := HI.start hH0
  have hl := lv_entry ([.ref a0, .int p1, .int p2]) (n := 4) (Nat.le_of_ble_eq_true rfl)
  rw [lg_entry_eq]
  generalize (lg_sl ([.ref a0, .int p1, .int p2]) ++ List.replicate (4 - (lg_sl ([.ref a0, .int p1, .int p2])).length) Slot.unset).toArray = ls at hl ⊢
  have hl : lv_has ls 4 [(0, .ref a0), (1, .int p1), (2, .int p2)] := hl
  refine lv_aload_n hx hb dX9_ignore_0 rfl (lv_at hl 0 rfl) ?_
  refine lv_iload_n hx hb dX9_ignore_1 rfl (lv_at hl 1 rfl) ?_
  obtain ⟨ek1, hf⟩ := oc hf
  rcases obx2 hf with ⟨x4_, e2, rfl⟩ | ⟨S3, a4, e2, hf⟩
  · refine r_xVex (As := [.int p1]) ⟨hx, hb, hml, hown, hts⟩ (c_X9_findFor l hst9 D S a0 p1 (.inr x4_) e2) (cwV 1 hts (gwV gw_26_10 gw_26_11 gw_26_12 gw_14_5 gw_25_23) rfl rfl rfl (by decide +kernel) ⟨Nat.le_of_ble_eq_true rfl, Nat.le_of_ble_eq_true rfl⟩) hH hE hB hNE 12 ek1 (by decide) rfl rfl rfl hl.1 rfl (Nat.le_of_ble_eq_true rfl) dX9_ignore_2 ⟨(Nat.le_of_ble_eq_true rfl), (Nat.le_of_ble_eq_true rfl)⟩ (fun z9 ce9 q9 H locs hH hk9 hz9 h91 h92 h93 => ?_)
    exact x_out hxt hlocks hH hk9 hz9 h91 h92 h93 ⟨Nat.le_of_ble_eq_true rfl, Nat.le_of_ble_eq_true rfl⟩
  refine r_xVok (As := [.int p1]) (S' := S3) (v := (some (.ref a4))) (st1 := [.ref a4]) ⟨hx, hb, hml, hown, hts⟩ (c_X9_findFor l hst9 D S a0 p1 (.inl (S3, a4)) e2) (cwV 1 hts (gwV gw_26_10 gw_26_11 gw_26_12 gw_14_5 gw_25_23) rfl rfl rfl (by decide +kernel) ⟨Nat.le_of_ble_eq_true rfl, Nat.le_of_ble_eq_true rfl⟩) hH hE hB hNE 12 ek1 (by decide) rfl rfl rfl hl.1 rfl (Nat.le_of_ble_eq_true rfl) dX9_ignore_2 ⟨(Nat.le_of_ble_eq_true rfl), (Nat.le_of_ble_eq_true rfl)⟩ rfl (fun H locs hH => ?_)
  refine W.widen (k := 1) (n := 6) (by omega) (by omega) ?_
  refine lv_astore_n (lv' := [(3, .ref a4), (0, .ref a0), (1, .int p1), (2, .int p2)]) hx hb dX9_ignore_5 rfl hl (by decide) rfl (fun ls hl => ?_)
  refine lv_aload_n hx hb dX9_ignore_6 rfl (lv_at hl 1 rfl) ?_
  refine lv_iload_n hx hb dX9_ignore_7 rfl (lv_at hl 3 rfl) ?_
  obtain ⟨ek5, hf⟩ := oc hf
  rcases obx1 hf with ⟨x7_, e6, rfl⟩ | ⟨S7, e6, hf⟩
  · refine r_xVex (As := [.int p2]) ⟨hx, hb, hml, hown, hts⟩ (c_X9_needFinding l hst9 D S3 a0 p2 (.inr x7_) e6) (cwV 1 hts (gwV gw_26_18 gw_26_19 gw_26_20 gw_14_5 gw_26_14) rfl rfl rfl (by decide +kernel) ⟨Nat.le_of_ble_eq_true rfl, Nat.le_of_ble_eq_true rfl⟩) hH hE hB hNE 12 ek5 (by decide) rfl rfl rfl hl.1 rfl (Nat.le_of_ble_eq_true rfl) dX9_ignore_8 ⟨(Nat.le_of_ble_eq_true rfl), (Nat.le_of_ble_eq_true rfl)⟩ (fun z9 ce9 q9 H locs hH hk9 hz9 h91 h92 h93 => ?_)
    exact x_out hxt hlocks hH hk9 hz9 h91 h92 h93 ⟨Nat.le_of_ble_eq_true rfl, Nat.le_of_ble_eq_true rfl⟩
  refine r_xVok (As := [.int p2]) (S' := S7) (v := none) (st1 := []) ⟨hx, hb, hml, hown, hts⟩ (c_X9_needFinding l hst9 D S3 a0 p2 (.inl S7) e6) (cwV 1 hts (gwV gw_26_18 gw_26_19 gw_26_20 gw_14_5 gw_26_14) rfl rfl rfl (by decide +kernel) ⟨Nat.le_of_ble_eq_true rfl, Nat.le_of_ble_eq_true rfl⟩) hH hE hB hNE 12 ek5 (by decide) rfl rfl rfl hl.1 rfl (Nat.le_of_ble_eq_true rfl) dX9_ignore_8 ⟨(Nat.le_of_ble_eq_true rfl), (Nat.le_of_ble_eq_true rfl)⟩ rfl (fun H locs hH => ?_)
  refine W.widen (k := 2) (n := 12) (by omega) (by omega) ?_
  refine lv_aload_n hx hb dX9_ignore_11 rfl (lv_at hl 0 rfl) ?_
  obtain ⟨ek8, hf⟩ := oc hf
  obtain ⟨r9, e10, hf⟩ := ob hf
  refine r_callVi (As := []) ⟨hx, hb, hml, hown, hts⟩ (c_X1_ignoredCount l D S7 a4 r9 e10) (cwV 0 hts (gwV gw_27_19 gw_9_18 gw_9_19 gw_9_20 gw_9_7) rfl rfl rfl (by decide +kernel) ⟨Nat.le_of_ble_eq_true rfl, Nat.le_of_ble_eq_true rfl⟩) hH hNE 4 ek8 (by decide) rfl rfl rfl hl.1 rfl (Nat.le_of_ble_eq_true rfl) dX9_ignore_12 ⟨(Nat.le_of_ble_eq_true rfl), (Nat.le_of_ble_eq_true rfl)⟩ (fun H locs hH => ?_)
  refine lv_bipush (v := 20) hx hb dX9_ignore_15 (by decide) ?_
  refine lv_icmp_lt (tgt := 31) hx hb dX9_ignore_17 (by decide) (fun c11 => ?_) (fun c11 => ?_)
  · have hf := ip hf c11
    refine lv_aload_n hx hb dX9_ignore_31 rfl (lv_at hl 0 rfl) ?_
    refine lv_aload_n hx hb dX9_ignore_32 rfl (lv_at hl 1 rfl) ?_
    obtain ⟨ek12, hf⟩ := oc hf
    obtain ⟨a13, e14, hf⟩ := ob hf
    refine r_getQ hx hb 12 hts (fun w h => List.mem_cons_of_mem _ (mwsX90 w h)) hown hH ek12 (by decide) rfl 5 (by decide) rfl (hts (.fieldLink RX9 63 "Housestyle" "found" "LHousestyle$Findings;") (List.mem_cons_of_mem _ gw_20_13)) (fun _ h9 => h9) dX9_ignore_33 e14 ?_
    refine lv_iload_n hx hb dX9_ignore_36 rfl (lv_at hl 3 rfl) ?_
    obtain ⟨ek15, hf⟩ := oc hf
    obtain ⟨r16, e17, hf⟩ := ob hf
    refine r_callVi (As := [.int p2]) ⟨hx, hb, hml, hown, hts⟩ (c_X2_ruleOf l D S7 a13 p2 r16 e17) (cwV 1 hts (gwV gw_26_21 gw_26_22 gw_26_23 gw_11_18 gw_11_0) rfl rfl rfl (by decide +kernel) ⟨Nat.le_of_ble_eq_true rfl, Nat.le_of_ble_eq_true rfl⟩) hH hNE 5 ek15 (by decide) rfl rfl rfl hl.1 rfl (Nat.le_of_ble_eq_true rfl) dX9_ignore_37 ⟨(Nat.le_of_ble_eq_true rfl), (Nat.le_of_ble_eq_true rfl)⟩ (fun H locs hH => ?_)
    refine lv_aload_n hx hb dX9_ignore_40 rfl (lv_at hl 1 rfl) ?_
    refine r_getQ hx hb 12 hts (fun w h => List.mem_cons_of_mem _ (mwsX90 w h)) hown hH ek12 (by decide) rfl 5 (by decide) rfl (hts (.fieldLink RX9 63 "Housestyle" "found" "LHousestyle$Findings;") (List.mem_cons_of_mem _ gw_20_13)) (fun _ h9 => h9) dX9_ignore_41 e14 ?_
    refine lv_iload_n hx hb dX9_ignore_44 rfl (lv_at hl 3 rfl) ?_
    obtain ⟨r18, e19, hf⟩ := ob hf
    refine r_callVi (As := [.int p2]) ⟨hx, hb, hml, hown, hts⟩ (c_X2_fromOf l D S7 a13 p2 r18 e19) (cwV 1 hts (gwV gw_27_0 gw_13_3 gw_13_4 gw_11_18 gw_11_2) rfl rfl rfl (by decide +kernel) ⟨Nat.le_of_ble_eq_true rfl, Nat.le_of_ble_eq_true rfl⟩) hH hNE 5 ek15 (by decide) rfl rfl rfl hl.1 rfl (Nat.le_of_ble_eq_true rfl) dX9_ignore_45 ⟨(Nat.le_of_ble_eq_true rfl), (Nat.le_of_ble_eq_true rfl)⟩ (fun H locs hH => ?_)
    refine lv_aload_n hx hb dX9_ignore_48 rfl (lv_at hl 1 rfl) ?_
    refine r_getQ hx hb 12 hts (fun w h => List.mem_cons_of_mem _ (mwsX90 w h)) hown hH ek12 (by decide) rfl 5 (by decide) rfl (hts (.fieldLink RX9 63 "Housestyle" "found" "LHousestyle$Findings;") (List.mem_cons_of_mem _ gw_20_13)) (fun _ h9 => h9) dX9_ignore_49 e14 ?_
    refine lv_iload_n hx hb dX9_ignore_52 rfl (lv_at hl 3 rfl) ?_
    obtain ⟨r20, e21, hf⟩ := ob hf
    refine r_callVi (As := [.int p2]) ⟨hx, hb, hml, hown, hts⟩ (c_X2_lengthOf l D S7 a13 p2 r20 e21) (cwV 1 hts (gwV gw_27_1 gw_13_6 gw_13_7 gw_11_18 gw_11_14) rfl rfl rfl (by decide +kernel) ⟨Nat.le_of_ble_eq_true rfl, Nat.le_of_ble_eq_true rfl⟩) hH hNE 5 ek15 (by decide) rfl rfl rfl hl.1 rfl (Nat.le_of_ble_eq_true rfl) dX9_ignore_53 ⟨(Nat.le_of_ble_eq_true rfl), (Nat.le_of_ble_eq_true rfl)⟩ (fun H locs hH => ?_)
    obtain ⟨r22, e23, hf⟩ := ob hf
    refine r_callVv (As := [.int r16, .int r18, .int r20]) ⟨hx, hb, hml, hown, hts⟩ (c_X1_addIgnored l D S7 a4 r16 r18 r20 r22 e23) (cwV 3 hts (gwV gw_27_20 gw_27_21 gw_27_22 gw_9_20 gw_9_9) rfl rfl rfl (by decide +kernel) ⟨Nat.le_of_ble_eq_true rfl, Nat.le_of_ble_eq_true rfl⟩) hH hNE 4 ek8 (by decide) rfl rfl rfl hl.1 rfl (Nat.le_of_ble_eq_true rfl) dX9_ignore_56 ⟨(Nat.le_of_ble_eq_true rfl), (Nat.le_of_ble_eq_true rfl)⟩ (fun H locs hH => ?_)
    refine lv_aload_n hx hb dX9_ignore_59 rfl (lv_at hl 1 rfl) ?_
    refine lv_iconst (v := (-1)) hx hb dX9_ignore_60 (by decide) ?_
    obtain ⟨ek24, hf⟩ := oc hf
    refine r_putI hx hb 12 hts (fun w h => List.mem_cons_of_mem _ (mwsX90 w h)) tyX9 tyX9_ok nmX9 hown hH ek24 (by decide) rfl 8 (by decide) rfl (hts (.fieldLink RX9 74 "Housestyle" "solvedDesk" "I") (List.mem_cons_of_mem _ gw_20_16)) (fun _ h9 => h9) (Or.inl rfl) (ty := .int) (by decide +kernel) rfl rfl dX9_ignore_61 (fun H locs hH => ?_)
    obtain ⟨S25, e26, hf⟩ := ol hf
    rw [e26] at hH
    refine lv_aload_n hx hb dX9_ignore_64 rfl (lv_at hl 0 rfl) ?_
    obtain ⟨ek27, hf⟩ := oc hf
    obtain ⟨r28, e29, hf⟩ := ob hf
    refine r_callVi (As := []) ⟨hx, hb, hml, hown, hts⟩ (c_X1_ignoredCount l D S25 a4 r28 e29) (cwV 0 hts (gwV gw_27_19 gw_9_18 gw_9_19 gw_9_20 gw_9_7) rfl rfl rfl (by decide +kernel) ⟨Nat.le_of_ble_eq_true rfl, Nat.le_of_ble_eq_true rfl⟩) hH hNE 4 ek27 (by decide) rfl rfl rfl hl.1 rfl (Nat.le_of_ble_eq_true rfl) dX9_ignore_65 ⟨(Nat.le_of_ble_eq_true rfl), (Nat.le_of_ble_eq_true rfl)⟩ (fun H locs hH => ?_)
    refine W.widen (k := 3) (n := 18) (by omega) (by omega) ?_
    have hr9 := Option.some.inj hf
    subst hr9
    exact x_i hx hb hr hlocks hH dX9_ignore_68
  · have hf := iq hf c11
    cases hf
    exact r_throwW (text := "20 are") (cls := "java/lang/IllegalStateException") (names := ["java/lang/RuntimeException", "java/lang/Exception"]) 2 hx hb hst9 hown xf1 xn (hts (.classLink RX9 93 "java/lang/IllegalStateException") (List.mem_cons_of_mem _ gw_21_11)) (hts (.initialized "java/lang/IllegalStateException") (List.mem_cons_of_mem _ gw_21_12)) (List.mem_of_getElem? (i := 20) rfl) (xa1 hts hE) xg1 hE hB hH (hl.1.trans hml.symm) rfl dX9_ignore_20 dX9_ignore_23 dX9_ignore_24 dX9_ignore_27 dX9_ignore_30 hxt (Nat.le_of_ble_eq_true rfl) (Nat.le_of_ble_eq_true rfl) (Nat.le_of_ble_eq_true rfl) (Nat.le_of_ble_eq_true rfl) hlocks ⟨Nat.le_of_ble_eq_true rfl, Nat.le_of_ble_eq_true rfl⟩
set_option maxRecDepth 100000 in
def f_X9_ignored (S : PS) (a0 : Nat) (p1 : Int32) : Option ((PS × Int32) ⊕ (PS × Nat)) := if kK S a0 = 13 then (bx2 (f_X9_deskAt S a0 p1) fun S3 a4 => if kK S3 a4 = 5 then ((f_X1_ignoredCount S3 a4).bind fun r6 => some (.inl (S3, r6))) else none) else none
abbrev rmX9_ignored : Room := { frames := 7, cells := 1, slots := 6, locals := 111 }
set_option maxHeartbeats 4000000 in
set_option maxRecDepth 100000 in
theorem c_X9_ignored (l : Launch) (hst9 : l.stackTraces = false) (D : va_G × Nat) (S : PS) (a0 : Nat) (p1 : Int32) (r : (PS × Int32) ⊕ (PS × Nat)) (hf : f_X9_ignored S a0 p1 = some r) : XM l D yX9_ignored wsX9_ignored rmX9_ignored S [.ref a0, .int p1] (mI r) 1 6 := by
  unfold f_X9_ignored at hf
  refine vx_ofW (cc := cX9_ignored) (maxL := 2) (ret := (some .int)) (by decide) rfl ?_
  intro p e s m args below meth c s₁ B hml hxt hv
  obtain ⟨rfl, hH0, hE, hNE⟩ := hv
  have hB := hH0.base
  have hx := B.exec
  have hb := B.bytes
  have hr := B.returns
  have hts := atoms_spec (ws := wsX9_ignored) B.pre
  have hown : s.vm.findClass RX9 = some m.cls := findClass_of_methodNamed B.named
  have hlocks := B.notSynchronized
  have hH : HI D S S s s.heap [] := HI.start hH0
  have hl := lv_entry ([.ref a0, .int p1]) (n := 2) (Nat.le_of_ble_eq_true rfl)
  rw [lg_entry_eq]
  generalize (lg_sl ([.ref a0, .int p1]) ++ List.replicate (2 - (lg_sl ([.ref a0, .int p1])).length) Slot.unset).toArray = ls at hl ⊢
  have hl : lv_has ls 2 [(0, .ref a0), (1, .int p1)] := hl
  refine lv_aload_n hx hb dX9_ignored_0 rfl (lv_at hl 0 rfl) ?_
  refine lv_iload_n hx hb dX9_ignored_1 rfl (lv_at hl 1 rfl) ?_
  obtain ⟨ek1, hf⟩ := oc hf
  rcases obx2 hf with ⟨x4_, e2, rfl⟩ | ⟨S3, a4, e2, hf⟩
  · refine r_xVex (As := [.int p1]) ⟨hx, hb, hml, hown, hts⟩ (c_X9_deskAt l hst9 D S a0 p1 (.inr x4_) e2) (cwV 1 hts (gwV gw_25_7 gw_25_8 gw_25_9 gw_14_5 gw_25_4) rfl rfl rfl (by decide +kernel) ⟨Nat.le_of_ble_eq_true rfl, Nat.le_of_ble_eq_true rfl⟩) hH hE hB hNE 12 ek1 (by decide) rfl rfl rfl hl.1 rfl (Nat.le_of_ble_eq_true rfl) dX9_ignored_2 ⟨(Nat.le_of_ble_eq_true rfl), (Nat.le_of_ble_eq_true rfl)⟩ (fun z9 ce9 q9 H locs hH hk9 hz9 h91 h92 h93 => ?_)
    exact x_out hxt hlocks hH hk9 hz9 h91 h92 h93 ⟨Nat.le_of_ble_eq_true rfl, Nat.le_of_ble_eq_true rfl⟩
  refine r_xVok (As := [.int p1]) (S' := S3) (v := (some (.ref a4))) (st1 := [.ref a4]) ⟨hx, hb, hml, hown, hts⟩ (c_X9_deskAt l hst9 D S a0 p1 (.inl (S3, a4)) e2) (cwV 1 hts (gwV gw_25_7 gw_25_8 gw_25_9 gw_14_5 gw_25_4) rfl rfl rfl (by decide +kernel) ⟨Nat.le_of_ble_eq_true rfl, Nat.le_of_ble_eq_true rfl⟩) hH hE hB hNE 12 ek1 (by decide) rfl rfl rfl hl.1 rfl (Nat.le_of_ble_eq_true rfl) dX9_ignored_2 ⟨(Nat.le_of_ble_eq_true rfl), (Nat.le_of_ble_eq_true rfl)⟩ rfl (fun H locs hH => ?_)
  refine W.widen (k := 1) (n := 6) (by omega) (by omega) ?_
  obtain ⟨ek5, hf⟩ := oc hf
  obtain ⟨r6, e7, hf⟩ := ob hf
  refine r_callVi (As := []) ⟨hx, hb, hml, hown, hts⟩ (c_X1_ignoredCount l D S3 a4 r6 e7) (cwV 0 hts (gwV gw_27_19 gw_9_18 gw_9_19 gw_9_20 gw_9_7) rfl rfl rfl (by decide +kernel) ⟨Nat.le_of_ble_eq_true rfl, Nat.le_of_ble_eq_true rfl⟩) hH hNE 4 ek5 (by decide) rfl rfl rfl hl.1 rfl (Nat.le_of_ble_eq_true rfl) dX9_ignored_5 ⟨(Nat.le_of_ble_eq_true rfl), (Nat.le_of_ble_eq_true rfl)⟩ (fun H locs hH => ?_)
  have hr9 := Option.some.inj hf
  subst hr9
  exact x_i hx hb hr hlocks hH dX9_ignored_8
set_option maxRecDepth 100000 in
def f_X1_clearIgnored (S : PS) (a0 : Nat) : Option (PS) := if kK S a0 = 5 then ((kQ S a0 1).bind fun a2 => if kK S a2 = 9 then ((f_X5_clear S a2).bind fun r5 => if kK r5 a0 = 5 then ((kQ r5 a0 2).bind fun a8 => if kK r5 a8 = 9 then ((f_X5_clear r5 a8).bind fun r11 => if kK r11 a0 = 5 then ((kQ r11 a0 3).bind fun a14 => if kK r11 a14 = 9 then ((f_X5_clear r11 a14).bind fun r17 => some r17) else none) else none) else none) else none) else none) else none
abbrev rmX1_clearIgnored : Room := { frames := 1, cells := 0, slots := 0, locals := 20 }
set_option maxHeartbeats 4000000 in
set_option maxRecDepth 100000 in
theorem c_X1_clearIgnored (l : Launch) (D : va_G × Nat) (S : PS) (a0 : Nat) (r : PS) (hf : f_X1_clearIgnored S a0 = some r) : MV l D yX1_clearIgnored wsX1_clearIgnored rmX1_clearIgnored S [.ref a0] r 0 0 := by
  unfold f_X1_clearIgnored at hf
  refine Met.ofW (cc := cX1_clearIgnored) (maxL := 1) (ret := none) (by decide) rfl ?_
  intro p e s m args below meth c s₁ B hml hv
  obtain ⟨rfl, hH0, hNE⟩ := hv
  have hx := B.exec
  have hb := B.bytes
  have hr := B.returns
  have hts := atoms_spec (ws := wsX1_clearIgnored) B.pre
  have hown : s.vm.findClass RX1 = some m.cls := findClass_of_methodNamed B.named
  have hlocks := B.notSynchronized
  have hH : HI D S S s s.heap [] := HI.start hH0
  have hl := lv_entry ([.ref a0]) (n := 1) (Nat.le_of_ble_eq_true rfl)
  rw [lg_entry_eq]
  generalize (lg_sl ([.ref a0]) ++ List.replicate (1 - (lg_sl ([.ref a0])).length) Slot.unset).toArray = ls at hl ⊢
  have hl : lv_has ls 1 [(0, .ref a0)] := hl
  refine lv_aload_n hx hb dX1_clearIgnored_0 rfl (lv_at hl 0 rfl) ?_
  obtain ⟨ek1, hf⟩ := oc hf
  obtain ⟨a2, e3, hf⟩ := ob hf
  refine r_getQ hx hb 4 hts (fun w h => List.mem_cons_of_mem _ (mwsX10 w h)) hown hH ek1 (by decide) rfl 1 (by decide) rfl (hts (.fieldLink RX1 23 "Housestyle$Desk" "ignoredRules" "LHousestyle$Row;") (List.mem_cons_of_mem _ gw_8_22)) (fun _ h9 => h9) dX1_clearIgnored_1 e3 ?_
  obtain ⟨ek4, hf⟩ := oc hf
  obtain ⟨r5, e6, hf⟩ := ob hf
  refine r_callVv (As := []) ⟨hx, hb, hml, hown, hts⟩ (c_X5_clear l D S a2 r5 e6) (cwV 0 hts (gwV gw_9_13 gw_9_14 gw_9_15 gw_1_5 gw_9_11) rfl rfl rfl (by decide +kernel) ⟨Nat.le_of_ble_eq_true rfl, Nat.le_of_ble_eq_true rfl⟩) hH hNE 8 ek4 (by decide) rfl rfl rfl hl.1 rfl (Nat.le_of_ble_eq_true rfl) dX1_clearIgnored_4 ⟨(Nat.le_of_ble_eq_true rfl), (Nat.le_of_ble_eq_true rfl)⟩ (fun H locs hH => ?_)
  refine lv_aload_n hx hb dX1_clearIgnored_7 rfl (lv_at hl 0 rfl) ?_
  obtain ⟨ek7, hf⟩ := oc hf
  obtain ⟨a8, e9, hf⟩ := ob hf
  refine r_getQ hx hb 4 hts (fun w h => List.mem_cons_of_mem _ (mwsX10 w h)) hown hH ek7 (by decide) rfl 2 (by decide) rfl (hts (.fieldLink RX1 26 "Housestyle$Desk" "ignoredFroms" "LHousestyle$Row;") (List.mem_cons_of_mem _ gw_8_23)) (fun _ h9 => h9) dX1_clearIgnored_8 e9 ?_
  obtain ⟨ek10, hf⟩ := oc hf
  obtain ⟨r11, e12, hf⟩ := ob hf
  refine r_callVv (As := []) ⟨hx, hb, hml, hown, hts⟩ (c_X5_clear l D r5 a8 r11 e12) (cwV 0 hts (gwV gw_9_13 gw_9_14 gw_9_15 gw_1_5 gw_9_11) rfl rfl rfl (by decide +kernel) ⟨Nat.le_of_ble_eq_true rfl, Nat.le_of_ble_eq_true rfl⟩) hH hNE 8 ek10 (by decide) rfl rfl rfl hl.1 rfl (Nat.le_of_ble_eq_true rfl) dX1_clearIgnored_11 ⟨(Nat.le_of_ble_eq_true rfl), (Nat.le_of_ble_eq_true rfl)⟩ (fun H locs hH => ?_)
  refine lv_aload_n hx hb dX1_clearIgnored_14 rfl (lv_at hl 0 rfl) ?_
  obtain ⟨ek13, hf⟩ := oc hf
  obtain ⟨a14, e15, hf⟩ := ob hf
  refine r_getQ hx hb 4 hts (fun w h => List.mem_cons_of_mem _ (mwsX10 w h)) hown hH ek13 (by decide) rfl 3 (by decide) rfl (hts (.fieldLink RX1 29 "Housestyle$Desk" "ignoredLengths" "LHousestyle$Row;") (List.mem_cons_of_mem _ gw_9_0)) (fun _ h9 => h9) dX1_clearIgnored_15 e15 ?_
  obtain ⟨ek16, hf⟩ := oc hf
  obtain ⟨r17, e18, hf⟩ := ob hf
  refine r_callVv (As := []) ⟨hx, hb, hml, hown, hts⟩ (c_X5_clear l D r11 a14 r17 e18) (cwV 0 hts (gwV gw_9_13 gw_9_14 gw_9_15 gw_1_5 gw_9_11) rfl rfl rfl (by decide +kernel) ⟨Nat.le_of_ble_eq_true rfl, Nat.le_of_ble_eq_true rfl⟩) hH hNE 8 ek16 (by decide) rfl rfl rfl hl.1 rfl (Nat.le_of_ble_eq_true rfl) dX1_clearIgnored_18 ⟨(Nat.le_of_ble_eq_true rfl), (Nat.le_of_ble_eq_true rfl)⟩ (fun H locs hH => ?_)
  have hr9 := Option.some.inj hf
  subst hr9
  exact e_v hx hb hr hlocks hH dX1_clearIgnored_21
set_option maxRecDepth 100000 in
def f_X9_heed (S : PS) (a0 : Nat) (p1 : Int32) : Option ((PS × Int32) ⊕ (PS × Nat)) := if kK S a0 = 13 then (bx2 (f_X9_deskAt S a0 p1) fun S3 a4 => if kK S3 a4 = 5 then ((f_X1_ignoredCount S3 a4).bind fun r6 => (f_X1_clearIgnored S3 a4).bind fun r8 => if kK r8 a0 = 13 then (lt (wI r8 a0 8 (-1)) fun S11 => some (.inl (S11, r6))) else none) else none) else none
abbrev rmX9_heed : Room := { frames := 7, cells := 1, slots := 6, locals := 111 }
set_option maxHeartbeats 4000000 in
set_option maxRecDepth 100000 in
theorem c_X9_heed (l : Launch) (hst9 : l.stackTraces = false) (D : va_G × Nat) (S : PS) (a0 : Nat) (p1 : Int32) (r : (PS × Int32) ⊕ (PS × Nat)) (hf : f_X9_heed S a0 p1 = some r) : XM l D yX9_heed wsX9_heed rmX9_heed S [.ref a0, .int p1] (mI r) 1 6 := by
  unfold f_X9_heed at hf
  refine vx_ofW (cc := cX9_heed) (maxL := 4) (ret := (some .int)) (by decide) rfl ?_
  intro p e s m args below meth c s₁ B hml hxt hv
  obtain ⟨rfl, hH0, hE, hNE⟩ := hv
  have hB := hH0.base
  have hx := B.exec
  have hb := B.bytes
  have hr := B.returns
  have hts := atoms_spec (ws := wsX9_heed) B.pre
  have hown : s.vm.findClass RX9 = some m.cls := findClass_of_methodNamed B.named
  have hlocks := B.notSynchronized
  have hH : HI D S S s s.heap [] := HI.start hH0
  have hl := lv_entry ([.ref a0, .int p1]) (n := 4) (Nat.le_of_ble_eq_true rfl)
  rw [lg_entry_eq]
  generalize (lg_sl ([.ref a0, .int p1]) ++ List.replicate (4 - (lg_sl ([.ref a0, .int p1])).length) Slot.unset).toArray = ls at hl ⊢
  have hl : lv_has ls 4 [(0, .ref a0), (1, .int p1)] := hl
  refine lv_aload_n hx hb dX9_heed_0 rfl (lv_at hl 0 rfl) ?_
  refine lv_iload_n hx hb dX9_heed_1 rfl (lv_at hl 1 rfl) ?_
  obtain ⟨ek1, hf⟩ := oc hf
  rcases obx2 hf with ⟨x4_, e2, rfl⟩ | ⟨S3, a4, e2, hf⟩
  · refine r_xVex (As := [.int p1]) ⟨hx, hb, hml, hown, hts⟩ (c_X9_deskAt l hst9 D S a0 p1 (.inr x4_) e2) (cwV 1 hts (gwV gw_25_7 gw_25_8 gw_25_9 gw_14_5 gw_25_4) rfl rfl rfl (by decide +kernel) ⟨Nat.le_of_ble_eq_true rfl, Nat.le_of_ble_eq_true rfl⟩) hH hE hB hNE 12 ek1 (by decide) rfl rfl rfl hl.1 rfl (Nat.le_of_ble_eq_true rfl) dX9_heed_2 ⟨(Nat.le_of_ble_eq_true rfl), (Nat.le_of_ble_eq_true rfl)⟩ (fun z9 ce9 q9 H locs hH hk9 hz9 h91 h92 h93 => ?_)
    exact x_out hxt hlocks hH hk9 hz9 h91 h92 h93 ⟨Nat.le_of_ble_eq_true rfl, Nat.le_of_ble_eq_true rfl⟩
  refine r_xVok (As := [.int p1]) (S' := S3) (v := (some (.ref a4))) (st1 := [.ref a4]) ⟨hx, hb, hml, hown, hts⟩ (c_X9_deskAt l hst9 D S a0 p1 (.inl (S3, a4)) e2) (cwV 1 hts (gwV gw_25_7 gw_25_8 gw_25_9 gw_14_5 gw_25_4) rfl rfl rfl (by decide +kernel) ⟨Nat.le_of_ble_eq_true rfl, Nat.le_of_ble_eq_true rfl⟩) hH hE hB hNE 12 ek1 (by decide) rfl rfl rfl hl.1 rfl (Nat.le_of_ble_eq_true rfl) dX9_heed_2 ⟨(Nat.le_of_ble_eq_true rfl), (Nat.le_of_ble_eq_true rfl)⟩ rfl (fun H locs hH => ?_)
  refine W.widen (k := 1) (n := 6) (by omega) (by omega) ?_
  refine lv_astore_n (lv' := [(2, .ref a4), (0, .ref a0), (1, .int p1)]) hx hb dX9_heed_5 rfl hl (by decide) rfl (fun ls hl => ?_)
  refine lv_aload_n hx hb dX9_heed_6 rfl (lv_at hl 0 rfl) ?_
  obtain ⟨ek5, hf⟩ := oc hf
  obtain ⟨r6, e7, hf⟩ := ob hf
  refine r_callVi (As := []) ⟨hx, hb, hml, hown, hts⟩ (c_X1_ignoredCount l D S3 a4 r6 e7) (cwV 0 hts (gwV gw_27_19 gw_9_18 gw_9_19 gw_9_20 gw_9_7) rfl rfl rfl (by decide +kernel) ⟨Nat.le_of_ble_eq_true rfl, Nat.le_of_ble_eq_true rfl⟩) hH hNE 4 ek5 (by decide) rfl rfl rfl hl.1 rfl (Nat.le_of_ble_eq_true rfl) dX9_heed_7 ⟨(Nat.le_of_ble_eq_true rfl), (Nat.le_of_ble_eq_true rfl)⟩ (fun H locs hH => ?_)
  refine lv_istore_n (lv' := [(3, .int r6), (2, .ref a4), (0, .ref a0), (1, .int p1)]) hx hb dX9_heed_10 rfl hl (by decide) rfl (fun ls hl => ?_)
  refine lv_aload_n hx hb dX9_heed_11 rfl (lv_at hl 1 rfl) ?_
  obtain ⟨r8, e9, hf⟩ := ob hf
  refine r_callVv (As := []) ⟨hx, hb, hml, hown, hts⟩ (c_X1_clearIgnored l D S3 a4 r8 e9) (cwV 0 hts (gwV gw_28_1 gw_28_2 gw_28_3 gw_9_20 gw_9_12) rfl rfl rfl (by decide +kernel) ⟨Nat.le_of_ble_eq_true rfl, Nat.le_of_ble_eq_true rfl⟩) hH hNE 4 ek5 (by decide) rfl rfl rfl hl.1 rfl (Nat.le_of_ble_eq_true rfl) dX9_heed_12 ⟨(Nat.le_of_ble_eq_true rfl), (Nat.le_of_ble_eq_true rfl)⟩ (fun H locs hH => ?_)
  refine lv_aload_n hx hb dX9_heed_15 rfl (lv_at hl 2 rfl) ?_
  refine lv_iconst (v := (-1)) hx hb dX9_heed_16 (by decide) ?_
  obtain ⟨ek10, hf⟩ := oc hf
  refine r_putI hx hb 12 hts (fun w h => List.mem_cons_of_mem _ (mwsX90 w h)) tyX9 tyX9_ok nmX9 hown hH ek10 (by decide) rfl 8 (by decide) rfl (hts (.fieldLink RX9 74 "Housestyle" "solvedDesk" "I") (List.mem_cons_of_mem _ gw_20_16)) (fun _ h9 => h9) (Or.inl rfl) (ty := .int) (by decide +kernel) rfl rfl dX9_heed_17 (fun H locs hH => ?_)
  obtain ⟨S11, e12, hf⟩ := ol hf
  rw [e12] at hH
  refine lv_iload_n hx hb dX9_heed_20 rfl (lv_at hl 0 rfl) ?_
  have hr9 := Option.some.inj hf
  subst hr9
  exact x_i hx hb hr hlocks hH dX9_heed_21
set_option maxRecDepth 100000 in
def f_X9_tokens_b11 (a0 : Nat) (p1 : Int32) (r5 : PS) (x7 : Int32) (x8 : Int32) : Option ((Int32 × Int32) ⊕ ((Int32))) := if kK r5 a0 = 13 then ((kQ r5 a0 2).bind fun a14 => if kK r5 a14 = 12 then ((f_X8_count r5 a14).bind fun r17 => if r17 ≤ x8 then (some (.inr x7)) else ((f_X8_isQuoted r5 a14 x8).bind fun r20 => lt (fun (x22 : Int32) => lt (x8 + 1) fun x24 => some (.inl (x22, x24))) fun j23 => if r20 = p1 then (lt (x7 + 1) fun x28 => j23 x28) else (j23 x7))) else none) else none
set_option maxRecDepth 100000 in
def f_X9_tokens (S : PS) (a0 : Nat) (p1 : Int32) : Option (PS × Int32) := if kK S a0 = 13 then ((kQ S a0 2).bind fun a2 => if kK S a2 = 12 then ((f_X8_read S a2).bind fun r5 => lt (fun (x9 : Int32) => some (r5, x9)) fun k10 => (iter (fun (v : Int32 × Int32) => f_X9_tokens_b11 a0 p1 r5 v.1 v.2) kF (0, 0)).bind (fun (v : Int32) => k10 v)) else none) else none
abbrev rmX9_tokens : Room := { frames := 4, cells := 0, slots := 0, locals := 86 }
set_option maxHeartbeats 4000000 in
set_option maxRecDepth 100000 in
theorem c_X9_tokens (l : Launch) (D : va_G × Nat) (S : PS) (a0 : Nat) (p1 : Int32) (r : PS × Int32) (hf : f_X9_tokens S a0 p1 = some r) : MI l D yX9_tokens wsX9_tokens rmX9_tokens S [.ref a0, .int p1] r.1 r.2 0 0 := by
  unfold f_X9_tokens at hf
  refine Met.ofW (cc := cX9_tokens) (maxL := 4) (ret := (some .int)) (by decide) rfl ?_
  intro p e s m args below meth c s₁ B hml hv
  obtain ⟨rfl, hH0, hNE⟩ := hv
  have hx := B.exec
  have hb := B.bytes
  have hr := B.returns
  have hts := atoms_spec (ws := wsX9_tokens) B.pre
  have hown : s.vm.findClass RX9 = some m.cls := findClass_of_methodNamed B.named
  have hlocks := B.notSynchronized
  have hH : HI D S S s s.heap [] := HI.start hH0
  have hl := lv_entry ([.ref a0, .int p1]) (n := 4) (Nat.le_of_ble_eq_true rfl)
  rw [lg_entry_eq]
  generalize (lg_sl ([.ref a0, .int p1]) ++ List.replicate (4 - (lg_sl ([.ref a0, .int p1])).length) Slot.unset).toArray = ls at hl ⊢
  have hl : lv_has ls 4 [(0, .ref a0), (1, .int p1)] := hl
  refine lv_aload_n hx hb dX9_tokens_0 rfl (lv_at hl 0 rfl) ?_
  obtain ⟨ek1, hf⟩ := oc hf
  obtain ⟨a2, e3, hf⟩ := ob hf
  refine r_getQ hx hb 12 hts (fun w h => List.mem_cons_of_mem _ (mwsX90 w h)) hown hH ek1 (by decide) rfl 2 (by decide) rfl (hts (.fieldLink RX9 33 "Housestyle" "tokens" "LHousestyle$Tokens;") (List.mem_cons_of_mem _ gw_20_3)) (fun _ h9 => h9) dX9_tokens_1 e3 ?_
  obtain ⟨ek4, hf⟩ := oc hf
  obtain ⟨r5, e6, hf⟩ := ob hf
  refine r_callVv (As := []) ⟨hx, hb, hml, hown, hts⟩ (c_X8_read l D S a2 r5 e6) (cwV 0 hts (gwV gw_26_0 gw_26_1 gw_26_2 gw_2_23 gw_19_3) rfl rfl rfl (by decide +kernel) ⟨Nat.le_of_ble_eq_true rfl, Nat.le_of_ble_eq_true rfl⟩) hH hNE 11 ek4 (by decide) rfl rfl rfl hl.1 rfl (Nat.le_of_ble_eq_true rfl) dX9_tokens_4 ⟨(Nat.le_of_ble_eq_true rfl), (Nat.le_of_ble_eq_true rfl)⟩ (fun H locs hH => ?_)
  refine lv_iconst (v := 0) hx hb dX9_tokens_7 (by decide) ?_
  refine lv_istore_n (lv' := [(2, .int 0), (0, .ref a0), (1, .int p1)]) hx hb dX9_tokens_8 rfl hl (by decide) rfl (fun ls hl => ?_)
  refine lv_iconst (v := 0) hx hb dX9_tokens_9 (by decide) ?_
  refine lv_istore_n (lv' := [(3, .int 0), (2, .int 0), (0, .ref a0), (1, .int p1)]) hx hb dX9_tokens_10 rfl hl (by decide) rfl (fun ls hl => ?_)
  obtain ⟨k10, e11, hf⟩ := ol hf
  have Xk10 : ∀ (x9 : Int32) (H : Heap) (locs : List Loc) (ls : Array Slot), HI D S r5 s H locs → lv_has ls 4 [(2, .int x9)] → k10 x9 = some r → GI p l e (headSpec wsX9_tokens rmX9_tokens).room s m ([.ref a0, .int p1] : List Value).toArray below meth c D S r.1 r.2 H locs 0 0 0 0 (F0 m 43 ls []) := by
    intro x9 H locs ls hH hl hf
    rw [← e11] at hf
    refine lv_iload_n hx hb dX9_tokens_43 rfl (lv_at hl 0 rfl) ?_
    have hr9 := Option.some.inj hf
    subst hr9
    exact e_i hx hb hr hlocks hH dX9_tokens_44
  obtain ⟨o12, eo12, hq12f⟩ := ob hf
  have Lo12 : ∀ (n : Nat) (x7 : Int32) (x8 : Int32), iter (fun (v : Int32 × Int32) => f_X9_tokens_b11 a0 p1 r5 v.1 v.2) n (x7, x8) = some o12 → ∀ (H : Heap) (locs : List Loc) (ls : Array Slot), HI D S r5 s H locs → lv_has ls 4 [(0, .ref a0), (1, .int p1), (2, .int x7), (3, .int x8)] → GI p l e (headSpec wsX9_tokens rmX9_tokens).room s m ([.ref a0, .int p1] : List Value).toArray below meth c D S r.1 r.2 H locs 0 0 0 0 (F0 m 11 ls []) := by
    intro n
    induction n with
    | zero => intro x7 x8 hi; cases hi
    | succ n ih12 =>
      intro x7 x8 hi H locs ls hH hl
      obtain ⟨q12_, hf, hq12⟩ := iter_s hi
      have hf : f_X9_tokens_b11 a0 p1 r5 x7 x8 = some q12_ := hf
      unfold f_X9_tokens_b11 at hf
      refine lv_iload_n hx hb dX9_tokens_11 rfl (lv_at hl 3 rfl) ?_
      refine lv_aload_n hx hb dX9_tokens_12 rfl (lv_at hl 0 rfl) ?_
      obtain ⟨ek13, hf⟩ := oc hf
      obtain ⟨a14, e15, hf⟩ := ob hf
      refine r_getQ hx hb 12 hts (fun w h => List.mem_cons_of_mem _ (mwsX90 w h)) hown hH ek13 (by decide) rfl 2 (by decide) rfl (hts (.fieldLink RX9 33 "Housestyle" "tokens" "LHousestyle$Tokens;") (List.mem_cons_of_mem _ gw_20_3)) (fun _ h9 => h9) dX9_tokens_13 e15 ?_
      obtain ⟨ek16, hf⟩ := oc hf
      obtain ⟨r17, e18, hf⟩ := ob hf
      refine r_callVi (As := []) ⟨hx, hb, hml, hown, hts⟩ (c_X8_count l D r5 a14 r17 e18) (cwV 0 hts (gwV gw_28_5 gw_2_21 gw_2_22 gw_2_23 gw_1_12) rfl rfl rfl (by decide +kernel) ⟨Nat.le_of_ble_eq_true rfl, Nat.le_of_ble_eq_true rfl⟩) hH hNE 11 ek16 (by decide) rfl rfl rfl hl.1 rfl (Nat.le_of_ble_eq_true rfl) dX9_tokens_16 ⟨(Nat.le_of_ble_eq_true rfl), (Nat.le_of_ble_eq_true rfl)⟩ (fun H locs hH => ?_)
      refine lv_icmp_ge (tgt := 43) hx hb dX9_tokens_19 (by decide) (fun c19 => ?_) (fun c19 => ?_)
      · have hf := ip hf c19
        cases hf
        have hf9 := itR (K := (fun (v : Int32) => k10 v)) hq12 hq12f
        exact Xk10 x7 _ _ ls hH (lv_sub hl [2] rfl) hf9
      · have hf := iq hf c19
        refine lv_aload_n hx hb dX9_tokens_22 rfl (lv_at hl 0 rfl) ?_
        refine r_getQ hx hb 12 hts (fun w h => List.mem_cons_of_mem _ (mwsX90 w h)) hown hH ek13 (by decide) rfl 2 (by decide) rfl (hts (.fieldLink RX9 33 "Housestyle" "tokens" "LHousestyle$Tokens;") (List.mem_cons_of_mem _ gw_20_3)) (fun _ h9 => h9) dX9_tokens_23 e15 ?_
        refine lv_iload_n hx hb dX9_tokens_26 rfl (lv_at hl 3 rfl) ?_
        obtain ⟨r20, e21, hf⟩ := ob hf
        refine r_callVi (As := [.int x8]) ⟨hx, hb, hml, hown, hts⟩ (c_X8_isQuoted l D r5 a14 x8 r20 e21) (cwV 1 hts (gwV gw_28_6 gw_5_0 gw_5_1 gw_2_23 gw_2_10) rfl rfl rfl (by decide +kernel) ⟨Nat.le_of_ble_eq_true rfl, Nat.le_of_ble_eq_true rfl⟩) hH hNE 11 ek16 (by decide) rfl rfl rfl hl.1 rfl (Nat.le_of_ble_eq_true rfl) dX9_tokens_27 ⟨(Nat.le_of_ble_eq_true rfl), (Nat.le_of_ble_eq_true rfl)⟩ (fun H locs hH => ?_)
        refine lv_iload_n hx hb dX9_tokens_30 rfl (lv_at hl 1 rfl) ?_
        obtain ⟨j23, e26, hf⟩ := ol hf
        have Jj23 : ∀ (x22 : Int32) (H : Heap) (locs : List Loc) (ls : Array Slot), HI D S r5 s H locs → lv_has ls 4 [(0, .ref a0), (1, .int p1), (2, .int x22), (3, .int x8)] → j23 x22 = some q12_ → GI p l e (headSpec wsX9_tokens rmX9_tokens).room s m ([.ref a0, .int p1] : List Value).toArray below meth c D S r.1 r.2 H locs 0 0 0 0 (F0 m 37 ls []) := by
          intro x22 H locs ls hH hl hf
          rw [← e26] at hf
          obtain ⟨x24, e25, hf⟩ := ol hf
          refine lv_iinc (v := x24) (lv' := [(3, .int x24), (0, .ref a0), (1, .int p1), (2, .int x22)]) hx hb dX9_tokens_37 hl (k := 3) rfl (by rw [← e25]; rfl) (by decide) rfl (fun ls hl => ?_)
          refine lv_goto (tgt := 11) hx hb dX9_tokens_40 (by decide) ?_
          cases hf
          exact ih12 x22 x24 hq12 _ _ ls hH (lv_sub hl [1, 2, 3, 0] rfl)
        refine lv_icmp_ne (tgt := 37) hx hb dX9_tokens_31 (by decide) (fun c27 => ?_) (fun c27 => ?_)
        · have hf := iq hf c27
          exact Jj23 x7 _ _ ls hH (lv_sub hl [0, 1, 2, 3] rfl) hf
        · have hf := ip hf c27
          obtain ⟨x28, e29, hf⟩ := ol hf
          refine lv_iinc (v := x28) (lv' := [(2, .int x28), (0, .ref a0), (1, .int p1), (3, .int x8)]) hx hb dX9_tokens_34 hl (k := 2) rfl (by rw [← e29]; rfl) (by decide) rfl (fun ls hl => ?_)
          exact Jj23 x28 _ _ ls hH (lv_sub hl [1, 2, 0, 3] rfl) hf
  exact Lo12 kF 0 0 eo12 _ _ ls hH (lv_sub hl [2, 3, 1, 0] rfl)
set_option maxRecDepth 100000 in
def f_X9_paragraphs (S : PS) (a0 : Nat) : Option (Int32) := if kK S a0 = 13 then ((kQ S a0 1).bind fun a2 => if kK S a2 = 11 then ((kQ S a2 2).bind fun a5 => if kK S a5 = 9 then ((f_X5_count S a5).bind fun r8 => some r8) else none) else none) else none
abbrev rmX9_paragraphs : Room := { frames := 1, cells := 0, slots := 0, locals := 20 }
set_option maxHeartbeats 4000000 in
set_option maxRecDepth 100000 in
theorem c_X9_paragraphs (l : Launch) (D : va_G × Nat) (S : PS) (a0 : Nat) (r : Int32) (hf : f_X9_paragraphs S a0 = some r) : MI l D yX9_paragraphs wsX9_paragraphs rmX9_paragraphs S [.ref a0] S r 0 0 := by
  unfold f_X9_paragraphs at hf
  refine Met.ofW (cc := cX9_paragraphs) (maxL := 1) (ret := (some .int)) (by decide) rfl ?_
  intro p e s m args below meth c s₁ B hml hv
  obtain ⟨rfl, hH0, hNE⟩ := hv
  have hx := B.exec
  have hb := B.bytes
  have hr := B.returns
  have hts := atoms_spec (ws := wsX9_paragraphs) B.pre
  have hown : s.vm.findClass RX9 = some m.cls := findClass_of_methodNamed B.named
  have hlocks := B.notSynchronized
  have hH : HI D S S s s.heap [] := HI.start hH0
  have hl := lv_entry ([.ref a0]) (n := 1) (Nat.le_of_ble_eq_true rfl)
  rw [lg_entry_eq]
  generalize (lg_sl ([.ref a0]) ++ List.replicate (1 - (lg_sl ([.ref a0])).length) Slot.unset).toArray = ls at hl ⊢
  have hl : lv_has ls 1 [(0, .ref a0)] := hl
  refine lv_aload_n hx hb dX9_paragraphs_0 rfl (lv_at hl 0 rfl) ?_
  obtain ⟨ek1, hf⟩ := oc hf
  obtain ⟨a2, e3, hf⟩ := ob hf
  refine r_getQ hx hb 12 hts (fun w h => List.mem_cons_of_mem _ (mwsX90 w h)) hown hH ek1 (by decide) rfl 1 (by decide) rfl (hts (.fieldLink RX9 21 "Housestyle" "text" "LHousestyle$Text;") (List.mem_cons_of_mem _ gw_20_0)) (fun _ h9 => h9) dX9_paragraphs_1 e3 ?_
  obtain ⟨ek4, hf⟩ := oc hf
  obtain ⟨a5, e6, hf⟩ := ob hf
  refine r_getQN hx hb 10 hts (fun w h => List.mem_cons_of_mem _ (mwsX70 w h)) hown hH ek4 (by decide) rfl 2 (by decide) rfl (nf_10 hNE) (fun _ h9 => h9) dX9_paragraphs_4 e6 ?_
  obtain ⟨ek7, hf⟩ := oc hf
  obtain ⟨r8, e9, hf⟩ := ob hf
  refine r_callVi (As := []) ⟨hx, hb, hml, hown, hts⟩ (c_X5_count l D S a5 r8 e9) (cwV 0 hts (gwV gw_21_15 gw_1_15 gw_1_16 gw_1_5 gw_1_11) rfl rfl rfl (by decide +kernel) ⟨Nat.le_of_ble_eq_true rfl, Nat.le_of_ble_eq_true rfl⟩) hH hNE 8 ek7 (by decide) rfl rfl rfl hl.1 rfl (Nat.le_of_ble_eq_true rfl) dX9_paragraphs_7 ⟨(Nat.le_of_ble_eq_true rfl), (Nat.le_of_ble_eq_true rfl)⟩ (fun H locs hH => ?_)
  have hr9 := Option.some.inj hf
  subst hr9
  exact e_i hx hb hr hlocks hH dX9_paragraphs_10
set_option maxRecDepth 100000 in
def f_X7_clearChanged_b4 (a0 : Nat) (p1 : Int32) (x1 : Int32) (x2 : Int32) (S3 : PS) : Option ((Int32 × Int32 × PS) ⊕ ((Int32 × PS))) := if kK S3 a0 = 11 then ((kQ S3 a0 2).bind fun a10 => if kK S3 a10 = 9 then ((f_X5_count S3 a10).bind fun r13 => if r13 ≤ x2 then (some (.inr (x1, S3))) else ((f_X5_get S3 a10 x2).bind fun r16 => lt (fun (x18 : Int32) (S19 : PS) => lt (x2 + 1) fun x21 => some (.inl (x18, x21, S19))) fun j20 => if (r16 &&& p1) = 0 then (j20 x1 S3) else (lt (x1 + 1) fun x25 => (f_X5_set S3 a10 x2 (r16 &&& (p1 ^^^ (-1)))).bind fun r27 => j20 x25 r27))) else none) else none
set_option maxRecDepth 100000 in
def f_X7_clearChanged (S : PS) (a0 : Nat) (p1 : Int32) : Option (PS × Int32) := lt (fun (x4 : Int32) (S5 : PS) => some (S5, x4)) fun k6 => (iter (fun (v : Int32 × Int32 × PS) => f_X7_clearChanged_b4 a0 p1 v.1 v.2.1 v.2.2) kF (0, 0, S)).bind (fun (v : Int32 × PS) => k6 v.1 v.2)
abbrev rmX7_clearChanged : Room := { frames := 1, cells := 0, slots := 0, locals := 22 }
set_option maxHeartbeats 4000000 in
set_option maxRecDepth 100000 in
theorem c_X7_clearChanged (l : Launch) (D : va_G × Nat) (S : PS) (a0 : Nat) (p1 : Int32) (r : PS × Int32) (hf : f_X7_clearChanged S a0 p1 = some r) : MI l D yX7_clearChanged wsX7_clearChanged rmX7_clearChanged S [.ref a0, .int p1] r.1 r.2 0 0 := by
  unfold f_X7_clearChanged at hf
  refine Met.ofW (cc := cX7_clearChanged) (maxL := 5) (ret := (some .int)) (by decide) rfl ?_
  intro p e s m args below meth c s₁ B hml hv
  obtain ⟨rfl, hH0, hNE⟩ := hv
  have hx := B.exec
  have hb := B.bytes
  have hr := B.returns
  have hts := atoms_spec (ws := wsX7_clearChanged) B.pre
  have hown : s.vm.findClass RX7 = some m.cls := findClass_of_methodNamed B.named
  have hlocks := B.notSynchronized
  have hH : HI D S S s s.heap [] := HI.start hH0
  have hl := lv_entry ([.ref a0, .int p1]) (n := 5) (Nat.le_of_ble_eq_true rfl)
  rw [lg_entry_eq]
  generalize (lg_sl ([.ref a0, .int p1]) ++ List.replicate (5 - (lg_sl ([.ref a0, .int p1])).length) Slot.unset).toArray = ls at hl ⊢
  have hl : lv_has ls 5 [(0, .ref a0), (1, .int p1)] := hl
  refine lv_iconst (v := 0) hx hb dX7_clearChanged_0 (by decide) ?_
  refine lv_istore_n (lv' := [(2, .int 0), (0, .ref a0), (1, .int p1)]) hx hb dX7_clearChanged_1 rfl hl (by decide) rfl (fun ls hl => ?_)
  refine lv_iconst (v := 0) hx hb dX7_clearChanged_2 (by decide) ?_
  refine lv_istore_n (lv' := [(3, .int 0), (2, .int 0), (0, .ref a0), (1, .int p1)]) hx hb dX7_clearChanged_3 rfl hl (by decide) rfl (fun ls hl => ?_)
  obtain ⟨k6, e7, hf⟩ := ol hf
  have Xk6 : ∀ (x4 : Int32) (S5 : PS) (H : Heap) (locs : List Loc) (ls : Array Slot), HI D S S5 s H locs → lv_has ls 5 [(2, .int x4)] → k6 x4 S5 = some r → GI p l e (headSpec wsX7_clearChanged rmX7_clearChanged).room s m ([.ref a0, .int p1] : List Value).toArray below meth c D S r.1 r.2 H locs 0 0 0 0 (F0 m 55 ls []) := by
    intro x4 S5 H locs ls hH hl hf
    rw [← e7] at hf
    refine lv_iload_n hx hb dX7_clearChanged_55 rfl (lv_at hl 0 rfl) ?_
    have hr9 := Option.some.inj hf
    subst hr9
    exact e_i hx hb hr hlocks hH dX7_clearChanged_56
  obtain ⟨o8, eo8, hq8f⟩ := ob hf
  have Lo8 : ∀ (n : Nat) (x1 : Int32) (x2 : Int32) (S3 : PS), iter (fun (v : Int32 × Int32 × PS) => f_X7_clearChanged_b4 a0 p1 v.1 v.2.1 v.2.2) n (x1, x2, S3) = some o8 → ∀ (H : Heap) (locs : List Loc) (ls : Array Slot), HI D S S3 s H locs → lv_has ls 5 [(0, .ref a0), (1, .int p1), (2, .int x1), (3, .int x2)] → GI p l e (headSpec wsX7_clearChanged rmX7_clearChanged).room s m ([.ref a0, .int p1] : List Value).toArray below meth c D S r.1 r.2 H locs 0 0 0 0 (F0 m 4 ls []) := by
    intro n
    induction n with
    | zero => intro x1 x2 S3 hi; cases hi
    | succ n ih8 =>
      intro x1 x2 S3 hi H locs ls hH hl
      obtain ⟨q8_, hf, hq8⟩ := iter_s hi
      have hf : f_X7_clearChanged_b4 a0 p1 x1 x2 S3 = some q8_ := hf
      unfold f_X7_clearChanged_b4 at hf
      refine lv_iload_n hx hb dX7_clearChanged_4 rfl (lv_at hl 3 rfl) ?_
      refine lv_aload_n hx hb dX7_clearChanged_5 rfl (lv_at hl 0 rfl) ?_
      obtain ⟨ek9, hf⟩ := oc hf
      obtain ⟨a10, e11, hf⟩ := ob hf
      refine r_getQ hx hb 10 hts (fun w h => List.mem_cons_of_mem _ (mwsX70 w h)) hown hH ek9 (by decide) rfl 2 (by decide) rfl (hts (.fieldLink RX7 23 "Housestyle$Text" "changed" "LHousestyle$Row;") (List.mem_cons_of_mem _ gw_17_13)) (fun _ h9 => h9) dX7_clearChanged_6 e11 ?_
      obtain ⟨ek12, hf⟩ := oc hf
      obtain ⟨r13, e14, hf⟩ := ob hf
      refine r_callVi (As := []) ⟨hx, hb, hml, hown, hts⟩ (c_X5_count l D S3 a10 r13 e14) (cwV 0 hts (gwV gw_17_17 gw_1_15 gw_1_16 gw_1_5 gw_1_11) rfl rfl rfl (by decide +kernel) ⟨Nat.le_of_ble_eq_true rfl, Nat.le_of_ble_eq_true rfl⟩) hH hNE 8 ek12 (by decide) rfl rfl rfl hl.1 rfl (Nat.le_of_ble_eq_true rfl) dX7_clearChanged_9 ⟨(Nat.le_of_ble_eq_true rfl), (Nat.le_of_ble_eq_true rfl)⟩ (fun H locs hH => ?_)
      refine lv_icmp_ge (tgt := 55) hx hb dX7_clearChanged_12 (by decide) (fun c15 => ?_) (fun c15 => ?_)
      · have hf := ip hf c15
        cases hf
        have hf9 := itR (K := (fun (v : Int32 × PS) => k6 v.1 v.2)) hq8 hq8f
        exact Xk6 x1 S3 _ _ ls hH (lv_sub hl [2] rfl) hf9
      · have hf := iq hf c15
        refine lv_aload_n hx hb dX7_clearChanged_15 rfl (lv_at hl 0 rfl) ?_
        refine r_getQ hx hb 10 hts (fun w h => List.mem_cons_of_mem _ (mwsX70 w h)) hown hH ek9 (by decide) rfl 2 (by decide) rfl (hts (.fieldLink RX7 23 "Housestyle$Text" "changed" "LHousestyle$Row;") (List.mem_cons_of_mem _ gw_17_13)) (fun _ h9 => h9) dX7_clearChanged_16 e11 ?_
        refine lv_iload_n hx hb dX7_clearChanged_19 rfl (lv_at hl 3 rfl) ?_
        obtain ⟨r16, e17, hf⟩ := ob hf
        refine r_callVi (As := [.int x2]) ⟨hx, hb, hml, hown, hts⟩ (c_X5_get l D S3 a10 x2 r16 e17) (cwV 1 hts (gwV gw_17_18 gw_2_13 gw_2_14 gw_1_5 gw_2_9) rfl rfl rfl (by decide +kernel) ⟨Nat.le_of_ble_eq_true rfl, Nat.le_of_ble_eq_true rfl⟩) hH hNE 8 ek12 (by decide) rfl rfl rfl hl.1 rfl (Nat.le_of_ble_eq_true rfl) dX7_clearChanged_20 ⟨(Nat.le_of_ble_eq_true rfl), (Nat.le_of_ble_eq_true rfl)⟩ (fun H locs hH => ?_)
        refine lv_istore (lv' := [(4, .int r16), (0, .ref a0), (1, .int p1), (2, .int x1), (3, .int x2)]) hx hb dX7_clearChanged_23 hl (by decide) rfl (fun ls hl => ?_)
        refine lv_iload hx hb dX7_clearChanged_25 (lv_at hl 0 rfl) ?_
        refine lv_iload_n hx hb dX7_clearChanged_27 rfl (lv_at hl 2 rfl) ?_
        refine lv_iand hx hb dX7_clearChanged_28 ?_
        obtain ⟨j20, e23, hf⟩ := ol hf
        have Jj20 : ∀ (x18 : Int32) (S19 : PS) (H : Heap) (locs : List Loc) (ls : Array Slot), HI D S S19 s H locs → lv_has ls 5 [(0, .ref a0), (1, .int p1), (2, .int x18), (3, .int x2)] → j20 x18 S19 = some q8_ → GI p l e (headSpec wsX7_clearChanged rmX7_clearChanged).room s m ([.ref a0, .int p1] : List Value).toArray below meth c D S r.1 r.2 H locs 0 0 0 0 (F0 m 49 ls []) := by
          intro x18 S19 H locs ls hH hl hf
          rw [← e23] at hf
          obtain ⟨x21, e22, hf⟩ := ol hf
          refine lv_iinc (v := x21) (lv' := [(3, .int x21), (0, .ref a0), (1, .int p1), (2, .int x18)]) hx hb dX7_clearChanged_49 hl (k := 3) rfl (by rw [← e22]; rfl) (by decide) rfl (fun ls hl => ?_)
          refine lv_goto (tgt := 4) hx hb dX7_clearChanged_52 (by decide) ?_
          cases hf
          exact ih8 x18 x21 S19 hq8 _ _ ls hH (lv_sub hl [1, 2, 3, 0] rfl)
        refine lv_if_eq (tgt := 49) hx hb dX7_clearChanged_29 (by decide) (fun c24 => ?_) (fun c24 => ?_)
        · have hf := ip hf c24
          exact Jj20 x1 S3 _ _ ls hH (lv_sub hl [1, 2, 3, 4] rfl) hf
        · have hf := iq hf c24
          obtain ⟨x25, e26, hf⟩ := ol hf
          refine lv_iinc (v := x25) (lv' := [(2, .int x25), (4, .int r16), (0, .ref a0), (1, .int p1), (3, .int x2)]) hx hb dX7_clearChanged_32 hl (k := 3) rfl (by rw [← e26]; rfl) (by decide) rfl (fun ls hl => ?_)
          refine lv_aload_n hx hb dX7_clearChanged_35 rfl (lv_at hl 2 rfl) ?_
          refine r_getQ hx hb 10 hts (fun w h => List.mem_cons_of_mem _ (mwsX70 w h)) hown hH ek9 (by decide) rfl 2 (by decide) rfl (hts (.fieldLink RX7 23 "Housestyle$Text" "changed" "LHousestyle$Row;") (List.mem_cons_of_mem _ gw_17_13)) (fun _ h9 => h9) dX7_clearChanged_36 e11 ?_
          refine lv_iload_n hx hb dX7_clearChanged_39 rfl (lv_at hl 4 rfl) ?_
          refine lv_iload hx hb dX7_clearChanged_40 (lv_at hl 1 rfl) ?_
          refine lv_iload_n hx hb dX7_clearChanged_42 rfl (lv_at hl 3 rfl) ?_
          refine lv_iconst (v := (-1)) hx hb dX7_clearChanged_43 (by decide) ?_
          refine lv_ixor hx hb dX7_clearChanged_44 ?_
          refine lv_iand hx hb dX7_clearChanged_45 ?_
          obtain ⟨r27, e28, hf⟩ := ob hf
          refine r_callVv (As := [.int x2, .int (r16 &&& (p1 ^^^ (-1)))]) ⟨hx, hb, hml, hown, hts⟩ (c_X5_set l D S3 a10 x2 (r16 &&& (p1 ^^^ (-1))) r27 e28) (cwV 2 hts (gwV gw_18_3 gw_5_20 gw_5_21 gw_1_5 gw_5_16) rfl rfl rfl (by decide +kernel) ⟨Nat.le_of_ble_eq_true rfl, Nat.le_of_ble_eq_true rfl⟩) hH hNE 8 ek12 (by decide) rfl rfl rfl hl.1 rfl (Nat.le_of_ble_eq_true rfl) dX7_clearChanged_46 ⟨(Nat.le_of_ble_eq_true rfl), (Nat.le_of_ble_eq_true rfl)⟩ (fun H locs hH => ?_)
          exact Jj20 x25 r27 _ _ ls hH (lv_sub hl [2, 3, 0, 4] rfl) hf
  exact Lo8 kF 0 0 S eo8 _ _ ls hH (lv_sub hl [2, 3, 1, 0] rfl)
set_option maxRecDepth 100000 in
def f_X9_check (S : PS) (a0 : Nat) (p1 : Int32) : Option ((PS × Int32) ⊕ (PS × Nat)) := if kK S a0 = 13 then (bx2 (f_X9_deskAt S a0 p1) fun S3 a4 => if kK S3 a0 = 13 then ((kQ S3 a0 1).bind fun a6 => if kK S3 a6 = 11 then ((f_X7_clearChanged S3 a6 (1 <<< (p1 &&& 31))).bind fun r9 => lt r9.1 fun S11 => some (.inl (S11, r9.2))) else none) else none) else none
abbrev rmX9_check : Room := { frames := 7, cells := 1, slots := 6, locals := 111 }
set_option maxHeartbeats 4000000 in
set_option maxRecDepth 100000 in
theorem c_X9_check (l : Launch) (hst9 : l.stackTraces = false) (D : va_G × Nat) (S : PS) (a0 : Nat) (p1 : Int32) (r : (PS × Int32) ⊕ (PS × Nat)) (hf : f_X9_check S a0 p1 = some r) : XM l D yX9_check wsX9_check rmX9_check S [.ref a0, .int p1] (mI r) 1 6 := by
  unfold f_X9_check at hf
  refine vx_ofW (cc := cX9_check) (maxL := 2) (ret := (some .int)) (by decide) rfl ?_
  intro p e s m args below meth c s₁ B hml hxt hv
  obtain ⟨rfl, hH0, hE, hNE⟩ := hv
  have hB := hH0.base
  have hx := B.exec
  have hb := B.bytes
  have hr := B.returns
  have hts := atoms_spec (ws := wsX9_check) B.pre
  have hown : s.vm.findClass RX9 = some m.cls := findClass_of_methodNamed B.named
  have hlocks := B.notSynchronized
  have hH : HI D S S s s.heap [] := HI.start hH0
  have hl := lv_entry ([.ref a0, .int p1]) (n := 2) (Nat.le_of_ble_eq_true rfl)
  rw [lg_entry_eq]
  generalize (lg_sl ([.ref a0, .int p1]) ++ List.replicate (2 - (lg_sl ([.ref a0, .int p1])).length) Slot.unset).toArray = ls at hl ⊢
  have hl : lv_has ls 2 [(0, .ref a0), (1, .int p1)] := hl
  refine lv_aload_n hx hb dX9_check_0 rfl (lv_at hl 0 rfl) ?_
  refine lv_iload_n hx hb dX9_check_1 rfl (lv_at hl 1 rfl) ?_
  obtain ⟨ek1, hf⟩ := oc hf
  rcases obx2 hf with ⟨x4_, e2, rfl⟩ | ⟨S3, a4, e2, hf⟩
  · refine r_xVex (As := [.int p1]) ⟨hx, hb, hml, hown, hts⟩ (c_X9_deskAt l hst9 D S a0 p1 (.inr x4_) e2) (cwV 1 hts (gwV gw_25_7 gw_25_8 gw_25_9 gw_14_5 gw_25_4) rfl rfl rfl (by decide +kernel) ⟨Nat.le_of_ble_eq_true rfl, Nat.le_of_ble_eq_true rfl⟩) hH hE hB hNE 12 ek1 (by decide) rfl rfl rfl hl.1 rfl (Nat.le_of_ble_eq_true rfl) dX9_check_2 ⟨(Nat.le_of_ble_eq_true rfl), (Nat.le_of_ble_eq_true rfl)⟩ (fun z9 ce9 q9 H locs hH hk9 hz9 h91 h92 h93 => ?_)
    exact x_out hxt hlocks hH hk9 hz9 h91 h92 h93 ⟨Nat.le_of_ble_eq_true rfl, Nat.le_of_ble_eq_true rfl⟩
  refine r_xVok (As := [.int p1]) (S' := S3) (v := (some (.ref a4))) (st1 := [.ref a4]) ⟨hx, hb, hml, hown, hts⟩ (c_X9_deskAt l hst9 D S a0 p1 (.inl (S3, a4)) e2) (cwV 1 hts (gwV gw_25_7 gw_25_8 gw_25_9 gw_14_5 gw_25_4) rfl rfl rfl (by decide +kernel) ⟨Nat.le_of_ble_eq_true rfl, Nat.le_of_ble_eq_true rfl⟩) hH hE hB hNE 12 ek1 (by decide) rfl rfl rfl hl.1 rfl (Nat.le_of_ble_eq_true rfl) dX9_check_2 ⟨(Nat.le_of_ble_eq_true rfl), (Nat.le_of_ble_eq_true rfl)⟩ rfl (fun H locs hH => ?_)
  refine W.widen (k := 1) (n := 6) (by omega) (by omega) ?_
  refine lv_pop hx hb dX9_check_5 rfl ?_
  refine lv_aload_n hx hb dX9_check_6 rfl (lv_at hl 0 rfl) ?_
  obtain ⟨ek5, hf⟩ := oc hf
  obtain ⟨a6, e7, hf⟩ := ob hf
  refine r_getQ hx hb 12 hts (fun w h => List.mem_cons_of_mem _ (mwsX90 w h)) hown hH ek5 (by decide) rfl 1 (by decide) rfl (hts (.fieldLink RX9 21 "Housestyle" "text" "LHousestyle$Text;") (List.mem_cons_of_mem _ gw_20_0)) (fun _ h9 => h9) dX9_check_7 e7 ?_
  refine lv_iconst (v := 1) hx hb dX9_check_10 (by decide) ?_
  refine lv_iload_n hx hb dX9_check_11 rfl (lv_at hl 1 rfl) ?_
  refine lv_ishl hx hb dX9_check_12 ?_
  obtain ⟨ek8, hf⟩ := oc hf
  obtain ⟨r9, e10, hf⟩ := ob hf
  refine r_callVi (As := [.int (1 <<< (p1 &&& 31))]) ⟨hx, hb, hml, hown, hts⟩ (c_X7_clearChanged l D S3 a6 (1 <<< (p1 &&& 31)) r9 e10) (cwV 1 hts (gwV gw_28_9 gw_28_10 gw_28_11 gw_17_23 gw_18_7) rfl rfl rfl (by decide +kernel) ⟨Nat.le_of_ble_eq_true rfl, Nat.le_of_ble_eq_true rfl⟩) hH hNE 10 ek8 (by decide) rfl rfl rfl hl.1 rfl (Nat.le_of_ble_eq_true rfl) dX9_check_13 ⟨(Nat.le_of_ble_eq_true rfl), (Nat.le_of_ble_eq_true rfl)⟩ (fun H locs hH => ?_)
  obtain ⟨S11, e12, hf⟩ := ol hf
  rw [e12] at hH
  have hr9 := Option.some.inj hf
  subst hr9
  exact x_i hx hb hr hlocks hH dX9_check_16
set_option maxRecDepth 100000 in
def f_X9_byRule_b32 (a0 : Nat) (p2 : Int32) (S3 : PS) (x10 : Int32) (x11 : Int32) : Option ((Int32 × Int32) ⊕ ((Int32))) := if kK S3 a0 = 13 then ((kQ S3 a0 5).bind fun a17 => if kK S3 a17 = 6 then ((f_X2_count S3 a17).bind fun r20 => if r20 ≤ x11 then (some (.inr x10)) else ((f_X2_ruleOf S3 a17 x11).bind fun r23 => lt (fun (x25 : Int32) => lt (x11 + 1) fun x27 => some (.inl (x25, x27))) fun j26 => if r23 = p2 then (lt (x10 + 1) fun x31 => j26 x31) else (j26 x10))) else none) else none
set_option maxRecDepth 100000 in
def f_X9_byRule (S : PS) (a0 : Nat) (p1 : Int32) (p2 : Int32) : Option ((PS × Int32) ⊕ (PS × Nat)) := if kK S a0 = 13 then (bx2 (f_X9_findFor S a0 p1) fun S3 a4 => lt (fun (u6 : Unit) => some (.inr (S3, 1))) fun j5 => if p2 < 0 then (j5 ()) else (if p2 ≤ (20 : Int32) then (lt (fun (x12 : Int32) => some (.inl (S3, x12))) fun k13 => (iter (fun (v : Int32 × Int32) => f_X9_byRule_b32 a0 p2 S3 v.1 v.2) kF (0, 0)).bind (fun (v : Int32) => k13 v)) else (j5 ()))) else none
abbrev rmX9_byRule : Room := { frames := 8, cells := 2, slots := 12, locals := 178 }
set_option maxHeartbeats 4000000 in
set_option maxRecDepth 100000 in
theorem c_X9_byRule (l : Launch) (hst9 : l.stackTraces = false) (D : va_G × Nat) (S : PS) (a0 : Nat) (p1 : Int32) (p2 : Int32) (r : (PS × Int32) ⊕ (PS × Nat)) (hf : f_X9_byRule S a0 p1 p2 = some r) : XM l D yX9_byRule wsX9_byRule rmX9_byRule S [.ref a0, .int p1, .int p2] (mI r) 2 12 := by
  unfold f_X9_byRule at hf
  refine vx_ofW (cc := cX9_byRule) (maxL := 5) (ret := (some .int)) (by decide) rfl ?_
  intro p e s m args below meth c s₁ B hml hxt hv
  obtain ⟨rfl, hH0, hE, hNE⟩ := hv
  have hB := hH0.base
  have hx := B.exec
  have hb := B.bytes
  have hr := B.returns
  have hts := atoms_spec (ws := wsX9_byRule) B.pre
  have hown : s.vm.findClass RX9 = some m.cls := findClass_of_methodNamed B.named
  have hlocks := B.notSynchronized
  have hH : HI D S S s s.heap [] := HI.start hH0
  have hl := lv_entry ([.ref a0, .int p1, .int p2]) (n := 5) (Nat.le_of_ble_eq_true rfl)
  rw [lg_entry_eq]
  generalize (lg_sl ([.ref a0, .int p1, .int p2]) ++ List.replicate (5 - (lg_sl ([.ref a0, .int p1, .int p2])).length) Slot.unset).toArray = ls at hl ⊢
  have hl : lv_has ls 5 [(0, .ref a0), (1, .int p1), (2, .int p2)] := hl
  refine lv_aload_n hx hb dX9_byRule_0 rfl (lv_at hl 0 rfl) ?_
  refine lv_iload_n hx hb dX9_byRule_1 rfl (lv_at hl 1 rfl) ?_
  obtain ⟨ek1, hf⟩ := oc hf
  rcases obx2 hf with ⟨x4_, e2, rfl⟩ | ⟨S3, a4, e2, hf⟩
  · refine r_xVex (As := [.int p1]) ⟨hx, hb, hml, hown, hts⟩ (c_X9_findFor l hst9 D S a0 p1 (.inr x4_) e2) (cwV 1 hts (gwV gw_26_10 gw_26_11 gw_26_12 gw_14_5 gw_25_23) rfl rfl rfl (by decide +kernel) ⟨Nat.le_of_ble_eq_true rfl, Nat.le_of_ble_eq_true rfl⟩) hH hE hB hNE 12 ek1 (by decide) rfl rfl rfl hl.1 rfl (Nat.le_of_ble_eq_true rfl) dX9_byRule_2 ⟨(Nat.le_of_ble_eq_true rfl), (Nat.le_of_ble_eq_true rfl)⟩ (fun z9 ce9 q9 H locs hH hk9 hz9 h91 h92 h93 => ?_)
    exact x_out hxt hlocks hH hk9 hz9 h91 h92 h93 ⟨Nat.le_of_ble_eq_true rfl, Nat.le_of_ble_eq_true rfl⟩
  refine r_xVok (As := [.int p1]) (S' := S3) (v := (some (.ref a4))) (st1 := [.ref a4]) ⟨hx, hb, hml, hown, hts⟩ (c_X9_findFor l hst9 D S a0 p1 (.inl (S3, a4)) e2) (cwV 1 hts (gwV gw_26_10 gw_26_11 gw_26_12 gw_14_5 gw_25_23) rfl rfl rfl (by decide +kernel) ⟨Nat.le_of_ble_eq_true rfl, Nat.le_of_ble_eq_true rfl⟩) hH hE hB hNE 12 ek1 (by decide) rfl rfl rfl hl.1 rfl (Nat.le_of_ble_eq_true rfl) dX9_byRule_2 ⟨(Nat.le_of_ble_eq_true rfl), (Nat.le_of_ble_eq_true rfl)⟩ rfl (fun H locs hH => ?_)
  refine W.widen (k := 1) (n := 6) (by omega) (by omega) ?_
  refine lv_pop hx hb dX9_byRule_5 rfl ?_
  refine lv_iload_n hx hb dX9_byRule_6 rfl (lv_at hl 2 rfl) ?_
  obtain ⟨j5, e7, hf⟩ := ol hf
  have Jj5 : ∀ (u6 : Unit) (H : Heap) (locs : List Loc) (ls : Array Slot), HI D S S3 s H locs → lv_has ls 5 [] → j5 u6 = some r → GX p l e (headSpec wsX9_byRule rmX9_byRule).room s m ([.ref a0, .int p1, .int p2] : List Value).toArray below meth c D S (mI r) H locs 1 6 2 12 (F0 m 16 ls []) := by
    intro u6 H locs ls hH hl hf
    rw [← e7] at hf
    cases hf
    exact r_throwW (text := "no such rule") (cls := "java/lang/IllegalArgumentException") (names := ["java/lang/RuntimeException", "java/lang/Exception"]) 1 hx hb hst9 hown xf0 xn (hts (.classLink RX9 82 "java/lang/IllegalArgumentException") (List.mem_cons_of_mem _ gw_21_9)) (hts (.initialized "java/lang/IllegalArgumentException") (List.mem_cons_of_mem _ gw_21_10)) (List.mem_of_getElem? (i := 21) rfl) (xa0 hts hE) xg0 hE hB hH (hl.1.trans hml.symm) rfl dX9_byRule_16 dX9_byRule_19 dX9_byRule_20 dX9_byRule_23 dX9_byRule_26 hxt (Nat.le_of_ble_eq_true rfl) (Nat.le_of_ble_eq_true rfl) (Nat.le_of_ble_eq_true rfl) (Nat.le_of_ble_eq_true rfl) hlocks ⟨Nat.le_of_ble_eq_true rfl, Nat.le_of_ble_eq_true rfl⟩
  refine lv_if_lt (tgt := 16) hx hb dX9_byRule_7 (by decide) (fun c8 => ?_) (fun c8 => ?_)
  · have hf := ip hf c8
    exact Jj5 () _ _ ls hH (lv_sub hl [] rfl) hf
  · have hf := iq hf c8
    refine lv_iload_n hx hb dX9_byRule_10 rfl (lv_at hl 2 rfl) ?_
    refine lv_bipush (v := 20) hx hb dX9_byRule_11 (by decide) ?_
    refine lv_icmp_le (tgt := 27) hx hb dX9_byRule_13 (by decide) (fun c9 => ?_) (fun c9 => ?_)
    · have hf := ip hf c9
      refine lv_iconst (v := 0) hx hb dX9_byRule_27 (by decide) ?_
      refine lv_istore_n (lv' := [(3, .int 0), (0, .ref a0), (1, .int p1), (2, .int p2)]) hx hb dX9_byRule_28 rfl hl (by decide) rfl (fun ls hl => ?_)
      refine lv_iconst (v := 0) hx hb dX9_byRule_29 (by decide) ?_
      refine lv_istore (lv' := [(4, .int 0), (3, .int 0), (0, .ref a0), (1, .int p1), (2, .int p2)]) hx hb dX9_byRule_30 hl (by decide) rfl (fun ls hl => ?_)
      obtain ⟨k13, e14, hf⟩ := ol hf
      have Xk13 : ∀ (x12 : Int32) (H : Heap) (locs : List Loc) (ls : Array Slot), HI D S S3 s H locs → lv_has ls 5 [(3, .int x12)] → k13 x12 = some r → GX p l e (headSpec wsX9_byRule rmX9_byRule).room s m ([.ref a0, .int p1, .int p2] : List Value).toArray below meth c D S (mI r) H locs 1 6 2 12 (F0 m 66 ls []) := by
        intro x12 H locs ls hH hl hf
        rw [← e14] at hf
        refine lv_iload_n hx hb dX9_byRule_66 rfl (lv_at hl 0 rfl) ?_
        refine W.widen (k := 2) (n := 12) (by omega) (by omega) ?_
        have hr9 := Option.some.inj hf
        subst hr9
        exact x_i hx hb hr hlocks hH dX9_byRule_67
      obtain ⟨o15, eo15, hq15f⟩ := ob hf
      have Lo15 : ∀ (n : Nat) (x10 : Int32) (x11 : Int32), iter (fun (v : Int32 × Int32) => f_X9_byRule_b32 a0 p2 S3 v.1 v.2) n (x10, x11) = some o15 → ∀ (H : Heap) (locs : List Loc) (ls : Array Slot), HI D S S3 s H locs → lv_has ls 5 [(0, .ref a0), (2, .int p2), (3, .int x10), (4, .int x11)] → GX p l e (headSpec wsX9_byRule rmX9_byRule).room s m ([.ref a0, .int p1, .int p2] : List Value).toArray below meth c D S (mI r) H locs 1 6 2 12 (F0 m 32 ls []) := by
        intro n
        induction n with
        | zero => intro x10 x11 hi; cases hi
        | succ n ih15 =>
          intro x10 x11 hi H locs ls hH hl
          obtain ⟨q15_, hf, hq15⟩ := iter_s hi
          have hf : f_X9_byRule_b32 a0 p2 S3 x10 x11 = some q15_ := hf
          unfold f_X9_byRule_b32 at hf
          refine lv_iload hx hb dX9_byRule_32 (lv_at hl 3 rfl) ?_
          refine lv_aload_n hx hb dX9_byRule_34 rfl (lv_at hl 0 rfl) ?_
          obtain ⟨ek16, hf⟩ := oc hf
          obtain ⟨a17, e18, hf⟩ := ob hf
          refine r_getQ hx hb 12 hts (fun w h => List.mem_cons_of_mem _ (mwsX90 w h)) hown hH ek16 (by decide) rfl 5 (by decide) rfl (hts (.fieldLink RX9 63 "Housestyle" "found" "LHousestyle$Findings;") (List.mem_cons_of_mem _ gw_20_13)) (fun _ h9 => h9) dX9_byRule_35 e18 ?_
          obtain ⟨ek19, hf⟩ := oc hf
          obtain ⟨r20, e21, hf⟩ := ob hf
          refine r_callVi (As := []) ⟨hx, hb, hml, hown, hts⟩ (c_X2_count l D S3 a17 r20 e21) (cwV 0 hts (gwV gw_26_13 gw_13_0 gw_13_1 gw_11_18 gw_10_20) rfl rfl rfl (by decide +kernel) ⟨Nat.le_of_ble_eq_true rfl, Nat.le_of_ble_eq_true rfl⟩) hH hNE 5 ek19 (by decide) rfl rfl rfl hl.1 rfl (Nat.le_of_ble_eq_true rfl) dX9_byRule_38 ⟨(Nat.le_of_ble_eq_true rfl), (Nat.le_of_ble_eq_true rfl)⟩ (fun H locs hH => ?_)
          refine lv_icmp_ge (tgt := 66) hx hb dX9_byRule_41 (by decide) (fun c22 => ?_) (fun c22 => ?_)
          · have hf := ip hf c22
            cases hf
            have hf9 := itR (K := (fun (v : Int32) => k13 v)) hq15 hq15f
            exact Xk13 x10 _ _ ls hH (lv_sub hl [2] rfl) hf9
          · have hf := iq hf c22
            refine lv_aload_n hx hb dX9_byRule_44 rfl (lv_at hl 0 rfl) ?_
            refine r_getQ hx hb 12 hts (fun w h => List.mem_cons_of_mem _ (mwsX90 w h)) hown hH ek16 (by decide) rfl 5 (by decide) rfl (hts (.fieldLink RX9 63 "Housestyle" "found" "LHousestyle$Findings;") (List.mem_cons_of_mem _ gw_20_13)) (fun _ h9 => h9) dX9_byRule_45 e18 ?_
            refine lv_iload hx hb dX9_byRule_48 (lv_at hl 3 rfl) ?_
            obtain ⟨r23, e24, hf⟩ := ob hf
            refine r_callVi (As := [.int x11]) ⟨hx, hb, hml, hown, hts⟩ (c_X2_ruleOf l D S3 a17 x11 r23 e24) (cwV 1 hts (gwV gw_26_21 gw_26_22 gw_26_23 gw_11_18 gw_11_0) rfl rfl rfl (by decide +kernel) ⟨Nat.le_of_ble_eq_true rfl, Nat.le_of_ble_eq_true rfl⟩) hH hNE 5 ek19 (by decide) rfl rfl rfl hl.1 rfl (Nat.le_of_ble_eq_true rfl) dX9_byRule_50 ⟨(Nat.le_of_ble_eq_true rfl), (Nat.le_of_ble_eq_true rfl)⟩ (fun H locs hH => ?_)
            refine lv_iload_n hx hb dX9_byRule_53 rfl (lv_at hl 1 rfl) ?_
            obtain ⟨j26, e29, hf⟩ := ol hf
            have Jj26 : ∀ (x25 : Int32) (H : Heap) (locs : List Loc) (ls : Array Slot), HI D S S3 s H locs → lv_has ls 5 [(0, .ref a0), (2, .int p2), (3, .int x25), (4, .int x11)] → j26 x25 = some q15_ → GX p l e (headSpec wsX9_byRule rmX9_byRule).room s m ([.ref a0, .int p1, .int p2] : List Value).toArray below meth c D S (mI r) H locs 1 6 2 12 (F0 m 60 ls []) := by
              intro x25 H locs ls hH hl hf
              rw [← e29] at hf
              obtain ⟨x27, e28, hf⟩ := ol hf
              refine lv_iinc (v := x27) (lv' := [(4, .int x27), (0, .ref a0), (2, .int p2), (3, .int x25)]) hx hb dX9_byRule_60 hl (k := 3) rfl (by rw [← e28]; rfl) (by decide) rfl (fun ls hl => ?_)
              refine lv_goto (tgt := 32) hx hb dX9_byRule_63 (by decide) ?_
              cases hf
              exact ih15 x25 x27 hq15 _ _ ls hH (lv_sub hl [1, 2, 3, 0] rfl)
            refine lv_icmp_ne (tgt := 60) hx hb dX9_byRule_54 (by decide) (fun c30 => ?_) (fun c30 => ?_)
            · have hf := iq hf c30
              exact Jj26 x10 _ _ ls hH (lv_sub hl [0, 1, 2, 3] rfl) hf
            · have hf := ip hf c30
              obtain ⟨x31, e32, hf⟩ := ol hf
              refine lv_iinc (v := x31) (lv' := [(3, .int x31), (0, .ref a0), (2, .int p2), (4, .int x11)]) hx hb dX9_byRule_57 hl (k := 2) rfl (by rw [← e32]; rfl) (by decide) rfl (fun ls hl => ?_)
              exact Jj26 x31 _ _ ls hH (lv_sub hl [1, 2, 0, 3] rfl) hf
      exact Lo15 kF 0 0 eo15 _ _ ls hH (lv_sub hl [2, 4, 1, 0] rfl)
    · have hf := iq hf c9
      exact Jj5 () _ _ ls hH (lv_sub hl [] rfl) hf
set_option maxRecDepth 100000 in
def f_X9_byWriter_b29 (a0 : Nat) (p2 : Int32) (S3 : PS) (x8 : Int32) (x9 : Int32) : Option ((Int32 × Int32) ⊕ ((Int32))) := if kK S3 a0 = 13 then ((kQ S3 a0 5).bind fun a15 => if kK S3 a15 = 6 then ((f_X2_count S3 a15).bind fun r18 => if r18 ≤ x9 then (some (.inr x8)) else ((kQ S3 a0 1).bind fun a21 => if kK S3 a21 = 11 then ((kQ S3 a21 1).bind fun a24 => (f_X2_fromOf S3 a15 x9).bind fun r26 => if kK S3 a24 = 9 then ((f_X5_get S3 a24 r26).bind fun r29 => lt (fun (x31 : Int32) => lt (x9 + 1) fun x33 => some (.inl (x31, x33))) fun j32 => if r29 = p2 then (lt (x8 + 1) fun x37 => j32 x37) else (j32 x8)) else none) else none)) else none) else none
set_option maxRecDepth 100000 in
def f_X9_byWriter (S : PS) (a0 : Nat) (p1 : Int32) (p2 : Int32) : Option ((PS × Int32) ⊕ (PS × Nat)) := if kK S a0 = 13 then (bx2 (f_X9_findFor S a0 p1) fun S3 a4 => (f_X9_isWriter S3 p2).bind fun r5 => if r5 = 0 then (some (.inr (S3, 1))) else (lt (fun (x10 : Int32) => some (.inl (S3, x10))) fun k11 => (iter (fun (v : Int32 × Int32) => f_X9_byWriter_b29 a0 p2 S3 v.1 v.2) kF (0, 0)).bind (fun (v : Int32) => k11 v))) else none
abbrev rmX9_byWriter : Room := { frames := 8, cells := 2, slots := 12, locals := 178 }
set_option maxHeartbeats 4000000 in
set_option maxRecDepth 100000 in
theorem c_X9_byWriter (l : Launch) (hst9 : l.stackTraces = false) (D : va_G × Nat) (S : PS) (a0 : Nat) (p1 : Int32) (p2 : Int32) (r : (PS × Int32) ⊕ (PS × Nat)) (hf : f_X9_byWriter S a0 p1 p2 = some r) : XM l D yX9_byWriter wsX9_byWriter rmX9_byWriter S [.ref a0, .int p1, .int p2] (mI r) 2 12 := by
  unfold f_X9_byWriter at hf
  refine vx_ofW (cc := cX9_byWriter) (maxL := 5) (ret := (some .int)) (by decide) rfl ?_
  intro p e s m args below meth c s₁ B hml hxt hv
  obtain ⟨rfl, hH0, hE, hNE⟩ := hv
  have hB := hH0.base
  have hx := B.exec
  have hb := B.bytes
  have hr := B.returns
  have hts := atoms_spec (ws := wsX9_byWriter) B.pre
  have hown : s.vm.findClass RX9 = some m.cls := findClass_of_methodNamed B.named
  have hlocks := B.notSynchronized
  have hH : HI D S S s s.heap [] := HI.start hH0
  have hl := lv_entry ([.ref a0, .int p1, .int p2]) (n := 5) (Nat.le_of_ble_eq_true rfl)
  rw [lg_entry_eq]
  generalize (lg_sl ([.ref a0, .int p1, .int p2]) ++ List.replicate (5 - (lg_sl ([.ref a0, .int p1, .int p2])).length) Slot.unset).toArray = ls at hl ⊢
  have hl : lv_has ls 5 [(0, .ref a0), (1, .int p1), (2, .int p2)] := hl
  refine lv_aload_n hx hb dX9_byWriter_0 rfl (lv_at hl 0 rfl) ?_
  refine lv_iload_n hx hb dX9_byWriter_1 rfl (lv_at hl 1 rfl) ?_
  obtain ⟨ek1, hf⟩ := oc hf
  rcases obx2 hf with ⟨x4_, e2, rfl⟩ | ⟨S3, a4, e2, hf⟩
  · refine r_xVex (As := [.int p1]) ⟨hx, hb, hml, hown, hts⟩ (c_X9_findFor l hst9 D S a0 p1 (.inr x4_) e2) (cwV 1 hts (gwV gw_26_10 gw_26_11 gw_26_12 gw_14_5 gw_25_23) rfl rfl rfl (by decide +kernel) ⟨Nat.le_of_ble_eq_true rfl, Nat.le_of_ble_eq_true rfl⟩) hH hE hB hNE 12 ek1 (by decide) rfl rfl rfl hl.1 rfl (Nat.le_of_ble_eq_true rfl) dX9_byWriter_2 ⟨(Nat.le_of_ble_eq_true rfl), (Nat.le_of_ble_eq_true rfl)⟩ (fun z9 ce9 q9 H locs hH hk9 hz9 h91 h92 h93 => ?_)
    exact x_out hxt hlocks hH hk9 hz9 h91 h92 h93 ⟨Nat.le_of_ble_eq_true rfl, Nat.le_of_ble_eq_true rfl⟩
  refine r_xVok (As := [.int p1]) (S' := S3) (v := (some (.ref a4))) (st1 := [.ref a4]) ⟨hx, hb, hml, hown, hts⟩ (c_X9_findFor l hst9 D S a0 p1 (.inl (S3, a4)) e2) (cwV 1 hts (gwV gw_26_10 gw_26_11 gw_26_12 gw_14_5 gw_25_23) rfl rfl rfl (by decide +kernel) ⟨Nat.le_of_ble_eq_true rfl, Nat.le_of_ble_eq_true rfl⟩) hH hE hB hNE 12 ek1 (by decide) rfl rfl rfl hl.1 rfl (Nat.le_of_ble_eq_true rfl) dX9_byWriter_2 ⟨(Nat.le_of_ble_eq_true rfl), (Nat.le_of_ble_eq_true rfl)⟩ rfl (fun H locs hH => ?_)
  refine W.widen (k := 1) (n := 6) (by omega) (by omega) ?_
  refine lv_pop hx hb dX9_byWriter_5 rfl ?_
  refine lv_iload_n hx hb dX9_byWriter_6 rfl (lv_at hl 2 rfl) ?_
  obtain ⟨r5, e6, hf⟩ := ob hf
  refine r_callSi (As := [.int p2]) ⟨hx, hb, hml, hown, hts⟩ (c_X9_isWriter l D S3 p2 r5 e6) (va_cwS 1 hts (gwS gw_22_16 gw_22_17 gw_14_5 gw_21_20) rfl rfl rfl (by decide +kernel) ⟨Nat.le_of_ble_eq_true rfl, Nat.le_of_ble_eq_true rfl⟩) hH hNE rfl hl.1 rfl (Nat.le_of_ble_eq_true rfl) dX9_byWriter_7 ⟨(Nat.le_of_ble_eq_true rfl), (Nat.le_of_ble_eq_true rfl)⟩ (fun H locs hH => ?_)
  refine lv_if_ne (tgt := 24) hx hb dX9_byWriter_10 (by decide) (fun c7 => ?_) (fun c7 => ?_)
  · have hf := iq hf c7
    refine lv_iconst (v := 0) hx hb dX9_byWriter_24 (by decide) ?_
    refine lv_istore_n (lv' := [(3, .int 0), (0, .ref a0), (1, .int p1), (2, .int p2)]) hx hb dX9_byWriter_25 rfl hl (by decide) rfl (fun ls hl => ?_)
    refine lv_iconst (v := 0) hx hb dX9_byWriter_26 (by decide) ?_
    refine lv_istore (lv' := [(4, .int 0), (3, .int 0), (0, .ref a0), (1, .int p1), (2, .int p2)]) hx hb dX9_byWriter_27 hl (by decide) rfl (fun ls hl => ?_)
    obtain ⟨k11, e12, hf⟩ := ol hf
    have Xk11 : ∀ (x10 : Int32) (H : Heap) (locs : List Loc) (ls : Array Slot), HI D S S3 s H locs → lv_has ls 5 [(3, .int x10)] → k11 x10 = some r → GX p l e (headSpec wsX9_byWriter rmX9_byWriter).room s m ([.ref a0, .int p1, .int p2] : List Value).toArray below meth c D S (mI r) H locs 1 6 2 12 (F0 m 73 ls []) := by
      intro x10 H locs ls hH hl hf
      rw [← e12] at hf
      refine lv_iload_n hx hb dX9_byWriter_73 rfl (lv_at hl 0 rfl) ?_
      refine W.widen (k := 2) (n := 12) (by omega) (by omega) ?_
      have hr9 := Option.some.inj hf
      subst hr9
      exact x_i hx hb hr hlocks hH dX9_byWriter_74
    obtain ⟨o13, eo13, hq13f⟩ := ob hf
    have Lo13 : ∀ (n : Nat) (x8 : Int32) (x9 : Int32), iter (fun (v : Int32 × Int32) => f_X9_byWriter_b29 a0 p2 S3 v.1 v.2) n (x8, x9) = some o13 → ∀ (H : Heap) (locs : List Loc) (ls : Array Slot), HI D S S3 s H locs → lv_has ls 5 [(0, .ref a0), (2, .int p2), (3, .int x8), (4, .int x9)] → GX p l e (headSpec wsX9_byWriter rmX9_byWriter).room s m ([.ref a0, .int p1, .int p2] : List Value).toArray below meth c D S (mI r) H locs 1 6 2 12 (F0 m 29 ls []) := by
      intro n
      induction n with
      | zero => intro x8 x9 hi; cases hi
      | succ n ih13 =>
        intro x8 x9 hi H locs ls hH hl
        obtain ⟨q13_, hf, hq13⟩ := iter_s hi
        have hf : f_X9_byWriter_b29 a0 p2 S3 x8 x9 = some q13_ := hf
        unfold f_X9_byWriter_b29 at hf
        refine lv_iload hx hb dX9_byWriter_29 (lv_at hl 3 rfl) ?_
        refine lv_aload_n hx hb dX9_byWriter_31 rfl (lv_at hl 0 rfl) ?_
        obtain ⟨ek14, hf⟩ := oc hf
        obtain ⟨a15, e16, hf⟩ := ob hf
        refine r_getQ hx hb 12 hts (fun w h => List.mem_cons_of_mem _ (mwsX90 w h)) hown hH ek14 (by decide) rfl 5 (by decide) rfl (hts (.fieldLink RX9 63 "Housestyle" "found" "LHousestyle$Findings;") (List.mem_cons_of_mem _ gw_20_13)) (fun _ h9 => h9) dX9_byWriter_32 e16 ?_
        obtain ⟨ek17, hf⟩ := oc hf
        obtain ⟨r18, e19, hf⟩ := ob hf
        refine r_callVi (As := []) ⟨hx, hb, hml, hown, hts⟩ (c_X2_count l D S3 a15 r18 e19) (cwV 0 hts (gwV gw_26_13 gw_13_0 gw_13_1 gw_11_18 gw_10_20) rfl rfl rfl (by decide +kernel) ⟨Nat.le_of_ble_eq_true rfl, Nat.le_of_ble_eq_true rfl⟩) hH hNE 5 ek17 (by decide) rfl rfl rfl hl.1 rfl (Nat.le_of_ble_eq_true rfl) dX9_byWriter_35 ⟨(Nat.le_of_ble_eq_true rfl), (Nat.le_of_ble_eq_true rfl)⟩ (fun H locs hH => ?_)
        refine lv_icmp_ge (tgt := 73) hx hb dX9_byWriter_38 (by decide) (fun c20 => ?_) (fun c20 => ?_)
        · have hf := ip hf c20
          cases hf
          have hf9 := itR (K := (fun (v : Int32) => k11 v)) hq13 hq13f
          exact Xk11 x8 _ _ ls hH (lv_sub hl [2] rfl) hf9
        · have hf := iq hf c20
          refine lv_aload_n hx hb dX9_byWriter_41 rfl (lv_at hl 0 rfl) ?_
          obtain ⟨a21, e22, hf⟩ := ob hf
          refine r_getQ hx hb 12 hts (fun w h => List.mem_cons_of_mem _ (mwsX90 w h)) hown hH ek14 (by decide) rfl 1 (by decide) rfl (hts (.fieldLink RX9 21 "Housestyle" "text" "LHousestyle$Text;") (List.mem_cons_of_mem _ gw_20_0)) (fun _ h9 => h9) dX9_byWriter_42 e22 ?_
          obtain ⟨ek23, hf⟩ := oc hf
          obtain ⟨a24, e25, hf⟩ := ob hf
          refine r_getQN hx hb 10 hts (fun w h => List.mem_cons_of_mem _ (mwsX70 w h)) hown hH ek23 (by decide) rfl 1 (by decide) rfl (nf_9 hNE) (fun _ h9 => h9) dX9_byWriter_45 e25 ?_
          refine lv_aload_n hx hb dX9_byWriter_48 rfl (lv_at hl 0 rfl) ?_
          refine r_getQ hx hb 12 hts (fun w h => List.mem_cons_of_mem _ (mwsX90 w h)) hown hH ek14 (by decide) rfl 5 (by decide) rfl (hts (.fieldLink RX9 63 "Housestyle" "found" "LHousestyle$Findings;") (List.mem_cons_of_mem _ gw_20_13)) (fun _ h9 => h9) dX9_byWriter_49 e16 ?_
          refine lv_iload hx hb dX9_byWriter_52 (lv_at hl 3 rfl) ?_
          obtain ⟨r26, e27, hf⟩ := ob hf
          refine r_callVi (As := [.int x9]) ⟨hx, hb, hml, hown, hts⟩ (c_X2_fromOf l D S3 a15 x9 r26 e27) (cwV 1 hts (gwV gw_27_0 gw_13_3 gw_13_4 gw_11_18 gw_11_2) rfl rfl rfl (by decide +kernel) ⟨Nat.le_of_ble_eq_true rfl, Nat.le_of_ble_eq_true rfl⟩) hH hNE 5 ek17 (by decide) rfl rfl rfl hl.1 rfl (Nat.le_of_ble_eq_true rfl) dX9_byWriter_54 ⟨(Nat.le_of_ble_eq_true rfl), (Nat.le_of_ble_eq_true rfl)⟩ (fun H locs hH => ?_)
          obtain ⟨ek28, hf⟩ := oc hf
          obtain ⟨r29, e30, hf⟩ := ob hf
          refine r_callVi (As := [.int r26]) ⟨hx, hb, hml, hown, hts⟩ (c_X5_get l D S3 a24 r26 r29 e30) (cwV 1 hts (gwV gw_14_2 gw_2_13 gw_2_14 gw_1_5 gw_2_9) rfl rfl rfl (by decide +kernel) ⟨Nat.le_of_ble_eq_true rfl, Nat.le_of_ble_eq_true rfl⟩) hH hNE 8 ek28 (by decide) rfl rfl rfl hl.1 rfl (Nat.le_of_ble_eq_true rfl) dX9_byWriter_57 ⟨(Nat.le_of_ble_eq_true rfl), (Nat.le_of_ble_eq_true rfl)⟩ (fun H locs hH => ?_)
          refine lv_iload_n hx hb dX9_byWriter_60 rfl (lv_at hl 1 rfl) ?_
          obtain ⟨j32, e35, hf⟩ := ol hf
          have Jj32 : ∀ (x31 : Int32) (H : Heap) (locs : List Loc) (ls : Array Slot), HI D S S3 s H locs → lv_has ls 5 [(0, .ref a0), (2, .int p2), (3, .int x31), (4, .int x9)] → j32 x31 = some q13_ → GX p l e (headSpec wsX9_byWriter rmX9_byWriter).room s m ([.ref a0, .int p1, .int p2] : List Value).toArray below meth c D S (mI r) H locs 1 6 2 12 (F0 m 67 ls []) := by
            intro x31 H locs ls hH hl hf
            rw [← e35] at hf
            obtain ⟨x33, e34, hf⟩ := ol hf
            refine lv_iinc (v := x33) (lv' := [(4, .int x33), (0, .ref a0), (2, .int p2), (3, .int x31)]) hx hb dX9_byWriter_67 hl (k := 3) rfl (by rw [← e34]; rfl) (by decide) rfl (fun ls hl => ?_)
            refine lv_goto (tgt := 29) hx hb dX9_byWriter_70 (by decide) ?_
            cases hf
            exact ih13 x31 x33 hq13 _ _ ls hH (lv_sub hl [1, 2, 3, 0] rfl)
          refine lv_icmp_ne (tgt := 67) hx hb dX9_byWriter_61 (by decide) (fun c36 => ?_) (fun c36 => ?_)
          · have hf := iq hf c36
            exact Jj32 x8 _ _ ls hH (lv_sub hl [0, 1, 2, 3] rfl) hf
          · have hf := ip hf c36
            obtain ⟨x37, e38, hf⟩ := ol hf
            refine lv_iinc (v := x37) (lv' := [(3, .int x37), (0, .ref a0), (2, .int p2), (4, .int x9)]) hx hb dX9_byWriter_64 hl (k := 2) rfl (by rw [← e38]; rfl) (by decide) rfl (fun ls hl => ?_)
            exact Jj32 x37 _ _ ls hH (lv_sub hl [1, 2, 0, 3] rfl) hf
    exact Lo13 kF 0 0 eo13 _ _ ls hH (lv_sub hl [2, 4, 1, 0] rfl)
  · have hf := ip hf c7
    cases hf
    exact r_throwW (text := "no such writer") (cls := "java/lang/IllegalArgumentException") (names := ["java/lang/RuntimeException", "java/lang/Exception"]) 1 hx hb hst9 hown xf0 xn (hts (.classLink RX9 82 "java/lang/IllegalArgumentException") (List.mem_cons_of_mem _ gw_21_9)) (hts (.initialized "java/lang/IllegalArgumentException") (List.mem_cons_of_mem _ gw_21_10)) (List.mem_of_getElem? (i := 18) rfl) (xa0 hts hE) xg0 hE hB hH (hl.1.trans hml.symm) rfl dX9_byWriter_13 dX9_byWriter_16 dX9_byWriter_17 dX9_byWriter_20 dX9_byWriter_23 hxt (Nat.le_of_ble_eq_true rfl) (Nat.le_of_ble_eq_true rfl) (Nat.le_of_ble_eq_true rfl) (Nat.le_of_ble_eq_true rfl) hlocks ⟨Nat.le_of_ble_eq_true rfl, Nat.le_of_ble_eq_true rfl⟩
set_option maxRecDepth 100000 in
def f_X9_checksum_b53 (a0 : Nat) (S3 : PS) (y10 : Int64) (x11 : Int32) : Option ((Int64 × Int32) ⊕ ((Int64))) := if kK S3 a0 = 13 then ((kQ S3 a0 5).bind fun a17 => if kK S3 a17 = 6 then ((f_X2_count S3 a17).bind fun r20 => if r20 ≤ x11 then (some (.inr y10)) else ((f_X2_fromOf S3 a17 x11).bind fun r23 => lt ((31 * y10) + (r23.toInt64)) fun y25 => (f_X2_ruleOf S3 a17 x11).bind fun r27 => lt ((31 * y25) + (r27.toInt64)) fun y29 => lt (x11 + 1) fun x31 => some (.inl (y29, x31)))) else none) else none
set_option maxRecDepth 100000 in
def f_X9_checksum_b12 (a0 : Nat) (S3 : PS) (y5 : Int64) (x6 : Int32) : Option ((Int64 × Int32) ⊕ ((Int64))) := if kK S3 a0 = 13 then ((kQ S3 a0 1).bind fun a35 => if kK S3 a35 = 11 then ((kQ S3 a35 0).bind fun a38 => if kK S3 a38 = 9 then ((f_X5_count S3 a38).bind fun r41 => if r41 ≤ x6 then (some (.inr y5)) else ((f_X5_get S3 a38 x6).bind fun r44 => lt ((31 * y5) + (r44.toInt64)) fun y46 => lt (x6 + 1) fun x48 => some (.inl (y46, x48)))) else none) else none) else none
set_option maxRecDepth 100000 in
def f_X9_checksum (S : PS) (a0 : Nat) : Option (PS × Int64) := if kK S a0 = 13 then (bn2 (f_X9_findFor S a0 0) fun S3 a4 => lt (fun (y7 : Int64) => lt (fun (y12 : Int64) => some (S3, y12)) fun k13 => (iter (fun (v : Int64 × Int32) => f_X9_checksum_b53 a0 S3 v.1 v.2) kF (y7, 0)).bind (fun (v : Int64) => k13 v)) fun k8 => (iter (fun (v : Int64 × Int32) => f_X9_checksum_b12 a0 S3 v.1 v.2) kF (7, 0)).bind (fun (v : Int64) => k8 v)) else none
abbrev rmX9_checksum : Room := { frames := 8, cells := 1, slots := 6, locals := 178 }
set_option maxHeartbeats 4000000 in
set_option maxRecDepth 100000 in
theorem c_X9_checksum (l : Launch) (hst9 : l.stackTraces = false) (D : va_G × Nat) (S : PS) (a0 : Nat) (r : PS × Int64) (hf : f_X9_checksum S a0 = some r) : MLE l D yX9_checksum wsX9_checksum rmX9_checksum S [.ref a0] r.1 r.2 1 6 := by
  unfold f_X9_checksum at hf
  refine Met.ofW (cc := cX9_checksum) (maxL := 4) (ret := (some .long)) (by decide) rfl ?_
  intro p e s m args below meth c s₁ B hml hv
  obtain ⟨rfl, hH0, hE, hNE⟩ := hv
  have hB := hH0.base
  have hx := B.exec
  have hb := B.bytes
  have hr := B.returns
  have hts := atoms_spec (ws := wsX9_checksum) B.pre
  have hown : s.vm.findClass RX9 = some m.cls := findClass_of_methodNamed B.named
  have hlocks := B.notSynchronized
  have hH : HI D S S s s.heap [] := HI.start hH0
  have hl := lv_entry ([.ref a0]) (n := 4) (Nat.le_of_ble_eq_true rfl)
  rw [lg_entry_eq]
  generalize (lg_sl ([.ref a0]) ++ List.replicate (4 - (lg_sl ([.ref a0])).length) Slot.unset).toArray = ls at hl ⊢
  have hl : lv_has ls 4 [(0, .ref a0)] := hl
  refine lv_aload_n hx hb dX9_checksum_0 rfl (lv_at hl 0 rfl) ?_
  refine lv_iconst (v := 0) hx hb dX9_checksum_1 (by decide) ?_
  obtain ⟨ek1, hf⟩ := oc hf
  obtain ⟨S3, a4, e2, hf⟩ := obn2 hf
  refine r_xVok (As := [.int 0]) (S' := S3) (v := (some (.ref a4))) (st1 := [.ref a4]) ⟨hx, hb, hml, hown, hts⟩ (c_X9_findFor l hst9 D S a0 0 (.inl (S3, a4)) e2) (cwV 1 hts (gwV gw_26_10 gw_26_11 gw_26_12 gw_14_5 gw_25_23) rfl rfl rfl (by decide +kernel) ⟨Nat.le_of_ble_eq_true rfl, Nat.le_of_ble_eq_true rfl⟩) hH hE hB hNE 12 ek1 (by decide) rfl rfl rfl hl.1 rfl (Nat.le_of_ble_eq_true rfl) dX9_checksum_2 ⟨(Nat.le_of_ble_eq_true rfl), (Nat.le_of_ble_eq_true rfl)⟩ rfl (fun H locs hH => ?_)
  refine W.widen (k := 1) (n := 6) (by omega) (by omega) ?_
  refine lv_pop hx hb dX9_checksum_5 rfl ?_
  refine lv_ldc2 hx hb hown (hts (.constantLong RX9 309 (7)) (List.mem_cons_of_mem _ gw_28_15)) dX9_checksum_6 ?_
  refine lv_lstore_n (lv' := [(1, .long 7), (0, .ref a0)]) hx hb dX9_checksum_9 rfl hl (by decide) rfl (fun ls hl => ?_)
  refine lv_iconst (v := 0) hx hb dX9_checksum_10 (by decide) ?_
  refine lv_istore_n (lv' := [(3, .int 0), (1, .long 7), (0, .ref a0)]) hx hb dX9_checksum_11 rfl hl (by decide) rfl (fun ls hl => ?_)
  obtain ⟨k8, e9, hf⟩ := ol hf
  have Xk8 : ∀ (y7 : Int64) (H : Heap) (locs : List Loc) (ls : Array Slot), HI D S S3 s H locs → lv_has ls 4 [(0, .ref a0), (1, .long y7)] → k8 y7 = some r → GL p l e (headSpec wsX9_checksum rmX9_checksum).room s m ([.ref a0] : List Value).toArray below meth c D S r.1 r.2 H locs 1 6 1 6 (F0 m 51 ls []) := by
    intro y7 H locs ls hH hl hf
    rw [← e9] at hf
    refine lv_iconst (v := 0) hx hb dX9_checksum_51 (by decide) ?_
    refine lv_istore_n (lv' := [(3, .int 0), (0, .ref a0), (1, .long y7)]) hx hb dX9_checksum_52 rfl hl (by decide) rfl (fun ls hl => ?_)
    obtain ⟨k13, e14, hf⟩ := ol hf
    have Xk13 : ∀ (y12 : Int64) (H : Heap) (locs : List Loc) (ls : Array Slot), HI D S S3 s H locs → lv_has ls 4 [(1, .long y12)] → k13 y12 = some r → GL p l e (headSpec wsX9_checksum rmX9_checksum).room s m ([.ref a0] : List Value).toArray below meth c D S r.1 r.2 H locs 1 6 1 6 (F0 m 102 ls []) := by
      intro y12 H locs ls hH hl hf
      rw [← e14] at hf
      refine lv_lload_n hx hb dX9_checksum_102 rfl (lv_at hl 0 rfl) ?_
      have hr9 := Option.some.inj hf
      subst hr9
      exact e_l hx hb hr hlocks hH dX9_checksum_103
    obtain ⟨o15, eo15, hq15f⟩ := ob hf
    have Lo15 : ∀ (n : Nat) (y10 : Int64) (x11 : Int32), iter (fun (v : Int64 × Int32) => f_X9_checksum_b53 a0 S3 v.1 v.2) n (y10, x11) = some o15 → ∀ (H : Heap) (locs : List Loc) (ls : Array Slot), HI D S S3 s H locs → lv_has ls 4 [(0, .ref a0), (1, .long y10), (3, .int x11)] → GL p l e (headSpec wsX9_checksum rmX9_checksum).room s m ([.ref a0] : List Value).toArray below meth c D S r.1 r.2 H locs 1 6 1 6 (F0 m 53 ls []) := by
      intro n
      induction n with
      | zero => intro y10 x11 hi; cases hi
      | succ n ih15 =>
        intro y10 x11 hi H locs ls hH hl
        obtain ⟨q15_, hf, hq15⟩ := iter_s hi
        have hf : f_X9_checksum_b53 a0 S3 y10 x11 = some q15_ := hf
        unfold f_X9_checksum_b53 at hf
        refine lv_iload_n hx hb dX9_checksum_53 rfl (lv_at hl 2 rfl) ?_
        refine lv_aload_n hx hb dX9_checksum_54 rfl (lv_at hl 0 rfl) ?_
        obtain ⟨ek16, hf⟩ := oc hf
        obtain ⟨a17, e18, hf⟩ := ob hf
        refine r_getQ hx hb 12 hts (fun w h => List.mem_cons_of_mem _ (mwsX90 w h)) hown hH ek16 (by decide) rfl 5 (by decide) rfl (hts (.fieldLink RX9 63 "Housestyle" "found" "LHousestyle$Findings;") (List.mem_cons_of_mem _ gw_20_13)) (fun _ h9 => h9) dX9_checksum_55 e18 ?_
        obtain ⟨ek19, hf⟩ := oc hf
        obtain ⟨r20, e21, hf⟩ := ob hf
        refine r_callVi (As := []) ⟨hx, hb, hml, hown, hts⟩ (c_X2_count l D S3 a17 r20 e21) (cwV 0 hts (gwV gw_26_13 gw_13_0 gw_13_1 gw_11_18 gw_10_20) rfl rfl rfl (by decide +kernel) ⟨Nat.le_of_ble_eq_true rfl, Nat.le_of_ble_eq_true rfl⟩) hH hNE 5 ek19 (by decide) rfl rfl rfl hl.1 rfl (Nat.le_of_ble_eq_true rfl) dX9_checksum_58 ⟨(Nat.le_of_ble_eq_true rfl), (Nat.le_of_ble_eq_true rfl)⟩ (fun H locs hH => ?_)
        refine lv_icmp_ge (tgt := 102) hx hb dX9_checksum_61 (by decide) (fun c22 => ?_) (fun c22 => ?_)
        · have hf := ip hf c22
          cases hf
          have hf9 := itR (K := (fun (v : Int64) => k13 v)) hq15 hq15f
          exact Xk13 y10 _ _ ls hH (lv_sub hl [1] rfl) hf9
        · have hf := iq hf c22
          refine lv_ldc2 hx hb hown (hts (.constantLong RX9 311 (31)) (List.mem_cons_of_mem _ gw_28_16)) dX9_checksum_64 ?_
          refine lv_lload_n hx hb dX9_checksum_67 rfl (lv_at hl 1 rfl) ?_
          refine lv_lmul hx hb dX9_checksum_68 ?_
          refine lv_aload_n hx hb dX9_checksum_69 rfl (lv_at hl 0 rfl) ?_
          refine r_getQ hx hb 12 hts (fun w h => List.mem_cons_of_mem _ (mwsX90 w h)) hown hH ek16 (by decide) rfl 5 (by decide) rfl (hts (.fieldLink RX9 63 "Housestyle" "found" "LHousestyle$Findings;") (List.mem_cons_of_mem _ gw_20_13)) (fun _ h9 => h9) dX9_checksum_70 e18 ?_
          refine lv_iload_n hx hb dX9_checksum_73 rfl (lv_at hl 2 rfl) ?_
          obtain ⟨r23, e24, hf⟩ := ob hf
          refine r_callVi (As := [.int x11]) ⟨hx, hb, hml, hown, hts⟩ (c_X2_fromOf l D S3 a17 x11 r23 e24) (cwV 1 hts (gwV gw_27_0 gw_13_3 gw_13_4 gw_11_18 gw_11_2) rfl rfl rfl (by decide +kernel) ⟨Nat.le_of_ble_eq_true rfl, Nat.le_of_ble_eq_true rfl⟩) hH hNE 5 ek19 (by decide) rfl rfl rfl hl.1 rfl (Nat.le_of_ble_eq_true rfl) dX9_checksum_74 ⟨(Nat.le_of_ble_eq_true rfl), (Nat.le_of_ble_eq_true rfl)⟩ (fun H locs hH => ?_)
          refine lv_i2l hx hb dX9_checksum_77 rfl ?_
          refine lv_ladd hx hb dX9_checksum_78 ?_
          obtain ⟨y25, e26, hf⟩ := ol hf
          refine lv_topEl e26 ?_
          refine lv_lstore_n (lv' := [(1, .long y25), (0, .ref a0), (3, .int x11)]) hx hb dX9_checksum_79 rfl hl (by decide) rfl (fun ls hl => ?_)
          refine lv_ldc2 hx hb hown (hts (.constantLong RX9 311 (31)) (List.mem_cons_of_mem _ gw_28_16)) dX9_checksum_80 ?_
          refine lv_lload_n hx hb dX9_checksum_83 rfl (lv_at hl 0 rfl) ?_
          refine lv_lmul hx hb dX9_checksum_84 ?_
          refine lv_aload_n hx hb dX9_checksum_85 rfl (lv_at hl 1 rfl) ?_
          refine r_getQ hx hb 12 hts (fun w h => List.mem_cons_of_mem _ (mwsX90 w h)) hown hH ek16 (by decide) rfl 5 (by decide) rfl (hts (.fieldLink RX9 63 "Housestyle" "found" "LHousestyle$Findings;") (List.mem_cons_of_mem _ gw_20_13)) (fun _ h9 => h9) dX9_checksum_86 e18 ?_
          refine lv_iload_n hx hb dX9_checksum_89 rfl (lv_at hl 2 rfl) ?_
          obtain ⟨r27, e28, hf⟩ := ob hf
          refine r_callVi (As := [.int x11]) ⟨hx, hb, hml, hown, hts⟩ (c_X2_ruleOf l D S3 a17 x11 r27 e28) (cwV 1 hts (gwV gw_26_21 gw_26_22 gw_26_23 gw_11_18 gw_11_0) rfl rfl rfl (by decide +kernel) ⟨Nat.le_of_ble_eq_true rfl, Nat.le_of_ble_eq_true rfl⟩) hH hNE 5 ek19 (by decide) rfl rfl rfl hl.1 rfl (Nat.le_of_ble_eq_true rfl) dX9_checksum_90 ⟨(Nat.le_of_ble_eq_true rfl), (Nat.le_of_ble_eq_true rfl)⟩ (fun H locs hH => ?_)
          refine lv_i2l hx hb dX9_checksum_93 rfl ?_
          refine lv_ladd hx hb dX9_checksum_94 ?_
          obtain ⟨y29, e30, hf⟩ := ol hf
          refine lv_topEl e30 ?_
          refine lv_lstore_n (lv' := [(1, .long y29), (0, .ref a0), (3, .int x11)]) hx hb dX9_checksum_95 rfl hl (by decide) rfl (fun ls hl => ?_)
          obtain ⟨x31, e32, hf⟩ := ol hf
          refine lv_iinc (v := x31) (lv' := [(3, .int x31), (1, .long y29), (0, .ref a0)]) hx hb dX9_checksum_96 hl (k := 2) rfl (by rw [← e32]; rfl) (by decide) rfl (fun ls hl => ?_)
          refine lv_goto (tgt := 53) hx hb dX9_checksum_99 (by decide) ?_
          cases hf
          exact ih15 y29 x31 hq15 _ _ ls hH (lv_sub hl [2, 1, 0] rfl)
    exact Lo15 kF y7 0 eo15 _ _ ls hH (lv_sub hl [1, 2, 0] rfl)
  obtain ⟨o33, eo33, hq33f⟩ := ob hf
  have Lo33 : ∀ (n : Nat) (y5 : Int64) (x6 : Int32), iter (fun (v : Int64 × Int32) => f_X9_checksum_b12 a0 S3 v.1 v.2) n (y5, x6) = some o33 → ∀ (H : Heap) (locs : List Loc) (ls : Array Slot), HI D S S3 s H locs → lv_has ls 4 [(0, .ref a0), (1, .long y5), (3, .int x6)] → GL p l e (headSpec wsX9_checksum rmX9_checksum).room s m ([.ref a0] : List Value).toArray below meth c D S r.1 r.2 H locs 1 6 1 6 (F0 m 12 ls []) := by
    intro n
    induction n with
    | zero => intro y5 x6 hi; cases hi
    | succ n ih33 =>
      intro y5 x6 hi H locs ls hH hl
      obtain ⟨q33_, hf, hq33⟩ := iter_s hi
      have hf : f_X9_checksum_b12 a0 S3 y5 x6 = some q33_ := hf
      unfold f_X9_checksum_b12 at hf
      refine lv_iload_n hx hb dX9_checksum_12 rfl (lv_at hl 2 rfl) ?_
      refine lv_aload_n hx hb dX9_checksum_13 rfl (lv_at hl 0 rfl) ?_
      obtain ⟨ek34, hf⟩ := oc hf
      obtain ⟨a35, e36, hf⟩ := ob hf
      refine r_getQ hx hb 12 hts (fun w h => List.mem_cons_of_mem _ (mwsX90 w h)) hown hH ek34 (by decide) rfl 1 (by decide) rfl (hts (.fieldLink RX9 21 "Housestyle" "text" "LHousestyle$Text;") (List.mem_cons_of_mem _ gw_20_0)) (fun _ h9 => h9) dX9_checksum_14 e36 ?_
      obtain ⟨ek37, hf⟩ := oc hf
      obtain ⟨a38, e39, hf⟩ := ob hf
      refine r_getQN hx hb 10 hts (fun w h => List.mem_cons_of_mem _ (mwsX70 w h)) hown hH ek37 (by decide) rfl 0 (by decide) rfl (nf_0 hNE) (fun _ h9 => h9) dX9_checksum_17 e39 ?_
      obtain ⟨ek40, hf⟩ := oc hf
      obtain ⟨r41, e42, hf⟩ := ob hf
      refine r_callVi (As := []) ⟨hx, hb, hml, hown, hts⟩ (c_X5_count l D S3 a38 r41 e42) (cwV 0 hts (gwV gw_21_15 gw_1_15 gw_1_16 gw_1_5 gw_1_11) rfl rfl rfl (by decide +kernel) ⟨Nat.le_of_ble_eq_true rfl, Nat.le_of_ble_eq_true rfl⟩) hH hNE 8 ek40 (by decide) rfl rfl rfl hl.1 rfl (Nat.le_of_ble_eq_true rfl) dX9_checksum_20 ⟨(Nat.le_of_ble_eq_true rfl), (Nat.le_of_ble_eq_true rfl)⟩ (fun H locs hH => ?_)
      refine lv_icmp_ge (tgt := 51) hx hb dX9_checksum_23 (by decide) (fun c43 => ?_) (fun c43 => ?_)
      · have hf := ip hf c43
        cases hf
        have hf9 := itR (K := (fun (v : Int64) => k8 v)) hq33 hq33f
        exact Xk8 y5 _ _ ls hH (lv_sub hl [0, 1] rfl) hf9
      · have hf := iq hf c43
        refine lv_ldc2 hx hb hown (hts (.constantLong RX9 311 (31)) (List.mem_cons_of_mem _ gw_28_16)) dX9_checksum_26 ?_
        refine lv_lload_n hx hb dX9_checksum_29 rfl (lv_at hl 1 rfl) ?_
        refine lv_lmul hx hb dX9_checksum_30 ?_
        refine lv_aload_n hx hb dX9_checksum_31 rfl (lv_at hl 0 rfl) ?_
        refine r_getQ hx hb 12 hts (fun w h => List.mem_cons_of_mem _ (mwsX90 w h)) hown hH ek34 (by decide) rfl 1 (by decide) rfl (hts (.fieldLink RX9 21 "Housestyle" "text" "LHousestyle$Text;") (List.mem_cons_of_mem _ gw_20_0)) (fun _ h9 => h9) dX9_checksum_32 e36 ?_
        refine r_getQN hx hb 10 hts (fun w h => List.mem_cons_of_mem _ (mwsX70 w h)) hown hH ek37 (by decide) rfl 0 (by decide) rfl (nf_0 hNE) (fun _ h9 => h9) dX9_checksum_35 e39 ?_
        refine lv_iload_n hx hb dX9_checksum_38 rfl (lv_at hl 2 rfl) ?_
        obtain ⟨r44, e45, hf⟩ := ob hf
        refine r_callVi (As := [.int x6]) ⟨hx, hb, hml, hown, hts⟩ (c_X5_get l D S3 a38 x6 r44 e45) (cwV 1 hts (gwV gw_14_2 gw_2_13 gw_2_14 gw_1_5 gw_2_9) rfl rfl rfl (by decide +kernel) ⟨Nat.le_of_ble_eq_true rfl, Nat.le_of_ble_eq_true rfl⟩) hH hNE 8 ek40 (by decide) rfl rfl rfl hl.1 rfl (Nat.le_of_ble_eq_true rfl) dX9_checksum_39 ⟨(Nat.le_of_ble_eq_true rfl), (Nat.le_of_ble_eq_true rfl)⟩ (fun H locs hH => ?_)
        refine lv_i2l hx hb dX9_checksum_42 rfl ?_
        refine lv_ladd hx hb dX9_checksum_43 ?_
        obtain ⟨y46, e47, hf⟩ := ol hf
        refine lv_topEl e47 ?_
        refine lv_lstore_n (lv' := [(1, .long y46), (0, .ref a0), (3, .int x6)]) hx hb dX9_checksum_44 rfl hl (by decide) rfl (fun ls hl => ?_)
        obtain ⟨x48, e49, hf⟩ := ol hf
        refine lv_iinc (v := x48) (lv' := [(3, .int x48), (1, .long y46), (0, .ref a0)]) hx hb dX9_checksum_45 hl (k := 2) rfl (by rw [← e49]; rfl) (by decide) rfl (fun ls hl => ?_)
        refine lv_goto (tgt := 12) hx hb dX9_checksum_48 (by decide) ?_
        cases hf
        exact ih33 y46 x48 hq33 _ _ ls hH (lv_sub hl [2, 1, 0] rfl)
  exact Lo33 kF 7 0 eo33 _ _ ls hH (lv_sub hl [2, 1, 0] rfl)
set_option maxRecDepth 100000 in
def f_X9_foundShare_b37 (a0 : Nat) (S3 : PS) (x15 : Int32) (x16 : Int32) : Option ((Int32 × Int32) ⊕ ((Int32))) := (kQ S3 a0 5).bind fun a22 => if kK S3 a22 = 6 then ((f_X2_count S3 a22).bind fun r25 => if r25 ≤ x16 then (some (.inr x15)) else ((f_X2_lengthOf S3 a22 x16).bind fun r28 => lt (x15 + r28) fun x30 => lt (x16 + 1) fun x32 => some (.inl (x30, x32)))) else none
set_option maxRecDepth 100000 in
def f_X9_foundShare (S : PS) (a0 : Nat) (p1 : Int32) : Option ((PS × UInt32) ⊕ (PS × Nat)) := if kK S a0 = 13 then (bx2 (f_X9_findFor S a0 p1) fun S3 a4 => if kK S3 a0 = 13 then ((kQ S3 a0 1).bind fun a6 => if kK S3 a6 = 11 then ((kQ S3 a6 0).bind fun a9 => if kK S3 a9 = 9 then ((f_X5_count S3 a9).bind fun r12 => if r12 = 0 then (some (.inr (S3, 6))) else (lt (fun (x17 : Int32) => if (FP.fdiv (FP.i2f x17) (FP.i2f r12)) &&& 0x7fffffff ≤ 0x7f800000 then (some (.inl (S3, (FP.fdiv (FP.i2f x17) (FP.i2f r12))))) else none) fun k18 => (iter (fun (v : Int32 × Int32) => f_X9_foundShare_b37 a0 S3 v.1 v.2) kF (0, 0)).bind (fun (v : Int32) => k18 v))) else none) else none) else none) else none
abbrev rmX9_foundShare : Room := { frames := 8, cells := 2, slots := 12, locals := 178 }
set_option maxHeartbeats 4000000 in
set_option maxRecDepth 100000 in
theorem c_X9_foundShare (l : Launch) (hst9 : l.stackTraces = false) (D : va_G × Nat) (S : PS) (a0 : Nat) (p1 : Int32) (r : (PS × UInt32) ⊕ (PS × Nat)) (hf : f_X9_foundShare S a0 p1 = some r) : XM l D yX9_foundShare wsX9_foundShare rmX9_foundShare S [.ref a0, .int p1] (mF r) 2 12 := by
  unfold f_X9_foundShare at hf
  refine vx_ofW (cc := cX9_foundShare) (maxL := 5) (ret := (some .float)) (by decide) rfl ?_
  intro p e s m args below meth c s₁ B hml hxt hv
  obtain ⟨rfl, hH0, hE, hNE⟩ := hv
  have hB := hH0.base
  have hx := B.exec
  have hb := B.bytes
  have hr := B.returns
  have hts := atoms_spec (ws := wsX9_foundShare) B.pre
  have hown : s.vm.findClass RX9 = some m.cls := findClass_of_methodNamed B.named
  have hlocks := B.notSynchronized
  have hH : HI D S S s s.heap [] := HI.start hH0
  have hl := lv_entry ([.ref a0, .int p1]) (n := 5) (Nat.le_of_ble_eq_true rfl)
  rw [lg_entry_eq]
  generalize (lg_sl ([.ref a0, .int p1]) ++ List.replicate (5 - (lg_sl ([.ref a0, .int p1])).length) Slot.unset).toArray = ls at hl ⊢
  have hl : lv_has ls 5 [(0, .ref a0), (1, .int p1)] := hl
  refine lv_aload_n hx hb dX9_foundShare_0 rfl (lv_at hl 0 rfl) ?_
  refine lv_iload_n hx hb dX9_foundShare_1 rfl (lv_at hl 1 rfl) ?_
  obtain ⟨ek1, hf⟩ := oc hf
  rcases obx2 hf with ⟨x4_, e2, rfl⟩ | ⟨S3, a4, e2, hf⟩
  · refine r_xVex (As := [.int p1]) ⟨hx, hb, hml, hown, hts⟩ (c_X9_findFor l hst9 D S a0 p1 (.inr x4_) e2) (cwV 1 hts (gwV gw_26_10 gw_26_11 gw_26_12 gw_14_5 gw_25_23) rfl rfl rfl (by decide +kernel) ⟨Nat.le_of_ble_eq_true rfl, Nat.le_of_ble_eq_true rfl⟩) hH hE hB hNE 12 ek1 (by decide) rfl rfl rfl hl.1 rfl (Nat.le_of_ble_eq_true rfl) dX9_foundShare_2 ⟨(Nat.le_of_ble_eq_true rfl), (Nat.le_of_ble_eq_true rfl)⟩ (fun z9 ce9 q9 H locs hH hk9 hz9 h91 h92 h93 => ?_)
    exact x_out hxt hlocks hH hk9 hz9 h91 h92 h93 ⟨Nat.le_of_ble_eq_true rfl, Nat.le_of_ble_eq_true rfl⟩
  refine r_xVok (As := [.int p1]) (S' := S3) (v := (some (.ref a4))) (st1 := [.ref a4]) ⟨hx, hb, hml, hown, hts⟩ (c_X9_findFor l hst9 D S a0 p1 (.inl (S3, a4)) e2) (cwV 1 hts (gwV gw_26_10 gw_26_11 gw_26_12 gw_14_5 gw_25_23) rfl rfl rfl (by decide +kernel) ⟨Nat.le_of_ble_eq_true rfl, Nat.le_of_ble_eq_true rfl⟩) hH hE hB hNE 12 ek1 (by decide) rfl rfl rfl hl.1 rfl (Nat.le_of_ble_eq_true rfl) dX9_foundShare_2 ⟨(Nat.le_of_ble_eq_true rfl), (Nat.le_of_ble_eq_true rfl)⟩ rfl (fun H locs hH => ?_)
  refine W.widen (k := 1) (n := 6) (by omega) (by omega) ?_
  refine lv_pop hx hb dX9_foundShare_5 rfl ?_
  refine lv_aload_n hx hb dX9_foundShare_6 rfl (lv_at hl 0 rfl) ?_
  obtain ⟨ek5, hf⟩ := oc hf
  obtain ⟨a6, e7, hf⟩ := ob hf
  refine r_getQ hx hb 12 hts (fun w h => List.mem_cons_of_mem _ (mwsX90 w h)) hown hH ek5 (by decide) rfl 1 (by decide) rfl (hts (.fieldLink RX9 21 "Housestyle" "text" "LHousestyle$Text;") (List.mem_cons_of_mem _ gw_20_0)) (fun _ h9 => h9) dX9_foundShare_7 e7 ?_
  obtain ⟨ek8, hf⟩ := oc hf
  obtain ⟨a9, e10, hf⟩ := ob hf
  refine r_getQN hx hb 10 hts (fun w h => List.mem_cons_of_mem _ (mwsX70 w h)) hown hH ek8 (by decide) rfl 0 (by decide) rfl (nf_0 hNE) (fun _ h9 => h9) dX9_foundShare_10 e10 ?_
  obtain ⟨ek11, hf⟩ := oc hf
  obtain ⟨r12, e13, hf⟩ := ob hf
  refine r_callVi (As := []) ⟨hx, hb, hml, hown, hts⟩ (c_X5_count l D S3 a9 r12 e13) (cwV 0 hts (gwV gw_21_15 gw_1_15 gw_1_16 gw_1_5 gw_1_11) rfl rfl rfl (by decide +kernel) ⟨Nat.le_of_ble_eq_true rfl, Nat.le_of_ble_eq_true rfl⟩) hH hNE 8 ek11 (by decide) rfl rfl rfl hl.1 rfl (Nat.le_of_ble_eq_true rfl) dX9_foundShare_13 ⟨(Nat.le_of_ble_eq_true rfl), (Nat.le_of_ble_eq_true rfl)⟩ (fun H locs hH => ?_)
  refine lv_istore_n (lv' := [(2, .int r12), (0, .ref a0), (1, .int p1)]) hx hb dX9_foundShare_16 rfl hl (by decide) rfl (fun ls hl => ?_)
  refine lv_iload_n hx hb dX9_foundShare_17 rfl (lv_at hl 0 rfl) ?_
  refine lv_if_ne (tgt := 32) hx hb dX9_foundShare_18 (by decide) (fun c14 => ?_) (fun c14 => ?_)
  · have hf := iq hf c14
    refine lv_iconst (v := 0) hx hb dX9_foundShare_32 (by decide) ?_
    refine lv_istore_n (lv' := [(3, .int 0), (2, .int r12), (0, .ref a0), (1, .int p1)]) hx hb dX9_foundShare_33 rfl hl (by decide) rfl (fun ls hl => ?_)
    refine lv_iconst (v := 0) hx hb dX9_foundShare_34 (by decide) ?_
    refine lv_istore (lv' := [(4, .int 0), (3, .int 0), (2, .int r12), (0, .ref a0), (1, .int p1)]) hx hb dX9_foundShare_35 hl (by decide) rfl (fun ls hl => ?_)
    obtain ⟨k18, e19, hf⟩ := ol hf
    have Xk18 : ∀ (x17 : Int32) (H : Heap) (locs : List Loc) (ls : Array Slot), HI D S S3 s H locs → lv_has ls 5 [(2, .int r12), (3, .int x17)] → k18 x17 = some r → GX p l e (headSpec wsX9_foundShare rmX9_foundShare).room s m ([.ref a0, .int p1] : List Value).toArray below meth c D S (mF r) H locs 1 6 2 12 (F0 m 67 ls []) := by
      intro x17 H locs ls hH hl hf
      rw [← e19] at hf
      refine lv_iload_n hx hb dX9_foundShare_67 rfl (lv_at hl 1 rfl) ?_
      refine lv_i2f hx hb dX9_foundShare_68 ?_
      refine lv_iload_n hx hb dX9_foundShare_69 rfl (lv_at hl 0 rfl) ?_
      refine lv_i2f hx hb dX9_foundShare_70 ?_
      obtain ⟨en20, hf⟩ := oc hf
      refine lv_fdiv hx hb dX9_foundShare_71 en20 ?_
      refine W.widen (k := 2) (n := 12) (by omega) (by omega) ?_
      have hr9 := Option.some.inj hf
      subst hr9
      exact x_f hx hb hr hlocks hH dX9_foundShare_72
    obtain ⟨o21, eo21, hq21f⟩ := ob hf
    have Lo21 : ∀ (n : Nat) (x15 : Int32) (x16 : Int32), iter (fun (v : Int32 × Int32) => f_X9_foundShare_b37 a0 S3 v.1 v.2) n (x15, x16) = some o21 → ∀ (H : Heap) (locs : List Loc) (ls : Array Slot), HI D S S3 s H locs → lv_has ls 5 [(0, .ref a0), (2, .int r12), (3, .int x15), (4, .int x16)] → GX p l e (headSpec wsX9_foundShare rmX9_foundShare).room s m ([.ref a0, .int p1] : List Value).toArray below meth c D S (mF r) H locs 1 6 2 12 (F0 m 37 ls []) := by
      intro n
      induction n with
      | zero => intro x15 x16 hi; cases hi
      | succ n ih21 =>
        intro x15 x16 hi H locs ls hH hl
        obtain ⟨q21_, hf, hq21⟩ := iter_s hi
        have hf : f_X9_foundShare_b37 a0 S3 x15 x16 = some q21_ := hf
        unfold f_X9_foundShare_b37 at hf
        refine lv_iload hx hb dX9_foundShare_37 (lv_at hl 3 rfl) ?_
        refine lv_aload_n hx hb dX9_foundShare_39 rfl (lv_at hl 0 rfl) ?_
        obtain ⟨a22, e23, hf⟩ := ob hf
        refine r_getQ hx hb 12 hts (fun w h => List.mem_cons_of_mem _ (mwsX90 w h)) hown hH ek5 (by decide) rfl 5 (by decide) rfl (hts (.fieldLink RX9 63 "Housestyle" "found" "LHousestyle$Findings;") (List.mem_cons_of_mem _ gw_20_13)) (fun _ h9 => h9) dX9_foundShare_40 e23 ?_
        obtain ⟨ek24, hf⟩ := oc hf
        obtain ⟨r25, e26, hf⟩ := ob hf
        refine r_callVi (As := []) ⟨hx, hb, hml, hown, hts⟩ (c_X2_count l D S3 a22 r25 e26) (cwV 0 hts (gwV gw_26_13 gw_13_0 gw_13_1 gw_11_18 gw_10_20) rfl rfl rfl (by decide +kernel) ⟨Nat.le_of_ble_eq_true rfl, Nat.le_of_ble_eq_true rfl⟩) hH hNE 5 ek24 (by decide) rfl rfl rfl hl.1 rfl (Nat.le_of_ble_eq_true rfl) dX9_foundShare_43 ⟨(Nat.le_of_ble_eq_true rfl), (Nat.le_of_ble_eq_true rfl)⟩ (fun H locs hH => ?_)
        refine lv_icmp_ge (tgt := 67) hx hb dX9_foundShare_46 (by decide) (fun c27 => ?_) (fun c27 => ?_)
        · have hf := ip hf c27
          cases hf
          have hf9 := itR (K := (fun (v : Int32) => k18 v)) hq21 hq21f
          exact Xk18 x15 _ _ ls hH (lv_sub hl [1, 2] rfl) hf9
        · have hf := iq hf c27
          refine lv_iload_n hx hb dX9_foundShare_49 rfl (lv_at hl 2 rfl) ?_
          refine lv_aload_n hx hb dX9_foundShare_50 rfl (lv_at hl 0 rfl) ?_
          refine r_getQ hx hb 12 hts (fun w h => List.mem_cons_of_mem _ (mwsX90 w h)) hown hH ek5 (by decide) rfl 5 (by decide) rfl (hts (.fieldLink RX9 63 "Housestyle" "found" "LHousestyle$Findings;") (List.mem_cons_of_mem _ gw_20_13)) (fun _ h9 => h9) dX9_foundShare_51 e23 ?_
          refine lv_iload hx hb dX9_foundShare_54 (lv_at hl 3 rfl) ?_
          obtain ⟨r28, e29, hf⟩ := ob hf
          refine r_callVi (As := [.int x16]) ⟨hx, hb, hml, hown, hts⟩ (c_X2_lengthOf l D S3 a22 x16 r28 e29) (cwV 1 hts (gwV gw_27_1 gw_13_6 gw_13_7 gw_11_18 gw_11_14) rfl rfl rfl (by decide +kernel) ⟨Nat.le_of_ble_eq_true rfl, Nat.le_of_ble_eq_true rfl⟩) hH hNE 5 ek24 (by decide) rfl rfl rfl hl.1 rfl (Nat.le_of_ble_eq_true rfl) dX9_foundShare_56 ⟨(Nat.le_of_ble_eq_true rfl), (Nat.le_of_ble_eq_true rfl)⟩ (fun H locs hH => ?_)
          refine lv_iadd hx hb dX9_foundShare_59 ?_
          obtain ⟨x30, e31, hf⟩ := ol hf
          refine lv_topE e31 ?_
          refine lv_istore_n (lv' := [(3, .int x30), (0, .ref a0), (2, .int r12), (4, .int x16)]) hx hb dX9_foundShare_60 rfl hl (by decide) rfl (fun ls hl => ?_)
          obtain ⟨x32, e33, hf⟩ := ol hf
          refine lv_iinc (v := x32) (lv' := [(4, .int x32), (3, .int x30), (0, .ref a0), (2, .int r12)]) hx hb dX9_foundShare_61 hl (k := 3) rfl (by rw [← e33]; rfl) (by decide) rfl (fun ls hl => ?_)
          refine lv_goto (tgt := 37) hx hb dX9_foundShare_64 (by decide) ?_
          cases hf
          exact ih21 x30 x32 hq21 _ _ ls hH (lv_sub hl [2, 3, 1, 0] rfl)
    exact Lo21 kF 0 0 eo21 _ _ ls hH (lv_sub hl [3, 2, 1, 0] rfl)
  · have hf := ip hf c14
    cases hf
    exact r_throwW (text := "there are none") (cls := "java/lang/ArithmeticException") (names := ["java/lang/RuntimeException", "java/lang/Exception"]) 6 hx hb hst9 hown xf5 xn (hts (.classLink RX9 313 "java/lang/ArithmeticException") (List.mem_cons_of_mem _ gw_28_18)) (hts (.initialized "java/lang/ArithmeticException") (List.mem_cons_of_mem _ gw_28_19)) (List.mem_of_getElem? (i := 22) rfl) (xa5 hts hE) xg5 hE hB hH (hl.1.trans hml.symm) rfl dX9_foundShare_21 dX9_foundShare_24 dX9_foundShare_25 dX9_foundShare_28 dX9_foundShare_31 hxt (Nat.le_of_ble_eq_true rfl) (Nat.le_of_ble_eq_true rfl) (Nat.le_of_ble_eq_true rfl) (Nat.le_of_ble_eq_true rfl) hlocks ⟨Nat.le_of_ble_eq_true rfl, Nat.le_of_ble_eq_true rfl⟩
set_option maxRecDepth 100000 in
def f_X9_meanWord_b13 (a0 : Nat) (r5 : PS) (x7 : Int32) (x8 : Int32) (x9 : Int32) : Option ((Int32 × Int32 × Int32) ⊕ ((Int32 × Int32))) := if kK r5 a0 = 13 then ((kQ r5 a0 2).bind fun a18 => if kK r5 a18 = 12 then ((f_X8_count r5 a18).bind fun r21 => if r21 ≤ x9 then (some (.inr (x7, x8))) else ((f_X8_isWord r5 a18 x9).bind fun r24 => lt (fun (x26 : Int32) (x27 : Int32) => lt (x9 + 1) fun x29 => some (.inl (x26, x27, x29))) fun j28 => if r24 = 0 then (j28 x7 x8) else ((f_X8_lengthOf r5 a18 x9).bind fun r33 => lt (x7 + r33) fun x35 => lt (x8 + 1) fun x37 => j28 x35 x37))) else none) else none
set_option maxRecDepth 100000 in
def f_X9_meanWord (S : PS) (a0 : Nat) : Option ((PS × UInt64) ⊕ (PS × Nat)) := if kK S a0 = 13 then ((kQ S a0 2).bind fun a2 => if kK S a2 = 12 then ((f_X8_read S a2).bind fun r5 => lt (fun (x10 : Int32) (x11 : Int32) => if x11 = 0 then (some (.inr (r5, 6))) else (if (FP.ddiv (FP.i2d x10) (FP.i2d x11)) &&& 0x7fffffffffffffff ≤ 0x7ff0000000000000 then (some (.inl (r5, (FP.ddiv (FP.i2d x10) (FP.i2d x11))))) else none)) fun k12 => (iter (fun (v : Int32 × Int32 × Int32) => f_X9_meanWord_b13 a0 r5 v.1 v.2.1 v.2.2) kF (0, 0, 0)).bind (fun (v : Int32 × Int32) => k12 v.1 v.2)) else none) else none
abbrev rmX9_meanWord : Room := { frames := 6, cells := 1, slots := 6, locals := 90 }
set_option maxHeartbeats 4000000 in
set_option maxRecDepth 100000 in
theorem c_X9_meanWord (l : Launch) (hst9 : l.stackTraces = false) (D : va_G × Nat) (S : PS) (a0 : Nat) (r : (PS × UInt64) ⊕ (PS × Nat)) (hf : f_X9_meanWord S a0 = some r) : XM l D yX9_meanWord wsX9_meanWord rmX9_meanWord S [.ref a0] (mD r) 1 6 := by
  unfold f_X9_meanWord at hf
  refine vx_ofW (cc := cX9_meanWord) (maxL := 4) (ret := (some .double)) (by decide) rfl ?_
  intro p e s m args below meth c s₁ B hml hxt hv
  obtain ⟨rfl, hH0, hE, hNE⟩ := hv
  have hB := hH0.base
  have hx := B.exec
  have hb := B.bytes
  have hr := B.returns
  have hts := atoms_spec (ws := wsX9_meanWord) B.pre
  have hown : s.vm.findClass RX9 = some m.cls := findClass_of_methodNamed B.named
  have hlocks := B.notSynchronized
  have hH : HI D S S s s.heap [] := HI.start hH0
  have hl := lv_entry ([.ref a0]) (n := 4) (Nat.le_of_ble_eq_true rfl)
  rw [lg_entry_eq]
  generalize (lg_sl ([.ref a0]) ++ List.replicate (4 - (lg_sl ([.ref a0])).length) Slot.unset).toArray = ls at hl ⊢
  have hl : lv_has ls 4 [(0, .ref a0)] := hl
  refine lv_aload_n hx hb dX9_meanWord_0 rfl (lv_at hl 0 rfl) ?_
  obtain ⟨ek1, hf⟩ := oc hf
  obtain ⟨a2, e3, hf⟩ := ob hf
  refine r_getQ hx hb 12 hts (fun w h => List.mem_cons_of_mem _ (mwsX90 w h)) hown hH ek1 (by decide) rfl 2 (by decide) rfl (hts (.fieldLink RX9 33 "Housestyle" "tokens" "LHousestyle$Tokens;") (List.mem_cons_of_mem _ gw_20_3)) (fun _ h9 => h9) dX9_meanWord_1 e3 ?_
  obtain ⟨ek4, hf⟩ := oc hf
  obtain ⟨r5, e6, hf⟩ := ob hf
  refine r_callVv (As := []) ⟨hx, hb, hml, hown, hts⟩ (c_X8_read l D S a2 r5 e6) (cwV 0 hts (gwV gw_26_0 gw_26_1 gw_26_2 gw_2_23 gw_19_3) rfl rfl rfl (by decide +kernel) ⟨Nat.le_of_ble_eq_true rfl, Nat.le_of_ble_eq_true rfl⟩) hH hNE 11 ek4 (by decide) rfl rfl rfl hl.1 rfl (Nat.le_of_ble_eq_true rfl) dX9_meanWord_4 ⟨(Nat.le_of_ble_eq_true rfl), (Nat.le_of_ble_eq_true rfl)⟩ (fun H locs hH => ?_)
  refine lv_iconst (v := 0) hx hb dX9_meanWord_7 (by decide) ?_
  refine lv_istore_n (lv' := [(1, .int 0), (0, .ref a0)]) hx hb dX9_meanWord_8 rfl hl (by decide) rfl (fun ls hl => ?_)
  refine lv_iconst (v := 0) hx hb dX9_meanWord_9 (by decide) ?_
  refine lv_istore_n (lv' := [(2, .int 0), (1, .int 0), (0, .ref a0)]) hx hb dX9_meanWord_10 rfl hl (by decide) rfl (fun ls hl => ?_)
  refine lv_iconst (v := 0) hx hb dX9_meanWord_11 (by decide) ?_
  refine lv_istore_n (lv' := [(3, .int 0), (2, .int 0), (1, .int 0), (0, .ref a0)]) hx hb dX9_meanWord_12 rfl hl (by decide) rfl (fun ls hl => ?_)
  obtain ⟨k12, e13, hf⟩ := ol hf
  have Xk12 : ∀ (x10 : Int32) (x11 : Int32) (H : Heap) (locs : List Loc) (ls : Array Slot), HI D S r5 s H locs → lv_has ls 4 [(1, .int x10), (2, .int x11)] → k12 x10 x11 = some r → GX p l e (headSpec wsX9_meanWord rmX9_meanWord).room s m ([.ref a0] : List Value).toArray below meth c D S (mD r) H locs 0 0 1 6 (F0 m 55 ls []) := by
    intro x10 x11 H locs ls hH hl hf
    rw [← e13] at hf
    refine lv_iload_n hx hb dX9_meanWord_55 rfl (lv_at hl 1 rfl) ?_
    refine lv_if_ne (tgt := 70) hx hb dX9_meanWord_56 (by decide) (fun c14 => ?_) (fun c14 => ?_)
    · have hf := iq hf c14
      refine lv_iload_n hx hb dX9_meanWord_70 rfl (lv_at hl 0 rfl) ?_
      refine lv_i2d hx hb dX9_meanWord_71 ?_
      refine lv_iload_n hx hb dX9_meanWord_72 rfl (lv_at hl 1 rfl) ?_
      refine lv_i2d hx hb dX9_meanWord_73 ?_
      obtain ⟨en15, hf⟩ := oc hf
      refine lv_ddiv hx hb dX9_meanWord_74 en15 ?_
      refine W.widen (k := 1) (n := 6) (by omega) (by omega) ?_
      have hr9 := Option.some.inj hf
      subst hr9
      exact x_d hx hb hr hlocks hH dX9_meanWord_75
    · have hf := ip hf c14
      cases hf
      exact r_throwW (text := "there are none") (cls := "java/lang/ArithmeticException") (names := ["java/lang/RuntimeException", "java/lang/Exception"]) 6 hx hb hst9 hown xf5 xn (hts (.classLink RX9 313 "java/lang/ArithmeticException") (List.mem_cons_of_mem _ gw_28_18)) (hts (.initialized "java/lang/ArithmeticException") (List.mem_cons_of_mem _ gw_28_19)) (List.mem_of_getElem? (i := 22) rfl) (xa5 hts hE) xg5 hE hB hH (hl.1.trans hml.symm) rfl dX9_meanWord_59 dX9_meanWord_62 dX9_meanWord_63 dX9_meanWord_66 dX9_meanWord_69 hxt (Nat.le_of_ble_eq_true rfl) (Nat.le_of_ble_eq_true rfl) (Nat.le_of_ble_eq_true rfl) (Nat.le_of_ble_eq_true rfl) hlocks ⟨Nat.le_of_ble_eq_true rfl, Nat.le_of_ble_eq_true rfl⟩
  obtain ⟨o16, eo16, hq16f⟩ := ob hf
  have Lo16 : ∀ (n : Nat) (x7 : Int32) (x8 : Int32) (x9 : Int32), iter (fun (v : Int32 × Int32 × Int32) => f_X9_meanWord_b13 a0 r5 v.1 v.2.1 v.2.2) n (x7, x8, x9) = some o16 → ∀ (H : Heap) (locs : List Loc) (ls : Array Slot), HI D S r5 s H locs → lv_has ls 4 [(0, .ref a0), (1, .int x7), (2, .int x8), (3, .int x9)] → GX p l e (headSpec wsX9_meanWord rmX9_meanWord).room s m ([.ref a0] : List Value).toArray below meth c D S (mD r) H locs 0 0 1 6 (F0 m 13 ls []) := by
    intro n
    induction n with
    | zero => intro x7 x8 x9 hi; cases hi
    | succ n ih16 =>
      intro x7 x8 x9 hi H locs ls hH hl
      obtain ⟨q16_, hf, hq16⟩ := iter_s hi
      have hf : f_X9_meanWord_b13 a0 r5 x7 x8 x9 = some q16_ := hf
      unfold f_X9_meanWord_b13 at hf
      refine lv_iload_n hx hb dX9_meanWord_13 rfl (lv_at hl 3 rfl) ?_
      refine lv_aload_n hx hb dX9_meanWord_14 rfl (lv_at hl 0 rfl) ?_
      obtain ⟨ek17, hf⟩ := oc hf
      obtain ⟨a18, e19, hf⟩ := ob hf
      refine r_getQ hx hb 12 hts (fun w h => List.mem_cons_of_mem _ (mwsX90 w h)) hown hH ek17 (by decide) rfl 2 (by decide) rfl (hts (.fieldLink RX9 33 "Housestyle" "tokens" "LHousestyle$Tokens;") (List.mem_cons_of_mem _ gw_20_3)) (fun _ h9 => h9) dX9_meanWord_15 e19 ?_
      obtain ⟨ek20, hf⟩ := oc hf
      obtain ⟨r21, e22, hf⟩ := ob hf
      refine r_callVi (As := []) ⟨hx, hb, hml, hown, hts⟩ (c_X8_count l D r5 a18 r21 e22) (cwV 0 hts (gwV gw_28_5 gw_2_21 gw_2_22 gw_2_23 gw_1_12) rfl rfl rfl (by decide +kernel) ⟨Nat.le_of_ble_eq_true rfl, Nat.le_of_ble_eq_true rfl⟩) hH hNE 11 ek20 (by decide) rfl rfl rfl hl.1 rfl (Nat.le_of_ble_eq_true rfl) dX9_meanWord_18 ⟨(Nat.le_of_ble_eq_true rfl), (Nat.le_of_ble_eq_true rfl)⟩ (fun H locs hH => ?_)
      refine lv_icmp_ge (tgt := 55) hx hb dX9_meanWord_21 (by decide) (fun c23 => ?_) (fun c23 => ?_)
      · have hf := ip hf c23
        cases hf
        have hf9 := itR (K := (fun (v : Int32 × Int32) => k12 v.1 v.2)) hq16 hq16f
        exact Xk12 x7 x8 _ _ ls hH (lv_sub hl [1, 2] rfl) hf9
      · have hf := iq hf c23
        refine lv_aload_n hx hb dX9_meanWord_24 rfl (lv_at hl 0 rfl) ?_
        refine r_getQ hx hb 12 hts (fun w h => List.mem_cons_of_mem _ (mwsX90 w h)) hown hH ek17 (by decide) rfl 2 (by decide) rfl (hts (.fieldLink RX9 33 "Housestyle" "tokens" "LHousestyle$Tokens;") (List.mem_cons_of_mem _ gw_20_3)) (fun _ h9 => h9) dX9_meanWord_25 e19 ?_
        refine lv_iload_n hx hb dX9_meanWord_28 rfl (lv_at hl 3 rfl) ?_
        obtain ⟨r24, e25, hf⟩ := ob hf
        refine r_callVi (As := [.int x9]) ⟨hx, hb, hml, hown, hts⟩ (c_X8_isWord l D r5 a18 x9 r24 e25) (cwV 1 hts (gwV gw_28_21 gw_3_13 gw_3_14 gw_2_23 gw_3_2) rfl rfl rfl (by decide +kernel) ⟨Nat.le_of_ble_eq_true rfl, Nat.le_of_ble_eq_true rfl⟩) hH hNE 11 ek20 (by decide) rfl rfl rfl hl.1 rfl (Nat.le_of_ble_eq_true rfl) dX9_meanWord_29 ⟨(Nat.le_of_ble_eq_true rfl), (Nat.le_of_ble_eq_true rfl)⟩ (fun H locs hH => ?_)
        obtain ⟨j28, e31, hf⟩ := ol hf
        have Jj28 : ∀ (x26 : Int32) (x27 : Int32) (H : Heap) (locs : List Loc) (ls : Array Slot), HI D S r5 s H locs → lv_has ls 4 [(0, .ref a0), (1, .int x26), (2, .int x27), (3, .int x9)] → j28 x26 x27 = some q16_ → GX p l e (headSpec wsX9_meanWord rmX9_meanWord).room s m ([.ref a0] : List Value).toArray below meth c D S (mD r) H locs 0 0 1 6 (F0 m 49 ls []) := by
          intro x26 x27 H locs ls hH hl hf
          rw [← e31] at hf
          obtain ⟨x29, e30, hf⟩ := ol hf
          refine lv_iinc (v := x29) (lv' := [(3, .int x29), (0, .ref a0), (1, .int x26), (2, .int x27)]) hx hb dX9_meanWord_49 hl (k := 3) rfl (by rw [← e30]; rfl) (by decide) rfl (fun ls hl => ?_)
          refine lv_goto (tgt := 13) hx hb dX9_meanWord_52 (by decide) ?_
          cases hf
          exact ih16 x26 x27 x29 hq16 _ _ ls hH (lv_sub hl [1, 2, 3, 0] rfl)
        refine lv_if_eq (tgt := 49) hx hb dX9_meanWord_32 (by decide) (fun c32 => ?_) (fun c32 => ?_)
        · have hf := ip hf c32
          exact Jj28 x7 x8 _ _ ls hH (lv_sub hl [0, 1, 2, 3] rfl) hf
        · have hf := iq hf c32
          refine lv_iload_n hx hb dX9_meanWord_35 rfl (lv_at hl 1 rfl) ?_
          refine lv_aload_n hx hb dX9_meanWord_36 rfl (lv_at hl 0 rfl) ?_
          refine r_getQ hx hb 12 hts (fun w h => List.mem_cons_of_mem _ (mwsX90 w h)) hown hH ek17 (by decide) rfl 2 (by decide) rfl (hts (.fieldLink RX9 33 "Housestyle" "tokens" "LHousestyle$Tokens;") (List.mem_cons_of_mem _ gw_20_3)) (fun _ h9 => h9) dX9_meanWord_37 e19 ?_
          refine lv_iload_n hx hb dX9_meanWord_40 rfl (lv_at hl 3 rfl) ?_
          obtain ⟨r33, e34, hf⟩ := ob hf
          refine r_callVi (As := [.int x9]) ⟨hx, hb, hml, hown, hts⟩ (c_X8_lengthOf l D r5 a18 x9 r33 e34) (cwV 1 hts (gwV gw_28_22 gw_3_19 gw_3_20 gw_2_23 gw_3_4) rfl rfl rfl (by decide +kernel) ⟨Nat.le_of_ble_eq_true rfl, Nat.le_of_ble_eq_true rfl⟩) hH hNE 11 ek20 (by decide) rfl rfl rfl hl.1 rfl (Nat.le_of_ble_eq_true rfl) dX9_meanWord_41 ⟨(Nat.le_of_ble_eq_true rfl), (Nat.le_of_ble_eq_true rfl)⟩ (fun H locs hH => ?_)
          refine lv_iadd hx hb dX9_meanWord_44 ?_
          obtain ⟨x35, e36, hf⟩ := ol hf
          refine lv_topE e36 ?_
          refine lv_istore_n (lv' := [(1, .int x35), (0, .ref a0), (2, .int x8), (3, .int x9)]) hx hb dX9_meanWord_45 rfl hl (by decide) rfl (fun ls hl => ?_)
          obtain ⟨x37, e38, hf⟩ := ol hf
          refine lv_iinc (v := x37) (lv' := [(2, .int x37), (1, .int x35), (0, .ref a0), (3, .int x9)]) hx hb dX9_meanWord_46 hl (k := 2) rfl (by rw [← e38]; rfl) (by decide) rfl (fun ls hl => ?_)
          exact Jj28 x35 x37 _ _ ls hH (lv_sub hl [2, 1, 0, 3] rfl) hf
  exact Lo16 kF 0 0 0 eo16 _ _ ls hH (lv_sub hl [3, 2, 1, 0] rfl)
