set_option maxRecDepth 100000 in
def f_X7_init (S : PS) (a0 : Nat) : Option (PS) := lt (kZ S) fun a1 => lt (wN S 9 0) fun S3 => (f_X5_init S3 a1 160).bind fun r5 => if kK r5 a0 = 11 then (lt (wQ r5 a0 0 (some a1)) fun S8 => lt (kZ S8) fun a10 => lt (wN S8 9 0) fun S12 => (f_X5_init S12 a10 160).bind fun r14 => if kK r14 a0 = 11 then (lt (wQ r14 a0 1 (some a10)) fun S17 => lt (kZ S17) fun a19 => lt (wN S17 9 0) fun S21 => (f_X5_init S21 a19 161).bind fun r23 => if kK r23 a0 = 11 then (lt (wQ r23 a0 2 (some a19)) fun S26 => if kK S26 a0 = 11 then ((kQ S26 a0 2).bind fun a29 => if kK S26 a29 = 9 then ((f_X5_add S26 a29 15).bind fun r32 => some r32) else none) else none) else none) else none) else none
abbrev rmX7_init : Room := { frames := 2, cells := 6, slots := 546, locals := 37 }
set_option maxHeartbeats 4000000 in
set_option maxRecDepth 100000 in
theorem c_X7_init (l : Launch) (D : va_G × Nat) (S : PS) (a0 : Nat) (r : PS) (hf : f_X7_init S a0 = some r) : MV l D yX7_init wsX7_init rmX7_init S [.ref a0] r 6 546 := by
  unfold f_X7_init at hf
  refine Met.ofW (cc := cX7_init) (maxL := 1) (ret := none) (by decide) rfl ?_
  intro p e s m args below meth c s₁ B hml hv
  obtain ⟨rfl, hH0, hNE⟩ := hv
  have hx := B.exec
  have hb := B.bytes
  have hr := B.returns
  have hts := atoms_spec (ws := wsX7_init) B.pre
  have hown : s.vm.findClass RX7 = some m.cls := findClass_of_methodNamed B.named
  have hlocks := B.notSynchronized
  have hin : meth.name = "<init>" := (name_of_methodNamed B.named B.method).1
  have hH : HI D S S s s.heap [] := HI.start hH0
  have hl := lv_entry ([.ref a0]) (n := 1) (Nat.le_of_ble_eq_true rfl)
  rw [lg_entry_eq]
  generalize (lg_sl ([.ref a0]) ++ List.replicate (1 - (lg_sl ([.ref a0])).length) Slot.unset).toArray = ls at hl ⊢
  have hl : lv_has ls 1 [(0, .ref a0)] := hl
  refine lv_aload_n hx hb dX7_init_0 rfl (lv_at hl 0 rfl) ?_
  refine W.objInit hx hb hown (hts (.methodLink RX7 3 objectInit) (List.mem_cons_of_mem _ gw_17_9)) (hts (.instanceMethod objectInit) (List.mem_cons_of_mem _ gw_0_2)) (hts (.code objectInit ⟨#[0xb1]⟩ 1 none) (List.mem_cons_of_mem _ gw_0_3)) rfl (by rw [hml]; exact hl.1) rfl dX7_init_1 (Nat.le_of_ble_eq_true rfl) (Nat.le_of_ble_eq_true rfl) ?_
  refine W.eq (g2 := F0 m 4 ls []) rfl ?_
  refine lv_aload_n hx hb dX7_init_4 rfl (lv_at hl 0 rfl) ?_
  refine r_new hx hb 8 hts (fun w h => List.mem_cons_of_mem _ (mwsX50 w h)) tyX5 tyX5_ok hown (hts (.classLink RX7 9 RX5) (List.mem_cons_of_mem _ gw_17_10)) (hts (.instantiable RX5 2) (List.mem_cons_of_mem _ gw_1_4)) (hts (.initialized RX5) (List.mem_cons_of_mem _ gw_1_5)) hH (by decide) rfl (by decide +kernel) (Nat.le_of_ble_eq_true rfl) (Nat.le_of_ble_eq_true rfl) dX7_init_5 (fun H hH => ?_)
  obtain ⟨a1, e2, hf⟩ := ol hf
  rw [e2]
  obtain ⟨S3, e4, hf⟩ := ol hf
  rw [e4] at hH
  refine W.widen (k := 1) (n := 2) (by omega) (by omega) ?_
  refine lv_dup hx hb dX7_init_8 rfl ?_
  refine lv_sipush (v := 160) hx hb dX7_init_9 (by decide) ?_
  obtain ⟨r5, e6, hf⟩ := ob hf
  refine r_callIv (As := [.int 160]) ⟨hx, hb, hml, hown, hts⟩ (c_X5_init l D S3 a1 160 r5 e6) (cwI 1 hts (gwI (gwC gw_0_15)) rfl rfl rfl (hts (.initialized RX5) (List.mem_cons_of_mem _ gw_1_5)) (hts (.methodLink RX7 11 yX5_init) (List.mem_cons_of_mem _ gw_17_14)) (hts (.instanceMethod yX5_init) (List.mem_cons_of_mem _ gw_1_10)) rfl (by decide +kernel) ⟨Nat.le_of_ble_eq_true rfl, Nat.le_of_ble_eq_true rfl⟩) hH hNE rfl hl.1 rfl (Nat.le_of_ble_eq_true rfl) dX7_init_12 ⟨(Nat.le_of_ble_eq_true rfl), (Nat.le_of_ble_eq_true rfl)⟩ (fun H locs hH => ?_)
  refine W.widen (k := 2) (n := 182) (by omega) (by omega) ?_
  obtain ⟨ek7, hf⟩ := oc hf
  refine r_putQ hx hb 10 hts (fun w h => List.mem_cons_of_mem _ (mwsX70 w h)) tyX7 tyX7_ok nmX7 hown hH ek7 (by decide) rfl 0 (by decide) rfl (hts (.fieldLink RX7 14 "Housestyle$Text" "signs" "LHousestyle$Row;") (List.mem_cons_of_mem _ gw_17_11)) (fun _ h9 => h9) (Or.inr ⟨rfl, hin, rfl⟩) (ty := (.object "Housestyle$Row")) (by decide +kernel) rfl rfl dX7_init_15 (fun H locs hH => ?_)
  obtain ⟨S8, e9, hf⟩ := ol hf
  rw [e9] at hH
  refine lv_aload_n hx hb dX7_init_18 rfl (lv_at hl 0 rfl) ?_
  refine r_new hx hb 8 hts (fun w h => List.mem_cons_of_mem _ (mwsX50 w h)) tyX5 tyX5_ok hown (hts (.classLink RX7 9 RX5) (List.mem_cons_of_mem _ gw_17_10)) (hts (.instantiable RX5 2) (List.mem_cons_of_mem _ gw_1_4)) (hts (.initialized RX5) (List.mem_cons_of_mem _ gw_1_5)) hH (by decide) rfl (by decide +kernel) (Nat.le_of_ble_eq_true rfl) (Nat.le_of_ble_eq_true rfl) dX7_init_19 (fun H hH => ?_)
  obtain ⟨a10, e11, hf⟩ := ol hf
  rw [e11]
  obtain ⟨S12, e13, hf⟩ := ol hf
  rw [e13] at hH
  refine W.widen (k := 3) (n := 184) (by omega) (by omega) ?_
  refine lv_dup hx hb dX7_init_22 rfl ?_
  refine lv_sipush (v := 160) hx hb dX7_init_23 (by decide) ?_
  obtain ⟨r14, e15, hf⟩ := ob hf
  refine r_callIv (As := [.int 160]) ⟨hx, hb, hml, hown, hts⟩ (c_X5_init l D S12 a10 160 r14 e15) (cwI 1 hts (gwI (gwC gw_0_15)) rfl rfl rfl (hts (.initialized RX5) (List.mem_cons_of_mem _ gw_1_5)) (hts (.methodLink RX7 11 yX5_init) (List.mem_cons_of_mem _ gw_17_14)) (hts (.instanceMethod yX5_init) (List.mem_cons_of_mem _ gw_1_10)) rfl (by decide +kernel) ⟨Nat.le_of_ble_eq_true rfl, Nat.le_of_ble_eq_true rfl⟩) hH hNE rfl hl.1 rfl (Nat.le_of_ble_eq_true rfl) dX7_init_26 ⟨(Nat.le_of_ble_eq_true rfl), (Nat.le_of_ble_eq_true rfl)⟩ (fun H locs hH => ?_)
  refine W.widen (k := 4) (n := 364) (by omega) (by omega) ?_
  obtain ⟨ek16, hf⟩ := oc hf
  refine r_putQ hx hb 10 hts (fun w h => List.mem_cons_of_mem _ (mwsX70 w h)) tyX7 tyX7_ok nmX7 hown hH ek16 (by decide) rfl 1 (by decide) rfl (hts (.fieldLink RX7 20 "Housestyle$Text" "writers" "LHousestyle$Row;") (List.mem_cons_of_mem _ gw_17_12)) (fun _ h9 => h9) (Or.inr ⟨rfl, hin, rfl⟩) (ty := (.object "Housestyle$Row")) (by decide +kernel) rfl rfl dX7_init_29 (fun H locs hH => ?_)
  obtain ⟨S17, e18, hf⟩ := ol hf
  rw [e18] at hH
  refine lv_aload_n hx hb dX7_init_32 rfl (lv_at hl 0 rfl) ?_
  refine r_new hx hb 8 hts (fun w h => List.mem_cons_of_mem _ (mwsX50 w h)) tyX5 tyX5_ok hown (hts (.classLink RX7 9 RX5) (List.mem_cons_of_mem _ gw_17_10)) (hts (.instantiable RX5 2) (List.mem_cons_of_mem _ gw_1_4)) (hts (.initialized RX5) (List.mem_cons_of_mem _ gw_1_5)) hH (by decide) rfl (by decide +kernel) (Nat.le_of_ble_eq_true rfl) (Nat.le_of_ble_eq_true rfl) dX7_init_33 (fun H hH => ?_)
  obtain ⟨a19, e20, hf⟩ := ol hf
  rw [e20]
  obtain ⟨S21, e22, hf⟩ := ol hf
  rw [e22] at hH
  refine W.widen (k := 5) (n := 366) (by omega) (by omega) ?_
  refine lv_dup hx hb dX7_init_36 rfl ?_
  refine lv_sipush (v := 161) hx hb dX7_init_37 (by decide) ?_
  obtain ⟨r23, e24, hf⟩ := ob hf
  refine r_callIv (As := [.int 161]) ⟨hx, hb, hml, hown, hts⟩ (c_X5_init l D S21 a19 161 r23 e24) (cwI 1 hts (gwI (gwC gw_0_15)) rfl rfl rfl (hts (.initialized RX5) (List.mem_cons_of_mem _ gw_1_5)) (hts (.methodLink RX7 11 yX5_init) (List.mem_cons_of_mem _ gw_17_14)) (hts (.instanceMethod yX5_init) (List.mem_cons_of_mem _ gw_1_10)) rfl (by decide +kernel) ⟨Nat.le_of_ble_eq_true rfl, Nat.le_of_ble_eq_true rfl⟩) hH hNE rfl hl.1 rfl (Nat.le_of_ble_eq_true rfl) dX7_init_40 ⟨(Nat.le_of_ble_eq_true rfl), (Nat.le_of_ble_eq_true rfl)⟩ (fun H locs hH => ?_)
  refine W.widen (k := 6) (n := 546) (by omega) (by omega) ?_
  obtain ⟨ek25, hf⟩ := oc hf
  refine r_putQ hx hb 10 hts (fun w h => List.mem_cons_of_mem _ (mwsX70 w h)) tyX7 tyX7_ok nmX7 hown hH ek25 (by decide) rfl 2 (by decide) rfl (hts (.fieldLink RX7 23 "Housestyle$Text" "changed" "LHousestyle$Row;") (List.mem_cons_of_mem _ gw_17_13)) (fun _ h9 => h9) (Or.inr ⟨rfl, hin, rfl⟩) (ty := (.object "Housestyle$Row")) (by decide +kernel) rfl rfl dX7_init_43 (fun H locs hH => ?_)
  obtain ⟨S26, e27, hf⟩ := ol hf
  rw [e27] at hH
  refine lv_aload_n hx hb dX7_init_46 rfl (lv_at hl 0 rfl) ?_
  obtain ⟨ek28, hf⟩ := oc hf
  obtain ⟨a29, e30, hf⟩ := ob hf
  refine r_getQ hx hb 10 hts (fun w h => List.mem_cons_of_mem _ (mwsX70 w h)) hown hH ek28 (by decide) rfl 2 (by decide) rfl (hts (.fieldLink RX7 23 "Housestyle$Text" "changed" "LHousestyle$Row;") (List.mem_cons_of_mem _ gw_17_13)) (fun _ h9 => h9) dX7_init_47 e30 ?_
  refine lv_bipush (v := 15) hx hb dX7_init_50 (by decide) ?_
  obtain ⟨ek31, hf⟩ := oc hf
  obtain ⟨r32, e33, hf⟩ := ob hf
  refine r_callVv (As := [.int 15]) ⟨hx, hb, hml, hown, hts⟩ (c_X5_add l D S26 a29 15 r32 e33) (cwV 1 hts (gwV gw_17_15 gw_7_14 gw_7_15 gw_1_5 gw_7_11) rfl rfl rfl (by decide +kernel) ⟨Nat.le_of_ble_eq_true rfl, Nat.le_of_ble_eq_true rfl⟩) hH hNE 8 ek31 (by decide) rfl rfl rfl hl.1 rfl (Nat.le_of_ble_eq_true rfl) dX7_init_52 ⟨(Nat.le_of_ble_eq_true rfl), (Nat.le_of_ble_eq_true rfl)⟩ (fun H locs hH => ?_)
  have hr9 := Option.some.inj hf
  subst hr9
  exact e_v hx hb hr hlocks hH dX7_init_55
set_option maxRecDepth 100000 in
def f_X8_init (S : PS) (a0 : Nat) (b1 : Nat) : Option (PS) := if kK S a0 = 12 then (lt (wQ S a0 0 (some b1)) fun S2 => lt (kZ S2) fun a4 => lt (wN S2 9 0) fun S6 => (f_X5_init S6 a4 160).bind fun r8 => if kK r8 a0 = 12 then (lt (wQ r8 a0 1 (some a4)) fun S11 => lt (kZ S11) fun a13 => lt (wN S11 9 0) fun S15 => (f_X5_init S15 a13 160).bind fun r17 => if kK r17 a0 = 12 then (lt (wQ r17 a0 2 (some a13)) fun S20 => lt (kZ S20) fun a22 => lt (wN S20 9 0) fun S24 => (f_X5_init S24 a22 160).bind fun r26 => if kK r26 a0 = 12 then (lt (wQ r26 a0 3 (some a22)) fun S29 => lt (kZ S29) fun a31 => lt (wN S29 9 0) fun S33 => (f_X5_init S33 a31 160).bind fun r35 => if kK r35 a0 = 12 then (lt (wQ r35 a0 4 (some a31)) fun S38 => lt (kZ S38) fun a40 => lt (wN S38 9 0) fun S42 => (f_X5_init S42 a40 160).bind fun r44 => if kK r44 a0 = 12 then (lt (wQ r44 a0 5 (some a40)) fun S47 => lt (kZ S47) fun a49 => lt (wN S47 9 0) fun S51 => (f_X5_init S51 a49 160).bind fun r53 => if kK r53 a0 = 12 then (lt (wQ r53 a0 6 (some a49)) fun S56 => lt (kZ S56) fun a58 => lt (wN S56 9 0) fun S60 => (f_X5_init S60 a58 160).bind fun r62 => if kK r62 a0 = 12 then (lt (wQ r62 a0 7 (some a58)) fun S65 => if kK S65 a0 = 12 then (lt (wI S65 a0 8 0) fun S68 => if kK S68 a0 = 12 then (lt (wI S68 a0 9 1) fun S71 => if kK S71 a0 = 12 then (lt (wI S71 a0 10 (-1)) fun S74 => some S74) else none) else none) else none) else none) else none) else none) else none) else none) else none) else none) else none
abbrev rmX8_init : Room := { frames := 2, cells := 14, slots := 1274, locals := 37 }
set_option maxHeartbeats 4000000 in
set_option maxRecDepth 100000 in
theorem c_X8_init (l : Launch) (D : va_G × Nat) (S : PS) (a0 : Nat) (b1 : Nat) (r : PS) (hf : f_X8_init S a0 b1 = some r) : MV l D yX8_init wsX8_init rmX8_init S [.ref a0, .ref b1] r 14 1274 := by
  unfold f_X8_init at hf
  refine Met.ofW (cc := cX8_init) (maxL := 2) (ret := none) (by decide) rfl ?_
  intro p e s m args below meth c s₁ B hml hv
  obtain ⟨rfl, hH0, hNE⟩ := hv
  have hx := B.exec
  have hb := B.bytes
  have hr := B.returns
  have hts := atoms_spec (ws := wsX8_init) B.pre
  have hown : s.vm.findClass RX8 = some m.cls := findClass_of_methodNamed B.named
  have hlocks := B.notSynchronized
  have hin : meth.name = "<init>" := (name_of_methodNamed B.named B.method).1
  have hH : HI D S S s s.heap [] := HI.start hH0
  have hl := lv_entry ([.ref a0, .ref b1]) (n := 2) (Nat.le_of_ble_eq_true rfl)
  rw [lg_entry_eq]
  generalize (lg_sl ([.ref a0, .ref b1]) ++ List.replicate (2 - (lg_sl ([.ref a0, .ref b1])).length) Slot.unset).toArray = ls at hl ⊢
  have hl : lv_has ls 2 [(0, .ref a0), (1, .ref b1)] := hl
  refine lv_aload_n hx hb dX8_init_0 rfl (lv_at hl 0 rfl) ?_
  refine W.objInit hx hb hown (hts (.methodLink RX8 3 objectInit) (List.mem_cons_of_mem _ gw_18_9)) (hts (.instanceMethod objectInit) (List.mem_cons_of_mem _ gw_0_2)) (hts (.code objectInit ⟨#[0xb1]⟩ 1 none) (List.mem_cons_of_mem _ gw_0_3)) rfl (by rw [hml]; exact hl.1) rfl dX8_init_1 (Nat.le_of_ble_eq_true rfl) (Nat.le_of_ble_eq_true rfl) ?_
  refine W.eq (g2 := F0 m 4 ls []) rfl ?_
  refine lv_aload_n hx hb dX8_init_4 rfl (lv_at hl 0 rfl) ?_
  refine lv_aload_n hx hb dX8_init_5 rfl (lv_at hl 1 rfl) ?_
  obtain ⟨ek1, hf⟩ := oc hf
  refine r_putQ hx hb 11 hts (fun w h => List.mem_cons_of_mem _ (mwsX80 w h)) tyX8 tyX8_ok nmX8 hown hH ek1 (by decide) rfl 0 (by decide) rfl (hts (.fieldLink RX8 9 "Housestyle$Tokens" "signs" "LHousestyle$Row;") (List.mem_cons_of_mem _ gw_2_19)) (fun _ h9 => h9) (Or.inr ⟨rfl, hin, rfl⟩) (ty := (.object "Housestyle$Row")) (by decide +kernel) rfl rfl dX8_init_6 (fun H locs hH => ?_)
  obtain ⟨S2, e3, hf⟩ := ol hf
  rw [e3] at hH
  refine lv_aload_n hx hb dX8_init_9 rfl (lv_at hl 0 rfl) ?_
  refine r_new hx hb 8 hts (fun w h => List.mem_cons_of_mem _ (mwsX50 w h)) tyX5 tyX5_ok hown (hts (.classLink RX8 15 RX5) (List.mem_cons_of_mem _ gw_18_10)) (hts (.instantiable RX5 2) (List.mem_cons_of_mem _ gw_1_4)) (hts (.initialized RX5) (List.mem_cons_of_mem _ gw_1_5)) hH (by decide) rfl (by decide +kernel) (Nat.le_of_ble_eq_true rfl) (Nat.le_of_ble_eq_true rfl) dX8_init_10 (fun H hH => ?_)
  obtain ⟨a4, e5, hf⟩ := ol hf
  rw [e5]
  obtain ⟨S6, e7, hf⟩ := ol hf
  rw [e7] at hH
  refine W.widen (k := 1) (n := 2) (by omega) (by omega) ?_
  refine lv_dup hx hb dX8_init_13 rfl ?_
  refine lv_sipush (v := 160) hx hb dX8_init_14 (by decide) ?_
  obtain ⟨r8, e9, hf⟩ := ob hf
  refine r_callIv (As := [.int 160]) ⟨hx, hb, hml, hown, hts⟩ (c_X5_init l D S6 a4 160 r8 e9) (cwI 1 hts (gwI (gwC gw_0_15)) rfl rfl rfl (hts (.initialized RX5) (List.mem_cons_of_mem _ gw_1_5)) (hts (.methodLink RX8 17 yX5_init) (List.mem_cons_of_mem _ gw_18_14)) (hts (.instanceMethod yX5_init) (List.mem_cons_of_mem _ gw_1_10)) rfl (by decide +kernel) ⟨Nat.le_of_ble_eq_true rfl, Nat.le_of_ble_eq_true rfl⟩) hH hNE rfl hl.1 rfl (Nat.le_of_ble_eq_true rfl) dX8_init_17 ⟨(Nat.le_of_ble_eq_true rfl), (Nat.le_of_ble_eq_true rfl)⟩ (fun H locs hH => ?_)
  refine W.widen (k := 2) (n := 182) (by omega) (by omega) ?_
  obtain ⟨ek10, hf⟩ := oc hf
  refine r_putQ hx hb 11 hts (fun w h => List.mem_cons_of_mem _ (mwsX80 w h)) tyX8 tyX8_ok nmX8 hown hH ek10 (by decide) rfl 1 (by decide) rfl (hts (.fieldLink RX8 20 "Housestyle$Tokens" "froms" "LHousestyle$Row;") (List.mem_cons_of_mem _ gw_1_13)) (fun _ h9 => h9) (Or.inr ⟨rfl, hin, rfl⟩) (ty := (.object "Housestyle$Row")) (by decide +kernel) rfl rfl dX8_init_20 (fun H locs hH => ?_)
  obtain ⟨S11, e12, hf⟩ := ol hf
  rw [e12] at hH
  refine lv_aload_n hx hb dX8_init_23 rfl (lv_at hl 0 rfl) ?_
  refine r_new hx hb 8 hts (fun w h => List.mem_cons_of_mem _ (mwsX50 w h)) tyX5 tyX5_ok hown (hts (.classLink RX8 15 RX5) (List.mem_cons_of_mem _ gw_18_10)) (hts (.instantiable RX5 2) (List.mem_cons_of_mem _ gw_1_4)) (hts (.initialized RX5) (List.mem_cons_of_mem _ gw_1_5)) hH (by decide) rfl (by decide +kernel) (Nat.le_of_ble_eq_true rfl) (Nat.le_of_ble_eq_true rfl) dX8_init_24 (fun H hH => ?_)
  obtain ⟨a13, e14, hf⟩ := ol hf
  rw [e14]
  obtain ⟨S15, e16, hf⟩ := ol hf
  rw [e16] at hH
  refine W.widen (k := 3) (n := 184) (by omega) (by omega) ?_
  refine lv_dup hx hb dX8_init_27 rfl ?_
  refine lv_sipush (v := 160) hx hb dX8_init_28 (by decide) ?_
  obtain ⟨r17, e18, hf⟩ := ob hf
  refine r_callIv (As := [.int 160]) ⟨hx, hb, hml, hown, hts⟩ (c_X5_init l D S15 a13 160 r17 e18) (cwI 1 hts (gwI (gwC gw_0_15)) rfl rfl rfl (hts (.initialized RX5) (List.mem_cons_of_mem _ gw_1_5)) (hts (.methodLink RX8 17 yX5_init) (List.mem_cons_of_mem _ gw_18_14)) (hts (.instanceMethod yX5_init) (List.mem_cons_of_mem _ gw_1_10)) rfl (by decide +kernel) ⟨Nat.le_of_ble_eq_true rfl, Nat.le_of_ble_eq_true rfl⟩) hH hNE rfl hl.1 rfl (Nat.le_of_ble_eq_true rfl) dX8_init_31 ⟨(Nat.le_of_ble_eq_true rfl), (Nat.le_of_ble_eq_true rfl)⟩ (fun H locs hH => ?_)
  refine W.widen (k := 4) (n := 364) (by omega) (by omega) ?_
  obtain ⟨ek19, hf⟩ := oc hf
  refine r_putQ hx hb 11 hts (fun w h => List.mem_cons_of_mem _ (mwsX80 w h)) tyX8 tyX8_ok nmX8 hown hH ek19 (by decide) rfl 2 (by decide) rfl (hts (.fieldLink RX8 23 "Housestyle$Tokens" "ends" "LHousestyle$Row;") (List.mem_cons_of_mem _ gw_2_18)) (fun _ h9 => h9) (Or.inr ⟨rfl, hin, rfl⟩) (ty := (.object "Housestyle$Row")) (by decide +kernel) rfl rfl dX8_init_34 (fun H locs hH => ?_)
  obtain ⟨S20, e21, hf⟩ := ol hf
  rw [e21] at hH
  refine lv_aload_n hx hb dX8_init_37 rfl (lv_at hl 0 rfl) ?_
  refine r_new hx hb 8 hts (fun w h => List.mem_cons_of_mem _ (mwsX50 w h)) tyX5 tyX5_ok hown (hts (.classLink RX8 15 RX5) (List.mem_cons_of_mem _ gw_18_10)) (hts (.instantiable RX5 2) (List.mem_cons_of_mem _ gw_1_4)) (hts (.initialized RX5) (List.mem_cons_of_mem _ gw_1_5)) hH (by decide) rfl (by decide +kernel) (Nat.le_of_ble_eq_true rfl) (Nat.le_of_ble_eq_true rfl) dX8_init_38 (fun H hH => ?_)
  obtain ⟨a22, e23, hf⟩ := ol hf
  rw [e23]
  obtain ⟨S24, e25, hf⟩ := ol hf
  rw [e25] at hH
  refine W.widen (k := 5) (n := 366) (by omega) (by omega) ?_
  refine lv_dup hx hb dX8_init_41 rfl ?_
  refine lv_sipush (v := 160) hx hb dX8_init_42 (by decide) ?_
  obtain ⟨r26, e27, hf⟩ := ob hf
  refine r_callIv (As := [.int 160]) ⟨hx, hb, hml, hown, hts⟩ (c_X5_init l D S24 a22 160 r26 e27) (cwI 1 hts (gwI (gwC gw_0_15)) rfl rfl rfl (hts (.initialized RX5) (List.mem_cons_of_mem _ gw_1_5)) (hts (.methodLink RX8 17 yX5_init) (List.mem_cons_of_mem _ gw_18_14)) (hts (.instanceMethod yX5_init) (List.mem_cons_of_mem _ gw_1_10)) rfl (by decide +kernel) ⟨Nat.le_of_ble_eq_true rfl, Nat.le_of_ble_eq_true rfl⟩) hH hNE rfl hl.1 rfl (Nat.le_of_ble_eq_true rfl) dX8_init_45 ⟨(Nat.le_of_ble_eq_true rfl), (Nat.le_of_ble_eq_true rfl)⟩ (fun H locs hH => ?_)
  refine W.widen (k := 6) (n := 546) (by omega) (by omega) ?_
  obtain ⟨ek28, hf⟩ := oc hf
  refine r_putQ hx hb 11 hts (fun w h => List.mem_cons_of_mem _ (mwsX80 w h)) tyX8 tyX8_ok nmX8 hown hH ek28 (by decide) rfl 3 (by decide) rfl (hts (.fieldLink RX8 26 "Housestyle$Tokens" "kinds" "LHousestyle$Row;") (List.mem_cons_of_mem _ gw_3_1)) (fun _ h9 => h9) (Or.inr ⟨rfl, hin, rfl⟩) (ty := (.object "Housestyle$Row")) (by decide +kernel) rfl rfl dX8_init_48 (fun H locs hH => ?_)
  obtain ⟨S29, e30, hf⟩ := ol hf
  rw [e30] at hH
  refine lv_aload_n hx hb dX8_init_51 rfl (lv_at hl 0 rfl) ?_
  refine r_new hx hb 8 hts (fun w h => List.mem_cons_of_mem _ (mwsX50 w h)) tyX5 tyX5_ok hown (hts (.classLink RX8 15 RX5) (List.mem_cons_of_mem _ gw_18_10)) (hts (.instantiable RX5 2) (List.mem_cons_of_mem _ gw_1_4)) (hts (.initialized RX5) (List.mem_cons_of_mem _ gw_1_5)) hH (by decide) rfl (by decide +kernel) (Nat.le_of_ble_eq_true rfl) (Nat.le_of_ble_eq_true rfl) dX8_init_52 (fun H hH => ?_)
  obtain ⟨a31, e32, hf⟩ := ol hf
  rw [e32]
  obtain ⟨S33, e34, hf⟩ := ol hf
  rw [e34] at hH
  refine W.widen (k := 7) (n := 548) (by omega) (by omega) ?_
  refine lv_dup hx hb dX8_init_55 rfl ?_
  refine lv_sipush (v := 160) hx hb dX8_init_56 (by decide) ?_
  obtain ⟨r35, e36, hf⟩ := ob hf
  refine r_callIv (As := [.int 160]) ⟨hx, hb, hml, hown, hts⟩ (c_X5_init l D S33 a31 160 r35 e36) (cwI 1 hts (gwI (gwC gw_0_15)) rfl rfl rfl (hts (.initialized RX5) (List.mem_cons_of_mem _ gw_1_5)) (hts (.methodLink RX8 17 yX5_init) (List.mem_cons_of_mem _ gw_18_14)) (hts (.instanceMethod yX5_init) (List.mem_cons_of_mem _ gw_1_10)) rfl (by decide +kernel) ⟨Nat.le_of_ble_eq_true rfl, Nat.le_of_ble_eq_true rfl⟩) hH hNE rfl hl.1 rfl (Nat.le_of_ble_eq_true rfl) dX8_init_59 ⟨(Nat.le_of_ble_eq_true rfl), (Nat.le_of_ble_eq_true rfl)⟩ (fun H locs hH => ?_)
  refine W.widen (k := 8) (n := 728) (by omega) (by omega) ?_
  obtain ⟨ek37, hf⟩ := oc hf
  refine r_putQ hx hb 11 hts (fun w h => List.mem_cons_of_mem _ (mwsX80 w h)) tyX8 tyX8_ok nmX8 hown hH ek37 (by decide) rfl 4 (by decide) rfl (hts (.fieldLink RX8 29 "Housestyle$Tokens" "values" "LHousestyle$Row;") (List.mem_cons_of_mem _ gw_6_21)) (fun _ h9 => h9) (Or.inr ⟨rfl, hin, rfl⟩) (ty := (.object "Housestyle$Row")) (by decide +kernel) rfl rfl dX8_init_62 (fun H locs hH => ?_)
  obtain ⟨S38, e39, hf⟩ := ol hf
  rw [e39] at hH
  refine lv_aload_n hx hb dX8_init_65 rfl (lv_at hl 0 rfl) ?_
  refine r_new hx hb 8 hts (fun w h => List.mem_cons_of_mem _ (mwsX50 w h)) tyX5 tyX5_ok hown (hts (.classLink RX8 15 RX5) (List.mem_cons_of_mem _ gw_18_10)) (hts (.instantiable RX5 2) (List.mem_cons_of_mem _ gw_1_4)) (hts (.initialized RX5) (List.mem_cons_of_mem _ gw_1_5)) hH (by decide) rfl (by decide +kernel) (Nat.le_of_ble_eq_true rfl) (Nat.le_of_ble_eq_true rfl) dX8_init_66 (fun H hH => ?_)
  obtain ⟨a40, e41, hf⟩ := ol hf
  rw [e41]
  obtain ⟨S42, e43, hf⟩ := ol hf
  rw [e43] at hH
  refine W.widen (k := 9) (n := 730) (by omega) (by omega) ?_
  refine lv_dup hx hb dX8_init_69 rfl ?_
  refine lv_sipush (v := 160) hx hb dX8_init_70 (by decide) ?_
  obtain ⟨r44, e45, hf⟩ := ob hf
  refine r_callIv (As := [.int 160]) ⟨hx, hb, hml, hown, hts⟩ (c_X5_init l D S42 a40 160 r44 e45) (cwI 1 hts (gwI (gwC gw_0_15)) rfl rfl rfl (hts (.initialized RX5) (List.mem_cons_of_mem _ gw_1_5)) (hts (.methodLink RX8 17 yX5_init) (List.mem_cons_of_mem _ gw_18_14)) (hts (.instanceMethod yX5_init) (List.mem_cons_of_mem _ gw_1_10)) rfl (by decide +kernel) ⟨Nat.le_of_ble_eq_true rfl, Nat.le_of_ble_eq_true rfl⟩) hH hNE rfl hl.1 rfl (Nat.le_of_ble_eq_true rfl) dX8_init_73 ⟨(Nat.le_of_ble_eq_true rfl), (Nat.le_of_ble_eq_true rfl)⟩ (fun H locs hH => ?_)
  refine W.widen (k := 10) (n := 910) (by omega) (by omega) ?_
  obtain ⟨ek46, hf⟩ := oc hf
  refine r_putQ hx hb 11 hts (fun w h => List.mem_cons_of_mem _ (mwsX80 w h)) tyX8 tyX8_ok nmX8 hown hH ek46 (by decide) rfl 5 (by decide) rfl (hts (.fieldLink RX8 32 "Housestyle$Tokens" "quoted" "LHousestyle$Row;") (List.mem_cons_of_mem _ gw_2_11)) (fun _ h9 => h9) (Or.inr ⟨rfl, hin, rfl⟩) (ty := (.object "Housestyle$Row")) (by decide +kernel) rfl rfl dX8_init_76 (fun H locs hH => ?_)
  obtain ⟨S47, e48, hf⟩ := ol hf
  rw [e48] at hH
  refine lv_aload_n hx hb dX8_init_79 rfl (lv_at hl 0 rfl) ?_
  refine r_new hx hb 8 hts (fun w h => List.mem_cons_of_mem _ (mwsX50 w h)) tyX5 tyX5_ok hown (hts (.classLink RX8 15 RX5) (List.mem_cons_of_mem _ gw_18_10)) (hts (.instantiable RX5 2) (List.mem_cons_of_mem _ gw_1_4)) (hts (.initialized RX5) (List.mem_cons_of_mem _ gw_1_5)) hH (by decide) rfl (by decide +kernel) (Nat.le_of_ble_eq_true rfl) (Nat.le_of_ble_eq_true rfl) dX8_init_80 (fun H hH => ?_)
  obtain ⟨a49, e50, hf⟩ := ol hf
  rw [e50]
  obtain ⟨S51, e52, hf⟩ := ol hf
  rw [e52] at hH
  refine W.widen (k := 11) (n := 912) (by omega) (by omega) ?_
  refine lv_dup hx hb dX8_init_83 rfl ?_
  refine lv_sipush (v := 160) hx hb dX8_init_84 (by decide) ?_
  obtain ⟨r53, e54, hf⟩ := ob hf
  refine r_callIv (As := [.int 160]) ⟨hx, hb, hml, hown, hts⟩ (c_X5_init l D S51 a49 160 r53 e54) (cwI 1 hts (gwI (gwC gw_0_15)) rfl rfl rfl (hts (.initialized RX5) (List.mem_cons_of_mem _ gw_1_5)) (hts (.methodLink RX8 17 yX5_init) (List.mem_cons_of_mem _ gw_18_14)) (hts (.instanceMethod yX5_init) (List.mem_cons_of_mem _ gw_1_10)) rfl (by decide +kernel) ⟨Nat.le_of_ble_eq_true rfl, Nat.le_of_ble_eq_true rfl⟩) hH hNE rfl hl.1 rfl (Nat.le_of_ble_eq_true rfl) dX8_init_87 ⟨(Nat.le_of_ble_eq_true rfl), (Nat.le_of_ble_eq_true rfl)⟩ (fun H locs hH => ?_)
  refine W.widen (k := 12) (n := 1092) (by omega) (by omega) ?_
  obtain ⟨ek55, hf⟩ := oc hf
  refine r_putQ hx hb 11 hts (fun w h => List.mem_cons_of_mem _ (mwsX80 w h)) tyX8 tyX8_ok nmX8 hown hH ek55 (by decide) rfl 6 (by decide) rfl (hts (.fieldLink RX8 35 "Housestyle$Tokens" "first" "LHousestyle$Row;") (List.mem_cons_of_mem _ gw_2_16)) (fun _ h9 => h9) (Or.inr ⟨rfl, hin, rfl⟩) (ty := (.object "Housestyle$Row")) (by decide +kernel) rfl rfl dX8_init_90 (fun H locs hH => ?_)
  obtain ⟨S56, e57, hf⟩ := ol hf
  rw [e57] at hH
  refine lv_aload_n hx hb dX8_init_93 rfl (lv_at hl 0 rfl) ?_
  refine r_new hx hb 8 hts (fun w h => List.mem_cons_of_mem _ (mwsX50 w h)) tyX5 tyX5_ok hown (hts (.classLink RX8 15 RX5) (List.mem_cons_of_mem _ gw_18_10)) (hts (.instantiable RX5 2) (List.mem_cons_of_mem _ gw_1_4)) (hts (.initialized RX5) (List.mem_cons_of_mem _ gw_1_5)) hH (by decide) rfl (by decide +kernel) (Nat.le_of_ble_eq_true rfl) (Nat.le_of_ble_eq_true rfl) dX8_init_94 (fun H hH => ?_)
  obtain ⟨a58, e59, hf⟩ := ol hf
  rw [e59]
  obtain ⟨S60, e61, hf⟩ := ol hf
  rw [e61] at hH
  refine W.widen (k := 13) (n := 1094) (by omega) (by omega) ?_
  refine lv_dup hx hb dX8_init_97 rfl ?_
  refine lv_sipush (v := 160) hx hb dX8_init_98 (by decide) ?_
  obtain ⟨r62, e63, hf⟩ := ob hf
  refine r_callIv (As := [.int 160]) ⟨hx, hb, hml, hown, hts⟩ (c_X5_init l D S60 a58 160 r62 e63) (cwI 1 hts (gwI (gwC gw_0_15)) rfl rfl rfl (hts (.initialized RX5) (List.mem_cons_of_mem _ gw_1_5)) (hts (.methodLink RX8 17 yX5_init) (List.mem_cons_of_mem _ gw_18_14)) (hts (.instanceMethod yX5_init) (List.mem_cons_of_mem _ gw_1_10)) rfl (by decide +kernel) ⟨Nat.le_of_ble_eq_true rfl, Nat.le_of_ble_eq_true rfl⟩) hH hNE rfl hl.1 rfl (Nat.le_of_ble_eq_true rfl) dX8_init_101 ⟨(Nat.le_of_ble_eq_true rfl), (Nat.le_of_ble_eq_true rfl)⟩ (fun H locs hH => ?_)
  refine W.widen (k := 14) (n := 1274) (by omega) (by omega) ?_
  obtain ⟨ek64, hf⟩ := oc hf
  refine r_putQ hx hb 11 hts (fun w h => List.mem_cons_of_mem _ (mwsX80 w h)) tyX8 tyX8_ok nmX8 hown hH ek64 (by decide) rfl 7 (by decide) rfl (hts (.fieldLink RX8 38 "Housestyle$Tokens" "ahead" "LHousestyle$Row;") (List.mem_cons_of_mem _ gw_3_23)) (fun _ h9 => h9) (Or.inr ⟨rfl, hin, rfl⟩) (ty := (.object "Housestyle$Row")) (by decide +kernel) rfl rfl dX8_init_104 (fun H locs hH => ?_)
  obtain ⟨S65, e66, hf⟩ := ol hf
  rw [e66] at hH
  refine lv_aload_n hx hb dX8_init_107 rfl (lv_at hl 0 rfl) ?_
  refine lv_iconst (v := 0) hx hb dX8_init_108 (by decide) ?_
  obtain ⟨ek67, hf⟩ := oc hf
  refine r_putI hx hb 11 hts (fun w h => List.mem_cons_of_mem _ (mwsX80 w h)) tyX8 tyX8_ok nmX8 hown hH ek67 (by decide) rfl 8 (by decide) rfl (hts (.fieldLink RX8 41 "Housestyle$Tokens" "isInQuote" "Z") (List.mem_cons_of_mem _ gw_18_11)) (fun _ h9 => h9) (Or.inl rfl) (ty := .boolean) (by decide +kernel) rfl rfl dX8_init_109 (fun H locs hH => ?_)
  obtain ⟨S68, e69, hf⟩ := ol hf
  rw [e69] at hH
  refine lv_aload_n hx hb dX8_init_112 rfl (lv_at hl 0 rfl) ?_
  refine lv_iconst (v := 1) hx hb dX8_init_113 (by decide) ?_
  obtain ⟨ek70, hf⟩ := oc hf
  refine r_putI hx hb 11 hts (fun w h => List.mem_cons_of_mem _ (mwsX80 w h)) tyX8 tyX8_ok nmX8 hown hH ek70 (by decide) rfl 9 (by decide) rfl (hts (.fieldLink RX8 45 "Housestyle$Tokens" "isAtBegin" "Z") (List.mem_cons_of_mem _ gw_18_12)) (fun _ h9 => h9) (Or.inl rfl) (ty := .boolean) (by decide +kernel) rfl rfl dX8_init_114 (fun H locs hH => ?_)
  obtain ⟨S71, e72, hf⟩ := ol hf
  rw [e72] at hH
  refine lv_aload_n hx hb dX8_init_117 rfl (lv_at hl 0 rfl) ?_
  refine lv_iconst (v := (-1)) hx hb dX8_init_118 (by decide) ?_
  obtain ⟨ek73, hf⟩ := oc hf
  refine r_putI hx hb 11 hts (fun w h => List.mem_cons_of_mem _ (mwsX80 w h)) tyX8 tyX8_ok nmX8 hown hH ek73 (by decide) rfl 10 (by decide) rfl (hts (.fieldLink RX8 48 "Housestyle$Tokens" "last" "I") (List.mem_cons_of_mem _ gw_18_13)) (fun _ h9 => h9) (Or.inl rfl) (ty := .int) (by decide +kernel) rfl rfl dX8_init_119 (fun H locs hH => ?_)
  obtain ⟨S74, e75, hf⟩ := ol hf
  rw [e75] at hH
  have hr9 := Option.some.inj hf
  subst hr9
  exact e_v hx hb hr hlocks hH dX8_init_122
set_option maxRecDepth 100000 in
def f_X0_init (S : PS) (a0 : Nat) : Option (PS) := lt (kZ S) fun a1 => lt (wN S 3 0) fun S3 => (f_Jx4a65c_init_da8c8 S3 a1).bind fun r5 => if kK r5 a0 = 4 then (lt (wQ r5 a0 0 (some a1)) fun S8 => lt (kZ S8) fun a10 => lt (wN S8 3 0) fun S12 => (f_Jx4a65c_init_da8c8 S12 a10).bind fun r14 => if kK r14 a0 = 4 then (lt (wQ r14 a0 1 (some a10)) fun S17 => lt (kZ S17) fun a19 => lt (wN S17 9 0) fun S21 => (f_X5_init S21 a19 160).bind fun r23 => if kK r23 a0 = 4 then (lt (wQ r23 a0 2 (some a19)) fun S26 => some S26) else none) else none) else none
abbrev rmX0_init : Room := { frames := 4, cells := 4, slots := 188, locals := 76 }
set_option maxHeartbeats 4000000 in
set_option maxRecDepth 100000 in
theorem c_X0_init (l : Launch) (D : va_G × Nat) (S : PS) (a0 : Nat) (r : PS) (hf : f_X0_init S a0 = some r) : MV l D yX0_init wsX0_init rmX0_init S [.ref a0] r 4 188 := by
  unfold f_X0_init at hf
  refine Met.ofW (cc := cX0_init) (maxL := 1) (ret := none) (by decide) rfl ?_
  intro p e s m args below meth c s₁ B hml hv
  obtain ⟨rfl, hH0, hNE⟩ := hv
  have hx := B.exec
  have hb := B.bytes
  have hr := B.returns
  have hts := atoms_spec (ws := wsX0_init) B.pre
  have hown : s.vm.findClass RX0 = some m.cls := findClass_of_methodNamed B.named
  have hlocks := B.notSynchronized
  have hin : meth.name = "<init>" := (name_of_methodNamed B.named B.method).1
  have hH : HI D S S s s.heap [] := HI.start hH0
  have hl := lv_entry ([.ref a0]) (n := 1) (Nat.le_of_ble_eq_true rfl)
  rw [lg_entry_eq]
  generalize (lg_sl ([.ref a0]) ++ List.replicate (1 - (lg_sl ([.ref a0])).length) Slot.unset).toArray = ls at hl ⊢
  have hl : lv_has ls 1 [(0, .ref a0)] := hl
  refine lv_aload_n hx hb dX0_init_0 rfl (lv_at hl 0 rfl) ?_
  refine W.objInit hx hb hown (hts (.methodLink RX0 3 objectInit) (List.mem_cons_of_mem _ gw_0_21)) (hts (.instanceMethod objectInit) (List.mem_cons_of_mem _ gw_0_2)) (hts (.code objectInit ⟨#[0xb1]⟩ 1 none) (List.mem_cons_of_mem _ gw_0_3)) rfl (by rw [hml]; exact hl.1) rfl dX0_init_1 (Nat.le_of_ble_eq_true rfl) (Nat.le_of_ble_eq_true rfl) ?_
  refine W.eq (g2 := F0 m 4 ls []) rfl ?_
  refine lv_aload_n hx hb dX0_init_4 rfl (lv_at hl 0 rfl) ?_
  refine r_new hx hb 2 hts (fun w h => List.mem_cons_of_mem _ (mwsJx4a65c0 w h)) tyJx4a65c tyJx4a65c_ok hown (hts (.classLink RX0 9 RJx4a65c) (List.mem_cons_of_mem _ gw_0_22)) (hts (.instantiable RJx4a65c 3) (List.mem_cons_of_mem _ gw_0_23)) (hts (.initialized RJx4a65c) (List.mem_cons_of_mem _ gw_1_0)) hH (by decide) rfl (by decide +kernel) (Nat.le_of_ble_eq_true rfl) (Nat.le_of_ble_eq_true rfl) dX0_init_5 (fun H hH => ?_)
  obtain ⟨a1, e2, hf⟩ := ol hf
  rw [e2]
  obtain ⟨S3, e4, hf⟩ := ol hf
  rw [e4] at hH
  refine W.widen (k := 1) (n := 3) (by omega) (by omega) ?_
  refine lv_dup hx hb dX0_init_8 rfl ?_
  obtain ⟨r5, e6, hf⟩ := ob hf
  refine r_callIv (As := []) ⟨hx, hb, hml, hown, hts⟩ (c_Jx4a65c_init_da8c8 l D S3 a1 r5 e6) (cwI 0 hts (gwI (gwC gw_0_9)) rfl rfl rfl (hts (.initialized RJx4a65c) (List.mem_cons_of_mem _ gw_1_0)) (hts (.methodLink RX0 11 yJx4a65c_init_da8c8) (List.mem_cons_of_mem _ gw_1_7)) (hts (.instanceMethod yJx4a65c_init_da8c8) (List.mem_cons_of_mem _ gw_1_8)) rfl (by decide +kernel) ⟨Nat.le_of_ble_eq_true rfl, Nat.le_of_ble_eq_true rfl⟩) hH hNE rfl hl.1 rfl (Nat.le_of_ble_eq_true rfl) dX0_init_9 ⟨(Nat.le_of_ble_eq_true rfl), (Nat.le_of_ble_eq_true rfl)⟩ (fun H locs hH => ?_)
  obtain ⟨ek7, hf⟩ := oc hf
  refine r_putQ hx hb 3 hts (fun w h => List.mem_cons_of_mem _ (mwsX00 w h)) tyX0 tyX0_ok nmX0 hown hH ek7 (by decide) rfl 0 (by decide) rfl (hts (.fieldLink RX0 12 "Housestyle$Book" "rules" "Ljava/util/ArrayList;") (List.mem_cons_of_mem _ gw_1_1)) (fun _ h9 => h9) (Or.inr ⟨rfl, hin, rfl⟩) (ty := (.object "java/util/ArrayList")) (by decide +kernel) rfl rfl dX0_init_12 (fun H locs hH => ?_)
  obtain ⟨S8, e9, hf⟩ := ol hf
  rw [e9] at hH
  refine lv_aload_n hx hb dX0_init_15 rfl (lv_at hl 0 rfl) ?_
  refine r_new hx hb 2 hts (fun w h => List.mem_cons_of_mem _ (mwsJx4a65c0 w h)) tyJx4a65c tyJx4a65c_ok hown (hts (.classLink RX0 9 RJx4a65c) (List.mem_cons_of_mem _ gw_0_22)) (hts (.instantiable RJx4a65c 3) (List.mem_cons_of_mem _ gw_0_23)) (hts (.initialized RJx4a65c) (List.mem_cons_of_mem _ gw_1_0)) hH (by decide) rfl (by decide +kernel) (Nat.le_of_ble_eq_true rfl) (Nat.le_of_ble_eq_true rfl) dX0_init_16 (fun H hH => ?_)
  obtain ⟨a10, e11, hf⟩ := ol hf
  rw [e11]
  obtain ⟨S12, e13, hf⟩ := ol hf
  rw [e13] at hH
  refine W.widen (k := 2) (n := 6) (by omega) (by omega) ?_
  refine lv_dup hx hb dX0_init_19 rfl ?_
  obtain ⟨r14, e15, hf⟩ := ob hf
  refine r_callIv (As := []) ⟨hx, hb, hml, hown, hts⟩ (c_Jx4a65c_init_da8c8 l D S12 a10 r14 e15) (cwI 0 hts (gwI (gwC gw_0_9)) rfl rfl rfl (hts (.initialized RJx4a65c) (List.mem_cons_of_mem _ gw_1_0)) (hts (.methodLink RX0 11 yJx4a65c_init_da8c8) (List.mem_cons_of_mem _ gw_1_7)) (hts (.instanceMethod yJx4a65c_init_da8c8) (List.mem_cons_of_mem _ gw_1_8)) rfl (by decide +kernel) ⟨Nat.le_of_ble_eq_true rfl, Nat.le_of_ble_eq_true rfl⟩) hH hNE rfl hl.1 rfl (Nat.le_of_ble_eq_true rfl) dX0_init_20 ⟨(Nat.le_of_ble_eq_true rfl), (Nat.le_of_ble_eq_true rfl)⟩ (fun H locs hH => ?_)
  obtain ⟨ek16, hf⟩ := oc hf
  refine r_putQ hx hb 3 hts (fun w h => List.mem_cons_of_mem _ (mwsX00 w h)) tyX0 tyX0_ok nmX0 hown hH ek16 (by decide) rfl 1 (by decide) rfl (hts (.fieldLink RX0 18 "Housestyle$Book" "pairs" "Ljava/util/ArrayList;") (List.mem_cons_of_mem _ gw_1_2)) (fun _ h9 => h9) (Or.inr ⟨rfl, hin, rfl⟩) (ty := (.object "java/util/ArrayList")) (by decide +kernel) rfl rfl dX0_init_23 (fun H locs hH => ?_)
  obtain ⟨S17, e18, hf⟩ := ol hf
  rw [e18] at hH
  refine lv_aload_n hx hb dX0_init_26 rfl (lv_at hl 0 rfl) ?_
  refine r_new hx hb 8 hts (fun w h => List.mem_cons_of_mem _ (mwsX50 w h)) tyX5 tyX5_ok hown (hts (.classLink RX0 21 RX5) (List.mem_cons_of_mem _ gw_1_3)) (hts (.instantiable RX5 2) (List.mem_cons_of_mem _ gw_1_4)) (hts (.initialized RX5) (List.mem_cons_of_mem _ gw_1_5)) hH (by decide) rfl (by decide +kernel) (Nat.le_of_ble_eq_true rfl) (Nat.le_of_ble_eq_true rfl) dX0_init_27 (fun H hH => ?_)
  obtain ⟨a19, e20, hf⟩ := ol hf
  rw [e20]
  obtain ⟨S21, e22, hf⟩ := ol hf
  rw [e22] at hH
  refine W.widen (k := 3) (n := 8) (by omega) (by omega) ?_
  refine lv_dup hx hb dX0_init_30 rfl ?_
  refine lv_sipush (v := 160) hx hb dX0_init_31 (by decide) ?_
  obtain ⟨r23, e24, hf⟩ := ob hf
  refine r_callIv (As := [.int 160]) ⟨hx, hb, hml, hown, hts⟩ (c_X5_init l D S21 a19 160 r23 e24) (cwI 1 hts (gwI (gwC gw_0_15)) rfl rfl rfl (hts (.initialized RX5) (List.mem_cons_of_mem _ gw_1_5)) (hts (.methodLink RX0 23 yX5_init) (List.mem_cons_of_mem _ gw_1_9)) (hts (.instanceMethod yX5_init) (List.mem_cons_of_mem _ gw_1_10)) rfl (by decide +kernel) ⟨Nat.le_of_ble_eq_true rfl, Nat.le_of_ble_eq_true rfl⟩) hH hNE rfl hl.1 rfl (Nat.le_of_ble_eq_true rfl) dX0_init_34 ⟨(Nat.le_of_ble_eq_true rfl), (Nat.le_of_ble_eq_true rfl)⟩ (fun H locs hH => ?_)
  refine W.widen (k := 4) (n := 188) (by omega) (by omega) ?_
  obtain ⟨ek25, hf⟩ := oc hf
  refine r_putQ hx hb 3 hts (fun w h => List.mem_cons_of_mem _ (mwsX00 w h)) tyX0 tyX0_ok nmX0 hown hH ek25 (by decide) rfl 2 (by decide) rfl (hts (.fieldLink RX0 26 "Housestyle$Book" "hits" "LHousestyle$Row;") (List.mem_cons_of_mem _ gw_1_6)) (fun _ h9 => h9) (Or.inr ⟨rfl, hin, rfl⟩) (ty := (.object "Housestyle$Row")) (by decide +kernel) rfl rfl dX0_init_37 (fun H locs hH => ?_)
  obtain ⟨S26, e27, hf⟩ := ol hf
  rw [e27] at hH
  have hr9 := Option.some.inj hf
  subst hr9
  exact e_v hx hb hr hlocks hH dX0_init_40
set_option maxRecDepth 100000 in
def f_X1_init (S : PS) (a0 : Nat) : Option (PS) := lt (kZ S) fun a1 => lt (wN S 9 0) fun S3 => (f_X5_init S3 a1 12).bind fun r5 => if kK r5 a0 = 5 then (lt (wQ r5 a0 0 (some a1)) fun S8 => if kK S8 a0 = 5 then ((kQ S8 a0 0).bind fun a11 => if kK S8 a11 = 9 then ((f_X5_reset S8 a11 12).bind fun r14 => lt (kZ r14) fun a16 => lt (wN r14 9 0) fun S18 => (f_X5_init S18 a16 20).bind fun r20 => if kK r20 a0 = 5 then (lt (wQ r20 a0 1 (some a16)) fun S23 => lt (kZ S23) fun a25 => lt (wN S23 9 0) fun S27 => (f_X5_init S27 a25 20).bind fun r29 => if kK r29 a0 = 5 then (lt (wQ r29 a0 2 (some a25)) fun S32 => lt (kZ S32) fun a34 => lt (wN S32 9 0) fun S36 => (f_X5_init S36 a34 20).bind fun r38 => if kK r38 a0 = 5 then (lt (wQ r38 a0 3 (some a34)) fun S41 => if kK S41 a0 = 5 then (lt (wI S41 a0 4 0) fun S44 => if kK S44 a0 = 5 then (lt (wI S44 a0 5 0) fun S47 => some S47) else none) else none) else none) else none) else none) else none) else none) else none
abbrev rmX1_init : Room := { frames := 2, cells := 8, slots := 728, locals := 37 }
set_option maxHeartbeats 4000000 in
set_option maxRecDepth 100000 in
theorem c_X1_init (l : Launch) (D : va_G × Nat) (S : PS) (a0 : Nat) (r : PS) (hf : f_X1_init S a0 = some r) : MV l D yX1_init wsX1_init rmX1_init S [.ref a0] r 8 728 := by
  unfold f_X1_init at hf
  refine Met.ofW (cc := cX1_init) (maxL := 1) (ret := none) (by decide) rfl ?_
  intro p e s m args below meth c s₁ B hml hv
  obtain ⟨rfl, hH0, hNE⟩ := hv
  have hx := B.exec
  have hb := B.bytes
  have hr := B.returns
  have hts := atoms_spec (ws := wsX1_init) B.pre
  have hown : s.vm.findClass RX1 = some m.cls := findClass_of_methodNamed B.named
  have hlocks := B.notSynchronized
  have hin : meth.name = "<init>" := (name_of_methodNamed B.named B.method).1
  have hH : HI D S S s s.heap [] := HI.start hH0
  have hl := lv_entry ([.ref a0]) (n := 1) (Nat.le_of_ble_eq_true rfl)
  rw [lg_entry_eq]
  generalize (lg_sl ([.ref a0]) ++ List.replicate (1 - (lg_sl ([.ref a0])).length) Slot.unset).toArray = ls at hl ⊢
  have hl : lv_has ls 1 [(0, .ref a0)] := hl
  refine lv_aload_n hx hb dX1_init_0 rfl (lv_at hl 0 rfl) ?_
  refine W.objInit hx hb hown (hts (.methodLink RX1 3 objectInit) (List.mem_cons_of_mem _ gw_8_19)) (hts (.instanceMethod objectInit) (List.mem_cons_of_mem _ gw_0_2)) (hts (.code objectInit ⟨#[0xb1]⟩ 1 none) (List.mem_cons_of_mem _ gw_0_3)) rfl (by rw [hml]; exact hl.1) rfl dX1_init_1 (Nat.le_of_ble_eq_true rfl) (Nat.le_of_ble_eq_true rfl) ?_
  refine W.eq (g2 := F0 m 4 ls []) rfl ?_
  refine lv_aload_n hx hb dX1_init_4 rfl (lv_at hl 0 rfl) ?_
  refine r_new hx hb 8 hts (fun w h => List.mem_cons_of_mem _ (mwsX50 w h)) tyX5 tyX5_ok hown (hts (.classLink RX1 9 RX5) (List.mem_cons_of_mem _ gw_8_20)) (hts (.instantiable RX5 2) (List.mem_cons_of_mem _ gw_1_4)) (hts (.initialized RX5) (List.mem_cons_of_mem _ gw_1_5)) hH (by decide) rfl (by decide +kernel) (Nat.le_of_ble_eq_true rfl) (Nat.le_of_ble_eq_true rfl) dX1_init_5 (fun H hH => ?_)
  obtain ⟨a1, e2, hf⟩ := ol hf
  rw [e2]
  obtain ⟨S3, e4, hf⟩ := ol hf
  rw [e4] at hH
  refine W.widen (k := 1) (n := 2) (by omega) (by omega) ?_
  refine lv_dup hx hb dX1_init_8 rfl ?_
  refine lv_bipush (v := 12) hx hb dX1_init_9 (by decide) ?_
  obtain ⟨r5, e6, hf⟩ := ob hf
  refine r_callIv (As := [.int 12]) ⟨hx, hb, hml, hown, hts⟩ (c_X5_init l D S3 a1 12 r5 e6) (cwI 1 hts (gwI (gwC gw_0_15)) rfl rfl rfl (hts (.initialized RX5) (List.mem_cons_of_mem _ gw_1_5)) (hts (.methodLink RX1 11 yX5_init) (List.mem_cons_of_mem _ gw_9_3)) (hts (.instanceMethod yX5_init) (List.mem_cons_of_mem _ gw_1_10)) rfl (by decide +kernel) ⟨Nat.le_of_ble_eq_true rfl, Nat.le_of_ble_eq_true rfl⟩) hH hNE rfl hl.1 rfl (Nat.le_of_ble_eq_true rfl) dX1_init_11 ⟨(Nat.le_of_ble_eq_true rfl), (Nat.le_of_ble_eq_true rfl)⟩ (fun H locs hH => ?_)
  refine W.widen (k := 2) (n := 182) (by omega) (by omega) ?_
  obtain ⟨ek7, hf⟩ := oc hf
  refine r_putQ hx hb 4 hts (fun w h => List.mem_cons_of_mem _ (mwsX10 w h)) tyX1 tyX1_ok nmX1 hown hH ek7 (by decide) rfl 0 (by decide) rfl (hts (.fieldLink RX1 14 "Housestyle$Desk" "ranks" "LHousestyle$Row;") (List.mem_cons_of_mem _ gw_8_21)) (fun _ h9 => h9) (Or.inr ⟨rfl, hin, rfl⟩) (ty := (.object "Housestyle$Row")) (by decide +kernel) rfl rfl dX1_init_14 (fun H locs hH => ?_)
  obtain ⟨S8, e9, hf⟩ := ol hf
  rw [e9] at hH
  refine lv_aload_n hx hb dX1_init_17 rfl (lv_at hl 0 rfl) ?_
  obtain ⟨ek10, hf⟩ := oc hf
  obtain ⟨a11, e12, hf⟩ := ob hf
  refine r_getQ hx hb 4 hts (fun w h => List.mem_cons_of_mem _ (mwsX10 w h)) hown hH ek10 (by decide) rfl 0 (by decide) rfl (hts (.fieldLink RX1 14 "Housestyle$Desk" "ranks" "LHousestyle$Row;") (List.mem_cons_of_mem _ gw_8_21)) (fun _ h9 => h9) dX1_init_18 e12 ?_
  refine lv_bipush (v := 12) hx hb dX1_init_21 (by decide) ?_
  obtain ⟨ek13, hf⟩ := oc hf
  obtain ⟨r14, e15, hf⟩ := ob hf
  refine r_callVv (As := [.int 12]) ⟨hx, hb, hml, hown, hts⟩ (c_X5_reset l D S8 a11 12 r14 e15) (cwV 1 hts (gwV gw_9_4 gw_6_10 gw_6_11 gw_1_5 gw_1_17) rfl rfl rfl (by decide +kernel) ⟨Nat.le_of_ble_eq_true rfl, Nat.le_of_ble_eq_true rfl⟩) hH hNE 8 ek13 (by decide) rfl rfl rfl hl.1 rfl (Nat.le_of_ble_eq_true rfl) dX1_init_23 ⟨(Nat.le_of_ble_eq_true rfl), (Nat.le_of_ble_eq_true rfl)⟩ (fun H locs hH => ?_)
  refine lv_aload_n hx hb dX1_init_26 rfl (lv_at hl 0 rfl) ?_
  refine r_new hx hb 8 hts (fun w h => List.mem_cons_of_mem _ (mwsX50 w h)) tyX5 tyX5_ok hown (hts (.classLink RX1 9 RX5) (List.mem_cons_of_mem _ gw_8_20)) (hts (.instantiable RX5 2) (List.mem_cons_of_mem _ gw_1_4)) (hts (.initialized RX5) (List.mem_cons_of_mem _ gw_1_5)) hH (by decide) rfl (by decide +kernel) (Nat.le_of_ble_eq_true rfl) (Nat.le_of_ble_eq_true rfl) dX1_init_27 (fun H hH => ?_)
  obtain ⟨a16, e17, hf⟩ := ol hf
  rw [e17]
  obtain ⟨S18, e19, hf⟩ := ol hf
  rw [e19] at hH
  refine W.widen (k := 3) (n := 184) (by omega) (by omega) ?_
  refine lv_dup hx hb dX1_init_30 rfl ?_
  refine lv_bipush (v := 20) hx hb dX1_init_31 (by decide) ?_
  obtain ⟨r20, e21, hf⟩ := ob hf
  refine r_callIv (As := [.int 20]) ⟨hx, hb, hml, hown, hts⟩ (c_X5_init l D S18 a16 20 r20 e21) (cwI 1 hts (gwI (gwC gw_0_15)) rfl rfl rfl (hts (.initialized RX5) (List.mem_cons_of_mem _ gw_1_5)) (hts (.methodLink RX1 11 yX5_init) (List.mem_cons_of_mem _ gw_9_3)) (hts (.instanceMethod yX5_init) (List.mem_cons_of_mem _ gw_1_10)) rfl (by decide +kernel) ⟨Nat.le_of_ble_eq_true rfl, Nat.le_of_ble_eq_true rfl⟩) hH hNE rfl hl.1 rfl (Nat.le_of_ble_eq_true rfl) dX1_init_33 ⟨(Nat.le_of_ble_eq_true rfl), (Nat.le_of_ble_eq_true rfl)⟩ (fun H locs hH => ?_)
  refine W.widen (k := 4) (n := 364) (by omega) (by omega) ?_
  obtain ⟨ek22, hf⟩ := oc hf
  refine r_putQ hx hb 4 hts (fun w h => List.mem_cons_of_mem _ (mwsX10 w h)) tyX1 tyX1_ok nmX1 hown hH ek22 (by decide) rfl 1 (by decide) rfl (hts (.fieldLink RX1 23 "Housestyle$Desk" "ignoredRules" "LHousestyle$Row;") (List.mem_cons_of_mem _ gw_8_22)) (fun _ h9 => h9) (Or.inr ⟨rfl, hin, rfl⟩) (ty := (.object "Housestyle$Row")) (by decide +kernel) rfl rfl dX1_init_36 (fun H locs hH => ?_)
  obtain ⟨S23, e24, hf⟩ := ol hf
  rw [e24] at hH
  refine lv_aload_n hx hb dX1_init_39 rfl (lv_at hl 0 rfl) ?_
  refine r_new hx hb 8 hts (fun w h => List.mem_cons_of_mem _ (mwsX50 w h)) tyX5 tyX5_ok hown (hts (.classLink RX1 9 RX5) (List.mem_cons_of_mem _ gw_8_20)) (hts (.instantiable RX5 2) (List.mem_cons_of_mem _ gw_1_4)) (hts (.initialized RX5) (List.mem_cons_of_mem _ gw_1_5)) hH (by decide) rfl (by decide +kernel) (Nat.le_of_ble_eq_true rfl) (Nat.le_of_ble_eq_true rfl) dX1_init_40 (fun H hH => ?_)
  obtain ⟨a25, e26, hf⟩ := ol hf
  rw [e26]
  obtain ⟨S27, e28, hf⟩ := ol hf
  rw [e28] at hH
  refine W.widen (k := 5) (n := 366) (by omega) (by omega) ?_
  refine lv_dup hx hb dX1_init_43 rfl ?_
  refine lv_bipush (v := 20) hx hb dX1_init_44 (by decide) ?_
  obtain ⟨r29, e30, hf⟩ := ob hf
  refine r_callIv (As := [.int 20]) ⟨hx, hb, hml, hown, hts⟩ (c_X5_init l D S27 a25 20 r29 e30) (cwI 1 hts (gwI (gwC gw_0_15)) rfl rfl rfl (hts (.initialized RX5) (List.mem_cons_of_mem _ gw_1_5)) (hts (.methodLink RX1 11 yX5_init) (List.mem_cons_of_mem _ gw_9_3)) (hts (.instanceMethod yX5_init) (List.mem_cons_of_mem _ gw_1_10)) rfl (by decide +kernel) ⟨Nat.le_of_ble_eq_true rfl, Nat.le_of_ble_eq_true rfl⟩) hH hNE rfl hl.1 rfl (Nat.le_of_ble_eq_true rfl) dX1_init_46 ⟨(Nat.le_of_ble_eq_true rfl), (Nat.le_of_ble_eq_true rfl)⟩ (fun H locs hH => ?_)
  refine W.widen (k := 6) (n := 546) (by omega) (by omega) ?_
  obtain ⟨ek31, hf⟩ := oc hf
  refine r_putQ hx hb 4 hts (fun w h => List.mem_cons_of_mem _ (mwsX10 w h)) tyX1 tyX1_ok nmX1 hown hH ek31 (by decide) rfl 2 (by decide) rfl (hts (.fieldLink RX1 26 "Housestyle$Desk" "ignoredFroms" "LHousestyle$Row;") (List.mem_cons_of_mem _ gw_8_23)) (fun _ h9 => h9) (Or.inr ⟨rfl, hin, rfl⟩) (ty := (.object "Housestyle$Row")) (by decide +kernel) rfl rfl dX1_init_49 (fun H locs hH => ?_)
  obtain ⟨S32, e33, hf⟩ := ol hf
  rw [e33] at hH
  refine lv_aload_n hx hb dX1_init_52 rfl (lv_at hl 0 rfl) ?_
  refine r_new hx hb 8 hts (fun w h => List.mem_cons_of_mem _ (mwsX50 w h)) tyX5 tyX5_ok hown (hts (.classLink RX1 9 RX5) (List.mem_cons_of_mem _ gw_8_20)) (hts (.instantiable RX5 2) (List.mem_cons_of_mem _ gw_1_4)) (hts (.initialized RX5) (List.mem_cons_of_mem _ gw_1_5)) hH (by decide) rfl (by decide +kernel) (Nat.le_of_ble_eq_true rfl) (Nat.le_of_ble_eq_true rfl) dX1_init_53 (fun H hH => ?_)
  obtain ⟨a34, e35, hf⟩ := ol hf
  rw [e35]
  obtain ⟨S36, e37, hf⟩ := ol hf
  rw [e37] at hH
  refine W.widen (k := 7) (n := 548) (by omega) (by omega) ?_
  refine lv_dup hx hb dX1_init_56 rfl ?_
  refine lv_bipush (v := 20) hx hb dX1_init_57 (by decide) ?_
  obtain ⟨r38, e39, hf⟩ := ob hf
  refine r_callIv (As := [.int 20]) ⟨hx, hb, hml, hown, hts⟩ (c_X5_init l D S36 a34 20 r38 e39) (cwI 1 hts (gwI (gwC gw_0_15)) rfl rfl rfl (hts (.initialized RX5) (List.mem_cons_of_mem _ gw_1_5)) (hts (.methodLink RX1 11 yX5_init) (List.mem_cons_of_mem _ gw_9_3)) (hts (.instanceMethod yX5_init) (List.mem_cons_of_mem _ gw_1_10)) rfl (by decide +kernel) ⟨Nat.le_of_ble_eq_true rfl, Nat.le_of_ble_eq_true rfl⟩) hH hNE rfl hl.1 rfl (Nat.le_of_ble_eq_true rfl) dX1_init_59 ⟨(Nat.le_of_ble_eq_true rfl), (Nat.le_of_ble_eq_true rfl)⟩ (fun H locs hH => ?_)
  refine W.widen (k := 8) (n := 728) (by omega) (by omega) ?_
  obtain ⟨ek40, hf⟩ := oc hf
  refine r_putQ hx hb 4 hts (fun w h => List.mem_cons_of_mem _ (mwsX10 w h)) tyX1 tyX1_ok nmX1 hown hH ek40 (by decide) rfl 3 (by decide) rfl (hts (.fieldLink RX1 29 "Housestyle$Desk" "ignoredLengths" "LHousestyle$Row;") (List.mem_cons_of_mem _ gw_9_0)) (fun _ h9 => h9) (Or.inr ⟨rfl, hin, rfl⟩) (ty := (.object "Housestyle$Row")) (by decide +kernel) rfl rfl dX1_init_62 (fun H locs hH => ?_)
  obtain ⟨S41, e42, hf⟩ := ol hf
  rw [e42] at hH
  refine lv_aload_n hx hb dX1_init_65 rfl (lv_at hl 0 rfl) ?_
  refine lv_iconst (v := 0) hx hb dX1_init_66 (by decide) ?_
  obtain ⟨ek43, hf⟩ := oc hf
  refine r_putI hx hb 4 hts (fun w h => List.mem_cons_of_mem _ (mwsX10 w h)) tyX1 tyX1_ok nmX1 hown hH ek43 (by decide) rfl 4 (by decide) rfl (hts (.fieldLink RX1 32 "Housestyle$Desk" "numbersBelow" "I") (List.mem_cons_of_mem _ gw_9_1)) (fun _ h9 => h9) (Or.inl rfl) (ty := .int) (by decide +kernel) rfl rfl dX1_init_67 (fun H locs hH => ?_)
  obtain ⟨S44, e45, hf⟩ := ol hf
  rw [e45] at hH
  refine lv_aload_n hx hb dX1_init_70 rfl (lv_at hl 0 rfl) ?_
  refine lv_iconst (v := 0) hx hb dX1_init_71 (by decide) ?_
  obtain ⟨ek46, hf⟩ := oc hf
  refine r_putI hx hb 4 hts (fun w h => List.mem_cons_of_mem _ (mwsX10 w h)) tyX1 tyX1_ok nmX1 hown hH ek46 (by decide) rfl 5 (by decide) rfl (hts (.fieldLink RX1 36 "Housestyle$Desk" "leftOut" "I") (List.mem_cons_of_mem _ gw_9_2)) (fun _ h9 => h9) (Or.inl rfl) (ty := .int) (by decide +kernel) rfl rfl dX1_init_72 (fun H locs hH => ?_)
  obtain ⟨S47, e48, hf⟩ := ol hf
  rw [e48] at hH
  have hr9 := Option.some.inj hf
  subst hr9
  exact e_v hx hb hr hlocks hH dX1_init_75
set_option maxRecDepth 100000 in
def f_X2_init (S : PS) (a0 : Nat) (b1 : Nat) (b2 : Nat) : Option (PS) := if kK S a0 = 6 then (lt (wQ S a0 0 (some b1)) fun S2 => if kK S2 a0 = 6 then (lt (wQ S2 a0 1 (some b2)) fun S5 => lt (kZ S5) fun a7 => lt (wN S5 9 0) fun S9 => (f_X5_init S9 a7 160).bind fun r11 => if kK r11 a0 = 6 then (lt (wQ r11 a0 2 (some a7)) fun S14 => lt (kZ S14) fun a16 => lt (wN S14 9 0) fun S18 => (f_X5_init S18 a16 160).bind fun r20 => if kK r20 a0 = 6 then (lt (wQ r20 a0 3 (some a16)) fun S23 => lt (kZ S23) fun a25 => lt (wN S23 9 0) fun S27 => (f_X5_init S27 a25 160).bind fun r29 => if kK r29 a0 = 6 then (lt (wQ r29 a0 4 (some a25)) fun S32 => lt (kZ S32) fun a34 => lt (wN S32 9 0) fun S36 => (f_X5_init S36 a34 160).bind fun r38 => if kK r38 a0 = 6 then (lt (wQ r38 a0 5 (some a34)) fun S41 => some S41) else none) else none) else none) else none) else none) else none
abbrev rmX2_init : Room := { frames := 2, cells := 8, slots := 728, locals := 37 }
set_option maxHeartbeats 4000000 in
set_option maxRecDepth 100000 in
theorem c_X2_init (l : Launch) (D : va_G × Nat) (S : PS) (a0 : Nat) (b1 : Nat) (b2 : Nat) (r : PS) (hf : f_X2_init S a0 b1 b2 = some r) : MV l D yX2_init wsX2_init rmX2_init S [.ref a0, .ref b1, .ref b2] r 8 728 := by
  unfold f_X2_init at hf
  refine Met.ofW (cc := cX2_init) (maxL := 3) (ret := none) (by decide) rfl ?_
  intro p e s m args below meth c s₁ B hml hv
  obtain ⟨rfl, hH0, hNE⟩ := hv
  have hx := B.exec
  have hb := B.bytes
  have hr := B.returns
  have hts := atoms_spec (ws := wsX2_init) B.pre
  have hown : s.vm.findClass RX2 = some m.cls := findClass_of_methodNamed B.named
  have hlocks := B.notSynchronized
  have hin : meth.name = "<init>" := (name_of_methodNamed B.named B.method).1
  have hH : HI D S S s s.heap [] := HI.start hH0
  have hl := lv_entry ([.ref a0, .ref b1, .ref b2]) (n := 3) (Nat.le_of_ble_eq_true rfl)
  rw [lg_entry_eq]
  generalize (lg_sl ([.ref a0, .ref b1, .ref b2]) ++ List.replicate (3 - (lg_sl ([.ref a0, .ref b1, .ref b2])).length) Slot.unset).toArray = ls at hl ⊢
  have hl : lv_has ls 3 [(0, .ref a0), (1, .ref b1), (2, .ref b2)] := hl
  refine lv_aload_n hx hb dX2_init_0 rfl (lv_at hl 0 rfl) ?_
  refine W.objInit hx hb hown (hts (.methodLink RX2 3 objectInit) (List.mem_cons_of_mem _ gw_10_11)) (hts (.instanceMethod objectInit) (List.mem_cons_of_mem _ gw_0_2)) (hts (.code objectInit ⟨#[0xb1]⟩ 1 none) (List.mem_cons_of_mem _ gw_0_3)) rfl (by rw [hml]; exact hl.1) rfl dX2_init_1 (Nat.le_of_ble_eq_true rfl) (Nat.le_of_ble_eq_true rfl) ?_
  refine W.eq (g2 := F0 m 4 ls []) rfl ?_
  refine lv_aload_n hx hb dX2_init_4 rfl (lv_at hl 0 rfl) ?_
  refine lv_aload_n hx hb dX2_init_5 rfl (lv_at hl 1 rfl) ?_
  obtain ⟨ek1, hf⟩ := oc hf
  refine r_putQ hx hb 5 hts (fun w h => List.mem_cons_of_mem _ (mwsX20 w h)) tyX2 tyX2_ok nmX2 hown hH ek1 (by decide) rfl 0 (by decide) rfl (hts (.fieldLink RX2 9 "Housestyle$Findings" "book" "LHousestyle$Book;") (List.mem_cons_of_mem _ gw_10_12)) (fun _ h9 => h9) (Or.inr ⟨rfl, hin, rfl⟩) (ty := (.object "Housestyle$Book")) (by decide +kernel) rfl rfl dX2_init_6 (fun H locs hH => ?_)
  obtain ⟨S2, e3, hf⟩ := ol hf
  rw [e3] at hH
  refine lv_aload_n hx hb dX2_init_9 rfl (lv_at hl 0 rfl) ?_
  refine lv_aload_n hx hb dX2_init_10 rfl (lv_at hl 2 rfl) ?_
  obtain ⟨ek4, hf⟩ := oc hf
  refine r_putQ hx hb 5 hts (fun w h => List.mem_cons_of_mem _ (mwsX20 w h)) tyX2 tyX2_ok nmX2 hown hH ek4 (by decide) rfl 1 (by decide) rfl (hts (.fieldLink RX2 15 "Housestyle$Findings" "tokens" "LHousestyle$Tokens;") (List.mem_cons_of_mem _ gw_10_13)) (fun _ h9 => h9) (Or.inr ⟨rfl, hin, rfl⟩) (ty := (.object "Housestyle$Tokens")) (by decide +kernel) rfl rfl dX2_init_11 (fun H locs hH => ?_)
  obtain ⟨S5, e6, hf⟩ := ol hf
  rw [e6] at hH
  refine lv_aload_n hx hb dX2_init_14 rfl (lv_at hl 0 rfl) ?_
  refine r_new hx hb 8 hts (fun w h => List.mem_cons_of_mem _ (mwsX50 w h)) tyX5 tyX5_ok hown (hts (.classLink RX2 19 RX5) (List.mem_cons_of_mem _ gw_10_14)) (hts (.instantiable RX5 2) (List.mem_cons_of_mem _ gw_1_4)) (hts (.initialized RX5) (List.mem_cons_of_mem _ gw_1_5)) hH (by decide) rfl (by decide +kernel) (Nat.le_of_ble_eq_true rfl) (Nat.le_of_ble_eq_true rfl) dX2_init_15 (fun H hH => ?_)
  obtain ⟨a7, e8, hf⟩ := ol hf
  rw [e8]
  obtain ⟨S9, e10, hf⟩ := ol hf
  rw [e10] at hH
  refine W.widen (k := 1) (n := 2) (by omega) (by omega) ?_
  refine lv_dup hx hb dX2_init_18 rfl ?_
  refine lv_sipush (v := 160) hx hb dX2_init_19 (by decide) ?_
  obtain ⟨r11, e12, hf⟩ := ob hf
  refine r_callIv (As := [.int 160]) ⟨hx, hb, hml, hown, hts⟩ (c_X5_init l D S9 a7 160 r11 e12) (cwI 1 hts (gwI (gwC gw_0_15)) rfl rfl rfl (hts (.initialized RX5) (List.mem_cons_of_mem _ gw_1_5)) (hts (.methodLink RX2 21 yX5_init) (List.mem_cons_of_mem _ gw_10_19)) (hts (.instanceMethod yX5_init) (List.mem_cons_of_mem _ gw_1_10)) rfl (by decide +kernel) ⟨Nat.le_of_ble_eq_true rfl, Nat.le_of_ble_eq_true rfl⟩) hH hNE rfl hl.1 rfl (Nat.le_of_ble_eq_true rfl) dX2_init_22 ⟨(Nat.le_of_ble_eq_true rfl), (Nat.le_of_ble_eq_true rfl)⟩ (fun H locs hH => ?_)
  refine W.widen (k := 2) (n := 182) (by omega) (by omega) ?_
  obtain ⟨ek13, hf⟩ := oc hf
  refine r_putQ hx hb 5 hts (fun w h => List.mem_cons_of_mem _ (mwsX20 w h)) tyX2 tyX2_ok nmX2 hown hH ek13 (by decide) rfl 2 (by decide) rfl (hts (.fieldLink RX2 24 "Housestyle$Findings" "covered" "LHousestyle$Row;") (List.mem_cons_of_mem _ gw_10_15)) (fun _ h9 => h9) (Or.inr ⟨rfl, hin, rfl⟩) (ty := (.object "Housestyle$Row")) (by decide +kernel) rfl rfl dX2_init_25 (fun H locs hH => ?_)
  obtain ⟨S14, e15, hf⟩ := ol hf
  rw [e15] at hH
  refine lv_aload_n hx hb dX2_init_28 rfl (lv_at hl 0 rfl) ?_
  refine r_new hx hb 8 hts (fun w h => List.mem_cons_of_mem _ (mwsX50 w h)) tyX5 tyX5_ok hown (hts (.classLink RX2 19 RX5) (List.mem_cons_of_mem _ gw_10_14)) (hts (.instantiable RX5 2) (List.mem_cons_of_mem _ gw_1_4)) (hts (.initialized RX5) (List.mem_cons_of_mem _ gw_1_5)) hH (by decide) rfl (by decide +kernel) (Nat.le_of_ble_eq_true rfl) (Nat.le_of_ble_eq_true rfl) dX2_init_29 (fun H hH => ?_)
  obtain ⟨a16, e17, hf⟩ := ol hf
  rw [e17]
  obtain ⟨S18, e19, hf⟩ := ol hf
  rw [e19] at hH
  refine W.widen (k := 3) (n := 184) (by omega) (by omega) ?_
  refine lv_dup hx hb dX2_init_32 rfl ?_
  refine lv_sipush (v := 160) hx hb dX2_init_33 (by decide) ?_
  obtain ⟨r20, e21, hf⟩ := ob hf
  refine r_callIv (As := [.int 160]) ⟨hx, hb, hml, hown, hts⟩ (c_X5_init l D S18 a16 160 r20 e21) (cwI 1 hts (gwI (gwC gw_0_15)) rfl rfl rfl (hts (.initialized RX5) (List.mem_cons_of_mem _ gw_1_5)) (hts (.methodLink RX2 21 yX5_init) (List.mem_cons_of_mem _ gw_10_19)) (hts (.instanceMethod yX5_init) (List.mem_cons_of_mem _ gw_1_10)) rfl (by decide +kernel) ⟨Nat.le_of_ble_eq_true rfl, Nat.le_of_ble_eq_true rfl⟩) hH hNE rfl hl.1 rfl (Nat.le_of_ble_eq_true rfl) dX2_init_36 ⟨(Nat.le_of_ble_eq_true rfl), (Nat.le_of_ble_eq_true rfl)⟩ (fun H locs hH => ?_)
  refine W.widen (k := 4) (n := 364) (by omega) (by omega) ?_
  obtain ⟨ek22, hf⟩ := oc hf
  refine r_putQ hx hb 5 hts (fun w h => List.mem_cons_of_mem _ (mwsX20 w h)) tyX2 tyX2_ok nmX2 hown hH ek22 (by decide) rfl 3 (by decide) rfl (hts (.fieldLink RX2 28 "Housestyle$Findings" "takenAt" "LHousestyle$Row;") (List.mem_cons_of_mem _ gw_10_16)) (fun _ h9 => h9) (Or.inr ⟨rfl, hin, rfl⟩) (ty := (.object "Housestyle$Row")) (by decide +kernel) rfl rfl dX2_init_39 (fun H locs hH => ?_)
  obtain ⟨S23, e24, hf⟩ := ol hf
  rw [e24] at hH
  refine lv_aload_n hx hb dX2_init_42 rfl (lv_at hl 0 rfl) ?_
  refine r_new hx hb 8 hts (fun w h => List.mem_cons_of_mem _ (mwsX50 w h)) tyX5 tyX5_ok hown (hts (.classLink RX2 19 RX5) (List.mem_cons_of_mem _ gw_10_14)) (hts (.instantiable RX5 2) (List.mem_cons_of_mem _ gw_1_4)) (hts (.initialized RX5) (List.mem_cons_of_mem _ gw_1_5)) hH (by decide) rfl (by decide +kernel) (Nat.le_of_ble_eq_true rfl) (Nat.le_of_ble_eq_true rfl) dX2_init_43 (fun H hH => ?_)
  obtain ⟨a25, e26, hf⟩ := ol hf
  rw [e26]
  obtain ⟨S27, e28, hf⟩ := ol hf
  rw [e28] at hH
  refine W.widen (k := 5) (n := 366) (by omega) (by omega) ?_
  refine lv_dup hx hb dX2_init_46 rfl ?_
  refine lv_sipush (v := 160) hx hb dX2_init_47 (by decide) ?_
  obtain ⟨r29, e30, hf⟩ := ob hf
  refine r_callIv (As := [.int 160]) ⟨hx, hb, hml, hown, hts⟩ (c_X5_init l D S27 a25 160 r29 e30) (cwI 1 hts (gwI (gwC gw_0_15)) rfl rfl rfl (hts (.initialized RX5) (List.mem_cons_of_mem _ gw_1_5)) (hts (.methodLink RX2 21 yX5_init) (List.mem_cons_of_mem _ gw_10_19)) (hts (.instanceMethod yX5_init) (List.mem_cons_of_mem _ gw_1_10)) rfl (by decide +kernel) ⟨Nat.le_of_ble_eq_true rfl, Nat.le_of_ble_eq_true rfl⟩) hH hNE rfl hl.1 rfl (Nat.le_of_ble_eq_true rfl) dX2_init_50 ⟨(Nat.le_of_ble_eq_true rfl), (Nat.le_of_ble_eq_true rfl)⟩ (fun H locs hH => ?_)
  refine W.widen (k := 6) (n := 546) (by omega) (by omega) ?_
  obtain ⟨ek31, hf⟩ := oc hf
  refine r_putQ hx hb 5 hts (fun w h => List.mem_cons_of_mem _ (mwsX20 w h)) tyX2 tyX2_ok nmX2 hown hH ek31 (by decide) rfl 4 (by decide) rfl (hts (.fieldLink RX2 31 "Housestyle$Findings" "itsTokens" "LHousestyle$Row;") (List.mem_cons_of_mem _ gw_10_17)) (fun _ h9 => h9) (Or.inr ⟨rfl, hin, rfl⟩) (ty := (.object "Housestyle$Row")) (by decide +kernel) rfl rfl dX2_init_53 (fun H locs hH => ?_)
  obtain ⟨S32, e33, hf⟩ := ol hf
  rw [e33] at hH
  refine lv_aload_n hx hb dX2_init_56 rfl (lv_at hl 0 rfl) ?_
  refine r_new hx hb 8 hts (fun w h => List.mem_cons_of_mem _ (mwsX50 w h)) tyX5 tyX5_ok hown (hts (.classLink RX2 19 RX5) (List.mem_cons_of_mem _ gw_10_14)) (hts (.instantiable RX5 2) (List.mem_cons_of_mem _ gw_1_4)) (hts (.initialized RX5) (List.mem_cons_of_mem _ gw_1_5)) hH (by decide) rfl (by decide +kernel) (Nat.le_of_ble_eq_true rfl) (Nat.le_of_ble_eq_true rfl) dX2_init_57 (fun H hH => ?_)
  obtain ⟨a34, e35, hf⟩ := ol hf
  rw [e35]
  obtain ⟨S36, e37, hf⟩ := ol hf
  rw [e37] at hH
  refine W.widen (k := 7) (n := 548) (by omega) (by omega) ?_
  refine lv_dup hx hb dX2_init_60 rfl ?_
  refine lv_sipush (v := 160) hx hb dX2_init_61 (by decide) ?_
  obtain ⟨r38, e39, hf⟩ := ob hf
  refine r_callIv (As := [.int 160]) ⟨hx, hb, hml, hown, hts⟩ (c_X5_init l D S36 a34 160 r38 e39) (cwI 1 hts (gwI (gwC gw_0_15)) rfl rfl rfl (hts (.initialized RX5) (List.mem_cons_of_mem _ gw_1_5)) (hts (.methodLink RX2 21 yX5_init) (List.mem_cons_of_mem _ gw_10_19)) (hts (.instanceMethod yX5_init) (List.mem_cons_of_mem _ gw_1_10)) rfl (by decide +kernel) ⟨Nat.le_of_ble_eq_true rfl, Nat.le_of_ble_eq_true rfl⟩) hH hNE rfl hl.1 rfl (Nat.le_of_ble_eq_true rfl) dX2_init_64 ⟨(Nat.le_of_ble_eq_true rfl), (Nat.le_of_ble_eq_true rfl)⟩ (fun H locs hH => ?_)
  refine W.widen (k := 8) (n := 728) (by omega) (by omega) ?_
  obtain ⟨ek40, hf⟩ := oc hf
  refine r_putQ hx hb 5 hts (fun w h => List.mem_cons_of_mem _ (mwsX20 w h)) tyX2 tyX2_ok nmX2 hown hH ek40 (by decide) rfl 5 (by decide) rfl (hts (.fieldLink RX2 34 "Housestyle$Findings" "itsRules" "LHousestyle$Row;") (List.mem_cons_of_mem _ gw_10_18)) (fun _ h9 => h9) (Or.inr ⟨rfl, hin, rfl⟩) (ty := (.object "Housestyle$Row")) (by decide +kernel) rfl rfl dX2_init_67 (fun H locs hH => ?_)
  obtain ⟨S41, e42, hf⟩ := ol hf
  rw [e42] at hH
  have hr9 := Option.some.inj hf
  subst hr9
  exact e_v hx hb hr hlocks hH dX2_init_70
set_option maxRecDepth 100000 in
def f_X9_init_b70 (a0 : Nat) (x52 : Int32) (S53 : PS) : Option ((Int32 × PS) ⊕ ((PS))) := if (4 : Int32) ≤ x52 then (some (.inr S53)) else (if kK S53 a0 = 13 then ((kQ S53 a0 4).bind fun a89 => lt (kZ S53) fun a91 => lt (wN S53 5 0) fun S93 => (f_X1_init S93 a91).bind fun r95 => if kK r95 a89 = 3 then ((f_Jx4a65c_add_9ea2d r95 a89 a91).bind fun r98 => lt r98.1 fun S100 => lt (x52 + 1) fun x102 => some (.inl (x102, S100))) else none) else none)
set_option maxRecDepth 100000 in
def f_X9_init (S : PS) (a0 : Nat) : Option (PS) := lt (kZ S) fun a1 => lt (wN S 9 0) fun S3 => (f_X5_init S3 a1 20).bind fun r5 => if kK r5 a0 = 13 then (lt (wQ r5 a0 0 (some a1)) fun S8 => lt (kZ S8) fun a10 => lt (wN S8 11 0) fun S12 => (f_X7_init S12 a10).bind fun r14 => if kK r14 a0 = 13 then (lt (wQ r14 a0 1 (some a10)) fun S17 => lt (kZ S17) fun a19 => lt (wN S17 12 0) fun S21 => if kK S21 a0 = 13 then ((kQ S21 a0 1).bind fun a24 => if kK S21 a24 = 11 then ((kQ S21 a24 0).bind fun a27 => (f_X8_init S21 a19 a27).bind fun r29 => if kK r29 a0 = 13 then (lt (wQ r29 a0 2 (some a19)) fun S32 => lt (kZ S32) fun a34 => lt (wN S32 4 0) fun S36 => (f_X0_init S36 a34).bind fun r38 => if kK r38 a0 = 13 then (lt (wQ r38 a0 3 (some a34)) fun S41 => lt (kZ S41) fun a43 => lt (wN S41 3 0) fun S45 => (f_Jx4a65c_init_da8c8 S45 a43).bind fun r47 => if kK r47 a0 = 13 then (lt (wQ r47 a0 4 (some a43)) fun S50 => lt (fun (S54 : PS) => lt (kZ S54) fun a57 => lt (wN S54 6 0) fun S59 => if kK S59 a0 = 13 then ((kQ S59 a0 3).bind fun a62 => (kQ S59 a0 2).bind fun a64 => (f_X2_init S59 a57 a62 a64).bind fun r66 => if kK r66 a0 = 13 then (lt (wQ r66 a0 5 (some a57)) fun S69 => lt (kZ S69) fun a71 => lt (wN S69 9 0) fun S73 => (f_X5_init S73 a71 180).bind fun r75 => if kK r75 a0 = 13 then (lt (wQ r75 a0 6 (some a71)) fun S78 => if kK S78 a0 = 13 then (lt (wI S78 a0 7 0) fun S81 => if kK S81 a0 = 13 then (lt (wI S81 a0 8 (-1)) fun S84 => some S84) else none) else none) else none) else none) else none) fun k55 => (iter (fun (v : Int32 × PS) => f_X9_init_b70 a0 v.1 v.2) 5 (0, S50)).bind (fun (v : PS) => k55 v)) else none) else none) else none) else none) else none) else none) else none
abbrev rmX9_init : Room := { frames := 9, cells := 91, slots := 6896, locals := 258 }
set_option maxHeartbeats 4000000 in
set_option maxRecDepth 100000 in
theorem c_X9_init (l : Launch) (D : va_G × Nat) (S : PS) (a0 : Nat) (r : PS) (hf : f_X9_init S a0 = some r) : MV l D yX9_init wsX9_init rmX9_init S [.ref a0] r 91 6896 := by
  unfold f_X9_init at hf
  refine Met.ofW (cc := cX9_init) (maxL := 2) (ret := none) (by decide) rfl ?_
  intro p e s m args below meth c s₁ B hml hv
  obtain ⟨rfl, hH0, hNE⟩ := hv
  have hx := B.exec
  have hb := B.bytes
  have hr := B.returns
  have hts := atoms_spec (ws := wsX9_init) B.pre
  have hown : s.vm.findClass RX9 = some m.cls := findClass_of_methodNamed B.named
  have hlocks := B.notSynchronized
  have hin : meth.name = "<init>" := (name_of_methodNamed B.named B.method).1
  have hH : HI D S S s s.heap [] := HI.start hH0
  have hl := lv_entry ([.ref a0]) (n := 2) (Nat.le_of_ble_eq_true rfl)
  rw [lg_entry_eq]
  generalize (lg_sl ([.ref a0]) ++ List.replicate (2 - (lg_sl ([.ref a0])).length) Slot.unset).toArray = ls at hl ⊢
  have hl : lv_has ls 2 [(0, .ref a0)] := hl
  refine lv_aload_n hx hb dX9_init_0 rfl (lv_at hl 0 rfl) ?_
  refine W.objInit hx hb hown (hts (.methodLink RX9 1 objectInit) (List.mem_cons_of_mem _ gw_19_19)) (hts (.instanceMethod objectInit) (List.mem_cons_of_mem _ gw_0_2)) (hts (.code objectInit ⟨#[0xb1]⟩ 1 none) (List.mem_cons_of_mem _ gw_0_3)) rfl (by rw [hml]; exact hl.1) rfl dX9_init_1 (Nat.le_of_ble_eq_true rfl) (Nat.le_of_ble_eq_true rfl) ?_
  refine W.eq (g2 := F0 m 4 ls []) rfl ?_
  refine lv_aload_n hx hb dX9_init_4 rfl (lv_at hl 0 rfl) ?_
  refine r_new hx hb 8 hts (fun w h => List.mem_cons_of_mem _ (mwsX50 w h)) tyX5 tyX5_ok hown (hts (.classLink RX9 7 RX5) (List.mem_cons_of_mem _ gw_19_20)) (hts (.instantiable RX5 2) (List.mem_cons_of_mem _ gw_1_4)) (hts (.initialized RX5) (List.mem_cons_of_mem _ gw_1_5)) hH (by decide) rfl (by decide +kernel) (Nat.le_of_ble_eq_true rfl) (Nat.le_of_ble_eq_true rfl) dX9_init_5 (fun H hH => ?_)
  obtain ⟨a1, e2, hf⟩ := ol hf
  rw [e2]
  obtain ⟨S3, e4, hf⟩ := ol hf
  rw [e4] at hH
  refine W.widen (k := 1) (n := 2) (by omega) (by omega) ?_
  refine lv_dup hx hb dX9_init_8 rfl ?_
  refine lv_bipush (v := 20) hx hb dX9_init_9 (by decide) ?_
  obtain ⟨r5, e6, hf⟩ := ob hf
  refine r_callIv (As := [.int 20]) ⟨hx, hb, hml, hown, hts⟩ (c_X5_init l D S3 a1 20 r5 e6) (cwI 1 hts (gwI (gwC gw_0_15)) rfl rfl rfl (hts (.initialized RX5) (List.mem_cons_of_mem _ gw_1_5)) (hts (.methodLink RX9 11 yX5_init) (List.mem_cons_of_mem _ gw_20_17)) (hts (.instanceMethod yX5_init) (List.mem_cons_of_mem _ gw_1_10)) rfl (by decide +kernel) ⟨Nat.le_of_ble_eq_true rfl, Nat.le_of_ble_eq_true rfl⟩) hH hNE rfl hl.1 rfl (Nat.le_of_ble_eq_true rfl) dX9_init_11 ⟨(Nat.le_of_ble_eq_true rfl), (Nat.le_of_ble_eq_true rfl)⟩ (fun H locs hH => ?_)
  refine W.widen (k := 2) (n := 182) (by omega) (by omega) ?_
  obtain ⟨ek7, hf⟩ := oc hf
  refine r_putQ hx hb 12 hts (fun w h => List.mem_cons_of_mem _ (mwsX90 w h)) tyX9 tyX9_ok nmX9 hown hH ek7 (by decide) rfl 0 (by decide) rfl (hts (.fieldLink RX9 14 "Housestyle" "typed" "LHousestyle$Row;") (List.mem_cons_of_mem _ gw_19_21)) (fun _ h9 => h9) (Or.inr ⟨rfl, hin, rfl⟩) (ty := (.object "Housestyle$Row")) (by decide +kernel) rfl rfl dX9_init_14 (fun H locs hH => ?_)
  obtain ⟨S8, e9, hf⟩ := ol hf
  rw [e9] at hH
  refine lv_aload_n hx hb dX9_init_17 rfl (lv_at hl 0 rfl) ?_
  refine r_new hx hb 10 hts (fun w h => List.mem_cons_of_mem _ (mwsX70 w h)) tyX7 tyX7_ok hown (hts (.classLink RX9 18 RX7) (List.mem_cons_of_mem _ gw_19_22)) (hts (.instantiable RX7 3) (List.mem_cons_of_mem _ gw_19_23)) (hts (.initialized RX7) (List.mem_cons_of_mem _ gw_17_23)) hH (by decide) rfl (by decide +kernel) (Nat.le_of_ble_eq_true rfl) (Nat.le_of_ble_eq_true rfl) dX9_init_18 (fun H hH => ?_)
  obtain ⟨a10, e11, hf⟩ := ol hf
  rw [e11]
  obtain ⟨S12, e13, hf⟩ := ol hf
  rw [e13] at hH
  refine W.widen (k := 3) (n := 185) (by omega) (by omega) ?_
  refine lv_dup hx hb dX9_init_21 rfl ?_
  obtain ⟨r14, e15, hf⟩ := ob hf
  refine r_callIv (As := []) ⟨hx, hb, hml, hown, hts⟩ (c_X7_init l D S12 a10 r14 e15) (cwI 0 hts (gwI (gwC gw_17_8)) rfl rfl rfl (hts (.initialized RX7) (List.mem_cons_of_mem _ gw_17_23)) (hts (.methodLink RX9 20 yX7_init) (List.mem_cons_of_mem _ gw_20_18)) (hts (.instanceMethod yX7_init) (List.mem_cons_of_mem _ gw_20_19)) rfl (by decide +kernel) ⟨Nat.le_of_ble_eq_true rfl, Nat.le_of_ble_eq_true rfl⟩) hH hNE rfl hl.1 rfl (Nat.le_of_ble_eq_true rfl) dX9_init_22 ⟨(Nat.le_of_ble_eq_true rfl), (Nat.le_of_ble_eq_true rfl)⟩ (fun H locs hH => ?_)
  refine W.widen (k := 9) (n := 731) (by omega) (by omega) ?_
  obtain ⟨ek16, hf⟩ := oc hf
  refine r_putQ hx hb 12 hts (fun w h => List.mem_cons_of_mem _ (mwsX90 w h)) tyX9 tyX9_ok nmX9 hown hH ek16 (by decide) rfl 1 (by decide) rfl (hts (.fieldLink RX9 21 "Housestyle" "text" "LHousestyle$Text;") (List.mem_cons_of_mem _ gw_20_0)) (fun _ h9 => h9) (Or.inr ⟨rfl, hin, rfl⟩) (ty := (.object "Housestyle$Text")) (by decide +kernel) rfl rfl dX9_init_25 (fun H locs hH => ?_)
  obtain ⟨S17, e18, hf⟩ := ol hf
  rw [e18] at hH
  refine lv_aload_n hx hb dX9_init_28 rfl (lv_at hl 0 rfl) ?_
  refine r_new hx hb 11 hts (fun w h => List.mem_cons_of_mem _ (mwsX80 w h)) tyX8 tyX8_ok hown (hts (.classLink RX9 25 RX8) (List.mem_cons_of_mem _ gw_20_1)) (hts (.instantiable RX8 11) (List.mem_cons_of_mem _ gw_20_2)) (hts (.initialized RX8) (List.mem_cons_of_mem _ gw_2_23)) hH (by decide) rfl (by decide +kernel) (Nat.le_of_ble_eq_true rfl) (Nat.le_of_ble_eq_true rfl) dX9_init_29 (fun H hH => ?_)
  obtain ⟨a19, e20, hf⟩ := ol hf
  rw [e20]
  obtain ⟨S21, e22, hf⟩ := ol hf
  rw [e22] at hH
  refine W.widen (k := 10) (n := 742) (by omega) (by omega) ?_
  refine lv_dup hx hb dX9_init_32 rfl ?_
  refine lv_aload_n hx hb dX9_init_33 rfl (lv_at hl 0 rfl) ?_
  obtain ⟨ek23, hf⟩ := oc hf
  obtain ⟨a24, e25, hf⟩ := ob hf
  refine r_getQ hx hb 12 hts (fun w h => List.mem_cons_of_mem _ (mwsX90 w h)) hown hH ek23 (by decide) rfl 1 (by decide) rfl (hts (.fieldLink RX9 21 "Housestyle" "text" "LHousestyle$Text;") (List.mem_cons_of_mem _ gw_20_0)) (fun _ h9 => h9) dX9_init_34 e25 ?_
  obtain ⟨ek26, hf⟩ := oc hf
  obtain ⟨a27, e28, hf⟩ := ob hf
  refine r_getQN hx hb 10 hts (fun w h => List.mem_cons_of_mem _ (mwsX70 w h)) hown hH ek26 (by decide) rfl 0 (by decide) rfl (nf_0 hNE) (fun _ h9 => h9) dX9_init_37 e28 ?_
  obtain ⟨r29, e30, hf⟩ := ob hf
  refine r_callIv (As := [.ref a27]) ⟨hx, hb, hml, hown, hts⟩ (c_X8_init l D S21 a19 a27 r29 e30) (cwI 1 hts (gwI (gwC gw_18_8)) rfl rfl rfl (hts (.initialized RX8) (List.mem_cons_of_mem _ gw_2_23)) (hts (.methodLink RX9 30 yX8_init) (List.mem_cons_of_mem _ gw_20_20)) (hts (.instanceMethod yX8_init) (List.mem_cons_of_mem _ gw_20_21)) rfl (by decide +kernel) ⟨Nat.le_of_ble_eq_true rfl, Nat.le_of_ble_eq_true rfl⟩) hH hNE rfl hl.1 rfl (Nat.le_of_ble_eq_true rfl) dX9_init_40 ⟨(Nat.le_of_ble_eq_true rfl), (Nat.le_of_ble_eq_true rfl)⟩ (fun H locs hH => ?_)
  refine W.widen (k := 24) (n := 2016) (by omega) (by omega) ?_
  obtain ⟨ek31, hf⟩ := oc hf
  refine r_putQ hx hb 12 hts (fun w h => List.mem_cons_of_mem _ (mwsX90 w h)) tyX9 tyX9_ok nmX9 hown hH ek31 (by decide) rfl 2 (by decide) rfl (hts (.fieldLink RX9 33 "Housestyle" "tokens" "LHousestyle$Tokens;") (List.mem_cons_of_mem _ gw_20_3)) (fun _ h9 => h9) (Or.inr ⟨rfl, hin, rfl⟩) (ty := (.object "Housestyle$Tokens")) (by decide +kernel) rfl rfl dX9_init_43 (fun H locs hH => ?_)
  obtain ⟨S32, e33, hf⟩ := ol hf
  rw [e33] at hH
  refine lv_aload_n hx hb dX9_init_46 rfl (lv_at hl 0 rfl) ?_
  refine r_new hx hb 3 hts (fun w h => List.mem_cons_of_mem _ (mwsX00 w h)) tyX0 tyX0_ok hown (hts (.classLink RX9 37 RX0) (List.mem_cons_of_mem _ gw_20_4)) (hts (.instantiable RX0 3) (List.mem_cons_of_mem _ gw_20_5)) (hts (.initialized RX0) (List.mem_cons_of_mem _ gw_6_5)) hH (by decide) rfl (by decide +kernel) (Nat.le_of_ble_eq_true rfl) (Nat.le_of_ble_eq_true rfl) dX9_init_47 (fun H hH => ?_)
  obtain ⟨a34, e35, hf⟩ := ol hf
  rw [e35]
  obtain ⟨S36, e37, hf⟩ := ol hf
  rw [e37] at hH
  refine W.widen (k := 25) (n := 2019) (by omega) (by omega) ?_
  refine lv_dup hx hb dX9_init_50 rfl ?_
  obtain ⟨r38, e39, hf⟩ := ob hf
  refine r_callIv (As := []) ⟨hx, hb, hml, hown, hts⟩ (c_X0_init l D S36 a34 r38 e39) (cwI 0 hts (gwI (gwC gw_0_20)) rfl rfl rfl (hts (.initialized RX0) (List.mem_cons_of_mem _ gw_6_5)) (hts (.methodLink RX9 39 yX0_init) (List.mem_cons_of_mem _ gw_20_22)) (hts (.instanceMethod yX0_init) (List.mem_cons_of_mem _ gw_20_23)) rfl (by decide +kernel) ⟨Nat.le_of_ble_eq_true rfl, Nat.le_of_ble_eq_true rfl⟩) hH hNE rfl hl.1 rfl (Nat.le_of_ble_eq_true rfl) dX9_init_51 ⟨(Nat.le_of_ble_eq_true rfl), (Nat.le_of_ble_eq_true rfl)⟩ (fun H locs hH => ?_)
  refine W.widen (k := 29) (n := 2207) (by omega) (by omega) ?_
  obtain ⟨ek40, hf⟩ := oc hf
  refine r_putQ hx hb 12 hts (fun w h => List.mem_cons_of_mem _ (mwsX90 w h)) tyX9 tyX9_ok nmX9 hown hH ek40 (by decide) rfl 3 (by decide) rfl (hts (.fieldLink RX9 40 "Housestyle" "book" "LHousestyle$Book;") (List.mem_cons_of_mem _ gw_20_6)) (fun _ h9 => h9) (Or.inr ⟨rfl, hin, rfl⟩) (ty := (.object "Housestyle$Book")) (by decide +kernel) rfl rfl dX9_init_54 (fun H locs hH => ?_)
  obtain ⟨S41, e42, hf⟩ := ol hf
  rw [e42] at hH
  refine lv_aload_n hx hb dX9_init_57 rfl (lv_at hl 0 rfl) ?_
  refine r_new hx hb 2 hts (fun w h => List.mem_cons_of_mem _ (mwsJx4a65c0 w h)) tyJx4a65c tyJx4a65c_ok hown (hts (.classLink RX9 44 RJx4a65c) (List.mem_cons_of_mem _ gw_20_7)) (hts (.instantiable RJx4a65c 3) (List.mem_cons_of_mem _ gw_0_23)) (hts (.initialized RJx4a65c) (List.mem_cons_of_mem _ gw_1_0)) hH (by decide) rfl (by decide +kernel) (Nat.le_of_ble_eq_true rfl) (Nat.le_of_ble_eq_true rfl) dX9_init_58 (fun H hH => ?_)
  obtain ⟨a43, e44, hf⟩ := ol hf
  rw [e44]
  obtain ⟨S45, e46, hf⟩ := ol hf
  rw [e46] at hH
  refine W.widen (k := 30) (n := 2210) (by omega) (by omega) ?_
  refine lv_dup hx hb dX9_init_61 rfl ?_
  obtain ⟨r47, e48, hf⟩ := ob hf
  refine r_callIv (As := []) ⟨hx, hb, hml, hown, hts⟩ (c_Jx4a65c_init_da8c8 l D S45 a43 r47 e48) (cwI 0 hts (gwI (gwC gw_0_9)) rfl rfl rfl (hts (.initialized RJx4a65c) (List.mem_cons_of_mem _ gw_1_0)) (hts (.methodLink RX9 46 yJx4a65c_init_da8c8) (List.mem_cons_of_mem _ gw_21_0)) (hts (.instanceMethod yJx4a65c_init_da8c8) (List.mem_cons_of_mem _ gw_1_8)) rfl (by decide +kernel) ⟨Nat.le_of_ble_eq_true rfl, Nat.le_of_ble_eq_true rfl⟩) hH hNE rfl hl.1 rfl (Nat.le_of_ble_eq_true rfl) dX9_init_62 ⟨(Nat.le_of_ble_eq_true rfl), (Nat.le_of_ble_eq_true rfl)⟩ (fun H locs hH => ?_)
  obtain ⟨ek49, hf⟩ := oc hf
  refine r_putQ hx hb 12 hts (fun w h => List.mem_cons_of_mem _ (mwsX90 w h)) tyX9 tyX9_ok nmX9 hown hH ek49 (by decide) rfl 4 (by decide) rfl (hts (.fieldLink RX9 47 "Housestyle" "desks" "Ljava/util/ArrayList;") (List.mem_cons_of_mem _ gw_20_8)) (fun _ h9 => h9) (Or.inr ⟨rfl, hin, rfl⟩) (ty := (.object "java/util/ArrayList")) (by decide +kernel) rfl rfl dX9_init_65 (fun H locs hH => ?_)
  obtain ⟨S50, e51, hf⟩ := ol hf
  rw [e51] at hH
  refine lv_iconst (v := 0) hx hb dX9_init_68 (by decide) ?_
  refine lv_istore_n (lv' := [(1, .int 0), (0, .ref a0)]) hx hb dX9_init_69 rfl hl (by decide) rfl (fun ls hl => ?_)
  obtain ⟨k55, e56, hf⟩ := ol hf
  have Xk55 : ∀ (S54 : PS) (H : Heap) (locs : List Loc) (ls : Array Slot), HI D S S54 s H locs → lv_has ls 2 [(0, .ref a0)] → k55 S54 = some r → GV p l e (headSpec wsX9_init rmX9_init).room s m ([.ref a0] : List Value).toArray below meth c D S r H locs 80 5980 91 6896 (F0 m 96 ls []) := by
    intro S54 H locs ls hH hl hf
    rw [← e56] at hf
    refine lv_aload_n hx hb dX9_init_96 rfl (lv_at hl 0 rfl) ?_
    refine r_new hx hb 5 hts (fun w h => List.mem_cons_of_mem _ (mwsX20 w h)) tyX2 tyX2_ok hown (hts (.classLink RX9 58 RX2) (List.mem_cons_of_mem _ gw_20_11)) (hts (.instantiable RX2 6) (List.mem_cons_of_mem _ gw_20_12)) (hts (.initialized RX2) (List.mem_cons_of_mem _ gw_11_18)) hH (by decide) rfl (by decide +kernel) (Nat.le_of_ble_eq_true rfl) (Nat.le_of_ble_eq_true rfl) dX9_init_97 (fun H hH => ?_)
    obtain ⟨a57, e58, hf⟩ := ol hf
    rw [e58]
    obtain ⟨S59, e60, hf⟩ := ol hf
    rw [e60] at hH
    refine W.widen (k := 81) (n := 5986) (by omega) (by omega) ?_
    refine lv_dup hx hb dX9_init_100 rfl ?_
    refine lv_aload_n hx hb dX9_init_101 rfl (lv_at hl 0 rfl) ?_
    obtain ⟨ek61, hf⟩ := oc hf
    obtain ⟨a62, e63, hf⟩ := ob hf
    refine r_getQ hx hb 12 hts (fun w h => List.mem_cons_of_mem _ (mwsX90 w h)) hown hH ek61 (by decide) rfl 3 (by decide) rfl (hts (.fieldLink RX9 40 "Housestyle" "book" "LHousestyle$Book;") (List.mem_cons_of_mem _ gw_20_6)) (fun _ h9 => h9) dX9_init_102 e63 ?_
    refine lv_aload_n hx hb dX9_init_105 rfl (lv_at hl 0 rfl) ?_
    obtain ⟨a64, e65, hf⟩ := ob hf
    refine r_getQ hx hb 12 hts (fun w h => List.mem_cons_of_mem _ (mwsX90 w h)) hown hH ek61 (by decide) rfl 2 (by decide) rfl (hts (.fieldLink RX9 33 "Housestyle" "tokens" "LHousestyle$Tokens;") (List.mem_cons_of_mem _ gw_20_3)) (fun _ h9 => h9) dX9_init_106 e65 ?_
    obtain ⟨r66, e67, hf⟩ := ob hf
    refine r_callIv (As := [.ref a62, .ref a64]) ⟨hx, hb, hml, hown, hts⟩ (c_X2_init l D S59 a57 a62 a64 r66 e67) (cwI 2 hts (gwI (gwC gw_10_10)) rfl rfl rfl (hts (.initialized RX2) (List.mem_cons_of_mem _ gw_11_18)) (hts (.methodLink RX9 60 yX2_init) (List.mem_cons_of_mem _ gw_21_4)) (hts (.instanceMethod yX2_init) (List.mem_cons_of_mem _ gw_21_5)) rfl (by decide +kernel) ⟨Nat.le_of_ble_eq_true rfl, Nat.le_of_ble_eq_true rfl⟩) hH hNE rfl hl.1 rfl (Nat.le_of_ble_eq_true rfl) dX9_init_109 ⟨(Nat.le_of_ble_eq_true rfl), (Nat.le_of_ble_eq_true rfl)⟩ (fun H locs hH => ?_)
    refine W.widen (k := 89) (n := 6714) (by omega) (by omega) ?_
    obtain ⟨ek68, hf⟩ := oc hf
    refine r_putQ hx hb 12 hts (fun w h => List.mem_cons_of_mem _ (mwsX90 w h)) tyX9 tyX9_ok nmX9 hown hH ek68 (by decide) rfl 5 (by decide) rfl (hts (.fieldLink RX9 63 "Housestyle" "found" "LHousestyle$Findings;") (List.mem_cons_of_mem _ gw_20_13)) (fun _ h9 => h9) (Or.inr ⟨rfl, hin, rfl⟩) (ty := (.object "Housestyle$Findings")) (by decide +kernel) rfl rfl dX9_init_112 (fun H locs hH => ?_)
    obtain ⟨S69, e70, hf⟩ := ol hf
    rw [e70] at hH
    refine lv_aload_n hx hb dX9_init_115 rfl (lv_at hl 0 rfl) ?_
    refine r_new hx hb 8 hts (fun w h => List.mem_cons_of_mem _ (mwsX50 w h)) tyX5 tyX5_ok hown (hts (.classLink RX9 7 RX5) (List.mem_cons_of_mem _ gw_19_20)) (hts (.instantiable RX5 2) (List.mem_cons_of_mem _ gw_1_4)) (hts (.initialized RX5) (List.mem_cons_of_mem _ gw_1_5)) hH (by decide) rfl (by decide +kernel) (Nat.le_of_ble_eq_true rfl) (Nat.le_of_ble_eq_true rfl) dX9_init_116 (fun H hH => ?_)
    obtain ⟨a71, e72, hf⟩ := ol hf
    rw [e72]
    obtain ⟨S73, e74, hf⟩ := ol hf
    rw [e74] at hH
    refine W.widen (k := 90) (n := 6716) (by omega) (by omega) ?_
    refine lv_dup hx hb dX9_init_119 rfl ?_
    refine lv_sipush (v := 180) hx hb dX9_init_120 (by decide) ?_
    obtain ⟨r75, e76, hf⟩ := ob hf
    refine r_callIv (As := [.int 180]) ⟨hx, hb, hml, hown, hts⟩ (c_X5_init l D S73 a71 180 r75 e76) (cwI 1 hts (gwI (gwC gw_0_15)) rfl rfl rfl (hts (.initialized RX5) (List.mem_cons_of_mem _ gw_1_5)) (hts (.methodLink RX9 11 yX5_init) (List.mem_cons_of_mem _ gw_20_17)) (hts (.instanceMethod yX5_init) (List.mem_cons_of_mem _ gw_1_10)) rfl (by decide +kernel) ⟨Nat.le_of_ble_eq_true rfl, Nat.le_of_ble_eq_true rfl⟩) hH hNE rfl hl.1 rfl (Nat.le_of_ble_eq_true rfl) dX9_init_123 ⟨(Nat.le_of_ble_eq_true rfl), (Nat.le_of_ble_eq_true rfl)⟩ (fun H locs hH => ?_)
    refine W.widen (k := 91) (n := 6896) (by omega) (by omega) ?_
    obtain ⟨ek77, hf⟩ := oc hf
    refine r_putQ hx hb 12 hts (fun w h => List.mem_cons_of_mem _ (mwsX90 w h)) tyX9 tyX9_ok nmX9 hown hH ek77 (by decide) rfl 6 (by decide) rfl (hts (.fieldLink RX9 67 "Housestyle" "proposal" "LHousestyle$Row;") (List.mem_cons_of_mem _ gw_20_14)) (fun _ h9 => h9) (Or.inr ⟨rfl, hin, rfl⟩) (ty := (.object "Housestyle$Row")) (by decide +kernel) rfl rfl dX9_init_126 (fun H locs hH => ?_)
    obtain ⟨S78, e79, hf⟩ := ol hf
    rw [e79] at hH
    refine lv_aload_n hx hb dX9_init_129 rfl (lv_at hl 0 rfl) ?_
    refine lv_iconst (v := 0) hx hb dX9_init_130 (by decide) ?_
    obtain ⟨ek80, hf⟩ := oc hf
    refine r_putI hx hb 12 hts (fun w h => List.mem_cons_of_mem _ (mwsX90 w h)) tyX9 tyX9_ok nmX9 hown hH ek80 (by decide) rfl 7 (by decide) rfl (hts (.fieldLink RX9 70 "Housestyle" "isRead" "Z") (List.mem_cons_of_mem _ gw_20_15)) (fun _ h9 => h9) (Or.inl rfl) (ty := .boolean) (by decide +kernel) rfl rfl dX9_init_131 (fun H locs hH => ?_)
    obtain ⟨S81, e82, hf⟩ := ol hf
    rw [e82] at hH
    refine lv_aload_n hx hb dX9_init_134 rfl (lv_at hl 0 rfl) ?_
    refine lv_iconst (v := (-1)) hx hb dX9_init_135 (by decide) ?_
    obtain ⟨ek83, hf⟩ := oc hf
    refine r_putI hx hb 12 hts (fun w h => List.mem_cons_of_mem _ (mwsX90 w h)) tyX9 tyX9_ok nmX9 hown hH ek83 (by decide) rfl 8 (by decide) rfl (hts (.fieldLink RX9 74 "Housestyle" "solvedDesk" "I") (List.mem_cons_of_mem _ gw_20_16)) (fun _ h9 => h9) (Or.inl rfl) (ty := .int) (by decide +kernel) rfl rfl dX9_init_136 (fun H locs hH => ?_)
    obtain ⟨S84, e85, hf⟩ := ol hf
    rw [e85] at hH
    have hr9 := Option.some.inj hf
    subst hr9
    exact e_v hx hb hr hlocks hH dX9_init_139
  obtain ⟨o86, eo86, hq86f⟩ := ob hf
  have Lo86 : ∀ (n : Nat) (x52 : Int32) (S53 : PS), n ≤ 5 → iter (fun (v : Int32 × PS) => f_X9_init_b70 a0 v.1 v.2) n (x52, S53) = some o86 → ∀ (H : Heap) (locs : List Loc) (ls : Array Slot), HI D S S53 s H locs → lv_has ls 2 [(0, .ref a0), (1, .int x52)] → GV p l e (headSpec wsX9_init rmX9_init).room s m ([.ref a0] : List Value).toArray below meth c D S r H locs (30 + (5 - n) * 10) (2210 + (5 - n) * 754) 91 6896 (F0 m 70 ls []) := by
    intro n
    induction n with
    | zero => intro x52 S53 hnF hi; cases hi
    | succ n ih86 =>
      intro x52 S53 hnF hi H locs ls hH hl
      obtain ⟨q86_, hf, hq86⟩ := iter_s hi
      have hf : f_X9_init_b70 a0 x52 S53 = some q86_ := hf
      unfold f_X9_init_b70 at hf
      refine lv_iload_n hx hb dX9_init_70 rfl (lv_at hl 1 rfl) ?_
      refine lv_iconst (v := 4) hx hb dX9_init_71 (by decide) ?_
      refine lv_icmp_ge (tgt := 96) hx hb dX9_init_72 (by decide) (fun c87 => ?_) (fun c87 => ?_)
      · have hf := ip hf c87
        refine W.widen (k := 80) (n := 5980) (by omega) (by omega) ?_
        cases hf
        have hf9 := itR (K := (fun (v : PS) => k55 v)) hq86 hq86f
        exact Xk55 S53 _ _ ls hH (lv_sub hl [0] rfl) hf9
      · have hf := iq hf c87
        refine lv_aload_n hx hb dX9_init_75 rfl (lv_at hl 0 rfl) ?_
        obtain ⟨ek88, hf⟩ := oc hf
        obtain ⟨a89, e90, hf⟩ := ob hf
        refine r_getQ hx hb 12 hts (fun w h => List.mem_cons_of_mem _ (mwsX90 w h)) hown hH ek88 (by decide) rfl 4 (by decide) rfl (hts (.fieldLink RX9 47 "Housestyle" "desks" "Ljava/util/ArrayList;") (List.mem_cons_of_mem _ gw_20_8)) (fun _ h9 => h9) dX9_init_76 e90 ?_
        refine r_new hx hb 4 hts (fun w h => List.mem_cons_of_mem _ (mwsX10 w h)) tyX1 tyX1_ok hown (hts (.classLink RX9 51 RX1) (List.mem_cons_of_mem _ gw_20_9)) (hts (.instantiable RX1 6) (List.mem_cons_of_mem _ gw_20_10)) (hts (.initialized RX1) (List.mem_cons_of_mem _ gw_9_20)) hH (by decide) rfl (by decide +kernel) (by show ((30 + (5 - (n + 1)) * 10) + 0) + 1 ≤ 91; omega) (by show ((2210 + (5 - (n + 1)) * 754) + 0) + 6 ≤ 6896; omega) dX9_init_79 (fun H hH => ?_)
        obtain ⟨a91, e92, hf⟩ := ol hf
        rw [e92]
        obtain ⟨S93, e94, hf⟩ := ol hf
        rw [e94] at hH
        refine W.widen (k := ((30 + (5 - (n + 1)) * 10) + 1)) (n := ((2210 + (5 - (n + 1)) * 754) + 6)) (by omega) (by omega) ?_
        refine lv_dup hx hb dX9_init_82 rfl ?_
        obtain ⟨r95, e96, hf⟩ := ob hf
        refine r_callIv (As := []) ⟨hx, hb, hml, hown, hts⟩ (c_X1_init l D S93 a91 r95 e96) (cwI 0 hts (gwI (gwC gw_8_18)) rfl rfl rfl (hts (.initialized RX1) (List.mem_cons_of_mem _ gw_9_20)) (hts (.methodLink RX9 53 yX1_init) (List.mem_cons_of_mem _ gw_21_1)) (hts (.instanceMethod yX1_init) (List.mem_cons_of_mem _ gw_21_2)) rfl (by decide +kernel) ⟨Nat.le_of_ble_eq_true rfl, Nat.le_of_ble_eq_true rfl⟩) hH hNE rfl hl.1 rfl (Nat.le_of_ble_eq_true rfl) dX9_init_83 ⟨(by show ((30 + (5 - (n + 1)) * 10) + 1) + 8 ≤ 91; omega), (by show ((2210 + (5 - (n + 1)) * 754) + 6) + 728 ≤ 6896; omega)⟩ (fun H locs hH => ?_)
        refine W.widen (k := ((30 + (5 - (n + 1)) * 10) + 9)) (n := ((2210 + (5 - (n + 1)) * 754) + 734)) (by omega) (by omega) ?_
        obtain ⟨ek97, hf⟩ := oc hf
        obtain ⟨r98, e99, hf⟩ := ob hf
        refine r_callVi (As := [.ref a91]) ⟨hx, hb, hml, hown, hts⟩ (c_Jx4a65c_add_9ea2d l D r95 a89 a91 r98 e99) (cwV 1 hts (gwV gw_21_3 gw_17_0 gw_17_1 gw_1_0 gw_16_8) rfl rfl rfl (by decide +kernel) ⟨Nat.le_of_ble_eq_true rfl, Nat.le_of_ble_eq_true rfl⟩) hH hNE 2 ek97 (by decide) rfl rfl rfl hl.1 rfl (Nat.le_of_ble_eq_true rfl) dX9_init_86 ⟨(by show ((30 + (5 - (n + 1)) * 10) + 9) + 1 ≤ 91; omega), (by show ((2210 + (5 - (n + 1)) * 754) + 734) + 20 ≤ 6896; omega)⟩ (fun H locs hH => ?_)
        obtain ⟨S100, e101, hf⟩ := ol hf
        rw [e101] at hH
        refine W.widen (k := ((30 + (5 - (n + 1)) * 10) + 10)) (n := ((2210 + (5 - (n + 1)) * 754) + 754)) (by omega) (by omega) ?_
        refine lv_pop hx hb dX9_init_89 rfl ?_
        obtain ⟨x102, e103, hf⟩ := ol hf
        refine lv_iinc (v := x102) (lv' := [(1, .int x102), (0, .ref a0)]) hx hb dX9_init_90 hl (k := 1) rfl (by rw [← e103]; rfl) (by decide) rfl (fun ls hl => ?_)
        refine lv_goto (tgt := 70) hx hb dX9_init_93 (by decide) ?_
        cases hf
        refine W.widen (k := (30 + (5 - n) * 10)) (n := (2210 + (5 - n) * 754)) (by omega) (by omega) ?_
        exact ih86 x102 S100 (Nat.le_of_succ_le hnF) hq86 _ _ ls hH (lv_sub hl [1, 0] rfl)
  refine W.widen (k := (30 + (5 - 5) * 10)) (n := (2210 + (5 - 5) * 754)) (by omega) (by omega) ?_
  exact Lo86 5 0 S50 (Nat.le_refl _) eo86 _ _ ls hH (lv_sub hl [1, 0] rfl)
set_option maxRecDepth 100000 in
def f_X9_isLetter (S : PS) (p0 : Int32) : Option (Int32) := if p0 < (97 : Int32) then (some 0) else (if (122 : Int32) < p0 then (some 0) else (some 1))
abbrev rmX9_isLetter : Room := { frames := 0, cells := 0, slots := 0, locals := 0 }
set_option maxHeartbeats 4000000 in
set_option maxRecDepth 100000 in
theorem c_X9_isLetter (l : Launch) (D : va_G × Nat) (S : PS) (p0 : Int32) (r : Int32) (hf : f_X9_isLetter S p0 = some r) : MI l D yX9_isLetter wsX9_isLetter rmX9_isLetter S [.int p0] S r 0 0 := by
  unfold f_X9_isLetter at hf
  refine Met.ofW (cc := cX9_isLetter) (maxL := 1) (ret := (some .boolean)) (by decide) rfl ?_
  intro p e s m args below meth c s₁ B hml hv
  obtain ⟨rfl, hH0, hNE⟩ := hv
  have hx := B.exec
  have hb := B.bytes
  have hr := B.returns
  have hts := atoms_spec (ws := wsX9_isLetter) B.pre
  have hown : s.vm.findClass RX9 = some m.cls := findClass_of_methodNamed B.named
  have hlocks := B.notSynchronized
  have hH : HI D S S s s.heap [] := HI.start hH0
  have hl := lv_entry ([.int p0]) (n := 1) (Nat.le_of_ble_eq_true rfl)
  rw [lg_entry_eq]
  generalize (lg_sl ([.int p0]) ++ List.replicate (1 - (lg_sl ([.int p0])).length) Slot.unset).toArray = ls at hl ⊢
  have hl : lv_has ls 1 [(0, .int p0)] := hl
  refine lv_iload_n hx hb dX9_isLetter_0 rfl (lv_at hl 0 rfl) ?_
  refine lv_bipush (v := 97) hx hb dX9_isLetter_1 (by decide) ?_
  refine lv_icmp_lt (tgt := 16) hx hb dX9_isLetter_3 (by decide) (fun c1 => ?_) (fun c1 => ?_)
  · have hf := ip hf c1
    refine lv_iconst (v := 0) hx hb dX9_isLetter_16 (by decide) ?_
    have hr9 := Option.some.inj hf
    subst hr9
    exact e_z (r := 0) hx hb hr hlocks rfl hH dX9_isLetter_17
  · have hf := iq hf c1
    refine lv_iload_n hx hb dX9_isLetter_6 rfl (lv_at hl 0 rfl) ?_
    refine lv_bipush (v := 122) hx hb dX9_isLetter_7 (by decide) ?_
    refine lv_icmp_gt (tgt := 16) hx hb dX9_isLetter_9 (by decide) (fun c2 => ?_) (fun c2 => ?_)
    · have hf := ip hf c2
      refine lv_iconst (v := 0) hx hb dX9_isLetter_16 (by decide) ?_
      have hr9 := Option.some.inj hf
      subst hr9
      exact e_z (r := 0) hx hb hr hlocks rfl hH dX9_isLetter_17
    · have hf := iq hf c2
      refine lv_iconst (v := 1) hx hb dX9_isLetter_12 (by decide) ?_
      refine lv_goto (tgt := 17) hx hb dX9_isLetter_13 (by decide) ?_
      have hr9 := Option.some.inj hf
      subst hr9
      exact e_z (r := 1) hx hb hr hlocks rfl hH dX9_isLetter_17
set_option maxRecDepth 100000 in
def f_X9_isDigit (S : PS) (p0 : Int32) : Option (Int32) := if p0 < (48 : Int32) then (some 0) else (if (57 : Int32) < p0 then (some 0) else (some 1))
abbrev rmX9_isDigit : Room := { frames := 0, cells := 0, slots := 0, locals := 0 }
set_option maxHeartbeats 4000000 in
set_option maxRecDepth 100000 in
theorem c_X9_isDigit (l : Launch) (D : va_G × Nat) (S : PS) (p0 : Int32) (r : Int32) (hf : f_X9_isDigit S p0 = some r) : MI l D yX9_isDigit wsX9_isDigit rmX9_isDigit S [.int p0] S r 0 0 := by
  unfold f_X9_isDigit at hf
  refine Met.ofW (cc := cX9_isDigit) (maxL := 1) (ret := (some .boolean)) (by decide) rfl ?_
  intro p e s m args below meth c s₁ B hml hv
  obtain ⟨rfl, hH0, hNE⟩ := hv
  have hx := B.exec
  have hb := B.bytes
  have hr := B.returns
  have hts := atoms_spec (ws := wsX9_isDigit) B.pre
  have hown : s.vm.findClass RX9 = some m.cls := findClass_of_methodNamed B.named
  have hlocks := B.notSynchronized
  have hH : HI D S S s s.heap [] := HI.start hH0
  have hl := lv_entry ([.int p0]) (n := 1) (Nat.le_of_ble_eq_true rfl)
  rw [lg_entry_eq]
  generalize (lg_sl ([.int p0]) ++ List.replicate (1 - (lg_sl ([.int p0])).length) Slot.unset).toArray = ls at hl ⊢
  have hl : lv_has ls 1 [(0, .int p0)] := hl
  refine lv_iload_n hx hb dX9_isDigit_0 rfl (lv_at hl 0 rfl) ?_
  refine lv_bipush (v := 48) hx hb dX9_isDigit_1 (by decide) ?_
  refine lv_icmp_lt (tgt := 16) hx hb dX9_isDigit_3 (by decide) (fun c1 => ?_) (fun c1 => ?_)
  · have hf := ip hf c1
    refine lv_iconst (v := 0) hx hb dX9_isDigit_16 (by decide) ?_
    have hr9 := Option.some.inj hf
    subst hr9
    exact e_z (r := 0) hx hb hr hlocks rfl hH dX9_isDigit_17
  · have hf := iq hf c1
    refine lv_iload_n hx hb dX9_isDigit_6 rfl (lv_at hl 0 rfl) ?_
    refine lv_bipush (v := 57) hx hb dX9_isDigit_7 (by decide) ?_
    refine lv_icmp_gt (tgt := 16) hx hb dX9_isDigit_9 (by decide) (fun c2 => ?_) (fun c2 => ?_)
    · have hf := ip hf c2
      refine lv_iconst (v := 0) hx hb dX9_isDigit_16 (by decide) ?_
      have hr9 := Option.some.inj hf
      subst hr9
      exact e_z (r := 0) hx hb hr hlocks rfl hH dX9_isDigit_17
    · have hf := iq hf c2
      refine lv_iconst (v := 1) hx hb dX9_isDigit_12 (by decide) ?_
      refine lv_goto (tgt := 17) hx hb dX9_isDigit_13 (by decide) ?_
      have hr9 := Option.some.inj hf
      subst hr9
      exact e_z (r := 1) hx hb hr hlocks rfl hH dX9_isDigit_17
set_option maxRecDepth 100000 in
def f_X9_isTypeable (S : PS) (p0 : Int32) : Option (Int32) := (f_X9_isLetter S p0).bind fun r1 => lt (fun (u4 : Unit) => some 1) fun j3 => if r1 = 0 then ((f_X9_isDigit S p0).bind fun r7 => if r7 = 0 then (if p0 = (32 : Int32) then (j3 ()) else (if p0 = (42 : Int32) then (j3 ()) else (if p0 = (35 : Int32) then (j3 ()) else (if p0 = (45 : Int32) then (j3 ()) else (some 0))))) else (j3 ())) else (j3 ())
abbrev rmX9_isTypeable : Room := { frames := 1, cells := 0, slots := 0, locals := 20 }
set_option maxHeartbeats 4000000 in
set_option maxRecDepth 100000 in
theorem c_X9_isTypeable (l : Launch) (D : va_G × Nat) (S : PS) (p0 : Int32) (r : Int32) (hf : f_X9_isTypeable S p0 = some r) : MI l D yX9_isTypeable wsX9_isTypeable rmX9_isTypeable S [.int p0] S r 0 0 := by
  unfold f_X9_isTypeable at hf
  refine Met.ofW (cc := cX9_isTypeable) (maxL := 1) (ret := (some .boolean)) (by decide) rfl ?_
  intro p e s m args below meth c s₁ B hml hv
  obtain ⟨rfl, hH0, hNE⟩ := hv
  have hx := B.exec
  have hb := B.bytes
  have hr := B.returns
  have hts := atoms_spec (ws := wsX9_isTypeable) B.pre
  have hown : s.vm.findClass RX9 = some m.cls := findClass_of_methodNamed B.named
  have hlocks := B.notSynchronized
  have hH : HI D S S s s.heap [] := HI.start hH0
  have hl := lv_entry ([.int p0]) (n := 1) (Nat.le_of_ble_eq_true rfl)
  rw [lg_entry_eq]
  generalize (lg_sl ([.int p0]) ++ List.replicate (1 - (lg_sl ([.int p0])).length) Slot.unset).toArray = ls at hl ⊢
  have hl : lv_has ls 1 [(0, .int p0)] := hl
  refine lv_iload_n hx hb dX9_isTypeable_0 rfl (lv_at hl 0 rfl) ?_
  obtain ⟨r1, e2, hf⟩ := ob hf
  refine r_callSi (As := [.int p0]) ⟨hx, hb, hml, hown, hts⟩ (c_X9_isLetter l D S p0 r1 e2) (va_cwS 1 hts (gwS gw_14_3 gw_14_4 gw_14_5 gw_14_0) rfl rfl rfl (by decide +kernel) ⟨Nat.le_of_ble_eq_true rfl, Nat.le_of_ble_eq_true rfl⟩) hH hNE rfl hl.1 rfl (Nat.le_of_ble_eq_true rfl) dX9_isTypeable_1 ⟨(Nat.le_of_ble_eq_true rfl), (Nat.le_of_ble_eq_true rfl)⟩ (fun H locs hH => ?_)
  obtain ⟨j3, e5, hf⟩ := ol hf
  have Jj3 : ∀ (u4 : Unit) (H : Heap) (locs : List Loc) (ls : Array Slot), HI D S S s H locs → lv_has ls 1 [] → j3 u4 = some r → GI p l e (headSpec wsX9_isTypeable rmX9_isTypeable).room s m ([.int p0] : List Value).toArray below meth c D S S r H locs 0 0 0 0 (F0 m 38 ls []) := by
    intro u4 H locs ls hH hl hf
    rw [← e5] at hf
    refine lv_iconst (v := 1) hx hb dX9_isTypeable_38 (by decide) ?_
    refine lv_goto (tgt := 43) hx hb dX9_isTypeable_39 (by decide) ?_
    have hr9 := Option.some.inj hf
    subst hr9
    exact e_z (r := 1) hx hb hr hlocks rfl hH dX9_isTypeable_43
  refine lv_if_ne (tgt := 38) hx hb dX9_isTypeable_4 (by decide) (fun c6 => ?_) (fun c6 => ?_)
  · have hf := iq hf c6
    exact Jj3 () _ _ ls hH (lv_sub hl [] rfl) hf
  · have hf := ip hf c6
    refine lv_iload_n hx hb dX9_isTypeable_7 rfl (lv_at hl 0 rfl) ?_
    obtain ⟨r7, e8, hf⟩ := ob hf
    refine r_callSi (As := [.int p0]) ⟨hx, hb, hml, hown, hts⟩ (c_X9_isDigit l D S p0 r7 e8) (va_cwS 1 hts (gwS gw_21_7 gw_17_7 gw_14_5 gw_17_5) rfl rfl rfl (by decide +kernel) ⟨Nat.le_of_ble_eq_true rfl, Nat.le_of_ble_eq_true rfl⟩) hH hNE rfl hl.1 rfl (Nat.le_of_ble_eq_true rfl) dX9_isTypeable_8 ⟨(Nat.le_of_ble_eq_true rfl), (Nat.le_of_ble_eq_true rfl)⟩ (fun H locs hH => ?_)
    refine lv_if_ne (tgt := 38) hx hb dX9_isTypeable_11 (by decide) (fun c9 => ?_) (fun c9 => ?_)
    · have hf := iq hf c9
      exact Jj3 () _ _ ls hH (lv_sub hl [] rfl) hf
    · have hf := ip hf c9
      refine lv_iload_n hx hb dX9_isTypeable_14 rfl (lv_at hl 0 rfl) ?_
      refine lv_bipush (v := 32) hx hb dX9_isTypeable_15 (by decide) ?_
      refine lv_icmp_eq (tgt := 38) hx hb dX9_isTypeable_17 (by decide) (fun c10 => ?_) (fun c10 => ?_)
      · have hf := ip hf c10
        exact Jj3 () _ _ ls hH (lv_sub hl [] rfl) hf
      · have hf := iq hf c10
        refine lv_iload_n hx hb dX9_isTypeable_20 rfl (lv_at hl 0 rfl) ?_
        refine lv_bipush (v := 42) hx hb dX9_isTypeable_21 (by decide) ?_
        refine lv_icmp_eq (tgt := 38) hx hb dX9_isTypeable_23 (by decide) (fun c11 => ?_) (fun c11 => ?_)
        · have hf := ip hf c11
          exact Jj3 () _ _ ls hH (lv_sub hl [] rfl) hf
        · have hf := iq hf c11
          refine lv_iload_n hx hb dX9_isTypeable_26 rfl (lv_at hl 0 rfl) ?_
          refine lv_bipush (v := 35) hx hb dX9_isTypeable_27 (by decide) ?_
          refine lv_icmp_eq (tgt := 38) hx hb dX9_isTypeable_29 (by decide) (fun c12 => ?_) (fun c12 => ?_)
          · have hf := ip hf c12
            exact Jj3 () _ _ ls hH (lv_sub hl [] rfl) hf
          · have hf := iq hf c12
            refine lv_iload_n hx hb dX9_isTypeable_32 rfl (lv_at hl 0 rfl) ?_
            refine lv_bipush (v := 45) hx hb dX9_isTypeable_33 (by decide) ?_
            refine lv_icmp_ne (tgt := 42) hx hb dX9_isTypeable_35 (by decide) (fun c13 => ?_) (fun c13 => ?_)
            · have hf := iq hf c13
              refine lv_iconst (v := 0) hx hb dX9_isTypeable_42 (by decide) ?_
              have hr9 := Option.some.inj hf
              subst hr9
              exact e_z (r := 0) hx hb hr hlocks rfl hH dX9_isTypeable_43
            · have hf := ip hf c13
              exact Jj3 () _ _ ls hH (lv_sub hl [] rfl) hf
set_option maxRecDepth 100000 in
def f_X9_type (S : PS) (a0 : Nat) (p1 : Int32) : Option ((PS × Int32) ⊕ (PS × Nat)) := (f_X9_isTypeable S p1).bind fun r1 => if r1 = 0 then (some (.inr (S, 1))) else (if kK S a0 = 13 then ((kQ S a0 0).bind fun a5 => if kK S a5 = 9 then ((f_X5_count S a5).bind fun r8 => if r8 < (20 : Int32) then ((f_X5_add S a5 p1).bind fun r11 => if kK r11 a0 = 13 then ((kQ r11 a0 0).bind fun a14 => if kK r11 a14 = 9 then ((f_X5_count r11 a14).bind fun r17 => some (.inl (r11, r17))) else none) else none) else (some (.inr (S, 2)))) else none) else none)
abbrev rmX9_type : Room := { frames := 6, cells := 1, slots := 6, locals := 90 }
set_option maxHeartbeats 4000000 in
set_option maxRecDepth 100000 in
theorem c_X9_type (l : Launch) (hst9 : l.stackTraces = false) (D : va_G × Nat) (S : PS) (a0 : Nat) (p1 : Int32) (r : (PS × Int32) ⊕ (PS × Nat)) (hf : f_X9_type S a0 p1 = some r) : XM l D yX9_type wsX9_type rmX9_type S [.ref a0, .int p1] (mI r) 1 6 := by
  unfold f_X9_type at hf
  refine vx_ofW (cc := cX9_type) (maxL := 2) (ret := (some .int)) (by decide) rfl ?_
  intro p e s m args below meth c s₁ B hml hxt hv
  obtain ⟨rfl, hH0, hE, hNE⟩ := hv
  have hB := hH0.base
  have hx := B.exec
  have hb := B.bytes
  have hr := B.returns
  have hts := atoms_spec (ws := wsX9_type) B.pre
  have hown : s.vm.findClass RX9 = some m.cls := findClass_of_methodNamed B.named
  have hlocks := B.notSynchronized
  have hH : HI D S S s s.heap [] := HI.start hH0
  have hl := lv_entry ([.ref a0, .int p1]) (n := 2) (Nat.le_of_ble_eq_true rfl)
  rw [lg_entry_eq]
  generalize (lg_sl ([.ref a0, .int p1]) ++ List.replicate (2 - (lg_sl ([.ref a0, .int p1])).length) Slot.unset).toArray = ls at hl ⊢
  have hl : lv_has ls 2 [(0, .ref a0), (1, .int p1)] := hl
  refine lv_iload_n hx hb dX9_type_0 rfl (lv_at hl 1 rfl) ?_
  obtain ⟨r1, e2, hf⟩ := ob hf
  refine r_callSi (As := [.int p1]) ⟨hx, hb, hml, hown, hts⟩ (c_X9_isTypeable l D S p1 r1 e2) (va_cwS 1 hts (gwS gw_21_13 gw_21_14 gw_14_5 gw_21_6) rfl rfl rfl (by decide +kernel) ⟨Nat.le_of_ble_eq_true rfl, Nat.le_of_ble_eq_true rfl⟩) hH hNE rfl hl.1 rfl (Nat.le_of_ble_eq_true rfl) dX9_type_1 ⟨(Nat.le_of_ble_eq_true rfl), (Nat.le_of_ble_eq_true rfl)⟩ (fun H locs hH => ?_)
  refine lv_if_ne (tgt := 17) hx hb dX9_type_4 (by decide) (fun c3 => ?_) (fun c3 => ?_)
  · have hf := iq hf c3
    refine lv_aload_n hx hb dX9_type_17 rfl (lv_at hl 0 rfl) ?_
    obtain ⟨ek4, hf⟩ := oc hf
    obtain ⟨a5, e6, hf⟩ := ob hf
    refine r_getQ hx hb 12 hts (fun w h => List.mem_cons_of_mem _ (mwsX90 w h)) hown hH ek4 (by decide) rfl 0 (by decide) rfl (hts (.fieldLink RX9 14 "Housestyle" "typed" "LHousestyle$Row;") (List.mem_cons_of_mem _ gw_19_21)) (fun _ h9 => h9) dX9_type_18 e6 ?_
    obtain ⟨ek7, hf⟩ := oc hf
    obtain ⟨r8, e9, hf⟩ := ob hf
    refine r_callVi (As := []) ⟨hx, hb, hml, hown, hts⟩ (c_X5_count l D S a5 r8 e9) (cwV 0 hts (gwV gw_21_15 gw_1_15 gw_1_16 gw_1_5 gw_1_11) rfl rfl rfl (by decide +kernel) ⟨Nat.le_of_ble_eq_true rfl, Nat.le_of_ble_eq_true rfl⟩) hH hNE 8 ek7 (by decide) rfl rfl rfl hl.1 rfl (Nat.le_of_ble_eq_true rfl) dX9_type_21 ⟨(Nat.le_of_ble_eq_true rfl), (Nat.le_of_ble_eq_true rfl)⟩ (fun H locs hH => ?_)
    refine lv_bipush (v := 20) hx hb dX9_type_24 (by decide) ?_
    refine lv_icmp_lt (tgt := 39) hx hb dX9_type_26 (by decide) (fun c10 => ?_) (fun c10 => ?_)
    · have hf := ip hf c10
      refine lv_aload_n hx hb dX9_type_39 rfl (lv_at hl 0 rfl) ?_
      refine r_getQ hx hb 12 hts (fun w h => List.mem_cons_of_mem _ (mwsX90 w h)) hown hH ek4 (by decide) rfl 0 (by decide) rfl (hts (.fieldLink RX9 14 "Housestyle" "typed" "LHousestyle$Row;") (List.mem_cons_of_mem _ gw_19_21)) (fun _ h9 => h9) dX9_type_40 e6 ?_
      refine lv_iload_n hx hb dX9_type_43 rfl (lv_at hl 1 rfl) ?_
      obtain ⟨r11, e12, hf⟩ := ob hf
      refine r_callVv (As := [.int p1]) ⟨hx, hb, hml, hown, hts⟩ (c_X5_add l D S a5 p1 r11 e12) (cwV 1 hts (gwV gw_21_16 gw_7_14 gw_7_15 gw_1_5 gw_7_11) rfl rfl rfl (by decide +kernel) ⟨Nat.le_of_ble_eq_true rfl, Nat.le_of_ble_eq_true rfl⟩) hH hNE 8 ek7 (by decide) rfl rfl rfl hl.1 rfl (Nat.le_of_ble_eq_true rfl) dX9_type_44 ⟨(Nat.le_of_ble_eq_true rfl), (Nat.le_of_ble_eq_true rfl)⟩ (fun H locs hH => ?_)
      refine lv_aload_n hx hb dX9_type_47 rfl (lv_at hl 0 rfl) ?_
      obtain ⟨ek13, hf⟩ := oc hf
      obtain ⟨a14, e15, hf⟩ := ob hf
      refine r_getQ hx hb 12 hts (fun w h => List.mem_cons_of_mem _ (mwsX90 w h)) hown hH ek13 (by decide) rfl 0 (by decide) rfl (hts (.fieldLink RX9 14 "Housestyle" "typed" "LHousestyle$Row;") (List.mem_cons_of_mem _ gw_19_21)) (fun _ h9 => h9) dX9_type_48 e15 ?_
      obtain ⟨ek16, hf⟩ := oc hf
      obtain ⟨r17, e18, hf⟩ := ob hf
      refine r_callVi (As := []) ⟨hx, hb, hml, hown, hts⟩ (c_X5_count l D r11 a14 r17 e18) (cwV 0 hts (gwV gw_21_15 gw_1_15 gw_1_16 gw_1_5 gw_1_11) rfl rfl rfl (by decide +kernel) ⟨Nat.le_of_ble_eq_true rfl, Nat.le_of_ble_eq_true rfl⟩) hH hNE 8 ek16 (by decide) rfl rfl rfl hl.1 rfl (Nat.le_of_ble_eq_true rfl) dX9_type_51 ⟨(Nat.le_of_ble_eq_true rfl), (Nat.le_of_ble_eq_true rfl)⟩ (fun H locs hH => ?_)
      refine W.widen (k := 1) (n := 6) (by omega) (by omega) ?_
      have hr9 := Option.some.inj hf
      subst hr9
      exact x_i hx hb hr hlocks hH dX9_type_54
    · have hf := iq hf c10
      cases hf
      exact r_throw (text := "there are 20") (cls := "java/lang/IllegalStateException") (names := ["java/lang/RuntimeException", "java/lang/Exception"]) 2 hx hb hst9 hown xf1 xn (hts (.classLink RX9 93 "java/lang/IllegalStateException") (List.mem_cons_of_mem _ gw_21_11)) (hts (.initialized "java/lang/IllegalStateException") (List.mem_cons_of_mem _ gw_21_12)) (List.mem_of_getElem? (i := 1) rfl) (xa1 hts hE) xg1 hE hB hH (hl.1.trans hml.symm) rfl dX9_type_29 dX9_type_32 dX9_type_33 dX9_type_35 dX9_type_38 hxt (Nat.le_of_ble_eq_true rfl) (Nat.le_of_ble_eq_true rfl) (Nat.le_of_ble_eq_true rfl) (Nat.le_of_ble_eq_true rfl) hlocks ⟨Nat.le_of_ble_eq_true rfl, Nat.le_of_ble_eq_true rfl⟩
  · have hf := ip hf c3
    cases hf
    exact r_throw (text := "no such sign") (cls := "java/lang/IllegalArgumentException") (names := ["java/lang/RuntimeException", "java/lang/Exception"]) 1 hx hb hst9 hown xf0 xn (hts (.classLink RX9 82 "java/lang/IllegalArgumentException") (List.mem_cons_of_mem _ gw_21_9)) (hts (.initialized "java/lang/IllegalArgumentException") (List.mem_cons_of_mem _ gw_21_10)) (List.mem_of_getElem? (i := 0) rfl) (xa0 hts hE) xg0 hE hB hH (hl.1.trans hml.symm) rfl dX9_type_7 dX9_type_10 dX9_type_11 dX9_type_13 dX9_type_16 hxt (Nat.le_of_ble_eq_true rfl) (Nat.le_of_ble_eq_true rfl) (Nat.le_of_ble_eq_true rfl) (Nat.le_of_ble_eq_true rfl) hlocks ⟨Nat.le_of_ble_eq_true rfl, Nat.le_of_ble_eq_true rfl⟩
set_option maxRecDepth 100000 in
def f_X9_wipe (S : PS) (a0 : Nat) : Option (PS × Int32) := if kK S a0 = 13 then ((kQ S a0 0).bind fun a2 => if kK S a2 = 9 then ((f_X5_count S a2).bind fun r5 => (f_X5_clear S a2).bind fun r7 => some (r7, r5)) else none) else none
abbrev rmX9_wipe : Room := { frames := 1, cells := 0, slots := 0, locals := 20 }
set_option maxHeartbeats 4000000 in
set_option maxRecDepth 100000 in
theorem c_X9_wipe (l : Launch) (D : va_G × Nat) (S : PS) (a0 : Nat) (r : PS × Int32) (hf : f_X9_wipe S a0 = some r) : MI l D yX9_wipe wsX9_wipe rmX9_wipe S [.ref a0] r.1 r.2 0 0 := by
  unfold f_X9_wipe at hf
  refine Met.ofW (cc := cX9_wipe) (maxL := 2) (ret := (some .int)) (by decide) rfl ?_
  intro p e s m args below meth c s₁ B hml hv
  obtain ⟨rfl, hH0, hNE⟩ := hv
  have hx := B.exec
  have hb := B.bytes
  have hr := B.returns
  have hts := atoms_spec (ws := wsX9_wipe) B.pre
  have hown : s.vm.findClass RX9 = some m.cls := findClass_of_methodNamed B.named
  have hlocks := B.notSynchronized
  have hH : HI D S S s s.heap [] := HI.start hH0
  have hl := lv_entry ([.ref a0]) (n := 2) (Nat.le_of_ble_eq_true rfl)
  rw [lg_entry_eq]
  generalize (lg_sl ([.ref a0]) ++ List.replicate (2 - (lg_sl ([.ref a0])).length) Slot.unset).toArray = ls at hl ⊢
  have hl : lv_has ls 2 [(0, .ref a0)] := hl
  refine lv_aload_n hx hb dX9_wipe_0 rfl (lv_at hl 0 rfl) ?_
  obtain ⟨ek1, hf⟩ := oc hf
  obtain ⟨a2, e3, hf⟩ := ob hf
  refine r_getQ hx hb 12 hts (fun w h => List.mem_cons_of_mem _ (mwsX90 w h)) hown hH ek1 (by decide) rfl 0 (by decide) rfl (hts (.fieldLink RX9 14 "Housestyle" "typed" "LHousestyle$Row;") (List.mem_cons_of_mem _ gw_19_21)) (fun _ h9 => h9) dX9_wipe_1 e3 ?_
  obtain ⟨ek4, hf⟩ := oc hf
  obtain ⟨r5, e6, hf⟩ := ob hf
  refine r_callVi (As := []) ⟨hx, hb, hml, hown, hts⟩ (c_X5_count l D S a2 r5 e6) (cwV 0 hts (gwV gw_21_15 gw_1_15 gw_1_16 gw_1_5 gw_1_11) rfl rfl rfl (by decide +kernel) ⟨Nat.le_of_ble_eq_true rfl, Nat.le_of_ble_eq_true rfl⟩) hH hNE 8 ek4 (by decide) rfl rfl rfl hl.1 rfl (Nat.le_of_ble_eq_true rfl) dX9_wipe_4 ⟨(Nat.le_of_ble_eq_true rfl), (Nat.le_of_ble_eq_true rfl)⟩ (fun H locs hH => ?_)
  refine lv_istore_n (lv' := [(1, .int r5), (0, .ref a0)]) hx hb dX9_wipe_7 rfl hl (by decide) rfl (fun ls hl => ?_)
  refine lv_aload_n hx hb dX9_wipe_8 rfl (lv_at hl 1 rfl) ?_
  refine r_getQ hx hb 12 hts (fun w h => List.mem_cons_of_mem _ (mwsX90 w h)) hown hH ek1 (by decide) rfl 0 (by decide) rfl (hts (.fieldLink RX9 14 "Housestyle" "typed" "LHousestyle$Row;") (List.mem_cons_of_mem _ gw_19_21)) (fun _ h9 => h9) dX9_wipe_9 e3 ?_
  obtain ⟨r7, e8, hf⟩ := ob hf
  refine r_callVv (As := []) ⟨hx, hb, hml, hown, hts⟩ (c_X5_clear l D S a2 r7 e8) (cwV 0 hts (gwV gw_21_18 gw_9_14 gw_9_15 gw_1_5 gw_9_11) rfl rfl rfl (by decide +kernel) ⟨Nat.le_of_ble_eq_true rfl, Nat.le_of_ble_eq_true rfl⟩) hH hNE 8 ek4 (by decide) rfl rfl rfl hl.1 rfl (Nat.le_of_ble_eq_true rfl) dX9_wipe_12 ⟨(Nat.le_of_ble_eq_true rfl), (Nat.le_of_ble_eq_true rfl)⟩ (fun H locs hH => ?_)
  refine lv_iload_n hx hb dX9_wipe_15 rfl (lv_at hl 0 rfl) ?_
  have hr9 := Option.some.inj hf
  subst hr9
  exact e_i hx hb hr hlocks hH dX9_wipe_16
set_option maxRecDepth 100000 in
def f_X9_isTextSign (S : PS) (p0 : Int32) : Option (Int32) := (f_X9_isLetter S p0).bind fun r1 => lt (fun (u4 : Unit) => some 1) fun j3 => if r1 = 0 then ((f_X9_isDigit S p0).bind fun r7 => if r7 = 0 then (if p0 = (32 : Int32) then (j3 ()) else (if p0 = (46 : Int32) then (j3 ()) else (if p0 = (34 : Int32) then (j3 ()) else (if p0 = (47 : Int32) then (j3 ()) else (some 0))))) else (j3 ())) else (j3 ())
abbrev rmX9_isTextSign : Room := { frames := 1, cells := 0, slots := 0, locals := 20 }
set_option maxHeartbeats 4000000 in
set_option maxRecDepth 100000 in
theorem c_X9_isTextSign (l : Launch) (D : va_G × Nat) (S : PS) (p0 : Int32) (r : Int32) (hf : f_X9_isTextSign S p0 = some r) : MI l D yX9_isTextSign wsX9_isTextSign rmX9_isTextSign S [.int p0] S r 0 0 := by
  unfold f_X9_isTextSign at hf
  refine Met.ofW (cc := cX9_isTextSign) (maxL := 1) (ret := (some .boolean)) (by decide) rfl ?_
  intro p e s m args below meth c s₁ B hml hv
  obtain ⟨rfl, hH0, hNE⟩ := hv
  have hx := B.exec
  have hb := B.bytes
  have hr := B.returns
  have hts := atoms_spec (ws := wsX9_isTextSign) B.pre
  have hown : s.vm.findClass RX9 = some m.cls := findClass_of_methodNamed B.named
  have hlocks := B.notSynchronized
  have hH : HI D S S s s.heap [] := HI.start hH0
  have hl := lv_entry ([.int p0]) (n := 1) (Nat.le_of_ble_eq_true rfl)
  rw [lg_entry_eq]
  generalize (lg_sl ([.int p0]) ++ List.replicate (1 - (lg_sl ([.int p0])).length) Slot.unset).toArray = ls at hl ⊢
  have hl : lv_has ls 1 [(0, .int p0)] := hl
  refine lv_iload_n hx hb dX9_isTextSign_0 rfl (lv_at hl 0 rfl) ?_
  obtain ⟨r1, e2, hf⟩ := ob hf
  refine r_callSi (As := [.int p0]) ⟨hx, hb, hml, hown, hts⟩ (c_X9_isLetter l D S p0 r1 e2) (va_cwS 1 hts (gwS gw_14_3 gw_14_4 gw_14_5 gw_14_0) rfl rfl rfl (by decide +kernel) ⟨Nat.le_of_ble_eq_true rfl, Nat.le_of_ble_eq_true rfl⟩) hH hNE rfl hl.1 rfl (Nat.le_of_ble_eq_true rfl) dX9_isTextSign_1 ⟨(Nat.le_of_ble_eq_true rfl), (Nat.le_of_ble_eq_true rfl)⟩ (fun H locs hH => ?_)
  obtain ⟨j3, e5, hf⟩ := ol hf
  have Jj3 : ∀ (u4 : Unit) (H : Heap) (locs : List Loc) (ls : Array Slot), HI D S S s H locs → lv_has ls 1 [] → j3 u4 = some r → GI p l e (headSpec wsX9_isTextSign rmX9_isTextSign).room s m ([.int p0] : List Value).toArray below meth c D S S r H locs 0 0 0 0 (F0 m 38 ls []) := by
    intro u4 H locs ls hH hl hf
    rw [← e5] at hf
    refine lv_iconst (v := 1) hx hb dX9_isTextSign_38 (by decide) ?_
    refine lv_goto (tgt := 43) hx hb dX9_isTextSign_39 (by decide) ?_
    have hr9 := Option.some.inj hf
    subst hr9
    exact e_z (r := 1) hx hb hr hlocks rfl hH dX9_isTextSign_43
  refine lv_if_ne (tgt := 38) hx hb dX9_isTextSign_4 (by decide) (fun c6 => ?_) (fun c6 => ?_)
  · have hf := iq hf c6
    exact Jj3 () _ _ ls hH (lv_sub hl [] rfl) hf
  · have hf := ip hf c6
    refine lv_iload_n hx hb dX9_isTextSign_7 rfl (lv_at hl 0 rfl) ?_
    obtain ⟨r7, e8, hf⟩ := ob hf
    refine r_callSi (As := [.int p0]) ⟨hx, hb, hml, hown, hts⟩ (c_X9_isDigit l D S p0 r7 e8) (va_cwS 1 hts (gwS gw_21_7 gw_17_7 gw_14_5 gw_17_5) rfl rfl rfl (by decide +kernel) ⟨Nat.le_of_ble_eq_true rfl, Nat.le_of_ble_eq_true rfl⟩) hH hNE rfl hl.1 rfl (Nat.le_of_ble_eq_true rfl) dX9_isTextSign_8 ⟨(Nat.le_of_ble_eq_true rfl), (Nat.le_of_ble_eq_true rfl)⟩ (fun H locs hH => ?_)
    refine lv_if_ne (tgt := 38) hx hb dX9_isTextSign_11 (by decide) (fun c9 => ?_) (fun c9 => ?_)
    · have hf := iq hf c9
      exact Jj3 () _ _ ls hH (lv_sub hl [] rfl) hf
    · have hf := ip hf c9
      refine lv_iload_n hx hb dX9_isTextSign_14 rfl (lv_at hl 0 rfl) ?_
      refine lv_bipush (v := 32) hx hb dX9_isTextSign_15 (by decide) ?_
      refine lv_icmp_eq (tgt := 38) hx hb dX9_isTextSign_17 (by decide) (fun c10 => ?_) (fun c10 => ?_)
      · have hf := ip hf c10
        exact Jj3 () _ _ ls hH (lv_sub hl [] rfl) hf
      · have hf := iq hf c10
        refine lv_iload_n hx hb dX9_isTextSign_20 rfl (lv_at hl 0 rfl) ?_
        refine lv_bipush (v := 46) hx hb dX9_isTextSign_21 (by decide) ?_
        refine lv_icmp_eq (tgt := 38) hx hb dX9_isTextSign_23 (by decide) (fun c11 => ?_) (fun c11 => ?_)
        · have hf := ip hf c11
          exact Jj3 () _ _ ls hH (lv_sub hl [] rfl) hf
        · have hf := iq hf c11
          refine lv_iload_n hx hb dX9_isTextSign_26 rfl (lv_at hl 0 rfl) ?_
          refine lv_bipush (v := 34) hx hb dX9_isTextSign_27 (by decide) ?_
          refine lv_icmp_eq (tgt := 38) hx hb dX9_isTextSign_29 (by decide) (fun c12 => ?_) (fun c12 => ?_)
          · have hf := ip hf c12
            exact Jj3 () _ _ ls hH (lv_sub hl [] rfl) hf
          · have hf := iq hf c12
            refine lv_iload_n hx hb dX9_isTextSign_32 rfl (lv_at hl 0 rfl) ?_
            refine lv_bipush (v := 47) hx hb dX9_isTextSign_33 (by decide) ?_
            refine lv_icmp_ne (tgt := 42) hx hb dX9_isTextSign_35 (by decide) (fun c13 => ?_) (fun c13 => ?_)
            · have hf := iq hf c13
              refine lv_iconst (v := 0) hx hb dX9_isTextSign_42 (by decide) ?_
              have hr9 := Option.some.inj hf
              subst hr9
              exact e_z (r := 0) hx hb hr hlocks rfl hH dX9_isTextSign_43
            · have hf := ip hf c13
              exact Jj3 () _ _ ls hH (lv_sub hl [] rfl) hf
set_option maxRecDepth 100000 in
def f_X9_isWriter (S : PS) (p0 : Int32) : Option (Int32) := if p0 < 0 then (some 0) else (if (4 : Int32) ≤ p0 then (some 0) else (some 1))
abbrev rmX9_isWriter : Room := { frames := 0, cells := 0, slots := 0, locals := 0 }
set_option maxHeartbeats 4000000 in
set_option maxRecDepth 100000 in
theorem c_X9_isWriter (l : Launch) (D : va_G × Nat) (S : PS) (p0 : Int32) (r : Int32) (hf : f_X9_isWriter S p0 = some r) : MI l D yX9_isWriter wsX9_isWriter rmX9_isWriter S [.int p0] S r 0 0 := by
  unfold f_X9_isWriter at hf
  refine Met.ofW (cc := cX9_isWriter) (maxL := 1) (ret := (some .boolean)) (by decide) rfl ?_
  intro p e s m args below meth c s₁ B hml hv
  obtain ⟨rfl, hH0, hNE⟩ := hv
  have hx := B.exec
  have hb := B.bytes
  have hr := B.returns
  have hts := atoms_spec (ws := wsX9_isWriter) B.pre
  have hown : s.vm.findClass RX9 = some m.cls := findClass_of_methodNamed B.named
  have hlocks := B.notSynchronized
  have hH : HI D S S s s.heap [] := HI.start hH0
  have hl := lv_entry ([.int p0]) (n := 1) (Nat.le_of_ble_eq_true rfl)
  rw [lg_entry_eq]
  generalize (lg_sl ([.int p0]) ++ List.replicate (1 - (lg_sl ([.int p0])).length) Slot.unset).toArray = ls at hl ⊢
  have hl : lv_has ls 1 [(0, .int p0)] := hl
  refine lv_iload_n hx hb dX9_isWriter_0 rfl (lv_at hl 0 rfl) ?_
  refine lv_if_lt (tgt := 13) hx hb dX9_isWriter_1 (by decide) (fun c1 => ?_) (fun c1 => ?_)
  · have hf := ip hf c1
    refine lv_iconst (v := 0) hx hb dX9_isWriter_13 (by decide) ?_
    have hr9 := Option.some.inj hf
    subst hr9
    exact e_z (r := 0) hx hb hr hlocks rfl hH dX9_isWriter_14
  · have hf := iq hf c1
    refine lv_iload_n hx hb dX9_isWriter_4 rfl (lv_at hl 0 rfl) ?_
    refine lv_iconst (v := 4) hx hb dX9_isWriter_5 (by decide) ?_
    refine lv_icmp_ge (tgt := 13) hx hb dX9_isWriter_6 (by decide) (fun c2 => ?_) (fun c2 => ?_)
    · have hf := ip hf c2
      refine lv_iconst (v := 0) hx hb dX9_isWriter_13 (by decide) ?_
      have hr9 := Option.some.inj hf
      subst hr9
      exact e_z (r := 0) hx hb hr hlocks rfl hH dX9_isWriter_14
    · have hf := iq hf c2
      refine lv_iconst (v := 1) hx hb dX9_isWriter_9 (by decide) ?_
      refine lv_goto (tgt := 14) hx hb dX9_isWriter_10 (by decide) ?_
      have hr9 := Option.some.inj hf
      subst hr9
      exact e_z (r := 1) hx hb hr hlocks rfl hH dX9_isWriter_14
set_option maxRecDepth 100000 in
def f_X7_paragraphAt_b4 (a0 : Nat) (p1 : Int32) (S : PS) (x1 : Int32) (x2 : Int32) : Option ((Int32 × Int32) ⊕ ((Int32))) := if p1 ≤ x2 then (some (.inr x1)) else (if kK S a0 = 11 then ((kQ S a0 0).bind fun a9 => if kK S a9 = 9 then ((f_X5_count S a9).bind fun r12 => if r12 ≤ x2 then (some (.inr x1)) else ((f_X5_get S a9 x2).bind fun r15 => lt (fun (x17 : Int32) => lt (x2 + 1) fun x19 => some (.inl (x17, x19))) fun j18 => if r15 = (47 : Int32) then (lt (x1 + 1) fun x23 => j18 x23) else (j18 x1))) else none) else none)
set_option maxRecDepth 100000 in
def f_X7_paragraphAt (S : PS) (a0 : Nat) (p1 : Int32) : Option (Int32) := lt (fun (x3 : Int32) => some x3) fun k4 => (iter (fun (v : Int32 × Int32) => f_X7_paragraphAt_b4 a0 p1 S v.1 v.2) kF (0, 0)).bind (fun (v : Int32) => k4 v)
abbrev rmX7_paragraphAt : Room := { frames := 1, cells := 0, slots := 0, locals := 21 }
set_option maxHeartbeats 4000000 in
set_option maxRecDepth 100000 in
theorem c_X7_paragraphAt (l : Launch) (D : va_G × Nat) (S : PS) (a0 : Nat) (p1 : Int32) (r : Int32) (hf : f_X7_paragraphAt S a0 p1 = some r) : MI l D yX7_paragraphAt wsX7_paragraphAt rmX7_paragraphAt S [.ref a0, .int p1] S r 0 0 := by
  unfold f_X7_paragraphAt at hf
  refine Met.ofW (cc := cX7_paragraphAt) (maxL := 4) (ret := (some .int)) (by decide) rfl ?_
  intro p e s m args below meth c s₁ B hml hv
  obtain ⟨rfl, hH0, hNE⟩ := hv
  have hx := B.exec
  have hb := B.bytes
  have hr := B.returns
  have hts := atoms_spec (ws := wsX7_paragraphAt) B.pre
  have hown : s.vm.findClass RX7 = some m.cls := findClass_of_methodNamed B.named
  have hlocks := B.notSynchronized
  have hH : HI D S S s s.heap [] := HI.start hH0
  have hl := lv_entry ([.ref a0, .int p1]) (n := 4) (Nat.le_of_ble_eq_true rfl)
  rw [lg_entry_eq]
  generalize (lg_sl ([.ref a0, .int p1]) ++ List.replicate (4 - (lg_sl ([.ref a0, .int p1])).length) Slot.unset).toArray = ls at hl ⊢
  have hl : lv_has ls 4 [(0, .ref a0), (1, .int p1)] := hl
  refine lv_iconst (v := 0) hx hb dX7_paragraphAt_0 (by decide) ?_
  refine lv_istore_n (lv' := [(2, .int 0), (0, .ref a0), (1, .int p1)]) hx hb dX7_paragraphAt_1 rfl hl (by decide) rfl (fun ls hl => ?_)
  refine lv_iconst (v := 0) hx hb dX7_paragraphAt_2 (by decide) ?_
  refine lv_istore_n (lv' := [(3, .int 0), (2, .int 0), (0, .ref a0), (1, .int p1)]) hx hb dX7_paragraphAt_3 rfl hl (by decide) rfl (fun ls hl => ?_)
  obtain ⟨k4, e5, hf⟩ := ol hf
  have Xk4 : ∀ (x3 : Int32) (H : Heap) (locs : List Loc) (ls : Array Slot), HI D S S s H locs → lv_has ls 4 [(2, .int x3)] → k4 x3 = some r → GI p l e (headSpec wsX7_paragraphAt rmX7_paragraphAt).room s m ([.ref a0, .int p1] : List Value).toArray below meth c D S S r H locs 0 0 0 0 (F0 m 42 ls []) := by
    intro x3 H locs ls hH hl hf
    rw [← e5] at hf
    refine lv_iload_n hx hb dX7_paragraphAt_42 rfl (lv_at hl 0 rfl) ?_
    have hr9 := Option.some.inj hf
    subst hr9
    exact e_i hx hb hr hlocks hH dX7_paragraphAt_43
  obtain ⟨o6, eo6, hq6f⟩ := ob hf
  have Lo6 : ∀ (n : Nat) (x1 : Int32) (x2 : Int32), iter (fun (v : Int32 × Int32) => f_X7_paragraphAt_b4 a0 p1 S v.1 v.2) n (x1, x2) = some o6 → ∀ (H : Heap) (locs : List Loc) (ls : Array Slot), HI D S S s H locs → lv_has ls 4 [(0, .ref a0), (1, .int p1), (2, .int x1), (3, .int x2)] → GI p l e (headSpec wsX7_paragraphAt rmX7_paragraphAt).room s m ([.ref a0, .int p1] : List Value).toArray below meth c D S S r H locs 0 0 0 0 (F0 m 4 ls []) := by
    intro n
    induction n with
    | zero => intro x1 x2 hi; cases hi
    | succ n ih6 =>
      intro x1 x2 hi H locs ls hH hl
      obtain ⟨q6_, hf, hq6⟩ := iter_s hi
      have hf : f_X7_paragraphAt_b4 a0 p1 S x1 x2 = some q6_ := hf
      unfold f_X7_paragraphAt_b4 at hf
      refine lv_iload_n hx hb dX7_paragraphAt_4 rfl (lv_at hl 3 rfl) ?_
      refine lv_iload_n hx hb dX7_paragraphAt_5 rfl (lv_at hl 1 rfl) ?_
      refine lv_icmp_ge (tgt := 42) hx hb dX7_paragraphAt_6 (by decide) (fun c7 => ?_) (fun c7 => ?_)
      · have hf := ip hf c7
        cases hf
        have hf9 := itR (K := (fun (v : Int32) => k4 v)) hq6 hq6f
        exact Xk4 x1 _ _ ls hH (lv_sub hl [2] rfl) hf9
      · have hf := iq hf c7
        refine lv_iload_n hx hb dX7_paragraphAt_9 rfl (lv_at hl 3 rfl) ?_
        refine lv_aload_n hx hb dX7_paragraphAt_10 rfl (lv_at hl 0 rfl) ?_
        obtain ⟨ek8, hf⟩ := oc hf
        obtain ⟨a9, e10, hf⟩ := ob hf
        refine r_getQ hx hb 10 hts (fun w h => List.mem_cons_of_mem _ (mwsX70 w h)) hown hH ek8 (by decide) rfl 0 (by decide) rfl (hts (.fieldLink RX7 14 "Housestyle$Text" "signs" "LHousestyle$Row;") (List.mem_cons_of_mem _ gw_17_11)) (fun _ h9 => h9) dX7_paragraphAt_11 e10 ?_
        obtain ⟨ek11, hf⟩ := oc hf
        obtain ⟨r12, e13, hf⟩ := ob hf
        refine r_callVi (As := []) ⟨hx, hb, hml, hown, hts⟩ (c_X5_count l D S a9 r12 e13) (cwV 0 hts (gwV gw_17_17 gw_1_15 gw_1_16 gw_1_5 gw_1_11) rfl rfl rfl (by decide +kernel) ⟨Nat.le_of_ble_eq_true rfl, Nat.le_of_ble_eq_true rfl⟩) hH hNE 8 ek11 (by decide) rfl rfl rfl hl.1 rfl (Nat.le_of_ble_eq_true rfl) dX7_paragraphAt_14 ⟨(Nat.le_of_ble_eq_true rfl), (Nat.le_of_ble_eq_true rfl)⟩ (fun H locs hH => ?_)
        refine lv_icmp_ge (tgt := 42) hx hb dX7_paragraphAt_17 (by decide) (fun c14 => ?_) (fun c14 => ?_)
        · have hf := ip hf c14
          cases hf
          have hf9 := itR (K := (fun (v : Int32) => k4 v)) hq6 hq6f
          exact Xk4 x1 _ _ ls hH (lv_sub hl [2] rfl) hf9
        · have hf := iq hf c14
          refine lv_aload_n hx hb dX7_paragraphAt_20 rfl (lv_at hl 0 rfl) ?_
          refine r_getQ hx hb 10 hts (fun w h => List.mem_cons_of_mem _ (mwsX70 w h)) hown hH ek8 (by decide) rfl 0 (by decide) rfl (hts (.fieldLink RX7 14 "Housestyle$Text" "signs" "LHousestyle$Row;") (List.mem_cons_of_mem _ gw_17_11)) (fun _ h9 => h9) dX7_paragraphAt_21 e10 ?_
          refine lv_iload_n hx hb dX7_paragraphAt_24 rfl (lv_at hl 3 rfl) ?_
          obtain ⟨r15, e16, hf⟩ := ob hf
          refine r_callVi (As := [.int x2]) ⟨hx, hb, hml, hown, hts⟩ (c_X5_get l D S a9 x2 r15 e16) (cwV 1 hts (gwV gw_17_18 gw_2_13 gw_2_14 gw_1_5 gw_2_9) rfl rfl rfl (by decide +kernel) ⟨Nat.le_of_ble_eq_true rfl, Nat.le_of_ble_eq_true rfl⟩) hH hNE 8 ek11 (by decide) rfl rfl rfl hl.1 rfl (Nat.le_of_ble_eq_true rfl) dX7_paragraphAt_25 ⟨(Nat.le_of_ble_eq_true rfl), (Nat.le_of_ble_eq_true rfl)⟩ (fun H locs hH => ?_)
          refine lv_bipush (v := 47) hx hb dX7_paragraphAt_28 (by decide) ?_
          obtain ⟨j18, e21, hf⟩ := ol hf
          have Jj18 : ∀ (x17 : Int32) (H : Heap) (locs : List Loc) (ls : Array Slot), HI D S S s H locs → lv_has ls 4 [(0, .ref a0), (1, .int p1), (2, .int x17), (3, .int x2)] → j18 x17 = some q6_ → GI p l e (headSpec wsX7_paragraphAt rmX7_paragraphAt).room s m ([.ref a0, .int p1] : List Value).toArray below meth c D S S r H locs 0 0 0 0 (F0 m 36 ls []) := by
            intro x17 H locs ls hH hl hf
            rw [← e21] at hf
            obtain ⟨x19, e20, hf⟩ := ol hf
            refine lv_iinc (v := x19) (lv' := [(3, .int x19), (0, .ref a0), (1, .int p1), (2, .int x17)]) hx hb dX7_paragraphAt_36 hl (k := 3) rfl (by rw [← e20]; rfl) (by decide) rfl (fun ls hl => ?_)
            refine lv_goto (tgt := 4) hx hb dX7_paragraphAt_39 (by decide) ?_
            cases hf
            exact ih6 x17 x19 hq6 _ _ ls hH (lv_sub hl [1, 2, 3, 0] rfl)
          refine lv_icmp_ne (tgt := 36) hx hb dX7_paragraphAt_30 (by decide) (fun c22 => ?_) (fun c22 => ?_)
          · have hf := iq hf c22
            exact Jj18 x1 _ _ ls hH (lv_sub hl [0, 1, 2, 3] rfl) hf
          · have hf := ip hf c22
            obtain ⟨x23, e24, hf⟩ := ol hf
            refine lv_iinc (v := x23) (lv' := [(2, .int x23), (0, .ref a0), (1, .int p1), (3, .int x2)]) hx hb dX7_paragraphAt_33 hl (k := 2) rfl (by rw [← e24]; rfl) (by decide) rfl (fun ls hl => ?_)
            exact Jj18 x23 _ _ ls hH (lv_sub hl [1, 2, 0, 3] rfl) hf
  exact Lo6 kF 0 0 eo6 _ _ ls hH (lv_sub hl [2, 3, 1, 0] rfl)
set_option maxRecDepth 100000 in
def f_X7_insert (S : PS) (a0 : Nat) (p1 : Int32) (p2 : Int32) (p3 : Int32) : Option (PS) := if kK S a0 = 11 then ((f_X7_paragraphAt S a0 p1).bind fun r2 => (kQ S a0 0).bind fun a4 => if kK S a4 = 9 then ((f_X5_insert S a4 p1 p2).bind fun r7 => if kK r7 a0 = 11 then ((kQ r7 a0 1).bind fun a10 => if kK r7 a10 = 9 then ((f_X5_insert r7 a10 p1 p3).bind fun r13 => if kK r13 a0 = 11 then ((kQ r13 a0 2).bind fun a16 => if kK r13 a16 = 9 then ((f_X5_set r13 a16 r2 15).bind fun r19 => if p2 = (47 : Int32) then (if kK r19 a0 = 11 then ((kQ r19 a0 2).bind fun a23 => if kK r19 a23 = 9 then ((f_X5_insert r19 a23 (r2 + 1) 15).bind fun r26 => some r26) else none) else none) else (some r19)) else none) else none) else none) else none) else none) else none
abbrev rmX7_insert : Room := { frames := 2, cells := 0, slots := 0, locals := 44 }
set_option maxHeartbeats 4000000 in
set_option maxRecDepth 100000 in
theorem c_X7_insert (l : Launch) (D : va_G × Nat) (S : PS) (a0 : Nat) (p1 : Int32) (p2 : Int32) (p3 : Int32) (r : PS) (hf : f_X7_insert S a0 p1 p2 p3 = some r) : MV l D yX7_insert wsX7_insert rmX7_insert S [.ref a0, .int p1, .int p2, .int p3] r 0 0 := by
  unfold f_X7_insert at hf
  refine Met.ofW (cc := cX7_insert) (maxL := 5) (ret := none) (by decide) rfl ?_
  intro p e s m args below meth c s₁ B hml hv
  obtain ⟨rfl, hH0, hNE⟩ := hv
  have hx := B.exec
  have hb := B.bytes
  have hr := B.returns
  have hts := atoms_spec (ws := wsX7_insert) B.pre
  have hown : s.vm.findClass RX7 = some m.cls := findClass_of_methodNamed B.named
  have hlocks := B.notSynchronized
  have hH : HI D S S s s.heap [] := HI.start hH0
  have hl := lv_entry ([.ref a0, .int p1, .int p2, .int p3]) (n := 5) (Nat.le_of_ble_eq_true rfl)
  rw [lg_entry_eq]
  generalize (lg_sl ([.ref a0, .int p1, .int p2, .int p3]) ++ List.replicate (5 - (lg_sl ([.ref a0, .int p1, .int p2, .int p3])).length) Slot.unset).toArray = ls at hl ⊢
  have hl : lv_has ls 5 [(0, .ref a0), (1, .int p1), (2, .int p2), (3, .int p3)] := hl
  refine lv_aload_n hx hb dX7_insert_0 rfl (lv_at hl 0 rfl) ?_
  refine lv_iload_n hx hb dX7_insert_1 rfl (lv_at hl 1 rfl) ?_
  obtain ⟨ek1, hf⟩ := oc hf
  obtain ⟨r2, e3, hf⟩ := ob hf
  refine r_callVi (As := [.int p1]) ⟨hx, hb, hml, hown, hts⟩ (c_X7_paragraphAt l D S a0 p1 r2 e3) (cwV 1 hts (gwV gw_17_20 gw_17_21 gw_17_22 gw_17_23 gw_17_16) rfl rfl rfl (by decide +kernel) ⟨Nat.le_of_ble_eq_true rfl, Nat.le_of_ble_eq_true rfl⟩) hH hNE 10 ek1 (by decide) rfl rfl rfl hl.1 rfl (Nat.le_of_ble_eq_true rfl) dX7_insert_2 ⟨(Nat.le_of_ble_eq_true rfl), (Nat.le_of_ble_eq_true rfl)⟩ (fun H locs hH => ?_)
  refine lv_istore (lv' := [(4, .int r2), (0, .ref a0), (1, .int p1), (2, .int p2), (3, .int p3)]) hx hb dX7_insert_5 hl (by decide) rfl (fun ls hl => ?_)
  refine lv_aload_n hx hb dX7_insert_7 rfl (lv_at hl 1 rfl) ?_
  obtain ⟨a4, e5, hf⟩ := ob hf
  refine r_getQ hx hb 10 hts (fun w h => List.mem_cons_of_mem _ (mwsX70 w h)) hown hH ek1 (by decide) rfl 0 (by decide) rfl (hts (.fieldLink RX7 14 "Housestyle$Text" "signs" "LHousestyle$Row;") (List.mem_cons_of_mem _ gw_17_11)) (fun _ h9 => h9) dX7_insert_8 e5 ?_
  refine lv_iload_n hx hb dX7_insert_11 rfl (lv_at hl 2 rfl) ?_
  refine lv_iload_n hx hb dX7_insert_12 rfl (lv_at hl 3 rfl) ?_
  obtain ⟨ek6, hf⟩ := oc hf
  obtain ⟨r7, e8, hf⟩ := ob hf
  refine r_callVv (As := [.int p1, .int p2]) ⟨hx, hb, hml, hown, hts⟩ (c_X5_insert l D S a4 p1 p2 r7 e8) (cwV 2 hts (gwV gw_18_0 gw_18_1 gw_18_2 gw_1_5 gw_14_10) rfl rfl rfl (by decide +kernel) ⟨Nat.le_of_ble_eq_true rfl, Nat.le_of_ble_eq_true rfl⟩) hH hNE 8 ek6 (by decide) rfl rfl rfl hl.1 rfl (Nat.le_of_ble_eq_true rfl) dX7_insert_13 ⟨(Nat.le_of_ble_eq_true rfl), (Nat.le_of_ble_eq_true rfl)⟩ (fun H locs hH => ?_)
  refine lv_aload_n hx hb dX7_insert_16 rfl (lv_at hl 1 rfl) ?_
  obtain ⟨ek9, hf⟩ := oc hf
  obtain ⟨a10, e11, hf⟩ := ob hf
  refine r_getQ hx hb 10 hts (fun w h => List.mem_cons_of_mem _ (mwsX70 w h)) hown hH ek9 (by decide) rfl 1 (by decide) rfl (hts (.fieldLink RX7 20 "Housestyle$Text" "writers" "LHousestyle$Row;") (List.mem_cons_of_mem _ gw_17_12)) (fun _ h9 => h9) dX7_insert_17 e11 ?_
  refine lv_iload_n hx hb dX7_insert_20 rfl (lv_at hl 2 rfl) ?_
  refine lv_iload_n hx hb dX7_insert_21 rfl (lv_at hl 4 rfl) ?_
  obtain ⟨ek12, hf⟩ := oc hf
  obtain ⟨r13, e14, hf⟩ := ob hf
  refine r_callVv (As := [.int p1, .int p3]) ⟨hx, hb, hml, hown, hts⟩ (c_X5_insert l D r7 a10 p1 p3 r13 e14) (cwV 2 hts (gwV gw_18_0 gw_18_1 gw_18_2 gw_1_5 gw_14_10) rfl rfl rfl (by decide +kernel) ⟨Nat.le_of_ble_eq_true rfl, Nat.le_of_ble_eq_true rfl⟩) hH hNE 8 ek12 (by decide) rfl rfl rfl hl.1 rfl (Nat.le_of_ble_eq_true rfl) dX7_insert_22 ⟨(Nat.le_of_ble_eq_true rfl), (Nat.le_of_ble_eq_true rfl)⟩ (fun H locs hH => ?_)
  refine lv_aload_n hx hb dX7_insert_25 rfl (lv_at hl 1 rfl) ?_
  obtain ⟨ek15, hf⟩ := oc hf
  obtain ⟨a16, e17, hf⟩ := ob hf
  refine r_getQ hx hb 10 hts (fun w h => List.mem_cons_of_mem _ (mwsX70 w h)) hown hH ek15 (by decide) rfl 2 (by decide) rfl (hts (.fieldLink RX7 23 "Housestyle$Text" "changed" "LHousestyle$Row;") (List.mem_cons_of_mem _ gw_17_13)) (fun _ h9 => h9) dX7_insert_26 e17 ?_
  refine lv_iload hx hb dX7_insert_29 (lv_at hl 0 rfl) ?_
  refine lv_bipush (v := 15) hx hb dX7_insert_31 (by decide) ?_
  obtain ⟨ek18, hf⟩ := oc hf
  obtain ⟨r19, e20, hf⟩ := ob hf
  refine r_callVv (As := [.int r2, .int 15]) ⟨hx, hb, hml, hown, hts⟩ (c_X5_set l D r13 a16 r2 15 r19 e20) (cwV 2 hts (gwV gw_18_3 gw_5_20 gw_5_21 gw_1_5 gw_5_16) rfl rfl rfl (by decide +kernel) ⟨Nat.le_of_ble_eq_true rfl, Nat.le_of_ble_eq_true rfl⟩) hH hNE 8 ek18 (by decide) rfl rfl rfl hl.1 rfl (Nat.le_of_ble_eq_true rfl) dX7_insert_33 ⟨(Nat.le_of_ble_eq_true rfl), (Nat.le_of_ble_eq_true rfl)⟩ (fun H locs hH => ?_)
  refine lv_iload_n hx hb dX7_insert_36 rfl (lv_at hl 3 rfl) ?_
  refine lv_bipush (v := 47) hx hb dX7_insert_37 (by decide) ?_
  refine lv_icmp_ne (tgt := 55) hx hb dX7_insert_39 (by decide) (fun c21 => ?_) (fun c21 => ?_)
  · have hf := iq hf c21
    have hr9 := Option.some.inj hf
    subst hr9
    exact e_v hx hb hr hlocks hH dX7_insert_55
  · have hf := ip hf c21
    refine lv_aload_n hx hb dX7_insert_42 rfl (lv_at hl 1 rfl) ?_
    obtain ⟨ek22, hf⟩ := oc hf
    obtain ⟨a23, e24, hf⟩ := ob hf
    refine r_getQ hx hb 10 hts (fun w h => List.mem_cons_of_mem _ (mwsX70 w h)) hown hH ek22 (by decide) rfl 2 (by decide) rfl (hts (.fieldLink RX7 23 "Housestyle$Text" "changed" "LHousestyle$Row;") (List.mem_cons_of_mem _ gw_17_13)) (fun _ h9 => h9) dX7_insert_43 e24 ?_
    refine lv_iload hx hb dX7_insert_46 (lv_at hl 0 rfl) ?_
    refine lv_iconst (v := 1) hx hb dX7_insert_48 (by decide) ?_
    refine lv_iadd hx hb dX7_insert_49 ?_
    refine lv_bipush (v := 15) hx hb dX7_insert_50 (by decide) ?_
    obtain ⟨ek25, hf⟩ := oc hf
    obtain ⟨r26, e27, hf⟩ := ob hf
    refine r_callVv (As := [.int (r2 + 1), .int 15]) ⟨hx, hb, hml, hown, hts⟩ (c_X5_insert l D r19 a23 (r2 + 1) 15 r26 e27) (cwV 2 hts (gwV gw_18_0 gw_18_1 gw_18_2 gw_1_5 gw_14_10) rfl rfl rfl (by decide +kernel) ⟨Nat.le_of_ble_eq_true rfl, Nat.le_of_ble_eq_true rfl⟩) hH hNE 8 ek25 (by decide) rfl rfl rfl hl.1 rfl (Nat.le_of_ble_eq_true rfl) dX7_insert_52 ⟨(Nat.le_of_ble_eq_true rfl), (Nat.le_of_ble_eq_true rfl)⟩ (fun H locs hH => ?_)
    have hr9 := Option.some.inj hf
    subst hr9
    exact e_v hx hb hr hlocks hH dX7_insert_55
set_option maxRecDepth 100000 in
def f_X1_ignoredCount (S : PS) (a0 : Nat) : Option (Int32) := if kK S a0 = 5 then ((kQ S a0 1).bind fun a2 => if kK S a2 = 9 then ((f_X5_count S a2).bind fun r5 => some r5) else none) else none
abbrev rmX1_ignoredCount : Room := { frames := 1, cells := 0, slots := 0, locals := 20 }
set_option maxHeartbeats 4000000 in
set_option maxRecDepth 100000 in
theorem c_X1_ignoredCount (l : Launch) (D : va_G × Nat) (S : PS) (a0 : Nat) (r : Int32) (hf : f_X1_ignoredCount S a0 = some r) : MI l D yX1_ignoredCount wsX1_ignoredCount rmX1_ignoredCount S [.ref a0] S r 0 0 := by
  unfold f_X1_ignoredCount at hf
  refine Met.ofW (cc := cX1_ignoredCount) (maxL := 1) (ret := (some .int)) (by decide) rfl ?_
  intro p e s m args below meth c s₁ B hml hv
  obtain ⟨rfl, hH0, hNE⟩ := hv
  have hx := B.exec
  have hb := B.bytes
  have hr := B.returns
  have hts := atoms_spec (ws := wsX1_ignoredCount) B.pre
  have hown : s.vm.findClass RX1 = some m.cls := findClass_of_methodNamed B.named
  have hlocks := B.notSynchronized
  have hH : HI D S S s s.heap [] := HI.start hH0
  have hl := lv_entry ([.ref a0]) (n := 1) (Nat.le_of_ble_eq_true rfl)
  rw [lg_entry_eq]
  generalize (lg_sl ([.ref a0]) ++ List.replicate (1 - (lg_sl ([.ref a0])).length) Slot.unset).toArray = ls at hl ⊢
  have hl : lv_has ls 1 [(0, .ref a0)] := hl
  refine lv_aload_n hx hb dX1_ignoredCount_0 rfl (lv_at hl 0 rfl) ?_
  obtain ⟨ek1, hf⟩ := oc hf
  obtain ⟨a2, e3, hf⟩ := ob hf
  refine r_getQ hx hb 4 hts (fun w h => List.mem_cons_of_mem _ (mwsX10 w h)) hown hH ek1 (by decide) rfl 1 (by decide) rfl (hts (.fieldLink RX1 23 "Housestyle$Desk" "ignoredRules" "LHousestyle$Row;") (List.mem_cons_of_mem _ gw_8_22)) (fun _ h9 => h9) dX1_ignoredCount_1 e3 ?_
  obtain ⟨ek4, hf⟩ := oc hf
  obtain ⟨r5, e6, hf⟩ := ob hf
  refine r_callVi (As := []) ⟨hx, hb, hml, hown, hts⟩ (c_X5_count l D S a2 r5 e6) (cwV 0 hts (gwV gw_9_8 gw_1_15 gw_1_16 gw_1_5 gw_1_11) rfl rfl rfl (by decide +kernel) ⟨Nat.le_of_ble_eq_true rfl, Nat.le_of_ble_eq_true rfl⟩) hH hNE 8 ek4 (by decide) rfl rfl rfl hl.1 rfl (Nat.le_of_ble_eq_true rfl) dX1_ignoredCount_4 ⟨(Nat.le_of_ble_eq_true rfl), (Nat.le_of_ble_eq_true rfl)⟩ (fun H locs hH => ?_)
  have hr9 := Option.some.inj hf
  subst hr9
  exact e_i hx hb hr hlocks hH dX1_ignoredCount_7
set_option maxRecDepth 100000 in
def f_X1_forget (S : PS) (a0 : Nat) (p1 : Int32) : Option (PS) := if kK S a0 = 5 then ((kQ S a0 1).bind fun a2 => if kK S a2 = 9 then ((f_X5_remove S a2 p1).bind fun r5 => lt r5.1 fun S7 => if kK S7 a0 = 5 then ((kQ S7 a0 2).bind fun a10 => if kK S7 a10 = 9 then ((f_X5_remove S7 a10 p1).bind fun r13 => lt r13.1 fun S15 => if kK S15 a0 = 5 then ((kQ S15 a0 3).bind fun a18 => if kK S15 a18 = 9 then ((f_X5_remove S15 a18 p1).bind fun r21 => lt r21.1 fun S23 => some S23) else none) else none) else none) else none) else none) else none
abbrev rmX1_forget : Room := { frames := 1, cells := 0, slots := 0, locals := 23 }
set_option maxHeartbeats 4000000 in
set_option maxRecDepth 100000 in
theorem c_X1_forget (l : Launch) (D : va_G × Nat) (S : PS) (a0 : Nat) (p1 : Int32) (r : PS) (hf : f_X1_forget S a0 p1 = some r) : MV l D yX1_forget wsX1_forget rmX1_forget S [.ref a0, .int p1] r 0 0 := by
  unfold f_X1_forget at hf
  refine Met.ofW (cc := cX1_forget) (maxL := 2) (ret := none) (by decide) rfl ?_
  intro p e s m args below meth c s₁ B hml hv
  obtain ⟨rfl, hH0, hNE⟩ := hv
  have hx := B.exec
  have hb := B.bytes
  have hr := B.returns
  have hts := atoms_spec (ws := wsX1_forget) B.pre
  have hown : s.vm.findClass RX1 = some m.cls := findClass_of_methodNamed B.named
  have hlocks := B.notSynchronized
  have hH : HI D S S s s.heap [] := HI.start hH0
  have hl := lv_entry ([.ref a0, .int p1]) (n := 2) (Nat.le_of_ble_eq_true rfl)
  rw [lg_entry_eq]
  generalize (lg_sl ([.ref a0, .int p1]) ++ List.replicate (2 - (lg_sl ([.ref a0, .int p1])).length) Slot.unset).toArray = ls at hl ⊢
  have hl : lv_has ls 2 [(0, .ref a0), (1, .int p1)] := hl
  refine lv_aload_n hx hb dX1_forget_0 rfl (lv_at hl 0 rfl) ?_
  obtain ⟨ek1, hf⟩ := oc hf
  obtain ⟨a2, e3, hf⟩ := ob hf
  refine r_getQ hx hb 4 hts (fun w h => List.mem_cons_of_mem _ (mwsX10 w h)) hown hH ek1 (by decide) rfl 1 (by decide) rfl (hts (.fieldLink RX1 23 "Housestyle$Desk" "ignoredRules" "LHousestyle$Row;") (List.mem_cons_of_mem _ gw_8_22)) (fun _ h9 => h9) dX1_forget_1 e3 ?_
  refine lv_iload_n hx hb dX1_forget_4 rfl (lv_at hl 1 rfl) ?_
  obtain ⟨ek4, hf⟩ := oc hf
  obtain ⟨r5, e6, hf⟩ := ob hf
  refine r_callVi (As := [.int p1]) ⟨hx, hb, hml, hown, hts⟩ (c_X5_remove l D S a2 p1 r5 e6) (cwV 1 hts (gwV gw_10_0 gw_10_1 gw_10_2 gw_1_5 gw_9_22) rfl rfl rfl (by decide +kernel) ⟨Nat.le_of_ble_eq_true rfl, Nat.le_of_ble_eq_true rfl⟩) hH hNE 8 ek4 (by decide) rfl rfl rfl hl.1 rfl (Nat.le_of_ble_eq_true rfl) dX1_forget_5 ⟨(Nat.le_of_ble_eq_true rfl), (Nat.le_of_ble_eq_true rfl)⟩ (fun H locs hH => ?_)
  obtain ⟨S7, e8, hf⟩ := ol hf
  rw [e8] at hH
  refine lv_pop hx hb dX1_forget_8 rfl ?_
  refine lv_aload_n hx hb dX1_forget_9 rfl (lv_at hl 0 rfl) ?_
  obtain ⟨ek9, hf⟩ := oc hf
  obtain ⟨a10, e11, hf⟩ := ob hf
  refine r_getQ hx hb 4 hts (fun w h => List.mem_cons_of_mem _ (mwsX10 w h)) hown hH ek9 (by decide) rfl 2 (by decide) rfl (hts (.fieldLink RX1 26 "Housestyle$Desk" "ignoredFroms" "LHousestyle$Row;") (List.mem_cons_of_mem _ gw_8_23)) (fun _ h9 => h9) dX1_forget_10 e11 ?_
  refine lv_iload_n hx hb dX1_forget_13 rfl (lv_at hl 1 rfl) ?_
  obtain ⟨ek12, hf⟩ := oc hf
  obtain ⟨r13, e14, hf⟩ := ob hf
  refine r_callVi (As := [.int p1]) ⟨hx, hb, hml, hown, hts⟩ (c_X5_remove l D S7 a10 p1 r13 e14) (cwV 1 hts (gwV gw_10_0 gw_10_1 gw_10_2 gw_1_5 gw_9_22) rfl rfl rfl (by decide +kernel) ⟨Nat.le_of_ble_eq_true rfl, Nat.le_of_ble_eq_true rfl⟩) hH hNE 8 ek12 (by decide) rfl rfl rfl hl.1 rfl (Nat.le_of_ble_eq_true rfl) dX1_forget_14 ⟨(Nat.le_of_ble_eq_true rfl), (Nat.le_of_ble_eq_true rfl)⟩ (fun H locs hH => ?_)
  obtain ⟨S15, e16, hf⟩ := ol hf
  rw [e16] at hH
  refine lv_pop hx hb dX1_forget_17 rfl ?_
  refine lv_aload_n hx hb dX1_forget_18 rfl (lv_at hl 0 rfl) ?_
  obtain ⟨ek17, hf⟩ := oc hf
  obtain ⟨a18, e19, hf⟩ := ob hf
  refine r_getQ hx hb 4 hts (fun w h => List.mem_cons_of_mem _ (mwsX10 w h)) hown hH ek17 (by decide) rfl 3 (by decide) rfl (hts (.fieldLink RX1 29 "Housestyle$Desk" "ignoredLengths" "LHousestyle$Row;") (List.mem_cons_of_mem _ gw_9_0)) (fun _ h9 => h9) dX1_forget_19 e19 ?_
  refine lv_iload_n hx hb dX1_forget_22 rfl (lv_at hl 1 rfl) ?_
  obtain ⟨ek20, hf⟩ := oc hf
  obtain ⟨r21, e22, hf⟩ := ob hf
  refine r_callVi (As := [.int p1]) ⟨hx, hb, hml, hown, hts⟩ (c_X5_remove l D S15 a18 p1 r21 e22) (cwV 1 hts (gwV gw_10_0 gw_10_1 gw_10_2 gw_1_5 gw_9_22) rfl rfl rfl (by decide +kernel) ⟨Nat.le_of_ble_eq_true rfl, Nat.le_of_ble_eq_true rfl⟩) hH hNE 8 ek20 (by decide) rfl rfl rfl hl.1 rfl (Nat.le_of_ble_eq_true rfl) dX1_forget_23 ⟨(Nat.le_of_ble_eq_true rfl), (Nat.le_of_ble_eq_true rfl)⟩ (fun H locs hH => ?_)
  obtain ⟨S23, e24, hf⟩ := ol hf
  rw [e24] at hH
  refine lv_pop hx hb dX1_forget_26 rfl ?_
  have hr9 := Option.some.inj hf
  subst hr9
  exact e_v hx hb hr hlocks hH dX1_forget_27
set_option maxRecDepth 100000 in
def f_X1_followPut_b7 (a0 : Nat) (p1 : Int32) (x6 : Int32) (S7 : PS) : Option ((Int32 × PS) ⊕ ((PS))) := if x6 < 0 then (some (.inr S7)) else (if kK S7 a0 = 5 then ((kQ S7 a0 2).bind fun a14 => if kK S7 a14 = 9 then ((f_X5_get S7 a14 x6).bind fun r17 => lt (fun (S19 : PS) => lt (x6 + (-1)) fun x21 => some (.inl (x21, S19))) fun j20 => if r17 < p1 then ((kQ S7 a0 3).bind fun a25 => if kK S7 a25 = 9 then ((f_X5_get S7 a25 x6).bind fun r28 => if (r17 + r28) ≤ p1 then (j20 S7) else ((f_X1_forget S7 a0 x6).bind fun r31 => j20 r31)) else none) else ((f_X5_set S7 a14 x6 (r17 + 1)).bind fun r33 => j20 r33)) else none) else none)
set_option maxRecDepth 100000 in
def f_X1_followPut (S : PS) (a0 : Nat) (p1 : Int32) : Option (PS) := if kK S a0 = 5 then ((f_X1_ignoredCount S a0).bind fun r2 => lt (r2 - 1) fun x4 => lt (fun (S8 : PS) => some S8) fun k9 => (iter (fun (v : Int32 × PS) => f_X1_followPut_b7 a0 p1 v.1 v.2) kF (x4, S)).bind (fun (v : PS) => k9 v)) else none
abbrev rmX1_followPut : Room := { frames := 2, cells := 0, slots := 0, locals := 44 }
set_option maxHeartbeats 4000000 in
set_option maxRecDepth 100000 in
theorem c_X1_followPut (l : Launch) (D : va_G × Nat) (S : PS) (a0 : Nat) (p1 : Int32) (r : PS) (hf : f_X1_followPut S a0 p1 = some r) : MV l D yX1_followPut wsX1_followPut rmX1_followPut S [.ref a0, .int p1] r 0 0 := by
  unfold f_X1_followPut at hf
  refine Met.ofW (cc := cX1_followPut) (maxL := 4) (ret := none) (by decide) rfl ?_
  intro p e s m args below meth c s₁ B hml hv
  obtain ⟨rfl, hH0, hNE⟩ := hv
  have hx := B.exec
  have hb := B.bytes
  have hr := B.returns
  have hts := atoms_spec (ws := wsX1_followPut) B.pre
  have hown : s.vm.findClass RX1 = some m.cls := findClass_of_methodNamed B.named
  have hlocks := B.notSynchronized
  have hH : HI D S S s s.heap [] := HI.start hH0
  have hl := lv_entry ([.ref a0, .int p1]) (n := 4) (Nat.le_of_ble_eq_true rfl)
  rw [lg_entry_eq]
  generalize (lg_sl ([.ref a0, .int p1]) ++ List.replicate (4 - (lg_sl ([.ref a0, .int p1])).length) Slot.unset).toArray = ls at hl ⊢
  have hl : lv_has ls 4 [(0, .ref a0), (1, .int p1)] := hl
  refine lv_aload_n hx hb dX1_followPut_0 rfl (lv_at hl 0 rfl) ?_
  obtain ⟨ek1, hf⟩ := oc hf
  obtain ⟨r2, e3, hf⟩ := ob hf
  refine r_callVi (As := []) ⟨hx, hb, hml, hown, hts⟩ (c_X1_ignoredCount l D S a0 r2 e3) (cwV 0 hts (gwV gw_9_17 gw_9_18 gw_9_19 gw_9_20 gw_9_7) rfl rfl rfl (by decide +kernel) ⟨Nat.le_of_ble_eq_true rfl, Nat.le_of_ble_eq_true rfl⟩) hH hNE 4 ek1 (by decide) rfl rfl rfl hl.1 rfl (Nat.le_of_ble_eq_true rfl) dX1_followPut_1 ⟨(Nat.le_of_ble_eq_true rfl), (Nat.le_of_ble_eq_true rfl)⟩ (fun H locs hH => ?_)
  refine lv_iconst (v := 1) hx hb dX1_followPut_4 (by decide) ?_
  refine lv_isub hx hb dX1_followPut_5 ?_
  obtain ⟨x4, e5, hf⟩ := ol hf
  refine lv_topE e5 ?_
  refine lv_istore_n (lv' := [(2, .int x4), (0, .ref a0), (1, .int p1)]) hx hb dX1_followPut_6 rfl hl (by decide) rfl (fun ls hl => ?_)
  obtain ⟨k9, e10, hf⟩ := ol hf
  have Xk9 : ∀ (S8 : PS) (H : Heap) (locs : List Loc) (ls : Array Slot), HI D S S8 s H locs → lv_has ls 4 [] → k9 S8 = some r → GV p l e (headSpec wsX1_followPut rmX1_followPut).room s m ([.ref a0, .int p1] : List Value).toArray below meth c D S r H locs 0 0 0 0 (F0 m 64 ls []) := by
    intro S8 H locs ls hH hl hf
    rw [← e10] at hf
    have hr9 := Option.some.inj hf
    subst hr9
    exact e_v hx hb hr hlocks hH dX1_followPut_64
  obtain ⟨o11, eo11, hq11f⟩ := ob hf
  have Lo11 : ∀ (n : Nat) (x6 : Int32) (S7 : PS), iter (fun (v : Int32 × PS) => f_X1_followPut_b7 a0 p1 v.1 v.2) n (x6, S7) = some o11 → ∀ (H : Heap) (locs : List Loc) (ls : Array Slot), HI D S S7 s H locs → lv_has ls 4 [(0, .ref a0), (1, .int p1), (2, .int x6)] → GV p l e (headSpec wsX1_followPut rmX1_followPut).room s m ([.ref a0, .int p1] : List Value).toArray below meth c D S r H locs 0 0 0 0 (F0 m 7 ls []) := by
    intro n
    induction n with
    | zero => intro x6 S7 hi; cases hi
    | succ n ih11 =>
      intro x6 S7 hi H locs ls hH hl
      obtain ⟨q11_, hf, hq11⟩ := iter_s hi
      have hf : f_X1_followPut_b7 a0 p1 x6 S7 = some q11_ := hf
      unfold f_X1_followPut_b7 at hf
      refine lv_iload_n hx hb dX1_followPut_7 rfl (lv_at hl 2 rfl) ?_
      refine lv_if_lt (tgt := 64) hx hb dX1_followPut_8 (by decide) (fun c12 => ?_) (fun c12 => ?_)
      · have hf := ip hf c12
        cases hf
        have hf9 := itR (K := (fun (v : PS) => k9 v)) hq11 hq11f
        exact Xk9 S7 _ _ ls hH (lv_sub hl [] rfl) hf9
      · have hf := iq hf c12
        refine lv_aload_n hx hb dX1_followPut_11 rfl (lv_at hl 0 rfl) ?_
        obtain ⟨ek13, hf⟩ := oc hf
        obtain ⟨a14, e15, hf⟩ := ob hf
        refine r_getQ hx hb 4 hts (fun w h => List.mem_cons_of_mem _ (mwsX10 w h)) hown hH ek13 (by decide) rfl 2 (by decide) rfl (hts (.fieldLink RX1 26 "Housestyle$Desk" "ignoredFroms" "LHousestyle$Row;") (List.mem_cons_of_mem _ gw_8_23)) (fun _ h9 => h9) dX1_followPut_12 e15 ?_
        refine lv_iload_n hx hb dX1_followPut_15 rfl (lv_at hl 2 rfl) ?_
        obtain ⟨ek16, hf⟩ := oc hf
        obtain ⟨r17, e18, hf⟩ := ob hf
        refine r_callVi (As := [.int x6]) ⟨hx, hb, hml, hown, hts⟩ (c_X5_get l D S7 a14 x6 r17 e18) (cwV 1 hts (gwV gw_9_21 gw_2_13 gw_2_14 gw_1_5 gw_2_9) rfl rfl rfl (by decide +kernel) ⟨Nat.le_of_ble_eq_true rfl, Nat.le_of_ble_eq_true rfl⟩) hH hNE 8 ek16 (by decide) rfl rfl rfl hl.1 rfl (Nat.le_of_ble_eq_true rfl) dX1_followPut_16 ⟨(Nat.le_of_ble_eq_true rfl), (Nat.le_of_ble_eq_true rfl)⟩ (fun H locs hH => ?_)
        refine lv_istore_n (lv' := [(3, .int r17), (0, .ref a0), (1, .int p1), (2, .int x6)]) hx hb dX1_followPut_19 rfl hl (by decide) rfl (fun ls hl => ?_)
        refine lv_iload_n hx hb dX1_followPut_20 rfl (lv_at hl 2 rfl) ?_
        refine lv_iload_n hx hb dX1_followPut_21 rfl (lv_at hl 0 rfl) ?_
        obtain ⟨j20, e23, hf⟩ := ol hf
        have Jj20 : ∀ (S19 : PS) (H : Heap) (locs : List Loc) (ls : Array Slot), HI D S S19 s H locs → lv_has ls 4 [(0, .ref a0), (1, .int p1), (2, .int x6)] → j20 S19 = some q11_ → GV p l e (headSpec wsX1_followPut rmX1_followPut).room s m ([.ref a0, .int p1] : List Value).toArray below meth c D S r H locs 0 0 0 0 (F0 m 58 ls []) := by
          intro S19 H locs ls hH hl hf
          rw [← e23] at hf
          obtain ⟨x21, e22, hf⟩ := ol hf
          refine lv_iinc (v := x21) (lv' := [(2, .int x21), (0, .ref a0), (1, .int p1)]) hx hb dX1_followPut_58 hl (k := 2) rfl (by rw [← e22]; rfl) (by decide) rfl (fun ls hl => ?_)
          refine lv_goto (tgt := 7) hx hb dX1_followPut_61 (by decide) ?_
          cases hf
          exact ih11 x21 S19 hq11 _ _ ls hH (lv_sub hl [1, 2, 0] rfl)
        refine lv_icmp_gt (tgt := 39) hx hb dX1_followPut_22 (by decide) (fun c24 => ?_) (fun c24 => ?_)
        · have hf := ip hf c24
          refine lv_iload_n hx hb dX1_followPut_39 rfl (lv_at hl 2 rfl) ?_
          refine lv_iload_n hx hb dX1_followPut_40 rfl (lv_at hl 0 rfl) ?_
          refine lv_aload_n hx hb dX1_followPut_41 rfl (lv_at hl 1 rfl) ?_
          obtain ⟨a25, e26, hf⟩ := ob hf
          refine r_getQ hx hb 4 hts (fun w h => List.mem_cons_of_mem _ (mwsX10 w h)) hown hH ek13 (by decide) rfl 3 (by decide) rfl (hts (.fieldLink RX1 29 "Housestyle$Desk" "ignoredLengths" "LHousestyle$Row;") (List.mem_cons_of_mem _ gw_9_0)) (fun _ h9 => h9) dX1_followPut_42 e26 ?_
          refine lv_iload_n hx hb dX1_followPut_45 rfl (lv_at hl 3 rfl) ?_
          obtain ⟨ek27, hf⟩ := oc hf
          obtain ⟨r28, e29, hf⟩ := ob hf
          refine r_callVi (As := [.int x6]) ⟨hx, hb, hml, hown, hts⟩ (c_X5_get l D S7 a25 x6 r28 e29) (cwV 1 hts (gwV gw_9_21 gw_2_13 gw_2_14 gw_1_5 gw_2_9) rfl rfl rfl (by decide +kernel) ⟨Nat.le_of_ble_eq_true rfl, Nat.le_of_ble_eq_true rfl⟩) hH hNE 8 ek27 (by decide) rfl rfl rfl hl.1 rfl (Nat.le_of_ble_eq_true rfl) dX1_followPut_46 ⟨(Nat.le_of_ble_eq_true rfl), (Nat.le_of_ble_eq_true rfl)⟩ (fun H locs hH => ?_)
          refine lv_iadd hx hb dX1_followPut_49 ?_
          refine lv_icmp_ge (tgt := 58) hx hb dX1_followPut_50 (by decide) (fun c30 => ?_) (fun c30 => ?_)
          · have hf := ip hf c30
            exact Jj20 S7 _ _ ls hH (lv_sub hl [1, 2, 3] rfl) hf
          · have hf := iq hf c30
            refine lv_aload_n hx hb dX1_followPut_53 rfl (lv_at hl 1 rfl) ?_
            refine lv_iload_n hx hb dX1_followPut_54 rfl (lv_at hl 3 rfl) ?_
            obtain ⟨r31, e32, hf⟩ := ob hf
            refine r_callVv (As := [.int x6]) ⟨hx, hb, hml, hown, hts⟩ (c_X1_forget l D S7 a0 x6 r31 e32) (cwV 1 hts (gwV gw_10_5 gw_10_6 gw_10_7 gw_9_20 gw_9_23) rfl rfl rfl (by decide +kernel) ⟨Nat.le_of_ble_eq_true rfl, Nat.le_of_ble_eq_true rfl⟩) hH hNE 4 ek13 (by decide) rfl rfl rfl hl.1 rfl (Nat.le_of_ble_eq_true rfl) dX1_followPut_55 ⟨(Nat.le_of_ble_eq_true rfl), (Nat.le_of_ble_eq_true rfl)⟩ (fun H locs hH => ?_)
            exact Jj20 r31 _ _ ls hH (lv_sub hl [1, 2, 3] rfl) hf
        · have hf := iq hf c24
          refine lv_aload_n hx hb dX1_followPut_25 rfl (lv_at hl 1 rfl) ?_
          refine r_getQ hx hb 4 hts (fun w h => List.mem_cons_of_mem _ (mwsX10 w h)) hown hH ek13 (by decide) rfl 2 (by decide) rfl (hts (.fieldLink RX1 26 "Housestyle$Desk" "ignoredFroms" "LHousestyle$Row;") (List.mem_cons_of_mem _ gw_8_23)) (fun _ h9 => h9) dX1_followPut_26 e15 ?_
          refine lv_iload_n hx hb dX1_followPut_29 rfl (lv_at hl 3 rfl) ?_
          refine lv_iload_n hx hb dX1_followPut_30 rfl (lv_at hl 0 rfl) ?_
          refine lv_iconst (v := 1) hx hb dX1_followPut_31 (by decide) ?_
          refine lv_iadd hx hb dX1_followPut_32 ?_
          obtain ⟨r33, e34, hf⟩ := ob hf
          refine r_callVv (As := [.int x6, .int (r17 + 1)]) ⟨hx, hb, hml, hown, hts⟩ (c_X5_set l D S7 a14 x6 (r17 + 1) r33 e34) (cwV 2 hts (gwV gw_10_4 gw_5_20 gw_5_21 gw_1_5 gw_5_16) rfl rfl rfl (by decide +kernel) ⟨Nat.le_of_ble_eq_true rfl, Nat.le_of_ble_eq_true rfl⟩) hH hNE 8 ek16 (by decide) rfl rfl rfl hl.1 rfl (Nat.le_of_ble_eq_true rfl) dX1_followPut_33 ⟨(Nat.le_of_ble_eq_true rfl), (Nat.le_of_ble_eq_true rfl)⟩ (fun H locs hH => ?_)
          refine lv_goto (tgt := 58) hx hb dX1_followPut_36 (by decide) ?_
          exact Jj20 r33 _ _ ls hH (lv_sub hl [1, 2, 3] rfl) hf
  exact Lo11 kF x4 S eo11 _ _ ls hH (lv_sub hl [1, 2, 0] rfl)
set_option maxRecDepth 100000 in
def f_X9_noteStale (S : PS) (a0 : Nat) : Option (PS) := if kK S a0 = 13 then (lt (wI S a0 7 0) fun S2 => if kK S2 a0 = 13 then (lt (wI S2 a0 8 (-1)) fun S5 => some S5) else none) else none
abbrev rmX9_noteStale : Room := { frames := 0, cells := 0, slots := 0, locals := 0 }
set_option maxHeartbeats 4000000 in
set_option maxRecDepth 100000 in
theorem c_X9_noteStale (l : Launch) (D : va_G × Nat) (S : PS) (a0 : Nat) (r : PS) (hf : f_X9_noteStale S a0 = some r) : MV l D yX9_noteStale wsX9_noteStale rmX9_noteStale S [.ref a0] r 0 0 := by
  unfold f_X9_noteStale at hf
  refine Met.ofW (cc := cX9_noteStale) (maxL := 1) (ret := none) (by decide) rfl ?_
  intro p e s m args below meth c s₁ B hml hv
  obtain ⟨rfl, hH0, hNE⟩ := hv
  have hx := B.exec
  have hb := B.bytes
  have hr := B.returns
  have hts := atoms_spec (ws := wsX9_noteStale) B.pre
  have hown : s.vm.findClass RX9 = some m.cls := findClass_of_methodNamed B.named
  have hlocks := B.notSynchronized
  have hH : HI D S S s s.heap [] := HI.start hH0
  have hl := lv_entry ([.ref a0]) (n := 1) (Nat.le_of_ble_eq_true rfl)
  rw [lg_entry_eq]
  generalize (lg_sl ([.ref a0]) ++ List.replicate (1 - (lg_sl ([.ref a0])).length) Slot.unset).toArray = ls at hl ⊢
  have hl : lv_has ls 1 [(0, .ref a0)] := hl
  refine lv_aload_n hx hb dX9_noteStale_0 rfl (lv_at hl 0 rfl) ?_
  refine lv_iconst (v := 0) hx hb dX9_noteStale_1 (by decide) ?_
  obtain ⟨ek1, hf⟩ := oc hf
  refine r_putI hx hb 12 hts (fun w h => List.mem_cons_of_mem _ (mwsX90 w h)) tyX9 tyX9_ok nmX9 hown hH ek1 (by decide) rfl 7 (by decide) rfl (hts (.fieldLink RX9 70 "Housestyle" "isRead" "Z") (List.mem_cons_of_mem _ gw_20_15)) (fun _ h9 => h9) (Or.inl rfl) (ty := .boolean) (by decide +kernel) rfl rfl dX9_noteStale_2 (fun H locs hH => ?_)
  obtain ⟨S2, e3, hf⟩ := ol hf
  rw [e3] at hH
  refine lv_aload_n hx hb dX9_noteStale_5 rfl (lv_at hl 0 rfl) ?_
  refine lv_iconst (v := (-1)) hx hb dX9_noteStale_6 (by decide) ?_
  obtain ⟨ek4, hf⟩ := oc hf
  refine r_putI hx hb 12 hts (fun w h => List.mem_cons_of_mem _ (mwsX90 w h)) tyX9 tyX9_ok nmX9 hown hH ek4 (by decide) rfl 8 (by decide) rfl (hts (.fieldLink RX9 74 "Housestyle" "solvedDesk" "I") (List.mem_cons_of_mem _ gw_20_16)) (fun _ h9 => h9) (Or.inl rfl) (ty := .int) (by decide +kernel) rfl rfl dX9_noteStale_7 (fun H locs hH => ?_)
  obtain ⟨S5, e6, hf⟩ := ol hf
  rw [e6] at hH
  have hr9 := Option.some.inj hf
  subst hr9
  exact e_v hx hb hr hlocks hH dX9_noteStale_10
set_option maxRecDepth 100000 in
def f_X9_putIn_b13 (a0 : Nat) (p1 : Int32) (x7 : Int32) (S8 : PS) : Option ((Int32 × PS) ⊕ ((PS))) := if kK S8 a0 = 13 then ((kQ S8 a0 4).bind fun a17 => if kK S8 a17 = 3 then ((f_Jx4a65c_size_8abf5 S8 a17).bind fun r20 => if r20 ≤ x7 then (some (.inr S8)) else ((f_Jx4a65c_get_915e3 S8 a17 x7).bind fun r23 => if kK S8 r23 = 5 then ((f_X1_followPut S8 r23 p1).bind fun r26 => lt (x7 + 1) fun x28 => some (.inl (x28, r26))) else none)) else none) else none
set_option maxRecDepth 100000 in
def f_X9_putIn (S : PS) (a0 : Nat) (p1 : Int32) (p2 : Int32) (p3 : Int32) : Option (PS) := if kK S a0 = 13 then ((kQ S a0 1).bind fun a2 => if kK S a2 = 11 then ((f_X7_insert S a2 p1 p2 p3).bind fun r5 => lt (fun (S9 : PS) => if kK S9 a0 = 13 then ((f_X9_noteStale S9 a0).bind fun r13 => some r13) else none) fun k10 => (iter (fun (v : Int32 × PS) => f_X9_putIn_b13 a0 p1 v.1 v.2) kF (0, r5)).bind (fun (v : PS) => k10 v)) else none) else none
abbrev rmX9_putIn : Room := { frames := 3, cells := 0, slots := 0, locals := 68 }
set_option maxHeartbeats 4000000 in
set_option maxRecDepth 100000 in
theorem c_X9_putIn (l : Launch) (D : va_G × Nat) (S : PS) (a0 : Nat) (p1 : Int32) (p2 : Int32) (p3 : Int32) (r : PS) (hf : f_X9_putIn S a0 p1 p2 p3 = some r) : MV l D yX9_putIn wsX9_putIn rmX9_putIn S [.ref a0, .int p1, .int p2, .int p3] r 0 0 := by
  unfold f_X9_putIn at hf
  refine Met.ofW (cc := cX9_putIn) (maxL := 5) (ret := none) (by decide) rfl ?_
  intro p e s m args below meth c s₁ B hml hv
  obtain ⟨rfl, hH0, hNE⟩ := hv
  have hx := B.exec
  have hb := B.bytes
  have hr := B.returns
  have hts := atoms_spec (ws := wsX9_putIn) B.pre
  have hown : s.vm.findClass RX9 = some m.cls := findClass_of_methodNamed B.named
  have hlocks := B.notSynchronized
  have hH : HI D S S s s.heap [] := HI.start hH0
  have hl := lv_entry ([.ref a0, .int p1, .int p2, .int p3]) (n := 5) (Nat.le_of_ble_eq_true rfl)
  rw [lg_entry_eq]
  generalize (lg_sl ([.ref a0, .int p1, .int p2, .int p3]) ++ List.replicate (5 - (lg_sl ([.ref a0, .int p1, .int p2, .int p3])).length) Slot.unset).toArray = ls at hl ⊢
  have hl : lv_has ls 5 [(0, .ref a0), (1, .int p1), (2, .int p2), (3, .int p3)] := hl
  refine lv_aload_n hx hb dX9_putIn_0 rfl (lv_at hl 0 rfl) ?_
  obtain ⟨ek1, hf⟩ := oc hf
  obtain ⟨a2, e3, hf⟩ := ob hf
  refine r_getQ hx hb 12 hts (fun w h => List.mem_cons_of_mem _ (mwsX90 w h)) hown hH ek1 (by decide) rfl 1 (by decide) rfl (hts (.fieldLink RX9 21 "Housestyle" "text" "LHousestyle$Text;") (List.mem_cons_of_mem _ gw_20_0)) (fun _ h9 => h9) dX9_putIn_1 e3 ?_
  refine lv_iload_n hx hb dX9_putIn_4 rfl (lv_at hl 1 rfl) ?_
  refine lv_iload_n hx hb dX9_putIn_5 rfl (lv_at hl 2 rfl) ?_
  refine lv_iload_n hx hb dX9_putIn_6 rfl (lv_at hl 3 rfl) ?_
  obtain ⟨ek4, hf⟩ := oc hf
  obtain ⟨r5, e6, hf⟩ := ob hf
  refine r_callVv (As := [.int p1, .int p2, .int p3]) ⟨hx, hb, hml, hown, hts⟩ (c_X7_insert l D S a2 p1 p2 p3 r5 e6) (cwV 3 hts (gwV gw_22_0 gw_22_1 gw_22_2 gw_17_23 gw_17_19) rfl rfl rfl (by decide +kernel) ⟨Nat.le_of_ble_eq_true rfl, Nat.le_of_ble_eq_true rfl⟩) hH hNE 10 ek4 (by decide) rfl rfl rfl hl.1 rfl (Nat.le_of_ble_eq_true rfl) dX9_putIn_7 ⟨(Nat.le_of_ble_eq_true rfl), (Nat.le_of_ble_eq_true rfl)⟩ (fun H locs hH => ?_)
  refine lv_iconst (v := 0) hx hb dX9_putIn_10 (by decide) ?_
  refine lv_istore (lv' := [(4, .int 0), (0, .ref a0), (1, .int p1), (2, .int p2), (3, .int p3)]) hx hb dX9_putIn_11 hl (by decide) rfl (fun ls hl => ?_)
  obtain ⟨k10, e11, hf⟩ := ol hf
  have Xk10 : ∀ (S9 : PS) (H : Heap) (locs : List Loc) (ls : Array Slot), HI D S S9 s H locs → lv_has ls 5 [(0, .ref a0)] → k10 S9 = some r → GV p l e (headSpec wsX9_putIn rmX9_putIn).room s m ([.ref a0, .int p1, .int p2, .int p3] : List Value).toArray below meth c D S r H locs 0 0 0 0 (F0 m 47 ls []) := by
    intro S9 H locs ls hH hl hf
    rw [← e11] at hf
    refine lv_aload_n hx hb dX9_putIn_47 rfl (lv_at hl 0 rfl) ?_
    obtain ⟨ek12, hf⟩ := oc hf
    obtain ⟨r13, e14, hf⟩ := ob hf
    refine r_callVv (As := []) ⟨hx, hb, hml, hown, hts⟩ (c_X9_noteStale l D S9 a0 r13 e14) (cwV 0 hts (gwV gw_22_8 gw_22_9 gw_22_10 gw_14_5 gw_21_21) rfl rfl rfl (by decide +kernel) ⟨Nat.le_of_ble_eq_true rfl, Nat.le_of_ble_eq_true rfl⟩) hH hNE 12 ek12 (by decide) rfl rfl rfl hl.1 rfl (Nat.le_of_ble_eq_true rfl) dX9_putIn_48 ⟨(Nat.le_of_ble_eq_true rfl), (Nat.le_of_ble_eq_true rfl)⟩ (fun H locs hH => ?_)
    have hr9 := Option.some.inj hf
    subst hr9
    exact e_v hx hb hr hlocks hH dX9_putIn_51
  obtain ⟨o15, eo15, hq15f⟩ := ob hf
  have Lo15 : ∀ (n : Nat) (x7 : Int32) (S8 : PS), iter (fun (v : Int32 × PS) => f_X9_putIn_b13 a0 p1 v.1 v.2) n (x7, S8) = some o15 → ∀ (H : Heap) (locs : List Loc) (ls : Array Slot), HI D S S8 s H locs → lv_has ls 5 [(0, .ref a0), (1, .int p1), (4, .int x7)] → GV p l e (headSpec wsX9_putIn rmX9_putIn).room s m ([.ref a0, .int p1, .int p2, .int p3] : List Value).toArray below meth c D S r H locs 0 0 0 0 (F0 m 13 ls []) := by
    intro n
    induction n with
    | zero => intro x7 S8 hi; cases hi
    | succ n ih15 =>
      intro x7 S8 hi H locs ls hH hl
      obtain ⟨q15_, hf, hq15⟩ := iter_s hi
      have hf : f_X9_putIn_b13 a0 p1 x7 S8 = some q15_ := hf
      unfold f_X9_putIn_b13 at hf
      refine lv_iload hx hb dX9_putIn_13 (lv_at hl 2 rfl) ?_
      refine lv_aload_n hx hb dX9_putIn_15 rfl (lv_at hl 0 rfl) ?_
      obtain ⟨ek16, hf⟩ := oc hf
      obtain ⟨a17, e18, hf⟩ := ob hf
      refine r_getQ hx hb 12 hts (fun w h => List.mem_cons_of_mem _ (mwsX90 w h)) hown hH ek16 (by decide) rfl 4 (by decide) rfl (hts (.fieldLink RX9 47 "Housestyle" "desks" "Ljava/util/ArrayList;") (List.mem_cons_of_mem _ gw_20_8)) (fun _ h9 => h9) dX9_putIn_16 e18 ?_
      obtain ⟨ek19, hf⟩ := oc hf
      obtain ⟨r20, e21, hf⟩ := ob hf
      refine r_callVi (As := []) ⟨hx, hb, hml, hown, hts⟩ (c_Jx4a65c_size_8abf5 l D S8 a17 r20 e21) (cwV 0 hts (gwV gw_22_3 gw_4_10 gw_4_11 gw_1_0 gw_1_18) rfl rfl rfl (by decide +kernel) ⟨Nat.le_of_ble_eq_true rfl, Nat.le_of_ble_eq_true rfl⟩) hH hNE 2 ek19 (by decide) rfl rfl rfl hl.1 rfl (Nat.le_of_ble_eq_true rfl) dX9_putIn_19 ⟨(Nat.le_of_ble_eq_true rfl), (Nat.le_of_ble_eq_true rfl)⟩ (fun H locs hH => ?_)
      refine lv_icmp_ge (tgt := 47) hx hb dX9_putIn_22 (by decide) (fun c22 => ?_) (fun c22 => ?_)
      · have hf := ip hf c22
        cases hf
        have hf9 := itR (K := (fun (v : PS) => k10 v)) hq15 hq15f
        exact Xk10 S8 _ _ ls hH (lv_sub hl [0] rfl) hf9
      · have hf := iq hf c22
        refine lv_aload_n hx hb dX9_putIn_25 rfl (lv_at hl 0 rfl) ?_
        refine r_getQ hx hb 12 hts (fun w h => List.mem_cons_of_mem _ (mwsX90 w h)) hown hH ek16 (by decide) rfl 4 (by decide) rfl (hts (.fieldLink RX9 47 "Housestyle" "desks" "Ljava/util/ArrayList;") (List.mem_cons_of_mem _ gw_20_8)) (fun _ h9 => h9) dX9_putIn_26 e18 ?_
        refine lv_iload hx hb dX9_putIn_29 (lv_at hl 2 rfl) ?_
        obtain ⟨r23, e24, hf⟩ := ob hf
        refine r_callVr (As := [.int x7]) ⟨hx, hb, hml, hown, hts⟩ (c_Jx4a65c_get_915e3 l D S8 a17 x7 r23 e24) (cwV 1 hts (gwV gw_22_4 gw_4_13 gw_4_14 gw_1_0 gw_2_2) rfl rfl rfl (by decide +kernel) ⟨Nat.le_of_ble_eq_true rfl, Nat.le_of_ble_eq_true rfl⟩) hH hNE 2 ek19 (by decide) rfl rfl rfl hl.1 rfl (Nat.le_of_ble_eq_true rfl) dX9_putIn_31 ⟨(Nat.le_of_ble_eq_true rfl), (Nat.le_of_ble_eq_true rfl)⟩ (fun H locs hH => ?_)
        obtain ⟨ek25, hf⟩ := oc hf
        refine r_castS 4 hx hb hown (hts (.classLink RX9 51 "Housestyle$Desk") (List.mem_cons_of_mem _ gw_21_23)) hH ek25 (by decide) rfl rfl dX9_putIn_34 ?_
        refine lv_iload_n hx hb dX9_putIn_37 rfl (lv_at hl 1 rfl) ?_
        obtain ⟨r26, e27, hf⟩ := ob hf
        refine r_callVv (As := [.int p1]) ⟨hx, hb, hml, hown, hts⟩ (c_X1_followPut l D S8 r23 p1 r26 e27) (cwV 1 hts (gwV gw_22_5 gw_22_6 gw_22_7 gw_9_20 gw_10_3) rfl rfl rfl (by decide +kernel) ⟨Nat.le_of_ble_eq_true rfl, Nat.le_of_ble_eq_true rfl⟩) hH hNE 4 ek25 (by decide) rfl rfl rfl hl.1 rfl (Nat.le_of_ble_eq_true rfl) dX9_putIn_38 ⟨(Nat.le_of_ble_eq_true rfl), (Nat.le_of_ble_eq_true rfl)⟩ (fun H locs hH => ?_)
        obtain ⟨x28, e29, hf⟩ := ol hf
        refine lv_iinc (v := x28) (lv' := [(4, .int x28), (0, .ref a0), (1, .int p1)]) hx hb dX9_putIn_41 hl (k := 2) rfl (by rw [← e29]; rfl) (by decide) rfl (fun ls hl => ?_)
        refine lv_goto (tgt := 13) hx hb dX9_putIn_44 (by decide) ?_
        cases hf
        exact ih15 x28 r26 hq15 _ _ ls hH (lv_sub hl [1, 2, 0] rfl)
  exact Lo15 kF 0 r5 eo15 _ _ ls hH (lv_sub hl [1, 2, 0] rfl)
set_option maxRecDepth 100000 in
def f_X9_put (S : PS) (a0 : Nat) (p1 : Int32) (p2 : Int32) (p3 : Int32) : Option ((PS × Int32) ⊕ (PS × Nat)) := lt (fun (u2 : Unit) => some (.inr (S, 3))) fun j1 => if p1 < 0 then (j1 ()) else (if kK S a0 = 13 then ((kQ S a0 1).bind fun a6 => if kK S a6 = 11 then ((kQ S a6 0).bind fun a9 => if kK S a9 = 9 then ((f_X5_count S a9).bind fun r12 => if p1 ≤ r12 then ((f_X9_isTextSign S p2).bind fun r15 => lt (fun (u18 : Unit) => some (.inr (S, 1))) fun j17 => if r15 = 0 then (j17 ()) else ((f_X9_isWriter S p3).bind fun r21 => if r21 = 0 then (j17 ()) else ((f_X5_count S a9).bind fun r24 => if r24 < (160 : Int32) then ((f_X9_putIn S a0 p1 p2 p3).bind fun r27 => if kK r27 a0 = 13 then ((kQ r27 a0 1).bind fun a30 => if kK r27 a30 = 11 then ((kQ r27 a30 0).bind fun a33 => if kK r27 a33 = 9 then ((f_X5_count r27 a33).bind fun r36 => some (.inl (r27, r36))) else none) else none) else none) else (some (.inr (S, 2)))))) else (j1 ())) else none) else none) else none)
abbrev rmX9_put : Room := { frames := 6, cells := 1, slots := 6, locals := 92 }
set_option maxHeartbeats 4000000 in
set_option maxRecDepth 100000 in
theorem c_X9_put (l : Launch) (hst9 : l.stackTraces = false) (D : va_G × Nat) (S : PS) (a0 : Nat) (p1 : Int32) (p2 : Int32) (p3 : Int32) (r : (PS × Int32) ⊕ (PS × Nat)) (hf : f_X9_put S a0 p1 p2 p3 = some r) : XM l D yX9_put wsX9_put rmX9_put S [.ref a0, .int p1, .int p2, .int p3] (mI r) 1 6 := by
  unfold f_X9_put at hf
  refine vx_ofW (cc := cX9_put) (maxL := 4) (ret := (some .int)) (by decide) rfl ?_
  intro p e s m args below meth c s₁ B hml hxt hv
  obtain ⟨rfl, hH0, hE, hNE⟩ := hv
  have hB := hH0.base
  have hx := B.exec
  have hb := B.bytes
  have hr := B.returns
  have hts := atoms_spec (ws := wsX9_put) B.pre
  have hown : s.vm.findClass RX9 = some m.cls := findClass_of_methodNamed B.named
  have hlocks := B.notSynchronized
  have hH : HI D S S s s.heap [] := HI.start hH0
  have hl := lv_entry ([.ref a0, .int p1, .int p2, .int p3]) (n := 4) (Nat.le_of_ble_eq_true rfl)
  rw [lg_entry_eq]
  generalize (lg_sl ([.ref a0, .int p1, .int p2, .int p3]) ++ List.replicate (4 - (lg_sl ([.ref a0, .int p1, .int p2, .int p3])).length) Slot.unset).toArray = ls at hl ⊢
  have hl : lv_has ls 4 [(0, .ref a0), (1, .int p1), (2, .int p2), (3, .int p3)] := hl
  refine lv_iload_n hx hb dX9_put_0 rfl (lv_at hl 1 rfl) ?_
  obtain ⟨j1, e3, hf⟩ := ol hf
  have Jj1 : ∀ (u2 : Unit) (H : Heap) (locs : List Loc) (ls : Array Slot), HI D S S s H locs → lv_has ls 4 [] → j1 u2 = some r → GX p l e (headSpec wsX9_put rmX9_put).room s m ([.ref a0, .int p1, .int p2, .int p3] : List Value).toArray below meth c D S (mI r) H locs 0 0 1 6 (F0 m 18 ls []) := by
    intro u2 H locs ls hH hl hf
    rw [← e3] at hf
    cases hf
    exact r_throw (text := "no such place") (cls := "java/lang/IndexOutOfBoundsException") (names := ["java/lang/RuntimeException", "java/lang/Exception"]) 3 hx hb hst9 hown xf2 xn (hts (.classLink RX9 103 "java/lang/IndexOutOfBoundsException") (List.mem_cons_of_mem _ gw_22_12)) (hts (.initialized "java/lang/IndexOutOfBoundsException") (List.mem_cons_of_mem _ gw_22_13)) (List.mem_of_getElem? (i := 2) rfl) (xa2 hts hE) xg2 hE hB hH (hl.1.trans hml.symm) rfl dX9_put_18 dX9_put_21 dX9_put_22 dX9_put_24 dX9_put_27 hxt (Nat.le_of_ble_eq_true rfl) (Nat.le_of_ble_eq_true rfl) (Nat.le_of_ble_eq_true rfl) (Nat.le_of_ble_eq_true rfl) hlocks ⟨Nat.le_of_ble_eq_true rfl, Nat.le_of_ble_eq_true rfl⟩
  refine lv_if_lt (tgt := 18) hx hb dX9_put_1 (by decide) (fun c4 => ?_) (fun c4 => ?_)
  · have hf := ip hf c4
    exact Jj1 () _ _ ls hH (lv_sub hl [] rfl) hf
  · have hf := iq hf c4
    refine lv_iload_n hx hb dX9_put_4 rfl (lv_at hl 1 rfl) ?_
    refine lv_aload_n hx hb dX9_put_5 rfl (lv_at hl 0 rfl) ?_
    obtain ⟨ek5, hf⟩ := oc hf
    obtain ⟨a6, e7, hf⟩ := ob hf
    refine r_getQ hx hb 12 hts (fun w h => List.mem_cons_of_mem _ (mwsX90 w h)) hown hH ek5 (by decide) rfl 1 (by decide) rfl (hts (.fieldLink RX9 21 "Housestyle" "text" "LHousestyle$Text;") (List.mem_cons_of_mem _ gw_20_0)) (fun _ h9 => h9) dX9_put_6 e7 ?_
    obtain ⟨ek8, hf⟩ := oc hf
    obtain ⟨a9, e10, hf⟩ := ob hf
    refine r_getQN hx hb 10 hts (fun w h => List.mem_cons_of_mem _ (mwsX70 w h)) hown hH ek8 (by decide) rfl 0 (by decide) rfl (nf_0 hNE) (fun _ h9 => h9) dX9_put_9 e10 ?_
    obtain ⟨ek11, hf⟩ := oc hf
    obtain ⟨r12, e13, hf⟩ := ob hf
    refine r_callVi (As := []) ⟨hx, hb, hml, hown, hts⟩ (c_X5_count l D S a9 r12 e13) (cwV 0 hts (gwV gw_21_15 gw_1_15 gw_1_16 gw_1_5 gw_1_11) rfl rfl rfl (by decide +kernel) ⟨Nat.le_of_ble_eq_true rfl, Nat.le_of_ble_eq_true rfl⟩) hH hNE 8 ek11 (by decide) rfl rfl rfl hl.1 rfl (Nat.le_of_ble_eq_true rfl) dX9_put_12 ⟨(Nat.le_of_ble_eq_true rfl), (Nat.le_of_ble_eq_true rfl)⟩ (fun H locs hH => ?_)
    refine lv_icmp_le (tgt := 28) hx hb dX9_put_15 (by decide) (fun c14 => ?_) (fun c14 => ?_)
    · have hf := ip hf c14
      refine lv_iload_n hx hb dX9_put_28 rfl (lv_at hl 2 rfl) ?_
      obtain ⟨r15, e16, hf⟩ := ob hf
      refine r_callSi (As := [.int p2]) ⟨hx, hb, hml, hown, hts⟩ (c_X9_isTextSign l D S p2 r15 e16) (va_cwS 1 hts (gwS gw_22_14 gw_22_15 gw_14_5 gw_21_19) rfl rfl rfl (by decide +kernel) ⟨Nat.le_of_ble_eq_true rfl, Nat.le_of_ble_eq_true rfl⟩) hH hNE rfl hl.1 rfl (Nat.le_of_ble_eq_true rfl) dX9_put_29 ⟨(Nat.le_of_ble_eq_true rfl), (Nat.le_of_ble_eq_true rfl)⟩ (fun H locs hH => ?_)
      obtain ⟨j17, e19, hf⟩ := ol hf
      have Jj17 : ∀ (u18 : Unit) (H : Heap) (locs : List Loc) (ls : Array Slot), HI D S S s H locs → lv_has ls 4 [] → j17 u18 = some r → GX p l e (headSpec wsX9_put rmX9_put).room s m ([.ref a0, .int p1, .int p2, .int p3] : List Value).toArray below meth c D S (mI r) H locs 0 0 1 6 (F0 m 42 ls []) := by
        intro u18 H locs ls hH hl hf
        rw [← e19] at hf
        cases hf
        exact r_throw (text := "no such sign or writer") (cls := "java/lang/IllegalArgumentException") (names := ["java/lang/RuntimeException", "java/lang/Exception"]) 1 hx hb hst9 hown xf0 xn (hts (.classLink RX9 82 "java/lang/IllegalArgumentException") (List.mem_cons_of_mem _ gw_21_9)) (hts (.initialized "java/lang/IllegalArgumentException") (List.mem_cons_of_mem _ gw_21_10)) (List.mem_of_getElem? (i := 3) rfl) (xa0 hts hE) xg0 hE hB hH (hl.1.trans hml.symm) rfl dX9_put_42 dX9_put_45 dX9_put_46 dX9_put_48 dX9_put_51 hxt (Nat.le_of_ble_eq_true rfl) (Nat.le_of_ble_eq_true rfl) (Nat.le_of_ble_eq_true rfl) (Nat.le_of_ble_eq_true rfl) hlocks ⟨Nat.le_of_ble_eq_true rfl, Nat.le_of_ble_eq_true rfl⟩
      refine lv_if_eq (tgt := 42) hx hb dX9_put_32 (by decide) (fun c20 => ?_) (fun c20 => ?_)
      · have hf := ip hf c20
        exact Jj17 () _ _ ls hH (lv_sub hl [] rfl) hf
      · have hf := iq hf c20
        refine lv_iload_n hx hb dX9_put_35 rfl (lv_at hl 3 rfl) ?_
        obtain ⟨r21, e22, hf⟩ := ob hf
        refine r_callSi (As := [.int p3]) ⟨hx, hb, hml, hown, hts⟩ (c_X9_isWriter l D S p3 r21 e22) (va_cwS 1 hts (gwS gw_22_16 gw_22_17 gw_14_5 gw_21_20) rfl rfl rfl (by decide +kernel) ⟨Nat.le_of_ble_eq_true rfl, Nat.le_of_ble_eq_true rfl⟩) hH hNE rfl hl.1 rfl (Nat.le_of_ble_eq_true rfl) dX9_put_36 ⟨(Nat.le_of_ble_eq_true rfl), (Nat.le_of_ble_eq_true rfl)⟩ (fun H locs hH => ?_)
        refine lv_if_ne (tgt := 52) hx hb dX9_put_39 (by decide) (fun c23 => ?_) (fun c23 => ?_)
        · have hf := iq hf c23
          refine lv_aload_n hx hb dX9_put_52 rfl (lv_at hl 0 rfl) ?_
          refine r_getQ hx hb 12 hts (fun w h => List.mem_cons_of_mem _ (mwsX90 w h)) hown hH ek5 (by decide) rfl 1 (by decide) rfl (hts (.fieldLink RX9 21 "Housestyle" "text" "LHousestyle$Text;") (List.mem_cons_of_mem _ gw_20_0)) (fun _ h9 => h9) dX9_put_53 e7 ?_
          refine r_getQN hx hb 10 hts (fun w h => List.mem_cons_of_mem _ (mwsX70 w h)) hown hH ek8 (by decide) rfl 0 (by decide) rfl (nf_0 hNE) (fun _ h9 => h9) dX9_put_56 e10 ?_
          obtain ⟨r24, e25, hf⟩ := ob hf
          refine r_callVi (As := []) ⟨hx, hb, hml, hown, hts⟩ (c_X5_count l D S a9 r24 e25) (cwV 0 hts (gwV gw_21_15 gw_1_15 gw_1_16 gw_1_5 gw_1_11) rfl rfl rfl (by decide +kernel) ⟨Nat.le_of_ble_eq_true rfl, Nat.le_of_ble_eq_true rfl⟩) hH hNE 8 ek11 (by decide) rfl rfl rfl hl.1 rfl (Nat.le_of_ble_eq_true rfl) dX9_put_59 ⟨(Nat.le_of_ble_eq_true rfl), (Nat.le_of_ble_eq_true rfl)⟩ (fun H locs hH => ?_)
          refine lv_sipush (v := 160) hx hb dX9_put_62 (by decide) ?_
          refine lv_icmp_lt (tgt := 78) hx hb dX9_put_65 (by decide) (fun c26 => ?_) (fun c26 => ?_)
          · have hf := ip hf c26
            refine lv_aload_n hx hb dX9_put_78 rfl (lv_at hl 0 rfl) ?_
            refine lv_iload_n hx hb dX9_put_79 rfl (lv_at hl 1 rfl) ?_
            refine lv_iload_n hx hb dX9_put_80 rfl (lv_at hl 2 rfl) ?_
            refine lv_iload_n hx hb dX9_put_81 rfl (lv_at hl 3 rfl) ?_
            obtain ⟨r27, e28, hf⟩ := ob hf
            refine r_callVv (As := [.int p1, .int p2, .int p3]) ⟨hx, hb, hml, hown, hts⟩ (c_X9_putIn l D S a0 p1 p2 p3 r27 e28) (cwV 3 hts (gwV gw_22_18 gw_22_19 gw_22_20 gw_14_5 gw_21_22) rfl rfl rfl (by decide +kernel) ⟨Nat.le_of_ble_eq_true rfl, Nat.le_of_ble_eq_true rfl⟩) hH hNE 12 ek5 (by decide) rfl rfl rfl hl.1 rfl (Nat.le_of_ble_eq_true rfl) dX9_put_82 ⟨(Nat.le_of_ble_eq_true rfl), (Nat.le_of_ble_eq_true rfl)⟩ (fun H locs hH => ?_)
            refine lv_aload_n hx hb dX9_put_85 rfl (lv_at hl 0 rfl) ?_
            obtain ⟨ek29, hf⟩ := oc hf
            obtain ⟨a30, e31, hf⟩ := ob hf
            refine r_getQ hx hb 12 hts (fun w h => List.mem_cons_of_mem _ (mwsX90 w h)) hown hH ek29 (by decide) rfl 1 (by decide) rfl (hts (.fieldLink RX9 21 "Housestyle" "text" "LHousestyle$Text;") (List.mem_cons_of_mem _ gw_20_0)) (fun _ h9 => h9) dX9_put_86 e31 ?_
            obtain ⟨ek32, hf⟩ := oc hf
            obtain ⟨a33, e34, hf⟩ := ob hf
            refine r_getQN hx hb 10 hts (fun w h => List.mem_cons_of_mem _ (mwsX70 w h)) hown hH ek32 (by decide) rfl 0 (by decide) rfl (nf_0 hNE) (fun _ h9 => h9) dX9_put_89 e34 ?_
            obtain ⟨ek35, hf⟩ := oc hf
            obtain ⟨r36, e37, hf⟩ := ob hf
            refine r_callVi (As := []) ⟨hx, hb, hml, hown, hts⟩ (c_X5_count l D r27 a33 r36 e37) (cwV 0 hts (gwV gw_21_15 gw_1_15 gw_1_16 gw_1_5 gw_1_11) rfl rfl rfl (by decide +kernel) ⟨Nat.le_of_ble_eq_true rfl, Nat.le_of_ble_eq_true rfl⟩) hH hNE 8 ek35 (by decide) rfl rfl rfl hl.1 rfl (Nat.le_of_ble_eq_true rfl) dX9_put_92 ⟨(Nat.le_of_ble_eq_true rfl), (Nat.le_of_ble_eq_true rfl)⟩ (fun H locs hH => ?_)
            refine W.widen (k := 1) (n := 6) (by omega) (by omega) ?_
            have hr9 := Option.some.inj hf
            subst hr9
            exact x_i hx hb hr hlocks hH dX9_put_95
          · have hf := iq hf c26
            cases hf
            exact r_throw (text := "the text has 160") (cls := "java/lang/IllegalStateException") (names := ["java/lang/RuntimeException", "java/lang/Exception"]) 2 hx hb hst9 hown xf1 xn (hts (.classLink RX9 93 "java/lang/IllegalStateException") (List.mem_cons_of_mem _ gw_21_11)) (hts (.initialized "java/lang/IllegalStateException") (List.mem_cons_of_mem _ gw_21_12)) (List.mem_of_getElem? (i := 4) rfl) (xa1 hts hE) xg1 hE hB hH (hl.1.trans hml.symm) rfl dX9_put_68 dX9_put_71 dX9_put_72 dX9_put_74 dX9_put_77 hxt (Nat.le_of_ble_eq_true rfl) (Nat.le_of_ble_eq_true rfl) (Nat.le_of_ble_eq_true rfl) (Nat.le_of_ble_eq_true rfl) hlocks ⟨Nat.le_of_ble_eq_true rfl, Nat.le_of_ble_eq_true rfl⟩
        · have hf := ip hf c23
          exact Jj17 () _ _ ls hH (lv_sub hl [] rfl) hf
    · have hf := iq hf c14
      exact Jj1 () _ _ ls hH (lv_sub hl [] rfl) hf
