set_option maxRecDepth 100000 in
def f_X9_needPlace (S : PS) (a0 : Nat) (p1 : Int32) : Option (PS ⊕ (PS × Nat)) := lt (fun (u2 : Unit) => some (.inr (S, 3))) fun j1 => if p1 < 0 then (j1 ()) else (if kK S a0 = 13 then ((kQ S a0 1).bind fun a6 => if kK S a6 = 11 then ((kQ S a6 0).bind fun a9 => if kK S a9 = 9 then ((f_X5_count S a9).bind fun r12 => if p1 < r12 then (some (.inl S)) else (j1 ())) else none) else none) else none)
abbrev rmX9_needPlace : Room := { frames := 6, cells := 1, slots := 6, locals := 90 }
set_option maxHeartbeats 4000000 in
set_option maxRecDepth 100000 in
theorem c_X9_needPlace (l : Launch) (hst9 : l.stackTraces = false) (D : va_G × Nat) (S : PS) (a0 : Nat) (p1 : Int32) (r : PS ⊕ (PS × Nat)) (hf : f_X9_needPlace S a0 p1 = some r) : XM l D yX9_needPlace wsX9_needPlace rmX9_needPlace S [.ref a0, .int p1] (mV r) 1 6 := by
  unfold f_X9_needPlace at hf
  refine vx_ofW (cc := cX9_needPlace) (maxL := 2) (ret := none) (by decide) rfl ?_
  intro p e s m args below meth c s₁ B hml hxt hv
  obtain ⟨rfl, hH0, hE, hNE⟩ := hv
  have hB := hH0.base
  have hx := B.exec
  have hb := B.bytes
  have hr := B.returns
  have hts := atoms_spec (ws := wsX9_needPlace) B.pre
  have hown : s.vm.findClass RX9 = some m.cls := findClass_of_methodNamed B.named
  have hlocks := B.notSynchronized
  have hH : HI D S S s s.heap [] := HI.start hH0
  have hl := lv_entry ([.ref a0, .int p1]) (n := 2) (Nat.le_of_ble_eq_true rfl)
  rw [lg_entry_eq]
  generalize (lg_sl ([.ref a0, .int p1]) ++ List.replicate (2 - (lg_sl ([.ref a0, .int p1])).length) Slot.unset).toArray = ls at hl ⊢
  have hl : lv_has ls 2 [(0, .ref a0), (1, .int p1)] := hl
  refine lv_iload_n hx hb dX9_needPlace_0 rfl (lv_at hl 1 rfl) ?_
  obtain ⟨j1, e3, hf⟩ := ol hf
  have Jj1 : ∀ (u2 : Unit) (H : Heap) (locs : List Loc) (ls : Array Slot), HI D S S s H locs → lv_has ls 2 [] → j1 u2 = some r → GX p l e (headSpec wsX9_needPlace rmX9_needPlace).room s m ([.ref a0, .int p1] : List Value).toArray below meth c D S (mV r) H locs 0 0 1 6 (F0 m 18 ls []) := by
    intro u2 H locs ls hH hl hf
    rw [← e3] at hf
    cases hf
    exact r_throw (text := "no such place") (cls := "java/lang/IndexOutOfBoundsException") (names := ["java/lang/RuntimeException", "java/lang/Exception"]) 3 hx hb hst9 hown xf2 xn (hts (.classLink RX9 103 "java/lang/IndexOutOfBoundsException") (List.mem_cons_of_mem _ gw_22_12)) (hts (.initialized "java/lang/IndexOutOfBoundsException") (List.mem_cons_of_mem _ gw_22_13)) (List.mem_of_getElem? (i := 2) rfl) (xa2 hts hE) xg2 hE hB hH (hl.1.trans hml.symm) rfl dX9_needPlace_18 dX9_needPlace_21 dX9_needPlace_22 dX9_needPlace_24 dX9_needPlace_27 hxt (Nat.le_of_ble_eq_true rfl) (Nat.le_of_ble_eq_true rfl) (Nat.le_of_ble_eq_true rfl) (Nat.le_of_ble_eq_true rfl) hlocks ⟨Nat.le_of_ble_eq_true rfl, Nat.le_of_ble_eq_true rfl⟩
  refine lv_if_lt (tgt := 18) hx hb dX9_needPlace_1 (by decide) (fun c4 => ?_) (fun c4 => ?_)
  · have hf := ip hf c4
    exact Jj1 () _ _ ls hH (lv_sub hl [] rfl) hf
  · have hf := iq hf c4
    refine lv_iload_n hx hb dX9_needPlace_4 rfl (lv_at hl 1 rfl) ?_
    refine lv_aload_n hx hb dX9_needPlace_5 rfl (lv_at hl 0 rfl) ?_
    obtain ⟨ek5, hf⟩ := oc hf
    obtain ⟨a6, e7, hf⟩ := ob hf
    refine r_getQ hx hb 12 hts (fun w h => List.mem_cons_of_mem _ (mwsX90 w h)) hown hH ek5 (by decide) rfl 1 (by decide) rfl (hts (.fieldLink RX9 21 "Housestyle" "text" "LHousestyle$Text;") (List.mem_cons_of_mem _ gw_20_0)) (fun _ h9 => h9) dX9_needPlace_6 e7 ?_
    obtain ⟨ek8, hf⟩ := oc hf
    obtain ⟨a9, e10, hf⟩ := ob hf
    refine r_getQN hx hb 10 hts (fun w h => List.mem_cons_of_mem _ (mwsX70 w h)) hown hH ek8 (by decide) rfl 0 (by decide) rfl (nf_0 hNE) (fun _ h9 => h9) dX9_needPlace_9 e10 ?_
    obtain ⟨ek11, hf⟩ := oc hf
    obtain ⟨r12, e13, hf⟩ := ob hf
    refine r_callVi (As := []) ⟨hx, hb, hml, hown, hts⟩ (c_X5_count l D S a9 r12 e13) (cwV 0 hts (gwV gw_21_15 gw_1_15 gw_1_16 gw_1_5 gw_1_11) rfl rfl rfl (by decide +kernel) ⟨Nat.le_of_ble_eq_true rfl, Nat.le_of_ble_eq_true rfl⟩) hH hNE 8 ek11 (by decide) rfl rfl rfl hl.1 rfl (Nat.le_of_ble_eq_true rfl) dX9_needPlace_12 ⟨(Nat.le_of_ble_eq_true rfl), (Nat.le_of_ble_eq_true rfl)⟩ (fun H locs hH => ?_)
    refine lv_icmp_lt (tgt := 28) hx hb dX9_needPlace_15 (by decide) (fun c14 => ?_) (fun c14 => ?_)
    · have hf := ip hf c14
      refine W.widen (k := 1) (n := 6) (by omega) (by omega) ?_
      have hr9 := Option.some.inj hf
      subst hr9
      exact x_v hx hb hr hlocks hH dX9_needPlace_28
    · have hf := iq hf c14
      exact Jj1 () _ _ ls hH (lv_sub hl [] rfl) hf
set_option maxRecDepth 100000 in
def f_X7_remove (S : PS) (a0 : Nat) (p1 : Int32) : Option (PS × Int32) := if kK S a0 = 11 then ((f_X7_paragraphAt S a0 p1).bind fun r2 => (kQ S a0 0).bind fun a4 => if kK S a4 = 9 then ((f_X5_remove S a4 p1).bind fun r7 => lt r7.1 fun S9 => lt ((r7.2.toUInt32 % 65536).toInt32) fun x11 => if kK S9 a0 = 11 then ((kQ S9 a0 1).bind fun a14 => if kK S9 a14 = 9 then ((f_X5_remove S9 a14 p1).bind fun r17 => lt r17.1 fun S19 => if kK S19 a0 = 11 then ((kQ S19 a0 2).bind fun a22 => if kK S19 a22 = 9 then ((f_X5_set S19 a22 r2 15).bind fun r25 => if x11 = (47 : Int32) then (if kK r25 a0 = 11 then ((kQ r25 a0 2).bind fun a30 => if kK r25 a30 = 9 then ((f_X5_remove r25 a30 (r2 + 1)).bind fun r33 => lt r33.1 fun S35 => if vp_nar .char x11 = x11 then (some (S35, x11)) else none) else none) else none) else (if vp_nar .char x11 = x11 then (some (r25, x11)) else none)) else none) else none) else none) else none) else none) else none
abbrev rmX7_remove : Room := { frames := 2, cells := 0, slots := 0, locals := 44 }
set_option maxHeartbeats 4000000 in
set_option maxRecDepth 100000 in
theorem c_X7_remove (l : Launch) (D : va_G × Nat) (S : PS) (a0 : Nat) (p1 : Int32) (r : PS × Int32) (hf : f_X7_remove S a0 p1 = some r) : MI l D yX7_remove wsX7_remove rmX7_remove S [.ref a0, .int p1] r.1 r.2 0 0 := by
  unfold f_X7_remove at hf
  refine Met.ofW (cc := cX7_remove) (maxL := 4) (ret := (some .char)) (by decide) rfl ?_
  intro p e s m args below meth c s₁ B hml hv
  obtain ⟨rfl, hH0, hNE⟩ := hv
  have hx := B.exec
  have hb := B.bytes
  have hr := B.returns
  have hts := atoms_spec (ws := wsX7_remove) B.pre
  have hown : s.vm.findClass RX7 = some m.cls := findClass_of_methodNamed B.named
  have hlocks := B.notSynchronized
  have hH : HI D S S s s.heap [] := HI.start hH0
  have hl := lv_entry ([.ref a0, .int p1]) (n := 4) (Nat.le_of_ble_eq_true rfl)
  rw [lg_entry_eq]
  generalize (lg_sl ([.ref a0, .int p1]) ++ List.replicate (4 - (lg_sl ([.ref a0, .int p1])).length) Slot.unset).toArray = ls at hl ⊢
  have hl : lv_has ls 4 [(0, .ref a0), (1, .int p1)] := hl
  refine lv_aload_n hx hb dX7_remove_0 rfl (lv_at hl 0 rfl) ?_
  refine lv_iload_n hx hb dX7_remove_1 rfl (lv_at hl 1 rfl) ?_
  obtain ⟨ek1, hf⟩ := oc hf
  obtain ⟨r2, e3, hf⟩ := ob hf
  refine r_callVi (As := [.int p1]) ⟨hx, hb, hml, hown, hts⟩ (c_X7_paragraphAt l D S a0 p1 r2 e3) (cwV 1 hts (gwV gw_17_20 gw_17_21 gw_17_22 gw_17_23 gw_17_16) rfl rfl rfl (by decide +kernel) ⟨Nat.le_of_ble_eq_true rfl, Nat.le_of_ble_eq_true rfl⟩) hH hNE 10 ek1 (by decide) rfl rfl rfl hl.1 rfl (Nat.le_of_ble_eq_true rfl) dX7_remove_2 ⟨(Nat.le_of_ble_eq_true rfl), (Nat.le_of_ble_eq_true rfl)⟩ (fun H locs hH => ?_)
  refine lv_istore_n (lv' := [(2, .int r2), (0, .ref a0), (1, .int p1)]) hx hb dX7_remove_5 rfl hl (by decide) rfl (fun ls hl => ?_)
  refine lv_aload_n hx hb dX7_remove_6 rfl (lv_at hl 1 rfl) ?_
  obtain ⟨a4, e5, hf⟩ := ob hf
  refine r_getQ hx hb 10 hts (fun w h => List.mem_cons_of_mem _ (mwsX70 w h)) hown hH ek1 (by decide) rfl 0 (by decide) rfl (hts (.fieldLink RX7 14 "Housestyle$Text" "signs" "LHousestyle$Row;") (List.mem_cons_of_mem _ gw_17_11)) (fun _ h9 => h9) dX7_remove_7 e5 ?_
  refine lv_iload_n hx hb dX7_remove_10 rfl (lv_at hl 2 rfl) ?_
  obtain ⟨ek6, hf⟩ := oc hf
  obtain ⟨r7, e8, hf⟩ := ob hf
  refine r_callVi (As := [.int p1]) ⟨hx, hb, hml, hown, hts⟩ (c_X5_remove l D S a4 p1 r7 e8) (cwV 1 hts (gwV gw_18_5 gw_10_1 gw_10_2 gw_1_5 gw_9_22) rfl rfl rfl (by decide +kernel) ⟨Nat.le_of_ble_eq_true rfl, Nat.le_of_ble_eq_true rfl⟩) hH hNE 8 ek6 (by decide) rfl rfl rfl hl.1 rfl (Nat.le_of_ble_eq_true rfl) dX7_remove_11 ⟨(Nat.le_of_ble_eq_true rfl), (Nat.le_of_ble_eq_true rfl)⟩ (fun H locs hH => ?_)
  obtain ⟨S9, e10, hf⟩ := ol hf
  rw [e10] at hH
  refine lv_i2c hx hb dX7_remove_14 rfl ?_
  obtain ⟨x11, e12, hf⟩ := ol hf
  refine lv_topE e12 ?_
  refine lv_istore_n (lv' := [(3, .int x11), (2, .int r2), (0, .ref a0), (1, .int p1)]) hx hb dX7_remove_15 rfl hl (by decide) rfl (fun ls hl => ?_)
  refine lv_aload_n hx hb dX7_remove_16 rfl (lv_at hl 2 rfl) ?_
  obtain ⟨ek13, hf⟩ := oc hf
  obtain ⟨a14, e15, hf⟩ := ob hf
  refine r_getQ hx hb 10 hts (fun w h => List.mem_cons_of_mem _ (mwsX70 w h)) hown hH ek13 (by decide) rfl 1 (by decide) rfl (hts (.fieldLink RX7 20 "Housestyle$Text" "writers" "LHousestyle$Row;") (List.mem_cons_of_mem _ gw_17_12)) (fun _ h9 => h9) dX7_remove_17 e15 ?_
  refine lv_iload_n hx hb dX7_remove_20 rfl (lv_at hl 3 rfl) ?_
  obtain ⟨ek16, hf⟩ := oc hf
  obtain ⟨r17, e18, hf⟩ := ob hf
  refine r_callVi (As := [.int p1]) ⟨hx, hb, hml, hown, hts⟩ (c_X5_remove l D S9 a14 p1 r17 e18) (cwV 1 hts (gwV gw_18_5 gw_10_1 gw_10_2 gw_1_5 gw_9_22) rfl rfl rfl (by decide +kernel) ⟨Nat.le_of_ble_eq_true rfl, Nat.le_of_ble_eq_true rfl⟩) hH hNE 8 ek16 (by decide) rfl rfl rfl hl.1 rfl (Nat.le_of_ble_eq_true rfl) dX7_remove_21 ⟨(Nat.le_of_ble_eq_true rfl), (Nat.le_of_ble_eq_true rfl)⟩ (fun H locs hH => ?_)
  obtain ⟨S19, e20, hf⟩ := ol hf
  rw [e20] at hH
  refine lv_pop hx hb dX7_remove_24 rfl ?_
  refine lv_aload_n hx hb dX7_remove_25 rfl (lv_at hl 2 rfl) ?_
  obtain ⟨ek21, hf⟩ := oc hf
  obtain ⟨a22, e23, hf⟩ := ob hf
  refine r_getQ hx hb 10 hts (fun w h => List.mem_cons_of_mem _ (mwsX70 w h)) hown hH ek21 (by decide) rfl 2 (by decide) rfl (hts (.fieldLink RX7 23 "Housestyle$Text" "changed" "LHousestyle$Row;") (List.mem_cons_of_mem _ gw_17_13)) (fun _ h9 => h9) dX7_remove_26 e23 ?_
  refine lv_iload_n hx hb dX7_remove_29 rfl (lv_at hl 1 rfl) ?_
  refine lv_bipush (v := 15) hx hb dX7_remove_30 (by decide) ?_
  obtain ⟨ek24, hf⟩ := oc hf
  obtain ⟨r25, e26, hf⟩ := ob hf
  refine r_callVv (As := [.int r2, .int 15]) ⟨hx, hb, hml, hown, hts⟩ (c_X5_set l D S19 a22 r2 15 r25 e26) (cwV 2 hts (gwV gw_18_3 gw_5_20 gw_5_21 gw_1_5 gw_5_16) rfl rfl rfl (by decide +kernel) ⟨Nat.le_of_ble_eq_true rfl, Nat.le_of_ble_eq_true rfl⟩) hH hNE 8 ek24 (by decide) rfl rfl rfl hl.1 rfl (Nat.le_of_ble_eq_true rfl) dX7_remove_32 ⟨(Nat.le_of_ble_eq_true rfl), (Nat.le_of_ble_eq_true rfl)⟩ (fun H locs hH => ?_)
  refine lv_iload_n hx hb dX7_remove_35 rfl (lv_at hl 0 rfl) ?_
  refine lv_bipush (v := 47) hx hb dX7_remove_36 (by decide) ?_
  refine lv_icmp_ne (tgt := 52) hx hb dX7_remove_38 (by decide) (fun c27 => ?_) (fun c27 => ?_)
  · have hf := iq hf c27
    refine lv_iload_n hx hb dX7_remove_52 rfl (lv_at hl 0 rfl) ?_
    obtain ⟨en28, hf⟩ := oc hf
    have hr9 := Option.some.inj hf
    subst hr9
    exact e_z hx hb hr hlocks (nar_C en28) hH dX7_remove_53
  · have hf := ip hf c27
    refine lv_aload_n hx hb dX7_remove_41 rfl (lv_at hl 2 rfl) ?_
    obtain ⟨ek29, hf⟩ := oc hf
    obtain ⟨a30, e31, hf⟩ := ob hf
    refine r_getQ hx hb 10 hts (fun w h => List.mem_cons_of_mem _ (mwsX70 w h)) hown hH ek29 (by decide) rfl 2 (by decide) rfl (hts (.fieldLink RX7 23 "Housestyle$Text" "changed" "LHousestyle$Row;") (List.mem_cons_of_mem _ gw_17_13)) (fun _ h9 => h9) dX7_remove_42 e31 ?_
    refine lv_iload_n hx hb dX7_remove_45 rfl (lv_at hl 1 rfl) ?_
    refine lv_iconst (v := 1) hx hb dX7_remove_46 (by decide) ?_
    refine lv_iadd hx hb dX7_remove_47 ?_
    obtain ⟨ek32, hf⟩ := oc hf
    obtain ⟨r33, e34, hf⟩ := ob hf
    refine r_callVi (As := [.int (r2 + 1)]) ⟨hx, hb, hml, hown, hts⟩ (c_X5_remove l D r25 a30 (r2 + 1) r33 e34) (cwV 1 hts (gwV gw_18_5 gw_10_1 gw_10_2 gw_1_5 gw_9_22) rfl rfl rfl (by decide +kernel) ⟨Nat.le_of_ble_eq_true rfl, Nat.le_of_ble_eq_true rfl⟩) hH hNE 8 ek32 (by decide) rfl rfl rfl hl.1 rfl (Nat.le_of_ble_eq_true rfl) dX7_remove_48 ⟨(Nat.le_of_ble_eq_true rfl), (Nat.le_of_ble_eq_true rfl)⟩ (fun H locs hH => ?_)
    obtain ⟨S35, e36, hf⟩ := ol hf
    rw [e36] at hH
    refine lv_pop hx hb dX7_remove_51 rfl ?_
    refine lv_iload_n hx hb dX7_remove_52 rfl (lv_at hl 0 rfl) ?_
    obtain ⟨en37, hf⟩ := oc hf
    have hr9 := Option.some.inj hf
    subst hr9
    exact e_z hx hb hr hlocks (nar_C en37) hH dX7_remove_53
set_option maxRecDepth 100000 in
def f_X1_followTake_b7 (a0 : Nat) (p1 : Int32) (x6 : Int32) (S7 : PS) : Option ((Int32 × PS) ⊕ ((PS))) := if x6 < 0 then (some (.inr S7)) else (if kK S7 a0 = 5 then ((kQ S7 a0 2).bind fun a14 => if kK S7 a14 = 9 then ((f_X5_get S7 a14 x6).bind fun r17 => lt (fun (S19 : PS) => lt (x6 + (-1)) fun x21 => some (.inl (x21, S19))) fun j20 => if r17 ≤ p1 then ((kQ S7 a0 3).bind fun a25 => if kK S7 a25 = 9 then ((f_X5_get S7 a25 x6).bind fun r28 => if (r17 + r28) ≤ p1 then (j20 S7) else ((f_X1_forget S7 a0 x6).bind fun r31 => j20 r31)) else none) else ((f_X5_set S7 a14 x6 (r17 - 1)).bind fun r33 => j20 r33)) else none) else none)
set_option maxRecDepth 100000 in
def f_X1_followTake (S : PS) (a0 : Nat) (p1 : Int32) : Option (PS) := if kK S a0 = 5 then ((f_X1_ignoredCount S a0).bind fun r2 => lt (r2 - 1) fun x4 => lt (fun (S8 : PS) => some S8) fun k9 => (iter (fun (v : Int32 × PS) => f_X1_followTake_b7 a0 p1 v.1 v.2) kF (x4, S)).bind (fun (v : PS) => k9 v)) else none
abbrev rmX1_followTake : Room := { frames := 2, cells := 0, slots := 0, locals := 44 }
set_option maxHeartbeats 4000000 in
set_option maxRecDepth 100000 in
theorem c_X1_followTake (l : Launch) (D : va_G × Nat) (S : PS) (a0 : Nat) (p1 : Int32) (r : PS) (hf : f_X1_followTake S a0 p1 = some r) : MV l D yX1_followTake wsX1_followTake rmX1_followTake S [.ref a0, .int p1] r 0 0 := by
  unfold f_X1_followTake at hf
  refine Met.ofW (cc := cX1_followTake) (maxL := 4) (ret := none) (by decide) rfl ?_
  intro p e s m args below meth c s₁ B hml hv
  obtain ⟨rfl, hH0, hNE⟩ := hv
  have hx := B.exec
  have hb := B.bytes
  have hr := B.returns
  have hts := atoms_spec (ws := wsX1_followTake) B.pre
  have hown : s.vm.findClass RX1 = some m.cls := findClass_of_methodNamed B.named
  have hlocks := B.notSynchronized
  have hH : HI D S S s s.heap [] := HI.start hH0
  have hl := lv_entry ([.ref a0, .int p1]) (n := 4) (Nat.le_of_ble_eq_true rfl)
  rw [lg_entry_eq]
  generalize (lg_sl ([.ref a0, .int p1]) ++ List.replicate (4 - (lg_sl ([.ref a0, .int p1])).length) Slot.unset).toArray = ls at hl ⊢
  have hl : lv_has ls 4 [(0, .ref a0), (1, .int p1)] := hl
  refine lv_aload_n hx hb dX1_followTake_0 rfl (lv_at hl 0 rfl) ?_
  obtain ⟨ek1, hf⟩ := oc hf
  obtain ⟨r2, e3, hf⟩ := ob hf
  refine r_callVi (As := []) ⟨hx, hb, hml, hown, hts⟩ (c_X1_ignoredCount l D S a0 r2 e3) (cwV 0 hts (gwV gw_9_17 gw_9_18 gw_9_19 gw_9_20 gw_9_7) rfl rfl rfl (by decide +kernel) ⟨Nat.le_of_ble_eq_true rfl, Nat.le_of_ble_eq_true rfl⟩) hH hNE 4 ek1 (by decide) rfl rfl rfl hl.1 rfl (Nat.le_of_ble_eq_true rfl) dX1_followTake_1 ⟨(Nat.le_of_ble_eq_true rfl), (Nat.le_of_ble_eq_true rfl)⟩ (fun H locs hH => ?_)
  refine lv_iconst (v := 1) hx hb dX1_followTake_4 (by decide) ?_
  refine lv_isub hx hb dX1_followTake_5 ?_
  obtain ⟨x4, e5, hf⟩ := ol hf
  refine lv_topE e5 ?_
  refine lv_istore_n (lv' := [(2, .int x4), (0, .ref a0), (1, .int p1)]) hx hb dX1_followTake_6 rfl hl (by decide) rfl (fun ls hl => ?_)
  obtain ⟨k9, e10, hf⟩ := ol hf
  have Xk9 : ∀ (S8 : PS) (H : Heap) (locs : List Loc) (ls : Array Slot), HI D S S8 s H locs → lv_has ls 4 [] → k9 S8 = some r → GV p l e (headSpec wsX1_followTake rmX1_followTake).room s m ([.ref a0, .int p1] : List Value).toArray below meth c D S r H locs 0 0 0 0 (F0 m 64 ls []) := by
    intro S8 H locs ls hH hl hf
    rw [← e10] at hf
    have hr9 := Option.some.inj hf
    subst hr9
    exact e_v hx hb hr hlocks hH dX1_followTake_64
  obtain ⟨o11, eo11, hq11f⟩ := ob hf
  have Lo11 : ∀ (n : Nat) (x6 : Int32) (S7 : PS), iter (fun (v : Int32 × PS) => f_X1_followTake_b7 a0 p1 v.1 v.2) n (x6, S7) = some o11 → ∀ (H : Heap) (locs : List Loc) (ls : Array Slot), HI D S S7 s H locs → lv_has ls 4 [(0, .ref a0), (1, .int p1), (2, .int x6)] → GV p l e (headSpec wsX1_followTake rmX1_followTake).room s m ([.ref a0, .int p1] : List Value).toArray below meth c D S r H locs 0 0 0 0 (F0 m 7 ls []) := by
    intro n
    induction n with
    | zero => intro x6 S7 hi; cases hi
    | succ n ih11 =>
      intro x6 S7 hi H locs ls hH hl
      obtain ⟨q11_, hf, hq11⟩ := iter_s hi
      have hf : f_X1_followTake_b7 a0 p1 x6 S7 = some q11_ := hf
      unfold f_X1_followTake_b7 at hf
      refine lv_iload_n hx hb dX1_followTake_7 rfl (lv_at hl 2 rfl) ?_
      refine lv_if_lt (tgt := 64) hx hb dX1_followTake_8 (by decide) (fun c12 => ?_) (fun c12 => ?_)
      · have hf := ip hf c12
        cases hf
        have hf9 := itR (K := (fun (v : PS) => k9 v)) hq11 hq11f
        exact Xk9 S7 _ _ ls hH (lv_sub hl [] rfl) hf9
      · have hf := iq hf c12
        refine lv_aload_n hx hb dX1_followTake_11 rfl (lv_at hl 0 rfl) ?_
        obtain ⟨ek13, hf⟩ := oc hf
        obtain ⟨a14, e15, hf⟩ := ob hf
        refine r_getQ hx hb 4 hts (fun w h => List.mem_cons_of_mem _ (mwsX10 w h)) hown hH ek13 (by decide) rfl 2 (by decide) rfl (hts (.fieldLink RX1 26 "Housestyle$Desk" "ignoredFroms" "LHousestyle$Row;") (List.mem_cons_of_mem _ gw_8_23)) (fun _ h9 => h9) dX1_followTake_12 e15 ?_
        refine lv_iload_n hx hb dX1_followTake_15 rfl (lv_at hl 2 rfl) ?_
        obtain ⟨ek16, hf⟩ := oc hf
        obtain ⟨r17, e18, hf⟩ := ob hf
        refine r_callVi (As := [.int x6]) ⟨hx, hb, hml, hown, hts⟩ (c_X5_get l D S7 a14 x6 r17 e18) (cwV 1 hts (gwV gw_9_21 gw_2_13 gw_2_14 gw_1_5 gw_2_9) rfl rfl rfl (by decide +kernel) ⟨Nat.le_of_ble_eq_true rfl, Nat.le_of_ble_eq_true rfl⟩) hH hNE 8 ek16 (by decide) rfl rfl rfl hl.1 rfl (Nat.le_of_ble_eq_true rfl) dX1_followTake_16 ⟨(Nat.le_of_ble_eq_true rfl), (Nat.le_of_ble_eq_true rfl)⟩ (fun H locs hH => ?_)
        refine lv_istore_n (lv' := [(3, .int r17), (0, .ref a0), (1, .int p1), (2, .int x6)]) hx hb dX1_followTake_19 rfl hl (by decide) rfl (fun ls hl => ?_)
        refine lv_iload_n hx hb dX1_followTake_20 rfl (lv_at hl 2 rfl) ?_
        refine lv_iload_n hx hb dX1_followTake_21 rfl (lv_at hl 0 rfl) ?_
        obtain ⟨j20, e23, hf⟩ := ol hf
        have Jj20 : ∀ (S19 : PS) (H : Heap) (locs : List Loc) (ls : Array Slot), HI D S S19 s H locs → lv_has ls 4 [(0, .ref a0), (1, .int p1), (2, .int x6)] → j20 S19 = some q11_ → GV p l e (headSpec wsX1_followTake rmX1_followTake).room s m ([.ref a0, .int p1] : List Value).toArray below meth c D S r H locs 0 0 0 0 (F0 m 58 ls []) := by
          intro S19 H locs ls hH hl hf
          rw [← e23] at hf
          obtain ⟨x21, e22, hf⟩ := ol hf
          refine lv_iinc (v := x21) (lv' := [(2, .int x21), (0, .ref a0), (1, .int p1)]) hx hb dX1_followTake_58 hl (k := 2) rfl (by rw [← e22]; rfl) (by decide) rfl (fun ls hl => ?_)
          refine lv_goto (tgt := 7) hx hb dX1_followTake_61 (by decide) ?_
          cases hf
          exact ih11 x21 S19 hq11 _ _ ls hH (lv_sub hl [1, 2, 0] rfl)
        refine lv_icmp_ge (tgt := 39) hx hb dX1_followTake_22 (by decide) (fun c24 => ?_) (fun c24 => ?_)
        · have hf := ip hf c24
          refine lv_iload_n hx hb dX1_followTake_39 rfl (lv_at hl 2 rfl) ?_
          refine lv_iload_n hx hb dX1_followTake_40 rfl (lv_at hl 0 rfl) ?_
          refine lv_aload_n hx hb dX1_followTake_41 rfl (lv_at hl 1 rfl) ?_
          obtain ⟨a25, e26, hf⟩ := ob hf
          refine r_getQ hx hb 4 hts (fun w h => List.mem_cons_of_mem _ (mwsX10 w h)) hown hH ek13 (by decide) rfl 3 (by decide) rfl (hts (.fieldLink RX1 29 "Housestyle$Desk" "ignoredLengths" "LHousestyle$Row;") (List.mem_cons_of_mem _ gw_9_0)) (fun _ h9 => h9) dX1_followTake_42 e26 ?_
          refine lv_iload_n hx hb dX1_followTake_45 rfl (lv_at hl 3 rfl) ?_
          obtain ⟨ek27, hf⟩ := oc hf
          obtain ⟨r28, e29, hf⟩ := ob hf
          refine r_callVi (As := [.int x6]) ⟨hx, hb, hml, hown, hts⟩ (c_X5_get l D S7 a25 x6 r28 e29) (cwV 1 hts (gwV gw_9_21 gw_2_13 gw_2_14 gw_1_5 gw_2_9) rfl rfl rfl (by decide +kernel) ⟨Nat.le_of_ble_eq_true rfl, Nat.le_of_ble_eq_true rfl⟩) hH hNE 8 ek27 (by decide) rfl rfl rfl hl.1 rfl (Nat.le_of_ble_eq_true rfl) dX1_followTake_46 ⟨(Nat.le_of_ble_eq_true rfl), (Nat.le_of_ble_eq_true rfl)⟩ (fun H locs hH => ?_)
          refine lv_iadd hx hb dX1_followTake_49 ?_
          refine lv_icmp_ge (tgt := 58) hx hb dX1_followTake_50 (by decide) (fun c30 => ?_) (fun c30 => ?_)
          · have hf := ip hf c30
            exact Jj20 S7 _ _ ls hH (lv_sub hl [1, 2, 3] rfl) hf
          · have hf := iq hf c30
            refine lv_aload_n hx hb dX1_followTake_53 rfl (lv_at hl 1 rfl) ?_
            refine lv_iload_n hx hb dX1_followTake_54 rfl (lv_at hl 3 rfl) ?_
            obtain ⟨r31, e32, hf⟩ := ob hf
            refine r_callVv (As := [.int x6]) ⟨hx, hb, hml, hown, hts⟩ (c_X1_forget l D S7 a0 x6 r31 e32) (cwV 1 hts (gwV gw_10_5 gw_10_6 gw_10_7 gw_9_20 gw_9_23) rfl rfl rfl (by decide +kernel) ⟨Nat.le_of_ble_eq_true rfl, Nat.le_of_ble_eq_true rfl⟩) hH hNE 4 ek13 (by decide) rfl rfl rfl hl.1 rfl (Nat.le_of_ble_eq_true rfl) dX1_followTake_55 ⟨(Nat.le_of_ble_eq_true rfl), (Nat.le_of_ble_eq_true rfl)⟩ (fun H locs hH => ?_)
            exact Jj20 r31 _ _ ls hH (lv_sub hl [1, 2, 3] rfl) hf
        · have hf := iq hf c24
          refine lv_aload_n hx hb dX1_followTake_25 rfl (lv_at hl 1 rfl) ?_
          refine r_getQ hx hb 4 hts (fun w h => List.mem_cons_of_mem _ (mwsX10 w h)) hown hH ek13 (by decide) rfl 2 (by decide) rfl (hts (.fieldLink RX1 26 "Housestyle$Desk" "ignoredFroms" "LHousestyle$Row;") (List.mem_cons_of_mem _ gw_8_23)) (fun _ h9 => h9) dX1_followTake_26 e15 ?_
          refine lv_iload_n hx hb dX1_followTake_29 rfl (lv_at hl 3 rfl) ?_
          refine lv_iload_n hx hb dX1_followTake_30 rfl (lv_at hl 0 rfl) ?_
          refine lv_iconst (v := 1) hx hb dX1_followTake_31 (by decide) ?_
          refine lv_isub hx hb dX1_followTake_32 ?_
          obtain ⟨r33, e34, hf⟩ := ob hf
          refine r_callVv (As := [.int x6, .int (r17 - 1)]) ⟨hx, hb, hml, hown, hts⟩ (c_X5_set l D S7 a14 x6 (r17 - 1) r33 e34) (cwV 2 hts (gwV gw_10_4 gw_5_20 gw_5_21 gw_1_5 gw_5_16) rfl rfl rfl (by decide +kernel) ⟨Nat.le_of_ble_eq_true rfl, Nat.le_of_ble_eq_true rfl⟩) hH hNE 8 ek16 (by decide) rfl rfl rfl hl.1 rfl (Nat.le_of_ble_eq_true rfl) dX1_followTake_33 ⟨(Nat.le_of_ble_eq_true rfl), (Nat.le_of_ble_eq_true rfl)⟩ (fun H locs hH => ?_)
          refine lv_goto (tgt := 58) hx hb dX1_followTake_36 (by decide) ?_
          exact Jj20 r33 _ _ ls hH (lv_sub hl [1, 2, 3] rfl) hf
  exact Lo11 kF x4 S eo11 _ _ ls hH (lv_sub hl [1, 2, 0] rfl)
set_option maxRecDepth 100000 in
def f_X9_takeOut_b11 (a0 : Nat) (p1 : Int32) (x11 : Int32) (S12 : PS) : Option ((Int32 × PS) ⊕ ((PS))) := if kK S12 a0 = 13 then ((kQ S12 a0 4).bind fun a22 => if kK S12 a22 = 3 then ((f_Jx4a65c_size_8abf5 S12 a22).bind fun r25 => if r25 ≤ x11 then (some (.inr S12)) else ((f_Jx4a65c_get_915e3 S12 a22 x11).bind fun r28 => if kK S12 r28 = 5 then ((f_X1_followTake S12 r28 p1).bind fun r31 => lt (x11 + 1) fun x33 => some (.inl (x33, r31))) else none)) else none) else none
set_option maxRecDepth 100000 in
def f_X9_takeOut (S : PS) (a0 : Nat) (p1 : Int32) : Option (PS × Int32) := if kK S a0 = 13 then ((kQ S a0 1).bind fun a2 => if kK S a2 = 11 then ((f_X7_remove S a2 p1).bind fun r5 => lt r5.1 fun S7 => lt r5.2 fun x9 => lt (fun (S13 : PS) => if kK S13 a0 = 13 then ((f_X9_noteStale S13 a0).bind fun r17 => if vp_nar .char x9 = x9 then (some (r17, x9)) else none) else none) fun k14 => (iter (fun (v : Int32 × PS) => f_X9_takeOut_b11 a0 p1 v.1 v.2) kF (0, S7)).bind (fun (v : PS) => k14 v)) else none) else none
abbrev rmX9_takeOut : Room := { frames := 3, cells := 0, slots := 0, locals := 67 }
set_option maxHeartbeats 4000000 in
set_option maxRecDepth 100000 in
theorem c_X9_takeOut (l : Launch) (D : va_G × Nat) (S : PS) (a0 : Nat) (p1 : Int32) (r : PS × Int32) (hf : f_X9_takeOut S a0 p1 = some r) : MI l D yX9_takeOut wsX9_takeOut rmX9_takeOut S [.ref a0, .int p1] r.1 r.2 0 0 := by
  unfold f_X9_takeOut at hf
  refine Met.ofW (cc := cX9_takeOut) (maxL := 4) (ret := (some .char)) (by decide) rfl ?_
  intro p e s m args below meth c s₁ B hml hv
  obtain ⟨rfl, hH0, hNE⟩ := hv
  have hx := B.exec
  have hb := B.bytes
  have hr := B.returns
  have hts := atoms_spec (ws := wsX9_takeOut) B.pre
  have hown : s.vm.findClass RX9 = some m.cls := findClass_of_methodNamed B.named
  have hlocks := B.notSynchronized
  have hH : HI D S S s s.heap [] := HI.start hH0
  have hl := lv_entry ([.ref a0, .int p1]) (n := 4) (Nat.le_of_ble_eq_true rfl)
  rw [lg_entry_eq]
  generalize (lg_sl ([.ref a0, .int p1]) ++ List.replicate (4 - (lg_sl ([.ref a0, .int p1])).length) Slot.unset).toArray = ls at hl ⊢
  have hl : lv_has ls 4 [(0, .ref a0), (1, .int p1)] := hl
  refine lv_aload_n hx hb dX9_takeOut_0 rfl (lv_at hl 0 rfl) ?_
  obtain ⟨ek1, hf⟩ := oc hf
  obtain ⟨a2, e3, hf⟩ := ob hf
  refine r_getQ hx hb 12 hts (fun w h => List.mem_cons_of_mem _ (mwsX90 w h)) hown hH ek1 (by decide) rfl 1 (by decide) rfl (hts (.fieldLink RX9 21 "Housestyle" "text" "LHousestyle$Text;") (List.mem_cons_of_mem _ gw_20_0)) (fun _ h9 => h9) dX9_takeOut_1 e3 ?_
  refine lv_iload_n hx hb dX9_takeOut_4 rfl (lv_at hl 1 rfl) ?_
  obtain ⟨ek4, hf⟩ := oc hf
  obtain ⟨r5, e6, hf⟩ := ob hf
  refine r_callVi (As := [.int p1]) ⟨hx, hb, hml, hown, hts⟩ (c_X7_remove l D S a2 p1 r5 e6) (cwV 1 hts (gwV gw_22_23 gw_23_0 gw_23_1 gw_17_23 gw_18_4) rfl rfl rfl (by decide +kernel) ⟨Nat.le_of_ble_eq_true rfl, Nat.le_of_ble_eq_true rfl⟩) hH hNE 10 ek4 (by decide) rfl rfl rfl hl.1 rfl (Nat.le_of_ble_eq_true rfl) dX9_takeOut_5 ⟨(Nat.le_of_ble_eq_true rfl), (Nat.le_of_ble_eq_true rfl)⟩ (fun H locs hH => ?_)
  obtain ⟨S7, e8, hf⟩ := ol hf
  rw [e8] at hH
  obtain ⟨x9, e10, hf⟩ := ol hf
  refine lv_topE e10 ?_
  refine lv_istore_n (lv' := [(2, .int x9), (0, .ref a0), (1, .int p1)]) hx hb dX9_takeOut_8 rfl hl (by decide) rfl (fun ls hl => ?_)
  refine lv_iconst (v := 0) hx hb dX9_takeOut_9 (by decide) ?_
  refine lv_istore_n (lv' := [(3, .int 0), (2, .int x9), (0, .ref a0), (1, .int p1)]) hx hb dX9_takeOut_10 rfl hl (by decide) rfl (fun ls hl => ?_)
  obtain ⟨k14, e15, hf⟩ := ol hf
  have Xk14 : ∀ (S13 : PS) (H : Heap) (locs : List Loc) (ls : Array Slot), HI D S S13 s H locs → lv_has ls 4 [(0, .ref a0), (2, .int x9)] → k14 S13 = some r → GI p l e (headSpec wsX9_takeOut rmX9_takeOut).room s m ([.ref a0, .int p1] : List Value).toArray below meth c D S r.1 r.2 H locs 0 0 0 0 (F0 m 43 ls []) := by
    intro S13 H locs ls hH hl hf
    rw [← e15] at hf
    refine lv_aload_n hx hb dX9_takeOut_43 rfl (lv_at hl 0 rfl) ?_
    obtain ⟨ek16, hf⟩ := oc hf
    obtain ⟨r17, e18, hf⟩ := ob hf
    refine r_callVv (As := []) ⟨hx, hb, hml, hown, hts⟩ (c_X9_noteStale l D S13 a0 r17 e18) (cwV 0 hts (gwV gw_22_8 gw_22_9 gw_22_10 gw_14_5 gw_21_21) rfl rfl rfl (by decide +kernel) ⟨Nat.le_of_ble_eq_true rfl, Nat.le_of_ble_eq_true rfl⟩) hH hNE 12 ek16 (by decide) rfl rfl rfl hl.1 rfl (Nat.le_of_ble_eq_true rfl) dX9_takeOut_44 ⟨(Nat.le_of_ble_eq_true rfl), (Nat.le_of_ble_eq_true rfl)⟩ (fun H locs hH => ?_)
    refine lv_iload_n hx hb dX9_takeOut_47 rfl (lv_at hl 1 rfl) ?_
    obtain ⟨en19, hf⟩ := oc hf
    have hr9 := Option.some.inj hf
    subst hr9
    exact e_z hx hb hr hlocks (nar_C en19) hH dX9_takeOut_48
  obtain ⟨o20, eo20, hq20f⟩ := ob hf
  have Lo20 : ∀ (n : Nat) (x11 : Int32) (S12 : PS), iter (fun (v : Int32 × PS) => f_X9_takeOut_b11 a0 p1 v.1 v.2) n (x11, S12) = some o20 → ∀ (H : Heap) (locs : List Loc) (ls : Array Slot), HI D S S12 s H locs → lv_has ls 4 [(0, .ref a0), (1, .int p1), (2, .int x9), (3, .int x11)] → GI p l e (headSpec wsX9_takeOut rmX9_takeOut).room s m ([.ref a0, .int p1] : List Value).toArray below meth c D S r.1 r.2 H locs 0 0 0 0 (F0 m 11 ls []) := by
    intro n
    induction n with
    | zero => intro x11 S12 hi; cases hi
    | succ n ih20 =>
      intro x11 S12 hi H locs ls hH hl
      obtain ⟨q20_, hf, hq20⟩ := iter_s hi
      have hf : f_X9_takeOut_b11 a0 p1 x11 S12 = some q20_ := hf
      unfold f_X9_takeOut_b11 at hf
      refine lv_iload_n hx hb dX9_takeOut_11 rfl (lv_at hl 3 rfl) ?_
      refine lv_aload_n hx hb dX9_takeOut_12 rfl (lv_at hl 0 rfl) ?_
      obtain ⟨ek21, hf⟩ := oc hf
      obtain ⟨a22, e23, hf⟩ := ob hf
      refine r_getQ hx hb 12 hts (fun w h => List.mem_cons_of_mem _ (mwsX90 w h)) hown hH ek21 (by decide) rfl 4 (by decide) rfl (hts (.fieldLink RX9 47 "Housestyle" "desks" "Ljava/util/ArrayList;") (List.mem_cons_of_mem _ gw_20_8)) (fun _ h9 => h9) dX9_takeOut_13 e23 ?_
      obtain ⟨ek24, hf⟩ := oc hf
      obtain ⟨r25, e26, hf⟩ := ob hf
      refine r_callVi (As := []) ⟨hx, hb, hml, hown, hts⟩ (c_Jx4a65c_size_8abf5 l D S12 a22 r25 e26) (cwV 0 hts (gwV gw_22_3 gw_4_10 gw_4_11 gw_1_0 gw_1_18) rfl rfl rfl (by decide +kernel) ⟨Nat.le_of_ble_eq_true rfl, Nat.le_of_ble_eq_true rfl⟩) hH hNE 2 ek24 (by decide) rfl rfl rfl hl.1 rfl (Nat.le_of_ble_eq_true rfl) dX9_takeOut_16 ⟨(Nat.le_of_ble_eq_true rfl), (Nat.le_of_ble_eq_true rfl)⟩ (fun H locs hH => ?_)
      refine lv_icmp_ge (tgt := 43) hx hb dX9_takeOut_19 (by decide) (fun c27 => ?_) (fun c27 => ?_)
      · have hf := ip hf c27
        cases hf
        have hf9 := itR (K := (fun (v : PS) => k14 v)) hq20 hq20f
        exact Xk14 S12 _ _ ls hH (lv_sub hl [0, 2] rfl) hf9
      · have hf := iq hf c27
        refine lv_aload_n hx hb dX9_takeOut_22 rfl (lv_at hl 0 rfl) ?_
        refine r_getQ hx hb 12 hts (fun w h => List.mem_cons_of_mem _ (mwsX90 w h)) hown hH ek21 (by decide) rfl 4 (by decide) rfl (hts (.fieldLink RX9 47 "Housestyle" "desks" "Ljava/util/ArrayList;") (List.mem_cons_of_mem _ gw_20_8)) (fun _ h9 => h9) dX9_takeOut_23 e23 ?_
        refine lv_iload_n hx hb dX9_takeOut_26 rfl (lv_at hl 3 rfl) ?_
        obtain ⟨r28, e29, hf⟩ := ob hf
        refine r_callVr (As := [.int x11]) ⟨hx, hb, hml, hown, hts⟩ (c_Jx4a65c_get_915e3 l D S12 a22 x11 r28 e29) (cwV 1 hts (gwV gw_22_4 gw_4_13 gw_4_14 gw_1_0 gw_2_2) rfl rfl rfl (by decide +kernel) ⟨Nat.le_of_ble_eq_true rfl, Nat.le_of_ble_eq_true rfl⟩) hH hNE 2 ek24 (by decide) rfl rfl rfl hl.1 rfl (Nat.le_of_ble_eq_true rfl) dX9_takeOut_27 ⟨(Nat.le_of_ble_eq_true rfl), (Nat.le_of_ble_eq_true rfl)⟩ (fun H locs hH => ?_)
        obtain ⟨ek30, hf⟩ := oc hf
        refine r_castS 4 hx hb hown (hts (.classLink RX9 51 "Housestyle$Desk") (List.mem_cons_of_mem _ gw_21_23)) hH ek30 (by decide) rfl rfl dX9_takeOut_30 ?_
        refine lv_iload_n hx hb dX9_takeOut_33 rfl (lv_at hl 1 rfl) ?_
        obtain ⟨r31, e32, hf⟩ := ob hf
        refine r_callVv (As := [.int p1]) ⟨hx, hb, hml, hown, hts⟩ (c_X1_followTake l D S12 r28 p1 r31 e32) (cwV 1 hts (gwV gw_23_2 gw_23_3 gw_23_4 gw_9_20 gw_10_8) rfl rfl rfl (by decide +kernel) ⟨Nat.le_of_ble_eq_true rfl, Nat.le_of_ble_eq_true rfl⟩) hH hNE 4 ek30 (by decide) rfl rfl rfl hl.1 rfl (Nat.le_of_ble_eq_true rfl) dX9_takeOut_34 ⟨(Nat.le_of_ble_eq_true rfl), (Nat.le_of_ble_eq_true rfl)⟩ (fun H locs hH => ?_)
        obtain ⟨x33, e34, hf⟩ := ol hf
        refine lv_iinc (v := x33) (lv' := [(3, .int x33), (0, .ref a0), (1, .int p1), (2, .int x9)]) hx hb dX9_takeOut_37 hl (k := 3) rfl (by rw [← e34]; rfl) (by decide) rfl (fun ls hl => ?_)
        refine lv_goto (tgt := 11) hx hb dX9_takeOut_40 (by decide) ?_
        cases hf
        exact ih20 x33 r31 hq20 _ _ ls hH (lv_sub hl [1, 2, 3, 0] rfl)
  exact Lo20 kF 0 S7 eo20 _ _ ls hH (lv_sub hl [2, 3, 1, 0] rfl)
set_option maxRecDepth 100000 in
def f_X9_take (S : PS) (a0 : Nat) (p1 : Int32) : Option ((PS × Int32) ⊕ (PS × Nat)) := if kK S a0 = 13 then (bx1 (f_X9_needPlace S a0 p1) fun S3 => if kK S3 a0 = 13 then ((f_X9_takeOut S3 a0 p1).bind fun r5 => lt r5.1 fun S7 => if vp_nar .char r5.2 = r5.2 then (some (.inl (S7, r5.2))) else none) else none) else none
abbrev rmX9_take : Room := { frames := 7, cells := 1, slots := 6, locals := 111 }
set_option maxHeartbeats 4000000 in
set_option maxRecDepth 100000 in
theorem c_X9_take (l : Launch) (hst9 : l.stackTraces = false) (D : va_G × Nat) (S : PS) (a0 : Nat) (p1 : Int32) (r : (PS × Int32) ⊕ (PS × Nat)) (hf : f_X9_take S a0 p1 = some r) : XM l D yX9_take wsX9_take rmX9_take S [.ref a0, .int p1] (mI r) 1 6 := by
  unfold f_X9_take at hf
  refine vx_ofW (cc := cX9_take) (maxL := 2) (ret := (some .char)) (by decide) rfl ?_
  intro p e s m args below meth c s₁ B hml hxt hv
  obtain ⟨rfl, hH0, hE, hNE⟩ := hv
  have hB := hH0.base
  have hx := B.exec
  have hb := B.bytes
  have hr := B.returns
  have hts := atoms_spec (ws := wsX9_take) B.pre
  have hown : s.vm.findClass RX9 = some m.cls := findClass_of_methodNamed B.named
  have hlocks := B.notSynchronized
  have hH : HI D S S s s.heap [] := HI.start hH0
  have hl := lv_entry ([.ref a0, .int p1]) (n := 2) (Nat.le_of_ble_eq_true rfl)
  rw [lg_entry_eq]
  generalize (lg_sl ([.ref a0, .int p1]) ++ List.replicate (2 - (lg_sl ([.ref a0, .int p1])).length) Slot.unset).toArray = ls at hl ⊢
  have hl : lv_has ls 2 [(0, .ref a0), (1, .int p1)] := hl
  refine lv_aload_n hx hb dX9_take_0 rfl (lv_at hl 0 rfl) ?_
  refine lv_iload_n hx hb dX9_take_1 rfl (lv_at hl 1 rfl) ?_
  obtain ⟨ek1, hf⟩ := oc hf
  rcases obx1 hf with ⟨x3_, e2, rfl⟩ | ⟨S3, e2, hf⟩
  · refine r_xVex (As := [.int p1]) ⟨hx, hb, hml, hown, hts⟩ (c_X9_needPlace l hst9 D S a0 p1 (.inr x3_) e2) (cwV 1 hts (gwV gw_23_6 gw_23_7 gw_23_8 gw_14_5 gw_22_21) rfl rfl rfl (by decide +kernel) ⟨Nat.le_of_ble_eq_true rfl, Nat.le_of_ble_eq_true rfl⟩) hH hE hB hNE 12 ek1 (by decide) rfl rfl rfl hl.1 rfl (Nat.le_of_ble_eq_true rfl) dX9_take_2 ⟨(Nat.le_of_ble_eq_true rfl), (Nat.le_of_ble_eq_true rfl)⟩ (fun z9 ce9 q9 H locs hH hk9 hz9 h91 h92 h93 => ?_)
    exact x_out hxt hlocks hH hk9 hz9 h91 h92 h93 ⟨Nat.le_of_ble_eq_true rfl, Nat.le_of_ble_eq_true rfl⟩
  refine r_xVok (As := [.int p1]) (S' := S3) (v := none) (st1 := []) ⟨hx, hb, hml, hown, hts⟩ (c_X9_needPlace l hst9 D S a0 p1 (.inl S3) e2) (cwV 1 hts (gwV gw_23_6 gw_23_7 gw_23_8 gw_14_5 gw_22_21) rfl rfl rfl (by decide +kernel) ⟨Nat.le_of_ble_eq_true rfl, Nat.le_of_ble_eq_true rfl⟩) hH hE hB hNE 12 ek1 (by decide) rfl rfl rfl hl.1 rfl (Nat.le_of_ble_eq_true rfl) dX9_take_2 ⟨(Nat.le_of_ble_eq_true rfl), (Nat.le_of_ble_eq_true rfl)⟩ rfl (fun H locs hH => ?_)
  refine W.widen (k := 1) (n := 6) (by omega) (by omega) ?_
  refine lv_aload_n hx hb dX9_take_5 rfl (lv_at hl 0 rfl) ?_
  refine lv_iload_n hx hb dX9_take_6 rfl (lv_at hl 1 rfl) ?_
  obtain ⟨ek4, hf⟩ := oc hf
  obtain ⟨r5, e6, hf⟩ := ob hf
  refine r_callVi (As := [.int p1]) ⟨hx, hb, hml, hown, hts⟩ (c_X9_takeOut l D S3 a0 p1 r5 e6) (cwV 1 hts (gwV gw_23_9 gw_23_10 gw_23_11 gw_14_5 gw_22_22) rfl rfl rfl (by decide +kernel) ⟨Nat.le_of_ble_eq_true rfl, Nat.le_of_ble_eq_true rfl⟩) hH hNE 12 ek4 (by decide) rfl rfl rfl hl.1 rfl (Nat.le_of_ble_eq_true rfl) dX9_take_7 ⟨(Nat.le_of_ble_eq_true rfl), (Nat.le_of_ble_eq_true rfl)⟩ (fun H locs hH => ?_)
  obtain ⟨S7, e8, hf⟩ := ol hf
  rw [e8] at hH
  obtain ⟨en9, hf⟩ := oc hf
  have hr9 := Option.some.inj hf
  subst hr9
  exact x_z hx hb hr hlocks (nar_C en9) hH dX9_take_10
set_option maxRecDepth 100000 in
def f_X9_at (S : PS) (a0 : Nat) (p1 : Int32) : Option ((PS × Int32) ⊕ (PS × Nat)) := if kK S a0 = 13 then (bx1 (f_X9_needPlace S a0 p1) fun S3 => if kK S3 a0 = 13 then ((kQ S3 a0 1).bind fun a5 => if kK S3 a5 = 11 then ((kQ S3 a5 0).bind fun a8 => if kK S3 a8 = 9 then ((f_X5_get S3 a8 p1).bind fun r11 => if vp_nar .char ((r11.toUInt32 % 65536).toInt32) = ((r11.toUInt32 % 65536).toInt32) then (some (.inl (S3, ((r11.toUInt32 % 65536).toInt32)))) else none) else none) else none) else none) else none
abbrev rmX9_at : Room := { frames := 7, cells := 1, slots := 6, locals := 111 }
set_option maxHeartbeats 4000000 in
set_option maxRecDepth 100000 in
theorem c_X9_at (l : Launch) (hst9 : l.stackTraces = false) (D : va_G × Nat) (S : PS) (a0 : Nat) (p1 : Int32) (r : (PS × Int32) ⊕ (PS × Nat)) (hf : f_X9_at S a0 p1 = some r) : XM l D yX9_at wsX9_at rmX9_at S [.ref a0, .int p1] (mI r) 1 6 := by
  unfold f_X9_at at hf
  refine vx_ofW (cc := cX9_at) (maxL := 2) (ret := (some .char)) (by decide) rfl ?_
  intro p e s m args below meth c s₁ B hml hxt hv
  obtain ⟨rfl, hH0, hE, hNE⟩ := hv
  have hB := hH0.base
  have hx := B.exec
  have hb := B.bytes
  have hr := B.returns
  have hts := atoms_spec (ws := wsX9_at) B.pre
  have hown : s.vm.findClass RX9 = some m.cls := findClass_of_methodNamed B.named
  have hlocks := B.notSynchronized
  have hH : HI D S S s s.heap [] := HI.start hH0
  have hl := lv_entry ([.ref a0, .int p1]) (n := 2) (Nat.le_of_ble_eq_true rfl)
  rw [lg_entry_eq]
  generalize (lg_sl ([.ref a0, .int p1]) ++ List.replicate (2 - (lg_sl ([.ref a0, .int p1])).length) Slot.unset).toArray = ls at hl ⊢
  have hl : lv_has ls 2 [(0, .ref a0), (1, .int p1)] := hl
  refine lv_aload_n hx hb dX9_at_0 rfl (lv_at hl 0 rfl) ?_
  refine lv_iload_n hx hb dX9_at_1 rfl (lv_at hl 1 rfl) ?_
  obtain ⟨ek1, hf⟩ := oc hf
  rcases obx1 hf with ⟨x3_, e2, rfl⟩ | ⟨S3, e2, hf⟩
  · refine r_xVex (As := [.int p1]) ⟨hx, hb, hml, hown, hts⟩ (c_X9_needPlace l hst9 D S a0 p1 (.inr x3_) e2) (cwV 1 hts (gwV gw_23_6 gw_23_7 gw_23_8 gw_14_5 gw_22_21) rfl rfl rfl (by decide +kernel) ⟨Nat.le_of_ble_eq_true rfl, Nat.le_of_ble_eq_true rfl⟩) hH hE hB hNE 12 ek1 (by decide) rfl rfl rfl hl.1 rfl (Nat.le_of_ble_eq_true rfl) dX9_at_2 ⟨(Nat.le_of_ble_eq_true rfl), (Nat.le_of_ble_eq_true rfl)⟩ (fun z9 ce9 q9 H locs hH hk9 hz9 h91 h92 h93 => ?_)
    exact x_out hxt hlocks hH hk9 hz9 h91 h92 h93 ⟨Nat.le_of_ble_eq_true rfl, Nat.le_of_ble_eq_true rfl⟩
  refine r_xVok (As := [.int p1]) (S' := S3) (v := none) (st1 := []) ⟨hx, hb, hml, hown, hts⟩ (c_X9_needPlace l hst9 D S a0 p1 (.inl S3) e2) (cwV 1 hts (gwV gw_23_6 gw_23_7 gw_23_8 gw_14_5 gw_22_21) rfl rfl rfl (by decide +kernel) ⟨Nat.le_of_ble_eq_true rfl, Nat.le_of_ble_eq_true rfl⟩) hH hE hB hNE 12 ek1 (by decide) rfl rfl rfl hl.1 rfl (Nat.le_of_ble_eq_true rfl) dX9_at_2 ⟨(Nat.le_of_ble_eq_true rfl), (Nat.le_of_ble_eq_true rfl)⟩ rfl (fun H locs hH => ?_)
  refine W.widen (k := 1) (n := 6) (by omega) (by omega) ?_
  refine lv_aload_n hx hb dX9_at_5 rfl (lv_at hl 0 rfl) ?_
  obtain ⟨ek4, hf⟩ := oc hf
  obtain ⟨a5, e6, hf⟩ := ob hf
  refine r_getQ hx hb 12 hts (fun w h => List.mem_cons_of_mem _ (mwsX90 w h)) hown hH ek4 (by decide) rfl 1 (by decide) rfl (hts (.fieldLink RX9 21 "Housestyle" "text" "LHousestyle$Text;") (List.mem_cons_of_mem _ gw_20_0)) (fun _ h9 => h9) dX9_at_6 e6 ?_
  obtain ⟨ek7, hf⟩ := oc hf
  obtain ⟨a8, e9, hf⟩ := ob hf
  refine r_getQN hx hb 10 hts (fun w h => List.mem_cons_of_mem _ (mwsX70 w h)) hown hH ek7 (by decide) rfl 0 (by decide) rfl (nf_0 hNE) (fun _ h9 => h9) dX9_at_9 e9 ?_
  refine lv_iload_n hx hb dX9_at_12 rfl (lv_at hl 1 rfl) ?_
  obtain ⟨ek10, hf⟩ := oc hf
  obtain ⟨r11, e12, hf⟩ := ob hf
  refine r_callVi (As := [.int p1]) ⟨hx, hb, hml, hown, hts⟩ (c_X5_get l D S3 a8 p1 r11 e12) (cwV 1 hts (gwV gw_14_2 gw_2_13 gw_2_14 gw_1_5 gw_2_9) rfl rfl rfl (by decide +kernel) ⟨Nat.le_of_ble_eq_true rfl, Nat.le_of_ble_eq_true rfl⟩) hH hNE 8 ek10 (by decide) rfl rfl rfl hl.1 rfl (Nat.le_of_ble_eq_true rfl) dX9_at_13 ⟨(Nat.le_of_ble_eq_true rfl), (Nat.le_of_ble_eq_true rfl)⟩ (fun H locs hH => ?_)
  refine lv_i2c hx hb dX9_at_16 rfl ?_
  obtain ⟨en13, hf⟩ := oc hf
  have hr9 := Option.some.inj hf
  subst hr9
  exact x_z hx hb hr hlocks (nar_C en13) hH dX9_at_17
set_option maxRecDepth 100000 in
def f_X9_length (S : PS) (a0 : Nat) : Option (Int32) := if kK S a0 = 13 then ((kQ S a0 1).bind fun a2 => if kK S a2 = 11 then ((kQ S a2 0).bind fun a5 => if kK S a5 = 9 then ((f_X5_count S a5).bind fun r8 => some r8) else none) else none) else none
abbrev rmX9_length : Room := { frames := 1, cells := 0, slots := 0, locals := 20 }
set_option maxHeartbeats 4000000 in
set_option maxRecDepth 100000 in
theorem c_X9_length (l : Launch) (D : va_G × Nat) (S : PS) (a0 : Nat) (r : Int32) (hf : f_X9_length S a0 = some r) : MI l D yX9_length wsX9_length rmX9_length S [.ref a0] S r 0 0 := by
  unfold f_X9_length at hf
  refine Met.ofW (cc := cX9_length) (maxL := 1) (ret := (some .int)) (by decide) rfl ?_
  intro p e s m args below meth c s₁ B hml hv
  obtain ⟨rfl, hH0, hNE⟩ := hv
  have hx := B.exec
  have hb := B.bytes
  have hr := B.returns
  have hts := atoms_spec (ws := wsX9_length) B.pre
  have hown : s.vm.findClass RX9 = some m.cls := findClass_of_methodNamed B.named
  have hlocks := B.notSynchronized
  have hH : HI D S S s s.heap [] := HI.start hH0
  have hl := lv_entry ([.ref a0]) (n := 1) (Nat.le_of_ble_eq_true rfl)
  rw [lg_entry_eq]
  generalize (lg_sl ([.ref a0]) ++ List.replicate (1 - (lg_sl ([.ref a0])).length) Slot.unset).toArray = ls at hl ⊢
  have hl : lv_has ls 1 [(0, .ref a0)] := hl
  refine lv_aload_n hx hb dX9_length_0 rfl (lv_at hl 0 rfl) ?_
  obtain ⟨ek1, hf⟩ := oc hf
  obtain ⟨a2, e3, hf⟩ := ob hf
  refine r_getQ hx hb 12 hts (fun w h => List.mem_cons_of_mem _ (mwsX90 w h)) hown hH ek1 (by decide) rfl 1 (by decide) rfl (hts (.fieldLink RX9 21 "Housestyle" "text" "LHousestyle$Text;") (List.mem_cons_of_mem _ gw_20_0)) (fun _ h9 => h9) dX9_length_1 e3 ?_
  obtain ⟨ek4, hf⟩ := oc hf
  obtain ⟨a5, e6, hf⟩ := ob hf
  refine r_getQN hx hb 10 hts (fun w h => List.mem_cons_of_mem _ (mwsX70 w h)) hown hH ek4 (by decide) rfl 0 (by decide) rfl (nf_0 hNE) (fun _ h9 => h9) dX9_length_4 e6 ?_
  obtain ⟨ek7, hf⟩ := oc hf
  obtain ⟨r8, e9, hf⟩ := ob hf
  refine r_callVi (As := []) ⟨hx, hb, hml, hown, hts⟩ (c_X5_count l D S a5 r8 e9) (cwV 0 hts (gwV gw_21_15 gw_1_15 gw_1_16 gw_1_5 gw_1_11) rfl rfl rfl (by decide +kernel) ⟨Nat.le_of_ble_eq_true rfl, Nat.le_of_ble_eq_true rfl⟩) hH hNE 8 ek7 (by decide) rfl rfl rfl hl.1 rfl (Nat.le_of_ble_eq_true rfl) dX9_length_7 ⟨(Nat.le_of_ble_eq_true rfl), (Nat.le_of_ble_eq_true rfl)⟩ (fun H locs hH => ?_)
  have hr9 := Option.some.inj hf
  subst hr9
  exact e_i hx hb hr hlocks hH dX9_length_10
set_option maxRecDepth 100000 in
def f_X9_isWord_b14 (b0 : Nat) (p2 : Int32) (S : PS) (x3 : Int32) (x4 : Int32) : Option ((Int32 × Int32) ⊕ ((Int32))) := if p2 ≤ x4 then (some (.inr x3)) else (lt (fun (x11 : Int32) => lt (x4 + 1) fun x13 => some (.inl (x11, x13))) fun j12 => lt (fun (u17 : Unit) => j12 0) fun j16 => if x3 = 0 then (j16 ()) else (if kK S b0 = 9 then ((f_X5_get S b0 x4).bind fun r21 => (f_X9_isLetter S r21).bind fun r23 => if r23 = 0 then (j16 ()) else (j12 1)) else none))
set_option maxRecDepth 100000 in
def f_X9_isWord (S : PS) (b0 : Nat) (p1 : Int32) (p2 : Int32) : Option (Int32) := lt (fun (x1 : Int32) => lt (fun (x5 : Int32) => if x5 = 0 ∨ x5 = 1 then (some x5) else none) fun k6 => (iter (fun (v : Int32 × Int32) => f_X9_isWord_b14 b0 p2 S v.1 v.2) kF (x1, p1)).bind (fun (v : Int32) => k6 v)) fun j2 => if p2 ≤ p1 then (j2 0) else (j2 1)
abbrev rmX9_isWord : Room := { frames := 1, cells := 0, slots := 0, locals := 21 }
set_option maxHeartbeats 4000000 in
set_option maxRecDepth 100000 in
theorem c_X9_isWord (l : Launch) (D : va_G × Nat) (S : PS) (b0 : Nat) (p1 : Int32) (p2 : Int32) (r : Int32) (hf : f_X9_isWord S b0 p1 p2 = some r) : MI l D yX9_isWord wsX9_isWord rmX9_isWord S [.ref b0, .int p1, .int p2] S r 0 0 := by
  unfold f_X9_isWord at hf
  refine Met.ofW (cc := cX9_isWord) (maxL := 5) (ret := (some .boolean)) (by decide) rfl ?_
  intro p e s m args below meth c s₁ B hml hv
  obtain ⟨rfl, hH0, hNE⟩ := hv
  have hx := B.exec
  have hb := B.bytes
  have hr := B.returns
  have hts := atoms_spec (ws := wsX9_isWord) B.pre
  have hown : s.vm.findClass RX9 = some m.cls := findClass_of_methodNamed B.named
  have hlocks := B.notSynchronized
  have hH : HI D S S s s.heap [] := HI.start hH0
  have hl := lv_entry ([.ref b0, .int p1, .int p2]) (n := 5) (Nat.le_of_ble_eq_true rfl)
  rw [lg_entry_eq]
  generalize (lg_sl ([.ref b0, .int p1, .int p2]) ++ List.replicate (5 - (lg_sl ([.ref b0, .int p1, .int p2])).length) Slot.unset).toArray = ls at hl ⊢
  have hl : lv_has ls 5 [(0, .ref b0), (1, .int p1), (2, .int p2)] := hl
  refine lv_iload_n hx hb dX9_isWord_0 rfl (lv_at hl 1 rfl) ?_
  refine lv_iload_n hx hb dX9_isWord_1 rfl (lv_at hl 2 rfl) ?_
  obtain ⟨j2, e26, hf⟩ := ol hf
  have Jj2 : ∀ (x1 : Int32) (H : Heap) (locs : List Loc) (ls : Array Slot), HI D S S s H locs → lv_has ls 5 [(0, .ref b0), (1, .int p1), (2, .int p2)] → j2 x1 = some r → GI p l e (headSpec wsX9_isWord rmX9_isWord).room s m ([.ref b0, .int p1, .int p2] : List Value).toArray below meth c D S S r H locs 0 0 0 0 (F0 m 10 ls [.int x1]) := by
    intro x1 H locs ls hH hl hf
    rw [← e26] at hf
    refine lv_istore_n (lv' := [(3, .int x1), (0, .ref b0), (1, .int p1), (2, .int p2)]) hx hb dX9_isWord_10 rfl hl (by decide) rfl (fun ls hl => ?_)
    refine lv_iload_n hx hb dX9_isWord_11 rfl (lv_at hl 2 rfl) ?_
    refine lv_istore (lv' := [(4, .int p1), (3, .int x1), (0, .ref b0), (1, .int p1), (2, .int p2)]) hx hb dX9_isWord_12 hl (by decide) rfl (fun ls hl => ?_)
    obtain ⟨k6, e7, hf⟩ := ol hf
    have Xk6 : ∀ (x5 : Int32) (H : Heap) (locs : List Loc) (ls : Array Slot), HI D S S s H locs → lv_has ls 5 [(3, .int x5)] → k6 x5 = some r → GI p l e (headSpec wsX9_isWord rmX9_isWord).room s m ([.ref b0, .int p1, .int p2] : List Value).toArray below meth c D S S r H locs 0 0 0 0 (F0 m 48 ls []) := by
      intro x5 H locs ls hH hl hf
      rw [← e7] at hf
      refine lv_iload_n hx hb dX9_isWord_48 rfl (lv_at hl 0 rfl) ?_
      obtain ⟨en8, hf⟩ := oc hf
      have hr9 := Option.some.inj hf
      subst hr9
      exact e_z hx hb hr hlocks (nar_Z9 en8) hH dX9_isWord_49
    obtain ⟨o9, eo9, hq9f⟩ := ob hf
    have Lo9 : ∀ (n : Nat) (x3 : Int32) (x4 : Int32), iter (fun (v : Int32 × Int32) => f_X9_isWord_b14 b0 p2 S v.1 v.2) n (x3, x4) = some o9 → ∀ (H : Heap) (locs : List Loc) (ls : Array Slot), HI D S S s H locs → lv_has ls 5 [(0, .ref b0), (2, .int p2), (3, .int x3), (4, .int x4)] → GI p l e (headSpec wsX9_isWord rmX9_isWord).room s m ([.ref b0, .int p1, .int p2] : List Value).toArray below meth c D S S r H locs 0 0 0 0 (F0 m 14 ls []) := by
      intro n
      induction n with
      | zero => intro x3 x4 hi; cases hi
      | succ n ih9 =>
        intro x3 x4 hi H locs ls hH hl
        obtain ⟨q9_, hf, hq9⟩ := iter_s hi
        have hf : f_X9_isWord_b14 b0 p2 S x3 x4 = some q9_ := hf
        unfold f_X9_isWord_b14 at hf
        refine lv_iload hx hb dX9_isWord_14 (lv_at hl 3 rfl) ?_
        refine lv_iload_n hx hb dX9_isWord_16 rfl (lv_at hl 1 rfl) ?_
        refine lv_icmp_ge (tgt := 48) hx hb dX9_isWord_17 (by decide) (fun c10 => ?_) (fun c10 => ?_)
        · have hf := ip hf c10
          cases hf
          have hf9 := itR (K := (fun (v : Int32) => k6 v)) hq9 hq9f
          exact Xk6 x3 _ _ ls hH (lv_sub hl [2] rfl) hf9
        · have hf := iq hf c10
          refine lv_iload_n hx hb dX9_isWord_20 rfl (lv_at hl 2 rfl) ?_
          obtain ⟨j12, e15, hf⟩ := ol hf
          have Jj12 : ∀ (x11 : Int32) (H : Heap) (locs : List Loc) (ls : Array Slot), HI D S S s H locs → lv_has ls 5 [(0, .ref b0), (2, .int p2), (4, .int x4)] → j12 x11 = some q9_ → GI p l e (headSpec wsX9_isWord rmX9_isWord).room s m ([.ref b0, .int p1, .int p2] : List Value).toArray below meth c D S S r H locs 0 0 0 0 (F0 m 41 ls [.int x11]) := by
            intro x11 H locs ls hH hl hf
            rw [← e15] at hf
            refine lv_istore_n (lv' := [(3, .int x11), (0, .ref b0), (2, .int p2), (4, .int x4)]) hx hb dX9_isWord_41 rfl hl (by decide) rfl (fun ls hl => ?_)
            obtain ⟨x13, e14, hf⟩ := ol hf
            refine lv_iinc (v := x13) (lv' := [(4, .int x13), (3, .int x11), (0, .ref b0), (2, .int p2)]) hx hb dX9_isWord_42 hl (k := 3) rfl (by rw [← e14]; rfl) (by decide) rfl (fun ls hl => ?_)
            refine lv_goto (tgt := 14) hx hb dX9_isWord_45 (by decide) ?_
            cases hf
            exact ih9 x11 x13 hq9 _ _ ls hH (lv_sub hl [2, 3, 1, 0] rfl)
          obtain ⟨j16, e18, hf⟩ := ol hf
          have Jj16 : ∀ (u17 : Unit) (H : Heap) (locs : List Loc) (ls : Array Slot), HI D S S s H locs → lv_has ls 5 [(0, .ref b0), (2, .int p2), (4, .int x4)] → j16 u17 = some q9_ → GI p l e (headSpec wsX9_isWord rmX9_isWord).room s m ([.ref b0, .int p1, .int p2] : List Value).toArray below meth c D S S r H locs 0 0 0 0 (F0 m 40 ls []) := by
            intro u17 H locs ls hH hl hf
            rw [← e18] at hf
            refine lv_iconst (v := 0) hx hb dX9_isWord_40 (by decide) ?_
            exact Jj12 0 _ _ ls hH (lv_sub hl [0, 1, 2] rfl) hf
          refine lv_if_eq (tgt := 40) hx hb dX9_isWord_21 (by decide) (fun c19 => ?_) (fun c19 => ?_)
          · have hf := ip hf c19
            exact Jj16 () _ _ ls hH (lv_sub hl [0, 1, 3] rfl) hf
          · have hf := iq hf c19
            refine lv_aload_n hx hb dX9_isWord_24 rfl (lv_at hl 0 rfl) ?_
            refine lv_iload hx hb dX9_isWord_25 (lv_at hl 3 rfl) ?_
            obtain ⟨ek20, hf⟩ := oc hf
            obtain ⟨r21, e22, hf⟩ := ob hf
            refine r_callVi (As := [.int x4]) ⟨hx, hb, hml, hown, hts⟩ (c_X5_get l D S b0 x4 r21 e22) (cwV 1 hts (gwV gw_14_2 gw_2_13 gw_2_14 gw_1_5 gw_2_9) rfl rfl rfl (by decide +kernel) ⟨Nat.le_of_ble_eq_true rfl, Nat.le_of_ble_eq_true rfl⟩) hH hNE 8 ek20 (by decide) rfl rfl rfl hl.1 rfl (Nat.le_of_ble_eq_true rfl) dX9_isWord_27 ⟨(Nat.le_of_ble_eq_true rfl), (Nat.le_of_ble_eq_true rfl)⟩ (fun H locs hH => ?_)
            obtain ⟨r23, e24, hf⟩ := ob hf
            refine r_callSi (As := [.int r21]) ⟨hx, hb, hml, hown, hts⟩ (c_X9_isLetter l D S r21 r23 e24) (va_cwS 1 hts (gwS gw_14_3 gw_14_4 gw_14_5 gw_14_0) rfl rfl rfl (by decide +kernel) ⟨Nat.le_of_ble_eq_true rfl, Nat.le_of_ble_eq_true rfl⟩) hH hNE rfl hl.1 rfl (Nat.le_of_ble_eq_true rfl) dX9_isWord_30 ⟨(Nat.le_of_ble_eq_true rfl), (Nat.le_of_ble_eq_true rfl)⟩ (fun H locs hH => ?_)
            refine lv_if_eq (tgt := 40) hx hb dX9_isWord_33 (by decide) (fun c25 => ?_) (fun c25 => ?_)
            · have hf := ip hf c25
              exact Jj16 () _ _ ls hH (lv_sub hl [0, 1, 3] rfl) hf
            · have hf := iq hf c25
              refine lv_iconst (v := 1) hx hb dX9_isWord_36 (by decide) ?_
              refine lv_goto (tgt := 41) hx hb dX9_isWord_37 (by decide) ?_
              exact Jj12 1 _ _ ls hH (lv_sub hl [0, 1, 3] rfl) hf
    exact Lo9 kF x1 p1 eo9 _ _ ls hH (lv_sub hl [2, 4, 1, 0] rfl)
  refine lv_icmp_ge (tgt := 9) hx hb dX9_isWord_2 (by decide) (fun c27 => ?_) (fun c27 => ?_)
  · have hf := ip hf c27
    refine lv_iconst (v := 0) hx hb dX9_isWord_9 (by decide) ?_
    exact Jj2 0 _ _ ls hH (lv_sub hl [0, 1, 2] rfl) hf
  · have hf := iq hf c27
    refine lv_iconst (v := 1) hx hb dX9_isWord_5 (by decide) ?_
    refine lv_goto (tgt := 10) hx hb dX9_isWord_6 (by decide) ?_
    exact Jj2 1 _ _ ls hH (lv_sub hl [0, 1, 2] rfl) hf
set_option maxRecDepth 100000 in
def f_X3_isItem (S : PS) (b0 : Nat) (p1 : Int32) (p2 : Int32) : Option (Int32) := if kK S b0 = 9 then ((f_X5_get S b0 (p2 - 1)).bind fun r2 => lt (fun (u20 : Unit) => lt (fun (u9 : Unit) => (f_X9_isWord S b0 p1 p2).bind fun r6 => if r6 = 0 ∨ r6 = 1 then (some r6) else none) fun j5 => if p2 ≤ p1 then (j5 ()) else (if r2 = (42 : Int32) then (lt (fun (u14 : Unit) => some 1) fun j13 => if (p2 - p1) = (1 : Int32) then (j13 ()) else ((f_X9_isWord S b0 p1 (p2 - 1)).bind fun r17 => if r17 = 0 then (some 0) else (j13 ()))) else (j5 ()))) fun j4 => if (p2 - p1) = (1 : Int32) then (if r2 = (35 : Int32) then (some 1) else (j4 ())) else (j4 ())) else none
abbrev rmX3_isItem : Room := { frames := 2, cells := 0, slots := 0, locals := 45 }
set_option maxHeartbeats 4000000 in
set_option maxRecDepth 100000 in
theorem c_X3_isItem (l : Launch) (D : va_G × Nat) (S : PS) (b0 : Nat) (p1 : Int32) (p2 : Int32) (r : Int32) (hf : f_X3_isItem S b0 p1 p2 = some r) : MI l D yX3_isItem wsX3_isItem rmX3_isItem S [.ref b0, .int p1, .int p2] S r 0 0 := by
  unfold f_X3_isItem at hf
  refine Met.ofW (cc := cX3_isItem) (maxL := 4) (ret := (some .boolean)) (by decide) rfl ?_
  intro p e s m args below meth c s₁ B hml hv
  obtain ⟨rfl, hH0, hNE⟩ := hv
  have hx := B.exec
  have hb := B.bytes
  have hr := B.returns
  have hts := atoms_spec (ws := wsX3_isItem) B.pre
  have hown : s.vm.findClass RX3 = some m.cls := findClass_of_methodNamed B.named
  have hlocks := B.notSynchronized
  have hH : HI D S S s s.heap [] := HI.start hH0
  have hl := lv_entry ([.ref b0, .int p1, .int p2]) (n := 4) (Nat.le_of_ble_eq_true rfl)
  rw [lg_entry_eq]
  generalize (lg_sl ([.ref b0, .int p1, .int p2]) ++ List.replicate (4 - (lg_sl ([.ref b0, .int p1, .int p2])).length) Slot.unset).toArray = ls at hl ⊢
  have hl : lv_has ls 4 [(0, .ref b0), (1, .int p1), (2, .int p2)] := hl
  refine lv_aload_n hx hb dX3_isItem_0 rfl (lv_at hl 0 rfl) ?_
  refine lv_iload_n hx hb dX3_isItem_1 rfl (lv_at hl 2 rfl) ?_
  refine lv_iconst (v := 1) hx hb dX3_isItem_2 (by decide) ?_
  refine lv_isub hx hb dX3_isItem_3 ?_
  obtain ⟨ek1, hf⟩ := oc hf
  obtain ⟨r2, e3, hf⟩ := ob hf
  refine r_callVi (As := [.int (p2 - 1)]) ⟨hx, hb, hml, hown, hts⟩ (c_X5_get l D S b0 (p2 - 1) r2 e3) (cwV 1 hts (gwV gw_13_20 gw_2_13 gw_2_14 gw_1_5 gw_2_9) rfl rfl rfl (by decide +kernel) ⟨Nat.le_of_ble_eq_true rfl, Nat.le_of_ble_eq_true rfl⟩) hH hNE 8 ek1 (by decide) rfl rfl rfl hl.1 rfl (Nat.le_of_ble_eq_true rfl) dX3_isItem_4 ⟨(Nat.le_of_ble_eq_true rfl), (Nat.le_of_ble_eq_true rfl)⟩ (fun H locs hH => ?_)
  refine lv_istore_n (lv' := [(3, .int r2), (0, .ref b0), (1, .int p1), (2, .int p2)]) hx hb dX3_isItem_7 rfl hl (by decide) rfl (fun ls hl => ?_)
  refine lv_iload_n hx hb dX3_isItem_8 rfl (lv_at hl 3 rfl) ?_
  refine lv_iload_n hx hb dX3_isItem_9 rfl (lv_at hl 2 rfl) ?_
  refine lv_isub hx hb dX3_isItem_10 ?_
  refine lv_iconst (v := 1) hx hb dX3_isItem_11 (by decide) ?_
  obtain ⟨j4, e21, hf⟩ := ol hf
  have Jj4 : ∀ (u20 : Unit) (H : Heap) (locs : List Loc) (ls : Array Slot), HI D S S s H locs → lv_has ls 4 [(0, .ref b0), (1, .int p1), (2, .int p2), (3, .int r2)] → j4 u20 = some r → GI p l e (headSpec wsX3_isItem rmX3_isItem).room s m ([.ref b0, .int p1, .int p2] : List Value).toArray below meth c D S S r H locs 0 0 0 0 (F0 m 23 ls []) := by
    intro u20 H locs ls hH hl hf
    rw [← e21] at hf
    refine lv_iload_n hx hb dX3_isItem_23 rfl (lv_at hl 2 rfl) ?_
    refine lv_iload_n hx hb dX3_isItem_24 rfl (lv_at hl 1 rfl) ?_
    obtain ⟨j5, e10, hf⟩ := ol hf
    have Jj5 : ∀ (u9 : Unit) (H : Heap) (locs : List Loc) (ls : Array Slot), HI D S S s H locs → lv_has ls 4 [(0, .ref b0), (1, .int p1), (2, .int p2)] → j5 u9 = some r → GI p l e (headSpec wsX3_isItem rmX3_isItem).room s m ([.ref b0, .int p1, .int p2] : List Value).toArray below meth c D S S r H locs 0 0 0 0 (F0 m 58 ls []) := by
      intro u9 H locs ls hH hl hf
      rw [← e10] at hf
      refine lv_aload_n hx hb dX3_isItem_58 rfl (lv_at hl 0 rfl) ?_
      refine lv_iload_n hx hb dX3_isItem_59 rfl (lv_at hl 1 rfl) ?_
      refine lv_iload_n hx hb dX3_isItem_60 rfl (lv_at hl 2 rfl) ?_
      obtain ⟨r6, e7, hf⟩ := ob hf
      refine r_callSiN (As := [.ref b0, .int p1, .int p2]) ⟨hx, hb, hml, hown, hts⟩ (c_X9_isWord l D S b0 p1 p2 r6 e7) ⟨va_cnB 3 hts (gwI (gwC gw_14_1)) rfl rfl rfl (nm_0 hNE) (hts (.initialized RX9) (List.mem_cons_of_mem _ gw_14_5)) (by decide +kernel) ⟨Nat.le_of_ble_eq_true rfl, Nat.le_of_ble_eq_true rfl⟩, (hts (.static yX9_isWord) (List.mem_cons_of_mem _ gw_14_7)), trivial⟩ hH hNE rfl hl.1 rfl (Nat.le_of_ble_eq_true rfl) dX3_isItem_61 ⟨(Nat.le_of_ble_eq_true rfl), (Nat.le_of_ble_eq_true rfl)⟩ (fun H locs hH => ?_)
      obtain ⟨en8, hf⟩ := oc hf
      have hr9 := Option.some.inj hf
      subst hr9
      exact e_z hx hb hr hlocks (nar_Z9 en8) hH dX3_isItem_64
    refine lv_icmp_le (tgt := 58) hx hb dX3_isItem_25 (by decide) (fun c11 => ?_) (fun c11 => ?_)
    · have hf := ip hf c11
      exact Jj5 () _ _ ls hH (lv_sub hl [0, 1, 2] rfl) hf
    · have hf := iq hf c11
      refine lv_iload_n hx hb dX3_isItem_28 rfl (lv_at hl 3 rfl) ?_
      refine lv_bipush (v := 42) hx hb dX3_isItem_29 (by decide) ?_
      refine lv_icmp_ne (tgt := 58) hx hb dX3_isItem_31 (by decide) (fun c12 => ?_) (fun c12 => ?_)
      · have hf := iq hf c12
        exact Jj5 () _ _ ls hH (lv_sub hl [0, 1, 2] rfl) hf
      · have hf := ip hf c12
        refine lv_iload_n hx hb dX3_isItem_34 rfl (lv_at hl 2 rfl) ?_
        refine lv_iload_n hx hb dX3_isItem_35 rfl (lv_at hl 1 rfl) ?_
        refine lv_isub hx hb dX3_isItem_36 ?_
        refine lv_iconst (v := 1) hx hb dX3_isItem_37 (by decide) ?_
        obtain ⟨j13, e15, hf⟩ := ol hf
        have Jj13 : ∀ (u14 : Unit) (H : Heap) (locs : List Loc) (ls : Array Slot), HI D S S s H locs → lv_has ls 4 [] → j13 u14 = some r → GI p l e (headSpec wsX3_isItem rmX3_isItem).room s m ([.ref b0, .int p1, .int p2] : List Value).toArray below meth c D S S r H locs 0 0 0 0 (F0 m 52 ls []) := by
          intro u14 H locs ls hH hl hf
          rw [← e15] at hf
          refine lv_iconst (v := 1) hx hb dX3_isItem_52 (by decide) ?_
          refine lv_goto (tgt := 57) hx hb dX3_isItem_53 (by decide) ?_
          have hr9 := Option.some.inj hf
          subst hr9
          exact e_z (r := 1) hx hb hr hlocks rfl hH dX3_isItem_57
        refine lv_icmp_eq (tgt := 52) hx hb dX3_isItem_38 (by decide) (fun c16 => ?_) (fun c16 => ?_)
        · have hf := ip hf c16
          exact Jj13 () _ _ ls hH (lv_sub hl [] rfl) hf
        · have hf := iq hf c16
          refine lv_aload_n hx hb dX3_isItem_41 rfl (lv_at hl 0 rfl) ?_
          refine lv_iload_n hx hb dX3_isItem_42 rfl (lv_at hl 1 rfl) ?_
          refine lv_iload_n hx hb dX3_isItem_43 rfl (lv_at hl 2 rfl) ?_
          refine lv_iconst (v := 1) hx hb dX3_isItem_44 (by decide) ?_
          refine lv_isub hx hb dX3_isItem_45 ?_
          obtain ⟨r17, e18, hf⟩ := ob hf
          refine r_callSiN (As := [.ref b0, .int p1, .int (p2 - 1)]) ⟨hx, hb, hml, hown, hts⟩ (c_X9_isWord l D S b0 p1 (p2 - 1) r17 e18) ⟨va_cnB 3 hts (gwI (gwC gw_14_1)) rfl rfl rfl (nm_0 hNE) (hts (.initialized RX9) (List.mem_cons_of_mem _ gw_14_5)) (by decide +kernel) ⟨Nat.le_of_ble_eq_true rfl, Nat.le_of_ble_eq_true rfl⟩, (hts (.static yX9_isWord) (List.mem_cons_of_mem _ gw_14_7)), trivial⟩ hH hNE rfl hl.1 rfl (Nat.le_of_ble_eq_true rfl) dX3_isItem_46 ⟨(Nat.le_of_ble_eq_true rfl), (Nat.le_of_ble_eq_true rfl)⟩ (fun H locs hH => ?_)
          refine lv_if_eq (tgt := 56) hx hb dX3_isItem_49 (by decide) (fun c19 => ?_) (fun c19 => ?_)
          · have hf := ip hf c19
            refine lv_iconst (v := 0) hx hb dX3_isItem_56 (by decide) ?_
            have hr9 := Option.some.inj hf
            subst hr9
            exact e_z (r := 0) hx hb hr hlocks rfl hH dX3_isItem_57
          · have hf := iq hf c19
            exact Jj13 () _ _ ls hH (lv_sub hl [] rfl) hf
  refine lv_icmp_ne (tgt := 23) hx hb dX3_isItem_12 (by decide) (fun c22 => ?_) (fun c22 => ?_)
  · have hf := iq hf c22
    exact Jj4 () _ _ ls hH (lv_sub hl [1, 2, 3, 0] rfl) hf
  · have hf := ip hf c22
    refine lv_iload_n hx hb dX3_isItem_15 rfl (lv_at hl 0 rfl) ?_
    refine lv_bipush (v := 35) hx hb dX3_isItem_16 (by decide) ?_
    refine lv_icmp_ne (tgt := 23) hx hb dX3_isItem_18 (by decide) (fun c23 => ?_) (fun c23 => ?_)
    · have hf := iq hf c23
      exact Jj4 () _ _ ls hH (lv_sub hl [1, 2, 3, 0] rfl) hf
    · have hf := ip hf c23
      refine lv_iconst (v := 1) hx hb dX3_isItem_21 (by decide) ?_
      have hr9 := Option.some.inj hf
      subst hr9
      exact e_z (r := 1) hx hb hr hlocks rfl hH dX3_isItem_22
set_option maxRecDepth 100000 in
def f_X6_isPattern_b6 (b0 : Nat) (S : PS) (x1 : Int32) (x2 : Int32) (x3 : Int32) : Option ((Int32 × Int32 × Int32) ⊕ ((Int32) ⊕ (Unit))) := if kK S b0 = 9 then ((f_X5_count S b0).bind fun r13 => if r13 < x3 then (some (.inr (.inl x1))) else ((f_X5_count S b0).bind fun r16 => lt (fun (x18 : Int32) (x19 : Int32) => lt (x3 + 1) fun x21 => some (.inl (x18, x19, x21))) fun j20 => lt (fun (u32 : Unit) => (f_X3_isItem S b0 x2 x3).bind fun r25 => if r25 = 0 then (some (.inr (.inr ()))) else (lt (x1 + 1) fun x28 => lt (x3 + 1) fun x30 => j20 x28 x30)) fun j24 => if x3 = r16 then (j24 ()) else ((f_X5_get S b0 x3).bind fun r35 => if r35 = (45 : Int32) then (j24 ()) else (j20 x1 x2)))) else none
set_option maxRecDepth 100000 in
def f_X6_isPattern (S : PS) (b0 : Nat) : Option (Int32) := lt (fun (x4 : Int32) => if (3 : Int32) < x4 then (some 0) else (some 1)) fun k5 => lt (fun (u10 : Unit) => some 0) fun k8 => (iter (fun (v : Int32 × Int32 × Int32) => f_X6_isPattern_b6 b0 S v.1 v.2.1 v.2.2) kF (0, 0, 0)).bind (fun (z : (Int32) ⊕ (Unit)) => Sum.elim (fun (v : Int32) => k5 v) (fun (v : Unit) => k8 v) z)
abbrev rmX6_isPattern : Room := { frames := 3, cells := 0, slots := 0, locals := 68 }
set_option maxHeartbeats 4000000 in
set_option maxRecDepth 100000 in
theorem c_X6_isPattern (l : Launch) (D : va_G × Nat) (S : PS) (b0 : Nat) (r : Int32) (hf : f_X6_isPattern S b0 = some r) : MI l D yX6_isPattern wsX6_isPattern rmX6_isPattern S [.ref b0] S r 0 0 := by
  unfold f_X6_isPattern at hf
  refine Met.ofW (cc := cX6_isPattern) (maxL := 4) (ret := (some .boolean)) (by decide) rfl ?_
  intro p e s m args below meth c s₁ B hml hv
  obtain ⟨rfl, hH0, hNE⟩ := hv
  have hx := B.exec
  have hb := B.bytes
  have hr := B.returns
  have hts := atoms_spec (ws := wsX6_isPattern) B.pre
  have hown : s.vm.findClass RX6 = some m.cls := findClass_of_methodNamed B.named
  have hlocks := B.notSynchronized
  have hH : HI D S S s s.heap [] := HI.start hH0
  have hl := lv_entry ([.ref b0]) (n := 4) (Nat.le_of_ble_eq_true rfl)
  rw [lg_entry_eq]
  generalize (lg_sl ([.ref b0]) ++ List.replicate (4 - (lg_sl ([.ref b0])).length) Slot.unset).toArray = ls at hl ⊢
  have hl : lv_has ls 4 [(0, .ref b0)] := hl
  refine lv_iconst (v := 0) hx hb dX6_isPattern_0 (by decide) ?_
  refine lv_istore_n (lv' := [(1, .int 0), (0, .ref b0)]) hx hb dX6_isPattern_1 rfl hl (by decide) rfl (fun ls hl => ?_)
  refine lv_iconst (v := 0) hx hb dX6_isPattern_2 (by decide) ?_
  refine lv_istore_n (lv' := [(2, .int 0), (1, .int 0), (0, .ref b0)]) hx hb dX6_isPattern_3 rfl hl (by decide) rfl (fun ls hl => ?_)
  refine lv_iconst (v := 0) hx hb dX6_isPattern_4 (by decide) ?_
  refine lv_istore_n (lv' := [(3, .int 0), (2, .int 0), (1, .int 0), (0, .ref b0)]) hx hb dX6_isPattern_5 rfl hl (by decide) rfl (fun ls hl => ?_)
  obtain ⟨k5, e6, hf⟩ := ol hf
  have Xk5 : ∀ (x4 : Int32) (H : Heap) (locs : List Loc) (ls : Array Slot), HI D S S s H locs → lv_has ls 4 [(1, .int x4)] → k5 x4 = some r → GI p l e (headSpec wsX6_isPattern rmX6_isPattern).room s m ([.ref b0] : List Value).toArray below meth c D S S r H locs 0 0 0 0 (F0 m 56 ls []) := by
    intro x4 H locs ls hH hl hf
    rw [← e6] at hf
    refine lv_iload_n hx hb dX6_isPattern_56 rfl (lv_at hl 0 rfl) ?_
    refine lv_iconst (v := 3) hx hb dX6_isPattern_57 (by decide) ?_
    refine lv_icmp_gt (tgt := 65) hx hb dX6_isPattern_58 (by decide) (fun c7 => ?_) (fun c7 => ?_)
    · have hf := ip hf c7
      refine lv_iconst (v := 0) hx hb dX6_isPattern_65 (by decide) ?_
      have hr9 := Option.some.inj hf
      subst hr9
      exact e_z (r := 0) hx hb hr hlocks rfl hH dX6_isPattern_66
    · have hf := iq hf c7
      refine lv_iconst (v := 1) hx hb dX6_isPattern_61 (by decide) ?_
      refine lv_goto (tgt := 66) hx hb dX6_isPattern_62 (by decide) ?_
      have hr9 := Option.some.inj hf
      subst hr9
      exact e_z (r := 1) hx hb hr hlocks rfl hH dX6_isPattern_66
  obtain ⟨k8, e9, hf⟩ := ol hf
  have Xk8 : ∀ (u10 : Unit) (H : Heap) (locs : List Loc) (ls : Array Slot), HI D S S s H locs → lv_has ls 4 [] → k8 u10 = some r → GI p l e (headSpec wsX6_isPattern rmX6_isPattern).room s m ([.ref b0] : List Value).toArray below meth c D S S r H locs 0 0 0 0 (F0 m 41 ls []) := by
    intro u10 H locs ls hH hl hf
    rw [← e9] at hf
    refine lv_iconst (v := 0) hx hb dX6_isPattern_41 (by decide) ?_
    have hr9 := Option.some.inj hf
    subst hr9
    exact e_z (r := 0) hx hb hr hlocks rfl hH dX6_isPattern_42
  obtain ⟨o11, eo11, hq11f⟩ := ob hf
  have Lo11 : ∀ (n : Nat) (x1 : Int32) (x2 : Int32) (x3 : Int32), iter (fun (v : Int32 × Int32 × Int32) => f_X6_isPattern_b6 b0 S v.1 v.2.1 v.2.2) n (x1, x2, x3) = some o11 → ∀ (H : Heap) (locs : List Loc) (ls : Array Slot), HI D S S s H locs → lv_has ls 4 [(0, .ref b0), (1, .int x1), (2, .int x2), (3, .int x3)] → GI p l e (headSpec wsX6_isPattern rmX6_isPattern).room s m ([.ref b0] : List Value).toArray below meth c D S S r H locs 0 0 0 0 (F0 m 6 ls []) := by
    intro n
    induction n with
    | zero => intro x1 x2 x3 hi; cases hi
    | succ n ih11 =>
      intro x1 x2 x3 hi H locs ls hH hl
      obtain ⟨q11_, hf, hq11⟩ := iter_s hi
      have hf : f_X6_isPattern_b6 b0 S x1 x2 x3 = some q11_ := hf
      unfold f_X6_isPattern_b6 at hf
      refine lv_iload_n hx hb dX6_isPattern_6 rfl (lv_at hl 3 rfl) ?_
      refine lv_aload_n hx hb dX6_isPattern_7 rfl (lv_at hl 0 rfl) ?_
      obtain ⟨ek12, hf⟩ := oc hf
      obtain ⟨r13, e14, hf⟩ := ob hf
      refine r_callVi (As := []) ⟨hx, hb, hml, hown, hts⟩ (c_X5_count l D S b0 r13 e14) (cwV 0 hts (gwV gw_7_17 gw_1_15 gw_1_16 gw_1_5 gw_1_11) rfl rfl rfl (by decide +kernel) ⟨Nat.le_of_ble_eq_true rfl, Nat.le_of_ble_eq_true rfl⟩) hH hNE 8 ek12 (by decide) rfl rfl rfl hl.1 rfl (Nat.le_of_ble_eq_true rfl) dX6_isPattern_8 ⟨(Nat.le_of_ble_eq_true rfl), (Nat.le_of_ble_eq_true rfl)⟩ (fun H locs hH => ?_)
      refine lv_icmp_gt (tgt := 56) hx hb dX6_isPattern_11 (by decide) (fun c15 => ?_) (fun c15 => ?_)
      · have hf := ip hf c15
        cases hf
        have hf9 := itR (K := (fun (z : (Int32) ⊕ (Unit)) => Sum.elim (fun (v : Int32) => k5 v) (fun (v : Unit) => k8 v) z)) hq11 hq11f
        exact Xk5 x1 _ _ ls hH (lv_sub hl [1] rfl) hf9
      · have hf := iq hf c15
        refine lv_iload_n hx hb dX6_isPattern_14 rfl (lv_at hl 3 rfl) ?_
        refine lv_aload_n hx hb dX6_isPattern_15 rfl (lv_at hl 0 rfl) ?_
        obtain ⟨r16, e17, hf⟩ := ob hf
        refine r_callVi (As := []) ⟨hx, hb, hml, hown, hts⟩ (c_X5_count l D S b0 r16 e17) (cwV 0 hts (gwV gw_7_17 gw_1_15 gw_1_16 gw_1_5 gw_1_11) rfl rfl rfl (by decide +kernel) ⟨Nat.le_of_ble_eq_true rfl, Nat.le_of_ble_eq_true rfl⟩) hH hNE 8 ek12 (by decide) rfl rfl rfl hl.1 rfl (Nat.le_of_ble_eq_true rfl) dX6_isPattern_16 ⟨(Nat.le_of_ble_eq_true rfl), (Nat.le_of_ble_eq_true rfl)⟩ (fun H locs hH => ?_)
        obtain ⟨j20, e23, hf⟩ := ol hf
        have Jj20 : ∀ (x18 : Int32) (x19 : Int32) (H : Heap) (locs : List Loc) (ls : Array Slot), HI D S S s H locs → lv_has ls 4 [(0, .ref b0), (1, .int x18), (2, .int x19), (3, .int x3)] → j20 x18 x19 = some q11_ → GI p l e (headSpec wsX6_isPattern rmX6_isPattern).room s m ([.ref b0] : List Value).toArray below meth c D S S r H locs 0 0 0 0 (F0 m 50 ls []) := by
          intro x18 x19 H locs ls hH hl hf
          rw [← e23] at hf
          obtain ⟨x21, e22, hf⟩ := ol hf
          refine lv_iinc (v := x21) (lv' := [(3, .int x21), (0, .ref b0), (1, .int x18), (2, .int x19)]) hx hb dX6_isPattern_50 hl (k := 3) rfl (by rw [← e22]; rfl) (by decide) rfl (fun ls hl => ?_)
          refine lv_goto (tgt := 6) hx hb dX6_isPattern_53 (by decide) ?_
          cases hf
          exact ih11 x18 x19 x21 hq11 _ _ ls hH (lv_sub hl [1, 2, 3, 0] rfl)
        obtain ⟨j24, e33, hf⟩ := ol hf
        have Jj24 : ∀ (u32 : Unit) (H : Heap) (locs : List Loc) (ls : Array Slot), HI D S S s H locs → lv_has ls 4 [(0, .ref b0), (1, .int x1), (2, .int x2), (3, .int x3)] → j24 u32 = some q11_ → GI p l e (headSpec wsX6_isPattern rmX6_isPattern).room s m ([.ref b0] : List Value).toArray below meth c D S S r H locs 0 0 0 0 (F0 m 32 ls []) := by
          intro u32 H locs ls hH hl hf
          rw [← e33] at hf
          refine lv_aload_n hx hb dX6_isPattern_32 rfl (lv_at hl 0 rfl) ?_
          refine lv_iload_n hx hb dX6_isPattern_33 rfl (lv_at hl 2 rfl) ?_
          refine lv_iload_n hx hb dX6_isPattern_34 rfl (lv_at hl 3 rfl) ?_
          obtain ⟨r25, e26, hf⟩ := ob hf
          refine r_callSi (As := [.ref b0, .int x2, .int x3]) ⟨hx, hb, hml, hown, hts⟩ (c_X3_isItem l D S b0 x2 x3 r25 e26) (va_cwS 3 hts (gwS gw_17_3 gw_17_4 gw_5_11 gw_14_6) rfl rfl rfl (by decide +kernel) ⟨Nat.le_of_ble_eq_true rfl, Nat.le_of_ble_eq_true rfl⟩) hH hNE rfl hl.1 rfl (Nat.le_of_ble_eq_true rfl) dX6_isPattern_35 ⟨(Nat.le_of_ble_eq_true rfl), (Nat.le_of_ble_eq_true rfl)⟩ (fun H locs hH => ?_)
          refine lv_if_ne (tgt := 43) hx hb dX6_isPattern_38 (by decide) (fun c27 => ?_) (fun c27 => ?_)
          · have hf := iq hf c27
            obtain ⟨x28, e29, hf⟩ := ol hf
            refine lv_iinc (v := x28) (lv' := [(1, .int x28), (0, .ref b0), (2, .int x2), (3, .int x3)]) hx hb dX6_isPattern_43 hl (k := 1) rfl (by rw [← e29]; rfl) (by decide) rfl (fun ls hl => ?_)
            refine lv_iload_n hx hb dX6_isPattern_46 rfl (lv_at hl 3 rfl) ?_
            refine lv_iconst (v := 1) hx hb dX6_isPattern_47 (by decide) ?_
            refine lv_iadd hx hb dX6_isPattern_48 ?_
            obtain ⟨x30, e31, hf⟩ := ol hf
            refine lv_topE e31 ?_
            refine lv_istore_n (lv' := [(2, .int x30), (1, .int x28), (0, .ref b0), (3, .int x3)]) hx hb dX6_isPattern_49 rfl hl (by decide) rfl (fun ls hl => ?_)
            exact Jj20 x28 x30 _ _ ls hH (lv_sub hl [2, 1, 0, 3] rfl) hf
          · have hf := ip hf c27
            cases hf
            have hf9 := itR (K := (fun (z : (Int32) ⊕ (Unit)) => Sum.elim (fun (v : Int32) => k5 v) (fun (v : Unit) => k8 v) z)) hq11 hq11f
            exact Xk8 () _ _ ls hH (lv_sub hl [] rfl) hf9
        refine lv_icmp_eq (tgt := 32) hx hb dX6_isPattern_19 (by decide) (fun c34 => ?_) (fun c34 => ?_)
        · have hf := ip hf c34
          exact Jj24 () _ _ ls hH (lv_sub hl [0, 1, 2, 3] rfl) hf
        · have hf := iq hf c34
          refine lv_aload_n hx hb dX6_isPattern_22 rfl (lv_at hl 0 rfl) ?_
          refine lv_iload_n hx hb dX6_isPattern_23 rfl (lv_at hl 3 rfl) ?_
          obtain ⟨r35, e36, hf⟩ := ob hf
          refine r_callVi (As := [.int x3]) ⟨hx, hb, hml, hown, hts⟩ (c_X5_get l D S b0 x3 r35 e36) (cwV 1 hts (gwV gw_7_23 gw_2_13 gw_2_14 gw_1_5 gw_2_9) rfl rfl rfl (by decide +kernel) ⟨Nat.le_of_ble_eq_true rfl, Nat.le_of_ble_eq_true rfl⟩) hH hNE 8 ek12 (by decide) rfl rfl rfl hl.1 rfl (Nat.le_of_ble_eq_true rfl) dX6_isPattern_24 ⟨(Nat.le_of_ble_eq_true rfl), (Nat.le_of_ble_eq_true rfl)⟩ (fun H locs hH => ?_)
          refine lv_bipush (v := 45) hx hb dX6_isPattern_27 (by decide) ?_
          refine lv_icmp_ne (tgt := 50) hx hb dX6_isPattern_29 (by decide) (fun c37 => ?_) (fun c37 => ?_)
          · have hf := iq hf c37
            exact Jj20 x1 x2 _ _ ls hH (lv_sub hl [0, 1, 2, 3] rfl) hf
          · have hf := ip hf c37
            exact Jj24 () _ _ ls hH (lv_sub hl [0, 1, 2, 3] rfl) hf
  exact Lo11 kF 0 0 0 eo11 _ _ ls hH (lv_sub hl [3, 2, 1, 0] rfl)
set_option maxRecDepth 100000 in
def f_X3_init (S : PS) (a0 : Nat) (b1 : Nat) (p2 : Int32) (p3 : Int32) : Option (PS) := if kK S b1 = 9 then ((f_X5_get S b1 (p3 - 1)).bind fun r2 => lt (fun (x4 : Int32) => if kK S a0 = 7 then (if x4 = 0 ∨ x4 = 1 then (lt (wI S a0 0 x4) fun S8 => if kK S8 b1 = 9 then ((f_X5_get S8 b1 (p3 - 1)).bind fun r11 => lt (fun (x13 : Int32) => if kK S8 a0 = 7 then (if x13 = 0 ∨ x13 = 1 then (lt (wI S8 a0 1 x13) fun S17 => if kK S17 a0 = 7 then (lt (fun (x20 : Int32) => if kK S17 b1 = 9 then ((f_X5_part S17 b1 p2 x20).bind fun r23 => lt r23.1 fun S25 => if kK S25 a0 = 7 then (lt (wQ S25 a0 2 (some r23.2)) fun S28 => some S28) else none) else none) fun j21 => lt (fun (u32 : Unit) => j21 (p3 - 1)) fun j31 => if (kI S17 a0 0) = 0 then (if (kI S17 a0 1) = 0 then (j21 p3) else (j31 ())) else (j31 ())) else none) else none) else none) fun j14 => if r11 = (42 : Int32) then (j14 1) else (j14 0)) else none) else none) else none) fun j5 => if r2 = (35 : Int32) then (j5 1) else (j5 0)) else none
abbrev rmX3_init : Room := { frames := 3, cells := 2, slots := 182, locals := 61 }
set_option maxHeartbeats 4000000 in
set_option maxRecDepth 100000 in
theorem c_X3_init (l : Launch) (D : va_G × Nat) (S : PS) (a0 : Nat) (b1 : Nat) (p2 : Int32) (p3 : Int32) (r : PS) (hf : f_X3_init S a0 b1 p2 p3 = some r) : MV l D yX3_init wsX3_init rmX3_init S [.ref a0, .ref b1, .int p2, .int p3] r 2 182 := by
  unfold f_X3_init at hf
  refine Met.ofW (cc := cX3_init) (maxL := 4) (ret := none) (by decide) rfl ?_
  intro p e s m args below meth c s₁ B hml hv
  obtain ⟨rfl, hH0, hNE⟩ := hv
  have hx := B.exec
  have hb := B.bytes
  have hr := B.returns
  have hts := atoms_spec (ws := wsX3_init) B.pre
  have hown : s.vm.findClass RX3 = some m.cls := findClass_of_methodNamed B.named
  have hlocks := B.notSynchronized
  have hin : meth.name = "<init>" := (name_of_methodNamed B.named B.method).1
  have hH : HI D S S s s.heap [] := HI.start hH0
  have hl := lv_entry ([.ref a0, .ref b1, .int p2, .int p3]) (n := 4) (Nat.le_of_ble_eq_true rfl)
  rw [lg_entry_eq]
  generalize (lg_sl ([.ref a0, .ref b1, .int p2, .int p3]) ++ List.replicate (4 - (lg_sl ([.ref a0, .ref b1, .int p2, .int p3])).length) Slot.unset).toArray = ls at hl ⊢
  have hl : lv_has ls 4 [(0, .ref a0), (1, .ref b1), (2, .int p2), (3, .int p3)] := hl
  refine lv_aload_n hx hb dX3_init_0 rfl (lv_at hl 0 rfl) ?_
  refine W.objInit hx hb hown (hts (.methodLink RX3 1 objectInit) (List.mem_cons_of_mem _ gw_13_19)) (hts (.instanceMethod objectInit) (List.mem_cons_of_mem _ gw_0_2)) (hts (.code objectInit ⟨#[0xb1]⟩ 1 none) (List.mem_cons_of_mem _ gw_0_3)) rfl (by rw [hml]; exact hl.1) rfl dX3_init_1 (Nat.le_of_ble_eq_true rfl) (Nat.le_of_ble_eq_true rfl) ?_
  refine W.eq (g2 := F0 m 4 ls []) rfl ?_
  refine lv_aload_n hx hb dX3_init_4 rfl (lv_at hl 0 rfl) ?_
  refine lv_aload_n hx hb dX3_init_5 rfl (lv_at hl 1 rfl) ?_
  refine lv_iload_n hx hb dX3_init_6 rfl (lv_at hl 3 rfl) ?_
  refine lv_iconst (v := 1) hx hb dX3_init_7 (by decide) ?_
  refine lv_isub hx hb dX3_init_8 ?_
  obtain ⟨ek1, hf⟩ := oc hf
  obtain ⟨r2, e3, hf⟩ := ob hf
  refine r_callVi (As := [.int (p3 - 1)]) ⟨hx, hb, hml, hown, hts⟩ (c_X5_get l D S b1 (p3 - 1) r2 e3) (cwV 1 hts (gwV gw_13_20 gw_2_13 gw_2_14 gw_1_5 gw_2_9) rfl rfl rfl (by decide +kernel) ⟨Nat.le_of_ble_eq_true rfl, Nat.le_of_ble_eq_true rfl⟩) hH hNE 8 ek1 (by decide) rfl rfl rfl hl.1 rfl (Nat.le_of_ble_eq_true rfl) dX3_init_9 ⟨(Nat.le_of_ble_eq_true rfl), (Nat.le_of_ble_eq_true rfl)⟩ (fun H locs hH => ?_)
  refine lv_bipush (v := 35) hx hb dX3_init_12 (by decide) ?_
  obtain ⟨j5, e38, hf⟩ := ol hf
  have Jj5 : ∀ (x4 : Int32) (H : Heap) (locs : List Loc) (ls : Array Slot), HI D S S s H locs → lv_has ls 4 [(0, .ref a0), (1, .ref b1), (2, .int p2), (3, .int p3)] → j5 x4 = some r → GV p l e (headSpec wsX3_init rmX3_init).room s m ([.ref a0, .ref b1, .int p2, .int p3] : List Value).toArray below meth c D S r H locs 0 0 2 182 (F0 m 22 ls [.int x4, .ref a0]) := by
    intro x4 H locs ls hH hl hf
    rw [← e38] at hf
    obtain ⟨ek6, hf⟩ := oc hf
    obtain ⟨en7, hf⟩ := oc hf
    refine r_putI hx hb 6 hts (fun w h => List.mem_cons_of_mem _ (mwsX30 w h)) tyX3 tyX3_ok nmX3 hown hH ek6 (by decide) rfl 0 (by decide) rfl (hts (.fieldLink RX3 13 "Housestyle$Item" "isNumber" "Z") (List.mem_cons_of_mem _ gw_3_6)) (fun _ h9 => h9) (Or.inr ⟨rfl, hin, rfl⟩) (ty := .boolean) (by decide +kernel) (nar_Z9 en7) (fit_Z9 en7) dX3_init_22 (fun H locs hH => ?_)
    obtain ⟨S8, e9, hf⟩ := ol hf
    rw [e9] at hH
    refine lv_aload_n hx hb dX3_init_25 rfl (lv_at hl 0 rfl) ?_
    refine lv_aload_n hx hb dX3_init_26 rfl (lv_at hl 1 rfl) ?_
    refine lv_iload_n hx hb dX3_init_27 rfl (lv_at hl 3 rfl) ?_
    refine lv_iconst (v := 1) hx hb dX3_init_28 (by decide) ?_
    refine lv_isub hx hb dX3_init_29 ?_
    obtain ⟨ek10, hf⟩ := oc hf
    obtain ⟨r11, e12, hf⟩ := ob hf
    refine r_callVi (As := [.int (p3 - 1)]) ⟨hx, hb, hml, hown, hts⟩ (c_X5_get l D S8 b1 (p3 - 1) r11 e12) (cwV 1 hts (gwV gw_13_20 gw_2_13 gw_2_14 gw_1_5 gw_2_9) rfl rfl rfl (by decide +kernel) ⟨Nat.le_of_ble_eq_true rfl, Nat.le_of_ble_eq_true rfl⟩) hH hNE 8 ek10 (by decide) rfl rfl rfl hl.1 rfl (Nat.le_of_ble_eq_true rfl) dX3_init_30 ⟨(Nat.le_of_ble_eq_true rfl), (Nat.le_of_ble_eq_true rfl)⟩ (fun H locs hH => ?_)
    refine lv_bipush (v := 42) hx hb dX3_init_33 (by decide) ?_
    obtain ⟨j14, e36, hf⟩ := ol hf
    have Jj14 : ∀ (x13 : Int32) (H : Heap) (locs : List Loc) (ls : Array Slot), HI D S S8 s H locs → lv_has ls 4 [(0, .ref a0), (1, .ref b1), (2, .int p2), (3, .int p3)] → j14 x13 = some r → GV p l e (headSpec wsX3_init rmX3_init).room s m ([.ref a0, .ref b1, .int p2, .int p3] : List Value).toArray below meth c D S r H locs 0 0 2 182 (F0 m 43 ls [.int x13, .ref a0]) := by
      intro x13 H locs ls hH hl hf
      rw [← e36] at hf
      obtain ⟨ek15, hf⟩ := oc hf
      obtain ⟨en16, hf⟩ := oc hf
      refine r_putI hx hb 6 hts (fun w h => List.mem_cons_of_mem _ (mwsX30 w h)) tyX3 tyX3_ok nmX3 hown hH ek15 (by decide) rfl 1 (by decide) rfl (hts (.fieldLink RX3 19 "Housestyle$Item" "hasStar" "Z") (List.mem_cons_of_mem _ gw_3_8)) (fun _ h9 => h9) (Or.inr ⟨rfl, hin, rfl⟩) (ty := .boolean) (by decide +kernel) (nar_Z9 en16) (fit_Z9 en16) dX3_init_43 (fun H locs hH => ?_)
      obtain ⟨S17, e18, hf⟩ := ol hf
      rw [e18] at hH
      refine lv_aload_n hx hb dX3_init_46 rfl (lv_at hl 0 rfl) ?_
      refine lv_aload_n hx hb dX3_init_47 rfl (lv_at hl 1 rfl) ?_
      refine lv_iload_n hx hb dX3_init_48 rfl (lv_at hl 2 rfl) ?_
      refine lv_aload_n hx hb dX3_init_49 rfl (lv_at hl 0 rfl) ?_
      obtain ⟨ek19, hf⟩ := oc hf
      refine r_getI hx hb 6 hts (fun w h => List.mem_cons_of_mem _ (mwsX30 w h)) hown hH ek19 (by decide) rfl 0 (by decide) rfl (hts (.fieldLink RX3 13 "Housestyle$Item" "isNumber" "Z") (List.mem_cons_of_mem _ gw_3_6)) (fun _ h9 => h9) dX3_init_50 ?_
      obtain ⟨j21, e30, hf⟩ := ol hf
      have Jj21 : ∀ (x20 : Int32) (H : Heap) (locs : List Loc) (ls : Array Slot), HI D S S17 s H locs → lv_has ls 4 [] → j21 x20 = some r → GV p l e (headSpec wsX3_init rmX3_init).room s m ([.ref a0, .ref b1, .int p2, .int p3] : List Value).toArray below meth c D S r H locs 0 0 2 182 (F0 m 70 ls [.int x20, .int p2, .ref b1, .ref a0]) := by
        intro x20 H locs ls hH hl hf
        rw [← e30] at hf
        obtain ⟨ek22, hf⟩ := oc hf
        obtain ⟨r23, e24, hf⟩ := ob hf
        refine r_callVr (As := [.int p2, .int x20]) ⟨hx, hb, hml, hown, hts⟩ (c_X5_part l D S17 b1 p2 x20 r23 e24) (cwV 2 hts (gwV gw_13_21 gw_13_22 gw_13_23 gw_1_5 gw_13_13) rfl rfl rfl (by decide +kernel) ⟨Nat.le_of_ble_eq_true rfl, Nat.le_of_ble_eq_true rfl⟩) hH hNE 8 ek22 (by decide) rfl rfl rfl hl.1 rfl (Nat.le_of_ble_eq_true rfl) dX3_init_70 ⟨(Nat.le_of_ble_eq_true rfl), (Nat.le_of_ble_eq_true rfl)⟩ (fun H locs hH => ?_)
        obtain ⟨S25, e26, hf⟩ := ol hf
        rw [e26] at hH
        refine W.widen (k := 2) (n := 182) (by omega) (by omega) ?_
        obtain ⟨ek27, hf⟩ := oc hf
        refine r_putQ hx hb 6 hts (fun w h => List.mem_cons_of_mem _ (mwsX30 w h)) tyX3 tyX3_ok nmX3 hown hH ek27 (by decide) rfl 2 (by decide) rfl (hts (.fieldLink RX3 26 "Housestyle$Item" "letters" "LHousestyle$Row;") (List.mem_cons_of_mem _ gw_3_7)) (fun _ h9 => h9) (Or.inr ⟨rfl, hin, rfl⟩) (ty := (.object "Housestyle$Row")) (by decide +kernel) rfl rfl dX3_init_73 (fun H locs hH => ?_)
        obtain ⟨S28, e29, hf⟩ := ol hf
        rw [e29] at hH
        have hr9 := Option.some.inj hf
        subst hr9
        exact e_v hx hb hr hlocks hH dX3_init_76
      obtain ⟨j31, e33, hf⟩ := ol hf
      have Jj31 : ∀ (u32 : Unit) (H : Heap) (locs : List Loc) (ls : Array Slot), HI D S S17 s H locs → lv_has ls 4 [(3, .int p3)] → j31 u32 = some r → GV p l e (headSpec wsX3_init rmX3_init).room s m ([.ref a0, .ref b1, .int p2, .int p3] : List Value).toArray below meth c D S r H locs 0 0 2 182 (F0 m 63 ls [.int p2, .ref b1, .ref a0]) := by
        intro u32 H locs ls hH hl hf
        rw [← e33] at hf
        refine lv_iload_n hx hb dX3_init_63 rfl (lv_at hl 0 rfl) ?_
        refine lv_iconst (v := 1) hx hb dX3_init_64 (by decide) ?_
        refine lv_isub hx hb dX3_init_65 ?_
        refine lv_goto (tgt := 70) hx hb dX3_init_66 (by decide) ?_
        exact Jj21 (p3 - 1) _ _ ls hH (lv_sub hl [] rfl) hf
      refine lv_if_ne (tgt := 63) hx hb dX3_init_53 (by decide) (fun c34 => ?_) (fun c34 => ?_)
      · have hf := iq hf c34
        exact Jj31 () _ _ ls hH (lv_sub hl [3] rfl) hf
      · have hf := ip hf c34
        refine lv_aload_n hx hb dX3_init_56 rfl (lv_at hl 0 rfl) ?_
        refine r_getI hx hb 6 hts (fun w h => List.mem_cons_of_mem _ (mwsX30 w h)) hown hH ek19 (by decide) rfl 1 (by decide) rfl (hts (.fieldLink RX3 19 "Housestyle$Item" "hasStar" "Z") (List.mem_cons_of_mem _ gw_3_8)) (fun _ h9 => h9) dX3_init_57 ?_
        refine lv_if_eq (tgt := 69) hx hb dX3_init_60 (by decide) (fun c35 => ?_) (fun c35 => ?_)
        · have hf := ip hf c35
          refine lv_iload_n hx hb dX3_init_69 rfl (lv_at hl 3 rfl) ?_
          exact Jj21 p3 _ _ ls hH (lv_sub hl [] rfl) hf
        · have hf := iq hf c35
          exact Jj31 () _ _ ls hH (lv_sub hl [3] rfl) hf
    refine lv_icmp_ne (tgt := 42) hx hb dX3_init_35 (by decide) (fun c37 => ?_) (fun c37 => ?_)
    · have hf := iq hf c37
      refine lv_iconst (v := 0) hx hb dX3_init_42 (by decide) ?_
      exact Jj14 0 _ _ ls hH (lv_sub hl [0, 1, 2, 3] rfl) hf
    · have hf := ip hf c37
      refine lv_iconst (v := 1) hx hb dX3_init_38 (by decide) ?_
      refine lv_goto (tgt := 43) hx hb dX3_init_39 (by decide) ?_
      exact Jj14 1 _ _ ls hH (lv_sub hl [0, 1, 2, 3] rfl) hf
  refine lv_icmp_ne (tgt := 21) hx hb dX3_init_14 (by decide) (fun c39 => ?_) (fun c39 => ?_)
  · have hf := iq hf c39
    refine lv_iconst (v := 0) hx hb dX3_init_21 (by decide) ?_
    exact Jj5 0 _ _ ls hH (lv_sub hl [0, 1, 2, 3] rfl) hf
  · have hf := ip hf c39
    refine lv_iconst (v := 1) hx hb dX3_init_17 (by decide) ?_
    refine lv_goto (tgt := 22) hx hb dX3_init_18 (by decide) ?_
    exact Jj5 1 _ _ ls hH (lv_sub hl [0, 1, 2, 3] rfl) hf
set_option maxRecDepth 100000 in
def f_X6_init_b21 (a0 : Nat) (b1 : Nat) (x10 : Int32) (x11 : Int32) (S12 : PS) : Option ((Int32 × Int32 × PS) ⊕ ((PS))) := if kK S12 b1 = 9 then ((f_X5_count S12 b1).bind fun r47 => if r47 < x11 then (some (.inr S12)) else ((f_X5_count S12 b1).bind fun r50 => lt (fun (x52 : Int32) (S53 : PS) => lt (x11 + 1) fun x55 => some (.inl (x52, x55, S53))) fun j54 => lt (fun (u75 : Unit) => if kK S12 a0 = 10 then ((kQ S12 a0 0).bind fun a60 => lt (kZ S12) fun a62 => lt (wN S12 7 0) fun S64 => (f_X3_init S64 a62 b1 x10 x11).bind fun r66 => if kK r66 a60 = 3 then ((f_Jx4a65c_add_9ea2d r66 a60 a62).bind fun r69 => lt r69.1 fun S71 => lt (x11 + 1) fun x73 => j54 x73 S71) else none) else none) fun j58 => if x11 = r50 then (j58 ()) else ((f_X5_get S12 b1 x11).bind fun r78 => if r78 = (45 : Int32) then (j58 ()) else (j54 x10 S12)))) else none
set_option maxRecDepth 100000 in
def f_X6_init (S : PS) (a0 : Nat) (b1 : Nat) (p2 : Int32) (p3 : Int32) (p4 : Int32) : Option (PS) := lt (kZ S) fun a1 => lt (wN S 3 0) fun S3 => (f_Jx4a65c_init_da8c8 S3 a1).bind fun r5 => if kK r5 a0 = 10 then (lt (wQ r5 a0 0 (some a1)) fun S8 => lt (fun (S13 : PS) => if kK S13 a0 = 10 then (if vp_nar .char p2 = p2 ∧ fits .char (.int p2) = true then (lt (wI S13 a0 1 p2) fun S18 => if kK S18 a0 = 10 then (if p3 = 0 ∨ p3 = 1 then (lt (wI S18 a0 2 p3) fun S22 => if kK S22 a0 = 10 then (lt (wI S22 a0 3 p4) fun S25 => lt (kZ S25) fun a27 => lt (wN S25 3 0) fun S29 => (f_Jx4a65c_init_da8c8 S29 a27).bind fun r31 => if kK r31 a0 = 10 then (lt (wQ r31 a0 4 (some a27)) fun S34 => lt (kZ S34) fun a36 => lt (wN S34 3 0) fun S38 => (f_Jx4a65c_init_da8c8 S38 a36).bind fun r40 => if kK r40 a0 = 10 then (lt (wQ r40 a0 5 (some a36)) fun S43 => some S43) else none) else none) else none) else none) else none) else none) else none) fun k14 => (iter (fun (v : Int32 × Int32 × PS) => f_X6_init_b21 a0 b1 v.1 v.2.1 v.2.2) 22 (0, 0, S8)).bind (fun (v : PS) => k14 v)) else none
abbrev rmX6_init : Room := { frames := 9, cells := 91, slots := 4519, locals := 258 }
set_option maxHeartbeats 4000000 in
set_option maxRecDepth 100000 in
theorem c_X6_init (l : Launch) (D : va_G × Nat) (S : PS) (a0 : Nat) (b1 : Nat) (p2 : Int32) (p3 : Int32) (p4 : Int32) (r : PS) (hf : f_X6_init S a0 b1 p2 p3 p4 = some r) : MV l D yX6_init wsX6_init rmX6_init S [.ref a0, .ref b1, .int p2, .int p3, .int p4] r 91 4519 := by
  unfold f_X6_init at hf
  refine Met.ofW (cc := cX6_init) (maxL := 7) (ret := none) (by decide) rfl ?_
  intro p e s m args below meth c s₁ B hml hv
  obtain ⟨rfl, hH0, hNE⟩ := hv
  have hx := B.exec
  have hb := B.bytes
  have hr := B.returns
  have hts := atoms_spec (ws := wsX6_init) B.pre
  have hown : s.vm.findClass RX6 = some m.cls := findClass_of_methodNamed B.named
  have hlocks := B.notSynchronized
  have hin : meth.name = "<init>" := (name_of_methodNamed B.named B.method).1
  have hH : HI D S S s s.heap [] := HI.start hH0
  have hl := lv_entry ([.ref a0, .ref b1, .int p2, .int p3, .int p4]) (n := 7) (Nat.le_of_ble_eq_true rfl)
  rw [lg_entry_eq]
  generalize (lg_sl ([.ref a0, .ref b1, .int p2, .int p3, .int p4]) ++ List.replicate (7 - (lg_sl ([.ref a0, .ref b1, .int p2, .int p3, .int p4])).length) Slot.unset).toArray = ls at hl ⊢
  have hl : lv_has ls 7 [(0, .ref a0), (1, .ref b1), (2, .int p2), (3, .int p3), (4, .int p4)] := hl
  refine lv_aload_n hx hb dX6_init_0 rfl (lv_at hl 0 rfl) ?_
  refine W.objInit hx hb hown (hts (.methodLink RX6 3 objectInit) (List.mem_cons_of_mem _ gw_16_15)) (hts (.instanceMethod objectInit) (List.mem_cons_of_mem _ gw_0_2)) (hts (.code objectInit ⟨#[0xb1]⟩ 1 none) (List.mem_cons_of_mem _ gw_0_3)) rfl (by rw [hml]; exact hl.1) rfl dX6_init_1 (Nat.le_of_ble_eq_true rfl) (Nat.le_of_ble_eq_true rfl) ?_
  refine W.eq (g2 := F0 m 4 ls []) rfl ?_
  refine lv_aload_n hx hb dX6_init_4 rfl (lv_at hl 0 rfl) ?_
  refine r_new hx hb 2 hts (fun w h => List.mem_cons_of_mem _ (mwsJx4a65c0 w h)) tyJx4a65c tyJx4a65c_ok hown (hts (.classLink RX6 9 RJx4a65c) (List.mem_cons_of_mem _ gw_16_16)) (hts (.instantiable RJx4a65c 3) (List.mem_cons_of_mem _ gw_0_23)) (hts (.initialized RJx4a65c) (List.mem_cons_of_mem _ gw_1_0)) hH (by decide) rfl (by decide +kernel) (Nat.le_of_ble_eq_true rfl) (Nat.le_of_ble_eq_true rfl) dX6_init_5 (fun H hH => ?_)
  obtain ⟨a1, e2, hf⟩ := ol hf
  rw [e2]
  obtain ⟨S3, e4, hf⟩ := ol hf
  rw [e4] at hH
  refine W.widen (k := 1) (n := 3) (by omega) (by omega) ?_
  refine lv_dup hx hb dX6_init_8 rfl ?_
  obtain ⟨r5, e6, hf⟩ := ob hf
  refine r_callIv (As := []) ⟨hx, hb, hml, hown, hts⟩ (c_Jx4a65c_init_da8c8 l D S3 a1 r5 e6) (cwI 0 hts (gwI (gwC gw_0_9)) rfl rfl rfl (hts (.initialized RJx4a65c) (List.mem_cons_of_mem _ gw_1_0)) (hts (.methodLink RX6 11 yJx4a65c_init_da8c8) (List.mem_cons_of_mem _ gw_16_20)) (hts (.instanceMethod yJx4a65c_init_da8c8) (List.mem_cons_of_mem _ gw_1_8)) rfl (by decide +kernel) ⟨Nat.le_of_ble_eq_true rfl, Nat.le_of_ble_eq_true rfl⟩) hH hNE rfl hl.1 rfl (Nat.le_of_ble_eq_true rfl) dX6_init_9 ⟨(Nat.le_of_ble_eq_true rfl), (Nat.le_of_ble_eq_true rfl)⟩ (fun H locs hH => ?_)
  obtain ⟨ek7, hf⟩ := oc hf
  refine r_putQ hx hb 9 hts (fun w h => List.mem_cons_of_mem _ (mwsX60 w h)) tyX6 tyX6_ok nmX6 hown hH ek7 (by decide) rfl 0 (by decide) rfl (hts (.fieldLink RX6 12 "Housestyle$Rule" "items" "Ljava/util/ArrayList;") (List.mem_cons_of_mem _ gw_4_21)) (fun _ h9 => h9) (Or.inr ⟨rfl, hin, rfl⟩) (ty := (.object "java/util/ArrayList")) (by decide +kernel) rfl rfl dX6_init_12 (fun H locs hH => ?_)
  obtain ⟨S8, e9, hf⟩ := ol hf
  rw [e9] at hH
  refine lv_iconst (v := 0) hx hb dX6_init_15 (by decide) ?_
  refine lv_istore (lv' := [(5, .int 0), (0, .ref a0), (1, .ref b1), (2, .int p2), (3, .int p3), (4, .int p4)]) hx hb dX6_init_16 hl (by decide) rfl (fun ls hl => ?_)
  refine lv_iconst (v := 0) hx hb dX6_init_18 (by decide) ?_
  refine lv_istore (lv' := [(6, .int 0), (5, .int 0), (0, .ref a0), (1, .ref b1), (2, .int p2), (3, .int p3), (4, .int p4)]) hx hb dX6_init_19 hl (by decide) rfl (fun ls hl => ?_)
  obtain ⟨k14, e15, hf⟩ := ol hf
  have Xk14 : ∀ (S13 : PS) (H : Heap) (locs : List Loc) (ls : Array Slot), HI D S S13 s H locs → lv_has ls 7 [(0, .ref a0), (2, .int p2), (3, .int p3), (4, .int p4)] → k14 S13 = some r → GV p l e (headSpec wsX6_init rmX6_init).room s m ([.ref a0, .ref b1, .int p2, .int p3, .int p4] : List Value).toArray below meth c D S r H locs 89 4513 91 4519 (F0 m 82 ls []) := by
    intro S13 H locs ls hH hl hf
    rw [← e15] at hf
    refine lv_aload_n hx hb dX6_init_82 rfl (lv_at hl 0 rfl) ?_
    refine lv_iload_n hx hb dX6_init_83 rfl (lv_at hl 1 rfl) ?_
    obtain ⟨ek16, hf⟩ := oc hf
    obtain ⟨en17, hf⟩ := oc hf
    refine r_putI hx hb 9 hts (fun w h => List.mem_cons_of_mem _ (mwsX60 w h)) tyX6 tyX6_ok nmX6 hown hH ek16 (by decide) rfl 1 (by decide) rfl (hts (.fieldLink RX6 37 "Housestyle$Rule" "condition" "C") (List.mem_cons_of_mem _ gw_4_20)) (fun _ h9 => h9) (Or.inr ⟨rfl, hin, rfl⟩) (ty := .char) (by decide +kernel) (nar_C9 en17) (fit_C9 en17) dX6_init_84 (fun H locs hH => ?_)
    obtain ⟨S18, e19, hf⟩ := ol hf
    rw [e19] at hH
    refine lv_aload_n hx hb dX6_init_87 rfl (lv_at hl 0 rfl) ?_
    refine lv_iload_n hx hb dX6_init_88 rfl (lv_at hl 2 rfl) ?_
    obtain ⟨ek20, hf⟩ := oc hf
    obtain ⟨en21, hf⟩ := oc hf
    refine r_putI hx hb 9 hts (fun w h => List.mem_cons_of_mem _ (mwsX60 w h)) tyX6 tyX6_ok nmX6 hown hH ek20 (by decide) rfl 2 (by decide) rfl (hts (.fieldLink RX6 41 "Housestyle$Rule" "inQuotes" "Z") (List.mem_cons_of_mem _ gw_4_19)) (fun _ h9 => h9) (Or.inr ⟨rfl, hin, rfl⟩) (ty := .boolean) (by decide +kernel) (nar_Z9 en21) (fit_Z9 en21) dX6_init_89 (fun H locs hH => ?_)
    obtain ⟨S22, e23, hf⟩ := ol hf
    rw [e23] at hH
    refine lv_aload_n hx hb dX6_init_92 rfl (lv_at hl 0 rfl) ?_
    refine lv_iload hx hb dX6_init_93 (lv_at hl 3 rfl) ?_
    obtain ⟨ek24, hf⟩ := oc hf
    refine r_putI hx hb 9 hts (fun w h => List.mem_cons_of_mem _ (mwsX60 w h)) tyX6 tyX6_ok nmX6 hown hH ek24 (by decide) rfl 3 (by decide) rfl (hts (.fieldLink RX6 45 "Housestyle$Rule" "ownRank" "I") (List.mem_cons_of_mem _ gw_16_19)) (fun _ h9 => h9) (Or.inr ⟨rfl, hin, rfl⟩) (ty := .int) (by decide +kernel) rfl rfl dX6_init_95 (fun H locs hH => ?_)
    obtain ⟨S25, e26, hf⟩ := ol hf
    rw [e26] at hH
    refine lv_aload_n hx hb dX6_init_98 rfl (lv_at hl 0 rfl) ?_
    refine r_new hx hb 2 hts (fun w h => List.mem_cons_of_mem _ (mwsJx4a65c0 w h)) tyJx4a65c tyJx4a65c_ok hown (hts (.classLink RX6 9 RJx4a65c) (List.mem_cons_of_mem _ gw_16_16)) (hts (.instantiable RJx4a65c 3) (List.mem_cons_of_mem _ gw_0_23)) (hts (.initialized RJx4a65c) (List.mem_cons_of_mem _ gw_1_0)) hH (by decide) rfl (by decide +kernel) (Nat.le_of_ble_eq_true rfl) (Nat.le_of_ble_eq_true rfl) dX6_init_99 (fun H hH => ?_)
    obtain ⟨a27, e28, hf⟩ := ol hf
    rw [e28]
    obtain ⟨S29, e30, hf⟩ := ol hf
    rw [e30] at hH
    refine W.widen (k := 90) (n := 4516) (by omega) (by omega) ?_
    refine lv_dup hx hb dX6_init_102 rfl ?_
    obtain ⟨r31, e32, hf⟩ := ob hf
    refine r_callIv (As := []) ⟨hx, hb, hml, hown, hts⟩ (c_Jx4a65c_init_da8c8 l D S29 a27 r31 e32) (cwI 0 hts (gwI (gwC gw_0_9)) rfl rfl rfl (hts (.initialized RJx4a65c) (List.mem_cons_of_mem _ gw_1_0)) (hts (.methodLink RX6 11 yJx4a65c_init_da8c8) (List.mem_cons_of_mem _ gw_16_20)) (hts (.instanceMethod yJx4a65c_init_da8c8) (List.mem_cons_of_mem _ gw_1_8)) rfl (by decide +kernel) ⟨Nat.le_of_ble_eq_true rfl, Nat.le_of_ble_eq_true rfl⟩) hH hNE rfl hl.1 rfl (Nat.le_of_ble_eq_true rfl) dX6_init_103 ⟨(Nat.le_of_ble_eq_true rfl), (Nat.le_of_ble_eq_true rfl)⟩ (fun H locs hH => ?_)
    obtain ⟨ek33, hf⟩ := oc hf
    refine r_putQ hx hb 9 hts (fun w h => List.mem_cons_of_mem _ (mwsX60 w h)) tyX6 tyX6_ok nmX6 hown hH ek33 (by decide) rfl 4 (by decide) rfl (hts (.fieldLink RX6 49 "Housestyle$Rule" "exceptions" "Ljava/util/ArrayList;") (List.mem_cons_of_mem _ gw_4_4)) (fun _ h9 => h9) (Or.inr ⟨rfl, hin, rfl⟩) (ty := (.object "java/util/ArrayList")) (by decide +kernel) rfl rfl dX6_init_106 (fun H locs hH => ?_)
    obtain ⟨S34, e35, hf⟩ := ol hf
    rw [e35] at hH
    refine lv_aload_n hx hb dX6_init_109 rfl (lv_at hl 0 rfl) ?_
    refine r_new hx hb 2 hts (fun w h => List.mem_cons_of_mem _ (mwsJx4a65c0 w h)) tyJx4a65c tyJx4a65c_ok hown (hts (.classLink RX6 9 RJx4a65c) (List.mem_cons_of_mem _ gw_16_16)) (hts (.instantiable RJx4a65c 3) (List.mem_cons_of_mem _ gw_0_23)) (hts (.initialized RJx4a65c) (List.mem_cons_of_mem _ gw_1_0)) hH (by decide) rfl (by decide +kernel) (Nat.le_of_ble_eq_true rfl) (Nat.le_of_ble_eq_true rfl) dX6_init_110 (fun H hH => ?_)
    obtain ⟨a36, e37, hf⟩ := ol hf
    rw [e37]
    obtain ⟨S38, e39, hf⟩ := ol hf
    rw [e39] at hH
    refine W.widen (k := 91) (n := 4519) (by omega) (by omega) ?_
    refine lv_dup hx hb dX6_init_113 rfl ?_
    obtain ⟨r40, e41, hf⟩ := ob hf
    refine r_callIv (As := []) ⟨hx, hb, hml, hown, hts⟩ (c_Jx4a65c_init_da8c8 l D S38 a36 r40 e41) (cwI 0 hts (gwI (gwC gw_0_9)) rfl rfl rfl (hts (.initialized RJx4a65c) (List.mem_cons_of_mem _ gw_1_0)) (hts (.methodLink RX6 11 yJx4a65c_init_da8c8) (List.mem_cons_of_mem _ gw_16_20)) (hts (.instanceMethod yJx4a65c_init_da8c8) (List.mem_cons_of_mem _ gw_1_8)) rfl (by decide +kernel) ⟨Nat.le_of_ble_eq_true rfl, Nat.le_of_ble_eq_true rfl⟩) hH hNE rfl hl.1 rfl (Nat.le_of_ble_eq_true rfl) dX6_init_114 ⟨(Nat.le_of_ble_eq_true rfl), (Nat.le_of_ble_eq_true rfl)⟩ (fun H locs hH => ?_)
    obtain ⟨ek42, hf⟩ := oc hf
    refine r_putQ hx hb 9 hts (fun w h => List.mem_cons_of_mem _ (mwsX60 w h)) tyX6 tyX6_ok nmX6 hown hH ek42 (by decide) rfl 5 (by decide) rfl (hts (.fieldLink RX6 52 "Housestyle$Rule" "suggestions" "Ljava/util/ArrayList;") (List.mem_cons_of_mem _ gw_7_22)) (fun _ h9 => h9) (Or.inr ⟨rfl, hin, rfl⟩) (ty := (.object "java/util/ArrayList")) (by decide +kernel) rfl rfl dX6_init_117 (fun H locs hH => ?_)
    obtain ⟨S43, e44, hf⟩ := ol hf
    rw [e44] at hH
    have hr9 := Option.some.inj hf
    subst hr9
    exact e_v hx hb hr hlocks hH dX6_init_120
  obtain ⟨o45, eo45, hq45f⟩ := ob hf
  have Lo45 : ∀ (n : Nat) (x10 : Int32) (x11 : Int32) (S12 : PS), n ≤ 22 → iter (fun (v : Int32 × Int32 × PS) => f_X6_init_b21 a0 b1 v.1 v.2.1 v.2.2) n (x10, x11, S12) = some o45 → ∀ (H : Heap) (locs : List Loc) (ls : Array Slot), HI D S S12 s H locs → lv_has ls 7 [(0, .ref a0), (1, .ref b1), (2, .int p2), (3, .int p3), (4, .int p4), (5, .int x10), (6, .int x11)] → GV p l e (headSpec wsX6_init rmX6_init).room s m ([.ref a0, .ref b1, .int p2, .int p3, .int p4] : List Value).toArray below meth c D S r H locs (1 + (22 - n) * 4) (3 + (22 - n) * 205) 91 4519 (F0 m 21 ls []) := by
    intro n
    induction n with
    | zero => intro x10 x11 S12 hnF hi; cases hi
    | succ n ih45 =>
      intro x10 x11 S12 hnF hi H locs ls hH hl
      obtain ⟨q45_, hf, hq45⟩ := iter_s hi
      have hf : f_X6_init_b21 a0 b1 x10 x11 S12 = some q45_ := hf
      unfold f_X6_init_b21 at hf
      refine lv_iload hx hb dX6_init_21 (lv_at hl 6 rfl) ?_
      refine lv_aload_n hx hb dX6_init_23 rfl (lv_at hl 1 rfl) ?_
      obtain ⟨ek46, hf⟩ := oc hf
      obtain ⟨r47, e48, hf⟩ := ob hf
      refine r_callVi (As := []) ⟨hx, hb, hml, hown, hts⟩ (c_X5_count l D S12 b1 r47 e48) (cwV 0 hts (gwV gw_7_17 gw_1_15 gw_1_16 gw_1_5 gw_1_11) rfl rfl rfl (by decide +kernel) ⟨Nat.le_of_ble_eq_true rfl, Nat.le_of_ble_eq_true rfl⟩) hH hNE 8 ek46 (by decide) rfl rfl rfl hl.1 rfl (Nat.le_of_ble_eq_true rfl) dX6_init_24 ⟨(by show ((1 + (22 - (n + 1)) * 4) + 0) + 0 ≤ 91; omega), (by show ((3 + (22 - (n + 1)) * 205) + 0) + 0 ≤ 4519; omega)⟩ (fun H locs hH => ?_)
      refine lv_icmp_gt (tgt := 82) hx hb dX6_init_27 (by decide) (fun c49 => ?_) (fun c49 => ?_)
      · have hf := ip hf c49
        refine W.widen (k := 89) (n := 4513) (by omega) (by omega) ?_
        cases hf
        have hf9 := itR (K := (fun (v : PS) => k14 v)) hq45 hq45f
        exact Xk14 S12 _ _ ls hH (lv_sub hl [0, 2, 3, 4] rfl) hf9
      · have hf := iq hf c49
        refine lv_iload hx hb dX6_init_30 (lv_at hl 6 rfl) ?_
        refine lv_aload_n hx hb dX6_init_32 rfl (lv_at hl 1 rfl) ?_
        obtain ⟨r50, e51, hf⟩ := ob hf
        refine r_callVi (As := []) ⟨hx, hb, hml, hown, hts⟩ (c_X5_count l D S12 b1 r50 e51) (cwV 0 hts (gwV gw_7_17 gw_1_15 gw_1_16 gw_1_5 gw_1_11) rfl rfl rfl (by decide +kernel) ⟨Nat.le_of_ble_eq_true rfl, Nat.le_of_ble_eq_true rfl⟩) hH hNE 8 ek46 (by decide) rfl rfl rfl hl.1 rfl (Nat.le_of_ble_eq_true rfl) dX6_init_33 ⟨(by show ((1 + (22 - (n + 1)) * 4) + 0) + 0 ≤ 91; omega), (by show ((3 + (22 - (n + 1)) * 205) + 0) + 0 ≤ 4519; omega)⟩ (fun H locs hH => ?_)
        obtain ⟨j54, e57, hf⟩ := ol hf
        have Jj54 : ∀ (x52 : Int32) (S53 : PS) (H : Heap) (locs : List Loc) (ls : Array Slot), HI D S S53 s H locs → lv_has ls 7 [(0, .ref a0), (1, .ref b1), (2, .int p2), (3, .int p3), (4, .int p4), (5, .int x52), (6, .int x11)] → j54 x52 S53 = some q45_ → GV p l e (headSpec wsX6_init rmX6_init).room s m ([.ref a0, .ref b1, .int p2, .int p3, .int p4] : List Value).toArray below meth c D S r H locs ((1 + (22 - (n + 1)) * 4) + 4) ((3 + (22 - (n + 1)) * 205) + 205) 91 4519 (F0 m 76 ls []) := by
          intro x52 S53 H locs ls hH hl hf
          rw [← e57] at hf
          obtain ⟨x55, e56, hf⟩ := ol hf
          refine lv_iinc (v := x55) (lv' := [(6, .int x55), (0, .ref a0), (1, .ref b1), (2, .int p2), (3, .int p3), (4, .int p4), (5, .int x52)]) hx hb dX6_init_76 hl (k := 6) rfl (by rw [← e56]; rfl) (by decide) rfl (fun ls hl => ?_)
          refine lv_goto (tgt := 21) hx hb dX6_init_79 (by decide) ?_
          cases hf
          refine W.widen (k := (1 + (22 - n) * 4)) (n := (3 + (22 - n) * 205)) (by omega) (by omega) ?_
          exact ih45 x52 x55 S53 (Nat.le_of_succ_le hnF) hq45 _ _ ls hH (lv_sub hl [1, 2, 3, 4, 5, 6, 0] rfl)
        obtain ⟨j58, e76, hf⟩ := ol hf
        have Jj58 : ∀ (u75 : Unit) (H : Heap) (locs : List Loc) (ls : Array Slot), HI D S S12 s H locs → lv_has ls 7 [(0, .ref a0), (1, .ref b1), (2, .int p2), (3, .int p3), (4, .int p4), (5, .int x10), (6, .int x11)] → j58 u75 = some q45_ → GV p l e (headSpec wsX6_init rmX6_init).room s m ([.ref a0, .ref b1, .int p2, .int p3, .int p4] : List Value).toArray below meth c D S r H locs ((1 + (22 - (n + 1)) * 4) + 0) ((3 + (22 - (n + 1)) * 205) + 0) 91 4519 (F0 m 50 ls []) := by
          intro u75 H locs ls hH hl hf
          rw [← e76] at hf
          refine lv_aload_n hx hb dX6_init_50 rfl (lv_at hl 0 rfl) ?_
          obtain ⟨ek59, hf⟩ := oc hf
          obtain ⟨a60, e61, hf⟩ := ob hf
          refine r_getQ hx hb 9 hts (fun w h => List.mem_cons_of_mem _ (mwsX60 w h)) hown hH ek59 (by decide) rfl 0 (by decide) rfl (hts (.fieldLink RX6 12 "Housestyle$Rule" "items" "Ljava/util/ArrayList;") (List.mem_cons_of_mem _ gw_4_21)) (fun _ h9 => h9) dX6_init_51 e61 ?_
          refine r_new hx hb 6 hts (fun w h => List.mem_cons_of_mem _ (mwsX30 w h)) tyX3 tyX3_ok hown (hts (.classLink RX6 28 RX3) (List.mem_cons_of_mem _ gw_16_17)) (hts (.instantiable RX3 3) (List.mem_cons_of_mem _ gw_16_18)) (hts (.initialized RX3) (List.mem_cons_of_mem _ gw_5_11)) hH (by decide) rfl (by decide +kernel) (by show ((1 + (22 - (n + 1)) * 4) + 0) + 1 ≤ 91; omega) (by show ((3 + (22 - (n + 1)) * 205) + 0) + 3 ≤ 4519; omega) dX6_init_54 (fun H hH => ?_)
          obtain ⟨a62, e63, hf⟩ := ol hf
          rw [e63]
          obtain ⟨S64, e65, hf⟩ := ol hf
          rw [e65] at hH
          refine W.widen (k := ((1 + (22 - (n + 1)) * 4) + 1)) (n := ((3 + (22 - (n + 1)) * 205) + 3)) (by omega) (by omega) ?_
          refine lv_dup hx hb dX6_init_57 rfl ?_
          refine lv_aload_n hx hb dX6_init_58 rfl (lv_at hl 1 rfl) ?_
          refine lv_iload hx hb dX6_init_59 (lv_at hl 5 rfl) ?_
          refine lv_iload hx hb dX6_init_61 (lv_at hl 6 rfl) ?_
          obtain ⟨r66, e67, hf⟩ := ob hf
          refine r_callIv (As := [.ref b1, .int x10, .int x11]) ⟨hx, hb, hml, hown, hts⟩ (c_X3_init l D S64 a62 b1 x10 x11 r66 e67) (cwI 3 hts (gwI (gwC gw_13_18)) rfl rfl rfl (hts (.initialized RX3) (List.mem_cons_of_mem _ gw_5_11)) (hts (.methodLink RX6 30 yX3_init) (List.mem_cons_of_mem _ gw_16_21)) (hts (.instanceMethod yX3_init) (List.mem_cons_of_mem _ gw_16_22)) rfl (by decide +kernel) ⟨Nat.le_of_ble_eq_true rfl, Nat.le_of_ble_eq_true rfl⟩) hH hNE rfl hl.1 rfl (Nat.le_of_ble_eq_true rfl) dX6_init_63 ⟨(by show ((1 + (22 - (n + 1)) * 4) + 1) + 2 ≤ 91; omega), (by show ((3 + (22 - (n + 1)) * 205) + 3) + 182 ≤ 4519; omega)⟩ (fun H locs hH => ?_)
          refine W.widen (k := ((1 + (22 - (n + 1)) * 4) + 3)) (n := ((3 + (22 - (n + 1)) * 205) + 185)) (by omega) (by omega) ?_
          obtain ⟨ek68, hf⟩ := oc hf
          obtain ⟨r69, e70, hf⟩ := ob hf
          refine r_callVi (As := [.ref a62]) ⟨hx, hb, hml, hown, hts⟩ (c_Jx4a65c_add_9ea2d l D r66 a60 a62 r69 e70) (cwV 1 hts (gwV gw_16_23 gw_17_0 gw_17_1 gw_1_0 gw_16_8) rfl rfl rfl (by decide +kernel) ⟨Nat.le_of_ble_eq_true rfl, Nat.le_of_ble_eq_true rfl⟩) hH hNE 2 ek68 (by decide) rfl rfl rfl hl.1 rfl (Nat.le_of_ble_eq_true rfl) dX6_init_66 ⟨(by show ((1 + (22 - (n + 1)) * 4) + 3) + 1 ≤ 91; omega), (by show ((3 + (22 - (n + 1)) * 205) + 185) + 20 ≤ 4519; omega)⟩ (fun H locs hH => ?_)
          obtain ⟨S71, e72, hf⟩ := ol hf
          rw [e72] at hH
          refine W.widen (k := ((1 + (22 - (n + 1)) * 4) + 4)) (n := ((3 + (22 - (n + 1)) * 205) + 205)) (by omega) (by omega) ?_
          refine lv_pop hx hb dX6_init_69 rfl ?_
          refine lv_iload hx hb dX6_init_70 (lv_at hl 6 rfl) ?_
          refine lv_iconst (v := 1) hx hb dX6_init_72 (by decide) ?_
          refine lv_iadd hx hb dX6_init_73 ?_
          obtain ⟨x73, e74, hf⟩ := ol hf
          refine lv_topE e74 ?_
          refine lv_istore (lv' := [(5, .int x73), (0, .ref a0), (1, .ref b1), (2, .int p2), (3, .int p3), (4, .int p4), (6, .int x11)]) hx hb dX6_init_74 hl (by decide) rfl (fun ls hl => ?_)
          exact Jj54 x73 S71 _ _ ls hH (lv_sub hl [1, 2, 3, 4, 5, 0, 6] rfl) hf
        refine lv_icmp_eq (tgt := 50) hx hb dX6_init_36 (by decide) (fun c77 => ?_) (fun c77 => ?_)
        · have hf := ip hf c77
          exact Jj58 () _ _ ls hH (lv_sub hl [0, 1, 2, 3, 4, 5, 6] rfl) hf
        · have hf := iq hf c77
          refine lv_aload_n hx hb dX6_init_39 rfl (lv_at hl 1 rfl) ?_
          refine lv_iload hx hb dX6_init_40 (lv_at hl 6 rfl) ?_
          obtain ⟨r78, e79, hf⟩ := ob hf
          refine r_callVi (As := [.int x11]) ⟨hx, hb, hml, hown, hts⟩ (c_X5_get l D S12 b1 x11 r78 e79) (cwV 1 hts (gwV gw_7_23 gw_2_13 gw_2_14 gw_1_5 gw_2_9) rfl rfl rfl (by decide +kernel) ⟨Nat.le_of_ble_eq_true rfl, Nat.le_of_ble_eq_true rfl⟩) hH hNE 8 ek46 (by decide) rfl rfl rfl hl.1 rfl (Nat.le_of_ble_eq_true rfl) dX6_init_42 ⟨(by show ((1 + (22 - (n + 1)) * 4) + 0) + 0 ≤ 91; omega), (by show ((3 + (22 - (n + 1)) * 205) + 0) + 0 ≤ 4519; omega)⟩ (fun H locs hH => ?_)
          refine lv_bipush (v := 45) hx hb dX6_init_45 (by decide) ?_
          refine lv_icmp_ne (tgt := 76) hx hb dX6_init_47 (by decide) (fun c80 => ?_) (fun c80 => ?_)
          · have hf := iq hf c80
            refine W.widen (k := ((1 + (22 - (n + 1)) * 4) + 4)) (n := ((3 + (22 - (n + 1)) * 205) + 205)) (by omega) (by omega) ?_
            exact Jj54 x10 S12 _ _ ls hH (lv_sub hl [0, 1, 2, 3, 4, 5, 6] rfl) hf
          · have hf := ip hf c80
            exact Jj58 () _ _ ls hH (lv_sub hl [0, 1, 2, 3, 4, 5, 6] rfl) hf
  refine W.widen (k := (1 + (22 - 22) * 4)) (n := (3 + (22 - 22) * 205)) (by omega) (by omega) ?_
  exact Lo45 22 0 0 S8 (Nat.le_refl _) eo45 _ _ ls hH (lv_sub hl [2, 3, 4, 5, 6, 1, 0] rfl)
set_option maxRecDepth 100000 in
def f_X7_markAll_b2 (a0 : Nat) (p1 : Int32) (x1 : Int32) (S2 : PS) : Option ((Int32 × PS) ⊕ ((PS))) := if kK S2 a0 = 11 then ((kQ S2 a0 2).bind fun a8 => if kK S2 a8 = 9 then ((f_X5_count S2 a8).bind fun r11 => if r11 ≤ x1 then (some (.inr S2)) else ((f_X5_get S2 a8 x1).bind fun r14 => (f_X5_set S2 a8 x1 (r14 ||| p1)).bind fun r16 => lt (x1 + 1) fun x18 => some (.inl (x18, r16)))) else none) else none
set_option maxRecDepth 100000 in
def f_X7_markAll (S : PS) (a0 : Nat) (p1 : Int32) : Option (PS) := lt (fun (S3 : PS) => some S3) fun k4 => (iter (fun (v : Int32 × PS) => f_X7_markAll_b2 a0 p1 v.1 v.2) kF (0, S)).bind (fun (v : PS) => k4 v)
abbrev rmX7_markAll : Room := { frames := 1, cells := 0, slots := 0, locals := 22 }
set_option maxHeartbeats 4000000 in
set_option maxRecDepth 100000 in
theorem c_X7_markAll (l : Launch) (D : va_G × Nat) (S : PS) (a0 : Nat) (p1 : Int32) (r : PS) (hf : f_X7_markAll S a0 p1 = some r) : MV l D yX7_markAll wsX7_markAll rmX7_markAll S [.ref a0, .int p1] r 0 0 := by
  unfold f_X7_markAll at hf
  refine Met.ofW (cc := cX7_markAll) (maxL := 3) (ret := none) (by decide) rfl ?_
  intro p e s m args below meth c s₁ B hml hv
  obtain ⟨rfl, hH0, hNE⟩ := hv
  have hx := B.exec
  have hb := B.bytes
  have hr := B.returns
  have hts := atoms_spec (ws := wsX7_markAll) B.pre
  have hown : s.vm.findClass RX7 = some m.cls := findClass_of_methodNamed B.named
  have hlocks := B.notSynchronized
  have hH : HI D S S s s.heap [] := HI.start hH0
  have hl := lv_entry ([.ref a0, .int p1]) (n := 3) (Nat.le_of_ble_eq_true rfl)
  rw [lg_entry_eq]
  generalize (lg_sl ([.ref a0, .int p1]) ++ List.replicate (3 - (lg_sl ([.ref a0, .int p1])).length) Slot.unset).toArray = ls at hl ⊢
  have hl : lv_has ls 3 [(0, .ref a0), (1, .int p1)] := hl
  refine lv_iconst (v := 0) hx hb dX7_markAll_0 (by decide) ?_
  refine lv_istore_n (lv' := [(2, .int 0), (0, .ref a0), (1, .int p1)]) hx hb dX7_markAll_1 rfl hl (by decide) rfl (fun ls hl => ?_)
  obtain ⟨k4, e5, hf⟩ := ol hf
  have Xk4 : ∀ (S3 : PS) (H : Heap) (locs : List Loc) (ls : Array Slot), HI D S S3 s H locs → lv_has ls 3 [] → k4 S3 = some r → GV p l e (headSpec wsX7_markAll rmX7_markAll).room s m ([.ref a0, .int p1] : List Value).toArray below meth c D S r H locs 0 0 0 0 (F0 m 37 ls []) := by
    intro S3 H locs ls hH hl hf
    rw [← e5] at hf
    have hr9 := Option.some.inj hf
    subst hr9
    exact e_v hx hb hr hlocks hH dX7_markAll_37
  obtain ⟨o6, eo6, hq6f⟩ := ob hf
  have Lo6 : ∀ (n : Nat) (x1 : Int32) (S2 : PS), iter (fun (v : Int32 × PS) => f_X7_markAll_b2 a0 p1 v.1 v.2) n (x1, S2) = some o6 → ∀ (H : Heap) (locs : List Loc) (ls : Array Slot), HI D S S2 s H locs → lv_has ls 3 [(0, .ref a0), (1, .int p1), (2, .int x1)] → GV p l e (headSpec wsX7_markAll rmX7_markAll).room s m ([.ref a0, .int p1] : List Value).toArray below meth c D S r H locs 0 0 0 0 (F0 m 2 ls []) := by
    intro n
    induction n with
    | zero => intro x1 S2 hi; cases hi
    | succ n ih6 =>
      intro x1 S2 hi H locs ls hH hl
      obtain ⟨q6_, hf, hq6⟩ := iter_s hi
      have hf : f_X7_markAll_b2 a0 p1 x1 S2 = some q6_ := hf
      unfold f_X7_markAll_b2 at hf
      refine lv_iload_n hx hb dX7_markAll_2 rfl (lv_at hl 2 rfl) ?_
      refine lv_aload_n hx hb dX7_markAll_3 rfl (lv_at hl 0 rfl) ?_
      obtain ⟨ek7, hf⟩ := oc hf
      obtain ⟨a8, e9, hf⟩ := ob hf
      refine r_getQ hx hb 10 hts (fun w h => List.mem_cons_of_mem _ (mwsX70 w h)) hown hH ek7 (by decide) rfl 2 (by decide) rfl (hts (.fieldLink RX7 23 "Housestyle$Text" "changed" "LHousestyle$Row;") (List.mem_cons_of_mem _ gw_17_13)) (fun _ h9 => h9) dX7_markAll_4 e9 ?_
      obtain ⟨ek10, hf⟩ := oc hf
      obtain ⟨r11, e12, hf⟩ := ob hf
      refine r_callVi (As := []) ⟨hx, hb, hml, hown, hts⟩ (c_X5_count l D S2 a8 r11 e12) (cwV 0 hts (gwV gw_17_17 gw_1_15 gw_1_16 gw_1_5 gw_1_11) rfl rfl rfl (by decide +kernel) ⟨Nat.le_of_ble_eq_true rfl, Nat.le_of_ble_eq_true rfl⟩) hH hNE 8 ek10 (by decide) rfl rfl rfl hl.1 rfl (Nat.le_of_ble_eq_true rfl) dX7_markAll_7 ⟨(Nat.le_of_ble_eq_true rfl), (Nat.le_of_ble_eq_true rfl)⟩ (fun H locs hH => ?_)
      refine lv_icmp_ge (tgt := 37) hx hb dX7_markAll_10 (by decide) (fun c13 => ?_) (fun c13 => ?_)
      · have hf := ip hf c13
        cases hf
        have hf9 := itR (K := (fun (v : PS) => k4 v)) hq6 hq6f
        exact Xk4 S2 _ _ ls hH (lv_sub hl [] rfl) hf9
      · have hf := iq hf c13
        refine lv_aload_n hx hb dX7_markAll_13 rfl (lv_at hl 0 rfl) ?_
        refine r_getQ hx hb 10 hts (fun w h => List.mem_cons_of_mem _ (mwsX70 w h)) hown hH ek7 (by decide) rfl 2 (by decide) rfl (hts (.fieldLink RX7 23 "Housestyle$Text" "changed" "LHousestyle$Row;") (List.mem_cons_of_mem _ gw_17_13)) (fun _ h9 => h9) dX7_markAll_14 e9 ?_
        refine lv_iload_n hx hb dX7_markAll_17 rfl (lv_at hl 2 rfl) ?_
        refine lv_aload_n hx hb dX7_markAll_18 rfl (lv_at hl 0 rfl) ?_
        refine r_getQ hx hb 10 hts (fun w h => List.mem_cons_of_mem _ (mwsX70 w h)) hown hH ek7 (by decide) rfl 2 (by decide) rfl (hts (.fieldLink RX7 23 "Housestyle$Text" "changed" "LHousestyle$Row;") (List.mem_cons_of_mem _ gw_17_13)) (fun _ h9 => h9) dX7_markAll_19 e9 ?_
        refine lv_iload_n hx hb dX7_markAll_22 rfl (lv_at hl 2 rfl) ?_
        obtain ⟨r14, e15, hf⟩ := ob hf
        refine r_callVi (As := [.int x1]) ⟨hx, hb, hml, hown, hts⟩ (c_X5_get l D S2 a8 x1 r14 e15) (cwV 1 hts (gwV gw_17_18 gw_2_13 gw_2_14 gw_1_5 gw_2_9) rfl rfl rfl (by decide +kernel) ⟨Nat.le_of_ble_eq_true rfl, Nat.le_of_ble_eq_true rfl⟩) hH hNE 8 ek10 (by decide) rfl rfl rfl hl.1 rfl (Nat.le_of_ble_eq_true rfl) dX7_markAll_23 ⟨(Nat.le_of_ble_eq_true rfl), (Nat.le_of_ble_eq_true rfl)⟩ (fun H locs hH => ?_)
        refine lv_iload_n hx hb dX7_markAll_26 rfl (lv_at hl 1 rfl) ?_
        refine lv_ior hx hb dX7_markAll_27 ?_
        obtain ⟨r16, e17, hf⟩ := ob hf
        refine r_callVv (As := [.int x1, .int (r14 ||| p1)]) ⟨hx, hb, hml, hown, hts⟩ (c_X5_set l D S2 a8 x1 (r14 ||| p1) r16 e17) (cwV 2 hts (gwV gw_18_3 gw_5_20 gw_5_21 gw_1_5 gw_5_16) rfl rfl rfl (by decide +kernel) ⟨Nat.le_of_ble_eq_true rfl, Nat.le_of_ble_eq_true rfl⟩) hH hNE 8 ek10 (by decide) rfl rfl rfl hl.1 rfl (Nat.le_of_ble_eq_true rfl) dX7_markAll_28 ⟨(Nat.le_of_ble_eq_true rfl), (Nat.le_of_ble_eq_true rfl)⟩ (fun H locs hH => ?_)
        obtain ⟨x18, e19, hf⟩ := ol hf
        refine lv_iinc (v := x18) (lv' := [(2, .int x18), (0, .ref a0), (1, .int p1)]) hx hb dX7_markAll_31 hl (k := 2) rfl (by rw [← e19]; rfl) (by decide) rfl (fun ls hl => ?_)
        refine lv_goto (tgt := 2) hx hb dX7_markAll_34 (by decide) ?_
        cases hf
        exact ih6 x18 r16 hq6 _ _ ls hH (lv_sub hl [1, 2, 0] rfl)
  exact Lo6 kF 0 S eo6 _ _ ls hH (lv_sub hl [1, 2, 0] rfl)
set_option maxRecDepth 100000 in
def f_X9_noteTold (S : PS) (a0 : Nat) : Option (PS) := if kK S a0 = 13 then ((kQ S a0 0).bind fun a2 => if kK S a2 = 9 then ((f_X5_clear S a2).bind fun r5 => if kK r5 a0 = 13 then ((kQ r5 a0 1).bind fun a8 => if kK r5 a8 = 11 then ((f_X7_markAll r5 a8 15).bind fun r11 => if kK r11 a0 = 13 then ((f_X9_noteStale r11 a0).bind fun r14 => some r14) else none) else none) else none) else none) else none
abbrev rmX9_noteTold : Room := { frames := 2, cells := 0, slots := 0, locals := 44 }
set_option maxHeartbeats 4000000 in
set_option maxRecDepth 100000 in
theorem c_X9_noteTold (l : Launch) (D : va_G × Nat) (S : PS) (a0 : Nat) (r : PS) (hf : f_X9_noteTold S a0 = some r) : MV l D yX9_noteTold wsX9_noteTold rmX9_noteTold S [.ref a0] r 0 0 := by
  unfold f_X9_noteTold at hf
  refine Met.ofW (cc := cX9_noteTold) (maxL := 1) (ret := none) (by decide) rfl ?_
  intro p e s m args below meth c s₁ B hml hv
  obtain ⟨rfl, hH0, hNE⟩ := hv
  have hx := B.exec
  have hb := B.bytes
  have hr := B.returns
  have hts := atoms_spec (ws := wsX9_noteTold) B.pre
  have hown : s.vm.findClass RX9 = some m.cls := findClass_of_methodNamed B.named
  have hlocks := B.notSynchronized
  have hH : HI D S S s s.heap [] := HI.start hH0
  have hl := lv_entry ([.ref a0]) (n := 1) (Nat.le_of_ble_eq_true rfl)
  rw [lg_entry_eq]
  generalize (lg_sl ([.ref a0]) ++ List.replicate (1 - (lg_sl ([.ref a0])).length) Slot.unset).toArray = ls at hl ⊢
  have hl : lv_has ls 1 [(0, .ref a0)] := hl
  refine lv_aload_n hx hb dX9_noteTold_0 rfl (lv_at hl 0 rfl) ?_
  obtain ⟨ek1, hf⟩ := oc hf
  obtain ⟨a2, e3, hf⟩ := ob hf
  refine r_getQ hx hb 12 hts (fun w h => List.mem_cons_of_mem _ (mwsX90 w h)) hown hH ek1 (by decide) rfl 0 (by decide) rfl (hts (.fieldLink RX9 14 "Housestyle" "typed" "LHousestyle$Row;") (List.mem_cons_of_mem _ gw_19_21)) (fun _ h9 => h9) dX9_noteTold_1 e3 ?_
  obtain ⟨ek4, hf⟩ := oc hf
  obtain ⟨r5, e6, hf⟩ := ob hf
  refine r_callVv (As := []) ⟨hx, hb, hml, hown, hts⟩ (c_X5_clear l D S a2 r5 e6) (cwV 0 hts (gwV gw_21_18 gw_9_14 gw_9_15 gw_1_5 gw_9_11) rfl rfl rfl (by decide +kernel) ⟨Nat.le_of_ble_eq_true rfl, Nat.le_of_ble_eq_true rfl⟩) hH hNE 8 ek4 (by decide) rfl rfl rfl hl.1 rfl (Nat.le_of_ble_eq_true rfl) dX9_noteTold_4 ⟨(Nat.le_of_ble_eq_true rfl), (Nat.le_of_ble_eq_true rfl)⟩ (fun H locs hH => ?_)
  refine lv_aload_n hx hb dX9_noteTold_7 rfl (lv_at hl 0 rfl) ?_
  obtain ⟨ek7, hf⟩ := oc hf
  obtain ⟨a8, e9, hf⟩ := ob hf
  refine r_getQ hx hb 12 hts (fun w h => List.mem_cons_of_mem _ (mwsX90 w h)) hown hH ek7 (by decide) rfl 1 (by decide) rfl (hts (.fieldLink RX9 21 "Housestyle" "text" "LHousestyle$Text;") (List.mem_cons_of_mem _ gw_20_0)) (fun _ h9 => h9) dX9_noteTold_8 e9 ?_
  refine lv_bipush (v := 15) hx hb dX9_noteTold_11 (by decide) ?_
  obtain ⟨ek10, hf⟩ := oc hf
  obtain ⟨r11, e12, hf⟩ := ob hf
  refine r_callVv (As := [.int 15]) ⟨hx, hb, hml, hown, hts⟩ (c_X7_markAll l D r5 a8 15 r11 e12) (cwV 1 hts (gwV gw_23_15 gw_23_16 gw_23_17 gw_17_23 gw_18_6) rfl rfl rfl (by decide +kernel) ⟨Nat.le_of_ble_eq_true rfl, Nat.le_of_ble_eq_true rfl⟩) hH hNE 10 ek10 (by decide) rfl rfl rfl hl.1 rfl (Nat.le_of_ble_eq_true rfl) dX9_noteTold_13 ⟨(Nat.le_of_ble_eq_true rfl), (Nat.le_of_ble_eq_true rfl)⟩ (fun H locs hH => ?_)
  refine lv_aload_n hx hb dX9_noteTold_16 rfl (lv_at hl 0 rfl) ?_
  obtain ⟨ek13, hf⟩ := oc hf
  obtain ⟨r14, e15, hf⟩ := ob hf
  refine r_callVv (As := []) ⟨hx, hb, hml, hown, hts⟩ (c_X9_noteStale l D r11 a0 r14 e15) (cwV 0 hts (gwV gw_22_8 gw_22_9 gw_22_10 gw_14_5 gw_21_21) rfl rfl rfl (by decide +kernel) ⟨Nat.le_of_ble_eq_true rfl, Nat.le_of_ble_eq_true rfl⟩) hH hNE 12 ek13 (by decide) rfl rfl rfl hl.1 rfl (Nat.le_of_ble_eq_true rfl) dX9_noteTold_17 ⟨(Nat.le_of_ble_eq_true rfl), (Nat.le_of_ble_eq_true rfl)⟩ (fun H locs hH => ?_)
  have hr9 := Option.some.inj hf
  subst hr9
  exact e_v hx hb hr hlocks hH dX9_noteTold_20
set_option maxRecDepth 100000 in
def f_X9_rule (S : PS) (a0 : Nat) (p1 : Int32) (p2 : Int32) (p3 : Int32) : Option ((PS × Int32) ⊕ (PS × Nat)) := lt (fun (x1 : Int32) => lt (fun (u4 : Unit) => some (.inr (S, 1))) fun j3 => if x1 = 0 then (j3 ()) else (if p3 < (1 : Int32) then (j3 ()) else (if p3 ≤ (9 : Int32) then (if kK S a0 = 13 then ((kQ S a0 0).bind fun a10 => (f_X6_isPattern S a10).bind fun r12 => if r12 = 0 then (some (.inr (S, 4))) else ((kQ S a0 3).bind fun a15 => if kK S a15 = 4 then ((kQ S a15 0).bind fun a18 => if kK S a18 = 3 then ((f_Jx4a65c_size_8abf5 S a18).bind fun r21 => if r21 < (12 : Int32) then (lt (kZ S) fun a24 => lt (wN S 10 0) fun S26 => if kK S26 a0 = 13 then ((kQ S26 a0 0).bind fun a29 => (f_X6_init S26 a24 a29 p1 p2 p3).bind fun r31 => if kK r31 a18 = 3 then ((f_Jx4a65c_add_9ea2d r31 a18 a24).bind fun r34 => lt r34.1 fun S36 => if kK S36 a0 = 13 then ((f_X9_noteTold S36 a0).bind fun r39 => if kK r39 a0 = 13 then ((kQ r39 a0 3).bind fun a42 => if kK r39 a42 = 4 then ((kQ r39 a42 0).bind fun a45 => if kK r39 a45 = 3 then ((f_Jx4a65c_size_8abf5 r39 a45).bind fun r48 => some (.inl (r39, (r48 - 1)))) else none) else none) else none) else none) else none) else none) else (some (.inr (S, 2)))) else none) else none)) else none) else (j3 ())))) fun j2 => lt (fun (u52 : Unit) => j2 1) fun j51 => if p1 = (97 : Int32) then (j51 ()) else (if p1 = (115 : Int32) then (j51 ()) else (if p1 = (109 : Int32) then (j51 ()) else (j2 0)))
abbrev rmX9_rule : Room := { frames := 10, cells := 93, slots := 4545, locals := 284 }
set_option maxHeartbeats 4000000 in
set_option maxRecDepth 100000 in
theorem c_X9_rule (l : Launch) (hst9 : l.stackTraces = false) (D : va_G × Nat) (S : PS) (a0 : Nat) (p1 : Int32) (p2 : Int32) (p3 : Int32) (r : (PS × Int32) ⊕ (PS × Nat)) (hf : f_X9_rule S a0 p1 p2 p3 = some r) : XM l D yX9_rule wsX9_rule rmX9_rule S [.ref a0, .int p1, .int p2, .int p3] (mI r) 93 4545 := by
  unfold f_X9_rule at hf
  refine vx_ofW (cc := cX9_rule) (maxL := 5) (ret := (some .int)) (by decide) rfl ?_
  intro p e s m args below meth c s₁ B hml hxt hv
  obtain ⟨rfl, hH0, hE, hNE⟩ := hv
  have hB := hH0.base
  have hx := B.exec
  have hb := B.bytes
  have hr := B.returns
  have hts := atoms_spec (ws := wsX9_rule) B.pre
  have hown : s.vm.findClass RX9 = some m.cls := findClass_of_methodNamed B.named
  have hlocks := B.notSynchronized
  have hH : HI D S S s s.heap [] := HI.start hH0
  have hl := lv_entry ([.ref a0, .int p1, .int p2, .int p3]) (n := 5) (Nat.le_of_ble_eq_true rfl)
  rw [lg_entry_eq]
  generalize (lg_sl ([.ref a0, .int p1, .int p2, .int p3]) ++ List.replicate (5 - (lg_sl ([.ref a0, .int p1, .int p2, .int p3])).length) Slot.unset).toArray = ls at hl ⊢
  have hl : lv_has ls 5 [(0, .ref a0), (1, .int p1), (2, .int p2), (3, .int p3)] := hl
  refine lv_iload_n hx hb dX9_rule_0 rfl (lv_at hl 1 rfl) ?_
  refine lv_bipush (v := 97) hx hb dX9_rule_1 (by decide) ?_
  obtain ⟨j2, e50, hf⟩ := ol hf
  have Jj2 : ∀ (x1 : Int32) (H : Heap) (locs : List Loc) (ls : Array Slot), HI D S S s H locs → lv_has ls 5 [(0, .ref a0), (1, .int p1), (2, .int p2), (3, .int p3)] → j2 x1 = some r → GX p l e (headSpec wsX9_rule rmX9_rule).room s m ([.ref a0, .int p1, .int p2, .int p3] : List Value).toArray below meth c D S (mI r) H locs 0 0 93 4545 (F0 m 23 ls [.int x1]) := by
    intro x1 H locs ls hH hl hf
    rw [← e50] at hf
    refine lv_istore (lv' := [(4, .int x1), (0, .ref a0), (1, .int p1), (2, .int p2), (3, .int p3)]) hx hb dX9_rule_23 hl (by decide) rfl (fun ls hl => ?_)
    refine lv_iload hx hb dX9_rule_25 (lv_at hl 0 rfl) ?_
    obtain ⟨j3, e5, hf⟩ := ol hf
    have Jj3 : ∀ (u4 : Unit) (H : Heap) (locs : List Loc) (ls : Array Slot), HI D S S s H locs → lv_has ls 5 [] → j3 u4 = some r → GX p l e (headSpec wsX9_rule rmX9_rule).room s m ([.ref a0, .int p1, .int p2, .int p3] : List Value).toArray below meth c D S (mI r) H locs 0 0 93 4545 (F0 m 41 ls []) := by
      intro u4 H locs ls hH hl hf
      rw [← e5] at hf
      cases hf
      exact r_throw (text := "no such condition or rank") (cls := "java/lang/IllegalArgumentException") (names := ["java/lang/RuntimeException", "java/lang/Exception"]) 1 hx hb hst9 hown xf0 xn (hts (.classLink RX9 82 "java/lang/IllegalArgumentException") (List.mem_cons_of_mem _ gw_21_9)) (hts (.initialized "java/lang/IllegalArgumentException") (List.mem_cons_of_mem _ gw_21_10)) (List.mem_of_getElem? (i := 5) rfl) (xa0 hts hE) xg0 hE hB hH (hl.1.trans hml.symm) rfl dX9_rule_41 dX9_rule_44 dX9_rule_45 dX9_rule_47 dX9_rule_50 hxt (Nat.le_of_ble_eq_true rfl) (Nat.le_of_ble_eq_true rfl) (Nat.le_of_ble_eq_true rfl) (Nat.le_of_ble_eq_true rfl) hlocks ⟨Nat.le_of_ble_eq_true rfl, Nat.le_of_ble_eq_true rfl⟩
    refine lv_if_eq (tgt := 41) hx hb dX9_rule_27 (by decide) (fun c6 => ?_) (fun c6 => ?_)
    · have hf := ip hf c6
      exact Jj3 () _ _ ls hH (lv_sub hl [] rfl) hf
    · have hf := iq hf c6
      refine lv_iload_n hx hb dX9_rule_30 rfl (lv_at hl 4 rfl) ?_
      refine lv_iconst (v := 1) hx hb dX9_rule_31 (by decide) ?_
      refine lv_icmp_lt (tgt := 41) hx hb dX9_rule_32 (by decide) (fun c7 => ?_) (fun c7 => ?_)
      · have hf := ip hf c7
        exact Jj3 () _ _ ls hH (lv_sub hl [] rfl) hf
      · have hf := iq hf c7
        refine lv_iload_n hx hb dX9_rule_35 rfl (lv_at hl 4 rfl) ?_
        refine lv_bipush (v := 9) hx hb dX9_rule_36 (by decide) ?_
        refine lv_icmp_le (tgt := 51) hx hb dX9_rule_38 (by decide) (fun c8 => ?_) (fun c8 => ?_)
        · have hf := ip hf c8
          refine lv_aload_n hx hb dX9_rule_51 rfl (lv_at hl 1 rfl) ?_
          obtain ⟨ek9, hf⟩ := oc hf
          obtain ⟨a10, e11, hf⟩ := ob hf
          refine r_getQ hx hb 12 hts (fun w h => List.mem_cons_of_mem _ (mwsX90 w h)) hown hH ek9 (by decide) rfl 0 (by decide) rfl (hts (.fieldLink RX9 14 "Housestyle" "typed" "LHousestyle$Row;") (List.mem_cons_of_mem _ gw_19_21)) (fun _ h9 => h9) dX9_rule_52 e11 ?_
          obtain ⟨r12, e13, hf⟩ := ob hf
          refine r_callSi (As := [.ref a10]) ⟨hx, hb, hml, hown, hts⟩ (c_X6_isPattern l D S a10 r12 e13) (va_cwS 1 hts (gwS gw_23_23 gw_24_0 gw_5_15 gw_17_2) rfl rfl rfl (by decide +kernel) ⟨Nat.le_of_ble_eq_true rfl, Nat.le_of_ble_eq_true rfl⟩) hH hNE rfl hl.1 rfl (Nat.le_of_ble_eq_true rfl) dX9_rule_55 ⟨(Nat.le_of_ble_eq_true rfl), (Nat.le_of_ble_eq_true rfl)⟩ (fun H locs hH => ?_)
          refine lv_if_ne (tgt := 71) hx hb dX9_rule_58 (by decide) (fun c14 => ?_) (fun c14 => ?_)
          · have hf := iq hf c14
            refine lv_aload_n hx hb dX9_rule_71 rfl (lv_at hl 1 rfl) ?_
            obtain ⟨a15, e16, hf⟩ := ob hf
            refine r_getQ hx hb 12 hts (fun w h => List.mem_cons_of_mem _ (mwsX90 w h)) hown hH ek9 (by decide) rfl 3 (by decide) rfl (hts (.fieldLink RX9 40 "Housestyle" "book" "LHousestyle$Book;") (List.mem_cons_of_mem _ gw_20_6)) (fun _ h9 => h9) dX9_rule_72 e16 ?_
            obtain ⟨ek17, hf⟩ := oc hf
            obtain ⟨a18, e19, hf⟩ := ob hf
            refine r_getQN hx hb 3 hts (fun w h => List.mem_cons_of_mem _ (mwsX00 w h)) hown hH ek17 (by decide) rfl 0 (by decide) rfl (nf_1 hNE) (fun _ h9 => h9) dX9_rule_75 e19 ?_
            obtain ⟨ek20, hf⟩ := oc hf
            obtain ⟨r21, e22, hf⟩ := ob hf
            refine r_callVi (As := []) ⟨hx, hb, hml, hown, hts⟩ (c_Jx4a65c_size_8abf5 l D S a18 r21 e22) (cwV 0 hts (gwV gw_22_3 gw_4_10 gw_4_11 gw_1_0 gw_1_18) rfl rfl rfl (by decide +kernel) ⟨Nat.le_of_ble_eq_true rfl, Nat.le_of_ble_eq_true rfl⟩) hH hNE 2 ek20 (by decide) rfl rfl rfl hl.1 rfl (Nat.le_of_ble_eq_true rfl) dX9_rule_78 ⟨(Nat.le_of_ble_eq_true rfl), (Nat.le_of_ble_eq_true rfl)⟩ (fun H locs hH => ?_)
            refine lv_bipush (v := 12) hx hb dX9_rule_81 (by decide) ?_
            refine lv_icmp_lt (tgt := 96) hx hb dX9_rule_83 (by decide) (fun c23 => ?_) (fun c23 => ?_)
            · have hf := ip hf c23
              refine lv_aload_n hx hb dX9_rule_96 rfl (lv_at hl 1 rfl) ?_
              refine r_getQ hx hb 12 hts (fun w h => List.mem_cons_of_mem _ (mwsX90 w h)) hown hH ek9 (by decide) rfl 3 (by decide) rfl (hts (.fieldLink RX9 40 "Housestyle" "book" "LHousestyle$Book;") (List.mem_cons_of_mem _ gw_20_6)) (fun _ h9 => h9) dX9_rule_97 e16 ?_
              refine r_getQN hx hb 3 hts (fun w h => List.mem_cons_of_mem _ (mwsX00 w h)) hown hH ek17 (by decide) rfl 0 (by decide) rfl (nf_1 hNE) (fun _ h9 => h9) dX9_rule_100 e19 ?_
              refine r_new hx hb 9 hts (fun w h => List.mem_cons_of_mem _ (mwsX60 w h)) tyX6 tyX6_ok hown (hts (.classLink RX9 137 RX6) (List.mem_cons_of_mem _ gw_23_21)) (hts (.instantiable RX6 6) (List.mem_cons_of_mem _ gw_23_22)) (hts (.initialized RX6) (List.mem_cons_of_mem _ gw_5_15)) hH (by decide) rfl (by decide +kernel) (Nat.le_of_ble_eq_true rfl) (Nat.le_of_ble_eq_true rfl) dX9_rule_103 (fun H hH => ?_)
              obtain ⟨a24, e25, hf⟩ := ol hf
              rw [e25]
              obtain ⟨S26, e27, hf⟩ := ol hf
              rw [e27] at hH
              refine W.widen (k := 1) (n := 6) (by omega) (by omega) ?_
              refine lv_dup hx hb dX9_rule_106 rfl ?_
              refine lv_aload_n hx hb dX9_rule_107 rfl (lv_at hl 1 rfl) ?_
              obtain ⟨ek28, hf⟩ := oc hf
              obtain ⟨a29, e30, hf⟩ := ob hf
              refine r_getQ hx hb 12 hts (fun w h => List.mem_cons_of_mem _ (mwsX90 w h)) hown hH ek28 (by decide) rfl 0 (by decide) rfl (hts (.fieldLink RX9 14 "Housestyle" "typed" "LHousestyle$Row;") (List.mem_cons_of_mem _ gw_19_21)) (fun _ h9 => h9) dX9_rule_108 e30 ?_
              refine lv_iload_n hx hb dX9_rule_111 rfl (lv_at hl 2 rfl) ?_
              refine lv_iload_n hx hb dX9_rule_112 rfl (lv_at hl 3 rfl) ?_
              refine lv_iload_n hx hb dX9_rule_113 rfl (lv_at hl 4 rfl) ?_
              obtain ⟨r31, e32, hf⟩ := ob hf
              refine r_callIv (As := [.ref a29, .int p1, .int p2, .int p3]) ⟨hx, hb, hml, hown, hts⟩ (c_X6_init l D S26 a24 a29 p1 p2 p3 r31 e32) (cwI 4 hts (gwI (gwC gw_16_14)) rfl rfl rfl (hts (.initialized RX6) (List.mem_cons_of_mem _ gw_5_15)) (hts (.methodLink RX9 155 yX6_init) (List.mem_cons_of_mem _ gw_24_1)) (hts (.instanceMethod yX6_init) (List.mem_cons_of_mem _ gw_24_2)) rfl (by decide +kernel) ⟨Nat.le_of_ble_eq_true rfl, Nat.le_of_ble_eq_true rfl⟩) hH hNE rfl hl.1 rfl (Nat.le_of_ble_eq_true rfl) dX9_rule_114 ⟨(Nat.le_of_ble_eq_true rfl), (Nat.le_of_ble_eq_true rfl)⟩ (fun H locs hH => ?_)
              refine W.widen (k := 92) (n := 4525) (by omega) (by omega) ?_
              obtain ⟨ek33, hf⟩ := oc hf
              obtain ⟨r34, e35, hf⟩ := ob hf
              refine r_callVi (As := [.ref a24]) ⟨hx, hb, hml, hown, hts⟩ (c_Jx4a65c_add_9ea2d l D r31 a18 a24 r34 e35) (cwV 1 hts (gwV gw_21_3 gw_17_0 gw_17_1 gw_1_0 gw_16_8) rfl rfl rfl (by decide +kernel) ⟨Nat.le_of_ble_eq_true rfl, Nat.le_of_ble_eq_true rfl⟩) hH hNE 2 ek33 (by decide) rfl rfl rfl hl.1 rfl (Nat.le_of_ble_eq_true rfl) dX9_rule_117 ⟨(Nat.le_of_ble_eq_true rfl), (Nat.le_of_ble_eq_true rfl)⟩ (fun H locs hH => ?_)
              obtain ⟨S36, e37, hf⟩ := ol hf
              rw [e37] at hH
              refine W.widen (k := 93) (n := 4545) (by omega) (by omega) ?_
              refine lv_pop hx hb dX9_rule_120 rfl ?_
              refine lv_aload_n hx hb dX9_rule_121 rfl (lv_at hl 1 rfl) ?_
              obtain ⟨ek38, hf⟩ := oc hf
              obtain ⟨r39, e40, hf⟩ := ob hf
              refine r_callVv (As := []) ⟨hx, hb, hml, hown, hts⟩ (c_X9_noteTold l D S36 a0 r39 e40) (cwV 0 hts (gwV gw_24_3 gw_24_4 gw_24_5 gw_14_5 gw_23_14) rfl rfl rfl (by decide +kernel) ⟨Nat.le_of_ble_eq_true rfl, Nat.le_of_ble_eq_true rfl⟩) hH hNE 12 ek38 (by decide) rfl rfl rfl hl.1 rfl (Nat.le_of_ble_eq_true rfl) dX9_rule_122 ⟨(Nat.le_of_ble_eq_true rfl), (Nat.le_of_ble_eq_true rfl)⟩ (fun H locs hH => ?_)
              refine lv_aload_n hx hb dX9_rule_125 rfl (lv_at hl 1 rfl) ?_
              obtain ⟨ek41, hf⟩ := oc hf
              obtain ⟨a42, e43, hf⟩ := ob hf
              refine r_getQ hx hb 12 hts (fun w h => List.mem_cons_of_mem _ (mwsX90 w h)) hown hH ek41 (by decide) rfl 3 (by decide) rfl (hts (.fieldLink RX9 40 "Housestyle" "book" "LHousestyle$Book;") (List.mem_cons_of_mem _ gw_20_6)) (fun _ h9 => h9) dX9_rule_126 e43 ?_
              obtain ⟨ek44, hf⟩ := oc hf
              obtain ⟨a45, e46, hf⟩ := ob hf
              refine r_getQN hx hb 3 hts (fun w h => List.mem_cons_of_mem _ (mwsX00 w h)) hown hH ek44 (by decide) rfl 0 (by decide) rfl (nf_1 hNE) (fun _ h9 => h9) dX9_rule_129 e46 ?_
              obtain ⟨ek47, hf⟩ := oc hf
              obtain ⟨r48, e49, hf⟩ := ob hf
              refine r_callVi (As := []) ⟨hx, hb, hml, hown, hts⟩ (c_Jx4a65c_size_8abf5 l D r39 a45 r48 e49) (cwV 0 hts (gwV gw_22_3 gw_4_10 gw_4_11 gw_1_0 gw_1_18) rfl rfl rfl (by decide +kernel) ⟨Nat.le_of_ble_eq_true rfl, Nat.le_of_ble_eq_true rfl⟩) hH hNE 2 ek47 (by decide) rfl rfl rfl hl.1 rfl (Nat.le_of_ble_eq_true rfl) dX9_rule_132 ⟨(Nat.le_of_ble_eq_true rfl), (Nat.le_of_ble_eq_true rfl)⟩ (fun H locs hH => ?_)
              refine lv_iconst (v := 1) hx hb dX9_rule_135 (by decide) ?_
              refine lv_isub hx hb dX9_rule_136 ?_
              have hr9 := Option.some.inj hf
              subst hr9
              exact x_i hx hb hr hlocks hH dX9_rule_137
            · have hf := iq hf c23
              cases hf
              exact r_throw (text := "there are 12") (cls := "java/lang/IllegalStateException") (names := ["java/lang/RuntimeException", "java/lang/Exception"]) 2 hx hb hst9 hown xf1 xn (hts (.classLink RX9 93 "java/lang/IllegalStateException") (List.mem_cons_of_mem _ gw_21_11)) (hts (.initialized "java/lang/IllegalStateException") (List.mem_cons_of_mem _ gw_21_12)) (List.mem_of_getElem? (i := 7) rfl) (xa1 hts hE) xg1 hE hB hH (hl.1.trans hml.symm) rfl dX9_rule_86 dX9_rule_89 dX9_rule_90 dX9_rule_92 dX9_rule_95 hxt (Nat.le_of_ble_eq_true rfl) (Nat.le_of_ble_eq_true rfl) (Nat.le_of_ble_eq_true rfl) (Nat.le_of_ble_eq_true rfl) hlocks ⟨Nat.le_of_ble_eq_true rfl, Nat.le_of_ble_eq_true rfl⟩
          · have hf := ip hf c14
            cases hf
            exact r_throw (text := "no pattern") (cls := "java/lang/UnsupportedOperationException") (names := ["java/lang/RuntimeException", "java/lang/Exception"]) 4 hx hb hst9 hown xf3 xn (hts (.classLink RX9 142 "java/lang/UnsupportedOperationException") (List.mem_cons_of_mem _ gw_23_19)) (hts (.initialized "java/lang/UnsupportedOperationException") (List.mem_cons_of_mem _ gw_23_20)) (List.mem_of_getElem? (i := 6) rfl) (xa3 hts hE) xg3 hE hB hH (hl.1.trans hml.symm) rfl dX9_rule_61 dX9_rule_64 dX9_rule_65 dX9_rule_67 dX9_rule_70 hxt (Nat.le_of_ble_eq_true rfl) (Nat.le_of_ble_eq_true rfl) (Nat.le_of_ble_eq_true rfl) (Nat.le_of_ble_eq_true rfl) hlocks ⟨Nat.le_of_ble_eq_true rfl, Nat.le_of_ble_eq_true rfl⟩
        · have hf := iq hf c8
          exact Jj3 () _ _ ls hH (lv_sub hl [] rfl) hf
  obtain ⟨j51, e53, hf⟩ := ol hf
  have Jj51 : ∀ (u52 : Unit) (H : Heap) (locs : List Loc) (ls : Array Slot), HI D S S s H locs → lv_has ls 5 [(0, .ref a0), (1, .int p1), (2, .int p2), (3, .int p3)] → j51 u52 = some r → GX p l e (headSpec wsX9_rule rmX9_rule).room s m ([.ref a0, .int p1, .int p2, .int p3] : List Value).toArray below meth c D S (mI r) H locs 0 0 93 4545 (F0 m 18 ls []) := by
    intro u52 H locs ls hH hl hf
    rw [← e53] at hf
    refine lv_iconst (v := 1) hx hb dX9_rule_18 (by decide) ?_
    refine lv_goto (tgt := 23) hx hb dX9_rule_19 (by decide) ?_
    exact Jj2 1 _ _ ls hH (lv_sub hl [0, 1, 2, 3] rfl) hf
  refine lv_icmp_eq (tgt := 18) hx hb dX9_rule_3 (by decide) (fun c54 => ?_) (fun c54 => ?_)
  · have hf := ip hf c54
    exact Jj51 () _ _ ls hH (lv_sub hl [0, 1, 2, 3] rfl) hf
  · have hf := iq hf c54
    refine lv_iload_n hx hb dX9_rule_6 rfl (lv_at hl 1 rfl) ?_
    refine lv_bipush (v := 115) hx hb dX9_rule_7 (by decide) ?_
    refine lv_icmp_eq (tgt := 18) hx hb dX9_rule_9 (by decide) (fun c55 => ?_) (fun c55 => ?_)
    · have hf := ip hf c55
      exact Jj51 () _ _ ls hH (lv_sub hl [0, 1, 2, 3] rfl) hf
    · have hf := iq hf c55
      refine lv_iload_n hx hb dX9_rule_12 rfl (lv_at hl 1 rfl) ?_
      refine lv_bipush (v := 109) hx hb dX9_rule_13 (by decide) ?_
      refine lv_icmp_ne (tgt := 22) hx hb dX9_rule_15 (by decide) (fun c56 => ?_) (fun c56 => ?_)
      · have hf := iq hf c56
        refine lv_iconst (v := 0) hx hb dX9_rule_22 (by decide) ?_
        exact Jj2 0 _ _ ls hH (lv_sub hl [0, 1, 2, 3] rfl) hf
      · have hf := ip hf c56
        exact Jj51 () _ _ ls hH (lv_sub hl [0, 1, 2, 3] rfl) hf
set_option maxRecDepth 100000 in
def f_X9_ruleAt (S : PS) (a0 : Nat) (p1 : Int32) : Option ((PS × Nat) ⊕ (PS × Nat)) := lt (fun (u2 : Unit) => some (.inr (S, 3))) fun j1 => if p1 < 0 then (j1 ()) else (if kK S a0 = 13 then ((kQ S a0 3).bind fun a6 => if kK S a6 = 4 then ((kQ S a6 0).bind fun a9 => if kK S a9 = 3 then ((f_Jx4a65c_size_8abf5 S a9).bind fun r12 => if p1 < r12 then ((f_Jx4a65c_get_915e3 S a9 p1).bind fun r15 => if kK S r15 = 10 then (some (.inl (S, r15))) else none) else (j1 ())) else none) else none) else none)
abbrev rmX9_ruleAt : Room := { frames := 6, cells := 1, slots := 6, locals := 90 }
set_option maxHeartbeats 4000000 in
set_option maxRecDepth 100000 in
theorem c_X9_ruleAt (l : Launch) (hst9 : l.stackTraces = false) (D : va_G × Nat) (S : PS) (a0 : Nat) (p1 : Int32) (r : (PS × Nat) ⊕ (PS × Nat)) (hf : f_X9_ruleAt S a0 p1 = some r) : XM l D yX9_ruleAt wsX9_ruleAt rmX9_ruleAt S [.ref a0, .int p1] (mR r) 1 6 := by
  unfold f_X9_ruleAt at hf
  refine vx_ofW (cc := cX9_ruleAt) (maxL := 2) (ret := (some (.object "Housestyle$Rule"))) (by decide) rfl ?_
  intro p e s m args below meth c s₁ B hml hxt hv
  obtain ⟨rfl, hH0, hE, hNE⟩ := hv
  have hB := hH0.base
  have hx := B.exec
  have hb := B.bytes
  have hr := B.returns
  have hts := atoms_spec (ws := wsX9_ruleAt) B.pre
  have hown : s.vm.findClass RX9 = some m.cls := findClass_of_methodNamed B.named
  have hlocks := B.notSynchronized
  have hH : HI D S S s s.heap [] := HI.start hH0
  have hl := lv_entry ([.ref a0, .int p1]) (n := 2) (Nat.le_of_ble_eq_true rfl)
  rw [lg_entry_eq]
  generalize (lg_sl ([.ref a0, .int p1]) ++ List.replicate (2 - (lg_sl ([.ref a0, .int p1])).length) Slot.unset).toArray = ls at hl ⊢
  have hl : lv_has ls 2 [(0, .ref a0), (1, .int p1)] := hl
  refine lv_iload_n hx hb dX9_ruleAt_0 rfl (lv_at hl 1 rfl) ?_
  obtain ⟨j1, e3, hf⟩ := ol hf
  have Jj1 : ∀ (u2 : Unit) (H : Heap) (locs : List Loc) (ls : Array Slot), HI D S S s H locs → lv_has ls 2 [] → j1 u2 = some r → GX p l e (headSpec wsX9_ruleAt rmX9_ruleAt).room s m ([.ref a0, .int p1] : List Value).toArray below meth c D S (mR r) H locs 0 0 1 6 (F0 m 18 ls []) := by
    intro u2 H locs ls hH hl hf
    rw [← e3] at hf
    cases hf
    exact r_throwW (text := "no such rule") (cls := "java/lang/IndexOutOfBoundsException") (names := ["java/lang/RuntimeException", "java/lang/Exception"]) 3 hx hb hst9 hown xf2 xn (hts (.classLink RX9 103 "java/lang/IndexOutOfBoundsException") (List.mem_cons_of_mem _ gw_22_12)) (hts (.initialized "java/lang/IndexOutOfBoundsException") (List.mem_cons_of_mem _ gw_22_13)) (List.mem_of_getElem? (i := 21) rfl) (xa2 hts hE) xg2 hE hB hH (hl.1.trans hml.symm) rfl dX9_ruleAt_18 dX9_ruleAt_21 dX9_ruleAt_22 dX9_ruleAt_25 dX9_ruleAt_28 hxt (Nat.le_of_ble_eq_true rfl) (Nat.le_of_ble_eq_true rfl) (Nat.le_of_ble_eq_true rfl) (Nat.le_of_ble_eq_true rfl) hlocks ⟨Nat.le_of_ble_eq_true rfl, Nat.le_of_ble_eq_true rfl⟩
  refine lv_if_lt (tgt := 18) hx hb dX9_ruleAt_1 (by decide) (fun c4 => ?_) (fun c4 => ?_)
  · have hf := ip hf c4
    exact Jj1 () _ _ ls hH (lv_sub hl [] rfl) hf
  · have hf := iq hf c4
    refine lv_iload_n hx hb dX9_ruleAt_4 rfl (lv_at hl 1 rfl) ?_
    refine lv_aload_n hx hb dX9_ruleAt_5 rfl (lv_at hl 0 rfl) ?_
    obtain ⟨ek5, hf⟩ := oc hf
    obtain ⟨a6, e7, hf⟩ := ob hf
    refine r_getQ hx hb 12 hts (fun w h => List.mem_cons_of_mem _ (mwsX90 w h)) hown hH ek5 (by decide) rfl 3 (by decide) rfl (hts (.fieldLink RX9 40 "Housestyle" "book" "LHousestyle$Book;") (List.mem_cons_of_mem _ gw_20_6)) (fun _ h9 => h9) dX9_ruleAt_6 e7 ?_
    obtain ⟨ek8, hf⟩ := oc hf
    obtain ⟨a9, e10, hf⟩ := ob hf
    refine r_getQN hx hb 3 hts (fun w h => List.mem_cons_of_mem _ (mwsX00 w h)) hown hH ek8 (by decide) rfl 0 (by decide) rfl (nf_1 hNE) (fun _ h9 => h9) dX9_ruleAt_9 e10 ?_
    obtain ⟨ek11, hf⟩ := oc hf
    obtain ⟨r12, e13, hf⟩ := ob hf
    refine r_callVi (As := []) ⟨hx, hb, hml, hown, hts⟩ (c_Jx4a65c_size_8abf5 l D S a9 r12 e13) (cwV 0 hts (gwV gw_22_3 gw_4_10 gw_4_11 gw_1_0 gw_1_18) rfl rfl rfl (by decide +kernel) ⟨Nat.le_of_ble_eq_true rfl, Nat.le_of_ble_eq_true rfl⟩) hH hNE 2 ek11 (by decide) rfl rfl rfl hl.1 rfl (Nat.le_of_ble_eq_true rfl) dX9_ruleAt_12 ⟨(Nat.le_of_ble_eq_true rfl), (Nat.le_of_ble_eq_true rfl)⟩ (fun H locs hH => ?_)
    refine lv_icmp_lt (tgt := 29) hx hb dX9_ruleAt_15 (by decide) (fun c14 => ?_) (fun c14 => ?_)
    · have hf := ip hf c14
      refine lv_aload_n hx hb dX9_ruleAt_29 rfl (lv_at hl 0 rfl) ?_
      refine r_getQ hx hb 12 hts (fun w h => List.mem_cons_of_mem _ (mwsX90 w h)) hown hH ek5 (by decide) rfl 3 (by decide) rfl (hts (.fieldLink RX9 40 "Housestyle" "book" "LHousestyle$Book;") (List.mem_cons_of_mem _ gw_20_6)) (fun _ h9 => h9) dX9_ruleAt_30 e7 ?_
      refine r_getQN hx hb 3 hts (fun w h => List.mem_cons_of_mem _ (mwsX00 w h)) hown hH ek8 (by decide) rfl 0 (by decide) rfl (nf_1 hNE) (fun _ h9 => h9) dX9_ruleAt_33 e10 ?_
      refine lv_iload_n hx hb dX9_ruleAt_36 rfl (lv_at hl 1 rfl) ?_
      obtain ⟨r15, e16, hf⟩ := ob hf
      refine r_callVr (As := [.int p1]) ⟨hx, hb, hml, hown, hts⟩ (c_Jx4a65c_get_915e3 l D S a9 p1 r15 e16) (cwV 1 hts (gwV gw_22_4 gw_4_13 gw_4_14 gw_1_0 gw_2_2) rfl rfl rfl (by decide +kernel) ⟨Nat.le_of_ble_eq_true rfl, Nat.le_of_ble_eq_true rfl⟩) hH hNE 2 ek11 (by decide) rfl rfl rfl hl.1 rfl (Nat.le_of_ble_eq_true rfl) dX9_ruleAt_37 ⟨(Nat.le_of_ble_eq_true rfl), (Nat.le_of_ble_eq_true rfl)⟩ (fun H locs hH => ?_)
      obtain ⟨ek17, hf⟩ := oc hf
      refine r_castS 9 hx hb hown (hts (.classLink RX9 137 "Housestyle$Rule") (List.mem_cons_of_mem _ gw_24_7)) hH ek17 (by decide) rfl rfl dX9_ruleAt_40 ?_
      refine W.widen (k := 1) (n := 6) (by omega) (by omega) ?_
      have hr9 := Option.some.inj hf
      subst hr9
      exact x_r hx hb hr hlocks hH dX9_ruleAt_43
    · have hf := iq hf c14
      exact Jj1 () _ _ ls hH (lv_sub hl [] rfl) hf
set_option maxRecDepth 100000 in
def f_X9_except (S : PS) (a0 : Nat) (p1 : Int32) : Option ((PS × Int32) ⊕ (PS × Nat)) := if kK S a0 = 13 then (bx2 (f_X9_ruleAt S a0 p1) fun S3 a4 => if kK S3 a0 = 13 then ((kQ S3 a0 0).bind fun a6 => if kK S3 a6 = 9 then ((f_X5_count S3 a6).bind fun r9 => (f_X9_isWord S3 a6 0 r9).bind fun r11 => if r11 = 0 then (some (.inr (S3, 4))) else (if kK S3 a4 = 10 then ((kQ S3 a4 4).bind fun a15 => if kK S3 a15 = 3 then ((f_Jx4a65c_size_8abf5 S3 a15).bind fun r18 => if r18 < (3 : Int32) then ((f_X5_count S3 a6).bind fun r21 => (f_X5_part S3 a6 0 r21).bind fun r23 => lt r23.1 fun S25 => if kK S25 a15 = 3 then ((f_Jx4a65c_add_9ea2d S25 a15 r23.2).bind fun r28 => lt r28.1 fun S30 => if kK S30 a0 = 13 then ((f_X9_noteTold S30 a0).bind fun r33 => if kK r33 a4 = 10 then ((kQ r33 a4 4).bind fun a36 => if kK r33 a36 = 3 then ((f_Jx4a65c_size_8abf5 r33 a36).bind fun r39 => some (.inl (r33, r39))) else none) else none) else none) else none) else (some (.inr (S3, 2)))) else none) else none)) else none) else none) else none
abbrev rmX9_except : Room := { frames := 9, cells := 4, slots := 208, locals := 258 }
set_option maxHeartbeats 4000000 in
set_option maxRecDepth 100000 in
theorem c_X9_except (l : Launch) (hst9 : l.stackTraces = false) (D : va_G × Nat) (S : PS) (a0 : Nat) (p1 : Int32) (r : (PS × Int32) ⊕ (PS × Nat)) (hf : f_X9_except S a0 p1 = some r) : XM l D yX9_except wsX9_except rmX9_except S [.ref a0, .int p1] (mI r) 4 208 := by
  unfold f_X9_except at hf
  refine vx_ofW (cc := cX9_except) (maxL := 3) (ret := (some .int)) (by decide) rfl ?_
  intro p e s m args below meth c s₁ B hml hxt hv
  obtain ⟨rfl, hH0, hE, hNE⟩ := hv
  have hB := hH0.base
  have hx := B.exec
  have hb := B.bytes
  have hr := B.returns
  have hts := atoms_spec (ws := wsX9_except) B.pre
  have hown : s.vm.findClass RX9 = some m.cls := findClass_of_methodNamed B.named
  have hlocks := B.notSynchronized
  have hH : HI D S S s s.heap [] := HI.start hH0
  have hl := lv_entry ([.ref a0, .int p1]) (n := 3) (Nat.le_of_ble_eq_true rfl)
  rw [lg_entry_eq]
  generalize (lg_sl ([.ref a0, .int p1]) ++ List.replicate (3 - (lg_sl ([.ref a0, .int p1])).length) Slot.unset).toArray = ls at hl ⊢
  have hl : lv_has ls 3 [(0, .ref a0), (1, .int p1)] := hl
  refine lv_aload_n hx hb dX9_except_0 rfl (lv_at hl 0 rfl) ?_
  refine lv_iload_n hx hb dX9_except_1 rfl (lv_at hl 1 rfl) ?_
  obtain ⟨ek1, hf⟩ := oc hf
  rcases obx2 hf with ⟨x4_, e2, rfl⟩ | ⟨S3, a4, e2, hf⟩
  · refine r_xVex (As := [.int p1]) ⟨hx, hb, hml, hown, hts⟩ (c_X9_ruleAt l hst9 D S a0 p1 (.inr x4_) e2) (cwV 1 hts (gwV gw_24_9 gw_24_10 gw_24_11 gw_14_5 gw_24_6) rfl rfl rfl (by decide +kernel) ⟨Nat.le_of_ble_eq_true rfl, Nat.le_of_ble_eq_true rfl⟩) hH hE hB hNE 12 ek1 (by decide) rfl rfl rfl hl.1 rfl (Nat.le_of_ble_eq_true rfl) dX9_except_2 ⟨(Nat.le_of_ble_eq_true rfl), (Nat.le_of_ble_eq_true rfl)⟩ (fun z9 ce9 q9 H locs hH hk9 hz9 h91 h92 h93 => ?_)
    exact x_out hxt hlocks hH hk9 hz9 h91 h92 h93 ⟨Nat.le_of_ble_eq_true rfl, Nat.le_of_ble_eq_true rfl⟩
  refine r_xVok (As := [.int p1]) (S' := S3) (v := (some (.ref a4))) (st1 := [.ref a4]) ⟨hx, hb, hml, hown, hts⟩ (c_X9_ruleAt l hst9 D S a0 p1 (.inl (S3, a4)) e2) (cwV 1 hts (gwV gw_24_9 gw_24_10 gw_24_11 gw_14_5 gw_24_6) rfl rfl rfl (by decide +kernel) ⟨Nat.le_of_ble_eq_true rfl, Nat.le_of_ble_eq_true rfl⟩) hH hE hB hNE 12 ek1 (by decide) rfl rfl rfl hl.1 rfl (Nat.le_of_ble_eq_true rfl) dX9_except_2 ⟨(Nat.le_of_ble_eq_true rfl), (Nat.le_of_ble_eq_true rfl)⟩ rfl (fun H locs hH => ?_)
  refine W.widen (k := 1) (n := 6) (by omega) (by omega) ?_
  refine lv_astore_n (lv' := [(2, .ref a4), (0, .ref a0), (1, .int p1)]) hx hb dX9_except_5 rfl hl (by decide) rfl (fun ls hl => ?_)
  refine lv_aload_n hx hb dX9_except_6 rfl (lv_at hl 1 rfl) ?_
  obtain ⟨ek5, hf⟩ := oc hf
  obtain ⟨a6, e7, hf⟩ := ob hf
  refine r_getQ hx hb 12 hts (fun w h => List.mem_cons_of_mem _ (mwsX90 w h)) hown hH ek5 (by decide) rfl 0 (by decide) rfl (hts (.fieldLink RX9 14 "Housestyle" "typed" "LHousestyle$Row;") (List.mem_cons_of_mem _ gw_19_21)) (fun _ h9 => h9) dX9_except_7 e7 ?_
  refine lv_iconst (v := 0) hx hb dX9_except_10 (by decide) ?_
  refine lv_aload_n hx hb dX9_except_11 rfl (lv_at hl 1 rfl) ?_
  refine r_getQ hx hb 12 hts (fun w h => List.mem_cons_of_mem _ (mwsX90 w h)) hown hH ek5 (by decide) rfl 0 (by decide) rfl (hts (.fieldLink RX9 14 "Housestyle" "typed" "LHousestyle$Row;") (List.mem_cons_of_mem _ gw_19_21)) (fun _ h9 => h9) dX9_except_12 e7 ?_
  obtain ⟨ek8, hf⟩ := oc hf
  obtain ⟨r9, e10, hf⟩ := ob hf
  refine r_callVi (As := []) ⟨hx, hb, hml, hown, hts⟩ (c_X5_count l D S3 a6 r9 e10) (cwV 0 hts (gwV gw_21_15 gw_1_15 gw_1_16 gw_1_5 gw_1_11) rfl rfl rfl (by decide +kernel) ⟨Nat.le_of_ble_eq_true rfl, Nat.le_of_ble_eq_true rfl⟩) hH hNE 8 ek8 (by decide) rfl rfl rfl hl.1 rfl (Nat.le_of_ble_eq_true rfl) dX9_except_15 ⟨(Nat.le_of_ble_eq_true rfl), (Nat.le_of_ble_eq_true rfl)⟩ (fun H locs hH => ?_)
  obtain ⟨r11, e12, hf⟩ := ob hf
  refine r_callSi (As := [.ref a6, .int 0, .int r9]) ⟨hx, hb, hml, hown, hts⟩ (c_X9_isWord l D S3 a6 0 r9 r11 e12) (va_cwS 3 hts (gwS gw_24_12 gw_14_7 gw_14_5 gw_14_1) rfl rfl rfl (by decide +kernel) ⟨Nat.le_of_ble_eq_true rfl, Nat.le_of_ble_eq_true rfl⟩) hH hNE rfl hl.1 rfl (Nat.le_of_ble_eq_true rfl) dX9_except_18 ⟨(Nat.le_of_ble_eq_true rfl), (Nat.le_of_ble_eq_true rfl)⟩ (fun H locs hH => ?_)
  refine lv_if_ne (tgt := 34) hx hb dX9_except_21 (by decide) (fun c13 => ?_) (fun c13 => ?_)
  · have hf := iq hf c13
    refine lv_aload_n hx hb dX9_except_34 rfl (lv_at hl 0 rfl) ?_
    obtain ⟨ek14, hf⟩ := oc hf
    obtain ⟨a15, e16, hf⟩ := ob hf
    refine r_getQN hx hb 9 hts (fun w h => List.mem_cons_of_mem _ (mwsX60 w h)) hown hH ek14 (by decide) rfl 4 (by decide) rfl (nf_2 hNE) (fun _ h9 => h9) dX9_except_35 e16 ?_
    obtain ⟨ek17, hf⟩ := oc hf
    obtain ⟨r18, e19, hf⟩ := ob hf
    refine r_callVi (As := []) ⟨hx, hb, hml, hown, hts⟩ (c_Jx4a65c_size_8abf5 l D S3 a15 r18 e19) (cwV 0 hts (gwV gw_22_3 gw_4_10 gw_4_11 gw_1_0 gw_1_18) rfl rfl rfl (by decide +kernel) ⟨Nat.le_of_ble_eq_true rfl, Nat.le_of_ble_eq_true rfl⟩) hH hNE 2 ek17 (by decide) rfl rfl rfl hl.1 rfl (Nat.le_of_ble_eq_true rfl) dX9_except_38 ⟨(Nat.le_of_ble_eq_true rfl), (Nat.le_of_ble_eq_true rfl)⟩ (fun H locs hH => ?_)
    refine lv_iconst (v := 3) hx hb dX9_except_41 (by decide) ?_
    refine lv_icmp_lt (tgt := 55) hx hb dX9_except_42 (by decide) (fun c20 => ?_) (fun c20 => ?_)
    · have hf := ip hf c20
      refine lv_aload_n hx hb dX9_except_55 rfl (lv_at hl 0 rfl) ?_
      refine r_getQN hx hb 9 hts (fun w h => List.mem_cons_of_mem _ (mwsX60 w h)) hown hH ek14 (by decide) rfl 4 (by decide) rfl (nf_2 hNE) (fun _ h9 => h9) dX9_except_56 e16 ?_
      refine lv_aload_n hx hb dX9_except_59 rfl (lv_at hl 1 rfl) ?_
      refine r_getQ hx hb 12 hts (fun w h => List.mem_cons_of_mem _ (mwsX90 w h)) hown hH ek5 (by decide) rfl 0 (by decide) rfl (hts (.fieldLink RX9 14 "Housestyle" "typed" "LHousestyle$Row;") (List.mem_cons_of_mem _ gw_19_21)) (fun _ h9 => h9) dX9_except_60 e7 ?_
      refine lv_iconst (v := 0) hx hb dX9_except_63 (by decide) ?_
      refine lv_aload_n hx hb dX9_except_64 rfl (lv_at hl 1 rfl) ?_
      refine r_getQ hx hb 12 hts (fun w h => List.mem_cons_of_mem _ (mwsX90 w h)) hown hH ek5 (by decide) rfl 0 (by decide) rfl (hts (.fieldLink RX9 14 "Housestyle" "typed" "LHousestyle$Row;") (List.mem_cons_of_mem _ gw_19_21)) (fun _ h9 => h9) dX9_except_65 e7 ?_
      obtain ⟨r21, e22, hf⟩ := ob hf
      refine r_callVi (As := []) ⟨hx, hb, hml, hown, hts⟩ (c_X5_count l D S3 a6 r21 e22) (cwV 0 hts (gwV gw_21_15 gw_1_15 gw_1_16 gw_1_5 gw_1_11) rfl rfl rfl (by decide +kernel) ⟨Nat.le_of_ble_eq_true rfl, Nat.le_of_ble_eq_true rfl⟩) hH hNE 8 ek8 (by decide) rfl rfl rfl hl.1 rfl (Nat.le_of_ble_eq_true rfl) dX9_except_68 ⟨(Nat.le_of_ble_eq_true rfl), (Nat.le_of_ble_eq_true rfl)⟩ (fun H locs hH => ?_)
      obtain ⟨r23, e24, hf⟩ := ob hf
      refine r_callVr (As := [.int 0, .int r21]) ⟨hx, hb, hml, hown, hts⟩ (c_X5_part l D S3 a6 0 r21 r23 e24) (cwV 2 hts (gwV gw_24_13 gw_13_22 gw_13_23 gw_1_5 gw_13_13) rfl rfl rfl (by decide +kernel) ⟨Nat.le_of_ble_eq_true rfl, Nat.le_of_ble_eq_true rfl⟩) hH hNE 8 ek8 (by decide) rfl rfl rfl hl.1 rfl (Nat.le_of_ble_eq_true rfl) dX9_except_71 ⟨(Nat.le_of_ble_eq_true rfl), (Nat.le_of_ble_eq_true rfl)⟩ (fun H locs hH => ?_)
      obtain ⟨S25, e26, hf⟩ := ol hf
      rw [e26] at hH
      refine W.widen (k := 3) (n := 188) (by omega) (by omega) ?_
      obtain ⟨ek27, hf⟩ := oc hf
      obtain ⟨r28, e29, hf⟩ := ob hf
      refine r_callVi (As := [.ref r23.2]) ⟨hx, hb, hml, hown, hts⟩ (c_Jx4a65c_add_9ea2d l D S25 a15 r23.2 r28 e29) (cwV 1 hts (gwV gw_21_3 gw_17_0 gw_17_1 gw_1_0 gw_16_8) rfl rfl rfl (by decide +kernel) ⟨Nat.le_of_ble_eq_true rfl, Nat.le_of_ble_eq_true rfl⟩) hH hNE 2 ek27 (by decide) rfl rfl rfl hl.1 rfl (Nat.le_of_ble_eq_true rfl) dX9_except_74 ⟨(Nat.le_of_ble_eq_true rfl), (Nat.le_of_ble_eq_true rfl)⟩ (fun H locs hH => ?_)
      obtain ⟨S30, e31, hf⟩ := ol hf
      rw [e31] at hH
      refine W.widen (k := 4) (n := 208) (by omega) (by omega) ?_
      refine lv_pop hx hb dX9_except_77 rfl ?_
      refine lv_aload_n hx hb dX9_except_78 rfl (lv_at hl 1 rfl) ?_
      obtain ⟨ek32, hf⟩ := oc hf
      obtain ⟨r33, e34, hf⟩ := ob hf
      refine r_callVv (As := []) ⟨hx, hb, hml, hown, hts⟩ (c_X9_noteTold l D S30 a0 r33 e34) (cwV 0 hts (gwV gw_24_3 gw_24_4 gw_24_5 gw_14_5 gw_23_14) rfl rfl rfl (by decide +kernel) ⟨Nat.le_of_ble_eq_true rfl, Nat.le_of_ble_eq_true rfl⟩) hH hNE 12 ek32 (by decide) rfl rfl rfl hl.1 rfl (Nat.le_of_ble_eq_true rfl) dX9_except_79 ⟨(Nat.le_of_ble_eq_true rfl), (Nat.le_of_ble_eq_true rfl)⟩ (fun H locs hH => ?_)
      refine lv_aload_n hx hb dX9_except_82 rfl (lv_at hl 0 rfl) ?_
      obtain ⟨ek35, hf⟩ := oc hf
      obtain ⟨a36, e37, hf⟩ := ob hf
      refine r_getQN hx hb 9 hts (fun w h => List.mem_cons_of_mem _ (mwsX60 w h)) hown hH ek35 (by decide) rfl 4 (by decide) rfl (nf_2 hNE) (fun _ h9 => h9) dX9_except_83 e37 ?_
      obtain ⟨ek38, hf⟩ := oc hf
      obtain ⟨r39, e40, hf⟩ := ob hf
      refine r_callVi (As := []) ⟨hx, hb, hml, hown, hts⟩ (c_Jx4a65c_size_8abf5 l D r33 a36 r39 e40) (cwV 0 hts (gwV gw_22_3 gw_4_10 gw_4_11 gw_1_0 gw_1_18) rfl rfl rfl (by decide +kernel) ⟨Nat.le_of_ble_eq_true rfl, Nat.le_of_ble_eq_true rfl⟩) hH hNE 2 ek38 (by decide) rfl rfl rfl hl.1 rfl (Nat.le_of_ble_eq_true rfl) dX9_except_86 ⟨(Nat.le_of_ble_eq_true rfl), (Nat.le_of_ble_eq_true rfl)⟩ (fun H locs hH => ?_)
      have hr9 := Option.some.inj hf
      subst hr9
      exact x_i hx hb hr hlocks hH dX9_except_89
    · have hf := iq hf c20
      cases hf
      exact r_throw (text := "it has 3") (cls := "java/lang/IllegalStateException") (names := ["java/lang/RuntimeException", "java/lang/Exception"]) 2 hx hb hst9 hown xf1 xn (hts (.classLink RX9 93 "java/lang/IllegalStateException") (List.mem_cons_of_mem _ gw_21_11)) (hts (.initialized "java/lang/IllegalStateException") (List.mem_cons_of_mem _ gw_21_12)) (List.mem_of_getElem? (i := 9) rfl) (xa1 hts hE) xg1 hE hB hH (hl.1.trans hml.symm) rfl dX9_except_45 dX9_except_48 dX9_except_49 dX9_except_51 dX9_except_54 hxt (Nat.le_of_ble_eq_true rfl) (Nat.le_of_ble_eq_true rfl) (Nat.le_of_ble_eq_true rfl) (Nat.le_of_ble_eq_true rfl) hlocks ⟨Nat.le_of_ble_eq_true rfl, Nat.le_of_ble_eq_true rfl⟩
  · have hf := ip hf c13
    cases hf
    exact r_throw (text := "no word") (cls := "java/lang/UnsupportedOperationException") (names := ["java/lang/RuntimeException", "java/lang/Exception"]) 4 hx hb hst9 hown xf3 xn (hts (.classLink RX9 142 "java/lang/UnsupportedOperationException") (List.mem_cons_of_mem _ gw_23_19)) (hts (.initialized "java/lang/UnsupportedOperationException") (List.mem_cons_of_mem _ gw_23_20)) (List.mem_of_getElem? (i := 8) rfl) (xa3 hts hE) xg3 hE hB hH (hl.1.trans hml.symm) rfl dX9_except_24 dX9_except_27 dX9_except_28 dX9_except_30 dX9_except_33 hxt (Nat.le_of_ble_eq_true rfl) (Nat.le_of_ble_eq_true rfl) (Nat.le_of_ble_eq_true rfl) (Nat.le_of_ble_eq_true rfl) hlocks ⟨Nat.le_of_ble_eq_true rfl, Nat.le_of_ble_eq_true rfl⟩
