set_option maxRecDepth 100000 in
def f_X8_isQuoted (S : PS) (a0 : Nat) (p1 : Int32) : Option (Int32) := if kK S a0 = 12 then ((kQ S a0 5).bind fun a2 => if kK S a2 = 9 then ((f_X5_get S a2 p1).bind fun r5 => if r5 = (1 : Int32) then (some 1) else (some 0)) else none) else none
abbrev rmX8_isQuoted : Room := { frames := 1, cells := 0, slots := 0, locals := 21 }
set_option maxHeartbeats 4000000 in
set_option maxRecDepth 100000 in
theorem c_X8_isQuoted (l : Launch) (D : va_G × Nat) (S : PS) (a0 : Nat) (p1 : Int32) (r : Int32) (hf : f_X8_isQuoted S a0 p1 = some r) : MI l D yX8_isQuoted wsX8_isQuoted rmX8_isQuoted S [.ref a0, .int p1] S r 0 0 := by
  unfold f_X8_isQuoted at hf
  refine Met.ofW (cc := cX8_isQuoted) (maxL := 2) (ret := (some .boolean)) (by decide) rfl ?_
  intro p e s m args below meth c s₁ B hml hv
  obtain ⟨rfl, hH0, hNE⟩ := hv
  have hx := B.exec
  have hb := B.bytes
  have hr := B.returns
  have hts := atoms_spec (ws := wsX8_isQuoted) B.pre
  have hown : s.vm.findClass RX8 = some m.cls := findClass_of_methodNamed B.named
  have hlocks := B.notSynchronized
  have hH : HI D S S s s.heap [] := HI.start hH0
  have hl := lv_entry ([.ref a0, .int p1]) (n := 2) (Nat.le_of_ble_eq_true rfl)
  rw [lg_entry_eq]
  generalize (lg_sl ([.ref a0, .int p1]) ++ List.replicate (2 - (lg_sl ([.ref a0, .int p1])).length) Slot.unset).toArray = ls at hl ⊢
  have hl : lv_has ls 2 [(0, .ref a0), (1, .int p1)] := hl
  refine lv_aload_n hx hb dX8_isQuoted_0 rfl (lv_at hl 0 rfl) ?_
  obtain ⟨ek1, hf⟩ := oc hf
  obtain ⟨a2, e3, hf⟩ := ob hf
  refine r_getQ hx hb 11 hts (fun w h => List.mem_cons_of_mem _ (mwsX80 w h)) hown hH ek1 (by decide) rfl 5 (by decide) rfl (hts (.fieldLink RX8 32 "Housestyle$Tokens" "quoted" "LHousestyle$Row;") (List.mem_cons_of_mem _ gw_2_11)) (fun _ h9 => h9) dX8_isQuoted_1 e3 ?_
  refine lv_iload_n hx hb dX8_isQuoted_4 rfl (lv_at hl 1 rfl) ?_
  obtain ⟨ek4, hf⟩ := oc hf
  obtain ⟨r5, e6, hf⟩ := ob hf
  refine r_callVi (As := [.int p1]) ⟨hx, hb, hml, hown, hts⟩ (c_X5_get l D S a2 p1 r5 e6) (cwV 1 hts (gwV gw_2_12 gw_2_13 gw_2_14 gw_1_5 gw_2_9) rfl rfl rfl (by decide +kernel) ⟨Nat.le_of_ble_eq_true rfl, Nat.le_of_ble_eq_true rfl⟩) hH hNE 8 ek4 (by decide) rfl rfl rfl hl.1 rfl (Nat.le_of_ble_eq_true rfl) dX8_isQuoted_5 ⟨(Nat.le_of_ble_eq_true rfl), (Nat.le_of_ble_eq_true rfl)⟩ (fun H locs hH => ?_)
  refine lv_iconst (v := 1) hx hb dX8_isQuoted_8 (by decide) ?_
  refine lv_icmp_ne (tgt := 16) hx hb dX8_isQuoted_9 (by decide) (fun c7 => ?_) (fun c7 => ?_)
  · have hf := iq hf c7
    refine lv_iconst (v := 0) hx hb dX8_isQuoted_16 (by decide) ?_
    have hr9 := Option.some.inj hf
    subst hr9
    exact e_z (r := 0) hx hb hr hlocks rfl hH dX8_isQuoted_17
  · have hf := ip hf c7
    refine lv_iconst (v := 1) hx hb dX8_isQuoted_12 (by decide) ?_
    refine lv_goto (tgt := 17) hx hb dX8_isQuoted_13 (by decide) ?_
    have hr9 := Option.some.inj hf
    subst hr9
    exact e_z (r := 1) hx hb hr hlocks rfl hH dX8_isQuoted_17
set_option maxRecDepth 100000 in
def f_X8_isFirst (S : PS) (a0 : Nat) (p1 : Int32) : Option (Int32) := if kK S a0 = 12 then ((kQ S a0 6).bind fun a2 => if kK S a2 = 9 then ((f_X5_get S a2 p1).bind fun r5 => if r5 = (1 : Int32) then (some 1) else (some 0)) else none) else none
abbrev rmX8_isFirst : Room := { frames := 1, cells := 0, slots := 0, locals := 21 }
set_option maxHeartbeats 4000000 in
set_option maxRecDepth 100000 in
theorem c_X8_isFirst (l : Launch) (D : va_G × Nat) (S : PS) (a0 : Nat) (p1 : Int32) (r : Int32) (hf : f_X8_isFirst S a0 p1 = some r) : MI l D yX8_isFirst wsX8_isFirst rmX8_isFirst S [.ref a0, .int p1] S r 0 0 := by
  unfold f_X8_isFirst at hf
  refine Met.ofW (cc := cX8_isFirst) (maxL := 2) (ret := (some .boolean)) (by decide) rfl ?_
  intro p e s m args below meth c s₁ B hml hv
  obtain ⟨rfl, hH0, hNE⟩ := hv
  have hx := B.exec
  have hb := B.bytes
  have hr := B.returns
  have hts := atoms_spec (ws := wsX8_isFirst) B.pre
  have hown : s.vm.findClass RX8 = some m.cls := findClass_of_methodNamed B.named
  have hlocks := B.notSynchronized
  have hH : HI D S S s s.heap [] := HI.start hH0
  have hl := lv_entry ([.ref a0, .int p1]) (n := 2) (Nat.le_of_ble_eq_true rfl)
  rw [lg_entry_eq]
  generalize (lg_sl ([.ref a0, .int p1]) ++ List.replicate (2 - (lg_sl ([.ref a0, .int p1])).length) Slot.unset).toArray = ls at hl ⊢
  have hl : lv_has ls 2 [(0, .ref a0), (1, .int p1)] := hl
  refine lv_aload_n hx hb dX8_isFirst_0 rfl (lv_at hl 0 rfl) ?_
  obtain ⟨ek1, hf⟩ := oc hf
  obtain ⟨a2, e3, hf⟩ := ob hf
  refine r_getQ hx hb 11 hts (fun w h => List.mem_cons_of_mem _ (mwsX80 w h)) hown hH ek1 (by decide) rfl 6 (by decide) rfl (hts (.fieldLink RX8 35 "Housestyle$Tokens" "first" "LHousestyle$Row;") (List.mem_cons_of_mem _ gw_2_16)) (fun _ h9 => h9) dX8_isFirst_1 e3 ?_
  refine lv_iload_n hx hb dX8_isFirst_4 rfl (lv_at hl 1 rfl) ?_
  obtain ⟨ek4, hf⟩ := oc hf
  obtain ⟨r5, e6, hf⟩ := ob hf
  refine r_callVi (As := [.int p1]) ⟨hx, hb, hml, hown, hts⟩ (c_X5_get l D S a2 p1 r5 e6) (cwV 1 hts (gwV gw_2_12 gw_2_13 gw_2_14 gw_1_5 gw_2_9) rfl rfl rfl (by decide +kernel) ⟨Nat.le_of_ble_eq_true rfl, Nat.le_of_ble_eq_true rfl⟩) hH hNE 8 ek4 (by decide) rfl rfl rfl hl.1 rfl (Nat.le_of_ble_eq_true rfl) dX8_isFirst_5 ⟨(Nat.le_of_ble_eq_true rfl), (Nat.le_of_ble_eq_true rfl)⟩ (fun H locs hH => ?_)
  refine lv_iconst (v := 1) hx hb dX8_isFirst_8 (by decide) ?_
  refine lv_icmp_ne (tgt := 16) hx hb dX8_isFirst_9 (by decide) (fun c7 => ?_) (fun c7 => ?_)
  · have hf := iq hf c7
    refine lv_iconst (v := 0) hx hb dX8_isFirst_16 (by decide) ?_
    have hr9 := Option.some.inj hf
    subst hr9
    exact e_z (r := 0) hx hb hr hlocks rfl hH dX8_isFirst_17
  · have hf := ip hf c7
    refine lv_iconst (v := 1) hx hb dX8_isFirst_12 (by decide) ?_
    refine lv_goto (tgt := 17) hx hb dX8_isFirst_13 (by decide) ?_
    have hr9 := Option.some.inj hf
    subst hr9
    exact e_z (r := 1) hx hb hr hlocks rfl hH dX8_isFirst_17
set_option maxRecDepth 100000 in
def f_X8_goesOn (S : PS) (a0 : Nat) (p1 : Int32) : Option (Int32) := if kK S a0 = 12 then ((kQ S a0 2).bind fun a2 => if kK S a2 = 9 then ((f_X5_get S a2 p1).bind fun r5 => (f_X8_count S a0).bind fun r7 => if r7 ≤ (p1 + 1) then (some 0) else ((kQ S a0 0).bind fun a10 => if kK S a10 = 9 then ((f_X5_get S a10 r5).bind fun r13 => if r13 = (32 : Int32) then ((kQ S a0 1).bind fun a16 => if kK S a16 = 9 then ((f_X5_get S a16 (p1 + 1)).bind fun r19 => if r19 = (r5 + 1) then (some 1) else (some 0)) else none) else (some 0)) else none)) else none) else none
abbrev rmX8_goesOn : Room := { frames := 2, cells := 0, slots := 0, locals := 40 }
set_option maxHeartbeats 4000000 in
set_option maxRecDepth 100000 in
theorem c_X8_goesOn (l : Launch) (D : va_G × Nat) (S : PS) (a0 : Nat) (p1 : Int32) (r : Int32) (hf : f_X8_goesOn S a0 p1 = some r) : MI l D yX8_goesOn wsX8_goesOn rmX8_goesOn S [.ref a0, .int p1] S r 0 0 := by
  unfold f_X8_goesOn at hf
  refine Met.ofW (cc := cX8_goesOn) (maxL := 3) (ret := (some .boolean)) (by decide) rfl ?_
  intro p e s m args below meth c s₁ B hml hv
  obtain ⟨rfl, hH0, hNE⟩ := hv
  have hx := B.exec
  have hb := B.bytes
  have hr := B.returns
  have hts := atoms_spec (ws := wsX8_goesOn) B.pre
  have hown : s.vm.findClass RX8 = some m.cls := findClass_of_methodNamed B.named
  have hlocks := B.notSynchronized
  have hH : HI D S S s s.heap [] := HI.start hH0
  have hl := lv_entry ([.ref a0, .int p1]) (n := 3) (Nat.le_of_ble_eq_true rfl)
  rw [lg_entry_eq]
  generalize (lg_sl ([.ref a0, .int p1]) ++ List.replicate (3 - (lg_sl ([.ref a0, .int p1])).length) Slot.unset).toArray = ls at hl ⊢
  have hl : lv_has ls 3 [(0, .ref a0), (1, .int p1)] := hl
  refine lv_aload_n hx hb dX8_goesOn_0 rfl (lv_at hl 0 rfl) ?_
  obtain ⟨ek1, hf⟩ := oc hf
  obtain ⟨a2, e3, hf⟩ := ob hf
  refine r_getQ hx hb 11 hts (fun w h => List.mem_cons_of_mem _ (mwsX80 w h)) hown hH ek1 (by decide) rfl 2 (by decide) rfl (hts (.fieldLink RX8 23 "Housestyle$Tokens" "ends" "LHousestyle$Row;") (List.mem_cons_of_mem _ gw_2_18)) (fun _ h9 => h9) dX8_goesOn_1 e3 ?_
  refine lv_iload_n hx hb dX8_goesOn_4 rfl (lv_at hl 1 rfl) ?_
  obtain ⟨ek4, hf⟩ := oc hf
  obtain ⟨r5, e6, hf⟩ := ob hf
  refine r_callVi (As := [.int p1]) ⟨hx, hb, hml, hown, hts⟩ (c_X5_get l D S a2 p1 r5 e6) (cwV 1 hts (gwV gw_2_12 gw_2_13 gw_2_14 gw_1_5 gw_2_9) rfl rfl rfl (by decide +kernel) ⟨Nat.le_of_ble_eq_true rfl, Nat.le_of_ble_eq_true rfl⟩) hH hNE 8 ek4 (by decide) rfl rfl rfl hl.1 rfl (Nat.le_of_ble_eq_true rfl) dX8_goesOn_5 ⟨(Nat.le_of_ble_eq_true rfl), (Nat.le_of_ble_eq_true rfl)⟩ (fun H locs hH => ?_)
  refine lv_istore_n (lv' := [(2, .int r5), (0, .ref a0), (1, .int p1)]) hx hb dX8_goesOn_8 rfl hl (by decide) rfl (fun ls hl => ?_)
  refine lv_iload_n hx hb dX8_goesOn_9 rfl (lv_at hl 2 rfl) ?_
  refine lv_iconst (v := 1) hx hb dX8_goesOn_10 (by decide) ?_
  refine lv_iadd hx hb dX8_goesOn_11 ?_
  refine lv_aload_n hx hb dX8_goesOn_12 rfl (lv_at hl 1 rfl) ?_
  obtain ⟨r7, e8, hf⟩ := ob hf
  refine r_callVi (As := []) ⟨hx, hb, hml, hown, hts⟩ (c_X8_count l D S a0 r7 e8) (cwV 0 hts (gwV gw_2_20 gw_2_21 gw_2_22 gw_2_23 gw_1_12) rfl rfl rfl (by decide +kernel) ⟨Nat.le_of_ble_eq_true rfl, Nat.le_of_ble_eq_true rfl⟩) hH hNE 11 ek1 (by decide) rfl rfl rfl hl.1 rfl (Nat.le_of_ble_eq_true rfl) dX8_goesOn_13 ⟨(Nat.le_of_ble_eq_true rfl), (Nat.le_of_ble_eq_true rfl)⟩ (fun H locs hH => ?_)
  refine lv_icmp_ge (tgt := 52) hx hb dX8_goesOn_16 (by decide) (fun c9 => ?_) (fun c9 => ?_)
  · have hf := ip hf c9
    refine lv_iconst (v := 0) hx hb dX8_goesOn_52 (by decide) ?_
    have hr9 := Option.some.inj hf
    subst hr9
    exact e_z (r := 0) hx hb hr hlocks rfl hH dX8_goesOn_53
  · have hf := iq hf c9
    refine lv_aload_n hx hb dX8_goesOn_19 rfl (lv_at hl 1 rfl) ?_
    obtain ⟨a10, e11, hf⟩ := ob hf
    refine r_getQ hx hb 11 hts (fun w h => List.mem_cons_of_mem _ (mwsX80 w h)) hown hH ek1 (by decide) rfl 0 (by decide) rfl (hts (.fieldLink RX8 9 "Housestyle$Tokens" "signs" "LHousestyle$Row;") (List.mem_cons_of_mem _ gw_2_19)) (fun _ h9 => h9) dX8_goesOn_20 e11 ?_
    refine lv_iload_n hx hb dX8_goesOn_23 rfl (lv_at hl 0 rfl) ?_
    obtain ⟨ek12, hf⟩ := oc hf
    obtain ⟨r13, e14, hf⟩ := ob hf
    refine r_callVi (As := [.int r5]) ⟨hx, hb, hml, hown, hts⟩ (c_X5_get l D S a10 r5 r13 e14) (cwV 1 hts (gwV gw_2_12 gw_2_13 gw_2_14 gw_1_5 gw_2_9) rfl rfl rfl (by decide +kernel) ⟨Nat.le_of_ble_eq_true rfl, Nat.le_of_ble_eq_true rfl⟩) hH hNE 8 ek12 (by decide) rfl rfl rfl hl.1 rfl (Nat.le_of_ble_eq_true rfl) dX8_goesOn_24 ⟨(Nat.le_of_ble_eq_true rfl), (Nat.le_of_ble_eq_true rfl)⟩ (fun H locs hH => ?_)
    refine lv_bipush (v := 32) hx hb dX8_goesOn_27 (by decide) ?_
    refine lv_icmp_ne (tgt := 52) hx hb dX8_goesOn_29 (by decide) (fun c15 => ?_) (fun c15 => ?_)
    · have hf := iq hf c15
      refine lv_iconst (v := 0) hx hb dX8_goesOn_52 (by decide) ?_
      have hr9 := Option.some.inj hf
      subst hr9
      exact e_z (r := 0) hx hb hr hlocks rfl hH dX8_goesOn_53
    · have hf := ip hf c15
      refine lv_aload_n hx hb dX8_goesOn_32 rfl (lv_at hl 1 rfl) ?_
      obtain ⟨a16, e17, hf⟩ := ob hf
      refine r_getQ hx hb 11 hts (fun w h => List.mem_cons_of_mem _ (mwsX80 w h)) hown hH ek1 (by decide) rfl 1 (by decide) rfl (hts (.fieldLink RX8 20 "Housestyle$Tokens" "froms" "LHousestyle$Row;") (List.mem_cons_of_mem _ gw_1_13)) (fun _ h9 => h9) dX8_goesOn_33 e17 ?_
      refine lv_iload_n hx hb dX8_goesOn_36 rfl (lv_at hl 2 rfl) ?_
      refine lv_iconst (v := 1) hx hb dX8_goesOn_37 (by decide) ?_
      refine lv_iadd hx hb dX8_goesOn_38 ?_
      obtain ⟨ek18, hf⟩ := oc hf
      obtain ⟨r19, e20, hf⟩ := ob hf
      refine r_callVi (As := [.int (p1 + 1)]) ⟨hx, hb, hml, hown, hts⟩ (c_X5_get l D S a16 (p1 + 1) r19 e20) (cwV 1 hts (gwV gw_2_12 gw_2_13 gw_2_14 gw_1_5 gw_2_9) rfl rfl rfl (by decide +kernel) ⟨Nat.le_of_ble_eq_true rfl, Nat.le_of_ble_eq_true rfl⟩) hH hNE 8 ek18 (by decide) rfl rfl rfl hl.1 rfl (Nat.le_of_ble_eq_true rfl) dX8_goesOn_39 ⟨(Nat.le_of_ble_eq_true rfl), (Nat.le_of_ble_eq_true rfl)⟩ (fun H locs hH => ?_)
      refine lv_iload_n hx hb dX8_goesOn_42 rfl (lv_at hl 0 rfl) ?_
      refine lv_iconst (v := 1) hx hb dX8_goesOn_43 (by decide) ?_
      refine lv_iadd hx hb dX8_goesOn_44 ?_
      refine lv_icmp_ne (tgt := 52) hx hb dX8_goesOn_45 (by decide) (fun c21 => ?_) (fun c21 => ?_)
      · have hf := iq hf c21
        refine lv_iconst (v := 0) hx hb dX8_goesOn_52 (by decide) ?_
        have hr9 := Option.some.inj hf
        subst hr9
        exact e_z (r := 0) hx hb hr hlocks rfl hH dX8_goesOn_53
      · have hf := ip hf c21
        refine lv_iconst (v := 1) hx hb dX8_goesOn_48 (by decide) ?_
        refine lv_goto (tgt := 53) hx hb dX8_goesOn_49 (by decide) ?_
        have hr9 := Option.some.inj hf
        subst hr9
        exact e_z (r := 1) hx hb hr hlocks rfl hH dX8_goesOn_53
set_option maxRecDepth 100000 in
def f_X8_isNumber (S : PS) (a0 : Nat) (p1 : Int32) : Option (Int32) := if kK S a0 = 12 then ((kQ S a0 3).bind fun a2 => if kK S a2 = 9 then ((f_X5_get S a2 p1).bind fun r5 => if r5 = (2 : Int32) then (some 1) else (some 0)) else none) else none
abbrev rmX8_isNumber : Room := { frames := 1, cells := 0, slots := 0, locals := 21 }
set_option maxHeartbeats 4000000 in
set_option maxRecDepth 100000 in
theorem c_X8_isNumber (l : Launch) (D : va_G × Nat) (S : PS) (a0 : Nat) (p1 : Int32) (r : Int32) (hf : f_X8_isNumber S a0 p1 = some r) : MI l D yX8_isNumber wsX8_isNumber rmX8_isNumber S [.ref a0, .int p1] S r 0 0 := by
  unfold f_X8_isNumber at hf
  refine Met.ofW (cc := cX8_isNumber) (maxL := 2) (ret := (some .boolean)) (by decide) rfl ?_
  intro p e s m args below meth c s₁ B hml hv
  obtain ⟨rfl, hH0, hNE⟩ := hv
  have hx := B.exec
  have hb := B.bytes
  have hr := B.returns
  have hts := atoms_spec (ws := wsX8_isNumber) B.pre
  have hown : s.vm.findClass RX8 = some m.cls := findClass_of_methodNamed B.named
  have hlocks := B.notSynchronized
  have hH : HI D S S s s.heap [] := HI.start hH0
  have hl := lv_entry ([.ref a0, .int p1]) (n := 2) (Nat.le_of_ble_eq_true rfl)
  rw [lg_entry_eq]
  generalize (lg_sl ([.ref a0, .int p1]) ++ List.replicate (2 - (lg_sl ([.ref a0, .int p1])).length) Slot.unset).toArray = ls at hl ⊢
  have hl : lv_has ls 2 [(0, .ref a0), (1, .int p1)] := hl
  refine lv_aload_n hx hb dX8_isNumber_0 rfl (lv_at hl 0 rfl) ?_
  obtain ⟨ek1, hf⟩ := oc hf
  obtain ⟨a2, e3, hf⟩ := ob hf
  refine r_getQ hx hb 11 hts (fun w h => List.mem_cons_of_mem _ (mwsX80 w h)) hown hH ek1 (by decide) rfl 3 (by decide) rfl (hts (.fieldLink RX8 26 "Housestyle$Tokens" "kinds" "LHousestyle$Row;") (List.mem_cons_of_mem _ gw_3_1)) (fun _ h9 => h9) dX8_isNumber_1 e3 ?_
  refine lv_iload_n hx hb dX8_isNumber_4 rfl (lv_at hl 1 rfl) ?_
  obtain ⟨ek4, hf⟩ := oc hf
  obtain ⟨r5, e6, hf⟩ := ob hf
  refine r_callVi (As := [.int p1]) ⟨hx, hb, hml, hown, hts⟩ (c_X5_get l D S a2 p1 r5 e6) (cwV 1 hts (gwV gw_2_12 gw_2_13 gw_2_14 gw_1_5 gw_2_9) rfl rfl rfl (by decide +kernel) ⟨Nat.le_of_ble_eq_true rfl, Nat.le_of_ble_eq_true rfl⟩) hH hNE 8 ek4 (by decide) rfl rfl rfl hl.1 rfl (Nat.le_of_ble_eq_true rfl) dX8_isNumber_5 ⟨(Nat.le_of_ble_eq_true rfl), (Nat.le_of_ble_eq_true rfl)⟩ (fun H locs hH => ?_)
  refine lv_iconst (v := 2) hx hb dX8_isNumber_8 (by decide) ?_
  refine lv_icmp_ne (tgt := 16) hx hb dX8_isNumber_9 (by decide) (fun c7 => ?_) (fun c7 => ?_)
  · have hf := iq hf c7
    refine lv_iconst (v := 0) hx hb dX8_isNumber_16 (by decide) ?_
    have hr9 := Option.some.inj hf
    subst hr9
    exact e_z (r := 0) hx hb hr hlocks rfl hH dX8_isNumber_17
  · have hf := ip hf c7
    refine lv_iconst (v := 1) hx hb dX8_isNumber_12 (by decide) ?_
    refine lv_goto (tgt := 17) hx hb dX8_isNumber_13 (by decide) ?_
    have hr9 := Option.some.inj hf
    subst hr9
    exact e_z (r := 1) hx hb hr hlocks rfl hH dX8_isNumber_17
set_option maxRecDepth 100000 in
def f_X8_isWord (S : PS) (a0 : Nat) (p1 : Int32) : Option (Int32) := if kK S a0 = 12 then ((kQ S a0 3).bind fun a2 => if kK S a2 = 9 then ((f_X5_get S a2 p1).bind fun r5 => if r5 = (1 : Int32) then (some 1) else (some 0)) else none) else none
abbrev rmX8_isWord : Room := { frames := 1, cells := 0, slots := 0, locals := 21 }
set_option maxHeartbeats 4000000 in
set_option maxRecDepth 100000 in
theorem c_X8_isWord (l : Launch) (D : va_G × Nat) (S : PS) (a0 : Nat) (p1 : Int32) (r : Int32) (hf : f_X8_isWord S a0 p1 = some r) : MI l D yX8_isWord wsX8_isWord rmX8_isWord S [.ref a0, .int p1] S r 0 0 := by
  unfold f_X8_isWord at hf
  refine Met.ofW (cc := cX8_isWord) (maxL := 2) (ret := (some .boolean)) (by decide) rfl ?_
  intro p e s m args below meth c s₁ B hml hv
  obtain ⟨rfl, hH0, hNE⟩ := hv
  have hx := B.exec
  have hb := B.bytes
  have hr := B.returns
  have hts := atoms_spec (ws := wsX8_isWord) B.pre
  have hown : s.vm.findClass RX8 = some m.cls := findClass_of_methodNamed B.named
  have hlocks := B.notSynchronized
  have hH : HI D S S s s.heap [] := HI.start hH0
  have hl := lv_entry ([.ref a0, .int p1]) (n := 2) (Nat.le_of_ble_eq_true rfl)
  rw [lg_entry_eq]
  generalize (lg_sl ([.ref a0, .int p1]) ++ List.replicate (2 - (lg_sl ([.ref a0, .int p1])).length) Slot.unset).toArray = ls at hl ⊢
  have hl : lv_has ls 2 [(0, .ref a0), (1, .int p1)] := hl
  refine lv_aload_n hx hb dX8_isWord_0 rfl (lv_at hl 0 rfl) ?_
  obtain ⟨ek1, hf⟩ := oc hf
  obtain ⟨a2, e3, hf⟩ := ob hf
  refine r_getQ hx hb 11 hts (fun w h => List.mem_cons_of_mem _ (mwsX80 w h)) hown hH ek1 (by decide) rfl 3 (by decide) rfl (hts (.fieldLink RX8 26 "Housestyle$Tokens" "kinds" "LHousestyle$Row;") (List.mem_cons_of_mem _ gw_3_1)) (fun _ h9 => h9) dX8_isWord_1 e3 ?_
  refine lv_iload_n hx hb dX8_isWord_4 rfl (lv_at hl 1 rfl) ?_
  obtain ⟨ek4, hf⟩ := oc hf
  obtain ⟨r5, e6, hf⟩ := ob hf
  refine r_callVi (As := [.int p1]) ⟨hx, hb, hml, hown, hts⟩ (c_X5_get l D S a2 p1 r5 e6) (cwV 1 hts (gwV gw_2_12 gw_2_13 gw_2_14 gw_1_5 gw_2_9) rfl rfl rfl (by decide +kernel) ⟨Nat.le_of_ble_eq_true rfl, Nat.le_of_ble_eq_true rfl⟩) hH hNE 8 ek4 (by decide) rfl rfl rfl hl.1 rfl (Nat.le_of_ble_eq_true rfl) dX8_isWord_5 ⟨(Nat.le_of_ble_eq_true rfl), (Nat.le_of_ble_eq_true rfl)⟩ (fun H locs hH => ?_)
  refine lv_iconst (v := 1) hx hb dX8_isWord_8 (by decide) ?_
  refine lv_icmp_ne (tgt := 16) hx hb dX8_isWord_9 (by decide) (fun c7 => ?_) (fun c7 => ?_)
  · have hf := iq hf c7
    refine lv_iconst (v := 0) hx hb dX8_isWord_16 (by decide) ?_
    have hr9 := Option.some.inj hf
    subst hr9
    exact e_z (r := 0) hx hb hr hlocks rfl hH dX8_isWord_17
  · have hf := ip hf c7
    refine lv_iconst (v := 1) hx hb dX8_isWord_12 (by decide) ?_
    refine lv_goto (tgt := 17) hx hb dX8_isWord_13 (by decide) ?_
    have hr9 := Option.some.inj hf
    subst hr9
    exact e_z (r := 1) hx hb hr hlocks rfl hH dX8_isWord_17
set_option maxRecDepth 100000 in
def f_X8_begins_b31 (a0 : Nat) (b2 : Nat) (r5 : Int32) (S : PS) (x16 : Int32) : Option ((Int32) ⊕ ((Unit) ⊕ (Unit))) := (f_X5_count S b2).bind fun r24 => if r24 ≤ x16 then (some (.inr (.inl ()))) else ((kQ S a0 0).bind fun a27 => if kK S a27 = 9 then ((f_X5_get S a27 (r5 + x16)).bind fun r30 => (f_X5_get S b2 x16).bind fun r32 => if r30 = r32 then (lt (x16 + 1) fun x35 => some (.inl x35)) else (some (.inr (.inr ())))) else none)
set_option maxRecDepth 100000 in
def f_X8_begins (S : PS) (a0 : Nat) (p1 : Int32) (b2 : Nat) : Option (Int32) := if kK S a0 = 12 then ((kQ S a0 1).bind fun a2 => if kK S a2 = 9 then ((f_X5_get S a2 p1).bind fun r5 => (kQ S a0 2).bind fun a7 => if kK S a7 = 9 then ((f_X5_get S a7 p1).bind fun r10 => if kK S b2 = 9 then ((f_X5_count S b2).bind fun r13 => if r13 ≤ (r10 - r5) then (lt (fun (u19 : Unit) => some 1) fun k17 => lt (fun (u22 : Unit) => some 0) fun k20 => (iter (fun (v : Int32) => f_X8_begins_b31 a0 b2 r5 S v) kF 0).bind (fun (z : (Unit) ⊕ (Unit)) => Sum.elim (fun (v : Unit) => k17 v) (fun (v : Unit) => k20 v) z)) else (some 0)) else none) else none) else none) else none
abbrev rmX8_begins : Room := { frames := 1, cells := 0, slots := 0, locals := 21 }
set_option maxHeartbeats 4000000 in
set_option maxRecDepth 100000 in
theorem c_X8_begins (l : Launch) (D : va_G × Nat) (S : PS) (a0 : Nat) (p1 : Int32) (b2 : Nat) (r : Int32) (hf : f_X8_begins S a0 p1 b2 = some r) : MI l D yX8_begins wsX8_begins rmX8_begins S [.ref a0, .int p1, .ref b2] S r 0 0 := by
  unfold f_X8_begins at hf
  refine Met.ofW (cc := cX8_begins) (maxL := 5) (ret := (some .boolean)) (by decide) rfl ?_
  intro p e s m args below meth c s₁ B hml hv
  obtain ⟨rfl, hH0, hNE⟩ := hv
  have hx := B.exec
  have hb := B.bytes
  have hr := B.returns
  have hts := atoms_spec (ws := wsX8_begins) B.pre
  have hown : s.vm.findClass RX8 = some m.cls := findClass_of_methodNamed B.named
  have hlocks := B.notSynchronized
  have hH : HI D S S s s.heap [] := HI.start hH0
  have hl := lv_entry ([.ref a0, .int p1, .ref b2]) (n := 5) (Nat.le_of_ble_eq_true rfl)
  rw [lg_entry_eq]
  generalize (lg_sl ([.ref a0, .int p1, .ref b2]) ++ List.replicate (5 - (lg_sl ([.ref a0, .int p1, .ref b2])).length) Slot.unset).toArray = ls at hl ⊢
  have hl : lv_has ls 5 [(0, .ref a0), (1, .int p1), (2, .ref b2)] := hl
  refine lv_aload_n hx hb dX8_begins_0 rfl (lv_at hl 0 rfl) ?_
  obtain ⟨ek1, hf⟩ := oc hf
  obtain ⟨a2, e3, hf⟩ := ob hf
  refine r_getQ hx hb 11 hts (fun w h => List.mem_cons_of_mem _ (mwsX80 w h)) hown hH ek1 (by decide) rfl 1 (by decide) rfl (hts (.fieldLink RX8 20 "Housestyle$Tokens" "froms" "LHousestyle$Row;") (List.mem_cons_of_mem _ gw_1_13)) (fun _ h9 => h9) dX8_begins_1 e3 ?_
  refine lv_iload_n hx hb dX8_begins_4 rfl (lv_at hl 1 rfl) ?_
  obtain ⟨ek4, hf⟩ := oc hf
  obtain ⟨r5, e6, hf⟩ := ob hf
  refine r_callVi (As := [.int p1]) ⟨hx, hb, hml, hown, hts⟩ (c_X5_get l D S a2 p1 r5 e6) (cwV 1 hts (gwV gw_2_12 gw_2_13 gw_2_14 gw_1_5 gw_2_9) rfl rfl rfl (by decide +kernel) ⟨Nat.le_of_ble_eq_true rfl, Nat.le_of_ble_eq_true rfl⟩) hH hNE 8 ek4 (by decide) rfl rfl rfl hl.1 rfl (Nat.le_of_ble_eq_true rfl) dX8_begins_5 ⟨(Nat.le_of_ble_eq_true rfl), (Nat.le_of_ble_eq_true rfl)⟩ (fun H locs hH => ?_)
  refine lv_istore_n (lv' := [(3, .int r5), (0, .ref a0), (1, .int p1), (2, .ref b2)]) hx hb dX8_begins_8 rfl hl (by decide) rfl (fun ls hl => ?_)
  refine lv_aload_n hx hb dX8_begins_9 rfl (lv_at hl 1 rfl) ?_
  obtain ⟨a7, e8, hf⟩ := ob hf
  refine r_getQ hx hb 11 hts (fun w h => List.mem_cons_of_mem _ (mwsX80 w h)) hown hH ek1 (by decide) rfl 2 (by decide) rfl (hts (.fieldLink RX8 23 "Housestyle$Tokens" "ends" "LHousestyle$Row;") (List.mem_cons_of_mem _ gw_2_18)) (fun _ h9 => h9) dX8_begins_10 e8 ?_
  refine lv_iload_n hx hb dX8_begins_13 rfl (lv_at hl 2 rfl) ?_
  obtain ⟨ek9, hf⟩ := oc hf
  obtain ⟨r10, e11, hf⟩ := ob hf
  refine r_callVi (As := [.int p1]) ⟨hx, hb, hml, hown, hts⟩ (c_X5_get l D S a7 p1 r10 e11) (cwV 1 hts (gwV gw_2_12 gw_2_13 gw_2_14 gw_1_5 gw_2_9) rfl rfl rfl (by decide +kernel) ⟨Nat.le_of_ble_eq_true rfl, Nat.le_of_ble_eq_true rfl⟩) hH hNE 8 ek9 (by decide) rfl rfl rfl hl.1 rfl (Nat.le_of_ble_eq_true rfl) dX8_begins_14 ⟨(Nat.le_of_ble_eq_true rfl), (Nat.le_of_ble_eq_true rfl)⟩ (fun H locs hH => ?_)
  refine lv_iload_n hx hb dX8_begins_17 rfl (lv_at hl 0 rfl) ?_
  refine lv_isub hx hb dX8_begins_18 ?_
  refine lv_aload_n hx hb dX8_begins_19 rfl (lv_at hl 3 rfl) ?_
  obtain ⟨ek12, hf⟩ := oc hf
  obtain ⟨r13, e14, hf⟩ := ob hf
  refine r_callVi (As := []) ⟨hx, hb, hml, hown, hts⟩ (c_X5_count l D S b2 r13 e14) (cwV 0 hts (gwV gw_1_14 gw_1_15 gw_1_16 gw_1_5 gw_1_11) rfl rfl rfl (by decide +kernel) ⟨Nat.le_of_ble_eq_true rfl, Nat.le_of_ble_eq_true rfl⟩) hH hNE 8 ek12 (by decide) rfl rfl rfl hl.1 rfl (Nat.le_of_ble_eq_true rfl) dX8_begins_20 ⟨(Nat.le_of_ble_eq_true rfl), (Nat.le_of_ble_eq_true rfl)⟩ (fun H locs hH => ?_)
  refine lv_icmp_ge (tgt := 28) hx hb dX8_begins_23 (by decide) (fun c15 => ?_) (fun c15 => ?_)
  · have hf := ip hf c15
    refine lv_iconst (v := 0) hx hb dX8_begins_28 (by decide) ?_
    refine lv_istore (lv' := [(4, .int 0), (3, .int r5), (0, .ref a0), (1, .int p1), (2, .ref b2)]) hx hb dX8_begins_29 hl (by decide) rfl (fun ls hl => ?_)
    obtain ⟨k17, e18, hf⟩ := ol hf
    have Xk17 : ∀ (u19 : Unit) (H : Heap) (locs : List Loc) (ls : Array Slot), HI D S S s H locs → lv_has ls 5 [] → k17 u19 = some r → GI p l e (headSpec wsX8_begins rmX8_begins).room s m ([.ref a0, .int p1, .ref b2] : List Value).toArray below meth c D S S r H locs 0 0 0 0 (F0 m 68 ls []) := by
      intro u19 H locs ls hH hl hf
      rw [← e18] at hf
      refine lv_iconst (v := 1) hx hb dX8_begins_68 (by decide) ?_
      have hr9 := Option.some.inj hf
      subst hr9
      exact e_z (r := 1) hx hb hr hlocks rfl hH dX8_begins_69
    obtain ⟨k20, e21, hf⟩ := ol hf
    have Xk20 : ∀ (u22 : Unit) (H : Heap) (locs : List Loc) (ls : Array Slot), HI D S S s H locs → lv_has ls 5 [] → k20 u22 = some r → GI p l e (headSpec wsX8_begins rmX8_begins).room s m ([.ref a0, .int p1, .ref b2] : List Value).toArray below meth c D S S r H locs 0 0 0 0 (F0 m 60 ls []) := by
      intro u22 H locs ls hH hl hf
      rw [← e21] at hf
      refine lv_iconst (v := 0) hx hb dX8_begins_60 (by decide) ?_
      have hr9 := Option.some.inj hf
      subst hr9
      exact e_z (r := 0) hx hb hr hlocks rfl hH dX8_begins_61
    obtain ⟨o23, eo23, hq23f⟩ := ob hf
    have Lo23 : ∀ (n : Nat) (x16 : Int32), iter (fun (v : Int32) => f_X8_begins_b31 a0 b2 r5 S v) n x16 = some o23 → ∀ (H : Heap) (locs : List Loc) (ls : Array Slot), HI D S S s H locs → lv_has ls 5 [(0, .ref a0), (2, .ref b2), (3, .int r5), (4, .int x16)] → GI p l e (headSpec wsX8_begins rmX8_begins).room s m ([.ref a0, .int p1, .ref b2] : List Value).toArray below meth c D S S r H locs 0 0 0 0 (F0 m 31 ls []) := by
      intro n
      induction n with
      | zero => intro x16 hi; cases hi
      | succ n ih23 =>
        intro x16 hi H locs ls hH hl
        obtain ⟨q23_, hf, hq23⟩ := iter_s hi
        have hf : f_X8_begins_b31 a0 b2 r5 S x16 = some q23_ := hf
        unfold f_X8_begins_b31 at hf
        refine lv_iload hx hb dX8_begins_31 (lv_at hl 3 rfl) ?_
        refine lv_aload_n hx hb dX8_begins_33 rfl (lv_at hl 1 rfl) ?_
        obtain ⟨r24, e25, hf⟩ := ob hf
        refine r_callVi (As := []) ⟨hx, hb, hml, hown, hts⟩ (c_X5_count l D S b2 r24 e25) (cwV 0 hts (gwV gw_1_14 gw_1_15 gw_1_16 gw_1_5 gw_1_11) rfl rfl rfl (by decide +kernel) ⟨Nat.le_of_ble_eq_true rfl, Nat.le_of_ble_eq_true rfl⟩) hH hNE 8 ek12 (by decide) rfl rfl rfl hl.1 rfl (Nat.le_of_ble_eq_true rfl) dX8_begins_34 ⟨(Nat.le_of_ble_eq_true rfl), (Nat.le_of_ble_eq_true rfl)⟩ (fun H locs hH => ?_)
        refine lv_icmp_ge (tgt := 68) hx hb dX8_begins_37 (by decide) (fun c26 => ?_) (fun c26 => ?_)
        · have hf := ip hf c26
          cases hf
          have hf9 := itR (K := (fun (z : (Unit) ⊕ (Unit)) => Sum.elim (fun (v : Unit) => k17 v) (fun (v : Unit) => k20 v) z)) hq23 hq23f
          exact Xk17 () _ _ ls hH (lv_sub hl [] rfl) hf9
        · have hf := iq hf c26
          refine lv_aload_n hx hb dX8_begins_40 rfl (lv_at hl 0 rfl) ?_
          obtain ⟨a27, e28, hf⟩ := ob hf
          refine r_getQ hx hb 11 hts (fun w h => List.mem_cons_of_mem _ (mwsX80 w h)) hown hH ek1 (by decide) rfl 0 (by decide) rfl (hts (.fieldLink RX8 9 "Housestyle$Tokens" "signs" "LHousestyle$Row;") (List.mem_cons_of_mem _ gw_2_19)) (fun _ h9 => h9) dX8_begins_41 e28 ?_
          refine lv_iload_n hx hb dX8_begins_44 rfl (lv_at hl 2 rfl) ?_
          refine lv_iload hx hb dX8_begins_45 (lv_at hl 3 rfl) ?_
          refine lv_iadd hx hb dX8_begins_47 ?_
          obtain ⟨ek29, hf⟩ := oc hf
          obtain ⟨r30, e31, hf⟩ := ob hf
          refine r_callVi (As := [.int (r5 + x16)]) ⟨hx, hb, hml, hown, hts⟩ (c_X5_get l D S a27 (r5 + x16) r30 e31) (cwV 1 hts (gwV gw_2_12 gw_2_13 gw_2_14 gw_1_5 gw_2_9) rfl rfl rfl (by decide +kernel) ⟨Nat.le_of_ble_eq_true rfl, Nat.le_of_ble_eq_true rfl⟩) hH hNE 8 ek29 (by decide) rfl rfl rfl hl.1 rfl (Nat.le_of_ble_eq_true rfl) dX8_begins_48 ⟨(Nat.le_of_ble_eq_true rfl), (Nat.le_of_ble_eq_true rfl)⟩ (fun H locs hH => ?_)
          refine lv_aload_n hx hb dX8_begins_51 rfl (lv_at hl 1 rfl) ?_
          refine lv_iload hx hb dX8_begins_52 (lv_at hl 3 rfl) ?_
          obtain ⟨r32, e33, hf⟩ := ob hf
          refine r_callVi (As := [.int x16]) ⟨hx, hb, hml, hown, hts⟩ (c_X5_get l D S b2 x16 r32 e33) (cwV 1 hts (gwV gw_2_12 gw_2_13 gw_2_14 gw_1_5 gw_2_9) rfl rfl rfl (by decide +kernel) ⟨Nat.le_of_ble_eq_true rfl, Nat.le_of_ble_eq_true rfl⟩) hH hNE 8 ek12 (by decide) rfl rfl rfl hl.1 rfl (Nat.le_of_ble_eq_true rfl) dX8_begins_54 ⟨(Nat.le_of_ble_eq_true rfl), (Nat.le_of_ble_eq_true rfl)⟩ (fun H locs hH => ?_)
          refine lv_icmp_eq (tgt := 62) hx hb dX8_begins_57 (by decide) (fun c34 => ?_) (fun c34 => ?_)
          · have hf := ip hf c34
            obtain ⟨x35, e36, hf⟩ := ol hf
            refine lv_iinc (v := x35) (lv' := [(4, .int x35), (0, .ref a0), (2, .ref b2), (3, .int r5)]) hx hb dX8_begins_62 hl (k := 3) rfl (by rw [← e36]; rfl) (by decide) rfl (fun ls hl => ?_)
            refine lv_goto (tgt := 31) hx hb dX8_begins_65 (by decide) ?_
            cases hf
            exact ih23 x35 hq23 _ _ ls hH (lv_sub hl [1, 2, 3, 0] rfl)
          · have hf := iq hf c34
            cases hf
            have hf9 := itR (K := (fun (z : (Unit) ⊕ (Unit)) => Sum.elim (fun (v : Unit) => k17 v) (fun (v : Unit) => k20 v) z)) hq23 hq23f
            exact Xk20 () _ _ ls hH (lv_sub hl [] rfl) hf9
    exact Lo23 kF 0 eo23 _ _ ls hH (lv_sub hl [2, 4, 1, 0] rfl)
  · have hf := iq hf c15
    refine lv_iconst (v := 0) hx hb dX8_begins_26 (by decide) ?_
    have hr9 := Option.some.inj hf
    subst hr9
    exact e_z (r := 0) hx hb hr hlocks rfl hH dX8_begins_27
set_option maxRecDepth 100000 in
def f_X8_lengthOf (S : PS) (a0 : Nat) (p1 : Int32) : Option (Int32) := if kK S a0 = 12 then ((kQ S a0 2).bind fun a2 => if kK S a2 = 9 then ((f_X5_get S a2 p1).bind fun r5 => (kQ S a0 1).bind fun a7 => if kK S a7 = 9 then ((f_X5_get S a7 p1).bind fun r10 => some (r5 - r10)) else none) else none) else none
abbrev rmX8_lengthOf : Room := { frames := 1, cells := 0, slots := 0, locals := 21 }
set_option maxHeartbeats 4000000 in
set_option maxRecDepth 100000 in
theorem c_X8_lengthOf (l : Launch) (D : va_G × Nat) (S : PS) (a0 : Nat) (p1 : Int32) (r : Int32) (hf : f_X8_lengthOf S a0 p1 = some r) : MI l D yX8_lengthOf wsX8_lengthOf rmX8_lengthOf S [.ref a0, .int p1] S r 0 0 := by
  unfold f_X8_lengthOf at hf
  refine Met.ofW (cc := cX8_lengthOf) (maxL := 2) (ret := (some .int)) (by decide) rfl ?_
  intro p e s m args below meth c s₁ B hml hv
  obtain ⟨rfl, hH0, hNE⟩ := hv
  have hx := B.exec
  have hb := B.bytes
  have hr := B.returns
  have hts := atoms_spec (ws := wsX8_lengthOf) B.pre
  have hown : s.vm.findClass RX8 = some m.cls := findClass_of_methodNamed B.named
  have hlocks := B.notSynchronized
  have hH : HI D S S s s.heap [] := HI.start hH0
  have hl := lv_entry ([.ref a0, .int p1]) (n := 2) (Nat.le_of_ble_eq_true rfl)
  rw [lg_entry_eq]
  generalize (lg_sl ([.ref a0, .int p1]) ++ List.replicate (2 - (lg_sl ([.ref a0, .int p1])).length) Slot.unset).toArray = ls at hl ⊢
  have hl : lv_has ls 2 [(0, .ref a0), (1, .int p1)] := hl
  refine lv_aload_n hx hb dX8_lengthOf_0 rfl (lv_at hl 0 rfl) ?_
  obtain ⟨ek1, hf⟩ := oc hf
  obtain ⟨a2, e3, hf⟩ := ob hf
  refine r_getQ hx hb 11 hts (fun w h => List.mem_cons_of_mem _ (mwsX80 w h)) hown hH ek1 (by decide) rfl 2 (by decide) rfl (hts (.fieldLink RX8 23 "Housestyle$Tokens" "ends" "LHousestyle$Row;") (List.mem_cons_of_mem _ gw_2_18)) (fun _ h9 => h9) dX8_lengthOf_1 e3 ?_
  refine lv_iload_n hx hb dX8_lengthOf_4 rfl (lv_at hl 1 rfl) ?_
  obtain ⟨ek4, hf⟩ := oc hf
  obtain ⟨r5, e6, hf⟩ := ob hf
  refine r_callVi (As := [.int p1]) ⟨hx, hb, hml, hown, hts⟩ (c_X5_get l D S a2 p1 r5 e6) (cwV 1 hts (gwV gw_2_12 gw_2_13 gw_2_14 gw_1_5 gw_2_9) rfl rfl rfl (by decide +kernel) ⟨Nat.le_of_ble_eq_true rfl, Nat.le_of_ble_eq_true rfl⟩) hH hNE 8 ek4 (by decide) rfl rfl rfl hl.1 rfl (Nat.le_of_ble_eq_true rfl) dX8_lengthOf_5 ⟨(Nat.le_of_ble_eq_true rfl), (Nat.le_of_ble_eq_true rfl)⟩ (fun H locs hH => ?_)
  refine lv_aload_n hx hb dX8_lengthOf_8 rfl (lv_at hl 0 rfl) ?_
  obtain ⟨a7, e8, hf⟩ := ob hf
  refine r_getQ hx hb 11 hts (fun w h => List.mem_cons_of_mem _ (mwsX80 w h)) hown hH ek1 (by decide) rfl 1 (by decide) rfl (hts (.fieldLink RX8 20 "Housestyle$Tokens" "froms" "LHousestyle$Row;") (List.mem_cons_of_mem _ gw_1_13)) (fun _ h9 => h9) dX8_lengthOf_9 e8 ?_
  refine lv_iload_n hx hb dX8_lengthOf_12 rfl (lv_at hl 1 rfl) ?_
  obtain ⟨ek9, hf⟩ := oc hf
  obtain ⟨r10, e11, hf⟩ := ob hf
  refine r_callVi (As := [.int p1]) ⟨hx, hb, hml, hown, hts⟩ (c_X5_get l D S a7 p1 r10 e11) (cwV 1 hts (gwV gw_2_12 gw_2_13 gw_2_14 gw_1_5 gw_2_9) rfl rfl rfl (by decide +kernel) ⟨Nat.le_of_ble_eq_true rfl, Nat.le_of_ble_eq_true rfl⟩) hH hNE 8 ek9 (by decide) rfl rfl rfl hl.1 rfl (Nat.le_of_ble_eq_true rfl) dX8_lengthOf_13 ⟨(Nat.le_of_ble_eq_true rfl), (Nat.le_of_ble_eq_true rfl)⟩ (fun H locs hH => ?_)
  refine lv_isub hx hb dX8_lengthOf_16 ?_
  have hr9 := Option.some.inj hf
  subst hr9
  exact e_i hx hb hr hlocks hH dX8_lengthOf_17
set_option maxRecDepth 100000 in
def f_X3_fits (S : PS) (a0 : Nat) (b1 : Nat) (p2 : Int32) : Option (Int32) := if kK S a0 = 7 then (if (kI S a0 0) = 0 then (if kK S b1 = 12 then ((f_X8_isWord S b1 p2).bind fun r4 => if r4 = 0 then (some 0) else ((kQ S a0 2).bind fun a7 => (f_X8_begins S b1 p2 a7).bind fun r9 => if r9 = 0 then (some 0) else (lt (fun (u13 : Unit) => some 1) fun j12 => if (kI S a0 1) = 0 then ((f_X8_lengthOf S b1 p2).bind fun r16 => if kK S a7 = 9 then ((f_X5_count S a7).bind fun r19 => if r16 = r19 then (j12 ()) else (some 0)) else none) else (j12 ())))) else none) else (if kK S b1 = 12 then ((f_X8_isNumber S b1 p2).bind fun r23 => if r23 = 0 ∨ r23 = 1 then (some r23) else none) else none)) else none
abbrev rmX3_fits : Room := { frames := 2, cells := 0, slots := 0, locals := 45 }
set_option maxHeartbeats 4000000 in
set_option maxRecDepth 100000 in
theorem c_X3_fits (l : Launch) (D : va_G × Nat) (S : PS) (a0 : Nat) (b1 : Nat) (p2 : Int32) (r : Int32) (hf : f_X3_fits S a0 b1 p2 = some r) : MI l D yX3_fits wsX3_fits rmX3_fits S [.ref a0, .ref b1, .int p2] S r 0 0 := by
  unfold f_X3_fits at hf
  refine Met.ofW (cc := cX3_fits) (maxL := 3) (ret := (some .boolean)) (by decide) rfl ?_
  intro p e s m args below meth c s₁ B hml hv
  obtain ⟨rfl, hH0, hNE⟩ := hv
  have hx := B.exec
  have hb := B.bytes
  have hr := B.returns
  have hts := atoms_spec (ws := wsX3_fits) B.pre
  have hown : s.vm.findClass RX3 = some m.cls := findClass_of_methodNamed B.named
  have hlocks := B.notSynchronized
  have hH : HI D S S s s.heap [] := HI.start hH0
  have hl := lv_entry ([.ref a0, .ref b1, .int p2]) (n := 3) (Nat.le_of_ble_eq_true rfl)
  rw [lg_entry_eq]
  generalize (lg_sl ([.ref a0, .ref b1, .int p2]) ++ List.replicate (3 - (lg_sl ([.ref a0, .ref b1, .int p2])).length) Slot.unset).toArray = ls at hl ⊢
  have hl : lv_has ls 3 [(0, .ref a0), (1, .ref b1), (2, .int p2)] := hl
  refine lv_aload_n hx hb dX3_fits_0 rfl (lv_at hl 0 rfl) ?_
  obtain ⟨ek1, hf⟩ := oc hf
  refine r_getI hx hb 6 hts (fun w h => List.mem_cons_of_mem _ (mwsX30 w h)) hown hH ek1 (by decide) rfl 0 (by decide) rfl (hts (.fieldLink RX3 13 "Housestyle$Item" "isNumber" "Z") (List.mem_cons_of_mem _ gw_3_6)) (fun _ h9 => h9) dX3_fits_1 ?_
  refine lv_if_eq (tgt := 13) hx hb dX3_fits_4 (by decide) (fun c2 => ?_) (fun c2 => ?_)
  · have hf := ip hf c2
    refine lv_aload_n hx hb dX3_fits_13 rfl (lv_at hl 1 rfl) ?_
    refine lv_iload_n hx hb dX3_fits_14 rfl (lv_at hl 2 rfl) ?_
    obtain ⟨ek3, hf⟩ := oc hf
    obtain ⟨r4, e5, hf⟩ := ob hf
    refine r_callVi (As := [.int p2]) ⟨hx, hb, hml, hown, hts⟩ (c_X8_isWord l D S b1 p2 r4 e5) (cwV 1 hts (gwV gw_3_12 gw_3_13 gw_3_14 gw_2_23 gw_3_2) rfl rfl rfl (by decide +kernel) ⟨Nat.le_of_ble_eq_true rfl, Nat.le_of_ble_eq_true rfl⟩) hH hNE 11 ek3 (by decide) rfl rfl rfl hl.1 rfl (Nat.le_of_ble_eq_true rfl) dX3_fits_15 ⟨(Nat.le_of_ble_eq_true rfl), (Nat.le_of_ble_eq_true rfl)⟩ (fun H locs hH => ?_)
    refine lv_if_eq (tgt := 59) hx hb dX3_fits_18 (by decide) (fun c6 => ?_) (fun c6 => ?_)
    · have hf := ip hf c6
      refine lv_iconst (v := 0) hx hb dX3_fits_59 (by decide) ?_
      have hr9 := Option.some.inj hf
      subst hr9
      exact e_z (r := 0) hx hb hr hlocks rfl hH dX3_fits_60
    · have hf := iq hf c6
      refine lv_aload_n hx hb dX3_fits_21 rfl (lv_at hl 1 rfl) ?_
      refine lv_iload_n hx hb dX3_fits_22 rfl (lv_at hl 2 rfl) ?_
      refine lv_aload_n hx hb dX3_fits_23 rfl (lv_at hl 0 rfl) ?_
      obtain ⟨a7, e8, hf⟩ := ob hf
      refine r_getQ hx hb 6 hts (fun w h => List.mem_cons_of_mem _ (mwsX30 w h)) hown hH ek1 (by decide) rfl 2 (by decide) rfl (hts (.fieldLink RX3 26 "Housestyle$Item" "letters" "LHousestyle$Row;") (List.mem_cons_of_mem _ gw_3_7)) (fun _ h9 => h9) dX3_fits_24 e8 ?_
      obtain ⟨r9, e10, hf⟩ := ob hf
      refine r_callVi (As := [.int p2, .ref a7]) ⟨hx, hb, hml, hown, hts⟩ (c_X8_begins l D S b1 p2 a7 r9 e10) (cwV 2 hts (gwV gw_3_15 gw_3_16 gw_3_17 gw_2_23 gw_3_3) rfl rfl rfl (by decide +kernel) ⟨Nat.le_of_ble_eq_true rfl, Nat.le_of_ble_eq_true rfl⟩) hH hNE 11 ek3 (by decide) rfl rfl rfl hl.1 rfl (Nat.le_of_ble_eq_true rfl) dX3_fits_27 ⟨(Nat.le_of_ble_eq_true rfl), (Nat.le_of_ble_eq_true rfl)⟩ (fun H locs hH => ?_)
      refine lv_if_eq (tgt := 59) hx hb dX3_fits_30 (by decide) (fun c11 => ?_) (fun c11 => ?_)
      · have hf := ip hf c11
        refine lv_iconst (v := 0) hx hb dX3_fits_59 (by decide) ?_
        have hr9 := Option.some.inj hf
        subst hr9
        exact e_z (r := 0) hx hb hr hlocks rfl hH dX3_fits_60
      · have hf := iq hf c11
        refine lv_aload_n hx hb dX3_fits_33 rfl (lv_at hl 0 rfl) ?_
        refine r_getI hx hb 6 hts (fun w h => List.mem_cons_of_mem _ (mwsX30 w h)) hown hH ek1 (by decide) rfl 1 (by decide) rfl (hts (.fieldLink RX3 19 "Housestyle$Item" "hasStar" "Z") (List.mem_cons_of_mem _ gw_3_8)) (fun _ h9 => h9) dX3_fits_34 ?_
        obtain ⟨j12, e14, hf⟩ := ol hf
        have Jj12 : ∀ (u13 : Unit) (H : Heap) (locs : List Loc) (ls : Array Slot), HI D S S s H locs → lv_has ls 3 [] → j12 u13 = some r → GI p l e (headSpec wsX3_fits rmX3_fits).room s m ([.ref a0, .ref b1, .int p2] : List Value).toArray below meth c D S S r H locs 0 0 0 0 (F0 m 55 ls []) := by
          intro u13 H locs ls hH hl hf
          rw [← e14] at hf
          refine lv_iconst (v := 1) hx hb dX3_fits_55 (by decide) ?_
          refine lv_goto (tgt := 60) hx hb dX3_fits_56 (by decide) ?_
          have hr9 := Option.some.inj hf
          subst hr9
          exact e_z (r := 1) hx hb hr hlocks rfl hH dX3_fits_60
        refine lv_if_ne (tgt := 55) hx hb dX3_fits_37 (by decide) (fun c15 => ?_) (fun c15 => ?_)
        · have hf := iq hf c15
          exact Jj12 () _ _ ls hH (lv_sub hl [] rfl) hf
        · have hf := ip hf c15
          refine lv_aload_n hx hb dX3_fits_40 rfl (lv_at hl 1 rfl) ?_
          refine lv_iload_n hx hb dX3_fits_41 rfl (lv_at hl 2 rfl) ?_
          obtain ⟨r16, e17, hf⟩ := ob hf
          refine r_callVi (As := [.int p2]) ⟨hx, hb, hml, hown, hts⟩ (c_X8_lengthOf l D S b1 p2 r16 e17) (cwV 1 hts (gwV gw_3_18 gw_3_19 gw_3_20 gw_2_23 gw_3_4) rfl rfl rfl (by decide +kernel) ⟨Nat.le_of_ble_eq_true rfl, Nat.le_of_ble_eq_true rfl⟩) hH hNE 11 ek3 (by decide) rfl rfl rfl hl.1 rfl (Nat.le_of_ble_eq_true rfl) dX3_fits_42 ⟨(Nat.le_of_ble_eq_true rfl), (Nat.le_of_ble_eq_true rfl)⟩ (fun H locs hH => ?_)
          refine lv_aload_n hx hb dX3_fits_45 rfl (lv_at hl 0 rfl) ?_
          refine r_getQ hx hb 6 hts (fun w h => List.mem_cons_of_mem _ (mwsX30 w h)) hown hH ek1 (by decide) rfl 2 (by decide) rfl (hts (.fieldLink RX3 26 "Housestyle$Item" "letters" "LHousestyle$Row;") (List.mem_cons_of_mem _ gw_3_7)) (fun _ h9 => h9) dX3_fits_46 e8 ?_
          obtain ⟨ek18, hf⟩ := oc hf
          obtain ⟨r19, e20, hf⟩ := ob hf
          refine r_callVi (As := []) ⟨hx, hb, hml, hown, hts⟩ (c_X5_count l D S a7 r19 e20) (cwV 0 hts (gwV gw_3_21 gw_1_15 gw_1_16 gw_1_5 gw_1_11) rfl rfl rfl (by decide +kernel) ⟨Nat.le_of_ble_eq_true rfl, Nat.le_of_ble_eq_true rfl⟩) hH hNE 8 ek18 (by decide) rfl rfl rfl hl.1 rfl (Nat.le_of_ble_eq_true rfl) dX3_fits_49 ⟨(Nat.le_of_ble_eq_true rfl), (Nat.le_of_ble_eq_true rfl)⟩ (fun H locs hH => ?_)
          refine lv_icmp_ne (tgt := 59) hx hb dX3_fits_52 (by decide) (fun c21 => ?_) (fun c21 => ?_)
          · have hf := iq hf c21
            refine lv_iconst (v := 0) hx hb dX3_fits_59 (by decide) ?_
            have hr9 := Option.some.inj hf
            subst hr9
            exact e_z (r := 0) hx hb hr hlocks rfl hH dX3_fits_60
          · have hf := ip hf c21
            exact Jj12 () _ _ ls hH (lv_sub hl [] rfl) hf
  · have hf := iq hf c2
    refine lv_aload_n hx hb dX3_fits_7 rfl (lv_at hl 1 rfl) ?_
    refine lv_iload_n hx hb dX3_fits_8 rfl (lv_at hl 2 rfl) ?_
    obtain ⟨ek22, hf⟩ := oc hf
    obtain ⟨r23, e24, hf⟩ := ob hf
    refine r_callVi (As := [.int p2]) ⟨hx, hb, hml, hown, hts⟩ (c_X8_isNumber l D S b1 p2 r23 e24) (cwV 1 hts (gwV gw_3_9 gw_3_10 gw_3_11 gw_2_23 gw_3_0) rfl rfl rfl (by decide +kernel) ⟨Nat.le_of_ble_eq_true rfl, Nat.le_of_ble_eq_true rfl⟩) hH hNE 11 ek22 (by decide) rfl rfl rfl hl.1 rfl (Nat.le_of_ble_eq_true rfl) dX3_fits_9 ⟨(Nat.le_of_ble_eq_true rfl), (Nat.le_of_ble_eq_true rfl)⟩ (fun H locs hH => ?_)
    obtain ⟨en25, hf⟩ := oc hf
    have hr9 := Option.some.inj hf
    subst hr9
    exact e_z hx hb hr hlocks (nar_Z9 en25) hH dX3_fits_12
set_option maxRecDepth 100000 in
def f_X8_aheadOf (S : PS) (a0 : Nat) (p1 : Int32) : Option (Int32) := if kK S a0 = 12 then ((kQ S a0 7).bind fun a2 => if kK S a2 = 9 then ((f_X5_get S a2 p1).bind fun r5 => some r5) else none) else none
abbrev rmX8_aheadOf : Room := { frames := 1, cells := 0, slots := 0, locals := 21 }
set_option maxHeartbeats 4000000 in
set_option maxRecDepth 100000 in
theorem c_X8_aheadOf (l : Launch) (D : va_G × Nat) (S : PS) (a0 : Nat) (p1 : Int32) (r : Int32) (hf : f_X8_aheadOf S a0 p1 = some r) : MI l D yX8_aheadOf wsX8_aheadOf rmX8_aheadOf S [.ref a0, .int p1] S r 0 0 := by
  unfold f_X8_aheadOf at hf
  refine Met.ofW (cc := cX8_aheadOf) (maxL := 2) (ret := (some .int)) (by decide) rfl ?_
  intro p e s m args below meth c s₁ B hml hv
  obtain ⟨rfl, hH0, hNE⟩ := hv
  have hx := B.exec
  have hb := B.bytes
  have hr := B.returns
  have hts := atoms_spec (ws := wsX8_aheadOf) B.pre
  have hown : s.vm.findClass RX8 = some m.cls := findClass_of_methodNamed B.named
  have hlocks := B.notSynchronized
  have hH : HI D S S s s.heap [] := HI.start hH0
  have hl := lv_entry ([.ref a0, .int p1]) (n := 2) (Nat.le_of_ble_eq_true rfl)
  rw [lg_entry_eq]
  generalize (lg_sl ([.ref a0, .int p1]) ++ List.replicate (2 - (lg_sl ([.ref a0, .int p1])).length) Slot.unset).toArray = ls at hl ⊢
  have hl : lv_has ls 2 [(0, .ref a0), (1, .int p1)] := hl
  refine lv_aload_n hx hb dX8_aheadOf_0 rfl (lv_at hl 0 rfl) ?_
  obtain ⟨ek1, hf⟩ := oc hf
  obtain ⟨a2, e3, hf⟩ := ob hf
  refine r_getQ hx hb 11 hts (fun w h => List.mem_cons_of_mem _ (mwsX80 w h)) hown hH ek1 (by decide) rfl 7 (by decide) rfl (hts (.fieldLink RX8 38 "Housestyle$Tokens" "ahead" "LHousestyle$Row;") (List.mem_cons_of_mem _ gw_3_23)) (fun _ h9 => h9) dX8_aheadOf_1 e3 ?_
  refine lv_iload_n hx hb dX8_aheadOf_4 rfl (lv_at hl 1 rfl) ?_
  obtain ⟨ek4, hf⟩ := oc hf
  obtain ⟨r5, e6, hf⟩ := ob hf
  refine r_callVi (As := [.int p1]) ⟨hx, hb, hml, hown, hts⟩ (c_X5_get l D S a2 p1 r5 e6) (cwV 1 hts (gwV gw_2_12 gw_2_13 gw_2_14 gw_1_5 gw_2_9) rfl rfl rfl (by decide +kernel) ⟨Nat.le_of_ble_eq_true rfl, Nat.le_of_ble_eq_true rfl⟩) hH hNE 8 ek4 (by decide) rfl rfl rfl hl.1 rfl (Nat.le_of_ble_eq_true rfl) dX8_aheadOf_5 ⟨(Nat.le_of_ble_eq_true rfl), (Nat.le_of_ble_eq_true rfl)⟩ (fun H locs hH => ?_)
  have hr9 := Option.some.inj hf
  subst hr9
  exact e_i hx hb hr hlocks hH dX8_aheadOf_8
set_option maxRecDepth 100000 in
def f_X8_isThe (S : PS) (a0 : Nat) (b1 : Nat) (p2 : Int32) : Option (Int32) := if p2 < 0 then (some 0) else (if kK S a0 = 12 then ((f_X8_count S a0).bind fun r3 => if r3 ≤ p2 then (some 0) else ((f_X8_lengthOf S a0 p2).bind fun r6 => if kK S b1 = 9 then ((f_X5_count S b1).bind fun r9 => if r6 = r9 then ((f_X8_begins S a0 p2 b1).bind fun r12 => if r12 = 0 then (some 0) else (some 1)) else (some 0)) else none)) else none)
abbrev rmX8_isThe : Room := { frames := 2, cells := 0, slots := 0, locals := 45 }
set_option maxHeartbeats 4000000 in
set_option maxRecDepth 100000 in
theorem c_X8_isThe (l : Launch) (D : va_G × Nat) (S : PS) (a0 : Nat) (b1 : Nat) (p2 : Int32) (r : Int32) (hf : f_X8_isThe S a0 b1 p2 = some r) : MI l D yX8_isThe wsX8_isThe rmX8_isThe S [.ref a0, .ref b1, .int p2] S r 0 0 := by
  unfold f_X8_isThe at hf
  refine Met.ofW (cc := cX8_isThe) (maxL := 3) (ret := (some .boolean)) (by decide) rfl ?_
  intro p e s m args below meth c s₁ B hml hv
  obtain ⟨rfl, hH0, hNE⟩ := hv
  have hx := B.exec
  have hb := B.bytes
  have hr := B.returns
  have hts := atoms_spec (ws := wsX8_isThe) B.pre
  have hown : s.vm.findClass RX8 = some m.cls := findClass_of_methodNamed B.named
  have hlocks := B.notSynchronized
  have hH : HI D S S s s.heap [] := HI.start hH0
  have hl := lv_entry ([.ref a0, .ref b1, .int p2]) (n := 3) (Nat.le_of_ble_eq_true rfl)
  rw [lg_entry_eq]
  generalize (lg_sl ([.ref a0, .ref b1, .int p2]) ++ List.replicate (3 - (lg_sl ([.ref a0, .ref b1, .int p2])).length) Slot.unset).toArray = ls at hl ⊢
  have hl : lv_has ls 3 [(0, .ref a0), (1, .ref b1), (2, .int p2)] := hl
  refine lv_iload_n hx hb dX8_isThe_0 rfl (lv_at hl 2 rfl) ?_
  refine lv_if_lt (tgt := 37) hx hb dX8_isThe_1 (by decide) (fun c1 => ?_) (fun c1 => ?_)
  · have hf := ip hf c1
    refine lv_iconst (v := 0) hx hb dX8_isThe_37 (by decide) ?_
    have hr9 := Option.some.inj hf
    subst hr9
    exact e_z (r := 0) hx hb hr hlocks rfl hH dX8_isThe_38
  · have hf := iq hf c1
    refine lv_iload_n hx hb dX8_isThe_4 rfl (lv_at hl 2 rfl) ?_
    refine lv_aload_n hx hb dX8_isThe_5 rfl (lv_at hl 0 rfl) ?_
    obtain ⟨ek2, hf⟩ := oc hf
    obtain ⟨r3, e4, hf⟩ := ob hf
    refine r_callVi (As := []) ⟨hx, hb, hml, hown, hts⟩ (c_X8_count l D S a0 r3 e4) (cwV 0 hts (gwV gw_2_20 gw_2_21 gw_2_22 gw_2_23 gw_1_12) rfl rfl rfl (by decide +kernel) ⟨Nat.le_of_ble_eq_true rfl, Nat.le_of_ble_eq_true rfl⟩) hH hNE 11 ek2 (by decide) rfl rfl rfl hl.1 rfl (Nat.le_of_ble_eq_true rfl) dX8_isThe_6 ⟨(Nat.le_of_ble_eq_true rfl), (Nat.le_of_ble_eq_true rfl)⟩ (fun H locs hH => ?_)
    refine lv_icmp_ge (tgt := 37) hx hb dX8_isThe_9 (by decide) (fun c5 => ?_) (fun c5 => ?_)
    · have hf := ip hf c5
      refine lv_iconst (v := 0) hx hb dX8_isThe_37 (by decide) ?_
      have hr9 := Option.some.inj hf
      subst hr9
      exact e_z (r := 0) hx hb hr hlocks rfl hH dX8_isThe_38
    · have hf := iq hf c5
      refine lv_aload_n hx hb dX8_isThe_12 rfl (lv_at hl 0 rfl) ?_
      refine lv_iload_n hx hb dX8_isThe_13 rfl (lv_at hl 2 rfl) ?_
      obtain ⟨r6, e7, hf⟩ := ob hf
      refine r_callVi (As := [.int p2]) ⟨hx, hb, hml, hown, hts⟩ (c_X8_lengthOf l D S a0 p2 r6 e7) (cwV 1 hts (gwV gw_4_1 gw_3_19 gw_3_20 gw_2_23 gw_3_4) rfl rfl rfl (by decide +kernel) ⟨Nat.le_of_ble_eq_true rfl, Nat.le_of_ble_eq_true rfl⟩) hH hNE 11 ek2 (by decide) rfl rfl rfl hl.1 rfl (Nat.le_of_ble_eq_true rfl) dX8_isThe_14 ⟨(Nat.le_of_ble_eq_true rfl), (Nat.le_of_ble_eq_true rfl)⟩ (fun H locs hH => ?_)
      refine lv_aload_n hx hb dX8_isThe_17 rfl (lv_at hl 1 rfl) ?_
      obtain ⟨ek8, hf⟩ := oc hf
      obtain ⟨r9, e10, hf⟩ := ob hf
      refine r_callVi (As := []) ⟨hx, hb, hml, hown, hts⟩ (c_X5_count l D S b1 r9 e10) (cwV 0 hts (gwV gw_1_14 gw_1_15 gw_1_16 gw_1_5 gw_1_11) rfl rfl rfl (by decide +kernel) ⟨Nat.le_of_ble_eq_true rfl, Nat.le_of_ble_eq_true rfl⟩) hH hNE 8 ek8 (by decide) rfl rfl rfl hl.1 rfl (Nat.le_of_ble_eq_true rfl) dX8_isThe_18 ⟨(Nat.le_of_ble_eq_true rfl), (Nat.le_of_ble_eq_true rfl)⟩ (fun H locs hH => ?_)
      refine lv_icmp_ne (tgt := 37) hx hb dX8_isThe_21 (by decide) (fun c11 => ?_) (fun c11 => ?_)
      · have hf := iq hf c11
        refine lv_iconst (v := 0) hx hb dX8_isThe_37 (by decide) ?_
        have hr9 := Option.some.inj hf
        subst hr9
        exact e_z (r := 0) hx hb hr hlocks rfl hH dX8_isThe_38
      · have hf := ip hf c11
        refine lv_aload_n hx hb dX8_isThe_24 rfl (lv_at hl 0 rfl) ?_
        refine lv_iload_n hx hb dX8_isThe_25 rfl (lv_at hl 2 rfl) ?_
        refine lv_aload_n hx hb dX8_isThe_26 rfl (lv_at hl 1 rfl) ?_
        obtain ⟨r12, e13, hf⟩ := ob hf
        refine r_callVi (As := [.int p2, .ref b1]) ⟨hx, hb, hml, hown, hts⟩ (c_X8_begins l D S a0 p2 b1 r12 e13) (cwV 2 hts (gwV gw_4_2 gw_3_16 gw_3_17 gw_2_23 gw_3_3) rfl rfl rfl (by decide +kernel) ⟨Nat.le_of_ble_eq_true rfl, Nat.le_of_ble_eq_true rfl⟩) hH hNE 11 ek2 (by decide) rfl rfl rfl hl.1 rfl (Nat.le_of_ble_eq_true rfl) dX8_isThe_27 ⟨(Nat.le_of_ble_eq_true rfl), (Nat.le_of_ble_eq_true rfl)⟩ (fun H locs hH => ?_)
        refine lv_if_eq (tgt := 37) hx hb dX8_isThe_30 (by decide) (fun c14 => ?_) (fun c14 => ?_)
        · have hf := ip hf c14
          refine lv_iconst (v := 0) hx hb dX8_isThe_37 (by decide) ?_
          have hr9 := Option.some.inj hf
          subst hr9
          exact e_z (r := 0) hx hb hr hlocks rfl hH dX8_isThe_38
        · have hf := iq hf c14
          refine lv_iconst (v := 1) hx hb dX8_isThe_33 (by decide) ?_
          refine lv_goto (tgt := 38) hx hb dX8_isThe_34 (by decide) ?_
          have hr9 := Option.some.inj hf
          subst hr9
          exact e_z (r := 1) hx hb hr hlocks rfl hH dX8_isThe_38
set_option maxRecDepth 100000 in
def f_X6_isExcepted_b9 (a0 : Nat) (b1 : Nat) (r2 : Int32) (S : PS) (x4 : Int32) : Option ((Int32) ⊕ ((Unit) ⊕ (Unit))) := if kK S a0 = 10 then ((kQ S a0 4).bind fun a13 => if kK S a13 = 3 then ((f_Jx4a65c_size_8abf5 S a13).bind fun r16 => if r16 ≤ x4 then (some (.inr (.inl ()))) else ((f_Jx4a65c_get_915e3 S a13 x4).bind fun r19 => if kK S r19 = 9 then ((f_X8_isThe S b1 r19 r2).bind fun r22 => if r22 = 0 then (lt (x4 + 1) fun x25 => some (.inl x25)) else (some (.inr (.inr ())))) else none)) else none) else none
set_option maxRecDepth 100000 in
def f_X6_isExcepted (S : PS) (a0 : Nat) (b1 : Nat) (p2 : Int32) : Option (Int32) := if kK S b1 = 12 then ((f_X8_aheadOf S b1 p2).bind fun r2 => lt (fun (u7 : Unit) => some 0) fun k5 => lt (fun (u10 : Unit) => some 1) fun k8 => (iter (fun (v : Int32) => f_X6_isExcepted_b9 a0 b1 r2 S v) kF 0).bind (fun (z : (Unit) ⊕ (Unit)) => Sum.elim (fun (v : Unit) => k5 v) (fun (v : Unit) => k8 v) z)) else none
abbrev rmX6_isExcepted : Room := { frames := 3, cells := 0, slots := 0, locals := 67 }
set_option maxHeartbeats 4000000 in
set_option maxRecDepth 100000 in
theorem c_X6_isExcepted (l : Launch) (D : va_G × Nat) (S : PS) (a0 : Nat) (b1 : Nat) (p2 : Int32) (r : Int32) (hf : f_X6_isExcepted S a0 b1 p2 = some r) : MI l D yX6_isExcepted wsX6_isExcepted rmX6_isExcepted S [.ref a0, .ref b1, .int p2] S r 0 0 := by
  unfold f_X6_isExcepted at hf
  refine Met.ofW (cc := cX6_isExcepted) (maxL := 5) (ret := (some .boolean)) (by decide) rfl ?_
  intro p e s m args below meth c s₁ B hml hv
  obtain ⟨rfl, hH0, hNE⟩ := hv
  have hx := B.exec
  have hb := B.bytes
  have hr := B.returns
  have hts := atoms_spec (ws := wsX6_isExcepted) B.pre
  have hown : s.vm.findClass RX6 = some m.cls := findClass_of_methodNamed B.named
  have hlocks := B.notSynchronized
  have hH : HI D S S s s.heap [] := HI.start hH0
  have hl := lv_entry ([.ref a0, .ref b1, .int p2]) (n := 5) (Nat.le_of_ble_eq_true rfl)
  rw [lg_entry_eq]
  generalize (lg_sl ([.ref a0, .ref b1, .int p2]) ++ List.replicate (5 - (lg_sl ([.ref a0, .ref b1, .int p2])).length) Slot.unset).toArray = ls at hl ⊢
  have hl : lv_has ls 5 [(0, .ref a0), (1, .ref b1), (2, .int p2)] := hl
  refine lv_aload_n hx hb dX6_isExcepted_0 rfl (lv_at hl 1 rfl) ?_
  refine lv_iload_n hx hb dX6_isExcepted_1 rfl (lv_at hl 2 rfl) ?_
  obtain ⟨ek1, hf⟩ := oc hf
  obtain ⟨r2, e3, hf⟩ := ob hf
  refine r_callVi (As := [.int p2]) ⟨hx, hb, hml, hown, hts⟩ (c_X8_aheadOf l D S b1 p2 r2 e3) (cwV 1 hts (gwV gw_4_6 gw_4_7 gw_4_8 gw_2_23 gw_3_22) rfl rfl rfl (by decide +kernel) ⟨Nat.le_of_ble_eq_true rfl, Nat.le_of_ble_eq_true rfl⟩) hH hNE 11 ek1 (by decide) rfl rfl rfl hl.1 rfl (Nat.le_of_ble_eq_true rfl) dX6_isExcepted_2 ⟨(Nat.le_of_ble_eq_true rfl), (Nat.le_of_ble_eq_true rfl)⟩ (fun H locs hH => ?_)
  refine lv_istore_n (lv' := [(3, .int r2), (0, .ref a0), (1, .ref b1), (2, .int p2)]) hx hb dX6_isExcepted_5 rfl hl (by decide) rfl (fun ls hl => ?_)
  refine lv_iconst (v := 0) hx hb dX6_isExcepted_6 (by decide) ?_
  refine lv_istore (lv' := [(4, .int 0), (3, .int r2), (0, .ref a0), (1, .ref b1), (2, .int p2)]) hx hb dX6_isExcepted_7 hl (by decide) rfl (fun ls hl => ?_)
  obtain ⟨k5, e6, hf⟩ := ol hf
  have Xk5 : ∀ (u7 : Unit) (H : Heap) (locs : List Loc) (ls : Array Slot), HI D S S s H locs → lv_has ls 5 [] → k5 u7 = some r → GI p l e (headSpec wsX6_isExcepted rmX6_isExcepted).room s m ([.ref a0, .ref b1, .int p2] : List Value).toArray below meth c D S S r H locs 0 0 0 0 (F0 m 49 ls []) := by
    intro u7 H locs ls hH hl hf
    rw [← e6] at hf
    refine lv_iconst (v := 0) hx hb dX6_isExcepted_49 (by decide) ?_
    have hr9 := Option.some.inj hf
    subst hr9
    exact e_z (r := 0) hx hb hr hlocks rfl hH dX6_isExcepted_50
  obtain ⟨k8, e9, hf⟩ := ol hf
  have Xk8 : ∀ (u10 : Unit) (H : Heap) (locs : List Loc) (ls : Array Slot), HI D S S s H locs → lv_has ls 5 [] → k8 u10 = some r → GI p l e (headSpec wsX6_isExcepted rmX6_isExcepted).room s m ([.ref a0, .ref b1, .int p2] : List Value).toArray below meth c D S S r H locs 0 0 0 0 (F0 m 41 ls []) := by
    intro u10 H locs ls hH hl hf
    rw [← e9] at hf
    refine lv_iconst (v := 1) hx hb dX6_isExcepted_41 (by decide) ?_
    have hr9 := Option.some.inj hf
    subst hr9
    exact e_z (r := 1) hx hb hr hlocks rfl hH dX6_isExcepted_42
  obtain ⟨o11, eo11, hq11f⟩ := ob hf
  have Lo11 : ∀ (n : Nat) (x4 : Int32), iter (fun (v : Int32) => f_X6_isExcepted_b9 a0 b1 r2 S v) n x4 = some o11 → ∀ (H : Heap) (locs : List Loc) (ls : Array Slot), HI D S S s H locs → lv_has ls 5 [(0, .ref a0), (1, .ref b1), (3, .int r2), (4, .int x4)] → GI p l e (headSpec wsX6_isExcepted rmX6_isExcepted).room s m ([.ref a0, .ref b1, .int p2] : List Value).toArray below meth c D S S r H locs 0 0 0 0 (F0 m 9 ls []) := by
    intro n
    induction n with
    | zero => intro x4 hi; cases hi
    | succ n ih11 =>
      intro x4 hi H locs ls hH hl
      obtain ⟨q11_, hf, hq11⟩ := iter_s hi
      have hf : f_X6_isExcepted_b9 a0 b1 r2 S x4 = some q11_ := hf
      unfold f_X6_isExcepted_b9 at hf
      refine lv_iload hx hb dX6_isExcepted_9 (lv_at hl 3 rfl) ?_
      refine lv_aload_n hx hb dX6_isExcepted_11 rfl (lv_at hl 0 rfl) ?_
      obtain ⟨ek12, hf⟩ := oc hf
      obtain ⟨a13, e14, hf⟩ := ob hf
      refine r_getQ hx hb 9 hts (fun w h => List.mem_cons_of_mem _ (mwsX60 w h)) hown hH ek12 (by decide) rfl 4 (by decide) rfl (hts (.fieldLink RX6 49 "Housestyle$Rule" "exceptions" "Ljava/util/ArrayList;") (List.mem_cons_of_mem _ gw_4_4)) (fun _ h9 => h9) dX6_isExcepted_12 e14 ?_
      obtain ⟨ek15, hf⟩ := oc hf
      obtain ⟨r16, e17, hf⟩ := ob hf
      refine r_callVi (As := []) ⟨hx, hb, hml, hown, hts⟩ (c_Jx4a65c_size_8abf5 l D S a13 r16 e17) (cwV 0 hts (gwV gw_4_9 gw_4_10 gw_4_11 gw_1_0 gw_1_18) rfl rfl rfl (by decide +kernel) ⟨Nat.le_of_ble_eq_true rfl, Nat.le_of_ble_eq_true rfl⟩) hH hNE 2 ek15 (by decide) rfl rfl rfl hl.1 rfl (Nat.le_of_ble_eq_true rfl) dX6_isExcepted_15 ⟨(Nat.le_of_ble_eq_true rfl), (Nat.le_of_ble_eq_true rfl)⟩ (fun H locs hH => ?_)
      refine lv_icmp_ge (tgt := 49) hx hb dX6_isExcepted_18 (by decide) (fun c18 => ?_) (fun c18 => ?_)
      · have hf := ip hf c18
        cases hf
        have hf9 := itR (K := (fun (z : (Unit) ⊕ (Unit)) => Sum.elim (fun (v : Unit) => k5 v) (fun (v : Unit) => k8 v) z)) hq11 hq11f
        exact Xk5 () _ _ ls hH (lv_sub hl [] rfl) hf9
      · have hf := iq hf c18
        refine lv_aload_n hx hb dX6_isExcepted_21 rfl (lv_at hl 1 rfl) ?_
        refine lv_aload_n hx hb dX6_isExcepted_22 rfl (lv_at hl 0 rfl) ?_
        refine r_getQ hx hb 9 hts (fun w h => List.mem_cons_of_mem _ (mwsX60 w h)) hown hH ek12 (by decide) rfl 4 (by decide) rfl (hts (.fieldLink RX6 49 "Housestyle$Rule" "exceptions" "Ljava/util/ArrayList;") (List.mem_cons_of_mem _ gw_4_4)) (fun _ h9 => h9) dX6_isExcepted_23 e14 ?_
        refine lv_iload hx hb dX6_isExcepted_26 (lv_at hl 3 rfl) ?_
        obtain ⟨r19, e20, hf⟩ := ob hf
        refine r_callVr (As := [.int x4]) ⟨hx, hb, hml, hown, hts⟩ (c_Jx4a65c_get_915e3 l D S a13 x4 r19 e20) (cwV 1 hts (gwV gw_4_12 gw_4_13 gw_4_14 gw_1_0 gw_2_2) rfl rfl rfl (by decide +kernel) ⟨Nat.le_of_ble_eq_true rfl, Nat.le_of_ble_eq_true rfl⟩) hH hNE 2 ek15 (by decide) rfl rfl rfl hl.1 rfl (Nat.le_of_ble_eq_true rfl) dX6_isExcepted_28 ⟨(Nat.le_of_ble_eq_true rfl), (Nat.le_of_ble_eq_true rfl)⟩ (fun H locs hH => ?_)
        obtain ⟨ek21, hf⟩ := oc hf
        refine r_castS 8 hx hb hown (hts (.classLink RX6 19 "Housestyle$Row") (List.mem_cons_of_mem _ gw_4_5)) hH ek21 (by decide) rfl rfl dX6_isExcepted_31 ?_
        refine lv_iload_n hx hb dX6_isExcepted_34 rfl (lv_at hl 2 rfl) ?_
        obtain ⟨r22, e23, hf⟩ := ob hf
        refine r_callVi (As := [.ref r19, .int r2]) ⟨hx, hb, hml, hown, hts⟩ (c_X8_isThe l D S b1 r19 r2 r22 e23) (cwV 2 hts (gwV gw_4_15 gw_4_16 gw_4_17 gw_2_23 gw_4_0) rfl rfl rfl (by decide +kernel) ⟨Nat.le_of_ble_eq_true rfl, Nat.le_of_ble_eq_true rfl⟩) hH hNE 11 ek1 (by decide) rfl rfl rfl hl.1 rfl (Nat.le_of_ble_eq_true rfl) dX6_isExcepted_35 ⟨(Nat.le_of_ble_eq_true rfl), (Nat.le_of_ble_eq_true rfl)⟩ (fun H locs hH => ?_)
        refine lv_if_eq (tgt := 43) hx hb dX6_isExcepted_38 (by decide) (fun c24 => ?_) (fun c24 => ?_)
        · have hf := ip hf c24
          obtain ⟨x25, e26, hf⟩ := ol hf
          refine lv_iinc (v := x25) (lv' := [(4, .int x25), (0, .ref a0), (1, .ref b1), (3, .int r2)]) hx hb dX6_isExcepted_43 hl (k := 3) rfl (by rw [← e26]; rfl) (by decide) rfl (fun ls hl => ?_)
          refine lv_goto (tgt := 9) hx hb dX6_isExcepted_46 (by decide) ?_
          cases hf
          exact ih11 x25 hq11 _ _ ls hH (lv_sub hl [1, 2, 3, 0] rfl)
        · have hf := iq hf c24
          cases hf
          have hf9 := itR (K := (fun (z : (Unit) ⊕ (Unit)) => Sum.elim (fun (v : Unit) => k5 v) (fun (v : Unit) => k8 v) z)) hq11 hq11f
          exact Xk8 () _ _ ls hH (lv_sub hl [] rfl) hf9
  exact Lo11 kF 0 eo11 _ _ ls hH (lv_sub hl [2, 3, 1, 0] rfl)
set_option maxRecDepth 100000 in
def f_X6_isFoundAt_b52 (a0 : Nat) (b1 : Nat) (p2 : Int32) (S : PS) (x7 : Int32) : Option ((Int32) ⊕ ((Unit) ⊕ (Unit) ⊕ (Unit))) := (kQ S a0 0).bind fun a21 => if kK S a21 = 3 then ((f_Jx4a65c_size_8abf5 S a21).bind fun r24 => if r24 ≤ x7 then (some (.inr (.inl ()))) else (lt (fun (u36 : Unit) => (f_Jx4a65c_get_915e3 S a21 x7).bind fun r28 => if kK S r28 = 7 then ((f_X3_fits S r28 b1 (p2 + x7)).bind fun r31 => if r31 = 0 then (some (.inr (.inr (.inr ())))) else (lt (x7 + 1) fun x34 => some (.inl x34))) else none) fun j27 => if x7 ≤ 0 then (j27 ()) else ((f_X8_goesOn S b1 ((p2 + x7) - 1)).bind fun r39 => if r39 = 0 then (some (.inr (.inr (.inl ())))) else (j27 ())))) else none
set_option maxRecDepth 100000 in
def f_X6_isFoundAt (S : PS) (a0 : Nat) (b1 : Nat) (p2 : Int32) : Option (Int32) := if kK S b1 = 12 then ((f_X8_isQuoted S b1 p2).bind fun r2 => lt (fun (u52 : Unit) => if kK S a0 = 10 then (lt (fun (u42 : Unit) => lt (fun (u13 : Unit) => (f_X6_isExcepted S a0 b1 p2).bind fun r10 => if r10 = 0 then (some 1) else (some 0)) fun k8 => lt (fun (u16 : Unit) => some 0) fun k14 => lt (fun (u19 : Unit) => some 0) fun k17 => (iter (fun (v : Int32) => f_X6_isFoundAt_b52 a0 b1 p2 S v) kF 0).bind (fun (z : (Unit) ⊕ (Unit) ⊕ (Unit)) => Sum.elim (fun (v : Unit) => k8 v) (fun (z : (Unit) ⊕ (Unit)) => Sum.elim (fun (v : Unit) => k14 v) (fun (v : Unit) => k17 v) z) z)) fun j6 => if (kI S a0 1) = (97 : Int32) then (j6 ()) else ((f_X8_isFirst S b1 p2).bind fun r45 => lt (fun (x47 : Int32) => if r45 = x47 then (j6 ()) else (some 0)) fun j48 => if (kI S a0 1) = (115 : Int32) then (j48 1) else (j48 0))) else none) fun j4 => if r2 = 0 then (j4 ()) else (if kK S a0 = 10 then (if (kI S a0 2) = 0 then (some 0) else (j4 ())) else none)) else none
abbrev rmX6_isFoundAt : Room := { frames := 4, cells := 0, slots := 0, locals := 91 }
set_option maxHeartbeats 4000000 in
set_option maxRecDepth 100000 in
theorem c_X6_isFoundAt (l : Launch) (D : va_G × Nat) (S : PS) (a0 : Nat) (b1 : Nat) (p2 : Int32) (r : Int32) (hf : f_X6_isFoundAt S a0 b1 p2 = some r) : MI l D yX6_isFoundAt wsX6_isFoundAt rmX6_isFoundAt S [.ref a0, .ref b1, .int p2] S r 0 0 := by
  unfold f_X6_isFoundAt at hf
  refine Met.ofW (cc := cX6_isFoundAt) (maxL := 4) (ret := (some .boolean)) (by decide) rfl ?_
  intro p e s m args below meth c s₁ B hml hv
  obtain ⟨rfl, hH0, hNE⟩ := hv
  have hx := B.exec
  have hb := B.bytes
  have hr := B.returns
  have hts := atoms_spec (ws := wsX6_isFoundAt) B.pre
  have hown : s.vm.findClass RX6 = some m.cls := findClass_of_methodNamed B.named
  have hlocks := B.notSynchronized
  have hH : HI D S S s s.heap [] := HI.start hH0
  have hl := lv_entry ([.ref a0, .ref b1, .int p2]) (n := 4) (Nat.le_of_ble_eq_true rfl)
  rw [lg_entry_eq]
  generalize (lg_sl ([.ref a0, .ref b1, .int p2]) ++ List.replicate (4 - (lg_sl ([.ref a0, .ref b1, .int p2])).length) Slot.unset).toArray = ls at hl ⊢
  have hl : lv_has ls 4 [(0, .ref a0), (1, .ref b1), (2, .int p2)] := hl
  refine lv_aload_n hx hb dX6_isFoundAt_0 rfl (lv_at hl 1 rfl) ?_
  refine lv_iload_n hx hb dX6_isFoundAt_1 rfl (lv_at hl 2 rfl) ?_
  obtain ⟨ek1, hf⟩ := oc hf
  obtain ⟨r2, e3, hf⟩ := ob hf
  refine r_callVi (As := [.int p2]) ⟨hx, hb, hml, hown, hts⟩ (c_X8_isQuoted l D S b1 p2 r2 e3) (cwV 1 hts (gwV gw_4_23 gw_5_0 gw_5_1 gw_2_23 gw_2_10) rfl rfl rfl (by decide +kernel) ⟨Nat.le_of_ble_eq_true rfl, Nat.le_of_ble_eq_true rfl⟩) hH hNE 11 ek1 (by decide) rfl rfl rfl hl.1 rfl (Nat.le_of_ble_eq_true rfl) dX6_isFoundAt_2 ⟨(Nat.le_of_ble_eq_true rfl), (Nat.le_of_ble_eq_true rfl)⟩ (fun H locs hH => ?_)
  obtain ⟨j4, e53, hf⟩ := ol hf
  have Jj4 : ∀ (u52 : Unit) (H : Heap) (locs : List Loc) (ls : Array Slot), HI D S S s H locs → lv_has ls 4 [(0, .ref a0), (1, .ref b1), (2, .int p2)] → j4 u52 = some r → GI p l e (headSpec wsX6_isFoundAt rmX6_isFoundAt).room s m ([.ref a0, .ref b1, .int p2] : List Value).toArray below meth c D S S r H locs 0 0 0 0 (F0 m 17 ls []) := by
    intro u52 H locs ls hH hl hf
    rw [← e53] at hf
    refine lv_aload_n hx hb dX6_isFoundAt_17 rfl (lv_at hl 0 rfl) ?_
    obtain ⟨ek5, hf⟩ := oc hf
    refine r_getI hx hb 9 hts (fun w h => List.mem_cons_of_mem _ (mwsX60 w h)) hown hH ek5 (by decide) rfl 1 (by decide) rfl (hts (.fieldLink RX6 37 "Housestyle$Rule" "condition" "C") (List.mem_cons_of_mem _ gw_4_20)) (fun _ h9 => h9) dX6_isFoundAt_18 ?_
    refine lv_bipush (v := 97) hx hb dX6_isFoundAt_21 (by decide) ?_
    obtain ⟨j6, e43, hf⟩ := ol hf
    have Jj6 : ∀ (u42 : Unit) (H : Heap) (locs : List Loc) (ls : Array Slot), HI D S S s H locs → lv_has ls 4 [(0, .ref a0), (1, .ref b1), (2, .int p2)] → j6 u42 = some r → GI p l e (headSpec wsX6_isFoundAt rmX6_isFoundAt).room s m ([.ref a0, .ref b1, .int p2] : List Value).toArray below meth c D S S r H locs 0 0 0 0 (F0 m 50 ls []) := by
      intro u42 H locs ls hH hl hf
      rw [← e43] at hf
      refine lv_iconst (v := 0) hx hb dX6_isFoundAt_50 (by decide) ?_
      refine lv_istore_n (lv' := [(3, .int 0), (0, .ref a0), (1, .ref b1), (2, .int p2)]) hx hb dX6_isFoundAt_51 rfl hl (by decide) rfl (fun ls hl => ?_)
      obtain ⟨k8, e9, hf⟩ := ol hf
      have Xk8 : ∀ (u13 : Unit) (H : Heap) (locs : List Loc) (ls : Array Slot), HI D S S s H locs → lv_has ls 4 [(0, .ref a0), (1, .ref b1), (2, .int p2)] → k8 u13 = some r → GI p l e (headSpec wsX6_isFoundAt rmX6_isFoundAt).room s m ([.ref a0, .ref b1, .int p2] : List Value).toArray below meth c D S S r H locs 0 0 0 0 (F0 m 110 ls []) := by
        intro u13 H locs ls hH hl hf
        rw [← e9] at hf
        refine lv_aload_n hx hb dX6_isFoundAt_110 rfl (lv_at hl 0 rfl) ?_
        refine lv_aload_n hx hb dX6_isFoundAt_111 rfl (lv_at hl 1 rfl) ?_
        refine lv_iload_n hx hb dX6_isFoundAt_112 rfl (lv_at hl 2 rfl) ?_
        obtain ⟨r10, e11, hf⟩ := ob hf
        refine r_callVi (As := [.ref b1, .int p2]) ⟨hx, hb, hml, hown, hts⟩ (c_X6_isExcepted l D S a0 b1 p2 r10 e11) (cwV 2 hts (gwV gw_5_12 gw_5_13 gw_5_14 gw_5_15 gw_4_3) rfl rfl rfl (by decide +kernel) ⟨Nat.le_of_ble_eq_true rfl, Nat.le_of_ble_eq_true rfl⟩) hH hNE 9 ek5 (by decide) rfl rfl rfl hl.1 rfl (Nat.le_of_ble_eq_true rfl) dX6_isFoundAt_113 ⟨(Nat.le_of_ble_eq_true rfl), (Nat.le_of_ble_eq_true rfl)⟩ (fun H locs hH => ?_)
        refine lv_if_ne (tgt := 123) hx hb dX6_isFoundAt_116 (by decide) (fun c12 => ?_) (fun c12 => ?_)
        · have hf := iq hf c12
          refine lv_iconst (v := 0) hx hb dX6_isFoundAt_123 (by decide) ?_
          have hr9 := Option.some.inj hf
          subst hr9
          exact e_z (r := 0) hx hb hr hlocks rfl hH dX6_isFoundAt_124
        · have hf := ip hf c12
          refine lv_iconst (v := 1) hx hb dX6_isFoundAt_119 (by decide) ?_
          refine lv_goto (tgt := 124) hx hb dX6_isFoundAt_120 (by decide) ?_
          have hr9 := Option.some.inj hf
          subst hr9
          exact e_z (r := 1) hx hb hr hlocks rfl hH dX6_isFoundAt_124
      obtain ⟨k14, e15, hf⟩ := ol hf
      have Xk14 : ∀ (u16 : Unit) (H : Heap) (locs : List Loc) (ls : Array Slot), HI D S S s H locs → lv_has ls 4 [] → k14 u16 = some r → GI p l e (headSpec wsX6_isFoundAt rmX6_isFoundAt).room s m ([.ref a0, .ref b1, .int p2] : List Value).toArray below meth c D S S r H locs 0 0 0 0 (F0 m 79 ls []) := by
        intro u16 H locs ls hH hl hf
        rw [← e15] at hf
        refine lv_iconst (v := 0) hx hb dX6_isFoundAt_79 (by decide) ?_
        have hr9 := Option.some.inj hf
        subst hr9
        exact e_z (r := 0) hx hb hr hlocks rfl hH dX6_isFoundAt_80
      obtain ⟨k17, e18, hf⟩ := ol hf
      have Xk17 : ∀ (u19 : Unit) (H : Heap) (locs : List Loc) (ls : Array Slot), HI D S S s H locs → lv_has ls 4 [] → k17 u19 = some r → GI p l e (headSpec wsX6_isFoundAt rmX6_isFoundAt).room s m ([.ref a0, .ref b1, .int p2] : List Value).toArray below meth c D S S r H locs 0 0 0 0 (F0 m 102 ls []) := by
        intro u19 H locs ls hH hl hf
        rw [← e18] at hf
        refine lv_iconst (v := 0) hx hb dX6_isFoundAt_102 (by decide) ?_
        have hr9 := Option.some.inj hf
        subst hr9
        exact e_z (r := 0) hx hb hr hlocks rfl hH dX6_isFoundAt_103
      obtain ⟨o20, eo20, hq20f⟩ := ob hf
      have Lo20 : ∀ (n : Nat) (x7 : Int32), iter (fun (v : Int32) => f_X6_isFoundAt_b52 a0 b1 p2 S v) n x7 = some o20 → ∀ (H : Heap) (locs : List Loc) (ls : Array Slot), HI D S S s H locs → lv_has ls 4 [(0, .ref a0), (1, .ref b1), (2, .int p2), (3, .int x7)] → GI p l e (headSpec wsX6_isFoundAt rmX6_isFoundAt).room s m ([.ref a0, .ref b1, .int p2] : List Value).toArray below meth c D S S r H locs 0 0 0 0 (F0 m 52 ls []) := by
        intro n
        induction n with
        | zero => intro x7 hi; cases hi
        | succ n ih20 =>
          intro x7 hi H locs ls hH hl
          obtain ⟨q20_, hf, hq20⟩ := iter_s hi
          have hf : f_X6_isFoundAt_b52 a0 b1 p2 S x7 = some q20_ := hf
          unfold f_X6_isFoundAt_b52 at hf
          refine lv_iload_n hx hb dX6_isFoundAt_52 rfl (lv_at hl 3 rfl) ?_
          refine lv_aload_n hx hb dX6_isFoundAt_53 rfl (lv_at hl 0 rfl) ?_
          obtain ⟨a21, e22, hf⟩ := ob hf
          refine r_getQ hx hb 9 hts (fun w h => List.mem_cons_of_mem _ (mwsX60 w h)) hown hH ek5 (by decide) rfl 0 (by decide) rfl (hts (.fieldLink RX6 12 "Housestyle$Rule" "items" "Ljava/util/ArrayList;") (List.mem_cons_of_mem _ gw_4_21)) (fun _ h9 => h9) dX6_isFoundAt_54 e22 ?_
          obtain ⟨ek23, hf⟩ := oc hf
          obtain ⟨r24, e25, hf⟩ := ob hf
          refine r_callVi (As := []) ⟨hx, hb, hml, hown, hts⟩ (c_Jx4a65c_size_8abf5 l D S a21 r24 e25) (cwV 0 hts (gwV gw_4_9 gw_4_10 gw_4_11 gw_1_0 gw_1_18) rfl rfl rfl (by decide +kernel) ⟨Nat.le_of_ble_eq_true rfl, Nat.le_of_ble_eq_true rfl⟩) hH hNE 2 ek23 (by decide) rfl rfl rfl hl.1 rfl (Nat.le_of_ble_eq_true rfl) dX6_isFoundAt_57 ⟨(Nat.le_of_ble_eq_true rfl), (Nat.le_of_ble_eq_true rfl)⟩ (fun H locs hH => ?_)
          refine lv_icmp_ge (tgt := 110) hx hb dX6_isFoundAt_60 (by decide) (fun c26 => ?_) (fun c26 => ?_)
          · have hf := ip hf c26
            cases hf
            have hf9 := itR (K := (fun (z : (Unit) ⊕ (Unit) ⊕ (Unit)) => Sum.elim (fun (v : Unit) => k8 v) (fun (z : (Unit) ⊕ (Unit)) => Sum.elim (fun (v : Unit) => k14 v) (fun (v : Unit) => k17 v) z) z)) hq20 hq20f
            exact Xk8 () _ _ ls hH (lv_sub hl [0, 1, 2] rfl) hf9
          · have hf := iq hf c26
            refine lv_iload_n hx hb dX6_isFoundAt_63 rfl (lv_at hl 3 rfl) ?_
            obtain ⟨j27, e37, hf⟩ := ol hf
            have Jj27 : ∀ (u36 : Unit) (H : Heap) (locs : List Loc) (ls : Array Slot), HI D S S s H locs → lv_has ls 4 [(0, .ref a0), (1, .ref b1), (2, .int p2), (3, .int x7)] → j27 u36 = some q20_ → GI p l e (headSpec wsX6_isFoundAt rmX6_isFoundAt).room s m ([.ref a0, .ref b1, .int p2] : List Value).toArray below meth c D S S r H locs 0 0 0 0 (F0 m 81 ls []) := by
              intro u36 H locs ls hH hl hf
              rw [← e37] at hf
              refine lv_aload_n hx hb dX6_isFoundAt_81 rfl (lv_at hl 0 rfl) ?_
              refine r_getQ hx hb 9 hts (fun w h => List.mem_cons_of_mem _ (mwsX60 w h)) hown hH ek5 (by decide) rfl 0 (by decide) rfl (hts (.fieldLink RX6 12 "Housestyle$Rule" "items" "Ljava/util/ArrayList;") (List.mem_cons_of_mem _ gw_4_21)) (fun _ h9 => h9) dX6_isFoundAt_82 e22 ?_
              refine lv_iload_n hx hb dX6_isFoundAt_85 rfl (lv_at hl 3 rfl) ?_
              obtain ⟨r28, e29, hf⟩ := ob hf
              refine r_callVr (As := [.int x7]) ⟨hx, hb, hml, hown, hts⟩ (c_Jx4a65c_get_915e3 l D S a21 x7 r28 e29) (cwV 1 hts (gwV gw_4_12 gw_4_13 gw_4_14 gw_1_0 gw_2_2) rfl rfl rfl (by decide +kernel) ⟨Nat.le_of_ble_eq_true rfl, Nat.le_of_ble_eq_true rfl⟩) hH hNE 2 ek23 (by decide) rfl rfl rfl hl.1 rfl (Nat.le_of_ble_eq_true rfl) dX6_isFoundAt_86 ⟨(Nat.le_of_ble_eq_true rfl), (Nat.le_of_ble_eq_true rfl)⟩ (fun H locs hH => ?_)
              obtain ⟨ek30, hf⟩ := oc hf
              refine r_castS 6 hx hb hown (hts (.classLink RX6 28 "Housestyle$Item") (List.mem_cons_of_mem _ gw_4_22)) hH ek30 (by decide) rfl rfl dX6_isFoundAt_89 ?_
              refine lv_aload_n hx hb dX6_isFoundAt_92 rfl (lv_at hl 1 rfl) ?_
              refine lv_iload_n hx hb dX6_isFoundAt_93 rfl (lv_at hl 2 rfl) ?_
              refine lv_iload_n hx hb dX6_isFoundAt_94 rfl (lv_at hl 3 rfl) ?_
              refine lv_iadd hx hb dX6_isFoundAt_95 ?_
              obtain ⟨r31, e32, hf⟩ := ob hf
              refine r_callVi (As := [.ref b1, .int (p2 + x7)]) ⟨hx, hb, hml, hown, hts⟩ (c_X3_fits l D S r28 b1 (p2 + x7) r31 e32) (cwV 2 hts (gwV gw_5_8 gw_5_9 gw_5_10 gw_5_11 gw_3_5) rfl rfl rfl (by decide +kernel) ⟨Nat.le_of_ble_eq_true rfl, Nat.le_of_ble_eq_true rfl⟩) hH hNE 6 ek30 (by decide) rfl rfl rfl hl.1 rfl (Nat.le_of_ble_eq_true rfl) dX6_isFoundAt_96 ⟨(Nat.le_of_ble_eq_true rfl), (Nat.le_of_ble_eq_true rfl)⟩ (fun H locs hH => ?_)
              refine lv_if_ne (tgt := 104) hx hb dX6_isFoundAt_99 (by decide) (fun c33 => ?_) (fun c33 => ?_)
              · have hf := iq hf c33
                obtain ⟨x34, e35, hf⟩ := ol hf
                refine lv_iinc (v := x34) (lv' := [(3, .int x34), (0, .ref a0), (1, .ref b1), (2, .int p2)]) hx hb dX6_isFoundAt_104 hl (k := 3) rfl (by rw [← e35]; rfl) (by decide) rfl (fun ls hl => ?_)
                refine lv_goto (tgt := 52) hx hb dX6_isFoundAt_107 (by decide) ?_
                cases hf
                exact ih20 x34 hq20 _ _ ls hH (lv_sub hl [1, 2, 3, 0] rfl)
              · have hf := ip hf c33
                cases hf
                have hf9 := itR (K := (fun (z : (Unit) ⊕ (Unit) ⊕ (Unit)) => Sum.elim (fun (v : Unit) => k8 v) (fun (z : (Unit) ⊕ (Unit)) => Sum.elim (fun (v : Unit) => k14 v) (fun (v : Unit) => k17 v) z) z)) hq20 hq20f
                exact Xk17 () _ _ ls hH (lv_sub hl [] rfl) hf9
            refine lv_if_le (tgt := 81) hx hb dX6_isFoundAt_64 (by decide) (fun c38 => ?_) (fun c38 => ?_)
            · have hf := ip hf c38
              exact Jj27 () _ _ ls hH (lv_sub hl [0, 1, 2, 3] rfl) hf
            · have hf := iq hf c38
              refine lv_aload_n hx hb dX6_isFoundAt_67 rfl (lv_at hl 1 rfl) ?_
              refine lv_iload_n hx hb dX6_isFoundAt_68 rfl (lv_at hl 2 rfl) ?_
              refine lv_iload_n hx hb dX6_isFoundAt_69 rfl (lv_at hl 3 rfl) ?_
              refine lv_iadd hx hb dX6_isFoundAt_70 ?_
              refine lv_iconst (v := 1) hx hb dX6_isFoundAt_71 (by decide) ?_
              refine lv_isub hx hb dX6_isFoundAt_72 ?_
              obtain ⟨r39, e40, hf⟩ := ob hf
              refine r_callVi (As := [.int ((p2 + x7) - 1)]) ⟨hx, hb, hml, hown, hts⟩ (c_X8_goesOn l D S b1 ((p2 + x7) - 1) r39 e40) (cwV 1 hts (gwV gw_5_5 gw_5_6 gw_5_7 gw_2_23 gw_2_17) rfl rfl rfl (by decide +kernel) ⟨Nat.le_of_ble_eq_true rfl, Nat.le_of_ble_eq_true rfl⟩) hH hNE 11 ek1 (by decide) rfl rfl rfl hl.1 rfl (Nat.le_of_ble_eq_true rfl) dX6_isFoundAt_73 ⟨(Nat.le_of_ble_eq_true rfl), (Nat.le_of_ble_eq_true rfl)⟩ (fun H locs hH => ?_)
              refine lv_if_ne (tgt := 81) hx hb dX6_isFoundAt_76 (by decide) (fun c41 => ?_) (fun c41 => ?_)
              · have hf := iq hf c41
                exact Jj27 () _ _ ls hH (lv_sub hl [0, 1, 2, 3] rfl) hf
              · have hf := ip hf c41
                cases hf
                have hf9 := itR (K := (fun (z : (Unit) ⊕ (Unit) ⊕ (Unit)) => Sum.elim (fun (v : Unit) => k8 v) (fun (z : (Unit) ⊕ (Unit)) => Sum.elim (fun (v : Unit) => k14 v) (fun (v : Unit) => k17 v) z) z)) hq20 hq20f
                exact Xk14 () _ _ ls hH (lv_sub hl [] rfl) hf9
      exact Lo20 kF 0 eo20 _ _ ls hH (lv_sub hl [1, 2, 3, 0] rfl)
    refine lv_icmp_eq (tgt := 50) hx hb dX6_isFoundAt_23 (by decide) (fun c44 => ?_) (fun c44 => ?_)
    · have hf := ip hf c44
      exact Jj6 () _ _ ls hH (lv_sub hl [0, 1, 2] rfl) hf
    · have hf := iq hf c44
      refine lv_aload_n hx hb dX6_isFoundAt_26 rfl (lv_at hl 1 rfl) ?_
      refine lv_iload_n hx hb dX6_isFoundAt_27 rfl (lv_at hl 2 rfl) ?_
      obtain ⟨r45, e46, hf⟩ := ob hf
      refine r_callVi (As := [.int p2]) ⟨hx, hb, hml, hown, hts⟩ (c_X8_isFirst l D S b1 p2 r45 e46) (cwV 1 hts (gwV gw_5_2 gw_5_3 gw_5_4 gw_2_23 gw_2_15) rfl rfl rfl (by decide +kernel) ⟨Nat.le_of_ble_eq_true rfl, Nat.le_of_ble_eq_true rfl⟩) hH hNE 11 ek1 (by decide) rfl rfl rfl hl.1 rfl (Nat.le_of_ble_eq_true rfl) dX6_isFoundAt_28 ⟨(Nat.le_of_ble_eq_true rfl), (Nat.le_of_ble_eq_true rfl)⟩ (fun H locs hH => ?_)
      refine lv_aload_n hx hb dX6_isFoundAt_31 rfl (lv_at hl 0 rfl) ?_
      refine r_getI hx hb 9 hts (fun w h => List.mem_cons_of_mem _ (mwsX60 w h)) hown hH ek5 (by decide) rfl 1 (by decide) rfl (hts (.fieldLink RX6 37 "Housestyle$Rule" "condition" "C") (List.mem_cons_of_mem _ gw_4_20)) (fun _ h9 => h9) dX6_isFoundAt_32 ?_
      refine lv_bipush (v := 115) hx hb dX6_isFoundAt_35 (by decide) ?_
      obtain ⟨j48, e50, hf⟩ := ol hf
      have Jj48 : ∀ (x47 : Int32) (H : Heap) (locs : List Loc) (ls : Array Slot), HI D S S s H locs → lv_has ls 4 [(0, .ref a0), (1, .ref b1), (2, .int p2)] → j48 x47 = some r → GI p l e (headSpec wsX6_isFoundAt rmX6_isFoundAt).room s m ([.ref a0, .ref b1, .int p2] : List Value).toArray below meth c D S S r H locs 0 0 0 0 (F0 m 45 ls [.int x47, .int r45]) := by
        intro x47 H locs ls hH hl hf
        rw [← e50] at hf
        refine lv_icmp_eq (tgt := 50) hx hb dX6_isFoundAt_45 (by decide) (fun c49 => ?_) (fun c49 => ?_)
        · have hf := ip hf c49
          exact Jj6 () _ _ ls hH (lv_sub hl [0, 1, 2] rfl) hf
        · have hf := iq hf c49
          refine lv_iconst (v := 0) hx hb dX6_isFoundAt_48 (by decide) ?_
          have hr9 := Option.some.inj hf
          subst hr9
          exact e_z (r := 0) hx hb hr hlocks rfl hH dX6_isFoundAt_49
      refine lv_icmp_ne (tgt := 44) hx hb dX6_isFoundAt_37 (by decide) (fun c51 => ?_) (fun c51 => ?_)
      · have hf := iq hf c51
        refine lv_iconst (v := 0) hx hb dX6_isFoundAt_44 (by decide) ?_
        exact Jj48 0 _ _ ls hH (lv_sub hl [0, 1, 2] rfl) hf
      · have hf := ip hf c51
        refine lv_iconst (v := 1) hx hb dX6_isFoundAt_40 (by decide) ?_
        refine lv_goto (tgt := 45) hx hb dX6_isFoundAt_41 (by decide) ?_
        exact Jj48 1 _ _ ls hH (lv_sub hl [0, 1, 2] rfl) hf
  refine lv_if_eq (tgt := 17) hx hb dX6_isFoundAt_5 (by decide) (fun c54 => ?_) (fun c54 => ?_)
  · have hf := ip hf c54
    exact Jj4 () _ _ ls hH (lv_sub hl [0, 1, 2] rfl) hf
  · have hf := iq hf c54
    refine lv_aload_n hx hb dX6_isFoundAt_8 rfl (lv_at hl 0 rfl) ?_
    obtain ⟨ek55, hf⟩ := oc hf
    refine r_getI hx hb 9 hts (fun w h => List.mem_cons_of_mem _ (mwsX60 w h)) hown hH ek55 (by decide) rfl 2 (by decide) rfl (hts (.fieldLink RX6 41 "Housestyle$Rule" "inQuotes" "Z") (List.mem_cons_of_mem _ gw_4_19)) (fun _ h9 => h9) dX6_isFoundAt_9 ?_
    refine lv_if_ne (tgt := 17) hx hb dX6_isFoundAt_12 (by decide) (fun c56 => ?_) (fun c56 => ?_)
    · have hf := iq hf c56
      exact Jj4 () _ _ ls hH (lv_sub hl [0, 1, 2] rfl) hf
    · have hf := ip hf c56
      refine lv_iconst (v := 0) hx hb dX6_isFoundAt_15 (by decide) ?_
      have hr9 := Option.some.inj hf
      subst hr9
      exact e_z (r := 0) hx hb hr hlocks rfl hH dX6_isFoundAt_16
set_option maxRecDepth 100000 in
def f_X0_addHit (S : PS) (a0 : Nat) (p1 : Int32) (p2 : Int32) : Option (PS) := if kK S a0 = 4 then ((kQ S a0 2).bind fun a2 => if kK S a2 = 9 then ((f_X5_get S a2 p1).bind fun r5 => (f_X5_set S a2 p1 (r5 ||| (1 <<< (p2 &&& 31)))).bind fun r7 => some r7) else none) else none
abbrev rmX0_addHit : Room := { frames := 1, cells := 0, slots := 0, locals := 22 }
set_option maxHeartbeats 4000000 in
set_option maxRecDepth 100000 in
theorem c_X0_addHit (l : Launch) (D : va_G × Nat) (S : PS) (a0 : Nat) (p1 : Int32) (p2 : Int32) (r : PS) (hf : f_X0_addHit S a0 p1 p2 = some r) : MV l D yX0_addHit wsX0_addHit rmX0_addHit S [.ref a0, .int p1, .int p2] r 0 0 := by
  unfold f_X0_addHit at hf
  refine Met.ofW (cc := cX0_addHit) (maxL := 3) (ret := none) (by decide) rfl ?_
  intro p e s m args below meth c s₁ B hml hv
  obtain ⟨rfl, hH0, hNE⟩ := hv
  have hx := B.exec
  have hb := B.bytes
  have hr := B.returns
  have hts := atoms_spec (ws := wsX0_addHit) B.pre
  have hown : s.vm.findClass RX0 = some m.cls := findClass_of_methodNamed B.named
  have hlocks := B.notSynchronized
  have hH : HI D S S s s.heap [] := HI.start hH0
  have hl := lv_entry ([.ref a0, .int p1, .int p2]) (n := 3) (Nat.le_of_ble_eq_true rfl)
  rw [lg_entry_eq]
  generalize (lg_sl ([.ref a0, .int p1, .int p2]) ++ List.replicate (3 - (lg_sl ([.ref a0, .int p1, .int p2])).length) Slot.unset).toArray = ls at hl ⊢
  have hl : lv_has ls 3 [(0, .ref a0), (1, .int p1), (2, .int p2)] := hl
  refine lv_aload_n hx hb dX0_addHit_0 rfl (lv_at hl 0 rfl) ?_
  obtain ⟨ek1, hf⟩ := oc hf
  obtain ⟨a2, e3, hf⟩ := ob hf
  refine r_getQ hx hb 3 hts (fun w h => List.mem_cons_of_mem _ (mwsX00 w h)) hown hH ek1 (by decide) rfl 2 (by decide) rfl (hts (.fieldLink RX0 26 "Housestyle$Book" "hits" "LHousestyle$Row;") (List.mem_cons_of_mem _ gw_1_6)) (fun _ h9 => h9) dX0_addHit_1 e3 ?_
  refine lv_iload_n hx hb dX0_addHit_4 rfl (lv_at hl 1 rfl) ?_
  refine lv_aload_n hx hb dX0_addHit_5 rfl (lv_at hl 0 rfl) ?_
  refine r_getQ hx hb 3 hts (fun w h => List.mem_cons_of_mem _ (mwsX00 w h)) hown hH ek1 (by decide) rfl 2 (by decide) rfl (hts (.fieldLink RX0 26 "Housestyle$Book" "hits" "LHousestyle$Row;") (List.mem_cons_of_mem _ gw_1_6)) (fun _ h9 => h9) dX0_addHit_6 e3 ?_
  refine lv_iload_n hx hb dX0_addHit_9 rfl (lv_at hl 1 rfl) ?_
  obtain ⟨ek4, hf⟩ := oc hf
  obtain ⟨r5, e6, hf⟩ := ob hf
  refine r_callVi (As := [.int p1]) ⟨hx, hb, hml, hown, hts⟩ (c_X5_get l D S a2 p1 r5 e6) (cwV 1 hts (gwV gw_5_18 gw_2_13 gw_2_14 gw_1_5 gw_2_9) rfl rfl rfl (by decide +kernel) ⟨Nat.le_of_ble_eq_true rfl, Nat.le_of_ble_eq_true rfl⟩) hH hNE 8 ek4 (by decide) rfl rfl rfl hl.1 rfl (Nat.le_of_ble_eq_true rfl) dX0_addHit_10 ⟨(Nat.le_of_ble_eq_true rfl), (Nat.le_of_ble_eq_true rfl)⟩ (fun H locs hH => ?_)
  refine lv_iconst (v := 1) hx hb dX0_addHit_13 (by decide) ?_
  refine lv_iload_n hx hb dX0_addHit_14 rfl (lv_at hl 2 rfl) ?_
  refine lv_ishl hx hb dX0_addHit_15 ?_
  refine lv_ior hx hb dX0_addHit_16 ?_
  obtain ⟨r7, e8, hf⟩ := ob hf
  refine r_callVv (As := [.int p1, .int (r5 ||| (1 <<< (p2 &&& 31)))]) ⟨hx, hb, hml, hown, hts⟩ (c_X5_set l D S a2 p1 (r5 ||| (1 <<< (p2 &&& 31))) r7 e8) (cwV 2 hts (gwV gw_5_19 gw_5_20 gw_5_21 gw_1_5 gw_5_16) rfl rfl rfl (by decide +kernel) ⟨Nat.le_of_ble_eq_true rfl, Nat.le_of_ble_eq_true rfl⟩) hH hNE 8 ek4 (by decide) rfl rfl rfl hl.1 rfl (Nat.le_of_ble_eq_true rfl) dX0_addHit_17 ⟨(Nat.le_of_ble_eq_true rfl), (Nat.le_of_ble_eq_true rfl)⟩ (fun H locs hH => ?_)
  have hr9 := Option.some.inj hf
  subst hr9
  exact e_v hx hb hr hlocks hH dX0_addHit_20
set_option maxRecDepth 100000 in
def f_X0_lookForPair_b6 (a0 : Nat) (b1 : Nat) (b3 : Nat) (p2 : Int32) (q1 : Option Nat) (x2 : Int32) (S3 : PS) : Option (((Option Nat) × Int32 × PS) ⊕ ((PS))) := if kK S3 b1 = 12 then ((f_X8_count S3 b1).bind fun r9 => if r9 ≤ x2 then (some (.inr S3)) else ((f_X8_isQuoted S3 b1 x2).bind fun r12 => lt (fun (q14 : Option Nat) (S15 : PS) => lt (x2 + 1) fun x17 => some (.inl (q14, x17, S15))) fun j16 => if r12 = 0 then (oq q1 (if kK S3 b3 = 8 then ((kQ S3 b3 0).bind fun a23 => (f_X8_isThe S3 b1 a23 x2).bind fun r25 => if r25 = 0 then ((kQ S3 b3 1).bind fun a28 => (f_X8_isThe S3 b1 a28 x2).bind fun r30 => if r30 = 0 then (j16 none S3) else (j16 (some a23) S3)) else ((kQ S3 b3 1).bind fun a33 => j16 (some a33) S3)) else none) (fun a21 => (f_X8_isThe S3 b1 a21 x2).bind fun r35 => if r35 = 0 then (j16 (some a21) S3) else (if kK S3 a0 = 4 then ((f_X0_addHit S3 a0 x2 p2).bind fun r39 => j16 (some a21) r39) else none))) else (j16 q1 S3))) else none
set_option maxRecDepth 100000 in
def f_X0_lookForPair (S : PS) (a0 : Nat) (b1 : Nat) (p2 : Int32) (b3 : Nat) : Option (PS) := lt (fun (S4 : PS) => some S4) fun k5 => (iter (fun (v : (Option Nat) × Int32 × PS) => f_X0_lookForPair_b6 a0 b1 b3 p2 v.1 v.2.1 v.2.2) kF (none, 0, S)).bind (fun (v : PS) => k5 v)
abbrev rmX0_lookForPair : Room := { frames := 3, cells := 0, slots := 0, locals := 67 }
set_option maxHeartbeats 4000000 in
set_option maxRecDepth 100000 in
theorem c_X0_lookForPair (l : Launch) (D : va_G × Nat) (S : PS) (a0 : Nat) (b1 : Nat) (p2 : Int32) (b3 : Nat) (r : PS) (hf : f_X0_lookForPair S a0 b1 p2 b3 = some r) : MV l D yX0_lookForPair wsX0_lookForPair rmX0_lookForPair S [.ref a0, .ref b1, .int p2, .ref b3] r 0 0 := by
  unfold f_X0_lookForPair at hf
  refine Met.ofW (cc := cX0_lookForPair) (maxL := 6) (ret := none) (by decide) rfl ?_
  intro p e s m args below meth c s₁ B hml hv
  obtain ⟨rfl, hH0, hNE⟩ := hv
  have hx := B.exec
  have hb := B.bytes
  have hr := B.returns
  have hts := atoms_spec (ws := wsX0_lookForPair) B.pre
  have hown : s.vm.findClass RX0 = some m.cls := findClass_of_methodNamed B.named
  have hlocks := B.notSynchronized
  have hH : HI D S S s s.heap [] := HI.start hH0
  have hl := lv_entry ([.ref a0, .ref b1, .int p2, .ref b3]) (n := 6) (Nat.le_of_ble_eq_true rfl)
  rw [lg_entry_eq]
  generalize (lg_sl ([.ref a0, .ref b1, .int p2, .ref b3]) ++ List.replicate (6 - (lg_sl ([.ref a0, .ref b1, .int p2, .ref b3])).length) Slot.unset).toArray = ls at hl ⊢
  have hl : lv_has ls 6 [(0, .ref a0), (1, .ref b1), (2, .int p2), (3, .ref b3)] := hl
  refine lv_null hx hb dX0_lookForPair_0 ?_
  refine lv_astoreN (lv' := [(4, .null), (0, .ref a0), (1, .ref b1), (2, .int p2), (3, .ref b3)]) hx hb dX0_lookForPair_1 hl (by decide) rfl (fun ls hl => ?_)
  refine lv_iconst (v := 0) hx hb dX0_lookForPair_3 (by decide) ?_
  refine lv_istore (lv' := [(5, .int 0), (4, .null), (0, .ref a0), (1, .ref b1), (2, .int p2), (3, .ref b3)]) hx hb dX0_lookForPair_4 hl (by decide) rfl (fun ls hl => ?_)
  obtain ⟨k5, e6, hf⟩ := ol hf
  have Xk5 : ∀ (S4 : PS) (H : Heap) (locs : List Loc) (ls : Array Slot), HI D S S4 s H locs → lv_has ls 6 [] → k5 S4 = some r → GV p l e (headSpec wsX0_lookForPair rmX0_lookForPair).room s m ([.ref a0, .ref b1, .int p2, .ref b3] : List Value).toArray below meth c D S r H locs 0 0 0 0 (F0 m 100 ls []) := by
    intro S4 H locs ls hH hl hf
    rw [← e6] at hf
    have hr9 := Option.some.inj hf
    subst hr9
    exact e_v hx hb hr hlocks hH dX0_lookForPair_100
  obtain ⟨o7, eo7, hq7f⟩ := ob hf
  have Lo7 : ∀ (n : Nat) (q1 : Option Nat) (x2 : Int32) (S3 : PS), iter (fun (v : (Option Nat) × Int32 × PS) => f_X0_lookForPair_b6 a0 b1 b3 p2 v.1 v.2.1 v.2.2) n (q1, x2, S3) = some o7 → ∀ (H : Heap) (locs : List Loc) (ls : Array Slot), HI D S S3 s H locs → lv_has ls 6 [(0, .ref a0), (1, .ref b1), (2, .int p2), (3, .ref b3), (4, va_rf q1), (5, .int x2)] → GV p l e (headSpec wsX0_lookForPair rmX0_lookForPair).room s m ([.ref a0, .ref b1, .int p2, .ref b3] : List Value).toArray below meth c D S r H locs 0 0 0 0 (F0 m 6 ls []) := by
    intro n
    induction n with
    | zero => intro q1 x2 S3 hi; cases hi
    | succ n ih7 =>
      intro q1 x2 S3 hi H locs ls hH hl
      obtain ⟨q7_, hf, hq7⟩ := iter_s hi
      have hf : f_X0_lookForPair_b6 a0 b1 b3 p2 q1 x2 S3 = some q7_ := hf
      unfold f_X0_lookForPair_b6 at hf
      refine lv_iload hx hb dX0_lookForPair_6 (lv_at hl 5 rfl) ?_
      refine lv_aload_n hx hb dX0_lookForPair_8 rfl (lv_at hl 1 rfl) ?_
      obtain ⟨ek8, hf⟩ := oc hf
      obtain ⟨r9, e10, hf⟩ := ob hf
      refine r_callVi (As := []) ⟨hx, hb, hml, hown, hts⟩ (c_X8_count l D S3 b1 r9 e10) (cwV 0 hts (gwV gw_5_23 gw_2_21 gw_2_22 gw_2_23 gw_1_12) rfl rfl rfl (by decide +kernel) ⟨Nat.le_of_ble_eq_true rfl, Nat.le_of_ble_eq_true rfl⟩) hH hNE 11 ek8 (by decide) rfl rfl rfl hl.1 rfl (Nat.le_of_ble_eq_true rfl) dX0_lookForPair_9 ⟨(Nat.le_of_ble_eq_true rfl), (Nat.le_of_ble_eq_true rfl)⟩ (fun H locs hH => ?_)
      refine lv_icmp_ge (tgt := 100) hx hb dX0_lookForPair_12 (by decide) (fun c11 => ?_) (fun c11 => ?_)
      · have hf := ip hf c11
        cases hf
        have hf9 := itR (K := (fun (v : PS) => k5 v)) hq7 hq7f
        exact Xk5 S3 _ _ ls hH (lv_sub hl [] rfl) hf9
      · have hf := iq hf c11
        refine lv_aload_n hx hb dX0_lookForPair_15 rfl (lv_at hl 1 rfl) ?_
        refine lv_iload hx hb dX0_lookForPair_16 (lv_at hl 5 rfl) ?_
        obtain ⟨r12, e13, hf⟩ := ob hf
        refine r_callVi (As := [.int x2]) ⟨hx, hb, hml, hown, hts⟩ (c_X8_isQuoted l D S3 b1 x2 r12 e13) (cwV 1 hts (gwV gw_6_0 gw_5_0 gw_5_1 gw_2_23 gw_2_10) rfl rfl rfl (by decide +kernel) ⟨Nat.le_of_ble_eq_true rfl, Nat.le_of_ble_eq_true rfl⟩) hH hNE 11 ek8 (by decide) rfl rfl rfl hl.1 rfl (Nat.le_of_ble_eq_true rfl) dX0_lookForPair_18 ⟨(Nat.le_of_ble_eq_true rfl), (Nat.le_of_ble_eq_true rfl)⟩ (fun H locs hH => ?_)
        obtain ⟨j16, e19, hf⟩ := ol hf
        have Jj16 : ∀ (q14 : Option Nat) (S15 : PS) (H : Heap) (locs : List Loc) (ls : Array Slot), HI D S S15 s H locs → lv_has ls 6 [(0, .ref a0), (1, .ref b1), (2, .int p2), (3, .ref b3), (4, va_rf q14), (5, .int x2)] → j16 q14 S15 = some q7_ → GV p l e (headSpec wsX0_lookForPair rmX0_lookForPair).room s m ([.ref a0, .ref b1, .int p2, .ref b3] : List Value).toArray below meth c D S r H locs 0 0 0 0 (F0 m 94 ls []) := by
          intro q14 S15 H locs ls hH hl hf
          rw [← e19] at hf
          obtain ⟨x17, e18, hf⟩ := ol hf
          refine lv_iinc (v := x17) (lv' := [(5, .int x17), (0, .ref a0), (1, .ref b1), (2, .int p2), (3, .ref b3), (4, va_rf q14)]) hx hb dX0_lookForPair_94 hl (k := 5) rfl (by rw [← e18]; rfl) (by decide) (by cases q14 <;> rfl) (fun ls hl => ?_)
          refine lv_goto (tgt := 6) hx hb dX0_lookForPair_97 (by decide) ?_
          cases hf
          exact ih7 q14 x17 S15 hq7 _ _ ls hH (lv_sub hl [1, 2, 3, 4, 5, 0] rfl)
        refine lv_if_eq (tgt := 27) hx hb dX0_lookForPair_21 (by decide) (fun c20 => ?_) (fun c20 => ?_)
        · have hf := ip hf c20
          rcases q1 with _ | a21
          · have hf := oqn hf
            refine lv_aloadN hx hb dX0_lookForPair_27 (lv_at hl 4 rfl) ?_
            refine lv_ifnullN (tgt := 53) hx hb dX0_lookForPair_29 (by decide) ?_
            refine lv_aload_n hx hb dX0_lookForPair_53 rfl (lv_at hl 1 rfl) ?_
            refine lv_aload_n hx hb dX0_lookForPair_54 rfl (lv_at hl 3 rfl) ?_
            obtain ⟨ek22, hf⟩ := oc hf
            obtain ⟨a23, e24, hf⟩ := ob hf
            refine r_getQN hx hb 7 hts (fun w h => List.mem_cons_of_mem _ (mwsX40 w h)) hown hH ek22 (by decide) rfl 0 (by decide) rfl (nf_11 hNE) (fun _ h9 => h9) dX0_lookForPair_55 e24 ?_
            refine lv_iload hx hb dX0_lookForPair_58 (lv_at hl 5 rfl) ?_
            obtain ⟨r25, e26, hf⟩ := ob hf
            refine r_callVi (As := [.ref a23, .int x2]) ⟨hx, hb, hml, hown, hts⟩ (c_X8_isThe l D S3 b1 a23 x2 r25 e26) (cwV 2 hts (gwV gw_6_1 gw_4_16 gw_4_17 gw_2_23 gw_4_0) rfl rfl rfl (by decide +kernel) ⟨Nat.le_of_ble_eq_true rfl, Nat.le_of_ble_eq_true rfl⟩) hH hNE 11 ek8 (by decide) rfl rfl rfl hl.1 rfl (Nat.le_of_ble_eq_true rfl) dX0_lookForPair_60 ⟨(Nat.le_of_ble_eq_true rfl), (Nat.le_of_ble_eq_true rfl)⟩ (fun H locs hH => ?_)
            refine lv_if_eq (tgt := 75) hx hb dX0_lookForPair_63 (by decide) (fun c27 => ?_) (fun c27 => ?_)
            · have hf := ip hf c27
              refine lv_aload_n hx hb dX0_lookForPair_75 rfl (lv_at hl 1 rfl) ?_
              refine lv_aload_n hx hb dX0_lookForPair_76 rfl (lv_at hl 3 rfl) ?_
              obtain ⟨a28, e29, hf⟩ := ob hf
              refine r_getQN hx hb 7 hts (fun w h => List.mem_cons_of_mem _ (mwsX40 w h)) hown hH ek22 (by decide) rfl 1 (by decide) rfl (nf_12 hNE) (fun _ h9 => h9) dX0_lookForPair_77 e29 ?_
              refine lv_iload hx hb dX0_lookForPair_80 (lv_at hl 5 rfl) ?_
              obtain ⟨r30, e31, hf⟩ := ob hf
              refine r_callVi (As := [.ref a28, .int x2]) ⟨hx, hb, hml, hown, hts⟩ (c_X8_isThe l D S3 b1 a28 x2 r30 e31) (cwV 2 hts (gwV gw_6_1 gw_4_16 gw_4_17 gw_2_23 gw_4_0) rfl rfl rfl (by decide +kernel) ⟨Nat.le_of_ble_eq_true rfl, Nat.le_of_ble_eq_true rfl⟩) hH hNE 11 ek8 (by decide) rfl rfl rfl hl.1 rfl (Nat.le_of_ble_eq_true rfl) dX0_lookForPair_82 ⟨(Nat.le_of_ble_eq_true rfl), (Nat.le_of_ble_eq_true rfl)⟩ (fun H locs hH => ?_)
              refine lv_if_eq (tgt := 94) hx hb dX0_lookForPair_85 (by decide) (fun c32 => ?_) (fun c32 => ?_)
              · have hf := ip hf c32
                exact Jj16 none S3 _ _ ls hH (lv_sub hl [0, 1, 2, 3, 4, 5] rfl) hf
              · have hf := iq hf c32
                refine lv_aload_n hx hb dX0_lookForPair_88 rfl (lv_at hl 3 rfl) ?_
                refine r_getQN hx hb 7 hts (fun w h => List.mem_cons_of_mem _ (mwsX40 w h)) hown hH ek22 (by decide) rfl 0 (by decide) rfl (nf_11 hNE) (fun _ h9 => h9) dX0_lookForPair_89 e24 ?_
                refine lv_astore (lv' := [(4, .ref a23), (0, .ref a0), (1, .ref b1), (2, .int p2), (3, .ref b3), (5, .int x2)]) hx hb dX0_lookForPair_92 hl (by decide) rfl (fun ls hl => ?_)
                exact Jj16 (some a23) S3 _ _ ls hH (lv_sub hl [1, 2, 3, 4, 0, 5] rfl) hf
            · have hf := iq hf c27
              refine lv_aload_n hx hb dX0_lookForPair_66 rfl (lv_at hl 3 rfl) ?_
              obtain ⟨a33, e34, hf⟩ := ob hf
              refine r_getQN hx hb 7 hts (fun w h => List.mem_cons_of_mem _ (mwsX40 w h)) hown hH ek22 (by decide) rfl 1 (by decide) rfl (nf_12 hNE) (fun _ h9 => h9) dX0_lookForPair_67 e34 ?_
              refine lv_astore (lv' := [(4, .ref a33), (0, .ref a0), (1, .ref b1), (2, .int p2), (3, .ref b3), (5, .int x2)]) hx hb dX0_lookForPair_70 hl (by decide) rfl (fun ls hl => ?_)
              refine lv_goto (tgt := 94) hx hb dX0_lookForPair_72 (by decide) ?_
              exact Jj16 (some a33) S3 _ _ ls hH (lv_sub hl [1, 2, 3, 4, 0, 5] rfl) hf
          · have hf := oqs hf
            refine lv_aload hx hb dX0_lookForPair_27 (lv_at hl 4 rfl) ?_
            refine lv_ifnull hx hb dX0_lookForPair_29 ?_
            refine lv_aload_n hx hb dX0_lookForPair_32 rfl (lv_at hl 1 rfl) ?_
            refine lv_aload hx hb dX0_lookForPair_33 (lv_at hl 4 rfl) ?_
            refine lv_iload hx hb dX0_lookForPair_35 (lv_at hl 5 rfl) ?_
            obtain ⟨r35, e36, hf⟩ := ob hf
            refine r_callVi (As := [.ref a21, .int x2]) ⟨hx, hb, hml, hown, hts⟩ (c_X8_isThe l D S3 b1 a21 x2 r35 e36) (cwV 2 hts (gwV gw_6_1 gw_4_16 gw_4_17 gw_2_23 gw_4_0) rfl rfl rfl (by decide +kernel) ⟨Nat.le_of_ble_eq_true rfl, Nat.le_of_ble_eq_true rfl⟩) hH hNE 11 ek8 (by decide) rfl rfl rfl hl.1 rfl (Nat.le_of_ble_eq_true rfl) dX0_lookForPair_37 ⟨(Nat.le_of_ble_eq_true rfl), (Nat.le_of_ble_eq_true rfl)⟩ (fun H locs hH => ?_)
            refine lv_if_eq (tgt := 94) hx hb dX0_lookForPair_40 (by decide) (fun c37 => ?_) (fun c37 => ?_)
            · have hf := ip hf c37
              exact Jj16 (some a21) S3 _ _ ls hH (lv_sub hl [0, 1, 2, 3, 4, 5] rfl) hf
            · have hf := iq hf c37
              refine lv_aload_n hx hb dX0_lookForPair_43 rfl (lv_at hl 0 rfl) ?_
              refine lv_iload hx hb dX0_lookForPair_44 (lv_at hl 5 rfl) ?_
              refine lv_iload_n hx hb dX0_lookForPair_46 rfl (lv_at hl 2 rfl) ?_
              obtain ⟨ek38, hf⟩ := oc hf
              obtain ⟨r39, e40, hf⟩ := ob hf
              refine r_callVv (As := [.int x2, .int p2]) ⟨hx, hb, hml, hown, hts⟩ (c_X0_addHit l D S3 a0 x2 p2 r39 e40) (cwV 2 hts (gwV gw_6_2 gw_6_3 gw_6_4 gw_6_5 gw_5_17) rfl rfl rfl (by decide +kernel) ⟨Nat.le_of_ble_eq_true rfl, Nat.le_of_ble_eq_true rfl⟩) hH hNE 3 ek38 (by decide) rfl rfl rfl hl.1 rfl (Nat.le_of_ble_eq_true rfl) dX0_lookForPair_47 ⟨(Nat.le_of_ble_eq_true rfl), (Nat.le_of_ble_eq_true rfl)⟩ (fun H locs hH => ?_)
              refine lv_goto (tgt := 94) hx hb dX0_lookForPair_50 (by decide) ?_
              exact Jj16 (some a21) r39 _ _ ls hH (lv_sub hl [0, 1, 2, 3, 4, 5] rfl) hf
        · have hf := iq hf c20
          refine lv_goto (tgt := 94) hx hb dX0_lookForPair_24 (by decide) ?_
          exact Jj16 q1 S3 _ _ ls hH (lv_sub hl [0, 1, 2, 3, 4, 5] rfl) hf
  exact Lo7 kF none 0 S eo7 _ _ ls hH (lv_sub hl [2, 3, 4, 5, 1, 0] rfl)
set_option maxRecDepth 100000 in
def f_X0_look_b79 (a0 : Nat) (b1 : Nat) (x15 : Int32) (S16 : PS) : Option ((Int32 × PS) ⊕ ((PS))) := if kK S16 a0 = 4 then ((kQ S16 a0 1).bind fun a22 => if kK S16 a22 = 3 then ((f_Jx4a65c_size_8abf5 S16 a22).bind fun r25 => if r25 ≤ x15 then (some (.inr S16)) else ((f_Jx4a65c_get_915e3 S16 a22 x15).bind fun r28 => if kK S16 r28 = 8 then ((f_X0_lookForPair S16 a0 b1 (12 + x15) r28).bind fun r31 => lt (x15 + 1) fun x33 => some (.inl (x33, r31))) else none)) else none) else none
set_option maxRecDepth 100000 in
def f_X0_look_b39 (a0 : Nat) (b1 : Nat) (r43 : Nat) (x10 : Int32) (x46 : Int32) (S47 : PS) : Option ((Int32 × PS) ⊕ ((PS))) := if kK S47 b1 = 12 then ((f_X8_count S47 b1).bind fun r55 => if r55 ≤ x46 then (some (.inr S47)) else (if kK S47 r43 = 10 then ((f_X6_isFoundAt S47 r43 b1 x46).bind fun r59 => lt (fun (S61 : PS) => lt (x46 + 1) fun x63 => some (.inl (x63, S61))) fun j62 => if r59 = 0 then (j62 S47) else (if kK S47 a0 = 4 then ((f_X0_addHit S47 a0 x46 x10).bind fun r68 => j62 r68) else none)) else none)) else none
set_option maxRecDepth 100000 in
def f_X0_look_b13 (a0 : Nat) (b1 : Nat) (x10 : Int32) (S11 : PS) : Option ((Int32 × PS) ⊕ ((PS))) := if kK S11 a0 = 4 then ((kQ S11 a0 0).bind fun a37 => if kK S11 a37 = 3 then ((f_Jx4a65c_size_8abf5 S11 a37).bind fun r40 => if r40 ≤ x10 then (some (.inr S11)) else ((f_Jx4a65c_get_915e3 S11 a37 x10).bind fun r43 => if kK S11 r43 = 10 then (lt (fun (S48 : PS) => lt (x10 + 1) fun x51 => some (.inl (x51, S48))) fun k49 => (iter (fun (v : Int32 × PS) => f_X0_look_b39 a0 b1 r43 x10 v.1 v.2) kF (0, S11)).bind (fun (v : PS) => k49 v)) else none)) else none) else none
set_option maxRecDepth 100000 in
def f_X0_look (S : PS) (a0 : Nat) (b1 : Nat) : Option (PS) := if kK S a0 = 4 then ((kQ S a0 2).bind fun a2 => if kK S b1 = 12 then ((f_X8_count S b1).bind fun r5 => if kK S a2 = 9 then ((f_X5_reset S a2 r5).bind fun r8 => lt (fun (S12 : PS) => lt (fun (S17 : PS) => some S17) fun k18 => (iter (fun (v : Int32 × PS) => f_X0_look_b79 a0 b1 v.1 v.2) kF (0, S12)).bind (fun (v : PS) => k18 v)) fun k13 => (iter (fun (v : Int32 × PS) => f_X0_look_b13 a0 b1 v.1 v.2) kF (0, r8)).bind (fun (v : PS) => k13 v)) else none) else none) else none
abbrev rmX0_look : Room := { frames := 5, cells := 0, slots := 0, locals := 114 }
set_option maxHeartbeats 4000000 in
set_option maxRecDepth 100000 in
theorem c_X0_look (l : Launch) (D : va_G × Nat) (S : PS) (a0 : Nat) (b1 : Nat) (r : PS) (hf : f_X0_look S a0 b1 = some r) : MV l D yX0_look wsX0_look rmX0_look S [.ref a0, .ref b1] r 0 0 := by
  unfold f_X0_look at hf
  refine Met.ofW (cc := cX0_look) (maxL := 5) (ret := none) (by decide) rfl ?_
  intro p e s m args below meth c s₁ B hml hv
  obtain ⟨rfl, hH0, hNE⟩ := hv
  have hx := B.exec
  have hb := B.bytes
  have hr := B.returns
  have hts := atoms_spec (ws := wsX0_look) B.pre
  have hown : s.vm.findClass RX0 = some m.cls := findClass_of_methodNamed B.named
  have hlocks := B.notSynchronized
  have hH : HI D S S s s.heap [] := HI.start hH0
  have hl := lv_entry ([.ref a0, .ref b1]) (n := 5) (Nat.le_of_ble_eq_true rfl)
  rw [lg_entry_eq]
  generalize (lg_sl ([.ref a0, .ref b1]) ++ List.replicate (5 - (lg_sl ([.ref a0, .ref b1])).length) Slot.unset).toArray = ls at hl ⊢
  have hl : lv_has ls 5 [(0, .ref a0), (1, .ref b1)] := hl
  refine lv_aload_n hx hb dX0_look_0 rfl (lv_at hl 0 rfl) ?_
  obtain ⟨ek1, hf⟩ := oc hf
  obtain ⟨a2, e3, hf⟩ := ob hf
  refine r_getQ hx hb 3 hts (fun w h => List.mem_cons_of_mem _ (mwsX00 w h)) hown hH ek1 (by decide) rfl 2 (by decide) rfl (hts (.fieldLink RX0 26 "Housestyle$Book" "hits" "LHousestyle$Row;") (List.mem_cons_of_mem _ gw_1_6)) (fun _ h9 => h9) dX0_look_1 e3 ?_
  refine lv_aload_n hx hb dX0_look_4 rfl (lv_at hl 1 rfl) ?_
  obtain ⟨ek4, hf⟩ := oc hf
  obtain ⟨r5, e6, hf⟩ := ob hf
  refine r_callVi (As := []) ⟨hx, hb, hml, hown, hts⟩ (c_X8_count l D S b1 r5 e6) (cwV 0 hts (gwV gw_5_23 gw_2_21 gw_2_22 gw_2_23 gw_1_12) rfl rfl rfl (by decide +kernel) ⟨Nat.le_of_ble_eq_true rfl, Nat.le_of_ble_eq_true rfl⟩) hH hNE 11 ek4 (by decide) rfl rfl rfl hl.1 rfl (Nat.le_of_ble_eq_true rfl) dX0_look_5 ⟨(Nat.le_of_ble_eq_true rfl), (Nat.le_of_ble_eq_true rfl)⟩ (fun H locs hH => ?_)
  obtain ⟨ek7, hf⟩ := oc hf
  obtain ⟨r8, e9, hf⟩ := ob hf
  refine r_callVv (As := [.int r5]) ⟨hx, hb, hml, hown, hts⟩ (c_X5_reset l D S a2 r5 r8 e9) (cwV 1 hts (gwV gw_6_9 gw_6_10 gw_6_11 gw_1_5 gw_1_17) rfl rfl rfl (by decide +kernel) ⟨Nat.le_of_ble_eq_true rfl, Nat.le_of_ble_eq_true rfl⟩) hH hNE 8 ek7 (by decide) rfl rfl rfl hl.1 rfl (Nat.le_of_ble_eq_true rfl) dX0_look_8 ⟨(Nat.le_of_ble_eq_true rfl), (Nat.le_of_ble_eq_true rfl)⟩ (fun H locs hH => ?_)
  refine lv_iconst (v := 0) hx hb dX0_look_11 (by decide) ?_
  refine lv_istore_n (lv' := [(2, .int 0), (0, .ref a0), (1, .ref b1)]) hx hb dX0_look_12 rfl hl (by decide) rfl (fun ls hl => ?_)
  obtain ⟨k13, e14, hf⟩ := ol hf
  have Xk13 : ∀ (S12 : PS) (H : Heap) (locs : List Loc) (ls : Array Slot), HI D S S12 s H locs → lv_has ls 5 [(0, .ref a0), (1, .ref b1)] → k13 S12 = some r → GV p l e (headSpec wsX0_look rmX0_look).room s m ([.ref a0, .ref b1] : List Value).toArray below meth c D S r H locs 0 0 0 0 (F0 m 77 ls []) := by
    intro S12 H locs ls hH hl hf
    rw [← e14] at hf
    refine lv_iconst (v := 0) hx hb dX0_look_77 (by decide) ?_
    refine lv_istore_n (lv' := [(2, .int 0), (0, .ref a0), (1, .ref b1)]) hx hb dX0_look_78 rfl hl (by decide) rfl (fun ls hl => ?_)
    obtain ⟨k18, e19, hf⟩ := ol hf
    have Xk18 : ∀ (S17 : PS) (H : Heap) (locs : List Loc) (ls : Array Slot), HI D S S17 s H locs → lv_has ls 5 [] → k18 S17 = some r → GV p l e (headSpec wsX0_look rmX0_look).room s m ([.ref a0, .ref b1] : List Value).toArray below meth c D S r H locs 0 0 0 0 (F0 m 116 ls []) := by
      intro S17 H locs ls hH hl hf
      rw [← e19] at hf
      have hr9 := Option.some.inj hf
      subst hr9
      exact e_v hx hb hr hlocks hH dX0_look_116
    obtain ⟨o20, eo20, hq20f⟩ := ob hf
    have Lo20 : ∀ (n : Nat) (x15 : Int32) (S16 : PS), iter (fun (v : Int32 × PS) => f_X0_look_b79 a0 b1 v.1 v.2) n (x15, S16) = some o20 → ∀ (H : Heap) (locs : List Loc) (ls : Array Slot), HI D S S16 s H locs → lv_has ls 5 [(0, .ref a0), (1, .ref b1), (2, .int x15)] → GV p l e (headSpec wsX0_look rmX0_look).room s m ([.ref a0, .ref b1] : List Value).toArray below meth c D S r H locs 0 0 0 0 (F0 m 79 ls []) := by
      intro n
      induction n with
      | zero => intro x15 S16 hi; cases hi
      | succ n ih20 =>
        intro x15 S16 hi H locs ls hH hl
        obtain ⟨q20_, hf, hq20⟩ := iter_s hi
        have hf : f_X0_look_b79 a0 b1 x15 S16 = some q20_ := hf
        unfold f_X0_look_b79 at hf
        refine lv_iload_n hx hb dX0_look_79 rfl (lv_at hl 2 rfl) ?_
        refine lv_aload_n hx hb dX0_look_80 rfl (lv_at hl 0 rfl) ?_
        obtain ⟨ek21, hf⟩ := oc hf
        obtain ⟨a22, e23, hf⟩ := ob hf
        refine r_getQ hx hb 3 hts (fun w h => List.mem_cons_of_mem _ (mwsX00 w h)) hown hH ek21 (by decide) rfl 1 (by decide) rfl (hts (.fieldLink RX0 18 "Housestyle$Book" "pairs" "Ljava/util/ArrayList;") (List.mem_cons_of_mem _ gw_1_2)) (fun _ h9 => h9) dX0_look_81 e23 ?_
        obtain ⟨ek24, hf⟩ := oc hf
        obtain ⟨r25, e26, hf⟩ := ob hf
        refine r_callVi (As := []) ⟨hx, hb, hml, hown, hts⟩ (c_Jx4a65c_size_8abf5 l D S16 a22 r25 e26) (cwV 0 hts (gwV gw_6_12 gw_4_10 gw_4_11 gw_1_0 gw_1_18) rfl rfl rfl (by decide +kernel) ⟨Nat.le_of_ble_eq_true rfl, Nat.le_of_ble_eq_true rfl⟩) hH hNE 2 ek24 (by decide) rfl rfl rfl hl.1 rfl (Nat.le_of_ble_eq_true rfl) dX0_look_84 ⟨(Nat.le_of_ble_eq_true rfl), (Nat.le_of_ble_eq_true rfl)⟩ (fun H locs hH => ?_)
        refine lv_icmp_ge (tgt := 116) hx hb dX0_look_87 (by decide) (fun c27 => ?_) (fun c27 => ?_)
        · have hf := ip hf c27
          cases hf
          have hf9 := itR (K := (fun (v : PS) => k18 v)) hq20 hq20f
          exact Xk18 S16 _ _ ls hH (lv_sub hl [] rfl) hf9
        · have hf := iq hf c27
          refine lv_aload_n hx hb dX0_look_90 rfl (lv_at hl 0 rfl) ?_
          refine lv_aload_n hx hb dX0_look_91 rfl (lv_at hl 1 rfl) ?_
          refine lv_bipush (v := 12) hx hb dX0_look_92 (by decide) ?_
          refine lv_iload_n hx hb dX0_look_94 rfl (lv_at hl 2 rfl) ?_
          refine lv_iadd hx hb dX0_look_95 ?_
          refine lv_aload_n hx hb dX0_look_96 rfl (lv_at hl 0 rfl) ?_
          refine r_getQ hx hb 3 hts (fun w h => List.mem_cons_of_mem _ (mwsX00 w h)) hown hH ek21 (by decide) rfl 1 (by decide) rfl (hts (.fieldLink RX0 18 "Housestyle$Book" "pairs" "Ljava/util/ArrayList;") (List.mem_cons_of_mem _ gw_1_2)) (fun _ h9 => h9) dX0_look_97 e23 ?_
          refine lv_iload_n hx hb dX0_look_100 rfl (lv_at hl 2 rfl) ?_
          obtain ⟨r28, e29, hf⟩ := ob hf
          refine r_callVr (As := [.int x15]) ⟨hx, hb, hml, hown, hts⟩ (c_Jx4a65c_get_915e3 l D S16 a22 x15 r28 e29) (cwV 1 hts (gwV gw_6_13 gw_4_13 gw_4_14 gw_1_0 gw_2_2) rfl rfl rfl (by decide +kernel) ⟨Nat.le_of_ble_eq_true rfl, Nat.le_of_ble_eq_true rfl⟩) hH hNE 2 ek24 (by decide) rfl rfl rfl hl.1 rfl (Nat.le_of_ble_eq_true rfl) dX0_look_101 ⟨(Nat.le_of_ble_eq_true rfl), (Nat.le_of_ble_eq_true rfl)⟩ (fun H locs hH => ?_)
          obtain ⟨ek30, hf⟩ := oc hf
          refine r_castS 7 hx hb hown (hts (.classLink RX0 56 "Housestyle$Pair") (List.mem_cons_of_mem _ gw_6_8)) hH ek30 (by decide) rfl rfl dX0_look_104 ?_
          obtain ⟨r31, e32, hf⟩ := ob hf
          refine r_callVv (As := [.ref b1, .int (12 + x15), .ref r28]) ⟨hx, hb, hml, hown, hts⟩ (c_X0_lookForPair l D S16 a0 b1 (12 + x15) r28 r31 e32) (cwV 3 hts (gwV gw_6_17 gw_6_18 gw_6_19 gw_6_5 gw_5_22) rfl rfl rfl (by decide +kernel) ⟨Nat.le_of_ble_eq_true rfl, Nat.le_of_ble_eq_true rfl⟩) hH hNE 3 ek21 (by decide) rfl rfl rfl hl.1 rfl (Nat.le_of_ble_eq_true rfl) dX0_look_107 ⟨(Nat.le_of_ble_eq_true rfl), (Nat.le_of_ble_eq_true rfl)⟩ (fun H locs hH => ?_)
          obtain ⟨x33, e34, hf⟩ := ol hf
          refine lv_iinc (v := x33) (lv' := [(2, .int x33), (0, .ref a0), (1, .ref b1)]) hx hb dX0_look_110 hl (k := 2) rfl (by rw [← e34]; rfl) (by decide) rfl (fun ls hl => ?_)
          refine lv_goto (tgt := 79) hx hb dX0_look_113 (by decide) ?_
          cases hf
          exact ih20 x33 r31 hq20 _ _ ls hH (lv_sub hl [1, 2, 0] rfl)
    exact Lo20 kF 0 S12 eo20 _ _ ls hH (lv_sub hl [1, 2, 0] rfl)
  obtain ⟨o35, eo35, hq35f⟩ := ob hf
  have Lo35 : ∀ (n : Nat) (x10 : Int32) (S11 : PS), iter (fun (v : Int32 × PS) => f_X0_look_b13 a0 b1 v.1 v.2) n (x10, S11) = some o35 → ∀ (H : Heap) (locs : List Loc) (ls : Array Slot), HI D S S11 s H locs → lv_has ls 5 [(0, .ref a0), (1, .ref b1), (2, .int x10)] → GV p l e (headSpec wsX0_look rmX0_look).room s m ([.ref a0, .ref b1] : List Value).toArray below meth c D S r H locs 0 0 0 0 (F0 m 13 ls []) := by
    intro n
    induction n with
    | zero => intro x10 S11 hi; cases hi
    | succ n ih35 =>
      intro x10 S11 hi H locs ls hH hl
      obtain ⟨q35_, hf, hq35⟩ := iter_s hi
      have hf : f_X0_look_b13 a0 b1 x10 S11 = some q35_ := hf
      unfold f_X0_look_b13 at hf
      refine lv_iload_n hx hb dX0_look_13 rfl (lv_at hl 2 rfl) ?_
      refine lv_aload_n hx hb dX0_look_14 rfl (lv_at hl 0 rfl) ?_
      obtain ⟨ek36, hf⟩ := oc hf
      obtain ⟨a37, e38, hf⟩ := ob hf
      refine r_getQ hx hb 3 hts (fun w h => List.mem_cons_of_mem _ (mwsX00 w h)) hown hH ek36 (by decide) rfl 0 (by decide) rfl (hts (.fieldLink RX0 12 "Housestyle$Book" "rules" "Ljava/util/ArrayList;") (List.mem_cons_of_mem _ gw_1_1)) (fun _ h9 => h9) dX0_look_15 e38 ?_
      obtain ⟨ek39, hf⟩ := oc hf
      obtain ⟨r40, e41, hf⟩ := ob hf
      refine r_callVi (As := []) ⟨hx, hb, hml, hown, hts⟩ (c_Jx4a65c_size_8abf5 l D S11 a37 r40 e41) (cwV 0 hts (gwV gw_6_12 gw_4_10 gw_4_11 gw_1_0 gw_1_18) rfl rfl rfl (by decide +kernel) ⟨Nat.le_of_ble_eq_true rfl, Nat.le_of_ble_eq_true rfl⟩) hH hNE 2 ek39 (by decide) rfl rfl rfl hl.1 rfl (Nat.le_of_ble_eq_true rfl) dX0_look_18 ⟨(Nat.le_of_ble_eq_true rfl), (Nat.le_of_ble_eq_true rfl)⟩ (fun H locs hH => ?_)
      refine lv_icmp_ge (tgt := 77) hx hb dX0_look_21 (by decide) (fun c42 => ?_) (fun c42 => ?_)
      · have hf := ip hf c42
        cases hf
        have hf9 := itR (K := (fun (v : PS) => k13 v)) hq35 hq35f
        exact Xk13 S11 _ _ ls hH (lv_sub hl [0, 1] rfl) hf9
      · have hf := iq hf c42
        refine lv_aload_n hx hb dX0_look_24 rfl (lv_at hl 0 rfl) ?_
        refine r_getQ hx hb 3 hts (fun w h => List.mem_cons_of_mem _ (mwsX00 w h)) hown hH ek36 (by decide) rfl 0 (by decide) rfl (hts (.fieldLink RX0 12 "Housestyle$Book" "rules" "Ljava/util/ArrayList;") (List.mem_cons_of_mem _ gw_1_1)) (fun _ h9 => h9) dX0_look_25 e38 ?_
        refine lv_iload_n hx hb dX0_look_28 rfl (lv_at hl 2 rfl) ?_
        obtain ⟨r43, e44, hf⟩ := ob hf
        refine r_callVr (As := [.int x10]) ⟨hx, hb, hml, hown, hts⟩ (c_Jx4a65c_get_915e3 l D S11 a37 x10 r43 e44) (cwV 1 hts (gwV gw_6_13 gw_4_13 gw_4_14 gw_1_0 gw_2_2) rfl rfl rfl (by decide +kernel) ⟨Nat.le_of_ble_eq_true rfl, Nat.le_of_ble_eq_true rfl⟩) hH hNE 2 ek39 (by decide) rfl rfl rfl hl.1 rfl (Nat.le_of_ble_eq_true rfl) dX0_look_29 ⟨(Nat.le_of_ble_eq_true rfl), (Nat.le_of_ble_eq_true rfl)⟩ (fun H locs hH => ?_)
        obtain ⟨ek45, hf⟩ := oc hf
        refine r_castS 9 hx hb hown (hts (.classLink RX0 46 "Housestyle$Rule") (List.mem_cons_of_mem _ gw_6_7)) hH ek45 (by decide) rfl rfl dX0_look_32 ?_
        refine lv_astore_n (lv' := [(3, .ref r43), (0, .ref a0), (1, .ref b1), (2, .int x10)]) hx hb dX0_look_35 rfl hl (by decide) rfl (fun ls hl => ?_)
        refine lv_iconst (v := 0) hx hb dX0_look_36 (by decide) ?_
        refine lv_istore (lv' := [(4, .int 0), (3, .ref r43), (0, .ref a0), (1, .ref b1), (2, .int x10)]) hx hb dX0_look_37 hl (by decide) rfl (fun ls hl => ?_)
        obtain ⟨k49, e50, hf⟩ := ol hf
        have Xk49 : ∀ (S48 : PS) (H : Heap) (locs : List Loc) (ls : Array Slot), HI D S S48 s H locs → lv_has ls 5 [(0, .ref a0), (1, .ref b1), (2, .int x10)] → k49 S48 = some q35_ → GV p l e (headSpec wsX0_look rmX0_look).room s m ([.ref a0, .ref b1] : List Value).toArray below meth c D S r H locs 0 0 0 0 (F0 m 71 ls []) := by
          intro S48 H locs ls hH hl hf
          rw [← e50] at hf
          obtain ⟨x51, e52, hf⟩ := ol hf
          refine lv_iinc (v := x51) (lv' := [(2, .int x51), (0, .ref a0), (1, .ref b1)]) hx hb dX0_look_71 hl (k := 2) rfl (by rw [← e52]; rfl) (by decide) rfl (fun ls hl => ?_)
          refine lv_goto (tgt := 13) hx hb dX0_look_74 (by decide) ?_
          cases hf
          exact ih35 x51 S48 hq35 _ _ ls hH (lv_sub hl [1, 2, 0] rfl)
        obtain ⟨o53, eo53, hq53f⟩ := ob hf
        have Lo53 : ∀ (n : Nat) (x46 : Int32) (S47 : PS), iter (fun (v : Int32 × PS) => f_X0_look_b39 a0 b1 r43 x10 v.1 v.2) n (x46, S47) = some o53 → ∀ (H : Heap) (locs : List Loc) (ls : Array Slot), HI D S S47 s H locs → lv_has ls 5 [(0, .ref a0), (1, .ref b1), (2, .int x10), (3, .ref r43), (4, .int x46)] → GV p l e (headSpec wsX0_look rmX0_look).room s m ([.ref a0, .ref b1] : List Value).toArray below meth c D S r H locs 0 0 0 0 (F0 m 39 ls []) := by
          intro n
          induction n with
          | zero => intro x46 S47 hi; cases hi
          | succ n ih53 =>
            intro x46 S47 hi H locs ls hH hl
            obtain ⟨q53_, hf, hq53⟩ := iter_s hi
            have hf : f_X0_look_b39 a0 b1 r43 x10 x46 S47 = some q53_ := hf
            unfold f_X0_look_b39 at hf
            refine lv_iload hx hb dX0_look_39 (lv_at hl 4 rfl) ?_
            refine lv_aload_n hx hb dX0_look_41 rfl (lv_at hl 1 rfl) ?_
            obtain ⟨ek54, hf⟩ := oc hf
            obtain ⟨r55, e56, hf⟩ := ob hf
            refine r_callVi (As := []) ⟨hx, hb, hml, hown, hts⟩ (c_X8_count l D S47 b1 r55 e56) (cwV 0 hts (gwV gw_5_23 gw_2_21 gw_2_22 gw_2_23 gw_1_12) rfl rfl rfl (by decide +kernel) ⟨Nat.le_of_ble_eq_true rfl, Nat.le_of_ble_eq_true rfl⟩) hH hNE 11 ek54 (by decide) rfl rfl rfl hl.1 rfl (Nat.le_of_ble_eq_true rfl) dX0_look_42 ⟨(Nat.le_of_ble_eq_true rfl), (Nat.le_of_ble_eq_true rfl)⟩ (fun H locs hH => ?_)
            refine lv_icmp_ge (tgt := 71) hx hb dX0_look_45 (by decide) (fun c57 => ?_) (fun c57 => ?_)
            · have hf := ip hf c57
              cases hf
              have hf9 := itR (K := (fun (v : PS) => k49 v)) hq53 hq53f
              exact Xk49 S47 _ _ ls hH (lv_sub hl [0, 1, 2] rfl) hf9
            · have hf := iq hf c57
              refine lv_aload_n hx hb dX0_look_48 rfl (lv_at hl 3 rfl) ?_
              refine lv_aload_n hx hb dX0_look_49 rfl (lv_at hl 1 rfl) ?_
              refine lv_iload hx hb dX0_look_50 (lv_at hl 4 rfl) ?_
              obtain ⟨ek58, hf⟩ := oc hf
              obtain ⟨r59, e60, hf⟩ := ob hf
              refine r_callVi (As := [.ref b1, .int x46]) ⟨hx, hb, hml, hown, hts⟩ (c_X6_isFoundAt l D S47 r43 b1 x46 r59 e60) (cwV 2 hts (gwV gw_6_14 gw_6_15 gw_6_16 gw_5_15 gw_4_18) rfl rfl rfl (by decide +kernel) ⟨Nat.le_of_ble_eq_true rfl, Nat.le_of_ble_eq_true rfl⟩) hH hNE 9 ek58 (by decide) rfl rfl rfl hl.1 rfl (Nat.le_of_ble_eq_true rfl) dX0_look_52 ⟨(Nat.le_of_ble_eq_true rfl), (Nat.le_of_ble_eq_true rfl)⟩ (fun H locs hH => ?_)
              obtain ⟨j62, e65, hf⟩ := ol hf
              have Jj62 : ∀ (S61 : PS) (H : Heap) (locs : List Loc) (ls : Array Slot), HI D S S61 s H locs → lv_has ls 5 [(0, .ref a0), (1, .ref b1), (2, .int x10), (3, .ref r43), (4, .int x46)] → j62 S61 = some q53_ → GV p l e (headSpec wsX0_look rmX0_look).room s m ([.ref a0, .ref b1] : List Value).toArray below meth c D S r H locs 0 0 0 0 (F0 m 65 ls []) := by
                intro S61 H locs ls hH hl hf
                rw [← e65] at hf
                obtain ⟨x63, e64, hf⟩ := ol hf
                refine lv_iinc (v := x63) (lv' := [(4, .int x63), (0, .ref a0), (1, .ref b1), (2, .int x10), (3, .ref r43)]) hx hb dX0_look_65 hl (k := 4) rfl (by rw [← e64]; rfl) (by decide) rfl (fun ls hl => ?_)
                refine lv_goto (tgt := 39) hx hb dX0_look_68 (by decide) ?_
                cases hf
                exact ih53 x63 S61 hq53 _ _ ls hH (lv_sub hl [1, 2, 3, 4, 0] rfl)
              refine lv_if_eq (tgt := 65) hx hb dX0_look_55 (by decide) (fun c66 => ?_) (fun c66 => ?_)
              · have hf := ip hf c66
                exact Jj62 S47 _ _ ls hH (lv_sub hl [0, 1, 2, 3, 4] rfl) hf
              · have hf := iq hf c66
                refine lv_aload_n hx hb dX0_look_58 rfl (lv_at hl 0 rfl) ?_
                refine lv_iload hx hb dX0_look_59 (lv_at hl 4 rfl) ?_
                refine lv_iload_n hx hb dX0_look_61 rfl (lv_at hl 2 rfl) ?_
                obtain ⟨ek67, hf⟩ := oc hf
                obtain ⟨r68, e69, hf⟩ := ob hf
                refine r_callVv (As := [.int x46, .int x10]) ⟨hx, hb, hml, hown, hts⟩ (c_X0_addHit l D S47 a0 x46 x10 r68 e69) (cwV 2 hts (gwV gw_6_2 gw_6_3 gw_6_4 gw_6_5 gw_5_17) rfl rfl rfl (by decide +kernel) ⟨Nat.le_of_ble_eq_true rfl, Nat.le_of_ble_eq_true rfl⟩) hH hNE 3 ek67 (by decide) rfl rfl rfl hl.1 rfl (Nat.le_of_ble_eq_true rfl) dX0_look_62 ⟨(Nat.le_of_ble_eq_true rfl), (Nat.le_of_ble_eq_true rfl)⟩ (fun H locs hH => ?_)
                exact Jj62 r68 _ _ ls hH (lv_sub hl [0, 1, 2, 3, 4] rfl) hf
        exact Lo53 kF 0 S11 eo53 _ _ ls hH (lv_sub hl [2, 3, 4, 1, 0] rfl)
  exact Lo35 kF 0 r8 eo35 _ _ ls hH (lv_sub hl [1, 2, 0] rfl)
set_option maxRecDepth 100000 in
def f_X0_ofRank_b5 (a0 : Nat) (b1 : Nat) (p2 : Int32) (S : PS) (x1 : Int32) (x2 : Int32) : Option ((Int32 × Int32) ⊕ ((Int32))) := if (20 : Int32) < x2 then (some (.inr x1)) else (if kK S a0 = 4 then ((f_X0_rankAt S a0 b1 x2).bind fun r9 => lt (fun (x11 : Int32) => lt (x2 + 1) fun x13 => some (.inl (x11, x13))) fun j12 => if r9 = p2 then (lt (x1 ||| (1 <<< (x2 &&& 31))) fun x17 => j12 x17) else (j12 x1)) else none)
set_option maxRecDepth 100000 in
def f_X0_ofRank (S : PS) (a0 : Nat) (b1 : Nat) (p2 : Int32) : Option (Int32) := lt (fun (x3 : Int32) => some x3) fun k4 => (iter (fun (v : Int32 × Int32) => f_X0_ofRank_b5 a0 b1 p2 S v.1 v.2) kF (0, 0)).bind (fun (v : Int32) => k4 v)
abbrev rmX0_ofRank : Room := { frames := 4, cells := 0, slots := 0, locals := 87 }
set_option maxHeartbeats 4000000 in
set_option maxRecDepth 100000 in
theorem c_X0_ofRank (l : Launch) (D : va_G × Nat) (S : PS) (a0 : Nat) (b1 : Nat) (p2 : Int32) (r : Int32) (hf : f_X0_ofRank S a0 b1 p2 = some r) : MI l D yX0_ofRank wsX0_ofRank rmX0_ofRank S [.ref a0, .ref b1, .int p2] S r 0 0 := by
  unfold f_X0_ofRank at hf
  refine Met.ofW (cc := cX0_ofRank) (maxL := 5) (ret := (some .int)) (by decide) rfl ?_
  intro p e s m args below meth c s₁ B hml hv
  obtain ⟨rfl, hH0, hNE⟩ := hv
  have hx := B.exec
  have hb := B.bytes
  have hr := B.returns
  have hts := atoms_spec (ws := wsX0_ofRank) B.pre
  have hown : s.vm.findClass RX0 = some m.cls := findClass_of_methodNamed B.named
  have hlocks := B.notSynchronized
  have hH : HI D S S s s.heap [] := HI.start hH0
  have hl := lv_entry ([.ref a0, .ref b1, .int p2]) (n := 5) (Nat.le_of_ble_eq_true rfl)
  rw [lg_entry_eq]
  generalize (lg_sl ([.ref a0, .ref b1, .int p2]) ++ List.replicate (5 - (lg_sl ([.ref a0, .ref b1, .int p2])).length) Slot.unset).toArray = ls at hl ⊢
  have hl : lv_has ls 5 [(0, .ref a0), (1, .ref b1), (2, .int p2)] := hl
  refine lv_iconst (v := 0) hx hb dX0_ofRank_0 (by decide) ?_
  refine lv_istore_n (lv' := [(3, .int 0), (0, .ref a0), (1, .ref b1), (2, .int p2)]) hx hb dX0_ofRank_1 rfl hl (by decide) rfl (fun ls hl => ?_)
  refine lv_iconst (v := 0) hx hb dX0_ofRank_2 (by decide) ?_
  refine lv_istore (lv' := [(4, .int 0), (3, .int 0), (0, .ref a0), (1, .ref b1), (2, .int p2)]) hx hb dX0_ofRank_3 hl (by decide) rfl (fun ls hl => ?_)
  obtain ⟨k4, e5, hf⟩ := ol hf
  have Xk4 : ∀ (x3 : Int32) (H : Heap) (locs : List Loc) (ls : Array Slot), HI D S S s H locs → lv_has ls 5 [(3, .int x3)] → k4 x3 = some r → GI p l e (headSpec wsX0_ofRank rmX0_ofRank).room s m ([.ref a0, .ref b1, .int p2] : List Value).toArray below meth c D S S r H locs 0 0 0 0 (F0 m 36 ls []) := by
    intro x3 H locs ls hH hl hf
    rw [← e5] at hf
    refine lv_iload_n hx hb dX0_ofRank_36 rfl (lv_at hl 0 rfl) ?_
    have hr9 := Option.some.inj hf
    subst hr9
    exact e_i hx hb hr hlocks hH dX0_ofRank_37
  obtain ⟨o6, eo6, hq6f⟩ := ob hf
  have Lo6 : ∀ (n : Nat) (x1 : Int32) (x2 : Int32), iter (fun (v : Int32 × Int32) => f_X0_ofRank_b5 a0 b1 p2 S v.1 v.2) n (x1, x2) = some o6 → ∀ (H : Heap) (locs : List Loc) (ls : Array Slot), HI D S S s H locs → lv_has ls 5 [(0, .ref a0), (1, .ref b1), (2, .int p2), (3, .int x1), (4, .int x2)] → GI p l e (headSpec wsX0_ofRank rmX0_ofRank).room s m ([.ref a0, .ref b1, .int p2] : List Value).toArray below meth c D S S r H locs 0 0 0 0 (F0 m 5 ls []) := by
    intro n
    induction n with
    | zero => intro x1 x2 hi; cases hi
    | succ n ih6 =>
      intro x1 x2 hi H locs ls hH hl
      obtain ⟨q6_, hf, hq6⟩ := iter_s hi
      have hf : f_X0_ofRank_b5 a0 b1 p2 S x1 x2 = some q6_ := hf
      unfold f_X0_ofRank_b5 at hf
      refine lv_iload hx hb dX0_ofRank_5 (lv_at hl 4 rfl) ?_
      refine lv_bipush (v := 20) hx hb dX0_ofRank_7 (by decide) ?_
      refine lv_icmp_gt (tgt := 36) hx hb dX0_ofRank_9 (by decide) (fun c7 => ?_) (fun c7 => ?_)
      · have hf := ip hf c7
        cases hf
        have hf9 := itR (K := (fun (v : Int32) => k4 v)) hq6 hq6f
        exact Xk4 x1 _ _ ls hH (lv_sub hl [3] rfl) hf9
      · have hf := iq hf c7
        refine lv_aload_n hx hb dX0_ofRank_12 rfl (lv_at hl 0 rfl) ?_
        refine lv_aload_n hx hb dX0_ofRank_13 rfl (lv_at hl 1 rfl) ?_
        refine lv_iload hx hb dX0_ofRank_14 (lv_at hl 4 rfl) ?_
        obtain ⟨ek8, hf⟩ := oc hf
        obtain ⟨r9, e10, hf⟩ := ob hf
        refine r_callVi (As := [.ref b1, .int x2]) ⟨hx, hb, hml, hown, hts⟩ (c_X0_rankAt l D S a0 b1 x2 r9 e10) (cwV 2 hts (gwV gw_7_7 gw_7_8 gw_7_9 gw_6_5 gw_7_5) rfl rfl rfl (by decide +kernel) ⟨Nat.le_of_ble_eq_true rfl, Nat.le_of_ble_eq_true rfl⟩) hH hNE 3 ek8 (by decide) rfl rfl rfl hl.1 rfl (Nat.le_of_ble_eq_true rfl) dX0_ofRank_16 ⟨(Nat.le_of_ble_eq_true rfl), (Nat.le_of_ble_eq_true rfl)⟩ (fun H locs hH => ?_)
        refine lv_iload_n hx hb dX0_ofRank_19 rfl (lv_at hl 2 rfl) ?_
        obtain ⟨j12, e15, hf⟩ := ol hf
        have Jj12 : ∀ (x11 : Int32) (H : Heap) (locs : List Loc) (ls : Array Slot), HI D S S s H locs → lv_has ls 5 [(0, .ref a0), (1, .ref b1), (2, .int p2), (3, .int x11), (4, .int x2)] → j12 x11 = some q6_ → GI p l e (headSpec wsX0_ofRank rmX0_ofRank).room s m ([.ref a0, .ref b1, .int p2] : List Value).toArray below meth c D S S r H locs 0 0 0 0 (F0 m 30 ls []) := by
          intro x11 H locs ls hH hl hf
          rw [← e15] at hf
          obtain ⟨x13, e14, hf⟩ := ol hf
          refine lv_iinc (v := x13) (lv' := [(4, .int x13), (0, .ref a0), (1, .ref b1), (2, .int p2), (3, .int x11)]) hx hb dX0_ofRank_30 hl (k := 4) rfl (by rw [← e14]; rfl) (by decide) rfl (fun ls hl => ?_)
          refine lv_goto (tgt := 5) hx hb dX0_ofRank_33 (by decide) ?_
          cases hf
          exact ih6 x11 x13 hq6 _ _ ls hH (lv_sub hl [1, 2, 3, 4, 0] rfl)
        refine lv_icmp_ne (tgt := 30) hx hb dX0_ofRank_20 (by decide) (fun c16 => ?_) (fun c16 => ?_)
        · have hf := iq hf c16
          exact Jj12 x1 _ _ ls hH (lv_sub hl [0, 1, 2, 3, 4] rfl) hf
        · have hf := ip hf c16
          refine lv_iload_n hx hb dX0_ofRank_23 rfl (lv_at hl 3 rfl) ?_
          refine lv_iconst (v := 1) hx hb dX0_ofRank_24 (by decide) ?_
          refine lv_iload hx hb dX0_ofRank_25 (lv_at hl 4 rfl) ?_
          refine lv_ishl hx hb dX0_ofRank_27 ?_
          refine lv_ior hx hb dX0_ofRank_28 ?_
          obtain ⟨x17, e18, hf⟩ := ol hf
          refine lv_topE e18 ?_
          refine lv_istore_n (lv' := [(3, .int x17), (0, .ref a0), (1, .ref b1), (2, .int p2), (4, .int x2)]) hx hb dX0_ofRank_29 rfl hl (by decide) rfl (fun ls hl => ?_)
          exact Jj12 x17 _ _ ls hH (lv_sub hl [1, 2, 3, 0, 4] rfl) hf
  exact Lo6 kF 0 0 eo6 _ _ ls hH (lv_sub hl [2, 3, 4, 1, 0] rfl)
set_option maxRecDepth 100000 in
def f_X8_valueOf (S : PS) (a0 : Nat) (p1 : Int32) : Option (Int32) := if kK S a0 = 12 then ((kQ S a0 4).bind fun a2 => if kK S a2 = 9 then ((f_X5_get S a2 p1).bind fun r5 => some r5) else none) else none
abbrev rmX8_valueOf : Room := { frames := 1, cells := 0, slots := 0, locals := 21 }
set_option maxHeartbeats 4000000 in
set_option maxRecDepth 100000 in
theorem c_X8_valueOf (l : Launch) (D : va_G × Nat) (S : PS) (a0 : Nat) (p1 : Int32) (r : Int32) (hf : f_X8_valueOf S a0 p1 = some r) : MI l D yX8_valueOf wsX8_valueOf rmX8_valueOf S [.ref a0, .int p1] S r 0 0 := by
  unfold f_X8_valueOf at hf
  refine Met.ofW (cc := cX8_valueOf) (maxL := 2) (ret := (some .int)) (by decide) rfl ?_
  intro p e s m args below meth c s₁ B hml hv
  obtain ⟨rfl, hH0, hNE⟩ := hv
  have hx := B.exec
  have hb := B.bytes
  have hr := B.returns
  have hts := atoms_spec (ws := wsX8_valueOf) B.pre
  have hown : s.vm.findClass RX8 = some m.cls := findClass_of_methodNamed B.named
  have hlocks := B.notSynchronized
  have hH : HI D S S s s.heap [] := HI.start hH0
  have hl := lv_entry ([.ref a0, .int p1]) (n := 2) (Nat.le_of_ble_eq_true rfl)
  rw [lg_entry_eq]
  generalize (lg_sl ([.ref a0, .int p1]) ++ List.replicate (2 - (lg_sl ([.ref a0, .int p1])).length) Slot.unset).toArray = ls at hl ⊢
  have hl : lv_has ls 2 [(0, .ref a0), (1, .int p1)] := hl
  refine lv_aload_n hx hb dX8_valueOf_0 rfl (lv_at hl 0 rfl) ?_
  obtain ⟨ek1, hf⟩ := oc hf
  obtain ⟨a2, e3, hf⟩ := ob hf
  refine r_getQ hx hb 11 hts (fun w h => List.mem_cons_of_mem _ (mwsX80 w h)) hown hH ek1 (by decide) rfl 4 (by decide) rfl (hts (.fieldLink RX8 29 "Housestyle$Tokens" "values" "LHousestyle$Row;") (List.mem_cons_of_mem _ gw_6_21)) (fun _ h9 => h9) dX8_valueOf_1 e3 ?_
  refine lv_iload_n hx hb dX8_valueOf_4 rfl (lv_at hl 1 rfl) ?_
  obtain ⟨ek4, hf⟩ := oc hf
  obtain ⟨r5, e6, hf⟩ := ob hf
  refine r_callVi (As := [.int p1]) ⟨hx, hb, hml, hown, hts⟩ (c_X5_get l D S a2 p1 r5 e6) (cwV 1 hts (gwV gw_2_12 gw_2_13 gw_2_14 gw_1_5 gw_2_9) rfl rfl rfl (by decide +kernel) ⟨Nat.le_of_ble_eq_true rfl, Nat.le_of_ble_eq_true rfl⟩) hH hNE 8 ek4 (by decide) rfl rfl rfl hl.1 rfl (Nat.le_of_ble_eq_true rfl) dX8_valueOf_5 ⟨(Nat.le_of_ble_eq_true rfl), (Nat.le_of_ble_eq_true rfl)⟩ (fun H locs hH => ?_)
  have hr9 := Option.some.inj hf
  subst hr9
  exact e_i hx hb hr hlocks hH dX8_valueOf_8
set_option maxRecDepth 100000 in
def f_X0_foundAt (S : PS) (a0 : Nat) (b1 : Nat) (b2 : Nat) (p3 : Int32) : Option (Int32) := if kK S a0 = 4 then ((kQ S a0 2).bind fun a2 => if kK S a2 = 9 then ((f_X5_get S a2 p3).bind fun r5 => if kK S b2 = 5 then (lt (r5 &&& ((kI S b2 5) ^^^ (-1))) fun x8 => if kK S b1 = 12 then ((f_X8_isNumber S b1 p3).bind fun r11 => if r11 = 0 then (some x8) else ((f_X8_isQuoted S b1 p3).bind fun r14 => if r14 = 0 then ((f_X8_valueOf S b1 p3).bind fun r17 => if (kI S b2 4) ≤ r17 then (some x8) else (lt (x8 ||| 1048576) fun x20 => some x20)) else (some x8))) else none) else none) else none) else none
abbrev rmX0_foundAt : Room := { frames := 2, cells := 0, slots := 0, locals := 42 }
set_option maxHeartbeats 4000000 in
set_option maxRecDepth 100000 in
theorem c_X0_foundAt (l : Launch) (D : va_G × Nat) (S : PS) (a0 : Nat) (b1 : Nat) (b2 : Nat) (p3 : Int32) (r : Int32) (hf : f_X0_foundAt S a0 b1 b2 p3 = some r) : MI l D yX0_foundAt wsX0_foundAt rmX0_foundAt S [.ref a0, .ref b1, .ref b2, .int p3] S r 0 0 := by
  unfold f_X0_foundAt at hf
  refine Met.ofW (cc := cX0_foundAt) (maxL := 5) (ret := (some .int)) (by decide) rfl ?_
  intro p e s m args below meth c s₁ B hml hv
  obtain ⟨rfl, hH0, hNE⟩ := hv
  have hx := B.exec
  have hb := B.bytes
  have hr := B.returns
  have hts := atoms_spec (ws := wsX0_foundAt) B.pre
  have hown : s.vm.findClass RX0 = some m.cls := findClass_of_methodNamed B.named
  have hlocks := B.notSynchronized
  have hH : HI D S S s s.heap [] := HI.start hH0
  have hl := lv_entry ([.ref a0, .ref b1, .ref b2, .int p3]) (n := 5) (Nat.le_of_ble_eq_true rfl)
  rw [lg_entry_eq]
  generalize (lg_sl ([.ref a0, .ref b1, .ref b2, .int p3]) ++ List.replicate (5 - (lg_sl ([.ref a0, .ref b1, .ref b2, .int p3])).length) Slot.unset).toArray = ls at hl ⊢
  have hl : lv_has ls 5 [(0, .ref a0), (1, .ref b1), (2, .ref b2), (3, .int p3)] := hl
  refine lv_aload_n hx hb dX0_foundAt_0 rfl (lv_at hl 0 rfl) ?_
  obtain ⟨ek1, hf⟩ := oc hf
  obtain ⟨a2, e3, hf⟩ := ob hf
  refine r_getQ hx hb 3 hts (fun w h => List.mem_cons_of_mem _ (mwsX00 w h)) hown hH ek1 (by decide) rfl 2 (by decide) rfl (hts (.fieldLink RX0 26 "Housestyle$Book" "hits" "LHousestyle$Row;") (List.mem_cons_of_mem _ gw_1_6)) (fun _ h9 => h9) dX0_foundAt_1 e3 ?_
  refine lv_iload_n hx hb dX0_foundAt_4 rfl (lv_at hl 3 rfl) ?_
  obtain ⟨ek4, hf⟩ := oc hf
  obtain ⟨r5, e6, hf⟩ := ob hf
  refine r_callVi (As := [.int p3]) ⟨hx, hb, hml, hown, hts⟩ (c_X5_get l D S a2 p3 r5 e6) (cwV 1 hts (gwV gw_5_18 gw_2_13 gw_2_14 gw_1_5 gw_2_9) rfl rfl rfl (by decide +kernel) ⟨Nat.le_of_ble_eq_true rfl, Nat.le_of_ble_eq_true rfl⟩) hH hNE 8 ek4 (by decide) rfl rfl rfl hl.1 rfl (Nat.le_of_ble_eq_true rfl) dX0_foundAt_5 ⟨(Nat.le_of_ble_eq_true rfl), (Nat.le_of_ble_eq_true rfl)⟩ (fun H locs hH => ?_)
  refine lv_aload_n hx hb dX0_foundAt_8 rfl (lv_at hl 2 rfl) ?_
  obtain ⟨ek7, hf⟩ := oc hf
  refine r_getIN hx hb 4 hts (fun w h => List.mem_cons_of_mem _ (mwsX10 w h)) hown hH ek7 (by decide) rfl 5 (by decide) rfl (nf_13 hNE) (fun _ h9 => h9) dX0_foundAt_9 ?_
  refine lv_iconst (v := (-1)) hx hb dX0_foundAt_12 (by decide) ?_
  refine lv_ixor hx hb dX0_foundAt_13 ?_
  refine lv_iand hx hb dX0_foundAt_14 ?_
  obtain ⟨x8, e9, hf⟩ := ol hf
  refine lv_topE e9 ?_
  refine lv_istore (lv' := [(4, .int x8), (0, .ref a0), (1, .ref b1), (2, .ref b2), (3, .int p3)]) hx hb dX0_foundAt_15 hl (by decide) rfl (fun ls hl => ?_)
  refine lv_aload_n hx hb dX0_foundAt_17 rfl (lv_at hl 2 rfl) ?_
  refine lv_iload_n hx hb dX0_foundAt_18 rfl (lv_at hl 4 rfl) ?_
  obtain ⟨ek10, hf⟩ := oc hf
  obtain ⟨r11, e12, hf⟩ := ob hf
  refine r_callVi (As := [.int p3]) ⟨hx, hb, hml, hown, hts⟩ (c_X8_isNumber l D S b1 p3 r11 e12) (cwV 1 hts (gwV gw_7_0 gw_3_10 gw_3_11 gw_2_23 gw_3_0) rfl rfl rfl (by decide +kernel) ⟨Nat.le_of_ble_eq_true rfl, Nat.le_of_ble_eq_true rfl⟩) hH hNE 11 ek10 (by decide) rfl rfl rfl hl.1 rfl (Nat.le_of_ble_eq_true rfl) dX0_foundAt_19 ⟨(Nat.le_of_ble_eq_true rfl), (Nat.le_of_ble_eq_true rfl)⟩ (fun H locs hH => ?_)
  refine lv_if_eq (tgt := 52) hx hb dX0_foundAt_22 (by decide) (fun c13 => ?_) (fun c13 => ?_)
  · have hf := ip hf c13
    refine lv_iload hx hb dX0_foundAt_52 (lv_at hl 0 rfl) ?_
    have hr9 := Option.some.inj hf
    subst hr9
    exact e_i hx hb hr hlocks hH dX0_foundAt_54
  · have hf := iq hf c13
    refine lv_aload_n hx hb dX0_foundAt_25 rfl (lv_at hl 2 rfl) ?_
    refine lv_iload_n hx hb dX0_foundAt_26 rfl (lv_at hl 4 rfl) ?_
    obtain ⟨r14, e15, hf⟩ := ob hf
    refine r_callVi (As := [.int p3]) ⟨hx, hb, hml, hown, hts⟩ (c_X8_isQuoted l D S b1 p3 r14 e15) (cwV 1 hts (gwV gw_6_0 gw_5_0 gw_5_1 gw_2_23 gw_2_10) rfl rfl rfl (by decide +kernel) ⟨Nat.le_of_ble_eq_true rfl, Nat.le_of_ble_eq_true rfl⟩) hH hNE 11 ek10 (by decide) rfl rfl rfl hl.1 rfl (Nat.le_of_ble_eq_true rfl) dX0_foundAt_27 ⟨(Nat.le_of_ble_eq_true rfl), (Nat.le_of_ble_eq_true rfl)⟩ (fun H locs hH => ?_)
    refine lv_if_ne (tgt := 52) hx hb dX0_foundAt_30 (by decide) (fun c16 => ?_) (fun c16 => ?_)
    · have hf := iq hf c16
      refine lv_iload hx hb dX0_foundAt_52 (lv_at hl 0 rfl) ?_
      have hr9 := Option.some.inj hf
      subst hr9
      exact e_i hx hb hr hlocks hH dX0_foundAt_54
    · have hf := ip hf c16
      refine lv_aload_n hx hb dX0_foundAt_33 rfl (lv_at hl 2 rfl) ?_
      refine lv_iload_n hx hb dX0_foundAt_34 rfl (lv_at hl 4 rfl) ?_
      obtain ⟨r17, e18, hf⟩ := ob hf
      refine r_callVi (As := [.int p3]) ⟨hx, hb, hml, hown, hts⟩ (c_X8_valueOf l D S b1 p3 r17 e18) (cwV 1 hts (gwV gw_7_1 gw_7_2 gw_7_3 gw_2_23 gw_6_20) rfl rfl rfl (by decide +kernel) ⟨Nat.le_of_ble_eq_true rfl, Nat.le_of_ble_eq_true rfl⟩) hH hNE 11 ek10 (by decide) rfl rfl rfl hl.1 rfl (Nat.le_of_ble_eq_true rfl) dX0_foundAt_35 ⟨(Nat.le_of_ble_eq_true rfl), (Nat.le_of_ble_eq_true rfl)⟩ (fun H locs hH => ?_)
      refine lv_aload_n hx hb dX0_foundAt_38 rfl (lv_at hl 3 rfl) ?_
      refine r_getIN hx hb 4 hts (fun w h => List.mem_cons_of_mem _ (mwsX10 w h)) hown hH ek7 (by decide) rfl 4 (by decide) rfl (nf_14 hNE) (fun _ h9 => h9) dX0_foundAt_39 ?_
      refine lv_icmp_ge (tgt := 52) hx hb dX0_foundAt_42 (by decide) (fun c19 => ?_) (fun c19 => ?_)
      · have hf := ip hf c19
        refine lv_iload hx hb dX0_foundAt_52 (lv_at hl 0 rfl) ?_
        have hr9 := Option.some.inj hf
        subst hr9
        exact e_i hx hb hr hlocks hH dX0_foundAt_54
      · have hf := iq hf c19
        refine lv_iload hx hb dX0_foundAt_45 (lv_at hl 0 rfl) ?_
        refine lv_ldc hx hb hown (hts (.constant RX0 97 (1048576)) (List.mem_cons_of_mem _ gw_6_23)) dX0_foundAt_47 ?_
        refine lv_ior hx hb dX0_foundAt_49 ?_
        obtain ⟨x20, e21, hf⟩ := ol hf
        refine lv_topE e21 ?_
        refine lv_istore (lv' := [(4, .int x20), (0, .ref a0), (1, .ref b1), (2, .ref b2), (3, .int p3)]) hx hb dX0_foundAt_50 hl (by decide) rfl (fun ls hl => ?_)
        refine lv_iload hx hb dX0_foundAt_52 (lv_at hl 0 rfl) ?_
        have hr9 := Option.some.inj hf
        subst hr9
        exact e_i hx hb hr hlocks hH dX0_foundAt_54
set_option maxRecDepth 100000 in
def f_X0_itemsOf (S : PS) (a0 : Nat) (p1 : Int32) : Option (Int32) := if p1 < 0 then (some 1) else (if kK S a0 = 4 then ((kQ S a0 0).bind fun a3 => if kK S a3 = 3 then ((f_Jx4a65c_size_8abf5 S a3).bind fun r6 => if r6 ≤ p1 then (some 1) else ((f_Jx4a65c_get_915e3 S a3 p1).bind fun r9 => if kK S r9 = 10 then ((kQ S r9 0).bind fun a12 => if kK S a12 = 3 then ((f_Jx4a65c_size_8abf5 S a12).bind fun r15 => some r15) else none) else none)) else none) else none)
abbrev rmX0_itemsOf : Room := { frames := 3, cells := 0, slots := 0, locals := 64 }
set_option maxHeartbeats 4000000 in
set_option maxRecDepth 100000 in
theorem c_X0_itemsOf (l : Launch) (D : va_G × Nat) (S : PS) (a0 : Nat) (p1 : Int32) (r : Int32) (hf : f_X0_itemsOf S a0 p1 = some r) : MI l D yX0_itemsOf wsX0_itemsOf rmX0_itemsOf S [.ref a0, .int p1] S r 0 0 := by
  unfold f_X0_itemsOf at hf
  refine Met.ofW (cc := cX0_itemsOf) (maxL := 2) (ret := (some .int)) (by decide) rfl ?_
  intro p e s m args below meth c s₁ B hml hv
  obtain ⟨rfl, hH0, hNE⟩ := hv
  have hx := B.exec
  have hb := B.bytes
  have hr := B.returns
  have hts := atoms_spec (ws := wsX0_itemsOf) B.pre
  have hown : s.vm.findClass RX0 = some m.cls := findClass_of_methodNamed B.named
  have hlocks := B.notSynchronized
  have hH : HI D S S s s.heap [] := HI.start hH0
  have hl := lv_entry ([.ref a0, .int p1]) (n := 2) (Nat.le_of_ble_eq_true rfl)
  rw [lg_entry_eq]
  generalize (lg_sl ([.ref a0, .int p1]) ++ List.replicate (2 - (lg_sl ([.ref a0, .int p1])).length) Slot.unset).toArray = ls at hl ⊢
  have hl : lv_has ls 2 [(0, .ref a0), (1, .int p1)] := hl
  refine lv_iload_n hx hb dX0_itemsOf_0 rfl (lv_at hl 1 rfl) ?_
  refine lv_if_lt (tgt := 35) hx hb dX0_itemsOf_1 (by decide) (fun c1 => ?_) (fun c1 => ?_)
  · have hf := ip hf c1
    refine lv_iconst (v := 1) hx hb dX0_itemsOf_35 (by decide) ?_
    have hr9 := Option.some.inj hf
    subst hr9
    exact e_i hx hb hr hlocks hH dX0_itemsOf_36
  · have hf := iq hf c1
    refine lv_iload_n hx hb dX0_itemsOf_4 rfl (lv_at hl 1 rfl) ?_
    refine lv_aload_n hx hb dX0_itemsOf_5 rfl (lv_at hl 0 rfl) ?_
    obtain ⟨ek2, hf⟩ := oc hf
    obtain ⟨a3, e4, hf⟩ := ob hf
    refine r_getQ hx hb 3 hts (fun w h => List.mem_cons_of_mem _ (mwsX00 w h)) hown hH ek2 (by decide) rfl 0 (by decide) rfl (hts (.fieldLink RX0 12 "Housestyle$Book" "rules" "Ljava/util/ArrayList;") (List.mem_cons_of_mem _ gw_1_1)) (fun _ h9 => h9) dX0_itemsOf_6 e4 ?_
    obtain ⟨ek5, hf⟩ := oc hf
    obtain ⟨r6, e7, hf⟩ := ob hf
    refine r_callVi (As := []) ⟨hx, hb, hml, hown, hts⟩ (c_Jx4a65c_size_8abf5 l D S a3 r6 e7) (cwV 0 hts (gwV gw_6_12 gw_4_10 gw_4_11 gw_1_0 gw_1_18) rfl rfl rfl (by decide +kernel) ⟨Nat.le_of_ble_eq_true rfl, Nat.le_of_ble_eq_true rfl⟩) hH hNE 2 ek5 (by decide) rfl rfl rfl hl.1 rfl (Nat.le_of_ble_eq_true rfl) dX0_itemsOf_9 ⟨(Nat.le_of_ble_eq_true rfl), (Nat.le_of_ble_eq_true rfl)⟩ (fun H locs hH => ?_)
    refine lv_icmp_ge (tgt := 35) hx hb dX0_itemsOf_12 (by decide) (fun c8 => ?_) (fun c8 => ?_)
    · have hf := ip hf c8
      refine lv_iconst (v := 1) hx hb dX0_itemsOf_35 (by decide) ?_
      have hr9 := Option.some.inj hf
      subst hr9
      exact e_i hx hb hr hlocks hH dX0_itemsOf_36
    · have hf := iq hf c8
      refine lv_aload_n hx hb dX0_itemsOf_15 rfl (lv_at hl 0 rfl) ?_
      refine r_getQ hx hb 3 hts (fun w h => List.mem_cons_of_mem _ (mwsX00 w h)) hown hH ek2 (by decide) rfl 0 (by decide) rfl (hts (.fieldLink RX0 12 "Housestyle$Book" "rules" "Ljava/util/ArrayList;") (List.mem_cons_of_mem _ gw_1_1)) (fun _ h9 => h9) dX0_itemsOf_16 e4 ?_
      refine lv_iload_n hx hb dX0_itemsOf_19 rfl (lv_at hl 1 rfl) ?_
      obtain ⟨r9, e10, hf⟩ := ob hf
      refine r_callVr (As := [.int p1]) ⟨hx, hb, hml, hown, hts⟩ (c_Jx4a65c_get_915e3 l D S a3 p1 r9 e10) (cwV 1 hts (gwV gw_6_13 gw_4_13 gw_4_14 gw_1_0 gw_2_2) rfl rfl rfl (by decide +kernel) ⟨Nat.le_of_ble_eq_true rfl, Nat.le_of_ble_eq_true rfl⟩) hH hNE 2 ek5 (by decide) rfl rfl rfl hl.1 rfl (Nat.le_of_ble_eq_true rfl) dX0_itemsOf_20 ⟨(Nat.le_of_ble_eq_true rfl), (Nat.le_of_ble_eq_true rfl)⟩ (fun H locs hH => ?_)
      obtain ⟨ek11, hf⟩ := oc hf
      refine r_castS 9 hx hb hown (hts (.classLink RX0 46 "Housestyle$Rule") (List.mem_cons_of_mem _ gw_6_7)) hH ek11 (by decide) rfl rfl dX0_itemsOf_23 ?_
      obtain ⟨a12, e13, hf⟩ := ob hf
      refine r_getQN hx hb 9 hts (fun w h => List.mem_cons_of_mem _ (mwsX60 w h)) hown hH ek11 (by decide) rfl 0 (by decide) rfl (nf_15 hNE) (fun _ h9 => h9) dX0_itemsOf_26 e13 ?_
      obtain ⟨ek14, hf⟩ := oc hf
      obtain ⟨r15, e16, hf⟩ := ob hf
      refine r_callVi (As := []) ⟨hx, hb, hml, hown, hts⟩ (c_Jx4a65c_size_8abf5 l D S a12 r15 e16) (cwV 0 hts (gwV gw_6_12 gw_4_10 gw_4_11 gw_1_0 gw_1_18) rfl rfl rfl (by decide +kernel) ⟨Nat.le_of_ble_eq_true rfl, Nat.le_of_ble_eq_true rfl⟩) hH hNE 2 ek14 (by decide) rfl rfl rfl hl.1 rfl (Nat.le_of_ble_eq_true rfl) dX0_itemsOf_29 ⟨(Nat.le_of_ble_eq_true rfl), (Nat.le_of_ble_eq_true rfl)⟩ (fun H locs hH => ?_)
      refine lv_goto (tgt := 36) hx hb dX0_itemsOf_32 (by decide) ?_
      have hr9 := Option.some.inj hf
      subst hr9
      exact e_i hx hb hr hlocks hH dX0_itemsOf_36
set_option maxRecDepth 100000 in
def f_X2_isFree_b2 (a0 : Nat) (p1 : Int32) (p2 : Int32) (S : PS) (x1 : Int32) : Option ((Int32) ⊕ ((Unit) ⊕ (Unit))) := if p2 ≤ x1 then (some (.inr (.inl ()))) else (if kK S a0 = 6 then ((kQ S a0 2).bind fun a11 => if kK S a11 = 9 then ((f_X5_get S a11 (p1 + x1)).bind fun r14 => if r14 = 0 then (lt (x1 + 1) fun x17 => some (.inl x17)) else (some (.inr (.inr ())))) else none) else none)
set_option maxRecDepth 100000 in
def f_X2_isFree (S : PS) (a0 : Nat) (p1 : Int32) (p2 : Int32) : Option (Int32) := lt (fun (u4 : Unit) => some 1) fun k2 => lt (fun (u7 : Unit) => some 0) fun k5 => (iter (fun (v : Int32) => f_X2_isFree_b2 a0 p1 p2 S v) kF 0).bind (fun (z : (Unit) ⊕ (Unit)) => Sum.elim (fun (v : Unit) => k2 v) (fun (v : Unit) => k5 v) z)
abbrev rmX2_isFree : Room := { frames := 1, cells := 0, slots := 0, locals := 21 }
set_option maxHeartbeats 4000000 in
set_option maxRecDepth 100000 in
theorem c_X2_isFree (l : Launch) (D : va_G × Nat) (S : PS) (a0 : Nat) (p1 : Int32) (p2 : Int32) (r : Int32) (hf : f_X2_isFree S a0 p1 p2 = some r) : MI l D yX2_isFree wsX2_isFree rmX2_isFree S [.ref a0, .int p1, .int p2] S r 0 0 := by
  unfold f_X2_isFree at hf
  refine Met.ofW (cc := cX2_isFree) (maxL := 4) (ret := (some .boolean)) (by decide) rfl ?_
  intro p e s m args below meth c s₁ B hml hv
  obtain ⟨rfl, hH0, hNE⟩ := hv
  have hx := B.exec
  have hb := B.bytes
  have hr := B.returns
  have hts := atoms_spec (ws := wsX2_isFree) B.pre
  have hown : s.vm.findClass RX2 = some m.cls := findClass_of_methodNamed B.named
  have hlocks := B.notSynchronized
  have hH : HI D S S s s.heap [] := HI.start hH0
  have hl := lv_entry ([.ref a0, .int p1, .int p2]) (n := 4) (Nat.le_of_ble_eq_true rfl)
  rw [lg_entry_eq]
  generalize (lg_sl ([.ref a0, .int p1, .int p2]) ++ List.replicate (4 - (lg_sl ([.ref a0, .int p1, .int p2])).length) Slot.unset).toArray = ls at hl ⊢
  have hl : lv_has ls 4 [(0, .ref a0), (1, .int p1), (2, .int p2)] := hl
  refine lv_iconst (v := 0) hx hb dX2_isFree_0 (by decide) ?_
  refine lv_istore_n (lv' := [(3, .int 0), (0, .ref a0), (1, .int p1), (2, .int p2)]) hx hb dX2_isFree_1 rfl hl (by decide) rfl (fun ls hl => ?_)
  obtain ⟨k2, e3, hf⟩ := ol hf
  have Xk2 : ∀ (u4 : Unit) (H : Heap) (locs : List Loc) (ls : Array Slot), HI D S S s H locs → lv_has ls 4 [] → k2 u4 = some r → GI p l e (headSpec wsX2_isFree rmX2_isFree).room s m ([.ref a0, .int p1, .int p2] : List Value).toArray below meth c D S S r H locs 0 0 0 0 (F0 m 28 ls []) := by
    intro u4 H locs ls hH hl hf
    rw [← e3] at hf
    refine lv_iconst (v := 1) hx hb dX2_isFree_28 (by decide) ?_
    have hr9 := Option.some.inj hf
    subst hr9
    exact e_z (r := 1) hx hb hr hlocks rfl hH dX2_isFree_29
  obtain ⟨k5, e6, hf⟩ := ol hf
  have Xk5 : ∀ (u7 : Unit) (H : Heap) (locs : List Loc) (ls : Array Slot), HI D S S s H locs → lv_has ls 4 [] → k5 u7 = some r → GI p l e (headSpec wsX2_isFree rmX2_isFree).room s m ([.ref a0, .int p1, .int p2] : List Value).toArray below meth c D S S r H locs 0 0 0 0 (F0 m 20 ls []) := by
    intro u7 H locs ls hH hl hf
    rw [← e6] at hf
    refine lv_iconst (v := 0) hx hb dX2_isFree_20 (by decide) ?_
    have hr9 := Option.some.inj hf
    subst hr9
    exact e_z (r := 0) hx hb hr hlocks rfl hH dX2_isFree_21
  obtain ⟨o8, eo8, hq8f⟩ := ob hf
  have Lo8 : ∀ (n : Nat) (x1 : Int32), iter (fun (v : Int32) => f_X2_isFree_b2 a0 p1 p2 S v) n x1 = some o8 → ∀ (H : Heap) (locs : List Loc) (ls : Array Slot), HI D S S s H locs → lv_has ls 4 [(0, .ref a0), (1, .int p1), (2, .int p2), (3, .int x1)] → GI p l e (headSpec wsX2_isFree rmX2_isFree).room s m ([.ref a0, .int p1, .int p2] : List Value).toArray below meth c D S S r H locs 0 0 0 0 (F0 m 2 ls []) := by
    intro n
    induction n with
    | zero => intro x1 hi; cases hi
    | succ n ih8 =>
      intro x1 hi H locs ls hH hl
      obtain ⟨q8_, hf, hq8⟩ := iter_s hi
      have hf : f_X2_isFree_b2 a0 p1 p2 S x1 = some q8_ := hf
      unfold f_X2_isFree_b2 at hf
      refine lv_iload_n hx hb dX2_isFree_2 rfl (lv_at hl 3 rfl) ?_
      refine lv_iload_n hx hb dX2_isFree_3 rfl (lv_at hl 2 rfl) ?_
      refine lv_icmp_ge (tgt := 28) hx hb dX2_isFree_4 (by decide) (fun c9 => ?_) (fun c9 => ?_)
      · have hf := ip hf c9
        cases hf
        have hf9 := itR (K := (fun (z : (Unit) ⊕ (Unit)) => Sum.elim (fun (v : Unit) => k2 v) (fun (v : Unit) => k5 v) z)) hq8 hq8f
        exact Xk2 () _ _ ls hH (lv_sub hl [] rfl) hf9
      · have hf := iq hf c9
        refine lv_aload_n hx hb dX2_isFree_7 rfl (lv_at hl 0 rfl) ?_
        obtain ⟨ek10, hf⟩ := oc hf
        obtain ⟨a11, e12, hf⟩ := ob hf
        refine r_getQ hx hb 5 hts (fun w h => List.mem_cons_of_mem _ (mwsX20 w h)) hown hH ek10 (by decide) rfl 2 (by decide) rfl (hts (.fieldLink RX2 24 "Housestyle$Findings" "covered" "LHousestyle$Row;") (List.mem_cons_of_mem _ gw_10_15)) (fun _ h9 => h9) dX2_isFree_8 e12 ?_
        refine lv_iload_n hx hb dX2_isFree_11 rfl (lv_at hl 1 rfl) ?_
        refine lv_iload_n hx hb dX2_isFree_12 rfl (lv_at hl 3 rfl) ?_
        refine lv_iadd hx hb dX2_isFree_13 ?_
        obtain ⟨ek13, hf⟩ := oc hf
        obtain ⟨r14, e15, hf⟩ := ob hf
        refine r_callVi (As := [.int (p1 + x1)]) ⟨hx, hb, hml, hown, hts⟩ (c_X5_get l D S a11 (p1 + x1) r14 e15) (cwV 1 hts (gwV gw_10_23 gw_2_13 gw_2_14 gw_1_5 gw_2_9) rfl rfl rfl (by decide +kernel) ⟨Nat.le_of_ble_eq_true rfl, Nat.le_of_ble_eq_true rfl⟩) hH hNE 8 ek13 (by decide) rfl rfl rfl hl.1 rfl (Nat.le_of_ble_eq_true rfl) dX2_isFree_14 ⟨(Nat.le_of_ble_eq_true rfl), (Nat.le_of_ble_eq_true rfl)⟩ (fun H locs hH => ?_)
        refine lv_if_eq (tgt := 22) hx hb dX2_isFree_17 (by decide) (fun c16 => ?_) (fun c16 => ?_)
        · have hf := ip hf c16
          obtain ⟨x17, e18, hf⟩ := ol hf
          refine lv_iinc (v := x17) (lv' := [(3, .int x17), (0, .ref a0), (1, .int p1), (2, .int p2)]) hx hb dX2_isFree_22 hl (k := 3) rfl (by rw [← e18]; rfl) (by decide) rfl (fun ls hl => ?_)
          refine lv_goto (tgt := 2) hx hb dX2_isFree_25 (by decide) ?_
          cases hf
          exact ih8 x17 hq8 _ _ ls hH (lv_sub hl [1, 2, 3, 0] rfl)
        · have hf := iq hf c16
          cases hf
          have hf9 := itR (K := (fun (z : (Unit) ⊕ (Unit)) => Sum.elim (fun (v : Unit) => k2 v) (fun (v : Unit) => k5 v) z)) hq8 hq8f
          exact Xk5 () _ _ ls hH (lv_sub hl [] rfl) hf9
  exact Lo8 kF 0 eo8 _ _ ls hH (lv_sub hl [1, 2, 3, 0] rfl)
set_option maxRecDepth 100000 in
def f_X8_fromOf (S : PS) (a0 : Nat) (p1 : Int32) : Option (Int32) := if kK S a0 = 12 then ((kQ S a0 1).bind fun a2 => if kK S a2 = 9 then ((f_X5_get S a2 p1).bind fun r5 => some r5) else none) else none
abbrev rmX8_fromOf : Room := { frames := 1, cells := 0, slots := 0, locals := 21 }
set_option maxHeartbeats 4000000 in
set_option maxRecDepth 100000 in
theorem c_X8_fromOf (l : Launch) (D : va_G × Nat) (S : PS) (a0 : Nat) (p1 : Int32) (r : Int32) (hf : f_X8_fromOf S a0 p1 = some r) : MI l D yX8_fromOf wsX8_fromOf rmX8_fromOf S [.ref a0, .int p1] S r 0 0 := by
  unfold f_X8_fromOf at hf
  refine Met.ofW (cc := cX8_fromOf) (maxL := 2) (ret := (some .int)) (by decide) rfl ?_
  intro p e s m args below meth c s₁ B hml hv
  obtain ⟨rfl, hH0, hNE⟩ := hv
  have hx := B.exec
  have hb := B.bytes
  have hr := B.returns
  have hts := atoms_spec (ws := wsX8_fromOf) B.pre
  have hown : s.vm.findClass RX8 = some m.cls := findClass_of_methodNamed B.named
  have hlocks := B.notSynchronized
  have hH : HI D S S s s.heap [] := HI.start hH0
  have hl := lv_entry ([.ref a0, .int p1]) (n := 2) (Nat.le_of_ble_eq_true rfl)
  rw [lg_entry_eq]
  generalize (lg_sl ([.ref a0, .int p1]) ++ List.replicate (2 - (lg_sl ([.ref a0, .int p1])).length) Slot.unset).toArray = ls at hl ⊢
  have hl : lv_has ls 2 [(0, .ref a0), (1, .int p1)] := hl
  refine lv_aload_n hx hb dX8_fromOf_0 rfl (lv_at hl 0 rfl) ?_
  obtain ⟨ek1, hf⟩ := oc hf
  obtain ⟨a2, e3, hf⟩ := ob hf
  refine r_getQ hx hb 11 hts (fun w h => List.mem_cons_of_mem _ (mwsX80 w h)) hown hH ek1 (by decide) rfl 1 (by decide) rfl (hts (.fieldLink RX8 20 "Housestyle$Tokens" "froms" "LHousestyle$Row;") (List.mem_cons_of_mem _ gw_1_13)) (fun _ h9 => h9) dX8_fromOf_1 e3 ?_
  refine lv_iload_n hx hb dX8_fromOf_4 rfl (lv_at hl 1 rfl) ?_
  obtain ⟨ek4, hf⟩ := oc hf
  obtain ⟨r5, e6, hf⟩ := ob hf
  refine r_callVi (As := [.int p1]) ⟨hx, hb, hml, hown, hts⟩ (c_X5_get l D S a2 p1 r5 e6) (cwV 1 hts (gwV gw_2_12 gw_2_13 gw_2_14 gw_1_5 gw_2_9) rfl rfl rfl (by decide +kernel) ⟨Nat.le_of_ble_eq_true rfl, Nat.le_of_ble_eq_true rfl⟩) hH hNE 8 ek4 (by decide) rfl rfl rfl hl.1 rfl (Nat.le_of_ble_eq_true rfl) dX8_fromOf_5 ⟨(Nat.le_of_ble_eq_true rfl), (Nat.le_of_ble_eq_true rfl)⟩ (fun H locs hH => ?_)
  have hr9 := Option.some.inj hf
  subst hr9
  exact e_i hx hb hr hlocks hH dX8_fromOf_8
set_option maxRecDepth 100000 in
def f_X8_endOf (S : PS) (a0 : Nat) (p1 : Int32) : Option (Int32) := if kK S a0 = 12 then ((kQ S a0 2).bind fun a2 => if kK S a2 = 9 then ((f_X5_get S a2 p1).bind fun r5 => some r5) else none) else none
abbrev rmX8_endOf : Room := { frames := 1, cells := 0, slots := 0, locals := 21 }
set_option maxHeartbeats 4000000 in
set_option maxRecDepth 100000 in
theorem c_X8_endOf (l : Launch) (D : va_G × Nat) (S : PS) (a0 : Nat) (p1 : Int32) (r : Int32) (hf : f_X8_endOf S a0 p1 = some r) : MI l D yX8_endOf wsX8_endOf rmX8_endOf S [.ref a0, .int p1] S r 0 0 := by
  unfold f_X8_endOf at hf
  refine Met.ofW (cc := cX8_endOf) (maxL := 2) (ret := (some .int)) (by decide) rfl ?_
  intro p e s m args below meth c s₁ B hml hv
  obtain ⟨rfl, hH0, hNE⟩ := hv
  have hx := B.exec
  have hb := B.bytes
  have hr := B.returns
  have hts := atoms_spec (ws := wsX8_endOf) B.pre
  have hown : s.vm.findClass RX8 = some m.cls := findClass_of_methodNamed B.named
  have hlocks := B.notSynchronized
  have hH : HI D S S s s.heap [] := HI.start hH0
  have hl := lv_entry ([.ref a0, .int p1]) (n := 2) (Nat.le_of_ble_eq_true rfl)
  rw [lg_entry_eq]
  generalize (lg_sl ([.ref a0, .int p1]) ++ List.replicate (2 - (lg_sl ([.ref a0, .int p1])).length) Slot.unset).toArray = ls at hl ⊢
  have hl : lv_has ls 2 [(0, .ref a0), (1, .int p1)] := hl
  refine lv_aload_n hx hb dX8_endOf_0 rfl (lv_at hl 0 rfl) ?_
  obtain ⟨ek1, hf⟩ := oc hf
  obtain ⟨a2, e3, hf⟩ := ob hf
  refine r_getQ hx hb 11 hts (fun w h => List.mem_cons_of_mem _ (mwsX80 w h)) hown hH ek1 (by decide) rfl 2 (by decide) rfl (hts (.fieldLink RX8 23 "Housestyle$Tokens" "ends" "LHousestyle$Row;") (List.mem_cons_of_mem _ gw_2_18)) (fun _ h9 => h9) dX8_endOf_1 e3 ?_
  refine lv_iload_n hx hb dX8_endOf_4 rfl (lv_at hl 1 rfl) ?_
  obtain ⟨ek4, hf⟩ := oc hf
  obtain ⟨r5, e6, hf⟩ := ob hf
  refine r_callVi (As := [.int p1]) ⟨hx, hb, hml, hown, hts⟩ (c_X5_get l D S a2 p1 r5 e6) (cwV 1 hts (gwV gw_2_12 gw_2_13 gw_2_14 gw_1_5 gw_2_9) rfl rfl rfl (by decide +kernel) ⟨Nat.le_of_ble_eq_true rfl, Nat.le_of_ble_eq_true rfl⟩) hH hNE 8 ek4 (by decide) rfl rfl rfl hl.1 rfl (Nat.le_of_ble_eq_true rfl) dX8_endOf_5 ⟨(Nat.le_of_ble_eq_true rfl), (Nat.le_of_ble_eq_true rfl)⟩ (fun H locs hH => ?_)
  have hr9 := Option.some.inj hf
  subst hr9
  exact e_i hx hb hr hlocks hH dX8_endOf_8
set_option maxRecDepth 100000 in
def f_X2_lengthAt (S : PS) (a0 : Nat) (p1 : Int32) (p2 : Int32) : Option (Int32) := if kK S a0 = 6 then ((kQ S a0 1).bind fun a2 => (kQ S a0 0).bind fun a4 => if kK S a4 = 4 then ((f_X0_itemsOf S a4 p1).bind fun r7 => if kK S a2 = 12 then ((f_X8_endOf S a2 ((p2 + r7) - 1)).bind fun r10 => (f_X8_fromOf S a2 p2).bind fun r12 => some (r10 - r12)) else none) else none) else none
abbrev rmX2_lengthAt : Room := { frames := 4, cells := 0, slots := 0, locals := 85 }
set_option maxHeartbeats 4000000 in
set_option maxRecDepth 100000 in
theorem c_X2_lengthAt (l : Launch) (D : va_G × Nat) (S : PS) (a0 : Nat) (p1 : Int32) (p2 : Int32) (r : Int32) (hf : f_X2_lengthAt S a0 p1 p2 = some r) : MI l D yX2_lengthAt wsX2_lengthAt rmX2_lengthAt S [.ref a0, .int p1, .int p2] S r 0 0 := by
  unfold f_X2_lengthAt at hf
  refine Met.ofW (cc := cX2_lengthAt) (maxL := 3) (ret := (some .int)) (by decide) rfl ?_
  intro p e s m args below meth c s₁ B hml hv
  obtain ⟨rfl, hH0, hNE⟩ := hv
  have hx := B.exec
  have hb := B.bytes
  have hr := B.returns
  have hts := atoms_spec (ws := wsX2_lengthAt) B.pre
  have hown : s.vm.findClass RX2 = some m.cls := findClass_of_methodNamed B.named
  have hlocks := B.notSynchronized
  have hH : HI D S S s s.heap [] := HI.start hH0
  have hl := lv_entry ([.ref a0, .int p1, .int p2]) (n := 3) (Nat.le_of_ble_eq_true rfl)
  rw [lg_entry_eq]
  generalize (lg_sl ([.ref a0, .int p1, .int p2]) ++ List.replicate (3 - (lg_sl ([.ref a0, .int p1, .int p2])).length) Slot.unset).toArray = ls at hl ⊢
  have hl : lv_has ls 3 [(0, .ref a0), (1, .int p1), (2, .int p2)] := hl
  refine lv_aload_n hx hb dX2_lengthAt_0 rfl (lv_at hl 0 rfl) ?_
  obtain ⟨ek1, hf⟩ := oc hf
  obtain ⟨a2, e3, hf⟩ := ob hf
  refine r_getQ hx hb 5 hts (fun w h => List.mem_cons_of_mem _ (mwsX20 w h)) hown hH ek1 (by decide) rfl 1 (by decide) rfl (hts (.fieldLink RX2 15 "Housestyle$Findings" "tokens" "LHousestyle$Tokens;") (List.mem_cons_of_mem _ gw_10_13)) (fun _ h9 => h9) dX2_lengthAt_1 e3 ?_
  refine lv_iload_n hx hb dX2_lengthAt_4 rfl (lv_at hl 2 rfl) ?_
  refine lv_aload_n hx hb dX2_lengthAt_5 rfl (lv_at hl 0 rfl) ?_
  obtain ⟨a4, e5, hf⟩ := ob hf
  refine r_getQ hx hb 5 hts (fun w h => List.mem_cons_of_mem _ (mwsX20 w h)) hown hH ek1 (by decide) rfl 0 (by decide) rfl (hts (.fieldLink RX2 9 "Housestyle$Findings" "book" "LHousestyle$Book;") (List.mem_cons_of_mem _ gw_10_12)) (fun _ h9 => h9) dX2_lengthAt_6 e5 ?_
  refine lv_iload_n hx hb dX2_lengthAt_9 rfl (lv_at hl 1 rfl) ?_
  obtain ⟨ek6, hf⟩ := oc hf
  obtain ⟨r7, e8, hf⟩ := ob hf
  refine r_callVi (As := [.int p1]) ⟨hx, hb, hml, hown, hts⟩ (c_X0_itemsOf l D S a4 p1 r7 e8) (cwV 1 hts (gwV gw_11_8 gw_11_9 gw_11_10 gw_6_5 gw_7_4) rfl rfl rfl (by decide +kernel) ⟨Nat.le_of_ble_eq_true rfl, Nat.le_of_ble_eq_true rfl⟩) hH hNE 3 ek6 (by decide) rfl rfl rfl hl.1 rfl (Nat.le_of_ble_eq_true rfl) dX2_lengthAt_10 ⟨(Nat.le_of_ble_eq_true rfl), (Nat.le_of_ble_eq_true rfl)⟩ (fun H locs hH => ?_)
  refine lv_iadd hx hb dX2_lengthAt_13 ?_
  refine lv_iconst (v := 1) hx hb dX2_lengthAt_14 (by decide) ?_
  refine lv_isub hx hb dX2_lengthAt_15 ?_
  obtain ⟨ek9, hf⟩ := oc hf
  obtain ⟨r10, e11, hf⟩ := ob hf
  refine r_callVi (As := [.int ((p2 + r7) - 1)]) ⟨hx, hb, hml, hown, hts⟩ (c_X8_endOf l D S a2 ((p2 + r7) - 1) r10 e11) (cwV 1 hts (gwV gw_11_11 gw_11_12 gw_11_13 gw_2_23 gw_11_6) rfl rfl rfl (by decide +kernel) ⟨Nat.le_of_ble_eq_true rfl, Nat.le_of_ble_eq_true rfl⟩) hH hNE 11 ek9 (by decide) rfl rfl rfl hl.1 rfl (Nat.le_of_ble_eq_true rfl) dX2_lengthAt_16 ⟨(Nat.le_of_ble_eq_true rfl), (Nat.le_of_ble_eq_true rfl)⟩ (fun H locs hH => ?_)
  refine lv_aload_n hx hb dX2_lengthAt_19 rfl (lv_at hl 0 rfl) ?_
  refine r_getQ hx hb 5 hts (fun w h => List.mem_cons_of_mem _ (mwsX20 w h)) hown hH ek1 (by decide) rfl 1 (by decide) rfl (hts (.fieldLink RX2 15 "Housestyle$Findings" "tokens" "LHousestyle$Tokens;") (List.mem_cons_of_mem _ gw_10_13)) (fun _ h9 => h9) dX2_lengthAt_20 e3 ?_
  refine lv_iload_n hx hb dX2_lengthAt_23 rfl (lv_at hl 2 rfl) ?_
  obtain ⟨r12, e13, hf⟩ := ob hf
  refine r_callVi (As := [.int p2]) ⟨hx, hb, hml, hown, hts⟩ (c_X8_fromOf l D S a2 p2 r12 e13) (cwV 1 hts (gwV gw_11_3 gw_11_4 gw_11_5 gw_2_23 gw_11_1) rfl rfl rfl (by decide +kernel) ⟨Nat.le_of_ble_eq_true rfl, Nat.le_of_ble_eq_true rfl⟩) hH hNE 11 ek9 (by decide) rfl rfl rfl hl.1 rfl (Nat.le_of_ble_eq_true rfl) dX2_lengthAt_24 ⟨(Nat.le_of_ble_eq_true rfl), (Nat.le_of_ble_eq_true rfl)⟩ (fun H locs hH => ?_)
  refine lv_isub hx hb dX2_lengthAt_27 ?_
  have hr9 := Option.some.inj hf
  subst hr9
  exact e_i hx hb hr hlocks hH dX2_lengthAt_28
