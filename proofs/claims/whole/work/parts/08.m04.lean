set_option maxRecDepth 100000 in
def f_X10_finds (S : PS) (a0 : Nat) (p1 : Int32) (p2 : Int32) (p3 : Int32) (p4 : Int32) (p5 : Int32) : Option (PS) := if kK S a0 = 14 then ((kQ S a0 32).bind fun a2 => if kK S a2 = 101 then (if ¬ (p2 < 0 ∨ kN S a2 ≤ p2.toNatClampNeg) then ((kQ S a0 33).bind fun a6 => if kK S a6 = 101 then (if ¬ (p3 < 0 ∨ kN S a6 ≤ p3.toNatClampNeg) then ((f_X10_isIgnored S a0 p1 p4 (kI S a2 p2.toNatClampNeg) (kI S a6 p3.toNatClampNeg)).bind fun r10 => if r10 = 0 then ((kQ S a0 38).bind fun a13 => if kK S a13 = 101 then (if ¬ ((kI S a0 37) < 0 ∨ kN S a13 ≤ (kI S a0 37).toNatClampNeg) then (lt (wI S a13 (kI S a0 37).toNatClampNeg p2) fun S17 => if kK S17 a0 = 14 then ((kQ S17 a0 39).bind fun a20 => (kQ S17 a0 33).bind fun a22 => if kK S17 a22 = 101 then (if ¬ (p3 < 0 ∨ kN S17 a22 ≤ p3.toNatClampNeg) then (if kK S17 a20 = 101 then (if ¬ ((kI S17 a0 37) < 0 ∨ kN S17 a20 ≤ (kI S17 a0 37).toNatClampNeg) then (lt (wI S17 a20 (kI S17 a0 37).toNatClampNeg (kI S17 a22 p3.toNatClampNeg)) fun S28 => if kK S28 a0 = 14 then ((kQ S28 a0 40).bind fun a31 => if kK S28 a31 = 101 then (if ¬ ((kI S28 a0 37) < 0 ∨ kN S28 a31 ≤ (kI S28 a0 37).toNatClampNeg) then (lt (wI S28 a31 (kI S28 a0 37).toNatClampNeg p4) fun S35 => if kK S35 a0 = 14 then ((kQ S35 a0 41).bind fun a38 => if kK S35 a38 = 101 then (if ¬ ((kI S35 a0 37) < 0 ∨ kN S35 a38 ≤ (kI S35 a0 37).toNatClampNeg) then (lt (wI S35 a38 (kI S35 a0 37).toNatClampNeg p5) fun S42 => if kK S42 a0 = 14 then (lt (wI S42 a0 37 ((kI S42 a0 37) + 1)) fun S45 => some S45) else none) else none) else none) else none) else none) else none) else none) else none) else none) else none) else none) else none) else none) else none) else (some S)) else none) else none) else none) else none) else none
abbrev rmX10_finds : Room := { frames := 1, cells := 0, slots := 0, locals := 26 }
set_option maxHeartbeats 4000000 in
set_option maxRecDepth 100000 in
theorem c_X10_finds (l : Launch) (D : va_G × Nat) (S : PS) (a0 : Nat) (p1 : Int32) (p2 : Int32) (p3 : Int32) (p4 : Int32) (p5 : Int32) (r : PS) (hf : f_X10_finds S a0 p1 p2 p3 p4 p5 = some r) : MV l D yX10_finds wsX10_finds rmX10_finds S [.ref a0, .int p1, .int p2, .int p3, .int p4, .int p5] r 0 0 := by
  unfold f_X10_finds at hf
  refine Met.ofW (cc := cX10_finds) (maxL := 6) (ret := none) (by decide) rfl ?_
  intro p e s m args below meth c s₁ B hml hv
  obtain ⟨rfl, hH0, hNE⟩ := hv
  have hx := B.exec
  have hb := B.bytes
  have hr := B.returns
  have hts := atoms_spec (ws := wsX10_finds) B.pre
  have hown : s.vm.findClass RX10 = some m.cls := findClass_of_methodNamed B.named
  have hlocks := B.notSynchronized
  have hH : HI D S S s s.heap [] := HI.start hH0
  have hl := lv_entry ([.ref a0, .int p1, .int p2, .int p3, .int p4, .int p5]) (n := 6) (Nat.le_of_ble_eq_true rfl)
  rw [lg_entry_eq]
  generalize (lg_sl ([.ref a0, .int p1, .int p2, .int p3, .int p4, .int p5]) ++ List.replicate (6 - (lg_sl ([.ref a0, .int p1, .int p2, .int p3, .int p4, .int p5])).length) Slot.unset).toArray = ls at hl ⊢
  have hl : lv_has ls 6 [(0, .ref a0), (1, .int p1), (2, .int p2), (3, .int p3), (4, .int p4), (5, .int p5)] := hl
  refine lv_aload_n hx hb dX10_finds_0 rfl (lv_at hl 0 rfl) ?_
  refine lv_iload_n hx hb dX10_finds_1 rfl (lv_at hl 1 rfl) ?_
  refine lv_iload hx hb dX10_finds_2 (lv_at hl 4 rfl) ?_
  refine lv_aload_n hx hb dX10_finds_4 rfl (lv_at hl 0 rfl) ?_
  obtain ⟨ek1, hf⟩ := oc hf
  obtain ⟨a2, e3, hf⟩ := ob hf
  refine r_getQ hx hb 13 hts (fun w h => List.mem_cons_of_mem _ (mwsX100 w h)) hown hH ek1 (by decide) rfl 32 (by decide) rfl (hts (.fieldLink RX10 90 "HousestyleModel" "from" "[I") (List.mem_cons_of_mem _ gw_30_15)) (fun _ h9 => h9) dX10_finds_5 e3 ?_
  refine lv_iload_n hx hb dX10_finds_8 rfl (lv_at hl 2 rfl) ?_
  obtain ⟨ek4, hf⟩ := oc hf
  obtain ⟨ei5, hf⟩ := oc hf
  refine r_iald hx hb hH ek4 ei5 dX10_finds_9 ?_
  refine lv_aload_n hx hb dX10_finds_10 rfl (lv_at hl 0 rfl) ?_
  obtain ⟨a6, e7, hf⟩ := ob hf
  refine r_getQ hx hb 13 hts (fun w h => List.mem_cons_of_mem _ (mwsX100 w h)) hown hH ek1 (by decide) rfl 33 (by decide) rfl (hts (.fieldLink RX10 93 "HousestyleModel" "to" "[I") (List.mem_cons_of_mem _ gw_30_16)) (fun _ h9 => h9) dX10_finds_11 e7 ?_
  refine lv_iload_n hx hb dX10_finds_14 rfl (lv_at hl 3 rfl) ?_
  obtain ⟨ek8, hf⟩ := oc hf
  obtain ⟨ei9, hf⟩ := oc hf
  refine r_iald hx hb hH ek8 ei9 dX10_finds_15 ?_
  obtain ⟨r10, e11, hf⟩ := ob hf
  refine r_callVi (As := [.int p1, .int p4, .int (kI S a2 p2.toNatClampNeg), .int (kI S a6 p3.toNatClampNeg)]) ⟨hx, hb, hml, hown, hts⟩ (c_X10_isIgnored l D S a0 p1 p4 (kI S a2 p2.toNatClampNeg) (kI S a6 p3.toNatClampNeg) r10 e11) (cwV 4 hts (gwV gw_34_22 gw_34_23 gw_35_0 gw_31_10 gw_34_19) rfl rfl rfl (by decide +kernel) ⟨Nat.le_of_ble_eq_true rfl, Nat.le_of_ble_eq_true rfl⟩) hH hNE 13 ek1 (by decide) rfl rfl rfl hl.1 rfl (Nat.le_of_ble_eq_true rfl) dX10_finds_16 ⟨(Nat.le_of_ble_eq_true rfl), (Nat.le_of_ble_eq_true rfl)⟩ (fun H locs hH => ?_)
  refine lv_if_ne (tgt := 79) hx hb dX10_finds_19 (by decide) (fun c12 => ?_) (fun c12 => ?_)
  · have hf := iq hf c12
    have hr9 := Option.some.inj hf
    subst hr9
    exact e_v hx hb hr hlocks hH dX10_finds_79
  · have hf := ip hf c12
    refine lv_aload_n hx hb dX10_finds_22 rfl (lv_at hl 0 rfl) ?_
    obtain ⟨a13, e14, hf⟩ := ob hf
    refine r_getQ hx hb 13 hts (fun w h => List.mem_cons_of_mem _ (mwsX100 w h)) hown hH ek1 (by decide) rfl 38 (by decide) rfl (hts (.fieldLink RX10 105 "HousestyleModel" "foundToken" "[I") (List.mem_cons_of_mem _ gw_30_20)) (fun _ h9 => h9) dX10_finds_23 e14 ?_
    refine lv_aload_n hx hb dX10_finds_26 rfl (lv_at hl 0 rfl) ?_
    refine r_getI hx hb 13 hts (fun w h => List.mem_cons_of_mem _ (mwsX100 w h)) hown hH ek1 (by decide) rfl 37 (by decide) rfl (hts (.fieldLink RX10 205 "HousestyleModel" "found" "I") (List.mem_cons_of_mem _ gw_34_21)) (fun _ h9 => h9) dX10_finds_27 ?_
    refine lv_iload_n hx hb dX10_finds_30 rfl (lv_at hl 2 rfl) ?_
    obtain ⟨ek15, hf⟩ := oc hf
    obtain ⟨ei16, hf⟩ := oc hf
    refine r_iast hx hb hH ek15 ei16 dX10_finds_31 (fun H locs hH => ?_)
    obtain ⟨S17, e18, hf⟩ := ol hf
    rw [e18] at hH
    refine lv_aload_n hx hb dX10_finds_32 rfl (lv_at hl 0 rfl) ?_
    obtain ⟨ek19, hf⟩ := oc hf
    obtain ⟨a20, e21, hf⟩ := ob hf
    refine r_getQ hx hb 13 hts (fun w h => List.mem_cons_of_mem _ (mwsX100 w h)) hown hH ek19 (by decide) rfl 39 (by decide) rfl (hts (.fieldLink RX10 108 "HousestyleModel" "foundTo" "[I") (List.mem_cons_of_mem _ gw_30_21)) (fun _ h9 => h9) dX10_finds_33 e21 ?_
    refine lv_aload_n hx hb dX10_finds_36 rfl (lv_at hl 0 rfl) ?_
    refine r_getI hx hb 13 hts (fun w h => List.mem_cons_of_mem _ (mwsX100 w h)) hown hH ek19 (by decide) rfl 37 (by decide) rfl (hts (.fieldLink RX10 205 "HousestyleModel" "found" "I") (List.mem_cons_of_mem _ gw_34_21)) (fun _ h9 => h9) dX10_finds_37 ?_
    refine lv_aload_n hx hb dX10_finds_40 rfl (lv_at hl 0 rfl) ?_
    obtain ⟨a22, e23, hf⟩ := ob hf
    refine r_getQ hx hb 13 hts (fun w h => List.mem_cons_of_mem _ (mwsX100 w h)) hown hH ek19 (by decide) rfl 33 (by decide) rfl (hts (.fieldLink RX10 93 "HousestyleModel" "to" "[I") (List.mem_cons_of_mem _ gw_30_16)) (fun _ h9 => h9) dX10_finds_41 e23 ?_
    refine lv_iload_n hx hb dX10_finds_44 rfl (lv_at hl 3 rfl) ?_
    obtain ⟨ek24, hf⟩ := oc hf
    obtain ⟨ei25, hf⟩ := oc hf
    refine r_iald hx hb hH ek24 ei25 dX10_finds_45 ?_
    obtain ⟨ek26, hf⟩ := oc hf
    obtain ⟨ei27, hf⟩ := oc hf
    refine r_iast hx hb hH ek26 ei27 dX10_finds_46 (fun H locs hH => ?_)
    obtain ⟨S28, e29, hf⟩ := ol hf
    rw [e29] at hH
    refine lv_aload_n hx hb dX10_finds_47 rfl (lv_at hl 0 rfl) ?_
    obtain ⟨ek30, hf⟩ := oc hf
    obtain ⟨a31, e32, hf⟩ := ob hf
    refine r_getQ hx hb 13 hts (fun w h => List.mem_cons_of_mem _ (mwsX100 w h)) hown hH ek30 (by decide) rfl 40 (by decide) rfl (hts (.fieldLink RX10 111 "HousestyleModel" "foundRule" "[I") (List.mem_cons_of_mem _ gw_30_22)) (fun _ h9 => h9) dX10_finds_48 e32 ?_
    refine lv_aload_n hx hb dX10_finds_51 rfl (lv_at hl 0 rfl) ?_
    refine r_getI hx hb 13 hts (fun w h => List.mem_cons_of_mem _ (mwsX100 w h)) hown hH ek30 (by decide) rfl 37 (by decide) rfl (hts (.fieldLink RX10 205 "HousestyleModel" "found" "I") (List.mem_cons_of_mem _ gw_34_21)) (fun _ h9 => h9) dX10_finds_52 ?_
    refine lv_iload hx hb dX10_finds_55 (lv_at hl 4 rfl) ?_
    obtain ⟨ek33, hf⟩ := oc hf
    obtain ⟨ei34, hf⟩ := oc hf
    refine r_iast hx hb hH ek33 ei34 dX10_finds_57 (fun H locs hH => ?_)
    obtain ⟨S35, e36, hf⟩ := ol hf
    rw [e36] at hH
    refine lv_aload_n hx hb dX10_finds_58 rfl (lv_at hl 0 rfl) ?_
    obtain ⟨ek37, hf⟩ := oc hf
    obtain ⟨a38, e39, hf⟩ := ob hf
    refine r_getQ hx hb 13 hts (fun w h => List.mem_cons_of_mem _ (mwsX100 w h)) hown hH ek37 (by decide) rfl 41 (by decide) rfl (hts (.fieldLink RX10 114 "HousestyleModel" "foundRank" "[I") (List.mem_cons_of_mem _ gw_30_23)) (fun _ h9 => h9) dX10_finds_59 e39 ?_
    refine lv_aload_n hx hb dX10_finds_62 rfl (lv_at hl 0 rfl) ?_
    refine r_getI hx hb 13 hts (fun w h => List.mem_cons_of_mem _ (mwsX100 w h)) hown hH ek37 (by decide) rfl 37 (by decide) rfl (hts (.fieldLink RX10 205 "HousestyleModel" "found" "I") (List.mem_cons_of_mem _ gw_34_21)) (fun _ h9 => h9) dX10_finds_63 ?_
    refine lv_iload hx hb dX10_finds_66 (lv_at hl 5 rfl) ?_
    obtain ⟨ek40, hf⟩ := oc hf
    obtain ⟨ei41, hf⟩ := oc hf
    refine r_iast hx hb hH ek40 ei41 dX10_finds_68 (fun H locs hH => ?_)
    obtain ⟨S42, e43, hf⟩ := ol hf
    rw [e43] at hH
    refine lv_aload_n hx hb dX10_finds_69 rfl (lv_at hl 0 rfl) ?_
    refine lv_dup hx hb dX10_finds_70 rfl ?_
    obtain ⟨ek44, hf⟩ := oc hf
    refine r_getI hx hb 13 hts (fun w h => List.mem_cons_of_mem _ (mwsX100 w h)) hown hH ek44 (by decide) rfl 37 (by decide) rfl (hts (.fieldLink RX10 205 "HousestyleModel" "found" "I") (List.mem_cons_of_mem _ gw_34_21)) (fun _ h9 => h9) dX10_finds_71 ?_
    refine lv_iconst (v := 1) hx hb dX10_finds_74 (by decide) ?_
    refine lv_iadd hx hb dX10_finds_75 ?_
    refine r_putI hx hb 13 hts (fun w h => List.mem_cons_of_mem _ (mwsX100 w h)) tyX10 tyX10_ok nmX10 hown hH ek44 (by decide) rfl 37 (by decide) rfl (hts (.fieldLink RX10 205 "HousestyleModel" "found" "I") (List.mem_cons_of_mem _ gw_34_21)) (fun _ h9 => h9) (Or.inl rfl) (ty := .int) (by decide +kernel) rfl rfl dX10_finds_76 (fun H locs hH => ?_)
    obtain ⟨S45, e46, hf⟩ := ol hf
    rw [e46] at hH
    have hr9 := Option.some.inj hf
    subst hr9
    exact e_v hx hb hr hlocks hH dX10_finds_79
set_option maxRecDepth 100000 in
def f_X10_findsAll_b271 (a0 : Nat) (p1 : Int32) (x17 : Int32) (x25 : Int32) (x26 : Int32) (S27 : PS) : Option ((Int32 × Int32 × PS) ⊕ ((PS))) := if kK S27 a0 = 14 then (if (kI S27 a0 31) ≤ x26 then (some (.inr S27)) else ((kQ S27 a0 32).bind fun a36 => if kK S27 a36 = 101 then (if ¬ (x26 < 0 ∨ kN S27 a36 ≤ x26.toNatClampNeg) then ((kQ S27 a0 33).bind fun a40 => if kK S27 a40 = 101 then (if ¬ (x26 < 0 ∨ kN S27 a40 ≤ x26.toNatClampNeg) then ((f_X10_isAnyQuoted S27 a0 (kI S27 a36 x26.toNatClampNeg) (kI S27 a40 x26.toNatClampNeg)).bind fun r44 => lt (fun (x46 : Int32) => lt (fun (x48 : Int32) => lt (fun (S50 : PS) => lt (x26 + 1) fun x52 => some (.inl (x48, x52, S50))) fun j51 => if x46 = (2 : Int32) then (j51 S27) else (if x46 = x48 then (j51 S27) else ((f_X10_finds S27 a0 p1 x26 x26 (12 + x17) 5).bind fun r57 => j51 r57))) fun j49 => if x25 = (2 : Int32) then (j49 x46) else (j49 x25)) fun j47 => if r44 = 0 then ((f_X10_wordOf S27 a0 x17 x26).bind fun r63 => j47 r63) else (j47 2)) else none) else none) else none) else none)) else none
set_option maxRecDepth 100000 in
def f_X10_findsAll_b258 (a0 : Nat) (p1 : Int32) (x17 : Int32) (S18 : PS) : Option ((Int32 × PS) ⊕ ((PS))) := if kK S18 a0 = 14 then (if (kI S18 a0 20) ≤ x17 then (some (.inr S18)) else (lt (fun (S28 : PS) => lt (x17 + 1) fun x31 => some (.inl (x31, S28))) fun k29 => (iter (fun (v : Int32 × Int32 × PS) => f_X10_findsAll_b271 a0 p1 x17 v.1 v.2.1 v.2.2) kF (2, 0, S18)).bind (fun (v : PS) => k29 v))) else none
set_option maxRecDepth 100000 in
def f_X10_findsAll_b190 (a0 : Nat) (p1 : Int32) (x12 : Int32) (S13 : PS) : Option ((Int32 × PS) ⊕ ((PS))) := if kK S13 a0 = 14 then (if (kI S13 a0 31) ≤ x12 then (some (.inr S13)) else ((kQ S13 a0 34).bind fun a68 => if kK S13 a68 = 103 then (if ¬ (x12 < 0 ∨ kN S13 a68 ≤ x12.toNatClampNeg) then (lt (fun (S72 : PS) => lt (x12 + 1) fun x74 => some (.inl (x74, S72))) fun j73 => if (kI S13 a68 x12.toNatClampNeg) = 0 then ((f_X10_valueOf S13 a0 x12).bind fun r78 => (kQ S13 a0 25).bind fun a80 => if kK S13 a80 = 101 then (if ¬ (p1 < 0 ∨ kN S13 a80 ≤ p1.toNatClampNeg) then (if (kI S13 a80 p1.toNatClampNeg) ≤ r78 then (j73 S13) else ((kQ S13 a0 32).bind fun a85 => if kK S13 a85 = 101 then (if ¬ (x12 < 0 ∨ kN S13 a85 ≤ x12.toNatClampNeg) then ((kQ S13 a0 33).bind fun a89 => if kK S13 a89 = 101 then (if ¬ (x12 < 0 ∨ kN S13 a89 ≤ x12.toNatClampNeg) then ((f_X10_isAnyQuoted S13 a0 (kI S13 a85 x12.toNatClampNeg) (kI S13 a89 x12.toNatClampNeg)).bind fun r93 => if r93 = 0 then ((f_X10_finds S13 a0 p1 x12 x12 20 1).bind fun r96 => j73 r96) else (j73 S13)) else none) else none) else none) else none)) else none) else none) else (j73 S13)) else none) else none)) else none
set_option maxRecDepth 100000 in
def f_X10_findsAll_b21 (a0 : Nat) (p1 : Int32) (x7 : Int32) (x101 : Int32) (S102 : PS) : Option ((Int32 × PS) ⊕ ((PS))) := if kK S102 a0 = 14 then (if (kI S102 a0 31) ≤ x101 then (some (.inr S102)) else ((kQ S102 a0 23).bind fun a111 => if kK S102 a111 = 103 then (if ¬ (((p1 * 12) + x7) < 0 ∨ kN S102 a111 ≤ ((p1 * 12) + x7).toNatClampNeg) then (if (kI S102 a111 ((p1 * 12) + x7).toNatClampNeg) = 0 then ((f_X10_isAt S102 a0 x7 x101).bind fun r116 => lt (fun (S118 : PS) => lt (x101 + 1) fun x120 => some (.inl (x120, S118))) fun j119 => if r116 = 0 then (j119 S102) else ((kQ S102 a0 7).bind fun a124 => if kK S102 a124 = 101 then (if ¬ (x7 < 0 ∨ kN S102 a124 ≤ x7.toNatClampNeg) then (lt ((x101 + (kI S102 a124 x7.toNatClampNeg)) - 1) fun x128 => (kQ S102 a0 11).bind fun a130 => if kK S102 a130 = 102 then (if ¬ (x7 < 0 ∨ kN S102 a130 ≤ x7.toNatClampNeg) then (lt (fun (x134 : Int32) => lt (fun (x136 : Int32) => if x136 = 0 then (j119 S102) else ((f_X10_isExcepted S102 a0 x7 x101).bind fun r139 => if r139 = 0 then ((f_X10_rankAt S102 a0 p1 x7).bind fun r142 => (f_X10_finds S102 a0 p1 x101 x128 x7 r142).bind fun r144 => j119 r144) else (j119 S102))) fun j137 => lt (fun (u148 : Unit) => j137 0) fun j147 => if x134 = 0 then (j147 ()) else ((kQ S102 a0 12).bind fun a151 => if kK S102 a151 = 103 then (if ¬ (x7 < 0 ∨ kN S102 a151 ≤ x7.toNatClampNeg) then (lt (fun (u156 : Unit) => j137 1) fun j155 => if (kI S102 a151 x7.toNatClampNeg) = 0 then ((kQ S102 a0 32).bind fun a159 => if kK S102 a159 = 101 then (if ¬ (x101 < 0 ∨ kN S102 a159 ≤ x101.toNatClampNeg) then ((kQ S102 a0 33).bind fun a163 => if kK S102 a163 = 101 then (if ¬ (x128 < 0 ∨ kN S102 a163 ≤ x128.toNatClampNeg) then ((f_X10_isAnyQuoted S102 a0 (kI S102 a159 x101.toNatClampNeg) (kI S102 a163 x128.toNatClampNeg)).bind fun r167 => if r167 = 0 then (j155 ()) else (j147 ())) else none) else none) else none) else none) else (j155 ())) else none) else none)) fun j135 => lt (fun (u172 : Unit) => j135 1) fun j171 => if (kI S102 a130 x7.toNatClampNeg) = (97 : Int32) then (j171 ()) else ((f_X10_isFirstOfSentence S102 a0 x101).bind fun r175 => if ¬ (x7 < 0 ∨ kN S102 a130 ≤ x7.toNatClampNeg) then (lt (fun (x178 : Int32) => if r175 = x178 then (j171 ()) else (j135 0)) fun j179 => if (kI S102 a130 x7.toNatClampNeg) = (115 : Int32) then (j179 1) else (j179 0)) else none)) else none) else none) else none) else none)) else (some (.inr S102))) else none) else none)) else none
set_option maxRecDepth 100000 in
def f_X10_findsAll_b11 (a0 : Nat) (p1 : Int32) (x7 : Int32) (S8 : PS) : Option ((Int32 × PS) ⊕ ((PS))) := if kK S8 a0 = 14 then (if (kI S8 a0 6) ≤ x7 then (some (.inr S8)) else (lt (fun (S103 : PS) => lt (x7 + 1) fun x106 => some (.inl (x106, S103))) fun k104 => (iter (fun (v : Int32 × PS) => f_X10_findsAll_b21 a0 p1 x7 v.1 v.2) kF (0, S8)).bind (fun (v : PS) => k104 v))) else none
set_option maxRecDepth 100000 in
def f_X10_findsAll (S : PS) (a0 : Nat) (p1 : Int32) : Option (PS) := if kK S a0 = 14 then ((f_X10_scan S a0).bind fun r2 => if kK r2 a0 = 14 then (lt (wI r2 a0 37 0) fun S5 => lt (fun (S9 : PS) => lt (fun (S14 : PS) => lt (fun (S19 : PS) => some S19) fun k20 => (iter (fun (v : Int32 × PS) => f_X10_findsAll_b258 a0 p1 v.1 v.2) kF (0, S14)).bind (fun (v : PS) => k20 v)) fun k15 => (iter (fun (v : Int32 × PS) => f_X10_findsAll_b190 a0 p1 v.1 v.2) kF (0, S9)).bind (fun (v : PS) => k15 v)) fun k10 => (iter (fun (v : Int32 × PS) => f_X10_findsAll_b11 a0 p1 v.1 v.2) kF (0, S5)).bind (fun (v : PS) => k10 v)) else none) else none
abbrev rmX10_findsAll : Room := { frames := 2, cells := 0, slots := 0, locals := 51 }
set_option maxHeartbeats 4000000 in
set_option maxRecDepth 100000 in
theorem c_X10_findsAll (l : Launch) (D : va_G × Nat) (S : PS) (a0 : Nat) (p1 : Int32) (r : PS) (hf : f_X10_findsAll S a0 p1 = some r) : MV l D yX10_findsAll wsX10_findsAll rmX10_findsAll S [.ref a0, .int p1] r 0 0 := by
  unfold f_X10_findsAll at hf
  refine Met.ofW (cc := cX10_findsAll) (maxL := 6) (ret := none) (by decide) rfl ?_
  intro p e s m args below meth c s₁ B hml hv
  obtain ⟨rfl, hH0, hNE⟩ := hv
  have hx := B.exec
  have hb := B.bytes
  have hr := B.returns
  have hts := atoms_spec (ws := wsX10_findsAll) B.pre
  have hown : s.vm.findClass RX10 = some m.cls := findClass_of_methodNamed B.named
  have hlocks := B.notSynchronized
  have hH : HI D S S s s.heap [] := HI.start hH0
  have hl := lv_entry ([.ref a0, .int p1]) (n := 6) (Nat.le_of_ble_eq_true rfl)
  rw [lg_entry_eq]
  generalize (lg_sl ([.ref a0, .int p1]) ++ List.replicate (6 - (lg_sl ([.ref a0, .int p1])).length) Slot.unset).toArray = ls at hl ⊢
  have hl : lv_has ls 6 [(0, .ref a0), (1, .int p1)] := hl
  refine lv_aload_n hx hb dX10_findsAll_0 rfl (lv_at hl 0 rfl) ?_
  obtain ⟨ek1, hf⟩ := oc hf
  obtain ⟨r2, e3, hf⟩ := ob hf
  refine r_callVv (As := []) ⟨hx, hb, hml, hown, hts⟩ (c_X10_scan l D S a0 r2 e3) (cwV 0 hts (gwV gw_35_2 gw_35_3 gw_35_4 gw_31_10 gw_34_7) rfl rfl rfl (by decide +kernel) ⟨Nat.le_of_ble_eq_true rfl, Nat.le_of_ble_eq_true rfl⟩) hH hNE 13 ek1 (by decide) rfl rfl rfl hl.1 rfl (Nat.le_of_ble_eq_true rfl) dX10_findsAll_1 ⟨(Nat.le_of_ble_eq_true rfl), (Nat.le_of_ble_eq_true rfl)⟩ (fun H locs hH => ?_)
  refine lv_aload_n hx hb dX10_findsAll_4 rfl (lv_at hl 0 rfl) ?_
  refine lv_iconst (v := 0) hx hb dX10_findsAll_5 (by decide) ?_
  obtain ⟨ek4, hf⟩ := oc hf
  refine r_putI hx hb 13 hts (fun w h => List.mem_cons_of_mem _ (mwsX100 w h)) tyX10 tyX10_ok nmX10 hown hH ek4 (by decide) rfl 37 (by decide) rfl (hts (.fieldLink RX10 205 "HousestyleModel" "found" "I") (List.mem_cons_of_mem _ gw_34_21)) (fun _ h9 => h9) (Or.inl rfl) (ty := .int) (by decide +kernel) rfl rfl dX10_findsAll_6 (fun H locs hH => ?_)
  obtain ⟨S5, e6, hf⟩ := ol hf
  rw [e6] at hH
  refine lv_iconst (v := 0) hx hb dX10_findsAll_9 (by decide) ?_
  refine lv_istore_n (lv' := [(2, .int 0), (0, .ref a0), (1, .int p1)]) hx hb dX10_findsAll_10 rfl hl (by decide) rfl (fun ls hl => ?_)
  obtain ⟨k10, e11, hf⟩ := ol hf
  have Xk10 : ∀ (S9 : PS) (H : Heap) (locs : List Loc) (ls : Array Slot), HI D S S9 s H locs → lv_has ls 6 [(0, .ref a0), (1, .int p1)] → k10 S9 = some r → GV p l e (headSpec wsX10_findsAll rmX10_findsAll).room s m ([.ref a0, .int p1] : List Value).toArray below meth c D S r H locs 0 0 0 0 (F0 m 188 ls []) := by
    intro S9 H locs ls hH hl hf
    rw [← e11] at hf
    refine lv_iconst (v := 0) hx hb dX10_findsAll_188 (by decide) ?_
    refine lv_istore_n (lv' := [(2, .int 0), (0, .ref a0), (1, .int p1)]) hx hb dX10_findsAll_189 rfl hl (by decide) rfl (fun ls hl => ?_)
    obtain ⟨k15, e16, hf⟩ := ol hf
    have Xk15 : ∀ (S14 : PS) (H : Heap) (locs : List Loc) (ls : Array Slot), HI D S S14 s H locs → lv_has ls 6 [(0, .ref a0), (1, .int p1)] → k15 S14 = some r → GV p l e (headSpec wsX10_findsAll rmX10_findsAll).room s m ([.ref a0, .int p1] : List Value).toArray below meth c D S r H locs 0 0 0 0 (F0 m 256 ls []) := by
      intro S14 H locs ls hH hl hf
      rw [← e16] at hf
      refine lv_iconst (v := 0) hx hb dX10_findsAll_256 (by decide) ?_
      refine lv_istore_n (lv' := [(2, .int 0), (0, .ref a0), (1, .int p1)]) hx hb dX10_findsAll_257 rfl hl (by decide) rfl (fun ls hl => ?_)
      obtain ⟨k20, e21, hf⟩ := ol hf
      have Xk20 : ∀ (S19 : PS) (H : Heap) (locs : List Loc) (ls : Array Slot), HI D S S19 s H locs → lv_has ls 6 [] → k20 S19 = some r → GV p l e (headSpec wsX10_findsAll rmX10_findsAll).room s m ([.ref a0, .int p1] : List Value).toArray below meth c D S r H locs 0 0 0 0 (F0 m 364 ls []) := by
        intro S19 H locs ls hH hl hf
        rw [← e21] at hf
        have hr9 := Option.some.inj hf
        subst hr9
        exact e_v hx hb hr hlocks hH dX10_findsAll_364
      obtain ⟨o22, eo22, hq22f⟩ := ob hf
      have Lo22 : ∀ (n : Nat) (x17 : Int32) (S18 : PS), iter (fun (v : Int32 × PS) => f_X10_findsAll_b258 a0 p1 v.1 v.2) n (x17, S18) = some o22 → ∀ (H : Heap) (locs : List Loc) (ls : Array Slot), HI D S S18 s H locs → lv_has ls 6 [(0, .ref a0), (1, .int p1), (2, .int x17)] → GV p l e (headSpec wsX10_findsAll rmX10_findsAll).room s m ([.ref a0, .int p1] : List Value).toArray below meth c D S r H locs 0 0 0 0 (F0 m 258 ls []) := by
        intro n
        induction n with
        | zero => intro x17 S18 hi; cases hi
        | succ n ih22 =>
          intro x17 S18 hi H locs ls hH hl
          obtain ⟨q22_, hf, hq22⟩ := iter_s hi
          have hf : f_X10_findsAll_b258 a0 p1 x17 S18 = some q22_ := hf
          unfold f_X10_findsAll_b258 at hf
          refine lv_iload_n hx hb dX10_findsAll_258 rfl (lv_at hl 2 rfl) ?_
          refine lv_aload_n hx hb dX10_findsAll_259 rfl (lv_at hl 0 rfl) ?_
          obtain ⟨ek23, hf⟩ := oc hf
          refine r_getI hx hb 13 hts (fun w h => List.mem_cons_of_mem _ (mwsX100 w h)) hown hH ek23 (by decide) rfl 20 (by decide) rfl (hts (.fieldLink RX10 187 "HousestyleModel" "pairs" "I") (List.mem_cons_of_mem _ gw_33_23)) (fun _ h9 => h9) dX10_findsAll_260 ?_
          refine lv_icmp_ge (tgt := 364) hx hb dX10_findsAll_263 (by decide) (fun c24 => ?_) (fun c24 => ?_)
          · have hf := ip hf c24
            cases hf
            have hf9 := itR (K := (fun (v : PS) => k20 v)) hq22 hq22f
            exact Xk20 S18 _ _ ls hH (lv_sub hl [] rfl) hf9
          · have hf := iq hf c24
            refine lv_iconst (v := 2) hx hb dX10_findsAll_266 (by decide) ?_
            refine lv_istore_n (lv' := [(3, .int 2), (0, .ref a0), (1, .int p1), (2, .int x17)]) hx hb dX10_findsAll_267 rfl hl (by decide) rfl (fun ls hl => ?_)
            refine lv_iconst (v := 0) hx hb dX10_findsAll_268 (by decide) ?_
            refine lv_istore (lv' := [(4, .int 0), (3, .int 2), (0, .ref a0), (1, .int p1), (2, .int x17)]) hx hb dX10_findsAll_269 hl (by decide) rfl (fun ls hl => ?_)
            obtain ⟨k29, e30, hf⟩ := ol hf
            have Xk29 : ∀ (S28 : PS) (H : Heap) (locs : List Loc) (ls : Array Slot), HI D S S28 s H locs → lv_has ls 6 [(0, .ref a0), (1, .int p1), (2, .int x17)] → k29 S28 = some q22_ → GV p l e (headSpec wsX10_findsAll rmX10_findsAll).room s m ([.ref a0, .int p1] : List Value).toArray below meth c D S r H locs 0 0 0 0 (F0 m 358 ls []) := by
              intro S28 H locs ls hH hl hf
              rw [← e30] at hf
              obtain ⟨x31, e32, hf⟩ := ol hf
              refine lv_iinc (v := x31) (lv' := [(2, .int x31), (0, .ref a0), (1, .int p1)]) hx hb dX10_findsAll_358 hl (k := 2) rfl (by rw [← e32]; rfl) (by decide) rfl (fun ls hl => ?_)
              refine lv_goto (tgt := 258) hx hb dX10_findsAll_361 (by decide) ?_
              cases hf
              exact ih22 x31 S28 hq22 _ _ ls hH (lv_sub hl [1, 2, 0] rfl)
            obtain ⟨o33, eo33, hq33f⟩ := ob hf
            have Lo33 : ∀ (n : Nat) (x25 : Int32) (x26 : Int32) (S27 : PS), iter (fun (v : Int32 × Int32 × PS) => f_X10_findsAll_b271 a0 p1 x17 v.1 v.2.1 v.2.2) n (x25, x26, S27) = some o33 → ∀ (H : Heap) (locs : List Loc) (ls : Array Slot), HI D S S27 s H locs → lv_has ls 6 [(0, .ref a0), (1, .int p1), (2, .int x17), (3, .int x25), (4, .int x26)] → GV p l e (headSpec wsX10_findsAll rmX10_findsAll).room s m ([.ref a0, .int p1] : List Value).toArray below meth c D S r H locs 0 0 0 0 (F0 m 271 ls []) := by
              intro n
              induction n with
              | zero => intro x25 x26 S27 hi; cases hi
              | succ n ih33 =>
                intro x25 x26 S27 hi H locs ls hH hl
                obtain ⟨q33_, hf, hq33⟩ := iter_s hi
                have hf : f_X10_findsAll_b271 a0 p1 x17 x25 x26 S27 = some q33_ := hf
                unfold f_X10_findsAll_b271 at hf
                refine lv_iload hx hb dX10_findsAll_271 (lv_at hl 4 rfl) ?_
                refine lv_aload_n hx hb dX10_findsAll_273 rfl (lv_at hl 0 rfl) ?_
                obtain ⟨ek34, hf⟩ := oc hf
                refine r_getI hx hb 13 hts (fun w h => List.mem_cons_of_mem _ (mwsX100 w h)) hown hH ek34 (by decide) rfl 31 (by decide) rfl (hts (.fieldLink RX10 194 "HousestyleModel" "tokens" "I") (List.mem_cons_of_mem _ gw_34_8)) (fun _ h9 => h9) dX10_findsAll_274 ?_
                refine lv_icmp_ge (tgt := 358) hx hb dX10_findsAll_277 (by decide) (fun c35 => ?_) (fun c35 => ?_)
                · have hf := ip hf c35
                  cases hf
                  have hf9 := itR (K := (fun (v : PS) => k29 v)) hq33 hq33f
                  exact Xk29 S27 _ _ ls hH (lv_sub hl [0, 1, 2] rfl) hf9
                · have hf := iq hf c35
                  refine lv_aload_n hx hb dX10_findsAll_280 rfl (lv_at hl 0 rfl) ?_
                  refine lv_aload_n hx hb dX10_findsAll_281 rfl (lv_at hl 0 rfl) ?_
                  obtain ⟨a36, e37, hf⟩ := ob hf
                  refine r_getQ hx hb 13 hts (fun w h => List.mem_cons_of_mem _ (mwsX100 w h)) hown hH ek34 (by decide) rfl 32 (by decide) rfl (hts (.fieldLink RX10 90 "HousestyleModel" "from" "[I") (List.mem_cons_of_mem _ gw_30_15)) (fun _ h9 => h9) dX10_findsAll_282 e37 ?_
                  refine lv_iload hx hb dX10_findsAll_285 (lv_at hl 4 rfl) ?_
                  obtain ⟨ek38, hf⟩ := oc hf
                  obtain ⟨ei39, hf⟩ := oc hf
                  refine r_iald hx hb hH ek38 ei39 dX10_findsAll_287 ?_
                  refine lv_aload_n hx hb dX10_findsAll_288 rfl (lv_at hl 0 rfl) ?_
                  obtain ⟨a40, e41, hf⟩ := ob hf
                  refine r_getQ hx hb 13 hts (fun w h => List.mem_cons_of_mem _ (mwsX100 w h)) hown hH ek34 (by decide) rfl 33 (by decide) rfl (hts (.fieldLink RX10 93 "HousestyleModel" "to" "[I") (List.mem_cons_of_mem _ gw_30_16)) (fun _ h9 => h9) dX10_findsAll_289 e41 ?_
                  refine lv_iload hx hb dX10_findsAll_292 (lv_at hl 4 rfl) ?_
                  obtain ⟨ek42, hf⟩ := oc hf
                  obtain ⟨ei43, hf⟩ := oc hf
                  refine r_iald hx hb hH ek42 ei43 dX10_findsAll_294 ?_
                  obtain ⟨r44, e45, hf⟩ := ob hf
                  refine r_callVi (As := [.int (kI S27 a36 x26.toNatClampNeg), .int (kI S27 a40 x26.toNatClampNeg)]) ⟨hx, hb, hml, hown, hts⟩ (c_X10_isAnyQuoted l D S27 a0 (kI S27 a36 x26.toNatClampNeg) (kI S27 a40 x26.toNatClampNeg) r44 e45) (cwV 2 hts (gwV gw_35_11 gw_35_12 gw_35_13 gw_31_10 gw_34_9) rfl rfl rfl (by decide +kernel) ⟨Nat.le_of_ble_eq_true rfl, Nat.le_of_ble_eq_true rfl⟩) hH hNE 13 ek34 (by decide) rfl rfl rfl hl.1 rfl (Nat.le_of_ble_eq_true rfl) dX10_findsAll_295 ⟨(Nat.le_of_ble_eq_true rfl), (Nat.le_of_ble_eq_true rfl)⟩ (fun H locs hH => ?_)
                  obtain ⟨j47, e61, hf⟩ := ol hf
                  have Jj47 : ∀ (x46 : Int32) (H : Heap) (locs : List Loc) (ls : Array Slot), HI D S S27 s H locs → lv_has ls 6 [(0, .ref a0), (1, .int p1), (2, .int x17), (3, .int x25), (4, .int x26)] → j47 x46 = some q33_ → GV p l e (headSpec wsX10_findsAll rmX10_findsAll).room s m ([.ref a0, .int p1] : List Value).toArray below meth c D S r H locs 0 0 0 0 (F0 m 312 ls [.int x46]) := by
                    intro x46 H locs ls hH hl hf
                    rw [← e61] at hf
                    refine lv_istore (lv' := [(5, .int x46), (0, .ref a0), (1, .int p1), (2, .int x17), (3, .int x25), (4, .int x26)]) hx hb dX10_findsAll_312 hl (by decide) rfl (fun ls hl => ?_)
                    refine lv_iload_n hx hb dX10_findsAll_314 rfl (lv_at hl 4 rfl) ?_
                    refine lv_iconst (v := 2) hx hb dX10_findsAll_315 (by decide) ?_
                    obtain ⟨j49, e59, hf⟩ := ol hf
                    have Jj49 : ∀ (x48 : Int32) (H : Heap) (locs : List Loc) (ls : Array Slot), HI D S S27 s H locs → lv_has ls 6 [(0, .ref a0), (1, .int p1), (2, .int x17), (4, .int x26), (5, .int x46)] → j49 x48 = some q33_ → GV p l e (headSpec wsX10_findsAll rmX10_findsAll).room s m ([.ref a0, .int p1] : List Value).toArray below meth c D S r H locs 0 0 0 0 (F0 m 325 ls [.int x48]) := by
                      intro x48 H locs ls hH hl hf
                      rw [← e59] at hf
                      refine lv_istore_n (lv' := [(3, .int x48), (0, .ref a0), (1, .int p1), (2, .int x17), (4, .int x26), (5, .int x46)]) hx hb dX10_findsAll_325 rfl hl (by decide) rfl (fun ls hl => ?_)
                      refine lv_iload hx hb dX10_findsAll_326 (lv_at hl 5 rfl) ?_
                      refine lv_iconst (v := 2) hx hb dX10_findsAll_328 (by decide) ?_
                      obtain ⟨j51, e54, hf⟩ := ol hf
                      have Jj51 : ∀ (S50 : PS) (H : Heap) (locs : List Loc) (ls : Array Slot), HI D S S50 s H locs → lv_has ls 6 [(0, .ref a0), (1, .int p1), (2, .int x17), (3, .int x48), (4, .int x26)] → j51 S50 = some q33_ → GV p l e (headSpec wsX10_findsAll rmX10_findsAll).room s m ([.ref a0, .int p1] : List Value).toArray below meth c D S r H locs 0 0 0 0 (F0 m 352 ls []) := by
                        intro S50 H locs ls hH hl hf
                        rw [← e54] at hf
                        obtain ⟨x52, e53, hf⟩ := ol hf
                        refine lv_iinc (v := x52) (lv' := [(4, .int x52), (0, .ref a0), (1, .int p1), (2, .int x17), (3, .int x48)]) hx hb dX10_findsAll_352 hl (k := 4) rfl (by rw [← e53]; rfl) (by decide) rfl (fun ls hl => ?_)
                        refine lv_goto (tgt := 271) hx hb dX10_findsAll_355 (by decide) ?_
                        cases hf
                        exact ih33 x48 x52 S50 hq33 _ _ ls hH (lv_sub hl [1, 2, 3, 4, 0] rfl)
                      refine lv_icmp_eq (tgt := 352) hx hb dX10_findsAll_329 (by decide) (fun c55 => ?_) (fun c55 => ?_)
                      · have hf := ip hf c55
                        exact Jj51 S27 _ _ ls hH (lv_sub hl [1, 2, 3, 0, 4] rfl) hf
                      · have hf := iq hf c55
                        refine lv_iload hx hb dX10_findsAll_332 (lv_at hl 5 rfl) ?_
                        refine lv_iload_n hx hb dX10_findsAll_334 rfl (lv_at hl 0 rfl) ?_
                        refine lv_icmp_eq (tgt := 352) hx hb dX10_findsAll_335 (by decide) (fun c56 => ?_) (fun c56 => ?_)
                        · have hf := ip hf c56
                          exact Jj51 S27 _ _ ls hH (lv_sub hl [1, 2, 3, 0, 4] rfl) hf
                        · have hf := iq hf c56
                          refine lv_aload_n hx hb dX10_findsAll_338 rfl (lv_at hl 1 rfl) ?_
                          refine lv_iload_n hx hb dX10_findsAll_339 rfl (lv_at hl 2 rfl) ?_
                          refine lv_iload hx hb dX10_findsAll_340 (lv_at hl 4 rfl) ?_
                          refine lv_iload hx hb dX10_findsAll_342 (lv_at hl 4 rfl) ?_
                          refine lv_bipush (v := 12) hx hb dX10_findsAll_344 (by decide) ?_
                          refine lv_iload_n hx hb dX10_findsAll_346 rfl (lv_at hl 3 rfl) ?_
                          refine lv_iadd hx hb dX10_findsAll_347 ?_
                          refine lv_iconst (v := 5) hx hb dX10_findsAll_348 (by decide) ?_
                          obtain ⟨r57, e58, hf⟩ := ob hf
                          refine r_callVv (As := [.int p1, .int x26, .int x26, .int (12 + x17), .int 5]) ⟨hx, hb, hml, hown, hts⟩ (c_X10_finds l D S27 a0 p1 x26 x26 (12 + x17) 5 r57 e58) (cwV 5 hts (gwV gw_35_17 gw_35_18 gw_35_19 gw_31_10 gw_34_20) rfl rfl rfl (by decide +kernel) ⟨Nat.le_of_ble_eq_true rfl, Nat.le_of_ble_eq_true rfl⟩) hH hNE 13 ek34 (by decide) rfl rfl rfl hl.1 rfl (Nat.le_of_ble_eq_true rfl) dX10_findsAll_349 ⟨(Nat.le_of_ble_eq_true rfl), (Nat.le_of_ble_eq_true rfl)⟩ (fun H locs hH => ?_)
                          exact Jj51 r57 _ _ ls hH (lv_sub hl [1, 2, 3, 0, 4] rfl) hf
                    refine lv_icmp_ne (tgt := 324) hx hb dX10_findsAll_316 (by decide) (fun c60 => ?_) (fun c60 => ?_)
                    · have hf := iq hf c60
                      refine lv_iload_n hx hb dX10_findsAll_324 rfl (lv_at hl 4 rfl) ?_
                      exact Jj49 x25 _ _ ls hH (lv_sub hl [1, 2, 3, 5, 0] rfl) hf
                    · have hf := ip hf c60
                      refine lv_iload hx hb dX10_findsAll_319 (lv_at hl 0 rfl) ?_
                      refine lv_goto (tgt := 325) hx hb dX10_findsAll_321 (by decide) ?_
                      exact Jj49 x46 _ _ ls hH (lv_sub hl [1, 2, 3, 5, 0] rfl) hf
                  refine lv_if_eq (tgt := 305) hx hb dX10_findsAll_298 (by decide) (fun c62 => ?_) (fun c62 => ?_)
                  · have hf := ip hf c62
                    refine lv_aload_n hx hb dX10_findsAll_305 rfl (lv_at hl 0 rfl) ?_
                    refine lv_iload_n hx hb dX10_findsAll_306 rfl (lv_at hl 2 rfl) ?_
                    refine lv_iload hx hb dX10_findsAll_307 (lv_at hl 4 rfl) ?_
                    obtain ⟨r63, e64, hf⟩ := ob hf
                    refine r_callVi (As := [.int x17, .int x26]) ⟨hx, hb, hml, hown, hts⟩ (c_X10_wordOf l D S27 a0 x17 x26 r63 e64) (cwV 2 hts (gwV gw_35_23 gw_36_0 gw_36_1 gw_31_10 gw_34_18) rfl rfl rfl (by decide +kernel) ⟨Nat.le_of_ble_eq_true rfl, Nat.le_of_ble_eq_true rfl⟩) hH hNE 13 ek34 (by decide) rfl rfl rfl hl.1 rfl (Nat.le_of_ble_eq_true rfl) dX10_findsAll_309 ⟨(Nat.le_of_ble_eq_true rfl), (Nat.le_of_ble_eq_true rfl)⟩ (fun H locs hH => ?_)
                    exact Jj47 r63 _ _ ls hH (lv_sub hl [0, 1, 2, 3, 4] rfl) hf
                  · have hf := iq hf c62
                    refine lv_iconst (v := 2) hx hb dX10_findsAll_301 (by decide) ?_
                    refine lv_goto (tgt := 312) hx hb dX10_findsAll_302 (by decide) ?_
                    exact Jj47 2 _ _ ls hH (lv_sub hl [0, 1, 2, 3, 4] rfl) hf
            exact Lo33 kF 2 0 S18 eo33 _ _ ls hH (lv_sub hl [2, 3, 4, 1, 0] rfl)
      exact Lo22 kF 0 S14 eo22 _ _ ls hH (lv_sub hl [1, 2, 0] rfl)
    obtain ⟨o65, eo65, hq65f⟩ := ob hf
    have Lo65 : ∀ (n : Nat) (x12 : Int32) (S13 : PS), iter (fun (v : Int32 × PS) => f_X10_findsAll_b190 a0 p1 v.1 v.2) n (x12, S13) = some o65 → ∀ (H : Heap) (locs : List Loc) (ls : Array Slot), HI D S S13 s H locs → lv_has ls 6 [(0, .ref a0), (1, .int p1), (2, .int x12)] → GV p l e (headSpec wsX10_findsAll rmX10_findsAll).room s m ([.ref a0, .int p1] : List Value).toArray below meth c D S r H locs 0 0 0 0 (F0 m 190 ls []) := by
      intro n
      induction n with
      | zero => intro x12 S13 hi; cases hi
      | succ n ih65 =>
        intro x12 S13 hi H locs ls hH hl
        obtain ⟨q65_, hf, hq65⟩ := iter_s hi
        have hf : f_X10_findsAll_b190 a0 p1 x12 S13 = some q65_ := hf
        unfold f_X10_findsAll_b190 at hf
        refine lv_iload_n hx hb dX10_findsAll_190 rfl (lv_at hl 2 rfl) ?_
        refine lv_aload_n hx hb dX10_findsAll_191 rfl (lv_at hl 0 rfl) ?_
        obtain ⟨ek66, hf⟩ := oc hf
        refine r_getI hx hb 13 hts (fun w h => List.mem_cons_of_mem _ (mwsX100 w h)) hown hH ek66 (by decide) rfl 31 (by decide) rfl (hts (.fieldLink RX10 194 "HousestyleModel" "tokens" "I") (List.mem_cons_of_mem _ gw_34_8)) (fun _ h9 => h9) dX10_findsAll_192 ?_
        refine lv_icmp_ge (tgt := 256) hx hb dX10_findsAll_195 (by decide) (fun c67 => ?_) (fun c67 => ?_)
        · have hf := ip hf c67
          cases hf
          have hf9 := itR (K := (fun (v : PS) => k15 v)) hq65 hq65f
          exact Xk15 S13 _ _ ls hH (lv_sub hl [0, 1] rfl) hf9
        · have hf := iq hf c67
          refine lv_aload_n hx hb dX10_findsAll_198 rfl (lv_at hl 0 rfl) ?_
          obtain ⟨a68, e69, hf⟩ := ob hf
          refine r_getQ hx hb 13 hts (fun w h => List.mem_cons_of_mem _ (mwsX100 w h)) hown hH ek66 (by decide) rfl 34 (by decide) rfl (hts (.fieldLink RX10 96 "HousestyleModel" "isWord" "[Z") (List.mem_cons_of_mem _ gw_30_17)) (fun _ h9 => h9) dX10_findsAll_199 e69 ?_
          refine lv_iload_n hx hb dX10_findsAll_202 rfl (lv_at hl 2 rfl) ?_
          obtain ⟨ek70, hf⟩ := oc hf
          obtain ⟨ei71, hf⟩ := oc hf
          refine r_zald hx hb hH ek70 ei71 dX10_findsAll_203 ?_
          obtain ⟨j73, e76, hf⟩ := ol hf
          have Jj73 : ∀ (S72 : PS) (H : Heap) (locs : List Loc) (ls : Array Slot), HI D S S72 s H locs → lv_has ls 6 [(0, .ref a0), (1, .int p1), (2, .int x12)] → j73 S72 = some q65_ → GV p l e (headSpec wsX10_findsAll rmX10_findsAll).room s m ([.ref a0, .int p1] : List Value).toArray below meth c D S r H locs 0 0 0 0 (F0 m 250 ls []) := by
            intro S72 H locs ls hH hl hf
            rw [← e76] at hf
            obtain ⟨x74, e75, hf⟩ := ol hf
            refine lv_iinc (v := x74) (lv' := [(2, .int x74), (0, .ref a0), (1, .int p1)]) hx hb dX10_findsAll_250 hl (k := 2) rfl (by rw [← e75]; rfl) (by decide) rfl (fun ls hl => ?_)
            refine lv_goto (tgt := 190) hx hb dX10_findsAll_253 (by decide) ?_
            cases hf
            exact ih65 x74 S72 hq65 _ _ ls hH (lv_sub hl [1, 2, 0] rfl)
          refine lv_if_ne (tgt := 250) hx hb dX10_findsAll_204 (by decide) (fun c77 => ?_) (fun c77 => ?_)
          · have hf := iq hf c77
            exact Jj73 S13 _ _ ls hH (lv_sub hl [0, 1, 2] rfl) hf
          · have hf := ip hf c77
            refine lv_aload_n hx hb dX10_findsAll_207 rfl (lv_at hl 0 rfl) ?_
            refine lv_iload_n hx hb dX10_findsAll_208 rfl (lv_at hl 2 rfl) ?_
            obtain ⟨r78, e79, hf⟩ := ob hf
            refine r_callVi (As := [.int x12]) ⟨hx, hb, hml, hown, hts⟩ (c_X10_valueOf l D S13 a0 x12 r78 e79) (cwV 1 hts (gwV gw_35_20 gw_35_21 gw_35_22 gw_31_10 gw_34_17) rfl rfl rfl (by decide +kernel) ⟨Nat.le_of_ble_eq_true rfl, Nat.le_of_ble_eq_true rfl⟩) hH hNE 13 ek66 (by decide) rfl rfl rfl hl.1 rfl (Nat.le_of_ble_eq_true rfl) dX10_findsAll_209 ⟨(Nat.le_of_ble_eq_true rfl), (Nat.le_of_ble_eq_true rfl)⟩ (fun H locs hH => ?_)
            refine lv_aload_n hx hb dX10_findsAll_212 rfl (lv_at hl 0 rfl) ?_
            obtain ⟨a80, e81, hf⟩ := ob hf
            refine r_getQ hx hb 13 hts (fun w h => List.mem_cons_of_mem _ (mwsX100 w h)) hown hH ek66 (by decide) rfl 25 (by decide) rfl (hts (.fieldLink RX10 72 "HousestyleModel" "limits" "[I") (List.mem_cons_of_mem _ gw_30_9)) (fun _ h9 => h9) dX10_findsAll_213 e81 ?_
            refine lv_iload_n hx hb dX10_findsAll_216 rfl (lv_at hl 1 rfl) ?_
            obtain ⟨ek82, hf⟩ := oc hf
            obtain ⟨ei83, hf⟩ := oc hf
            refine r_iald hx hb hH ek82 ei83 dX10_findsAll_217 ?_
            refine lv_icmp_ge (tgt := 250) hx hb dX10_findsAll_218 (by decide) (fun c84 => ?_) (fun c84 => ?_)
            · have hf := ip hf c84
              exact Jj73 S13 _ _ ls hH (lv_sub hl [0, 1, 2] rfl) hf
            · have hf := iq hf c84
              refine lv_aload_n hx hb dX10_findsAll_221 rfl (lv_at hl 0 rfl) ?_
              refine lv_aload_n hx hb dX10_findsAll_222 rfl (lv_at hl 0 rfl) ?_
              obtain ⟨a85, e86, hf⟩ := ob hf
              refine r_getQ hx hb 13 hts (fun w h => List.mem_cons_of_mem _ (mwsX100 w h)) hown hH ek66 (by decide) rfl 32 (by decide) rfl (hts (.fieldLink RX10 90 "HousestyleModel" "from" "[I") (List.mem_cons_of_mem _ gw_30_15)) (fun _ h9 => h9) dX10_findsAll_223 e86 ?_
              refine lv_iload_n hx hb dX10_findsAll_226 rfl (lv_at hl 2 rfl) ?_
              obtain ⟨ek87, hf⟩ := oc hf
              obtain ⟨ei88, hf⟩ := oc hf
              refine r_iald hx hb hH ek87 ei88 dX10_findsAll_227 ?_
              refine lv_aload_n hx hb dX10_findsAll_228 rfl (lv_at hl 0 rfl) ?_
              obtain ⟨a89, e90, hf⟩ := ob hf
              refine r_getQ hx hb 13 hts (fun w h => List.mem_cons_of_mem _ (mwsX100 w h)) hown hH ek66 (by decide) rfl 33 (by decide) rfl (hts (.fieldLink RX10 93 "HousestyleModel" "to" "[I") (List.mem_cons_of_mem _ gw_30_16)) (fun _ h9 => h9) dX10_findsAll_229 e90 ?_
              refine lv_iload_n hx hb dX10_findsAll_232 rfl (lv_at hl 2 rfl) ?_
              obtain ⟨ek91, hf⟩ := oc hf
              obtain ⟨ei92, hf⟩ := oc hf
              refine r_iald hx hb hH ek91 ei92 dX10_findsAll_233 ?_
              obtain ⟨r93, e94, hf⟩ := ob hf
              refine r_callVi (As := [.int (kI S13 a85 x12.toNatClampNeg), .int (kI S13 a89 x12.toNatClampNeg)]) ⟨hx, hb, hml, hown, hts⟩ (c_X10_isAnyQuoted l D S13 a0 (kI S13 a85 x12.toNatClampNeg) (kI S13 a89 x12.toNatClampNeg) r93 e94) (cwV 2 hts (gwV gw_35_11 gw_35_12 gw_35_13 gw_31_10 gw_34_9) rfl rfl rfl (by decide +kernel) ⟨Nat.le_of_ble_eq_true rfl, Nat.le_of_ble_eq_true rfl⟩) hH hNE 13 ek66 (by decide) rfl rfl rfl hl.1 rfl (Nat.le_of_ble_eq_true rfl) dX10_findsAll_234 ⟨(Nat.le_of_ble_eq_true rfl), (Nat.le_of_ble_eq_true rfl)⟩ (fun H locs hH => ?_)
              refine lv_if_ne (tgt := 250) hx hb dX10_findsAll_237 (by decide) (fun c95 => ?_) (fun c95 => ?_)
              · have hf := iq hf c95
                exact Jj73 S13 _ _ ls hH (lv_sub hl [0, 1, 2] rfl) hf
              · have hf := ip hf c95
                refine lv_aload_n hx hb dX10_findsAll_240 rfl (lv_at hl 0 rfl) ?_
                refine lv_iload_n hx hb dX10_findsAll_241 rfl (lv_at hl 1 rfl) ?_
                refine lv_iload_n hx hb dX10_findsAll_242 rfl (lv_at hl 2 rfl) ?_
                refine lv_iload_n hx hb dX10_findsAll_243 rfl (lv_at hl 2 rfl) ?_
                refine lv_bipush (v := 20) hx hb dX10_findsAll_244 (by decide) ?_
                refine lv_iconst (v := 1) hx hb dX10_findsAll_246 (by decide) ?_
                obtain ⟨r96, e97, hf⟩ := ob hf
                refine r_callVv (As := [.int p1, .int x12, .int x12, .int 20, .int 1]) ⟨hx, hb, hml, hown, hts⟩ (c_X10_finds l D S13 a0 p1 x12 x12 20 1 r96 e97) (cwV 5 hts (gwV gw_35_17 gw_35_18 gw_35_19 gw_31_10 gw_34_20) rfl rfl rfl (by decide +kernel) ⟨Nat.le_of_ble_eq_true rfl, Nat.le_of_ble_eq_true rfl⟩) hH hNE 13 ek66 (by decide) rfl rfl rfl hl.1 rfl (Nat.le_of_ble_eq_true rfl) dX10_findsAll_247 ⟨(Nat.le_of_ble_eq_true rfl), (Nat.le_of_ble_eq_true rfl)⟩ (fun H locs hH => ?_)
                exact Jj73 r96 _ _ ls hH (lv_sub hl [0, 1, 2] rfl) hf
    exact Lo65 kF 0 S9 eo65 _ _ ls hH (lv_sub hl [1, 2, 0] rfl)
  obtain ⟨o98, eo98, hq98f⟩ := ob hf
  have Lo98 : ∀ (n : Nat) (x7 : Int32) (S8 : PS), iter (fun (v : Int32 × PS) => f_X10_findsAll_b11 a0 p1 v.1 v.2) n (x7, S8) = some o98 → ∀ (H : Heap) (locs : List Loc) (ls : Array Slot), HI D S S8 s H locs → lv_has ls 6 [(0, .ref a0), (1, .int p1), (2, .int x7)] → GV p l e (headSpec wsX10_findsAll rmX10_findsAll).room s m ([.ref a0, .int p1] : List Value).toArray below meth c D S r H locs 0 0 0 0 (F0 m 11 ls []) := by
    intro n
    induction n with
    | zero => intro x7 S8 hi; cases hi
    | succ n ih98 =>
      intro x7 S8 hi H locs ls hH hl
      obtain ⟨q98_, hf, hq98⟩ := iter_s hi
      have hf : f_X10_findsAll_b11 a0 p1 x7 S8 = some q98_ := hf
      unfold f_X10_findsAll_b11 at hf
      refine lv_iload_n hx hb dX10_findsAll_11 rfl (lv_at hl 2 rfl) ?_
      refine lv_aload_n hx hb dX10_findsAll_12 rfl (lv_at hl 0 rfl) ?_
      obtain ⟨ek99, hf⟩ := oc hf
      refine r_getI hx hb 13 hts (fun w h => List.mem_cons_of_mem _ (mwsX100 w h)) hown hH ek99 (by decide) rfl 6 (by decide) rfl (hts (.fieldLink RX10 135 "HousestyleModel" "rules" "I") (List.mem_cons_of_mem _ gw_31_15)) (fun _ h9 => h9) dX10_findsAll_13 ?_
      refine lv_icmp_ge (tgt := 188) hx hb dX10_findsAll_16 (by decide) (fun c100 => ?_) (fun c100 => ?_)
      · have hf := ip hf c100
        cases hf
        have hf9 := itR (K := (fun (v : PS) => k10 v)) hq98 hq98f
        exact Xk10 S8 _ _ ls hH (lv_sub hl [0, 1] rfl) hf9
      · have hf := iq hf c100
        refine lv_iconst (v := 0) hx hb dX10_findsAll_19 (by decide) ?_
        refine lv_istore_n (lv' := [(3, .int 0), (0, .ref a0), (1, .int p1), (2, .int x7)]) hx hb dX10_findsAll_20 rfl hl (by decide) rfl (fun ls hl => ?_)
        obtain ⟨k104, e105, hf⟩ := ol hf
        have Xk104 : ∀ (S103 : PS) (H : Heap) (locs : List Loc) (ls : Array Slot), HI D S S103 s H locs → lv_has ls 6 [(0, .ref a0), (1, .int p1), (2, .int x7)] → k104 S103 = some q98_ → GV p l e (headSpec wsX10_findsAll rmX10_findsAll).room s m ([.ref a0, .int p1] : List Value).toArray below meth c D S r H locs 0 0 0 0 (F0 m 182 ls []) := by
          intro S103 H locs ls hH hl hf
          rw [← e105] at hf
          obtain ⟨x106, e107, hf⟩ := ol hf
          refine lv_iinc (v := x106) (lv' := [(2, .int x106), (0, .ref a0), (1, .int p1)]) hx hb dX10_findsAll_182 hl (k := 2) rfl (by rw [← e107]; rfl) (by decide) rfl (fun ls hl => ?_)
          refine lv_goto (tgt := 11) hx hb dX10_findsAll_185 (by decide) ?_
          cases hf
          exact ih98 x106 S103 hq98 _ _ ls hH (lv_sub hl [1, 2, 0] rfl)
        obtain ⟨o108, eo108, hq108f⟩ := ob hf
        have Lo108 : ∀ (n : Nat) (x101 : Int32) (S102 : PS), iter (fun (v : Int32 × PS) => f_X10_findsAll_b21 a0 p1 x7 v.1 v.2) n (x101, S102) = some o108 → ∀ (H : Heap) (locs : List Loc) (ls : Array Slot), HI D S S102 s H locs → lv_has ls 6 [(0, .ref a0), (1, .int p1), (2, .int x7), (3, .int x101)] → GV p l e (headSpec wsX10_findsAll rmX10_findsAll).room s m ([.ref a0, .int p1] : List Value).toArray below meth c D S r H locs 0 0 0 0 (F0 m 21 ls []) := by
          intro n
          induction n with
          | zero => intro x101 S102 hi; cases hi
          | succ n ih108 =>
            intro x101 S102 hi H locs ls hH hl
            obtain ⟨q108_, hf, hq108⟩ := iter_s hi
            have hf : f_X10_findsAll_b21 a0 p1 x7 x101 S102 = some q108_ := hf
            unfold f_X10_findsAll_b21 at hf
            refine lv_iload_n hx hb dX10_findsAll_21 rfl (lv_at hl 3 rfl) ?_
            refine lv_aload_n hx hb dX10_findsAll_22 rfl (lv_at hl 0 rfl) ?_
            obtain ⟨ek109, hf⟩ := oc hf
            refine r_getI hx hb 13 hts (fun w h => List.mem_cons_of_mem _ (mwsX100 w h)) hown hH ek109 (by decide) rfl 31 (by decide) rfl (hts (.fieldLink RX10 194 "HousestyleModel" "tokens" "I") (List.mem_cons_of_mem _ gw_34_8)) (fun _ h9 => h9) dX10_findsAll_23 ?_
            refine lv_icmp_ge (tgt := 182) hx hb dX10_findsAll_26 (by decide) (fun c110 => ?_) (fun c110 => ?_)
            · have hf := ip hf c110
              cases hf
              have hf9 := itR (K := (fun (v : PS) => k104 v)) hq108 hq108f
              exact Xk104 S102 _ _ ls hH (lv_sub hl [0, 1, 2] rfl) hf9
            · have hf := iq hf c110
              refine lv_aload_n hx hb dX10_findsAll_29 rfl (lv_at hl 0 rfl) ?_
              obtain ⟨a111, e112, hf⟩ := ob hf
              refine r_getQ hx hb 13 hts (fun w h => List.mem_cons_of_mem _ (mwsX100 w h)) hown hH ek109 (by decide) rfl 23 (by decide) rfl (hts (.fieldLink RX10 66 "HousestyleModel" "isLeftOut" "[Z") (List.mem_cons_of_mem _ gw_30_7)) (fun _ h9 => h9) dX10_findsAll_30 e112 ?_
              refine lv_iload_n hx hb dX10_findsAll_33 rfl (lv_at hl 1 rfl) ?_
              refine lv_bipush (v := 12) hx hb dX10_findsAll_34 (by decide) ?_
              refine lv_imul hx hb dX10_findsAll_36 ?_
              refine lv_iload_n hx hb dX10_findsAll_37 rfl (lv_at hl 2 rfl) ?_
              refine lv_iadd hx hb dX10_findsAll_38 ?_
              obtain ⟨ek113, hf⟩ := oc hf
              obtain ⟨ei114, hf⟩ := oc hf
              refine r_zald hx hb hH ek113 ei114 dX10_findsAll_39 ?_
              refine lv_if_ne (tgt := 182) hx hb dX10_findsAll_40 (by decide) (fun c115 => ?_) (fun c115 => ?_)
              · have hf := iq hf c115
                cases hf
                have hf9 := itR (K := (fun (v : PS) => k104 v)) hq108 hq108f
                exact Xk104 S102 _ _ ls hH (lv_sub hl [0, 1, 2] rfl) hf9
              · have hf := ip hf c115
                refine lv_aload_n hx hb dX10_findsAll_43 rfl (lv_at hl 0 rfl) ?_
                refine lv_iload_n hx hb dX10_findsAll_44 rfl (lv_at hl 2 rfl) ?_
                refine lv_iload_n hx hb dX10_findsAll_45 rfl (lv_at hl 3 rfl) ?_
                obtain ⟨r116, e117, hf⟩ := ob hf
                refine r_callVi (As := [.int x7, .int x101]) ⟨hx, hb, hml, hown, hts⟩ (c_X10_isAt l D S102 a0 x7 x101 r116 e117) (cwV 2 hts (gwV gw_35_5 gw_35_6 gw_35_7 gw_31_10 gw_34_12) rfl rfl rfl (by decide +kernel) ⟨Nat.le_of_ble_eq_true rfl, Nat.le_of_ble_eq_true rfl⟩) hH hNE 13 ek109 (by decide) rfl rfl rfl hl.1 rfl (Nat.le_of_ble_eq_true rfl) dX10_findsAll_46 ⟨(Nat.le_of_ble_eq_true rfl), (Nat.le_of_ble_eq_true rfl)⟩ (fun H locs hH => ?_)
                obtain ⟨j119, e122, hf⟩ := ol hf
                have Jj119 : ∀ (S118 : PS) (H : Heap) (locs : List Loc) (ls : Array Slot), HI D S S118 s H locs → lv_has ls 6 [(0, .ref a0), (1, .int p1), (2, .int x7), (3, .int x101)] → j119 S118 = some q108_ → GV p l e (headSpec wsX10_findsAll rmX10_findsAll).room s m ([.ref a0, .int p1] : List Value).toArray below meth c D S r H locs 0 0 0 0 (F0 m 176 ls []) := by
                  intro S118 H locs ls hH hl hf
                  rw [← e122] at hf
                  obtain ⟨x120, e121, hf⟩ := ol hf
                  refine lv_iinc (v := x120) (lv' := [(3, .int x120), (0, .ref a0), (1, .int p1), (2, .int x7)]) hx hb dX10_findsAll_176 hl (k := 3) rfl (by rw [← e121]; rfl) (by decide) rfl (fun ls hl => ?_)
                  refine lv_goto (tgt := 21) hx hb dX10_findsAll_179 (by decide) ?_
                  cases hf
                  exact ih108 x120 S118 hq108 _ _ ls hH (lv_sub hl [1, 2, 3, 0] rfl)
                refine lv_if_eq (tgt := 176) hx hb dX10_findsAll_49 (by decide) (fun c123 => ?_) (fun c123 => ?_)
                · have hf := ip hf c123
                  exact Jj119 S102 _ _ ls hH (lv_sub hl [0, 1, 2, 3] rfl) hf
                · have hf := iq hf c123
                  refine lv_iload_n hx hb dX10_findsAll_52 rfl (lv_at hl 3 rfl) ?_
                  refine lv_aload_n hx hb dX10_findsAll_53 rfl (lv_at hl 0 rfl) ?_
                  obtain ⟨a124, e125, hf⟩ := ob hf
                  refine r_getQ hx hb 13 hts (fun w h => List.mem_cons_of_mem _ (mwsX100 w h)) hown hH ek109 (by decide) rfl 7 (by decide) rfl (hts (.fieldLink RX10 20 "HousestyleModel" "items" "[I") (List.mem_cons_of_mem _ gw_29_15)) (fun _ h9 => h9) dX10_findsAll_54 e125 ?_
                  refine lv_iload_n hx hb dX10_findsAll_57 rfl (lv_at hl 2 rfl) ?_
                  obtain ⟨ek126, hf⟩ := oc hf
                  obtain ⟨ei127, hf⟩ := oc hf
                  refine r_iald hx hb hH ek126 ei127 dX10_findsAll_58 ?_
                  refine lv_iadd hx hb dX10_findsAll_59 ?_
                  refine lv_iconst (v := 1) hx hb dX10_findsAll_60 (by decide) ?_
                  refine lv_isub hx hb dX10_findsAll_61 ?_
                  obtain ⟨x128, e129, hf⟩ := ol hf
                  refine lv_topE e129 ?_
                  refine lv_istore (lv' := [(4, .int x128), (0, .ref a0), (1, .int p1), (2, .int x7), (3, .int x101)]) hx hb dX10_findsAll_62 hl (by decide) rfl (fun ls hl => ?_)
                  refine lv_aload_n hx hb dX10_findsAll_64 rfl (lv_at hl 1 rfl) ?_
                  obtain ⟨a130, e131, hf⟩ := ob hf
                  refine r_getQ hx hb 13 hts (fun w h => List.mem_cons_of_mem _ (mwsX100 w h)) hown hH ek109 (by decide) rfl 11 (by decide) rfl (hts (.fieldLink RX10 32 "HousestyleModel" "conditions" "[C") (List.mem_cons_of_mem _ gw_29_19)) (fun _ h9 => h9) dX10_findsAll_65 e131 ?_
                  refine lv_iload_n hx hb dX10_findsAll_68 rfl (lv_at hl 3 rfl) ?_
                  obtain ⟨ek132, hf⟩ := oc hf
                  obtain ⟨ei133, hf⟩ := oc hf
                  refine r_cald hx hb hH ek132 ei133 dX10_findsAll_69 ?_
                  refine lv_bipush (v := 97) hx hb dX10_findsAll_70 (by decide) ?_
                  obtain ⟨j135, e170, hf⟩ := ol hf
                  have Jj135 : ∀ (x134 : Int32) (H : Heap) (locs : List Loc) (ls : Array Slot), HI D S S102 s H locs → lv_has ls 6 [(0, .ref a0), (1, .int p1), (2, .int x7), (3, .int x101), (4, .int x128)] → j135 x134 = some q108_ → GV p l e (headSpec wsX10_findsAll rmX10_findsAll).room s m ([.ref a0, .int p1] : List Value).toArray below meth c D S r H locs 0 0 0 0 (F0 m 104 ls [.int x134]) := by
                    intro x134 H locs ls hH hl hf
                    rw [← e170] at hf
                    refine lv_istore (lv' := [(5, .int x134), (0, .ref a0), (1, .int p1), (2, .int x7), (3, .int x101), (4, .int x128)]) hx hb dX10_findsAll_104 hl (by decide) rfl (fun ls hl => ?_)
                    refine lv_iload hx hb dX10_findsAll_106 (lv_at hl 0 rfl) ?_
                    obtain ⟨j137, e146, hf⟩ := ol hf
                    have Jj137 : ∀ (x136 : Int32) (H : Heap) (locs : List Loc) (ls : Array Slot), HI D S S102 s H locs → lv_has ls 6 [(0, .ref a0), (1, .int p1), (2, .int x7), (3, .int x101), (4, .int x128)] → j137 x136 = some q108_ → GV p l e (headSpec wsX10_findsAll rmX10_findsAll).room s m ([.ref a0, .int p1] : List Value).toArray below meth c D S r H locs 0 0 0 0 (F0 m 145 ls [.int x136]) := by
                      intro x136 H locs ls hH hl hf
                      rw [← e146] at hf
                      refine lv_istore (lv' := [(5, .int x136), (0, .ref a0), (1, .int p1), (2, .int x7), (3, .int x101), (4, .int x128)]) hx hb dX10_findsAll_145 hl (by decide) rfl (fun ls hl => ?_)
                      refine lv_iload hx hb dX10_findsAll_147 (lv_at hl 0 rfl) ?_
                      refine lv_if_eq (tgt := 176) hx hb dX10_findsAll_149 (by decide) (fun c138 => ?_) (fun c138 => ?_)
                      · have hf := ip hf c138
                        exact Jj119 S102 _ _ ls hH (lv_sub hl [1, 2, 3, 4] rfl) hf
                      · have hf := iq hf c138
                        refine lv_aload_n hx hb dX10_findsAll_152 rfl (lv_at hl 1 rfl) ?_
                        refine lv_iload_n hx hb dX10_findsAll_153 rfl (lv_at hl 3 rfl) ?_
                        refine lv_iload_n hx hb dX10_findsAll_154 rfl (lv_at hl 4 rfl) ?_
                        obtain ⟨r139, e140, hf⟩ := ob hf
                        refine r_callVi (As := [.int x7, .int x101]) ⟨hx, hb, hml, hown, hts⟩ (c_X10_isExcepted l D S102 a0 x7 x101 r139 e140) (cwV 2 hts (gwV gw_35_14 gw_35_15 gw_35_16 gw_31_10 gw_34_16) rfl rfl rfl (by decide +kernel) ⟨Nat.le_of_ble_eq_true rfl, Nat.le_of_ble_eq_true rfl⟩) hH hNE 13 ek109 (by decide) rfl rfl rfl hl.1 rfl (Nat.le_of_ble_eq_true rfl) dX10_findsAll_155 ⟨(Nat.le_of_ble_eq_true rfl), (Nat.le_of_ble_eq_true rfl)⟩ (fun H locs hH => ?_)
                        refine lv_if_ne (tgt := 176) hx hb dX10_findsAll_158 (by decide) (fun c141 => ?_) (fun c141 => ?_)
                        · have hf := iq hf c141
                          exact Jj119 S102 _ _ ls hH (lv_sub hl [1, 2, 3, 4] rfl) hf
                        · have hf := ip hf c141
                          refine lv_aload_n hx hb dX10_findsAll_161 rfl (lv_at hl 1 rfl) ?_
                          refine lv_iload_n hx hb dX10_findsAll_162 rfl (lv_at hl 2 rfl) ?_
                          refine lv_iload_n hx hb dX10_findsAll_163 rfl (lv_at hl 4 rfl) ?_
                          refine lv_iload hx hb dX10_findsAll_164 (lv_at hl 5 rfl) ?_
                          refine lv_iload_n hx hb dX10_findsAll_166 rfl (lv_at hl 3 rfl) ?_
                          refine lv_aload_n hx hb dX10_findsAll_167 rfl (lv_at hl 1 rfl) ?_
                          refine lv_iload_n hx hb dX10_findsAll_168 rfl (lv_at hl 2 rfl) ?_
                          refine lv_iload_n hx hb dX10_findsAll_169 rfl (lv_at hl 3 rfl) ?_
                          obtain ⟨r142, e143, hf⟩ := ob hf
                          refine r_callVi (As := [.int p1, .int x7]) ⟨hx, hb, hml, hown, hts⟩ (c_X10_rankAt l D S102 a0 p1 x7 r142 e143) (cwV 2 hts (gwV gw_34_3 gw_34_4 gw_34_5 gw_31_10 gw_34_1) rfl rfl rfl (by decide +kernel) ⟨Nat.le_of_ble_eq_true rfl, Nat.le_of_ble_eq_true rfl⟩) hH hNE 13 ek109 (by decide) rfl rfl rfl hl.1 rfl (Nat.le_of_ble_eq_true rfl) dX10_findsAll_170 ⟨(Nat.le_of_ble_eq_true rfl), (Nat.le_of_ble_eq_true rfl)⟩ (fun H locs hH => ?_)
                          obtain ⟨r144, e145, hf⟩ := ob hf
                          refine r_callVv (As := [.int p1, .int x101, .int x128, .int x7, .int r142]) ⟨hx, hb, hml, hown, hts⟩ (c_X10_finds l D S102 a0 p1 x101 x128 x7 r142 r144 e145) (cwV 5 hts (gwV gw_35_17 gw_35_18 gw_35_19 gw_31_10 gw_34_20) rfl rfl rfl (by decide +kernel) ⟨Nat.le_of_ble_eq_true rfl, Nat.le_of_ble_eq_true rfl⟩) hH hNE 13 ek109 (by decide) rfl rfl rfl hl.1 rfl (Nat.le_of_ble_eq_true rfl) dX10_findsAll_173 ⟨(Nat.le_of_ble_eq_true rfl), (Nat.le_of_ble_eq_true rfl)⟩ (fun H locs hH => ?_)
                          exact Jj119 r144 _ _ ls hH (lv_sub hl [1, 2, 3, 4] rfl) hf
                    obtain ⟨j147, e149, hf⟩ := ol hf
                    have Jj147 : ∀ (u148 : Unit) (H : Heap) (locs : List Loc) (ls : Array Slot), HI D S S102 s H locs → lv_has ls 6 [(0, .ref a0), (1, .int p1), (2, .int x7), (3, .int x101), (4, .int x128)] → j147 u148 = some q108_ → GV p l e (headSpec wsX10_findsAll rmX10_findsAll).room s m ([.ref a0, .int p1] : List Value).toArray below meth c D S r H locs 0 0 0 0 (F0 m 144 ls []) := by
                      intro u148 H locs ls hH hl hf
                      rw [← e149] at hf
                      refine lv_iconst (v := 0) hx hb dX10_findsAll_144 (by decide) ?_
                      exact Jj137 0 _ _ ls hH (lv_sub hl [0, 1, 2, 3, 4] rfl) hf
                    refine lv_if_eq (tgt := 144) hx hb dX10_findsAll_108 (by decide) (fun c150 => ?_) (fun c150 => ?_)
                    · have hf := ip hf c150
                      exact Jj147 () _ _ ls hH (lv_sub hl [1, 2, 3, 4, 5] rfl) hf
                    · have hf := iq hf c150
                      refine lv_aload_n hx hb dX10_findsAll_111 rfl (lv_at hl 1 rfl) ?_
                      obtain ⟨a151, e152, hf⟩ := ob hf
                      refine r_getQ hx hb 13 hts (fun w h => List.mem_cons_of_mem _ (mwsX100 w h)) hown hH ek109 (by decide) rfl 12 (by decide) rfl (hts (.fieldLink RX10 35 "HousestyleModel" "inQuotes" "[Z") (List.mem_cons_of_mem _ gw_29_21)) (fun _ h9 => h9) dX10_findsAll_112 e152 ?_
                      refine lv_iload_n hx hb dX10_findsAll_115 rfl (lv_at hl 3 rfl) ?_
                      obtain ⟨ek153, hf⟩ := oc hf
                      obtain ⟨ei154, hf⟩ := oc hf
                      refine r_zald hx hb hH ek153 ei154 dX10_findsAll_116 ?_
                      obtain ⟨j155, e157, hf⟩ := ol hf
                      have Jj155 : ∀ (u156 : Unit) (H : Heap) (locs : List Loc) (ls : Array Slot), HI D S S102 s H locs → lv_has ls 6 [(0, .ref a0), (1, .int p1), (2, .int x7), (3, .int x101), (4, .int x128)] → j155 u156 = some q108_ → GV p l e (headSpec wsX10_findsAll rmX10_findsAll).room s m ([.ref a0, .int p1] : List Value).toArray below meth c D S r H locs 0 0 0 0 (F0 m 140 ls []) := by
                        intro u156 H locs ls hH hl hf
                        rw [← e157] at hf
                        refine lv_iconst (v := 1) hx hb dX10_findsAll_140 (by decide) ?_
                        refine lv_goto (tgt := 145) hx hb dX10_findsAll_141 (by decide) ?_
                        exact Jj137 1 _ _ ls hH (lv_sub hl [0, 1, 2, 3, 4] rfl) hf
                      refine lv_if_ne (tgt := 140) hx hb dX10_findsAll_117 (by decide) (fun c158 => ?_) (fun c158 => ?_)
                      · have hf := iq hf c158
                        exact Jj155 () _ _ ls hH (lv_sub hl [1, 2, 3, 4, 5] rfl) hf
                      · have hf := ip hf c158
                        refine lv_aload_n hx hb dX10_findsAll_120 rfl (lv_at hl 1 rfl) ?_
                        refine lv_aload_n hx hb dX10_findsAll_121 rfl (lv_at hl 1 rfl) ?_
                        obtain ⟨a159, e160, hf⟩ := ob hf
                        refine r_getQ hx hb 13 hts (fun w h => List.mem_cons_of_mem _ (mwsX100 w h)) hown hH ek109 (by decide) rfl 32 (by decide) rfl (hts (.fieldLink RX10 90 "HousestyleModel" "from" "[I") (List.mem_cons_of_mem _ gw_30_15)) (fun _ h9 => h9) dX10_findsAll_122 e160 ?_
                        refine lv_iload_n hx hb dX10_findsAll_125 rfl (lv_at hl 4 rfl) ?_
                        obtain ⟨ek161, hf⟩ := oc hf
                        obtain ⟨ei162, hf⟩ := oc hf
                        refine r_iald hx hb hH ek161 ei162 dX10_findsAll_126 ?_
                        refine lv_aload_n hx hb dX10_findsAll_127 rfl (lv_at hl 1 rfl) ?_
                        obtain ⟨a163, e164, hf⟩ := ob hf
                        refine r_getQ hx hb 13 hts (fun w h => List.mem_cons_of_mem _ (mwsX100 w h)) hown hH ek109 (by decide) rfl 33 (by decide) rfl (hts (.fieldLink RX10 93 "HousestyleModel" "to" "[I") (List.mem_cons_of_mem _ gw_30_16)) (fun _ h9 => h9) dX10_findsAll_128 e164 ?_
                        refine lv_iload hx hb dX10_findsAll_131 (lv_at hl 5 rfl) ?_
                        obtain ⟨ek165, hf⟩ := oc hf
                        obtain ⟨ei166, hf⟩ := oc hf
                        refine r_iald hx hb hH ek165 ei166 dX10_findsAll_133 ?_
                        obtain ⟨r167, e168, hf⟩ := ob hf
                        refine r_callVi (As := [.int (kI S102 a159 x101.toNatClampNeg), .int (kI S102 a163 x128.toNatClampNeg)]) ⟨hx, hb, hml, hown, hts⟩ (c_X10_isAnyQuoted l D S102 a0 (kI S102 a159 x101.toNatClampNeg) (kI S102 a163 x128.toNatClampNeg) r167 e168) (cwV 2 hts (gwV gw_35_11 gw_35_12 gw_35_13 gw_31_10 gw_34_9) rfl rfl rfl (by decide +kernel) ⟨Nat.le_of_ble_eq_true rfl, Nat.le_of_ble_eq_true rfl⟩) hH hNE 13 ek109 (by decide) rfl rfl rfl hl.1 rfl (Nat.le_of_ble_eq_true rfl) dX10_findsAll_134 ⟨(Nat.le_of_ble_eq_true rfl), (Nat.le_of_ble_eq_true rfl)⟩ (fun H locs hH => ?_)
                        refine lv_if_ne (tgt := 144) hx hb dX10_findsAll_137 (by decide) (fun c169 => ?_) (fun c169 => ?_)
                        · have hf := iq hf c169
                          exact Jj147 () _ _ ls hH (lv_sub hl [1, 2, 3, 4, 5] rfl) hf
                        · have hf := ip hf c169
                          exact Jj155 () _ _ ls hH (lv_sub hl [1, 2, 3, 4, 5] rfl) hf
                  obtain ⟨j171, e173, hf⟩ := ol hf
                  have Jj171 : ∀ (u172 : Unit) (H : Heap) (locs : List Loc) (ls : Array Slot), HI D S S102 s H locs → lv_has ls 6 [(0, .ref a0), (1, .int p1), (2, .int x7), (3, .int x101), (4, .int x128)] → j171 u172 = some q108_ → GV p l e (headSpec wsX10_findsAll rmX10_findsAll).room s m ([.ref a0, .int p1] : List Value).toArray below meth c D S r H locs 0 0 0 0 (F0 m 99 ls []) := by
                    intro u172 H locs ls hH hl hf
                    rw [← e173] at hf
                    refine lv_iconst (v := 1) hx hb dX10_findsAll_99 (by decide) ?_
                    refine lv_goto (tgt := 104) hx hb dX10_findsAll_100 (by decide) ?_
                    exact Jj135 1 _ _ ls hH (lv_sub hl [0, 1, 2, 3, 4] rfl) hf
                  refine lv_icmp_eq (tgt := 99) hx hb dX10_findsAll_72 (by decide) (fun c174 => ?_) (fun c174 => ?_)
                  · have hf := ip hf c174
                    exact Jj171 () _ _ ls hH (lv_sub hl [1, 2, 3, 4, 0] rfl) hf
                  · have hf := iq hf c174
                    refine lv_aload_n hx hb dX10_findsAll_75 rfl (lv_at hl 1 rfl) ?_
                    refine lv_iload_n hx hb dX10_findsAll_76 rfl (lv_at hl 4 rfl) ?_
                    obtain ⟨r175, e176, hf⟩ := ob hf
                    refine r_callVi (As := [.int x101]) ⟨hx, hb, hml, hown, hts⟩ (c_X10_isFirstOfSentence l D S102 a0 x101 r175 e176) (cwV 1 hts (gwV gw_35_8 gw_35_9 gw_35_10 gw_31_10 gw_34_10) rfl rfl rfl (by decide +kernel) ⟨Nat.le_of_ble_eq_true rfl, Nat.le_of_ble_eq_true rfl⟩) hH hNE 13 ek109 (by decide) rfl rfl rfl hl.1 rfl (Nat.le_of_ble_eq_true rfl) dX10_findsAll_77 ⟨(Nat.le_of_ble_eq_true rfl), (Nat.le_of_ble_eq_true rfl)⟩ (fun H locs hH => ?_)
                    refine lv_aload_n hx hb dX10_findsAll_80 rfl (lv_at hl 1 rfl) ?_
                    refine r_getQ hx hb 13 hts (fun w h => List.mem_cons_of_mem _ (mwsX100 w h)) hown hH ek109 (by decide) rfl 11 (by decide) rfl (hts (.fieldLink RX10 32 "HousestyleModel" "conditions" "[C") (List.mem_cons_of_mem _ gw_29_19)) (fun _ h9 => h9) dX10_findsAll_81 e131 ?_
                    refine lv_iload_n hx hb dX10_findsAll_84 rfl (lv_at hl 3 rfl) ?_
                    obtain ⟨ei177, hf⟩ := oc hf
                    refine r_cald hx hb hH ek132 ei177 dX10_findsAll_85 ?_
                    refine lv_bipush (v := 115) hx hb dX10_findsAll_86 (by decide) ?_
                    obtain ⟨j179, e181, hf⟩ := ol hf
                    have Jj179 : ∀ (x178 : Int32) (H : Heap) (locs : List Loc) (ls : Array Slot), HI D S S102 s H locs → lv_has ls 6 [(0, .ref a0), (1, .int p1), (2, .int x7), (3, .int x101), (4, .int x128)] → j179 x178 = some q108_ → GV p l e (headSpec wsX10_findsAll rmX10_findsAll).room s m ([.ref a0, .int p1] : List Value).toArray below meth c D S r H locs 0 0 0 0 (F0 m 96 ls [.int x178, .int r175]) := by
                      intro x178 H locs ls hH hl hf
                      rw [← e181] at hf
                      refine lv_icmp_ne (tgt := 103) hx hb dX10_findsAll_96 (by decide) (fun c180 => ?_) (fun c180 => ?_)
                      · have hf := iq hf c180
                        refine lv_iconst (v := 0) hx hb dX10_findsAll_103 (by decide) ?_
                        exact Jj135 0 _ _ ls hH (lv_sub hl [0, 1, 2, 3, 4] rfl) hf
                      · have hf := ip hf c180
                        exact Jj171 () _ _ ls hH (lv_sub hl [0, 1, 2, 3, 4] rfl) hf
                    refine lv_icmp_ne (tgt := 95) hx hb dX10_findsAll_88 (by decide) (fun c182 => ?_) (fun c182 => ?_)
                    · have hf := iq hf c182
                      refine lv_iconst (v := 0) hx hb dX10_findsAll_95 (by decide) ?_
                      exact Jj179 0 _ _ ls hH (lv_sub hl [1, 2, 3, 4, 0] rfl) hf
                    · have hf := ip hf c182
                      refine lv_iconst (v := 1) hx hb dX10_findsAll_91 (by decide) ?_
                      refine lv_goto (tgt := 96) hx hb dX10_findsAll_92 (by decide) ?_
                      exact Jj179 1 _ _ ls hH (lv_sub hl [1, 2, 3, 4, 0] rfl) hf
        exact Lo108 kF 0 S8 eo108 _ _ ls hH (lv_sub hl [1, 2, 3, 0] rfl)
  exact Lo98 kF 0 S5 eo98 _ _ ls hH (lv_sub hl [1, 2, 0] rfl)
set_option maxRecDepth 100000 in
def f_X10_placeOf (S : PS) (a0 : Nat) (p1 : Int32) : Option (Int32) := if kK S a0 = 14 then ((kQ S a0 32).bind fun a2 => (kQ S a0 38).bind fun a4 => if kK S a4 = 101 then (if ¬ (p1 < 0 ∨ kN S a4 ≤ p1.toNatClampNeg) then (if kK S a2 = 101 then (if ¬ ((kI S a4 p1.toNatClampNeg) < 0 ∨ kN S a2 ≤ (kI S a4 p1.toNatClampNeg).toNatClampNeg) then (some (kI S a2 (kI S a4 p1.toNatClampNeg).toNatClampNeg)) else none) else none) else none) else none) else none
abbrev rmX10_placeOf : Room := { frames := 0, cells := 0, slots := 0, locals := 0 }
set_option maxHeartbeats 4000000 in
set_option maxRecDepth 100000 in
theorem c_X10_placeOf (l : Launch) (D : va_G × Nat) (S : PS) (a0 : Nat) (p1 : Int32) (r : Int32) (hf : f_X10_placeOf S a0 p1 = some r) : MI l D yX10_placeOf wsX10_placeOf rmX10_placeOf S [.ref a0, .int p1] S r 0 0 := by
  unfold f_X10_placeOf at hf
  refine Met.ofW (cc := cX10_placeOf) (maxL := 2) (ret := (some .int)) (by decide) rfl ?_
  intro p e s m args below meth c s₁ B hml hv
  obtain ⟨rfl, hH0, hNE⟩ := hv
  have hx := B.exec
  have hb := B.bytes
  have hr := B.returns
  have hts := atoms_spec (ws := wsX10_placeOf) B.pre
  have hown : s.vm.findClass RX10 = some m.cls := findClass_of_methodNamed B.named
  have hlocks := B.notSynchronized
  have hH : HI D S S s s.heap [] := HI.start hH0
  have hl := lv_entry ([.ref a0, .int p1]) (n := 2) (Nat.le_of_ble_eq_true rfl)
  rw [lg_entry_eq]
  generalize (lg_sl ([.ref a0, .int p1]) ++ List.replicate (2 - (lg_sl ([.ref a0, .int p1])).length) Slot.unset).toArray = ls at hl ⊢
  have hl : lv_has ls 2 [(0, .ref a0), (1, .int p1)] := hl
  refine lv_aload_n hx hb dX10_placeOf_0 rfl (lv_at hl 0 rfl) ?_
  obtain ⟨ek1, hf⟩ := oc hf
  obtain ⟨a2, e3, hf⟩ := ob hf
  refine r_getQ hx hb 13 hts (fun w h => List.mem_cons_of_mem _ (mwsX100 w h)) hown hH ek1 (by decide) rfl 32 (by decide) rfl (hts (.fieldLink RX10 90 "HousestyleModel" "from" "[I") (List.mem_cons_of_mem _ gw_30_15)) (fun _ h9 => h9) dX10_placeOf_1 e3 ?_
  refine lv_aload_n hx hb dX10_placeOf_4 rfl (lv_at hl 0 rfl) ?_
  obtain ⟨a4, e5, hf⟩ := ob hf
  refine r_getQ hx hb 13 hts (fun w h => List.mem_cons_of_mem _ (mwsX100 w h)) hown hH ek1 (by decide) rfl 38 (by decide) rfl (hts (.fieldLink RX10 105 "HousestyleModel" "foundToken" "[I") (List.mem_cons_of_mem _ gw_30_20)) (fun _ h9 => h9) dX10_placeOf_5 e5 ?_
  refine lv_iload_n hx hb dX10_placeOf_8 rfl (lv_at hl 1 rfl) ?_
  obtain ⟨ek6, hf⟩ := oc hf
  obtain ⟨ei7, hf⟩ := oc hf
  refine r_iald hx hb hH ek6 ei7 dX10_placeOf_9 ?_
  obtain ⟨ek8, hf⟩ := oc hf
  obtain ⟨ei9, hf⟩ := oc hf
  refine r_iald hx hb hH ek8 ei9 dX10_placeOf_10 ?_
  have hr9 := Option.some.inj hf
  subst hr9
  exact e_i hx hb hr hlocks hH dX10_placeOf_11
set_option maxRecDepth 100000 in
def f_X10_isAhead (S : PS) (a0 : Nat) (p1 : Int32) (p2 : Int32) : Option (Int32) := if kK S a0 = 14 then ((kQ S a0 41).bind fun a2 => if kK S a2 = 101 then (if ¬ (p1 < 0 ∨ kN S a2 ≤ p1.toNatClampNeg) then (if ¬ (p2 < 0 ∨ kN S a2 ≤ p2.toNatClampNeg) then (if (kI S a2 p1.toNatClampNeg) = (kI S a2 p2.toNatClampNeg) then ((f_X10_placeOf S a0 p1).bind fun r8 => (f_X10_placeOf S a0 p2).bind fun r10 => if r8 = r10 then ((kQ S a0 39).bind fun a13 => if kK S a13 = 101 then (if ¬ (p1 < 0 ∨ kN S a13 ≤ p1.toNatClampNeg) then (if ¬ (p2 < 0 ∨ kN S a13 ≤ p2.toNatClampNeg) then (if (kI S a13 p1.toNatClampNeg) = (kI S a13 p2.toNatClampNeg) then ((kQ S a0 40).bind fun a19 => if kK S a19 = 101 then (if ¬ (p1 < 0 ∨ kN S a19 ≤ p1.toNatClampNeg) then (if ¬ (p2 < 0 ∨ kN S a19 ≤ p2.toNatClampNeg) then (if (kI S a19 p2.toNatClampNeg) ≤ (kI S a19 p1.toNatClampNeg) then (some 0) else (some 1)) else none) else none) else none) else (if ¬ (p1 < 0 ∨ kN S a13 ≤ p1.toNatClampNeg) then (if ¬ (p2 < 0 ∨ kN S a13 ≤ p2.toNatClampNeg) then (if (kI S a13 p1.toNatClampNeg) ≤ (kI S a13 p2.toNatClampNeg) then (some 0) else (some 1)) else none) else none)) else none) else none) else none) else ((f_X10_placeOf S a0 p1).bind fun r28 => (f_X10_placeOf S a0 p2).bind fun r30 => if r30 ≤ r28 then (some 0) else (some 1))) else (if ¬ (p1 < 0 ∨ kN S a2 ≤ p1.toNatClampNeg) then (if ¬ (p2 < 0 ∨ kN S a2 ≤ p2.toNatClampNeg) then (if (kI S a2 p1.toNatClampNeg) ≤ (kI S a2 p2.toNatClampNeg) then (some 0) else (some 1)) else none) else none)) else none) else none) else none) else none
abbrev rmX10_isAhead : Room := { frames := 1, cells := 0, slots := 0, locals := 21 }
set_option maxHeartbeats 4000000 in
set_option maxRecDepth 100000 in
theorem c_X10_isAhead (l : Launch) (D : va_G × Nat) (S : PS) (a0 : Nat) (p1 : Int32) (p2 : Int32) (r : Int32) (hf : f_X10_isAhead S a0 p1 p2 = some r) : MI l D yX10_isAhead wsX10_isAhead rmX10_isAhead S [.ref a0, .int p1, .int p2] S r 0 0 := by
  unfold f_X10_isAhead at hf
  refine Met.ofW (cc := cX10_isAhead) (maxL := 3) (ret := (some .boolean)) (by decide) rfl ?_
  intro p e s m args below meth c s₁ B hml hv
  obtain ⟨rfl, hH0, hNE⟩ := hv
  have hx := B.exec
  have hb := B.bytes
  have hr := B.returns
  have hts := atoms_spec (ws := wsX10_isAhead) B.pre
  have hown : s.vm.findClass RX10 = some m.cls := findClass_of_methodNamed B.named
  have hlocks := B.notSynchronized
  have hH : HI D S S s s.heap [] := HI.start hH0
  have hl := lv_entry ([.ref a0, .int p1, .int p2]) (n := 3) (Nat.le_of_ble_eq_true rfl)
  rw [lg_entry_eq]
  generalize (lg_sl ([.ref a0, .int p1, .int p2]) ++ List.replicate (3 - (lg_sl ([.ref a0, .int p1, .int p2])).length) Slot.unset).toArray = ls at hl ⊢
  have hl : lv_has ls 3 [(0, .ref a0), (1, .int p1), (2, .int p2)] := hl
  refine lv_aload_n hx hb dX10_isAhead_0 rfl (lv_at hl 0 rfl) ?_
  obtain ⟨ek1, hf⟩ := oc hf
  obtain ⟨a2, e3, hf⟩ := ob hf
  refine r_getQ hx hb 13 hts (fun w h => List.mem_cons_of_mem _ (mwsX100 w h)) hown hH ek1 (by decide) rfl 41 (by decide) rfl (hts (.fieldLink RX10 114 "HousestyleModel" "foundRank" "[I") (List.mem_cons_of_mem _ gw_30_23)) (fun _ h9 => h9) dX10_isAhead_1 e3 ?_
  refine lv_iload_n hx hb dX10_isAhead_4 rfl (lv_at hl 1 rfl) ?_
  obtain ⟨ek4, hf⟩ := oc hf
  obtain ⟨ei5, hf⟩ := oc hf
  refine r_iald hx hb hH ek4 ei5 dX10_isAhead_5 ?_
  refine lv_aload_n hx hb dX10_isAhead_6 rfl (lv_at hl 0 rfl) ?_
  refine r_getQ hx hb 13 hts (fun w h => List.mem_cons_of_mem _ (mwsX100 w h)) hown hH ek1 (by decide) rfl 41 (by decide) rfl (hts (.fieldLink RX10 114 "HousestyleModel" "foundRank" "[I") (List.mem_cons_of_mem _ gw_30_23)) (fun _ h9 => h9) dX10_isAhead_7 e3 ?_
  refine lv_iload_n hx hb dX10_isAhead_10 rfl (lv_at hl 2 rfl) ?_
  obtain ⟨ei6, hf⟩ := oc hf
  refine r_iald hx hb hH ek4 ei6 dX10_isAhead_11 ?_
  refine lv_icmp_eq (tgt := 36) hx hb dX10_isAhead_12 (by decide) (fun c7 => ?_) (fun c7 => ?_)
  · have hf := ip hf c7
    refine lv_aload_n hx hb dX10_isAhead_36 rfl (lv_at hl 0 rfl) ?_
    refine lv_iload_n hx hb dX10_isAhead_37 rfl (lv_at hl 1 rfl) ?_
    obtain ⟨r8, e9, hf⟩ := ob hf
    refine r_callVi (As := [.int p1]) ⟨hx, hb, hml, hown, hts⟩ (c_X10_placeOf l D S a0 p1 r8 e9) (cwV 1 hts (gwV gw_36_4 gw_36_5 gw_36_6 gw_31_10 gw_36_2) rfl rfl rfl (by decide +kernel) ⟨Nat.le_of_ble_eq_true rfl, Nat.le_of_ble_eq_true rfl⟩) hH hNE 13 ek1 (by decide) rfl rfl rfl hl.1 rfl (Nat.le_of_ble_eq_true rfl) dX10_isAhead_38 ⟨(Nat.le_of_ble_eq_true rfl), (Nat.le_of_ble_eq_true rfl)⟩ (fun H locs hH => ?_)
    refine lv_aload_n hx hb dX10_isAhead_41 rfl (lv_at hl 0 rfl) ?_
    refine lv_iload_n hx hb dX10_isAhead_42 rfl (lv_at hl 2 rfl) ?_
    obtain ⟨r10, e11, hf⟩ := ob hf
    refine r_callVi (As := [.int p2]) ⟨hx, hb, hml, hown, hts⟩ (c_X10_placeOf l D S a0 p2 r10 e11) (cwV 1 hts (gwV gw_36_4 gw_36_5 gw_36_6 gw_31_10 gw_36_2) rfl rfl rfl (by decide +kernel) ⟨Nat.le_of_ble_eq_true rfl, Nat.le_of_ble_eq_true rfl⟩) hH hNE 13 ek1 (by decide) rfl rfl rfl hl.1 rfl (Nat.le_of_ble_eq_true rfl) dX10_isAhead_43 ⟨(Nat.le_of_ble_eq_true rfl), (Nat.le_of_ble_eq_true rfl)⟩ (fun H locs hH => ?_)
    refine lv_icmp_eq (tgt := 68) hx hb dX10_isAhead_46 (by decide) (fun c12 => ?_) (fun c12 => ?_)
    · have hf := ip hf c12
      refine lv_aload_n hx hb dX10_isAhead_68 rfl (lv_at hl 0 rfl) ?_
      obtain ⟨a13, e14, hf⟩ := ob hf
      refine r_getQ hx hb 13 hts (fun w h => List.mem_cons_of_mem _ (mwsX100 w h)) hown hH ek1 (by decide) rfl 39 (by decide) rfl (hts (.fieldLink RX10 108 "HousestyleModel" "foundTo" "[I") (List.mem_cons_of_mem _ gw_30_21)) (fun _ h9 => h9) dX10_isAhead_69 e14 ?_
      refine lv_iload_n hx hb dX10_isAhead_72 rfl (lv_at hl 1 rfl) ?_
      obtain ⟨ek15, hf⟩ := oc hf
      obtain ⟨ei16, hf⟩ := oc hf
      refine r_iald hx hb hH ek15 ei16 dX10_isAhead_73 ?_
      refine lv_aload_n hx hb dX10_isAhead_74 rfl (lv_at hl 0 rfl) ?_
      refine r_getQ hx hb 13 hts (fun w h => List.mem_cons_of_mem _ (mwsX100 w h)) hown hH ek1 (by decide) rfl 39 (by decide) rfl (hts (.fieldLink RX10 108 "HousestyleModel" "foundTo" "[I") (List.mem_cons_of_mem _ gw_30_21)) (fun _ h9 => h9) dX10_isAhead_75 e14 ?_
      refine lv_iload_n hx hb dX10_isAhead_78 rfl (lv_at hl 2 rfl) ?_
      obtain ⟨ei17, hf⟩ := oc hf
      refine r_iald hx hb hH ek15 ei17 dX10_isAhead_79 ?_
      refine lv_icmp_eq (tgt := 104) hx hb dX10_isAhead_80 (by decide) (fun c18 => ?_) (fun c18 => ?_)
      · have hf := ip hf c18
        refine lv_aload_n hx hb dX10_isAhead_104 rfl (lv_at hl 0 rfl) ?_
        obtain ⟨a19, e20, hf⟩ := ob hf
        refine r_getQ hx hb 13 hts (fun w h => List.mem_cons_of_mem _ (mwsX100 w h)) hown hH ek1 (by decide) rfl 40 (by decide) rfl (hts (.fieldLink RX10 111 "HousestyleModel" "foundRule" "[I") (List.mem_cons_of_mem _ gw_30_22)) (fun _ h9 => h9) dX10_isAhead_105 e20 ?_
        refine lv_iload_n hx hb dX10_isAhead_108 rfl (lv_at hl 1 rfl) ?_
        obtain ⟨ek21, hf⟩ := oc hf
        obtain ⟨ei22, hf⟩ := oc hf
        refine r_iald hx hb hH ek21 ei22 dX10_isAhead_109 ?_
        refine lv_aload_n hx hb dX10_isAhead_110 rfl (lv_at hl 0 rfl) ?_
        refine r_getQ hx hb 13 hts (fun w h => List.mem_cons_of_mem _ (mwsX100 w h)) hown hH ek1 (by decide) rfl 40 (by decide) rfl (hts (.fieldLink RX10 111 "HousestyleModel" "foundRule" "[I") (List.mem_cons_of_mem _ gw_30_22)) (fun _ h9 => h9) dX10_isAhead_111 e20 ?_
        refine lv_iload_n hx hb dX10_isAhead_114 rfl (lv_at hl 2 rfl) ?_
        obtain ⟨ei23, hf⟩ := oc hf
        refine r_iald hx hb hH ek21 ei23 dX10_isAhead_115 ?_
        refine lv_icmp_ge (tgt := 123) hx hb dX10_isAhead_116 (by decide) (fun c24 => ?_) (fun c24 => ?_)
        · have hf := ip hf c24
          refine lv_iconst (v := 0) hx hb dX10_isAhead_123 (by decide) ?_
          have hr9 := Option.some.inj hf
          subst hr9
          exact e_z (r := 0) hx hb hr hlocks rfl hH dX10_isAhead_124
        · have hf := iq hf c24
          refine lv_iconst (v := 1) hx hb dX10_isAhead_119 (by decide) ?_
          refine lv_goto (tgt := 124) hx hb dX10_isAhead_120 (by decide) ?_
          have hr9 := Option.some.inj hf
          subst hr9
          exact e_z (r := 1) hx hb hr hlocks rfl hH dX10_isAhead_124
      · have hf := iq hf c18
        refine lv_aload_n hx hb dX10_isAhead_83 rfl (lv_at hl 0 rfl) ?_
        refine r_getQ hx hb 13 hts (fun w h => List.mem_cons_of_mem _ (mwsX100 w h)) hown hH ek1 (by decide) rfl 39 (by decide) rfl (hts (.fieldLink RX10 108 "HousestyleModel" "foundTo" "[I") (List.mem_cons_of_mem _ gw_30_21)) (fun _ h9 => h9) dX10_isAhead_84 e14 ?_
        refine lv_iload_n hx hb dX10_isAhead_87 rfl (lv_at hl 1 rfl) ?_
        obtain ⟨ei25, hf⟩ := oc hf
        refine r_iald hx hb hH ek15 ei25 dX10_isAhead_88 ?_
        refine lv_aload_n hx hb dX10_isAhead_89 rfl (lv_at hl 0 rfl) ?_
        refine r_getQ hx hb 13 hts (fun w h => List.mem_cons_of_mem _ (mwsX100 w h)) hown hH ek1 (by decide) rfl 39 (by decide) rfl (hts (.fieldLink RX10 108 "HousestyleModel" "foundTo" "[I") (List.mem_cons_of_mem _ gw_30_21)) (fun _ h9 => h9) dX10_isAhead_90 e14 ?_
        refine lv_iload_n hx hb dX10_isAhead_93 rfl (lv_at hl 2 rfl) ?_
        obtain ⟨ei26, hf⟩ := oc hf
        refine r_iald hx hb hH ek15 ei26 dX10_isAhead_94 ?_
        refine lv_icmp_le (tgt := 102) hx hb dX10_isAhead_95 (by decide) (fun c27 => ?_) (fun c27 => ?_)
        · have hf := ip hf c27
          refine lv_iconst (v := 0) hx hb dX10_isAhead_102 (by decide) ?_
          have hr9 := Option.some.inj hf
          subst hr9
          exact e_z (r := 0) hx hb hr hlocks rfl hH dX10_isAhead_103
        · have hf := iq hf c27
          refine lv_iconst (v := 1) hx hb dX10_isAhead_98 (by decide) ?_
          refine lv_goto (tgt := 103) hx hb dX10_isAhead_99 (by decide) ?_
          have hr9 := Option.some.inj hf
          subst hr9
          exact e_z (r := 1) hx hb hr hlocks rfl hH dX10_isAhead_103
    · have hf := iq hf c12
      refine lv_aload_n hx hb dX10_isAhead_49 rfl (lv_at hl 0 rfl) ?_
      refine lv_iload_n hx hb dX10_isAhead_50 rfl (lv_at hl 1 rfl) ?_
      obtain ⟨r28, e29, hf⟩ := ob hf
      refine r_callVi (As := [.int p1]) ⟨hx, hb, hml, hown, hts⟩ (c_X10_placeOf l D S a0 p1 r28 e29) (cwV 1 hts (gwV gw_36_4 gw_36_5 gw_36_6 gw_31_10 gw_36_2) rfl rfl rfl (by decide +kernel) ⟨Nat.le_of_ble_eq_true rfl, Nat.le_of_ble_eq_true rfl⟩) hH hNE 13 ek1 (by decide) rfl rfl rfl hl.1 rfl (Nat.le_of_ble_eq_true rfl) dX10_isAhead_51 ⟨(Nat.le_of_ble_eq_true rfl), (Nat.le_of_ble_eq_true rfl)⟩ (fun H locs hH => ?_)
      refine lv_aload_n hx hb dX10_isAhead_54 rfl (lv_at hl 0 rfl) ?_
      refine lv_iload_n hx hb dX10_isAhead_55 rfl (lv_at hl 2 rfl) ?_
      obtain ⟨r30, e31, hf⟩ := ob hf
      refine r_callVi (As := [.int p2]) ⟨hx, hb, hml, hown, hts⟩ (c_X10_placeOf l D S a0 p2 r30 e31) (cwV 1 hts (gwV gw_36_4 gw_36_5 gw_36_6 gw_31_10 gw_36_2) rfl rfl rfl (by decide +kernel) ⟨Nat.le_of_ble_eq_true rfl, Nat.le_of_ble_eq_true rfl⟩) hH hNE 13 ek1 (by decide) rfl rfl rfl hl.1 rfl (Nat.le_of_ble_eq_true rfl) dX10_isAhead_56 ⟨(Nat.le_of_ble_eq_true rfl), (Nat.le_of_ble_eq_true rfl)⟩ (fun H locs hH => ?_)
      refine lv_icmp_ge (tgt := 66) hx hb dX10_isAhead_59 (by decide) (fun c32 => ?_) (fun c32 => ?_)
      · have hf := ip hf c32
        refine lv_iconst (v := 0) hx hb dX10_isAhead_66 (by decide) ?_
        have hr9 := Option.some.inj hf
        subst hr9
        exact e_z (r := 0) hx hb hr hlocks rfl hH dX10_isAhead_67
      · have hf := iq hf c32
        refine lv_iconst (v := 1) hx hb dX10_isAhead_62 (by decide) ?_
        refine lv_goto (tgt := 67) hx hb dX10_isAhead_63 (by decide) ?_
        have hr9 := Option.some.inj hf
        subst hr9
        exact e_z (r := 1) hx hb hr hlocks rfl hH dX10_isAhead_67
  · have hf := iq hf c7
    refine lv_aload_n hx hb dX10_isAhead_15 rfl (lv_at hl 0 rfl) ?_
    refine r_getQ hx hb 13 hts (fun w h => List.mem_cons_of_mem _ (mwsX100 w h)) hown hH ek1 (by decide) rfl 41 (by decide) rfl (hts (.fieldLink RX10 114 "HousestyleModel" "foundRank" "[I") (List.mem_cons_of_mem _ gw_30_23)) (fun _ h9 => h9) dX10_isAhead_16 e3 ?_
    refine lv_iload_n hx hb dX10_isAhead_19 rfl (lv_at hl 1 rfl) ?_
    obtain ⟨ei33, hf⟩ := oc hf
    refine r_iald hx hb hH ek4 ei33 dX10_isAhead_20 ?_
    refine lv_aload_n hx hb dX10_isAhead_21 rfl (lv_at hl 0 rfl) ?_
    refine r_getQ hx hb 13 hts (fun w h => List.mem_cons_of_mem _ (mwsX100 w h)) hown hH ek1 (by decide) rfl 41 (by decide) rfl (hts (.fieldLink RX10 114 "HousestyleModel" "foundRank" "[I") (List.mem_cons_of_mem _ gw_30_23)) (fun _ h9 => h9) dX10_isAhead_22 e3 ?_
    refine lv_iload_n hx hb dX10_isAhead_25 rfl (lv_at hl 2 rfl) ?_
    obtain ⟨ei34, hf⟩ := oc hf
    refine r_iald hx hb hH ek4 ei34 dX10_isAhead_26 ?_
    refine lv_icmp_le (tgt := 34) hx hb dX10_isAhead_27 (by decide) (fun c35 => ?_) (fun c35 => ?_)
    · have hf := ip hf c35
      refine lv_iconst (v := 0) hx hb dX10_isAhead_34 (by decide) ?_
      have hr9 := Option.some.inj hf
      subst hr9
      exact e_z (r := 0) hx hb hr hlocks rfl hH dX10_isAhead_35
    · have hf := iq hf c35
      refine lv_iconst (v := 1) hx hb dX10_isAhead_30 (by decide) ?_
      refine lv_goto (tgt := 35) hx hb dX10_isAhead_31 (by decide) ?_
      have hr9 := Option.some.inj hf
      subst hr9
      exact e_z (r := 1) hx hb hr hlocks rfl hH dX10_isAhead_35
set_option maxRecDepth 100000 in
def f_X10_isFree_b4 (a0 : Nat) (p1 : Int32) (S : PS) (x1 : Int32) (x2 : Int32) : Option ((Int32 × Int32) ⊕ ((Int32))) := if kK S a0 = 14 then (if (kI S a0 42) ≤ x2 then (some (.inr x1)) else (lt (fun (x10 : Int32) => lt (x2 + 1) fun x12 => some (.inl (x10, x12))) fun j11 => lt (fun (u16 : Unit) => j11 0) fun j15 => if x1 = 0 then (j15 ()) else ((kQ S a0 39).bind fun a19 => if kK S a19 = 101 then (if ¬ (p1 < 0 ∨ kN S a19 ≤ p1.toNatClampNeg) then ((kQ S a0 43).bind fun a23 => if kK S a23 = 101 then (if ¬ (x2 < 0 ∨ kN S a23 ≤ x2.toNatClampNeg) then ((f_X10_placeOf S a0 (kI S a23 x2.toNatClampNeg)).bind fun r27 => lt (fun (u30 : Unit) => j11 1) fun j29 => if (kI S a19 p1.toNatClampNeg) ≤ r27 then (j29 ()) else ((f_X10_placeOf S a0 p1).bind fun r33 => if ¬ (x2 < 0 ∨ kN S a23 ≤ x2.toNatClampNeg) then (if ¬ ((kI S a23 x2.toNatClampNeg) < 0 ∨ kN S a19 ≤ (kI S a23 x2.toNatClampNeg).toNatClampNeg) then (if r33 < (kI S a19 (kI S a23 x2.toNatClampNeg).toNatClampNeg) then (j15 ()) else (j29 ())) else none) else none)) else none) else none) else none) else none))) else none
set_option maxRecDepth 100000 in
def f_X10_isFree (S : PS) (a0 : Nat) (p1 : Int32) : Option (Int32) := lt (fun (x3 : Int32) => if x3 = 0 ∨ x3 = 1 then (some x3) else none) fun k4 => (iter (fun (v : Int32 × Int32) => f_X10_isFree_b4 a0 p1 S v.1 v.2) kF (1, 0)).bind (fun (v : Int32) => k4 v)
abbrev rmX10_isFree : Room := { frames := 1, cells := 0, slots := 0, locals := 21 }
set_option maxHeartbeats 4000000 in
set_option maxRecDepth 100000 in
theorem c_X10_isFree (l : Launch) (D : va_G × Nat) (S : PS) (a0 : Nat) (p1 : Int32) (r : Int32) (hf : f_X10_isFree S a0 p1 = some r) : MI l D yX10_isFree wsX10_isFree rmX10_isFree S [.ref a0, .int p1] S r 0 0 := by
  unfold f_X10_isFree at hf
  refine Met.ofW (cc := cX10_isFree) (maxL := 4) (ret := (some .boolean)) (by decide) rfl ?_
  intro p e s m args below meth c s₁ B hml hv
  obtain ⟨rfl, hH0, hNE⟩ := hv
  have hx := B.exec
  have hb := B.bytes
  have hr := B.returns
  have hts := atoms_spec (ws := wsX10_isFree) B.pre
  have hown : s.vm.findClass RX10 = some m.cls := findClass_of_methodNamed B.named
  have hlocks := B.notSynchronized
  have hH : HI D S S s s.heap [] := HI.start hH0
  have hl := lv_entry ([.ref a0, .int p1]) (n := 4) (Nat.le_of_ble_eq_true rfl)
  rw [lg_entry_eq]
  generalize (lg_sl ([.ref a0, .int p1]) ++ List.replicate (4 - (lg_sl ([.ref a0, .int p1])).length) Slot.unset).toArray = ls at hl ⊢
  have hl : lv_has ls 4 [(0, .ref a0), (1, .int p1)] := hl
  refine lv_iconst (v := 1) hx hb dX10_isFree_0 (by decide) ?_
  refine lv_istore_n (lv' := [(2, .int 1), (0, .ref a0), (1, .int p1)]) hx hb dX10_isFree_1 rfl hl (by decide) rfl (fun ls hl => ?_)
  refine lv_iconst (v := 0) hx hb dX10_isFree_2 (by decide) ?_
  refine lv_istore_n (lv' := [(3, .int 0), (2, .int 1), (0, .ref a0), (1, .int p1)]) hx hb dX10_isFree_3 rfl hl (by decide) rfl (fun ls hl => ?_)
  obtain ⟨k4, e5, hf⟩ := ol hf
  have Xk4 : ∀ (x3 : Int32) (H : Heap) (locs : List Loc) (ls : Array Slot), HI D S S s H locs → lv_has ls 4 [(2, .int x3)] → k4 x3 = some r → GI p l e (headSpec wsX10_isFree rmX10_isFree).room s m ([.ref a0, .int p1] : List Value).toArray below meth c D S S r H locs 0 0 0 0 (F0 m 66 ls []) := by
    intro x3 H locs ls hH hl hf
    rw [← e5] at hf
    refine lv_iload_n hx hb dX10_isFree_66 rfl (lv_at hl 0 rfl) ?_
    obtain ⟨en6, hf⟩ := oc hf
    have hr9 := Option.some.inj hf
    subst hr9
    exact e_z hx hb hr hlocks (nar_Z9 en6) hH dX10_isFree_67
  obtain ⟨o7, eo7, hq7f⟩ := ob hf
  have Lo7 : ∀ (n : Nat) (x1 : Int32) (x2 : Int32), iter (fun (v : Int32 × Int32) => f_X10_isFree_b4 a0 p1 S v.1 v.2) n (x1, x2) = some o7 → ∀ (H : Heap) (locs : List Loc) (ls : Array Slot), HI D S S s H locs → lv_has ls 4 [(0, .ref a0), (1, .int p1), (2, .int x1), (3, .int x2)] → GI p l e (headSpec wsX10_isFree rmX10_isFree).room s m ([.ref a0, .int p1] : List Value).toArray below meth c D S S r H locs 0 0 0 0 (F0 m 4 ls []) := by
    intro n
    induction n with
    | zero => intro x1 x2 hi; cases hi
    | succ n ih7 =>
      intro x1 x2 hi H locs ls hH hl
      obtain ⟨q7_, hf, hq7⟩ := iter_s hi
      have hf : f_X10_isFree_b4 a0 p1 S x1 x2 = some q7_ := hf
      unfold f_X10_isFree_b4 at hf
      refine lv_iload_n hx hb dX10_isFree_4 rfl (lv_at hl 3 rfl) ?_
      refine lv_aload_n hx hb dX10_isFree_5 rfl (lv_at hl 0 rfl) ?_
      obtain ⟨ek8, hf⟩ := oc hf
      refine r_getI hx hb 13 hts (fun w h => List.mem_cons_of_mem _ (mwsX100 w h)) hown hH ek8 (by decide) rfl 42 (by decide) rfl (hts (.fieldLink RX10 236 "HousestyleModel" "taken" "I") (List.mem_cons_of_mem _ gw_36_8)) (fun _ h9 => h9) dX10_isFree_6 ?_
      refine lv_icmp_ge (tgt := 66) hx hb dX10_isFree_9 (by decide) (fun c9 => ?_) (fun c9 => ?_)
      · have hf := ip hf c9
        cases hf
        have hf9 := itR (K := (fun (v : Int32) => k4 v)) hq7 hq7f
        exact Xk4 x1 _ _ ls hH (lv_sub hl [2] rfl) hf9
      · have hf := iq hf c9
        refine lv_iload_n hx hb dX10_isFree_12 rfl (lv_at hl 2 rfl) ?_
        obtain ⟨j11, e14, hf⟩ := ol hf
        have Jj11 : ∀ (x10 : Int32) (H : Heap) (locs : List Loc) (ls : Array Slot), HI D S S s H locs → lv_has ls 4 [(0, .ref a0), (1, .int p1), (3, .int x2)] → j11 x10 = some q7_ → GI p l e (headSpec wsX10_isFree rmX10_isFree).room s m ([.ref a0, .int p1] : List Value).toArray below meth c D S S r H locs 0 0 0 0 (F0 m 59 ls [.int x10]) := by
          intro x10 H locs ls hH hl hf
          rw [← e14] at hf
          refine lv_istore_n (lv' := [(2, .int x10), (0, .ref a0), (1, .int p1), (3, .int x2)]) hx hb dX10_isFree_59 rfl hl (by decide) rfl (fun ls hl => ?_)
          obtain ⟨x12, e13, hf⟩ := ol hf
          refine lv_iinc (v := x12) (lv' := [(3, .int x12), (2, .int x10), (0, .ref a0), (1, .int p1)]) hx hb dX10_isFree_60 hl (k := 3) rfl (by rw [← e13]; rfl) (by decide) rfl (fun ls hl => ?_)
          refine lv_goto (tgt := 4) hx hb dX10_isFree_63 (by decide) ?_
          cases hf
          exact ih7 x10 x12 hq7 _ _ ls hH (lv_sub hl [2, 3, 1, 0] rfl)
        obtain ⟨j15, e17, hf⟩ := ol hf
        have Jj15 : ∀ (u16 : Unit) (H : Heap) (locs : List Loc) (ls : Array Slot), HI D S S s H locs → lv_has ls 4 [(0, .ref a0), (1, .int p1), (3, .int x2)] → j15 u16 = some q7_ → GI p l e (headSpec wsX10_isFree rmX10_isFree).room s m ([.ref a0, .int p1] : List Value).toArray below meth c D S S r H locs 0 0 0 0 (F0 m 58 ls []) := by
          intro u16 H locs ls hH hl hf
          rw [← e17] at hf
          refine lv_iconst (v := 0) hx hb dX10_isFree_58 (by decide) ?_
          exact Jj11 0 _ _ ls hH (lv_sub hl [0, 1, 2] rfl) hf
        refine lv_if_eq (tgt := 58) hx hb dX10_isFree_13 (by decide) (fun c18 => ?_) (fun c18 => ?_)
        · have hf := ip hf c18
          exact Jj15 () _ _ ls hH (lv_sub hl [0, 1, 3] rfl) hf
        · have hf := iq hf c18
          refine lv_aload_n hx hb dX10_isFree_16 rfl (lv_at hl 0 rfl) ?_
          obtain ⟨a19, e20, hf⟩ := ob hf
          refine r_getQ hx hb 13 hts (fun w h => List.mem_cons_of_mem _ (mwsX100 w h)) hown hH ek8 (by decide) rfl 39 (by decide) rfl (hts (.fieldLink RX10 108 "HousestyleModel" "foundTo" "[I") (List.mem_cons_of_mem _ gw_30_21)) (fun _ h9 => h9) dX10_isFree_17 e20 ?_
          refine lv_iload_n hx hb dX10_isFree_20 rfl (lv_at hl 1 rfl) ?_
          obtain ⟨ek21, hf⟩ := oc hf
          obtain ⟨ei22, hf⟩ := oc hf
          refine r_iald hx hb hH ek21 ei22 dX10_isFree_21 ?_
          refine lv_aload_n hx hb dX10_isFree_22 rfl (lv_at hl 0 rfl) ?_
          refine lv_aload_n hx hb dX10_isFree_23 rfl (lv_at hl 0 rfl) ?_
          obtain ⟨a23, e24, hf⟩ := ob hf
          refine r_getQ hx hb 13 hts (fun w h => List.mem_cons_of_mem _ (mwsX100 w h)) hown hH ek8 (by decide) rfl 43 (by decide) rfl (hts (.fieldLink RX10 117 "HousestyleModel" "takes" "[I") (List.mem_cons_of_mem _ gw_31_0)) (fun _ h9 => h9) dX10_isFree_24 e24 ?_
          refine lv_iload_n hx hb dX10_isFree_27 rfl (lv_at hl 3 rfl) ?_
          obtain ⟨ek25, hf⟩ := oc hf
          obtain ⟨ei26, hf⟩ := oc hf
          refine r_iald hx hb hH ek25 ei26 dX10_isFree_28 ?_
          obtain ⟨r27, e28, hf⟩ := ob hf
          refine r_callVi (As := [.int (kI S a23 x2.toNatClampNeg)]) ⟨hx, hb, hml, hown, hts⟩ (c_X10_placeOf l D S a0 (kI S a23 x2.toNatClampNeg) r27 e28) (cwV 1 hts (gwV gw_36_4 gw_36_5 gw_36_6 gw_31_10 gw_36_2) rfl rfl rfl (by decide +kernel) ⟨Nat.le_of_ble_eq_true rfl, Nat.le_of_ble_eq_true rfl⟩) hH hNE 13 ek8 (by decide) rfl rfl rfl hl.1 rfl (Nat.le_of_ble_eq_true rfl) dX10_isFree_29 ⟨(Nat.le_of_ble_eq_true rfl), (Nat.le_of_ble_eq_true rfl)⟩ (fun H locs hH => ?_)
          obtain ⟨j29, e31, hf⟩ := ol hf
          have Jj29 : ∀ (u30 : Unit) (H : Heap) (locs : List Loc) (ls : Array Slot), HI D S S s H locs → lv_has ls 4 [(0, .ref a0), (1, .int p1), (3, .int x2)] → j29 u30 = some q7_ → GI p l e (headSpec wsX10_isFree rmX10_isFree).room s m ([.ref a0, .int p1] : List Value).toArray below meth c D S S r H locs 0 0 0 0 (F0 m 54 ls []) := by
            intro u30 H locs ls hH hl hf
            rw [← e31] at hf
            refine lv_iconst (v := 1) hx hb dX10_isFree_54 (by decide) ?_
            refine lv_goto (tgt := 59) hx hb dX10_isFree_55 (by decide) ?_
            exact Jj11 1 _ _ ls hH (lv_sub hl [0, 1, 2] rfl) hf
          refine lv_icmp_le (tgt := 54) hx hb dX10_isFree_32 (by decide) (fun c32 => ?_) (fun c32 => ?_)
          · have hf := ip hf c32
            exact Jj29 () _ _ ls hH (lv_sub hl [0, 1, 3] rfl) hf
          · have hf := iq hf c32
            refine lv_aload_n hx hb dX10_isFree_35 rfl (lv_at hl 0 rfl) ?_
            refine lv_iload_n hx hb dX10_isFree_36 rfl (lv_at hl 1 rfl) ?_
            obtain ⟨r33, e34, hf⟩ := ob hf
            refine r_callVi (As := [.int p1]) ⟨hx, hb, hml, hown, hts⟩ (c_X10_placeOf l D S a0 p1 r33 e34) (cwV 1 hts (gwV gw_36_4 gw_36_5 gw_36_6 gw_31_10 gw_36_2) rfl rfl rfl (by decide +kernel) ⟨Nat.le_of_ble_eq_true rfl, Nat.le_of_ble_eq_true rfl⟩) hH hNE 13 ek8 (by decide) rfl rfl rfl hl.1 rfl (Nat.le_of_ble_eq_true rfl) dX10_isFree_37 ⟨(Nat.le_of_ble_eq_true rfl), (Nat.le_of_ble_eq_true rfl)⟩ (fun H locs hH => ?_)
            refine lv_aload_n hx hb dX10_isFree_40 rfl (lv_at hl 0 rfl) ?_
            refine r_getQ hx hb 13 hts (fun w h => List.mem_cons_of_mem _ (mwsX100 w h)) hown hH ek8 (by decide) rfl 39 (by decide) rfl (hts (.fieldLink RX10 108 "HousestyleModel" "foundTo" "[I") (List.mem_cons_of_mem _ gw_30_21)) (fun _ h9 => h9) dX10_isFree_41 e20 ?_
            refine lv_aload_n hx hb dX10_isFree_44 rfl (lv_at hl 0 rfl) ?_
            refine r_getQ hx hb 13 hts (fun w h => List.mem_cons_of_mem _ (mwsX100 w h)) hown hH ek8 (by decide) rfl 43 (by decide) rfl (hts (.fieldLink RX10 117 "HousestyleModel" "takes" "[I") (List.mem_cons_of_mem _ gw_31_0)) (fun _ h9 => h9) dX10_isFree_45 e24 ?_
            refine lv_iload_n hx hb dX10_isFree_48 rfl (lv_at hl 3 rfl) ?_
            obtain ⟨ei35, hf⟩ := oc hf
            refine r_iald hx hb hH ek25 ei35 dX10_isFree_49 ?_
            obtain ⟨ei36, hf⟩ := oc hf
            refine r_iald hx hb hH ek21 ei36 dX10_isFree_50 ?_
            refine lv_icmp_lt (tgt := 58) hx hb dX10_isFree_51 (by decide) (fun c37 => ?_) (fun c37 => ?_)
            · have hf := ip hf c37
              exact Jj15 () _ _ ls hH (lv_sub hl [0, 1, 3] rfl) hf
            · have hf := iq hf c37
              exact Jj29 () _ _ ls hH (lv_sub hl [0, 1, 3] rfl) hf
  exact Lo7 kF 1 0 eo7 _ _ ls hH (lv_sub hl [2, 3, 1, 0] rfl)
set_option maxRecDepth 100000 in
def f_X10_look_b86 (a0 : Nat) (x16 : Int32) (x28 : Int32) (S29 : PS) : Option ((Int32 × PS) ⊕ ((Int32 × PS))) := if x28 ≤ 0 then (some (.inr (x28, S29))) else (if kK S29 a0 = 14 then ((kQ S29 a0 43).bind fun a47 => if kK S29 a47 = 101 then (if ¬ ((x28 - 1) < 0 ∨ kN S29 a47 ≤ (x28 - 1).toNatClampNeg) then ((f_X10_placeOf S29 a0 (kI S29 a47 (x28 - 1).toNatClampNeg)).bind fun r51 => (f_X10_placeOf S29 a0 x16).bind fun r53 => if r51 ≤ r53 then (some (.inr (x28, S29))) else (if ¬ ((x28 - 1) < 0 ∨ kN S29 a47 ≤ (x28 - 1).toNatClampNeg) then (if ¬ (x28 < 0 ∨ kN S29 a47 ≤ x28.toNatClampNeg) then (lt (wI S29 a47 x28.toNatClampNeg (kI S29 a47 (x28 - 1).toNatClampNeg)) fun S58 => lt (x28 + (-1)) fun x60 => some (.inl (x60, S58))) else none) else none)) else none) else none) else none)
set_option maxRecDepth 100000 in
def f_X10_look_b21 (a0 : Nat) (S8 : PS) (x14 : Int32) (x15 : Int32) : Option ((Int32 × Int32) ⊕ ((Int32))) := if kK S8 a0 = 14 then (if (kI S8 a0 37) ≤ x15 then (some (.inr x14)) else ((f_X10_isFree S8 a0 x15).bind fun r67 => lt (fun (x69 : Int32) => lt (x15 + 1) fun x71 => some (.inl (x69, x71))) fun j70 => lt (fun (u75 : Unit) => j70 x14) fun j74 => if r67 = 0 then (j74 ()) else (lt (fun (u79 : Unit) => j70 x15) fun j78 => if x14 < 0 then (j78 ()) else ((f_X10_isAhead S8 a0 x15 x14).bind fun r82 => if r82 = 0 then (j74 ()) else (j78 ()))))) else none
set_option maxRecDepth 100000 in
def f_X10_look_b12 (a0 : Nat) (x7 : Int32) (S8 : PS) : Option ((Int32 × PS) ⊕ ((PS))) := if x7 = 0 then (some (.inr S8)) else (lt (fun (x16 : Int32) => lt (fun (x19 : Int32) => lt (fun (S21 : PS) => some (.inl (x19, S21))) fun j22 => if x19 = 0 then (j22 S8) else (if kK S8 a0 = 14 then (lt (kI S8 a0 42) fun x26 => lt (fun (x30 : Int32) (S31 : PS) => if kK S31 a0 = 14 then ((kQ S31 a0 43).bind fun a35 => if kK S31 a35 = 101 then (if ¬ (x30 < 0 ∨ kN S31 a35 ≤ x30.toNatClampNeg) then (lt (wI S31 a35 x30.toNatClampNeg x16) fun S39 => if kK S39 a0 = 14 then (lt (wI S39 a0 42 ((kI S39 a0 42) + 1)) fun S42 => j22 S42) else none) else none) else none) else none) fun k32 => (iter (fun (v : Int32 × PS) => f_X10_look_b86 a0 x16 v.1 v.2) kF (x26, S8)).bind (fun (v : Int32 × PS) => k32 v.1 v.2)) else none)) fun j20 => if x16 < 0 then (j20 0) else (j20 1)) fun k17 => (iter (fun (v : Int32 × Int32) => f_X10_look_b21 a0 S8 v.1 v.2) kF ((-1), 0)).bind (fun (v : Int32) => k17 v))
set_option maxRecDepth 100000 in
def f_X10_look (S : PS) (a0 : Nat) (p1 : Int32) : Option (PS) := if kK S a0 = 14 then ((f_X10_findsAll S a0 p1).bind fun r2 => if kK r2 a0 = 14 then (lt (wI r2 a0 42 0) fun S5 => lt (fun (S9 : PS) => some S9) fun k10 => (iter (fun (v : Int32 × PS) => f_X10_look_b12 a0 v.1 v.2) kF (1, S5)).bind (fun (v : PS) => k10 v)) else none) else none
abbrev rmX10_look : Room := { frames := 3, cells := 0, slots := 0, locals := 76 }
set_option maxHeartbeats 4000000 in
set_option maxRecDepth 100000 in
theorem c_X10_look (l : Launch) (D : va_G × Nat) (S : PS) (a0 : Nat) (p1 : Int32) (r : PS) (hf : f_X10_look S a0 p1 = some r) : MV l D yX10_look wsX10_look rmX10_look S [.ref a0, .int p1] r 0 0 := by
  unfold f_X10_look at hf
  refine Met.ofW (cc := cX10_look) (maxL := 5) (ret := none) (by decide) rfl ?_
  intro p e s m args below meth c s₁ B hml hv
  obtain ⟨rfl, hH0, hNE⟩ := hv
  have hx := B.exec
  have hb := B.bytes
  have hr := B.returns
  have hts := atoms_spec (ws := wsX10_look) B.pre
  have hown : s.vm.findClass RX10 = some m.cls := findClass_of_methodNamed B.named
  have hlocks := B.notSynchronized
  have hH : HI D S S s s.heap [] := HI.start hH0
  have hl := lv_entry ([.ref a0, .int p1]) (n := 5) (Nat.le_of_ble_eq_true rfl)
  rw [lg_entry_eq]
  generalize (lg_sl ([.ref a0, .int p1]) ++ List.replicate (5 - (lg_sl ([.ref a0, .int p1])).length) Slot.unset).toArray = ls at hl ⊢
  have hl : lv_has ls 5 [(0, .ref a0), (1, .int p1)] := hl
  refine lv_aload_n hx hb dX10_look_0 rfl (lv_at hl 0 rfl) ?_
  refine lv_iload_n hx hb dX10_look_1 rfl (lv_at hl 1 rfl) ?_
  obtain ⟨ek1, hf⟩ := oc hf
  obtain ⟨r2, e3, hf⟩ := ob hf
  refine r_callVv (As := [.int p1]) ⟨hx, hb, hml, hown, hts⟩ (c_X10_findsAll l D S a0 p1 r2 e3) (cwV 1 hts (gwV gw_36_10 gw_36_11 gw_36_12 gw_31_10 gw_35_1) rfl rfl rfl (by decide +kernel) ⟨Nat.le_of_ble_eq_true rfl, Nat.le_of_ble_eq_true rfl⟩) hH hNE 13 ek1 (by decide) rfl rfl rfl hl.1 rfl (Nat.le_of_ble_eq_true rfl) dX10_look_2 ⟨(Nat.le_of_ble_eq_true rfl), (Nat.le_of_ble_eq_true rfl)⟩ (fun H locs hH => ?_)
  refine lv_aload_n hx hb dX10_look_5 rfl (lv_at hl 0 rfl) ?_
  refine lv_iconst (v := 0) hx hb dX10_look_6 (by decide) ?_
  obtain ⟨ek4, hf⟩ := oc hf
  refine r_putI hx hb 13 hts (fun w h => List.mem_cons_of_mem _ (mwsX100 w h)) tyX10 tyX10_ok nmX10 hown hH ek4 (by decide) rfl 42 (by decide) rfl (hts (.fieldLink RX10 236 "HousestyleModel" "taken" "I") (List.mem_cons_of_mem _ gw_36_8)) (fun _ h9 => h9) (Or.inl rfl) (ty := .int) (by decide +kernel) rfl rfl dX10_look_7 (fun H locs hH => ?_)
  obtain ⟨S5, e6, hf⟩ := ol hf
  rw [e6] at hH
  refine lv_iconst (v := 1) hx hb dX10_look_10 (by decide) ?_
  refine lv_istore_n (lv' := [(2, .int 1), (0, .ref a0), (1, .int p1)]) hx hb dX10_look_11 rfl hl (by decide) rfl (fun ls hl => ?_)
  obtain ⟨k10, e11, hf⟩ := ol hf
  have Xk10 : ∀ (S9 : PS) (H : Heap) (locs : List Loc) (ls : Array Slot), HI D S S9 s H locs → lv_has ls 5 [] → k10 S9 = some r → GV p l e (headSpec wsX10_look rmX10_look).room s m ([.ref a0, .int p1] : List Value).toArray below meth c D S r H locs 0 0 0 0 (F0 m 155 ls []) := by
    intro S9 H locs ls hH hl hf
    rw [← e11] at hf
    have hr9 := Option.some.inj hf
    subst hr9
    exact e_v hx hb hr hlocks hH dX10_look_155
  obtain ⟨o12, eo12, hq12f⟩ := ob hf
  have Lo12 : ∀ (n : Nat) (x7 : Int32) (S8 : PS), iter (fun (v : Int32 × PS) => f_X10_look_b12 a0 v.1 v.2) n (x7, S8) = some o12 → ∀ (H : Heap) (locs : List Loc) (ls : Array Slot), HI D S S8 s H locs → lv_has ls 5 [(0, .ref a0), (2, .int x7)] → GV p l e (headSpec wsX10_look rmX10_look).room s m ([.ref a0, .int p1] : List Value).toArray below meth c D S r H locs 0 0 0 0 (F0 m 12 ls []) := by
    intro n
    induction n with
    | zero => intro x7 S8 hi; cases hi
    | succ n ih12 =>
      intro x7 S8 hi H locs ls hH hl
      obtain ⟨q12_, hf, hq12⟩ := iter_s hi
      have hf : f_X10_look_b12 a0 x7 S8 = some q12_ := hf
      unfold f_X10_look_b12 at hf
      refine lv_iload_n hx hb dX10_look_12 rfl (lv_at hl 1 rfl) ?_
      refine lv_if_eq (tgt := 155) hx hb dX10_look_13 (by decide) (fun c13 => ?_) (fun c13 => ?_)
      · have hf := ip hf c13
        cases hf
        have hf9 := itR (K := (fun (v : PS) => k10 v)) hq12 hq12f
        exact Xk10 S8 _ _ ls hH (lv_sub hl [] rfl) hf9
      · have hf := iq hf c13
        refine lv_iconst (v := (-1)) hx hb dX10_look_16 (by decide) ?_
        refine lv_istore_n (lv' := [(3, .int (-1)), (0, .ref a0), (2, .int x7)]) hx hb dX10_look_17 rfl hl (by decide) rfl (fun ls hl => ?_)
        refine lv_iconst (v := 0) hx hb dX10_look_18 (by decide) ?_
        refine lv_istore (lv' := [(4, .int 0), (3, .int (-1)), (0, .ref a0), (2, .int x7)]) hx hb dX10_look_19 hl (by decide) rfl (fun ls hl => ?_)
        obtain ⟨k17, e18, hf⟩ := ol hf
        have Xk17 : ∀ (x16 : Int32) (H : Heap) (locs : List Loc) (ls : Array Slot), HI D S S8 s H locs → lv_has ls 5 [(0, .ref a0), (3, .int x16)] → k17 x16 = some q12_ → GV p l e (headSpec wsX10_look rmX10_look).room s m ([.ref a0, .int p1] : List Value).toArray below meth c D S r H locs 0 0 0 0 (F0 m 66 ls []) := by
          intro x16 H locs ls hH hl hf
          rw [← e18] at hf
          refine lv_iload_n hx hb dX10_look_66 rfl (lv_at hl 1 rfl) ?_
          obtain ⟨j20, e62, hf⟩ := ol hf
          have Jj20 : ∀ (x19 : Int32) (H : Heap) (locs : List Loc) (ls : Array Slot), HI D S S8 s H locs → lv_has ls 5 [(0, .ref a0), (3, .int x16)] → j20 x19 = some q12_ → GV p l e (headSpec wsX10_look rmX10_look).room s m ([.ref a0, .int p1] : List Value).toArray below meth c D S r H locs 0 0 0 0 (F0 m 75 ls [.int x19]) := by
            intro x19 H locs ls hH hl hf
            rw [← e62] at hf
            refine lv_istore_n (lv' := [(2, .int x19), (0, .ref a0), (3, .int x16)]) hx hb dX10_look_75 rfl hl (by decide) rfl (fun ls hl => ?_)
            refine lv_iload_n hx hb dX10_look_76 rfl (lv_at hl 0 rfl) ?_
            obtain ⟨j22, e23, hf⟩ := ol hf
            have Jj22 : ∀ (S21 : PS) (H : Heap) (locs : List Loc) (ls : Array Slot), HI D S S21 s H locs → lv_has ls 5 [(0, .ref a0), (2, .int x19)] → j22 S21 = some q12_ → GV p l e (headSpec wsX10_look rmX10_look).room s m ([.ref a0, .int p1] : List Value).toArray below meth c D S r H locs 0 0 0 0 (F0 m 152 ls []) := by
              intro S21 H locs ls hH hl hf
              rw [← e23] at hf
              refine lv_goto (tgt := 12) hx hb dX10_look_152 (by decide) ?_
              cases hf
              exact ih12 x19 S21 hq12 _ _ ls hH (lv_sub hl [0, 1] rfl)
            refine lv_if_eq (tgt := 152) hx hb dX10_look_77 (by decide) (fun c24 => ?_) (fun c24 => ?_)
            · have hf := ip hf c24
              exact Jj22 S8 _ _ ls hH (lv_sub hl [1, 0] rfl) hf
            · have hf := iq hf c24
              refine lv_aload_n hx hb dX10_look_80 rfl (lv_at hl 1 rfl) ?_
              obtain ⟨ek25, hf⟩ := oc hf
              refine r_getI hx hb 13 hts (fun w h => List.mem_cons_of_mem _ (mwsX100 w h)) hown hH ek25 (by decide) rfl 42 (by decide) rfl (hts (.fieldLink RX10 236 "HousestyleModel" "taken" "I") (List.mem_cons_of_mem _ gw_36_8)) (fun _ h9 => h9) dX10_look_81 ?_
              obtain ⟨x26, e27, hf⟩ := ol hf
              refine lv_topE e27 ?_
              refine lv_istore (lv' := [(4, .int x26), (2, .int x19), (0, .ref a0), (3, .int x16)]) hx hb dX10_look_84 hl (by decide) rfl (fun ls hl => ?_)
              obtain ⟨k32, e33, hf⟩ := ol hf
              have Xk32 : ∀ (x30 : Int32) (S31 : PS) (H : Heap) (locs : List Loc) (ls : Array Slot), HI D S S31 s H locs → lv_has ls 5 [(0, .ref a0), (2, .int x19), (3, .int x16), (4, .int x30)] → k32 x30 S31 = some q12_ → GV p l e (headSpec wsX10_look rmX10_look).room s m ([.ref a0, .int p1] : List Value).toArray below meth c D S r H locs 0 0 0 0 (F0 m 134 ls []) := by
                intro x30 S31 H locs ls hH hl hf
                rw [← e33] at hf
                refine lv_aload_n hx hb dX10_look_134 rfl (lv_at hl 0 rfl) ?_
                obtain ⟨ek34, hf⟩ := oc hf
                obtain ⟨a35, e36, hf⟩ := ob hf
                refine r_getQ hx hb 13 hts (fun w h => List.mem_cons_of_mem _ (mwsX100 w h)) hown hH ek34 (by decide) rfl 43 (by decide) rfl (hts (.fieldLink RX10 117 "HousestyleModel" "takes" "[I") (List.mem_cons_of_mem _ gw_31_0)) (fun _ h9 => h9) dX10_look_135 e36 ?_
                refine lv_iload hx hb dX10_look_138 (lv_at hl 3 rfl) ?_
                refine lv_iload_n hx hb dX10_look_140 rfl (lv_at hl 2 rfl) ?_
                obtain ⟨ek37, hf⟩ := oc hf
                obtain ⟨ei38, hf⟩ := oc hf
                refine r_iast hx hb hH ek37 ei38 dX10_look_141 (fun H locs hH => ?_)
                obtain ⟨S39, e40, hf⟩ := ol hf
                rw [e40] at hH
                refine lv_aload_n hx hb dX10_look_142 rfl (lv_at hl 0 rfl) ?_
                refine lv_dup hx hb dX10_look_143 rfl ?_
                obtain ⟨ek41, hf⟩ := oc hf
                refine r_getI hx hb 13 hts (fun w h => List.mem_cons_of_mem _ (mwsX100 w h)) hown hH ek41 (by decide) rfl 42 (by decide) rfl (hts (.fieldLink RX10 236 "HousestyleModel" "taken" "I") (List.mem_cons_of_mem _ gw_36_8)) (fun _ h9 => h9) dX10_look_144 ?_
                refine lv_iconst (v := 1) hx hb dX10_look_147 (by decide) ?_
                refine lv_iadd hx hb dX10_look_148 ?_
                refine r_putI hx hb 13 hts (fun w h => List.mem_cons_of_mem _ (mwsX100 w h)) tyX10 tyX10_ok nmX10 hown hH ek41 (by decide) rfl 42 (by decide) rfl (hts (.fieldLink RX10 236 "HousestyleModel" "taken" "I") (List.mem_cons_of_mem _ gw_36_8)) (fun _ h9 => h9) (Or.inl rfl) (ty := .int) (by decide +kernel) rfl rfl dX10_look_149 (fun H locs hH => ?_)
                obtain ⟨S42, e43, hf⟩ := ol hf
                rw [e43] at hH
                exact Jj22 S42 _ _ ls hH (lv_sub hl [0, 1] rfl) hf
              obtain ⟨o44, eo44, hq44f⟩ := ob hf
              have Lo44 : ∀ (n : Nat) (x28 : Int32) (S29 : PS), iter (fun (v : Int32 × PS) => f_X10_look_b86 a0 x16 v.1 v.2) n (x28, S29) = some o44 → ∀ (H : Heap) (locs : List Loc) (ls : Array Slot), HI D S S29 s H locs → lv_has ls 5 [(0, .ref a0), (2, .int x19), (3, .int x16), (4, .int x28)] → GV p l e (headSpec wsX10_look rmX10_look).room s m ([.ref a0, .int p1] : List Value).toArray below meth c D S r H locs 0 0 0 0 (F0 m 86 ls []) := by
                intro n
                induction n with
                | zero => intro x28 S29 hi; cases hi
                | succ n ih44 =>
                  intro x28 S29 hi H locs ls hH hl
                  obtain ⟨q44_, hf, hq44⟩ := iter_s hi
                  have hf : f_X10_look_b86 a0 x16 x28 S29 = some q44_ := hf
                  unfold f_X10_look_b86 at hf
                  refine lv_iload hx hb dX10_look_86 (lv_at hl 3 rfl) ?_
                  refine lv_if_le (tgt := 134) hx hb dX10_look_88 (by decide) (fun c45 => ?_) (fun c45 => ?_)
                  · have hf := ip hf c45
                    cases hf
                    have hf9 := itR (K := (fun (v : Int32 × PS) => k32 v.1 v.2)) hq44 hq44f
                    exact Xk32 x28 S29 _ _ ls hH (lv_sub hl [0, 1, 2, 3] rfl) hf9
                  · have hf := iq hf c45
                    refine lv_aload_n hx hb dX10_look_91 rfl (lv_at hl 0 rfl) ?_
                    refine lv_aload_n hx hb dX10_look_92 rfl (lv_at hl 0 rfl) ?_
                    obtain ⟨ek46, hf⟩ := oc hf
                    obtain ⟨a47, e48, hf⟩ := ob hf
                    refine r_getQ hx hb 13 hts (fun w h => List.mem_cons_of_mem _ (mwsX100 w h)) hown hH ek46 (by decide) rfl 43 (by decide) rfl (hts (.fieldLink RX10 117 "HousestyleModel" "takes" "[I") (List.mem_cons_of_mem _ gw_31_0)) (fun _ h9 => h9) dX10_look_93 e48 ?_
                    refine lv_iload hx hb dX10_look_96 (lv_at hl 3 rfl) ?_
                    refine lv_iconst (v := 1) hx hb dX10_look_98 (by decide) ?_
                    refine lv_isub hx hb dX10_look_99 ?_
                    obtain ⟨ek49, hf⟩ := oc hf
                    obtain ⟨ei50, hf⟩ := oc hf
                    refine r_iald hx hb hH ek49 ei50 dX10_look_100 ?_
                    obtain ⟨r51, e52, hf⟩ := ob hf
                    refine r_callVi (As := [.int (kI S29 a47 (x28 - 1).toNatClampNeg)]) ⟨hx, hb, hml, hown, hts⟩ (c_X10_placeOf l D S29 a0 (kI S29 a47 (x28 - 1).toNatClampNeg) r51 e52) (cwV 1 hts (gwV gw_36_4 gw_36_5 gw_36_6 gw_31_10 gw_36_2) rfl rfl rfl (by decide +kernel) ⟨Nat.le_of_ble_eq_true rfl, Nat.le_of_ble_eq_true rfl⟩) hH hNE 13 ek46 (by decide) rfl rfl rfl hl.1 rfl (Nat.le_of_ble_eq_true rfl) dX10_look_101 ⟨(Nat.le_of_ble_eq_true rfl), (Nat.le_of_ble_eq_true rfl)⟩ (fun H locs hH => ?_)
                    refine lv_aload_n hx hb dX10_look_104 rfl (lv_at hl 0 rfl) ?_
                    refine lv_iload_n hx hb dX10_look_105 rfl (lv_at hl 2 rfl) ?_
                    obtain ⟨r53, e54, hf⟩ := ob hf
                    refine r_callVi (As := [.int x16]) ⟨hx, hb, hml, hown, hts⟩ (c_X10_placeOf l D S29 a0 x16 r53 e54) (cwV 1 hts (gwV gw_36_4 gw_36_5 gw_36_6 gw_31_10 gw_36_2) rfl rfl rfl (by decide +kernel) ⟨Nat.le_of_ble_eq_true rfl, Nat.le_of_ble_eq_true rfl⟩) hH hNE 13 ek46 (by decide) rfl rfl rfl hl.1 rfl (Nat.le_of_ble_eq_true rfl) dX10_look_106 ⟨(Nat.le_of_ble_eq_true rfl), (Nat.le_of_ble_eq_true rfl)⟩ (fun H locs hH => ?_)
                    refine lv_icmp_le (tgt := 134) hx hb dX10_look_109 (by decide) (fun c55 => ?_) (fun c55 => ?_)
                    · have hf := ip hf c55
                      cases hf
                      have hf9 := itR (K := (fun (v : Int32 × PS) => k32 v.1 v.2)) hq44 hq44f
                      exact Xk32 x28 S29 _ _ ls hH (lv_sub hl [0, 1, 2, 3] rfl) hf9
                    · have hf := iq hf c55
                      refine lv_aload_n hx hb dX10_look_112 rfl (lv_at hl 0 rfl) ?_
                      refine r_getQ hx hb 13 hts (fun w h => List.mem_cons_of_mem _ (mwsX100 w h)) hown hH ek46 (by decide) rfl 43 (by decide) rfl (hts (.fieldLink RX10 117 "HousestyleModel" "takes" "[I") (List.mem_cons_of_mem _ gw_31_0)) (fun _ h9 => h9) dX10_look_113 e48 ?_
                      refine lv_iload hx hb dX10_look_116 (lv_at hl 3 rfl) ?_
                      refine lv_aload_n hx hb dX10_look_118 rfl (lv_at hl 0 rfl) ?_
                      refine r_getQ hx hb 13 hts (fun w h => List.mem_cons_of_mem _ (mwsX100 w h)) hown hH ek46 (by decide) rfl 43 (by decide) rfl (hts (.fieldLink RX10 117 "HousestyleModel" "takes" "[I") (List.mem_cons_of_mem _ gw_31_0)) (fun _ h9 => h9) dX10_look_119 e48 ?_
                      refine lv_iload hx hb dX10_look_122 (lv_at hl 3 rfl) ?_
                      refine lv_iconst (v := 1) hx hb dX10_look_124 (by decide) ?_
                      refine lv_isub hx hb dX10_look_125 ?_
                      obtain ⟨ei56, hf⟩ := oc hf
                      refine r_iald hx hb hH ek49 ei56 dX10_look_126 ?_
                      obtain ⟨ei57, hf⟩ := oc hf
                      refine r_iast hx hb hH ek49 ei57 dX10_look_127 (fun H locs hH => ?_)
                      obtain ⟨S58, e59, hf⟩ := ol hf
                      rw [e59] at hH
                      obtain ⟨x60, e61, hf⟩ := ol hf
                      refine lv_iinc (v := x60) (lv' := [(4, .int x60), (0, .ref a0), (2, .int x19), (3, .int x16)]) hx hb dX10_look_128 hl (k := 3) rfl (by rw [← e61]; rfl) (by decide) rfl (fun ls hl => ?_)
                      refine lv_goto (tgt := 86) hx hb dX10_look_131 (by decide) ?_
                      cases hf
                      exact ih44 x60 S58 hq44 _ _ ls hH (lv_sub hl [1, 2, 3, 0] rfl)
              exact Lo44 kF x26 S8 eo44 _ _ ls hH (lv_sub hl [2, 1, 3, 0] rfl)
          refine lv_if_lt (tgt := 74) hx hb dX10_look_67 (by decide) (fun c63 => ?_) (fun c63 => ?_)
          · have hf := ip hf c63
            refine lv_iconst (v := 0) hx hb dX10_look_74 (by decide) ?_
            exact Jj20 0 _ _ ls hH (lv_sub hl [0, 1] rfl) hf
          · have hf := iq hf c63
            refine lv_iconst (v := 1) hx hb dX10_look_70 (by decide) ?_
            refine lv_goto (tgt := 75) hx hb dX10_look_71 (by decide) ?_
            exact Jj20 1 _ _ ls hH (lv_sub hl [0, 1] rfl) hf
        obtain ⟨o64, eo64, hq64f⟩ := ob hf
        have Lo64 : ∀ (n : Nat) (x14 : Int32) (x15 : Int32), iter (fun (v : Int32 × Int32) => f_X10_look_b21 a0 S8 v.1 v.2) n (x14, x15) = some o64 → ∀ (H : Heap) (locs : List Loc) (ls : Array Slot), HI D S S8 s H locs → lv_has ls 5 [(0, .ref a0), (3, .int x14), (4, .int x15)] → GV p l e (headSpec wsX10_look rmX10_look).room s m ([.ref a0, .int p1] : List Value).toArray below meth c D S r H locs 0 0 0 0 (F0 m 21 ls []) := by
          intro n
          induction n with
          | zero => intro x14 x15 hi; cases hi
          | succ n ih64 =>
            intro x14 x15 hi H locs ls hH hl
            obtain ⟨q64_, hf, hq64⟩ := iter_s hi
            have hf : f_X10_look_b21 a0 S8 x14 x15 = some q64_ := hf
            unfold f_X10_look_b21 at hf
            refine lv_iload hx hb dX10_look_21 (lv_at hl 2 rfl) ?_
            refine lv_aload_n hx hb dX10_look_23 rfl (lv_at hl 0 rfl) ?_
            obtain ⟨ek65, hf⟩ := oc hf
            refine r_getI hx hb 13 hts (fun w h => List.mem_cons_of_mem _ (mwsX100 w h)) hown hH ek65 (by decide) rfl 37 (by decide) rfl (hts (.fieldLink RX10 205 "HousestyleModel" "found" "I") (List.mem_cons_of_mem _ gw_34_21)) (fun _ h9 => h9) dX10_look_24 ?_
            refine lv_icmp_ge (tgt := 66) hx hb dX10_look_27 (by decide) (fun c66 => ?_) (fun c66 => ?_)
            · have hf := ip hf c66
              cases hf
              have hf9 := itR (K := (fun (v : Int32) => k17 v)) hq64 hq64f
              exact Xk17 x14 _ _ ls hH (lv_sub hl [0, 1] rfl) hf9
            · have hf := iq hf c66
              refine lv_aload_n hx hb dX10_look_30 rfl (lv_at hl 0 rfl) ?_
              refine lv_iload hx hb dX10_look_31 (lv_at hl 2 rfl) ?_
              obtain ⟨r67, e68, hf⟩ := ob hf
              refine r_callVi (As := [.int x15]) ⟨hx, hb, hml, hown, hts⟩ (c_X10_isFree l D S8 a0 x15 r67 e68) (cwV 1 hts (gwV gw_36_13 gw_36_14 gw_36_15 gw_31_10 gw_36_7) rfl rfl rfl (by decide +kernel) ⟨Nat.le_of_ble_eq_true rfl, Nat.le_of_ble_eq_true rfl⟩) hH hNE 13 ek65 (by decide) rfl rfl rfl hl.1 rfl (Nat.le_of_ble_eq_true rfl) dX10_look_33 ⟨(Nat.le_of_ble_eq_true rfl), (Nat.le_of_ble_eq_true rfl)⟩ (fun H locs hH => ?_)
              obtain ⟨j70, e73, hf⟩ := ol hf
              have Jj70 : ∀ (x69 : Int32) (H : Heap) (locs : List Loc) (ls : Array Slot), HI D S S8 s H locs → lv_has ls 5 [(0, .ref a0), (4, .int x15)] → j70 x69 = some q64_ → GV p l e (headSpec wsX10_look rmX10_look).room s m ([.ref a0, .int p1] : List Value).toArray below meth c D S r H locs 0 0 0 0 (F0 m 59 ls [.int x69]) := by
                intro x69 H locs ls hH hl hf
                rw [← e73] at hf
                refine lv_istore_n (lv' := [(3, .int x69), (0, .ref a0), (4, .int x15)]) hx hb dX10_look_59 rfl hl (by decide) rfl (fun ls hl => ?_)
                obtain ⟨x71, e72, hf⟩ := ol hf
                refine lv_iinc (v := x71) (lv' := [(4, .int x71), (3, .int x69), (0, .ref a0)]) hx hb dX10_look_60 hl (k := 2) rfl (by rw [← e72]; rfl) (by decide) rfl (fun ls hl => ?_)
                refine lv_goto (tgt := 21) hx hb dX10_look_63 (by decide) ?_
                cases hf
                exact ih64 x69 x71 hq64 _ _ ls hH (lv_sub hl [2, 1, 0] rfl)
              obtain ⟨j74, e76, hf⟩ := ol hf
              have Jj74 : ∀ (u75 : Unit) (H : Heap) (locs : List Loc) (ls : Array Slot), HI D S S8 s H locs → lv_has ls 5 [(0, .ref a0), (3, .int x14), (4, .int x15)] → j74 u75 = some q64_ → GV p l e (headSpec wsX10_look rmX10_look).room s m ([.ref a0, .int p1] : List Value).toArray below meth c D S r H locs 0 0 0 0 (F0 m 58 ls []) := by
                intro u75 H locs ls hH hl hf
                rw [← e76] at hf
                refine lv_iload_n hx hb dX10_look_58 rfl (lv_at hl 1 rfl) ?_
                exact Jj70 x14 _ _ ls hH (lv_sub hl [0, 2] rfl) hf
              refine lv_if_eq (tgt := 58) hx hb dX10_look_36 (by decide) (fun c77 => ?_) (fun c77 => ?_)
              · have hf := ip hf c77
                exact Jj74 () _ _ ls hH (lv_sub hl [0, 1, 2] rfl) hf
              · have hf := iq hf c77
                refine lv_iload_n hx hb dX10_look_39 rfl (lv_at hl 1 rfl) ?_
                obtain ⟨j78, e80, hf⟩ := ol hf
                have Jj78 : ∀ (u79 : Unit) (H : Heap) (locs : List Loc) (ls : Array Slot), HI D S S8 s H locs → lv_has ls 5 [(0, .ref a0), (4, .int x15)] → j78 u79 = some q64_ → GV p l e (headSpec wsX10_look rmX10_look).room s m ([.ref a0, .int p1] : List Value).toArray below meth c D S r H locs 0 0 0 0 (F0 m 53 ls []) := by
                  intro u79 H locs ls hH hl hf
                  rw [← e80] at hf
                  refine lv_iload hx hb dX10_look_53 (lv_at hl 1 rfl) ?_
                  refine lv_goto (tgt := 59) hx hb dX10_look_55 (by decide) ?_
                  exact Jj70 x15 _ _ ls hH (lv_sub hl [0, 1] rfl) hf
                refine lv_if_lt (tgt := 53) hx hb dX10_look_40 (by decide) (fun c81 => ?_) (fun c81 => ?_)
                · have hf := ip hf c81
                  exact Jj78 () _ _ ls hH (lv_sub hl [0, 2] rfl) hf
                · have hf := iq hf c81
                  refine lv_aload_n hx hb dX10_look_43 rfl (lv_at hl 0 rfl) ?_
                  refine lv_iload hx hb dX10_look_44 (lv_at hl 2 rfl) ?_
                  refine lv_iload_n hx hb dX10_look_46 rfl (lv_at hl 1 rfl) ?_
                  obtain ⟨r82, e83, hf⟩ := ob hf
                  refine r_callVi (As := [.int x15, .int x14]) ⟨hx, hb, hml, hown, hts⟩ (c_X10_isAhead l D S8 a0 x15 x14 r82 e83) (cwV 2 hts (gwV gw_36_16 gw_36_17 gw_36_18 gw_31_10 gw_36_3) rfl rfl rfl (by decide +kernel) ⟨Nat.le_of_ble_eq_true rfl, Nat.le_of_ble_eq_true rfl⟩) hH hNE 13 ek65 (by decide) rfl rfl rfl hl.1 rfl (Nat.le_of_ble_eq_true rfl) dX10_look_47 ⟨(Nat.le_of_ble_eq_true rfl), (Nat.le_of_ble_eq_true rfl)⟩ (fun H locs hH => ?_)
                  refine lv_if_eq (tgt := 58) hx hb dX10_look_50 (by decide) (fun c84 => ?_) (fun c84 => ?_)
                  · have hf := ip hf c84
                    exact Jj74 () _ _ ls hH (lv_sub hl [0, 1, 2] rfl) hf
                  · have hf := iq hf c84
                    exact Jj78 () _ _ ls hH (lv_sub hl [0, 2] rfl) hf
        exact Lo64 kF (-1) 0 eo64 _ _ ls hH (lv_sub hl [2, 1, 0] rfl)
  exact Lo12 kF 1 S5 eo12 _ _ ls hH (lv_sub hl [1, 0] rfl)
set_option maxRecDepth 100000 in
def f_X10_findings (S : PS) (a0 : Nat) (p1 : Int32) : Option (PS × Int32) := if kK S a0 = 14 then ((f_X10_noDesk S a0 p1).bind fun r2 => lt r2.1 fun S4 => if r2.2 = 0 then (if kK S4 a0 = 14 then ((f_X10_look S4 a0 p1).bind fun r8 => if kK r8 a0 = 14 then (some (r8, (kI r8 a0 42))) else none) else none) else (some (S4, 0))) else none
abbrev rmX10_findings : Room := { frames := 4, cells := 0, slots := 0, locals := 100 }
set_option maxHeartbeats 4000000 in
set_option maxRecDepth 100000 in
theorem c_X10_findings (l : Launch) (D : va_G × Nat) (S : PS) (a0 : Nat) (p1 : Int32) (r : PS × Int32) (hf : f_X10_findings S a0 p1 = some r) : MI l D yX10_findings wsX10_findings rmX10_findings S [.ref a0, .int p1] r.1 r.2 0 0 := by
  unfold f_X10_findings at hf
  refine Met.ofW (cc := cX10_findings) (maxL := 2) (ret := (some .int)) (by decide) rfl ?_
  intro p e s m args below meth c s₁ B hml hv
  obtain ⟨rfl, hH0, hNE⟩ := hv
  have hx := B.exec
  have hb := B.bytes
  have hr := B.returns
  have hts := atoms_spec (ws := wsX10_findings) B.pre
  have hown : s.vm.findClass RX10 = some m.cls := findClass_of_methodNamed B.named
  have hlocks := B.notSynchronized
  have hH : HI D S S s s.heap [] := HI.start hH0
  have hl := lv_entry ([.ref a0, .int p1]) (n := 2) (Nat.le_of_ble_eq_true rfl)
  rw [lg_entry_eq]
  generalize (lg_sl ([.ref a0, .int p1]) ++ List.replicate (2 - (lg_sl ([.ref a0, .int p1])).length) Slot.unset).toArray = ls at hl ⊢
  have hl : lv_has ls 2 [(0, .ref a0), (1, .int p1)] := hl
  refine lv_aload_n hx hb dX10_findings_0 rfl (lv_at hl 0 rfl) ?_
  refine lv_iload_n hx hb dX10_findings_1 rfl (lv_at hl 1 rfl) ?_
  obtain ⟨ek1, hf⟩ := oc hf
  obtain ⟨r2, e3, hf⟩ := ob hf
  refine r_callVi (As := [.int p1]) ⟨hx, hb, hml, hown, hts⟩ (c_X10_noDesk l D S a0 p1 r2 e3) (cwV 1 hts (gwV gw_36_20 gw_36_21 gw_36_22 gw_31_10 gw_31_11) rfl rfl rfl (by decide +kernel) ⟨Nat.le_of_ble_eq_true rfl, Nat.le_of_ble_eq_true rfl⟩) hH hNE 13 ek1 (by decide) rfl rfl rfl hl.1 rfl (Nat.le_of_ble_eq_true rfl) dX10_findings_2 ⟨(Nat.le_of_ble_eq_true rfl), (Nat.le_of_ble_eq_true rfl)⟩ (fun H locs hH => ?_)
  obtain ⟨S4, e5, hf⟩ := ol hf
  rw [e5] at hH
  refine lv_if_eq (tgt := 10) hx hb dX10_findings_5 (by decide) (fun c6 => ?_) (fun c6 => ?_)
  · have hf := ip hf c6
    refine lv_aload_n hx hb dX10_findings_10 rfl (lv_at hl 0 rfl) ?_
    refine lv_iload_n hx hb dX10_findings_11 rfl (lv_at hl 1 rfl) ?_
    obtain ⟨ek7, hf⟩ := oc hf
    obtain ⟨r8, e9, hf⟩ := ob hf
    refine r_callVv (As := [.int p1]) ⟨hx, hb, hml, hown, hts⟩ (c_X10_look l D S4 a0 p1 r8 e9) (cwV 1 hts (gwV gw_36_23 gw_37_0 gw_37_1 gw_31_10 gw_36_9) rfl rfl rfl (by decide +kernel) ⟨Nat.le_of_ble_eq_true rfl, Nat.le_of_ble_eq_true rfl⟩) hH hNE 13 ek7 (by decide) rfl rfl rfl hl.1 rfl (Nat.le_of_ble_eq_true rfl) dX10_findings_12 ⟨(Nat.le_of_ble_eq_true rfl), (Nat.le_of_ble_eq_true rfl)⟩ (fun H locs hH => ?_)
    refine lv_aload_n hx hb dX10_findings_15 rfl (lv_at hl 0 rfl) ?_
    obtain ⟨ek10, hf⟩ := oc hf
    refine r_getI hx hb 13 hts (fun w h => List.mem_cons_of_mem _ (mwsX100 w h)) hown hH ek10 (by decide) rfl 42 (by decide) rfl (hts (.fieldLink RX10 236 "HousestyleModel" "taken" "I") (List.mem_cons_of_mem _ gw_36_8)) (fun _ h9 => h9) dX10_findings_16 ?_
    have hr9 := Option.some.inj hf
    subst hr9
    exact e_i hx hb hr hlocks hH dX10_findings_19
  · have hf := iq hf c6
    refine lv_iconst (v := 0) hx hb dX10_findings_8 (by decide) ?_
    have hr9 := Option.some.inj hf
    subst hr9
    exact e_i hx hb hr hlocks hH dX10_findings_9
set_option maxRecDepth 100000 in
def f_X10_suggestionsOf (S : PS) (a0 : Nat) (p1 : Int32) : Option (Int32) := if kK S a0 = 14 then ((kQ S a0 40).bind fun a2 => if kK S a2 = 101 then (if ¬ (p1 < 0 ∨ kN S a2 ≤ p1.toNatClampNeg) then (lt (kI S a2 p1.toNatClampNeg) fun x6 => if x6 = (20 : Int32) then (some 0) else (if x6 < (12 : Int32) then ((kQ S a0 17).bind fun a10 => if kK S a10 = 101 then (if ¬ (x6 < 0 ∨ kN S a10 ≤ x6.toNatClampNeg) then (some (kI S a10 x6.toNatClampNeg)) else none) else none) else (some 1))) else none) else none) else none
abbrev rmX10_suggestionsOf : Room := { frames := 0, cells := 0, slots := 0, locals := 0 }
set_option maxHeartbeats 4000000 in
set_option maxRecDepth 100000 in
theorem c_X10_suggestionsOf (l : Launch) (D : va_G × Nat) (S : PS) (a0 : Nat) (p1 : Int32) (r : Int32) (hf : f_X10_suggestionsOf S a0 p1 = some r) : MI l D yX10_suggestionsOf wsX10_suggestionsOf rmX10_suggestionsOf S [.ref a0, .int p1] S r 0 0 := by
  unfold f_X10_suggestionsOf at hf
  refine Met.ofW (cc := cX10_suggestionsOf) (maxL := 3) (ret := (some .int)) (by decide) rfl ?_
  intro p e s m args below meth c s₁ B hml hv
  obtain ⟨rfl, hH0, hNE⟩ := hv
  have hx := B.exec
  have hb := B.bytes
  have hr := B.returns
  have hts := atoms_spec (ws := wsX10_suggestionsOf) B.pre
  have hown : s.vm.findClass RX10 = some m.cls := findClass_of_methodNamed B.named
  have hlocks := B.notSynchronized
  have hH : HI D S S s s.heap [] := HI.start hH0
  have hl := lv_entry ([.ref a0, .int p1]) (n := 3) (Nat.le_of_ble_eq_true rfl)
  rw [lg_entry_eq]
  generalize (lg_sl ([.ref a0, .int p1]) ++ List.replicate (3 - (lg_sl ([.ref a0, .int p1])).length) Slot.unset).toArray = ls at hl ⊢
  have hl : lv_has ls 3 [(0, .ref a0), (1, .int p1)] := hl
  refine lv_aload_n hx hb dX10_suggestionsOf_0 rfl (lv_at hl 0 rfl) ?_
  obtain ⟨ek1, hf⟩ := oc hf
  obtain ⟨a2, e3, hf⟩ := ob hf
  refine r_getQ hx hb 13 hts (fun w h => List.mem_cons_of_mem _ (mwsX100 w h)) hown hH ek1 (by decide) rfl 40 (by decide) rfl (hts (.fieldLink RX10 111 "HousestyleModel" "foundRule" "[I") (List.mem_cons_of_mem _ gw_30_22)) (fun _ h9 => h9) dX10_suggestionsOf_1 e3 ?_
  refine lv_iload_n hx hb dX10_suggestionsOf_4 rfl (lv_at hl 1 rfl) ?_
  obtain ⟨ek4, hf⟩ := oc hf
  obtain ⟨ei5, hf⟩ := oc hf
  refine r_iald hx hb hH ek4 ei5 dX10_suggestionsOf_5 ?_
  obtain ⟨x6, e7, hf⟩ := ol hf
  refine lv_topE e7 ?_
  refine lv_istore_n (lv' := [(2, .int x6), (0, .ref a0), (1, .int p1)]) hx hb dX10_suggestionsOf_6 rfl hl (by decide) rfl (fun ls hl => ?_)
  refine lv_iload_n hx hb dX10_suggestionsOf_7 rfl (lv_at hl 0 rfl) ?_
  refine lv_bipush (v := 20) hx hb dX10_suggestionsOf_8 (by decide) ?_
  refine lv_icmp_ne (tgt := 17) hx hb dX10_suggestionsOf_10 (by decide) (fun c8 => ?_) (fun c8 => ?_)
  · have hf := iq hf c8
    refine lv_iload_n hx hb dX10_suggestionsOf_17 rfl (lv_at hl 0 rfl) ?_
    refine lv_bipush (v := 12) hx hb dX10_suggestionsOf_18 (by decide) ?_
    refine lv_icmp_lt (tgt := 27) hx hb dX10_suggestionsOf_20 (by decide) (fun c9 => ?_) (fun c9 => ?_)
    · have hf := ip hf c9
      refine lv_aload_n hx hb dX10_suggestionsOf_27 rfl (lv_at hl 1 rfl) ?_
      obtain ⟨a10, e11, hf⟩ := ob hf
      refine r_getQ hx hb 13 hts (fun w h => List.mem_cons_of_mem _ (mwsX100 w h)) hown hH ek1 (by decide) rfl 17 (by decide) rfl (hts (.fieldLink RX10 51 "HousestyleModel" "suggestions" "[I") (List.mem_cons_of_mem _ gw_30_2)) (fun _ h9 => h9) dX10_suggestionsOf_28 e11 ?_
      refine lv_iload_n hx hb dX10_suggestionsOf_31 rfl (lv_at hl 0 rfl) ?_
      obtain ⟨ek12, hf⟩ := oc hf
      obtain ⟨ei13, hf⟩ := oc hf
      refine r_iald hx hb hH ek12 ei13 dX10_suggestionsOf_32 ?_
      have hr9 := Option.some.inj hf
      subst hr9
      exact e_i hx hb hr hlocks hH dX10_suggestionsOf_33
    · have hf := iq hf c9
      refine lv_iconst (v := 1) hx hb dX10_suggestionsOf_23 (by decide) ?_
      refine lv_goto (tgt := 33) hx hb dX10_suggestionsOf_24 (by decide) ?_
      have hr9 := Option.some.inj hf
      subst hr9
      exact e_i hx hb hr hlocks hH dX10_suggestionsOf_33
  · have hf := ip hf c8
    refine lv_iconst (v := 0) hx hb dX10_suggestionsOf_13 (by decide) ?_
    refine lv_goto (tgt := 33) hx hb dX10_suggestionsOf_14 (by decide) ?_
    have hr9 := Option.some.inj hf
    subst hr9
    exact e_i hx hb hr hlocks hH dX10_suggestionsOf_33
set_option maxRecDepth 100000 in
def f_X10_isThing (S : PS) (p0 : Int32) : Option (Int32) := lt (fun (u2 : Unit) => some 1) fun j1 => if p0 = (102 : Int32) then (j1 ()) else (if p0 = (108 : Int32) then (j1 ()) else (if p0 = (114 : Int32) then (j1 ()) else (if p0 = (107 : Int32) then (j1 ()) else (if p0 = (119 : Int32) then (j1 ()) else (if p0 = (115 : Int32) then (j1 ()) else (some 0))))))
abbrev rmX10_isThing : Room := { frames := 0, cells := 0, slots := 0, locals := 0 }
set_option maxHeartbeats 4000000 in
set_option maxRecDepth 100000 in
theorem c_X10_isThing (l : Launch) (D : va_G × Nat) (S : PS) (p0 : Int32) (r : Int32) (hf : f_X10_isThing S p0 = some r) : MI l D yX10_isThing wsX10_isThing rmX10_isThing S [.int p0] S r 0 0 := by
  unfold f_X10_isThing at hf
  refine Met.ofW (cc := cX10_isThing) (maxL := 1) (ret := (some .boolean)) (by decide) rfl ?_
  intro p e s m args below meth c s₁ B hml hv
  obtain ⟨rfl, hH0, hNE⟩ := hv
  have hx := B.exec
  have hb := B.bytes
  have hr := B.returns
  have hts := atoms_spec (ws := wsX10_isThing) B.pre
  have hown : s.vm.findClass RX10 = some m.cls := findClass_of_methodNamed B.named
  have hlocks := B.notSynchronized
  have hH : HI D S S s s.heap [] := HI.start hH0
  have hl := lv_entry ([.int p0]) (n := 1) (Nat.le_of_ble_eq_true rfl)
  rw [lg_entry_eq]
  generalize (lg_sl ([.int p0]) ++ List.replicate (1 - (lg_sl ([.int p0])).length) Slot.unset).toArray = ls at hl ⊢
  have hl : lv_has ls 1 [(0, .int p0)] := hl
  refine lv_iload_n hx hb dX10_isThing_0 rfl (lv_at hl 0 rfl) ?_
  refine lv_bipush (v := 102) hx hb dX10_isThing_1 (by decide) ?_
  obtain ⟨j1, e3, hf⟩ := ol hf
  have Jj1 : ∀ (u2 : Unit) (H : Heap) (locs : List Loc) (ls : Array Slot), HI D S S s H locs → lv_has ls 1 [] → j1 u2 = some r → GI p l e (headSpec wsX10_isThing rmX10_isThing).room s m ([.int p0] : List Value).toArray below meth c D S S r H locs 0 0 0 0 (F0 m 36 ls []) := by
    intro u2 H locs ls hH hl hf
    rw [← e3] at hf
    refine lv_iconst (v := 1) hx hb dX10_isThing_36 (by decide) ?_
    refine lv_goto (tgt := 41) hx hb dX10_isThing_37 (by decide) ?_
    have hr9 := Option.some.inj hf
    subst hr9
    exact e_z (r := 1) hx hb hr hlocks rfl hH dX10_isThing_41
  refine lv_icmp_eq (tgt := 36) hx hb dX10_isThing_3 (by decide) (fun c4 => ?_) (fun c4 => ?_)
  · have hf := ip hf c4
    exact Jj1 () _ _ ls hH (lv_sub hl [] rfl) hf
  · have hf := iq hf c4
    refine lv_iload_n hx hb dX10_isThing_6 rfl (lv_at hl 0 rfl) ?_
    refine lv_bipush (v := 108) hx hb dX10_isThing_7 (by decide) ?_
    refine lv_icmp_eq (tgt := 36) hx hb dX10_isThing_9 (by decide) (fun c5 => ?_) (fun c5 => ?_)
    · have hf := ip hf c5
      exact Jj1 () _ _ ls hH (lv_sub hl [] rfl) hf
    · have hf := iq hf c5
      refine lv_iload_n hx hb dX10_isThing_12 rfl (lv_at hl 0 rfl) ?_
      refine lv_bipush (v := 114) hx hb dX10_isThing_13 (by decide) ?_
      refine lv_icmp_eq (tgt := 36) hx hb dX10_isThing_15 (by decide) (fun c6 => ?_) (fun c6 => ?_)
      · have hf := ip hf c6
        exact Jj1 () _ _ ls hH (lv_sub hl [] rfl) hf
      · have hf := iq hf c6
        refine lv_iload_n hx hb dX10_isThing_18 rfl (lv_at hl 0 rfl) ?_
        refine lv_bipush (v := 107) hx hb dX10_isThing_19 (by decide) ?_
        refine lv_icmp_eq (tgt := 36) hx hb dX10_isThing_21 (by decide) (fun c7 => ?_) (fun c7 => ?_)
        · have hf := ip hf c7
          exact Jj1 () _ _ ls hH (lv_sub hl [] rfl) hf
        · have hf := iq hf c7
          refine lv_iload_n hx hb dX10_isThing_24 rfl (lv_at hl 0 rfl) ?_
          refine lv_bipush (v := 119) hx hb dX10_isThing_25 (by decide) ?_
          refine lv_icmp_eq (tgt := 36) hx hb dX10_isThing_27 (by decide) (fun c8 => ?_) (fun c8 => ?_)
          · have hf := ip hf c8
            exact Jj1 () _ _ ls hH (lv_sub hl [] rfl) hf
          · have hf := iq hf c8
            refine lv_iload_n hx hb dX10_isThing_30 rfl (lv_at hl 0 rfl) ?_
            refine lv_bipush (v := 115) hx hb dX10_isThing_31 (by decide) ?_
            refine lv_icmp_ne (tgt := 40) hx hb dX10_isThing_33 (by decide) (fun c9 => ?_) (fun c9 => ?_)
            · have hf := iq hf c9
              refine lv_iconst (v := 0) hx hb dX10_isThing_40 (by decide) ?_
              have hr9 := Option.some.inj hf
              subst hr9
              exact e_z (r := 0) hx hb hr hlocks rfl hH dX10_isThing_41
            · have hf := ip hf c9
              exact Jj1 () _ _ ls hH (lv_sub hl [] rfl) hf
