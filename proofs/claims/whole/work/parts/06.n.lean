set_option maxRecDepth 100000 in
def f_Jx4a65c_grow_92f84 (S : PS) (a0 : Nat) (p1 : Int32) : Option (PS × Nat) := if kK S a0 = 3 then ((kQ S a0 1).bind fun a2 => if 103 < kK S a2 then (lt (nI (kN S a2)) fun x5 => lt (fun (u17 : Unit) => (f_J8_newLength_cabcc S x5 (p1 - x5) (x5 >>> (1 &&& 31))).bind fun r8 => (f_J7_copyOf_1904c S a2 r8).bind fun r10 => lt r10.1 fun S12 => if kK S12 a0 = 3 then (lt (wQ S12 a0 1 (some r10.2)) fun S15 => some (S15, r10.2)) else none) fun j7 => if 0 < x5 then (j7 ()) else ((kQ S 0 0).bind fun a20 => if (some a2 : Option Nat) = some a20 then (lt (if 10 < p1 then p1 else 10) fun x23 => if ¬ x23 < 0 ∧ x23.toNatClampNeg ≤ 20 then (lt (kZ S) fun a26 => lt (wN S 104 x23.toNatClampNeg) fun S28 => if kK S28 a0 = 3 then (lt (wQ S28 a0 1 (some a26)) fun S31 => some (S31, a26)) else none) else none) else (j7 ()))) else none) else none
abbrev rmJx4a65c_grow_92f84 : Room := { frames := 5, cells := 1, slots := 20, locals := 171 }
set_option maxHeartbeats 4000000 in
set_option maxRecDepth 100000 in
theorem c_Jx4a65c_grow_92f84 (l : Launch) (D : va_G × Nat) (S : PS) (a0 : Nat) (p1 : Int32) (r : PS × Nat) (hf : f_Jx4a65c_grow_92f84 S a0 p1 = some r) : MR l D yJx4a65c_grow_92f84 wsJx4a65c_grow_92f84 rmJx4a65c_grow_92f84 S [.ref a0, .int p1] r.1 r.2 1 20 := by
  unfold f_Jx4a65c_grow_92f84 at hf
  refine Met.ofW (cc := cJx4a65c_grow_92f84) (maxL := 4) (ret := (some (.array (.object "java/lang/Object")))) (by decide) rfl ?_
  intro p e s m args below meth c s₁ B hml hv
  obtain ⟨rfl, hH0, hNE⟩ := hv
  have hx := B.exec
  have hb := B.bytes
  have hr := B.returns
  have hts := atoms_spec (ws := wsJx4a65c_grow_92f84) B.pre
  have hown : s.vm.findClass RJx4a65c = some m.cls := findClass_of_methodNamed B.named
  have hlocks := B.notSynchronized
  have hH : HI D S S s s.heap [] := HI.start hH0
  have hl := lv_entry ([.ref a0, .int p1]) (n := 4) (Nat.le_of_ble_eq_true rfl)
  rw [lg_entry_eq]
  generalize (lg_sl ([.ref a0, .int p1]) ++ List.replicate (4 - (lg_sl ([.ref a0, .int p1])).length) Slot.unset).toArray = ls at hl ⊢
  have hl : lv_has ls 4 [(0, .ref a0), (1, .int p1)] := hl
  refine lv_aload_n hx hb dJx4a65c_grow_92f84_0 rfl (lv_at hl 0 rfl) ?_
  obtain ⟨ek1, hf⟩ := oc hf
  obtain ⟨a2, e3, hf⟩ := ob hf
  refine r_getQ hx hb 2 hts (fun w h => List.mem_cons_of_mem _ (mwsJx4a65c0 w h)) hown hH ek1 (by decide) rfl 1 (by decide) rfl (hts (.fieldLink RJx4a65c 9 "java/util/ArrayList" "elementData" "[Ljava/lang/Object;") (List.mem_cons_of_mem _ gw_0_11)) (fun _ h9 => h9) dJx4a65c_grow_92f84_1 e3 ?_
  obtain ⟨ek4, hf⟩ := oc hf
  refine r_alen hx hb (kK S a2) hH rfl (Nat.lt_trans (by decide) ek4) dJx4a65c_grow_92f84_4 ?_
  obtain ⟨x5, e6, hf⟩ := ol hf
  refine lv_topE e6 ?_
  refine lv_istore_n (lv' := [(2, .int x5), (0, .ref a0), (1, .int p1)]) hx hb dJx4a65c_grow_92f84_5 rfl hl (by decide) rfl (fun ls hl => ?_)
  refine lv_iload_n hx hb dJx4a65c_grow_92f84_6 rfl (lv_at hl 0 rfl) ?_
  obtain ⟨j7, e18, hf⟩ := ol hf
  have Jj7 : ∀ (u17 : Unit) (H : Heap) (locs : List Loc) (ls : Array Slot), HI D S S s H locs → lv_has ls 4 [(0, .ref a0), (1, .int p1), (2, .int x5)] → j7 u17 = some r → GR p l e (headSpec wsJx4a65c_grow_92f84 rmJx4a65c_grow_92f84).room s m ([.ref a0, .int p1] : List Value).toArray below meth c D S r.1 r.2 H locs 0 0 1 20 (F0 m 20 ls []) := by
    intro u17 H locs ls hH hl hf
    rw [← e18] at hf
    refine lv_iload_n hx hb dJx4a65c_grow_92f84_20 rfl (lv_at hl 2 rfl) ?_
    refine lv_iload_n hx hb dJx4a65c_grow_92f84_21 rfl (lv_at hl 1 rfl) ?_
    refine lv_iload_n hx hb dJx4a65c_grow_92f84_22 rfl (lv_at hl 2 rfl) ?_
    refine lv_isub hx hb dJx4a65c_grow_92f84_23 ?_
    refine lv_iload_n hx hb dJx4a65c_grow_92f84_24 rfl (lv_at hl 2 rfl) ?_
    refine lv_iconst (v := 1) hx hb dJx4a65c_grow_92f84_25 (by decide) ?_
    refine lv_ishr hx hb dJx4a65c_grow_92f84_26 ?_
    obtain ⟨r8, e9, hf⟩ := ob hf
    refine r_callSi (As := [.int x5, .int (p1 - x5), .int (x5 >>> (1 &&& 31))]) ⟨hx, hb, hml, hown, hts⟩ (c_J8_newLength_cabcc l D S x5 (p1 - x5) (x5 >>> (1 &&& 31)) r8 e9) (va_cwS 3 hts (gwS gw_15_20 gw_15_21 gw_14_22 gw_14_15) rfl rfl rfl (by decide +kernel) ⟨Nat.le_of_ble_eq_true rfl, Nat.le_of_ble_eq_true rfl⟩) hH hNE rfl hl.1 rfl (Nat.le_of_ble_eq_true rfl) dJx4a65c_grow_92f84_27 ⟨(Nat.le_of_ble_eq_true rfl), (Nat.le_of_ble_eq_true rfl)⟩ (fun H locs hH => ?_)
    refine lv_istore_n (lv' := [(3, .int r8), (0, .ref a0), (1, .int p1), (2, .int x5)]) hx hb dJx4a65c_grow_92f84_30 rfl hl (by decide) rfl (fun ls hl => ?_)
    refine lv_aload_n hx hb dJx4a65c_grow_92f84_31 rfl (lv_at hl 1 rfl) ?_
    refine lv_aload_n hx hb dJx4a65c_grow_92f84_32 rfl (lv_at hl 1 rfl) ?_
    refine r_getQ hx hb 2 hts (fun w h => List.mem_cons_of_mem _ (mwsJx4a65c0 w h)) hown hH ek1 (by decide) rfl 1 (by decide) rfl (hts (.fieldLink RJx4a65c 9 "java/util/ArrayList" "elementData" "[Ljava/lang/Object;") (List.mem_cons_of_mem _ gw_0_11)) (fun _ h9 => h9) dJx4a65c_grow_92f84_33 e3 ?_
    refine lv_iload_n hx hb dJx4a65c_grow_92f84_36 rfl (lv_at hl 0 rfl) ?_
    obtain ⟨r10, e11, hf⟩ := ob hf
    refine r_callSr (As := [.ref a2, .int r8]) ⟨hx, hb, hml, hown, hts⟩ (c_J7_copyOf_1904c l D S a2 r8 r10 e11) (va_cwS 2 hts (gwS gw_15_22 gw_15_23 gw_15_16 gw_15_9) rfl rfl rfl (by decide +kernel) ⟨Nat.le_of_ble_eq_true rfl, Nat.le_of_ble_eq_true rfl⟩) hH hNE rfl hl.1 rfl (Nat.le_of_ble_eq_true rfl) dJx4a65c_grow_92f84_37 ⟨(Nat.le_of_ble_eq_true rfl), (Nat.le_of_ble_eq_true rfl)⟩ (fun H locs hH => ?_)
    obtain ⟨S12, e13, hf⟩ := ol hf
    rw [e13] at hH
    refine W.widen (k := 1) (n := 20) (by omega) (by omega) ?_
    refine lv_dup_x1 hx hb dJx4a65c_grow_92f84_40 rfl rfl ?_
    obtain ⟨ek14, hf⟩ := oc hf
    refine r_putQ hx hb 2 hts (fun w h => List.mem_cons_of_mem _ (mwsJx4a65c0 w h)) tyJx4a65c tyJx4a65c_ok nmJx4a65c hown hH ek14 (by decide) rfl 1 (by decide) rfl (hts (.fieldLink RJx4a65c 9 "java/util/ArrayList" "elementData" "[Ljava/lang/Object;") (List.mem_cons_of_mem _ gw_0_11)) (fun _ h9 => h9) (Or.inl rfl) (ty := (.array (.object "java/lang/Object"))) (by decide +kernel) rfl rfl dJx4a65c_grow_92f84_41 (fun H locs hH => ?_)
    obtain ⟨S15, e16, hf⟩ := ol hf
    rw [e16] at hH
    have hr9 := Option.some.inj hf
    subst hr9
    exact e_ra hx hb hr hlocks hH dJx4a65c_grow_92f84_44
  refine lv_if_gt (tgt := 20) hx hb dJx4a65c_grow_92f84_7 (by decide) (fun c19 => ?_) (fun c19 => ?_)
  · have hf := ip hf c19
    exact Jj7 () _ _ ls hH (lv_sub hl [1, 2, 0] rfl) hf
  · have hf := iq hf c19
    refine lv_aload_n hx hb dJx4a65c_grow_92f84_10 rfl (lv_at hl 1 rfl) ?_
    refine r_getQ hx hb 2 hts (fun w h => List.mem_cons_of_mem _ (mwsJx4a65c0 w h)) hown hH ek1 (by decide) rfl 1 (by decide) rfl (hts (.fieldLink RJx4a65c 9 "java/util/ArrayList" "elementData" "[Ljava/lang/Object;") (List.mem_cons_of_mem _ gw_0_11)) (fun _ h9 => h9) dJx4a65c_grow_92f84_11 e3 ?_
    obtain ⟨a20, e21, hf⟩ := ob hf
    refine r_gets hx hb hH e21 hown (hts (.fieldLink RJx4a65c 39 "java/util/ArrayList" "DEFAULTCAPACITY_EMPTY_ELEMENTDATA" "[Ljava/lang/Object;") (List.mem_cons_of_mem _ gw_0_10)) dJx4a65c_grow_92f84_14 (fun _ => ?_)
    refine lv_acmp_eq (rx := some a2) (ry := some a20) (tgt := 45) hx hb dJx4a65c_grow_92f84_17 (by decide) (fun c22 => ?_) (fun c22 => ?_)
    · have hf := ip hf c22
      refine lv_aload_n hx hb dJx4a65c_grow_92f84_45 rfl (lv_at hl 1 rfl) ?_
      refine lv_bipush (v := 10) hx hb dJx4a65c_grow_92f84_46 (by decide) ?_
      refine lv_iload_n hx hb dJx4a65c_grow_92f84_48 rfl (lv_at hl 2 rfl) ?_
      refine va_mmax hx hb (hml.trans hl.1.symm) hown (hts (.methodLink RJx4a65c 79 Lib.Math.max.name) (List.mem_cons_of_mem _ gw_15_18)) (hts (.static Lib.Math.max.name) (List.mem_cons_of_mem _ gw_14_17)) (hts (.initialized "java/lang/Math") (List.mem_cons_of_mem _ gw_14_18)) (hts (.code Lib.Math.max.name Lib.Math.max.code 2 (some .int)) (List.mem_cons_of_mem _ gw_14_19)) (Nat.le_of_ble_eq_true rfl) (Nat.le_of_ble_eq_true rfl) (Nat.le_of_ble_eq_true rfl) (Nat.le_of_ble_eq_true rfl) dJx4a65c_grow_92f84_49 ?_
      obtain ⟨x23, e24, hf⟩ := ol hf
      refine lv_topE e24 ?_
      obtain ⟨en25, hf⟩ := oc hf
      refine r_newq hx hb hown (hts (.classLink RJx4a65c 7 "java/lang/Object") (List.mem_cons_of_mem _ gw_15_19)) hNE.2.2.2.2.2 hH (cap := 20) en25 (by decide) (Nat.le_of_ble_eq_true rfl) (Nat.le_of_ble_eq_true rfl) dJx4a65c_grow_92f84_52 (fun H hH => ?_)
      obtain ⟨a26, e27, hf⟩ := ol hf
      rw [e27]
      obtain ⟨S28, e29, hf⟩ := ol hf
      rw [e29] at hH
      refine W.widen (k := 1) (n := 20) (by omega) (by omega) ?_
      refine lv_dup_x1 hx hb dJx4a65c_grow_92f84_55 rfl rfl ?_
      obtain ⟨ek30, hf⟩ := oc hf
      refine r_putQ hx hb 2 hts (fun w h => List.mem_cons_of_mem _ (mwsJx4a65c0 w h)) tyJx4a65c tyJx4a65c_ok nmJx4a65c hown hH ek30 (by decide) rfl 1 (by decide) rfl (hts (.fieldLink RJx4a65c 9 "java/util/ArrayList" "elementData" "[Ljava/lang/Object;") (List.mem_cons_of_mem _ gw_0_11)) (fun _ h9 => h9) (Or.inl rfl) (ty := (.array (.object "java/lang/Object"))) (by decide +kernel) rfl rfl dJx4a65c_grow_92f84_56 (fun H locs hH => ?_)
      obtain ⟨S31, e32, hf⟩ := ol hf
      rw [e32] at hH
      have hr9 := Option.some.inj hf
      subst hr9
      exact e_ra hx hb hr hlocks hH dJx4a65c_grow_92f84_59
    · have hf := iq hf c22
      exact Jj7 () _ _ ls hH (lv_sub hl [1, 2, 0] rfl) hf
set_option maxRecDepth 100000 in
def f_Jx4a65c_grow_d5877 (S : PS) (a0 : Nat) : Option (PS × Nat) := if kK S a0 = 3 then ((f_Jx4a65c_grow_92f84 S a0 ((kI S a0 2) + 1)).bind fun r2 => lt r2.1 fun S4 => some (S4, r2.2)) else none
abbrev rmJx4a65c_grow_d5877 : Room := { frames := 6, cells := 1, slots := 20, locals := 194 }
set_option maxHeartbeats 4000000 in
set_option maxRecDepth 100000 in
theorem c_Jx4a65c_grow_d5877 (l : Launch) (D : va_G × Nat) (S : PS) (a0 : Nat) (r : PS × Nat) (hf : f_Jx4a65c_grow_d5877 S a0 = some r) : MR l D yJx4a65c_grow_d5877 wsJx4a65c_grow_d5877 rmJx4a65c_grow_d5877 S [.ref a0] r.1 r.2 1 20 := by
  unfold f_Jx4a65c_grow_d5877 at hf
  refine Met.ofW (cc := cJx4a65c_grow_d5877) (maxL := 1) (ret := (some (.array (.object "java/lang/Object")))) (by decide) rfl ?_
  intro p e s m args below meth c s₁ B hml hv
  obtain ⟨rfl, hH0, hNE⟩ := hv
  have hx := B.exec
  have hb := B.bytes
  have hr := B.returns
  have hts := atoms_spec (ws := wsJx4a65c_grow_d5877) B.pre
  have hown : s.vm.findClass RJx4a65c = some m.cls := findClass_of_methodNamed B.named
  have hlocks := B.notSynchronized
  have hH : HI D S S s s.heap [] := HI.start hH0
  have hl := lv_entry ([.ref a0]) (n := 1) (Nat.le_of_ble_eq_true rfl)
  rw [lg_entry_eq]
  generalize (lg_sl ([.ref a0]) ++ List.replicate (1 - (lg_sl ([.ref a0])).length) Slot.unset).toArray = ls at hl ⊢
  have hl : lv_has ls 1 [(0, .ref a0)] := hl
  refine lv_aload_n hx hb dJx4a65c_grow_d5877_0 rfl (lv_at hl 0 rfl) ?_
  refine lv_aload_n hx hb dJx4a65c_grow_d5877_1 rfl (lv_at hl 0 rfl) ?_
  obtain ⟨ek1, hf⟩ := oc hf
  refine r_getI hx hb 2 hts (fun w h => List.mem_cons_of_mem _ (mwsJx4a65c0 w h)) hown hH ek1 (by decide) rfl 2 (by decide) rfl (hts (.fieldLink RJx4a65c 48 "java/util/ArrayList" "size" "I") (List.mem_cons_of_mem _ gw_1_19)) (fun _ h9 => h9) dJx4a65c_grow_d5877_2 ?_
  refine lv_iconst (v := 1) hx hb dJx4a65c_grow_d5877_5 (by decide) ?_
  refine lv_iadd hx hb dJx4a65c_grow_d5877_6 ?_
  obtain ⟨r2, e3, hf⟩ := ob hf
  refine r_callVr (As := [.int ((kI S a0 2) + 1)]) ⟨hx, hb, hml, hown, hts⟩ (c_Jx4a65c_grow_92f84 l D S a0 ((kI S a0 2) + 1) r2 e3) (cwV 1 hts (gwV gw_16_1 gw_16_2 gw_16_3 gw_1_0 gw_15_17) rfl rfl rfl (by decide +kernel) ⟨Nat.le_of_ble_eq_true rfl, Nat.le_of_ble_eq_true rfl⟩) hH hNE 2 ek1 (by decide) rfl rfl rfl hl.1 rfl (Nat.le_of_ble_eq_true rfl) dJx4a65c_grow_d5877_7 ⟨(Nat.le_of_ble_eq_true rfl), (Nat.le_of_ble_eq_true rfl)⟩ (fun H locs hH => ?_)
  obtain ⟨S4, e5, hf⟩ := ol hf
  rw [e5] at hH
  refine W.widen (k := 1) (n := 20) (by omega) (by omega) ?_
  have hr9 := Option.some.inj hf
  subst hr9
  exact e_ra hx hb hr hlocks hH dJx4a65c_grow_d5877_10
set_option maxRecDepth 100000 in
def f_Jx4a65c_add_72be8 (S : PS) (a0 : Nat) (b1 : Nat) (b2 : Nat) (p3 : Int32) : Option (PS) := if 103 < kK S b2 then (lt (fun (a2 : Nat) (S3 : PS) => if kK S3 a2 = 104 then (if ¬ (p3 < 0 ∨ kN S3 a2 ≤ p3.toNatClampNeg) then (if kK S3 b1 = 5 ∨ kK S3 b1 = 7 ∨ kK S3 b1 = 8 ∨ kK S3 b1 = 9 ∨ kK S3 b1 = 10 then (lt (wQ S3 a2 p3.toNatClampNeg (some b1)) fun S8 => if kK S8 a0 = 3 then (lt (wI S8 a0 2 (p3 + 1)) fun S11 => some S11) else none) else none) else none) else none) fun j4 => if p3 = (nI (kN S b2)) then (if kK S a0 = 3 then ((f_Jx4a65c_grow_d5877 S a0).bind fun r16 => lt r16.1 fun S18 => j4 r16.2 S18) else none) else (j4 b2 S)) else none
abbrev rmJx4a65c_add_72be8 : Room := { frames := 7, cells := 1, slots := 20, locals := 214 }
set_option maxHeartbeats 4000000 in
set_option maxRecDepth 100000 in
theorem c_Jx4a65c_add_72be8 (l : Launch) (D : va_G × Nat) (S : PS) (a0 : Nat) (b1 : Nat) (b2 : Nat) (p3 : Int32) (r : PS) (hf : f_Jx4a65c_add_72be8 S a0 b1 b2 p3 = some r) : MV l D yJx4a65c_add_72be8 wsJx4a65c_add_72be8 rmJx4a65c_add_72be8 S [.ref a0, .ref b1, .ref b2, .int p3] r 1 20 := by
  unfold f_Jx4a65c_add_72be8 at hf
  refine Met.ofW (cc := cJx4a65c_add_72be8) (maxL := 4) (ret := none) (by decide) rfl ?_
  intro p e s m args below meth c s₁ B hml hv
  obtain ⟨rfl, hH0, hNE⟩ := hv
  have hx := B.exec
  have hb := B.bytes
  have hr := B.returns
  have hts := atoms_spec (ws := wsJx4a65c_add_72be8) B.pre
  have hown : s.vm.findClass RJx4a65c = some m.cls := findClass_of_methodNamed B.named
  have hlocks := B.notSynchronized
  have hH : HI D S S s s.heap [] := HI.start hH0
  have hl := lv_entry ([.ref a0, .ref b1, .ref b2, .int p3]) (n := 4) (Nat.le_of_ble_eq_true rfl)
  rw [lg_entry_eq]
  generalize (lg_sl ([.ref a0, .ref b1, .ref b2, .int p3]) ++ List.replicate (4 - (lg_sl ([.ref a0, .ref b1, .ref b2, .int p3])).length) Slot.unset).toArray = ls at hl ⊢
  have hl : lv_has ls 4 [(0, .ref a0), (1, .ref b1), (2, .ref b2), (3, .int p3)] := hl
  refine lv_iload_n hx hb dJx4a65c_add_72be8_0 rfl (lv_at hl 3 rfl) ?_
  refine lv_aload_n hx hb dJx4a65c_add_72be8_1 rfl (lv_at hl 2 rfl) ?_
  obtain ⟨ek1, hf⟩ := oc hf
  refine r_alen hx hb (kK S b2) hH rfl (Nat.lt_trans (by decide) ek1) dJx4a65c_add_72be8_2 ?_
  obtain ⟨j4, e13, hf⟩ := ol hf
  have Jj4 : ∀ (a2 : Nat) (S3 : PS) (H : Heap) (locs : List Loc) (ls : Array Slot), HI D S S3 s H locs → lv_has ls 4 [(0, .ref a0), (1, .ref b1), (2, .ref a2), (3, .int p3)] → j4 a2 S3 = some r → GV p l e (headSpec wsJx4a65c_add_72be8 rmJx4a65c_add_72be8).room s m ([.ref a0, .ref b1, .ref b2, .int p3] : List Value).toArray below meth c D S r H locs 1 20 1 20 (F0 m 11 ls []) := by
    intro a2 S3 H locs ls hH hl hf
    rw [← e13] at hf
    refine lv_aload_n hx hb dJx4a65c_add_72be8_11 rfl (lv_at hl 2 rfl) ?_
    refine lv_iload_n hx hb dJx4a65c_add_72be8_12 rfl (lv_at hl 3 rfl) ?_
    refine lv_aload_n hx hb dJx4a65c_add_72be8_13 rfl (lv_at hl 1 rfl) ?_
    obtain ⟨ek5, hf⟩ := oc hf
    obtain ⟨ei6, hf⟩ := oc hf
    obtain ⟨ek7, hf⟩ := oc hf
    refine r_astqA hx hb hNE hH ek5 ek7 ei6 dJx4a65c_add_72be8_14 (fun H locs hH => ?_)
    obtain ⟨S8, e9, hf⟩ := ol hf
    rw [e9] at hH
    refine lv_aload_n hx hb dJx4a65c_add_72be8_15 rfl (lv_at hl 0 rfl) ?_
    refine lv_iload_n hx hb dJx4a65c_add_72be8_16 rfl (lv_at hl 3 rfl) ?_
    refine lv_iconst (v := 1) hx hb dJx4a65c_add_72be8_17 (by decide) ?_
    refine lv_iadd hx hb dJx4a65c_add_72be8_18 ?_
    obtain ⟨ek10, hf⟩ := oc hf
    refine r_putI hx hb 2 hts (fun w h => List.mem_cons_of_mem _ (mwsJx4a65c0 w h)) tyJx4a65c tyJx4a65c_ok nmJx4a65c hown hH ek10 (by decide) rfl 2 (by decide) rfl (hts (.fieldLink RJx4a65c 48 "java/util/ArrayList" "size" "I") (List.mem_cons_of_mem _ gw_1_19)) (fun _ h9 => h9) (Or.inl rfl) (ty := .int) (by decide +kernel) rfl rfl dJx4a65c_add_72be8_19 (fun H locs hH => ?_)
    obtain ⟨S11, e12, hf⟩ := ol hf
    rw [e12] at hH
    have hr9 := Option.some.inj hf
    subst hr9
    exact e_v hx hb hr hlocks hH dJx4a65c_add_72be8_22
  refine lv_icmp_ne (tgt := 11) hx hb dJx4a65c_add_72be8_3 (by decide) (fun c14 => ?_) (fun c14 => ?_)
  · have hf := iq hf c14
    refine W.widen (k := 1) (n := 20) (by omega) (by omega) ?_
    exact Jj4 b2 S _ _ ls hH (lv_sub hl [0, 1, 2, 3] rfl) hf
  · have hf := ip hf c14
    refine lv_aload_n hx hb dJx4a65c_add_72be8_6 rfl (lv_at hl 0 rfl) ?_
    obtain ⟨ek15, hf⟩ := oc hf
    obtain ⟨r16, e17, hf⟩ := ob hf
    refine r_callVr (As := []) ⟨hx, hb, hml, hown, hts⟩ (c_Jx4a65c_grow_d5877 l D S a0 r16 e17) (cwV 0 hts (gwV gw_16_5 gw_16_6 gw_16_7 gw_1_0 gw_16_0) rfl rfl rfl (by decide +kernel) ⟨Nat.le_of_ble_eq_true rfl, Nat.le_of_ble_eq_true rfl⟩) hH hNE 2 ek15 (by decide) rfl rfl rfl hl.1 rfl (Nat.le_of_ble_eq_true rfl) dJx4a65c_add_72be8_7 ⟨(Nat.le_of_ble_eq_true rfl), (Nat.le_of_ble_eq_true rfl)⟩ (fun H locs hH => ?_)
    obtain ⟨S18, e19, hf⟩ := ol hf
    rw [e19] at hH
    refine W.widen (k := 1) (n := 20) (by omega) (by omega) ?_
    refine lv_astore_n (lv' := [(2, .ref r16.2), (0, .ref a0), (1, .ref b1), (3, .int p3)]) hx hb dJx4a65c_add_72be8_10 rfl hl (by decide) rfl (fun ls hl => ?_)
    exact Jj4 r16.2 S18 _ _ ls hH (lv_sub hl [1, 2, 0, 3] rfl) hf
set_option maxRecDepth 100000 in
def f_Jx4a65c_add_9ea2d (S : PS) (a0 : Nat) (b1 : Nat) : Option (PS × Int32) := if kK S a0 = 3 then (lt (wI S a0 0 ((kI S a0 0) + 1)) fun S2 => if kK S2 a0 = 3 then ((kQ S2 a0 1).bind fun a5 => (f_Jx4a65c_add_72be8 S2 a0 b1 a5 (kI S2 a0 2)).bind fun r7 => some (r7, 1)) else none) else none
abbrev rmJx4a65c_add_9ea2d : Room := { frames := 8, cells := 1, slots := 20, locals := 237 }
set_option maxHeartbeats 4000000 in
set_option maxRecDepth 100000 in
theorem c_Jx4a65c_add_9ea2d (l : Launch) (D : va_G × Nat) (S : PS) (a0 : Nat) (b1 : Nat) (r : PS × Int32) (hf : f_Jx4a65c_add_9ea2d S a0 b1 = some r) : MI l D yJx4a65c_add_9ea2d wsJx4a65c_add_9ea2d rmJx4a65c_add_9ea2d S [.ref a0, .ref b1] r.1 r.2 1 20 := by
  unfold f_Jx4a65c_add_9ea2d at hf
  refine Met.ofW (cc := cJx4a65c_add_9ea2d) (maxL := 2) (ret := (some .boolean)) (by decide) rfl ?_
  intro p e s m args below meth c s₁ B hml hv
  obtain ⟨rfl, hH0, hNE⟩ := hv
  have hx := B.exec
  have hb := B.bytes
  have hr := B.returns
  have hts := atoms_spec (ws := wsJx4a65c_add_9ea2d) B.pre
  have hown : s.vm.findClass RJx4a65c = some m.cls := findClass_of_methodNamed B.named
  have hlocks := B.notSynchronized
  have hH : HI D S S s s.heap [] := HI.start hH0
  have hl := lv_entry ([.ref a0, .ref b1]) (n := 2) (Nat.le_of_ble_eq_true rfl)
  rw [lg_entry_eq]
  generalize (lg_sl ([.ref a0, .ref b1]) ++ List.replicate (2 - (lg_sl ([.ref a0, .ref b1])).length) Slot.unset).toArray = ls at hl ⊢
  have hl : lv_has ls 2 [(0, .ref a0), (1, .ref b1)] := hl
  refine lv_aload_n hx hb dJx4a65c_add_9ea2d_0 rfl (lv_at hl 0 rfl) ?_
  refine lv_dup hx hb dJx4a65c_add_9ea2d_1 rfl ?_
  obtain ⟨ek1, hf⟩ := oc hf
  refine r_getI hx hb 2 hts (fun w h => List.mem_cons_of_mem _ (mwsJx4a65c0 w h)) hown hH ek1 (by decide) rfl 0 (by decide) rfl (hts (.fieldLink RJx4a65c 63 "java/util/ArrayList" "modCount" "I") (List.mem_cons_of_mem _ gw_16_9)) (fun x9 h9 => u_same (hts (.sameField "java/util/ArrayList" "java/util/AbstractList" "modCount" "I") (List.mem_cons_of_mem _ gw_16_10)) x9 h9) dJx4a65c_add_9ea2d_2 ?_
  refine lv_iconst (v := 1) hx hb dJx4a65c_add_9ea2d_5 (by decide) ?_
  refine lv_iadd hx hb dJx4a65c_add_9ea2d_6 ?_
  refine r_putI hx hb 2 hts (fun w h => List.mem_cons_of_mem _ (mwsJx4a65c0 w h)) tyJx4a65c tyJx4a65c_ok nmJx4a65c hown hH ek1 (by decide) rfl 0 (by decide) rfl (hts (.fieldLink RJx4a65c 63 "java/util/ArrayList" "modCount" "I") (List.mem_cons_of_mem _ gw_16_9)) (fun x9 h9 => u_same (hts (.sameField "java/util/ArrayList" "java/util/AbstractList" "modCount" "I") (List.mem_cons_of_mem _ gw_16_10)) x9 h9) (Or.inl rfl) (ty := .int) (by decide +kernel) rfl rfl dJx4a65c_add_9ea2d_7 (fun H locs hH => ?_)
  obtain ⟨S2, e3, hf⟩ := ol hf
  rw [e3] at hH
  refine lv_aload_n hx hb dJx4a65c_add_9ea2d_10 rfl (lv_at hl 0 rfl) ?_
  refine lv_aload_n hx hb dJx4a65c_add_9ea2d_11 rfl (lv_at hl 1 rfl) ?_
  refine lv_aload_n hx hb dJx4a65c_add_9ea2d_12 rfl (lv_at hl 0 rfl) ?_
  obtain ⟨ek4, hf⟩ := oc hf
  obtain ⟨a5, e6, hf⟩ := ob hf
  refine r_getQ hx hb 2 hts (fun w h => List.mem_cons_of_mem _ (mwsJx4a65c0 w h)) hown hH ek4 (by decide) rfl 1 (by decide) rfl (hts (.fieldLink RJx4a65c 9 "java/util/ArrayList" "elementData" "[Ljava/lang/Object;") (List.mem_cons_of_mem _ gw_0_11)) (fun _ h9 => h9) dJx4a65c_add_9ea2d_13 e6 ?_
  refine lv_aload_n hx hb dJx4a65c_add_9ea2d_16 rfl (lv_at hl 0 rfl) ?_
  refine r_getI hx hb 2 hts (fun w h => List.mem_cons_of_mem _ (mwsJx4a65c0 w h)) hown hH ek4 (by decide) rfl 2 (by decide) rfl (hts (.fieldLink RJx4a65c 48 "java/util/ArrayList" "size" "I") (List.mem_cons_of_mem _ gw_1_19)) (fun _ h9 => h9) dJx4a65c_add_9ea2d_17 ?_
  obtain ⟨r7, e8, hf⟩ := ob hf
  refine r_callVv (As := [.ref b1, .ref a5, .int (kI S2 a0 2)]) ⟨hx, hb, hml, hown, hts⟩ (c_Jx4a65c_add_72be8 l D S2 a0 b1 a5 (kI S2 a0 2) r7 e8) (cwV 3 hts (gwV gw_16_11 gw_16_12 gw_16_13 gw_1_0 gw_16_4) rfl rfl rfl (by decide +kernel) ⟨Nat.le_of_ble_eq_true rfl, Nat.le_of_ble_eq_true rfl⟩) hH hNE 2 ek4 (by decide) rfl rfl rfl hl.1 rfl (Nat.le_of_ble_eq_true rfl) dJx4a65c_add_9ea2d_20 ⟨(Nat.le_of_ble_eq_true rfl), (Nat.le_of_ble_eq_true rfl)⟩ (fun H locs hH => ?_)
  refine W.widen (k := 1) (n := 20) (by omega) (by omega) ?_
  refine lv_iconst (v := 1) hx hb dJx4a65c_add_9ea2d_23 (by decide) ?_
  have hr9 := Option.some.inj hf
  subst hr9
  exact e_z (r := 1) hx hb hr hlocks rfl hH dJx4a65c_add_9ea2d_24
