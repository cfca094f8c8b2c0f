set_option maxRecDepth 100000 in
def f_Jx4a65c_size_8abf5 (S : PS) (a0 : Nat) : Option (Int32) := if kK S a0 = 3 then (some (kI S a0 2)) else none
abbrev rmJx4a65c_size_8abf5 : Room := { frames := 0, cells := 0, slots := 0, locals := 0 }
set_option maxHeartbeats 4000000 in
set_option maxRecDepth 100000 in
theorem c_Jx4a65c_size_8abf5 (l : Launch) (D : va_G × Nat) (S : PS) (a0 : Nat) (r : Int32) (hf : f_Jx4a65c_size_8abf5 S a0 = some r) : MI l D yJx4a65c_size_8abf5 wsJx4a65c_size_8abf5 rmJx4a65c_size_8abf5 S [.ref a0] S r 0 0 := by
  unfold f_Jx4a65c_size_8abf5 at hf
  refine Met.ofW (cc := cJx4a65c_size_8abf5) (maxL := 1) (ret := (some .int)) (by decide) rfl ?_
  intro p e s m args below meth c s₁ B hml hv
  obtain ⟨rfl, hH0, hNE⟩ := hv
  have hx := B.exec
  have hb := B.bytes
  have hr := B.returns
  have hts := atoms_spec (ws := wsJx4a65c_size_8abf5) B.pre
  have hown : s.vm.findClass RJx4a65c = some m.cls := findClass_of_methodNamed B.named
  have hlocks := B.notSynchronized
  have hH : HI D S S s s.heap [] := HI.start hH0
  have hl := lv_entry ([.ref a0]) (n := 1) (Nat.le_of_ble_eq_true rfl)
  rw [lg_entry_eq]
  generalize (lg_sl ([.ref a0]) ++ List.replicate (1 - (lg_sl ([.ref a0])).length) Slot.unset).toArray = ls at hl ⊢
  have hl : lv_has ls 1 [(0, .ref a0)] := hl
  refine lv_aload_n hx hb dJx4a65c_size_8abf5_0 rfl (lv_at hl 0 rfl) ?_
  obtain ⟨ek1, hf⟩ := oc hf
  refine r_getI hx hb 2 hts (fun w h => List.mem_cons_of_mem _ (mwsJx4a65c0 w h)) hown hH ek1 (by decide) rfl 2 (by decide) rfl (hts (.fieldLink RJx4a65c 48 "java/util/ArrayList" "size" "I") (List.mem_cons_of_mem _ gw_1_19)) (fun _ h9 => h9) dJx4a65c_size_8abf5_1 ?_
  have hr9 := Option.some.inj hf
  subst hr9
  exact e_i hx hb hr hlocks hH dJx4a65c_size_8abf5_4
set_option maxRecDepth 100000 in
def f_J3_checkIndex_8e157 (S : PS) (p0 : Int32) (p1 : Int32) : Option (Int32) := lt (fun (u2 : Unit) => none) fun j1 => if p0 < 0 then (j1 ()) else (if p0 < p1 then (some p0) else (j1 ()))
abbrev rmJ3_checkIndex_8e157 : Room := { frames := 0, cells := 0, slots := 0, locals := 0 }
set_option maxHeartbeats 4000000 in
set_option maxRecDepth 100000 in
theorem c_J3_checkIndex_8e157 (l : Launch) (D : va_G × Nat) (S : PS) (p0 : Int32) (p1 : Int32) (r : Int32) (hf : f_J3_checkIndex_8e157 S p0 p1 = some r) : MI l D yJ3_checkIndex_8e157 wsJ3_checkIndex_8e157 rmJ3_checkIndex_8e157 S [.int p0, .int p1, .null] S r 0 0 := by
  unfold f_J3_checkIndex_8e157 at hf
  refine Met.ofW (cc := cJ3_checkIndex_8e157) (maxL := 3) (ret := (some .int)) (by decide) rfl ?_
  intro p e s m args below meth c s₁ B hml hv
  obtain ⟨rfl, hH0, hNE⟩ := hv
  have hx := B.exec
  have hb := B.bytes
  have hr := B.returns
  have hts := atoms_spec (ws := wsJ3_checkIndex_8e157) B.pre
  have hown : s.vm.findClass RJ3 = some m.cls := findClass_of_methodNamed B.named
  have hlocks := B.notSynchronized
  have hH : HI D S S s s.heap [] := HI.start hH0
  have hl := lv_entry ([.int p0, .int p1, .null]) (n := 3) (Nat.le_of_ble_eq_true rfl)
  rw [lg_entry_eq]
  generalize (lg_sl ([.int p0, .int p1, .null]) ++ List.replicate (3 - (lg_sl ([.int p0, .int p1, .null])).length) Slot.unset).toArray = ls at hl ⊢
  have hl : lv_has ls 3 [(0, .int p0), (1, .int p1), (2, .null)] := hl
  refine lv_iload_n hx hb dJ3_checkIndex_8e157_0 rfl (lv_at hl 0 rfl) ?_
  obtain ⟨j1, e3, hf⟩ := ol hf
  have Jj1 : ∀ (u2 : Unit) (H : Heap) (locs : List Loc) (ls : Array Slot), HI D S S s H locs → lv_has ls 3 [] → j1 u2 = some r → GI p l e (headSpec wsJ3_checkIndex_8e157 rmJ3_checkIndex_8e157).room s m ([.int p0, .int p1, .null] : List Value).toArray below meth c D S S r H locs 0 0 0 0 (F0 m 9 ls []) := by
    intro u2 H locs ls hH hl hf
    rw [← e3] at hf
    cases hf
  refine lv_if_lt (tgt := 9) hx hb dJ3_checkIndex_8e157_1 (by decide) (fun c4 => ?_) (fun c4 => ?_)
  · have hf := ip hf c4
    exact Jj1 () _ _ ls hH (lv_sub hl [] rfl) hf
  · have hf := iq hf c4
    refine lv_iload_n hx hb dJ3_checkIndex_8e157_4 rfl (lv_at hl 0 rfl) ?_
    refine lv_iload_n hx hb dJ3_checkIndex_8e157_5 rfl (lv_at hl 1 rfl) ?_
    refine lv_icmp_lt (tgt := 16) hx hb dJ3_checkIndex_8e157_6 (by decide) (fun c5 => ?_) (fun c5 => ?_)
    · have hf := ip hf c5
      refine lv_iload_n hx hb dJ3_checkIndex_8e157_16 rfl (lv_at hl 0 rfl) ?_
      have hr9 := Option.some.inj hf
      subst hr9
      exact e_i hx hb hr hlocks hH dJ3_checkIndex_8e157_17
    · have hf := iq hf c5
      exact Jj1 () _ _ ls hH (lv_sub hl [] rfl) hf
set_option maxRecDepth 100000 in
def f_J15_checkIndex_7cf53 (S : PS) (p0 : Int32) (p1 : Int32) : Option (Int32) := (f_J3_checkIndex_8e157 S p0 p1).bind fun r1 => some r1
abbrev rmJ15_checkIndex_7cf53 : Room := { frames := 1, cells := 0, slots := 0, locals := 22 }
set_option maxHeartbeats 4000000 in
set_option maxRecDepth 100000 in
theorem c_J15_checkIndex_7cf53 (l : Launch) (D : va_G × Nat) (S : PS) (p0 : Int32) (p1 : Int32) (r : Int32) (hf : f_J15_checkIndex_7cf53 S p0 p1 = some r) : MI l D yJ15_checkIndex_7cf53 wsJ15_checkIndex_7cf53 rmJ15_checkIndex_7cf53 S [.int p0, .int p1] S r 0 0 := by
  unfold f_J15_checkIndex_7cf53 at hf
  refine Met.ofW (cc := cJ15_checkIndex_7cf53) (maxL := 2) (ret := (some .int)) (by decide) rfl ?_
  intro p e s m args below meth c s₁ B hml hv
  obtain ⟨rfl, hH0, hNE⟩ := hv
  have hx := B.exec
  have hb := B.bytes
  have hr := B.returns
  have hts := atoms_spec (ws := wsJ15_checkIndex_7cf53) B.pre
  have hown : s.vm.findClass RJ15 = some m.cls := findClass_of_methodNamed B.named
  have hlocks := B.notSynchronized
  have hH : HI D S S s s.heap [] := HI.start hH0
  have hl := lv_entry ([.int p0, .int p1]) (n := 2) (Nat.le_of_ble_eq_true rfl)
  rw [lg_entry_eq]
  generalize (lg_sl ([.int p0, .int p1]) ++ List.replicate (2 - (lg_sl ([.int p0, .int p1])).length) Slot.unset).toArray = ls at hl ⊢
  have hl : lv_has ls 2 [(0, .int p0), (1, .int p1)] := hl
  refine lv_iload_n hx hb dJ15_checkIndex_7cf53_0 rfl (lv_at hl 0 rfl) ?_
  refine lv_iload_n hx hb dJ15_checkIndex_7cf53_1 rfl (lv_at hl 1 rfl) ?_
  refine lv_null hx hb dJ15_checkIndex_7cf53_2 ?_
  obtain ⟨r1, e2, hf⟩ := ob hf
  refine r_callSi (As := [.int p0, .int p1, .null]) ⟨hx, hb, hml, hown, hts⟩ (c_J3_checkIndex_8e157 l D S p0 p1 r1 e2) (va_cwS 3 hts (gwS gw_1_22 gw_1_23 gw_2_0 gw_1_20) rfl rfl rfl (by decide +kernel) ⟨Nat.le_of_ble_eq_true rfl, Nat.le_of_ble_eq_true rfl⟩) hH hNE rfl hl.1 rfl (Nat.le_of_ble_eq_true rfl) dJ15_checkIndex_7cf53_3 ⟨(Nat.le_of_ble_eq_true rfl), (Nat.le_of_ble_eq_true rfl)⟩ (fun H locs hH => ?_)
  have hr9 := Option.some.inj hf
  subst hr9
  exact e_i hx hb hr hlocks hH dJ15_checkIndex_7cf53_6
set_option maxRecDepth 100000 in
def f_Jx4a65c_elementData_915e3 (S : PS) (a0 : Nat) (p1 : Int32) : Option (Nat) := if kK S a0 = 3 then ((kQ S a0 1).bind fun a2 => if kK S a2 = 104 then (if ¬ (p1 < 0 ∨ kN S a2 ≤ p1.toNatClampNeg) then ((kQ S a2 p1.toNatClampNeg).bind fun a6 => some a6) else none) else none) else none
abbrev rmJx4a65c_elementData_915e3 : Room := { frames := 0, cells := 0, slots := 0, locals := 0 }
set_option maxHeartbeats 4000000 in
set_option maxRecDepth 100000 in
theorem c_Jx4a65c_elementData_915e3 (l : Launch) (D : va_G × Nat) (S : PS) (a0 : Nat) (p1 : Int32) (r : Nat) (hf : f_Jx4a65c_elementData_915e3 S a0 p1 = some r) : MR l D yJx4a65c_elementData_915e3 wsJx4a65c_elementData_915e3 rmJx4a65c_elementData_915e3 S [.ref a0, .int p1] S r 0 0 := by
  unfold f_Jx4a65c_elementData_915e3 at hf
  refine Met.ofW (cc := cJx4a65c_elementData_915e3) (maxL := 2) (ret := (some (.object "java/lang/Object"))) (by decide) rfl ?_
  intro p e s m args below meth c s₁ B hml hv
  obtain ⟨rfl, hH0, hNE⟩ := hv
  have hx := B.exec
  have hb := B.bytes
  have hr := B.returns
  have hts := atoms_spec (ws := wsJx4a65c_elementData_915e3) B.pre
  have hown : s.vm.findClass RJx4a65c = some m.cls := findClass_of_methodNamed B.named
  have hlocks := B.notSynchronized
  have hH : HI D S S s s.heap [] := HI.start hH0
  have hl := lv_entry ([.ref a0, .int p1]) (n := 2) (Nat.le_of_ble_eq_true rfl)
  rw [lg_entry_eq]
  generalize (lg_sl ([.ref a0, .int p1]) ++ List.replicate (2 - (lg_sl ([.ref a0, .int p1])).length) Slot.unset).toArray = ls at hl ⊢
  have hl : lv_has ls 2 [(0, .ref a0), (1, .int p1)] := hl
  refine lv_aload_n hx hb dJx4a65c_elementData_915e3_0 rfl (lv_at hl 0 rfl) ?_
  obtain ⟨ek1, hf⟩ := oc hf
  obtain ⟨a2, e3, hf⟩ := ob hf
  refine r_getQ hx hb 2 hts (fun w h => List.mem_cons_of_mem _ (mwsJx4a65c0 w h)) hown hH ek1 (by decide) rfl 1 (by decide) rfl (hts (.fieldLink RJx4a65c 9 "java/util/ArrayList" "elementData" "[Ljava/lang/Object;") (List.mem_cons_of_mem _ gw_0_11)) (fun _ h9 => h9) dJx4a65c_elementData_915e3_1 e3 ?_
  refine lv_iload_n hx hb dJx4a65c_elementData_915e3_4 rfl (lv_at hl 1 rfl) ?_
  obtain ⟨ek4, hf⟩ := oc hf
  obtain ⟨ei5, hf⟩ := oc hf
  obtain ⟨a6, e7, hf⟩ := ob hf
  refine r_aldq hx hb hH ek4 ei5 dJx4a65c_elementData_915e3_5 e7 ?_
  have hr9 := Option.some.inj hf
  subst hr9
  exact e_r hx hb hr hlocks hH dJx4a65c_elementData_915e3_6
set_option maxRecDepth 100000 in
def f_Jx4a65c_get_915e3 (S : PS) (a0 : Nat) (p1 : Int32) : Option (Nat) := if kK S a0 = 3 then ((f_J15_checkIndex_7cf53 S p1 (kI S a0 2)).bind fun r2 => (f_Jx4a65c_elementData_915e3 S a0 p1).bind fun r4 => some r4) else none
abbrev rmJx4a65c_get_915e3 : Room := { frames := 2, cells := 0, slots := 0, locals := 43 }
set_option maxHeartbeats 4000000 in
set_option maxRecDepth 100000 in
theorem c_Jx4a65c_get_915e3 (l : Launch) (D : va_G × Nat) (S : PS) (a0 : Nat) (p1 : Int32) (r : Nat) (hf : f_Jx4a65c_get_915e3 S a0 p1 = some r) : MR l D yJx4a65c_get_915e3 wsJx4a65c_get_915e3 rmJx4a65c_get_915e3 S [.ref a0, .int p1] S r 0 0 := by
  unfold f_Jx4a65c_get_915e3 at hf
  refine Met.ofW (cc := cJx4a65c_get_915e3) (maxL := 2) (ret := (some (.object "java/lang/Object"))) (by decide) rfl ?_
  intro p e s m args below meth c s₁ B hml hv
  obtain ⟨rfl, hH0, hNE⟩ := hv
  have hx := B.exec
  have hb := B.bytes
  have hr := B.returns
  have hts := atoms_spec (ws := wsJx4a65c_get_915e3) B.pre
  have hown : s.vm.findClass RJx4a65c = some m.cls := findClass_of_methodNamed B.named
  have hlocks := B.notSynchronized
  have hH : HI D S S s s.heap [] := HI.start hH0
  have hl := lv_entry ([.ref a0, .int p1]) (n := 2) (Nat.le_of_ble_eq_true rfl)
  rw [lg_entry_eq]
  generalize (lg_sl ([.ref a0, .int p1]) ++ List.replicate (2 - (lg_sl ([.ref a0, .int p1])).length) Slot.unset).toArray = ls at hl ⊢
  have hl : lv_has ls 2 [(0, .ref a0), (1, .int p1)] := hl
  refine lv_iload_n hx hb dJx4a65c_get_915e3_0 rfl (lv_at hl 1 rfl) ?_
  refine lv_aload_n hx hb dJx4a65c_get_915e3_1 rfl (lv_at hl 0 rfl) ?_
  obtain ⟨ek1, hf⟩ := oc hf
  refine r_getI hx hb 2 hts (fun w h => List.mem_cons_of_mem _ (mwsJx4a65c0 w h)) hown hH ek1 (by decide) rfl 2 (by decide) rfl (hts (.fieldLink RJx4a65c 48 "java/util/ArrayList" "size" "I") (List.mem_cons_of_mem _ gw_1_19)) (fun _ h9 => h9) dJx4a65c_get_915e3_2 ?_
  obtain ⟨r2, e3, hf⟩ := ob hf
  refine r_callSi (As := [.int p1, .int (kI S a0 2)]) ⟨hx, hb, hml, hown, hts⟩ (c_J15_checkIndex_7cf53 l D S p1 (kI S a0 2) r2 e3) (va_cwS 2 hts (gwS gw_2_3 gw_2_4 gw_2_5 gw_1_21) rfl rfl rfl (by decide +kernel) ⟨Nat.le_of_ble_eq_true rfl, Nat.le_of_ble_eq_true rfl⟩) hH hNE rfl hl.1 rfl (Nat.le_of_ble_eq_true rfl) dJx4a65c_get_915e3_5 ⟨(Nat.le_of_ble_eq_true rfl), (Nat.le_of_ble_eq_true rfl)⟩ (fun H locs hH => ?_)
  refine lv_pop hx hb dJx4a65c_get_915e3_8 rfl ?_
  refine lv_aload_n hx hb dJx4a65c_get_915e3_9 rfl (lv_at hl 0 rfl) ?_
  refine lv_iload_n hx hb dJx4a65c_get_915e3_10 rfl (lv_at hl 1 rfl) ?_
  obtain ⟨r4, e5, hf⟩ := ob hf
  refine r_callVr (As := [.int p1]) ⟨hx, hb, hml, hown, hts⟩ (c_Jx4a65c_elementData_915e3 l D S a0 p1 r4 e5) (cwV 1 hts (gwV gw_2_6 gw_2_7 gw_2_8 gw_1_0 gw_2_1) rfl rfl rfl (by decide +kernel) ⟨Nat.le_of_ble_eq_true rfl, Nat.le_of_ble_eq_true rfl⟩) hH hNE 2 ek1 (by decide) rfl rfl rfl hl.1 rfl (Nat.le_of_ble_eq_true rfl) dJx4a65c_get_915e3_11 ⟨(Nat.le_of_ble_eq_true rfl), (Nat.le_of_ble_eq_true rfl)⟩ (fun H locs hH => ?_)
  have hr9 := Option.some.inj hf
  subst hr9
  exact e_r hx hb hr hlocks hH dJx4a65c_get_915e3_14
set_option maxRecDepth 100000 in
def f_Jxa1e45_init_da8c8 (S : PS) (a0 : Nat) : Option (Unit) := some ()
abbrev rmJxa1e45_init_da8c8 : Room := { frames := 1, cells := 0, slots := 0, locals := 16 }
set_option maxHeartbeats 4000000 in
set_option maxRecDepth 100000 in
theorem c_Jxa1e45_init_da8c8 (l : Launch) (D : va_G × Nat) (S : PS) (a0 : Nat) (r : Unit) (hf : f_Jxa1e45_init_da8c8 S a0 = some r) : MV l D yJxa1e45_init_da8c8 wsJxa1e45_init_da8c8 rmJxa1e45_init_da8c8 S [.ref a0] S 0 0 := by
  unfold f_Jxa1e45_init_da8c8 at hf
  refine Met.ofW (cc := cJxa1e45_init_da8c8) (maxL := 1) (ret := none) (by decide) rfl ?_
  intro p e s m args below meth c s₁ B hml hv
  obtain ⟨rfl, hH0, hNE⟩ := hv
  have hx := B.exec
  have hb := B.bytes
  have hr := B.returns
  have hts := atoms_spec (ws := wsJxa1e45_init_da8c8) B.pre
  have hown : s.vm.findClass RJxa1e45 = some m.cls := findClass_of_methodNamed B.named
  have hlocks := B.notSynchronized
  have hin : meth.name = "<init>" := (name_of_methodNamed B.named B.method).1
  have hH : HI D S S s s.heap [] := HI.start hH0
  have hl := lv_entry ([.ref a0]) (n := 1) (Nat.le_of_ble_eq_true rfl)
  rw [lg_entry_eq]
  generalize (lg_sl ([.ref a0]) ++ List.replicate (1 - (lg_sl ([.ref a0])).length) Slot.unset).toArray = ls at hl ⊢
  have hl : lv_has ls 1 [(0, .ref a0)] := hl
  refine lv_aload_n hx hb dJxa1e45_init_da8c8_0 rfl (lv_at hl 0 rfl) ?_
  refine W.objInit hx hb hown (hts (.methodLink RJxa1e45 1 objectInit) (List.mem_cons_of_mem _ gw_0_1)) (hts (.instanceMethod objectInit) (List.mem_cons_of_mem _ gw_0_2)) (hts (.code objectInit ⟨#[0xb1]⟩ 1 none) (List.mem_cons_of_mem _ gw_0_3)) rfl (by rw [hml]; exact hl.1) rfl dJxa1e45_init_da8c8_1 (Nat.le_of_ble_eq_true rfl) (Nat.le_of_ble_eq_true rfl) ?_
  refine W.eq (g2 := F0 m 4 ls []) rfl ?_
  have hr9 := Option.some.inj hf
  subst hr9
  exact e_v hx hb hr hlocks hH dJxa1e45_init_da8c8_4
set_option maxRecDepth 100000 in
def f_Jxc12de_init_da8c8 (S : PS) (a0 : Nat) : Option (PS) := (f_Jxa1e45_init_da8c8 S a0).bind fun r1 => if kK S a0 = 3 then (lt (wI S a0 0 0) fun S4 => some S4) else none
abbrev rmJxc12de_init_da8c8 : Room := { frames := 2, cells := 0, slots := 0, locals := 36 }
set_option maxHeartbeats 4000000 in
set_option maxRecDepth 100000 in
theorem c_Jxc12de_init_da8c8 (l : Launch) (D : va_G × Nat) (S : PS) (a0 : Nat) (r : PS) (hf : f_Jxc12de_init_da8c8 S a0 = some r) : MV l D yJxc12de_init_da8c8 wsJxc12de_init_da8c8 rmJxc12de_init_da8c8 S [.ref a0] r 0 0 := by
  unfold f_Jxc12de_init_da8c8 at hf
  refine Met.ofW (cc := cJxc12de_init_da8c8) (maxL := 1) (ret := none) (by decide) rfl ?_
  intro p e s m args below meth c s₁ B hml hv
  obtain ⟨rfl, hH0, hNE⟩ := hv
  have hx := B.exec
  have hb := B.bytes
  have hr := B.returns
  have hts := atoms_spec (ws := wsJxc12de_init_da8c8) B.pre
  have hown : s.vm.findClass RJxc12de = some m.cls := findClass_of_methodNamed B.named
  have hlocks := B.notSynchronized
  have hin : meth.name = "<init>" := (name_of_methodNamed B.named B.method).1
  have hH : HI D S S s s.heap [] := HI.start hH0
  have hl := lv_entry ([.ref a0]) (n := 1) (Nat.le_of_ble_eq_true rfl)
  rw [lg_entry_eq]
  generalize (lg_sl ([.ref a0]) ++ List.replicate (1 - (lg_sl ([.ref a0])).length) Slot.unset).toArray = ls at hl ⊢
  have hl : lv_has ls 1 [(0, .ref a0)] := hl
  refine lv_aload_n hx hb dJxc12de_init_da8c8_0 rfl (lv_at hl 0 rfl) ?_
  obtain ⟨r1, e2, hf⟩ := ob hf
  refine r_callIv (As := []) ⟨hx, hb, hml, hown, hts⟩ (c_Jxa1e45_init_da8c8 l D S a0 r1 e2) (cwI 0 hts (gwI (gwC gw_0_0)) rfl rfl rfl (hts (.initialized RJxa1e45) (List.mem_cons_of_mem _ gw_0_8)) (hts (.methodLink RJxc12de 1 yJxa1e45_init_da8c8) (List.mem_cons_of_mem _ gw_0_6)) (hts (.instanceMethod yJxa1e45_init_da8c8) (List.mem_cons_of_mem _ gw_0_7)) rfl (by decide +kernel) ⟨Nat.le_of_ble_eq_true rfl, Nat.le_of_ble_eq_true rfl⟩) hH hNE rfl hl.1 rfl (Nat.le_of_ble_eq_true rfl) dJxc12de_init_da8c8_1 ⟨(Nat.le_of_ble_eq_true rfl), (Nat.le_of_ble_eq_true rfl)⟩ (fun H locs hH => ?_)
  refine lv_aload_n hx hb dJxc12de_init_da8c8_4 rfl (lv_at hl 0 rfl) ?_
  refine lv_iconst (v := 0) hx hb dJxc12de_init_da8c8_5 (by decide) ?_
  obtain ⟨ek3, hf⟩ := oc hf
  refine r_putI hx hb 2 hts (fun w h => List.mem_cons_of_mem _ (mwsJx4a65c0 w h)) tyJx4a65c tyJx4a65c_ok nmJx4a65c hown hH ek3 (by decide) rfl 0 (by decide) rfl (hts (.fieldLink RJxc12de 7 "java/util/AbstractList" "modCount" "I") (List.mem_cons_of_mem _ gw_0_5)) (fun _ h9 => h9) (Or.inl rfl) (ty := .int) (by decide +kernel) rfl rfl dJxc12de_init_da8c8_6 (fun H locs hH => ?_)
  obtain ⟨S4, e5, hf⟩ := ol hf
  rw [e5] at hH
  have hr9 := Option.some.inj hf
  subst hr9
  exact e_v hx hb hr hlocks hH dJxc12de_init_da8c8_9
set_option maxRecDepth 100000 in
def f_Jx4a65c_init_da8c8 (S : PS) (a0 : Nat) : Option (PS) := (f_Jxc12de_init_da8c8 S a0).bind fun r1 => (kQ r1 0 0).bind fun a3 => if kK r1 a0 = 3 then (lt (wQ r1 a0 1 (some a3)) fun S6 => some S6) else none
abbrev rmJx4a65c_init_da8c8 : Room := { frames := 3, cells := 0, slots := 0, locals := 56 }
set_option maxHeartbeats 4000000 in
set_option maxRecDepth 100000 in
theorem c_Jx4a65c_init_da8c8 (l : Launch) (D : va_G × Nat) (S : PS) (a0 : Nat) (r : PS) (hf : f_Jx4a65c_init_da8c8 S a0 = some r) : MV l D yJx4a65c_init_da8c8 wsJx4a65c_init_da8c8 rmJx4a65c_init_da8c8 S [.ref a0] r 0 0 := by
  unfold f_Jx4a65c_init_da8c8 at hf
  refine Met.ofW (cc := cJx4a65c_init_da8c8) (maxL := 1) (ret := none) (by decide) rfl ?_
  intro p e s m args below meth c s₁ B hml hv
  obtain ⟨rfl, hH0, hNE⟩ := hv
  have hx := B.exec
  have hb := B.bytes
  have hr := B.returns
  have hts := atoms_spec (ws := wsJx4a65c_init_da8c8) B.pre
  have hown : s.vm.findClass RJx4a65c = some m.cls := findClass_of_methodNamed B.named
  have hlocks := B.notSynchronized
  have hin : meth.name = "<init>" := (name_of_methodNamed B.named B.method).1
  have hH : HI D S S s s.heap [] := HI.start hH0
  have hl := lv_entry ([.ref a0]) (n := 1) (Nat.le_of_ble_eq_true rfl)
  rw [lg_entry_eq]
  generalize (lg_sl ([.ref a0]) ++ List.replicate (1 - (lg_sl ([.ref a0])).length) Slot.unset).toArray = ls at hl ⊢
  have hl : lv_has ls 1 [(0, .ref a0)] := hl
  refine lv_aload_n hx hb dJx4a65c_init_da8c8_0 rfl (lv_at hl 0 rfl) ?_
  obtain ⟨r1, e2, hf⟩ := ob hf
  refine r_callIv (As := []) ⟨hx, hb, hml, hown, hts⟩ (c_Jxc12de_init_da8c8 l D S a0 r1 e2) (cwI 0 hts (gwI (gwC gw_0_4)) rfl rfl rfl (hts (.initialized RJxc12de) (List.mem_cons_of_mem _ gw_0_14)) (hts (.methodLink RJx4a65c 1 yJxc12de_init_da8c8) (List.mem_cons_of_mem _ gw_0_12)) (hts (.instanceMethod yJxc12de_init_da8c8) (List.mem_cons_of_mem _ gw_0_13)) rfl (by decide +kernel) ⟨Nat.le_of_ble_eq_true rfl, Nat.le_of_ble_eq_true rfl⟩) hH hNE rfl hl.1 rfl (Nat.le_of_ble_eq_true rfl) dJx4a65c_init_da8c8_1 ⟨(Nat.le_of_ble_eq_true rfl), (Nat.le_of_ble_eq_true rfl)⟩ (fun H locs hH => ?_)
  refine lv_aload_n hx hb dJx4a65c_init_da8c8_4 rfl (lv_at hl 0 rfl) ?_
  obtain ⟨a3, e4, hf⟩ := ob hf
  refine r_gets hx hb hH e4 hown (hts (.fieldLink RJx4a65c 39 "java/util/ArrayList" "DEFAULTCAPACITY_EMPTY_ELEMENTDATA" "[Ljava/lang/Object;") (List.mem_cons_of_mem _ gw_0_10)) dJx4a65c_init_da8c8_5 (fun _ => ?_)
  obtain ⟨ek5, hf⟩ := oc hf
  refine r_putQ hx hb 2 hts (fun w h => List.mem_cons_of_mem _ (mwsJx4a65c0 w h)) tyJx4a65c tyJx4a65c_ok nmJx4a65c hown hH ek5 (by decide) rfl 1 (by decide) rfl (hts (.fieldLink RJx4a65c 9 "java/util/ArrayList" "elementData" "[Ljava/lang/Object;") (List.mem_cons_of_mem _ gw_0_11)) (fun _ h9 => h9) (Or.inl rfl) (ty := (.array (.object "java/lang/Object"))) (by decide +kernel) rfl rfl dJx4a65c_init_da8c8_8 (fun H locs hH => ?_)
  obtain ⟨S6, e7, hf⟩ := ol hf
  rw [e7] at hH
  have hr9 := Option.some.inj hf
  subst hr9
  exact e_v hx hb hr hlocks hH dJx4a65c_init_da8c8_11
set_option maxRecDepth 100000 in
def f_J8_newLength_cabcc (S : PS) (p0 : Int32) (p1 : Int32) (p2 : Int32) : Option (Int32) := lt (p0 + (if p1 < p2 then p2 else p1)) fun x1 => lt (fun (u4 : Unit) => none) fun j3 => if x1 ≤ (0 : Int32) then (j3 ()) else (if (2147483639 : Int32) < x1 then (j3 ()) else (some x1))
abbrev rmJ8_newLength_cabcc : Room := { frames := 1, cells := 0, slots := 0, locals := 24 }
set_option maxHeartbeats 4000000 in
set_option maxRecDepth 100000 in
theorem c_J8_newLength_cabcc (l : Launch) (D : va_G × Nat) (S : PS) (p0 : Int32) (p1 : Int32) (p2 : Int32) (r : Int32) (hf : f_J8_newLength_cabcc S p0 p1 p2 = some r) : MI l D yJ8_newLength_cabcc wsJ8_newLength_cabcc rmJ8_newLength_cabcc S [.int p0, .int p1, .int p2] S r 0 0 := by
  unfold f_J8_newLength_cabcc at hf
  refine Met.ofW (cc := cJ8_newLength_cabcc) (maxL := 4) (ret := (some .int)) (by decide) rfl ?_
  intro p e s m args below meth c s₁ B hml hv
  obtain ⟨rfl, hH0, hNE⟩ := hv
  have hx := B.exec
  have hb := B.bytes
  have hr := B.returns
  have hts := atoms_spec (ws := wsJ8_newLength_cabcc) B.pre
  have hown : s.vm.findClass RJ8 = some m.cls := findClass_of_methodNamed B.named
  have hlocks := B.notSynchronized
  have hH : HI D S S s s.heap [] := HI.start hH0
  have hl := lv_entry ([.int p0, .int p1, .int p2]) (n := 4) (Nat.le_of_ble_eq_true rfl)
  rw [lg_entry_eq]
  generalize (lg_sl ([.int p0, .int p1, .int p2]) ++ List.replicate (4 - (lg_sl ([.int p0, .int p1, .int p2])).length) Slot.unset).toArray = ls at hl ⊢
  have hl : lv_has ls 4 [(0, .int p0), (1, .int p1), (2, .int p2)] := hl
  refine lv_iload_n hx hb dJ8_newLength_cabcc_0 rfl (lv_at hl 0 rfl) ?_
  refine lv_iload_n hx hb dJ8_newLength_cabcc_1 rfl (lv_at hl 1 rfl) ?_
  refine lv_iload_n hx hb dJ8_newLength_cabcc_2 rfl (lv_at hl 2 rfl) ?_
  refine va_mmax hx hb (hml.trans hl.1.symm) hown (hts (.methodLink RJ8 194 Lib.Math.max.name) (List.mem_cons_of_mem _ gw_14_16)) (hts (.static Lib.Math.max.name) (List.mem_cons_of_mem _ gw_14_17)) (hts (.initialized "java/lang/Math") (List.mem_cons_of_mem _ gw_14_18)) (hts (.code Lib.Math.max.name Lib.Math.max.code 2 (some .int)) (List.mem_cons_of_mem _ gw_14_19)) (Nat.le_of_ble_eq_true rfl) (Nat.le_of_ble_eq_true rfl) (Nat.le_of_ble_eq_true rfl) (Nat.le_of_ble_eq_true rfl) dJ8_newLength_cabcc_3 ?_
  refine lv_iadd hx hb dJ8_newLength_cabcc_6 ?_
  obtain ⟨x1, e2, hf⟩ := ol hf
  refine lv_topE e2 ?_
  refine lv_istore_n (lv' := [(3, .int x1), (0, .int p0), (1, .int p1), (2, .int p2)]) hx hb dJ8_newLength_cabcc_7 rfl hl (by decide) rfl (fun ls hl => ?_)
  refine lv_iconst (v := 0) hx hb dJ8_newLength_cabcc_8 (by decide) ?_
  refine lv_iload_n hx hb dJ8_newLength_cabcc_9 rfl (lv_at hl 0 rfl) ?_
  obtain ⟨j3, e5, hf⟩ := ol hf
  have Jj3 : ∀ (u4 : Unit) (H : Heap) (locs : List Loc) (ls : Array Slot), HI D S S s H locs → lv_has ls 4 [] → j3 u4 = some r → GI p l e (headSpec wsJ8_newLength_cabcc rmJ8_newLength_cabcc).room s m ([.int p0, .int p1, .int p2] : List Value).toArray below meth c D S S r H locs 0 0 0 0 (F0 m 21 ls []) := by
    intro u4 H locs ls hH hl hf
    rw [← e5] at hf
    cases hf
  refine lv_icmp_ge (tgt := 21) hx hb dJ8_newLength_cabcc_10 (by decide) (fun c6 => ?_) (fun c6 => ?_)
  · have hf := ip hf c6
    exact Jj3 () _ _ ls hH (lv_sub hl [] rfl) hf
  · have hf := iq hf c6
    refine lv_iload_n hx hb dJ8_newLength_cabcc_13 rfl (lv_at hl 0 rfl) ?_
    refine lv_ldc hx hb hown (hts (.constant RJ8 200 (2147483639)) (List.mem_cons_of_mem _ gw_14_14)) dJ8_newLength_cabcc_14 ?_
    refine lv_icmp_gt (tgt := 21) hx hb dJ8_newLength_cabcc_16 (by decide) (fun c7 => ?_) (fun c7 => ?_)
    · have hf := ip hf c7
      exact Jj3 () _ _ ls hH (lv_sub hl [] rfl) hf
    · have hf := iq hf c7
      refine lv_iload_n hx hb dJ8_newLength_cabcc_19 rfl (lv_at hl 0 rfl) ?_
      have hr9 := Option.some.inj hf
      subst hr9
      exact e_i hx hb hr hlocks hH dJ8_newLength_cabcc_20
