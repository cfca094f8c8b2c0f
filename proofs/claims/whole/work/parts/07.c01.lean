set_option maxRecDepth 100000 in
def f_X9_takeOut_b11 (a0 : Nat) (p1 : Int32) (x11 : Int32) (S12 : PS) : Option ((Int32 × PS) ⊕ ((PS))) := if kK S12 a0 = 13 then ((kQ S12 a0 4).bind fun a22 => if kK S12 a22 = 3 then ((f_Jx4a65c_size_8abf5 S12 a22).bind fun r25 => if r25 ≤ x11 then (some (.inr S12)) else ((f_Jx4a65c_get_915e3 S12 a22 x11).bind fun r28 => if kK S12 r28 = 5 then ((f_X1_followTake S12 r28 p1).bind fun r31 => lt (x11 + 1) fun x33 => some (.inl (x33, r31))) else none)) else none) else none
set_option maxRecDepth 100000 in
def f_X9_takeOut (S : PS) (a0 : Nat) (p1 : Int32) : Option (PS × Int32) := if kK S a0 = 13 then ((kQ S a0 1).bind fun a2 => if kK S a2 = 11 then ((f_X7_remove S a2 p1).bind fun r5 => lt r5.1 fun S7 => lt r5.2 fun x9 => lt (fun (S13 : PS) => if kK S13 a0 = 13 then ((f_X9_noteStale S13 a0).bind fun r17 => if vp_nar .char x9 = x9 then (some (r17, x9)) else none) else none) fun k14 => (iter (fun (v : Int32 × PS) => f_X9_takeOut_b11 a0 p1 v.1 v.2) kF (0, S7)).bind (fun (v : PS) => k14 v)) else none) else none
abbrev rmX9_takeOut : Room := { frames := 3, cells := 0, slots := 0, locals := 67 }
set_option maxHeartbeats 4000000 in
set_option maxRecDepth 100000 in
theorem c_X9_takeOut (l : Launch) (D : va_G × Nat) (S : PS) (a0 : Nat) (p1 : Int32) (r : PS × Int32) (hf : f_X9_takeOut S a0 p1 = some r) : MI l D yX9_takeOut wsX9_takeOut rmX9_takeOut S [.ref a0, .int p1] r.1 r.2 0 0 := by
  unfold f_X9_takeOut at hf
  refine Met.ofW (cc := cX9_takeOut) (maxL := 4) (ret := (some .char)) (by decide) rfl ?_
  intro p e s m args below meth c s₁ B hml hv
  obtain ⟨rfl, hH0, hNE⟩ := hv
  have hx := B.exec
  have hb := B.bytes
  have hr := B.returns
  have hts := atoms_spec (ws := wsX9_takeOut) B.pre
  have hown : s.vm.findClass RX9 = some m.cls := findClass_of_methodNamed B.named
  have hlocks := B.notSynchronized
  have hH : HI D S S s s.heap [] := HI.start hH0
  have hl := lv_entry ([.ref a0, .int p1]) (n := 4) (Nat.le_of_ble_eq_true rfl)
  rw [lg_entry_eq]
  generalize (lg_sl ([.ref a0, .int p1]) ++ List.replicate (4 - (lg_sl ([.ref a0, .int p1])).length) Slot.unset).toArray = ls at hl ⊢
  have hl : lv_has ls 4 [(0, .ref a0), (1, .int p1)] := hl
  refine lv_aload_n hx hb dX9_takeOut_0 rfl (lv_at hl 0 rfl) ?_
  obtain ⟨ek1, hf⟩ := oc hf
  obtain ⟨a2, e3, hf⟩ := ob hf
  refine r_getQ hx hb 12 hts (fun w h => List.mem_cons_of_mem _ (mwsX90 w h)) hown hH ek1 (by decide) rfl 1 (by decide) rfl (hts (.fieldLink RX9 21 "Housestyle" "text" "LHousestyle$Text;") (List.mem_cons_of_mem _ gw_20_0)) (fun _ h9 => h9) dX9_takeOut_1 e3 ?_
  refine lv_iload_n hx hb dX9_takeOut_4 rfl (lv_at hl 1 rfl) ?_
  obtain ⟨ek4, hf⟩ := oc hf
  obtain ⟨r5, e6, hf⟩ := ob hf
  refine r_callVi (As := [.int p1]) ⟨hx, hb, hml, hown, hts⟩ (c_X7_remove l D S a2 p1 r5 e6) (cwV 1 hts (gwV gw_22_23 gw_23_0 gw_23_1 gw_17_23 gw_18_4) rfl rfl rfl (by decide +kernel) ⟨Nat.le_of_ble_eq_true rfl, Nat.le_of_ble_eq_true rfl⟩) hH hNE 10 ek4 (by decide) rfl rfl rfl hl.1 rfl (Nat.le_of_ble_eq_true rfl) dX9_takeOut_5 ⟨(Nat.le_of_ble_eq_true rfl), (Nat.le_of_ble_eq_true rfl)⟩ (fun H locs hH => ?_)
  obtain ⟨S7, e8, hf⟩ := ol hf
  rw [e8] at hH
  obtain ⟨x9, e10, hf⟩ := ol hf
  refine lv_topE e10 ?_
  refine lv_istore_n (lv' := [(2, .int x9), (0, .ref a0), (1, .int p1)]) hx hb dX9_takeOut_8 rfl hl (by decide) rfl (fun ls hl => ?_)
  refine lv_iconst (v := 0) hx hb dX9_takeOut_9 (by decide) ?_
  refine lv_istore_n (lv' := [(3, .int 0), (2, .int x9), (0, .ref a0), (1, .int p1)]) hx hb dX9_takeOut_10 rfl hl (by decide) rfl (fun ls hl => ?_)
  obtain ⟨k14, e15, hf⟩ := ol hf
  have Xk14 : ∀ (S13 : PS) (H : Heap) (locs : List Loc) (ls : Array Slot), HI D S S13 s H locs → lv_has ls 4 [(0, .ref a0), (2, .int x9)] → k14 S13 = some r → GI p l e (headSpec wsX9_takeOut rmX9_takeOut).room s m ([.ref a0, .int p1] : List Value).toArray below meth c D S r.1 r.2 H locs 0 0 0 0 (F0 m 43 ls []) := by
    intro S13 H locs ls hH hl hf
    rw [← e15] at hf
    refine lv_aload_n hx hb dX9_takeOut_43 rfl (lv_at hl 0 rfl) ?_
    obtain ⟨ek16, hf⟩ := oc hf
    obtain ⟨r17, e18, hf⟩ := ob hf
    refine r_callVv (As := []) ⟨hx, hb, hml, hown, hts⟩ (c_X9_noteStale l D S13 a0 r17 e18) (cwV 0 hts (gwV gw_22_8 gw_22_9 gw_22_10 gw_14_5 gw_21_21) rfl rfl rfl (by decide +kernel) ⟨Nat.le_of_ble_eq_true rfl, Nat.le_of_ble_eq_true rfl⟩) hH hNE 12 ek16 (by decide) rfl rfl rfl hl.1 rfl (Nat.le_of_ble_eq_true rfl) dX9_takeOut_44 ⟨(Nat.le_of_ble_eq_true rfl), (Nat.le_of_ble_eq_true rfl)⟩ (fun H locs hH => ?_)
    refine lv_iload_n hx hb dX9_takeOut_47 rfl (lv_at hl 1 rfl) ?_
    obtain ⟨en19, hf⟩ := oc hf
    have hr9 := Option.some.inj hf
    subst hr9
    exact e_z hx hb hr hlocks (nar_C en19) hH dX9_takeOut_48
  obtain ⟨o20, eo20, hq20f⟩ := ob hf
  have Lo20 : ∀ (n : Nat) (x11 : Int32) (S12 : PS), iter (fun (v : Int32 × PS) => f_X9_takeOut_b11 a0 p1 v.1 v.2) n (x11, S12) = some o20 → ∀ (H : Heap) (locs : List Loc) (ls : Array Slot), HI D S S12 s H locs → lv_has ls 4 [(0, .ref a0), (1, .int p1), (2, .int x9), (3, .int x11)] → GI p l e (headSpec wsX9_takeOut rmX9_takeOut).room s m ([.ref a0, .int p1] : List Value).toArray below meth c D S r.1 r.2 H locs 0 0 0 0 (F0 m 11 ls []) := by
    intro n
    induction n with
    | zero => intro x11 S12 hi; cases hi
    | succ n ih20 =>
      intro x11 S12 hi H locs ls hH hl
      obtain ⟨q20_, hf, hq20⟩ := iter_s hi
      have hf : f_X9_takeOut_b11 a0 p1 x11 S12 = some q20_ := hf
      unfold f_X9_takeOut_b11 at hf
      refine lv_iload_n hx hb dX9_takeOut_11 rfl (lv_at hl 3 rfl) ?_
      refine lv_aload_n hx hb dX9_takeOut_12 rfl (lv_at hl 0 rfl) ?_
      obtain ⟨ek21, hf⟩ := oc hf
      obtain ⟨a22, e23, hf⟩ := ob hf
      refine r_getQ hx hb 12 hts (fun w h => List.mem_cons_of_mem _ (mwsX90 w h)) hown hH ek21 (by decide) rfl 4 (by decide) rfl (hts (.fieldLink RX9 47 "Housestyle" "desks" "Ljava/util/ArrayList;") (List.mem_cons_of_mem _ gw_20_8)) (fun _ h9 => h9) dX9_takeOut_13 e23 ?_
      obtain ⟨ek24, hf⟩ := oc hf
      obtain ⟨r25, e26, hf⟩ := ob hf
      refine r_callVi (As := []) ⟨hx, hb, hml, hown, hts⟩ (c_Jx4a65c_size_8abf5 l D S12 a22 r25 e26) (cwV 0 hts (gwV gw_22_3 gw_4_10 gw_4_11 gw_1_0 gw_1_18) rfl rfl rfl (by decide +kernel) ⟨Nat.le_of_ble_eq_true rfl, Nat.le_of_ble_eq_true rfl⟩) hH hNE 2 ek24 (by decide) rfl rfl rfl hl.1 rfl (Nat.le_of_ble_eq_true rfl) dX9_takeOut_16 ⟨(Nat.le_of_ble_eq_true rfl), (Nat.le_of_ble_eq_true rfl)⟩ (fun H locs hH => ?_)
      refine lv_icmp_ge (tgt := 43) hx hb dX9_takeOut_19 (by decide) (fun c27 => ?_) (fun c27 => ?_)
      · have hf := ip hf c27
        cases hf
        have hf9 := itR (K := (fun (v : PS) => k14 v)) hq20 hq20f
        exact Xk14 S12 _ _ ls hH (lv_sub hl [0, 2] rfl) hf9
      · have hf := iq hf c27
        refine lv_aload_n hx hb dX9_takeOut_22 rfl (lv_at hl 0 rfl) ?_
        refine r_getQ hx hb 12 hts (fun w h => List.mem_cons_of_mem _ (mwsX90 w h)) hown hH ek21 (by decide) rfl 4 (by decide) rfl (hts (.fieldLink RX9 47 "Housestyle" "desks" "Ljava/util/ArrayList;") (List.mem_cons_of_mem _ gw_20_8)) (fun _ h9 => h9) dX9_takeOut_23 e23 ?_
        refine lv_iload_n hx hb dX9_takeOut_26 rfl (lv_at hl 3 rfl) ?_
        obtain ⟨r28, e29, hf⟩ := ob hf
        refine r_callVr (As := [.int x11]) ⟨hx, hb, hml, hown, hts⟩ (c_Jx4a65c_get_915e3 l D S12 a22 x11 r28 e29) (cwV 1 hts (gwV gw_22_4 gw_4_13 gw_4_14 gw_1_0 gw_2_2) rfl rfl rfl (by decide +kernel) ⟨Nat.le_of_ble_eq_true rfl, Nat.le_of_ble_eq_true rfl⟩) hH hNE 2 ek24 (by decide) rfl rfl rfl hl.1 rfl (Nat.le_of_ble_eq_true rfl) dX9_takeOut_27 ⟨(Nat.le_of_ble_eq_true rfl), (Nat.le_of_ble_eq_true rfl)⟩ (fun H locs hH => ?_)
        obtain ⟨ek30, hf⟩ := oc hf
        refine r_castS 4 hx hb hown (hts (.classLink RX9 51 "Housestyle$Desk") (List.mem_cons_of_mem _ gw_21_23)) hH ek30 (by decide) rfl rfl dX9_takeOut_30 ?_
        refine lv_iload_n hx hb dX9_takeOut_33 rfl (lv_at hl 1 rfl) ?_
        obtain ⟨r31, e32, hf⟩ := ob hf
        refine r_callVv (As := [.int p1]) ⟨hx, hb, hml, hown, hts⟩ (c_X1_followTake l D S12 r28 p1 r31 e32) (cwV 1 hts (gwV gw_23_2 gw_23_3 gw_23_4 gw_9_20 gw_10_8) rfl rfl rfl (by decide +kernel) ⟨Nat.le_of_ble_eq_true rfl, Nat.le_of_ble_eq_true rfl⟩) hH hNE 4 ek30 (by decide) rfl rfl rfl hl.1 rfl (Nat.le_of_ble_eq_true rfl) dX9_takeOut_34 ⟨(Nat.le_of_ble_eq_true rfl), (Nat.le_of_ble_eq_true rfl)⟩ (fun H locs hH => ?_)
        obtain ⟨x33, e34, hf⟩ := ol hf
        refine lv_iinc (v := x33) (lv' := [(3, .int x33), (0, .ref a0), (1, .int p1), (2, .int x9)]) hx hb dX9_takeOut_37 hl (k := 3) rfl (by rw [← e34]; rfl) (by decide) rfl (fun ls hl => ?_)
        refine lv_goto (tgt := 11) hx hb dX9_takeOut_40 (by decide) ?_
        cases hf
        exact ih20 x33 r31 hq20 _ _ ls hH (lv_sub hl [1, 2, 3, 0] rfl)
  exact Lo20 kF 0 S7 eo20 _ _ ls hH (lv_sub hl [2, 3, 1, 0] rfl)
set_option maxRecDepth 100000 in
def f_X9_take (S : PS) (a0 : Nat) (p1 : Int32) : Option ((PS × Int32) ⊕ (PS × Nat)) := if kK S a0 = 13 then (bx1 (f_X9_needPlace S a0 p1) fun S3 => if kK S3 a0 = 13 then ((f_X9_takeOut S3 a0 p1).bind fun r5 => lt r5.1 fun S7 => if vp_nar .char r5.2 = r5.2 then (some (.inl (S7, r5.2))) else none) else none) else none
abbrev rmX9_take : Room := { frames := 7, cells := 1, slots := 6, locals := 111 }
set_option maxHeartbeats 4000000 in
set_option maxRecDepth 100000 in
theorem c_X9_take (l : Launch) (hst9 : l.stackTraces = false) (D : va_G × Nat) (S : PS) (a0 : Nat) (p1 : Int32) (r : (PS × Int32) ⊕ (PS × Nat)) (hf : f_X9_take S a0 p1 = some r) : XM l D yX9_take wsX9_take rmX9_take S [.ref a0, .int p1] (mI r) 1 6 := by
  unfold f_X9_take at hf
  refine vx_ofW (cc := cX9_take) (maxL := 2) (ret := (some .char)) (by decide) rfl ?_
  intro p e s m args below meth c s₁ B hml hxt hv
  obtain ⟨rfl, hH0, hE, hNE⟩ := hv
  have hB := hH0.base
  have hx := B.exec
  have hb := B.bytes
  have hr := B.returns
  have hts := atoms_spec (ws := wsX9_take) B.pre
  have hown : s.vm.findClass RX9 = some m.cls := findClass_of_methodNamed B.named
  have hlocks := B.notSynchronized
  have hH : HI D S S s s.heap [] := HI.start hH0
  have hl := lv_entry ([.ref a0, .int p1]) (n := 2) (Nat.le_of_ble_eq_true rfl)
  rw [lg_entry_eq]
  generalize (lg_sl ([.ref a0, .int p1]) ++ List.replicate (2 - (lg_sl ([.ref a0, .int p1])).length) Slot.unset).toArray = ls at hl ⊢
  have hl : lv_has ls 2 [(0, .ref a0), (1, .int p1)] := hl
  refine lv_aload_n hx hb dX9_take_0 rfl (lv_at hl 0 rfl) ?_
  refine lv_iload_n hx hb dX9_take_1 rfl (lv_at hl 1 rfl) ?_
  obtain ⟨ek1, hf⟩ := oc hf
  rcases obx1 hf with ⟨x3_, e2, rfl⟩ | ⟨S3, e2, hf⟩
  · refine r_xVex (As := [.int p1]) ⟨hx, hb, hml, hown, hts⟩ (c_X9_needPlace l hst9 D S a0 p1 (.inr x3_) e2) (cwV 1 hts (gwV gw_23_6 gw_23_7 gw_23_8 gw_14_5 gw_22_21) rfl rfl rfl (by decide +kernel) ⟨Nat.le_of_ble_eq_true rfl, Nat.le_of_ble_eq_true rfl⟩) hH hE hB hNE 12 ek1 (by decide) rfl rfl rfl hl.1 rfl (Nat.le_of_ble_eq_true rfl) dX9_take_2 ⟨(Nat.le_of_ble_eq_true rfl), (Nat.le_of_ble_eq_true rfl)⟩ (fun z9 ce9 q9 H locs hH hk9 hz9 h91 h92 h93 => ?_)
    exact x_out hxt hlocks hH hk9 hz9 h91 h92 h93 ⟨Nat.le_of_ble_eq_true rfl, Nat.le_of_ble_eq_true rfl⟩
  refine r_xVok (As := [.int p1]) (S' := S3) (v := none) (st1 := []) ⟨hx, hb, hml, hown, hts⟩ (c_X9_needPlace l hst9 D S a0 p1 (.inl S3) e2) (cwV 1 hts (gwV gw_23_6 gw_23_7 gw_23_8 gw_14_5 gw_22_21) rfl rfl rfl (by decide +kernel) ⟨Nat.le_of_ble_eq_true rfl, Nat.le_of_ble_eq_true rfl⟩) hH hE hB hNE 12 ek1 (by decide) rfl rfl rfl hl.1 rfl (Nat.le_of_ble_eq_true rfl) dX9_take_2 ⟨(Nat.le_of_ble_eq_true rfl), (Nat.le_of_ble_eq_true rfl)⟩ rfl (fun H locs hH => ?_)
  refine W.widen (k := 1) (n := 6) (by omega) (by omega) ?_
  refine lv_aload_n hx hb dX9_take_5 rfl (lv_at hl 0 rfl) ?_
  refine lv_iload_n hx hb dX9_take_6 rfl (lv_at hl 1 rfl) ?_
  obtain ⟨ek4, hf⟩ := oc hf
  obtain ⟨r5, e6, hf⟩ := ob hf
  refine r_callVi (As := [.int p1]) ⟨hx, hb, hml, hown, hts⟩ (c_X9_takeOut l D S3 a0 p1 r5 e6) (cwV 1 hts (gwV gw_23_9 gw_23_10 gw_23_11 gw_14_5 gw_22_22) rfl rfl rfl (by decide +kernel) ⟨Nat.le_of_ble_eq_true rfl, Nat.le_of_ble_eq_true rfl⟩) hH hNE 12 ek4 (by decide) rfl rfl rfl hl.1 rfl (Nat.le_of_ble_eq_true rfl) dX9_take_7 ⟨(Nat.le_of_ble_eq_true rfl), (Nat.le_of_ble_eq_true rfl)⟩ (fun H locs hH => ?_)
  obtain ⟨S7, e8, hf⟩ := ol hf
  rw [e8] at hH
  obtain ⟨en9, hf⟩ := oc hf
  have hr9 := Option.some.inj hf
  subst hr9
  exact x_z hx hb hr hlocks (nar_C en9) hH dX9_take_10
set_option maxRecDepth 100000 in
def f_X9_at (S : PS) (a0 : Nat) (p1 : Int32) : Option ((PS × Int32) ⊕ (PS × Nat)) := if kK S a0 = 13 then (bx1 (f_X9_needPlace S a0 p1) fun S3 => if kK S3 a0 = 13 then ((kQ S3 a0 1).bind fun a5 => if kK S3 a5 = 11 then ((kQ S3 a5 0).bind fun a8 => if kK S3 a8 = 9 then ((f_X5_get S3 a8 p1).bind fun r11 => if vp_nar .char ((r11.toUInt32 % 65536).toInt32) = ((r11.toUInt32 % 65536).toInt32) then (some (.inl (S3, ((r11.toUInt32 % 65536).toInt32)))) else none) else none) else none) else none) else none
abbrev rmX9_at : Room := { frames := 7, cells := 1, slots := 6, locals := 111 }
set_option maxHeartbeats 4000000 in
set_option maxRecDepth 100000 in
theorem c_X9_at (l : Launch) (hst9 : l.stackTraces = false) (D : va_G × Nat) (S : PS) (a0 : Nat) (p1 : Int32) (r : (PS × Int32) ⊕ (PS × Nat)) (hf : f_X9_at S a0 p1 = some r) : XM l D yX9_at wsX9_at rmX9_at S [.ref a0, .int p1] (mI r) 1 6 := by
  unfold f_X9_at at hf
  refine vx_ofW (cc := cX9_at) (maxL := 2) (ret := (some .char)) (by decide) rfl ?_
  intro p e s m args below meth c s₁ B hml hxt hv
  obtain ⟨rfl, hH0, hE, hNE⟩ := hv
  have hB := hH0.base
  have hx := B.exec
  have hb := B.bytes
  have hr := B.returns
  have hts := atoms_spec (ws := wsX9_at) B.pre
  have hown : s.vm.findClass RX9 = some m.cls := findClass_of_methodNamed B.named
  have hlocks := B.notSynchronized
  have hH : HI D S S s s.heap [] := HI.start hH0
  have hl := lv_entry ([.ref a0, .int p1]) (n := 2) (Nat.le_of_ble_eq_true rfl)
  rw [lg_entry_eq]
  generalize (lg_sl ([.ref a0, .int p1]) ++ List.replicate (2 - (lg_sl ([.ref a0, .int p1])).length) Slot.unset).toArray = ls at hl ⊢
  have hl : lv_has ls 2 [(0, .ref a0), (1, .int p1)] := hl
  refine lv_aload_n hx hb dX9_at_0 rfl (lv_at hl 0 rfl) ?_
  refine lv_iload_n hx hb dX9_at_1 rfl (lv_at hl 1 rfl) ?_
  obtain ⟨ek1, hf⟩ := oc hf
  rcases obx1 hf with ⟨x3_, e2, rfl⟩ | ⟨S3, e2, hf⟩
  · refine r_xVex (As := [.int p1]) ⟨hx, hb, hml, hown, hts⟩ (c_X9_needPlace l hst9 D S a0 p1 (.inr x3_) e2) (cwV 1 hts (gwV gw_23_6 gw_23_7 gw_23_8 gw_14_5 gw_22_21) rfl rfl rfl (by decide +kernel) ⟨Nat.le_of_ble_eq_true rfl, Nat.le_of_ble_eq_true rfl⟩) hH hE hB hNE 12 ek1 (by decide) rfl rfl rfl hl.1 rfl (Nat.le_of_ble_eq_true rfl) dX9_at_2 ⟨(Nat.le_of_ble_eq_true rfl), (Nat.le_of_ble_eq_true rfl)⟩ (fun z9 ce9 q9 H locs hH hk9 hz9 h91 h92 h93 => ?_)
    exact x_out hxt hlocks hH hk9 hz9 h91 h92 h93 ⟨Nat.le_of_ble_eq_true rfl, Nat.le_of_ble_eq_true rfl⟩
  refine r_xVok (As := [.int p1]) (S' := S3) (v := none) (st1 := []) ⟨hx, hb, hml, hown, hts⟩ (c_X9_needPlace l hst9 D S a0 p1 (.inl S3) e2) (cwV 1 hts (gwV gw_23_6 gw_23_7 gw_23_8 gw_14_5 gw_22_21) rfl rfl rfl (by decide +kernel) ⟨Nat.le_of_ble_eq_true rfl, Nat.le_of_ble_eq_true rfl⟩) hH hE hB hNE 12 ek1 (by decide) rfl rfl rfl hl.1 rfl (Nat.le_of_ble_eq_true rfl) dX9_at_2 ⟨(Nat.le_of_ble_eq_true rfl), (Nat.le_of_ble_eq_true rfl)⟩ rfl (fun H locs hH => ?_)
  refine W.widen (k := 1) (n := 6) (by omega) (by omega) ?_
  refine lv_aload_n hx hb dX9_at_5 rfl (lv_at hl 0 rfl) ?_
  obtain ⟨ek4, hf⟩ := oc hf
  obtain ⟨a5, e6, hf⟩ := ob hf
  refine r_getQ hx hb 12 hts (fun w h => List.mem_cons_of_mem _ (mwsX90 w h)) hown hH ek4 (by decide) rfl 1 (by decide) rfl (hts (.fieldLink RX9 21 "Housestyle" "text" "LHousestyle$Text;") (List.mem_cons_of_mem _ gw_20_0)) (fun _ h9 => h9) dX9_at_6 e6 ?_
  obtain ⟨ek7, hf⟩ := oc hf
  obtain ⟨a8, e9, hf⟩ := ob hf
  refine r_getQN hx hb 10 hts (fun w h => List.mem_cons_of_mem _ (mwsX70 w h)) hown hH ek7 (by decide) rfl 0 (by decide) rfl (nf_0 hNE) (fun _ h9 => h9) dX9_at_9 e9 ?_
  refine lv_iload_n hx hb dX9_at_12 rfl (lv_at hl 1 rfl) ?_
  obtain ⟨ek10, hf⟩ := oc hf
  obtain ⟨r11, e12, hf⟩ := ob hf
  refine r_callVi (As := [.int p1]) ⟨hx, hb, hml, hown, hts⟩ (c_X5_get l D S3 a8 p1 r11 e12) (cwV 1 hts (gwV gw_14_2 gw_2_13 gw_2_14 gw_1_5 gw_2_9) rfl rfl rfl (by decide +kernel) ⟨Nat.le_of_ble_eq_true rfl, Nat.le_of_ble_eq_true rfl⟩) hH hNE 8 ek10 (by decide) rfl rfl rfl hl.1 rfl (Nat.le_of_ble_eq_true rfl) dX9_at_13 ⟨(Nat.le_of_ble_eq_true rfl), (Nat.le_of_ble_eq_true rfl)⟩ (fun H locs hH => ?_)
  refine lv_i2c hx hb dX9_at_16 rfl ?_
  obtain ⟨en13, hf⟩ := oc hf
  have hr9 := Option.some.inj hf
  subst hr9
  exact x_z hx hb hr hlocks (nar_C en13) hH dX9_at_17
set_option maxRecDepth 100000 in
def f_X9_length (S : PS) (a0 : Nat) : Option (Int32) := if kK S a0 = 13 then ((kQ S a0 1).bind fun a2 => if kK S a2 = 11 then ((kQ S a2 0).bind fun a5 => if kK S a5 = 9 then ((f_X5_count S a5).bind fun r8 => some r8) else none) else none) else none
abbrev rmX9_length : Room := { frames := 1, cells := 0, slots := 0, locals := 20 }
set_option maxHeartbeats 4000000 in
set_option maxRecDepth 100000 in
theorem c_X9_length (l : Launch) (D : va_G × Nat) (S : PS) (a0 : Nat) (r : Int32) (hf : f_X9_length S a0 = some r) : MI l D yX9_length wsX9_length rmX9_length S [.ref a0] S r 0 0 := by
  unfold f_X9_length at hf
  refine Met.ofW (cc := cX9_length) (maxL := 1) (ret := (some .int)) (by decide) rfl ?_
  intro p e s m args below meth c s₁ B hml hv
  obtain ⟨rfl, hH0, hNE⟩ := hv
  have hx := B.exec
  have hb := B.bytes
  have hr := B.returns
  have hts := atoms_spec (ws := wsX9_length) B.pre
  have hown : s.vm.findClass RX9 = some m.cls := findClass_of_methodNamed B.named
  have hlocks := B.notSynchronized
  have hH : HI D S S s s.heap [] := HI.start hH0
  have hl := lv_entry ([.ref a0]) (n := 1) (Nat.le_of_ble_eq_true rfl)
  rw [lg_entry_eq]
  generalize (lg_sl ([.ref a0]) ++ List.replicate (1 - (lg_sl ([.ref a0])).length) Slot.unset).toArray = ls at hl ⊢
  have hl : lv_has ls 1 [(0, .ref a0)] := hl
  refine lv_aload_n hx hb dX9_length_0 rfl (lv_at hl 0 rfl) ?_
  obtain ⟨ek1, hf⟩ := oc hf
  obtain ⟨a2, e3, hf⟩ := ob hf
  refine r_getQ hx hb 12 hts (fun w h => List.mem_cons_of_mem _ (mwsX90 w h)) hown hH ek1 (by decide) rfl 1 (by decide) rfl (hts (.fieldLink RX9 21 "Housestyle" "text" "LHousestyle$Text;") (List.mem_cons_of_mem _ gw_20_0)) (fun _ h9 => h9) dX9_length_1 e3 ?_
  obtain ⟨ek4, hf⟩ := oc hf
  obtain ⟨a5, e6, hf⟩ := ob hf
  refine r_getQN hx hb 10 hts (fun w h => List.mem_cons_of_mem _ (mwsX70 w h)) hown hH ek4 (by decide) rfl 0 (by decide) rfl (nf_0 hNE) (fun _ h9 => h9) dX9_length_4 e6 ?_
  obtain ⟨ek7, hf⟩ := oc hf
  obtain ⟨r8, e9, hf⟩ := ob hf
  refine r_callVi (As := []) ⟨hx, hb, hml, hown, hts⟩ (c_X5_count l D S a5 r8 e9) (cwV 0 hts (gwV gw_21_15 gw_1_15 gw_1_16 gw_1_5 gw_1_11) rfl rfl rfl (by decide +kernel) ⟨Nat.le_of_ble_eq_true rfl, Nat.le_of_ble_eq_true rfl⟩) hH hNE 8 ek7 (by decide) rfl rfl rfl hl.1 rfl (Nat.le_of_ble_eq_true rfl) dX9_length_7 ⟨(Nat.le_of_ble_eq_true rfl), (Nat.le_of_ble_eq_true rfl)⟩ (fun H locs hH => ?_)
  have hr9 := Option.some.inj hf
  subst hr9
  exact e_i hx hb hr hlocks hH dX9_length_10
set_option maxRecDepth 100000 in
def f_X9_isWord_b14 (b0 : Nat) (p2 : Int32) (S : PS) (x3 : Int32) (x4 : Int32) : Option ((Int32 × Int32) ⊕ ((Int32))) := if p2 ≤ x4 then (some (.inr x3)) else (lt (fun (x11 : Int32) => lt (x4 + 1) fun x13 => some (.inl (x11, x13))) fun j12 => lt (fun (u17 : Unit) => j12 0) fun j16 => if x3 = 0 then (j16 ()) else (if kK S b0 = 9 then ((f_X5_get S b0 x4).bind fun r21 => (f_X9_isLetter S r21).bind fun r23 => if r23 = 0 then (j16 ()) else (j12 1)) else none))
set_option maxRecDepth 100000 in
def f_X9_isWord (S : PS) (b0 : Nat) (p1 : Int32) (p2 : Int32) : Option (Int32) := lt (fun (x1 : Int32) => lt (fun (x5 : Int32) => if x5 = 0 ∨ x5 = 1 then (some x5) else none) fun k6 => (iter (fun (v : Int32 × Int32) => f_X9_isWord_b14 b0 p2 S v.1 v.2) kF (x1, p1)).bind (fun (v : Int32) => k6 v)) fun j2 => if p2 ≤ p1 then (j2 0) else (j2 1)
abbrev rmX9_isWord : Room := { frames := 1, cells := 0, slots := 0, locals := 21 }
set_option maxHeartbeats 4000000 in
set_option maxRecDepth 100000 in
theorem c_X9_isWord (l : Launch) (D : va_G × Nat) (S : PS) (b0 : Nat) (p1 : Int32) (p2 : Int32) (r : Int32) (hf : f_X9_isWord S b0 p1 p2 = some r) : MI l D yX9_isWord wsX9_isWord rmX9_isWord S [.ref b0, .int p1, .int p2] S r 0 0 := by
  unfold f_X9_isWord at hf
  refine Met.ofW (cc := cX9_isWord) (maxL := 5) (ret := (some .boolean)) (by decide) rfl ?_
  intro p e s m args below meth c s₁ B hml hv
  obtain ⟨rfl, hH0, hNE⟩ := hv
  have hx := B.exec
  have hb := B.bytes
  have hr := B.returns
  have hts := atoms_spec (ws := wsX9_isWord) B.pre
  have hown : s.vm.findClass RX9 = some m.cls := findClass_of_methodNamed B.named
  have hlocks := B.notSynchronized
  have hH : HI D S S s s.heap [] := HI.start hH0
  have hl := lv_entry ([.ref b0, .int p1, .int p2]) (n := 5) (Nat.le_of_ble_eq_true rfl)
  rw [lg_entry_eq]
  generalize (lg_sl ([.ref b0, .int p1, .int p2]) ++ List.replicate (5 - (lg_sl ([.ref b0, .int p1, .int p2])).length) Slot.unset).toArray = ls at hl ⊢
  have hl : lv_has ls 5 [(0, .ref b0), (1, .int p1), (2, .int p2)] := hl
  refine lv_iload_n hx hb dX9_isWord_0 rfl (lv_at hl 1 rfl) ?_
  refine lv_iload_n hx hb dX9_isWord_1 rfl (lv_at hl 2 rfl) ?_
  obtain ⟨j2, e26, hf⟩ := ol hf
  have Jj2 : ∀ (x1 : Int32) (H : Heap) (locs : List Loc) (ls : Array Slot), HI D S S s H locs → lv_has ls 5 [(0, .ref b0), (1, .int p1), (2, .int p2)] → j2 x1 = some r → GI p l e (headSpec wsX9_isWord rmX9_isWord).room s m ([.ref b0, .int p1, .int p2] : List Value).toArray below meth c D S S r H locs 0 0 0 0 (F0 m 10 ls [.int x1]) := by
    intro x1 H locs ls hH hl hf
    rw [← e26] at hf
    refine lv_istore_n (lv' := [(3, .int x1), (0, .ref b0), (1, .int p1), (2, .int p2)]) hx hb dX9_isWord_10 rfl hl (by decide) rfl (fun ls hl => ?_)
    refine lv_iload_n hx hb dX9_isWord_11 rfl (lv_at hl 2 rfl) ?_
    refine lv_istore (lv' := [(4, .int p1), (3, .int x1), (0, .ref b0), (1, .int p1), (2, .int p2)]) hx hb dX9_isWord_12 hl (by decide) rfl (fun ls hl => ?_)
    obtain ⟨k6, e7, hf⟩ := ol hf
    have Xk6 : ∀ (x5 : Int32) (H : Heap) (locs : List Loc) (ls : Array Slot), HI D S S s H locs → lv_has ls 5 [(3, .int x5)] → k6 x5 = some r → GI p l e (headSpec wsX9_isWord rmX9_isWord).room s m ([.ref b0, .int p1, .int p2] : List Value).toArray below meth c D S S r H locs 0 0 0 0 (F0 m 48 ls []) := by
      intro x5 H locs ls hH hl hf
      rw [← e7] at hf
      refine lv_iload_n hx hb dX9_isWord_48 rfl (lv_at hl 0 rfl) ?_
      obtain ⟨en8, hf⟩ := oc hf
      have hr9 := Option.some.inj hf
      subst hr9
      exact e_z hx hb hr hlocks (nar_Z9 en8) hH dX9_isWord_49
    obtain ⟨o9, eo9, hq9f⟩ := ob hf
    have Lo9 : ∀ (n : Nat) (x3 : Int32) (x4 : Int32), iter (fun (v : Int32 × Int32) => f_X9_isWord_b14 b0 p2 S v.1 v.2) n (x3, x4) = some o9 → ∀ (H : Heap) (locs : List Loc) (ls : Array Slot), HI D S S s H locs → lv_has ls 5 [(0, .ref b0), (2, .int p2), (3, .int x3), (4, .int x4)] → GI p l e (headSpec wsX9_isWord rmX9_isWord).room s m ([.ref b0, .int p1, .int p2] : List Value).toArray below meth c D S S r H locs 0 0 0 0 (F0 m 14 ls []) := by
      intro n
      induction n with
      | zero => intro x3 x4 hi; cases hi
      | succ n ih9 =>
        intro x3 x4 hi H locs ls hH hl
        obtain ⟨q9_, hf, hq9⟩ := iter_s hi
        have hf : f_X9_isWord_b14 b0 p2 S x3 x4 = some q9_ := hf
        unfold f_X9_isWord_b14 at hf
        refine lv_iload hx hb dX9_isWord_14 (lv_at hl 3 rfl) ?_
        refine lv_iload_n hx hb dX9_isWord_16 rfl (lv_at hl 1 rfl) ?_
        refine lv_icmp_ge (tgt := 48) hx hb dX9_isWord_17 (by decide) (fun c10 => ?_) (fun c10 => ?_)
        · have hf := ip hf c10
          cases hf
          have hf9 := itR (K := (fun (v : Int32) => k6 v)) hq9 hq9f
          exact Xk6 x3 _ _ ls hH (lv_sub hl [2] rfl) hf9
        · have hf := iq hf c10
          refine lv_iload_n hx hb dX9_isWord_20 rfl (lv_at hl 2 rfl) ?_
          obtain ⟨j12, e15, hf⟩ := ol hf
          have Jj12 : ∀ (x11 : Int32) (H : Heap) (locs : List Loc) (ls : Array Slot), HI D S S s H locs → lv_has ls 5 [(0, .ref b0), (2, .int p2), (4, .int x4)] → j12 x11 = some q9_ → GI p l e (headSpec wsX9_isWord rmX9_isWord).room s m ([.ref b0, .int p1, .int p2] : List Value).toArray below meth c D S S r H locs 0 0 0 0 (F0 m 41 ls [.int x11]) := by
            intro x11 H locs ls hH hl hf
            rw [← e15] at hf
            refine lv_istore_n (lv' := [(3, .int x11), (0, .ref b0), (2, .int p2), (4, .int x4)]) hx hb dX9_isWord_41 rfl hl (by decide) rfl (fun ls hl => ?_)
            obtain ⟨x13, e14, hf⟩ := ol hf
            refine lv_iinc (v := x13) (lv' := [(4, .int x13), (3, .int x11), (0, .ref b0), (2, .int p2)]) hx hb dX9_isWord_42 hl (k := 3) rfl (by rw [← e14]; rfl) (by decide) rfl (fun ls hl => ?_)
            refine lv_goto (tgt := 14) hx hb dX9_isWord_45 (by decide) ?_
            cases hf
            exact ih9 x11 x13 hq9 _ _ ls hH (lv_sub hl [2, 3, 1, 0] rfl)
          obtain ⟨j16, e18, hf⟩ := ol hf
          have Jj16 : ∀ (u17 : Unit) (H : Heap) (locs : List Loc) (ls : Array Slot), HI D S S s H locs → lv_has ls 5 [(0, .ref b0), (2, .int p2), (4, .int x4)] → j16 u17 = some q9_ → GI p l e (headSpec wsX9_isWord rmX9_isWord).room s m ([.ref b0, .int p1, .int p2] : List Value).toArray below meth c D S S r H locs 0 0 0 0 (F0 m 40 ls []) := by
            intro u17 H locs ls hH hl hf
            rw [← e18] at hf
            refine lv_iconst (v := 0) hx hb dX9_isWord_40 (by decide) ?_
            exact Jj12 0 _ _ ls hH (lv_sub hl [0, 1, 2] rfl) hf
          refine lv_if_eq (tgt := 40) hx hb dX9_isWord_21 (by decide) (fun c19 => ?_) (fun c19 => ?_)
          · have hf := ip hf c19
            exact Jj16 () _ _ ls hH (lv_sub hl [0, 1, 3] rfl) hf
          · have hf := iq hf c19
            refine lv_aload_n hx hb dX9_isWord_24 rfl (lv_at hl 0 rfl) ?_
            refine lv_iload hx hb dX9_isWord_25 (lv_at hl 3 rfl) ?_
            obtain ⟨ek20, hf⟩ := oc hf
            obtain ⟨r21, e22, hf⟩ := ob hf
            refine r_callVi (As := [.int x4]) ⟨hx, hb, hml, hown, hts⟩ (c_X5_get l D S b0 x4 r21 e22) (cwV 1 hts (gwV gw_14_2 gw_2_13 gw_2_14 gw_1_5 gw_2_9) rfl rfl rfl (by decide +kernel) ⟨Nat.le_of_ble_eq_true rfl, Nat.le_of_ble_eq_true rfl⟩) hH hNE 8 ek20 (by decide) rfl rfl rfl hl.1 rfl (Nat.le_of_ble_eq_true rfl) dX9_isWord_27 ⟨(Nat.le_of_ble_eq_true rfl), (Nat.le_of_ble_eq_true rfl)⟩ (fun H locs hH => ?_)
            obtain ⟨r23, e24, hf⟩ := ob hf
            refine r_callSi (As := [.int r21]) ⟨hx, hb, hml, hown, hts⟩ (c_X9_isLetter l D S r21 r23 e24) (va_cwS 1 hts (gwS gw_14_3 gw_14_4 gw_14_5 gw_14_0) rfl rfl rfl (by decide +kernel) ⟨Nat.le_of_ble_eq_true rfl, Nat.le_of_ble_eq_true rfl⟩) hH hNE rfl hl.1 rfl (Nat.le_of_ble_eq_true rfl) dX9_isWord_30 ⟨(Nat.le_of_ble_eq_true rfl), (Nat.le_of_ble_eq_true rfl)⟩ (fun H locs hH => ?_)
            refine lv_if_eq (tgt := 40) hx hb dX9_isWord_33 (by decide) (fun c25 => ?_) (fun c25 => ?_)
            · have hf := ip hf c25
              exact Jj16 () _ _ ls hH (lv_sub hl [0, 1, 3] rfl) hf
            · have hf := iq hf c25
              refine lv_iconst (v := 1) hx hb dX9_isWord_36 (by decide) ?_
              refine lv_goto (tgt := 41) hx hb dX9_isWord_37 (by decide) ?_
              exact Jj12 1 _ _ ls hH (lv_sub hl [0, 1, 3] rfl) hf
    exact Lo9 kF x1 p1 eo9 _ _ ls hH (lv_sub hl [2, 4, 1, 0] rfl)
  refine lv_icmp_ge (tgt := 9) hx hb dX9_isWord_2 (by decide) (fun c27 => ?_) (fun c27 => ?_)
  · have hf := ip hf c27
    refine lv_iconst (v := 0) hx hb dX9_isWord_9 (by decide) ?_
    exact Jj2 0 _ _ ls hH (lv_sub hl [0, 1, 2] rfl) hf
  · have hf := iq hf c27
    refine lv_iconst (v := 1) hx hb dX9_isWord_5 (by decide) ?_
    refine lv_goto (tgt := 10) hx hb dX9_isWord_6 (by decide) ?_
    exact Jj2 1 _ _ ls hH (lv_sub hl [0, 1, 2] rfl) hf
set_option maxRecDepth 100000 in
def f_X3_isItem (S : PS) (b0 : Nat) (p1 : Int32) (p2 : Int32) : Option (Int32) := if kK S b0 = 9 then ((f_X5_get S b0 (p2 - 1)).bind fun r2 => lt (fun (u20 : Unit) => lt (fun (u9 : Unit) => (f_X9_isWord S b0 p1 p2).bind fun r6 => if r6 = 0 ∨ r6 = 1 then (some r6) else none) fun j5 => if p2 ≤ p1 then (j5 ()) else (if r2 = (42 : Int32) then (lt (fun (u14 : Unit) => some 1) fun j13 => if (p2 - p1) = (1 : Int32) then (j13 ()) else ((f_X9_isWord S b0 p1 (p2 - 1)).bind fun r17 => if r17 = 0 then (some 0) else (j13 ()))) else (j5 ()))) fun j4 => if (p2 - p1) = (1 : Int32) then (if r2 = (35 : Int32) then (some 1) else (j4 ())) else (j4 ())) else none
abbrev rmX3_isItem : Room := { frames := 2, cells := 0, slots := 0, locals := 45 }
set_option maxHeartbeats 4000000 in
set_option maxRecDepth 100000 in
theorem c_X3_isItem (l : Launch) (D : va_G × Nat) (S : PS) (b0 : Nat) (p1 : Int32) (p2 : Int32) (r : Int32) (hf : f_X3_isItem S b0 p1 p2 = some r) : MI l D yX3_isItem wsX3_isItem rmX3_isItem S [.ref b0, .int p1, .int p2] S r 0 0 := by
  unfold f_X3_isItem at hf
  refine Met.ofW (cc := cX3_isItem) (maxL := 4) (ret := (some .boolean)) (by decide) rfl ?_
  intro p e s m args below meth c s₁ B hml hv
  obtain ⟨rfl, hH0, hNE⟩ := hv
  have hx := B.exec
  have hb := B.bytes
  have hr := B.returns
  have hts := atoms_spec (ws := wsX3_isItem) B.pre
  have hown : s.vm.findClass RX3 = some m.cls := findClass_of_methodNamed B.named
  have hlocks := B.notSynchronized
  have hH : HI D S S s s.heap [] := HI.start hH0
  have hl := lv_entry ([.ref b0, .int p1, .int p2]) (n := 4) (Nat.le_of_ble_eq_true rfl)
  rw [lg_entry_eq]
  generalize (lg_sl ([.ref b0, .int p1, .int p2]) ++ List.replicate (4 - (lg_sl ([.ref b0, .int p1, .int p2])).length) Slot.unset).toArray = ls at hl ⊢
  have hl : lv_has ls 4 [(0, .ref b0), (1, .int p1), (2, .int p2)] := hl
  refine lv_aload_n hx hb dX3_isItem_0 rfl (lv_at hl 0 rfl) ?_
  refine lv_iload_n hx hb dX3_isItem_1 rfl (lv_at hl 2 rfl) ?_
  refine lv_iconst (v := 1) hx hb dX3_isItem_2 (by decide) ?_
  refine lv_isub hx hb dX3_isItem_3 ?_
  obtain ⟨ek1, hf⟩ := oc hf
  obtain ⟨r2, e3, hf⟩ := ob hf
  refine r_callVi (As := [.int (p2 - 1)]) ⟨hx, hb, hml, hown, hts⟩ (c_X5_get l D S b0 (p2 - 1) r2 e3) (cwV 1 hts (gwV gw_13_20 gw_2_13 gw_2_14 gw_1_5 gw_2_9) rfl rfl rfl (by decide +kernel) ⟨Nat.le_of_ble_eq_true rfl, Nat.le_of_ble_eq_true rfl⟩) hH hNE 8 ek1 (by decide) rfl rfl rfl hl.1 rfl (Nat.le_of_ble_eq_true rfl) dX3_isItem_4 ⟨(Nat.le_of_ble_eq_true rfl), (Nat.le_of_ble_eq_true rfl)⟩ (fun H locs hH => ?_)
  refine lv_istore_n (lv' := [(3, .int r2), (0, .ref b0), (1, .int p1), (2, .int p2)]) hx hb dX3_isItem_7 rfl hl (by decide) rfl (fun ls hl => ?_)
  refine lv_iload_n hx hb dX3_isItem_8 rfl (lv_at hl 3 rfl) ?_
  refine lv_iload_n hx hb dX3_isItem_9 rfl (lv_at hl 2 rfl) ?_
  refine lv_isub hx hb dX3_isItem_10 ?_
  refine lv_iconst (v := 1) hx hb dX3_isItem_11 (by decide) ?_
  obtain ⟨j4, e21, hf⟩ := ol hf
  have Jj4 : ∀ (u20 : Unit) (H : Heap) (locs : List Loc) (ls : Array Slot), HI D S S s H locs → lv_has ls 4 [(0, .ref b0), (1, .int p1), (2, .int p2), (3, .int r2)] → j4 u20 = some r → GI p l e (headSpec wsX3_isItem rmX3_isItem).room s m ([.ref b0, .int p1, .int p2] : List Value).toArray below meth c D S S r H locs 0 0 0 0 (F0 m 23 ls []) := by
    intro u20 H locs ls hH hl hf
    rw [← e21] at hf
    refine lv_iload_n hx hb dX3_isItem_23 rfl (lv_at hl 2 rfl) ?_
    refine lv_iload_n hx hb dX3_isItem_24 rfl (lv_at hl 1 rfl) ?_
    obtain ⟨j5, e10, hf⟩ := ol hf
    have Jj5 : ∀ (u9 : Unit) (H : Heap) (locs : List Loc) (ls : Array Slot), HI D S S s H locs → lv_has ls 4 [(0, .ref b0), (1, .int p1), (2, .int p2)] → j5 u9 = some r → GI p l e (headSpec wsX3_isItem rmX3_isItem).room s m ([.ref b0, .int p1, .int p2] : List Value).toArray below meth c D S S r H locs 0 0 0 0 (F0 m 58 ls []) := by
      intro u9 H locs ls hH hl hf
      rw [← e10] at hf
      refine lv_aload_n hx hb dX3_isItem_58 rfl (lv_at hl 0 rfl) ?_
      refine lv_iload_n hx hb dX3_isItem_59 rfl (lv_at hl 1 rfl) ?_
      refine lv_iload_n hx hb dX3_isItem_60 rfl (lv_at hl 2 rfl) ?_
      obtain ⟨r6, e7, hf⟩ := ob hf
      refine r_callSiN (As := [.ref b0, .int p1, .int p2]) ⟨hx, hb, hml, hown, hts⟩ (c_X9_isWord l D S b0 p1 p2 r6 e7) ⟨va_cnB 3 hts (gwI (gwC gw_14_1)) rfl rfl rfl (nm_0 hNE) (hts (.initialized RX9) (List.mem_cons_of_mem _ gw_14_5)) (by decide +kernel) ⟨Nat.le_of_ble_eq_true rfl, Nat.le_of_ble_eq_true rfl⟩, (hts (.static yX9_isWord) (List.mem_cons_of_mem _ gw_14_7)), trivial⟩ hH hNE rfl hl.1 rfl (Nat.le_of_ble_eq_true rfl) dX3_isItem_61 ⟨(Nat.le_of_ble_eq_true rfl), (Nat.le_of_ble_eq_true rfl)⟩ (fun H locs hH => ?_)
      obtain ⟨en8, hf⟩ := oc hf
      have hr9 := Option.some.inj hf
      subst hr9
      exact e_z hx hb hr hlocks (nar_Z9 en8) hH dX3_isItem_64
    refine lv_icmp_le (tgt := 58) hx hb dX3_isItem_25 (by decide) (fun c11 => ?_) (fun c11 => ?_)
    · have hf := ip hf c11
      exact Jj5 () _ _ ls hH (lv_sub hl [0, 1, 2] rfl) hf
    · have hf := iq hf c11
      refine lv_iload_n hx hb dX3_isItem_28 rfl (lv_at hl 3 rfl) ?_
      refine lv_bipush (v := 42) hx hb dX3_isItem_29 (by decide) ?_
      refine lv_icmp_ne (tgt := 58) hx hb dX3_isItem_31 (by decide) (fun c12 => ?_) (fun c12 => ?_)
      · have hf := iq hf c12
        exact Jj5 () _ _ ls hH (lv_sub hl [0, 1, 2] rfl) hf
      · have hf := ip hf c12
        refine lv_iload_n hx hb dX3_isItem_34 rfl (lv_at hl 2 rfl) ?_
        refine lv_iload_n hx hb dX3_isItem_35 rfl (lv_at hl 1 rfl) ?_
        refine lv_isub hx hb dX3_isItem_36 ?_
        refine lv_iconst (v := 1) hx hb dX3_isItem_37 (by decide) ?_
        obtain ⟨j13, e15, hf⟩ := ol hf
        have Jj13 : ∀ (u14 : Unit) (H : Heap) (locs : List Loc) (ls : Array Slot), HI D S S s H locs → lv_has ls 4 [] → j13 u14 = some r → GI p l e (headSpec wsX3_isItem rmX3_isItem).room s m ([.ref b0, .int p1, .int p2] : List Value).toArray below meth c D S S r H locs 0 0 0 0 (F0 m 52 ls []) := by
          intro u14 H locs ls hH hl hf
          rw [← e15] at hf
          refine lv_iconst (v := 1) hx hb dX3_isItem_52 (by decide) ?_
          refine lv_goto (tgt := 57) hx hb dX3_isItem_53 (by decide) ?_
          have hr9 := Option.some.inj hf
          subst hr9
          exact e_z (r := 1) hx hb hr hlocks rfl hH dX3_isItem_57
        refine lv_icmp_eq (tgt := 52) hx hb dX3_isItem_38 (by decide) (fun c16 => ?_) (fun c16 => ?_)
        · have hf := ip hf c16
          exact Jj13 () _ _ ls hH (lv_sub hl [] rfl) hf
        · have hf := iq hf c16
          refine lv_aload_n hx hb dX3_isItem_41 rfl (lv_at hl 0 rfl) ?_
          refine lv_iload_n hx hb dX3_isItem_42 rfl (lv_at hl 1 rfl) ?_
          refine lv_iload_n hx hb dX3_isItem_43 rfl (lv_at hl 2 rfl) ?_
          refine lv_iconst (v := 1) hx hb dX3_isItem_44 (by decide) ?_
          refine lv_isub hx hb dX3_isItem_45 ?_
          obtain ⟨r17, e18, hf⟩ := ob hf
          refine r_callSiN (As := [.ref b0, .int p1, .int (p2 - 1)]) ⟨hx, hb, hml, hown, hts⟩ (c_X9_isWord l D S b0 p1 (p2 - 1) r17 e18) ⟨va_cnB 3 hts (gwI (gwC gw_14_1)) rfl rfl rfl (nm_0 hNE) (hts (.initialized RX9) (List.mem_cons_of_mem _ gw_14_5)) (by decide +kernel) ⟨Nat.le_of_ble_eq_true rfl, Nat.le_of_ble_eq_true rfl⟩, (hts (.static yX9_isWord) (List.mem_cons_of_mem _ gw_14_7)), trivial⟩ hH hNE rfl hl.1 rfl (Nat.le_of_ble_eq_true rfl) dX3_isItem_46 ⟨(Nat.le_of_ble_eq_true rfl), (Nat.le_of_ble_eq_true rfl)⟩ (fun H locs hH => ?_)
          refine lv_if_eq (tgt := 56) hx hb dX3_isItem_49 (by decide) (fun c19 => ?_) (fun c19 => ?_)
          · have hf := ip hf c19
            refine lv_iconst (v := 0) hx hb dX3_isItem_56 (by decide) ?_
            have hr9 := Option.some.inj hf
            subst hr9
            exact e_z (r := 0) hx hb hr hlocks rfl hH dX3_isItem_57
          · have hf := iq hf c19
            exact Jj13 () _ _ ls hH (lv_sub hl [] rfl) hf
  refine lv_icmp_ne (tgt := 23) hx hb dX3_isItem_12 (by decide) (fun c22 => ?_) (fun c22 => ?_)
  · have hf := iq hf c22
    exact Jj4 () _ _ ls hH (lv_sub hl [1, 2, 3, 0] rfl) hf
  · have hf := ip hf c22
    refine lv_iload_n hx hb dX3_isItem_15 rfl (lv_at hl 0 rfl) ?_
    refine lv_bipush (v := 35) hx hb dX3_isItem_16 (by decide) ?_
    refine lv_icmp_ne (tgt := 23) hx hb dX3_isItem_18 (by decide) (fun c23 => ?_) (fun c23 => ?_)
    · have hf := iq hf c23
      exact Jj4 () _ _ ls hH (lv_sub hl [1, 2, 3, 0] rfl) hf
    · have hf := ip hf c23
      refine lv_iconst (v := 1) hx hb dX3_isItem_21 (by decide) ?_
      have hr9 := Option.some.inj hf
      subst hr9
      exact e_z (r := 1) hx hb hr hlocks rfl hH dX3_isItem_22
set_option maxRecDepth 100000 in
def f_X6_isPattern_b6 (b0 : Nat) (S : PS) (x1 : Int32) (x2 : Int32) (x3 : Int32) : Option ((Int32 × Int32 × Int32) ⊕ ((Int32) ⊕ (Unit))) := if kK S b0 = 9 then ((f_X5_count S b0).bind fun r13 => if r13 < x3 then (some (.inr (.inl x1))) else ((f_X5_count S b0).bind fun r16 => lt (fun (x18 : Int32) (x19 : Int32) => lt (x3 + 1) fun x21 => some (.inl (x18, x19, x21))) fun j20 => lt (fun (u32 : Unit) => (f_X3_isItem S b0 x2 x3).bind fun r25 => if r25 = 0 then (some (.inr (.inr ()))) else (lt (x1 + 1) fun x28 => lt (x3 + 1) fun x30 => j20 x28 x30)) fun j24 => if x3 = r16 then (j24 ()) else ((f_X5_get S b0 x3).bind fun r35 => if r35 = (45 : Int32) then (j24 ()) else (j20 x1 x2)))) else none
set_option maxRecDepth 100000 in
def f_X6_isPattern (S : PS) (b0 : Nat) : Option (Int32) := lt (fun (x4 : Int32) => if (3 : Int32) < x4 then (some 0) else (some 1)) fun k5 => lt (fun (u10 : Unit) => some 0) fun k8 => (iter (fun (v : Int32 × Int32 × Int32) => f_X6_isPattern_b6 b0 S v.1 v.2.1 v.2.2) kF (0, 0, 0)).bind (fun (z : (Int32) ⊕ (Unit)) => Sum.elim (fun (v : Int32) => k5 v) (fun (v : Unit) => k8 v) z)
abbrev rmX6_isPattern : Room := { frames := 3, cells := 0, slots := 0, locals := 68 }
set_option maxHeartbeats 4000000 in
set_option maxRecDepth 100000 in
theorem c_X6_isPattern (l : Launch) (D : va_G × Nat) (S : PS) (b0 : Nat) (r : Int32) (hf : f_X6_isPattern S b0 = some r) : MI l D yX6_isPattern wsX6_isPattern rmX6_isPattern S [.ref b0] S r 0 0 := by
  unfold f_X6_isPattern at hf
  refine Met.ofW (cc := cX6_isPattern) (maxL := 4) (ret := (some .boolean)) (by decide) rfl ?_
  intro p e s m args below meth c s₁ B hml hv
  obtain ⟨rfl, hH0, hNE⟩ := hv
  have hx := B.exec
  have hb := B.bytes
  have hr := B.returns
  have hts := atoms_spec (ws := wsX6_isPattern) B.pre
  have hown : s.vm.findClass RX6 = some m.cls := findClass_of_methodNamed B.named
  have hlocks := B.notSynchronized
  have hH : HI D S S s s.heap [] := HI.start hH0
  have hl := lv_entry ([.ref b0]) (n := 4) (Nat.le_of_ble_eq_true rfl)
  rw [lg_entry_eq]
  generalize (lg_sl ([.ref b0]) ++ List.replicate (4 - (lg_sl ([.ref b0])).length) Slot.unset).toArray = ls at hl ⊢
  have hl : lv_has ls 4 [(0, .ref b0)] := hl
  refine lv_iconst (v := 0) hx hb dX6_isPattern_0 (by decide) ?_
  refine lv_istore_n (lv' := [(1, .int 0), (0, .ref b0)]) hx hb dX6_isPattern_1 rfl hl (by decide) rfl (fun ls hl => ?_)
  refine lv_iconst (v := 0) hx hb dX6_isPattern_2 (by decide) ?_
  refine lv_istore_n (lv' := [(2, .int 0), (1, .int 0), (0, .ref b0)]) hx hb dX6_isPattern_3 rfl hl (by decide) rfl (fun ls hl => ?_)
  refine lv_iconst (v := 0) hx hb dX6_isPattern_4 (by decide) ?_
  refine lv_istore_n (lv' := [(3, .int 0), (2, .int 0), (1, .int 0), (0, .ref b0)]) hx hb dX6_isPattern_5 rfl hl (by decide) rfl (fun ls hl => ?_)
  obtain ⟨k5, e6, hf⟩ := ol hf
  have Xk5 : ∀ (x4 : Int32) (H : Heap) (locs : List Loc) (ls : Array Slot), HI D S S s H locs → lv_has ls 4 [(1, .int x4)] → k5 x4 = some r → GI p l e (headSpec wsX6_isPattern rmX6_isPattern).room s m ([.ref b0] : List Value).toArray below meth c D S S r H locs 0 0 0 0 (F0 m 56 ls []) := by
    intro x4 H locs ls hH hl hf
    rw [← e6] at hf
    refine lv_iload_n hx hb dX6_isPattern_56 rfl (lv_at hl 0 rfl) ?_
    refine lv_iconst (v := 3) hx hb dX6_isPattern_57 (by decide) ?_
    refine lv_icmp_gt (tgt := 65) hx hb dX6_isPattern_58 (by decide) (fun c7 => ?_) (fun c7 => ?_)
    · have hf := ip hf c7
      refine lv_iconst (v := 0) hx hb dX6_isPattern_65 (by decide) ?_
      have hr9 := Option.some.inj hf
      subst hr9
      exact e_z (r := 0) hx hb hr hlocks rfl hH dX6_isPattern_66
    · have hf := iq hf c7
      refine lv_iconst (v := 1) hx hb dX6_isPattern_61 (by decide) ?_
      refine lv_goto (tgt := 66) hx hb dX6_isPattern_62 (by decide) ?_
      have hr9 := Option.some.inj hf
      subst hr9
      exact e_z (r := 1) hx hb hr hlocks rfl hH dX6_isPattern_66
  obtain ⟨k8, e9, hf⟩ := ol hf
  have Xk8 : ∀ (u10 : Unit) (H : Heap) (locs : List Loc) (ls : Array Slot), HI D S S s H locs → lv_has ls 4 [] → k8 u10 = some r → GI p l e (headSpec wsX6_isPattern rmX6_isPattern).room s m ([.ref b0] : List Value).toArray below meth c D S S r H locs 0 0 0 0 (F0 m 41 ls []) := by
    intro u10 H locs ls hH hl hf
    rw [← e9] at hf
    refine lv_iconst (v := 0) hx hb dX6_isPattern_41 (by decide) ?_
    have hr9 := Option.some.inj hf
    subst hr9
    exact e_z (r := 0) hx hb hr hlocks rfl hH dX6_isPattern_42
  obtain ⟨o11, eo11, hq11f⟩ := ob hf
  have Lo11 : ∀ (n : Nat) (x1 : Int32) (x2 : Int32) (x3 : Int32), iter (fun (v : Int32 × Int32 × Int32) => f_X6_isPattern_b6 b0 S v.1 v.2.1 v.2.2) n (x1, x2, x3) = some o11 → ∀ (H : Heap) (locs : List Loc) (ls : Array Slot), HI D S S s H locs → lv_has ls 4 [(0, .ref b0), (1, .int x1), (2, .int x2), (3, .int x3)] → GI p l e (headSpec wsX6_isPattern rmX6_isPattern).room s m ([.ref b0] : List Value).toArray below meth c D S S r H locs 0 0 0 0 (F0 m 6 ls []) := by
    intro n
    induction n with
    | zero => intro x1 x2 x3 hi; cases hi
    | succ n ih11 =>
      intro x1 x2 x3 hi H locs ls hH hl
      obtain ⟨q11_, hf, hq11⟩ := iter_s hi
      have hf : f_X6_isPattern_b6 b0 S x1 x2 x3 = some q11_ := hf
      unfold f_X6_isPattern_b6 at hf
      refine lv_iload_n hx hb dX6_isPattern_6 rfl (lv_at hl 3 rfl) ?_
      refine lv_aload_n hx hb dX6_isPattern_7 rfl (lv_at hl 0 rfl) ?_
      obtain ⟨ek12, hf⟩ := oc hf
      obtain ⟨r13, e14, hf⟩ := ob hf
      refine r_callVi (As := []) ⟨hx, hb, hml, hown, hts⟩ (c_X5_count l D S b0 r13 e14) (cwV 0 hts (gwV gw_7_17 gw_1_15 gw_1_16 gw_1_5 gw_1_11) rfl rfl rfl (by decide +kernel) ⟨Nat.le_of_ble_eq_true rfl, Nat.le_of_ble_eq_true rfl⟩) hH hNE 8 ek12 (by decide) rfl rfl rfl hl.1 rfl (Nat.le_of_ble_eq_true rfl) dX6_isPattern_8 ⟨(Nat.le_of_ble_eq_true rfl), (Nat.le_of_ble_eq_true rfl)⟩ (fun H locs hH => ?_)
      refine lv_icmp_gt (tgt := 56) hx hb dX6_isPattern_11 (by decide) (fun c15 => ?_) (fun c15 => ?_)
      · have hf := ip hf c15
        cases hf
        have hf9 := itR (K := (fun (z : (Int32) ⊕ (Unit)) => Sum.elim (fun (v : Int32) => k5 v) (fun (v : Unit) => k8 v) z)) hq11 hq11f
        exact Xk5 x1 _ _ ls hH (lv_sub hl [1] rfl) hf9
      · have hf := iq hf c15
        refine lv_iload_n hx hb dX6_isPattern_14 rfl (lv_at hl 3 rfl) ?_
        refine lv_aload_n hx hb dX6_isPattern_15 rfl (lv_at hl 0 rfl) ?_
        obtain ⟨r16, e17, hf⟩ := ob hf
        refine r_callVi (As := []) ⟨hx, hb, hml, hown, hts⟩ (c_X5_count l D S b0 r16 e17) (cwV 0 hts (gwV gw_7_17 gw_1_15 gw_1_16 gw_1_5 gw_1_11) rfl rfl rfl (by decide +kernel) ⟨Nat.le_of_ble_eq_true rfl, Nat.le_of_ble_eq_true rfl⟩) hH hNE 8 ek12 (by decide) rfl rfl rfl hl.1 rfl (Nat.le_of_ble_eq_true rfl) dX6_isPattern_16 ⟨(Nat.le_of_ble_eq_true rfl), (Nat.le_of_ble_eq_true rfl)⟩ (fun H locs hH => ?_)
        obtain ⟨j20, e23, hf⟩ := ol hf
        have Jj20 : ∀ (x18 : Int32) (x19 : Int32) (H : Heap) (locs : List Loc) (ls : Array Slot), HI D S S s H locs → lv_has ls 4 [(0, .ref b0), (1, .int x18), (2, .int x19), (3, .int x3)] → j20 x18 x19 = some q11_ → GI p l e (headSpec wsX6_isPattern rmX6_isPattern).room s m ([.ref b0] : List Value).toArray below meth c D S S r H locs 0 0 0 0 (F0 m 50 ls []) := by
          intro x18 x19 H locs ls hH hl hf
          rw [← e23] at hf
          obtain ⟨x21, e22, hf⟩ := ol hf
          refine lv_iinc (v := x21) (lv' := [(3, .int x21), (0, .ref b0), (1, .int x18), (2, .int x19)]) hx hb dX6_isPattern_50 hl (k := 3) rfl (by rw [← e22]; rfl) (by decide) rfl (fun ls hl => ?_)
          refine lv_goto (tgt := 6) hx hb dX6_isPattern_53 (by decide) ?_
          cases hf
          exact ih11 x18 x19 x21 hq11 _ _ ls hH (lv_sub hl [1, 2, 3, 0] rfl)
        obtain ⟨j24, e33, hf⟩ := ol hf
        have Jj24 : ∀ (u32 : Unit) (H : Heap) (locs : List Loc) (ls : Array Slot), HI D S S s H locs → lv_has ls 4 [(0, .ref b0), (1, .int x1), (2, .int x2), (3, .int x3)] → j24 u32 = some q11_ → GI p l e (headSpec wsX6_isPattern rmX6_isPattern).room s m ([.ref b0] : List Value).toArray below meth c D S S r H locs 0 0 0 0 (F0 m 32 ls []) := by
          intro u32 H locs ls hH hl hf
          rw [← e33] at hf
          refine lv_aload_n hx hb dX6_isPattern_32 rfl (lv_at hl 0 rfl) ?_
          refine lv_iload_n hx hb dX6_isPattern_33 rfl (lv_at hl 2 rfl) ?_
          refine lv_iload_n hx hb dX6_isPattern_34 rfl (lv_at hl 3 rfl) ?_
          obtain ⟨r25, e26, hf⟩ := ob hf
          refine r_callSi (As := [.ref b0, .int x2, .int x3]) ⟨hx, hb, hml, hown, hts⟩ (c_X3_isItem l D S b0 x2 x3 r25 e26) (va_cwS 3 hts (gwS gw_17_3 gw_17_4 gw_5_11 gw_14_6) rfl rfl rfl (by decide +kernel) ⟨Nat.le_of_ble_eq_true rfl, Nat.le_of_ble_eq_true rfl⟩) hH hNE rfl hl.1 rfl (Nat.le_of_ble_eq_true rfl) dX6_isPattern_35 ⟨(Nat.le_of_ble_eq_true rfl), (Nat.le_of_ble_eq_true rfl)⟩ (fun H locs hH => ?_)
          refine lv_if_ne (tgt := 43) hx hb dX6_isPattern_38 (by decide) (fun c27 => ?_) (fun c27 => ?_)
          · have hf := iq hf c27
            obtain ⟨x28, e29, hf⟩ := ol hf
            refine lv_iinc (v := x28) (lv' := [(1, .int x28), (0, .ref b0), (2, .int x2), (3, .int x3)]) hx hb dX6_isPattern_43 hl (k := 1) rfl (by rw [← e29]; rfl) (by decide) rfl (fun ls hl => ?_)
            refine lv_iload_n hx hb dX6_isPattern_46 rfl (lv_at hl 3 rfl) ?_
            refine lv_iconst (v := 1) hx hb dX6_isPattern_47 (by decide) ?_
            refine lv_iadd hx hb dX6_isPattern_48 ?_
            obtain ⟨x30, e31, hf⟩ := ol hf
            refine lv_topE e31 ?_
            refine lv_istore_n (lv' := [(2, .int x30), (1, .int x28), (0, .ref b0), (3, .int x3)]) hx hb dX6_isPattern_49 rfl hl (by decide) rfl (fun ls hl => ?_)
            exact Jj20 x28 x30 _ _ ls hH (lv_sub hl [2, 1, 0, 3] rfl) hf
          · have hf := ip hf c27
            cases hf
            have hf9 := itR (K := (fun (z : (Int32) ⊕ (Unit)) => Sum.elim (fun (v : Int32) => k5 v) (fun (v : Unit) => k8 v) z)) hq11 hq11f
            exact Xk8 () _ _ ls hH (lv_sub hl [] rfl) hf9
        refine lv_icmp_eq (tgt := 32) hx hb dX6_isPattern_19 (by decide) (fun c34 => ?_) (fun c34 => ?_)
        · have hf := ip hf c34
          exact Jj24 () _ _ ls hH (lv_sub hl [0, 1, 2, 3] rfl) hf
        · have hf := iq hf c34
          refine lv_aload_n hx hb dX6_isPattern_22 rfl (lv_at hl 0 rfl) ?_
          refine lv_iload_n hx hb dX6_isPattern_23 rfl (lv_at hl 3 rfl) ?_
          obtain ⟨r35, e36, hf⟩ := ob hf
          refine r_callVi (As := [.int x3]) ⟨hx, hb, hml, hown, hts⟩ (c_X5_get l D S b0 x3 r35 e36) (cwV 1 hts (gwV gw_7_23 gw_2_13 gw_2_14 gw_1_5 gw_2_9) rfl rfl rfl (by decide +kernel) ⟨Nat.le_of_ble_eq_true rfl, Nat.le_of_ble_eq_true rfl⟩) hH hNE 8 ek12 (by decide) rfl rfl rfl hl.1 rfl (Nat.le_of_ble_eq_true rfl) dX6_isPattern_24 ⟨(Nat.le_of_ble_eq_true rfl), (Nat.le_of_ble_eq_true rfl)⟩ (fun H locs hH => ?_)
          refine lv_bipush (v := 45) hx hb dX6_isPattern_27 (by decide) ?_
          refine lv_icmp_ne (tgt := 50) hx hb dX6_isPattern_29 (by decide) (fun c37 => ?_) (fun c37 => ?_)
          · have hf := iq hf c37
            exact Jj20 x1 x2 _ _ ls hH (lv_sub hl [0, 1, 2, 3] rfl) hf
          · have hf := ip hf c37
            exact Jj24 () _ _ ls hH (lv_sub hl [0, 1, 2, 3] rfl) hf
  exact Lo11 kF 0 0 0 eo11 _ _ ls hH (lv_sub hl [3, 2, 1, 0] rfl)
set_option maxRecDepth 100000 in
def f_X3_init (S : PS) (a0 : Nat) (b1 : Nat) (p2 : Int32) (p3 : Int32) : Option (PS) := if kK S b1 = 9 then ((f_X5_get S b1 (p3 - 1)).bind fun r2 => lt (fun (x4 : Int32) => if kK S a0 = 7 then (if x4 = 0 ∨ x4 = 1 then (lt (wI S a0 0 x4) fun S8 => if kK S8 b1 = 9 then ((f_X5_get S8 b1 (p3 - 1)).bind fun r11 => lt (fun (x13 : Int32) => if kK S8 a0 = 7 then (if x13 = 0 ∨ x13 = 1 then (lt (wI S8 a0 1 x13) fun S17 => if kK S17 a0 = 7 then (lt (fun (x20 : Int32) => if kK S17 b1 = 9 then ((f_X5_part S17 b1 p2 x20).bind fun r23 => lt r23.1 fun S25 => if kK S25 a0 = 7 then (lt (wQ S25 a0 2 (some r23.2)) fun S28 => some S28) else none) else none) fun j21 => lt (fun (u32 : Unit) => j21 (p3 - 1)) fun j31 => if (kI S17 a0 0) = 0 then (if (kI S17 a0 1) = 0 then (j21 p3) else (j31 ())) else (j31 ())) else none) else none) else none) fun j14 => if r11 = (42 : Int32) then (j14 1) else (j14 0)) else none) else none) else none) fun j5 => if r2 = (35 : Int32) then (j5 1) else (j5 0)) else none
abbrev rmX3_init : Room := { frames := 3, cells := 2, slots := 182, locals := 61 }
set_option maxHeartbeats 4000000 in
set_option maxRecDepth 100000 in
theorem c_X3_init (l : Launch) (D : va_G × Nat) (S : PS) (a0 : Nat) (b1 : Nat) (p2 : Int32) (p3 : Int32) (r : PS) (hf : f_X3_init S a0 b1 p2 p3 = some r) : MV l D yX3_init wsX3_init rmX3_init S [.ref a0, .ref b1, .int p2, .int p3] r 2 182 := by
  unfold f_X3_init at hf
  refine Met.ofW (cc := cX3_init) (maxL := 4) (ret := none) (by decide) rfl ?_
  intro p e s m args below meth c s₁ B hml hv
  obtain ⟨rfl, hH0, hNE⟩ := hv
  have hx := B.exec
  have hb := B.bytes
  have hr := B.returns
  have hts := atoms_spec (ws := wsX3_init) B.pre
  have hown : s.vm.findClass RX3 = some m.cls := findClass_of_methodNamed B.named
  have hlocks := B.notSynchronized
  have hin : meth.name = "<init>" := (name_of_methodNamed B.named B.method).1
  have hH : HI D S S s s.heap [] := HI.start hH0
  have hl := lv_entry ([.ref a0, .ref b1, .int p2, .int p3]) (n := 4) (Nat.le_of_ble_eq_true rfl)
  rw [lg_entry_eq]
  generalize (lg_sl ([.ref a0, .ref b1, .int p2, .int p3]) ++ List.replicate (4 - (lg_sl ([.ref a0, .ref b1, .int p2, .int p3])).length) Slot.unset).toArray = ls at hl ⊢
  have hl : lv_has ls 4 [(0, .ref a0), (1, .ref b1), (2, .int p2), (3, .int p3)] := hl
  refine lv_aload_n hx hb dX3_init_0 rfl (lv_at hl 0 rfl) ?_
  refine W.objInit hx hb hown (hts (.methodLink RX3 1 objectInit) (List.mem_cons_of_mem _ gw_13_19)) (hts (.instanceMethod objectInit) (List.mem_cons_of_mem _ gw_0_2)) (hts (.code objectInit ⟨#[0xb1]⟩ 1 none) (List.mem_cons_of_mem _ gw_0_3)) rfl (by rw [hml]; exact hl.1) rfl dX3_init_1 (Nat.le_of_ble_eq_true rfl) (Nat.le_of_ble_eq_true rfl) ?_
  refine W.eq (g2 := F0 m 4 ls []) rfl ?_
  refine lv_aload_n hx hb dX3_init_4 rfl (lv_at hl 0 rfl) ?_
  refine lv_aload_n hx hb dX3_init_5 rfl (lv_at hl 1 rfl) ?_
  refine lv_iload_n hx hb dX3_init_6 rfl (lv_at hl 3 rfl) ?_
  refine lv_iconst (v := 1) hx hb dX3_init_7 (by decide) ?_
  refine lv_isub hx hb dX3_init_8 ?_
  obtain ⟨ek1, hf⟩ := oc hf
  obtain ⟨r2, e3, hf⟩ := ob hf
  refine r_callVi (As := [.int (p3 - 1)]) ⟨hx, hb, hml, hown, hts⟩ (c_X5_get l D S b1 (p3 - 1) r2 e3) (cwV 1 hts (gwV gw_13_20 gw_2_13 gw_2_14 gw_1_5 gw_2_9) rfl rfl rfl (by decide +kernel) ⟨Nat.le_of_ble_eq_true rfl, Nat.le_of_ble_eq_true rfl⟩) hH hNE 8 ek1 (by decide) rfl rfl rfl hl.1 rfl (Nat.le_of_ble_eq_true rfl) dX3_init_9 ⟨(Nat.le_of_ble_eq_true rfl), (Nat.le_of_ble_eq_true rfl)⟩ (fun H locs hH => ?_)
  refine lv_bipush (v := 35) hx hb dX3_init_12 (by decide) ?_
  obtain ⟨j5, e38, hf⟩ := ol hf
  have Jj5 : ∀ (x4 : Int32) (H : Heap) (locs : List Loc) (ls : Array Slot), HI D S S s H locs → lv_has ls 4 [(0, .ref a0), (1, .ref b1), (2, .int p2), (3, .int p3)] → j5 x4 = some r → GV p l e (headSpec wsX3_init rmX3_init).room s m ([.ref a0, .ref b1, .int p2, .int p3] : List Value).toArray below meth c D S r H locs 0 0 2 182 (F0 m 22 ls [.int x4, .ref a0]) := by
    intro x4 H locs ls hH hl hf
    rw [← e38] at hf
    obtain ⟨ek6, hf⟩ := oc hf
    obtain ⟨en7, hf⟩ := oc hf
    refine r_putI hx hb 6 hts (fun w h => List.mem_cons_of_mem _ (mwsX30 w h)) tyX3 tyX3_ok nmX3 hown hH ek6 (by decide) rfl 0 (by decide) rfl (hts (.fieldLink RX3 13 "Housestyle$Item" "isNumber" "Z") (List.mem_cons_of_mem _ gw_3_6)) (fun _ h9 => h9) (Or.inr ⟨rfl, hin, rfl⟩) (ty := .boolean) (by decide +kernel) (nar_Z9 en7) (fit_Z9 en7) dX3_init_22 (fun H locs hH => ?_)
    obtain ⟨S8, e9, hf⟩ := ol hf
    rw [e9] at hH
    refine lv_aload_n hx hb dX3_init_25 rfl (lv_at hl 0 rfl) ?_
    refine lv_aload_n hx hb dX3_init_26 rfl (lv_at hl 1 rfl) ?_
    refine lv_iload_n hx hb dX3_init_27 rfl (lv_at hl 3 rfl) ?_
    refine lv_iconst (v := 1) hx hb dX3_init_28 (by decide) ?_
    refine lv_isub hx hb dX3_init_29 ?_
    obtain ⟨ek10, hf⟩ := oc hf
    obtain ⟨r11, e12, hf⟩ := ob hf
    refine r_callVi (As := [.int (p3 - 1)]) ⟨hx, hb, hml, hown, hts⟩ (c_X5_get l D S8 b1 (p3 - 1) r11 e12) (cwV 1 hts (gwV gw_13_20 gw_2_13 gw_2_14 gw_1_5 gw_2_9) rfl rfl rfl (by decide +kernel) ⟨Nat.le_of_ble_eq_true rfl, Nat.le_of_ble_eq_true rfl⟩) hH hNE 8 ek10 (by decide) rfl rfl rfl hl.1 rfl (Nat.le_of_ble_eq_true rfl) dX3_init_30 ⟨(Nat.le_of_ble_eq_true rfl), (Nat.le_of_ble_eq_true rfl)⟩ (fun H locs hH => ?_)
    refine lv_bipush (v := 42) hx hb dX3_init_33 (by decide) ?_
    obtain ⟨j14, e36, hf⟩ := ol hf
    have Jj14 : ∀ (x13 : Int32) (H : Heap) (locs : List Loc) (ls : Array Slot), HI D S S8 s H locs → lv_has ls 4 [(0, .ref a0), (1, .ref b1), (2, .int p2), (3, .int p3)] → j14 x13 = some r → GV p l e (headSpec wsX3_init rmX3_init).room s m ([.ref a0, .ref b1, .int p2, .int p3] : List Value).toArray below meth c D S r H locs 0 0 2 182 (F0 m 43 ls [.int x13, .ref a0]) := by
      intro x13 H locs ls hH hl hf
      rw [← e36] at hf
      obtain ⟨ek15, hf⟩ := oc hf
      obtain ⟨en16, hf⟩ := oc hf
      refine r_putI hx hb 6 hts (fun w h => List.mem_cons_of_mem _ (mwsX30 w h)) tyX3 tyX3_ok nmX3 hown hH ek15 (by decide) rfl 1 (by decide) rfl (hts (.fieldLink RX3 19 "Housestyle$Item" "hasStar" "Z") (List.mem_cons_of_mem _ gw_3_8)) (fun _ h9 => h9) (Or.inr ⟨rfl, hin, rfl⟩) (ty := .boolean) (by decide +kernel) (nar_Z9 en16) (fit_Z9 en16) dX3_init_43 (fun H locs hH => ?_)
      obtain ⟨S17, e18, hf⟩ := ol hf
      rw [e18] at hH
      refine lv_aload_n hx hb dX3_init_46 rfl (lv_at hl 0 rfl) ?_
      refine lv_aload_n hx hb dX3_init_47 rfl (lv_at hl 1 rfl) ?_
      refine lv_iload_n hx hb dX3_init_48 rfl (lv_at hl 2 rfl) ?_
      refine lv_aload_n hx hb dX3_init_49 rfl (lv_at hl 0 rfl) ?_
      obtain ⟨ek19, hf⟩ := oc hf
      refine r_getI hx hb 6 hts (fun w h => List.mem_cons_of_mem _ (mwsX30 w h)) hown hH ek19 (by decide) rfl 0 (by decide) rfl (hts (.fieldLink RX3 13 "Housestyle$Item" "isNumber" "Z") (List.mem_cons_of_mem _ gw_3_6)) (fun _ h9 => h9) dX3_init_50 ?_
      obtain ⟨j21, e30, hf⟩ := ol hf
      have Jj21 : ∀ (x20 : Int32) (H : Heap) (locs : List Loc) (ls : Array Slot), HI D S S17 s H locs → lv_has ls 4 [] → j21 x20 = some r → GV p l e (headSpec wsX3_init rmX3_init).room s m ([.ref a0, .ref b1, .int p2, .int p3] : List Value).toArray below meth c D S r H locs 0 0 2 182 (F0 m 70 ls [.int x20, .int p2, .ref b1, .ref a0]) := by
        intro x20 H locs ls hH hl hf
        rw [← e30] at hf
        obtain ⟨ek22, hf⟩ := oc hf
        obtain ⟨r23, e24, hf⟩ := ob hf
        refine r_callVr (As := [.int p2, .int x20]) ⟨hx, hb, hml, hown, hts⟩ (c_X5_part l D S17 b1 p2 x20 r23 e24) (cwV 2 hts (gwV gw_13_21 gw_13_22 gw_13_23 gw_1_5 gw_13_13) rfl rfl rfl (by decide +kernel) ⟨Nat.le_of_ble_eq_true rfl, Nat.le_of_ble_eq_true rfl⟩) hH hNE 8 ek22 (by decide) rfl rfl rfl hl.1 rfl (Nat.le_of_ble_eq_true rfl) dX3_init_70 ⟨(Nat.le_of_ble_eq_true rfl), (Nat.le_of_ble_eq_true rfl)⟩ (fun H locs hH => ?_)
        obtain ⟨S25, e26, hf⟩ := ol hf
        rw [e26] at hH
        refine W.widen (k := 2) (n := 182) (by omega) (by omega) ?_
        obtain ⟨ek27, hf⟩ := oc hf
        refine r_putQ hx hb 6 hts (fun w h => List.mem_cons_of_mem _ (mwsX30 w h)) tyX3 tyX3_ok nmX3 hown hH ek27 (by decide) rfl 2 (by decide) rfl (hts (.fieldLink RX3 26 "Housestyle$Item" "letters" "LHousestyle$Row;") (List.mem_cons_of_mem _ gw_3_7)) (fun _ h9 => h9) (Or.inr ⟨rfl, hin, rfl⟩) (ty := (.object "Housestyle$Row")) (by decide +kernel) rfl rfl dX3_init_73 (fun H locs hH => ?_)
        obtain ⟨S28, e29, hf⟩ := ol hf
        rw [e29] at hH
        have hr9 := Option.some.inj hf
        subst hr9
        exact e_v hx hb hr hlocks hH dX3_init_76
      obtain ⟨j31, e33, hf⟩ := ol hf
      have Jj31 : ∀ (u32 : Unit) (H : Heap) (locs : List Loc) (ls : Array Slot), HI D S S17 s H locs → lv_has ls 4 [(3, .int p3)] → j31 u32 = some r → GV p l e (headSpec wsX3_init rmX3_init).room s m ([.ref a0, .ref b1, .int p2, .int p3] : List Value).toArray below meth c D S r H locs 0 0 2 182 (F0 m 63 ls [.int p2, .ref b1, .ref a0]) := by
        intro u32 H locs ls hH hl hf
        rw [← e33] at hf
        refine lv_iload_n hx hb dX3_init_63 rfl (lv_at hl 0 rfl) ?_
        refine lv_iconst (v := 1) hx hb dX3_init_64 (by decide) ?_
        refine lv_isub hx hb dX3_init_65 ?_
        refine lv_goto (tgt := 70) hx hb dX3_init_66 (by decide) ?_
        exact Jj21 (p3 - 1) _ _ ls hH (lv_sub hl [] rfl) hf
      refine lv_if_ne (tgt := 63) hx hb dX3_init_53 (by decide) (fun c34 => ?_) (fun c34 => ?_)
      · have hf := iq hf c34
        exact Jj31 () _ _ ls hH (lv_sub hl [3] rfl) hf
      · have hf := ip hf c34
        refine lv_aload_n hx hb dX3_init_56 rfl (lv_at hl 0 rfl) ?_
        refine r_getI hx hb 6 hts (fun w h => List.mem_cons_of_mem _ (mwsX30 w h)) hown hH ek19 (by decide) rfl 1 (by decide) rfl (hts (.fieldLink RX3 19 "Housestyle$Item" "hasStar" "Z") (List.mem_cons_of_mem _ gw_3_8)) (fun _ h9 => h9) dX3_init_57 ?_
        refine lv_if_eq (tgt := 69) hx hb dX3_init_60 (by decide) (fun c35 => ?_) (fun c35 => ?_)
        · have hf := ip hf c35
          refine lv_iload_n hx hb dX3_init_69 rfl (lv_at hl 3 rfl) ?_
          exact Jj21 p3 _ _ ls hH (lv_sub hl [] rfl) hf
        · have hf := iq hf c35
          exact Jj31 () _ _ ls hH (lv_sub hl [3] rfl) hf
    refine lv_icmp_ne (tgt := 42) hx hb dX3_init_35 (by decide) (fun c37 => ?_) (fun c37 => ?_)
    · have hf := iq hf c37
      refine lv_iconst (v := 0) hx hb dX3_init_42 (by decide) ?_
      exact Jj14 0 _ _ ls hH (lv_sub hl [0, 1, 2, 3] rfl) hf
    · have hf := ip hf c37
      refine lv_iconst (v := 1) hx hb dX3_init_38 (by decide) ?_
      refine lv_goto (tgt := 43) hx hb dX3_init_39 (by decide) ?_
      exact Jj14 1 _ _ ls hH (lv_sub hl [0, 1, 2, 3] rfl) hf
  refine lv_icmp_ne (tgt := 21) hx hb dX3_init_14 (by decide) (fun c39 => ?_) (fun c39 => ?_)
  · have hf := iq hf c39
    refine lv_iconst (v := 0) hx hb dX3_init_21 (by decide) ?_
    exact Jj5 0 _ _ ls hH (lv_sub hl [0, 1, 2, 3] rfl) hf
  · have hf := ip hf c39
    refine lv_iconst (v := 1) hx hb dX3_init_17 (by decide) ?_
    refine lv_goto (tgt := 22) hx hb dX3_init_18 (by decide) ?_
    exact Jj5 1 _ _ ls hH (lv_sub hl [0, 1, 2, 3] rfl) hf
set_option maxRecDepth 100000 in
def f_X7_markAll_b2 (a0 : Nat) (p1 : Int32) (x1 : Int32) (S2 : PS) : Option ((Int32 × PS) ⊕ ((PS))) := if kK S2 a0 = 11 then ((kQ S2 a0 2).bind fun a8 => if kK S2 a8 = 9 then ((f_X5_count S2 a8).bind fun r11 => if r11 ≤ x1 then (some (.inr S2)) else ((f_X5_get S2 a8 x1).bind fun r14 => (f_X5_set S2 a8 x1 (r14 ||| p1)).bind fun r16 => lt (x1 + 1) fun x18 => some (.inl (x18, r16)))) else none) else none
set_option maxRecDepth 100000 in
def f_X7_markAll (S : PS) (a0 : Nat) (p1 : Int32) : Option (PS) := lt (fun (S3 : PS) => some S3) fun k4 => (iter (fun (v : Int32 × PS) => f_X7_markAll_b2 a0 p1 v.1 v.2) kF (0, S)).bind (fun (v : PS) => k4 v)
abbrev rmX7_markAll : Room := { frames := 1, cells := 0, slots := 0, locals := 22 }
set_option maxHeartbeats 4000000 in
set_option maxRecDepth 100000 in
theorem c_X7_markAll (l : Launch) (D : va_G × Nat) (S : PS) (a0 : Nat) (p1 : Int32) (r : PS) (hf : f_X7_markAll S a0 p1 = some r) : MV l D yX7_markAll wsX7_markAll rmX7_markAll S [.ref a0, .int p1] r 0 0 := by
  unfold f_X7_markAll at hf
  refine Met.ofW (cc := cX7_markAll) (maxL := 3) (ret := none) (by decide) rfl ?_
  intro p e s m args below meth c s₁ B hml hv
  obtain ⟨rfl, hH0, hNE⟩ := hv
  have hx := B.exec
  have hb := B.bytes
  have hr := B.returns
  have hts := atoms_spec (ws := wsX7_markAll) B.pre
  have hown : s.vm.findClass RX7 = some m.cls := findClass_of_methodNamed B.named
  have hlocks := B.notSynchronized
  have hH : HI D S S s s.heap [] := HI.start hH0
  have hl := lv_entry ([.ref a0, .int p1]) (n := 3) (Nat.le_of_ble_eq_true rfl)
  rw [lg_entry_eq]
  generalize (lg_sl ([.ref a0, .int p1]) ++ List.replicate (3 - (lg_sl ([.ref a0, .int p1])).length) Slot.unset).toArray = ls at hl ⊢
  have hl : lv_has ls 3 [(0, .ref a0), (1, .int p1)] := hl
  refine lv_iconst (v := 0) hx hb dX7_markAll_0 (by decide) ?_
  refine lv_istore_n (lv' := [(2, .int 0), (0, .ref a0), (1, .int p1)]) hx hb dX7_markAll_1 rfl hl (by decide) rfl (fun ls hl => ?_)
  obtain ⟨k4, e5, hf⟩ := ol hf
  have Xk4 : ∀ (S3 : PS) (H : Heap) (locs : List Loc) (ls : Array Slot), HI D S S3 s H locs → lv_has ls 3 [] → k4 S3 = some r → GV p l e (headSpec wsX7_markAll rmX7_markAll).room s m ([.ref a0, .int p1] : List Value).toArray below meth c D S r H locs 0 0 0 0 (F0 m 37 ls []) := by
    intro S3 H locs ls hH hl hf
    rw [← e5] at hf
    have hr9 := Option.some.inj hf
    subst hr9
    exact e_v hx hb hr hlocks hH dX7_markAll_37
  obtain ⟨o6, eo6, hq6f⟩ := ob hf
  have Lo6 : ∀ (n : Nat) (x1 : Int32) (S2 : PS), iter (fun (v : Int32 × PS) => f_X7_markAll_b2 a0 p1 v.1 v.2) n (x1, S2) = some o6 → ∀ (H : Heap) (locs : List Loc) (ls : Array Slot), HI D S S2 s H locs → lv_has ls 3 [(0, .ref a0), (1, .int p1), (2, .int x1)] → GV p l e (headSpec wsX7_markAll rmX7_markAll).room s m ([.ref a0, .int p1] : List Value).toArray below meth c D S r H locs 0 0 0 0 (F0 m 2 ls []) := by
    intro n
    induction n with
    | zero => intro x1 S2 hi; cases hi
    | succ n ih6 =>
      intro x1 S2 hi H locs ls hH hl
      obtain ⟨q6_, hf, hq6⟩ := iter_s hi
      have hf : f_X7_markAll_b2 a0 p1 x1 S2 = some q6_ := hf
      unfold f_X7_markAll_b2 at hf
      refine lv_iload_n hx hb dX7_markAll_2 rfl (lv_at hl 2 rfl) ?_
      refine lv_aload_n hx hb dX7_markAll_3 rfl (lv_at hl 0 rfl) ?_
      obtain ⟨ek7, hf⟩ := oc hf
      obtain ⟨a8, e9, hf⟩ := ob hf
      refine r_getQ hx hb 10 hts (fun w h => List.mem_cons_of_mem _ (mwsX70 w h)) hown hH ek7 (by decide) rfl 2 (by decide) rfl (hts (.fieldLink RX7 23 "Housestyle$Text" "changed" "LHousestyle$Row;") (List.mem_cons_of_mem _ gw_17_13)) (fun _ h9 => h9) dX7_markAll_4 e9 ?_
      obtain ⟨ek10, hf⟩ := oc hf
      obtain ⟨r11, e12, hf⟩ := ob hf
      refine r_callVi (As := []) ⟨hx, hb, hml, hown, hts⟩ (c_X5_count l D S2 a8 r11 e12) (cwV 0 hts (gwV gw_17_17 gw_1_15 gw_1_16 gw_1_5 gw_1_11) rfl rfl rfl (by decide +kernel) ⟨Nat.le_of_ble_eq_true rfl, Nat.le_of_ble_eq_true rfl⟩) hH hNE 8 ek10 (by decide) rfl rfl rfl hl.1 rfl (Nat.le_of_ble_eq_true rfl) dX7_markAll_7 ⟨(Nat.le_of_ble_eq_true rfl), (Nat.le_of_ble_eq_true rfl)⟩ (fun H locs hH => ?_)
      refine lv_icmp_ge (tgt := 37) hx hb dX7_markAll_10 (by decide) (fun c13 => ?_) (fun c13 => ?_)
      · have hf := ip hf c13
        cases hf
        have hf9 := itR (K := (fun (v : PS) => k4 v)) hq6 hq6f
        exact Xk4 S2 _ _ ls hH (lv_sub hl [] rfl) hf9
      · have hf := iq hf c13
        refine lv_aload_n hx hb dX7_markAll_13 rfl (lv_at hl 0 rfl) ?_
        refine r_getQ hx hb 10 hts (fun w h => List.mem_cons_of_mem _ (mwsX70 w h)) hown hH ek7 (by decide) rfl 2 (by decide) rfl (hts (.fieldLink RX7 23 "Housestyle$Text" "changed" "LHousestyle$Row;") (List.mem_cons_of_mem _ gw_17_13)) (fun _ h9 => h9) dX7_markAll_14 e9 ?_
        refine lv_iload_n hx hb dX7_markAll_17 rfl (lv_at hl 2 rfl) ?_
        refine lv_aload_n hx hb dX7_markAll_18 rfl (lv_at hl 0 rfl) ?_
        refine r_getQ hx hb 10 hts (fun w h => List.mem_cons_of_mem _ (mwsX70 w h)) hown hH ek7 (by decide) rfl 2 (by decide) rfl (hts (.fieldLink RX7 23 "Housestyle$Text" "changed" "LHousestyle$Row;") (List.mem_cons_of_mem _ gw_17_13)) (fun _ h9 => h9) dX7_markAll_19 e9 ?_
        refine lv_iload_n hx hb dX7_markAll_22 rfl (lv_at hl 2 rfl) ?_
        obtain ⟨r14, e15, hf⟩ := ob hf
        refine r_callVi (As := [.int x1]) ⟨hx, hb, hml, hown, hts⟩ (c_X5_get l D S2 a8 x1 r14 e15) (cwV 1 hts (gwV gw_17_18 gw_2_13 gw_2_14 gw_1_5 gw_2_9) rfl rfl rfl (by decide +kernel) ⟨Nat.le_of_ble_eq_true rfl, Nat.le_of_ble_eq_true rfl⟩) hH hNE 8 ek10 (by decide) rfl rfl rfl hl.1 rfl (Nat.le_of_ble_eq_true rfl) dX7_markAll_23 ⟨(Nat.le_of_ble_eq_true rfl), (Nat.le_of_ble_eq_true rfl)⟩ (fun H locs hH => ?_)
        refine lv_iload_n hx hb dX7_markAll_26 rfl (lv_at hl 1 rfl) ?_
        refine lv_ior hx hb dX7_markAll_27 ?_
        obtain ⟨r16, e17, hf⟩ := ob hf
        refine r_callVv (As := [.int x1, .int (r14 ||| p1)]) ⟨hx, hb, hml, hown, hts⟩ (c_X5_set l D S2 a8 x1 (r14 ||| p1) r16 e17) (cwV 2 hts (gwV gw_18_3 gw_5_20 gw_5_21 gw_1_5 gw_5_16) rfl rfl rfl (by decide +kernel) ⟨Nat.le_of_ble_eq_true rfl, Nat.le_of_ble_eq_true rfl⟩) hH hNE 8 ek10 (by decide) rfl rfl rfl hl.1 rfl (Nat.le_of_ble_eq_true rfl) dX7_markAll_28 ⟨(Nat.le_of_ble_eq_true rfl), (Nat.le_of_ble_eq_true rfl)⟩ (fun H locs hH => ?_)
        obtain ⟨x18, e19, hf⟩ := ol hf
        refine lv_iinc (v := x18) (lv' := [(2, .int x18), (0, .ref a0), (1, .int p1)]) hx hb dX7_markAll_31 hl (k := 2) rfl (by rw [← e19]; rfl) (by decide) rfl (fun ls hl => ?_)
        refine lv_goto (tgt := 2) hx hb dX7_markAll_34 (by decide) ?_
        cases hf
        exact ih6 x18 r16 hq6 _ _ ls hH (lv_sub hl [1, 2, 0] rfl)
  exact Lo6 kF 0 S eo6 _ _ ls hH (lv_sub hl [1, 2, 0] rfl)
set_option maxRecDepth 100000 in
def f_X9_noteTold (S : PS) (a0 : Nat) : Option (PS) := if kK S a0 = 13 then ((kQ S a0 0).bind fun a2 => if kK S a2 = 9 then ((f_X5_clear S a2).bind fun r5 => if kK r5 a0 = 13 then ((kQ r5 a0 1).bind fun a8 => if kK r5 a8 = 11 then ((f_X7_markAll r5 a8 15).bind fun r11 => if kK r11 a0 = 13 then ((f_X9_noteStale r11 a0).bind fun r14 => some r14) else none) else none) else none) else none) else none
abbrev rmX9_noteTold : Room := { frames := 2, cells := 0, slots := 0, locals := 44 }
set_option maxHeartbeats 4000000 in
set_option maxRecDepth 100000 in
theorem c_X9_noteTold (l : Launch) (D : va_G × Nat) (S : PS) (a0 : Nat) (r : PS) (hf : f_X9_noteTold S a0 = some r) : MV l D yX9_noteTold wsX9_noteTold rmX9_noteTold S [.ref a0] r 0 0 := by
  unfold f_X9_noteTold at hf
  refine Met.ofW (cc := cX9_noteTold) (maxL := 1) (ret := none) (by decide) rfl ?_
  intro p e s m args below meth c s₁ B hml hv
  obtain ⟨rfl, hH0, hNE⟩ := hv
  have hx := B.exec
  have hb := B.bytes
  have hr := B.returns
  have hts := atoms_spec (ws := wsX9_noteTold) B.pre
  have hown : s.vm.findClass RX9 = some m.cls := findClass_of_methodNamed B.named
  have hlocks := B.notSynchronized
  have hH : HI D S S s s.heap [] := HI.start hH0
  have hl := lv_entry ([.ref a0]) (n := 1) (Nat.le_of_ble_eq_true rfl)
  rw [lg_entry_eq]
  generalize (lg_sl ([.ref a0]) ++ List.replicate (1 - (lg_sl ([.ref a0])).length) Slot.unset).toArray = ls at hl ⊢
  have hl : lv_has ls 1 [(0, .ref a0)] := hl
  refine lv_aload_n hx hb dX9_noteTold_0 rfl (lv_at hl 0 rfl) ?_
  obtain ⟨ek1, hf⟩ := oc hf
  obtain ⟨a2, e3, hf⟩ := ob hf
  refine r_getQ hx hb 12 hts (fun w h => List.mem_cons_of_mem _ (mwsX90 w h)) hown hH ek1 (by decide) rfl 0 (by decide) rfl (hts (.fieldLink RX9 14 "Housestyle" "typed" "LHousestyle$Row;") (List.mem_cons_of_mem _ gw_19_21)) (fun _ h9 => h9) dX9_noteTold_1 e3 ?_
  obtain ⟨ek4, hf⟩ := oc hf
  obtain ⟨r5, e6, hf⟩ := ob hf
  refine r_callVv (As := []) ⟨hx, hb, hml, hown, hts⟩ (c_X5_clear l D S a2 r5 e6) (cwV 0 hts (gwV gw_21_18 gw_9_14 gw_9_15 gw_1_5 gw_9_11) rfl rfl rfl (by decide +kernel) ⟨Nat.le_of_ble_eq_true rfl, Nat.le_of_ble_eq_true rfl⟩) hH hNE 8 ek4 (by decide) rfl rfl rfl hl.1 rfl (Nat.le_of_ble_eq_true rfl) dX9_noteTold_4 ⟨(Nat.le_of_ble_eq_true rfl), (Nat.le_of_ble_eq_true rfl)⟩ (fun H locs hH => ?_)
  refine lv_aload_n hx hb dX9_noteTold_7 rfl (lv_at hl 0 rfl) ?_
  obtain ⟨ek7, hf⟩ := oc hf
  obtain ⟨a8, e9, hf⟩ := ob hf
  refine r_getQ hx hb 12 hts (fun w h => List.mem_cons_of_mem _ (mwsX90 w h)) hown hH ek7 (by decide) rfl 1 (by decide) rfl (hts (.fieldLink RX9 21 "Housestyle" "text" "LHousestyle$Text;") (List.mem_cons_of_mem _ gw_20_0)) (fun _ h9 => h9) dX9_noteTold_8 e9 ?_
  refine lv_bipush (v := 15) hx hb dX9_noteTold_11 (by decide) ?_
  obtain ⟨ek10, hf⟩ := oc hf
  obtain ⟨r11, e12, hf⟩ := ob hf
  refine r_callVv (As := [.int 15]) ⟨hx, hb, hml, hown, hts⟩ (c_X7_markAll l D r5 a8 15 r11 e12) (cwV 1 hts (gwV gw_23_15 gw_23_16 gw_23_17 gw_17_23 gw_18_6) rfl rfl rfl (by decide +kernel) ⟨Nat.le_of_ble_eq_true rfl, Nat.le_of_ble_eq_true rfl⟩) hH hNE 10 ek10 (by decide) rfl rfl rfl hl.1 rfl (Nat.le_of_ble_eq_true rfl) dX9_noteTold_13 ⟨(Nat.le_of_ble_eq_true rfl), (Nat.le_of_ble_eq_true rfl)⟩ (fun H locs hH => ?_)
  refine lv_aload_n hx hb dX9_noteTold_16 rfl (lv_at hl 0 rfl) ?_
  obtain ⟨ek13, hf⟩ := oc hf
  obtain ⟨r14, e15, hf⟩ := ob hf
  refine r_callVv (As := []) ⟨hx, hb, hml, hown, hts⟩ (c_X9_noteStale l D r11 a0 r14 e15) (cwV 0 hts (gwV gw_22_8 gw_22_9 gw_22_10 gw_14_5 gw_21_21) rfl rfl rfl (by decide +kernel) ⟨Nat.le_of_ble_eq_true rfl, Nat.le_of_ble_eq_true rfl⟩) hH hNE 12 ek13 (by decide) rfl rfl rfl hl.1 rfl (Nat.le_of_ble_eq_true rfl) dX9_noteTold_17 ⟨(Nat.le_of_ble_eq_true rfl), (Nat.le_of_ble_eq_true rfl)⟩ (fun H locs hH => ?_)
  have hr9 := Option.some.inj hf
  subst hr9
  exact e_v hx hb hr hlocks hH dX9_noteTold_20
set_option maxRecDepth 100000 in
def f_X9_ruleAt (S : PS) (a0 : Nat) (p1 : Int32) : Option ((PS × Nat) ⊕ (PS × Nat)) := lt (fun (u2 : Unit) => some (.inr (S, 3))) fun j1 => if p1 < 0 then (j1 ()) else (if kK S a0 = 13 then ((kQ S a0 3).bind fun a6 => if kK S a6 = 4 then ((kQ S a6 0).bind fun a9 => if kK S a9 = 3 then ((f_Jx4a65c_size_8abf5 S a9).bind fun r12 => if p1 < r12 then ((f_Jx4a65c_get_915e3 S a9 p1).bind fun r15 => if kK S r15 = 10 then (some (.inl (S, r15))) else none) else (j1 ())) else none) else none) else none)
abbrev rmX9_ruleAt : Room := { frames := 6, cells := 1, slots := 6, locals := 90 }
set_option maxHeartbeats 4000000 in
set_option maxRecDepth 100000 in
theorem c_X9_ruleAt (l : Launch) (hst9 : l.stackTraces = false) (D : va_G × Nat) (S : PS) (a0 : Nat) (p1 : Int32) (r : (PS × Nat) ⊕ (PS × Nat)) (hf : f_X9_ruleAt S a0 p1 = some r) : XM l D yX9_ruleAt wsX9_ruleAt rmX9_ruleAt S [.ref a0, .int p1] (mR r) 1 6 := by
  unfold f_X9_ruleAt at hf
  refine vx_ofW (cc := cX9_ruleAt) (maxL := 2) (ret := (some (.object "Housestyle$Rule"))) (by decide) rfl ?_
  intro p e s m args below meth c s₁ B hml hxt hv
  obtain ⟨rfl, hH0, hE, hNE⟩ := hv
  have hB := hH0.base
  have hx := B.exec
  have hb := B.bytes
  have hr := B.returns
  have hts := atoms_spec (ws := wsX9_ruleAt) B.pre
  have hown : s.vm.findClass RX9 = some m.cls := findClass_of_methodNamed B.named
  have hlocks := B.notSynchronized
  have hH : HI D S S s s.heap [] := HI.start hH0
  have hl := lv_entry ([.ref a0, .int p1]) (n := 2) (Nat.le_of_ble_eq_true rfl)
  rw [lg_entry_eq]
  generalize (lg_sl ([.ref a0, .int p1]) ++ List.replicate (2 - (lg_sl ([.ref a0, .int p1])).length) Slot.unset).toArray = ls at hl ⊢
  have hl : lv_has ls 2 [(0, .ref a0), (1, .int p1)] := hl
  refine lv_iload_n hx hb dX9_ruleAt_0 rfl (lv_at hl 1 rfl) ?_
  obtain ⟨j1, e3, hf⟩ := ol hf
  have Jj1 : ∀ (u2 : Unit) (H : Heap) (locs : List Loc) (ls : Array Slot), HI D S S s H locs → lv_has ls 2 [] → j1 u2 = some r → GX p l e (headSpec wsX9_ruleAt rmX9_ruleAt).room s m ([.ref a0, .int p1] : List Value).toArray below meth c D S (mR r) H locs 0 0 1 6 (F0 m 18 ls []) := by
    intro u2 H locs ls hH hl hf
    rw [← e3] at hf
    cases hf
    exact r_throwW (text := "no such rule") (cls := "java/lang/IndexOutOfBoundsException") (names := ["java/lang/RuntimeException", "java/lang/Exception"]) 3 hx hb hst9 hown xf2 xn (hts (.classLink RX9 103 "java/lang/IndexOutOfBoundsException") (List.mem_cons_of_mem _ gw_22_12)) (hts (.initialized "java/lang/IndexOutOfBoundsException") (List.mem_cons_of_mem _ gw_22_13)) (List.mem_of_getElem? (i := 21) rfl) (xa2 hts hE) xg2 hE hB hH (hl.1.trans hml.symm) rfl dX9_ruleAt_18 dX9_ruleAt_21 dX9_ruleAt_22 dX9_ruleAt_25 dX9_ruleAt_28 hxt (Nat.le_of_ble_eq_true rfl) (Nat.le_of_ble_eq_true rfl) (Nat.le_of_ble_eq_true rfl) (Nat.le_of_ble_eq_true rfl) hlocks ⟨Nat.le_of_ble_eq_true rfl, Nat.le_of_ble_eq_true rfl⟩
  refine lv_if_lt (tgt := 18) hx hb dX9_ruleAt_1 (by decide) (fun c4 => ?_) (fun c4 => ?_)
  · have hf := ip hf c4
    exact Jj1 () _ _ ls hH (lv_sub hl [] rfl) hf
  · have hf := iq hf c4
    refine lv_iload_n hx hb dX9_ruleAt_4 rfl (lv_at hl 1 rfl) ?_
    refine lv_aload_n hx hb dX9_ruleAt_5 rfl (lv_at hl 0 rfl) ?_
    obtain ⟨ek5, hf⟩ := oc hf
    obtain ⟨a6, e7, hf⟩ := ob hf
    refine r_getQ hx hb 12 hts (fun w h => List.mem_cons_of_mem _ (mwsX90 w h)) hown hH ek5 (by decide) rfl 3 (by decide) rfl (hts (.fieldLink RX9 40 "Housestyle" "book" "LHousestyle$Book;") (List.mem_cons_of_mem _ gw_20_6)) (fun _ h9 => h9) dX9_ruleAt_6 e7 ?_
    obtain ⟨ek8, hf⟩ := oc hf
    obtain ⟨a9, e10, hf⟩ := ob hf
    refine r_getQN hx hb 3 hts (fun w h => List.mem_cons_of_mem _ (mwsX00 w h)) hown hH ek8 (by decide) rfl 0 (by decide) rfl (nf_1 hNE) (fun _ h9 => h9) dX9_ruleAt_9 e10 ?_
    obtain ⟨ek11, hf⟩ := oc hf
    obtain ⟨r12, e13, hf⟩ := ob hf
    refine r_callVi (As := []) ⟨hx, hb, hml, hown, hts⟩ (c_Jx4a65c_size_8abf5 l D S a9 r12 e13) (cwV 0 hts (gwV gw_22_3 gw_4_10 gw_4_11 gw_1_0 gw_1_18) rfl rfl rfl (by decide +kernel) ⟨Nat.le_of_ble_eq_true rfl, Nat.le_of_ble_eq_true rfl⟩) hH hNE 2 ek11 (by decide) rfl rfl rfl hl.1 rfl (Nat.le_of_ble_eq_true rfl) dX9_ruleAt_12 ⟨(Nat.le_of_ble_eq_true rfl), (Nat.le_of_ble_eq_true rfl)⟩ (fun H locs hH => ?_)
    refine lv_icmp_lt (tgt := 29) hx hb dX9_ruleAt_15 (by decide) (fun c14 => ?_) (fun c14 => ?_)
    · have hf := ip hf c14
      refine lv_aload_n hx hb dX9_ruleAt_29 rfl (lv_at hl 0 rfl) ?_
      refine r_getQ hx hb 12 hts (fun w h => List.mem_cons_of_mem _ (mwsX90 w h)) hown hH ek5 (by decide) rfl 3 (by decide) rfl (hts (.fieldLink RX9 40 "Housestyle" "book" "LHousestyle$Book;") (List.mem_cons_of_mem _ gw_20_6)) (fun _ h9 => h9) dX9_ruleAt_30 e7 ?_
      refine r_getQN hx hb 3 hts (fun w h => List.mem_cons_of_mem _ (mwsX00 w h)) hown hH ek8 (by decide) rfl 0 (by decide) rfl (nf_1 hNE) (fun _ h9 => h9) dX9_ruleAt_33 e10 ?_
      refine lv_iload_n hx hb dX9_ruleAt_36 rfl (lv_at hl 1 rfl) ?_
      obtain ⟨r15, e16, hf⟩ := ob hf
      refine r_callVr (As := [.int p1]) ⟨hx, hb, hml, hown, hts⟩ (c_Jx4a65c_get_915e3 l D S a9 p1 r15 e16) (cwV 1 hts (gwV gw_22_4 gw_4_13 gw_4_14 gw_1_0 gw_2_2) rfl rfl rfl (by decide +kernel) ⟨Nat.le_of_ble_eq_true rfl, Nat.le_of_ble_eq_true rfl⟩) hH hNE 2 ek11 (by decide) rfl rfl rfl hl.1 rfl (Nat.le_of_ble_eq_true rfl) dX9_ruleAt_37 ⟨(Nat.le_of_ble_eq_true rfl), (Nat.le_of_ble_eq_true rfl)⟩ (fun H locs hH => ?_)
      obtain ⟨ek17, hf⟩ := oc hf
      refine r_castS 9 hx hb hown (hts (.classLink RX9 137 "Housestyle$Rule") (List.mem_cons_of_mem _ gw_24_7)) hH ek17 (by decide) rfl rfl dX9_ruleAt_40 ?_
      refine W.widen (k := 1) (n := 6) (by omega) (by omega) ?_
      have hr9 := Option.some.inj hf
      subst hr9
      exact x_r hx hb hr hlocks hH dX9_ruleAt_43
    · have hf := iq hf c14
      exact Jj1 () _ _ ls hH (lv_sub hl [] rfl) hf
set_option maxRecDepth 100000 in
def f_X6_isSuggestion_b4 (b0 : Nat) (S : PS) (x1 : Int32) (x2 : Int32) : Option ((Int32 × Int32) ⊕ ((Int32) ⊕ (Unit))) := if kK S b0 = 9 then ((f_X5_count S b0).bind fun r16 => if r16 ≤ x2 then (some (.inr (.inl x1))) else ((f_X5_get S b0 x2).bind fun r19 => lt (fun (x21 : Int32) => lt (x2 + 1) fun x23 => some (.inl (x21, x23))) fun j22 => if r19 = (42 : Int32) then (lt (x1 + 1) fun x34 => j22 x34) else ((f_X9_isLetter S r19).bind fun r27 => if r27 = 0 then ((f_X9_isDigit S r19).bind fun r30 => if r30 = 0 then (if r19 = (32 : Int32) then (j22 x1) else (some (.inr (.inr ())))) else (j22 x1)) else (j22 x1)))) else none
set_option maxRecDepth 100000 in
def f_X6_isSuggestion (S : PS) (b0 : Nat) : Option (Int32) := lt (fun (x3 : Int32) => if kK S b0 = 9 then ((f_X5_count S b0).bind fun r7 => if r7 ≤ 0 then (some 0) else (if (1 : Int32) < x3 then (some 0) else (some 1))) else none) fun k4 => lt (fun (u13 : Unit) => some 0) fun k11 => (iter (fun (v : Int32 × Int32) => f_X6_isSuggestion_b4 b0 S v.1 v.2) kF (0, 0)).bind (fun (z : (Int32) ⊕ (Unit)) => Sum.elim (fun (v : Int32) => k4 v) (fun (v : Unit) => k11 v) z)
abbrev rmX6_isSuggestion : Room := { frames := 1, cells := 0, slots := 0, locals := 21 }
set_option maxHeartbeats 4000000 in
set_option maxRecDepth 100000 in
theorem c_X6_isSuggestion (l : Launch) (D : va_G × Nat) (S : PS) (b0 : Nat) (r : Int32) (hf : f_X6_isSuggestion S b0 = some r) : MI l D yX6_isSuggestion wsX6_isSuggestion rmX6_isSuggestion S [.ref b0] S r 0 0 := by
  unfold f_X6_isSuggestion at hf
  refine Met.ofW (cc := cX6_isSuggestion) (maxL := 4) (ret := (some .boolean)) (by decide) rfl ?_
  intro p e s m args below meth c s₁ B hml hv
  obtain ⟨rfl, hH0, hNE⟩ := hv
  have hx := B.exec
  have hb := B.bytes
  have hr := B.returns
  have hts := atoms_spec (ws := wsX6_isSuggestion) B.pre
  have hown : s.vm.findClass RX6 = some m.cls := findClass_of_methodNamed B.named
  have hlocks := B.notSynchronized
  have hH : HI D S S s s.heap [] := HI.start hH0
  have hl := lv_entry ([.ref b0]) (n := 4) (Nat.le_of_ble_eq_true rfl)
  rw [lg_entry_eq]
  generalize (lg_sl ([.ref b0]) ++ List.replicate (4 - (lg_sl ([.ref b0])).length) Slot.unset).toArray = ls at hl ⊢
  have hl : lv_has ls 4 [(0, .ref b0)] := hl
  refine lv_iconst (v := 0) hx hb dX6_isSuggestion_0 (by decide) ?_
  refine lv_istore_n (lv' := [(1, .int 0), (0, .ref b0)]) hx hb dX6_isSuggestion_1 rfl hl (by decide) rfl (fun ls hl => ?_)
  refine lv_iconst (v := 0) hx hb dX6_isSuggestion_2 (by decide) ?_
  refine lv_istore_n (lv' := [(2, .int 0), (1, .int 0), (0, .ref b0)]) hx hb dX6_isSuggestion_3 rfl hl (by decide) rfl (fun ls hl => ?_)
  obtain ⟨k4, e5, hf⟩ := ol hf
  have Xk4 : ∀ (x3 : Int32) (H : Heap) (locs : List Loc) (ls : Array Slot), HI D S S s H locs → lv_has ls 4 [(0, .ref b0), (1, .int x3)] → k4 x3 = some r → GI p l e (headSpec wsX6_isSuggestion rmX6_isSuggestion).room s m ([.ref b0] : List Value).toArray below meth c D S S r H locs 0 0 0 0 (F0 m 58 ls []) := by
    intro x3 H locs ls hH hl hf
    rw [← e5] at hf
    refine lv_aload_n hx hb dX6_isSuggestion_58 rfl (lv_at hl 0 rfl) ?_
    obtain ⟨ek6, hf⟩ := oc hf
    obtain ⟨r7, e8, hf⟩ := ob hf
    refine r_callVi (As := []) ⟨hx, hb, hml, hown, hts⟩ (c_X5_count l D S b0 r7 e8) (cwV 0 hts (gwV gw_7_17 gw_1_15 gw_1_16 gw_1_5 gw_1_11) rfl rfl rfl (by decide +kernel) ⟨Nat.le_of_ble_eq_true rfl, Nat.le_of_ble_eq_true rfl⟩) hH hNE 8 ek6 (by decide) rfl rfl rfl hl.1 rfl (Nat.le_of_ble_eq_true rfl) dX6_isSuggestion_59 ⟨(Nat.le_of_ble_eq_true rfl), (Nat.le_of_ble_eq_true rfl)⟩ (fun H locs hH => ?_)
    refine lv_if_le (tgt := 74) hx hb dX6_isSuggestion_62 (by decide) (fun c9 => ?_) (fun c9 => ?_)
    · have hf := ip hf c9
      refine lv_iconst (v := 0) hx hb dX6_isSuggestion_74 (by decide) ?_
      have hr9 := Option.some.inj hf
      subst hr9
      exact e_z (r := 0) hx hb hr hlocks rfl hH dX6_isSuggestion_75
    · have hf := iq hf c9
      refine lv_iload_n hx hb dX6_isSuggestion_65 rfl (lv_at hl 1 rfl) ?_
      refine lv_iconst (v := 1) hx hb dX6_isSuggestion_66 (by decide) ?_
      refine lv_icmp_gt (tgt := 74) hx hb dX6_isSuggestion_67 (by decide) (fun c10 => ?_) (fun c10 => ?_)
      · have hf := ip hf c10
        refine lv_iconst (v := 0) hx hb dX6_isSuggestion_74 (by decide) ?_
        have hr9 := Option.some.inj hf
        subst hr9
        exact e_z (r := 0) hx hb hr hlocks rfl hH dX6_isSuggestion_75
      · have hf := iq hf c10
        refine lv_iconst (v := 1) hx hb dX6_isSuggestion_70 (by decide) ?_
        refine lv_goto (tgt := 75) hx hb dX6_isSuggestion_71 (by decide) ?_
        have hr9 := Option.some.inj hf
        subst hr9
        exact e_z (r := 1) hx hb hr hlocks rfl hH dX6_isSuggestion_75
  obtain ⟨k11, e12, hf⟩ := ol hf
  have Xk11 : ∀ (u13 : Unit) (H : Heap) (locs : List Loc) (ls : Array Slot), HI D S S s H locs → lv_has ls 4 [] → k11 u13 = some r → GI p l e (headSpec wsX6_isSuggestion rmX6_isSuggestion).room s m ([.ref b0] : List Value).toArray below meth c D S S r H locs 0 0 0 0 (F0 m 50 ls []) := by
    intro u13 H locs ls hH hl hf
    rw [← e12] at hf
    refine lv_iconst (v := 0) hx hb dX6_isSuggestion_50 (by decide) ?_
    have hr9 := Option.some.inj hf
    subst hr9
    exact e_z (r := 0) hx hb hr hlocks rfl hH dX6_isSuggestion_51
  obtain ⟨o14, eo14, hq14f⟩ := ob hf
  have Lo14 : ∀ (n : Nat) (x1 : Int32) (x2 : Int32), iter (fun (v : Int32 × Int32) => f_X6_isSuggestion_b4 b0 S v.1 v.2) n (x1, x2) = some o14 → ∀ (H : Heap) (locs : List Loc) (ls : Array Slot), HI D S S s H locs → lv_has ls 4 [(0, .ref b0), (1, .int x1), (2, .int x2)] → GI p l e (headSpec wsX6_isSuggestion rmX6_isSuggestion).room s m ([.ref b0] : List Value).toArray below meth c D S S r H locs 0 0 0 0 (F0 m 4 ls []) := by
    intro n
    induction n with
    | zero => intro x1 x2 hi; cases hi
    | succ n ih14 =>
      intro x1 x2 hi H locs ls hH hl
      obtain ⟨q14_, hf, hq14⟩ := iter_s hi
      have hf : f_X6_isSuggestion_b4 b0 S x1 x2 = some q14_ := hf
      unfold f_X6_isSuggestion_b4 at hf
      refine lv_iload_n hx hb dX6_isSuggestion_4 rfl (lv_at hl 2 rfl) ?_
      refine lv_aload_n hx hb dX6_isSuggestion_5 rfl (lv_at hl 0 rfl) ?_
      obtain ⟨ek15, hf⟩ := oc hf
      obtain ⟨r16, e17, hf⟩ := ob hf
      refine r_callVi (As := []) ⟨hx, hb, hml, hown, hts⟩ (c_X5_count l D S b0 r16 e17) (cwV 0 hts (gwV gw_7_17 gw_1_15 gw_1_16 gw_1_5 gw_1_11) rfl rfl rfl (by decide +kernel) ⟨Nat.le_of_ble_eq_true rfl, Nat.le_of_ble_eq_true rfl⟩) hH hNE 8 ek15 (by decide) rfl rfl rfl hl.1 rfl (Nat.le_of_ble_eq_true rfl) dX6_isSuggestion_6 ⟨(Nat.le_of_ble_eq_true rfl), (Nat.le_of_ble_eq_true rfl)⟩ (fun H locs hH => ?_)
      refine lv_icmp_ge (tgt := 58) hx hb dX6_isSuggestion_9 (by decide) (fun c18 => ?_) (fun c18 => ?_)
      · have hf := ip hf c18
        cases hf
        have hf9 := itR (K := (fun (z : (Int32) ⊕ (Unit)) => Sum.elim (fun (v : Int32) => k4 v) (fun (v : Unit) => k11 v) z)) hq14 hq14f
        exact Xk4 x1 _ _ ls hH (lv_sub hl [0, 1] rfl) hf9
      · have hf := iq hf c18
        refine lv_aload_n hx hb dX6_isSuggestion_12 rfl (lv_at hl 0 rfl) ?_
        refine lv_iload_n hx hb dX6_isSuggestion_13 rfl (lv_at hl 2 rfl) ?_
        obtain ⟨r19, e20, hf⟩ := ob hf
        refine r_callVi (As := [.int x2]) ⟨hx, hb, hml, hown, hts⟩ (c_X5_get l D S b0 x2 r19 e20) (cwV 1 hts (gwV gw_7_23 gw_2_13 gw_2_14 gw_1_5 gw_2_9) rfl rfl rfl (by decide +kernel) ⟨Nat.le_of_ble_eq_true rfl, Nat.le_of_ble_eq_true rfl⟩) hH hNE 8 ek15 (by decide) rfl rfl rfl hl.1 rfl (Nat.le_of_ble_eq_true rfl) dX6_isSuggestion_14 ⟨(Nat.le_of_ble_eq_true rfl), (Nat.le_of_ble_eq_true rfl)⟩ (fun H locs hH => ?_)
        refine lv_istore_n (lv' := [(3, .int r19), (0, .ref b0), (1, .int x1), (2, .int x2)]) hx hb dX6_isSuggestion_17 rfl hl (by decide) rfl (fun ls hl => ?_)
        refine lv_iload_n hx hb dX6_isSuggestion_18 rfl (lv_at hl 0 rfl) ?_
        refine lv_bipush (v := 42) hx hb dX6_isSuggestion_19 (by decide) ?_
        obtain ⟨j22, e25, hf⟩ := ol hf
        have Jj22 : ∀ (x21 : Int32) (H : Heap) (locs : List Loc) (ls : Array Slot), HI D S S s H locs → lv_has ls 4 [(0, .ref b0), (1, .int x21), (2, .int x2)] → j22 x21 = some q14_ → GI p l e (headSpec wsX6_isSuggestion rmX6_isSuggestion).room s m ([.ref b0] : List Value).toArray below meth c D S S r H locs 0 0 0 0 (F0 m 52 ls []) := by
          intro x21 H locs ls hH hl hf
          rw [← e25] at hf
          obtain ⟨x23, e24, hf⟩ := ol hf
          refine lv_iinc (v := x23) (lv' := [(2, .int x23), (0, .ref b0), (1, .int x21)]) hx hb dX6_isSuggestion_52 hl (k := 2) rfl (by rw [← e24]; rfl) (by decide) rfl (fun ls hl => ?_)
          refine lv_goto (tgt := 4) hx hb dX6_isSuggestion_55 (by decide) ?_
          cases hf
          exact ih14 x21 x23 hq14 _ _ ls hH (lv_sub hl [1, 2, 0] rfl)
        refine lv_icmp_ne (tgt := 30) hx hb dX6_isSuggestion_21 (by decide) (fun c26 => ?_) (fun c26 => ?_)
        · have hf := iq hf c26
          refine lv_iload_n hx hb dX6_isSuggestion_30 rfl (lv_at hl 0 rfl) ?_
          obtain ⟨r27, e28, hf⟩ := ob hf
          refine r_callSiN (As := [.int r19]) ⟨hx, hb, hml, hown, hts⟩ (c_X9_isLetter l D S r19 r27 e28) ⟨va_cnB 1 hts (gwI (gwC gw_14_0)) rfl rfl rfl (nm_1 hNE) (hts (.initialized RX9) (List.mem_cons_of_mem _ gw_14_5)) (by decide +kernel) ⟨Nat.le_of_ble_eq_true rfl, Nat.le_of_ble_eq_true rfl⟩, (hts (.static yX9_isLetter) (List.mem_cons_of_mem _ gw_14_4)), trivial⟩ hH hNE rfl hl.1 rfl (Nat.le_of_ble_eq_true rfl) dX6_isSuggestion_31 ⟨(Nat.le_of_ble_eq_true rfl), (Nat.le_of_ble_eq_true rfl)⟩ (fun H locs hH => ?_)
          refine lv_if_ne (tgt := 52) hx hb dX6_isSuggestion_34 (by decide) (fun c29 => ?_) (fun c29 => ?_)
          · have hf := iq hf c29
            exact Jj22 x1 _ _ ls hH (lv_sub hl [1, 2, 3] rfl) hf
          · have hf := ip hf c29
            refine lv_iload_n hx hb dX6_isSuggestion_37 rfl (lv_at hl 0 rfl) ?_
            obtain ⟨r30, e31, hf⟩ := ob hf
            refine r_callSiN (As := [.int r19]) ⟨hx, hb, hml, hown, hts⟩ (c_X9_isDigit l D S r19 r30 e31) ⟨va_cnB 1 hts (gwI (gwC gw_17_5)) rfl rfl rfl (nm_2 hNE) (hts (.initialized RX9) (List.mem_cons_of_mem _ gw_14_5)) (by decide +kernel) ⟨Nat.le_of_ble_eq_true rfl, Nat.le_of_ble_eq_true rfl⟩, (hts (.static yX9_isDigit) (List.mem_cons_of_mem _ gw_17_7)), trivial⟩ hH hNE rfl hl.1 rfl (Nat.le_of_ble_eq_true rfl) dX6_isSuggestion_38 ⟨(Nat.le_of_ble_eq_true rfl), (Nat.le_of_ble_eq_true rfl)⟩ (fun H locs hH => ?_)
            refine lv_if_ne (tgt := 52) hx hb dX6_isSuggestion_41 (by decide) (fun c32 => ?_) (fun c32 => ?_)
            · have hf := iq hf c32
              exact Jj22 x1 _ _ ls hH (lv_sub hl [1, 2, 3] rfl) hf
            · have hf := ip hf c32
              refine lv_iload_n hx hb dX6_isSuggestion_44 rfl (lv_at hl 0 rfl) ?_
              refine lv_bipush (v := 32) hx hb dX6_isSuggestion_45 (by decide) ?_
              refine lv_icmp_eq (tgt := 52) hx hb dX6_isSuggestion_47 (by decide) (fun c33 => ?_) (fun c33 => ?_)
              · have hf := ip hf c33
                exact Jj22 x1 _ _ ls hH (lv_sub hl [1, 2, 3] rfl) hf
              · have hf := iq hf c33
                cases hf
                have hf9 := itR (K := (fun (z : (Int32) ⊕ (Unit)) => Sum.elim (fun (v : Int32) => k4 v) (fun (v : Unit) => k11 v) z)) hq14 hq14f
                exact Xk11 () _ _ ls hH (lv_sub hl [] rfl) hf9
        · have hf := ip hf c26
          obtain ⟨x34, e35, hf⟩ := ol hf
          refine lv_iinc (v := x34) (lv' := [(1, .int x34), (3, .int r19), (0, .ref b0), (2, .int x2)]) hx hb dX6_isSuggestion_24 hl (k := 2) rfl (by rw [← e35]; rfl) (by decide) rfl (fun ls hl => ?_)
          refine lv_goto (tgt := 52) hx hb dX6_isSuggestion_27 (by decide) ?_
          exact Jj22 x34 _ _ ls hH (lv_sub hl [2, 0, 3] rfl) hf
  exact Lo14 kF 0 0 eo14 _ _ ls hH (lv_sub hl [2, 1, 0] rfl)
set_option maxRecDepth 100000 in
def f_X4_init (S : PS) (a0 : Nat) (b1 : Nat) (b2 : Nat) : Option (PS) := if kK S a0 = 8 then (lt (wQ S a0 0 (some b1)) fun S2 => if kK S2 a0 = 8 then (lt (wQ S2 a0 1 (some b2)) fun S5 => some S5) else none) else none
abbrev rmX4_init : Room := { frames := 1, cells := 0, slots := 0, locals := 16 }
set_option maxHeartbeats 4000000 in
set_option maxRecDepth 100000 in
theorem c_X4_init (l : Launch) (D : va_G × Nat) (S : PS) (a0 : Nat) (b1 : Nat) (b2 : Nat) (r : PS) (hf : f_X4_init S a0 b1 b2 = some r) : MV l D yX4_init wsX4_init rmX4_init S [.ref a0, .ref b1, .ref b2] r 0 0 := by
  unfold f_X4_init at hf
  refine Met.ofW (cc := cX4_init) (maxL := 3) (ret := none) (by decide) rfl ?_
  intro p e s m args below meth c s₁ B hml hv
  obtain ⟨rfl, hH0, hNE⟩ := hv
  have hx := B.exec
  have hb := B.bytes
  have hr := B.returns
  have hts := atoms_spec (ws := wsX4_init) B.pre
  have hown : s.vm.findClass RX4 = some m.cls := findClass_of_methodNamed B.named
  have hlocks := B.notSynchronized
  have hin : meth.name = "<init>" := (name_of_methodNamed B.named B.method).1
  have hH : HI D S S s s.heap [] := HI.start hH0
  have hl := lv_entry ([.ref a0, .ref b1, .ref b2]) (n := 3) (Nat.le_of_ble_eq_true rfl)
  rw [lg_entry_eq]
  generalize (lg_sl ([.ref a0, .ref b1, .ref b2]) ++ List.replicate (3 - (lg_sl ([.ref a0, .ref b1, .ref b2])).length) Slot.unset).toArray = ls at hl ⊢
  have hl : lv_has ls 3 [(0, .ref a0), (1, .ref b1), (2, .ref b2)] := hl
  refine lv_aload_n hx hb dX4_init_0 rfl (lv_at hl 0 rfl) ?_
  refine W.objInit hx hb hown (hts (.methodLink RX4 1 objectInit) (List.mem_cons_of_mem _ gw_14_9)) (hts (.instanceMethod objectInit) (List.mem_cons_of_mem _ gw_0_2)) (hts (.code objectInit ⟨#[0xb1]⟩ 1 none) (List.mem_cons_of_mem _ gw_0_3)) rfl (by rw [hml]; exact hl.1) rfl dX4_init_1 (Nat.le_of_ble_eq_true rfl) (Nat.le_of_ble_eq_true rfl) ?_
  refine W.eq (g2 := F0 m 4 ls []) rfl ?_
  refine lv_aload_n hx hb dX4_init_4 rfl (lv_at hl 0 rfl) ?_
  refine lv_aload_n hx hb dX4_init_5 rfl (lv_at hl 1 rfl) ?_
  obtain ⟨ek1, hf⟩ := oc hf
  refine r_putQ hx hb 7 hts (fun w h => List.mem_cons_of_mem _ (mwsX40 w h)) tyX4 tyX4_ok nmX4 hown hH ek1 (by decide) rfl 0 (by decide) rfl (hts (.fieldLink RX4 7 "Housestyle$Pair" "one" "LHousestyle$Row;") (List.mem_cons_of_mem _ gw_8_5)) (fun _ h9 => h9) (Or.inr ⟨rfl, hin, rfl⟩) (ty := (.object "Housestyle$Row")) (by decide +kernel) rfl rfl dX4_init_6 (fun H locs hH => ?_)
  obtain ⟨S2, e3, hf⟩ := ol hf
  rw [e3] at hH
  refine lv_aload_n hx hb dX4_init_9 rfl (lv_at hl 0 rfl) ?_
  refine lv_aload_n hx hb dX4_init_10 rfl (lv_at hl 2 rfl) ?_
  obtain ⟨ek4, hf⟩ := oc hf
  refine r_putQ hx hb 7 hts (fun w h => List.mem_cons_of_mem _ (mwsX40 w h)) tyX4 tyX4_ok nmX4 hown hH ek4 (by decide) rfl 1 (by decide) rfl (hts (.fieldLink RX4 13 "Housestyle$Pair" "other" "LHousestyle$Row;") (List.mem_cons_of_mem _ gw_8_6)) (fun _ h9 => h9) (Or.inr ⟨rfl, hin, rfl⟩) (ty := (.object "Housestyle$Row")) (by decide +kernel) rfl rfl dX4_init_11 (fun H locs hH => ?_)
  obtain ⟨S5, e6, hf⟩ := ol hf
  rw [e6] at hH
  have hr9 := Option.some.inj hf
  subst hr9
  exact e_v hx hb hr hlocks hH dX4_init_14
set_option maxRecDepth 100000 in
def f_X9_deskAt (S : PS) (a0 : Nat) (p1 : Int32) : Option ((PS × Nat) ⊕ (PS × Nat)) := lt (fun (u2 : Unit) => some (.inr (S, 1))) fun j1 => if p1 < 0 then (j1 ()) else (if kK S a0 = 13 then ((kQ S a0 4).bind fun a6 => if kK S a6 = 3 then ((f_Jx4a65c_size_8abf5 S a6).bind fun r9 => if p1 < r9 then ((f_Jx4a65c_get_915e3 S a6 p1).bind fun r12 => if kK S r12 = 5 then (some (.inl (S, r12))) else none) else (j1 ())) else none) else none)
abbrev rmX9_deskAt : Room := { frames := 6, cells := 1, slots := 6, locals := 90 }
set_option maxHeartbeats 4000000 in
set_option maxRecDepth 100000 in
theorem c_X9_deskAt (l : Launch) (hst9 : l.stackTraces = false) (D : va_G × Nat) (S : PS) (a0 : Nat) (p1 : Int32) (r : (PS × Nat) ⊕ (PS × Nat)) (hf : f_X9_deskAt S a0 p1 = some r) : XM l D yX9_deskAt wsX9_deskAt rmX9_deskAt S [.ref a0, .int p1] (mR r) 1 6 := by
  unfold f_X9_deskAt at hf
  refine vx_ofW (cc := cX9_deskAt) (maxL := 2) (ret := (some (.object "Housestyle$Desk"))) (by decide) rfl ?_
  intro p e s m args below meth c s₁ B hml hxt hv
  obtain ⟨rfl, hH0, hE, hNE⟩ := hv
  have hB := hH0.base
  have hx := B.exec
  have hb := B.bytes
  have hr := B.returns
  have hts := atoms_spec (ws := wsX9_deskAt) B.pre
  have hown : s.vm.findClass RX9 = some m.cls := findClass_of_methodNamed B.named
  have hlocks := B.notSynchronized
  have hH : HI D S S s s.heap [] := HI.start hH0
  have hl := lv_entry ([.ref a0, .int p1]) (n := 2) (Nat.le_of_ble_eq_true rfl)
  rw [lg_entry_eq]
  generalize (lg_sl ([.ref a0, .int p1]) ++ List.replicate (2 - (lg_sl ([.ref a0, .int p1])).length) Slot.unset).toArray = ls at hl ⊢
  have hl : lv_has ls 2 [(0, .ref a0), (1, .int p1)] := hl
  refine lv_iload_n hx hb dX9_deskAt_0 rfl (lv_at hl 1 rfl) ?_
  obtain ⟨j1, e3, hf⟩ := ol hf
  have Jj1 : ∀ (u2 : Unit) (H : Heap) (locs : List Loc) (ls : Array Slot), HI D S S s H locs → lv_has ls 2 [] → j1 u2 = some r → GX p l e (headSpec wsX9_deskAt rmX9_deskAt).room s m ([.ref a0, .int p1] : List Value).toArray below meth c D S (mR r) H locs 0 0 1 6 (F0 m 15 ls []) := by
    intro u2 H locs ls hH hl hf
    rw [← e3] at hf
    cases hf
    exact r_throwW (text := "no such desk") (cls := "java/lang/IllegalArgumentException") (names := ["java/lang/RuntimeException", "java/lang/Exception"]) 1 hx hb hst9 hown xf0 xn (hts (.classLink RX9 82 "java/lang/IllegalArgumentException") (List.mem_cons_of_mem _ gw_21_9)) (hts (.initialized "java/lang/IllegalArgumentException") (List.mem_cons_of_mem _ gw_21_10)) (List.mem_of_getElem? (i := 23) rfl) (xa0 hts hE) xg0 hE hB hH (hl.1.trans hml.symm) rfl dX9_deskAt_15 dX9_deskAt_18 dX9_deskAt_19 dX9_deskAt_22 dX9_deskAt_25 hxt (Nat.le_of_ble_eq_true rfl) (Nat.le_of_ble_eq_true rfl) (Nat.le_of_ble_eq_true rfl) (Nat.le_of_ble_eq_true rfl) hlocks ⟨Nat.le_of_ble_eq_true rfl, Nat.le_of_ble_eq_true rfl⟩
  refine lv_if_lt (tgt := 15) hx hb dX9_deskAt_1 (by decide) (fun c4 => ?_) (fun c4 => ?_)
  · have hf := ip hf c4
    exact Jj1 () _ _ ls hH (lv_sub hl [] rfl) hf
  · have hf := iq hf c4
    refine lv_iload_n hx hb dX9_deskAt_4 rfl (lv_at hl 1 rfl) ?_
    refine lv_aload_n hx hb dX9_deskAt_5 rfl (lv_at hl 0 rfl) ?_
    obtain ⟨ek5, hf⟩ := oc hf
    obtain ⟨a6, e7, hf⟩ := ob hf
    refine r_getQ hx hb 12 hts (fun w h => List.mem_cons_of_mem _ (mwsX90 w h)) hown hH ek5 (by decide) rfl 4 (by decide) rfl (hts (.fieldLink RX9 47 "Housestyle" "desks" "Ljava/util/ArrayList;") (List.mem_cons_of_mem _ gw_20_8)) (fun _ h9 => h9) dX9_deskAt_6 e7 ?_
    obtain ⟨ek8, hf⟩ := oc hf
    obtain ⟨r9, e10, hf⟩ := ob hf
    refine r_callVi (As := []) ⟨hx, hb, hml, hown, hts⟩ (c_Jx4a65c_size_8abf5 l D S a6 r9 e10) (cwV 0 hts (gwV gw_22_3 gw_4_10 gw_4_11 gw_1_0 gw_1_18) rfl rfl rfl (by decide +kernel) ⟨Nat.le_of_ble_eq_true rfl, Nat.le_of_ble_eq_true rfl⟩) hH hNE 2 ek8 (by decide) rfl rfl rfl hl.1 rfl (Nat.le_of_ble_eq_true rfl) dX9_deskAt_9 ⟨(Nat.le_of_ble_eq_true rfl), (Nat.le_of_ble_eq_true rfl)⟩ (fun H locs hH => ?_)
    refine lv_icmp_lt (tgt := 26) hx hb dX9_deskAt_12 (by decide) (fun c11 => ?_) (fun c11 => ?_)
    · have hf := ip hf c11
      refine lv_aload_n hx hb dX9_deskAt_26 rfl (lv_at hl 0 rfl) ?_
      refine r_getQ hx hb 12 hts (fun w h => List.mem_cons_of_mem _ (mwsX90 w h)) hown hH ek5 (by decide) rfl 4 (by decide) rfl (hts (.fieldLink RX9 47 "Housestyle" "desks" "Ljava/util/ArrayList;") (List.mem_cons_of_mem _ gw_20_8)) (fun _ h9 => h9) dX9_deskAt_27 e7 ?_
      refine lv_iload_n hx hb dX9_deskAt_30 rfl (lv_at hl 1 rfl) ?_
      obtain ⟨r12, e13, hf⟩ := ob hf
      refine r_callVr (As := [.int p1]) ⟨hx, hb, hml, hown, hts⟩ (c_Jx4a65c_get_915e3 l D S a6 p1 r12 e13) (cwV 1 hts (gwV gw_22_4 gw_4_13 gw_4_14 gw_1_0 gw_2_2) rfl rfl rfl (by decide +kernel) ⟨Nat.le_of_ble_eq_true rfl, Nat.le_of_ble_eq_true rfl⟩) hH hNE 2 ek8 (by decide) rfl rfl rfl hl.1 rfl (Nat.le_of_ble_eq_true rfl) dX9_deskAt_31 ⟨(Nat.le_of_ble_eq_true rfl), (Nat.le_of_ble_eq_true rfl)⟩ (fun H locs hH => ?_)
      obtain ⟨ek14, hf⟩ := oc hf
      refine r_castS 4 hx hb hown (hts (.classLink RX9 51 "Housestyle$Desk") (List.mem_cons_of_mem _ gw_21_23)) hH ek14 (by decide) rfl rfl dX9_deskAt_34 ?_
      refine W.widen (k := 1) (n := 6) (by omega) (by omega) ?_
      have hr9 := Option.some.inj hf
      subst hr9
      exact x_r hx hb hr hlocks hH dX9_deskAt_37
    · have hf := iq hf c11
      exact Jj1 () _ _ ls hH (lv_sub hl [] rfl) hf
set_option maxRecDepth 100000 in
def f_X1_uses (S : PS) (a0 : Nat) (p1 : Int32) : Option (Int32) := if kK S a0 = 5 then (if ((kI S a0 5) &&& (1 <<< (p1 &&& 31))) = 0 then (some 1) else (some 0)) else none
abbrev rmX1_uses : Room := { frames := 0, cells := 0, slots := 0, locals := 0 }
set_option maxHeartbeats 4000000 in
set_option maxRecDepth 100000 in
theorem c_X1_uses (l : Launch) (D : va_G × Nat) (S : PS) (a0 : Nat) (p1 : Int32) (r : Int32) (hf : f_X1_uses S a0 p1 = some r) : MI l D yX1_uses wsX1_uses rmX1_uses S [.ref a0, .int p1] S r 0 0 := by
  unfold f_X1_uses at hf
  refine Met.ofW (cc := cX1_uses) (maxL := 2) (ret := (some .boolean)) (by decide) rfl ?_
  intro p e s m args below meth c s₁ B hml hv
  obtain ⟨rfl, hH0, hNE⟩ := hv
  have hx := B.exec
  have hb := B.bytes
  have hr := B.returns
  have hts := atoms_spec (ws := wsX1_uses) B.pre
  have hown : s.vm.findClass RX1 = some m.cls := findClass_of_methodNamed B.named
  have hlocks := B.notSynchronized
  have hH : HI D S S s s.heap [] := HI.start hH0
  have hl := lv_entry ([.ref a0, .int p1]) (n := 2) (Nat.le_of_ble_eq_true rfl)
  rw [lg_entry_eq]
  generalize (lg_sl ([.ref a0, .int p1]) ++ List.replicate (2 - (lg_sl ([.ref a0, .int p1])).length) Slot.unset).toArray = ls at hl ⊢
  have hl : lv_has ls 2 [(0, .ref a0), (1, .int p1)] := hl
  refine lv_aload_n hx hb dX1_uses_0 rfl (lv_at hl 0 rfl) ?_
  obtain ⟨ek1, hf⟩ := oc hf
  refine r_getI hx hb 4 hts (fun w h => List.mem_cons_of_mem _ (mwsX10 w h)) hown hH ek1 (by decide) rfl 5 (by decide) rfl (hts (.fieldLink RX1 36 "Housestyle$Desk" "leftOut" "I") (List.mem_cons_of_mem _ gw_9_2)) (fun _ h9 => h9) dX1_uses_1 ?_
  refine lv_iconst (v := 1) hx hb dX1_uses_4 (by decide) ?_
  refine lv_iload_n hx hb dX1_uses_5 rfl (lv_at hl 1 rfl) ?_
  refine lv_ishl hx hb dX1_uses_6 ?_
  refine lv_iand hx hb dX1_uses_7 ?_
  refine lv_if_ne (tgt := 15) hx hb dX1_uses_8 (by decide) (fun c2 => ?_) (fun c2 => ?_)
  · have hf := iq hf c2
    refine lv_iconst (v := 0) hx hb dX1_uses_15 (by decide) ?_
    have hr9 := Option.some.inj hf
    subst hr9
    exact e_z (r := 0) hx hb hr hlocks rfl hH dX1_uses_16
  · have hf := ip hf c2
    refine lv_iconst (v := 1) hx hb dX1_uses_11 (by decide) ?_
    refine lv_goto (tgt := 16) hx hb dX1_uses_12 (by decide) ?_
    have hr9 := Option.some.inj hf
    subst hr9
    exact e_z (r := 1) hx hb hr hlocks rfl hH dX1_uses_16
set_option maxRecDepth 100000 in
def f_X1_setUse (S : PS) (a0 : Nat) (p1 : Int32) (p2 : Int32) : Option (PS) := lt (fun (x1 : Int32) => if kK S a0 = 5 then (lt (wI S a0 5 x1) fun S4 => some S4) else none) fun j2 => if p2 = 0 then (if kK S a0 = 5 then (j2 ((kI S a0 5) ||| (1 <<< (p1 &&& 31)))) else none) else (if kK S a0 = 5 then (j2 ((kI S a0 5) &&& ((1 <<< (p1 &&& 31)) ^^^ (-1)))) else none)
abbrev rmX1_setUse : Room := { frames := 0, cells := 0, slots := 0, locals := 0 }
set_option maxHeartbeats 4000000 in
set_option maxRecDepth 100000 in
theorem c_X1_setUse (l : Launch) (D : va_G × Nat) (S : PS) (a0 : Nat) (p1 : Int32) (p2 : Int32) (r : PS) (hf : f_X1_setUse S a0 p1 p2 = some r) : MV l D yX1_setUse wsX1_setUse rmX1_setUse S [.ref a0, .int p1, .int p2] r 0 0 := by
  unfold f_X1_setUse at hf
  refine Met.ofW (cc := cX1_setUse) (maxL := 3) (ret := none) (by decide) rfl ?_
  intro p e s m args below meth c s₁ B hml hv
  obtain ⟨rfl, hH0, hNE⟩ := hv
  have hx := B.exec
  have hb := B.bytes
  have hr := B.returns
  have hts := atoms_spec (ws := wsX1_setUse) B.pre
  have hown : s.vm.findClass RX1 = some m.cls := findClass_of_methodNamed B.named
  have hlocks := B.notSynchronized
  have hH : HI D S S s s.heap [] := HI.start hH0
  have hl := lv_entry ([.ref a0, .int p1, .int p2]) (n := 3) (Nat.le_of_ble_eq_true rfl)
  rw [lg_entry_eq]
  generalize (lg_sl ([.ref a0, .int p1, .int p2]) ++ List.replicate (3 - (lg_sl ([.ref a0, .int p1, .int p2])).length) Slot.unset).toArray = ls at hl ⊢
  have hl : lv_has ls 3 [(0, .ref a0), (1, .int p1), (2, .int p2)] := hl
  refine lv_aload_n hx hb dX1_setUse_0 rfl (lv_at hl 0 rfl) ?_
  refine lv_iload_n hx hb dX1_setUse_1 rfl (lv_at hl 2 rfl) ?_
  obtain ⟨j2, e6, hf⟩ := ol hf
  have Jj2 : ∀ (x1 : Int32) (H : Heap) (locs : List Loc) (ls : Array Slot), HI D S S s H locs → lv_has ls 3 [] → j2 x1 = some r → GV p l e (headSpec wsX1_setUse rmX1_setUse).room s m ([.ref a0, .int p1, .int p2] : List Value).toArray below meth c D S r H locs 0 0 0 0 (F0 m 26 ls [.int x1, .ref a0]) := by
    intro x1 H locs ls hH hl hf
    rw [← e6] at hf
    obtain ⟨ek3, hf⟩ := oc hf
    refine r_putI hx hb 4 hts (fun w h => List.mem_cons_of_mem _ (mwsX10 w h)) tyX1 tyX1_ok nmX1 hown hH ek3 (by decide) rfl 5 (by decide) rfl (hts (.fieldLink RX1 36 "Housestyle$Desk" "leftOut" "I") (List.mem_cons_of_mem _ gw_9_2)) (fun _ h9 => h9) (Or.inl rfl) (ty := .int) (by decide +kernel) rfl rfl dX1_setUse_26 (fun H locs hH => ?_)
    obtain ⟨S4, e5, hf⟩ := ol hf
    rw [e5] at hH
    have hr9 := Option.some.inj hf
    subst hr9
    exact e_v hx hb hr hlocks hH dX1_setUse_29
  refine lv_if_eq (tgt := 18) hx hb dX1_setUse_2 (by decide) (fun c7 => ?_) (fun c7 => ?_)
  · have hf := ip hf c7
    refine lv_aload_n hx hb dX1_setUse_18 rfl (lv_at hl 0 rfl) ?_
    obtain ⟨ek8, hf⟩ := oc hf
    refine r_getI hx hb 4 hts (fun w h => List.mem_cons_of_mem _ (mwsX10 w h)) hown hH ek8 (by decide) rfl 5 (by decide) rfl (hts (.fieldLink RX1 36 "Housestyle$Desk" "leftOut" "I") (List.mem_cons_of_mem _ gw_9_2)) (fun _ h9 => h9) dX1_setUse_19 ?_
    refine lv_iconst (v := 1) hx hb dX1_setUse_22 (by decide) ?_
    refine lv_iload_n hx hb dX1_setUse_23 rfl (lv_at hl 1 rfl) ?_
    refine lv_ishl hx hb dX1_setUse_24 ?_
    refine lv_ior hx hb dX1_setUse_25 ?_
    exact Jj2 ((kI S a0 5) ||| (1 <<< (p1 &&& 31))) _ _ ls hH (lv_sub hl [] rfl) hf
  · have hf := iq hf c7
    refine lv_aload_n hx hb dX1_setUse_5 rfl (lv_at hl 0 rfl) ?_
    obtain ⟨ek9, hf⟩ := oc hf
    refine r_getI hx hb 4 hts (fun w h => List.mem_cons_of_mem _ (mwsX10 w h)) hown hH ek9 (by decide) rfl 5 (by decide) rfl (hts (.fieldLink RX1 36 "Housestyle$Desk" "leftOut" "I") (List.mem_cons_of_mem _ gw_9_2)) (fun _ h9 => h9) dX1_setUse_6 ?_
    refine lv_iconst (v := 1) hx hb dX1_setUse_9 (by decide) ?_
    refine lv_iload_n hx hb dX1_setUse_10 rfl (lv_at hl 1 rfl) ?_
    refine lv_ishl hx hb dX1_setUse_11 ?_
    refine lv_iconst (v := (-1)) hx hb dX1_setUse_12 (by decide) ?_
    refine lv_ixor hx hb dX1_setUse_13 ?_
    refine lv_iand hx hb dX1_setUse_14 ?_
    refine lv_goto (tgt := 26) hx hb dX1_setUse_15 (by decide) ?_
    exact Jj2 ((kI S a0 5) &&& ((1 <<< (p1 &&& 31)) ^^^ (-1))) _ _ ls hH (lv_sub hl [] rfl) hf
set_option maxRecDepth 100000 in
def f_X9_noteSettings (S : PS) (a0 : Nat) (p1 : Int32) : Option (PS) := if kK S a0 = 13 then ((kQ S a0 1).bind fun a2 => if kK S a2 = 11 then ((f_X7_markAll S a2 (1 <<< (p1 &&& 31))).bind fun r5 => if kK r5 a0 = 13 then (lt (wI r5 a0 8 (-1)) fun S8 => some S8) else none) else none) else none
abbrev rmX9_noteSettings : Room := { frames := 2, cells := 0, slots := 0, locals := 44 }
set_option maxHeartbeats 4000000 in
set_option maxRecDepth 100000 in
theorem c_X9_noteSettings (l : Launch) (D : va_G × Nat) (S : PS) (a0 : Nat) (p1 : Int32) (r : PS) (hf : f_X9_noteSettings S a0 p1 = some r) : MV l D yX9_noteSettings wsX9_noteSettings rmX9_noteSettings S [.ref a0, .int p1] r 0 0 := by
  unfold f_X9_noteSettings at hf
  refine Met.ofW (cc := cX9_noteSettings) (maxL := 2) (ret := none) (by decide) rfl ?_
  intro p e s m args below meth c s₁ B hml hv
  obtain ⟨rfl, hH0, hNE⟩ := hv
  have hx := B.exec
  have hb := B.bytes
  have hr := B.returns
  have hts := atoms_spec (ws := wsX9_noteSettings) B.pre
  have hown : s.vm.findClass RX9 = some m.cls := findClass_of_methodNamed B.named
  have hlocks := B.notSynchronized
  have hH : HI D S S s s.heap [] := HI.start hH0
  have hl := lv_entry ([.ref a0, .int p1]) (n := 2) (Nat.le_of_ble_eq_true rfl)
  rw [lg_entry_eq]
  generalize (lg_sl ([.ref a0, .int p1]) ++ List.replicate (2 - (lg_sl ([.ref a0, .int p1])).length) Slot.unset).toArray = ls at hl ⊢
  have hl : lv_has ls 2 [(0, .ref a0), (1, .int p1)] := hl
  refine lv_aload_n hx hb dX9_noteSettings_0 rfl (lv_at hl 0 rfl) ?_
  obtain ⟨ek1, hf⟩ := oc hf
  obtain ⟨a2, e3, hf⟩ := ob hf
  refine r_getQ hx hb 12 hts (fun w h => List.mem_cons_of_mem _ (mwsX90 w h)) hown hH ek1 (by decide) rfl 1 (by decide) rfl (hts (.fieldLink RX9 21 "Housestyle" "text" "LHousestyle$Text;") (List.mem_cons_of_mem _ gw_20_0)) (fun _ h9 => h9) dX9_noteSettings_1 e3 ?_
  refine lv_iconst (v := 1) hx hb dX9_noteSettings_4 (by decide) ?_
  refine lv_iload_n hx hb dX9_noteSettings_5 rfl (lv_at hl 1 rfl) ?_
  refine lv_ishl hx hb dX9_noteSettings_6 ?_
  obtain ⟨ek4, hf⟩ := oc hf
  obtain ⟨r5, e6, hf⟩ := ob hf
  refine r_callVv (As := [.int (1 <<< (p1 &&& 31))]) ⟨hx, hb, hml, hown, hts⟩ (c_X7_markAll l D S a2 (1 <<< (p1 &&& 31)) r5 e6) (cwV 1 hts (gwV gw_23_15 gw_23_16 gw_23_17 gw_17_23 gw_18_6) rfl rfl rfl (by decide +kernel) ⟨Nat.le_of_ble_eq_true rfl, Nat.le_of_ble_eq_true rfl⟩) hH hNE 10 ek4 (by decide) rfl rfl rfl hl.1 rfl (Nat.le_of_ble_eq_true rfl) dX9_noteSettings_7 ⟨(Nat.le_of_ble_eq_true rfl), (Nat.le_of_ble_eq_true rfl)⟩ (fun H locs hH => ?_)
  refine lv_aload_n hx hb dX9_noteSettings_10 rfl (lv_at hl 0 rfl) ?_
  refine lv_iconst (v := (-1)) hx hb dX9_noteSettings_11 (by decide) ?_
  obtain ⟨ek7, hf⟩ := oc hf
  refine r_putI hx hb 12 hts (fun w h => List.mem_cons_of_mem _ (mwsX90 w h)) tyX9 tyX9_ok nmX9 hown hH ek7 (by decide) rfl 8 (by decide) rfl (hts (.fieldLink RX9 74 "Housestyle" "solvedDesk" "I") (List.mem_cons_of_mem _ gw_20_16)) (fun _ h9 => h9) (Or.inl rfl) (ty := .int) (by decide +kernel) rfl rfl dX9_noteSettings_12 (fun H locs hH => ?_)
  obtain ⟨S8, e9, hf⟩ := ol hf
  rw [e9] at hH
  have hr9 := Option.some.inj hf
  subst hr9
  exact e_v hx hb hr hlocks hH dX9_noteSettings_15
set_option maxRecDepth 100000 in
def f_X9_use (S : PS) (a0 : Nat) (p1 : Int32) (p2 : Int32) (p3 : Int32) : Option ((PS × Int32) ⊕ (PS × Nat)) := if kK S a0 = 13 then (bx2 (f_X9_ruleAt S a0 p2) fun S3 a4 => if kK S3 a0 = 13 then (bx2 (f_X9_deskAt S3 a0 p1) fun S7 a8 => if kK S7 a8 = 5 then ((f_X1_uses S7 a8 p2).bind fun r10 => (f_X1_setUse S7 a8 p2 p3).bind fun r12 => if kK r12 a0 = 13 then ((f_X9_noteSettings r12 a0 p1).bind fun r15 => if r10 = 0 ∨ r10 = 1 then (some (.inl (r15, r10))) else none) else none) else none) else none) else none
abbrev rmX9_use : Room := { frames := 7, cells := 2, slots := 12, locals := 111 }
set_option maxHeartbeats 4000000 in
set_option maxRecDepth 100000 in
theorem c_X9_use (l : Launch) (hst9 : l.stackTraces = false) (D : va_G × Nat) (S : PS) (a0 : Nat) (p1 : Int32) (p2 : Int32) (p3 : Int32) (r : (PS × Int32) ⊕ (PS × Nat)) (hf : f_X9_use S a0 p1 p2 p3 = some r) : XM l D yX9_use wsX9_use rmX9_use S [.ref a0, .int p1, .int p2, .int p3] (mI r) 2 12 := by
  unfold f_X9_use at hf
  refine vx_ofW (cc := cX9_use) (maxL := 6) (ret := (some .boolean)) (by decide) rfl ?_
  intro p e s m args below meth c s₁ B hml hxt hv
  obtain ⟨rfl, hH0, hE, hNE⟩ := hv
  have hB := hH0.base
  have hx := B.exec
  have hb := B.bytes
  have hr := B.returns
  have hts := atoms_spec (ws := wsX9_use) B.pre
  have hown : s.vm.findClass RX9 = some m.cls := findClass_of_methodNamed B.named
  have hlocks := B.notSynchronized
  have hH : HI D S S s s.heap [] := HI.start hH0
  have hl := lv_entry ([.ref a0, .int p1, .int p2, .int p3]) (n := 6) (Nat.le_of_ble_eq_true rfl)
  rw [lg_entry_eq]
  generalize (lg_sl ([.ref a0, .int p1, .int p2, .int p3]) ++ List.replicate (6 - (lg_sl ([.ref a0, .int p1, .int p2, .int p3])).length) Slot.unset).toArray = ls at hl ⊢
  have hl : lv_has ls 6 [(0, .ref a0), (1, .int p1), (2, .int p2), (3, .int p3)] := hl
  refine lv_aload_n hx hb dX9_use_0 rfl (lv_at hl 0 rfl) ?_
  refine lv_iload_n hx hb dX9_use_1 rfl (lv_at hl 2 rfl) ?_
  obtain ⟨ek1, hf⟩ := oc hf
  rcases obx2 hf with ⟨x4_, e2, rfl⟩ | ⟨S3, a4, e2, hf⟩
  · refine r_xVex (As := [.int p2]) ⟨hx, hb, hml, hown, hts⟩ (c_X9_ruleAt l hst9 D S a0 p2 (.inr x4_) e2) (cwV 1 hts (gwV gw_24_9 gw_24_10 gw_24_11 gw_14_5 gw_24_6) rfl rfl rfl (by decide +kernel) ⟨Nat.le_of_ble_eq_true rfl, Nat.le_of_ble_eq_true rfl⟩) hH hE hB hNE 12 ek1 (by decide) rfl rfl rfl hl.1 rfl (Nat.le_of_ble_eq_true rfl) dX9_use_2 ⟨(Nat.le_of_ble_eq_true rfl), (Nat.le_of_ble_eq_true rfl)⟩ (fun z9 ce9 q9 H locs hH hk9 hz9 h91 h92 h93 => ?_)
    exact x_out hxt hlocks hH hk9 hz9 h91 h92 h93 ⟨Nat.le_of_ble_eq_true rfl, Nat.le_of_ble_eq_true rfl⟩
  refine r_xVok (As := [.int p2]) (S' := S3) (v := (some (.ref a4))) (st1 := [.ref a4]) ⟨hx, hb, hml, hown, hts⟩ (c_X9_ruleAt l hst9 D S a0 p2 (.inl (S3, a4)) e2) (cwV 1 hts (gwV gw_24_9 gw_24_10 gw_24_11 gw_14_5 gw_24_6) rfl rfl rfl (by decide +kernel) ⟨Nat.le_of_ble_eq_true rfl, Nat.le_of_ble_eq_true rfl⟩) hH hE hB hNE 12 ek1 (by decide) rfl rfl rfl hl.1 rfl (Nat.le_of_ble_eq_true rfl) dX9_use_2 ⟨(Nat.le_of_ble_eq_true rfl), (Nat.le_of_ble_eq_true rfl)⟩ rfl (fun H locs hH => ?_)
  refine W.widen (k := 1) (n := 6) (by omega) (by omega) ?_
  refine lv_pop hx hb dX9_use_5 rfl ?_
  refine lv_aload_n hx hb dX9_use_6 rfl (lv_at hl 0 rfl) ?_
  refine lv_iload_n hx hb dX9_use_7 rfl (lv_at hl 1 rfl) ?_
  obtain ⟨ek5, hf⟩ := oc hf
  rcases obx2 hf with ⟨x8_, e6, rfl⟩ | ⟨S7, a8, e6, hf⟩
  · refine r_xVex (As := [.int p1]) ⟨hx, hb, hml, hown, hts⟩ (c_X9_deskAt l hst9 D S3 a0 p1 (.inr x8_) e6) (cwV 1 hts (gwV gw_25_7 gw_25_8 gw_25_9 gw_14_5 gw_25_4) rfl rfl rfl (by decide +kernel) ⟨Nat.le_of_ble_eq_true rfl, Nat.le_of_ble_eq_true rfl⟩) hH hE hB hNE 12 ek5 (by decide) rfl rfl rfl hl.1 rfl (Nat.le_of_ble_eq_true rfl) dX9_use_8 ⟨(Nat.le_of_ble_eq_true rfl), (Nat.le_of_ble_eq_true rfl)⟩ (fun z9 ce9 q9 H locs hH hk9 hz9 h91 h92 h93 => ?_)
    exact x_out hxt hlocks hH hk9 hz9 h91 h92 h93 ⟨Nat.le_of_ble_eq_true rfl, Nat.le_of_ble_eq_true rfl⟩
  refine r_xVok (As := [.int p1]) (S' := S7) (v := (some (.ref a8))) (st1 := [.ref a8]) ⟨hx, hb, hml, hown, hts⟩ (c_X9_deskAt l hst9 D S3 a0 p1 (.inl (S7, a8)) e6) (cwV 1 hts (gwV gw_25_7 gw_25_8 gw_25_9 gw_14_5 gw_25_4) rfl rfl rfl (by decide +kernel) ⟨Nat.le_of_ble_eq_true rfl, Nat.le_of_ble_eq_true rfl⟩) hH hE hB hNE 12 ek5 (by decide) rfl rfl rfl hl.1 rfl (Nat.le_of_ble_eq_true rfl) dX9_use_8 ⟨(Nat.le_of_ble_eq_true rfl), (Nat.le_of_ble_eq_true rfl)⟩ rfl (fun H locs hH => ?_)
  refine W.widen (k := 2) (n := 12) (by omega) (by omega) ?_
  refine lv_astore (lv' := [(4, .ref a8), (0, .ref a0), (1, .int p1), (2, .int p2), (3, .int p3)]) hx hb dX9_use_11 hl (by decide) rfl (fun ls hl => ?_)
  refine lv_aload hx hb dX9_use_13 (lv_at hl 0 rfl) ?_
  refine lv_iload_n hx hb dX9_use_15 rfl (lv_at hl 3 rfl) ?_
  obtain ⟨ek9, hf⟩ := oc hf
  obtain ⟨r10, e11, hf⟩ := ob hf
  refine r_callVi (As := [.int p2]) ⟨hx, hb, hml, hown, hts⟩ (c_X1_uses l D S7 a8 p2 r10 e11) (cwV 1 hts (gwV gw_25_10 gw_25_11 gw_25_12 gw_9_20 gw_9_5) rfl rfl rfl (by decide +kernel) ⟨Nat.le_of_ble_eq_true rfl, Nat.le_of_ble_eq_true rfl⟩) hH hNE 4 ek9 (by decide) rfl rfl rfl hl.1 rfl (Nat.le_of_ble_eq_true rfl) dX9_use_16 ⟨(Nat.le_of_ble_eq_true rfl), (Nat.le_of_ble_eq_true rfl)⟩ (fun H locs hH => ?_)
  refine lv_istore (lv' := [(5, .int r10), (4, .ref a8), (0, .ref a0), (1, .int p1), (2, .int p2), (3, .int p3)]) hx hb dX9_use_19 hl (by decide) rfl (fun ls hl => ?_)
  refine lv_aload hx hb dX9_use_21 (lv_at hl 1 rfl) ?_
  refine lv_iload_n hx hb dX9_use_23 rfl (lv_at hl 4 rfl) ?_
  refine lv_iload_n hx hb dX9_use_24 rfl (lv_at hl 5 rfl) ?_
  obtain ⟨r12, e13, hf⟩ := ob hf
  refine r_callVv (As := [.int p2, .int p3]) ⟨hx, hb, hml, hown, hts⟩ (c_X1_setUse l D S7 a8 p2 p3 r12 e13) (cwV 2 hts (gwV gw_25_13 gw_25_14 gw_25_15 gw_9_20 gw_9_6) rfl rfl rfl (by decide +kernel) ⟨Nat.le_of_ble_eq_true rfl, Nat.le_of_ble_eq_true rfl⟩) hH hNE 4 ek9 (by decide) rfl rfl rfl hl.1 rfl (Nat.le_of_ble_eq_true rfl) dX9_use_25 ⟨(Nat.le_of_ble_eq_true rfl), (Nat.le_of_ble_eq_true rfl)⟩ (fun H locs hH => ?_)
  refine lv_aload_n hx hb dX9_use_28 rfl (lv_at hl 2 rfl) ?_
  refine lv_iload_n hx hb dX9_use_29 rfl (lv_at hl 3 rfl) ?_
  obtain ⟨ek14, hf⟩ := oc hf
  obtain ⟨r15, e16, hf⟩ := ob hf
  refine r_callVv (As := [.int p1]) ⟨hx, hb, hml, hown, hts⟩ (c_X9_noteSettings l D r12 a0 p1 r15 e16) (cwV 1 hts (gwV gw_25_16 gw_25_17 gw_25_18 gw_14_5 gw_25_5) rfl rfl rfl (by decide +kernel) ⟨Nat.le_of_ble_eq_true rfl, Nat.le_of_ble_eq_true rfl⟩) hH hNE 12 ek14 (by decide) rfl rfl rfl hl.1 rfl (Nat.le_of_ble_eq_true rfl) dX9_use_30 ⟨(Nat.le_of_ble_eq_true rfl), (Nat.le_of_ble_eq_true rfl)⟩ (fun H locs hH => ?_)
  refine lv_iload hx hb dX9_use_33 (lv_at hl 0 rfl) ?_
  obtain ⟨en17, hf⟩ := oc hf
  have hr9 := Option.some.inj hf
  subst hr9
  exact x_z hx hb hr hlocks (nar_Z9 en17) hH dX9_use_35
set_option maxRecDepth 100000 in
def f_X0_rankAt (S : PS) (a0 : Nat) (b1 : Nat) (p2 : Int32) : Option (Int32) := lt (fun (u3 : Unit) => if p2 = (20 : Int32) then (some 1) else (some 5)) fun j1 => if p2 < 0 then (j1 ()) else (if kK S a0 = 4 then ((kQ S a0 0).bind fun a7 => if kK S a7 = 3 then ((f_Jx4a65c_size_8abf5 S a7).bind fun r10 => if r10 ≤ p2 then (j1 ()) else (if kK S b1 = 5 then ((kQ S b1 0).bind fun a14 => if kK S a14 = 9 then ((f_X5_get S a14 p2).bind fun r17 => if r17 = 0 then ((f_Jx4a65c_get_915e3 S a7 p2).bind fun r20 => if kK S r20 = 10 then (some (kI S r20 3)) else none) else (some r17)) else none) else none)) else none) else none)
abbrev rmX0_rankAt : Room := { frames := 3, cells := 0, slots := 0, locals := 64 }
set_option maxHeartbeats 4000000 in
set_option maxRecDepth 100000 in
theorem c_X0_rankAt (l : Launch) (D : va_G × Nat) (S : PS) (a0 : Nat) (b1 : Nat) (p2 : Int32) (r : Int32) (hf : f_X0_rankAt S a0 b1 p2 = some r) : MI l D yX0_rankAt wsX0_rankAt rmX0_rankAt S [.ref a0, .ref b1, .int p2] S r 0 0 := by
  unfold f_X0_rankAt at hf
  refine Met.ofW (cc := cX0_rankAt) (maxL := 4) (ret := (some .int)) (by decide) rfl ?_
  intro p e s m args below meth c s₁ B hml hv
  obtain ⟨rfl, hH0, hNE⟩ := hv
  have hx := B.exec
  have hb := B.bytes
  have hr := B.returns
  have hts := atoms_spec (ws := wsX0_rankAt) B.pre
  have hown : s.vm.findClass RX0 = some m.cls := findClass_of_methodNamed B.named
  have hlocks := B.notSynchronized
  have hH : HI D S S s s.heap [] := HI.start hH0
  have hl := lv_entry ([.ref a0, .ref b1, .int p2]) (n := 4) (Nat.le_of_ble_eq_true rfl)
  rw [lg_entry_eq]
  generalize (lg_sl ([.ref a0, .ref b1, .int p2]) ++ List.replicate (4 - (lg_sl ([.ref a0, .ref b1, .int p2])).length) Slot.unset).toArray = ls at hl ⊢
  have hl : lv_has ls 4 [(0, .ref a0), (1, .ref b1), (2, .int p2)] := hl
  refine lv_iload_n hx hb dX0_rankAt_0 rfl (lv_at hl 2 rfl) ?_
  obtain ⟨j1, e4, hf⟩ := ol hf
  have Jj1 : ∀ (u3 : Unit) (H : Heap) (locs : List Loc) (ls : Array Slot), HI D S S s H locs → lv_has ls 4 [(2, .int p2)] → j1 u3 = some r → GI p l e (headSpec wsX0_rankAt rmX0_rankAt).room s m ([.ref a0, .ref b1, .int p2] : List Value).toArray below meth c D S S r H locs 0 0 0 0 (F0 m 47 ls []) := by
    intro u3 H locs ls hH hl hf
    rw [← e4] at hf
    refine lv_iload_n hx hb dX0_rankAt_47 rfl (lv_at hl 0 rfl) ?_
    refine lv_bipush (v := 20) hx hb dX0_rankAt_48 (by decide) ?_
    refine lv_icmp_ne (tgt := 57) hx hb dX0_rankAt_50 (by decide) (fun c2 => ?_) (fun c2 => ?_)
    · have hf := iq hf c2
      refine lv_iconst (v := 5) hx hb dX0_rankAt_57 (by decide) ?_
      have hr9 := Option.some.inj hf
      subst hr9
      exact e_i hx hb hr hlocks hH dX0_rankAt_58
    · have hf := ip hf c2
      refine lv_iconst (v := 1) hx hb dX0_rankAt_53 (by decide) ?_
      refine lv_goto (tgt := 58) hx hb dX0_rankAt_54 (by decide) ?_
      have hr9 := Option.some.inj hf
      subst hr9
      exact e_i hx hb hr hlocks hH dX0_rankAt_58
  refine lv_if_lt (tgt := 47) hx hb dX0_rankAt_1 (by decide) (fun c5 => ?_) (fun c5 => ?_)
  · have hf := ip hf c5
    exact Jj1 () _ _ ls hH (lv_sub hl [2] rfl) hf
  · have hf := iq hf c5
    refine lv_iload_n hx hb dX0_rankAt_4 rfl (lv_at hl 2 rfl) ?_
    refine lv_aload_n hx hb dX0_rankAt_5 rfl (lv_at hl 0 rfl) ?_
    obtain ⟨ek6, hf⟩ := oc hf
    obtain ⟨a7, e8, hf⟩ := ob hf
    refine r_getQ hx hb 3 hts (fun w h => List.mem_cons_of_mem _ (mwsX00 w h)) hown hH ek6 (by decide) rfl 0 (by decide) rfl (hts (.fieldLink RX0 12 "Housestyle$Book" "rules" "Ljava/util/ArrayList;") (List.mem_cons_of_mem _ gw_1_1)) (fun _ h9 => h9) dX0_rankAt_6 e8 ?_
    obtain ⟨ek9, hf⟩ := oc hf
    obtain ⟨r10, e11, hf⟩ := ob hf
    refine r_callVi (As := []) ⟨hx, hb, hml, hown, hts⟩ (c_Jx4a65c_size_8abf5 l D S a7 r10 e11) (cwV 0 hts (gwV gw_6_12 gw_4_10 gw_4_11 gw_1_0 gw_1_18) rfl rfl rfl (by decide +kernel) ⟨Nat.le_of_ble_eq_true rfl, Nat.le_of_ble_eq_true rfl⟩) hH hNE 2 ek9 (by decide) rfl rfl rfl hl.1 rfl (Nat.le_of_ble_eq_true rfl) dX0_rankAt_9 ⟨(Nat.le_of_ble_eq_true rfl), (Nat.le_of_ble_eq_true rfl)⟩ (fun H locs hH => ?_)
    refine lv_icmp_ge (tgt := 47) hx hb dX0_rankAt_12 (by decide) (fun c12 => ?_) (fun c12 => ?_)
    · have hf := ip hf c12
      exact Jj1 () _ _ ls hH (lv_sub hl [2] rfl) hf
    · have hf := iq hf c12
      refine lv_aload_n hx hb dX0_rankAt_15 rfl (lv_at hl 1 rfl) ?_
      obtain ⟨ek13, hf⟩ := oc hf
      obtain ⟨a14, e15, hf⟩ := ob hf
      refine r_getQN hx hb 4 hts (fun w h => List.mem_cons_of_mem _ (mwsX10 w h)) hown hH ek13 (by decide) rfl 0 (by decide) rfl (nf_16 hNE) (fun _ h9 => h9) dX0_rankAt_16 e15 ?_
      refine lv_iload_n hx hb dX0_rankAt_19 rfl (lv_at hl 2 rfl) ?_
      obtain ⟨ek16, hf⟩ := oc hf
      obtain ⟨r17, e18, hf⟩ := ob hf
      refine r_callVi (As := [.int p2]) ⟨hx, hb, hml, hown, hts⟩ (c_X5_get l D S a14 p2 r17 e18) (cwV 1 hts (gwV gw_5_18 gw_2_13 gw_2_14 gw_1_5 gw_2_9) rfl rfl rfl (by decide +kernel) ⟨Nat.le_of_ble_eq_true rfl, Nat.le_of_ble_eq_true rfl⟩) hH hNE 8 ek16 (by decide) rfl rfl rfl hl.1 rfl (Nat.le_of_ble_eq_true rfl) dX0_rankAt_20 ⟨(Nat.le_of_ble_eq_true rfl), (Nat.le_of_ble_eq_true rfl)⟩ (fun H locs hH => ?_)
      refine lv_istore_n (lv' := [(3, .int r17), (0, .ref a0), (1, .ref b1), (2, .int p2)]) hx hb dX0_rankAt_23 rfl hl (by decide) rfl (fun ls hl => ?_)
      refine lv_iload_n hx hb dX0_rankAt_24 rfl (lv_at hl 0 rfl) ?_
      refine lv_if_ne (tgt := 45) hx hb dX0_rankAt_25 (by decide) (fun c19 => ?_) (fun c19 => ?_)
      · have hf := iq hf c19
        refine lv_iload_n hx hb dX0_rankAt_45 rfl (lv_at hl 0 rfl) ?_
        have hr9 := Option.some.inj hf
        subst hr9
        exact e_i hx hb hr hlocks hH dX0_rankAt_46
      · have hf := ip hf c19
        refine lv_aload_n hx hb dX0_rankAt_28 rfl (lv_at hl 1 rfl) ?_
        refine r_getQ hx hb 3 hts (fun w h => List.mem_cons_of_mem _ (mwsX00 w h)) hown hH ek6 (by decide) rfl 0 (by decide) rfl (hts (.fieldLink RX0 12 "Housestyle$Book" "rules" "Ljava/util/ArrayList;") (List.mem_cons_of_mem _ gw_1_1)) (fun _ h9 => h9) dX0_rankAt_29 e8 ?_
        refine lv_iload_n hx hb dX0_rankAt_32 rfl (lv_at hl 3 rfl) ?_
        obtain ⟨r20, e21, hf⟩ := ob hf
        refine r_callVr (As := [.int p2]) ⟨hx, hb, hml, hown, hts⟩ (c_Jx4a65c_get_915e3 l D S a7 p2 r20 e21) (cwV 1 hts (gwV gw_6_13 gw_4_13 gw_4_14 gw_1_0 gw_2_2) rfl rfl rfl (by decide +kernel) ⟨Nat.le_of_ble_eq_true rfl, Nat.le_of_ble_eq_true rfl⟩) hH hNE 2 ek9 (by decide) rfl rfl rfl hl.1 rfl (Nat.le_of_ble_eq_true rfl) dX0_rankAt_33 ⟨(Nat.le_of_ble_eq_true rfl), (Nat.le_of_ble_eq_true rfl)⟩ (fun H locs hH => ?_)
        obtain ⟨ek22, hf⟩ := oc hf
        refine r_castS 9 hx hb hown (hts (.classLink RX0 46 "Housestyle$Rule") (List.mem_cons_of_mem _ gw_6_7)) hH ek22 (by decide) rfl rfl dX0_rankAt_36 ?_
        refine r_getIN hx hb 9 hts (fun w h => List.mem_cons_of_mem _ (mwsX60 w h)) hown hH ek22 (by decide) rfl 3 (by decide) rfl (nf_17 hNE) (fun _ h9 => h9) dX0_rankAt_39 ?_
        refine lv_goto (tgt := 46) hx hb dX0_rankAt_42 (by decide) ?_
        have hr9 := Option.some.inj hf
        subst hr9
        exact e_i hx hb hr hlocks hH dX0_rankAt_46
set_option maxRecDepth 100000 in
def f_X9_rank (S : PS) (a0 : Nat) (p1 : Int32) (p2 : Int32) (p3 : Int32) : Option ((PS × Int32) ⊕ (PS × Nat)) := if kK S a0 = 13 then (bx2 (f_X9_ruleAt S a0 p2) fun S3 a4 => if kK S3 a0 = 13 then (bx2 (f_X9_deskAt S3 a0 p1) fun S7 a8 => lt (fun (u10 : Unit) => some (.inr (S7, 1))) fun j9 => if p3 < 0 then (j9 ()) else (if p3 ≤ (9 : Int32) then (if kK S7 a0 = 13 then ((kQ S7 a0 3).bind fun a15 => if kK S7 a15 = 4 then ((f_X0_rankAt S7 a15 a8 p2).bind fun r18 => if kK S7 a8 = 5 then ((kQ S7 a8 0).bind fun a21 => if kK S7 a21 = 9 then ((f_X5_set S7 a21 p2 p3).bind fun r24 => if kK r24 a0 = 13 then ((f_X9_noteSettings r24 a0 p1).bind fun r27 => some (.inl (r27, r18))) else none) else none) else none) else none) else none) else (j9 ()))) else none) else none
abbrev rmX9_rank : Room := { frames := 7, cells := 3, slots := 18, locals := 111 }
set_option maxHeartbeats 4000000 in
set_option maxRecDepth 100000 in
theorem c_X9_rank (l : Launch) (hst9 : l.stackTraces = false) (D : va_G × Nat) (S : PS) (a0 : Nat) (p1 : Int32) (p2 : Int32) (p3 : Int32) (r : (PS × Int32) ⊕ (PS × Nat)) (hf : f_X9_rank S a0 p1 p2 p3 = some r) : XM l D yX9_rank wsX9_rank rmX9_rank S [.ref a0, .int p1, .int p2, .int p3] (mI r) 3 18 := by
  unfold f_X9_rank at hf
  refine vx_ofW (cc := cX9_rank) (maxL := 6) (ret := (some .int)) (by decide) rfl ?_
  intro p e s m args below meth c s₁ B hml hxt hv
  obtain ⟨rfl, hH0, hE, hNE⟩ := hv
  have hB := hH0.base
  have hx := B.exec
  have hb := B.bytes
  have hr := B.returns
  have hts := atoms_spec (ws := wsX9_rank) B.pre
  have hown : s.vm.findClass RX9 = some m.cls := findClass_of_methodNamed B.named
  have hlocks := B.notSynchronized
  have hH : HI D S S s s.heap [] := HI.start hH0
  have hl := lv_entry ([.ref a0, .int p1, .int p2, .int p3]) (n := 6) (Nat.le_of_ble_eq_true rfl)
  rw [lg_entry_eq]
  generalize (lg_sl ([.ref a0, .int p1, .int p2, .int p3]) ++ List.replicate (6 - (lg_sl ([.ref a0, .int p1, .int p2, .int p3])).length) Slot.unset).toArray = ls at hl ⊢
  have hl : lv_has ls 6 [(0, .ref a0), (1, .int p1), (2, .int p2), (3, .int p3)] := hl
  refine lv_aload_n hx hb dX9_rank_0 rfl (lv_at hl 0 rfl) ?_
  refine lv_iload_n hx hb dX9_rank_1 rfl (lv_at hl 2 rfl) ?_
  obtain ⟨ek1, hf⟩ := oc hf
  rcases obx2 hf with ⟨x4_, e2, rfl⟩ | ⟨S3, a4, e2, hf⟩
  · refine r_xVex (As := [.int p2]) ⟨hx, hb, hml, hown, hts⟩ (c_X9_ruleAt l hst9 D S a0 p2 (.inr x4_) e2) (cwV 1 hts (gwV gw_24_9 gw_24_10 gw_24_11 gw_14_5 gw_24_6) rfl rfl rfl (by decide +kernel) ⟨Nat.le_of_ble_eq_true rfl, Nat.le_of_ble_eq_true rfl⟩) hH hE hB hNE 12 ek1 (by decide) rfl rfl rfl hl.1 rfl (Nat.le_of_ble_eq_true rfl) dX9_rank_2 ⟨(Nat.le_of_ble_eq_true rfl), (Nat.le_of_ble_eq_true rfl)⟩ (fun z9 ce9 q9 H locs hH hk9 hz9 h91 h92 h93 => ?_)
    exact x_out hxt hlocks hH hk9 hz9 h91 h92 h93 ⟨Nat.le_of_ble_eq_true rfl, Nat.le_of_ble_eq_true rfl⟩
  refine r_xVok (As := [.int p2]) (S' := S3) (v := (some (.ref a4))) (st1 := [.ref a4]) ⟨hx, hb, hml, hown, hts⟩ (c_X9_ruleAt l hst9 D S a0 p2 (.inl (S3, a4)) e2) (cwV 1 hts (gwV gw_24_9 gw_24_10 gw_24_11 gw_14_5 gw_24_6) rfl rfl rfl (by decide +kernel) ⟨Nat.le_of_ble_eq_true rfl, Nat.le_of_ble_eq_true rfl⟩) hH hE hB hNE 12 ek1 (by decide) rfl rfl rfl hl.1 rfl (Nat.le_of_ble_eq_true rfl) dX9_rank_2 ⟨(Nat.le_of_ble_eq_true rfl), (Nat.le_of_ble_eq_true rfl)⟩ rfl (fun H locs hH => ?_)
  refine W.widen (k := 1) (n := 6) (by omega) (by omega) ?_
  refine lv_pop hx hb dX9_rank_5 rfl ?_
  refine lv_aload_n hx hb dX9_rank_6 rfl (lv_at hl 0 rfl) ?_
  refine lv_iload_n hx hb dX9_rank_7 rfl (lv_at hl 1 rfl) ?_
  obtain ⟨ek5, hf⟩ := oc hf
  rcases obx2 hf with ⟨x8_, e6, rfl⟩ | ⟨S7, a8, e6, hf⟩
  · refine r_xVex (As := [.int p1]) ⟨hx, hb, hml, hown, hts⟩ (c_X9_deskAt l hst9 D S3 a0 p1 (.inr x8_) e6) (cwV 1 hts (gwV gw_25_7 gw_25_8 gw_25_9 gw_14_5 gw_25_4) rfl rfl rfl (by decide +kernel) ⟨Nat.le_of_ble_eq_true rfl, Nat.le_of_ble_eq_true rfl⟩) hH hE hB hNE 12 ek5 (by decide) rfl rfl rfl hl.1 rfl (Nat.le_of_ble_eq_true rfl) dX9_rank_8 ⟨(Nat.le_of_ble_eq_true rfl), (Nat.le_of_ble_eq_true rfl)⟩ (fun z9 ce9 q9 H locs hH hk9 hz9 h91 h92 h93 => ?_)
    exact x_out hxt hlocks hH hk9 hz9 h91 h92 h93 ⟨Nat.le_of_ble_eq_true rfl, Nat.le_of_ble_eq_true rfl⟩
  refine r_xVok (As := [.int p1]) (S' := S7) (v := (some (.ref a8))) (st1 := [.ref a8]) ⟨hx, hb, hml, hown, hts⟩ (c_X9_deskAt l hst9 D S3 a0 p1 (.inl (S7, a8)) e6) (cwV 1 hts (gwV gw_25_7 gw_25_8 gw_25_9 gw_14_5 gw_25_4) rfl rfl rfl (by decide +kernel) ⟨Nat.le_of_ble_eq_true rfl, Nat.le_of_ble_eq_true rfl⟩) hH hE hB hNE 12 ek5 (by decide) rfl rfl rfl hl.1 rfl (Nat.le_of_ble_eq_true rfl) dX9_rank_8 ⟨(Nat.le_of_ble_eq_true rfl), (Nat.le_of_ble_eq_true rfl)⟩ rfl (fun H locs hH => ?_)
  refine W.widen (k := 2) (n := 12) (by omega) (by omega) ?_
  refine lv_astore (lv' := [(4, .ref a8), (0, .ref a0), (1, .int p1), (2, .int p2), (3, .int p3)]) hx hb dX9_rank_11 hl (by decide) rfl (fun ls hl => ?_)
  refine lv_iload_n hx hb dX9_rank_13 rfl (lv_at hl 4 rfl) ?_
  obtain ⟨j9, e11, hf⟩ := ol hf
  have Jj9 : ∀ (u10 : Unit) (H : Heap) (locs : List Loc) (ls : Array Slot), HI D S S7 s H locs → lv_has ls 6 [] → j9 u10 = some r → GX p l e (headSpec wsX9_rank rmX9_rank).room s m ([.ref a0, .int p1, .int p2, .int p3] : List Value).toArray below meth c D S (mI r) H locs 2 12 3 18 (F0 m 23 ls []) := by
    intro u10 H locs ls hH hl hf
    rw [← e11] at hf
    cases hf
    exact r_throw (text := "no such rank") (cls := "java/lang/IllegalArgumentException") (names := ["java/lang/RuntimeException", "java/lang/Exception"]) 1 hx hb hst9 hown xf0 xn (hts (.classLink RX9 82 "java/lang/IllegalArgumentException") (List.mem_cons_of_mem _ gw_21_9)) (hts (.initialized "java/lang/IllegalArgumentException") (List.mem_cons_of_mem _ gw_21_10)) (List.mem_of_getElem? (i := 15) rfl) (xa0 hts hE) xg0 hE hB hH (hl.1.trans hml.symm) rfl dX9_rank_23 dX9_rank_26 dX9_rank_27 dX9_rank_29 dX9_rank_32 hxt (Nat.le_of_ble_eq_true rfl) (Nat.le_of_ble_eq_true rfl) (Nat.le_of_ble_eq_true rfl) (Nat.le_of_ble_eq_true rfl) hlocks ⟨Nat.le_of_ble_eq_true rfl, Nat.le_of_ble_eq_true rfl⟩
  refine lv_if_lt (tgt := 23) hx hb dX9_rank_14 (by decide) (fun c12 => ?_) (fun c12 => ?_)
  · have hf := ip hf c12
    exact Jj9 () _ _ ls hH (lv_sub hl [] rfl) hf
  · have hf := iq hf c12
    refine lv_iload_n hx hb dX9_rank_17 rfl (lv_at hl 4 rfl) ?_
    refine lv_bipush (v := 9) hx hb dX9_rank_18 (by decide) ?_
    refine lv_icmp_le (tgt := 33) hx hb dX9_rank_20 (by decide) (fun c13 => ?_) (fun c13 => ?_)
    · have hf := ip hf c13
      refine lv_aload_n hx hb dX9_rank_33 rfl (lv_at hl 1 rfl) ?_
      obtain ⟨ek14, hf⟩ := oc hf
      obtain ⟨a15, e16, hf⟩ := ob hf
      refine r_getQ hx hb 12 hts (fun w h => List.mem_cons_of_mem _ (mwsX90 w h)) hown hH ek14 (by decide) rfl 3 (by decide) rfl (hts (.fieldLink RX9 40 "Housestyle" "book" "LHousestyle$Book;") (List.mem_cons_of_mem _ gw_20_6)) (fun _ h9 => h9) dX9_rank_34 e16 ?_
      refine lv_aload hx hb dX9_rank_37 (lv_at hl 0 rfl) ?_
      refine lv_iload_n hx hb dX9_rank_39 rfl (lv_at hl 3 rfl) ?_
      obtain ⟨ek17, hf⟩ := oc hf
      obtain ⟨r18, e19, hf⟩ := ob hf
      refine r_callVi (As := [.ref a8, .int p2]) ⟨hx, hb, hml, hown, hts⟩ (c_X0_rankAt l D S7 a15 a8 p2 r18 e19) (cwV 2 hts (gwV gw_25_20 gw_7_8 gw_7_9 gw_6_5 gw_7_5) rfl rfl rfl (by decide +kernel) ⟨Nat.le_of_ble_eq_true rfl, Nat.le_of_ble_eq_true rfl⟩) hH hNE 3 ek17 (by decide) rfl rfl rfl hl.1 rfl (Nat.le_of_ble_eq_true rfl) dX9_rank_40 ⟨(Nat.le_of_ble_eq_true rfl), (Nat.le_of_ble_eq_true rfl)⟩ (fun H locs hH => ?_)
      refine lv_istore (lv' := [(5, .int r18), (4, .ref a8), (0, .ref a0), (1, .int p1), (2, .int p2), (3, .int p3)]) hx hb dX9_rank_43 hl (by decide) rfl (fun ls hl => ?_)
      refine lv_aload hx hb dX9_rank_45 (lv_at hl 1 rfl) ?_
      obtain ⟨ek20, hf⟩ := oc hf
      obtain ⟨a21, e22, hf⟩ := ob hf
      refine r_getQN hx hb 4 hts (fun w h => List.mem_cons_of_mem _ (mwsX10 w h)) hown hH ek20 (by decide) rfl 0 (by decide) rfl (nf_7 hNE) (fun _ h9 => h9) dX9_rank_47 e22 ?_
      refine lv_iload_n hx hb dX9_rank_50 rfl (lv_at hl 4 rfl) ?_
      refine lv_iload_n hx hb dX9_rank_51 rfl (lv_at hl 5 rfl) ?_
      obtain ⟨ek23, hf⟩ := oc hf
      obtain ⟨r24, e25, hf⟩ := ob hf
      refine r_callVv (As := [.int p2, .int p3]) ⟨hx, hb, hml, hown, hts⟩ (c_X5_set l D S7 a21 p2 p3 r24 e25) (cwV 2 hts (gwV gw_25_21 gw_5_20 gw_5_21 gw_1_5 gw_5_16) rfl rfl rfl (by decide +kernel) ⟨Nat.le_of_ble_eq_true rfl, Nat.le_of_ble_eq_true rfl⟩) hH hNE 8 ek23 (by decide) rfl rfl rfl hl.1 rfl (Nat.le_of_ble_eq_true rfl) dX9_rank_52 ⟨(Nat.le_of_ble_eq_true rfl), (Nat.le_of_ble_eq_true rfl)⟩ (fun H locs hH => ?_)
      refine lv_aload_n hx hb dX9_rank_55 rfl (lv_at hl 2 rfl) ?_
      refine lv_iload_n hx hb dX9_rank_56 rfl (lv_at hl 3 rfl) ?_
      obtain ⟨ek26, hf⟩ := oc hf
      obtain ⟨r27, e28, hf⟩ := ob hf
      refine r_callVv (As := [.int p1]) ⟨hx, hb, hml, hown, hts⟩ (c_X9_noteSettings l D r24 a0 p1 r27 e28) (cwV 1 hts (gwV gw_25_16 gw_25_17 gw_25_18 gw_14_5 gw_25_5) rfl rfl rfl (by decide +kernel) ⟨Nat.le_of_ble_eq_true rfl, Nat.le_of_ble_eq_true rfl⟩) hH hNE 12 ek26 (by decide) rfl rfl rfl hl.1 rfl (Nat.le_of_ble_eq_true rfl) dX9_rank_57 ⟨(Nat.le_of_ble_eq_true rfl), (Nat.le_of_ble_eq_true rfl)⟩ (fun H locs hH => ?_)
      refine lv_iload hx hb dX9_rank_60 (lv_at hl 0 rfl) ?_
      refine W.widen (k := 3) (n := 18) (by omega) (by omega) ?_
      have hr9 := Option.some.inj hf
      subst hr9
      exact x_i hx hb hr hlocks hH dX9_rank_62
    · have hf := iq hf c13
      exact Jj9 () _ _ ls hH (lv_sub hl [] rfl) hf
set_option maxRecDepth 100000 in
def f_X9_limit (S : PS) (a0 : Nat) (p1 : Int32) (p2 : Int32) : Option ((PS × Int32) ⊕ (PS × Nat)) := if kK S a0 = 13 then (bx2 (f_X9_deskAt S a0 p1) fun S3 a4 => lt (fun (u6 : Unit) => some (.inr (S3, 1))) fun j5 => if p2 < 0 then (j5 ()) else (if p2 ≤ (20 : Int32) then (if kK S3 a4 = 5 then (lt (kI S3 a4 4) fun x11 => lt (wI S3 a4 4 p2) fun S13 => if kK S13 a0 = 13 then ((f_X9_noteSettings S13 a0 p1).bind fun r16 => some (.inl (r16, x11))) else none) else none) else (j5 ()))) else none
abbrev rmX9_limit : Room := { frames := 7, cells := 2, slots := 12, locals := 111 }
set_option maxHeartbeats 4000000 in
set_option maxRecDepth 100000 in
theorem c_X9_limit (l : Launch) (hst9 : l.stackTraces = false) (D : va_G × Nat) (S : PS) (a0 : Nat) (p1 : Int32) (p2 : Int32) (r : (PS × Int32) ⊕ (PS × Nat)) (hf : f_X9_limit S a0 p1 p2 = some r) : XM l D yX9_limit wsX9_limit rmX9_limit S [.ref a0, .int p1, .int p2] (mI r) 2 12 := by
  unfold f_X9_limit at hf
  refine vx_ofW (cc := cX9_limit) (maxL := 5) (ret := (some .int)) (by decide) rfl ?_
  intro p e s m args below meth c s₁ B hml hxt hv
  obtain ⟨rfl, hH0, hE, hNE⟩ := hv
  have hB := hH0.base
  have hx := B.exec
  have hb := B.bytes
  have hr := B.returns
  have hts := atoms_spec (ws := wsX9_limit) B.pre
  have hown : s.vm.findClass RX9 = some m.cls := findClass_of_methodNamed B.named
  have hlocks := B.notSynchronized
  have hH : HI D S S s s.heap [] := HI.start hH0
  have hl := lv_entry ([.ref a0, .int p1, .int p2]) (n := 5) (Nat.le_of_ble_eq_true rfl)
  rw [lg_entry_eq]
  generalize (lg_sl ([.ref a0, .int p1, .int p2]) ++ List.replicate (5 - (lg_sl ([.ref a0, .int p1, .int p2])).length) Slot.unset).toArray = ls at hl ⊢
  have hl : lv_has ls 5 [(0, .ref a0), (1, .int p1), (2, .int p2)] := hl
  refine lv_aload_n hx hb dX9_limit_0 rfl (lv_at hl 0 rfl) ?_
  refine lv_iload_n hx hb dX9_limit_1 rfl (lv_at hl 1 rfl) ?_
  obtain ⟨ek1, hf⟩ := oc hf
  rcases obx2 hf with ⟨x4_, e2, rfl⟩ | ⟨S3, a4, e2, hf⟩
  · refine r_xVex (As := [.int p1]) ⟨hx, hb, hml, hown, hts⟩ (c_X9_deskAt l hst9 D S a0 p1 (.inr x4_) e2) (cwV 1 hts (gwV gw_25_7 gw_25_8 gw_25_9 gw_14_5 gw_25_4) rfl rfl rfl (by decide +kernel) ⟨Nat.le_of_ble_eq_true rfl, Nat.le_of_ble_eq_true rfl⟩) hH hE hB hNE 12 ek1 (by decide) rfl rfl rfl hl.1 rfl (Nat.le_of_ble_eq_true rfl) dX9_limit_2 ⟨(Nat.le_of_ble_eq_true rfl), (Nat.le_of_ble_eq_true rfl)⟩ (fun z9 ce9 q9 H locs hH hk9 hz9 h91 h92 h93 => ?_)
    exact x_out hxt hlocks hH hk9 hz9 h91 h92 h93 ⟨Nat.le_of_ble_eq_true rfl, Nat.le_of_ble_eq_true rfl⟩
  refine r_xVok (As := [.int p1]) (S' := S3) (v := (some (.ref a4))) (st1 := [.ref a4]) ⟨hx, hb, hml, hown, hts⟩ (c_X9_deskAt l hst9 D S a0 p1 (.inl (S3, a4)) e2) (cwV 1 hts (gwV gw_25_7 gw_25_8 gw_25_9 gw_14_5 gw_25_4) rfl rfl rfl (by decide +kernel) ⟨Nat.le_of_ble_eq_true rfl, Nat.le_of_ble_eq_true rfl⟩) hH hE hB hNE 12 ek1 (by decide) rfl rfl rfl hl.1 rfl (Nat.le_of_ble_eq_true rfl) dX9_limit_2 ⟨(Nat.le_of_ble_eq_true rfl), (Nat.le_of_ble_eq_true rfl)⟩ rfl (fun H locs hH => ?_)
  refine W.widen (k := 1) (n := 6) (by omega) (by omega) ?_
  refine lv_astore_n (lv' := [(3, .ref a4), (0, .ref a0), (1, .int p1), (2, .int p2)]) hx hb dX9_limit_5 rfl hl (by decide) rfl (fun ls hl => ?_)
  refine lv_iload_n hx hb dX9_limit_6 rfl (lv_at hl 3 rfl) ?_
  obtain ⟨j5, e7, hf⟩ := ol hf
  have Jj5 : ∀ (u6 : Unit) (H : Heap) (locs : List Loc) (ls : Array Slot), HI D S S3 s H locs → lv_has ls 5 [] → j5 u6 = some r → GX p l e (headSpec wsX9_limit rmX9_limit).room s m ([.ref a0, .int p1, .int p2] : List Value).toArray below meth c D S (mI r) H locs 1 6 2 12 (F0 m 16 ls []) := by
    intro u6 H locs ls hH hl hf
    rw [← e7] at hf
    cases hf
    exact r_throw (text := "no such limit") (cls := "java/lang/IllegalArgumentException") (names := ["java/lang/RuntimeException", "java/lang/Exception"]) 1 hx hb hst9 hown xf0 xn (hts (.classLink RX9 82 "java/lang/IllegalArgumentException") (List.mem_cons_of_mem _ gw_21_9)) (hts (.initialized "java/lang/IllegalArgumentException") (List.mem_cons_of_mem _ gw_21_10)) (List.mem_of_getElem? (i := 16) rfl) (xa0 hts hE) xg0 hE hB hH (hl.1.trans hml.symm) rfl dX9_limit_16 dX9_limit_19 dX9_limit_20 dX9_limit_22 dX9_limit_25 hxt (Nat.le_of_ble_eq_true rfl) (Nat.le_of_ble_eq_true rfl) (Nat.le_of_ble_eq_true rfl) (Nat.le_of_ble_eq_true rfl) hlocks ⟨Nat.le_of_ble_eq_true rfl, Nat.le_of_ble_eq_true rfl⟩
  refine lv_if_lt (tgt := 16) hx hb dX9_limit_7 (by decide) (fun c8 => ?_) (fun c8 => ?_)
  · have hf := ip hf c8
    exact Jj5 () _ _ ls hH (lv_sub hl [] rfl) hf
  · have hf := iq hf c8
    refine lv_iload_n hx hb dX9_limit_10 rfl (lv_at hl 3 rfl) ?_
    refine lv_bipush (v := 20) hx hb dX9_limit_11 (by decide) ?_
    refine lv_icmp_le (tgt := 26) hx hb dX9_limit_13 (by decide) (fun c9 => ?_) (fun c9 => ?_)
    · have hf := ip hf c9
      refine lv_aload_n hx hb dX9_limit_26 rfl (lv_at hl 0 rfl) ?_
      obtain ⟨ek10, hf⟩ := oc hf
      refine r_getIN hx hb 4 hts (fun w h => List.mem_cons_of_mem _ (mwsX10 w h)) hown hH ek10 (by decide) rfl 4 (by decide) rfl (nf_8 hNE) (fun _ h9 => h9) dX9_limit_27 ?_
      obtain ⟨x11, e12, hf⟩ := ol hf
      refine lv_topE e12 ?_
      refine lv_istore (lv' := [(4, .int x11), (3, .ref a4), (0, .ref a0), (1, .int p1), (2, .int p2)]) hx hb dX9_limit_30 hl (by decide) rfl (fun ls hl => ?_)
      refine lv_aload_n hx hb dX9_limit_32 rfl (lv_at hl 1 rfl) ?_
      refine lv_iload_n hx hb dX9_limit_33 rfl (lv_at hl 4 rfl) ?_
      refine r_putIN hx hb 4 hts (fun w h => List.mem_cons_of_mem _ (mwsX10 w h)) tyX1 tyX1_ok nmX1 hown hH ek10 (by decide) rfl 4 (by decide) rfl (nf_8 hNE) (fun _ h9 => h9) rfl (ty := .int) (by decide +kernel) rfl rfl dX9_limit_34 (fun H locs hH => ?_)
      obtain ⟨S13, e14, hf⟩ := ol hf
      rw [e14] at hH
      refine lv_aload_n hx hb dX9_limit_37 rfl (lv_at hl 2 rfl) ?_
      refine lv_iload_n hx hb dX9_limit_38 rfl (lv_at hl 3 rfl) ?_
      obtain ⟨ek15, hf⟩ := oc hf
      obtain ⟨r16, e17, hf⟩ := ob hf
      refine r_callVv (As := [.int p1]) ⟨hx, hb, hml, hown, hts⟩ (c_X9_noteSettings l D S13 a0 p1 r16 e17) (cwV 1 hts (gwV gw_25_16 gw_25_17 gw_25_18 gw_14_5 gw_25_5) rfl rfl rfl (by decide +kernel) ⟨Nat.le_of_ble_eq_true rfl, Nat.le_of_ble_eq_true rfl⟩) hH hNE 12 ek15 (by decide) rfl rfl rfl hl.1 rfl (Nat.le_of_ble_eq_true rfl) dX9_limit_39 ⟨(Nat.le_of_ble_eq_true rfl), (Nat.le_of_ble_eq_true rfl)⟩ (fun H locs hH => ?_)
      refine lv_iload hx hb dX9_limit_42 (lv_at hl 0 rfl) ?_
      refine W.widen (k := 2) (n := 12) (by omega) (by omega) ?_
      have hr9 := Option.some.inj hf
      subst hr9
      exact x_i hx hb hr hlocks hH dX9_limit_44
    · have hf := iq hf c9
      exact Jj5 () _ _ ls hH (lv_sub hl [] rfl) hf
set_option maxRecDepth 100000 in
def f_X8_clear (S : PS) (a0 : Nat) : Option (PS) := if kK S a0 = 12 then ((kQ S a0 1).bind fun a2 => if kK S a2 = 9 then ((f_X5_clear S a2).bind fun r5 => if kK r5 a0 = 12 then ((kQ r5 a0 2).bind fun a8 => if kK r5 a8 = 9 then ((f_X5_clear r5 a8).bind fun r11 => if kK r11 a0 = 12 then ((kQ r11 a0 3).bind fun a14 => if kK r11 a14 = 9 then ((f_X5_clear r11 a14).bind fun r17 => if kK r17 a0 = 12 then ((kQ r17 a0 4).bind fun a20 => if kK r17 a20 = 9 then ((f_X5_clear r17 a20).bind fun r23 => if kK r23 a0 = 12 then ((kQ r23 a0 5).bind fun a26 => if kK r23 a26 = 9 then ((f_X5_clear r23 a26).bind fun r29 => if kK r29 a0 = 12 then ((kQ r29 a0 6).bind fun a32 => if kK r29 a32 = 9 then ((f_X5_clear r29 a32).bind fun r35 => if kK r35 a0 = 12 then ((kQ r35 a0 7).bind fun a38 => if kK r35 a38 = 9 then ((f_X5_clear r35 a38).bind fun r41 => some r41) else none) else none) else none) else none) else none) else none) else none) else none) else none) else none) else none) else none) else none) else none
abbrev rmX8_clear : Room := { frames := 1, cells := 0, slots := 0, locals := 20 }
set_option maxHeartbeats 4000000 in
set_option maxRecDepth 100000 in
theorem c_X8_clear (l : Launch) (D : va_G × Nat) (S : PS) (a0 : Nat) (r : PS) (hf : f_X8_clear S a0 = some r) : MV l D yX8_clear wsX8_clear rmX8_clear S [.ref a0] r 0 0 := by
  unfold f_X8_clear at hf
  refine Met.ofW (cc := cX8_clear) (maxL := 1) (ret := none) (by decide) rfl ?_
  intro p e s m args below meth c s₁ B hml hv
  obtain ⟨rfl, hH0, hNE⟩ := hv
  have hx := B.exec
  have hb := B.bytes
  have hr := B.returns
  have hts := atoms_spec (ws := wsX8_clear) B.pre
  have hown : s.vm.findClass RX8 = some m.cls := findClass_of_methodNamed B.named
  have hlocks := B.notSynchronized
  have hH : HI D S S s s.heap [] := HI.start hH0
  have hl := lv_entry ([.ref a0]) (n := 1) (Nat.le_of_ble_eq_true rfl)
  rw [lg_entry_eq]
  generalize (lg_sl ([.ref a0]) ++ List.replicate (1 - (lg_sl ([.ref a0])).length) Slot.unset).toArray = ls at hl ⊢
  have hl : lv_has ls 1 [(0, .ref a0)] := hl
  refine lv_aload_n hx hb dX8_clear_0 rfl (lv_at hl 0 rfl) ?_
  obtain ⟨ek1, hf⟩ := oc hf
  obtain ⟨a2, e3, hf⟩ := ob hf
  refine r_getQ hx hb 11 hts (fun w h => List.mem_cons_of_mem _ (mwsX80 w h)) hown hH ek1 (by decide) rfl 1 (by decide) rfl (hts (.fieldLink RX8 20 "Housestyle$Tokens" "froms" "LHousestyle$Row;") (List.mem_cons_of_mem _ gw_1_13)) (fun _ h9 => h9) dX8_clear_1 e3 ?_
  obtain ⟨ek4, hf⟩ := oc hf
  obtain ⟨r5, e6, hf⟩ := ob hf
  refine r_callVv (As := []) ⟨hx, hb, hml, hown, hts⟩ (c_X5_clear l D S a2 r5 e6) (cwV 0 hts (gwV gw_18_16 gw_9_14 gw_9_15 gw_1_5 gw_9_11) rfl rfl rfl (by decide +kernel) ⟨Nat.le_of_ble_eq_true rfl, Nat.le_of_ble_eq_true rfl⟩) hH hNE 8 ek4 (by decide) rfl rfl rfl hl.1 rfl (Nat.le_of_ble_eq_true rfl) dX8_clear_4 ⟨(Nat.le_of_ble_eq_true rfl), (Nat.le_of_ble_eq_true rfl)⟩ (fun H locs hH => ?_)
  refine lv_aload_n hx hb dX8_clear_7 rfl (lv_at hl 0 rfl) ?_
  obtain ⟨ek7, hf⟩ := oc hf
  obtain ⟨a8, e9, hf⟩ := ob hf
  refine r_getQ hx hb 11 hts (fun w h => List.mem_cons_of_mem _ (mwsX80 w h)) hown hH ek7 (by decide) rfl 2 (by decide) rfl (hts (.fieldLink RX8 23 "Housestyle$Tokens" "ends" "LHousestyle$Row;") (List.mem_cons_of_mem _ gw_2_18)) (fun _ h9 => h9) dX8_clear_8 e9 ?_
  obtain ⟨ek10, hf⟩ := oc hf
  obtain ⟨r11, e12, hf⟩ := ob hf
  refine r_callVv (As := []) ⟨hx, hb, hml, hown, hts⟩ (c_X5_clear l D r5 a8 r11 e12) (cwV 0 hts (gwV gw_18_16 gw_9_14 gw_9_15 gw_1_5 gw_9_11) rfl rfl rfl (by decide +kernel) ⟨Nat.le_of_ble_eq_true rfl, Nat.le_of_ble_eq_true rfl⟩) hH hNE 8 ek10 (by decide) rfl rfl rfl hl.1 rfl (Nat.le_of_ble_eq_true rfl) dX8_clear_11 ⟨(Nat.le_of_ble_eq_true rfl), (Nat.le_of_ble_eq_true rfl)⟩ (fun H locs hH => ?_)
  refine lv_aload_n hx hb dX8_clear_14 rfl (lv_at hl 0 rfl) ?_
  obtain ⟨ek13, hf⟩ := oc hf
  obtain ⟨a14, e15, hf⟩ := ob hf
  refine r_getQ hx hb 11 hts (fun w h => List.mem_cons_of_mem _ (mwsX80 w h)) hown hH ek13 (by decide) rfl 3 (by decide) rfl (hts (.fieldLink RX8 26 "Housestyle$Tokens" "kinds" "LHousestyle$Row;") (List.mem_cons_of_mem _ gw_3_1)) (fun _ h9 => h9) dX8_clear_15 e15 ?_
  obtain ⟨ek16, hf⟩ := oc hf
  obtain ⟨r17, e18, hf⟩ := ob hf
  refine r_callVv (As := []) ⟨hx, hb, hml, hown, hts⟩ (c_X5_clear l D r11 a14 r17 e18) (cwV 0 hts (gwV gw_18_16 gw_9_14 gw_9_15 gw_1_5 gw_9_11) rfl rfl rfl (by decide +kernel) ⟨Nat.le_of_ble_eq_true rfl, Nat.le_of_ble_eq_true rfl⟩) hH hNE 8 ek16 (by decide) rfl rfl rfl hl.1 rfl (Nat.le_of_ble_eq_true rfl) dX8_clear_18 ⟨(Nat.le_of_ble_eq_true rfl), (Nat.le_of_ble_eq_true rfl)⟩ (fun H locs hH => ?_)
  refine lv_aload_n hx hb dX8_clear_21 rfl (lv_at hl 0 rfl) ?_
  obtain ⟨ek19, hf⟩ := oc hf
  obtain ⟨a20, e21, hf⟩ := ob hf
  refine r_getQ hx hb 11 hts (fun w h => List.mem_cons_of_mem _ (mwsX80 w h)) hown hH ek19 (by decide) rfl 4 (by decide) rfl (hts (.fieldLink RX8 29 "Housestyle$Tokens" "values" "LHousestyle$Row;") (List.mem_cons_of_mem _ gw_6_21)) (fun _ h9 => h9) dX8_clear_22 e21 ?_
  obtain ⟨ek22, hf⟩ := oc hf
  obtain ⟨r23, e24, hf⟩ := ob hf
  refine r_callVv (As := []) ⟨hx, hb, hml, hown, hts⟩ (c_X5_clear l D r17 a20 r23 e24) (cwV 0 hts (gwV gw_18_16 gw_9_14 gw_9_15 gw_1_5 gw_9_11) rfl rfl rfl (by decide +kernel) ⟨Nat.le_of_ble_eq_true rfl, Nat.le_of_ble_eq_true rfl⟩) hH hNE 8 ek22 (by decide) rfl rfl rfl hl.1 rfl (Nat.le_of_ble_eq_true rfl) dX8_clear_25 ⟨(Nat.le_of_ble_eq_true rfl), (Nat.le_of_ble_eq_true rfl)⟩ (fun H locs hH => ?_)
  refine lv_aload_n hx hb dX8_clear_28 rfl (lv_at hl 0 rfl) ?_
  obtain ⟨ek25, hf⟩ := oc hf
  obtain ⟨a26, e27, hf⟩ := ob hf
  refine r_getQ hx hb 11 hts (fun w h => List.mem_cons_of_mem _ (mwsX80 w h)) hown hH ek25 (by decide) rfl 5 (by decide) rfl (hts (.fieldLink RX8 32 "Housestyle$Tokens" "quoted" "LHousestyle$Row;") (List.mem_cons_of_mem _ gw_2_11)) (fun _ h9 => h9) dX8_clear_29 e27 ?_
  obtain ⟨ek28, hf⟩ := oc hf
  obtain ⟨r29, e30, hf⟩ := ob hf
  refine r_callVv (As := []) ⟨hx, hb, hml, hown, hts⟩ (c_X5_clear l D r23 a26 r29 e30) (cwV 0 hts (gwV gw_18_16 gw_9_14 gw_9_15 gw_1_5 gw_9_11) rfl rfl rfl (by decide +kernel) ⟨Nat.le_of_ble_eq_true rfl, Nat.le_of_ble_eq_true rfl⟩) hH hNE 8 ek28 (by decide) rfl rfl rfl hl.1 rfl (Nat.le_of_ble_eq_true rfl) dX8_clear_32 ⟨(Nat.le_of_ble_eq_true rfl), (Nat.le_of_ble_eq_true rfl)⟩ (fun H locs hH => ?_)
  refine lv_aload_n hx hb dX8_clear_35 rfl (lv_at hl 0 rfl) ?_
  obtain ⟨ek31, hf⟩ := oc hf
  obtain ⟨a32, e33, hf⟩ := ob hf
  refine r_getQ hx hb 11 hts (fun w h => List.mem_cons_of_mem _ (mwsX80 w h)) hown hH ek31 (by decide) rfl 6 (by decide) rfl (hts (.fieldLink RX8 35 "Housestyle$Tokens" "first" "LHousestyle$Row;") (List.mem_cons_of_mem _ gw_2_16)) (fun _ h9 => h9) dX8_clear_36 e33 ?_
  obtain ⟨ek34, hf⟩ := oc hf
  obtain ⟨r35, e36, hf⟩ := ob hf
  refine r_callVv (As := []) ⟨hx, hb, hml, hown, hts⟩ (c_X5_clear l D r29 a32 r35 e36) (cwV 0 hts (gwV gw_18_16 gw_9_14 gw_9_15 gw_1_5 gw_9_11) rfl rfl rfl (by decide +kernel) ⟨Nat.le_of_ble_eq_true rfl, Nat.le_of_ble_eq_true rfl⟩) hH hNE 8 ek34 (by decide) rfl rfl rfl hl.1 rfl (Nat.le_of_ble_eq_true rfl) dX8_clear_39 ⟨(Nat.le_of_ble_eq_true rfl), (Nat.le_of_ble_eq_true rfl)⟩ (fun H locs hH => ?_)
  refine lv_aload_n hx hb dX8_clear_42 rfl (lv_at hl 0 rfl) ?_
  obtain ⟨ek37, hf⟩ := oc hf
  obtain ⟨a38, e39, hf⟩ := ob hf
  refine r_getQ hx hb 11 hts (fun w h => List.mem_cons_of_mem _ (mwsX80 w h)) hown hH ek37 (by decide) rfl 7 (by decide) rfl (hts (.fieldLink RX8 38 "Housestyle$Tokens" "ahead" "LHousestyle$Row;") (List.mem_cons_of_mem _ gw_3_23)) (fun _ h9 => h9) dX8_clear_43 e39 ?_
  obtain ⟨ek40, hf⟩ := oc hf
  obtain ⟨r41, e42, hf⟩ := ob hf
  refine r_callVv (As := []) ⟨hx, hb, hml, hown, hts⟩ (c_X5_clear l D r35 a38 r41 e42) (cwV 0 hts (gwV gw_18_16 gw_9_14 gw_9_15 gw_1_5 gw_9_11) rfl rfl rfl (by decide +kernel) ⟨Nat.le_of_ble_eq_true rfl, Nat.le_of_ble_eq_true rfl⟩) hH hNE 8 ek40 (by decide) rfl rfl rfl hl.1 rfl (Nat.le_of_ble_eq_true rfl) dX8_clear_46 ⟨(Nat.le_of_ble_eq_true rfl), (Nat.le_of_ble_eq_true rfl)⟩ (fun H locs hH => ?_)
  have hr9 := Option.some.inj hf
  subst hr9
  exact e_v hx hb hr hlocks hH dX8_clear_49
set_option maxRecDepth 100000 in
def f_X8_beginParagraph (S : PS) (a0 : Nat) : Option (PS) := if kK S a0 = 12 then (lt (wI S a0 8 0) fun S2 => if kK S2 a0 = 12 then (lt (wI S2 a0 9 1) fun S5 => if kK S5 a0 = 12 then (lt (wI S5 a0 10 (-1)) fun S8 => some S8) else none) else none) else none
abbrev rmX8_beginParagraph : Room := { frames := 0, cells := 0, slots := 0, locals := 0 }
set_option maxHeartbeats 4000000 in
set_option maxRecDepth 100000 in
theorem c_X8_beginParagraph (l : Launch) (D : va_G × Nat) (S : PS) (a0 : Nat) (r : PS) (hf : f_X8_beginParagraph S a0 = some r) : MV l D yX8_beginParagraph wsX8_beginParagraph rmX8_beginParagraph S [.ref a0] r 0 0 := by
  unfold f_X8_beginParagraph at hf
  refine Met.ofW (cc := cX8_beginParagraph) (maxL := 1) (ret := none) (by decide) rfl ?_
  intro p e s m args below meth c s₁ B hml hv
  obtain ⟨rfl, hH0, hNE⟩ := hv
  have hx := B.exec
  have hb := B.bytes
  have hr := B.returns
  have hts := atoms_spec (ws := wsX8_beginParagraph) B.pre
  have hown : s.vm.findClass RX8 = some m.cls := findClass_of_methodNamed B.named
  have hlocks := B.notSynchronized
  have hH : HI D S S s s.heap [] := HI.start hH0
  have hl := lv_entry ([.ref a0]) (n := 1) (Nat.le_of_ble_eq_true rfl)
  rw [lg_entry_eq]
  generalize (lg_sl ([.ref a0]) ++ List.replicate (1 - (lg_sl ([.ref a0])).length) Slot.unset).toArray = ls at hl ⊢
  have hl : lv_has ls 1 [(0, .ref a0)] := hl
  refine lv_aload_n hx hb dX8_beginParagraph_0 rfl (lv_at hl 0 rfl) ?_
  refine lv_iconst (v := 0) hx hb dX8_beginParagraph_1 (by decide) ?_
  obtain ⟨ek1, hf⟩ := oc hf
  refine r_putI hx hb 11 hts (fun w h => List.mem_cons_of_mem _ (mwsX80 w h)) tyX8 tyX8_ok nmX8 hown hH ek1 (by decide) rfl 8 (by decide) rfl (hts (.fieldLink RX8 41 "Housestyle$Tokens" "isInQuote" "Z") (List.mem_cons_of_mem _ gw_18_11)) (fun _ h9 => h9) (Or.inl rfl) (ty := .boolean) (by decide +kernel) rfl rfl dX8_beginParagraph_2 (fun H locs hH => ?_)
  obtain ⟨S2, e3, hf⟩ := ol hf
  rw [e3] at hH
  refine lv_aload_n hx hb dX8_beginParagraph_5 rfl (lv_at hl 0 rfl) ?_
  refine lv_iconst (v := 1) hx hb dX8_beginParagraph_6 (by decide) ?_
  obtain ⟨ek4, hf⟩ := oc hf
  refine r_putI hx hb 11 hts (fun w h => List.mem_cons_of_mem _ (mwsX80 w h)) tyX8 tyX8_ok nmX8 hown hH ek4 (by decide) rfl 9 (by decide) rfl (hts (.fieldLink RX8 45 "Housestyle$Tokens" "isAtBegin" "Z") (List.mem_cons_of_mem _ gw_18_12)) (fun _ h9 => h9) (Or.inl rfl) (ty := .boolean) (by decide +kernel) rfl rfl dX8_beginParagraph_7 (fun H locs hH => ?_)
  obtain ⟨S5, e6, hf⟩ := ol hf
  rw [e6] at hH
  refine lv_aload_n hx hb dX8_beginParagraph_10 rfl (lv_at hl 0 rfl) ?_
  refine lv_iconst (v := (-1)) hx hb dX8_beginParagraph_11 (by decide) ?_
  obtain ⟨ek7, hf⟩ := oc hf
  refine r_putI hx hb 11 hts (fun w h => List.mem_cons_of_mem _ (mwsX80 w h)) tyX8 tyX8_ok nmX8 hown hH ek7 (by decide) rfl 10 (by decide) rfl (hts (.fieldLink RX8 48 "Housestyle$Tokens" "last" "I") (List.mem_cons_of_mem _ gw_18_13)) (fun _ h9 => h9) (Or.inl rfl) (ty := .int) (by decide +kernel) rfl rfl dX8_beginParagraph_12 (fun H locs hH => ?_)
  obtain ⟨S8, e9, hf⟩ := ol hf
  rw [e9] at hH
  have hr9 := Option.some.inj hf
  subst hr9
  exact e_v hx hb hr hlocks hH dX8_beginParagraph_15
set_option maxRecDepth 100000 in
def f_X8_kindOf (S : PS) (p0 : Int32) : Option (Int32) := (f_X9_isLetter S p0).bind fun r1 => if r1 = 0 then ((f_X9_isDigit S p0).bind fun r4 => if r4 = 0 then (some 0) else (some 2)) else (some 1)
abbrev rmX8_kindOf : Room := { frames := 1, cells := 0, slots := 0, locals := 20 }
set_option maxHeartbeats 4000000 in
set_option maxRecDepth 100000 in
theorem c_X8_kindOf (l : Launch) (D : va_G × Nat) (S : PS) (p0 : Int32) (r : Int32) (hf : f_X8_kindOf S p0 = some r) : MI l D yX8_kindOf wsX8_kindOf rmX8_kindOf S [.int p0] S r 0 0 := by
  unfold f_X8_kindOf at hf
  refine Met.ofW (cc := cX8_kindOf) (maxL := 1) (ret := (some .int)) (by decide) rfl ?_
  intro p e s m args below meth c s₁ B hml hv
  obtain ⟨rfl, hH0, hNE⟩ := hv
  have hx := B.exec
  have hb := B.bytes
  have hr := B.returns
  have hts := atoms_spec (ws := wsX8_kindOf) B.pre
  have hown : s.vm.findClass RX8 = some m.cls := findClass_of_methodNamed B.named
  have hlocks := B.notSynchronized
  have hH : HI D S S s s.heap [] := HI.start hH0
  have hl := lv_entry ([.int p0]) (n := 1) (Nat.le_of_ble_eq_true rfl)
  rw [lg_entry_eq]
  generalize (lg_sl ([.int p0]) ++ List.replicate (1 - (lg_sl ([.int p0])).length) Slot.unset).toArray = ls at hl ⊢
  have hl : lv_has ls 1 [(0, .int p0)] := hl
  refine lv_iload_n hx hb dX8_kindOf_0 rfl (lv_at hl 0 rfl) ?_
  obtain ⟨r1, e2, hf⟩ := ob hf
  refine r_callSiN (As := [.int p0]) ⟨hx, hb, hml, hown, hts⟩ (c_X9_isLetter l D S p0 r1 e2) ⟨va_cnB 1 hts (gwI (gwC gw_14_0)) rfl rfl rfl (nm_3 hNE) (hts (.initialized RX9) (List.mem_cons_of_mem _ gw_14_5)) (by decide +kernel) ⟨Nat.le_of_ble_eq_true rfl, Nat.le_of_ble_eq_true rfl⟩, (hts (.static yX9_isLetter) (List.mem_cons_of_mem _ gw_14_4)), trivial⟩ hH hNE rfl hl.1 rfl (Nat.le_of_ble_eq_true rfl) dX8_kindOf_1 ⟨(Nat.le_of_ble_eq_true rfl), (Nat.le_of_ble_eq_true rfl)⟩ (fun H locs hH => ?_)
  refine lv_if_eq (tgt := 9) hx hb dX8_kindOf_4 (by decide) (fun c3 => ?_) (fun c3 => ?_)
  · have hf := ip hf c3
    refine lv_iload_n hx hb dX8_kindOf_9 rfl (lv_at hl 0 rfl) ?_
    obtain ⟨r4, e5, hf⟩ := ob hf
    refine r_callSiN (As := [.int p0]) ⟨hx, hb, hml, hown, hts⟩ (c_X9_isDigit l D S p0 r4 e5) ⟨va_cnB 1 hts (gwI (gwC gw_17_5)) rfl rfl rfl (nm_4 hNE) (hts (.initialized RX9) (List.mem_cons_of_mem _ gw_14_5)) (by decide +kernel) ⟨Nat.le_of_ble_eq_true rfl, Nat.le_of_ble_eq_true rfl⟩, (hts (.static yX9_isDigit) (List.mem_cons_of_mem _ gw_17_7)), trivial⟩ hH hNE rfl hl.1 rfl (Nat.le_of_ble_eq_true rfl) dX8_kindOf_10 ⟨(Nat.le_of_ble_eq_true rfl), (Nat.le_of_ble_eq_true rfl)⟩ (fun H locs hH => ?_)
    refine lv_if_eq (tgt := 20) hx hb dX8_kindOf_13 (by decide) (fun c6 => ?_) (fun c6 => ?_)
    · have hf := ip hf c6
      refine lv_iconst (v := 0) hx hb dX8_kindOf_20 (by decide) ?_
      have hr9 := Option.some.inj hf
      subst hr9
      exact e_i hx hb hr hlocks hH dX8_kindOf_21
    · have hf := iq hf c6
      refine lv_iconst (v := 2) hx hb dX8_kindOf_16 (by decide) ?_
      refine lv_goto (tgt := 21) hx hb dX8_kindOf_17 (by decide) ?_
      have hr9 := Option.some.inj hf
      subst hr9
      exact e_i hx hb hr hlocks hH dX8_kindOf_21
  · have hf := iq hf c3
    refine lv_iconst (v := 1) hx hb dX8_kindOf_7 (by decide) ?_
    have hr9 := Option.some.inj hf
    subst hr9
    exact e_i hx hb hr hlocks hH dX8_kindOf_8
