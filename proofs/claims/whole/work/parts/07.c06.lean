set_option maxRecDepth 100000 in
def f_X2_shareNoSign_b2 (a0 : Nat) (S : PS) (x1 : Int32) : Option ((Int32) ⊕ ((Unit) ⊕ (Unit))) := if kK S a0 = 6 then ((f_X2_count S a0).bind fun r10 => if r10 ≤ x1 then (some (.inr (.inl ()))) else ((f_X2_fromOf S a0 (x1 - 1)).bind fun r13 => (f_X2_lengthOf S a0 (x1 - 1)).bind fun r15 => (f_X2_fromOf S a0 x1).bind fun r17 => if (r13 + r15) ≤ r17 then (lt (x1 + 1) fun x20 => some (.inl x20)) else (some (.inr (.inr ()))))) else none
set_option maxRecDepth 100000 in
def f_X2_shareNoSign (S : PS) (a0 : Nat) : Option (Int32) := lt (fun (u4 : Unit) => some 1) fun k2 => lt (fun (u7 : Unit) => some 0) fun k5 => (iter (fun (v : Int32) => f_X2_shareNoSign_b2 a0 S v) kF 1).bind (fun (z : (Unit) ⊕ (Unit)) => Sum.elim (fun (v : Unit) => k2 v) (fun (v : Unit) => k5 v) z)
abbrev rmX2_shareNoSign : Room := { frames := 6, cells := 0, slots := 0, locals := 128 }
set_option maxHeartbeats 4000000 in
set_option maxRecDepth 100000 in
theorem c_X2_shareNoSign (l : Launch) (D : va_G × Nat) (S : PS) (a0 : Nat) (r : Int32) (hf : f_X2_shareNoSign S a0 = some r) : MI l D yX2_shareNoSign wsX2_shareNoSign rmX2_shareNoSign S [.ref a0] S r 0 0 := by
  unfold f_X2_shareNoSign at hf
  refine Met.ofW (cc := cX2_shareNoSign) (maxL := 2) (ret := (some .boolean)) (by decide) rfl ?_
  intro p e s m args below meth c s₁ B hml hv
  obtain ⟨rfl, hH0, hNE⟩ := hv
  have hx := B.exec
  have hb := B.bytes
  have hr := B.returns
  have hts := atoms_spec (ws := wsX2_shareNoSign) B.pre
  have hown : s.vm.findClass RX2 = some m.cls := findClass_of_methodNamed B.named
  have hlocks := B.notSynchronized
  have hH : HI D S S s s.heap [] := HI.start hH0
  have hl := lv_entry ([.ref a0]) (n := 2) (Nat.le_of_ble_eq_true rfl)
  rw [lg_entry_eq]
  generalize (lg_sl ([.ref a0]) ++ List.replicate (2 - (lg_sl ([.ref a0])).length) Slot.unset).toArray = ls at hl ⊢
  have hl : lv_has ls 2 [(0, .ref a0)] := hl
  refine lv_iconst (v := 1) hx hb dX2_shareNoSign_0 (by decide) ?_
  refine lv_istore_n (lv' := [(1, .int 1), (0, .ref a0)]) hx hb dX2_shareNoSign_1 rfl hl (by decide) rfl (fun ls hl => ?_)
  obtain ⟨k2, e3, hf⟩ := ol hf
  have Xk2 : ∀ (u4 : Unit) (H : Heap) (locs : List Loc) (ls : Array Slot), HI D S S s H locs → lv_has ls 2 [] → k2 u4 = some r → GI p l e (headSpec wsX2_shareNoSign rmX2_shareNoSign).room s m ([.ref a0] : List Value).toArray below meth c D S S r H locs 0 0 0 0 (F0 m 41 ls []) := by
    intro u4 H locs ls hH hl hf
    rw [← e3] at hf
    refine lv_iconst (v := 1) hx hb dX2_shareNoSign_41 (by decide) ?_
    have hr9 := Option.some.inj hf
    subst hr9
    exact e_z (r := 1) hx hb hr hlocks rfl hH dX2_shareNoSign_42
  obtain ⟨k5, e6, hf⟩ := ol hf
  have Xk5 : ∀ (u7 : Unit) (H : Heap) (locs : List Loc) (ls : Array Slot), HI D S S s H locs → lv_has ls 2 [] → k5 u7 = some r → GI p l e (headSpec wsX2_shareNoSign rmX2_shareNoSign).room s m ([.ref a0] : List Value).toArray below meth c D S S r H locs 0 0 0 0 (F0 m 33 ls []) := by
    intro u7 H locs ls hH hl hf
    rw [← e6] at hf
    refine lv_iconst (v := 0) hx hb dX2_shareNoSign_33 (by decide) ?_
    have hr9 := Option.some.inj hf
    subst hr9
    exact e_z (r := 0) hx hb hr hlocks rfl hH dX2_shareNoSign_34
  obtain ⟨o8, eo8, hq8f⟩ := ob hf
  have Lo8 : ∀ (n : Nat) (x1 : Int32), iter (fun (v : Int32) => f_X2_shareNoSign_b2 a0 S v) n x1 = some o8 → ∀ (H : Heap) (locs : List Loc) (ls : Array Slot), HI D S S s H locs → lv_has ls 2 [(0, .ref a0), (1, .int x1)] → GI p l e (headSpec wsX2_shareNoSign rmX2_shareNoSign).room s m ([.ref a0] : List Value).toArray below meth c D S S r H locs 0 0 0 0 (F0 m 2 ls []) := by
    intro n
    induction n with
    | zero => intro x1 hi; cases hi
    | succ n ih8 =>
      intro x1 hi H locs ls hH hl
      obtain ⟨q8_, hf, hq8⟩ := iter_s hi
      have hf : f_X2_shareNoSign_b2 a0 S x1 = some q8_ := hf
      unfold f_X2_shareNoSign_b2 at hf
      refine lv_iload_n hx hb dX2_shareNoSign_2 rfl (lv_at hl 1 rfl) ?_
      refine lv_aload_n hx hb dX2_shareNoSign_3 rfl (lv_at hl 0 rfl) ?_
      obtain ⟨ek9, hf⟩ := oc hf
      obtain ⟨r10, e11, hf⟩ := ob hf
      refine r_callVi (As := []) ⟨hx, hb, hml, hown, hts⟩ (c_X2_count l D S a0 r10 e11) (cwV 0 hts (gwV gw_12_23 gw_13_0 gw_13_1 gw_11_18 gw_10_20) rfl rfl rfl (by decide +kernel) ⟨Nat.le_of_ble_eq_true rfl, Nat.le_of_ble_eq_true rfl⟩) hH hNE 5 ek9 (by decide) rfl rfl rfl hl.1 rfl (Nat.le_of_ble_eq_true rfl) dX2_shareNoSign_4 ⟨(Nat.le_of_ble_eq_true rfl), (Nat.le_of_ble_eq_true rfl)⟩ (fun H locs hH => ?_)
      refine lv_icmp_ge (tgt := 41) hx hb dX2_shareNoSign_7 (by decide) (fun c12 => ?_) (fun c12 => ?_)
      · have hf := ip hf c12
        cases hf
        have hf9 := itR (K := (fun (z : (Unit) ⊕ (Unit)) => Sum.elim (fun (v : Unit) => k2 v) (fun (v : Unit) => k5 v) z)) hq8 hq8f
        exact Xk2 () _ _ ls hH (lv_sub hl [] rfl) hf9
      · have hf := iq hf c12
        refine lv_aload_n hx hb dX2_shareNoSign_10 rfl (lv_at hl 0 rfl) ?_
        refine lv_iload_n hx hb dX2_shareNoSign_11 rfl (lv_at hl 1 rfl) ?_
        refine lv_iconst (v := 1) hx hb dX2_shareNoSign_12 (by decide) ?_
        refine lv_isub hx hb dX2_shareNoSign_13 ?_
        obtain ⟨r13, e14, hf⟩ := ob hf
        refine r_callVi (As := [.int (x1 - 1)]) ⟨hx, hb, hml, hown, hts⟩ (c_X2_fromOf l D S a0 (x1 - 1) r13 e14) (cwV 1 hts (gwV gw_13_2 gw_13_3 gw_13_4 gw_11_18 gw_11_2) rfl rfl rfl (by decide +kernel) ⟨Nat.le_of_ble_eq_true rfl, Nat.le_of_ble_eq_true rfl⟩) hH hNE 5 ek9 (by decide) rfl rfl rfl hl.1 rfl (Nat.le_of_ble_eq_true rfl) dX2_shareNoSign_14 ⟨(Nat.le_of_ble_eq_true rfl), (Nat.le_of_ble_eq_true rfl)⟩ (fun H locs hH => ?_)
        refine lv_aload_n hx hb dX2_shareNoSign_17 rfl (lv_at hl 0 rfl) ?_
        refine lv_iload_n hx hb dX2_shareNoSign_18 rfl (lv_at hl 1 rfl) ?_
        refine lv_iconst (v := 1) hx hb dX2_shareNoSign_19 (by decide) ?_
        refine lv_isub hx hb dX2_shareNoSign_20 ?_
        obtain ⟨r15, e16, hf⟩ := ob hf
        refine r_callVi (As := [.int (x1 - 1)]) ⟨hx, hb, hml, hown, hts⟩ (c_X2_lengthOf l D S a0 (x1 - 1) r15 e16) (cwV 1 hts (gwV gw_13_5 gw_13_6 gw_13_7 gw_11_18 gw_11_14) rfl rfl rfl (by decide +kernel) ⟨Nat.le_of_ble_eq_true rfl, Nat.le_of_ble_eq_true rfl⟩) hH hNE 5 ek9 (by decide) rfl rfl rfl hl.1 rfl (Nat.le_of_ble_eq_true rfl) dX2_shareNoSign_21 ⟨(Nat.le_of_ble_eq_true rfl), (Nat.le_of_ble_eq_true rfl)⟩ (fun H locs hH => ?_)
        refine lv_iadd hx hb dX2_shareNoSign_24 ?_
        refine lv_aload_n hx hb dX2_shareNoSign_25 rfl (lv_at hl 0 rfl) ?_
        refine lv_iload_n hx hb dX2_shareNoSign_26 rfl (lv_at hl 1 rfl) ?_
        obtain ⟨r17, e18, hf⟩ := ob hf
        refine r_callVi (As := [.int x1]) ⟨hx, hb, hml, hown, hts⟩ (c_X2_fromOf l D S a0 x1 r17 e18) (cwV 1 hts (gwV gw_13_2 gw_13_3 gw_13_4 gw_11_18 gw_11_2) rfl rfl rfl (by decide +kernel) ⟨Nat.le_of_ble_eq_true rfl, Nat.le_of_ble_eq_true rfl⟩) hH hNE 5 ek9 (by decide) rfl rfl rfl hl.1 rfl (Nat.le_of_ble_eq_true rfl) dX2_shareNoSign_27 ⟨(Nat.le_of_ble_eq_true rfl), (Nat.le_of_ble_eq_true rfl)⟩ (fun H locs hH => ?_)
        refine lv_icmp_le (tgt := 35) hx hb dX2_shareNoSign_30 (by decide) (fun c19 => ?_) (fun c19 => ?_)
        · have hf := ip hf c19
          obtain ⟨x20, e21, hf⟩ := ol hf
          refine lv_iinc (v := x20) (lv' := [(1, .int x20), (0, .ref a0)]) hx hb dX2_shareNoSign_35 hl (k := 1) rfl (by rw [← e21]; rfl) (by decide) rfl (fun ls hl => ?_)
          refine lv_goto (tgt := 2) hx hb dX2_shareNoSign_38 (by decide) ?_
          cases hf
          exact ih8 x20 hq8 _ _ ls hH (lv_sub hl [1, 0] rfl)
        · have hf := iq hf c19
          cases hf
          have hf9 := itR (K := (fun (z : (Unit) ⊕ (Unit)) => Sum.elim (fun (v : Unit) => k2 v) (fun (v : Unit) => k5 v) z)) hq8 hq8f
          exact Xk5 () _ _ ls hH (lv_sub hl [] rfl) hf9
  exact Lo8 kF 1 eo8 _ _ ls hH (lv_sub hl [1, 0] rfl)
set_option maxRecDepth 100000 in
def f_X2_isLeftOut_b35 (a0 : Nat) (r5 : Int32) (r7 : Int32) (S : PS) (x13 : Int32) : Option ((Int32) ⊕ ((Unit) ⊕ (Unit))) := (f_X2_count S a0).bind fun r21 => if r21 ≤ x13 then (some (.inr (.inl ()))) else ((f_X2_fromOf S a0 x13).bind fun r24 => lt (fun (u29 : Unit) => lt (x13 + 1) fun x27 => some (.inl x27)) fun j26 => if (r5 + r7) ≤ r24 then (j26 ()) else ((f_X2_fromOf S a0 x13).bind fun r32 => (f_X2_lengthOf S a0 x13).bind fun r34 => if (r32 + r34) ≤ r5 then (j26 ()) else (some (.inr (.inr ())))))
set_option maxRecDepth 100000 in
def f_X2_isLeftOut (S : PS) (a0 : Nat) (b1 : Nat) (p2 : Int32) (p3 : Int32) : Option (Int32) := if kK S a0 = 6 then ((kQ S a0 1).bind fun a2 => if kK S a2 = 12 then ((f_X8_fromOf S a2 p3).bind fun r5 => (f_X2_lengthAt S a0 p2 p3).bind fun r7 => if kK S b1 = 5 then ((f_X1_ignores S b1 p2 r5 r7).bind fun r10 => if r10 = 0 then (lt (fun (u16 : Unit) => some 0) fun k14 => lt (fun (u19 : Unit) => some 1) fun k17 => (iter (fun (v : Int32) => f_X2_isLeftOut_b35 a0 r5 r7 S v) kF 0).bind (fun (z : (Unit) ⊕ (Unit)) => Sum.elim (fun (v : Unit) => k14 v) (fun (v : Unit) => k17 v) z)) else (some 1)) else none) else none) else none
abbrev rmX2_isLeftOut : Room := { frames := 6, cells := 0, slots := 0, locals := 128 }
set_option maxHeartbeats 4000000 in
set_option maxRecDepth 100000 in
theorem c_X2_isLeftOut (l : Launch) (D : va_G × Nat) (S : PS) (a0 : Nat) (b1 : Nat) (p2 : Int32) (p3 : Int32) (r : Int32) (hf : f_X2_isLeftOut S a0 b1 p2 p3 = some r) : MI l D yX2_isLeftOut wsX2_isLeftOut rmX2_isLeftOut S [.ref a0, .ref b1, .int p2, .int p3] S r 0 0 := by
  unfold f_X2_isLeftOut at hf
  refine Met.ofW (cc := cX2_isLeftOut) (maxL := 7) (ret := (some .boolean)) (by decide) rfl ?_
  intro p e s m args below meth c s₁ B hml hv
  obtain ⟨rfl, hH0, hNE⟩ := hv
  have hx := B.exec
  have hb := B.bytes
  have hr := B.returns
  have hts := atoms_spec (ws := wsX2_isLeftOut) B.pre
  have hown : s.vm.findClass RX2 = some m.cls := findClass_of_methodNamed B.named
  have hlocks := B.notSynchronized
  have hH : HI D S S s s.heap [] := HI.start hH0
  have hl := lv_entry ([.ref a0, .ref b1, .int p2, .int p3]) (n := 7) (Nat.le_of_ble_eq_true rfl)
  rw [lg_entry_eq]
  generalize (lg_sl ([.ref a0, .ref b1, .int p2, .int p3]) ++ List.replicate (7 - (lg_sl ([.ref a0, .ref b1, .int p2, .int p3])).length) Slot.unset).toArray = ls at hl ⊢
  have hl : lv_has ls 7 [(0, .ref a0), (1, .ref b1), (2, .int p2), (3, .int p3)] := hl
  refine lv_aload_n hx hb dX2_isLeftOut_0 rfl (lv_at hl 0 rfl) ?_
  obtain ⟨ek1, hf⟩ := oc hf
  obtain ⟨a2, e3, hf⟩ := ob hf
  refine r_getQ hx hb 5 hts (fun w h => List.mem_cons_of_mem _ (mwsX20 w h)) hown hH ek1 (by decide) rfl 1 (by decide) rfl (hts (.fieldLink RX2 15 "Housestyle$Findings" "tokens" "LHousestyle$Tokens;") (List.mem_cons_of_mem _ gw_10_13)) (fun _ h9 => h9) dX2_isLeftOut_1 e3 ?_
  refine lv_iload_n hx hb dX2_isLeftOut_4 rfl (lv_at hl 3 rfl) ?_
  obtain ⟨ek4, hf⟩ := oc hf
  obtain ⟨r5, e6, hf⟩ := ob hf
  refine r_callVi (As := [.int p3]) ⟨hx, hb, hml, hown, hts⟩ (c_X8_fromOf l D S a2 p3 r5 e6) (cwV 1 hts (gwV gw_11_3 gw_11_4 gw_11_5 gw_2_23 gw_11_1) rfl rfl rfl (by decide +kernel) ⟨Nat.le_of_ble_eq_true rfl, Nat.le_of_ble_eq_true rfl⟩) hH hNE 11 ek4 (by decide) rfl rfl rfl hl.1 rfl (Nat.le_of_ble_eq_true rfl) dX2_isLeftOut_5 ⟨(Nat.le_of_ble_eq_true rfl), (Nat.le_of_ble_eq_true rfl)⟩ (fun H locs hH => ?_)
  refine lv_istore (lv' := [(4, .int r5), (0, .ref a0), (1, .ref b1), (2, .int p2), (3, .int p3)]) hx hb dX2_isLeftOut_8 hl (by decide) rfl (fun ls hl => ?_)
  refine lv_aload_n hx hb dX2_isLeftOut_10 rfl (lv_at hl 1 rfl) ?_
  refine lv_iload_n hx hb dX2_isLeftOut_11 rfl (lv_at hl 3 rfl) ?_
  refine lv_iload_n hx hb dX2_isLeftOut_12 rfl (lv_at hl 4 rfl) ?_
  obtain ⟨r7, e8, hf⟩ := ob hf
  refine r_callVi (As := [.int p2, .int p3]) ⟨hx, hb, hml, hown, hts⟩ (c_X2_lengthAt l D S a0 p2 p3 r7 e8) (cwV 2 hts (gwV gw_11_15 gw_11_16 gw_11_17 gw_11_18 gw_11_7) rfl rfl rfl (by decide +kernel) ⟨Nat.le_of_ble_eq_true rfl, Nat.le_of_ble_eq_true rfl⟩) hH hNE 5 ek1 (by decide) rfl rfl rfl hl.1 rfl (Nat.le_of_ble_eq_true rfl) dX2_isLeftOut_13 ⟨(Nat.le_of_ble_eq_true rfl), (Nat.le_of_ble_eq_true rfl)⟩ (fun H locs hH => ?_)
  refine lv_istore (lv' := [(5, .int r7), (4, .int r5), (0, .ref a0), (1, .ref b1), (2, .int p2), (3, .int p3)]) hx hb dX2_isLeftOut_16 hl (by decide) rfl (fun ls hl => ?_)
  refine lv_aload_n hx hb dX2_isLeftOut_18 rfl (lv_at hl 3 rfl) ?_
  refine lv_iload_n hx hb dX2_isLeftOut_19 rfl (lv_at hl 4 rfl) ?_
  refine lv_iload hx hb dX2_isLeftOut_20 (lv_at hl 1 rfl) ?_
  refine lv_iload hx hb dX2_isLeftOut_22 (lv_at hl 0 rfl) ?_
  obtain ⟨ek9, hf⟩ := oc hf
  obtain ⟨r10, e11, hf⟩ := ob hf
  refine r_callVi (As := [.int p2, .int r5, .int r7]) ⟨hx, hb, hml, hown, hts⟩ (c_X1_ignores l D S b1 p2 r5 r7 r10 e11) (cwV 3 hts (gwV gw_12_2 gw_12_3 gw_12_4 gw_9_20 gw_9_16) rfl rfl rfl (by decide +kernel) ⟨Nat.le_of_ble_eq_true rfl, Nat.le_of_ble_eq_true rfl⟩) hH hNE 4 ek9 (by decide) rfl rfl rfl hl.1 rfl (Nat.le_of_ble_eq_true rfl) dX2_isLeftOut_24 ⟨(Nat.le_of_ble_eq_true rfl), (Nat.le_of_ble_eq_true rfl)⟩ (fun H locs hH => ?_)
  refine lv_if_eq (tgt := 32) hx hb dX2_isLeftOut_27 (by decide) (fun c12 => ?_) (fun c12 => ?_)
  · have hf := ip hf c12
    refine lv_iconst (v := 0) hx hb dX2_isLeftOut_32 (by decide) ?_
    refine lv_istore (lv' := [(6, .int 0), (5, .int r7), (4, .int r5), (0, .ref a0), (1, .ref b1), (2, .int p2), (3, .int p3)]) hx hb dX2_isLeftOut_33 hl (by decide) rfl (fun ls hl => ?_)
    obtain ⟨k14, e15, hf⟩ := ol hf
    have Xk14 : ∀ (u16 : Unit) (H : Heap) (locs : List Loc) (ls : Array Slot), HI D S S s H locs → lv_has ls 7 [] → k14 u16 = some r → GI p l e (headSpec wsX2_isLeftOut rmX2_isLeftOut).room s m ([.ref a0, .ref b1, .int p2, .int p3] : List Value).toArray below meth c D S S r H locs 0 0 0 0 (F0 m 84 ls []) := by
      intro u16 H locs ls hH hl hf
      rw [← e15] at hf
      refine lv_iconst (v := 0) hx hb dX2_isLeftOut_84 (by decide) ?_
      have hr9 := Option.some.inj hf
      subst hr9
      exact e_z (r := 0) hx hb hr hlocks rfl hH dX2_isLeftOut_85
    obtain ⟨k17, e18, hf⟩ := ol hf
    have Xk17 : ∀ (u19 : Unit) (H : Heap) (locs : List Loc) (ls : Array Slot), HI D S S s H locs → lv_has ls 7 [] → k17 u19 = some r → GI p l e (headSpec wsX2_isLeftOut rmX2_isLeftOut).room s m ([.ref a0, .ref b1, .int p2, .int p3] : List Value).toArray below meth c D S S r H locs 0 0 0 0 (F0 m 76 ls []) := by
      intro u19 H locs ls hH hl hf
      rw [← e18] at hf
      refine lv_iconst (v := 1) hx hb dX2_isLeftOut_76 (by decide) ?_
      have hr9 := Option.some.inj hf
      subst hr9
      exact e_z (r := 1) hx hb hr hlocks rfl hH dX2_isLeftOut_77
    obtain ⟨o20, eo20, hq20f⟩ := ob hf
    have Lo20 : ∀ (n : Nat) (x13 : Int32), iter (fun (v : Int32) => f_X2_isLeftOut_b35 a0 r5 r7 S v) n x13 = some o20 → ∀ (H : Heap) (locs : List Loc) (ls : Array Slot), HI D S S s H locs → lv_has ls 7 [(0, .ref a0), (4, .int r5), (5, .int r7), (6, .int x13)] → GI p l e (headSpec wsX2_isLeftOut rmX2_isLeftOut).room s m ([.ref a0, .ref b1, .int p2, .int p3] : List Value).toArray below meth c D S S r H locs 0 0 0 0 (F0 m 35 ls []) := by
      intro n
      induction n with
      | zero => intro x13 hi; cases hi
      | succ n ih20 =>
        intro x13 hi H locs ls hH hl
        obtain ⟨q20_, hf, hq20⟩ := iter_s hi
        have hf : f_X2_isLeftOut_b35 a0 r5 r7 S x13 = some q20_ := hf
        unfold f_X2_isLeftOut_b35 at hf
        refine lv_iload hx hb dX2_isLeftOut_35 (lv_at hl 3 rfl) ?_
        refine lv_aload_n hx hb dX2_isLeftOut_37 rfl (lv_at hl 0 rfl) ?_
        obtain ⟨r21, e22, hf⟩ := ob hf
        refine r_callVi (As := []) ⟨hx, hb, hml, hown, hts⟩ (c_X2_count l D S a0 r21 e22) (cwV 0 hts (gwV gw_12_23 gw_13_0 gw_13_1 gw_11_18 gw_10_20) rfl rfl rfl (by decide +kernel) ⟨Nat.le_of_ble_eq_true rfl, Nat.le_of_ble_eq_true rfl⟩) hH hNE 5 ek1 (by decide) rfl rfl rfl hl.1 rfl (Nat.le_of_ble_eq_true rfl) dX2_isLeftOut_38 ⟨(Nat.le_of_ble_eq_true rfl), (Nat.le_of_ble_eq_true rfl)⟩ (fun H locs hH => ?_)
        refine lv_icmp_ge (tgt := 84) hx hb dX2_isLeftOut_41 (by decide) (fun c23 => ?_) (fun c23 => ?_)
        · have hf := ip hf c23
          cases hf
          have hf9 := itR (K := (fun (z : (Unit) ⊕ (Unit)) => Sum.elim (fun (v : Unit) => k14 v) (fun (v : Unit) => k17 v) z)) hq20 hq20f
          exact Xk14 () _ _ ls hH (lv_sub hl [] rfl) hf9
        · have hf := iq hf c23
          refine lv_aload_n hx hb dX2_isLeftOut_44 rfl (lv_at hl 0 rfl) ?_
          refine lv_iload hx hb dX2_isLeftOut_45 (lv_at hl 3 rfl) ?_
          obtain ⟨r24, e25, hf⟩ := ob hf
          refine r_callVi (As := [.int x13]) ⟨hx, hb, hml, hown, hts⟩ (c_X2_fromOf l D S a0 x13 r24 e25) (cwV 1 hts (gwV gw_13_2 gw_13_3 gw_13_4 gw_11_18 gw_11_2) rfl rfl rfl (by decide +kernel) ⟨Nat.le_of_ble_eq_true rfl, Nat.le_of_ble_eq_true rfl⟩) hH hNE 5 ek1 (by decide) rfl rfl rfl hl.1 rfl (Nat.le_of_ble_eq_true rfl) dX2_isLeftOut_47 ⟨(Nat.le_of_ble_eq_true rfl), (Nat.le_of_ble_eq_true rfl)⟩ (fun H locs hH => ?_)
          refine lv_iload hx hb dX2_isLeftOut_50 (lv_at hl 1 rfl) ?_
          refine lv_iload hx hb dX2_isLeftOut_52 (lv_at hl 2 rfl) ?_
          refine lv_iadd hx hb dX2_isLeftOut_54 ?_
          obtain ⟨j26, e30, hf⟩ := ol hf
          have Jj26 : ∀ (u29 : Unit) (H : Heap) (locs : List Loc) (ls : Array Slot), HI D S S s H locs → lv_has ls 7 [(0, .ref a0), (4, .int r5), (5, .int r7), (6, .int x13)] → j26 u29 = some q20_ → GI p l e (headSpec wsX2_isLeftOut rmX2_isLeftOut).room s m ([.ref a0, .ref b1, .int p2, .int p3] : List Value).toArray below meth c D S S r H locs 0 0 0 0 (F0 m 78 ls []) := by
            intro u29 H locs ls hH hl hf
            rw [← e30] at hf
            obtain ⟨x27, e28, hf⟩ := ol hf
            refine lv_iinc (v := x27) (lv' := [(6, .int x27), (0, .ref a0), (4, .int r5), (5, .int r7)]) hx hb dX2_isLeftOut_78 hl (k := 3) rfl (by rw [← e28]; rfl) (by decide) rfl (fun ls hl => ?_)
            refine lv_goto (tgt := 35) hx hb dX2_isLeftOut_81 (by decide) ?_
            cases hf
            exact ih20 x27 hq20 _ _ ls hH (lv_sub hl [1, 2, 3, 0] rfl)
          refine lv_icmp_ge (tgt := 78) hx hb dX2_isLeftOut_55 (by decide) (fun c31 => ?_) (fun c31 => ?_)
          · have hf := ip hf c31
            exact Jj26 () _ _ ls hH (lv_sub hl [0, 1, 2, 3] rfl) hf
          · have hf := iq hf c31
            refine lv_iload hx hb dX2_isLeftOut_58 (lv_at hl 1 rfl) ?_
            refine lv_aload_n hx hb dX2_isLeftOut_60 rfl (lv_at hl 0 rfl) ?_
            refine lv_iload hx hb dX2_isLeftOut_61 (lv_at hl 3 rfl) ?_
            obtain ⟨r32, e33, hf⟩ := ob hf
            refine r_callVi (As := [.int x13]) ⟨hx, hb, hml, hown, hts⟩ (c_X2_fromOf l D S a0 x13 r32 e33) (cwV 1 hts (gwV gw_13_2 gw_13_3 gw_13_4 gw_11_18 gw_11_2) rfl rfl rfl (by decide +kernel) ⟨Nat.le_of_ble_eq_true rfl, Nat.le_of_ble_eq_true rfl⟩) hH hNE 5 ek1 (by decide) rfl rfl rfl hl.1 rfl (Nat.le_of_ble_eq_true rfl) dX2_isLeftOut_63 ⟨(Nat.le_of_ble_eq_true rfl), (Nat.le_of_ble_eq_true rfl)⟩ (fun H locs hH => ?_)
            refine lv_aload_n hx hb dX2_isLeftOut_66 rfl (lv_at hl 0 rfl) ?_
            refine lv_iload hx hb dX2_isLeftOut_67 (lv_at hl 3 rfl) ?_
            obtain ⟨r34, e35, hf⟩ := ob hf
            refine r_callVi (As := [.int x13]) ⟨hx, hb, hml, hown, hts⟩ (c_X2_lengthOf l D S a0 x13 r34 e35) (cwV 1 hts (gwV gw_13_5 gw_13_6 gw_13_7 gw_11_18 gw_11_14) rfl rfl rfl (by decide +kernel) ⟨Nat.le_of_ble_eq_true rfl, Nat.le_of_ble_eq_true rfl⟩) hH hNE 5 ek1 (by decide) rfl rfl rfl hl.1 rfl (Nat.le_of_ble_eq_true rfl) dX2_isLeftOut_69 ⟨(Nat.le_of_ble_eq_true rfl), (Nat.le_of_ble_eq_true rfl)⟩ (fun H locs hH => ?_)
            refine lv_iadd hx hb dX2_isLeftOut_72 ?_
            refine lv_icmp_ge (tgt := 78) hx hb dX2_isLeftOut_73 (by decide) (fun c36 => ?_) (fun c36 => ?_)
            · have hf := ip hf c36
              exact Jj26 () _ _ ls hH (lv_sub hl [0, 1, 2, 3] rfl) hf
            · have hf := iq hf c36
              cases hf
              have hf9 := itR (K := (fun (z : (Unit) ⊕ (Unit)) => Sum.elim (fun (v : Unit) => k14 v) (fun (v : Unit) => k17 v) z)) hq20 hq20f
              exact Xk17 () _ _ ls hH (lv_sub hl [] rfl) hf9
    exact Lo20 kF 0 eo20 _ _ ls hH (lv_sub hl [3, 2, 1, 0] rfl)
  · have hf := iq hf c12
    refine lv_iconst (v := 1) hx hb dX2_isLeftOut_30 (by decide) ?_
    have hr9 := Option.some.inj hf
    subst hr9
    exact e_z (r := 1) hx hb hr hlocks rfl hH dX2_isLeftOut_31
set_option maxRecDepth 100000 in
def f_X2_accountForAll_b30 (a0 : Nat) (b1 : Nat) (r19 : Int32) (x1 : Int32) (S : PS) (x21 : Int32) : Option ((Int32) ⊕ ((Unit) ⊕ (Unit))) := if (20 : Int32) < x21 then (some (.inr (.inl ()))) else ((kQ S a0 3).bind fun a32 => if kK S a32 = 9 then ((f_X5_get S a32 x1).bind fun r35 => lt (fun (x37 : Int32) => lt (fun (x39 : Int32) => lt (fun (u44 : Unit) => lt (x21 + 1) fun x42 => some (.inl x42)) fun j41 => if x37 = x39 then (j41 ()) else (if x37 = 0 then ((f_X2_isLeftOut S a0 b1 x21 x1).bind fun r48 => if r48 = 0 then (some (.inr (.inr ()))) else (j41 ())) else (some (.inr (.inr ()))))) fun j40 => if (r19 &&& (1 <<< (x21 &&& 31))) = 0 then (j40 0) else (j40 1)) fun j38 => if r35 = (x21 + 1) then (j38 1) else (j38 0)) else none)
set_option maxRecDepth 100000 in
def f_X2_accountForAll_b2 (a0 : Nat) (b1 : Nat) (S : PS) (x1 : Int32) : Option ((Int32) ⊕ ((Unit) ⊕ (Unit))) := if kK S a0 = 6 then ((kQ S a0 1).bind fun a10 => if kK S a10 = 12 then ((f_X8_count S a10).bind fun r13 => if r13 ≤ x1 then (some (.inr (.inl ()))) else ((kQ S a0 0).bind fun a16 => if kK S a16 = 4 then ((f_X0_foundAt S a16 a10 b1 x1).bind fun r19 => lt (fun (u26 : Unit) => lt (x1 + 1) fun x24 => some (.inl x24)) fun k22 => lt (fun (u29 : Unit) => some (.inr (.inr ()))) fun k27 => (iter (fun (v : Int32) => f_X2_accountForAll_b30 a0 b1 r19 x1 S v) kF 0).bind (fun (z : (Unit) ⊕ (Unit)) => Sum.elim (fun (v : Unit) => k22 v) (fun (v : Unit) => k27 v) z)) else none)) else none) else none
set_option maxRecDepth 100000 in
def f_X2_accountForAll (S : PS) (a0 : Nat) (b1 : Nat) : Option (Int32) := lt (fun (u4 : Unit) => some 1) fun k2 => lt (fun (u7 : Unit) => some 0) fun k5 => (iter (fun (v : Int32) => f_X2_accountForAll_b2 a0 b1 S v) kF 0).bind (fun (z : (Unit) ⊕ (Unit)) => Sum.elim (fun (v : Unit) => k2 v) (fun (v : Unit) => k5 v) z)
abbrev rmX2_accountForAll : Room := { frames := 7, cells := 0, slots := 0, locals := 154 }
set_option maxHeartbeats 4000000 in
set_option maxRecDepth 100000 in
theorem c_X2_accountForAll (l : Launch) (D : va_G × Nat) (S : PS) (a0 : Nat) (b1 : Nat) (r : Int32) (hf : f_X2_accountForAll S a0 b1 = some r) : MI l D yX2_accountForAll wsX2_accountForAll rmX2_accountForAll S [.ref a0, .ref b1] S r 0 0 := by
  unfold f_X2_accountForAll at hf
  refine Met.ofW (cc := cX2_accountForAll) (maxL := 7) (ret := (some .boolean)) (by decide) rfl ?_
  intro p e s m args below meth c s₁ B hml hv
  obtain ⟨rfl, hH0, hNE⟩ := hv
  have hx := B.exec
  have hb := B.bytes
  have hr := B.returns
  have hts := atoms_spec (ws := wsX2_accountForAll) B.pre
  have hown : s.vm.findClass RX2 = some m.cls := findClass_of_methodNamed B.named
  have hlocks := B.notSynchronized
  have hH : HI D S S s s.heap [] := HI.start hH0
  have hl := lv_entry ([.ref a0, .ref b1]) (n := 7) (Nat.le_of_ble_eq_true rfl)
  rw [lg_entry_eq]
  generalize (lg_sl ([.ref a0, .ref b1]) ++ List.replicate (7 - (lg_sl ([.ref a0, .ref b1])).length) Slot.unset).toArray = ls at hl ⊢
  have hl : lv_has ls 7 [(0, .ref a0), (1, .ref b1)] := hl
  refine lv_iconst (v := 0) hx hb dX2_accountForAll_0 (by decide) ?_
  refine lv_istore_n (lv' := [(2, .int 0), (0, .ref a0), (1, .ref b1)]) hx hb dX2_accountForAll_1 rfl hl (by decide) rfl (fun ls hl => ?_)
  obtain ⟨k2, e3, hf⟩ := ol hf
  have Xk2 : ∀ (u4 : Unit) (H : Heap) (locs : List Loc) (ls : Array Slot), HI D S S s H locs → lv_has ls 7 [] → k2 u4 = some r → GI p l e (headSpec wsX2_accountForAll rmX2_accountForAll).room s m ([.ref a0, .ref b1] : List Value).toArray below meth c D S S r H locs 0 0 0 0 (F0 m 112 ls []) := by
    intro u4 H locs ls hH hl hf
    rw [← e3] at hf
    refine lv_iconst (v := 1) hx hb dX2_accountForAll_112 (by decide) ?_
    have hr9 := Option.some.inj hf
    subst hr9
    exact e_z (r := 1) hx hb hr hlocks rfl hH dX2_accountForAll_113
  obtain ⟨k5, e6, hf⟩ := ol hf
  have Xk5 : ∀ (u7 : Unit) (H : Heap) (locs : List Loc) (ls : Array Slot), HI D S S s H locs → lv_has ls 7 [] → k5 u7 = some r → GI p l e (headSpec wsX2_accountForAll rmX2_accountForAll).room s m ([.ref a0, .ref b1] : List Value).toArray below meth c D S S r H locs 0 0 0 0 (F0 m 98 ls []) := by
    intro u7 H locs ls hH hl hf
    rw [← e6] at hf
    refine lv_iconst (v := 0) hx hb dX2_accountForAll_98 (by decide) ?_
    have hr9 := Option.some.inj hf
    subst hr9
    exact e_z (r := 0) hx hb hr hlocks rfl hH dX2_accountForAll_99
  obtain ⟨o8, eo8, hq8f⟩ := ob hf
  have Lo8 : ∀ (n : Nat) (x1 : Int32), iter (fun (v : Int32) => f_X2_accountForAll_b2 a0 b1 S v) n x1 = some o8 → ∀ (H : Heap) (locs : List Loc) (ls : Array Slot), HI D S S s H locs → lv_has ls 7 [(0, .ref a0), (1, .ref b1), (2, .int x1)] → GI p l e (headSpec wsX2_accountForAll rmX2_accountForAll).room s m ([.ref a0, .ref b1] : List Value).toArray below meth c D S S r H locs 0 0 0 0 (F0 m 2 ls []) := by
    intro n
    induction n with
    | zero => intro x1 hi; cases hi
    | succ n ih8 =>
      intro x1 hi H locs ls hH hl
      obtain ⟨q8_, hf, hq8⟩ := iter_s hi
      have hf : f_X2_accountForAll_b2 a0 b1 S x1 = some q8_ := hf
      unfold f_X2_accountForAll_b2 at hf
      refine lv_iload_n hx hb dX2_accountForAll_2 rfl (lv_at hl 2 rfl) ?_
      refine lv_aload_n hx hb dX2_accountForAll_3 rfl (lv_at hl 0 rfl) ?_
      obtain ⟨ek9, hf⟩ := oc hf
      obtain ⟨a10, e11, hf⟩ := ob hf
      refine r_getQ hx hb 5 hts (fun w h => List.mem_cons_of_mem _ (mwsX20 w h)) hown hH ek9 (by decide) rfl 1 (by decide) rfl (hts (.fieldLink RX2 15 "Housestyle$Findings" "tokens" "LHousestyle$Tokens;") (List.mem_cons_of_mem _ gw_10_13)) (fun _ h9 => h9) dX2_accountForAll_4 e11 ?_
      obtain ⟨ek12, hf⟩ := oc hf
      obtain ⟨r13, e14, hf⟩ := ob hf
      refine r_callVi (As := []) ⟨hx, hb, hml, hown, hts⟩ (c_X8_count l D S a10 r13 e14) (cwV 0 hts (gwV gw_12_9 gw_2_21 gw_2_22 gw_2_23 gw_1_12) rfl rfl rfl (by decide +kernel) ⟨Nat.le_of_ble_eq_true rfl, Nat.le_of_ble_eq_true rfl⟩) hH hNE 11 ek12 (by decide) rfl rfl rfl hl.1 rfl (Nat.le_of_ble_eq_true rfl) dX2_accountForAll_7 ⟨(Nat.le_of_ble_eq_true rfl), (Nat.le_of_ble_eq_true rfl)⟩ (fun H locs hH => ?_)
      refine lv_icmp_ge (tgt := 112) hx hb dX2_accountForAll_10 (by decide) (fun c15 => ?_) (fun c15 => ?_)
      · have hf := ip hf c15
        cases hf
        have hf9 := itR (K := (fun (z : (Unit) ⊕ (Unit)) => Sum.elim (fun (v : Unit) => k2 v) (fun (v : Unit) => k5 v) z)) hq8 hq8f
        exact Xk2 () _ _ ls hH (lv_sub hl [] rfl) hf9
      · have hf := iq hf c15
        refine lv_aload_n hx hb dX2_accountForAll_13 rfl (lv_at hl 0 rfl) ?_
        obtain ⟨a16, e17, hf⟩ := ob hf
        refine r_getQ hx hb 5 hts (fun w h => List.mem_cons_of_mem _ (mwsX20 w h)) hown hH ek9 (by decide) rfl 0 (by decide) rfl (hts (.fieldLink RX2 9 "Housestyle$Findings" "book" "LHousestyle$Book;") (List.mem_cons_of_mem _ gw_10_12)) (fun _ h9 => h9) dX2_accountForAll_14 e17 ?_
        refine lv_aload_n hx hb dX2_accountForAll_17 rfl (lv_at hl 0 rfl) ?_
        refine r_getQ hx hb 5 hts (fun w h => List.mem_cons_of_mem _ (mwsX20 w h)) hown hH ek9 (by decide) rfl 1 (by decide) rfl (hts (.fieldLink RX2 15 "Housestyle$Findings" "tokens" "LHousestyle$Tokens;") (List.mem_cons_of_mem _ gw_10_13)) (fun _ h9 => h9) dX2_accountForAll_18 e11 ?_
        refine lv_aload_n hx hb dX2_accountForAll_21 rfl (lv_at hl 1 rfl) ?_
        refine lv_iload_n hx hb dX2_accountForAll_22 rfl (lv_at hl 2 rfl) ?_
        obtain ⟨ek18, hf⟩ := oc hf
        obtain ⟨r19, e20, hf⟩ := ob hf
        refine r_callVi (As := [.ref a10, .ref b1, .int x1]) ⟨hx, hb, hml, hown, hts⟩ (c_X0_foundAt l D S a16 a10 b1 x1 r19 e20) (cwV 3 hts (gwV gw_12_14 gw_12_15 gw_12_16 gw_6_5 gw_6_22) rfl rfl rfl (by decide +kernel) ⟨Nat.le_of_ble_eq_true rfl, Nat.le_of_ble_eq_true rfl⟩) hH hNE 3 ek18 (by decide) rfl rfl rfl hl.1 rfl (Nat.le_of_ble_eq_true rfl) dX2_accountForAll_23 ⟨(Nat.le_of_ble_eq_true rfl), (Nat.le_of_ble_eq_true rfl)⟩ (fun H locs hH => ?_)
        refine lv_istore_n (lv' := [(3, .int r19), (0, .ref a0), (1, .ref b1), (2, .int x1)]) hx hb dX2_accountForAll_26 rfl hl (by decide) rfl (fun ls hl => ?_)
        refine lv_iconst (v := 0) hx hb dX2_accountForAll_27 (by decide) ?_
        refine lv_istore (lv' := [(4, .int 0), (3, .int r19), (0, .ref a0), (1, .ref b1), (2, .int x1)]) hx hb dX2_accountForAll_28 hl (by decide) rfl (fun ls hl => ?_)
        obtain ⟨k22, e23, hf⟩ := ol hf
        have Xk22 : ∀ (u26 : Unit) (H : Heap) (locs : List Loc) (ls : Array Slot), HI D S S s H locs → lv_has ls 7 [(0, .ref a0), (1, .ref b1), (2, .int x1)] → k22 u26 = some q8_ → GI p l e (headSpec wsX2_accountForAll rmX2_accountForAll).room s m ([.ref a0, .ref b1] : List Value).toArray below meth c D S S r H locs 0 0 0 0 (F0 m 106 ls []) := by
          intro u26 H locs ls hH hl hf
          rw [← e23] at hf
          obtain ⟨x24, e25, hf⟩ := ol hf
          refine lv_iinc (v := x24) (lv' := [(2, .int x24), (0, .ref a0), (1, .ref b1)]) hx hb dX2_accountForAll_106 hl (k := 2) rfl (by rw [← e25]; rfl) (by decide) rfl (fun ls hl => ?_)
          refine lv_goto (tgt := 2) hx hb dX2_accountForAll_109 (by decide) ?_
          cases hf
          exact ih8 x24 hq8 _ _ ls hH (lv_sub hl [1, 2, 0] rfl)
        obtain ⟨k27, e28, hf⟩ := ol hf
        have Xk27 : ∀ (u29 : Unit) (H : Heap) (locs : List Loc) (ls : Array Slot), HI D S S s H locs → lv_has ls 7 [] → k27 u29 = some q8_ → GI p l e (headSpec wsX2_accountForAll rmX2_accountForAll).room s m ([.ref a0, .ref b1] : List Value).toArray below meth c D S S r H locs 0 0 0 0 (F0 m 98 ls []) := by
          intro u29 H locs ls hH hl hf
          rw [← e28] at hf
          cases hf
          have hf9 := itR (K := (fun (z : (Unit) ⊕ (Unit)) => Sum.elim (fun (v : Unit) => k2 v) (fun (v : Unit) => k5 v) z)) hq8 hq8f
          exact Xk5 () _ _ ls hH (lv_sub hl [] rfl) hf9
        obtain ⟨o30, eo30, hq30f⟩ := ob hf
        have Lo30 : ∀ (n : Nat) (x21 : Int32), iter (fun (v : Int32) => f_X2_accountForAll_b30 a0 b1 r19 x1 S v) n x21 = some o30 → ∀ (H : Heap) (locs : List Loc) (ls : Array Slot), HI D S S s H locs → lv_has ls 7 [(0, .ref a0), (1, .ref b1), (2, .int x1), (3, .int r19), (4, .int x21)] → GI p l e (headSpec wsX2_accountForAll rmX2_accountForAll).room s m ([.ref a0, .ref b1] : List Value).toArray below meth c D S S r H locs 0 0 0 0 (F0 m 30 ls []) := by
          intro n
          induction n with
          | zero => intro x21 hi; cases hi
          | succ n ih30 =>
            intro x21 hi H locs ls hH hl
            obtain ⟨q30_, hf, hq30⟩ := iter_s hi
            have hf : f_X2_accountForAll_b30 a0 b1 r19 x1 S x21 = some q30_ := hf
            unfold f_X2_accountForAll_b30 at hf
            refine lv_iload hx hb dX2_accountForAll_30 (lv_at hl 4 rfl) ?_
            refine lv_bipush (v := 20) hx hb dX2_accountForAll_32 (by decide) ?_
            refine lv_icmp_gt (tgt := 106) hx hb dX2_accountForAll_34 (by decide) (fun c31 => ?_) (fun c31 => ?_)
            · have hf := ip hf c31
              cases hf
              have hf9 := itR (K := (fun (z : (Unit) ⊕ (Unit)) => Sum.elim (fun (v : Unit) => k22 v) (fun (v : Unit) => k27 v) z)) hq30 hq30f
              exact Xk22 () _ _ ls hH (lv_sub hl [0, 1, 2] rfl) hf9
            · have hf := iq hf c31
              refine lv_aload_n hx hb dX2_accountForAll_37 rfl (lv_at hl 0 rfl) ?_
              obtain ⟨a32, e33, hf⟩ := ob hf
              refine r_getQ hx hb 5 hts (fun w h => List.mem_cons_of_mem _ (mwsX20 w h)) hown hH ek9 (by decide) rfl 3 (by decide) rfl (hts (.fieldLink RX2 28 "Housestyle$Findings" "takenAt" "LHousestyle$Row;") (List.mem_cons_of_mem _ gw_10_16)) (fun _ h9 => h9) dX2_accountForAll_38 e33 ?_
              refine lv_iload_n hx hb dX2_accountForAll_41 rfl (lv_at hl 2 rfl) ?_
              obtain ⟨ek34, hf⟩ := oc hf
              obtain ⟨r35, e36, hf⟩ := ob hf
              refine r_callVi (As := [.int x1]) ⟨hx, hb, hml, hown, hts⟩ (c_X5_get l D S a32 x1 r35 e36) (cwV 1 hts (gwV gw_10_23 gw_2_13 gw_2_14 gw_1_5 gw_2_9) rfl rfl rfl (by decide +kernel) ⟨Nat.le_of_ble_eq_true rfl, Nat.le_of_ble_eq_true rfl⟩) hH hNE 8 ek34 (by decide) rfl rfl rfl hl.1 rfl (Nat.le_of_ble_eq_true rfl) dX2_accountForAll_42 ⟨(Nat.le_of_ble_eq_true rfl), (Nat.le_of_ble_eq_true rfl)⟩ (fun H locs hH => ?_)
              refine lv_iload hx hb dX2_accountForAll_45 (lv_at hl 4 rfl) ?_
              refine lv_iconst (v := 1) hx hb dX2_accountForAll_47 (by decide) ?_
              refine lv_iadd hx hb dX2_accountForAll_48 ?_
              obtain ⟨j38, e53, hf⟩ := ol hf
              have Jj38 : ∀ (x37 : Int32) (H : Heap) (locs : List Loc) (ls : Array Slot), HI D S S s H locs → lv_has ls 7 [(0, .ref a0), (1, .ref b1), (2, .int x1), (3, .int r19), (4, .int x21)] → j38 x37 = some q30_ → GI p l e (headSpec wsX2_accountForAll rmX2_accountForAll).room s m ([.ref a0, .ref b1] : List Value).toArray below meth c D S S r H locs 0 0 0 0 (F0 m 57 ls [.int x37]) := by
                intro x37 H locs ls hH hl hf
                rw [← e53] at hf
                refine lv_istore (lv' := [(5, .int x37), (0, .ref a0), (1, .ref b1), (2, .int x1), (3, .int r19), (4, .int x21)]) hx hb dX2_accountForAll_57 hl (by decide) rfl (fun ls hl => ?_)
                refine lv_iload_n hx hb dX2_accountForAll_59 rfl (lv_at hl 4 rfl) ?_
                refine lv_iconst (v := 1) hx hb dX2_accountForAll_60 (by decide) ?_
                refine lv_iload hx hb dX2_accountForAll_61 (lv_at hl 5 rfl) ?_
                refine lv_ishl hx hb dX2_accountForAll_63 ?_
                refine lv_iand hx hb dX2_accountForAll_64 ?_
                obtain ⟨j40, e51, hf⟩ := ol hf
                have Jj40 : ∀ (x39 : Int32) (H : Heap) (locs : List Loc) (ls : Array Slot), HI D S S s H locs → lv_has ls 7 [(0, .ref a0), (1, .ref b1), (2, .int x1), (3, .int r19), (4, .int x21), (5, .int x37)] → j40 x39 = some q30_ → GI p l e (headSpec wsX2_accountForAll rmX2_accountForAll).room s m ([.ref a0, .ref b1] : List Value).toArray below meth c D S S r H locs 0 0 0 0 (F0 m 73 ls [.int x39]) := by
                  intro x39 H locs ls hH hl hf
                  rw [← e51] at hf
                  refine lv_istore (lv' := [(6, .int x39), (0, .ref a0), (1, .ref b1), (2, .int x1), (3, .int r19), (4, .int x21), (5, .int x37)]) hx hb dX2_accountForAll_73 hl (by decide) rfl (fun ls hl => ?_)
                  refine lv_iload hx hb dX2_accountForAll_75 (lv_at hl 6 rfl) ?_
                  refine lv_iload hx hb dX2_accountForAll_77 (lv_at hl 0 rfl) ?_
                  obtain ⟨j41, e45, hf⟩ := ol hf
                  have Jj41 : ∀ (u44 : Unit) (H : Heap) (locs : List Loc) (ls : Array Slot), HI D S S s H locs → lv_has ls 7 [(0, .ref a0), (1, .ref b1), (2, .int x1), (3, .int r19), (4, .int x21)] → j41 u44 = some q30_ → GI p l e (headSpec wsX2_accountForAll rmX2_accountForAll).room s m ([.ref a0, .ref b1] : List Value).toArray below meth c D S S r H locs 0 0 0 0 (F0 m 100 ls []) := by
                    intro u44 H locs ls hH hl hf
                    rw [← e45] at hf
                    obtain ⟨x42, e43, hf⟩ := ol hf
                    refine lv_iinc (v := x42) (lv' := [(4, .int x42), (0, .ref a0), (1, .ref b1), (2, .int x1), (3, .int r19)]) hx hb dX2_accountForAll_100 hl (k := 4) rfl (by rw [← e43]; rfl) (by decide) rfl (fun ls hl => ?_)
                    refine lv_goto (tgt := 30) hx hb dX2_accountForAll_103 (by decide) ?_
                    cases hf
                    exact ih30 x42 hq30 _ _ ls hH (lv_sub hl [1, 2, 3, 4, 0] rfl)
                  refine lv_icmp_eq (tgt := 100) hx hb dX2_accountForAll_79 (by decide) (fun c46 => ?_) (fun c46 => ?_)
                  · have hf := ip hf c46
                    exact Jj41 () _ _ ls hH (lv_sub hl [1, 2, 3, 4, 5] rfl) hf
                  · have hf := iq hf c46
                    refine lv_iload hx hb dX2_accountForAll_82 (lv_at hl 6 rfl) ?_
                    refine lv_if_ne (tgt := 98) hx hb dX2_accountForAll_84 (by decide) (fun c47 => ?_) (fun c47 => ?_)
                    · have hf := iq hf c47
                      cases hf
                      have hf9 := itR (K := (fun (z : (Unit) ⊕ (Unit)) => Sum.elim (fun (v : Unit) => k22 v) (fun (v : Unit) => k27 v) z)) hq30 hq30f
                      exact Xk27 () _ _ ls hH (lv_sub hl [] rfl) hf9
                    · have hf := ip hf c47
                      refine lv_aload_n hx hb dX2_accountForAll_87 rfl (lv_at hl 1 rfl) ?_
                      refine lv_aload_n hx hb dX2_accountForAll_88 rfl (lv_at hl 2 rfl) ?_
                      refine lv_iload hx hb dX2_accountForAll_89 (lv_at hl 5 rfl) ?_
                      refine lv_iload_n hx hb dX2_accountForAll_91 rfl (lv_at hl 3 rfl) ?_
                      obtain ⟨r48, e49, hf⟩ := ob hf
                      refine r_callVi (As := [.ref b1, .int x21, .int x1]) ⟨hx, hb, hml, hown, hts⟩ (c_X2_isLeftOut l D S a0 b1 x21 x1 r48 e49) (cwV 3 hts (gwV gw_13_10 gw_13_11 gw_13_12 gw_11_18 gw_13_8) rfl rfl rfl (by decide +kernel) ⟨Nat.le_of_ble_eq_true rfl, Nat.le_of_ble_eq_true rfl⟩) hH hNE 5 ek9 (by decide) rfl rfl rfl hl.1 rfl (Nat.le_of_ble_eq_true rfl) dX2_accountForAll_92 ⟨(Nat.le_of_ble_eq_true rfl), (Nat.le_of_ble_eq_true rfl)⟩ (fun H locs hH => ?_)
                      refine lv_if_ne (tgt := 100) hx hb dX2_accountForAll_95 (by decide) (fun c50 => ?_) (fun c50 => ?_)
                      · have hf := iq hf c50
                        exact Jj41 () _ _ ls hH (lv_sub hl [1, 2, 3, 4, 5] rfl) hf
                      · have hf := ip hf c50
                        cases hf
                        have hf9 := itR (K := (fun (z : (Unit) ⊕ (Unit)) => Sum.elim (fun (v : Unit) => k22 v) (fun (v : Unit) => k27 v) z)) hq30 hq30f
                        exact Xk27 () _ _ ls hH (lv_sub hl [] rfl) hf9
                refine lv_if_eq (tgt := 72) hx hb dX2_accountForAll_65 (by decide) (fun c52 => ?_) (fun c52 => ?_)
                · have hf := ip hf c52
                  refine lv_iconst (v := 0) hx hb dX2_accountForAll_72 (by decide) ?_
                  exact Jj40 0 _ _ ls hH (lv_sub hl [1, 2, 3, 4, 5, 0] rfl) hf
                · have hf := iq hf c52
                  refine lv_iconst (v := 1) hx hb dX2_accountForAll_68 (by decide) ?_
                  refine lv_goto (tgt := 73) hx hb dX2_accountForAll_69 (by decide) ?_
                  exact Jj40 1 _ _ ls hH (lv_sub hl [1, 2, 3, 4, 5, 0] rfl) hf
              refine lv_icmp_ne (tgt := 56) hx hb dX2_accountForAll_49 (by decide) (fun c54 => ?_) (fun c54 => ?_)
              · have hf := iq hf c54
                refine lv_iconst (v := 0) hx hb dX2_accountForAll_56 (by decide) ?_
                exact Jj38 0 _ _ ls hH (lv_sub hl [0, 1, 2, 3, 4] rfl) hf
              · have hf := ip hf c54
                refine lv_iconst (v := 1) hx hb dX2_accountForAll_52 (by decide) ?_
                refine lv_goto (tgt := 57) hx hb dX2_accountForAll_53 (by decide) ?_
                exact Jj38 1 _ _ ls hH (lv_sub hl [0, 1, 2, 3, 4] rfl) hf
        exact Lo30 kF 0 eo30 _ _ ls hH (lv_sub hl [2, 3, 4, 1, 0] rfl)
  exact Lo8 kF 0 eo8 _ _ ls hH (lv_sub hl [1, 2, 0] rfl)
set_option maxRecDepth 100000 in
def f_X1_ignoredLieWithin_b2 (a0 : Nat) (p1 : Int32) (S : PS) (x1 : Int32) : Option ((Int32) ⊕ ((Unit) ⊕ (Unit))) := if kK S a0 = 5 then ((f_X1_ignoredCount S a0).bind fun r10 => if r10 ≤ x1 then (some (.inr (.inl ()))) else ((kQ S a0 2).bind fun a13 => if kK S a13 = 9 then ((f_X5_get S a13 x1).bind fun r16 => if r16 < 0 then (some (.inr (.inr ()))) else ((kQ S a0 3).bind fun a19 => if kK S a19 = 9 then ((f_X5_get S a19 x1).bind fun r22 => if (r16 + r22) ≤ p1 then (lt (x1 + 1) fun x25 => some (.inl x25)) else (some (.inr (.inr ())))) else none)) else none)) else none
set_option maxRecDepth 100000 in
def f_X1_ignoredLieWithin (S : PS) (a0 : Nat) (p1 : Int32) : Option (Int32) := lt (fun (u4 : Unit) => some 1) fun k2 => lt (fun (u7 : Unit) => some 0) fun k5 => (iter (fun (v : Int32) => f_X1_ignoredLieWithin_b2 a0 p1 S v) kF 0).bind (fun (z : (Unit) ⊕ (Unit)) => Sum.elim (fun (v : Unit) => k2 v) (fun (v : Unit) => k5 v) z)
abbrev rmX1_ignoredLieWithin : Room := { frames := 2, cells := 0, slots := 0, locals := 40 }
set_option maxHeartbeats 4000000 in
set_option maxRecDepth 100000 in
theorem c_X1_ignoredLieWithin (l : Launch) (D : va_G × Nat) (S : PS) (a0 : Nat) (p1 : Int32) (r : Int32) (hf : f_X1_ignoredLieWithin S a0 p1 = some r) : MI l D yX1_ignoredLieWithin wsX1_ignoredLieWithin rmX1_ignoredLieWithin S [.ref a0, .int p1] S r 0 0 := by
  unfold f_X1_ignoredLieWithin at hf
  refine Met.ofW (cc := cX1_ignoredLieWithin) (maxL := 4) (ret := (some .boolean)) (by decide) rfl ?_
  intro p e s m args below meth c s₁ B hml hv
  obtain ⟨rfl, hH0, hNE⟩ := hv
  have hx := B.exec
  have hb := B.bytes
  have hr := B.returns
  have hts := atoms_spec (ws := wsX1_ignoredLieWithin) B.pre
  have hown : s.vm.findClass RX1 = some m.cls := findClass_of_methodNamed B.named
  have hlocks := B.notSynchronized
  have hH : HI D S S s s.heap [] := HI.start hH0
  have hl := lv_entry ([.ref a0, .int p1]) (n := 4) (Nat.le_of_ble_eq_true rfl)
  rw [lg_entry_eq]
  generalize (lg_sl ([.ref a0, .int p1]) ++ List.replicate (4 - (lg_sl ([.ref a0, .int p1])).length) Slot.unset).toArray = ls at hl ⊢
  have hl : lv_has ls 4 [(0, .ref a0), (1, .int p1)] := hl
  refine lv_iconst (v := 0) hx hb dX1_ignoredLieWithin_0 (by decide) ?_
  refine lv_istore_n (lv' := [(2, .int 0), (0, .ref a0), (1, .int p1)]) hx hb dX1_ignoredLieWithin_1 rfl hl (by decide) rfl (fun ls hl => ?_)
  obtain ⟨k2, e3, hf⟩ := ol hf
  have Xk2 : ∀ (u4 : Unit) (H : Heap) (locs : List Loc) (ls : Array Slot), HI D S S s H locs → lv_has ls 4 [] → k2 u4 = some r → GI p l e (headSpec wsX1_ignoredLieWithin rmX1_ignoredLieWithin).room s m ([.ref a0, .int p1] : List Value).toArray below meth c D S S r H locs 0 0 0 0 (F0 m 45 ls []) := by
    intro u4 H locs ls hH hl hf
    rw [← e3] at hf
    refine lv_iconst (v := 1) hx hb dX1_ignoredLieWithin_45 (by decide) ?_
    have hr9 := Option.some.inj hf
    subst hr9
    exact e_z (r := 1) hx hb hr hlocks rfl hH dX1_ignoredLieWithin_46
  obtain ⟨k5, e6, hf⟩ := ol hf
  have Xk5 : ∀ (u7 : Unit) (H : Heap) (locs : List Loc) (ls : Array Slot), HI D S S s H locs → lv_has ls 4 [] → k5 u7 = some r → GI p l e (headSpec wsX1_ignoredLieWithin rmX1_ignoredLieWithin).room s m ([.ref a0, .int p1] : List Value).toArray below meth c D S S r H locs 0 0 0 0 (F0 m 37 ls []) := by
    intro u7 H locs ls hH hl hf
    rw [← e6] at hf
    refine lv_iconst (v := 0) hx hb dX1_ignoredLieWithin_37 (by decide) ?_
    have hr9 := Option.some.inj hf
    subst hr9
    exact e_z (r := 0) hx hb hr hlocks rfl hH dX1_ignoredLieWithin_38
  obtain ⟨o8, eo8, hq8f⟩ := ob hf
  have Lo8 : ∀ (n : Nat) (x1 : Int32), iter (fun (v : Int32) => f_X1_ignoredLieWithin_b2 a0 p1 S v) n x1 = some o8 → ∀ (H : Heap) (locs : List Loc) (ls : Array Slot), HI D S S s H locs → lv_has ls 4 [(0, .ref a0), (1, .int p1), (2, .int x1)] → GI p l e (headSpec wsX1_ignoredLieWithin rmX1_ignoredLieWithin).room s m ([.ref a0, .int p1] : List Value).toArray below meth c D S S r H locs 0 0 0 0 (F0 m 2 ls []) := by
    intro n
    induction n with
    | zero => intro x1 hi; cases hi
    | succ n ih8 =>
      intro x1 hi H locs ls hH hl
      obtain ⟨q8_, hf, hq8⟩ := iter_s hi
      have hf : f_X1_ignoredLieWithin_b2 a0 p1 S x1 = some q8_ := hf
      unfold f_X1_ignoredLieWithin_b2 at hf
      refine lv_iload_n hx hb dX1_ignoredLieWithin_2 rfl (lv_at hl 2 rfl) ?_
      refine lv_aload_n hx hb dX1_ignoredLieWithin_3 rfl (lv_at hl 0 rfl) ?_
      obtain ⟨ek9, hf⟩ := oc hf
      obtain ⟨r10, e11, hf⟩ := ob hf
      refine r_callVi (As := []) ⟨hx, hb, hml, hown, hts⟩ (c_X1_ignoredCount l D S a0 r10 e11) (cwV 0 hts (gwV gw_9_17 gw_9_18 gw_9_19 gw_9_20 gw_9_7) rfl rfl rfl (by decide +kernel) ⟨Nat.le_of_ble_eq_true rfl, Nat.le_of_ble_eq_true rfl⟩) hH hNE 4 ek9 (by decide) rfl rfl rfl hl.1 rfl (Nat.le_of_ble_eq_true rfl) dX1_ignoredLieWithin_4 ⟨(Nat.le_of_ble_eq_true rfl), (Nat.le_of_ble_eq_true rfl)⟩ (fun H locs hH => ?_)
      refine lv_icmp_ge (tgt := 45) hx hb dX1_ignoredLieWithin_7 (by decide) (fun c12 => ?_) (fun c12 => ?_)
      · have hf := ip hf c12
        cases hf
        have hf9 := itR (K := (fun (z : (Unit) ⊕ (Unit)) => Sum.elim (fun (v : Unit) => k2 v) (fun (v : Unit) => k5 v) z)) hq8 hq8f
        exact Xk2 () _ _ ls hH (lv_sub hl [] rfl) hf9
      · have hf := iq hf c12
        refine lv_aload_n hx hb dX1_ignoredLieWithin_10 rfl (lv_at hl 0 rfl) ?_
        obtain ⟨a13, e14, hf⟩ := ob hf
        refine r_getQ hx hb 4 hts (fun w h => List.mem_cons_of_mem _ (mwsX10 w h)) hown hH ek9 (by decide) rfl 2 (by decide) rfl (hts (.fieldLink RX1 26 "Housestyle$Desk" "ignoredFroms" "LHousestyle$Row;") (List.mem_cons_of_mem _ gw_8_23)) (fun _ h9 => h9) dX1_ignoredLieWithin_11 e14 ?_
        refine lv_iload_n hx hb dX1_ignoredLieWithin_14 rfl (lv_at hl 2 rfl) ?_
        obtain ⟨ek15, hf⟩ := oc hf
        obtain ⟨r16, e17, hf⟩ := ob hf
        refine r_callVi (As := [.int x1]) ⟨hx, hb, hml, hown, hts⟩ (c_X5_get l D S a13 x1 r16 e17) (cwV 1 hts (gwV gw_9_21 gw_2_13 gw_2_14 gw_1_5 gw_2_9) rfl rfl rfl (by decide +kernel) ⟨Nat.le_of_ble_eq_true rfl, Nat.le_of_ble_eq_true rfl⟩) hH hNE 8 ek15 (by decide) rfl rfl rfl hl.1 rfl (Nat.le_of_ble_eq_true rfl) dX1_ignoredLieWithin_15 ⟨(Nat.le_of_ble_eq_true rfl), (Nat.le_of_ble_eq_true rfl)⟩ (fun H locs hH => ?_)
        refine lv_istore_n (lv' := [(3, .int r16), (0, .ref a0), (1, .int p1), (2, .int x1)]) hx hb dX1_ignoredLieWithin_18 rfl hl (by decide) rfl (fun ls hl => ?_)
        refine lv_iload_n hx hb dX1_ignoredLieWithin_19 rfl (lv_at hl 0 rfl) ?_
        refine lv_if_lt (tgt := 37) hx hb dX1_ignoredLieWithin_20 (by decide) (fun c18 => ?_) (fun c18 => ?_)
        · have hf := ip hf c18
          cases hf
          have hf9 := itR (K := (fun (z : (Unit) ⊕ (Unit)) => Sum.elim (fun (v : Unit) => k2 v) (fun (v : Unit) => k5 v) z)) hq8 hq8f
          exact Xk5 () _ _ ls hH (lv_sub hl [] rfl) hf9
        · have hf := iq hf c18
          refine lv_iload_n hx hb dX1_ignoredLieWithin_23 rfl (lv_at hl 0 rfl) ?_
          refine lv_aload_n hx hb dX1_ignoredLieWithin_24 rfl (lv_at hl 1 rfl) ?_
          obtain ⟨a19, e20, hf⟩ := ob hf
          refine r_getQ hx hb 4 hts (fun w h => List.mem_cons_of_mem _ (mwsX10 w h)) hown hH ek9 (by decide) rfl 3 (by decide) rfl (hts (.fieldLink RX1 29 "Housestyle$Desk" "ignoredLengths" "LHousestyle$Row;") (List.mem_cons_of_mem _ gw_9_0)) (fun _ h9 => h9) dX1_ignoredLieWithin_25 e20 ?_
          refine lv_iload_n hx hb dX1_ignoredLieWithin_28 rfl (lv_at hl 3 rfl) ?_
          obtain ⟨ek21, hf⟩ := oc hf
          obtain ⟨r22, e23, hf⟩ := ob hf
          refine r_callVi (As := [.int x1]) ⟨hx, hb, hml, hown, hts⟩ (c_X5_get l D S a19 x1 r22 e23) (cwV 1 hts (gwV gw_9_21 gw_2_13 gw_2_14 gw_1_5 gw_2_9) rfl rfl rfl (by decide +kernel) ⟨Nat.le_of_ble_eq_true rfl, Nat.le_of_ble_eq_true rfl⟩) hH hNE 8 ek21 (by decide) rfl rfl rfl hl.1 rfl (Nat.le_of_ble_eq_true rfl) dX1_ignoredLieWithin_29 ⟨(Nat.le_of_ble_eq_true rfl), (Nat.le_of_ble_eq_true rfl)⟩ (fun H locs hH => ?_)
          refine lv_iadd hx hb dX1_ignoredLieWithin_32 ?_
          refine lv_iload_n hx hb dX1_ignoredLieWithin_33 rfl (lv_at hl 2 rfl) ?_
          refine lv_icmp_le (tgt := 39) hx hb dX1_ignoredLieWithin_34 (by decide) (fun c24 => ?_) (fun c24 => ?_)
          · have hf := ip hf c24
            obtain ⟨x25, e26, hf⟩ := ol hf
            refine lv_iinc (v := x25) (lv' := [(2, .int x25), (3, .int r16), (0, .ref a0), (1, .int p1)]) hx hb dX1_ignoredLieWithin_39 hl (k := 3) rfl (by rw [← e26]; rfl) (by decide) rfl (fun ls hl => ?_)
            refine lv_goto (tgt := 2) hx hb dX1_ignoredLieWithin_42 (by decide) ?_
            cases hf
            exact ih8 x25 hq8 _ _ ls hH (lv_sub hl [2, 3, 0] rfl)
          · have hf := iq hf c24
            cases hf
            have hf9 := itR (K := (fun (z : (Unit) ⊕ (Unit)) => Sum.elim (fun (v : Unit) => k2 v) (fun (v : Unit) => k5 v) z)) hq8 hq8f
            exact Xk5 () _ _ ls hH (lv_sub hl [] rfl) hf9
  exact Lo8 kF 0 eo8 _ _ ls hH (lv_sub hl [1, 2, 0] rfl)
set_option maxRecDepth 100000 in
def f_X9_isSound_b4 (a0 : Nat) (x1 : Int32) (x2 : Int32) (S3 : PS) : Option ((Int32 × Int32 × PS) ⊕ ((Int32 × PS))) := if kK S3 a0 = 13 then ((kQ S3 a0 4).bind fun a11 => if kK S3 a11 = 3 then ((f_Jx4a65c_size_8abf5 S3 a11).bind fun r14 => if r14 ≤ x2 then (some (.inr (x1, S3))) else (bn2 (f_X9_findFor S3 a0 x2) fun S18 a19 => lt (fun (x20 : Int32) => lt (x2 + 1) fun x22 => some (.inl (x20, x22, S18))) fun j21 => lt (fun (u26 : Unit) => j21 0) fun j25 => if x1 = 0 then (j25 ()) else (if kK S18 a0 = 13 then ((kQ S18 a0 5).bind fun a30 => if kK S18 a30 = 6 then ((f_X2_shareNoSign S18 a30).bind fun r33 => if r33 = 0 then (j25 ()) else ((f_X2_accountForAll S18 a30 a19).bind fun r36 => if r36 = 0 then (j25 ()) else ((kQ S18 a0 1).bind fun a39 => if kK S18 a39 = 11 then ((kQ S18 a39 0).bind fun a42 => if kK S18 a42 = 9 then ((f_X5_count S18 a42).bind fun r45 => if kK S18 a19 = 5 then ((f_X1_ignoredLieWithin S18 a19 r45).bind fun r48 => if r48 = 0 then (j25 ()) else (j21 1)) else none) else none) else none))) else none) else none))) else none) else none
set_option maxRecDepth 100000 in
def f_X9_isSound (S : PS) (a0 : Nat) : Option (PS × Int32) := lt (fun (x4 : Int32) (S5 : PS) => if x4 = 0 ∨ x4 = 1 then (some (S5, x4)) else none) fun k6 => (iter (fun (v : Int32 × Int32 × PS) => f_X9_isSound_b4 a0 v.1 v.2.1 v.2.2) 5 (1, 0, S)).bind (fun (v : Int32 × PS) => k6 v.1 v.2)
abbrev rmX9_isSound : Room := { frames := 8, cells := 5, slots := 30, locals := 180 }
set_option maxHeartbeats 4000000 in
set_option maxRecDepth 100000 in
theorem c_X9_isSound (l : Launch) (hst9 : l.stackTraces = false) (D : va_G × Nat) (S : PS) (a0 : Nat) (r : PS × Int32) (hf : f_X9_isSound S a0 = some r) : MIE l D yX9_isSound wsX9_isSound rmX9_isSound S [.ref a0] r.1 r.2 5 30 := by
  unfold f_X9_isSound at hf
  refine Met.ofW (cc := cX9_isSound) (maxL := 4) (ret := (some .boolean)) (by decide) rfl ?_
  intro p e s m args below meth c s₁ B hml hv
  obtain ⟨rfl, hH0, hE, hNE⟩ := hv
  have hB := hH0.base
  have hx := B.exec
  have hb := B.bytes
  have hr := B.returns
  have hts := atoms_spec (ws := wsX9_isSound) B.pre
  have hown : s.vm.findClass RX9 = some m.cls := findClass_of_methodNamed B.named
  have hlocks := B.notSynchronized
  have hH : HI D S S s s.heap [] := HI.start hH0
  have hl := lv_entry ([.ref a0]) (n := 4) (Nat.le_of_ble_eq_true rfl)
  rw [lg_entry_eq]
  generalize (lg_sl ([.ref a0]) ++ List.replicate (4 - (lg_sl ([.ref a0])).length) Slot.unset).toArray = ls at hl ⊢
  have hl : lv_has ls 4 [(0, .ref a0)] := hl
  refine lv_iconst (v := 1) hx hb dX9_isSound_0 (by decide) ?_
  refine lv_istore_n (lv' := [(1, .int 1), (0, .ref a0)]) hx hb dX9_isSound_1 rfl hl (by decide) rfl (fun ls hl => ?_)
  refine lv_iconst (v := 0) hx hb dX9_isSound_2 (by decide) ?_
  refine lv_istore_n (lv' := [(2, .int 0), (1, .int 1), (0, .ref a0)]) hx hb dX9_isSound_3 rfl hl (by decide) rfl (fun ls hl => ?_)
  obtain ⟨k6, e7, hf⟩ := ol hf
  have Xk6 : ∀ (x4 : Int32) (S5 : PS) (H : Heap) (locs : List Loc) (ls : Array Slot), HI D S S5 s H locs → lv_has ls 4 [(1, .int x4)] → k6 x4 S5 = some r → GI p l e (headSpec wsX9_isSound rmX9_isSound).room s m ([.ref a0] : List Value).toArray below meth c D S r.1 r.2 H locs 5 30 5 30 (F0 m 75 ls []) := by
    intro x4 S5 H locs ls hH hl hf
    rw [← e7] at hf
    refine lv_iload_n hx hb dX9_isSound_75 rfl (lv_at hl 0 rfl) ?_
    obtain ⟨en8, hf⟩ := oc hf
    have hr9 := Option.some.inj hf
    subst hr9
    exact e_z hx hb hr hlocks (nar_Z9 en8) hH dX9_isSound_76
  obtain ⟨o9, eo9, hq9f⟩ := ob hf
  have Lo9 : ∀ (n : Nat) (x1 : Int32) (x2 : Int32) (S3 : PS), n ≤ 5 → iter (fun (v : Int32 × Int32 × PS) => f_X9_isSound_b4 a0 v.1 v.2.1 v.2.2) n (x1, x2, S3) = some o9 → ∀ (H : Heap) (locs : List Loc) (ls : Array Slot), HI D S S3 s H locs → lv_has ls 4 [(0, .ref a0), (1, .int x1), (2, .int x2)] → GI p l e (headSpec wsX9_isSound rmX9_isSound).room s m ([.ref a0] : List Value).toArray below meth c D S r.1 r.2 H locs (0 + (5 - n) * 1) (0 + (5 - n) * 6) 5 30 (F0 m 4 ls []) := by
    intro n
    induction n with
    | zero => intro x1 x2 S3 hnF hi; cases hi
    | succ n ih9 =>
      intro x1 x2 S3 hnF hi H locs ls hH hl
      obtain ⟨q9_, hf, hq9⟩ := iter_s hi
      have hf : f_X9_isSound_b4 a0 x1 x2 S3 = some q9_ := hf
      unfold f_X9_isSound_b4 at hf
      refine lv_iload_n hx hb dX9_isSound_4 rfl (lv_at hl 2 rfl) ?_
      refine lv_aload_n hx hb dX9_isSound_5 rfl (lv_at hl 0 rfl) ?_
      obtain ⟨ek10, hf⟩ := oc hf
      obtain ⟨a11, e12, hf⟩ := ob hf
      refine r_getQ hx hb 12 hts (fun w h => List.mem_cons_of_mem _ (mwsX90 w h)) hown hH ek10 (by decide) rfl 4 (by decide) rfl (hts (.fieldLink RX9 47 "Housestyle" "desks" "Ljava/util/ArrayList;") (List.mem_cons_of_mem _ gw_20_8)) (fun _ h9 => h9) dX9_isSound_6 e12 ?_
      obtain ⟨ek13, hf⟩ := oc hf
      obtain ⟨r14, e15, hf⟩ := ob hf
      refine r_callVi (As := []) ⟨hx, hb, hml, hown, hts⟩ (c_Jx4a65c_size_8abf5 l D S3 a11 r14 e15) (cwV 0 hts (gwV gw_22_3 gw_4_10 gw_4_11 gw_1_0 gw_1_18) rfl rfl rfl (by decide +kernel) ⟨Nat.le_of_ble_eq_true rfl, Nat.le_of_ble_eq_true rfl⟩) hH hNE 2 ek13 (by decide) rfl rfl rfl hl.1 rfl (Nat.le_of_ble_eq_true rfl) dX9_isSound_9 ⟨(by show ((0 + (5 - (n + 1)) * 1) + 0) + 0 ≤ 5; omega), (by show ((0 + (5 - (n + 1)) * 6) + 0) + 0 ≤ 30; omega)⟩ (fun H locs hH => ?_)
      refine lv_icmp_ge (tgt := 75) hx hb dX9_isSound_12 (by decide) (fun c16 => ?_) (fun c16 => ?_)
      · have hf := ip hf c16
        refine W.widen (k := 5) (n := 30) (by omega) (by omega) ?_
        cases hf
        have hf9 := itR (K := (fun (v : Int32 × PS) => k6 v.1 v.2)) hq9 hq9f
        exact Xk6 x1 S3 _ _ ls hH (lv_sub hl [1] rfl) hf9
      · have hf := iq hf c16
        refine lv_aload_n hx hb dX9_isSound_15 rfl (lv_at hl 0 rfl) ?_
        refine lv_iload_n hx hb dX9_isSound_16 rfl (lv_at hl 2 rfl) ?_
        obtain ⟨S18, a19, e17, hf⟩ := obn2 hf
        refine r_xVok (As := [.int x2]) (S' := S18) (v := (some (.ref a19))) (st1 := [.ref a19]) ⟨hx, hb, hml, hown, hts⟩ (c_X9_findFor l hst9 D S3 a0 x2 (.inl (S18, a19)) e17) (cwV 1 hts (gwV gw_26_10 gw_26_11 gw_26_12 gw_14_5 gw_25_23) rfl rfl rfl (by decide +kernel) ⟨Nat.le_of_ble_eq_true rfl, Nat.le_of_ble_eq_true rfl⟩) hH hE hB hNE 12 ek10 (by decide) rfl rfl rfl hl.1 rfl (Nat.le_of_ble_eq_true rfl) dX9_isSound_17 ⟨(by show ((0 + (5 - (n + 1)) * 1) + 0) + 1 ≤ 5; omega), (by show ((0 + (5 - (n + 1)) * 6) + 0) + 6 ≤ 30; omega)⟩ rfl (fun H locs hH => ?_)
        refine W.widen (k := ((0 + (5 - (n + 1)) * 1) + 1)) (n := ((0 + (5 - (n + 1)) * 6) + 6)) (by omega) (by omega) ?_
        refine lv_astore_n (lv' := [(3, .ref a19), (0, .ref a0), (1, .int x1), (2, .int x2)]) hx hb dX9_isSound_20 rfl hl (by decide) rfl (fun ls hl => ?_)
        refine lv_iload_n hx hb dX9_isSound_21 rfl (lv_at hl 2 rfl) ?_
        obtain ⟨j21, e24, hf⟩ := ol hf
        have Jj21 : ∀ (x20 : Int32) (H : Heap) (locs : List Loc) (ls : Array Slot), HI D S S18 s H locs → lv_has ls 4 [(0, .ref a0), (2, .int x2)] → j21 x20 = some q9_ → GI p l e (headSpec wsX9_isSound rmX9_isSound).room s m ([.ref a0] : List Value).toArray below meth c D S r.1 r.2 H locs ((0 + (5 - (n + 1)) * 1) + 1) ((0 + (5 - (n + 1)) * 6) + 6) 5 30 (F0 m 68 ls [.int x20]) := by
          intro x20 H locs ls hH hl hf
          rw [← e24] at hf
          refine lv_istore_n (lv' := [(1, .int x20), (0, .ref a0), (2, .int x2)]) hx hb dX9_isSound_68 rfl hl (by decide) rfl (fun ls hl => ?_)
          obtain ⟨x22, e23, hf⟩ := ol hf
          refine lv_iinc (v := x22) (lv' := [(2, .int x22), (1, .int x20), (0, .ref a0)]) hx hb dX9_isSound_69 hl (k := 2) rfl (by rw [← e23]; rfl) (by decide) rfl (fun ls hl => ?_)
          refine lv_goto (tgt := 4) hx hb dX9_isSound_72 (by decide) ?_
          cases hf
          refine W.widen (k := (0 + (5 - n) * 1)) (n := (0 + (5 - n) * 6)) (by omega) (by omega) ?_
          exact ih9 x20 x22 S18 (Nat.le_of_succ_le hnF) hq9 _ _ ls hH (lv_sub hl [2, 1, 0] rfl)
        obtain ⟨j25, e27, hf⟩ := ol hf
        have Jj25 : ∀ (u26 : Unit) (H : Heap) (locs : List Loc) (ls : Array Slot), HI D S S18 s H locs → lv_has ls 4 [(0, .ref a0), (2, .int x2)] → j25 u26 = some q9_ → GI p l e (headSpec wsX9_isSound rmX9_isSound).room s m ([.ref a0] : List Value).toArray below meth c D S r.1 r.2 H locs ((0 + (5 - (n + 1)) * 1) + 1) ((0 + (5 - (n + 1)) * 6) + 6) 5 30 (F0 m 67 ls []) := by
          intro u26 H locs ls hH hl hf
          rw [← e27] at hf
          refine lv_iconst (v := 0) hx hb dX9_isSound_67 (by decide) ?_
          exact Jj21 0 _ _ ls hH (lv_sub hl [0, 1] rfl) hf
        refine lv_if_eq (tgt := 67) hx hb dX9_isSound_22 (by decide) (fun c28 => ?_) (fun c28 => ?_)
        · have hf := ip hf c28
          exact Jj25 () _ _ ls hH (lv_sub hl [1, 3] rfl) hf
        · have hf := iq hf c28
          refine lv_aload_n hx hb dX9_isSound_25 rfl (lv_at hl 1 rfl) ?_
          obtain ⟨ek29, hf⟩ := oc hf
          obtain ⟨a30, e31, hf⟩ := ob hf
          refine r_getQ hx hb 12 hts (fun w h => List.mem_cons_of_mem _ (mwsX90 w h)) hown hH ek29 (by decide) rfl 5 (by decide) rfl (hts (.fieldLink RX9 63 "Housestyle" "found" "LHousestyle$Findings;") (List.mem_cons_of_mem _ gw_20_13)) (fun _ h9 => h9) dX9_isSound_26 e31 ?_
          obtain ⟨ek32, hf⟩ := oc hf
          obtain ⟨r33, e34, hf⟩ := ob hf
          refine r_callVi (As := []) ⟨hx, hb, hml, hown, hts⟩ (c_X2_shareNoSign l D S18 a30 r33 e34) (cwV 0 hts (gwV gw_29_0 gw_29_1 gw_29_2 gw_11_18 gw_12_22) rfl rfl rfl (by decide +kernel) ⟨Nat.le_of_ble_eq_true rfl, Nat.le_of_ble_eq_true rfl⟩) hH hNE 5 ek32 (by decide) rfl rfl rfl hl.1 rfl (Nat.le_of_ble_eq_true rfl) dX9_isSound_29 ⟨(by show ((0 + (5 - (n + 1)) * 1) + 1) + 0 ≤ 5; omega), (by show ((0 + (5 - (n + 1)) * 6) + 6) + 0 ≤ 30; omega)⟩ (fun H locs hH => ?_)
          refine lv_if_eq (tgt := 67) hx hb dX9_isSound_32 (by decide) (fun c35 => ?_) (fun c35 => ?_)
          · have hf := ip hf c35
            exact Jj25 () _ _ ls hH (lv_sub hl [1, 3] rfl) hf
          · have hf := iq hf c35
            refine lv_aload_n hx hb dX9_isSound_35 rfl (lv_at hl 1 rfl) ?_
            refine r_getQ hx hb 12 hts (fun w h => List.mem_cons_of_mem _ (mwsX90 w h)) hown hH ek29 (by decide) rfl 5 (by decide) rfl (hts (.fieldLink RX9 63 "Housestyle" "found" "LHousestyle$Findings;") (List.mem_cons_of_mem _ gw_20_13)) (fun _ h9 => h9) dX9_isSound_36 e31 ?_
            refine lv_aload_n hx hb dX9_isSound_39 rfl (lv_at hl 0 rfl) ?_
            obtain ⟨r36, e37, hf⟩ := ob hf
            refine r_callVi (As := [.ref a19]) ⟨hx, hb, hml, hown, hts⟩ (c_X2_accountForAll l D S18 a30 a19 r36 e37) (cwV 1 hts (gwV gw_29_3 gw_29_4 gw_29_5 gw_11_18 gw_13_9) rfl rfl rfl (by decide +kernel) ⟨Nat.le_of_ble_eq_true rfl, Nat.le_of_ble_eq_true rfl⟩) hH hNE 5 ek32 (by decide) rfl rfl rfl hl.1 rfl (Nat.le_of_ble_eq_true rfl) dX9_isSound_40 ⟨(by show ((0 + (5 - (n + 1)) * 1) + 1) + 0 ≤ 5; omega), (by show ((0 + (5 - (n + 1)) * 6) + 6) + 0 ≤ 30; omega)⟩ (fun H locs hH => ?_)
            refine lv_if_eq (tgt := 67) hx hb dX9_isSound_43 (by decide) (fun c38 => ?_) (fun c38 => ?_)
            · have hf := ip hf c38
              exact Jj25 () _ _ ls hH (lv_sub hl [1, 3] rfl) hf
            · have hf := iq hf c38
              refine lv_aload_n hx hb dX9_isSound_46 rfl (lv_at hl 0 rfl) ?_
              refine lv_aload_n hx hb dX9_isSound_47 rfl (lv_at hl 1 rfl) ?_
              obtain ⟨a39, e40, hf⟩ := ob hf
              refine r_getQ hx hb 12 hts (fun w h => List.mem_cons_of_mem _ (mwsX90 w h)) hown hH ek29 (by decide) rfl 1 (by decide) rfl (hts (.fieldLink RX9 21 "Housestyle" "text" "LHousestyle$Text;") (List.mem_cons_of_mem _ gw_20_0)) (fun _ h9 => h9) dX9_isSound_48 e40 ?_
              obtain ⟨ek41, hf⟩ := oc hf
              obtain ⟨a42, e43, hf⟩ := ob hf
              refine r_getQN hx hb 10 hts (fun w h => List.mem_cons_of_mem _ (mwsX70 w h)) hown hH ek41 (by decide) rfl 0 (by decide) rfl (nf_0 hNE) (fun _ h9 => h9) dX9_isSound_51 e43 ?_
              obtain ⟨ek44, hf⟩ := oc hf
              obtain ⟨r45, e46, hf⟩ := ob hf
              refine r_callVi (As := []) ⟨hx, hb, hml, hown, hts⟩ (c_X5_count l D S18 a42 r45 e46) (cwV 0 hts (gwV gw_21_15 gw_1_15 gw_1_16 gw_1_5 gw_1_11) rfl rfl rfl (by decide +kernel) ⟨Nat.le_of_ble_eq_true rfl, Nat.le_of_ble_eq_true rfl⟩) hH hNE 8 ek44 (by decide) rfl rfl rfl hl.1 rfl (Nat.le_of_ble_eq_true rfl) dX9_isSound_54 ⟨(by show ((0 + (5 - (n + 1)) * 1) + 1) + 0 ≤ 5; omega), (by show ((0 + (5 - (n + 1)) * 6) + 6) + 0 ≤ 30; omega)⟩ (fun H locs hH => ?_)
              obtain ⟨ek47, hf⟩ := oc hf
              obtain ⟨r48, e49, hf⟩ := ob hf
              refine r_callVi (As := [.int r45]) ⟨hx, hb, hml, hown, hts⟩ (c_X1_ignoredLieWithin l D S18 a19 r45 r48 e49) (cwV 1 hts (gwV gw_29_6 gw_29_7 gw_29_8 gw_9_20 gw_10_9) rfl rfl rfl (by decide +kernel) ⟨Nat.le_of_ble_eq_true rfl, Nat.le_of_ble_eq_true rfl⟩) hH hNE 4 ek47 (by decide) rfl rfl rfl hl.1 rfl (Nat.le_of_ble_eq_true rfl) dX9_isSound_57 ⟨(by show ((0 + (5 - (n + 1)) * 1) + 1) + 0 ≤ 5; omega), (by show ((0 + (5 - (n + 1)) * 6) + 6) + 0 ≤ 30; omega)⟩ (fun H locs hH => ?_)
              refine lv_if_eq (tgt := 67) hx hb dX9_isSound_60 (by decide) (fun c50 => ?_) (fun c50 => ?_)
              · have hf := ip hf c50
                exact Jj25 () _ _ ls hH (lv_sub hl [1, 3] rfl) hf
              · have hf := iq hf c50
                refine lv_iconst (v := 1) hx hb dX9_isSound_63 (by decide) ?_
                refine lv_goto (tgt := 68) hx hb dX9_isSound_64 (by decide) ?_
                exact Jj21 1 _ _ ls hH (lv_sub hl [1, 3] rfl) hf
  refine W.widen (k := (0 + (5 - 5) * 1)) (n := (0 + (5 - 5) * 6)) (by omega) (by omega) ?_
  exact Lo9 5 1 0 S (Nat.le_refl _) eo9 _ _ ls hH (lv_sub hl [2, 1, 0] rfl)
