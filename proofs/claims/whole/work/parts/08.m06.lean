set_option maxRecDepth 100000 in
def f_X10_ignored (S : PS) (a0 : Nat) (p1 : Int32) : Option (PS × Int32) := if kK S a0 = 14 then ((f_X10_noDesk S a0 p1).bind fun r2 => lt r2.1 fun S4 => if r2.2 = 0 then (if kK S4 a0 = 14 then ((kQ S4 a0 26).bind fun a8 => if kK S4 a8 = 101 then (if ¬ (p1 < 0 ∨ kN S4 a8 ≤ p1.toNatClampNeg) then (some (S4, (kI S4 a8 p1.toNatClampNeg))) else none) else none) else none) else (some (S4, 0))) else none
abbrev rmX10_ignored : Room := { frames := 3, cells := 0, slots := 0, locals := 63 }
set_option maxHeartbeats 4000000 in
set_option maxRecDepth 100000 in
theorem c_X10_ignored (l : Launch) (D : va_G × Nat) (S : PS) (a0 : Nat) (p1 : Int32) (r : PS × Int32) (hf : f_X10_ignored S a0 p1 = some r) : MI l D yX10_ignored wsX10_ignored rmX10_ignored S [.ref a0, .int p1] r.1 r.2 0 0 := by
  unfold f_X10_ignored at hf
  refine Met.ofW (cc := cX10_ignored) (maxL := 2) (ret := (some .int)) (by decide) rfl ?_
  intro p e s m args below meth c s₁ B hml hv
  obtain ⟨rfl, hH0, hNE⟩ := hv
  have hx := B.exec
  have hb := B.bytes
  have hr := B.returns
  have hts := atoms_spec (ws := wsX10_ignored) B.pre
  have hown : s.vm.findClass RX10 = some m.cls := findClass_of_methodNamed B.named
  have hlocks := B.notSynchronized
  have hH : HI D S S s s.heap [] := HI.start hH0
  have hl := lv_entry ([.ref a0, .int p1]) (n := 2) (Nat.le_of_ble_eq_true rfl)
  rw [lg_entry_eq]
  generalize (lg_sl ([.ref a0, .int p1]) ++ List.replicate (2 - (lg_sl ([.ref a0, .int p1])).length) Slot.unset).toArray = ls at hl ⊢
  have hl : lv_has ls 2 [(0, .ref a0), (1, .int p1)] := hl
  refine lv_aload_n hx hb dX10_ignored_0 rfl (lv_at hl 0 rfl) ?_
  refine lv_iload_n hx hb dX10_ignored_1 rfl (lv_at hl 1 rfl) ?_
  obtain ⟨ek1, hf⟩ := oc hf
  obtain ⟨r2, e3, hf⟩ := ob hf
  refine r_callVi (As := [.int p1]) ⟨hx, hb, hml, hown, hts⟩ (c_X10_noDesk l D S a0 p1 r2 e3) (cwV 1 hts (gwV gw_36_20 gw_36_21 gw_36_22 gw_31_10 gw_31_11) rfl rfl rfl (by decide +kernel) ⟨Nat.le_of_ble_eq_true rfl, Nat.le_of_ble_eq_true rfl⟩) hH hNE 13 ek1 (by decide) rfl rfl rfl hl.1 rfl (Nat.le_of_ble_eq_true rfl) dX10_ignored_2 ⟨(Nat.le_of_ble_eq_true rfl), (Nat.le_of_ble_eq_true rfl)⟩ (fun H locs hH => ?_)
  obtain ⟨S4, e5, hf⟩ := ol hf
  rw [e5] at hH
  refine lv_if_eq (tgt := 12) hx hb dX10_ignored_5 (by decide) (fun c6 => ?_) (fun c6 => ?_)
  · have hf := ip hf c6
    refine lv_aload_n hx hb dX10_ignored_12 rfl (lv_at hl 0 rfl) ?_
    obtain ⟨ek7, hf⟩ := oc hf
    obtain ⟨a8, e9, hf⟩ := ob hf
    refine r_getQ hx hb 13 hts (fun w h => List.mem_cons_of_mem _ (mwsX100 w h)) hown hH ek7 (by decide) rfl 26 (by decide) rfl (hts (.fieldLink RX10 75 "HousestyleModel" "ignored" "[I") (List.mem_cons_of_mem _ gw_30_10)) (fun _ h9 => h9) dX10_ignored_13 e9 ?_
    refine lv_iload_n hx hb dX10_ignored_16 rfl (lv_at hl 1 rfl) ?_
    obtain ⟨ek10, hf⟩ := oc hf
    obtain ⟨ei11, hf⟩ := oc hf
    refine r_iald hx hb hH ek10 ei11 dX10_ignored_17 ?_
    have hr9 := Option.some.inj hf
    subst hr9
    exact e_i hx hb hr hlocks hH dX10_ignored_18
  · have hf := iq hf c6
    refine lv_iconst (v := 0) hx hb dX10_ignored_8 (by decide) ?_
    refine lv_goto (tgt := 18) hx hb dX10_ignored_9 (by decide) ?_
    have hr9 := Option.some.inj hf
    subst hr9
    exact e_i hx hb hr hlocks hH dX10_ignored_18
set_option maxRecDepth 100000 in
def f_X10_heed (S : PS) (a0 : Nat) (p1 : Int32) : Option (PS × Int32) := if kK S a0 = 14 then ((f_X10_noDesk S a0 p1).bind fun r2 => lt r2.1 fun S4 => if r2.2 = 0 then (if kK S4 a0 = 14 then ((kQ S4 a0 26).bind fun a8 => if kK S4 a8 = 101 then (if ¬ (p1 < 0 ∨ kN S4 a8 ≤ p1.toNatClampNeg) then (lt (kI S4 a8 p1.toNatClampNeg) fun x12 => if ¬ (p1 < 0 ∨ kN S4 a8 ≤ p1.toNatClampNeg) then (lt (wI S4 a8 p1.toNatClampNeg 0) fun S15 => some (S15, x12)) else none) else none) else none) else none) else (some (S4, 0))) else none
abbrev rmX10_heed : Room := { frames := 3, cells := 0, slots := 0, locals := 63 }
set_option maxHeartbeats 4000000 in
set_option maxRecDepth 100000 in
theorem c_X10_heed (l : Launch) (D : va_G × Nat) (S : PS) (a0 : Nat) (p1 : Int32) (r : PS × Int32) (hf : f_X10_heed S a0 p1 = some r) : MI l D yX10_heed wsX10_heed rmX10_heed S [.ref a0, .int p1] r.1 r.2 0 0 := by
  unfold f_X10_heed at hf
  refine Met.ofW (cc := cX10_heed) (maxL := 3) (ret := (some .int)) (by decide) rfl ?_
  intro p e s m args below meth c s₁ B hml hv
  obtain ⟨rfl, hH0, hNE⟩ := hv
  have hx := B.exec
  have hb := B.bytes
  have hr := B.returns
  have hts := atoms_spec (ws := wsX10_heed) B.pre
  have hown : s.vm.findClass RX10 = some m.cls := findClass_of_methodNamed B.named
  have hlocks := B.notSynchronized
  have hH : HI D S S s s.heap [] := HI.start hH0
  have hl := lv_entry ([.ref a0, .int p1]) (n := 3) (Nat.le_of_ble_eq_true rfl)
  rw [lg_entry_eq]
  generalize (lg_sl ([.ref a0, .int p1]) ++ List.replicate (3 - (lg_sl ([.ref a0, .int p1])).length) Slot.unset).toArray = ls at hl ⊢
  have hl : lv_has ls 3 [(0, .ref a0), (1, .int p1)] := hl
  refine lv_aload_n hx hb dX10_heed_0 rfl (lv_at hl 0 rfl) ?_
  refine lv_iload_n hx hb dX10_heed_1 rfl (lv_at hl 1 rfl) ?_
  obtain ⟨ek1, hf⟩ := oc hf
  obtain ⟨r2, e3, hf⟩ := ob hf
  refine r_callVi (As := [.int p1]) ⟨hx, hb, hml, hown, hts⟩ (c_X10_noDesk l D S a0 p1 r2 e3) (cwV 1 hts (gwV gw_36_20 gw_36_21 gw_36_22 gw_31_10 gw_31_11) rfl rfl rfl (by decide +kernel) ⟨Nat.le_of_ble_eq_true rfl, Nat.le_of_ble_eq_true rfl⟩) hH hNE 13 ek1 (by decide) rfl rfl rfl hl.1 rfl (Nat.le_of_ble_eq_true rfl) dX10_heed_2 ⟨(Nat.le_of_ble_eq_true rfl), (Nat.le_of_ble_eq_true rfl)⟩ (fun H locs hH => ?_)
  obtain ⟨S4, e5, hf⟩ := ol hf
  rw [e5] at hH
  refine lv_if_eq (tgt := 10) hx hb dX10_heed_5 (by decide) (fun c6 => ?_) (fun c6 => ?_)
  · have hf := ip hf c6
    refine lv_aload_n hx hb dX10_heed_10 rfl (lv_at hl 0 rfl) ?_
    obtain ⟨ek7, hf⟩ := oc hf
    obtain ⟨a8, e9, hf⟩ := ob hf
    refine r_getQ hx hb 13 hts (fun w h => List.mem_cons_of_mem _ (mwsX100 w h)) hown hH ek7 (by decide) rfl 26 (by decide) rfl (hts (.fieldLink RX10 75 "HousestyleModel" "ignored" "[I") (List.mem_cons_of_mem _ gw_30_10)) (fun _ h9 => h9) dX10_heed_11 e9 ?_
    refine lv_iload_n hx hb dX10_heed_14 rfl (lv_at hl 1 rfl) ?_
    obtain ⟨ek10, hf⟩ := oc hf
    obtain ⟨ei11, hf⟩ := oc hf
    refine r_iald hx hb hH ek10 ei11 dX10_heed_15 ?_
    obtain ⟨x12, e13, hf⟩ := ol hf
    refine lv_topE e13 ?_
    refine lv_istore_n (lv' := [(2, .int x12), (0, .ref a0), (1, .int p1)]) hx hb dX10_heed_16 rfl hl (by decide) rfl (fun ls hl => ?_)
    refine lv_aload_n hx hb dX10_heed_17 rfl (lv_at hl 1 rfl) ?_
    refine r_getQ hx hb 13 hts (fun w h => List.mem_cons_of_mem _ (mwsX100 w h)) hown hH ek7 (by decide) rfl 26 (by decide) rfl (hts (.fieldLink RX10 75 "HousestyleModel" "ignored" "[I") (List.mem_cons_of_mem _ gw_30_10)) (fun _ h9 => h9) dX10_heed_18 e9 ?_
    refine lv_iload_n hx hb dX10_heed_21 rfl (lv_at hl 2 rfl) ?_
    refine lv_iconst (v := 0) hx hb dX10_heed_22 (by decide) ?_
    obtain ⟨ei14, hf⟩ := oc hf
    refine r_iast hx hb hH ek10 ei14 dX10_heed_23 (fun H locs hH => ?_)
    obtain ⟨S15, e16, hf⟩ := ol hf
    rw [e16] at hH
    refine lv_iload_n hx hb dX10_heed_24 rfl (lv_at hl 0 rfl) ?_
    have hr9 := Option.some.inj hf
    subst hr9
    exact e_i hx hb hr hlocks hH dX10_heed_25
  · have hf := iq hf c6
    refine lv_iconst (v := 0) hx hb dX10_heed_8 (by decide) ?_
    have hr9 := Option.some.inj hf
    subst hr9
    exact e_i hx hb hr hlocks hH dX10_heed_9
set_option maxRecDepth 100000 in
def f_X10_tokens_b13 (a0 : Nat) (p1 : Int32) (r5 : PS) (x7 : Int32) (x8 : Int32) : Option ((Int32 × Int32) ⊕ ((Int32))) := if kK r5 a0 = 14 then (if (kI r5 a0 31) ≤ x8 then (some (.inr x7)) else ((kQ r5 a0 32).bind fun a15 => if kK r5 a15 = 101 then (if ¬ (x8 < 0 ∨ kN r5 a15 ≤ x8.toNatClampNeg) then ((kQ r5 a0 33).bind fun a19 => if kK r5 a19 = 101 then (if ¬ (x8 < 0 ∨ kN r5 a19 ≤ x8.toNatClampNeg) then ((f_X10_isAnyQuoted r5 a0 (kI r5 a15 x8.toNatClampNeg) (kI r5 a19 x8.toNatClampNeg)).bind fun r23 => lt (fun (x25 : Int32) => lt (x7 + x25) fun x27 => lt (x8 + 1) fun x29 => some (.inl (x27, x29))) fun j26 => if r23 = p1 then (j26 1) else (j26 0)) else none) else none) else none) else none)) else none
set_option maxRecDepth 100000 in
def f_X10_tokens (S : PS) (a0 : Nat) (p1 : Int32) : Option (PS × Int32) := if kK S a0 = 14 then (lt (wI S a0 0 0) fun S2 => if kK S2 a0 = 14 then ((f_X10_scan S2 a0).bind fun r5 => lt (fun (x9 : Int32) => some (r5, x9)) fun k10 => (iter (fun (v : Int32 × Int32) => f_X10_tokens_b13 a0 p1 r5 v.1 v.2) kF (0, 0)).bind (fun (v : Int32) => k10 v)) else none) else none
abbrev rmX10_tokens : Room := { frames := 2, cells := 0, slots := 0, locals := 46 }
set_option maxHeartbeats 4000000 in
set_option maxRecDepth 100000 in
theorem c_X10_tokens (l : Launch) (D : va_G × Nat) (S : PS) (a0 : Nat) (p1 : Int32) (r : PS × Int32) (hf : f_X10_tokens S a0 p1 = some r) : MI l D yX10_tokens wsX10_tokens rmX10_tokens S [.ref a0, .int p1] r.1 r.2 0 0 := by
  unfold f_X10_tokens at hf
  refine Met.ofW (cc := cX10_tokens) (maxL := 4) (ret := (some .int)) (by decide) rfl ?_
  intro p e s m args below meth c s₁ B hml hv
  obtain ⟨rfl, hH0, hNE⟩ := hv
  have hx := B.exec
  have hb := B.bytes
  have hr := B.returns
  have hts := atoms_spec (ws := wsX10_tokens) B.pre
  have hown : s.vm.findClass RX10 = some m.cls := findClass_of_methodNamed B.named
  have hlocks := B.notSynchronized
  have hH : HI D S S s s.heap [] := HI.start hH0
  have hl := lv_entry ([.ref a0, .int p1]) (n := 4) (Nat.le_of_ble_eq_true rfl)
  rw [lg_entry_eq]
  generalize (lg_sl ([.ref a0, .int p1]) ++ List.replicate (4 - (lg_sl ([.ref a0, .int p1])).length) Slot.unset).toArray = ls at hl ⊢
  have hl : lv_has ls 4 [(0, .ref a0), (1, .int p1)] := hl
  refine lv_aload_n hx hb dX10_tokens_0 rfl (lv_at hl 0 rfl) ?_
  refine lv_iconst (v := 0) hx hb dX10_tokens_1 (by decide) ?_
  obtain ⟨ek1, hf⟩ := oc hf
  refine r_putI hx hb 13 hts (fun w h => List.mem_cons_of_mem _ (mwsX100 w h)) tyX10 tyX10_ok nmX10 hown hH ek1 (by decide) rfl 0 (by decide) rfl (hts (.fieldLink RX10 123 "HousestyleModel" "thrown" "I") (List.mem_cons_of_mem _ gw_31_3)) (fun _ h9 => h9) (Or.inl rfl) (ty := .int) (by decide +kernel) rfl rfl dX10_tokens_2 (fun H locs hH => ?_)
  obtain ⟨S2, e3, hf⟩ := ol hf
  rw [e3] at hH
  refine lv_aload_n hx hb dX10_tokens_5 rfl (lv_at hl 0 rfl) ?_
  obtain ⟨ek4, hf⟩ := oc hf
  obtain ⟨r5, e6, hf⟩ := ob hf
  refine r_callVv (As := []) ⟨hx, hb, hml, hown, hts⟩ (c_X10_scan l D S2 a0 r5 e6) (cwV 0 hts (gwV gw_35_2 gw_35_3 gw_35_4 gw_31_10 gw_34_7) rfl rfl rfl (by decide +kernel) ⟨Nat.le_of_ble_eq_true rfl, Nat.le_of_ble_eq_true rfl⟩) hH hNE 13 ek4 (by decide) rfl rfl rfl hl.1 rfl (Nat.le_of_ble_eq_true rfl) dX10_tokens_6 ⟨(Nat.le_of_ble_eq_true rfl), (Nat.le_of_ble_eq_true rfl)⟩ (fun H locs hH => ?_)
  refine lv_iconst (v := 0) hx hb dX10_tokens_9 (by decide) ?_
  refine lv_istore_n (lv' := [(2, .int 0), (0, .ref a0), (1, .int p1)]) hx hb dX10_tokens_10 rfl hl (by decide) rfl (fun ls hl => ?_)
  refine lv_iconst (v := 0) hx hb dX10_tokens_11 (by decide) ?_
  refine lv_istore_n (lv' := [(3, .int 0), (2, .int 0), (0, .ref a0), (1, .int p1)]) hx hb dX10_tokens_12 rfl hl (by decide) rfl (fun ls hl => ?_)
  obtain ⟨k10, e11, hf⟩ := ol hf
  have Xk10 : ∀ (x9 : Int32) (H : Heap) (locs : List Loc) (ls : Array Slot), HI D S r5 s H locs → lv_has ls 4 [(2, .int x9)] → k10 x9 = some r → GI p l e (headSpec wsX10_tokens rmX10_tokens).room s m ([.ref a0, .int p1] : List Value).toArray below meth c D S r.1 r.2 H locs 0 0 0 0 (F0 m 55 ls []) := by
    intro x9 H locs ls hH hl hf
    rw [← e11] at hf
    refine lv_iload_n hx hb dX10_tokens_55 rfl (lv_at hl 0 rfl) ?_
    have hr9 := Option.some.inj hf
    subst hr9
    exact e_i hx hb hr hlocks hH dX10_tokens_56
  obtain ⟨o12, eo12, hq12f⟩ := ob hf
  have Lo12 : ∀ (n : Nat) (x7 : Int32) (x8 : Int32), iter (fun (v : Int32 × Int32) => f_X10_tokens_b13 a0 p1 r5 v.1 v.2) n (x7, x8) = some o12 → ∀ (H : Heap) (locs : List Loc) (ls : Array Slot), HI D S r5 s H locs → lv_has ls 4 [(0, .ref a0), (1, .int p1), (2, .int x7), (3, .int x8)] → GI p l e (headSpec wsX10_tokens rmX10_tokens).room s m ([.ref a0, .int p1] : List Value).toArray below meth c D S r.1 r.2 H locs 0 0 0 0 (F0 m 13 ls []) := by
    intro n
    induction n with
    | zero => intro x7 x8 hi; cases hi
    | succ n ih12 =>
      intro x7 x8 hi H locs ls hH hl
      obtain ⟨q12_, hf, hq12⟩ := iter_s hi
      have hf : f_X10_tokens_b13 a0 p1 r5 x7 x8 = some q12_ := hf
      unfold f_X10_tokens_b13 at hf
      refine lv_iload_n hx hb dX10_tokens_13 rfl (lv_at hl 3 rfl) ?_
      refine lv_aload_n hx hb dX10_tokens_14 rfl (lv_at hl 0 rfl) ?_
      obtain ⟨ek13, hf⟩ := oc hf
      refine r_getI hx hb 13 hts (fun w h => List.mem_cons_of_mem _ (mwsX100 w h)) hown hH ek13 (by decide) rfl 31 (by decide) rfl (hts (.fieldLink RX10 194 "HousestyleModel" "tokens" "I") (List.mem_cons_of_mem _ gw_34_8)) (fun _ h9 => h9) dX10_tokens_15 ?_
      refine lv_icmp_ge (tgt := 55) hx hb dX10_tokens_18 (by decide) (fun c14 => ?_) (fun c14 => ?_)
      · have hf := ip hf c14
        cases hf
        have hf9 := itR (K := (fun (v : Int32) => k10 v)) hq12 hq12f
        exact Xk10 x7 _ _ ls hH (lv_sub hl [2] rfl) hf9
      · have hf := iq hf c14
        refine lv_iload_n hx hb dX10_tokens_21 rfl (lv_at hl 2 rfl) ?_
        refine lv_aload_n hx hb dX10_tokens_22 rfl (lv_at hl 0 rfl) ?_
        refine lv_aload_n hx hb dX10_tokens_23 rfl (lv_at hl 0 rfl) ?_
        obtain ⟨a15, e16, hf⟩ := ob hf
        refine r_getQ hx hb 13 hts (fun w h => List.mem_cons_of_mem _ (mwsX100 w h)) hown hH ek13 (by decide) rfl 32 (by decide) rfl (hts (.fieldLink RX10 90 "HousestyleModel" "from" "[I") (List.mem_cons_of_mem _ gw_30_15)) (fun _ h9 => h9) dX10_tokens_24 e16 ?_
        refine lv_iload_n hx hb dX10_tokens_27 rfl (lv_at hl 3 rfl) ?_
        obtain ⟨ek17, hf⟩ := oc hf
        obtain ⟨ei18, hf⟩ := oc hf
        refine r_iald hx hb hH ek17 ei18 dX10_tokens_28 ?_
        refine lv_aload_n hx hb dX10_tokens_29 rfl (lv_at hl 0 rfl) ?_
        obtain ⟨a19, e20, hf⟩ := ob hf
        refine r_getQ hx hb 13 hts (fun w h => List.mem_cons_of_mem _ (mwsX100 w h)) hown hH ek13 (by decide) rfl 33 (by decide) rfl (hts (.fieldLink RX10 93 "HousestyleModel" "to" "[I") (List.mem_cons_of_mem _ gw_30_16)) (fun _ h9 => h9) dX10_tokens_30 e20 ?_
        refine lv_iload_n hx hb dX10_tokens_33 rfl (lv_at hl 3 rfl) ?_
        obtain ⟨ek21, hf⟩ := oc hf
        obtain ⟨ei22, hf⟩ := oc hf
        refine r_iald hx hb hH ek21 ei22 dX10_tokens_34 ?_
        obtain ⟨r23, e24, hf⟩ := ob hf
        refine r_callVi (As := [.int (kI r5 a15 x8.toNatClampNeg), .int (kI r5 a19 x8.toNatClampNeg)]) ⟨hx, hb, hml, hown, hts⟩ (c_X10_isAnyQuoted l D r5 a0 (kI r5 a15 x8.toNatClampNeg) (kI r5 a19 x8.toNatClampNeg) r23 e24) (cwV 2 hts (gwV gw_35_11 gw_35_12 gw_35_13 gw_31_10 gw_34_9) rfl rfl rfl (by decide +kernel) ⟨Nat.le_of_ble_eq_true rfl, Nat.le_of_ble_eq_true rfl⟩) hH hNE 13 ek13 (by decide) rfl rfl rfl hl.1 rfl (Nat.le_of_ble_eq_true rfl) dX10_tokens_35 ⟨(Nat.le_of_ble_eq_true rfl), (Nat.le_of_ble_eq_true rfl)⟩ (fun H locs hH => ?_)
        refine lv_iload_n hx hb dX10_tokens_38 rfl (lv_at hl 1 rfl) ?_
        obtain ⟨j26, e31, hf⟩ := ol hf
        have Jj26 : ∀ (x25 : Int32) (H : Heap) (locs : List Loc) (ls : Array Slot), HI D S r5 s H locs → lv_has ls 4 [(0, .ref a0), (1, .int p1), (3, .int x8)] → j26 x25 = some q12_ → GI p l e (headSpec wsX10_tokens rmX10_tokens).room s m ([.ref a0, .int p1] : List Value).toArray below meth c D S r.1 r.2 H locs 0 0 0 0 (F0 m 47 ls [.int x25, .int x7]) := by
          intro x25 H locs ls hH hl hf
          rw [← e31] at hf
          refine lv_iadd hx hb dX10_tokens_47 ?_
          obtain ⟨x27, e28, hf⟩ := ol hf
          refine lv_topE e28 ?_
          refine lv_istore_n (lv' := [(2, .int x27), (0, .ref a0), (1, .int p1), (3, .int x8)]) hx hb dX10_tokens_48 rfl hl (by decide) rfl (fun ls hl => ?_)
          obtain ⟨x29, e30, hf⟩ := ol hf
          refine lv_iinc (v := x29) (lv' := [(3, .int x29), (2, .int x27), (0, .ref a0), (1, .int p1)]) hx hb dX10_tokens_49 hl (k := 3) rfl (by rw [← e30]; rfl) (by decide) rfl (fun ls hl => ?_)
          refine lv_goto (tgt := 13) hx hb dX10_tokens_52 (by decide) ?_
          cases hf
          exact ih12 x27 x29 hq12 _ _ ls hH (lv_sub hl [2, 3, 1, 0] rfl)
        refine lv_icmp_ne (tgt := 46) hx hb dX10_tokens_39 (by decide) (fun c32 => ?_) (fun c32 => ?_)
        · have hf := iq hf c32
          refine lv_iconst (v := 0) hx hb dX10_tokens_46 (by decide) ?_
          exact Jj26 0 _ _ ls hH (lv_sub hl [0, 1, 3] rfl) hf
        · have hf := ip hf c32
          refine lv_iconst (v := 1) hx hb dX10_tokens_42 (by decide) ?_
          refine lv_goto (tgt := 47) hx hb dX10_tokens_43 (by decide) ?_
          exact Jj26 1 _ _ ls hH (lv_sub hl [0, 1, 3] rfl) hf
  exact Lo12 kF 0 0 eo12 _ _ ls hH (lv_sub hl [2, 3, 1, 0] rfl)
set_option maxRecDepth 100000 in
def f_X10_paragraphs (S : PS) (a0 : Nat) : Option (PS × Int32) := if kK S a0 = 14 then (lt (wI S a0 0 0) fun S2 => if kK S2 a0 = 14 then ((f_X10_paragraphsNow S2 a0).bind fun r5 => some (S2, r5)) else none) else none
abbrev rmX10_paragraphs : Room := { frames := 2, cells := 0, slots := 0, locals := 43 }
set_option maxHeartbeats 4000000 in
set_option maxRecDepth 100000 in
theorem c_X10_paragraphs (l : Launch) (D : va_G × Nat) (S : PS) (a0 : Nat) (r : PS × Int32) (hf : f_X10_paragraphs S a0 = some r) : MI l D yX10_paragraphs wsX10_paragraphs rmX10_paragraphs S [.ref a0] r.1 r.2 0 0 := by
  unfold f_X10_paragraphs at hf
  refine Met.ofW (cc := cX10_paragraphs) (maxL := 1) (ret := (some .int)) (by decide) rfl ?_
  intro p e s m args below meth c s₁ B hml hv
  obtain ⟨rfl, hH0, hNE⟩ := hv
  have hx := B.exec
  have hb := B.bytes
  have hr := B.returns
  have hts := atoms_spec (ws := wsX10_paragraphs) B.pre
  have hown : s.vm.findClass RX10 = some m.cls := findClass_of_methodNamed B.named
  have hlocks := B.notSynchronized
  have hH : HI D S S s s.heap [] := HI.start hH0
  have hl := lv_entry ([.ref a0]) (n := 1) (Nat.le_of_ble_eq_true rfl)
  rw [lg_entry_eq]
  generalize (lg_sl ([.ref a0]) ++ List.replicate (1 - (lg_sl ([.ref a0])).length) Slot.unset).toArray = ls at hl ⊢
  have hl : lv_has ls 1 [(0, .ref a0)] := hl
  refine lv_aload_n hx hb dX10_paragraphs_0 rfl (lv_at hl 0 rfl) ?_
  refine lv_iconst (v := 0) hx hb dX10_paragraphs_1 (by decide) ?_
  obtain ⟨ek1, hf⟩ := oc hf
  refine r_putI hx hb 13 hts (fun w h => List.mem_cons_of_mem _ (mwsX100 w h)) tyX10 tyX10_ok nmX10 hown hH ek1 (by decide) rfl 0 (by decide) rfl (hts (.fieldLink RX10 123 "HousestyleModel" "thrown" "I") (List.mem_cons_of_mem _ gw_31_3)) (fun _ h9 => h9) (Or.inl rfl) (ty := .int) (by decide +kernel) rfl rfl dX10_paragraphs_2 (fun H locs hH => ?_)
  obtain ⟨S2, e3, hf⟩ := ol hf
  rw [e3] at hH
  refine lv_aload_n hx hb dX10_paragraphs_5 rfl (lv_at hl 0 rfl) ?_
  obtain ⟨ek4, hf⟩ := oc hf
  obtain ⟨r5, e6, hf⟩ := ob hf
  refine r_callVi (As := []) ⟨hx, hb, hml, hown, hts⟩ (c_X10_paragraphsNow l D S2 a0 r5 e6) (cwV 0 hts (gwV gw_32_7 gw_32_8 gw_32_9 gw_31_10 gw_32_1) rfl rfl rfl (by decide +kernel) ⟨Nat.le_of_ble_eq_true rfl, Nat.le_of_ble_eq_true rfl⟩) hH hNE 13 ek4 (by decide) rfl rfl rfl hl.1 rfl (Nat.le_of_ble_eq_true rfl) dX10_paragraphs_6 ⟨(Nat.le_of_ble_eq_true rfl), (Nat.le_of_ble_eq_true rfl)⟩ (fun H locs hH => ?_)
  have hr9 := Option.some.inj hf
  subst hr9
  exact e_i hx hb hr hlocks hH dX10_paragraphs_9
set_option maxRecDepth 100000 in
def f_X10_check_b14 (a0 : Nat) (p1 : Int32) (x7 : Int32) (x8 : Int32) (S9 : PS) : Option ((Int32 × Int32 × PS) ⊕ ((Int32 × PS))) := if kK S9 a0 = 14 then ((f_X10_paragraphsNow S9 a0).bind fun r16 => if r16 ≤ x8 then (some (.inr (x7, S9))) else ((kQ S9 a0 30).bind fun a19 => if kK S9 a19 = 103 then (if ¬ (((p1 * 161) + x8) < 0 ∨ kN S9 a19 ≤ ((p1 * 161) + x8).toNatClampNeg) then (lt (fun (x23 : Int32) => lt (x7 + x23) fun x25 => if ¬ (((p1 * 161) + x8) < 0 ∨ kN S9 a19 ≤ ((p1 * 161) + x8).toNatClampNeg) then (lt (wI S9 a19 ((p1 * 161) + x8).toNatClampNeg (vp_nar .boolean 0)) fun S28 => lt (x8 + 1) fun x30 => some (.inl (x25, x30, S28))) else none) fun j24 => if (kI S9 a19 ((p1 * 161) + x8).toNatClampNeg) = 0 then (j24 0) else (j24 1)) else none) else none)) else none
set_option maxRecDepth 100000 in
def f_X10_check (S : PS) (a0 : Nat) (p1 : Int32) : Option (PS × Int32) := if kK S a0 = 14 then ((f_X10_noDesk S a0 p1).bind fun r2 => lt r2.1 fun S4 => if r2.2 = 0 then (lt (fun (x10 : Int32) (S11 : PS) => some (S11, x10)) fun k12 => (iter (fun (v : Int32 × Int32 × PS) => f_X10_check_b14 a0 p1 v.1 v.2.1 v.2.2) kF (0, 0, S4)).bind (fun (v : Int32 × PS) => k12 v.1 v.2)) else (some (S4, 0))) else none
abbrev rmX10_check : Room := { frames := 3, cells := 0, slots := 0, locals := 63 }
set_option maxHeartbeats 4000000 in
set_option maxRecDepth 100000 in
theorem c_X10_check (l : Launch) (D : va_G × Nat) (S : PS) (a0 : Nat) (p1 : Int32) (r : PS × Int32) (hf : f_X10_check S a0 p1 = some r) : MI l D yX10_check wsX10_check rmX10_check S [.ref a0, .int p1] r.1 r.2 0 0 := by
  unfold f_X10_check at hf
  refine Met.ofW (cc := cX10_check) (maxL := 4) (ret := (some .int)) (by decide) rfl ?_
  intro p e s m args below meth c s₁ B hml hv
  obtain ⟨rfl, hH0, hNE⟩ := hv
  have hx := B.exec
  have hb := B.bytes
  have hr := B.returns
  have hts := atoms_spec (ws := wsX10_check) B.pre
  have hown : s.vm.findClass RX10 = some m.cls := findClass_of_methodNamed B.named
  have hlocks := B.notSynchronized
  have hH : HI D S S s s.heap [] := HI.start hH0
  have hl := lv_entry ([.ref a0, .int p1]) (n := 4) (Nat.le_of_ble_eq_true rfl)
  rw [lg_entry_eq]
  generalize (lg_sl ([.ref a0, .int p1]) ++ List.replicate (4 - (lg_sl ([.ref a0, .int p1])).length) Slot.unset).toArray = ls at hl ⊢
  have hl : lv_has ls 4 [(0, .ref a0), (1, .int p1)] := hl
  refine lv_aload_n hx hb dX10_check_0 rfl (lv_at hl 0 rfl) ?_
  refine lv_iload_n hx hb dX10_check_1 rfl (lv_at hl 1 rfl) ?_
  obtain ⟨ek1, hf⟩ := oc hf
  obtain ⟨r2, e3, hf⟩ := ob hf
  refine r_callVi (As := [.int p1]) ⟨hx, hb, hml, hown, hts⟩ (c_X10_noDesk l D S a0 p1 r2 e3) (cwV 1 hts (gwV gw_36_20 gw_36_21 gw_36_22 gw_31_10 gw_31_11) rfl rfl rfl (by decide +kernel) ⟨Nat.le_of_ble_eq_true rfl, Nat.le_of_ble_eq_true rfl⟩) hH hNE 13 ek1 (by decide) rfl rfl rfl hl.1 rfl (Nat.le_of_ble_eq_true rfl) dX10_check_2 ⟨(Nat.le_of_ble_eq_true rfl), (Nat.le_of_ble_eq_true rfl)⟩ (fun H locs hH => ?_)
  obtain ⟨S4, e5, hf⟩ := ol hf
  rw [e5] at hH
  refine lv_if_eq (tgt := 10) hx hb dX10_check_5 (by decide) (fun c6 => ?_) (fun c6 => ?_)
  · have hf := ip hf c6
    refine lv_iconst (v := 0) hx hb dX10_check_10 (by decide) ?_
    refine lv_istore_n (lv' := [(2, .int 0), (0, .ref a0), (1, .int p1)]) hx hb dX10_check_11 rfl hl (by decide) rfl (fun ls hl => ?_)
    refine lv_iconst (v := 0) hx hb dX10_check_12 (by decide) ?_
    refine lv_istore_n (lv' := [(3, .int 0), (2, .int 0), (0, .ref a0), (1, .int p1)]) hx hb dX10_check_13 rfl hl (by decide) rfl (fun ls hl => ?_)
    obtain ⟨k12, e13, hf⟩ := ol hf
    have Xk12 : ∀ (x10 : Int32) (S11 : PS) (H : Heap) (locs : List Loc) (ls : Array Slot), HI D S S11 s H locs → lv_has ls 4 [(2, .int x10)] → k12 x10 S11 = some r → GI p l e (headSpec wsX10_check rmX10_check).room s m ([.ref a0, .int p1] : List Value).toArray below meth c D S r.1 r.2 H locs 0 0 0 0 (F0 m 64 ls []) := by
      intro x10 S11 H locs ls hH hl hf
      rw [← e13] at hf
      refine lv_iload_n hx hb dX10_check_64 rfl (lv_at hl 0 rfl) ?_
      have hr9 := Option.some.inj hf
      subst hr9
      exact e_i hx hb hr hlocks hH dX10_check_65
    obtain ⟨o14, eo14, hq14f⟩ := ob hf
    have Lo14 : ∀ (n : Nat) (x7 : Int32) (x8 : Int32) (S9 : PS), iter (fun (v : Int32 × Int32 × PS) => f_X10_check_b14 a0 p1 v.1 v.2.1 v.2.2) n (x7, x8, S9) = some o14 → ∀ (H : Heap) (locs : List Loc) (ls : Array Slot), HI D S S9 s H locs → lv_has ls 4 [(0, .ref a0), (1, .int p1), (2, .int x7), (3, .int x8)] → GI p l e (headSpec wsX10_check rmX10_check).room s m ([.ref a0, .int p1] : List Value).toArray below meth c D S r.1 r.2 H locs 0 0 0 0 (F0 m 14 ls []) := by
      intro n
      induction n with
      | zero => intro x7 x8 S9 hi; cases hi
      | succ n ih14 =>
        intro x7 x8 S9 hi H locs ls hH hl
        obtain ⟨q14_, hf, hq14⟩ := iter_s hi
        have hf : f_X10_check_b14 a0 p1 x7 x8 S9 = some q14_ := hf
        unfold f_X10_check_b14 at hf
        refine lv_iload_n hx hb dX10_check_14 rfl (lv_at hl 3 rfl) ?_
        refine lv_aload_n hx hb dX10_check_15 rfl (lv_at hl 0 rfl) ?_
        obtain ⟨ek15, hf⟩ := oc hf
        obtain ⟨r16, e17, hf⟩ := ob hf
        refine r_callVi (As := []) ⟨hx, hb, hml, hown, hts⟩ (c_X10_paragraphsNow l D S9 a0 r16 e17) (cwV 0 hts (gwV gw_32_7 gw_32_8 gw_32_9 gw_31_10 gw_32_1) rfl rfl rfl (by decide +kernel) ⟨Nat.le_of_ble_eq_true rfl, Nat.le_of_ble_eq_true rfl⟩) hH hNE 13 ek15 (by decide) rfl rfl rfl hl.1 rfl (Nat.le_of_ble_eq_true rfl) dX10_check_16 ⟨(Nat.le_of_ble_eq_true rfl), (Nat.le_of_ble_eq_true rfl)⟩ (fun H locs hH => ?_)
        refine lv_icmp_ge (tgt := 64) hx hb dX10_check_19 (by decide) (fun c18 => ?_) (fun c18 => ?_)
        · have hf := ip hf c18
          cases hf
          have hf9 := itR (K := (fun (v : Int32 × PS) => k12 v.1 v.2)) hq14 hq14f
          exact Xk12 x7 S9 _ _ ls hH (lv_sub hl [2] rfl) hf9
        · have hf := iq hf c18
          refine lv_iload_n hx hb dX10_check_22 rfl (lv_at hl 2 rfl) ?_
          refine lv_aload_n hx hb dX10_check_23 rfl (lv_at hl 0 rfl) ?_
          obtain ⟨a19, e20, hf⟩ := ob hf
          refine r_getQ hx hb 13 hts (fun w h => List.mem_cons_of_mem _ (mwsX100 w h)) hown hH ek15 (by decide) rfl 30 (by decide) rfl (hts (.fieldLink RX10 87 "HousestyleModel" "hasChanged" "[Z") (List.mem_cons_of_mem _ gw_30_14)) (fun _ h9 => h9) dX10_check_24 e20 ?_
          refine lv_iload_n hx hb dX10_check_27 rfl (lv_at hl 1 rfl) ?_
          refine lv_sipush (v := 161) hx hb dX10_check_28 (by decide) ?_
          refine lv_imul hx hb dX10_check_31 ?_
          refine lv_iload_n hx hb dX10_check_32 rfl (lv_at hl 3 rfl) ?_
          refine lv_iadd hx hb dX10_check_33 ?_
          obtain ⟨ek21, hf⟩ := oc hf
          obtain ⟨ei22, hf⟩ := oc hf
          refine r_zald hx hb hH ek21 ei22 dX10_check_34 ?_
          obtain ⟨j24, e32, hf⟩ := ol hf
          have Jj24 : ∀ (x23 : Int32) (H : Heap) (locs : List Loc) (ls : Array Slot), HI D S S9 s H locs → lv_has ls 4 [(0, .ref a0), (1, .int p1), (3, .int x8)] → j24 x23 = some q14_ → GI p l e (headSpec wsX10_check rmX10_check).room s m ([.ref a0, .int p1] : List Value).toArray below meth c D S r.1 r.2 H locs 0 0 0 0 (F0 m 43 ls [.int x23, .int x7]) := by
            intro x23 H locs ls hH hl hf
            rw [← e32] at hf
            refine lv_iadd hx hb dX10_check_43 ?_
            obtain ⟨x25, e26, hf⟩ := ol hf
            refine lv_topE e26 ?_
            refine lv_istore_n (lv' := [(2, .int x25), (0, .ref a0), (1, .int p1), (3, .int x8)]) hx hb dX10_check_44 rfl hl (by decide) rfl (fun ls hl => ?_)
            refine lv_aload_n hx hb dX10_check_45 rfl (lv_at hl 1 rfl) ?_
            refine r_getQ hx hb 13 hts (fun w h => List.mem_cons_of_mem _ (mwsX100 w h)) hown hH ek15 (by decide) rfl 30 (by decide) rfl (hts (.fieldLink RX10 87 "HousestyleModel" "hasChanged" "[Z") (List.mem_cons_of_mem _ gw_30_14)) (fun _ h9 => h9) dX10_check_46 e20 ?_
            refine lv_iload_n hx hb dX10_check_49 rfl (lv_at hl 2 rfl) ?_
            refine lv_sipush (v := 161) hx hb dX10_check_50 (by decide) ?_
            refine lv_imul hx hb dX10_check_53 ?_
            refine lv_iload_n hx hb dX10_check_54 rfl (lv_at hl 3 rfl) ?_
            refine lv_iadd hx hb dX10_check_55 ?_
            refine lv_iconst (v := 0) hx hb dX10_check_56 (by decide) ?_
            obtain ⟨ei27, hf⟩ := oc hf
            refine r_zast hx hb hH ek21 ei27 dX10_check_57 (fun H locs hH => ?_)
            obtain ⟨S28, e29, hf⟩ := ol hf
            rw [e29] at hH
            obtain ⟨x30, e31, hf⟩ := ol hf
            refine lv_iinc (v := x30) (lv' := [(3, .int x30), (2, .int x25), (0, .ref a0), (1, .int p1)]) hx hb dX10_check_58 hl (k := 3) rfl (by rw [← e31]; rfl) (by decide) rfl (fun ls hl => ?_)
            refine lv_goto (tgt := 14) hx hb dX10_check_61 (by decide) ?_
            cases hf
            exact ih14 x25 x30 S28 hq14 _ _ ls hH (lv_sub hl [2, 3, 1, 0] rfl)
          refine lv_if_eq (tgt := 42) hx hb dX10_check_35 (by decide) (fun c33 => ?_) (fun c33 => ?_)
          · have hf := ip hf c33
            refine lv_iconst (v := 0) hx hb dX10_check_42 (by decide) ?_
            exact Jj24 0 _ _ ls hH (lv_sub hl [0, 1, 3] rfl) hf
          · have hf := iq hf c33
            refine lv_iconst (v := 1) hx hb dX10_check_38 (by decide) ?_
            refine lv_goto (tgt := 43) hx hb dX10_check_39 (by decide) ?_
            exact Jj24 1 _ _ ls hH (lv_sub hl [0, 1, 3] rfl) hf
    exact Lo14 kF 0 0 S4 eo14 _ _ ls hH (lv_sub hl [2, 3, 1, 0] rfl)
  · have hf := iq hf c6
    refine lv_iconst (v := 0) hx hb dX10_check_8 (by decide) ?_
    have hr9 := Option.some.inj hf
    subst hr9
    exact e_i hx hb hr hlocks hH dX10_check_9
set_option maxRecDepth 100000 in
def f_X10_byRule_b45 (a0 : Nat) (p2 : Int32) (r10 : PS) (x12 : Int32) (x13 : Int32) : Option ((Int32 × Int32) ⊕ ((Int32))) := if kK r10 a0 = 14 then (if (kI r10 a0 42) ≤ x13 then (some (.inr x12)) else ((kQ r10 a0 40).bind fun a20 => (kQ r10 a0 43).bind fun a22 => if kK r10 a22 = 101 then (if ¬ (x13 < 0 ∨ kN r10 a22 ≤ x13.toNatClampNeg) then (if kK r10 a20 = 101 then (if ¬ ((kI r10 a22 x13.toNatClampNeg) < 0 ∨ kN r10 a20 ≤ (kI r10 a22 x13.toNatClampNeg).toNatClampNeg) then (lt (fun (x28 : Int32) => lt (x12 + x28) fun x30 => lt (x13 + 1) fun x32 => some (.inl (x30, x32))) fun j29 => if (kI r10 a20 (kI r10 a22 x13.toNatClampNeg).toNatClampNeg) = p2 then (j29 1) else (j29 0)) else none) else none) else none) else none)) else none
set_option maxRecDepth 100000 in
def f_X10_byRule (S : PS) (a0 : Nat) (p1 : Int32) (p2 : Int32) : Option (PS × Int32) := (f_X10_isDesk S p1).bind fun r1 => lt (fun (x3 : Int32) => if kK S a0 = 14 then (lt (wI S a0 0 x3) fun S6 => if kK S6 a0 = 14 then (if (kI S6 a0 0) ≤ 0 then ((f_X10_look S6 a0 p1).bind fun r10 => lt (fun (x14 : Int32) => some (r10, x14)) fun k15 => (iter (fun (v : Int32 × Int32) => f_X10_byRule_b45 a0 p2 r10 v.1 v.2) kF (0, 0)).bind (fun (v : Int32) => k15 v)) else (some (S6, 0))) else none) else none) fun j4 => lt (fun (u38 : Unit) => j4 1) fun j37 => if r1 = 0 then (j37 ()) else ((f_X10_in S p2 0 20).bind fun r41 => if r41 = 0 then (j37 ()) else (j4 0))
abbrev rmX10_byRule : Room := { frames := 4, cells := 0, slots := 0, locals := 100 }
set_option maxHeartbeats 4000000 in
set_option maxRecDepth 100000 in
theorem c_X10_byRule (l : Launch) (D : va_G × Nat) (S : PS) (a0 : Nat) (p1 : Int32) (p2 : Int32) (r : PS × Int32) (hf : f_X10_byRule S a0 p1 p2 = some r) : MI l D yX10_byRule wsX10_byRule rmX10_byRule S [.ref a0, .int p1, .int p2] r.1 r.2 0 0 := by
  unfold f_X10_byRule at hf
  refine Met.ofW (cc := cX10_byRule) (maxL := 5) (ret := (some .int)) (by decide) rfl ?_
  intro p e s m args below meth c s₁ B hml hv
  obtain ⟨rfl, hH0, hNE⟩ := hv
  have hx := B.exec
  have hb := B.bytes
  have hr := B.returns
  have hts := atoms_spec (ws := wsX10_byRule) B.pre
  have hown : s.vm.findClass RX10 = some m.cls := findClass_of_methodNamed B.named
  have hlocks := B.notSynchronized
  have hH : HI D S S s s.heap [] := HI.start hH0
  have hl := lv_entry ([.ref a0, .int p1, .int p2]) (n := 5) (Nat.le_of_ble_eq_true rfl)
  rw [lg_entry_eq]
  generalize (lg_sl ([.ref a0, .int p1, .int p2]) ++ List.replicate (5 - (lg_sl ([.ref a0, .int p1, .int p2])).length) Slot.unset).toArray = ls at hl ⊢
  have hl : lv_has ls 5 [(0, .ref a0), (1, .int p1), (2, .int p2)] := hl
  refine lv_aload_n hx hb dX10_byRule_0 rfl (lv_at hl 0 rfl) ?_
  refine lv_iload_n hx hb dX10_byRule_1 rfl (lv_at hl 1 rfl) ?_
  obtain ⟨r1, e2, hf⟩ := ob hf
  refine r_callSi (As := [.int p1]) ⟨hx, hb, hml, hown, hts⟩ (c_X10_isDesk l D S p1 r1 e2) (va_cwS 1 hts (gwS gw_31_12 gw_31_13 gw_31_10 gw_31_7) rfl rfl rfl (by decide +kernel) ⟨Nat.le_of_ble_eq_true rfl, Nat.le_of_ble_eq_true rfl⟩) hH hNE rfl hl.1 rfl (Nat.le_of_ble_eq_true rfl) dX10_byRule_2 ⟨(Nat.le_of_ble_eq_true rfl), (Nat.le_of_ble_eq_true rfl)⟩ (fun H locs hH => ?_)
  obtain ⟨j4, e36, hf⟩ := ol hf
  have Jj4 : ∀ (x3 : Int32) (H : Heap) (locs : List Loc) (ls : Array Slot), HI D S S s H locs → lv_has ls 5 [(0, .ref a0), (1, .int p1), (2, .int p2)] → j4 x3 = some r → GI p l e (headSpec wsX10_byRule rmX10_byRule).room s m ([.ref a0, .int p1, .int p2] : List Value).toArray below meth c D S r.1 r.2 H locs 0 0 0 0 (F0 m 23 ls [.int x3, .ref a0]) := by
    intro x3 H locs ls hH hl hf
    rw [← e36] at hf
    obtain ⟨ek5, hf⟩ := oc hf
    refine r_putI hx hb 13 hts (fun w h => List.mem_cons_of_mem _ (mwsX100 w h)) tyX10 tyX10_ok nmX10 hown hH ek5 (by decide) rfl 0 (by decide) rfl (hts (.fieldLink RX10 123 "HousestyleModel" "thrown" "I") (List.mem_cons_of_mem _ gw_31_3)) (fun _ h9 => h9) (Or.inl rfl) (ty := .int) (by decide +kernel) rfl rfl dX10_byRule_23 (fun H locs hH => ?_)
    obtain ⟨S6, e7, hf⟩ := ol hf
    rw [e7] at hH
    refine lv_aload_n hx hb dX10_byRule_26 rfl (lv_at hl 0 rfl) ?_
    obtain ⟨ek8, hf⟩ := oc hf
    refine r_getI hx hb 13 hts (fun w h => List.mem_cons_of_mem _ (mwsX100 w h)) hown hH ek8 (by decide) rfl 0 (by decide) rfl (hts (.fieldLink RX10 123 "HousestyleModel" "thrown" "I") (List.mem_cons_of_mem _ gw_31_3)) (fun _ h9 => h9) dX10_byRule_27 ?_
    refine lv_if_le (tgt := 35) hx hb dX10_byRule_30 (by decide) (fun c9 => ?_) (fun c9 => ?_)
    · have hf := ip hf c9
      refine lv_aload_n hx hb dX10_byRule_35 rfl (lv_at hl 0 rfl) ?_
      refine lv_iload_n hx hb dX10_byRule_36 rfl (lv_at hl 1 rfl) ?_
      obtain ⟨r10, e11, hf⟩ := ob hf
      refine r_callVv (As := [.int p1]) ⟨hx, hb, hml, hown, hts⟩ (c_X10_look l D S6 a0 p1 r10 e11) (cwV 1 hts (gwV gw_36_23 gw_37_0 gw_37_1 gw_31_10 gw_36_9) rfl rfl rfl (by decide +kernel) ⟨Nat.le_of_ble_eq_true rfl, Nat.le_of_ble_eq_true rfl⟩) hH hNE 13 ek8 (by decide) rfl rfl rfl hl.1 rfl (Nat.le_of_ble_eq_true rfl) dX10_byRule_37 ⟨(Nat.le_of_ble_eq_true rfl), (Nat.le_of_ble_eq_true rfl)⟩ (fun H locs hH => ?_)
      refine lv_iconst (v := 0) hx hb dX10_byRule_40 (by decide) ?_
      refine lv_istore_n (lv' := [(3, .int 0), (0, .ref a0), (1, .int p1), (2, .int p2)]) hx hb dX10_byRule_41 rfl hl (by decide) rfl (fun ls hl => ?_)
      refine lv_iconst (v := 0) hx hb dX10_byRule_42 (by decide) ?_
      refine lv_istore (lv' := [(4, .int 0), (3, .int 0), (0, .ref a0), (1, .int p1), (2, .int p2)]) hx hb dX10_byRule_43 hl (by decide) rfl (fun ls hl => ?_)
      obtain ⟨k15, e16, hf⟩ := ol hf
      have Xk15 : ∀ (x14 : Int32) (H : Heap) (locs : List Loc) (ls : Array Slot), HI D S r10 s H locs → lv_has ls 5 [(3, .int x14)] → k15 x14 = some r → GI p l e (headSpec wsX10_byRule rmX10_byRule).room s m ([.ref a0, .int p1, .int p2] : List Value).toArray below meth c D S r.1 r.2 H locs 0 0 0 0 (F0 m 84 ls []) := by
        intro x14 H locs ls hH hl hf
        rw [← e16] at hf
        refine lv_iload_n hx hb dX10_byRule_84 rfl (lv_at hl 0 rfl) ?_
        have hr9 := Option.some.inj hf
        subst hr9
        exact e_i hx hb hr hlocks hH dX10_byRule_85
      obtain ⟨o17, eo17, hq17f⟩ := ob hf
      have Lo17 : ∀ (n : Nat) (x12 : Int32) (x13 : Int32), iter (fun (v : Int32 × Int32) => f_X10_byRule_b45 a0 p2 r10 v.1 v.2) n (x12, x13) = some o17 → ∀ (H : Heap) (locs : List Loc) (ls : Array Slot), HI D S r10 s H locs → lv_has ls 5 [(0, .ref a0), (2, .int p2), (3, .int x12), (4, .int x13)] → GI p l e (headSpec wsX10_byRule rmX10_byRule).room s m ([.ref a0, .int p1, .int p2] : List Value).toArray below meth c D S r.1 r.2 H locs 0 0 0 0 (F0 m 45 ls []) := by
        intro n
        induction n with
        | zero => intro x12 x13 hi; cases hi
        | succ n ih17 =>
          intro x12 x13 hi H locs ls hH hl
          obtain ⟨q17_, hf, hq17⟩ := iter_s hi
          have hf : f_X10_byRule_b45 a0 p2 r10 x12 x13 = some q17_ := hf
          unfold f_X10_byRule_b45 at hf
          refine lv_iload hx hb dX10_byRule_45 (lv_at hl 3 rfl) ?_
          refine lv_aload_n hx hb dX10_byRule_47 rfl (lv_at hl 0 rfl) ?_
          obtain ⟨ek18, hf⟩ := oc hf
          refine r_getI hx hb 13 hts (fun w h => List.mem_cons_of_mem _ (mwsX100 w h)) hown hH ek18 (by decide) rfl 42 (by decide) rfl (hts (.fieldLink RX10 236 "HousestyleModel" "taken" "I") (List.mem_cons_of_mem _ gw_36_8)) (fun _ h9 => h9) dX10_byRule_48 ?_
          refine lv_icmp_ge (tgt := 84) hx hb dX10_byRule_51 (by decide) (fun c19 => ?_) (fun c19 => ?_)
          · have hf := ip hf c19
            cases hf
            have hf9 := itR (K := (fun (v : Int32) => k15 v)) hq17 hq17f
            exact Xk15 x12 _ _ ls hH (lv_sub hl [2] rfl) hf9
          · have hf := iq hf c19
            refine lv_iload_n hx hb dX10_byRule_54 rfl (lv_at hl 2 rfl) ?_
            refine lv_aload_n hx hb dX10_byRule_55 rfl (lv_at hl 0 rfl) ?_
            obtain ⟨a20, e21, hf⟩ := ob hf
            refine r_getQ hx hb 13 hts (fun w h => List.mem_cons_of_mem _ (mwsX100 w h)) hown hH ek18 (by decide) rfl 40 (by decide) rfl (hts (.fieldLink RX10 111 "HousestyleModel" "foundRule" "[I") (List.mem_cons_of_mem _ gw_30_22)) (fun _ h9 => h9) dX10_byRule_56 e21 ?_
            refine lv_aload_n hx hb dX10_byRule_59 rfl (lv_at hl 0 rfl) ?_
            obtain ⟨a22, e23, hf⟩ := ob hf
            refine r_getQ hx hb 13 hts (fun w h => List.mem_cons_of_mem _ (mwsX100 w h)) hown hH ek18 (by decide) rfl 43 (by decide) rfl (hts (.fieldLink RX10 117 "HousestyleModel" "takes" "[I") (List.mem_cons_of_mem _ gw_31_0)) (fun _ h9 => h9) dX10_byRule_60 e23 ?_
            refine lv_iload hx hb dX10_byRule_63 (lv_at hl 3 rfl) ?_
            obtain ⟨ek24, hf⟩ := oc hf
            obtain ⟨ei25, hf⟩ := oc hf
            refine r_iald hx hb hH ek24 ei25 dX10_byRule_65 ?_
            obtain ⟨ek26, hf⟩ := oc hf
            obtain ⟨ei27, hf⟩ := oc hf
            refine r_iald hx hb hH ek26 ei27 dX10_byRule_66 ?_
            refine lv_iload_n hx hb dX10_byRule_67 rfl (lv_at hl 1 rfl) ?_
            obtain ⟨j29, e34, hf⟩ := ol hf
            have Jj29 : ∀ (x28 : Int32) (H : Heap) (locs : List Loc) (ls : Array Slot), HI D S r10 s H locs → lv_has ls 5 [(0, .ref a0), (2, .int p2), (4, .int x13)] → j29 x28 = some q17_ → GI p l e (headSpec wsX10_byRule rmX10_byRule).room s m ([.ref a0, .int p1, .int p2] : List Value).toArray below meth c D S r.1 r.2 H locs 0 0 0 0 (F0 m 76 ls [.int x28, .int x12]) := by
              intro x28 H locs ls hH hl hf
              rw [← e34] at hf
              refine lv_iadd hx hb dX10_byRule_76 ?_
              obtain ⟨x30, e31, hf⟩ := ol hf
              refine lv_topE e31 ?_
              refine lv_istore_n (lv' := [(3, .int x30), (0, .ref a0), (2, .int p2), (4, .int x13)]) hx hb dX10_byRule_77 rfl hl (by decide) rfl (fun ls hl => ?_)
              obtain ⟨x32, e33, hf⟩ := ol hf
              refine lv_iinc (v := x32) (lv' := [(4, .int x32), (3, .int x30), (0, .ref a0), (2, .int p2)]) hx hb dX10_byRule_78 hl (k := 3) rfl (by rw [← e33]; rfl) (by decide) rfl (fun ls hl => ?_)
              refine lv_goto (tgt := 45) hx hb dX10_byRule_81 (by decide) ?_
              cases hf
              exact ih17 x30 x32 hq17 _ _ ls hH (lv_sub hl [2, 3, 1, 0] rfl)
            refine lv_icmp_ne (tgt := 75) hx hb dX10_byRule_68 (by decide) (fun c35 => ?_) (fun c35 => ?_)
            · have hf := iq hf c35
              refine lv_iconst (v := 0) hx hb dX10_byRule_75 (by decide) ?_
              exact Jj29 0 _ _ ls hH (lv_sub hl [0, 1, 3] rfl) hf
            · have hf := ip hf c35
              refine lv_iconst (v := 1) hx hb dX10_byRule_71 (by decide) ?_
              refine lv_goto (tgt := 76) hx hb dX10_byRule_72 (by decide) ?_
              exact Jj29 1 _ _ ls hH (lv_sub hl [0, 1, 3] rfl) hf
      exact Lo17 kF 0 0 eo17 _ _ ls hH (lv_sub hl [2, 4, 1, 0] rfl)
    · have hf := iq hf c9
      refine lv_iconst (v := 0) hx hb dX10_byRule_33 (by decide) ?_
      have hr9 := Option.some.inj hf
      subst hr9
      exact e_i hx hb hr hlocks hH dX10_byRule_34
  obtain ⟨j37, e39, hf⟩ := ol hf
  have Jj37 : ∀ (u38 : Unit) (H : Heap) (locs : List Loc) (ls : Array Slot), HI D S S s H locs → lv_has ls 5 [(0, .ref a0), (1, .int p1), (2, .int p2)] → j37 u38 = some r → GI p l e (headSpec wsX10_byRule rmX10_byRule).room s m ([.ref a0, .int p1, .int p2] : List Value).toArray below meth c D S r.1 r.2 H locs 0 0 0 0 (F0 m 22 ls [.ref a0]) := by
    intro u38 H locs ls hH hl hf
    rw [← e39] at hf
    refine lv_iconst (v := 1) hx hb dX10_byRule_22 (by decide) ?_
    exact Jj4 1 _ _ ls hH (lv_sub hl [0, 1, 2] rfl) hf
  refine lv_if_eq (tgt := 22) hx hb dX10_byRule_5 (by decide) (fun c40 => ?_) (fun c40 => ?_)
  · have hf := ip hf c40
    exact Jj37 () _ _ ls hH (lv_sub hl [0, 1, 2] rfl) hf
  · have hf := iq hf c40
    refine lv_iload_n hx hb dX10_byRule_8 rfl (lv_at hl 2 rfl) ?_
    refine lv_iconst (v := 0) hx hb dX10_byRule_9 (by decide) ?_
    refine lv_bipush (v := 20) hx hb dX10_byRule_10 (by decide) ?_
    obtain ⟨r41, e42, hf⟩ := ob hf
    refine r_callSi (As := [.int p2, .int 0, .int 20]) ⟨hx, hb, hml, hown, hts⟩ (c_X10_in l D S p2 0 20 r41 e42) (va_cwS 3 hts (gwS gw_31_8 gw_31_9 gw_31_10 gw_31_4) rfl rfl rfl (by decide +kernel) ⟨Nat.le_of_ble_eq_true rfl, Nat.le_of_ble_eq_true rfl⟩) hH hNE rfl hl.1 rfl (Nat.le_of_ble_eq_true rfl) dX10_byRule_12 ⟨(Nat.le_of_ble_eq_true rfl), (Nat.le_of_ble_eq_true rfl)⟩ (fun H locs hH => ?_)
    refine lv_if_eq (tgt := 22) hx hb dX10_byRule_15 (by decide) (fun c43 => ?_) (fun c43 => ?_)
    · have hf := ip hf c43
      exact Jj37 () _ _ ls hH (lv_sub hl [0, 1, 2] rfl) hf
    · have hf := iq hf c43
      refine lv_iconst (v := 0) hx hb dX10_byRule_18 (by decide) ?_
      refine lv_goto (tgt := 23) hx hb dX10_byRule_19 (by decide) ?_
      exact Jj4 0 _ _ ls hH (lv_sub hl [0, 1, 2] rfl) hf
set_option maxRecDepth 100000 in
def f_X10_byWriter_b44 (a0 : Nat) (p2 : Int32) (r10 : PS) (x12 : Int32) (x13 : Int32) : Option ((Int32 × Int32) ⊕ ((Int32))) := if kK r10 a0 = 14 then (if (kI r10 a0 42) ≤ x13 then (some (.inr x12)) else ((kQ r10 a0 2).bind fun a20 => (kQ r10 a0 43).bind fun a22 => if kK r10 a22 = 101 then (if ¬ (x13 < 0 ∨ kN r10 a22 ≤ x13.toNatClampNeg) then ((f_X10_placeOf r10 a0 (kI r10 a22 x13.toNatClampNeg)).bind fun r26 => if kK r10 a20 = 101 then (if ¬ (r26 < 0 ∨ kN r10 a20 ≤ r26.toNatClampNeg) then (lt (fun (x30 : Int32) => lt (x12 + x30) fun x32 => lt (x13 + 1) fun x34 => some (.inl (x32, x34))) fun j31 => if (kI r10 a20 r26.toNatClampNeg) = p2 then (j31 1) else (j31 0)) else none) else none) else none) else none)) else none
set_option maxRecDepth 100000 in
def f_X10_byWriter (S : PS) (a0 : Nat) (p1 : Int32) (p2 : Int32) : Option (PS × Int32) := (f_X10_isDesk S p1).bind fun r1 => lt (fun (x3 : Int32) => if kK S a0 = 14 then (lt (wI S a0 0 x3) fun S6 => if kK S6 a0 = 14 then (if (kI S6 a0 0) ≤ 0 then ((f_X10_look S6 a0 p1).bind fun r10 => lt (fun (x14 : Int32) => some (r10, x14)) fun k15 => (iter (fun (v : Int32 × Int32) => f_X10_byWriter_b44 a0 p2 r10 v.1 v.2) kF (0, 0)).bind (fun (v : Int32) => k15 v)) else (some (S6, 0))) else none) else none) fun j4 => lt (fun (u40 : Unit) => j4 1) fun j39 => if r1 = 0 then (j39 ()) else ((f_X10_in S p2 0 3).bind fun r43 => if r43 = 0 then (j39 ()) else (j4 0))
abbrev rmX10_byWriter : Room := { frames := 4, cells := 0, slots := 0, locals := 100 }
set_option maxHeartbeats 4000000 in
set_option maxRecDepth 100000 in
theorem c_X10_byWriter (l : Launch) (D : va_G × Nat) (S : PS) (a0 : Nat) (p1 : Int32) (p2 : Int32) (r : PS × Int32) (hf : f_X10_byWriter S a0 p1 p2 = some r) : MI l D yX10_byWriter wsX10_byWriter rmX10_byWriter S [.ref a0, .int p1, .int p2] r.1 r.2 0 0 := by
  unfold f_X10_byWriter at hf
  refine Met.ofW (cc := cX10_byWriter) (maxL := 5) (ret := (some .int)) (by decide) rfl ?_
  intro p e s m args below meth c s₁ B hml hv
  obtain ⟨rfl, hH0, hNE⟩ := hv
  have hx := B.exec
  have hb := B.bytes
  have hr := B.returns
  have hts := atoms_spec (ws := wsX10_byWriter) B.pre
  have hown : s.vm.findClass RX10 = some m.cls := findClass_of_methodNamed B.named
  have hlocks := B.notSynchronized
  have hH : HI D S S s s.heap [] := HI.start hH0
  have hl := lv_entry ([.ref a0, .int p1, .int p2]) (n := 5) (Nat.le_of_ble_eq_true rfl)
  rw [lg_entry_eq]
  generalize (lg_sl ([.ref a0, .int p1, .int p2]) ++ List.replicate (5 - (lg_sl ([.ref a0, .int p1, .int p2])).length) Slot.unset).toArray = ls at hl ⊢
  have hl : lv_has ls 5 [(0, .ref a0), (1, .int p1), (2, .int p2)] := hl
  refine lv_aload_n hx hb dX10_byWriter_0 rfl (lv_at hl 0 rfl) ?_
  refine lv_iload_n hx hb dX10_byWriter_1 rfl (lv_at hl 1 rfl) ?_
  obtain ⟨r1, e2, hf⟩ := ob hf
  refine r_callSi (As := [.int p1]) ⟨hx, hb, hml, hown, hts⟩ (c_X10_isDesk l D S p1 r1 e2) (va_cwS 1 hts (gwS gw_31_12 gw_31_13 gw_31_10 gw_31_7) rfl rfl rfl (by decide +kernel) ⟨Nat.le_of_ble_eq_true rfl, Nat.le_of_ble_eq_true rfl⟩) hH hNE rfl hl.1 rfl (Nat.le_of_ble_eq_true rfl) dX10_byWriter_2 ⟨(Nat.le_of_ble_eq_true rfl), (Nat.le_of_ble_eq_true rfl)⟩ (fun H locs hH => ?_)
  obtain ⟨j4, e38, hf⟩ := ol hf
  have Jj4 : ∀ (x3 : Int32) (H : Heap) (locs : List Loc) (ls : Array Slot), HI D S S s H locs → lv_has ls 5 [(0, .ref a0), (1, .int p1), (2, .int p2)] → j4 x3 = some r → GI p l e (headSpec wsX10_byWriter rmX10_byWriter).room s m ([.ref a0, .int p1, .int p2] : List Value).toArray below meth c D S r.1 r.2 H locs 0 0 0 0 (F0 m 22 ls [.int x3, .ref a0]) := by
    intro x3 H locs ls hH hl hf
    rw [← e38] at hf
    obtain ⟨ek5, hf⟩ := oc hf
    refine r_putI hx hb 13 hts (fun w h => List.mem_cons_of_mem _ (mwsX100 w h)) tyX10 tyX10_ok nmX10 hown hH ek5 (by decide) rfl 0 (by decide) rfl (hts (.fieldLink RX10 123 "HousestyleModel" "thrown" "I") (List.mem_cons_of_mem _ gw_31_3)) (fun _ h9 => h9) (Or.inl rfl) (ty := .int) (by decide +kernel) rfl rfl dX10_byWriter_22 (fun H locs hH => ?_)
    obtain ⟨S6, e7, hf⟩ := ol hf
    rw [e7] at hH
    refine lv_aload_n hx hb dX10_byWriter_25 rfl (lv_at hl 0 rfl) ?_
    obtain ⟨ek8, hf⟩ := oc hf
    refine r_getI hx hb 13 hts (fun w h => List.mem_cons_of_mem _ (mwsX100 w h)) hown hH ek8 (by decide) rfl 0 (by decide) rfl (hts (.fieldLink RX10 123 "HousestyleModel" "thrown" "I") (List.mem_cons_of_mem _ gw_31_3)) (fun _ h9 => h9) dX10_byWriter_26 ?_
    refine lv_if_le (tgt := 34) hx hb dX10_byWriter_29 (by decide) (fun c9 => ?_) (fun c9 => ?_)
    · have hf := ip hf c9
      refine lv_aload_n hx hb dX10_byWriter_34 rfl (lv_at hl 0 rfl) ?_
      refine lv_iload_n hx hb dX10_byWriter_35 rfl (lv_at hl 1 rfl) ?_
      obtain ⟨r10, e11, hf⟩ := ob hf
      refine r_callVv (As := [.int p1]) ⟨hx, hb, hml, hown, hts⟩ (c_X10_look l D S6 a0 p1 r10 e11) (cwV 1 hts (gwV gw_36_23 gw_37_0 gw_37_1 gw_31_10 gw_36_9) rfl rfl rfl (by decide +kernel) ⟨Nat.le_of_ble_eq_true rfl, Nat.le_of_ble_eq_true rfl⟩) hH hNE 13 ek8 (by decide) rfl rfl rfl hl.1 rfl (Nat.le_of_ble_eq_true rfl) dX10_byWriter_36 ⟨(Nat.le_of_ble_eq_true rfl), (Nat.le_of_ble_eq_true rfl)⟩ (fun H locs hH => ?_)
      refine lv_iconst (v := 0) hx hb dX10_byWriter_39 (by decide) ?_
      refine lv_istore_n (lv' := [(3, .int 0), (0, .ref a0), (1, .int p1), (2, .int p2)]) hx hb dX10_byWriter_40 rfl hl (by decide) rfl (fun ls hl => ?_)
      refine lv_iconst (v := 0) hx hb dX10_byWriter_41 (by decide) ?_
      refine lv_istore (lv' := [(4, .int 0), (3, .int 0), (0, .ref a0), (1, .int p1), (2, .int p2)]) hx hb dX10_byWriter_42 hl (by decide) rfl (fun ls hl => ?_)
      obtain ⟨k15, e16, hf⟩ := ol hf
      have Xk15 : ∀ (x14 : Int32) (H : Heap) (locs : List Loc) (ls : Array Slot), HI D S r10 s H locs → lv_has ls 5 [(3, .int x14)] → k15 x14 = some r → GI p l e (headSpec wsX10_byWriter rmX10_byWriter).room s m ([.ref a0, .int p1, .int p2] : List Value).toArray below meth c D S r.1 r.2 H locs 0 0 0 0 (F0 m 87 ls []) := by
        intro x14 H locs ls hH hl hf
        rw [← e16] at hf
        refine lv_iload_n hx hb dX10_byWriter_87 rfl (lv_at hl 0 rfl) ?_
        have hr9 := Option.some.inj hf
        subst hr9
        exact e_i hx hb hr hlocks hH dX10_byWriter_88
      obtain ⟨o17, eo17, hq17f⟩ := ob hf
      have Lo17 : ∀ (n : Nat) (x12 : Int32) (x13 : Int32), iter (fun (v : Int32 × Int32) => f_X10_byWriter_b44 a0 p2 r10 v.1 v.2) n (x12, x13) = some o17 → ∀ (H : Heap) (locs : List Loc) (ls : Array Slot), HI D S r10 s H locs → lv_has ls 5 [(0, .ref a0), (2, .int p2), (3, .int x12), (4, .int x13)] → GI p l e (headSpec wsX10_byWriter rmX10_byWriter).room s m ([.ref a0, .int p1, .int p2] : List Value).toArray below meth c D S r.1 r.2 H locs 0 0 0 0 (F0 m 44 ls []) := by
        intro n
        induction n with
        | zero => intro x12 x13 hi; cases hi
        | succ n ih17 =>
          intro x12 x13 hi H locs ls hH hl
          obtain ⟨q17_, hf, hq17⟩ := iter_s hi
          have hf : f_X10_byWriter_b44 a0 p2 r10 x12 x13 = some q17_ := hf
          unfold f_X10_byWriter_b44 at hf
          refine lv_iload hx hb dX10_byWriter_44 (lv_at hl 3 rfl) ?_
          refine lv_aload_n hx hb dX10_byWriter_46 rfl (lv_at hl 0 rfl) ?_
          obtain ⟨ek18, hf⟩ := oc hf
          refine r_getI hx hb 13 hts (fun w h => List.mem_cons_of_mem _ (mwsX100 w h)) hown hH ek18 (by decide) rfl 42 (by decide) rfl (hts (.fieldLink RX10 236 "HousestyleModel" "taken" "I") (List.mem_cons_of_mem _ gw_36_8)) (fun _ h9 => h9) dX10_byWriter_47 ?_
          refine lv_icmp_ge (tgt := 87) hx hb dX10_byWriter_50 (by decide) (fun c19 => ?_) (fun c19 => ?_)
          · have hf := ip hf c19
            cases hf
            have hf9 := itR (K := (fun (v : Int32) => k15 v)) hq17 hq17f
            exact Xk15 x12 _ _ ls hH (lv_sub hl [2] rfl) hf9
          · have hf := iq hf c19
            refine lv_iload_n hx hb dX10_byWriter_53 rfl (lv_at hl 2 rfl) ?_
            refine lv_aload_n hx hb dX10_byWriter_54 rfl (lv_at hl 0 rfl) ?_
            obtain ⟨a20, e21, hf⟩ := ob hf
            refine r_getQ hx hb 13 hts (fun w h => List.mem_cons_of_mem _ (mwsX100 w h)) hown hH ek18 (by decide) rfl 2 (by decide) rfl (hts (.fieldLink RX10 13 "HousestyleModel" "writers" "[I") (List.mem_cons_of_mem _ gw_29_13)) (fun _ h9 => h9) dX10_byWriter_55 e21 ?_
            refine lv_aload_n hx hb dX10_byWriter_58 rfl (lv_at hl 0 rfl) ?_
            refine lv_aload_n hx hb dX10_byWriter_59 rfl (lv_at hl 0 rfl) ?_
            obtain ⟨a22, e23, hf⟩ := ob hf
            refine r_getQ hx hb 13 hts (fun w h => List.mem_cons_of_mem _ (mwsX100 w h)) hown hH ek18 (by decide) rfl 43 (by decide) rfl (hts (.fieldLink RX10 117 "HousestyleModel" "takes" "[I") (List.mem_cons_of_mem _ gw_31_0)) (fun _ h9 => h9) dX10_byWriter_60 e23 ?_
            refine lv_iload hx hb dX10_byWriter_63 (lv_at hl 3 rfl) ?_
            obtain ⟨ek24, hf⟩ := oc hf
            obtain ⟨ei25, hf⟩ := oc hf
            refine r_iald hx hb hH ek24 ei25 dX10_byWriter_65 ?_
            obtain ⟨r26, e27, hf⟩ := ob hf
            refine r_callVi (As := [.int (kI r10 a22 x13.toNatClampNeg)]) ⟨hx, hb, hml, hown, hts⟩ (c_X10_placeOf l D r10 a0 (kI r10 a22 x13.toNatClampNeg) r26 e27) (cwV 1 hts (gwV gw_36_4 gw_36_5 gw_36_6 gw_31_10 gw_36_2) rfl rfl rfl (by decide +kernel) ⟨Nat.le_of_ble_eq_true rfl, Nat.le_of_ble_eq_true rfl⟩) hH hNE 13 ek18 (by decide) rfl rfl rfl hl.1 rfl (Nat.le_of_ble_eq_true rfl) dX10_byWriter_66 ⟨(Nat.le_of_ble_eq_true rfl), (Nat.le_of_ble_eq_true rfl)⟩ (fun H locs hH => ?_)
            obtain ⟨ek28, hf⟩ := oc hf
            obtain ⟨ei29, hf⟩ := oc hf
            refine r_iald hx hb hH ek28 ei29 dX10_byWriter_69 ?_
            refine lv_iload_n hx hb dX10_byWriter_70 rfl (lv_at hl 1 rfl) ?_
            obtain ⟨j31, e36, hf⟩ := ol hf
            have Jj31 : ∀ (x30 : Int32) (H : Heap) (locs : List Loc) (ls : Array Slot), HI D S r10 s H locs → lv_has ls 5 [(0, .ref a0), (2, .int p2), (4, .int x13)] → j31 x30 = some q17_ → GI p l e (headSpec wsX10_byWriter rmX10_byWriter).room s m ([.ref a0, .int p1, .int p2] : List Value).toArray below meth c D S r.1 r.2 H locs 0 0 0 0 (F0 m 79 ls [.int x30, .int x12]) := by
              intro x30 H locs ls hH hl hf
              rw [← e36] at hf
              refine lv_iadd hx hb dX10_byWriter_79 ?_
              obtain ⟨x32, e33, hf⟩ := ol hf
              refine lv_topE e33 ?_
              refine lv_istore_n (lv' := [(3, .int x32), (0, .ref a0), (2, .int p2), (4, .int x13)]) hx hb dX10_byWriter_80 rfl hl (by decide) rfl (fun ls hl => ?_)
              obtain ⟨x34, e35, hf⟩ := ol hf
              refine lv_iinc (v := x34) (lv' := [(4, .int x34), (3, .int x32), (0, .ref a0), (2, .int p2)]) hx hb dX10_byWriter_81 hl (k := 3) rfl (by rw [← e35]; rfl) (by decide) rfl (fun ls hl => ?_)
              refine lv_goto (tgt := 44) hx hb dX10_byWriter_84 (by decide) ?_
              cases hf
              exact ih17 x32 x34 hq17 _ _ ls hH (lv_sub hl [2, 3, 1, 0] rfl)
            refine lv_icmp_ne (tgt := 78) hx hb dX10_byWriter_71 (by decide) (fun c37 => ?_) (fun c37 => ?_)
            · have hf := iq hf c37
              refine lv_iconst (v := 0) hx hb dX10_byWriter_78 (by decide) ?_
              exact Jj31 0 _ _ ls hH (lv_sub hl [0, 1, 3] rfl) hf
            · have hf := ip hf c37
              refine lv_iconst (v := 1) hx hb dX10_byWriter_74 (by decide) ?_
              refine lv_goto (tgt := 79) hx hb dX10_byWriter_75 (by decide) ?_
              exact Jj31 1 _ _ ls hH (lv_sub hl [0, 1, 3] rfl) hf
      exact Lo17 kF 0 0 eo17 _ _ ls hH (lv_sub hl [2, 4, 1, 0] rfl)
    · have hf := iq hf c9
      refine lv_iconst (v := 0) hx hb dX10_byWriter_32 (by decide) ?_
      have hr9 := Option.some.inj hf
      subst hr9
      exact e_i hx hb hr hlocks hH dX10_byWriter_33
  obtain ⟨j39, e41, hf⟩ := ol hf
  have Jj39 : ∀ (u40 : Unit) (H : Heap) (locs : List Loc) (ls : Array Slot), HI D S S s H locs → lv_has ls 5 [(0, .ref a0), (1, .int p1), (2, .int p2)] → j39 u40 = some r → GI p l e (headSpec wsX10_byWriter rmX10_byWriter).room s m ([.ref a0, .int p1, .int p2] : List Value).toArray below meth c D S r.1 r.2 H locs 0 0 0 0 (F0 m 21 ls [.ref a0]) := by
    intro u40 H locs ls hH hl hf
    rw [← e41] at hf
    refine lv_iconst (v := 1) hx hb dX10_byWriter_21 (by decide) ?_
    exact Jj4 1 _ _ ls hH (lv_sub hl [0, 1, 2] rfl) hf
  refine lv_if_eq (tgt := 21) hx hb dX10_byWriter_5 (by decide) (fun c42 => ?_) (fun c42 => ?_)
  · have hf := ip hf c42
    exact Jj39 () _ _ ls hH (lv_sub hl [0, 1, 2] rfl) hf
  · have hf := iq hf c42
    refine lv_iload_n hx hb dX10_byWriter_8 rfl (lv_at hl 2 rfl) ?_
    refine lv_iconst (v := 0) hx hb dX10_byWriter_9 (by decide) ?_
    refine lv_iconst (v := 3) hx hb dX10_byWriter_10 (by decide) ?_
    obtain ⟨r43, e44, hf⟩ := ob hf
    refine r_callSi (As := [.int p2, .int 0, .int 3]) ⟨hx, hb, hml, hown, hts⟩ (c_X10_in l D S p2 0 3 r43 e44) (va_cwS 3 hts (gwS gw_31_8 gw_31_9 gw_31_10 gw_31_4) rfl rfl rfl (by decide +kernel) ⟨Nat.le_of_ble_eq_true rfl, Nat.le_of_ble_eq_true rfl⟩) hH hNE rfl hl.1 rfl (Nat.le_of_ble_eq_true rfl) dX10_byWriter_11 ⟨(Nat.le_of_ble_eq_true rfl), (Nat.le_of_ble_eq_true rfl)⟩ (fun H locs hH => ?_)
    refine lv_if_eq (tgt := 21) hx hb dX10_byWriter_14 (by decide) (fun c45 => ?_) (fun c45 => ?_)
    · have hf := ip hf c45
      exact Jj39 () _ _ ls hH (lv_sub hl [0, 1, 2] rfl) hf
    · have hf := iq hf c45
      refine lv_iconst (v := 0) hx hb dX10_byWriter_17 (by decide) ?_
      refine lv_goto (tgt := 22) hx hb dX10_byWriter_18 (by decide) ?_
      exact Jj4 0 _ _ ls hH (lv_sub hl [0, 1, 2] rfl) hf
set_option maxRecDepth 100000 in
def f_X10_checksum_b46 (a0 : Nat) (r10 : PS) (y12 : Int64) (x13 : Int32) : Option ((Int64 × Int32) ⊕ ((Int64))) := if kK r10 a0 = 14 then (if (kI r10 a0 42) ≤ x13 then (some (.inr y12)) else ((kQ r10 a0 43).bind fun a20 => if kK r10 a20 = 101 then (if ¬ (x13 < 0 ∨ kN r10 a20 ≤ x13.toNatClampNeg) then ((f_X10_placeOf r10 a0 (kI r10 a20 x13.toNatClampNeg)).bind fun r24 => lt ((31 * y12) + (r24.toInt64)) fun y26 => (kQ r10 a0 40).bind fun a28 => if ¬ (x13 < 0 ∨ kN r10 a20 ≤ x13.toNatClampNeg) then (if kK r10 a28 = 101 then (if ¬ ((kI r10 a20 x13.toNatClampNeg) < 0 ∨ kN r10 a28 ≤ (kI r10 a20 x13.toNatClampNeg).toNatClampNeg) then (lt ((31 * y26) + ((kI r10 a28 (kI r10 a20 x13.toNatClampNeg).toNatClampNeg)).toInt64) fun y33 => lt (x13 + 1) fun x35 => some (.inl (y33, x35))) else none) else none) else none) else none) else none)) else none
set_option maxRecDepth 100000 in
def f_X10_checksum_b11 (a0 : Nat) (S2 : PS) (y4 : Int64) (x5 : Int32) : Option ((Int64 × Int32) ⊕ ((Int64))) := if kK S2 a0 = 14 then (if (kI S2 a0 3) ≤ x5 then (some (.inr y4)) else ((kQ S2 a0 1).bind fun a40 => if kK S2 a40 = 102 then (if ¬ (x5 < 0 ∨ kN S2 a40 ≤ x5.toNatClampNeg) then (lt ((31 * y4) + ((kI S2 a40 x5.toNatClampNeg)).toInt64) fun y44 => lt (x5 + 1) fun x46 => some (.inl (y44, x46))) else none) else none)) else none
set_option maxRecDepth 100000 in
def f_X10_checksum (S : PS) (a0 : Nat) : Option (PS × Int64) := if kK S a0 = 14 then (lt (wI S a0 0 0) fun S2 => lt (fun (y6 : Int64) => if kK S2 a0 = 14 then ((f_X10_look S2 a0 0).bind fun r10 => lt (fun (y14 : Int64) => some (r10, y14)) fun k15 => (iter (fun (v : Int64 × Int32) => f_X10_checksum_b46 a0 r10 v.1 v.2) kF (y6, 0)).bind (fun (v : Int64) => k15 v)) else none) fun k7 => (iter (fun (v : Int64 × Int32) => f_X10_checksum_b11 a0 S2 v.1 v.2) kF (7, 0)).bind (fun (v : Int64) => k7 v)) else none
abbrev rmX10_checksum : Room := { frames := 4, cells := 0, slots := 0, locals := 100 }
set_option maxHeartbeats 4000000 in
set_option maxRecDepth 100000 in
theorem c_X10_checksum (l : Launch) (D : va_G × Nat) (S : PS) (a0 : Nat) (r : PS × Int64) (hf : f_X10_checksum S a0 = some r) : ML l D yX10_checksum wsX10_checksum rmX10_checksum S [.ref a0] r.1 r.2 0 0 := by
  unfold f_X10_checksum at hf
  refine Met.ofW (cc := cX10_checksum) (maxL := 4) (ret := (some .long)) (by decide) rfl ?_
  intro p e s m args below meth c s₁ B hml hv
  obtain ⟨rfl, hH0, hNE⟩ := hv
  have hx := B.exec
  have hb := B.bytes
  have hr := B.returns
  have hts := atoms_spec (ws := wsX10_checksum) B.pre
  have hown : s.vm.findClass RX10 = some m.cls := findClass_of_methodNamed B.named
  have hlocks := B.notSynchronized
  have hH : HI D S S s s.heap [] := HI.start hH0
  have hl := lv_entry ([.ref a0]) (n := 4) (Nat.le_of_ble_eq_true rfl)
  rw [lg_entry_eq]
  generalize (lg_sl ([.ref a0]) ++ List.replicate (4 - (lg_sl ([.ref a0])).length) Slot.unset).toArray = ls at hl ⊢
  have hl : lv_has ls 4 [(0, .ref a0)] := hl
  refine lv_aload_n hx hb dX10_checksum_0 rfl (lv_at hl 0 rfl) ?_
  refine lv_iconst (v := 0) hx hb dX10_checksum_1 (by decide) ?_
  obtain ⟨ek1, hf⟩ := oc hf
  refine r_putI hx hb 13 hts (fun w h => List.mem_cons_of_mem _ (mwsX100 w h)) tyX10 tyX10_ok nmX10 hown hH ek1 (by decide) rfl 0 (by decide) rfl (hts (.fieldLink RX10 123 "HousestyleModel" "thrown" "I") (List.mem_cons_of_mem _ gw_31_3)) (fun _ h9 => h9) (Or.inl rfl) (ty := .int) (by decide +kernel) rfl rfl dX10_checksum_2 (fun H locs hH => ?_)
  obtain ⟨S2, e3, hf⟩ := ol hf
  rw [e3] at hH
  refine lv_ldc2 hx hb hown (hts (.constantLong RX10 273 (7)) (List.mem_cons_of_mem _ gw_38_11)) dX10_checksum_5 ?_
  refine lv_lstore_n (lv' := [(1, .long 7), (0, .ref a0)]) hx hb dX10_checksum_8 rfl hl (by decide) rfl (fun ls hl => ?_)
  refine lv_iconst (v := 0) hx hb dX10_checksum_9 (by decide) ?_
  refine lv_istore_n (lv' := [(3, .int 0), (1, .long 7), (0, .ref a0)]) hx hb dX10_checksum_10 rfl hl (by decide) rfl (fun ls hl => ?_)
  obtain ⟨k7, e8, hf⟩ := ol hf
  have Xk7 : ∀ (y6 : Int64) (H : Heap) (locs : List Loc) (ls : Array Slot), HI D S S2 s H locs → lv_has ls 4 [(0, .ref a0), (1, .long y6)] → k7 y6 = some r → GL p l e (headSpec wsX10_checksum rmX10_checksum).room s m ([.ref a0] : List Value).toArray below meth c D S r.1 r.2 H locs 0 0 0 0 (F0 m 39 ls []) := by
    intro y6 H locs ls hH hl hf
    rw [← e8] at hf
    refine lv_aload_n hx hb dX10_checksum_39 rfl (lv_at hl 0 rfl) ?_
    refine lv_iconst (v := 0) hx hb dX10_checksum_40 (by decide) ?_
    obtain ⟨ek9, hf⟩ := oc hf
    obtain ⟨r10, e11, hf⟩ := ob hf
    refine r_callVv (As := [.int 0]) ⟨hx, hb, hml, hown, hts⟩ (c_X10_look l D S2 a0 0 r10 e11) (cwV 1 hts (gwV gw_36_23 gw_37_0 gw_37_1 gw_31_10 gw_36_9) rfl rfl rfl (by decide +kernel) ⟨Nat.le_of_ble_eq_true rfl, Nat.le_of_ble_eq_true rfl⟩) hH hNE 13 ek9 (by decide) rfl rfl rfl hl.1 rfl (Nat.le_of_ble_eq_true rfl) dX10_checksum_41 ⟨(Nat.le_of_ble_eq_true rfl), (Nat.le_of_ble_eq_true rfl)⟩ (fun H locs hH => ?_)
    refine lv_iconst (v := 0) hx hb dX10_checksum_44 (by decide) ?_
    refine lv_istore_n (lv' := [(3, .int 0), (0, .ref a0), (1, .long y6)]) hx hb dX10_checksum_45 rfl hl (by decide) rfl (fun ls hl => ?_)
    obtain ⟨k15, e16, hf⟩ := ol hf
    have Xk15 : ∀ (y14 : Int64) (H : Heap) (locs : List Loc) (ls : Array Slot), HI D S r10 s H locs → lv_has ls 4 [(1, .long y14)] → k15 y14 = some r → GL p l e (headSpec wsX10_checksum rmX10_checksum).room s m ([.ref a0] : List Value).toArray below meth c D S r.1 r.2 H locs 0 0 0 0 (F0 m 97 ls []) := by
      intro y14 H locs ls hH hl hf
      rw [← e16] at hf
      refine lv_lload_n hx hb dX10_checksum_97 rfl (lv_at hl 0 rfl) ?_
      have hr9 := Option.some.inj hf
      subst hr9
      exact e_l hx hb hr hlocks hH dX10_checksum_98
    obtain ⟨o17, eo17, hq17f⟩ := ob hf
    have Lo17 : ∀ (n : Nat) (y12 : Int64) (x13 : Int32), iter (fun (v : Int64 × Int32) => f_X10_checksum_b46 a0 r10 v.1 v.2) n (y12, x13) = some o17 → ∀ (H : Heap) (locs : List Loc) (ls : Array Slot), HI D S r10 s H locs → lv_has ls 4 [(0, .ref a0), (1, .long y12), (3, .int x13)] → GL p l e (headSpec wsX10_checksum rmX10_checksum).room s m ([.ref a0] : List Value).toArray below meth c D S r.1 r.2 H locs 0 0 0 0 (F0 m 46 ls []) := by
      intro n
      induction n with
      | zero => intro y12 x13 hi; cases hi
      | succ n ih17 =>
        intro y12 x13 hi H locs ls hH hl
        obtain ⟨q17_, hf, hq17⟩ := iter_s hi
        have hf : f_X10_checksum_b46 a0 r10 y12 x13 = some q17_ := hf
        unfold f_X10_checksum_b46 at hf
        refine lv_iload_n hx hb dX10_checksum_46 rfl (lv_at hl 2 rfl) ?_
        refine lv_aload_n hx hb dX10_checksum_47 rfl (lv_at hl 0 rfl) ?_
        obtain ⟨ek18, hf⟩ := oc hf
        refine r_getI hx hb 13 hts (fun w h => List.mem_cons_of_mem _ (mwsX100 w h)) hown hH ek18 (by decide) rfl 42 (by decide) rfl (hts (.fieldLink RX10 236 "HousestyleModel" "taken" "I") (List.mem_cons_of_mem _ gw_36_8)) (fun _ h9 => h9) dX10_checksum_48 ?_
        refine lv_icmp_ge (tgt := 97) hx hb dX10_checksum_51 (by decide) (fun c19 => ?_) (fun c19 => ?_)
        · have hf := ip hf c19
          cases hf
          have hf9 := itR (K := (fun (v : Int64) => k15 v)) hq17 hq17f
          exact Xk15 y12 _ _ ls hH (lv_sub hl [1] rfl) hf9
        · have hf := iq hf c19
          refine lv_ldc2 hx hb hown (hts (.constantLong RX10 275 (31)) (List.mem_cons_of_mem _ gw_38_12)) dX10_checksum_54 ?_
          refine lv_lload_n hx hb dX10_checksum_57 rfl (lv_at hl 1 rfl) ?_
          refine lv_lmul hx hb dX10_checksum_58 ?_
          refine lv_aload_n hx hb dX10_checksum_59 rfl (lv_at hl 0 rfl) ?_
          refine lv_aload_n hx hb dX10_checksum_60 rfl (lv_at hl 0 rfl) ?_
          obtain ⟨a20, e21, hf⟩ := ob hf
          refine r_getQ hx hb 13 hts (fun w h => List.mem_cons_of_mem _ (mwsX100 w h)) hown hH ek18 (by decide) rfl 43 (by decide) rfl (hts (.fieldLink RX10 117 "HousestyleModel" "takes" "[I") (List.mem_cons_of_mem _ gw_31_0)) (fun _ h9 => h9) dX10_checksum_61 e21 ?_
          refine lv_iload_n hx hb dX10_checksum_64 rfl (lv_at hl 2 rfl) ?_
          obtain ⟨ek22, hf⟩ := oc hf
          obtain ⟨ei23, hf⟩ := oc hf
          refine r_iald hx hb hH ek22 ei23 dX10_checksum_65 ?_
          obtain ⟨r24, e25, hf⟩ := ob hf
          refine r_callVi (As := [.int (kI r10 a20 x13.toNatClampNeg)]) ⟨hx, hb, hml, hown, hts⟩ (c_X10_placeOf l D r10 a0 (kI r10 a20 x13.toNatClampNeg) r24 e25) (cwV 1 hts (gwV gw_36_4 gw_36_5 gw_36_6 gw_31_10 gw_36_2) rfl rfl rfl (by decide +kernel) ⟨Nat.le_of_ble_eq_true rfl, Nat.le_of_ble_eq_true rfl⟩) hH hNE 13 ek18 (by decide) rfl rfl rfl hl.1 rfl (Nat.le_of_ble_eq_true rfl) dX10_checksum_66 ⟨(Nat.le_of_ble_eq_true rfl), (Nat.le_of_ble_eq_true rfl)⟩ (fun H locs hH => ?_)
          refine lv_i2l hx hb dX10_checksum_69 rfl ?_
          refine lv_ladd hx hb dX10_checksum_70 ?_
          obtain ⟨y26, e27, hf⟩ := ol hf
          refine lv_topEl e27 ?_
          refine lv_lstore_n (lv' := [(1, .long y26), (0, .ref a0), (3, .int x13)]) hx hb dX10_checksum_71 rfl hl (by decide) rfl (fun ls hl => ?_)
          refine lv_ldc2 hx hb hown (hts (.constantLong RX10 275 (31)) (List.mem_cons_of_mem _ gw_38_12)) dX10_checksum_72 ?_
          refine lv_lload_n hx hb dX10_checksum_75 rfl (lv_at hl 0 rfl) ?_
          refine lv_lmul hx hb dX10_checksum_76 ?_
          refine lv_aload_n hx hb dX10_checksum_77 rfl (lv_at hl 1 rfl) ?_
          obtain ⟨a28, e29, hf⟩ := ob hf
          refine r_getQ hx hb 13 hts (fun w h => List.mem_cons_of_mem _ (mwsX100 w h)) hown hH ek18 (by decide) rfl 40 (by decide) rfl (hts (.fieldLink RX10 111 "HousestyleModel" "foundRule" "[I") (List.mem_cons_of_mem _ gw_30_22)) (fun _ h9 => h9) dX10_checksum_78 e29 ?_
          refine lv_aload_n hx hb dX10_checksum_81 rfl (lv_at hl 1 rfl) ?_
          refine r_getQ hx hb 13 hts (fun w h => List.mem_cons_of_mem _ (mwsX100 w h)) hown hH ek18 (by decide) rfl 43 (by decide) rfl (hts (.fieldLink RX10 117 "HousestyleModel" "takes" "[I") (List.mem_cons_of_mem _ gw_31_0)) (fun _ h9 => h9) dX10_checksum_82 e21 ?_
          refine lv_iload_n hx hb dX10_checksum_85 rfl (lv_at hl 2 rfl) ?_
          obtain ⟨ei30, hf⟩ := oc hf
          refine r_iald hx hb hH ek22 ei30 dX10_checksum_86 ?_
          obtain ⟨ek31, hf⟩ := oc hf
          obtain ⟨ei32, hf⟩ := oc hf
          refine r_iald hx hb hH ek31 ei32 dX10_checksum_87 ?_
          refine lv_i2l hx hb dX10_checksum_88 rfl ?_
          refine lv_ladd hx hb dX10_checksum_89 ?_
          obtain ⟨y33, e34, hf⟩ := ol hf
          refine lv_topEl e34 ?_
          refine lv_lstore_n (lv' := [(1, .long y33), (0, .ref a0), (3, .int x13)]) hx hb dX10_checksum_90 rfl hl (by decide) rfl (fun ls hl => ?_)
          obtain ⟨x35, e36, hf⟩ := ol hf
          refine lv_iinc (v := x35) (lv' := [(3, .int x35), (1, .long y33), (0, .ref a0)]) hx hb dX10_checksum_91 hl (k := 2) rfl (by rw [← e36]; rfl) (by decide) rfl (fun ls hl => ?_)
          refine lv_goto (tgt := 46) hx hb dX10_checksum_94 (by decide) ?_
          cases hf
          exact ih17 y33 x35 hq17 _ _ ls hH (lv_sub hl [2, 1, 0] rfl)
    exact Lo17 kF y6 0 eo17 _ _ ls hH (lv_sub hl [1, 2, 0] rfl)
  obtain ⟨o37, eo37, hq37f⟩ := ob hf
  have Lo37 : ∀ (n : Nat) (y4 : Int64) (x5 : Int32), iter (fun (v : Int64 × Int32) => f_X10_checksum_b11 a0 S2 v.1 v.2) n (y4, x5) = some o37 → ∀ (H : Heap) (locs : List Loc) (ls : Array Slot), HI D S S2 s H locs → lv_has ls 4 [(0, .ref a0), (1, .long y4), (3, .int x5)] → GL p l e (headSpec wsX10_checksum rmX10_checksum).room s m ([.ref a0] : List Value).toArray below meth c D S r.1 r.2 H locs 0 0 0 0 (F0 m 11 ls []) := by
    intro n
    induction n with
    | zero => intro y4 x5 hi; cases hi
    | succ n ih37 =>
      intro y4 x5 hi H locs ls hH hl
      obtain ⟨q37_, hf, hq37⟩ := iter_s hi
      have hf : f_X10_checksum_b11 a0 S2 y4 x5 = some q37_ := hf
      unfold f_X10_checksum_b11 at hf
      refine lv_iload_n hx hb dX10_checksum_11 rfl (lv_at hl 2 rfl) ?_
      refine lv_aload_n hx hb dX10_checksum_12 rfl (lv_at hl 0 rfl) ?_
      obtain ⟨ek38, hf⟩ := oc hf
      refine r_getI hx hb 13 hts (fun w h => List.mem_cons_of_mem _ (mwsX100 w h)) hown hH ek38 (by decide) rfl 3 (by decide) rfl (hts (.fieldLink RX10 156 "HousestyleModel" "length" "I") (List.mem_cons_of_mem _ gw_32_2)) (fun _ h9 => h9) dX10_checksum_13 ?_
      refine lv_icmp_ge (tgt := 39) hx hb dX10_checksum_16 (by decide) (fun c39 => ?_) (fun c39 => ?_)
      · have hf := ip hf c39
        cases hf
        have hf9 := itR (K := (fun (v : Int64) => k7 v)) hq37 hq37f
        exact Xk7 y4 _ _ ls hH (lv_sub hl [0, 1] rfl) hf9
      · have hf := iq hf c39
        refine lv_ldc2 hx hb hown (hts (.constantLong RX10 275 (31)) (List.mem_cons_of_mem _ gw_38_12)) dX10_checksum_19 ?_
        refine lv_lload_n hx hb dX10_checksum_22 rfl (lv_at hl 1 rfl) ?_
        refine lv_lmul hx hb dX10_checksum_23 ?_
        refine lv_aload_n hx hb dX10_checksum_24 rfl (lv_at hl 0 rfl) ?_
        obtain ⟨a40, e41, hf⟩ := ob hf
        refine r_getQ hx hb 13 hts (fun w h => List.mem_cons_of_mem _ (mwsX100 w h)) hown hH ek38 (by decide) rfl 1 (by decide) rfl (hts (.fieldLink RX10 7 "HousestyleModel" "text" "[C") (List.mem_cons_of_mem _ gw_29_12)) (fun _ h9 => h9) dX10_checksum_25 e41 ?_
        refine lv_iload_n hx hb dX10_checksum_28 rfl (lv_at hl 2 rfl) ?_
        obtain ⟨ek42, hf⟩ := oc hf
        obtain ⟨ei43, hf⟩ := oc hf
        refine r_cald hx hb hH ek42 ei43 dX10_checksum_29 ?_
        refine lv_i2l hx hb dX10_checksum_30 rfl ?_
        refine lv_ladd hx hb dX10_checksum_31 ?_
        obtain ⟨y44, e45, hf⟩ := ol hf
        refine lv_topEl e45 ?_
        refine lv_lstore_n (lv' := [(1, .long y44), (0, .ref a0), (3, .int x5)]) hx hb dX10_checksum_32 rfl hl (by decide) rfl (fun ls hl => ?_)
        obtain ⟨x46, e47, hf⟩ := ol hf
        refine lv_iinc (v := x46) (lv' := [(3, .int x46), (1, .long y44), (0, .ref a0)]) hx hb dX10_checksum_33 hl (k := 2) rfl (by rw [← e47]; rfl) (by decide) rfl (fun ls hl => ?_)
        refine lv_goto (tgt := 11) hx hb dX10_checksum_36 (by decide) ?_
        cases hf
        exact ih37 y44 x46 hq37 _ _ ls hH (lv_sub hl [2, 1, 0] rfl)
  exact Lo37 kF 7 0 eo37 _ _ ls hH (lv_sub hl [2, 1, 0] rfl)
set_option maxRecDepth 100000 in
def f_X10_foundShare_b45 (a0 : Nat) (r10 : PS) (x12 : Int32) (x13 : Int32) : Option ((Int32 × Int32) ⊕ ((Int32))) := if kK r10 a0 = 14 then (if (kI r10 a0 42) ≤ x13 then (some (.inr x12)) else ((kQ r10 a0 39).bind fun a22 => (kQ r10 a0 43).bind fun a24 => if kK r10 a24 = 101 then (if ¬ (x13 < 0 ∨ kN r10 a24 ≤ x13.toNatClampNeg) then (if kK r10 a22 = 101 then (if ¬ ((kI r10 a24 x13.toNatClampNeg) < 0 ∨ kN r10 a22 ≤ (kI r10 a24 x13.toNatClampNeg).toNatClampNeg) then (if ¬ (x13 < 0 ∨ kN r10 a24 ≤ x13.toNatClampNeg) then ((f_X10_placeOf r10 a0 (kI r10 a24 x13.toNatClampNeg)).bind fun r31 => lt (x12 + ((kI r10 a22 (kI r10 a24 x13.toNatClampNeg).toNatClampNeg) - r31)) fun x33 => lt (x13 + 1) fun x35 => some (.inl (x33, x35))) else none) else none) else none) else none) else none)) else none
set_option maxRecDepth 100000 in
def f_X10_foundShare (S : PS) (a0 : Nat) (p1 : Int32) : Option (PS × UInt32) := (f_X10_isDesk S p1).bind fun r1 => lt (fun (x3 : Int32) => if kK S a0 = 14 then (lt (wI S a0 0 x3) fun S6 => if kK S6 a0 = 14 then (if (kI S6 a0 0) ≤ 0 then ((f_X10_look S6 a0 p1).bind fun r10 => lt (fun (x14 : Int32) => if kK r10 a0 = 14 then (if (FP.fdiv (FP.i2f x14) (FP.i2f ((kI r10 a0 3)))) &&& 0x7fffffff ≤ 0x7f800000 then (some (r10, (FP.fdiv (FP.i2f x14) (FP.i2f ((kI r10 a0 3)))))) else none) else none) fun k15 => (iter (fun (v : Int32 × Int32) => f_X10_foundShare_b45 a0 r10 v.1 v.2) kF (0, 0)).bind (fun (v : Int32) => k15 v)) else (some (S6, FP.fconst0))) else none) else none) fun j4 => if r1 = 0 then (j4 1) else (if kK S a0 = 14 then (if (kI S a0 3) = 0 then (j4 2) else (j4 0)) else none)
abbrev rmX10_foundShare : Room := { frames := 4, cells := 0, slots := 0, locals := 100 }
set_option maxHeartbeats 4000000 in
set_option maxRecDepth 100000 in
theorem c_X10_foundShare (l : Launch) (D : va_G × Nat) (S : PS) (a0 : Nat) (p1 : Int32) (r : PS × UInt32) (hf : f_X10_foundShare S a0 p1 = some r) : MF l D yX10_foundShare wsX10_foundShare rmX10_foundShare S [.ref a0, .int p1] r.1 r.2 0 0 := by
  unfold f_X10_foundShare at hf
  refine Met.ofW (cc := cX10_foundShare) (maxL := 4) (ret := (some .float)) (by decide) rfl ?_
  intro p e s m args below meth c s₁ B hml hv
  obtain ⟨rfl, hH0, hNE⟩ := hv
  have hx := B.exec
  have hb := B.bytes
  have hr := B.returns
  have hts := atoms_spec (ws := wsX10_foundShare) B.pre
  have hown : s.vm.findClass RX10 = some m.cls := findClass_of_methodNamed B.named
  have hlocks := B.notSynchronized
  have hH : HI D S S s s.heap [] := HI.start hH0
  have hl := lv_entry ([.ref a0, .int p1]) (n := 4) (Nat.le_of_ble_eq_true rfl)
  rw [lg_entry_eq]
  generalize (lg_sl ([.ref a0, .int p1]) ++ List.replicate (4 - (lg_sl ([.ref a0, .int p1])).length) Slot.unset).toArray = ls at hl ⊢
  have hl : lv_has ls 4 [(0, .ref a0), (1, .int p1)] := hl
  refine lv_aload_n hx hb dX10_foundShare_0 rfl (lv_at hl 0 rfl) ?_
  refine lv_iload_n hx hb dX10_foundShare_1 rfl (lv_at hl 1 rfl) ?_
  obtain ⟨r1, e2, hf⟩ := ob hf
  refine r_callSi (As := [.int p1]) ⟨hx, hb, hml, hown, hts⟩ (c_X10_isDesk l D S p1 r1 e2) (va_cwS 1 hts (gwS gw_31_12 gw_31_13 gw_31_10 gw_31_7) rfl rfl rfl (by decide +kernel) ⟨Nat.le_of_ble_eq_true rfl, Nat.le_of_ble_eq_true rfl⟩) hH hNE rfl hl.1 rfl (Nat.le_of_ble_eq_true rfl) dX10_foundShare_2 ⟨(Nat.le_of_ble_eq_true rfl), (Nat.le_of_ble_eq_true rfl)⟩ (fun H locs hH => ?_)
  obtain ⟨j4, e37, hf⟩ := ol hf
  have Jj4 : ∀ (x3 : Int32) (H : Heap) (locs : List Loc) (ls : Array Slot), HI D S S s H locs → lv_has ls 4 [(0, .ref a0), (1, .int p1)] → j4 x3 = some r → GF p l e (headSpec wsX10_foundShare rmX10_foundShare).room s m ([.ref a0, .int p1] : List Value).toArray below meth c D S r.1 r.2 H locs 0 0 0 0 (F0 m 24 ls [.int x3, .ref a0]) := by
    intro x3 H locs ls hH hl hf
    rw [← e37] at hf
    obtain ⟨ek5, hf⟩ := oc hf
    refine r_putI hx hb 13 hts (fun w h => List.mem_cons_of_mem _ (mwsX100 w h)) tyX10 tyX10_ok nmX10 hown hH ek5 (by decide) rfl 0 (by decide) rfl (hts (.fieldLink RX10 123 "HousestyleModel" "thrown" "I") (List.mem_cons_of_mem _ gw_31_3)) (fun _ h9 => h9) (Or.inl rfl) (ty := .int) (by decide +kernel) rfl rfl dX10_foundShare_24 (fun H locs hH => ?_)
    obtain ⟨S6, e7, hf⟩ := ol hf
    rw [e7] at hH
    refine lv_aload_n hx hb dX10_foundShare_27 rfl (lv_at hl 0 rfl) ?_
    obtain ⟨ek8, hf⟩ := oc hf
    refine r_getI hx hb 13 hts (fun w h => List.mem_cons_of_mem _ (mwsX100 w h)) hown hH ek8 (by decide) rfl 0 (by decide) rfl (hts (.fieldLink RX10 123 "HousestyleModel" "thrown" "I") (List.mem_cons_of_mem _ gw_31_3)) (fun _ h9 => h9) dX10_foundShare_28 ?_
    refine lv_if_le (tgt := 36) hx hb dX10_foundShare_31 (by decide) (fun c9 => ?_) (fun c9 => ?_)
    · have hf := ip hf c9
      refine lv_aload_n hx hb dX10_foundShare_36 rfl (lv_at hl 0 rfl) ?_
      refine lv_iload_n hx hb dX10_foundShare_37 rfl (lv_at hl 1 rfl) ?_
      obtain ⟨r10, e11, hf⟩ := ob hf
      refine r_callVv (As := [.int p1]) ⟨hx, hb, hml, hown, hts⟩ (c_X10_look l D S6 a0 p1 r10 e11) (cwV 1 hts (gwV gw_36_23 gw_37_0 gw_37_1 gw_31_10 gw_36_9) rfl rfl rfl (by decide +kernel) ⟨Nat.le_of_ble_eq_true rfl, Nat.le_of_ble_eq_true rfl⟩) hH hNE 13 ek8 (by decide) rfl rfl rfl hl.1 rfl (Nat.le_of_ble_eq_true rfl) dX10_foundShare_38 ⟨(Nat.le_of_ble_eq_true rfl), (Nat.le_of_ble_eq_true rfl)⟩ (fun H locs hH => ?_)
      refine lv_iconst (v := 0) hx hb dX10_foundShare_41 (by decide) ?_
      refine lv_istore_n (lv' := [(2, .int 0), (0, .ref a0), (1, .int p1)]) hx hb dX10_foundShare_42 rfl hl (by decide) rfl (fun ls hl => ?_)
      refine lv_iconst (v := 0) hx hb dX10_foundShare_43 (by decide) ?_
      refine lv_istore_n (lv' := [(3, .int 0), (2, .int 0), (0, .ref a0), (1, .int p1)]) hx hb dX10_foundShare_44 rfl hl (by decide) rfl (fun ls hl => ?_)
      obtain ⟨k15, e16, hf⟩ := ol hf
      have Xk15 : ∀ (x14 : Int32) (H : Heap) (locs : List Loc) (ls : Array Slot), HI D S r10 s H locs → lv_has ls 4 [(0, .ref a0), (2, .int x14)] → k15 x14 = some r → GF p l e (headSpec wsX10_foundShare rmX10_foundShare).room s m ([.ref a0, .int p1] : List Value).toArray below meth c D S r.1 r.2 H locs 0 0 0 0 (F0 m 84 ls []) := by
        intro x14 H locs ls hH hl hf
        rw [← e16] at hf
        refine lv_iload_n hx hb dX10_foundShare_84 rfl (lv_at hl 1 rfl) ?_
        refine lv_i2f hx hb dX10_foundShare_85 ?_
        refine lv_aload_n hx hb dX10_foundShare_86 rfl (lv_at hl 0 rfl) ?_
        obtain ⟨ek17, hf⟩ := oc hf
        refine r_getI hx hb 13 hts (fun w h => List.mem_cons_of_mem _ (mwsX100 w h)) hown hH ek17 (by decide) rfl 3 (by decide) rfl (hts (.fieldLink RX10 156 "HousestyleModel" "length" "I") (List.mem_cons_of_mem _ gw_32_2)) (fun _ h9 => h9) dX10_foundShare_87 ?_
        refine lv_i2f hx hb dX10_foundShare_90 ?_
        obtain ⟨en18, hf⟩ := oc hf
        refine lv_fdiv hx hb dX10_foundShare_91 en18 ?_
        have hr9 := Option.some.inj hf
        subst hr9
        exact e_f hx hb hr hlocks hH dX10_foundShare_92
      obtain ⟨o19, eo19, hq19f⟩ := ob hf
      have Lo19 : ∀ (n : Nat) (x12 : Int32) (x13 : Int32), iter (fun (v : Int32 × Int32) => f_X10_foundShare_b45 a0 r10 v.1 v.2) n (x12, x13) = some o19 → ∀ (H : Heap) (locs : List Loc) (ls : Array Slot), HI D S r10 s H locs → lv_has ls 4 [(0, .ref a0), (2, .int x12), (3, .int x13)] → GF p l e (headSpec wsX10_foundShare rmX10_foundShare).room s m ([.ref a0, .int p1] : List Value).toArray below meth c D S r.1 r.2 H locs 0 0 0 0 (F0 m 45 ls []) := by
        intro n
        induction n with
        | zero => intro x12 x13 hi; cases hi
        | succ n ih19 =>
          intro x12 x13 hi H locs ls hH hl
          obtain ⟨q19_, hf, hq19⟩ := iter_s hi
          have hf : f_X10_foundShare_b45 a0 r10 x12 x13 = some q19_ := hf
          unfold f_X10_foundShare_b45 at hf
          refine lv_iload_n hx hb dX10_foundShare_45 rfl (lv_at hl 2 rfl) ?_
          refine lv_aload_n hx hb dX10_foundShare_46 rfl (lv_at hl 0 rfl) ?_
          obtain ⟨ek20, hf⟩ := oc hf
          refine r_getI hx hb 13 hts (fun w h => List.mem_cons_of_mem _ (mwsX100 w h)) hown hH ek20 (by decide) rfl 42 (by decide) rfl (hts (.fieldLink RX10 236 "HousestyleModel" "taken" "I") (List.mem_cons_of_mem _ gw_36_8)) (fun _ h9 => h9) dX10_foundShare_47 ?_
          refine lv_icmp_ge (tgt := 84) hx hb dX10_foundShare_50 (by decide) (fun c21 => ?_) (fun c21 => ?_)
          · have hf := ip hf c21
            cases hf
            have hf9 := itR (K := (fun (v : Int32) => k15 v)) hq19 hq19f
            exact Xk15 x12 _ _ ls hH (lv_sub hl [0, 1] rfl) hf9
          · have hf := iq hf c21
            refine lv_iload_n hx hb dX10_foundShare_53 rfl (lv_at hl 1 rfl) ?_
            refine lv_aload_n hx hb dX10_foundShare_54 rfl (lv_at hl 0 rfl) ?_
            obtain ⟨a22, e23, hf⟩ := ob hf
            refine r_getQ hx hb 13 hts (fun w h => List.mem_cons_of_mem _ (mwsX100 w h)) hown hH ek20 (by decide) rfl 39 (by decide) rfl (hts (.fieldLink RX10 108 "HousestyleModel" "foundTo" "[I") (List.mem_cons_of_mem _ gw_30_21)) (fun _ h9 => h9) dX10_foundShare_55 e23 ?_
            refine lv_aload_n hx hb dX10_foundShare_58 rfl (lv_at hl 0 rfl) ?_
            obtain ⟨a24, e25, hf⟩ := ob hf
            refine r_getQ hx hb 13 hts (fun w h => List.mem_cons_of_mem _ (mwsX100 w h)) hown hH ek20 (by decide) rfl 43 (by decide) rfl (hts (.fieldLink RX10 117 "HousestyleModel" "takes" "[I") (List.mem_cons_of_mem _ gw_31_0)) (fun _ h9 => h9) dX10_foundShare_59 e25 ?_
            refine lv_iload_n hx hb dX10_foundShare_62 rfl (lv_at hl 2 rfl) ?_
            obtain ⟨ek26, hf⟩ := oc hf
            obtain ⟨ei27, hf⟩ := oc hf
            refine r_iald hx hb hH ek26 ei27 dX10_foundShare_63 ?_
            obtain ⟨ek28, hf⟩ := oc hf
            obtain ⟨ei29, hf⟩ := oc hf
            refine r_iald hx hb hH ek28 ei29 dX10_foundShare_64 ?_
            refine lv_aload_n hx hb dX10_foundShare_65 rfl (lv_at hl 0 rfl) ?_
            refine lv_aload_n hx hb dX10_foundShare_66 rfl (lv_at hl 0 rfl) ?_
            refine r_getQ hx hb 13 hts (fun w h => List.mem_cons_of_mem _ (mwsX100 w h)) hown hH ek20 (by decide) rfl 43 (by decide) rfl (hts (.fieldLink RX10 117 "HousestyleModel" "takes" "[I") (List.mem_cons_of_mem _ gw_31_0)) (fun _ h9 => h9) dX10_foundShare_67 e25 ?_
            refine lv_iload_n hx hb dX10_foundShare_70 rfl (lv_at hl 2 rfl) ?_
            obtain ⟨ei30, hf⟩ := oc hf
            refine r_iald hx hb hH ek26 ei30 dX10_foundShare_71 ?_
            obtain ⟨r31, e32, hf⟩ := ob hf
            refine r_callVi (As := [.int (kI r10 a24 x13.toNatClampNeg)]) ⟨hx, hb, hml, hown, hts⟩ (c_X10_placeOf l D r10 a0 (kI r10 a24 x13.toNatClampNeg) r31 e32) (cwV 1 hts (gwV gw_36_4 gw_36_5 gw_36_6 gw_31_10 gw_36_2) rfl rfl rfl (by decide +kernel) ⟨Nat.le_of_ble_eq_true rfl, Nat.le_of_ble_eq_true rfl⟩) hH hNE 13 ek20 (by decide) rfl rfl rfl hl.1 rfl (Nat.le_of_ble_eq_true rfl) dX10_foundShare_72 ⟨(Nat.le_of_ble_eq_true rfl), (Nat.le_of_ble_eq_true rfl)⟩ (fun H locs hH => ?_)
            refine lv_isub hx hb dX10_foundShare_75 ?_
            refine lv_iadd hx hb dX10_foundShare_76 ?_
            obtain ⟨x33, e34, hf⟩ := ol hf
            refine lv_topE e34 ?_
            refine lv_istore_n (lv' := [(2, .int x33), (0, .ref a0), (3, .int x13)]) hx hb dX10_foundShare_77 rfl hl (by decide) rfl (fun ls hl => ?_)
            obtain ⟨x35, e36, hf⟩ := ol hf
            refine lv_iinc (v := x35) (lv' := [(3, .int x35), (2, .int x33), (0, .ref a0)]) hx hb dX10_foundShare_78 hl (k := 2) rfl (by rw [← e36]; rfl) (by decide) rfl (fun ls hl => ?_)
            refine lv_goto (tgt := 45) hx hb dX10_foundShare_81 (by decide) ?_
            cases hf
            exact ih19 x33 x35 hq19 _ _ ls hH (lv_sub hl [2, 1, 0] rfl)
      exact Lo19 kF 0 0 eo19 _ _ ls hH (lv_sub hl [2, 1, 0] rfl)
    · have hf := iq hf c9
      refine lv_fconst0 hx hb dX10_foundShare_34 ?_
      have hr9 := Option.some.inj hf
      subst hr9
      exact e_f hx hb hr hlocks hH dX10_foundShare_35
  refine lv_if_ne (tgt := 12) hx hb dX10_foundShare_5 (by decide) (fun c38 => ?_) (fun c38 => ?_)
  · have hf := iq hf c38
    refine lv_aload_n hx hb dX10_foundShare_12 rfl (lv_at hl 0 rfl) ?_
    obtain ⟨ek39, hf⟩ := oc hf
    refine r_getI hx hb 13 hts (fun w h => List.mem_cons_of_mem _ (mwsX100 w h)) hown hH ek39 (by decide) rfl 3 (by decide) rfl (hts (.fieldLink RX10 156 "HousestyleModel" "length" "I") (List.mem_cons_of_mem _ gw_32_2)) (fun _ h9 => h9) dX10_foundShare_13 ?_
    refine lv_if_ne (tgt := 23) hx hb dX10_foundShare_16 (by decide) (fun c40 => ?_) (fun c40 => ?_)
    · have hf := iq hf c40
      refine lv_iconst (v := 0) hx hb dX10_foundShare_23 (by decide) ?_
      exact Jj4 0 _ _ ls hH (lv_sub hl [0, 1] rfl) hf
    · have hf := ip hf c40
      refine lv_iconst (v := 2) hx hb dX10_foundShare_19 (by decide) ?_
      refine lv_goto (tgt := 24) hx hb dX10_foundShare_20 (by decide) ?_
      exact Jj4 2 _ _ ls hH (lv_sub hl [0, 1] rfl) hf
  · have hf := ip hf c38
    refine lv_iconst (v := 1) hx hb dX10_foundShare_8 (by decide) ?_
    refine lv_goto (tgt := 24) hx hb dX10_foundShare_9 (by decide) ?_
    exact Jj4 1 _ _ ls hH (lv_sub hl [0, 1] rfl) hf
set_option maxRecDepth 100000 in
def f_X10_meanWord_b15 (a0 : Nat) (r5 : PS) (x7 : Int32) (x8 : Int32) (x9 : Int32) : Option ((Int32 × Int32 × Int32) ⊕ ((Int32 × Int32))) := if kK r5 a0 = 14 then (if (kI r5 a0 31) ≤ x9 then (some (.inr (x7, x8))) else ((kQ r5 a0 34).bind fun a27 => if kK r5 a27 = 103 then (if ¬ (x9 < 0 ∨ kN r5 a27 ≤ x9.toNatClampNeg) then (lt (fun (x31 : Int32) => lt (x7 + x31) fun x33 => if ¬ (x9 < 0 ∨ kN r5 a27 ≤ x9.toNatClampNeg) then (lt (fun (x36 : Int32) => lt (x8 + x36) fun x38 => lt (x9 + 1) fun x40 => some (.inl (x33, x38, x40))) fun j37 => if (kI r5 a27 x9.toNatClampNeg) = 0 then (j37 0) else ((kQ r5 a0 33).bind fun a44 => if kK r5 a44 = 101 then (if ¬ (x9 < 0 ∨ kN r5 a44 ≤ x9.toNatClampNeg) then ((kQ r5 a0 32).bind fun a48 => if kK r5 a48 = 101 then (if ¬ (x9 < 0 ∨ kN r5 a48 ≤ x9.toNatClampNeg) then (j37 ((kI r5 a44 x9.toNatClampNeg) - (kI r5 a48 x9.toNatClampNeg))) else none) else none) else none) else none)) else none) fun j32 => if (kI r5 a27 x9.toNatClampNeg) = 0 then (j32 0) else (j32 1)) else none) else none)) else none
set_option maxRecDepth 100000 in
def f_X10_meanWord (S : PS) (a0 : Nat) : Option (PS × UInt64) := if kK S a0 = 14 then (lt (wI S a0 0 0) fun S2 => if kK S2 a0 = 14 then ((f_X10_scan S2 a0).bind fun r5 => lt (fun (x10 : Int32) (x11 : Int32) => lt (fun (x14 : Int32) => if kK r5 a0 = 14 then (lt (wI r5 a0 0 x14) fun S17 => if kK S17 a0 = 14 then (if (kI S17 a0 0) ≤ 0 then (if (FP.ddiv (FP.i2d x11) (FP.i2d x10)) &&& 0x7fffffffffffffff ≤ 0x7ff0000000000000 then (some (S17, (FP.ddiv (FP.i2d x11) (FP.i2d x10)))) else none) else (some (S17, FP.dconst0))) else none) else none) fun j15 => if x10 = 0 then (j15 1) else (j15 0)) fun k12 => (iter (fun (v : Int32 × Int32 × Int32) => f_X10_meanWord_b15 a0 r5 v.1 v.2.1 v.2.2) kF (0, 0, 0)).bind (fun (v : Int32 × Int32) => k12 v.1 v.2)) else none) else none
abbrev rmX10_meanWord : Room := { frames := 2, cells := 0, slots := 0, locals := 46 }
set_option maxHeartbeats 4000000 in
set_option maxRecDepth 100000 in
theorem c_X10_meanWord (l : Launch) (D : va_G × Nat) (S : PS) (a0 : Nat) (r : PS × UInt64) (hf : f_X10_meanWord S a0 = some r) : MD l D yX10_meanWord wsX10_meanWord rmX10_meanWord S [.ref a0] r.1 r.2 0 0 := by
  unfold f_X10_meanWord at hf
  refine Met.ofW (cc := cX10_meanWord) (maxL := 4) (ret := (some .double)) (by decide) rfl ?_
  intro p e s m args below meth c s₁ B hml hv
  obtain ⟨rfl, hH0, hNE⟩ := hv
  have hx := B.exec
  have hb := B.bytes
  have hr := B.returns
  have hts := atoms_spec (ws := wsX10_meanWord) B.pre
  have hown : s.vm.findClass RX10 = some m.cls := findClass_of_methodNamed B.named
  have hlocks := B.notSynchronized
  have hH : HI D S S s s.heap [] := HI.start hH0
  have hl := lv_entry ([.ref a0]) (n := 4) (Nat.le_of_ble_eq_true rfl)
  rw [lg_entry_eq]
  generalize (lg_sl ([.ref a0]) ++ List.replicate (4 - (lg_sl ([.ref a0])).length) Slot.unset).toArray = ls at hl ⊢
  have hl : lv_has ls 4 [(0, .ref a0)] := hl
  refine lv_aload_n hx hb dX10_meanWord_0 rfl (lv_at hl 0 rfl) ?_
  refine lv_iconst (v := 0) hx hb dX10_meanWord_1 (by decide) ?_
  obtain ⟨ek1, hf⟩ := oc hf
  refine r_putI hx hb 13 hts (fun w h => List.mem_cons_of_mem _ (mwsX100 w h)) tyX10 tyX10_ok nmX10 hown hH ek1 (by decide) rfl 0 (by decide) rfl (hts (.fieldLink RX10 123 "HousestyleModel" "thrown" "I") (List.mem_cons_of_mem _ gw_31_3)) (fun _ h9 => h9) (Or.inl rfl) (ty := .int) (by decide +kernel) rfl rfl dX10_meanWord_2 (fun H locs hH => ?_)
  obtain ⟨S2, e3, hf⟩ := ol hf
  rw [e3] at hH
  refine lv_aload_n hx hb dX10_meanWord_5 rfl (lv_at hl 0 rfl) ?_
  obtain ⟨ek4, hf⟩ := oc hf
  obtain ⟨r5, e6, hf⟩ := ob hf
  refine r_callVv (As := []) ⟨hx, hb, hml, hown, hts⟩ (c_X10_scan l D S2 a0 r5 e6) (cwV 0 hts (gwV gw_35_2 gw_35_3 gw_35_4 gw_31_10 gw_34_7) rfl rfl rfl (by decide +kernel) ⟨Nat.le_of_ble_eq_true rfl, Nat.le_of_ble_eq_true rfl⟩) hH hNE 13 ek4 (by decide) rfl rfl rfl hl.1 rfl (Nat.le_of_ble_eq_true rfl) dX10_meanWord_6 ⟨(Nat.le_of_ble_eq_true rfl), (Nat.le_of_ble_eq_true rfl)⟩ (fun H locs hH => ?_)
  refine lv_iconst (v := 0) hx hb dX10_meanWord_9 (by decide) ?_
  refine lv_istore_n (lv' := [(1, .int 0), (0, .ref a0)]) hx hb dX10_meanWord_10 rfl hl (by decide) rfl (fun ls hl => ?_)
  refine lv_iconst (v := 0) hx hb dX10_meanWord_11 (by decide) ?_
  refine lv_istore_n (lv' := [(2, .int 0), (1, .int 0), (0, .ref a0)]) hx hb dX10_meanWord_12 rfl hl (by decide) rfl (fun ls hl => ?_)
  refine lv_iconst (v := 0) hx hb dX10_meanWord_13 (by decide) ?_
  refine lv_istore_n (lv' := [(3, .int 0), (2, .int 0), (1, .int 0), (0, .ref a0)]) hx hb dX10_meanWord_14 rfl hl (by decide) rfl (fun ls hl => ?_)
  obtain ⟨k12, e13, hf⟩ := ol hf
  have Xk12 : ∀ (x10 : Int32) (x11 : Int32) (H : Heap) (locs : List Loc) (ls : Array Slot), HI D S r5 s H locs → lv_has ls 4 [(0, .ref a0), (1, .int x10), (2, .int x11)] → k12 x10 x11 = some r → GD p l e (headSpec wsX10_meanWord rmX10_meanWord).room s m ([.ref a0] : List Value).toArray below meth c D S r.1 r.2 H locs 0 0 0 0 (F0 m 75 ls []) := by
    intro x10 x11 H locs ls hH hl hf
    rw [← e13] at hf
    refine lv_aload_n hx hb dX10_meanWord_75 rfl (lv_at hl 0 rfl) ?_
    refine lv_iload_n hx hb dX10_meanWord_76 rfl (lv_at hl 1 rfl) ?_
    obtain ⟨j15, e22, hf⟩ := ol hf
    have Jj15 : ∀ (x14 : Int32) (H : Heap) (locs : List Loc) (ls : Array Slot), HI D S r5 s H locs → lv_has ls 4 [(0, .ref a0), (1, .int x10), (2, .int x11)] → j15 x14 = some r → GD p l e (headSpec wsX10_meanWord rmX10_meanWord).room s m ([.ref a0] : List Value).toArray below meth c D S r.1 r.2 H locs 0 0 0 0 (F0 m 85 ls [.int x14, .ref a0]) := by
      intro x14 H locs ls hH hl hf
      rw [← e22] at hf
      obtain ⟨ek16, hf⟩ := oc hf
      refine r_putI hx hb 13 hts (fun w h => List.mem_cons_of_mem _ (mwsX100 w h)) tyX10 tyX10_ok nmX10 hown hH ek16 (by decide) rfl 0 (by decide) rfl (hts (.fieldLink RX10 123 "HousestyleModel" "thrown" "I") (List.mem_cons_of_mem _ gw_31_3)) (fun _ h9 => h9) (Or.inl rfl) (ty := .int) (by decide +kernel) rfl rfl dX10_meanWord_85 (fun H locs hH => ?_)
      obtain ⟨S17, e18, hf⟩ := ol hf
      rw [e18] at hH
      refine lv_aload_n hx hb dX10_meanWord_88 rfl (lv_at hl 0 rfl) ?_
      obtain ⟨ek19, hf⟩ := oc hf
      refine r_getI hx hb 13 hts (fun w h => List.mem_cons_of_mem _ (mwsX100 w h)) hown hH ek19 (by decide) rfl 0 (by decide) rfl (hts (.fieldLink RX10 123 "HousestyleModel" "thrown" "I") (List.mem_cons_of_mem _ gw_31_3)) (fun _ h9 => h9) dX10_meanWord_89 ?_
      refine lv_if_le (tgt := 99) hx hb dX10_meanWord_92 (by decide) (fun c20 => ?_) (fun c20 => ?_)
      · have hf := ip hf c20
        refine lv_iload_n hx hb dX10_meanWord_99 rfl (lv_at hl 2 rfl) ?_
        refine lv_i2d hx hb dX10_meanWord_100 ?_
        refine lv_iload_n hx hb dX10_meanWord_101 rfl (lv_at hl 1 rfl) ?_
        refine lv_i2d hx hb dX10_meanWord_102 ?_
        obtain ⟨en21, hf⟩ := oc hf
        refine lv_ddiv hx hb dX10_meanWord_103 en21 ?_
        have hr9 := Option.some.inj hf
        subst hr9
        exact e_d hx hb hr hlocks hH dX10_meanWord_104
      · have hf := iq hf c20
        refine lv_dconst0 hx hb dX10_meanWord_95 ?_
        refine lv_goto (tgt := 104) hx hb dX10_meanWord_96 (by decide) ?_
        have hr9 := Option.some.inj hf
        subst hr9
        exact e_d hx hb hr hlocks hH dX10_meanWord_104
    refine lv_if_ne (tgt := 84) hx hb dX10_meanWord_77 (by decide) (fun c23 => ?_) (fun c23 => ?_)
    · have hf := iq hf c23
      refine lv_iconst (v := 0) hx hb dX10_meanWord_84 (by decide) ?_
      exact Jj15 0 _ _ ls hH (lv_sub hl [0, 1, 2] rfl) hf
    · have hf := ip hf c23
      refine lv_iconst (v := 1) hx hb dX10_meanWord_80 (by decide) ?_
      refine lv_goto (tgt := 85) hx hb dX10_meanWord_81 (by decide) ?_
      exact Jj15 1 _ _ ls hH (lv_sub hl [0, 1, 2] rfl) hf
  obtain ⟨o24, eo24, hq24f⟩ := ob hf
  have Lo24 : ∀ (n : Nat) (x7 : Int32) (x8 : Int32) (x9 : Int32), iter (fun (v : Int32 × Int32 × Int32) => f_X10_meanWord_b15 a0 r5 v.1 v.2.1 v.2.2) n (x7, x8, x9) = some o24 → ∀ (H : Heap) (locs : List Loc) (ls : Array Slot), HI D S r5 s H locs → lv_has ls 4 [(0, .ref a0), (1, .int x7), (2, .int x8), (3, .int x9)] → GD p l e (headSpec wsX10_meanWord rmX10_meanWord).room s m ([.ref a0] : List Value).toArray below meth c D S r.1 r.2 H locs 0 0 0 0 (F0 m 15 ls []) := by
    intro n
    induction n with
    | zero => intro x7 x8 x9 hi; cases hi
    | succ n ih24 =>
      intro x7 x8 x9 hi H locs ls hH hl
      obtain ⟨q24_, hf, hq24⟩ := iter_s hi
      have hf : f_X10_meanWord_b15 a0 r5 x7 x8 x9 = some q24_ := hf
      unfold f_X10_meanWord_b15 at hf
      refine lv_iload_n hx hb dX10_meanWord_15 rfl (lv_at hl 3 rfl) ?_
      refine lv_aload_n hx hb dX10_meanWord_16 rfl (lv_at hl 0 rfl) ?_
      obtain ⟨ek25, hf⟩ := oc hf
      refine r_getI hx hb 13 hts (fun w h => List.mem_cons_of_mem _ (mwsX100 w h)) hown hH ek25 (by decide) rfl 31 (by decide) rfl (hts (.fieldLink RX10 194 "HousestyleModel" "tokens" "I") (List.mem_cons_of_mem _ gw_34_8)) (fun _ h9 => h9) dX10_meanWord_17 ?_
      refine lv_icmp_ge (tgt := 75) hx hb dX10_meanWord_20 (by decide) (fun c26 => ?_) (fun c26 => ?_)
      · have hf := ip hf c26
        cases hf
        have hf9 := itR (K := (fun (v : Int32 × Int32) => k12 v.1 v.2)) hq24 hq24f
        exact Xk12 x7 x8 _ _ ls hH (lv_sub hl [0, 1, 2] rfl) hf9
      · have hf := iq hf c26
        refine lv_iload_n hx hb dX10_meanWord_23 rfl (lv_at hl 1 rfl) ?_
        refine lv_aload_n hx hb dX10_meanWord_24 rfl (lv_at hl 0 rfl) ?_
        obtain ⟨a27, e28, hf⟩ := ob hf
        refine r_getQ hx hb 13 hts (fun w h => List.mem_cons_of_mem _ (mwsX100 w h)) hown hH ek25 (by decide) rfl 34 (by decide) rfl (hts (.fieldLink RX10 96 "HousestyleModel" "isWord" "[Z") (List.mem_cons_of_mem _ gw_30_17)) (fun _ h9 => h9) dX10_meanWord_25 e28 ?_
        refine lv_iload_n hx hb dX10_meanWord_28 rfl (lv_at hl 3 rfl) ?_
        obtain ⟨ek29, hf⟩ := oc hf
        obtain ⟨ei30, hf⟩ := oc hf
        refine r_zald hx hb hH ek29 ei30 dX10_meanWord_29 ?_
        obtain ⟨j32, e52, hf⟩ := ol hf
        have Jj32 : ∀ (x31 : Int32) (H : Heap) (locs : List Loc) (ls : Array Slot), HI D S r5 s H locs → lv_has ls 4 [(0, .ref a0), (2, .int x8), (3, .int x9)] → j32 x31 = some q24_ → GD p l e (headSpec wsX10_meanWord rmX10_meanWord).room s m ([.ref a0] : List Value).toArray below meth c D S r.1 r.2 H locs 0 0 0 0 (F0 m 38 ls [.int x31, .int x7]) := by
          intro x31 H locs ls hH hl hf
          rw [← e52] at hf
          refine lv_iadd hx hb dX10_meanWord_38 ?_
          obtain ⟨x33, e34, hf⟩ := ol hf
          refine lv_topE e34 ?_
          refine lv_istore_n (lv' := [(1, .int x33), (0, .ref a0), (2, .int x8), (3, .int x9)]) hx hb dX10_meanWord_39 rfl hl (by decide) rfl (fun ls hl => ?_)
          refine lv_iload_n hx hb dX10_meanWord_40 rfl (lv_at hl 2 rfl) ?_
          refine lv_aload_n hx hb dX10_meanWord_41 rfl (lv_at hl 1 rfl) ?_
          refine r_getQ hx hb 13 hts (fun w h => List.mem_cons_of_mem _ (mwsX100 w h)) hown hH ek25 (by decide) rfl 34 (by decide) rfl (hts (.fieldLink RX10 96 "HousestyleModel" "isWord" "[Z") (List.mem_cons_of_mem _ gw_30_17)) (fun _ h9 => h9) dX10_meanWord_42 e28 ?_
          refine lv_iload_n hx hb dX10_meanWord_45 rfl (lv_at hl 3 rfl) ?_
          obtain ⟨ei35, hf⟩ := oc hf
          refine r_zald hx hb hH ek29 ei35 dX10_meanWord_46 ?_
          obtain ⟨j37, e42, hf⟩ := ol hf
          have Jj37 : ∀ (x36 : Int32) (H : Heap) (locs : List Loc) (ls : Array Slot), HI D S r5 s H locs → lv_has ls 4 [(0, .ref a0), (1, .int x33), (3, .int x9)] → j37 x36 = some q24_ → GD p l e (headSpec wsX10_meanWord rmX10_meanWord).room s m ([.ref a0] : List Value).toArray below meth c D S r.1 r.2 H locs 0 0 0 0 (F0 m 67 ls [.int x36, .int x8]) := by
            intro x36 H locs ls hH hl hf
            rw [← e42] at hf
            refine lv_iadd hx hb dX10_meanWord_67 ?_
            obtain ⟨x38, e39, hf⟩ := ol hf
            refine lv_topE e39 ?_
            refine lv_istore_n (lv' := [(2, .int x38), (0, .ref a0), (1, .int x33), (3, .int x9)]) hx hb dX10_meanWord_68 rfl hl (by decide) rfl (fun ls hl => ?_)
            obtain ⟨x40, e41, hf⟩ := ol hf
            refine lv_iinc (v := x40) (lv' := [(3, .int x40), (2, .int x38), (0, .ref a0), (1, .int x33)]) hx hb dX10_meanWord_69 hl (k := 3) rfl (by rw [← e41]; rfl) (by decide) rfl (fun ls hl => ?_)
            refine lv_goto (tgt := 15) hx hb dX10_meanWord_72 (by decide) ?_
            cases hf
            exact ih24 x33 x38 x40 hq24 _ _ ls hH (lv_sub hl [2, 3, 1, 0] rfl)
          refine lv_if_eq (tgt := 66) hx hb dX10_meanWord_47 (by decide) (fun c43 => ?_) (fun c43 => ?_)
          · have hf := ip hf c43
            refine lv_iconst (v := 0) hx hb dX10_meanWord_66 (by decide) ?_
            exact Jj37 0 _ _ ls hH (lv_sub hl [1, 0, 3] rfl) hf
          · have hf := iq hf c43
            refine lv_aload_n hx hb dX10_meanWord_50 rfl (lv_at hl 1 rfl) ?_
            obtain ⟨a44, e45, hf⟩ := ob hf
            refine r_getQ hx hb 13 hts (fun w h => List.mem_cons_of_mem _ (mwsX100 w h)) hown hH ek25 (by decide) rfl 33 (by decide) rfl (hts (.fieldLink RX10 93 "HousestyleModel" "to" "[I") (List.mem_cons_of_mem _ gw_30_16)) (fun _ h9 => h9) dX10_meanWord_51 e45 ?_
            refine lv_iload_n hx hb dX10_meanWord_54 rfl (lv_at hl 3 rfl) ?_
            obtain ⟨ek46, hf⟩ := oc hf
            obtain ⟨ei47, hf⟩ := oc hf
            refine r_iald hx hb hH ek46 ei47 dX10_meanWord_55 ?_
            refine lv_aload_n hx hb dX10_meanWord_56 rfl (lv_at hl 1 rfl) ?_
            obtain ⟨a48, e49, hf⟩ := ob hf
            refine r_getQ hx hb 13 hts (fun w h => List.mem_cons_of_mem _ (mwsX100 w h)) hown hH ek25 (by decide) rfl 32 (by decide) rfl (hts (.fieldLink RX10 90 "HousestyleModel" "from" "[I") (List.mem_cons_of_mem _ gw_30_15)) (fun _ h9 => h9) dX10_meanWord_57 e49 ?_
            refine lv_iload_n hx hb dX10_meanWord_60 rfl (lv_at hl 3 rfl) ?_
            obtain ⟨ek50, hf⟩ := oc hf
            obtain ⟨ei51, hf⟩ := oc hf
            refine r_iald hx hb hH ek50 ei51 dX10_meanWord_61 ?_
            refine lv_isub hx hb dX10_meanWord_62 ?_
            refine lv_goto (tgt := 67) hx hb dX10_meanWord_63 (by decide) ?_
            exact Jj37 ((kI r5 a44 x9.toNatClampNeg) - (kI r5 a48 x9.toNatClampNeg)) _ _ ls hH (lv_sub hl [1, 0, 3] rfl) hf
        refine lv_if_eq (tgt := 37) hx hb dX10_meanWord_30 (by decide) (fun c53 => ?_) (fun c53 => ?_)
        · have hf := ip hf c53
          refine lv_iconst (v := 0) hx hb dX10_meanWord_37 (by decide) ?_
          exact Jj32 0 _ _ ls hH (lv_sub hl [0, 2, 3] rfl) hf
        · have hf := iq hf c53
          refine lv_iconst (v := 1) hx hb dX10_meanWord_33 (by decide) ?_
          refine lv_goto (tgt := 38) hx hb dX10_meanWord_34 (by decide) ?_
          exact Jj32 1 _ _ ls hH (lv_sub hl [0, 2, 3] rfl) hf
  exact Lo24 kF 0 0 0 eo24 _ _ ls hH (lv_sub hl [3, 2, 1, 0] rfl)
set_option maxRecDepth 100000 in
def f_X10_isSound (S : PS) (a0 : Nat) : Option (PS × Int32) := if kK S a0 = 14 then (lt (wI S a0 0 0) fun S2 => some (S2, 1)) else none
abbrev rmX10_isSound : Room := { frames := 0, cells := 0, slots := 0, locals := 0 }
set_option maxHeartbeats 4000000 in
set_option maxRecDepth 100000 in
theorem c_X10_isSound (l : Launch) (D : va_G × Nat) (S : PS) (a0 : Nat) (r : PS × Int32) (hf : f_X10_isSound S a0 = some r) : MI l D yX10_isSound wsX10_isSound rmX10_isSound S [.ref a0] r.1 r.2 0 0 := by
  unfold f_X10_isSound at hf
  refine Met.ofW (cc := cX10_isSound) (maxL := 1) (ret := (some .boolean)) (by decide) rfl ?_
  intro p e s m args below meth c s₁ B hml hv
  obtain ⟨rfl, hH0, hNE⟩ := hv
  have hx := B.exec
  have hb := B.bytes
  have hr := B.returns
  have hts := atoms_spec (ws := wsX10_isSound) B.pre
  have hown : s.vm.findClass RX10 = some m.cls := findClass_of_methodNamed B.named
  have hlocks := B.notSynchronized
  have hH : HI D S S s s.heap [] := HI.start hH0
  have hl := lv_entry ([.ref a0]) (n := 1) (Nat.le_of_ble_eq_true rfl)
  rw [lg_entry_eq]
  generalize (lg_sl ([.ref a0]) ++ List.replicate (1 - (lg_sl ([.ref a0])).length) Slot.unset).toArray = ls at hl ⊢
  have hl : lv_has ls 1 [(0, .ref a0)] := hl
  refine lv_aload_n hx hb dX10_isSound_0 rfl (lv_at hl 0 rfl) ?_
  refine lv_iconst (v := 0) hx hb dX10_isSound_1 (by decide) ?_
  obtain ⟨ek1, hf⟩ := oc hf
  refine r_putI hx hb 13 hts (fun w h => List.mem_cons_of_mem _ (mwsX100 w h)) tyX10 tyX10_ok nmX10 hown hH ek1 (by decide) rfl 0 (by decide) rfl (hts (.fieldLink RX10 123 "HousestyleModel" "thrown" "I") (List.mem_cons_of_mem _ gw_31_3)) (fun _ h9 => h9) (Or.inl rfl) (ty := .int) (by decide +kernel) rfl rfl dX10_isSound_2 (fun H locs hH => ?_)
  obtain ⟨S2, e3, hf⟩ := ol hf
  rw [e3] at hH
  refine lv_iconst (v := 1) hx hb dX10_isSound_5 (by decide) ?_
  have hr9 := Option.some.inj hf
  subst hr9
  exact e_z (r := 1) hx hb hr hlocks rfl hH dX10_isSound_6
