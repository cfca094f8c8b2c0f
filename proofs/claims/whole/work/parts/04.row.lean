set_option maxRecDepth 100000 in
def f_X5_count (S : PS) (a0 : Nat) : Option (Int32) := if kK S a0 = 9 then (some (kI S a0 1)) else none
abbrev rmX5_count : Room := { frames := 0, cells := 0, slots := 0, locals := 0 }
set_option maxHeartbeats 4000000 in
set_option maxRecDepth 100000 in
theorem c_X5_count (l : Launch) (D : va_G × Nat) (S : PS) (a0 : Nat) (r : Int32) (hf : f_X5_count S a0 = some r) : MI l D yX5_count wsX5_count rmX5_count S [.ref a0] S r 0 0 := by
  unfold f_X5_count at hf
  refine Met.ofW (cc := cX5_count) (maxL := 1) (ret := (some .int)) (by decide) rfl ?_
  intro p e s m args below meth c s₁ B hml hv
  obtain ⟨rfl, hH0, hNE⟩ := hv
  have hx := B.exec
  have hb := B.bytes
  have hr := B.returns
  have hts := atoms_spec (ws := wsX5_count) B.pre
  have hown : s.vm.findClass RX5 = some m.cls := findClass_of_methodNamed B.named
  have hlocks := B.notSynchronized
  have hH : HI D S S s s.heap [] := HI.start hH0
  have hl := lv_entry ([.ref a0]) (n := 1) (Nat.le_of_ble_eq_true rfl)
  rw [lg_entry_eq]
  generalize (lg_sl ([.ref a0]) ++ List.replicate (1 - (lg_sl ([.ref a0])).length) Slot.unset).toArray = ls at hl ⊢
  have hl : lv_has ls 1 [(0, .ref a0)] := hl
  refine lv_aload_n hx hb dX5_count_0 rfl (lv_at hl 0 rfl) ?_
  obtain ⟨ek1, hf⟩ := oc hf
  refine r_getI hx hb 8 hts (fun w h => List.mem_cons_of_mem _ (mwsX50 w h)) hown hH ek1 (by decide) rfl 1 (by decide) rfl (hts (.fieldLink RX5 13 "Housestyle$Row" "count" "I") (List.mem_cons_of_mem _ gw_0_19)) (fun _ h9 => h9) dX5_count_1 ?_
  have hr9 := Option.some.inj hf
  subst hr9
  exact e_i hx hb hr hlocks hH dX5_count_4
set_option maxRecDepth 100000 in
def f_X5_get (S : PS) (a0 : Nat) (p1 : Int32) : Option (Int32) := if p1 < 0 then (some 0) else (if kK S a0 = 9 then (if (kI S a0 1) ≤ p1 then (some 0) else ((kQ S a0 0).bind fun a4 => if kK S a4 = 101 then (if (nI (kN S a4)) ≤ p1 then (some 0) else (if ¬ (p1 < 0 ∨ kN S a4 ≤ p1.toNatClampNeg) then (some (kI S a4 p1.toNatClampNeg)) else none)) else none)) else none)
abbrev rmX5_get : Room := { frames := 0, cells := 0, slots := 0, locals := 0 }
set_option maxHeartbeats 4000000 in
set_option maxRecDepth 100000 in
theorem c_X5_get (l : Launch) (D : va_G × Nat) (S : PS) (a0 : Nat) (p1 : Int32) (r : Int32) (hf : f_X5_get S a0 p1 = some r) : MI l D yX5_get wsX5_get rmX5_get S [.ref a0, .int p1] S r 0 0 := by
  unfold f_X5_get at hf
  refine Met.ofW (cc := cX5_get) (maxL := 2) (ret := (some .int)) (by decide) rfl ?_
  intro p e s m args below meth c s₁ B hml hv
  obtain ⟨rfl, hH0, hNE⟩ := hv
  have hx := B.exec
  have hb := B.bytes
  have hr := B.returns
  have hts := atoms_spec (ws := wsX5_get) B.pre
  have hown : s.vm.findClass RX5 = some m.cls := findClass_of_methodNamed B.named
  have hlocks := B.notSynchronized
  have hH : HI D S S s s.heap [] := HI.start hH0
  have hl := lv_entry ([.ref a0, .int p1]) (n := 2) (Nat.le_of_ble_eq_true rfl)
  rw [lg_entry_eq]
  generalize (lg_sl ([.ref a0, .int p1]) ++ List.replicate (2 - (lg_sl ([.ref a0, .int p1])).length) Slot.unset).toArray = ls at hl ⊢
  have hl : lv_has ls 2 [(0, .ref a0), (1, .int p1)] := hl
  refine lv_iload_n hx hb dX5_get_0 rfl (lv_at hl 1 rfl) ?_
  refine lv_if_lt (tgt := 30) hx hb dX5_get_1 (by decide) (fun c1 => ?_) (fun c1 => ?_)
  · have hf := ip hf c1
    refine lv_iconst (v := 0) hx hb dX5_get_30 (by decide) ?_
    have hr9 := Option.some.inj hf
    subst hr9
    exact e_i hx hb hr hlocks hH dX5_get_31
  · have hf := iq hf c1
    refine lv_iload_n hx hb dX5_get_4 rfl (lv_at hl 1 rfl) ?_
    refine lv_aload_n hx hb dX5_get_5 rfl (lv_at hl 0 rfl) ?_
    obtain ⟨ek2, hf⟩ := oc hf
    refine r_getI hx hb 8 hts (fun w h => List.mem_cons_of_mem _ (mwsX50 w h)) hown hH ek2 (by decide) rfl 1 (by decide) rfl (hts (.fieldLink RX5 13 "Housestyle$Row" "count" "I") (List.mem_cons_of_mem _ gw_0_19)) (fun _ h9 => h9) dX5_get_6 ?_
    refine lv_icmp_ge (tgt := 30) hx hb dX5_get_9 (by decide) (fun c3 => ?_) (fun c3 => ?_)
    · have hf := ip hf c3
      refine lv_iconst (v := 0) hx hb dX5_get_30 (by decide) ?_
      have hr9 := Option.some.inj hf
      subst hr9
      exact e_i hx hb hr hlocks hH dX5_get_31
    · have hf := iq hf c3
      refine lv_iload_n hx hb dX5_get_12 rfl (lv_at hl 1 rfl) ?_
      refine lv_aload_n hx hb dX5_get_13 rfl (lv_at hl 0 rfl) ?_
      obtain ⟨a4, e5, hf⟩ := ob hf
      refine r_getQ hx hb 8 hts (fun w h => List.mem_cons_of_mem _ (mwsX50 w h)) hown hH ek2 (by decide) rfl 0 (by decide) rfl (hts (.fieldLink RX5 7 "Housestyle$Row" "cells" "[I") (List.mem_cons_of_mem _ gw_0_18)) (fun _ h9 => h9) dX5_get_14 e5 ?_
      obtain ⟨ek6, hf⟩ := oc hf
      refine r_alen hx hb 101 hH ek6 (by decide) dX5_get_17 ?_
      refine lv_icmp_ge (tgt := 30) hx hb dX5_get_18 (by decide) (fun c7 => ?_) (fun c7 => ?_)
      · have hf := ip hf c7
        refine lv_iconst (v := 0) hx hb dX5_get_30 (by decide) ?_
        have hr9 := Option.some.inj hf
        subst hr9
        exact e_i hx hb hr hlocks hH dX5_get_31
      · have hf := iq hf c7
        refine lv_aload_n hx hb dX5_get_21 rfl (lv_at hl 0 rfl) ?_
        refine r_getQ hx hb 8 hts (fun w h => List.mem_cons_of_mem _ (mwsX50 w h)) hown hH ek2 (by decide) rfl 0 (by decide) rfl (hts (.fieldLink RX5 7 "Housestyle$Row" "cells" "[I") (List.mem_cons_of_mem _ gw_0_18)) (fun _ h9 => h9) dX5_get_22 e5 ?_
        refine lv_iload_n hx hb dX5_get_25 rfl (lv_at hl 1 rfl) ?_
        obtain ⟨ei8, hf⟩ := oc hf
        refine r_iald hx hb hH ek6 ei8 dX5_get_26 ?_
        refine lv_goto (tgt := 31) hx hb dX5_get_27 (by decide) ?_
        have hr9 := Option.some.inj hf
        subst hr9
        exact e_i hx hb hr hlocks hH dX5_get_31
set_option maxRecDepth 100000 in
def f_X5_set (S : PS) (a0 : Nat) (p1 : Int32) (p2 : Int32) : Option (PS) := if p1 < 0 then (some S) else (if kK S a0 = 9 then (if (kI S a0 1) ≤ p1 then (some S) else ((kQ S a0 0).bind fun a4 => if kK S a4 = 101 then (if (nI (kN S a4)) ≤ p1 then (some S) else (if ¬ (p1 < 0 ∨ kN S a4 ≤ p1.toNatClampNeg) then (lt (wI S a4 p1.toNatClampNeg p2) fun S9 => some S9) else none)) else none)) else none)
abbrev rmX5_set : Room := { frames := 0, cells := 0, slots := 0, locals := 0 }
set_option maxHeartbeats 4000000 in
set_option maxRecDepth 100000 in
theorem c_X5_set (l : Launch) (D : va_G × Nat) (S : PS) (a0 : Nat) (p1 : Int32) (p2 : Int32) (r : PS) (hf : f_X5_set S a0 p1 p2 = some r) : MV l D yX5_set wsX5_set rmX5_set S [.ref a0, .int p1, .int p2] r 0 0 := by
  unfold f_X5_set at hf
  refine Met.ofW (cc := cX5_set) (maxL := 3) (ret := none) (by decide) rfl ?_
  intro p e s m args below meth c s₁ B hml hv
  obtain ⟨rfl, hH0, hNE⟩ := hv
  have hx := B.exec
  have hb := B.bytes
  have hr := B.returns
  have hts := atoms_spec (ws := wsX5_set) B.pre
  have hown : s.vm.findClass RX5 = some m.cls := findClass_of_methodNamed B.named
  have hlocks := B.notSynchronized
  have hH : HI D S S s s.heap [] := HI.start hH0
  have hl := lv_entry ([.ref a0, .int p1, .int p2]) (n := 3) (Nat.le_of_ble_eq_true rfl)
  rw [lg_entry_eq]
  generalize (lg_sl ([.ref a0, .int p1, .int p2]) ++ List.replicate (3 - (lg_sl ([.ref a0, .int p1, .int p2])).length) Slot.unset).toArray = ls at hl ⊢
  have hl : lv_has ls 3 [(0, .ref a0), (1, .int p1), (2, .int p2)] := hl
  refine lv_iload_n hx hb dX5_set_0 rfl (lv_at hl 1 rfl) ?_
  refine lv_if_lt (tgt := 28) hx hb dX5_set_1 (by decide) (fun c1 => ?_) (fun c1 => ?_)
  · have hf := ip hf c1
    have hr9 := Option.some.inj hf
    subst hr9
    exact e_v hx hb hr hlocks hH dX5_set_28
  · have hf := iq hf c1
    refine lv_iload_n hx hb dX5_set_4 rfl (lv_at hl 1 rfl) ?_
    refine lv_aload_n hx hb dX5_set_5 rfl (lv_at hl 0 rfl) ?_
    obtain ⟨ek2, hf⟩ := oc hf
    refine r_getI hx hb 8 hts (fun w h => List.mem_cons_of_mem _ (mwsX50 w h)) hown hH ek2 (by decide) rfl 1 (by decide) rfl (hts (.fieldLink RX5 13 "Housestyle$Row" "count" "I") (List.mem_cons_of_mem _ gw_0_19)) (fun _ h9 => h9) dX5_set_6 ?_
    refine lv_icmp_ge (tgt := 28) hx hb dX5_set_9 (by decide) (fun c3 => ?_) (fun c3 => ?_)
    · have hf := ip hf c3
      have hr9 := Option.some.inj hf
      subst hr9
      exact e_v hx hb hr hlocks hH dX5_set_28
    · have hf := iq hf c3
      refine lv_iload_n hx hb dX5_set_12 rfl (lv_at hl 1 rfl) ?_
      refine lv_aload_n hx hb dX5_set_13 rfl (lv_at hl 0 rfl) ?_
      obtain ⟨a4, e5, hf⟩ := ob hf
      refine r_getQ hx hb 8 hts (fun w h => List.mem_cons_of_mem _ (mwsX50 w h)) hown hH ek2 (by decide) rfl 0 (by decide) rfl (hts (.fieldLink RX5 7 "Housestyle$Row" "cells" "[I") (List.mem_cons_of_mem _ gw_0_18)) (fun _ h9 => h9) dX5_set_14 e5 ?_
      obtain ⟨ek6, hf⟩ := oc hf
      refine r_alen hx hb 101 hH ek6 (by decide) dX5_set_17 ?_
      refine lv_icmp_ge (tgt := 28) hx hb dX5_set_18 (by decide) (fun c7 => ?_) (fun c7 => ?_)
      · have hf := ip hf c7
        have hr9 := Option.some.inj hf
        subst hr9
        exact e_v hx hb hr hlocks hH dX5_set_28
      · have hf := iq hf c7
        refine lv_aload_n hx hb dX5_set_21 rfl (lv_at hl 0 rfl) ?_
        refine r_getQ hx hb 8 hts (fun w h => List.mem_cons_of_mem _ (mwsX50 w h)) hown hH ek2 (by decide) rfl 0 (by decide) rfl (hts (.fieldLink RX5 7 "Housestyle$Row" "cells" "[I") (List.mem_cons_of_mem _ gw_0_18)) (fun _ h9 => h9) dX5_set_22 e5 ?_
        refine lv_iload_n hx hb dX5_set_25 rfl (lv_at hl 1 rfl) ?_
        refine lv_iload_n hx hb dX5_set_26 rfl (lv_at hl 2 rfl) ?_
        obtain ⟨ei8, hf⟩ := oc hf
        refine r_iast hx hb hH ek6 ei8 dX5_set_27 (fun H locs hH => ?_)
        obtain ⟨S9, e10, hf⟩ := ol hf
        rw [e10] at hH
        have hr9 := Option.some.inj hf
        subst hr9
        exact e_v hx hb hr hlocks hH dX5_set_28
set_option maxRecDepth 100000 in
def f_X5_add (S : PS) (a0 : Nat) (p1 : Int32) : Option (PS) := if kK S a0 = 9 then (if (kI S a0 1) < 0 then (some S) else ((kQ S a0 0).bind fun a3 => if kK S a3 = 101 then (if (nI (kN S a3)) ≤ (kI S a0 1) then (some S) else (if ¬ ((kI S a0 1) < 0 ∨ kN S a3 ≤ (kI S a0 1).toNatClampNeg) then (lt (wI S a3 (kI S a0 1).toNatClampNeg p1) fun S8 => if kK S8 a0 = 9 then (lt (wI S8 a0 1 ((kI S8 a0 1) + 1)) fun S11 => some S11) else none) else none)) else none)) else none
abbrev rmX5_add : Room := { frames := 0, cells := 0, slots := 0, locals := 0 }
set_option maxHeartbeats 4000000 in
set_option maxRecDepth 100000 in
theorem c_X5_add (l : Launch) (D : va_G × Nat) (S : PS) (a0 : Nat) (p1 : Int32) (r : PS) (hf : f_X5_add S a0 p1 = some r) : MV l D yX5_add wsX5_add rmX5_add S [.ref a0, .int p1] r 0 0 := by
  unfold f_X5_add at hf
  refine Met.ofW (cc := cX5_add) (maxL := 2) (ret := none) (by decide) rfl ?_
  intro p e s m args below meth c s₁ B hml hv
  obtain ⟨rfl, hH0, hNE⟩ := hv
  have hx := B.exec
  have hb := B.bytes
  have hr := B.returns
  have hts := atoms_spec (ws := wsX5_add) B.pre
  have hown : s.vm.findClass RX5 = some m.cls := findClass_of_methodNamed B.named
  have hlocks := B.notSynchronized
  have hH : HI D S S s s.heap [] := HI.start hH0
  have hl := lv_entry ([.ref a0, .int p1]) (n := 2) (Nat.le_of_ble_eq_true rfl)
  rw [lg_entry_eq]
  generalize (lg_sl ([.ref a0, .int p1]) ++ List.replicate (2 - (lg_sl ([.ref a0, .int p1])).length) Slot.unset).toArray = ls at hl ⊢
  have hl : lv_has ls 2 [(0, .ref a0), (1, .int p1)] := hl
  refine lv_aload_n hx hb dX5_add_0 rfl (lv_at hl 0 rfl) ?_
  obtain ⟨ek1, hf⟩ := oc hf
  refine r_getI hx hb 8 hts (fun w h => List.mem_cons_of_mem _ (mwsX50 w h)) hown hH ek1 (by decide) rfl 1 (by decide) rfl (hts (.fieldLink RX5 13 "Housestyle$Row" "count" "I") (List.mem_cons_of_mem _ gw_0_19)) (fun _ h9 => h9) dX5_add_1 ?_
  refine lv_if_lt (tgt := 39) hx hb dX5_add_4 (by decide) (fun c2 => ?_) (fun c2 => ?_)
  · have hf := ip hf c2
    have hr9 := Option.some.inj hf
    subst hr9
    exact e_v hx hb hr hlocks hH dX5_add_39
  · have hf := iq hf c2
    refine lv_aload_n hx hb dX5_add_7 rfl (lv_at hl 0 rfl) ?_
    refine r_getI hx hb 8 hts (fun w h => List.mem_cons_of_mem _ (mwsX50 w h)) hown hH ek1 (by decide) rfl 1 (by decide) rfl (hts (.fieldLink RX5 13 "Housestyle$Row" "count" "I") (List.mem_cons_of_mem _ gw_0_19)) (fun _ h9 => h9) dX5_add_8 ?_
    refine lv_aload_n hx hb dX5_add_11 rfl (lv_at hl 0 rfl) ?_
    obtain ⟨a3, e4, hf⟩ := ob hf
    refine r_getQ hx hb 8 hts (fun w h => List.mem_cons_of_mem _ (mwsX50 w h)) hown hH ek1 (by decide) rfl 0 (by decide) rfl (hts (.fieldLink RX5 7 "Housestyle$Row" "cells" "[I") (List.mem_cons_of_mem _ gw_0_18)) (fun _ h9 => h9) dX5_add_12 e4 ?_
    obtain ⟨ek5, hf⟩ := oc hf
    refine r_alen hx hb 101 hH ek5 (by decide) dX5_add_15 ?_
    refine lv_icmp_ge (tgt := 39) hx hb dX5_add_16 (by decide) (fun c6 => ?_) (fun c6 => ?_)
    · have hf := ip hf c6
      have hr9 := Option.some.inj hf
      subst hr9
      exact e_v hx hb hr hlocks hH dX5_add_39
    · have hf := iq hf c6
      refine lv_aload_n hx hb dX5_add_19 rfl (lv_at hl 0 rfl) ?_
      refine r_getQ hx hb 8 hts (fun w h => List.mem_cons_of_mem _ (mwsX50 w h)) hown hH ek1 (by decide) rfl 0 (by decide) rfl (hts (.fieldLink RX5 7 "Housestyle$Row" "cells" "[I") (List.mem_cons_of_mem _ gw_0_18)) (fun _ h9 => h9) dX5_add_20 e4 ?_
      refine lv_aload_n hx hb dX5_add_23 rfl (lv_at hl 0 rfl) ?_
      refine r_getI hx hb 8 hts (fun w h => List.mem_cons_of_mem _ (mwsX50 w h)) hown hH ek1 (by decide) rfl 1 (by decide) rfl (hts (.fieldLink RX5 13 "Housestyle$Row" "count" "I") (List.mem_cons_of_mem _ gw_0_19)) (fun _ h9 => h9) dX5_add_24 ?_
      refine lv_iload_n hx hb dX5_add_27 rfl (lv_at hl 1 rfl) ?_
      obtain ⟨ei7, hf⟩ := oc hf
      refine r_iast hx hb hH ek5 ei7 dX5_add_28 (fun H locs hH => ?_)
      obtain ⟨S8, e9, hf⟩ := ol hf
      rw [e9] at hH
      refine lv_aload_n hx hb dX5_add_29 rfl (lv_at hl 0 rfl) ?_
      refine lv_dup hx hb dX5_add_30 rfl ?_
      obtain ⟨ek10, hf⟩ := oc hf
      refine r_getI hx hb 8 hts (fun w h => List.mem_cons_of_mem _ (mwsX50 w h)) hown hH ek10 (by decide) rfl 1 (by decide) rfl (hts (.fieldLink RX5 13 "Housestyle$Row" "count" "I") (List.mem_cons_of_mem _ gw_0_19)) (fun _ h9 => h9) dX5_add_31 ?_
      refine lv_iconst (v := 1) hx hb dX5_add_34 (by decide) ?_
      refine lv_iadd hx hb dX5_add_35 ?_
      refine r_putI hx hb 8 hts (fun w h => List.mem_cons_of_mem _ (mwsX50 w h)) tyX5 tyX5_ok nmX5 hown hH ek10 (by decide) rfl 1 (by decide) rfl (hts (.fieldLink RX5 13 "Housestyle$Row" "count" "I") (List.mem_cons_of_mem _ gw_0_19)) (fun _ h9 => h9) (Or.inl rfl) (ty := .int) (by decide +kernel) rfl rfl dX5_add_36 (fun H locs hH => ?_)
      obtain ⟨S11, e12, hf⟩ := ol hf
      rw [e12] at hH
      have hr9 := Option.some.inj hf
      subst hr9
      exact e_v hx hb hr hlocks hH dX5_add_39
set_option maxRecDepth 100000 in
def f_X5_insert_b30 (a0 : Nat) (p1 : Int32) (x10 : Int32) (S11 : PS) : Option ((Int32 × PS) ⊕ ((PS))) := if x10 ≤ p1 then (some (.inr S11)) else (if kK S11 a0 = 9 then ((kQ S11 a0 0).bind fun a28 => if kK S11 a28 = 101 then (if ¬ ((x10 - 1) < 0 ∨ kN S11 a28 ≤ (x10 - 1).toNatClampNeg) then (if ¬ (x10 < 0 ∨ kN S11 a28 ≤ x10.toNatClampNeg) then (lt (wI S11 a28 x10.toNatClampNeg (kI S11 a28 (x10 - 1).toNatClampNeg)) fun S33 => lt (x10 + (-1)) fun x35 => some (.inl (x35, S33))) else none) else none) else none) else none)
set_option maxRecDepth 100000 in
def f_X5_insert (S : PS) (a0 : Nat) (p1 : Int32) (p2 : Int32) : Option (PS) := if p1 < 0 then (some S) else (if kK S a0 = 9 then (if (kI S a0 1) < p1 then (some S) else ((kQ S a0 0).bind fun a4 => if kK S a4 = 101 then (if (kI S a0 1) < (nI (kN S a4)) then (lt (kI S a0 1) fun x8 => lt (fun (S12 : PS) => if kK S12 a0 = 9 then ((kQ S12 a0 0).bind fun a16 => if kK S12 a16 = 101 then (if ¬ (p1 < 0 ∨ kN S12 a16 ≤ p1.toNatClampNeg) then (lt (wI S12 a16 p1.toNatClampNeg p2) fun S20 => if kK S20 a0 = 9 then (lt (wI S20 a0 1 ((kI S20 a0 1) + 1)) fun S23 => some S23) else none) else none) else none) else none) fun k13 => (iter (fun (v : Int32 × PS) => f_X5_insert_b30 a0 p1 v.1 v.2) kF (x8, S)).bind (fun (v : PS) => k13 v)) else (some S)) else none)) else none)
abbrev rmX5_insert : Room := { frames := 0, cells := 0, slots := 0, locals := 0 }
set_option maxHeartbeats 4000000 in
set_option maxRecDepth 100000 in
theorem c_X5_insert (l : Launch) (D : va_G × Nat) (S : PS) (a0 : Nat) (p1 : Int32) (p2 : Int32) (r : PS) (hf : f_X5_insert S a0 p1 p2 = some r) : MV l D yX5_insert wsX5_insert rmX5_insert S [.ref a0, .int p1, .int p2] r 0 0 := by
  unfold f_X5_insert at hf
  refine Met.ofW (cc := cX5_insert) (maxL := 4) (ret := none) (by decide) rfl ?_
  intro p e s m args below meth c s₁ B hml hv
  obtain ⟨rfl, hH0, hNE⟩ := hv
  have hx := B.exec
  have hb := B.bytes
  have hr := B.returns
  have hts := atoms_spec (ws := wsX5_insert) B.pre
  have hown : s.vm.findClass RX5 = some m.cls := findClass_of_methodNamed B.named
  have hlocks := B.notSynchronized
  have hH : HI D S S s s.heap [] := HI.start hH0
  have hl := lv_entry ([.ref a0, .int p1, .int p2]) (n := 4) (Nat.le_of_ble_eq_true rfl)
  rw [lg_entry_eq]
  generalize (lg_sl ([.ref a0, .int p1, .int p2]) ++ List.replicate (4 - (lg_sl ([.ref a0, .int p1, .int p2])).length) Slot.unset).toArray = ls at hl ⊢
  have hl : lv_has ls 4 [(0, .ref a0), (1, .int p1), (2, .int p2)] := hl
  refine lv_iload_n hx hb dX5_insert_0 rfl (lv_at hl 1 rfl) ?_
  refine lv_if_lt (tgt := 24) hx hb dX5_insert_1 (by decide) (fun c1 => ?_) (fun c1 => ?_)
  · have hf := ip hf c1
    have hr9 := Option.some.inj hf
    subst hr9
    exact e_v hx hb hr hlocks hH dX5_insert_24
  · have hf := iq hf c1
    refine lv_iload_n hx hb dX5_insert_4 rfl (lv_at hl 1 rfl) ?_
    refine lv_aload_n hx hb dX5_insert_5 rfl (lv_at hl 0 rfl) ?_
    obtain ⟨ek2, hf⟩ := oc hf
    refine r_getI hx hb 8 hts (fun w h => List.mem_cons_of_mem _ (mwsX50 w h)) hown hH ek2 (by decide) rfl 1 (by decide) rfl (hts (.fieldLink RX5 13 "Housestyle$Row" "count" "I") (List.mem_cons_of_mem _ gw_0_19)) (fun _ h9 => h9) dX5_insert_6 ?_
    refine lv_icmp_gt (tgt := 24) hx hb dX5_insert_9 (by decide) (fun c3 => ?_) (fun c3 => ?_)
    · have hf := ip hf c3
      have hr9 := Option.some.inj hf
      subst hr9
      exact e_v hx hb hr hlocks hH dX5_insert_24
    · have hf := iq hf c3
      refine lv_aload_n hx hb dX5_insert_12 rfl (lv_at hl 0 rfl) ?_
      refine r_getI hx hb 8 hts (fun w h => List.mem_cons_of_mem _ (mwsX50 w h)) hown hH ek2 (by decide) rfl 1 (by decide) rfl (hts (.fieldLink RX5 13 "Housestyle$Row" "count" "I") (List.mem_cons_of_mem _ gw_0_19)) (fun _ h9 => h9) dX5_insert_13 ?_
      refine lv_aload_n hx hb dX5_insert_16 rfl (lv_at hl 0 rfl) ?_
      obtain ⟨a4, e5, hf⟩ := ob hf
      refine r_getQ hx hb 8 hts (fun w h => List.mem_cons_of_mem _ (mwsX50 w h)) hown hH ek2 (by decide) rfl 0 (by decide) rfl (hts (.fieldLink RX5 7 "Housestyle$Row" "cells" "[I") (List.mem_cons_of_mem _ gw_0_18)) (fun _ h9 => h9) dX5_insert_17 e5 ?_
      obtain ⟨ek6, hf⟩ := oc hf
      refine r_alen hx hb 101 hH ek6 (by decide) dX5_insert_20 ?_
      refine lv_icmp_lt (tgt := 25) hx hb dX5_insert_21 (by decide) (fun c7 => ?_) (fun c7 => ?_)
      · have hf := ip hf c7
        refine lv_aload_n hx hb dX5_insert_25 rfl (lv_at hl 0 rfl) ?_
        refine r_getI hx hb 8 hts (fun w h => List.mem_cons_of_mem _ (mwsX50 w h)) hown hH ek2 (by decide) rfl 1 (by decide) rfl (hts (.fieldLink RX5 13 "Housestyle$Row" "count" "I") (List.mem_cons_of_mem _ gw_0_19)) (fun _ h9 => h9) dX5_insert_26 ?_
        obtain ⟨x8, e9, hf⟩ := ol hf
        refine lv_topE e9 ?_
        refine lv_istore_n (lv' := [(3, .int x8), (0, .ref a0), (1, .int p1), (2, .int p2)]) hx hb dX5_insert_29 rfl hl (by decide) rfl (fun ls hl => ?_)
        obtain ⟨k13, e14, hf⟩ := ol hf
        have Xk13 : ∀ (S12 : PS) (H : Heap) (locs : List Loc) (ls : Array Slot), HI D S S12 s H locs → lv_has ls 4 [(0, .ref a0), (1, .int p1), (2, .int p2)] → k13 S12 = some r → GV p l e (headSpec wsX5_insert rmX5_insert).room s m ([.ref a0, .int p1, .int p2] : List Value).toArray below meth c D S r H locs 0 0 0 0 (F0 m 55 ls []) := by
          intro S12 H locs ls hH hl hf
          rw [← e14] at hf
          refine lv_aload_n hx hb dX5_insert_55 rfl (lv_at hl 0 rfl) ?_
          obtain ⟨ek15, hf⟩ := oc hf
          obtain ⟨a16, e17, hf⟩ := ob hf
          refine r_getQ hx hb 8 hts (fun w h => List.mem_cons_of_mem _ (mwsX50 w h)) hown hH ek15 (by decide) rfl 0 (by decide) rfl (hts (.fieldLink RX5 7 "Housestyle$Row" "cells" "[I") (List.mem_cons_of_mem _ gw_0_18)) (fun _ h9 => h9) dX5_insert_56 e17 ?_
          refine lv_iload_n hx hb dX5_insert_59 rfl (lv_at hl 1 rfl) ?_
          refine lv_iload_n hx hb dX5_insert_60 rfl (lv_at hl 2 rfl) ?_
          obtain ⟨ek18, hf⟩ := oc hf
          obtain ⟨ei19, hf⟩ := oc hf
          refine r_iast hx hb hH ek18 ei19 dX5_insert_61 (fun H locs hH => ?_)
          obtain ⟨S20, e21, hf⟩ := ol hf
          rw [e21] at hH
          refine lv_aload_n hx hb dX5_insert_62 rfl (lv_at hl 0 rfl) ?_
          refine lv_dup hx hb dX5_insert_63 rfl ?_
          obtain ⟨ek22, hf⟩ := oc hf
          refine r_getI hx hb 8 hts (fun w h => List.mem_cons_of_mem _ (mwsX50 w h)) hown hH ek22 (by decide) rfl 1 (by decide) rfl (hts (.fieldLink RX5 13 "Housestyle$Row" "count" "I") (List.mem_cons_of_mem _ gw_0_19)) (fun _ h9 => h9) dX5_insert_64 ?_
          refine lv_iconst (v := 1) hx hb dX5_insert_67 (by decide) ?_
          refine lv_iadd hx hb dX5_insert_68 ?_
          refine r_putI hx hb 8 hts (fun w h => List.mem_cons_of_mem _ (mwsX50 w h)) tyX5 tyX5_ok nmX5 hown hH ek22 (by decide) rfl 1 (by decide) rfl (hts (.fieldLink RX5 13 "Housestyle$Row" "count" "I") (List.mem_cons_of_mem _ gw_0_19)) (fun _ h9 => h9) (Or.inl rfl) (ty := .int) (by decide +kernel) rfl rfl dX5_insert_69 (fun H locs hH => ?_)
          obtain ⟨S23, e24, hf⟩ := ol hf
          rw [e24] at hH
          have hr9 := Option.some.inj hf
          subst hr9
          exact e_v hx hb hr hlocks hH dX5_insert_72
        obtain ⟨o25, eo25, hq25f⟩ := ob hf
        have Lo25 : ∀ (n : Nat) (x10 : Int32) (S11 : PS), iter (fun (v : Int32 × PS) => f_X5_insert_b30 a0 p1 v.1 v.2) n (x10, S11) = some o25 → ∀ (H : Heap) (locs : List Loc) (ls : Array Slot), HI D S S11 s H locs → lv_has ls 4 [(0, .ref a0), (1, .int p1), (2, .int p2), (3, .int x10)] → GV p l e (headSpec wsX5_insert rmX5_insert).room s m ([.ref a0, .int p1, .int p2] : List Value).toArray below meth c D S r H locs 0 0 0 0 (F0 m 30 ls []) := by
          intro n
          induction n with
          | zero => intro x10 S11 hi; cases hi
          | succ n ih25 =>
            intro x10 S11 hi H locs ls hH hl
            obtain ⟨q25_, hf, hq25⟩ := iter_s hi
            have hf : f_X5_insert_b30 a0 p1 x10 S11 = some q25_ := hf
            unfold f_X5_insert_b30 at hf
            refine lv_iload_n hx hb dX5_insert_30 rfl (lv_at hl 3 rfl) ?_
            refine lv_iload_n hx hb dX5_insert_31 rfl (lv_at hl 1 rfl) ?_
            refine lv_icmp_le (tgt := 55) hx hb dX5_insert_32 (by decide) (fun c26 => ?_) (fun c26 => ?_)
            · have hf := ip hf c26
              cases hf
              have hf9 := itR (K := (fun (v : PS) => k13 v)) hq25 hq25f
              exact Xk13 S11 _ _ ls hH (lv_sub hl [0, 1, 2] rfl) hf9
            · have hf := iq hf c26
              refine lv_aload_n hx hb dX5_insert_35 rfl (lv_at hl 0 rfl) ?_
              obtain ⟨ek27, hf⟩ := oc hf
              obtain ⟨a28, e29, hf⟩ := ob hf
              refine r_getQ hx hb 8 hts (fun w h => List.mem_cons_of_mem _ (mwsX50 w h)) hown hH ek27 (by decide) rfl 0 (by decide) rfl (hts (.fieldLink RX5 7 "Housestyle$Row" "cells" "[I") (List.mem_cons_of_mem _ gw_0_18)) (fun _ h9 => h9) dX5_insert_36 e29 ?_
              refine lv_iload_n hx hb dX5_insert_39 rfl (lv_at hl 3 rfl) ?_
              refine lv_aload_n hx hb dX5_insert_40 rfl (lv_at hl 0 rfl) ?_
              refine r_getQ hx hb 8 hts (fun w h => List.mem_cons_of_mem _ (mwsX50 w h)) hown hH ek27 (by decide) rfl 0 (by decide) rfl (hts (.fieldLink RX5 7 "Housestyle$Row" "cells" "[I") (List.mem_cons_of_mem _ gw_0_18)) (fun _ h9 => h9) dX5_insert_41 e29 ?_
              refine lv_iload_n hx hb dX5_insert_44 rfl (lv_at hl 3 rfl) ?_
              refine lv_iconst (v := 1) hx hb dX5_insert_45 (by decide) ?_
              refine lv_isub hx hb dX5_insert_46 ?_
              obtain ⟨ek30, hf⟩ := oc hf
              obtain ⟨ei31, hf⟩ := oc hf
              refine r_iald hx hb hH ek30 ei31 dX5_insert_47 ?_
              obtain ⟨ei32, hf⟩ := oc hf
              refine r_iast hx hb hH ek30 ei32 dX5_insert_48 (fun H locs hH => ?_)
              obtain ⟨S33, e34, hf⟩ := ol hf
              rw [e34] at hH
              obtain ⟨x35, e36, hf⟩ := ol hf
              refine lv_iinc (v := x35) (lv' := [(3, .int x35), (0, .ref a0), (1, .int p1), (2, .int p2)]) hx hb dX5_insert_49 hl (k := 3) rfl (by rw [← e36]; rfl) (by decide) rfl (fun ls hl => ?_)
              refine lv_goto (tgt := 30) hx hb dX5_insert_52 (by decide) ?_
              cases hf
              exact ih25 x35 S33 hq25 _ _ ls hH (lv_sub hl [1, 2, 3, 0] rfl)
        exact Lo25 kF x8 S eo25 _ _ ls hH (lv_sub hl [1, 2, 3, 0] rfl)
      · have hf := iq hf c7
        have hr9 := Option.some.inj hf
        subst hr9
        exact e_v hx hb hr hlocks hH dX5_insert_24
set_option maxRecDepth 100000 in
def f_X5_remove_b37 (a0 : Nat) (x13 : Int32) (S14 : PS) : Option ((Int32 × PS) ⊕ ((PS))) := if kK S14 a0 = 9 then (if (kI S14 a0 1) ≤ x13 then (some (.inr S14)) else ((kQ S14 a0 0).bind fun a24 => if kK S14 a24 = 101 then (if ¬ (x13 < 0 ∨ kN S14 a24 ≤ x13.toNatClampNeg) then (if ¬ ((x13 - 1) < 0 ∨ kN S14 a24 ≤ (x13 - 1).toNatClampNeg) then (lt (wI S14 a24 (x13 - 1).toNatClampNeg (kI S14 a24 x13.toNatClampNeg)) fun S29 => lt (x13 + 1) fun x31 => some (.inl (x31, S29))) else none) else none) else none)) else none
set_option maxRecDepth 100000 in
def f_X5_remove (S : PS) (a0 : Nat) (p1 : Int32) : Option (PS × Int32) := if p1 < 0 then (some (S, 0)) else (if kK S a0 = 9 then (if (kI S a0 1) ≤ p1 then (some (S, 0)) else ((kQ S a0 0).bind fun a4 => if kK S a4 = 101 then (if (kI S a0 1) ≤ (nI (kN S a4)) then (if ¬ (p1 < 0 ∨ kN S a4 ≤ p1.toNatClampNeg) then (lt (kI S a4 p1.toNatClampNeg) fun x9 => lt (p1 + 1) fun x11 => lt (fun (S15 : PS) => if kK S15 a0 = 9 then (lt (wI S15 a0 1 ((kI S15 a0 1) - 1)) fun S19 => some (S19, x9)) else none) fun k16 => (iter (fun (v : Int32 × PS) => f_X5_remove_b37 a0 v.1 v.2) kF (x11, S)).bind (fun (v : PS) => k16 v)) else none) else (some (S, 0))) else none)) else none)
abbrev rmX5_remove : Room := { frames := 0, cells := 0, slots := 0, locals := 0 }
set_option maxHeartbeats 4000000 in
set_option maxRecDepth 100000 in
theorem c_X5_remove (l : Launch) (D : va_G × Nat) (S : PS) (a0 : Nat) (p1 : Int32) (r : PS × Int32) (hf : f_X5_remove S a0 p1 = some r) : MI l D yX5_remove wsX5_remove rmX5_remove S [.ref a0, .int p1] r.1 r.2 0 0 := by
  unfold f_X5_remove at hf
  refine Met.ofW (cc := cX5_remove) (maxL := 4) (ret := (some .int)) (by decide) rfl ?_
  intro p e s m args below meth c s₁ B hml hv
  obtain ⟨rfl, hH0, hNE⟩ := hv
  have hx := B.exec
  have hb := B.bytes
  have hr := B.returns
  have hts := atoms_spec (ws := wsX5_remove) B.pre
  have hown : s.vm.findClass RX5 = some m.cls := findClass_of_methodNamed B.named
  have hlocks := B.notSynchronized
  have hH : HI D S S s s.heap [] := HI.start hH0
  have hl := lv_entry ([.ref a0, .int p1]) (n := 4) (Nat.le_of_ble_eq_true rfl)
  rw [lg_entry_eq]
  generalize (lg_sl ([.ref a0, .int p1]) ++ List.replicate (4 - (lg_sl ([.ref a0, .int p1])).length) Slot.unset).toArray = ls at hl ⊢
  have hl : lv_has ls 4 [(0, .ref a0), (1, .int p1)] := hl
  refine lv_iload_n hx hb dX5_remove_0 rfl (lv_at hl 1 rfl) ?_
  refine lv_if_lt (tgt := 24) hx hb dX5_remove_1 (by decide) (fun c1 => ?_) (fun c1 => ?_)
  · have hf := ip hf c1
    refine lv_iconst (v := 0) hx hb dX5_remove_24 (by decide) ?_
    have hr9 := Option.some.inj hf
    subst hr9
    exact e_i hx hb hr hlocks hH dX5_remove_25
  · have hf := iq hf c1
    refine lv_iload_n hx hb dX5_remove_4 rfl (lv_at hl 1 rfl) ?_
    refine lv_aload_n hx hb dX5_remove_5 rfl (lv_at hl 0 rfl) ?_
    obtain ⟨ek2, hf⟩ := oc hf
    refine r_getI hx hb 8 hts (fun w h => List.mem_cons_of_mem _ (mwsX50 w h)) hown hH ek2 (by decide) rfl 1 (by decide) rfl (hts (.fieldLink RX5 13 "Housestyle$Row" "count" "I") (List.mem_cons_of_mem _ gw_0_19)) (fun _ h9 => h9) dX5_remove_6 ?_
    refine lv_icmp_ge (tgt := 24) hx hb dX5_remove_9 (by decide) (fun c3 => ?_) (fun c3 => ?_)
    · have hf := ip hf c3
      refine lv_iconst (v := 0) hx hb dX5_remove_24 (by decide) ?_
      have hr9 := Option.some.inj hf
      subst hr9
      exact e_i hx hb hr hlocks hH dX5_remove_25
    · have hf := iq hf c3
      refine lv_aload_n hx hb dX5_remove_12 rfl (lv_at hl 0 rfl) ?_
      refine r_getI hx hb 8 hts (fun w h => List.mem_cons_of_mem _ (mwsX50 w h)) hown hH ek2 (by decide) rfl 1 (by decide) rfl (hts (.fieldLink RX5 13 "Housestyle$Row" "count" "I") (List.mem_cons_of_mem _ gw_0_19)) (fun _ h9 => h9) dX5_remove_13 ?_
      refine lv_aload_n hx hb dX5_remove_16 rfl (lv_at hl 0 rfl) ?_
      obtain ⟨a4, e5, hf⟩ := ob hf
      refine r_getQ hx hb 8 hts (fun w h => List.mem_cons_of_mem _ (mwsX50 w h)) hown hH ek2 (by decide) rfl 0 (by decide) rfl (hts (.fieldLink RX5 7 "Housestyle$Row" "cells" "[I") (List.mem_cons_of_mem _ gw_0_18)) (fun _ h9 => h9) dX5_remove_17 e5 ?_
      obtain ⟨ek6, hf⟩ := oc hf
      refine r_alen hx hb 101 hH ek6 (by decide) dX5_remove_20 ?_
      refine lv_icmp_le (tgt := 26) hx hb dX5_remove_21 (by decide) (fun c7 => ?_) (fun c7 => ?_)
      · have hf := ip hf c7
        refine lv_aload_n hx hb dX5_remove_26 rfl (lv_at hl 0 rfl) ?_
        refine r_getQ hx hb 8 hts (fun w h => List.mem_cons_of_mem _ (mwsX50 w h)) hown hH ek2 (by decide) rfl 0 (by decide) rfl (hts (.fieldLink RX5 7 "Housestyle$Row" "cells" "[I") (List.mem_cons_of_mem _ gw_0_18)) (fun _ h9 => h9) dX5_remove_27 e5 ?_
        refine lv_iload_n hx hb dX5_remove_30 rfl (lv_at hl 1 rfl) ?_
        obtain ⟨ei8, hf⟩ := oc hf
        refine r_iald hx hb hH ek6 ei8 dX5_remove_31 ?_
        obtain ⟨x9, e10, hf⟩ := ol hf
        refine lv_topE e10 ?_
        refine lv_istore_n (lv' := [(2, .int x9), (0, .ref a0), (1, .int p1)]) hx hb dX5_remove_32 rfl hl (by decide) rfl (fun ls hl => ?_)
        refine lv_iload_n hx hb dX5_remove_33 rfl (lv_at hl 2 rfl) ?_
        refine lv_iconst (v := 1) hx hb dX5_remove_34 (by decide) ?_
        refine lv_iadd hx hb dX5_remove_35 ?_
        obtain ⟨x11, e12, hf⟩ := ol hf
        refine lv_topE e12 ?_
        refine lv_istore_n (lv' := [(3, .int x11), (2, .int x9), (0, .ref a0), (1, .int p1)]) hx hb dX5_remove_36 rfl hl (by decide) rfl (fun ls hl => ?_)
        obtain ⟨k16, e17, hf⟩ := ol hf
        have Xk16 : ∀ (S15 : PS) (H : Heap) (locs : List Loc) (ls : Array Slot), HI D S S15 s H locs → lv_has ls 4 [(0, .ref a0), (2, .int x9)] → k16 S15 = some r → GI p l e (headSpec wsX5_remove rmX5_remove).room s m ([.ref a0, .int p1] : List Value).toArray below meth c D S r.1 r.2 H locs 0 0 0 0 (F0 m 65 ls []) := by
          intro S15 H locs ls hH hl hf
          rw [← e17] at hf
          refine lv_aload_n hx hb dX5_remove_65 rfl (lv_at hl 0 rfl) ?_
          refine lv_dup hx hb dX5_remove_66 rfl ?_
          obtain ⟨ek18, hf⟩ := oc hf
          refine r_getI hx hb 8 hts (fun w h => List.mem_cons_of_mem _ (mwsX50 w h)) hown hH ek18 (by decide) rfl 1 (by decide) rfl (hts (.fieldLink RX5 13 "Housestyle$Row" "count" "I") (List.mem_cons_of_mem _ gw_0_19)) (fun _ h9 => h9) dX5_remove_67 ?_
          refine lv_iconst (v := 1) hx hb dX5_remove_70 (by decide) ?_
          refine lv_isub hx hb dX5_remove_71 ?_
          refine r_putI hx hb 8 hts (fun w h => List.mem_cons_of_mem _ (mwsX50 w h)) tyX5 tyX5_ok nmX5 hown hH ek18 (by decide) rfl 1 (by decide) rfl (hts (.fieldLink RX5 13 "Housestyle$Row" "count" "I") (List.mem_cons_of_mem _ gw_0_19)) (fun _ h9 => h9) (Or.inl rfl) (ty := .int) (by decide +kernel) rfl rfl dX5_remove_72 (fun H locs hH => ?_)
          obtain ⟨S19, e20, hf⟩ := ol hf
          rw [e20] at hH
          refine lv_iload_n hx hb dX5_remove_75 rfl (lv_at hl 1 rfl) ?_
          have hr9 := Option.some.inj hf
          subst hr9
          exact e_i hx hb hr hlocks hH dX5_remove_76
        obtain ⟨o21, eo21, hq21f⟩ := ob hf
        have Lo21 : ∀ (n : Nat) (x13 : Int32) (S14 : PS), iter (fun (v : Int32 × PS) => f_X5_remove_b37 a0 v.1 v.2) n (x13, S14) = some o21 → ∀ (H : Heap) (locs : List Loc) (ls : Array Slot), HI D S S14 s H locs → lv_has ls 4 [(0, .ref a0), (2, .int x9), (3, .int x13)] → GI p l e (headSpec wsX5_remove rmX5_remove).room s m ([.ref a0, .int p1] : List Value).toArray below meth c D S r.1 r.2 H locs 0 0 0 0 (F0 m 37 ls []) := by
          intro n
          induction n with
          | zero => intro x13 S14 hi; cases hi
          | succ n ih21 =>
            intro x13 S14 hi H locs ls hH hl
            obtain ⟨q21_, hf, hq21⟩ := iter_s hi
            have hf : f_X5_remove_b37 a0 x13 S14 = some q21_ := hf
            unfold f_X5_remove_b37 at hf
            refine lv_iload_n hx hb dX5_remove_37 rfl (lv_at hl 2 rfl) ?_
            refine lv_aload_n hx hb dX5_remove_38 rfl (lv_at hl 0 rfl) ?_
            obtain ⟨ek22, hf⟩ := oc hf
            refine r_getI hx hb 8 hts (fun w h => List.mem_cons_of_mem _ (mwsX50 w h)) hown hH ek22 (by decide) rfl 1 (by decide) rfl (hts (.fieldLink RX5 13 "Housestyle$Row" "count" "I") (List.mem_cons_of_mem _ gw_0_19)) (fun _ h9 => h9) dX5_remove_39 ?_
            refine lv_icmp_ge (tgt := 65) hx hb dX5_remove_42 (by decide) (fun c23 => ?_) (fun c23 => ?_)
            · have hf := ip hf c23
              cases hf
              have hf9 := itR (K := (fun (v : PS) => k16 v)) hq21 hq21f
              exact Xk16 S14 _ _ ls hH (lv_sub hl [0, 1] rfl) hf9
            · have hf := iq hf c23
              refine lv_aload_n hx hb dX5_remove_45 rfl (lv_at hl 0 rfl) ?_
              obtain ⟨a24, e25, hf⟩ := ob hf
              refine r_getQ hx hb 8 hts (fun w h => List.mem_cons_of_mem _ (mwsX50 w h)) hown hH ek22 (by decide) rfl 0 (by decide) rfl (hts (.fieldLink RX5 7 "Housestyle$Row" "cells" "[I") (List.mem_cons_of_mem _ gw_0_18)) (fun _ h9 => h9) dX5_remove_46 e25 ?_
              refine lv_iload_n hx hb dX5_remove_49 rfl (lv_at hl 2 rfl) ?_
              refine lv_iconst (v := 1) hx hb dX5_remove_50 (by decide) ?_
              refine lv_isub hx hb dX5_remove_51 ?_
              refine lv_aload_n hx hb dX5_remove_52 rfl (lv_at hl 0 rfl) ?_
              refine r_getQ hx hb 8 hts (fun w h => List.mem_cons_of_mem _ (mwsX50 w h)) hown hH ek22 (by decide) rfl 0 (by decide) rfl (hts (.fieldLink RX5 7 "Housestyle$Row" "cells" "[I") (List.mem_cons_of_mem _ gw_0_18)) (fun _ h9 => h9) dX5_remove_53 e25 ?_
              refine lv_iload_n hx hb dX5_remove_56 rfl (lv_at hl 2 rfl) ?_
              obtain ⟨ek26, hf⟩ := oc hf
              obtain ⟨ei27, hf⟩ := oc hf
              refine r_iald hx hb hH ek26 ei27 dX5_remove_57 ?_
              obtain ⟨ei28, hf⟩ := oc hf
              refine r_iast hx hb hH ek26 ei28 dX5_remove_58 (fun H locs hH => ?_)
              obtain ⟨S29, e30, hf⟩ := ol hf
              rw [e30] at hH
              obtain ⟨x31, e32, hf⟩ := ol hf
              refine lv_iinc (v := x31) (lv' := [(3, .int x31), (0, .ref a0), (2, .int x9)]) hx hb dX5_remove_59 hl (k := 2) rfl (by rw [← e32]; rfl) (by decide) rfl (fun ls hl => ?_)
              refine lv_goto (tgt := 37) hx hb dX5_remove_62 (by decide) ?_
              cases hf
              exact ih21 x31 S29 hq21 _ _ ls hH (lv_sub hl [1, 2, 0] rfl)
        exact Lo21 kF x11 S eo21 _ _ ls hH (lv_sub hl [2, 1, 0] rfl)
      · have hf := iq hf c7
        refine lv_iconst (v := 0) hx hb dX5_remove_24 (by decide) ?_
        have hr9 := Option.some.inj hf
        subst hr9
        exact e_i hx hb hr hlocks hH dX5_remove_25
set_option maxRecDepth 100000 in
def f_X5_clear (S : PS) (a0 : Nat) : Option (PS) := if kK S a0 = 9 then (lt (wI S a0 1 0) fun S2 => some S2) else none
abbrev rmX5_clear : Room := { frames := 0, cells := 0, slots := 0, locals := 0 }
set_option maxHeartbeats 4000000 in
set_option maxRecDepth 100000 in
theorem c_X5_clear (l : Launch) (D : va_G × Nat) (S : PS) (a0 : Nat) (r : PS) (hf : f_X5_clear S a0 = some r) : MV l D yX5_clear wsX5_clear rmX5_clear S [.ref a0] r 0 0 := by
  unfold f_X5_clear at hf
  refine Met.ofW (cc := cX5_clear) (maxL := 1) (ret := none) (by decide) rfl ?_
  intro p e s m args below meth c s₁ B hml hv
  obtain ⟨rfl, hH0, hNE⟩ := hv
  have hx := B.exec
  have hb := B.bytes
  have hr := B.returns
  have hts := atoms_spec (ws := wsX5_clear) B.pre
  have hown : s.vm.findClass RX5 = some m.cls := findClass_of_methodNamed B.named
  have hlocks := B.notSynchronized
  have hH : HI D S S s s.heap [] := HI.start hH0
  have hl := lv_entry ([.ref a0]) (n := 1) (Nat.le_of_ble_eq_true rfl)
  rw [lg_entry_eq]
  generalize (lg_sl ([.ref a0]) ++ List.replicate (1 - (lg_sl ([.ref a0])).length) Slot.unset).toArray = ls at hl ⊢
  have hl : lv_has ls 1 [(0, .ref a0)] := hl
  refine lv_aload_n hx hb dX5_clear_0 rfl (lv_at hl 0 rfl) ?_
  refine lv_iconst (v := 0) hx hb dX5_clear_1 (by decide) ?_
  obtain ⟨ek1, hf⟩ := oc hf
  refine r_putI hx hb 8 hts (fun w h => List.mem_cons_of_mem _ (mwsX50 w h)) tyX5 tyX5_ok nmX5 hown hH ek1 (by decide) rfl 1 (by decide) rfl (hts (.fieldLink RX5 13 "Housestyle$Row" "count" "I") (List.mem_cons_of_mem _ gw_0_19)) (fun _ h9 => h9) (Or.inl rfl) (ty := .int) (by decide +kernel) rfl rfl dX5_clear_2 (fun H locs hH => ?_)
  obtain ⟨S2, e3, hf⟩ := ol hf
  rw [e3] at hH
  have hr9 := Option.some.inj hf
  subst hr9
  exact e_v hx hb hr hlocks hH dX5_clear_5
set_option maxRecDepth 100000 in
def f_X5_reset_b7 (a0 : Nat) (p1 : Int32) (x4 : Int32) (S5 : PS) : Option ((Int32 × PS) ⊕ ((PS))) := if p1 ≤ x4 then (some (.inr S5)) else (if kK S5 a0 = 9 then ((kQ S5 a0 0).bind fun a12 => if kK S5 a12 = 101 then (if (nI (kN S5 a12)) ≤ x4 then (some (.inr S5)) else (if ¬ (x4 < 0 ∨ kN S5 a12 ≤ x4.toNatClampNeg) then (lt (wI S5 a12 x4.toNatClampNeg 0) fun S17 => if kK S17 a0 = 9 then (lt (wI S17 a0 1 ((kI S17 a0 1) + 1)) fun S20 => lt (x4 + 1) fun x22 => some (.inl (x22, S20))) else none) else none)) else none) else none)
set_option maxRecDepth 100000 in
def f_X5_reset (S : PS) (a0 : Nat) (p1 : Int32) : Option (PS) := if kK S a0 = 9 then (lt (wI S a0 1 0) fun S2 => lt (fun (S6 : PS) => some S6) fun k7 => (iter (fun (v : Int32 × PS) => f_X5_reset_b7 a0 p1 v.1 v.2) kF (0, S2)).bind (fun (v : PS) => k7 v)) else none
abbrev rmX5_reset : Room := { frames := 0, cells := 0, slots := 0, locals := 0 }
set_option maxHeartbeats 4000000 in
set_option maxRecDepth 100000 in
theorem c_X5_reset (l : Launch) (D : va_G × Nat) (S : PS) (a0 : Nat) (p1 : Int32) (r : PS) (hf : f_X5_reset S a0 p1 = some r) : MV l D yX5_reset wsX5_reset rmX5_reset S [.ref a0, .int p1] r 0 0 := by
  unfold f_X5_reset at hf
  refine Met.ofW (cc := cX5_reset) (maxL := 3) (ret := none) (by decide) rfl ?_
  intro p e s m args below meth c s₁ B hml hv
  obtain ⟨rfl, hH0, hNE⟩ := hv
  have hx := B.exec
  have hb := B.bytes
  have hr := B.returns
  have hts := atoms_spec (ws := wsX5_reset) B.pre
  have hown : s.vm.findClass RX5 = some m.cls := findClass_of_methodNamed B.named
  have hlocks := B.notSynchronized
  have hH : HI D S S s s.heap [] := HI.start hH0
  have hl := lv_entry ([.ref a0, .int p1]) (n := 3) (Nat.le_of_ble_eq_true rfl)
  rw [lg_entry_eq]
  generalize (lg_sl ([.ref a0, .int p1]) ++ List.replicate (3 - (lg_sl ([.ref a0, .int p1])).length) Slot.unset).toArray = ls at hl ⊢
  have hl : lv_has ls 3 [(0, .ref a0), (1, .int p1)] := hl
  refine lv_aload_n hx hb dX5_reset_0 rfl (lv_at hl 0 rfl) ?_
  refine lv_iconst (v := 0) hx hb dX5_reset_1 (by decide) ?_
  obtain ⟨ek1, hf⟩ := oc hf
  refine r_putI hx hb 8 hts (fun w h => List.mem_cons_of_mem _ (mwsX50 w h)) tyX5 tyX5_ok nmX5 hown hH ek1 (by decide) rfl 1 (by decide) rfl (hts (.fieldLink RX5 13 "Housestyle$Row" "count" "I") (List.mem_cons_of_mem _ gw_0_19)) (fun _ h9 => h9) (Or.inl rfl) (ty := .int) (by decide +kernel) rfl rfl dX5_reset_2 (fun H locs hH => ?_)
  obtain ⟨S2, e3, hf⟩ := ol hf
  rw [e3] at hH
  refine lv_iconst (v := 0) hx hb dX5_reset_5 (by decide) ?_
  refine lv_istore_n (lv' := [(2, .int 0), (0, .ref a0), (1, .int p1)]) hx hb dX5_reset_6 rfl hl (by decide) rfl (fun ls hl => ?_)
  obtain ⟨k7, e8, hf⟩ := ol hf
  have Xk7 : ∀ (S6 : PS) (H : Heap) (locs : List Loc) (ls : Array Slot), HI D S S6 s H locs → lv_has ls 3 [] → k7 S6 = some r → GV p l e (headSpec wsX5_reset rmX5_reset).room s m ([.ref a0, .int p1] : List Value).toArray below meth c D S r H locs 0 0 0 0 (F0 m 44 ls []) := by
    intro S6 H locs ls hH hl hf
    rw [← e8] at hf
    have hr9 := Option.some.inj hf
    subst hr9
    exact e_v hx hb hr hlocks hH dX5_reset_44
  obtain ⟨o9, eo9, hq9f⟩ := ob hf
  have Lo9 : ∀ (n : Nat) (x4 : Int32) (S5 : PS), iter (fun (v : Int32 × PS) => f_X5_reset_b7 a0 p1 v.1 v.2) n (x4, S5) = some o9 → ∀ (H : Heap) (locs : List Loc) (ls : Array Slot), HI D S S5 s H locs → lv_has ls 3 [(0, .ref a0), (1, .int p1), (2, .int x4)] → GV p l e (headSpec wsX5_reset rmX5_reset).room s m ([.ref a0, .int p1] : List Value).toArray below meth c D S r H locs 0 0 0 0 (F0 m 7 ls []) := by
    intro n
    induction n with
    | zero => intro x4 S5 hi; cases hi
    | succ n ih9 =>
      intro x4 S5 hi H locs ls hH hl
      obtain ⟨q9_, hf, hq9⟩ := iter_s hi
      have hf : f_X5_reset_b7 a0 p1 x4 S5 = some q9_ := hf
      unfold f_X5_reset_b7 at hf
      refine lv_iload_n hx hb dX5_reset_7 rfl (lv_at hl 2 rfl) ?_
      refine lv_iload_n hx hb dX5_reset_8 rfl (lv_at hl 1 rfl) ?_
      refine lv_icmp_ge (tgt := 44) hx hb dX5_reset_9 (by decide) (fun c10 => ?_) (fun c10 => ?_)
      · have hf := ip hf c10
        cases hf
        have hf9 := itR (K := (fun (v : PS) => k7 v)) hq9 hq9f
        exact Xk7 S5 _ _ ls hH (lv_sub hl [] rfl) hf9
      · have hf := iq hf c10
        refine lv_iload_n hx hb dX5_reset_12 rfl (lv_at hl 2 rfl) ?_
        refine lv_aload_n hx hb dX5_reset_13 rfl (lv_at hl 0 rfl) ?_
        obtain ⟨ek11, hf⟩ := oc hf
        obtain ⟨a12, e13, hf⟩ := ob hf
        refine r_getQ hx hb 8 hts (fun w h => List.mem_cons_of_mem _ (mwsX50 w h)) hown hH ek11 (by decide) rfl 0 (by decide) rfl (hts (.fieldLink RX5 7 "Housestyle$Row" "cells" "[I") (List.mem_cons_of_mem _ gw_0_18)) (fun _ h9 => h9) dX5_reset_14 e13 ?_
        obtain ⟨ek14, hf⟩ := oc hf
        refine r_alen hx hb 101 hH ek14 (by decide) dX5_reset_17 ?_
        refine lv_icmp_ge (tgt := 44) hx hb dX5_reset_18 (by decide) (fun c15 => ?_) (fun c15 => ?_)
        · have hf := ip hf c15
          cases hf
          have hf9 := itR (K := (fun (v : PS) => k7 v)) hq9 hq9f
          exact Xk7 S5 _ _ ls hH (lv_sub hl [] rfl) hf9
        · have hf := iq hf c15
          refine lv_aload_n hx hb dX5_reset_21 rfl (lv_at hl 0 rfl) ?_
          refine r_getQ hx hb 8 hts (fun w h => List.mem_cons_of_mem _ (mwsX50 w h)) hown hH ek11 (by decide) rfl 0 (by decide) rfl (hts (.fieldLink RX5 7 "Housestyle$Row" "cells" "[I") (List.mem_cons_of_mem _ gw_0_18)) (fun _ h9 => h9) dX5_reset_22 e13 ?_
          refine lv_iload_n hx hb dX5_reset_25 rfl (lv_at hl 2 rfl) ?_
          refine lv_iconst (v := 0) hx hb dX5_reset_26 (by decide) ?_
          obtain ⟨ei16, hf⟩ := oc hf
          refine r_iast hx hb hH ek14 ei16 dX5_reset_27 (fun H locs hH => ?_)
          obtain ⟨S17, e18, hf⟩ := ol hf
          rw [e18] at hH
          refine lv_aload_n hx hb dX5_reset_28 rfl (lv_at hl 0 rfl) ?_
          refine lv_dup hx hb dX5_reset_29 rfl ?_
          obtain ⟨ek19, hf⟩ := oc hf
          refine r_getI hx hb 8 hts (fun w h => List.mem_cons_of_mem _ (mwsX50 w h)) hown hH ek19 (by decide) rfl 1 (by decide) rfl (hts (.fieldLink RX5 13 "Housestyle$Row" "count" "I") (List.mem_cons_of_mem _ gw_0_19)) (fun _ h9 => h9) dX5_reset_30 ?_
          refine lv_iconst (v := 1) hx hb dX5_reset_33 (by decide) ?_
          refine lv_iadd hx hb dX5_reset_34 ?_
          refine r_putI hx hb 8 hts (fun w h => List.mem_cons_of_mem _ (mwsX50 w h)) tyX5 tyX5_ok nmX5 hown hH ek19 (by decide) rfl 1 (by decide) rfl (hts (.fieldLink RX5 13 "Housestyle$Row" "count" "I") (List.mem_cons_of_mem _ gw_0_19)) (fun _ h9 => h9) (Or.inl rfl) (ty := .int) (by decide +kernel) rfl rfl dX5_reset_35 (fun H locs hH => ?_)
          obtain ⟨S20, e21, hf⟩ := ol hf
          rw [e21] at hH
          obtain ⟨x22, e23, hf⟩ := ol hf
          refine lv_iinc (v := x22) (lv' := [(2, .int x22), (0, .ref a0), (1, .int p1)]) hx hb dX5_reset_38 hl (k := 2) rfl (by rw [← e23]; rfl) (by decide) rfl (fun ls hl => ?_)
          refine lv_goto (tgt := 7) hx hb dX5_reset_41 (by decide) ?_
          cases hf
          exact ih9 x22 S20 hq9 _ _ ls hH (lv_sub hl [1, 2, 0] rfl)
  exact Lo9 kF 0 S2 eo9 _ _ ls hH (lv_sub hl [1, 2, 0] rfl)
set_option maxRecDepth 100000 in
def f_X5_placeOf_b2 (a0 : Nat) (p1 : Int32) (S : PS) (x1 : Int32) : Option ((Int32) ⊕ ((Unit) ⊕ (Int32))) := if kK S a0 = 9 then (if (kI S a0 1) ≤ x1 then (some (.inr (.inl ()))) else ((f_X5_get S a0 x1).bind fun r11 => if r11 = p1 then (some (.inr (.inr x1))) else (lt (x1 + 1) fun x14 => some (.inl x14)))) else none
set_option maxRecDepth 100000 in
def f_X5_placeOf (S : PS) (a0 : Nat) (p1 : Int32) : Option (Int32) := lt (fun (u4 : Unit) => some (-1)) fun k2 => lt (fun (x5 : Int32) => some x5) fun k6 => (iter (fun (v : Int32) => f_X5_placeOf_b2 a0 p1 S v) kF 0).bind (fun (z : (Unit) ⊕ (Int32)) => Sum.elim (fun (v : Unit) => k2 v) (fun (v : Int32) => k6 v) z)
abbrev rmX5_placeOf : Room := { frames := 1, cells := 0, slots := 0, locals := 21 }
set_option maxHeartbeats 4000000 in
set_option maxRecDepth 100000 in
theorem c_X5_placeOf (l : Launch) (D : va_G × Nat) (S : PS) (a0 : Nat) (p1 : Int32) (r : Int32) (hf : f_X5_placeOf S a0 p1 = some r) : MI l D yX5_placeOf wsX5_placeOf rmX5_placeOf S [.ref a0, .int p1] S r 0 0 := by
  unfold f_X5_placeOf at hf
  refine Met.ofW (cc := cX5_placeOf) (maxL := 3) (ret := (some .int)) (by decide) rfl ?_
  intro p e s m args below meth c s₁ B hml hv
  obtain ⟨rfl, hH0, hNE⟩ := hv
  have hx := B.exec
  have hb := B.bytes
  have hr := B.returns
  have hts := atoms_spec (ws := wsX5_placeOf) B.pre
  have hown : s.vm.findClass RX5 = some m.cls := findClass_of_methodNamed B.named
  have hlocks := B.notSynchronized
  have hH : HI D S S s s.heap [] := HI.start hH0
  have hl := lv_entry ([.ref a0, .int p1]) (n := 3) (Nat.le_of_ble_eq_true rfl)
  rw [lg_entry_eq]
  generalize (lg_sl ([.ref a0, .int p1]) ++ List.replicate (3 - (lg_sl ([.ref a0, .int p1])).length) Slot.unset).toArray = ls at hl ⊢
  have hl : lv_has ls 3 [(0, .ref a0), (1, .int p1)] := hl
  refine lv_iconst (v := 0) hx hb dX5_placeOf_0 (by decide) ?_
  refine lv_istore_n (lv' := [(2, .int 0), (0, .ref a0), (1, .int p1)]) hx hb dX5_placeOf_1 rfl hl (by decide) rfl (fun ls hl => ?_)
  obtain ⟨k2, e3, hf⟩ := ol hf
  have Xk2 : ∀ (u4 : Unit) (H : Heap) (locs : List Loc) (ls : Array Slot), HI D S S s H locs → lv_has ls 3 [] → k2 u4 = some r → GI p l e (headSpec wsX5_placeOf rmX5_placeOf).room s m ([.ref a0, .int p1] : List Value).toArray below meth c D S S r H locs 0 0 0 0 (F0 m 27 ls []) := by
    intro u4 H locs ls hH hl hf
    rw [← e3] at hf
    refine lv_iconst (v := (-1)) hx hb dX5_placeOf_27 (by decide) ?_
    have hr9 := Option.some.inj hf
    subst hr9
    exact e_i hx hb hr hlocks hH dX5_placeOf_28
  obtain ⟨k6, e7, hf⟩ := ol hf
  have Xk6 : ∀ (x5 : Int32) (H : Heap) (locs : List Loc) (ls : Array Slot), HI D S S s H locs → lv_has ls 3 [(2, .int x5)] → k6 x5 = some r → GI p l e (headSpec wsX5_placeOf rmX5_placeOf).room s m ([.ref a0, .int p1] : List Value).toArray below meth c D S S r H locs 0 0 0 0 (F0 m 19 ls []) := by
    intro x5 H locs ls hH hl hf
    rw [← e7] at hf
    refine lv_iload_n hx hb dX5_placeOf_19 rfl (lv_at hl 0 rfl) ?_
    have hr9 := Option.some.inj hf
    subst hr9
    exact e_i hx hb hr hlocks hH dX5_placeOf_20
  obtain ⟨o8, eo8, hq8f⟩ := ob hf
  have Lo8 : ∀ (n : Nat) (x1 : Int32), iter (fun (v : Int32) => f_X5_placeOf_b2 a0 p1 S v) n x1 = some o8 → ∀ (H : Heap) (locs : List Loc) (ls : Array Slot), HI D S S s H locs → lv_has ls 3 [(0, .ref a0), (1, .int p1), (2, .int x1)] → GI p l e (headSpec wsX5_placeOf rmX5_placeOf).room s m ([.ref a0, .int p1] : List Value).toArray below meth c D S S r H locs 0 0 0 0 (F0 m 2 ls []) := by
    intro n
    induction n with
    | zero => intro x1 hi; cases hi
    | succ n ih8 =>
      intro x1 hi H locs ls hH hl
      obtain ⟨q8_, hf, hq8⟩ := iter_s hi
      have hf : f_X5_placeOf_b2 a0 p1 S x1 = some q8_ := hf
      unfold f_X5_placeOf_b2 at hf
      refine lv_iload_n hx hb dX5_placeOf_2 rfl (lv_at hl 2 rfl) ?_
      refine lv_aload_n hx hb dX5_placeOf_3 rfl (lv_at hl 0 rfl) ?_
      obtain ⟨ek9, hf⟩ := oc hf
      refine r_getI hx hb 8 hts (fun w h => List.mem_cons_of_mem _ (mwsX50 w h)) hown hH ek9 (by decide) rfl 1 (by decide) rfl (hts (.fieldLink RX5 13 "Housestyle$Row" "count" "I") (List.mem_cons_of_mem _ gw_0_19)) (fun _ h9 => h9) dX5_placeOf_4 ?_
      refine lv_icmp_ge (tgt := 27) hx hb dX5_placeOf_7 (by decide) (fun c10 => ?_) (fun c10 => ?_)
      · have hf := ip hf c10
        cases hf
        have hf9 := itR (K := (fun (z : (Unit) ⊕ (Int32)) => Sum.elim (fun (v : Unit) => k2 v) (fun (v : Int32) => k6 v) z)) hq8 hq8f
        exact Xk2 () _ _ ls hH (lv_sub hl [] rfl) hf9
      · have hf := iq hf c10
        refine lv_aload_n hx hb dX5_placeOf_10 rfl (lv_at hl 0 rfl) ?_
        refine lv_iload_n hx hb dX5_placeOf_11 rfl (lv_at hl 2 rfl) ?_
        obtain ⟨r11, e12, hf⟩ := ob hf
        refine r_callVi (As := [.int x1]) ⟨hx, hb, hml, hown, hts⟩ (c_X5_get l D S a0 x1 r11 e12) (cwV 1 hts (gwV gw_13_16 gw_2_13 gw_2_14 gw_1_5 gw_2_9) rfl rfl rfl (by decide +kernel) ⟨Nat.le_of_ble_eq_true rfl, Nat.le_of_ble_eq_true rfl⟩) hH hNE 8 ek9 (by decide) rfl rfl rfl hl.1 rfl (Nat.le_of_ble_eq_true rfl) dX5_placeOf_12 ⟨(Nat.le_of_ble_eq_true rfl), (Nat.le_of_ble_eq_true rfl)⟩ (fun H locs hH => ?_)
        refine lv_iload_n hx hb dX5_placeOf_15 rfl (lv_at hl 1 rfl) ?_
        refine lv_icmp_ne (tgt := 21) hx hb dX5_placeOf_16 (by decide) (fun c13 => ?_) (fun c13 => ?_)
        · have hf := iq hf c13
          obtain ⟨x14, e15, hf⟩ := ol hf
          refine lv_iinc (v := x14) (lv' := [(2, .int x14), (0, .ref a0), (1, .int p1)]) hx hb dX5_placeOf_21 hl (k := 2) rfl (by rw [← e15]; rfl) (by decide) rfl (fun ls hl => ?_)
          refine lv_goto (tgt := 2) hx hb dX5_placeOf_24 (by decide) ?_
          cases hf
          exact ih8 x14 hq8 _ _ ls hH (lv_sub hl [1, 2, 0] rfl)
        · have hf := ip hf c13
          cases hf
          have hf9 := itR (K := (fun (z : (Unit) ⊕ (Int32)) => Sum.elim (fun (v : Unit) => k2 v) (fun (v : Int32) => k6 v) z)) hq8 hq8f
          exact Xk6 x1 _ _ ls hH (lv_sub hl [2] rfl) hf9
  exact Lo8 kF 0 eo8 _ _ ls hH (lv_sub hl [1, 2, 0] rfl)
set_option maxRecDepth 100000 in
def f_X5_init (S : PS) (a0 : Nat) (p1 : Int32) : Option (PS) := lt (fun (x1 : Int32) => if ¬ x1 < 0 ∧ x1.toNatClampNeg ≤ 180 then (lt (kZ S) fun a4 => lt (wN S 101 x1.toNatClampNeg) fun S6 => if kK S6 a0 = 9 then (lt (wQ S6 a0 0 (some a4)) fun S9 => if kK S9 a0 = 9 then (lt (wI S9 a0 1 0) fun S12 => some S12) else none) else none) else none) fun j2 => if p1 ≤ 0 then (j2 0) else (j2 p1)
abbrev rmX5_init : Room := { frames := 1, cells := 1, slots := 180, locals := 16 }
set_option maxHeartbeats 4000000 in
set_option maxRecDepth 100000 in
theorem c_X5_init (l : Launch) (D : va_G × Nat) (S : PS) (a0 : Nat) (p1 : Int32) (r : PS) (hf : f_X5_init S a0 p1 = some r) : MV l D yX5_init wsX5_init rmX5_init S [.ref a0, .int p1] r 1 180 := by
  unfold f_X5_init at hf
  refine Met.ofW (cc := cX5_init) (maxL := 2) (ret := none) (by decide) rfl ?_
  intro p e s m args below meth c s₁ B hml hv
  obtain ⟨rfl, hH0, hNE⟩ := hv
  have hx := B.exec
  have hb := B.bytes
  have hr := B.returns
  have hts := atoms_spec (ws := wsX5_init) B.pre
  have hown : s.vm.findClass RX5 = some m.cls := findClass_of_methodNamed B.named
  have hlocks := B.notSynchronized
  have hin : meth.name = "<init>" := (name_of_methodNamed B.named B.method).1
  have hH : HI D S S s s.heap [] := HI.start hH0
  have hl := lv_entry ([.ref a0, .int p1]) (n := 2) (Nat.le_of_ble_eq_true rfl)
  rw [lg_entry_eq]
  generalize (lg_sl ([.ref a0, .int p1]) ++ List.replicate (2 - (lg_sl ([.ref a0, .int p1])).length) Slot.unset).toArray = ls at hl ⊢
  have hl : lv_has ls 2 [(0, .ref a0), (1, .int p1)] := hl
  refine lv_aload_n hx hb dX5_init_0 rfl (lv_at hl 0 rfl) ?_
  refine W.objInit hx hb hown (hts (.methodLink RX5 1 objectInit) (List.mem_cons_of_mem _ gw_0_16)) (hts (.instanceMethod objectInit) (List.mem_cons_of_mem _ gw_0_2)) (hts (.code objectInit ⟨#[0xb1]⟩ 1 none) (List.mem_cons_of_mem _ gw_0_3)) rfl (by rw [hml]; exact hl.1) rfl dX5_init_1 (Nat.le_of_ble_eq_true rfl) (Nat.le_of_ble_eq_true rfl) ?_
  refine W.eq (g2 := F0 m 4 ls []) rfl ?_
  refine lv_aload_n hx hb dX5_init_4 rfl (lv_at hl 0 rfl) ?_
  refine lv_iload_n hx hb dX5_init_5 rfl (lv_at hl 1 rfl) ?_
  obtain ⟨j2, e14, hf⟩ := ol hf
  have Jj2 : ∀ (x1 : Int32) (H : Heap) (locs : List Loc) (ls : Array Slot), HI D S S s H locs → lv_has ls 2 [(0, .ref a0)] → j2 x1 = some r → GV p l e (headSpec wsX5_init rmX5_init).room s m ([.ref a0, .int p1] : List Value).toArray below meth c D S r H locs 0 0 1 180 (F0 m 14 ls [.int x1, .ref a0]) := by
    intro x1 H locs ls hH hl hf
    rw [← e14] at hf
    obtain ⟨en3, hf⟩ := oc hf
    refine r_newa (atype := .int) hx hb 101 (hts (.arrayClass .int) (List.mem_cons_of_mem _ gw_0_17)) rfl (by decide) (by decide) rfl (by decide) (fun _ h9 => h9) hH (cap := 180) en3 (by decide) (Nat.le_of_ble_eq_true rfl) (Nat.le_of_ble_eq_true rfl) dX5_init_14 (fun H hH => ?_)
    obtain ⟨a4, e5, hf⟩ := ol hf
    rw [e5]
    obtain ⟨S6, e7, hf⟩ := ol hf
    rw [e7] at hH
    refine W.widen (k := 1) (n := 180) (by omega) (by omega) ?_
    obtain ⟨ek8, hf⟩ := oc hf
    refine r_putQ hx hb 8 hts (fun w h => List.mem_cons_of_mem _ (mwsX50 w h)) tyX5 tyX5_ok nmX5 hown hH ek8 (by decide) rfl 0 (by decide) rfl (hts (.fieldLink RX5 7 "Housestyle$Row" "cells" "[I") (List.mem_cons_of_mem _ gw_0_18)) (fun _ h9 => h9) (Or.inr ⟨rfl, hin, rfl⟩) (ty := (.array .int)) (by decide +kernel) rfl rfl dX5_init_16 (fun H locs hH => ?_)
    obtain ⟨S9, e10, hf⟩ := ol hf
    rw [e10] at hH
    refine lv_aload_n hx hb dX5_init_19 rfl (lv_at hl 0 rfl) ?_
    refine lv_iconst (v := 0) hx hb dX5_init_20 (by decide) ?_
    obtain ⟨ek11, hf⟩ := oc hf
    refine r_putI hx hb 8 hts (fun w h => List.mem_cons_of_mem _ (mwsX50 w h)) tyX5 tyX5_ok nmX5 hown hH ek11 (by decide) rfl 1 (by decide) rfl (hts (.fieldLink RX5 13 "Housestyle$Row" "count" "I") (List.mem_cons_of_mem _ gw_0_19)) (fun _ h9 => h9) (Or.inl rfl) (ty := .int) (by decide +kernel) rfl rfl dX5_init_21 (fun H locs hH => ?_)
    obtain ⟨S12, e13, hf⟩ := ol hf
    rw [e13] at hH
    have hr9 := Option.some.inj hf
    subst hr9
    exact e_v hx hb hr hlocks hH dX5_init_24
  refine lv_if_le (tgt := 13) hx hb dX5_init_6 (by decide) (fun c15 => ?_) (fun c15 => ?_)
  · have hf := ip hf c15
    refine lv_iconst (v := 0) hx hb dX5_init_13 (by decide) ?_
    exact Jj2 0 _ _ ls hH (lv_sub hl [0] rfl) hf
  · have hf := iq hf c15
    refine lv_iload_n hx hb dX5_init_9 rfl (lv_at hl 1 rfl) ?_
    refine lv_goto (tgt := 14) hx hb dX5_init_10 (by decide) ?_
    exact Jj2 p1 _ _ ls hH (lv_sub hl [0] rfl) hf
set_option maxRecDepth 100000 in
def f_X5_part_b14 (a0 : Nat) (a1 : Nat) (p2 : Int32) (x7 : Int32) (S8 : PS) : Option ((Int32 × PS) ⊕ ((PS))) := if p2 ≤ x7 then (some (.inr S8)) else (if kK S8 a0 = 9 then ((f_X5_get S8 a0 x7).bind fun r15 => if kK S8 a1 = 9 then ((f_X5_add S8 a1 r15).bind fun r18 => lt (x7 + 1) fun x20 => some (.inl (x20, r18))) else none) else none)
set_option maxRecDepth 100000 in
def f_X5_part (S : PS) (a0 : Nat) (p1 : Int32) (p2 : Int32) : Option (PS × Nat) := lt (kZ S) fun a1 => lt (wN S 9 0) fun S3 => (f_X5_init S3 a1 (p2 - p1)).bind fun r5 => lt (fun (S9 : PS) => some (S9, a1)) fun k10 => (iter (fun (v : Int32 × PS) => f_X5_part_b14 a0 a1 p2 v.1 v.2) kF (p1, r5)).bind (fun (v : PS) => k10 v)
abbrev rmX5_part : Room := { frames := 2, cells := 2, slots := 182, locals := 37 }
set_option maxHeartbeats 4000000 in
set_option maxRecDepth 100000 in
theorem c_X5_part (l : Launch) (D : va_G × Nat) (S : PS) (a0 : Nat) (p1 : Int32) (p2 : Int32) (r : PS × Nat) (hf : f_X5_part S a0 p1 p2 = some r) : MR l D yX5_part wsX5_part rmX5_part S [.ref a0, .int p1, .int p2] r.1 r.2 2 182 := by
  unfold f_X5_part at hf
  refine Met.ofW (cc := cX5_part) (maxL := 5) (ret := (some (.object "Housestyle$Row"))) (by decide) rfl ?_
  intro p e s m args below meth c s₁ B hml hv
  obtain ⟨rfl, hH0, hNE⟩ := hv
  have hx := B.exec
  have hb := B.bytes
  have hr := B.returns
  have hts := atoms_spec (ws := wsX5_part) B.pre
  have hown : s.vm.findClass RX5 = some m.cls := findClass_of_methodNamed B.named
  have hlocks := B.notSynchronized
  have hH : HI D S S s s.heap [] := HI.start hH0
  have hl := lv_entry ([.ref a0, .int p1, .int p2]) (n := 5) (Nat.le_of_ble_eq_true rfl)
  rw [lg_entry_eq]
  generalize (lg_sl ([.ref a0, .int p1, .int p2]) ++ List.replicate (5 - (lg_sl ([.ref a0, .int p1, .int p2])).length) Slot.unset).toArray = ls at hl ⊢
  have hl : lv_has ls 5 [(0, .ref a0), (1, .int p1), (2, .int p2)] := hl
  refine r_new hx hb 8 hts (fun w h => List.mem_cons_of_mem _ (mwsX50 w h)) tyX5 tyX5_ok hown (hts (.classLink RX5 8 RX5) (List.mem_cons_of_mem _ gw_13_14)) (hts (.instantiable RX5 2) (List.mem_cons_of_mem _ gw_1_4)) (hts (.initialized RX5) (List.mem_cons_of_mem _ gw_1_5)) hH (by decide) rfl (by decide +kernel) (Nat.le_of_ble_eq_true rfl) (Nat.le_of_ble_eq_true rfl) dX5_part_0 (fun H hH => ?_)
  obtain ⟨a1, e2, hf⟩ := ol hf
  rw [e2]
  obtain ⟨S3, e4, hf⟩ := ol hf
  rw [e4] at hH
  refine W.widen (k := 1) (n := 2) (by omega) (by omega) ?_
  refine lv_dup hx hb dX5_part_3 rfl ?_
  refine lv_iload_n hx hb dX5_part_4 rfl (lv_at hl 2 rfl) ?_
  refine lv_iload_n hx hb dX5_part_5 rfl (lv_at hl 1 rfl) ?_
  refine lv_isub hx hb dX5_part_6 ?_
  obtain ⟨r5, e6, hf⟩ := ob hf
  refine r_callIv (As := [.int (p2 - p1)]) ⟨hx, hb, hml, hown, hts⟩ (c_X5_init l D S3 a1 (p2 - p1) r5 e6) (cwI 1 hts (gwI (gwC gw_0_15)) rfl rfl rfl (hts (.initialized RX5) (List.mem_cons_of_mem _ gw_1_5)) (hts (.methodLink RX5 21 yX5_init) (List.mem_cons_of_mem _ gw_13_15)) (hts (.instanceMethod yX5_init) (List.mem_cons_of_mem _ gw_1_10)) rfl (by decide +kernel) ⟨Nat.le_of_ble_eq_true rfl, Nat.le_of_ble_eq_true rfl⟩) hH hNE rfl hl.1 rfl (Nat.le_of_ble_eq_true rfl) dX5_part_7 ⟨(Nat.le_of_ble_eq_true rfl), (Nat.le_of_ble_eq_true rfl)⟩ (fun H locs hH => ?_)
  refine W.widen (k := 2) (n := 182) (by omega) (by omega) ?_
  refine lv_astore_n (lv' := [(3, .ref a1), (0, .ref a0), (1, .int p1), (2, .int p2)]) hx hb dX5_part_10 rfl hl (by decide) rfl (fun ls hl => ?_)
  refine lv_iload_n hx hb dX5_part_11 rfl (lv_at hl 2 rfl) ?_
  refine lv_istore (lv' := [(4, .int p1), (3, .ref a1), (0, .ref a0), (1, .int p1), (2, .int p2)]) hx hb dX5_part_12 hl (by decide) rfl (fun ls hl => ?_)
  obtain ⟨k10, e11, hf⟩ := ol hf
  have Xk10 : ∀ (S9 : PS) (H : Heap) (locs : List Loc) (ls : Array Slot), HI D S S9 s H locs → lv_has ls 5 [(3, .ref a1)] → k10 S9 = some r → GR p l e (headSpec wsX5_part rmX5_part).room s m ([.ref a0, .int p1, .int p2] : List Value).toArray below meth c D S r.1 r.2 H locs 2 182 2 182 (F0 m 36 ls []) := by
    intro S9 H locs ls hH hl hf
    rw [← e11] at hf
    refine lv_aload_n hx hb dX5_part_36 rfl (lv_at hl 0 rfl) ?_
    have hr9 := Option.some.inj hf
    subst hr9
    exact e_r hx hb hr hlocks hH dX5_part_37
  obtain ⟨o12, eo12, hq12f⟩ := ob hf
  have Lo12 : ∀ (n : Nat) (x7 : Int32) (S8 : PS), iter (fun (v : Int32 × PS) => f_X5_part_b14 a0 a1 p2 v.1 v.2) n (x7, S8) = some o12 → ∀ (H : Heap) (locs : List Loc) (ls : Array Slot), HI D S S8 s H locs → lv_has ls 5 [(0, .ref a0), (2, .int p2), (3, .ref a1), (4, .int x7)] → GR p l e (headSpec wsX5_part rmX5_part).room s m ([.ref a0, .int p1, .int p2] : List Value).toArray below meth c D S r.1 r.2 H locs 2 182 2 182 (F0 m 14 ls []) := by
    intro n
    induction n with
    | zero => intro x7 S8 hi; cases hi
    | succ n ih12 =>
      intro x7 S8 hi H locs ls hH hl
      obtain ⟨q12_, hf, hq12⟩ := iter_s hi
      have hf : f_X5_part_b14 a0 a1 p2 x7 S8 = some q12_ := hf
      unfold f_X5_part_b14 at hf
      refine lv_iload hx hb dX5_part_14 (lv_at hl 3 rfl) ?_
      refine lv_iload_n hx hb dX5_part_16 rfl (lv_at hl 1 rfl) ?_
      refine lv_icmp_ge (tgt := 36) hx hb dX5_part_17 (by decide) (fun c13 => ?_) (fun c13 => ?_)
      · have hf := ip hf c13
        cases hf
        have hf9 := itR (K := (fun (v : PS) => k10 v)) hq12 hq12f
        exact Xk10 S8 _ _ ls hH (lv_sub hl [2] rfl) hf9
      · have hf := iq hf c13
        refine lv_aload_n hx hb dX5_part_20 rfl (lv_at hl 2 rfl) ?_
        refine lv_aload_n hx hb dX5_part_21 rfl (lv_at hl 0 rfl) ?_
        refine lv_iload hx hb dX5_part_22 (lv_at hl 3 rfl) ?_
        obtain ⟨ek14, hf⟩ := oc hf
        obtain ⟨r15, e16, hf⟩ := ob hf
        refine r_callVi (As := [.int x7]) ⟨hx, hb, hml, hown, hts⟩ (c_X5_get l D S8 a0 x7 r15 e16) (cwV 1 hts (gwV gw_13_16 gw_2_13 gw_2_14 gw_1_5 gw_2_9) rfl rfl rfl (by decide +kernel) ⟨Nat.le_of_ble_eq_true rfl, Nat.le_of_ble_eq_true rfl⟩) hH hNE 8 ek14 (by decide) rfl rfl rfl hl.1 rfl (Nat.le_of_ble_eq_true rfl) dX5_part_24 ⟨(Nat.le_of_ble_eq_true rfl), (Nat.le_of_ble_eq_true rfl)⟩ (fun H locs hH => ?_)
        obtain ⟨ek17, hf⟩ := oc hf
        obtain ⟨r18, e19, hf⟩ := ob hf
        refine r_callVv (As := [.int r15]) ⟨hx, hb, hml, hown, hts⟩ (c_X5_add l D S8 a1 r15 r18 e19) (cwV 1 hts (gwV gw_13_17 gw_7_14 gw_7_15 gw_1_5 gw_7_11) rfl rfl rfl (by decide +kernel) ⟨Nat.le_of_ble_eq_true rfl, Nat.le_of_ble_eq_true rfl⟩) hH hNE 8 ek17 (by decide) rfl rfl rfl hl.1 rfl (Nat.le_of_ble_eq_true rfl) dX5_part_27 ⟨(Nat.le_of_ble_eq_true rfl), (Nat.le_of_ble_eq_true rfl)⟩ (fun H locs hH => ?_)
        obtain ⟨x20, e21, hf⟩ := ol hf
        refine lv_iinc (v := x20) (lv' := [(4, .int x20), (0, .ref a0), (2, .int p2), (3, .ref a1)]) hx hb dX5_part_30 hl (k := 3) rfl (by rw [← e21]; rfl) (by decide) rfl (fun ls hl => ?_)
        refine lv_goto (tgt := 14) hx hb dX5_part_33 (by decide) ?_
        cases hf
        exact ih12 x20 r18 hq12 _ _ ls hH (lv_sub hl [1, 2, 3, 0] rfl)
  exact Lo12 kF p1 r5 eo12 _ _ ls hH (lv_sub hl [2, 4, 1, 0] rfl)
set_option maxRecDepth 100000 in
def f_X5_isLike_b15 (a0 : Nat) (b1 : Nat) (S : PS) (x4 : Int32) : Option ((Int32) ⊕ ((Unit) ⊕ (Unit))) := if (kI S a0 1) ≤ x4 then (some (.inr (.inl ()))) else ((f_X5_get S a0 x4).bind fun r13 => (f_X5_get S b1 x4).bind fun r15 => if r13 = r15 then (lt (x4 + 1) fun x18 => some (.inl x18)) else (some (.inr (.inr ()))))
set_option maxRecDepth 100000 in
def f_X5_isLike (S : PS) (a0 : Nat) (b1 : Nat) : Option (Int32) := if kK S a0 = 9 then (if kK S b1 = 9 then (if (kI S a0 1) = (kI S b1 1) then (lt (fun (u7 : Unit) => some 1) fun k5 => lt (fun (u10 : Unit) => some 0) fun k8 => (iter (fun (v : Int32) => f_X5_isLike_b15 a0 b1 S v) kF 0).bind (fun (z : (Unit) ⊕ (Unit)) => Sum.elim (fun (v : Unit) => k5 v) (fun (v : Unit) => k8 v) z)) else (some 0)) else none) else none
abbrev rmX5_isLike : Room := { frames := 1, cells := 0, slots := 0, locals := 21 }
set_option maxHeartbeats 4000000 in
set_option maxRecDepth 100000 in
theorem c_X5_isLike (l : Launch) (D : va_G × Nat) (S : PS) (a0 : Nat) (b1 : Nat) (r : Int32) (hf : f_X5_isLike S a0 b1 = some r) : MI l D yX5_isLike wsX5_isLike rmX5_isLike S [.ref a0, .ref b1] S r 0 0 := by
  unfold f_X5_isLike at hf
  refine Met.ofW (cc := cX5_isLike) (maxL := 3) (ret := (some .boolean)) (by decide) rfl ?_
  intro p e s m args below meth c s₁ B hml hv
  obtain ⟨rfl, hH0, hNE⟩ := hv
  have hx := B.exec
  have hb := B.bytes
  have hr := B.returns
  have hts := atoms_spec (ws := wsX5_isLike) B.pre
  have hown : s.vm.findClass RX5 = some m.cls := findClass_of_methodNamed B.named
  have hlocks := B.notSynchronized
  have hH : HI D S S s s.heap [] := HI.start hH0
  have hl := lv_entry ([.ref a0, .ref b1]) (n := 3) (Nat.le_of_ble_eq_true rfl)
  rw [lg_entry_eq]
  generalize (lg_sl ([.ref a0, .ref b1]) ++ List.replicate (3 - (lg_sl ([.ref a0, .ref b1])).length) Slot.unset).toArray = ls at hl ⊢
  have hl : lv_has ls 3 [(0, .ref a0), (1, .ref b1)] := hl
  refine lv_aload_n hx hb dX5_isLike_0 rfl (lv_at hl 0 rfl) ?_
  obtain ⟨ek1, hf⟩ := oc hf
  refine r_getI hx hb 8 hts (fun w h => List.mem_cons_of_mem _ (mwsX50 w h)) hown hH ek1 (by decide) rfl 1 (by decide) rfl (hts (.fieldLink RX5 13 "Housestyle$Row" "count" "I") (List.mem_cons_of_mem _ gw_0_19)) (fun _ h9 => h9) dX5_isLike_1 ?_
  refine lv_aload_n hx hb dX5_isLike_4 rfl (lv_at hl 1 rfl) ?_
  obtain ⟨ek2, hf⟩ := oc hf
  refine r_getI hx hb 8 hts (fun w h => List.mem_cons_of_mem _ (mwsX50 w h)) hown hH ek2 (by decide) rfl 1 (by decide) rfl (hts (.fieldLink RX5 13 "Housestyle$Row" "count" "I") (List.mem_cons_of_mem _ gw_0_19)) (fun _ h9 => h9) dX5_isLike_5 ?_
  refine lv_icmp_eq (tgt := 13) hx hb dX5_isLike_8 (by decide) (fun c3 => ?_) (fun c3 => ?_)
  · have hf := ip hf c3
    refine lv_iconst (v := 0) hx hb dX5_isLike_13 (by decide) ?_
    refine lv_istore_n (lv' := [(2, .int 0), (0, .ref a0), (1, .ref b1)]) hx hb dX5_isLike_14 rfl hl (by decide) rfl (fun ls hl => ?_)
    obtain ⟨k5, e6, hf⟩ := ol hf
    have Xk5 : ∀ (u7 : Unit) (H : Heap) (locs : List Loc) (ls : Array Slot), HI D S S s H locs → lv_has ls 3 [] → k5 u7 = some r → GI p l e (headSpec wsX5_isLike rmX5_isLike).room s m ([.ref a0, .ref b1] : List Value).toArray below meth c D S S r H locs 0 0 0 0 (F0 m 44 ls []) := by
      intro u7 H locs ls hH hl hf
      rw [← e6] at hf
      refine lv_iconst (v := 1) hx hb dX5_isLike_44 (by decide) ?_
      have hr9 := Option.some.inj hf
      subst hr9
      exact e_z (r := 1) hx hb hr hlocks rfl hH dX5_isLike_45
    obtain ⟨k8, e9, hf⟩ := ol hf
    have Xk8 : ∀ (u10 : Unit) (H : Heap) (locs : List Loc) (ls : Array Slot), HI D S S s H locs → lv_has ls 3 [] → k8 u10 = some r → GI p l e (headSpec wsX5_isLike rmX5_isLike).room s m ([.ref a0, .ref b1] : List Value).toArray below meth c D S S r H locs 0 0 0 0 (F0 m 36 ls []) := by
      intro u10 H locs ls hH hl hf
      rw [← e9] at hf
      refine lv_iconst (v := 0) hx hb dX5_isLike_36 (by decide) ?_
      have hr9 := Option.some.inj hf
      subst hr9
      exact e_z (r := 0) hx hb hr hlocks rfl hH dX5_isLike_37
    obtain ⟨o11, eo11, hq11f⟩ := ob hf
    have Lo11 : ∀ (n : Nat) (x4 : Int32), iter (fun (v : Int32) => f_X5_isLike_b15 a0 b1 S v) n x4 = some o11 → ∀ (H : Heap) (locs : List Loc) (ls : Array Slot), HI D S S s H locs → lv_has ls 3 [(0, .ref a0), (1, .ref b1), (2, .int x4)] → GI p l e (headSpec wsX5_isLike rmX5_isLike).room s m ([.ref a0, .ref b1] : List Value).toArray below meth c D S S r H locs 0 0 0 0 (F0 m 15 ls []) := by
      intro n
      induction n with
      | zero => intro x4 hi; cases hi
      | succ n ih11 =>
        intro x4 hi H locs ls hH hl
        obtain ⟨q11_, hf, hq11⟩ := iter_s hi
        have hf : f_X5_isLike_b15 a0 b1 S x4 = some q11_ := hf
        unfold f_X5_isLike_b15 at hf
        refine lv_iload_n hx hb dX5_isLike_15 rfl (lv_at hl 2 rfl) ?_
        refine lv_aload_n hx hb dX5_isLike_16 rfl (lv_at hl 0 rfl) ?_
        refine r_getI hx hb 8 hts (fun w h => List.mem_cons_of_mem _ (mwsX50 w h)) hown hH ek1 (by decide) rfl 1 (by decide) rfl (hts (.fieldLink RX5 13 "Housestyle$Row" "count" "I") (List.mem_cons_of_mem _ gw_0_19)) (fun _ h9 => h9) dX5_isLike_17 ?_
        refine lv_icmp_ge (tgt := 44) hx hb dX5_isLike_20 (by decide) (fun c12 => ?_) (fun c12 => ?_)
        · have hf := ip hf c12
          cases hf
          have hf9 := itR (K := (fun (z : (Unit) ⊕ (Unit)) => Sum.elim (fun (v : Unit) => k5 v) (fun (v : Unit) => k8 v) z)) hq11 hq11f
          exact Xk5 () _ _ ls hH (lv_sub hl [] rfl) hf9
        · have hf := iq hf c12
          refine lv_aload_n hx hb dX5_isLike_23 rfl (lv_at hl 0 rfl) ?_
          refine lv_iload_n hx hb dX5_isLike_24 rfl (lv_at hl 2 rfl) ?_
          obtain ⟨r13, e14, hf⟩ := ob hf
          refine r_callVi (As := [.int x4]) ⟨hx, hb, hml, hown, hts⟩ (c_X5_get l D S a0 x4 r13 e14) (cwV 1 hts (gwV gw_13_16 gw_2_13 gw_2_14 gw_1_5 gw_2_9) rfl rfl rfl (by decide +kernel) ⟨Nat.le_of_ble_eq_true rfl, Nat.le_of_ble_eq_true rfl⟩) hH hNE 8 ek1 (by decide) rfl rfl rfl hl.1 rfl (Nat.le_of_ble_eq_true rfl) dX5_isLike_25 ⟨(Nat.le_of_ble_eq_true rfl), (Nat.le_of_ble_eq_true rfl)⟩ (fun H locs hH => ?_)
          refine lv_aload_n hx hb dX5_isLike_28 rfl (lv_at hl 1 rfl) ?_
          refine lv_iload_n hx hb dX5_isLike_29 rfl (lv_at hl 2 rfl) ?_
          obtain ⟨r15, e16, hf⟩ := ob hf
          refine r_callVi (As := [.int x4]) ⟨hx, hb, hml, hown, hts⟩ (c_X5_get l D S b1 x4 r15 e16) (cwV 1 hts (gwV gw_13_16 gw_2_13 gw_2_14 gw_1_5 gw_2_9) rfl rfl rfl (by decide +kernel) ⟨Nat.le_of_ble_eq_true rfl, Nat.le_of_ble_eq_true rfl⟩) hH hNE 8 ek2 (by decide) rfl rfl rfl hl.1 rfl (Nat.le_of_ble_eq_true rfl) dX5_isLike_30 ⟨(Nat.le_of_ble_eq_true rfl), (Nat.le_of_ble_eq_true rfl)⟩ (fun H locs hH => ?_)
          refine lv_icmp_eq (tgt := 38) hx hb dX5_isLike_33 (by decide) (fun c17 => ?_) (fun c17 => ?_)
          · have hf := ip hf c17
            obtain ⟨x18, e19, hf⟩ := ol hf
            refine lv_iinc (v := x18) (lv' := [(2, .int x18), (0, .ref a0), (1, .ref b1)]) hx hb dX5_isLike_38 hl (k := 2) rfl (by rw [← e19]; rfl) (by decide) rfl (fun ls hl => ?_)
            refine lv_goto (tgt := 15) hx hb dX5_isLike_41 (by decide) ?_
            cases hf
            exact ih11 x18 hq11 _ _ ls hH (lv_sub hl [1, 2, 0] rfl)
          · have hf := iq hf c17
            cases hf
            have hf9 := itR (K := (fun (z : (Unit) ⊕ (Unit)) => Sum.elim (fun (v : Unit) => k5 v) (fun (v : Unit) => k8 v) z)) hq11 hq11f
            exact Xk8 () _ _ ls hH (lv_sub hl [] rfl) hf9
    exact Lo11 kF 0 eo11 _ _ ls hH (lv_sub hl [1, 2, 0] rfl)
  · have hf := iq hf c3
    refine lv_iconst (v := 0) hx hb dX5_isLike_11 (by decide) ?_
    have hr9 := Option.some.inj hf
    subst hr9
    exact e_z (r := 0) hx hb hr hlocks rfl hH dX5_isLike_12
