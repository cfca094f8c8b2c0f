set_option maxRecDepth 100000 in
def f_X10_isAnyQuoted_b5 (a0 : Nat) (p2 : Int32) (S : PS) (x1 : Int32) (x2 : Int32) : Option ((Int32 × Int32) ⊕ ((Int32))) := if p2 ≤ x2 then (some (.inr x1)) else (lt (fun (x9 : Int32) => lt (x2 + 1) fun x11 => some (.inl (x9, x11))) fun j10 => lt (fun (u15 : Unit) => j10 1) fun j14 => if x1 = 0 then (if kK S a0 = 14 then ((kQ S a0 36).bind fun a19 => if kK S a19 = 103 then (if ¬ (x2 < 0 ∨ kN S a19 ≤ x2.toNatClampNeg) then (if (kI S a19 x2.toNatClampNeg) = 0 then (j10 0) else (j14 ())) else none) else none) else none) else (j14 ()))
set_option maxRecDepth 100000 in
def f_X10_isAnyQuoted (S : PS) (a0 : Nat) (p1 : Int32) (p2 : Int32) : Option (Int32) := lt (fun (x3 : Int32) => if x3 = 0 ∨ x3 = 1 then (some x3) else none) fun k4 => (iter (fun (v : Int32 × Int32) => f_X10_isAnyQuoted_b5 a0 p2 S v.1 v.2) kF (0, p1)).bind (fun (v : Int32) => k4 v)
abbrev rmX10_isAnyQuoted : Room := { frames := 0, cells := 0, slots := 0, locals := 0 }
set_option maxHeartbeats 4000000 in
set_option maxRecDepth 100000 in
theorem c_X10_isAnyQuoted (l : Launch) (D : va_G × Nat) (S : PS) (a0 : Nat) (p1 : Int32) (p2 : Int32) (r : Int32) (hf : f_X10_isAnyQuoted S a0 p1 p2 = some r) : MI l D yX10_isAnyQuoted wsX10_isAnyQuoted rmX10_isAnyQuoted S [.ref a0, .int p1, .int p2] S r 0 0 := by
  unfold f_X10_isAnyQuoted at hf
  refine Met.ofW (cc := cX10_isAnyQuoted) (maxL := 5) (ret := (some .boolean)) (by decide) rfl ?_
  intro p e s m args below meth c s₁ B hml hv
  obtain ⟨rfl, hH0, hNE⟩ := hv
  have hx := B.exec
  have hb := B.bytes
  have hr := B.returns
  have hts := atoms_spec (ws := wsX10_isAnyQuoted) B.pre
  have hown : s.vm.findClass RX10 = some m.cls := findClass_of_methodNamed B.named
  have hlocks := B.notSynchronized
  have hH : HI D S S s s.heap [] := HI.start hH0
  have hl := lv_entry ([.ref a0, .int p1, .int p2]) (n := 5) (Nat.le_of_ble_eq_true rfl)
  rw [lg_entry_eq]
  generalize (lg_sl ([.ref a0, .int p1, .int p2]) ++ List.replicate (5 - (lg_sl ([.ref a0, .int p1, .int p2])).length) Slot.unset).toArray = ls at hl ⊢
  have hl : lv_has ls 5 [(0, .ref a0), (1, .int p1), (2, .int p2)] := hl
  refine lv_iconst (v := 0) hx hb dX10_isAnyQuoted_0 (by decide) ?_
  refine lv_istore_n (lv' := [(3, .int 0), (0, .ref a0), (1, .int p1), (2, .int p2)]) hx hb dX10_isAnyQuoted_1 rfl hl (by decide) rfl (fun ls hl => ?_)
  refine lv_iload_n hx hb dX10_isAnyQuoted_2 rfl (lv_at hl 2 rfl) ?_
  refine lv_istore (lv' := [(4, .int p1), (3, .int 0), (0, .ref a0), (1, .int p1), (2, .int p2)]) hx hb dX10_isAnyQuoted_3 hl (by decide) rfl (fun ls hl => ?_)
  obtain ⟨k4, e5, hf⟩ := ol hf
  have Xk4 : ∀ (x3 : Int32) (H : Heap) (locs : List Loc) (ls : Array Slot), HI D S S s H locs → lv_has ls 5 [(3, .int x3)] → k4 x3 = some r → GI p l e (headSpec wsX10_isAnyQuoted rmX10_isAnyQuoted).room s m ([.ref a0, .int p1, .int p2] : List Value).toArray below meth c D S S r H locs 0 0 0 0 (F0 m 37 ls []) := by
    intro x3 H locs ls hH hl hf
    rw [← e5] at hf
    refine lv_iload_n hx hb dX10_isAnyQuoted_37 rfl (lv_at hl 0 rfl) ?_
    obtain ⟨en6, hf⟩ := oc hf
    have hr9 := Option.some.inj hf
    subst hr9
    exact e_z hx hb hr hlocks (nar_Z9 en6) hH dX10_isAnyQuoted_38
  obtain ⟨o7, eo7, hq7f⟩ := ob hf
  have Lo7 : ∀ (n : Nat) (x1 : Int32) (x2 : Int32), iter (fun (v : Int32 × Int32) => f_X10_isAnyQuoted_b5 a0 p2 S v.1 v.2) n (x1, x2) = some o7 → ∀ (H : Heap) (locs : List Loc) (ls : Array Slot), HI D S S s H locs → lv_has ls 5 [(0, .ref a0), (2, .int p2), (3, .int x1), (4, .int x2)] → GI p l e (headSpec wsX10_isAnyQuoted rmX10_isAnyQuoted).room s m ([.ref a0, .int p1, .int p2] : List Value).toArray below meth c D S S r H locs 0 0 0 0 (F0 m 5 ls []) := by
    intro n
    induction n with
    | zero => intro x1 x2 hi; cases hi
    | succ n ih7 =>
      intro x1 x2 hi H locs ls hH hl
      obtain ⟨q7_, hf, hq7⟩ := iter_s hi
      have hf : f_X10_isAnyQuoted_b5 a0 p2 S x1 x2 = some q7_ := hf
      unfold f_X10_isAnyQuoted_b5 at hf
      refine lv_iload hx hb dX10_isAnyQuoted_5 (lv_at hl 3 rfl) ?_
      refine lv_iload_n hx hb dX10_isAnyQuoted_7 rfl (lv_at hl 1 rfl) ?_
      refine lv_icmp_ge (tgt := 37) hx hb dX10_isAnyQuoted_8 (by decide) (fun c8 => ?_) (fun c8 => ?_)
      · have hf := ip hf c8
        cases hf
        have hf9 := itR (K := (fun (v : Int32) => k4 v)) hq7 hq7f
        exact Xk4 x1 _ _ ls hH (lv_sub hl [2] rfl) hf9
      · have hf := iq hf c8
        refine lv_iload_n hx hb dX10_isAnyQuoted_11 rfl (lv_at hl 2 rfl) ?_
        obtain ⟨j10, e13, hf⟩ := ol hf
        have Jj10 : ∀ (x9 : Int32) (H : Heap) (locs : List Loc) (ls : Array Slot), HI D S S s H locs → lv_has ls 5 [(0, .ref a0), (2, .int p2), (4, .int x2)] → j10 x9 = some q7_ → GI p l e (headSpec wsX10_isAnyQuoted rmX10_isAnyQuoted).room s m ([.ref a0, .int p1, .int p2] : List Value).toArray below meth c D S S r H locs 0 0 0 0 (F0 m 30 ls [.int x9]) := by
          intro x9 H locs ls hH hl hf
          rw [← e13] at hf
          refine lv_istore_n (lv' := [(3, .int x9), (0, .ref a0), (2, .int p2), (4, .int x2)]) hx hb dX10_isAnyQuoted_30 rfl hl (by decide) rfl (fun ls hl => ?_)
          obtain ⟨x11, e12, hf⟩ := ol hf
          refine lv_iinc (v := x11) (lv' := [(4, .int x11), (3, .int x9), (0, .ref a0), (2, .int p2)]) hx hb dX10_isAnyQuoted_31 hl (k := 3) rfl (by rw [← e12]; rfl) (by decide) rfl (fun ls hl => ?_)
          refine lv_goto (tgt := 5) hx hb dX10_isAnyQuoted_34 (by decide) ?_
          cases hf
          exact ih7 x9 x11 hq7 _ _ ls hH (lv_sub hl [2, 3, 1, 0] rfl)
        obtain ⟨j14, e16, hf⟩ := ol hf
        have Jj14 : ∀ (u15 : Unit) (H : Heap) (locs : List Loc) (ls : Array Slot), HI D S S s H locs → lv_has ls 5 [(0, .ref a0), (2, .int p2), (4, .int x2)] → j14 u15 = some q7_ → GI p l e (headSpec wsX10_isAnyQuoted rmX10_isAnyQuoted).room s m ([.ref a0, .int p1, .int p2] : List Value).toArray below meth c D S S r H locs 0 0 0 0 (F0 m 25 ls []) := by
          intro u15 H locs ls hH hl hf
          rw [← e16] at hf
          refine lv_iconst (v := 1) hx hb dX10_isAnyQuoted_25 (by decide) ?_
          refine lv_goto (tgt := 30) hx hb dX10_isAnyQuoted_26 (by decide) ?_
          exact Jj10 1 _ _ ls hH (lv_sub hl [0, 1, 2] rfl) hf
        refine lv_if_ne (tgt := 25) hx hb dX10_isAnyQuoted_12 (by decide) (fun c17 => ?_) (fun c17 => ?_)
        · have hf := iq hf c17
          exact Jj14 () _ _ ls hH (lv_sub hl [0, 1, 3] rfl) hf
        · have hf := ip hf c17
          refine lv_aload_n hx hb dX10_isAnyQuoted_15 rfl (lv_at hl 0 rfl) ?_
          obtain ⟨ek18, hf⟩ := oc hf
          obtain ⟨a19, e20, hf⟩ := ob hf
          refine r_getQ hx hb 13 hts (fun w h => List.mem_cons_of_mem _ (mwsX100 w h)) hown hH ek18 (by decide) rfl 36 (by decide) rfl (hts (.fieldLink RX10 102 "HousestyleModel" "isQuoted" "[Z") (List.mem_cons_of_mem _ gw_30_19)) (fun _ h9 => h9) dX10_isAnyQuoted_16 e20 ?_
          refine lv_iload hx hb dX10_isAnyQuoted_19 (lv_at hl 3 rfl) ?_
          obtain ⟨ek21, hf⟩ := oc hf
          obtain ⟨ei22, hf⟩ := oc hf
          refine r_zald hx hb hH ek21 ei22 dX10_isAnyQuoted_21 ?_
          refine lv_if_eq (tgt := 29) hx hb dX10_isAnyQuoted_22 (by decide) (fun c23 => ?_) (fun c23 => ?_)
          · have hf := ip hf c23
            refine lv_iconst (v := 0) hx hb dX10_isAnyQuoted_29 (by decide) ?_
            exact Jj10 0 _ _ ls hH (lv_sub hl [0, 1, 3] rfl) hf
          · have hf := iq hf c23
            exact Jj14 () _ _ ls hH (lv_sub hl [0, 1, 3] rfl) hf
  exact Lo7 kF 0 p1 eo7 _ _ ls hH (lv_sub hl [2, 4, 1, 0] rfl)
set_option maxRecDepth 100000 in
def f_X10_isFirstOfSentence_b44 (a0 : Nat) (a5 : Nat) (p1 : Int32) (S : PS) (x20 : Int32) (x21 : Int32) : Option ((Int32 × Int32) ⊕ ((Int32))) := if ¬ (p1 < 0 ∨ kN S a5 ≤ p1.toNatClampNeg) then (if (kI S a5 p1.toNatClampNeg) ≤ x21 then (some (.inr x20)) else (lt (fun (x29 : Int32) => lt (x21 + 1) fun x31 => some (.inl (x29, x31))) fun j30 => lt (fun (u35 : Unit) => j30 1) fun j34 => if x20 = 0 then ((kQ S a0 1).bind fun a38 => if kK S a38 = 102 then (if ¬ (x21 < 0 ∨ kN S a38 ≤ x21.toNatClampNeg) then (if (kI S a38 x21.toNatClampNeg) = (46 : Int32) then (j34 ()) else (j30 0)) else none) else none) else (j34 ()))) else none
set_option maxRecDepth 100000 in
def f_X10_isFirstOfSentence (S : PS) (a0 : Nat) (p1 : Int32) : Option (Int32) := if p1 = 0 then (some 1) else (if kK S a0 = 14 then ((kQ S a0 35).bind fun a3 => (kQ S a0 32).bind fun a5 => if kK S a5 = 101 then (if ¬ ((p1 - 1) < 0 ∨ kN S a5 ≤ (p1 - 1).toNatClampNeg) then (if kK S a3 = 101 then (if ¬ ((kI S a5 (p1 - 1).toNatClampNeg) < 0 ∨ kN S a3 ≤ (kI S a5 (p1 - 1).toNatClampNeg).toNatClampNeg) then (if ¬ (p1 < 0 ∨ kN S a5 ≤ p1.toNatClampNeg) then (if ¬ ((kI S a5 p1.toNatClampNeg) < 0 ∨ kN S a3 ≤ (kI S a5 p1.toNatClampNeg).toNatClampNeg) then (if (kI S a3 (kI S a5 (p1 - 1).toNatClampNeg).toNatClampNeg) = (kI S a3 (kI S a5 p1.toNatClampNeg).toNatClampNeg) then ((kQ S a0 33).bind fun a14 => if kK S a14 = 101 then (if ¬ ((p1 - 1) < 0 ∨ kN S a14 ≤ (p1 - 1).toNatClampNeg) then (lt (kI S a14 (p1 - 1).toNatClampNeg) fun x18 => lt (fun (x22 : Int32) => if x22 = 0 ∨ x22 = 1 then (some x22) else none) fun k23 => (iter (fun (v : Int32 × Int32) => f_X10_isFirstOfSentence_b44 a0 a5 p1 S v.1 v.2) kF (0, x18)).bind (fun (v : Int32) => k23 v)) else none) else none) else (some 1)) else none) else none) else none) else none) else none) else none) else none)
abbrev rmX10_isFirstOfSentence : Room := { frames := 0, cells := 0, slots := 0, locals := 0 }
set_option maxHeartbeats 4000000 in
set_option maxRecDepth 100000 in
theorem c_X10_isFirstOfSentence (l : Launch) (D : va_G × Nat) (S : PS) (a0 : Nat) (p1 : Int32) (r : Int32) (hf : f_X10_isFirstOfSentence S a0 p1 = some r) : MI l D yX10_isFirstOfSentence wsX10_isFirstOfSentence rmX10_isFirstOfSentence S [.ref a0, .int p1] S r 0 0 := by
  unfold f_X10_isFirstOfSentence at hf
  refine Met.ofW (cc := cX10_isFirstOfSentence) (maxL := 4) (ret := (some .boolean)) (by decide) rfl ?_
  intro p e s m args below meth c s₁ B hml hv
  obtain ⟨rfl, hH0, hNE⟩ := hv
  have hx := B.exec
  have hb := B.bytes
  have hr := B.returns
  have hts := atoms_spec (ws := wsX10_isFirstOfSentence) B.pre
  have hown : s.vm.findClass RX10 = some m.cls := findClass_of_methodNamed B.named
  have hlocks := B.notSynchronized
  have hH : HI D S S s s.heap [] := HI.start hH0
  have hl := lv_entry ([.ref a0, .int p1]) (n := 4) (Nat.le_of_ble_eq_true rfl)
  rw [lg_entry_eq]
  generalize (lg_sl ([.ref a0, .int p1]) ++ List.replicate (4 - (lg_sl ([.ref a0, .int p1])).length) Slot.unset).toArray = ls at hl ⊢
  have hl : lv_has ls 4 [(0, .ref a0), (1, .int p1)] := hl
  refine lv_iload_n hx hb dX10_isFirstOfSentence_0 rfl (lv_at hl 1 rfl) ?_
  refine lv_if_eq (tgt := 31) hx hb dX10_isFirstOfSentence_1 (by decide) (fun c1 => ?_) (fun c1 => ?_)
  · have hf := ip hf c1
    refine lv_iconst (v := 1) hx hb dX10_isFirstOfSentence_31 (by decide) ?_
    have hr9 := Option.some.inj hf
    subst hr9
    exact e_z (r := 1) hx hb hr hlocks rfl hH dX10_isFirstOfSentence_32
  · have hf := iq hf c1
    refine lv_aload_n hx hb dX10_isFirstOfSentence_4 rfl (lv_at hl 0 rfl) ?_
    obtain ⟨ek2, hf⟩ := oc hf
    obtain ⟨a3, e4, hf⟩ := ob hf
    refine r_getQ hx hb 13 hts (fun w h => List.mem_cons_of_mem _ (mwsX100 w h)) hown hH ek2 (by decide) rfl 35 (by decide) rfl (hts (.fieldLink RX10 99 "HousestyleModel" "paragraph" "[I") (List.mem_cons_of_mem _ gw_30_18)) (fun _ h9 => h9) dX10_isFirstOfSentence_5 e4 ?_
    refine lv_aload_n hx hb dX10_isFirstOfSentence_8 rfl (lv_at hl 0 rfl) ?_
    obtain ⟨a5, e6, hf⟩ := ob hf
    refine r_getQ hx hb 13 hts (fun w h => List.mem_cons_of_mem _ (mwsX100 w h)) hown hH ek2 (by decide) rfl 32 (by decide) rfl (hts (.fieldLink RX10 90 "HousestyleModel" "from" "[I") (List.mem_cons_of_mem _ gw_30_15)) (fun _ h9 => h9) dX10_isFirstOfSentence_9 e6 ?_
    refine lv_iload_n hx hb dX10_isFirstOfSentence_12 rfl (lv_at hl 1 rfl) ?_
    refine lv_iconst (v := 1) hx hb dX10_isFirstOfSentence_13 (by decide) ?_
    refine lv_isub hx hb dX10_isFirstOfSentence_14 ?_
    obtain ⟨ek7, hf⟩ := oc hf
    obtain ⟨ei8, hf⟩ := oc hf
    refine r_iald hx hb hH ek7 ei8 dX10_isFirstOfSentence_15 ?_
    obtain ⟨ek9, hf⟩ := oc hf
    obtain ⟨ei10, hf⟩ := oc hf
    refine r_iald hx hb hH ek9 ei10 dX10_isFirstOfSentence_16 ?_
    refine lv_aload_n hx hb dX10_isFirstOfSentence_17 rfl (lv_at hl 0 rfl) ?_
    refine r_getQ hx hb 13 hts (fun w h => List.mem_cons_of_mem _ (mwsX100 w h)) hown hH ek2 (by decide) rfl 35 (by decide) rfl (hts (.fieldLink RX10 99 "HousestyleModel" "paragraph" "[I") (List.mem_cons_of_mem _ gw_30_18)) (fun _ h9 => h9) dX10_isFirstOfSentence_18 e4 ?_
    refine lv_aload_n hx hb dX10_isFirstOfSentence_21 rfl (lv_at hl 0 rfl) ?_
    refine r_getQ hx hb 13 hts (fun w h => List.mem_cons_of_mem _ (mwsX100 w h)) hown hH ek2 (by decide) rfl 32 (by decide) rfl (hts (.fieldLink RX10 90 "HousestyleModel" "from" "[I") (List.mem_cons_of_mem _ gw_30_15)) (fun _ h9 => h9) dX10_isFirstOfSentence_22 e6 ?_
    refine lv_iload_n hx hb dX10_isFirstOfSentence_25 rfl (lv_at hl 1 rfl) ?_
    obtain ⟨ei11, hf⟩ := oc hf
    refine r_iald hx hb hH ek7 ei11 dX10_isFirstOfSentence_26 ?_
    obtain ⟨ei12, hf⟩ := oc hf
    refine r_iald hx hb hH ek9 ei12 dX10_isFirstOfSentence_27 ?_
    refine lv_icmp_eq (tgt := 33) hx hb dX10_isFirstOfSentence_28 (by decide) (fun c13 => ?_) (fun c13 => ?_)
    · have hf := ip hf c13
      refine lv_iconst (v := 0) hx hb dX10_isFirstOfSentence_33 (by decide) ?_
      refine lv_istore_n (lv' := [(2, .int 0), (0, .ref a0), (1, .int p1)]) hx hb dX10_isFirstOfSentence_34 rfl hl (by decide) rfl (fun ls hl => ?_)
      refine lv_aload_n hx hb dX10_isFirstOfSentence_35 rfl (lv_at hl 1 rfl) ?_
      obtain ⟨a14, e15, hf⟩ := ob hf
      refine r_getQ hx hb 13 hts (fun w h => List.mem_cons_of_mem _ (mwsX100 w h)) hown hH ek2 (by decide) rfl 33 (by decide) rfl (hts (.fieldLink RX10 93 "HousestyleModel" "to" "[I") (List.mem_cons_of_mem _ gw_30_16)) (fun _ h9 => h9) dX10_isFirstOfSentence_36 e15 ?_
      refine lv_iload_n hx hb dX10_isFirstOfSentence_39 rfl (lv_at hl 2 rfl) ?_
      refine lv_iconst (v := 1) hx hb dX10_isFirstOfSentence_40 (by decide) ?_
      refine lv_isub hx hb dX10_isFirstOfSentence_41 ?_
      obtain ⟨ek16, hf⟩ := oc hf
      obtain ⟨ei17, hf⟩ := oc hf
      refine r_iald hx hb hH ek16 ei17 dX10_isFirstOfSentence_42 ?_
      obtain ⟨x18, e19, hf⟩ := ol hf
      refine lv_topE e19 ?_
      refine lv_istore_n (lv' := [(3, .int x18), (2, .int 0), (0, .ref a0), (1, .int p1)]) hx hb dX10_isFirstOfSentence_43 rfl hl (by decide) rfl (fun ls hl => ?_)
      obtain ⟨k23, e24, hf⟩ := ol hf
      have Xk23 : ∀ (x22 : Int32) (H : Heap) (locs : List Loc) (ls : Array Slot), HI D S S s H locs → lv_has ls 4 [(2, .int x22)] → k23 x22 = some r → GI p l e (headSpec wsX10_isFirstOfSentence rmX10_isFirstOfSentence).room s m ([.ref a0, .int p1] : List Value).toArray below meth c D S S r H locs 0 0 0 0 (F0 m 81 ls []) := by
        intro x22 H locs ls hH hl hf
        rw [← e24] at hf
        refine lv_iload_n hx hb dX10_isFirstOfSentence_81 rfl (lv_at hl 0 rfl) ?_
        obtain ⟨en25, hf⟩ := oc hf
        have hr9 := Option.some.inj hf
        subst hr9
        exact e_z hx hb hr hlocks (nar_Z9 en25) hH dX10_isFirstOfSentence_82
      obtain ⟨o26, eo26, hq26f⟩ := ob hf
      have Lo26 : ∀ (n : Nat) (x20 : Int32) (x21 : Int32), iter (fun (v : Int32 × Int32) => f_X10_isFirstOfSentence_b44 a0 a5 p1 S v.1 v.2) n (x20, x21) = some o26 → ∀ (H : Heap) (locs : List Loc) (ls : Array Slot), HI D S S s H locs → lv_has ls 4 [(0, .ref a0), (1, .int p1), (2, .int x20), (3, .int x21)] → GI p l e (headSpec wsX10_isFirstOfSentence rmX10_isFirstOfSentence).room s m ([.ref a0, .int p1] : List Value).toArray below meth c D S S r H locs 0 0 0 0 (F0 m 44 ls []) := by
        intro n
        induction n with
        | zero => intro x20 x21 hi; cases hi
        | succ n ih26 =>
          intro x20 x21 hi H locs ls hH hl
          obtain ⟨q26_, hf, hq26⟩ := iter_s hi
          have hf : f_X10_isFirstOfSentence_b44 a0 a5 p1 S x20 x21 = some q26_ := hf
          unfold f_X10_isFirstOfSentence_b44 at hf
          refine lv_iload_n hx hb dX10_isFirstOfSentence_44 rfl (lv_at hl 3 rfl) ?_
          refine lv_aload_n hx hb dX10_isFirstOfSentence_45 rfl (lv_at hl 0 rfl) ?_
          refine r_getQ hx hb 13 hts (fun w h => List.mem_cons_of_mem _ (mwsX100 w h)) hown hH ek2 (by decide) rfl 32 (by decide) rfl (hts (.fieldLink RX10 90 "HousestyleModel" "from" "[I") (List.mem_cons_of_mem _ gw_30_15)) (fun _ h9 => h9) dX10_isFirstOfSentence_46 e6 ?_
          refine lv_iload_n hx hb dX10_isFirstOfSentence_49 rfl (lv_at hl 1 rfl) ?_
          obtain ⟨ei27, hf⟩ := oc hf
          refine r_iald hx hb hH ek7 ei27 dX10_isFirstOfSentence_50 ?_
          refine lv_icmp_ge (tgt := 81) hx hb dX10_isFirstOfSentence_51 (by decide) (fun c28 => ?_) (fun c28 => ?_)
          · have hf := ip hf c28
            cases hf
            have hf9 := itR (K := (fun (v : Int32) => k23 v)) hq26 hq26f
            exact Xk23 x20 _ _ ls hH (lv_sub hl [2] rfl) hf9
          · have hf := iq hf c28
            refine lv_iload_n hx hb dX10_isFirstOfSentence_54 rfl (lv_at hl 2 rfl) ?_
            obtain ⟨j30, e33, hf⟩ := ol hf
            have Jj30 : ∀ (x29 : Int32) (H : Heap) (locs : List Loc) (ls : Array Slot), HI D S S s H locs → lv_has ls 4 [(0, .ref a0), (1, .int p1), (3, .int x21)] → j30 x29 = some q26_ → GI p l e (headSpec wsX10_isFirstOfSentence rmX10_isFirstOfSentence).room s m ([.ref a0, .int p1] : List Value).toArray below meth c D S S r H locs 0 0 0 0 (F0 m 74 ls [.int x29]) := by
              intro x29 H locs ls hH hl hf
              rw [← e33] at hf
              refine lv_istore_n (lv' := [(2, .int x29), (0, .ref a0), (1, .int p1), (3, .int x21)]) hx hb dX10_isFirstOfSentence_74 rfl hl (by decide) rfl (fun ls hl => ?_)
              obtain ⟨x31, e32, hf⟩ := ol hf
              refine lv_iinc (v := x31) (lv' := [(3, .int x31), (2, .int x29), (0, .ref a0), (1, .int p1)]) hx hb dX10_isFirstOfSentence_75 hl (k := 3) rfl (by rw [← e32]; rfl) (by decide) rfl (fun ls hl => ?_)
              refine lv_goto (tgt := 44) hx hb dX10_isFirstOfSentence_78 (by decide) ?_
              cases hf
              exact ih26 x29 x31 hq26 _ _ ls hH (lv_sub hl [2, 3, 1, 0] rfl)
            obtain ⟨j34, e36, hf⟩ := ol hf
            have Jj34 : ∀ (u35 : Unit) (H : Heap) (locs : List Loc) (ls : Array Slot), HI D S S s H locs → lv_has ls 4 [(0, .ref a0), (1, .int p1), (3, .int x21)] → j34 u35 = some q26_ → GI p l e (headSpec wsX10_isFirstOfSentence rmX10_isFirstOfSentence).room s m ([.ref a0, .int p1] : List Value).toArray below meth c D S S r H locs 0 0 0 0 (F0 m 69 ls []) := by
              intro u35 H locs ls hH hl hf
              rw [← e36] at hf
              refine lv_iconst (v := 1) hx hb dX10_isFirstOfSentence_69 (by decide) ?_
              refine lv_goto (tgt := 74) hx hb dX10_isFirstOfSentence_70 (by decide) ?_
              exact Jj30 1 _ _ ls hH (lv_sub hl [0, 1, 2] rfl) hf
            refine lv_if_ne (tgt := 69) hx hb dX10_isFirstOfSentence_55 (by decide) (fun c37 => ?_) (fun c37 => ?_)
            · have hf := iq hf c37
              exact Jj34 () _ _ ls hH (lv_sub hl [0, 1, 3] rfl) hf
            · have hf := ip hf c37
              refine lv_aload_n hx hb dX10_isFirstOfSentence_58 rfl (lv_at hl 0 rfl) ?_
              obtain ⟨a38, e39, hf⟩ := ob hf
              refine r_getQ hx hb 13 hts (fun w h => List.mem_cons_of_mem _ (mwsX100 w h)) hown hH ek2 (by decide) rfl 1 (by decide) rfl (hts (.fieldLink RX10 7 "HousestyleModel" "text" "[C") (List.mem_cons_of_mem _ gw_29_12)) (fun _ h9 => h9) dX10_isFirstOfSentence_59 e39 ?_
              refine lv_iload_n hx hb dX10_isFirstOfSentence_62 rfl (lv_at hl 3 rfl) ?_
              obtain ⟨ek40, hf⟩ := oc hf
              obtain ⟨ei41, hf⟩ := oc hf
              refine r_cald hx hb hH ek40 ei41 dX10_isFirstOfSentence_63 ?_
              refine lv_bipush (v := 46) hx hb dX10_isFirstOfSentence_64 (by decide) ?_
              refine lv_icmp_ne (tgt := 73) hx hb dX10_isFirstOfSentence_66 (by decide) (fun c42 => ?_) (fun c42 => ?_)
              · have hf := iq hf c42
                refine lv_iconst (v := 0) hx hb dX10_isFirstOfSentence_73 (by decide) ?_
                exact Jj30 0 _ _ ls hH (lv_sub hl [0, 1, 3] rfl) hf
              · have hf := ip hf c42
                exact Jj34 () _ _ ls hH (lv_sub hl [0, 1, 3] rfl) hf
      exact Lo26 kF 0 x18 eo26 _ _ ls hH (lv_sub hl [2, 3, 1, 0] rfl)
    · have hf := iq hf c13
      refine lv_iconst (v := 1) hx hb dX10_isFirstOfSentence_31 (by decide) ?_
      have hr9 := Option.some.inj hf
      subst hr9
      exact e_z (r := 1) hx hb hr hlocks rfl hH dX10_isFirstOfSentence_32
set_option maxRecDepth 100000 in
def f_X10_fits_b105 (a0 : Nat) (a6 : Nat) (p1 : Int32) (p2 : Int32) (S : PS) (x35 : Int32) (x36 : Int32) : Option ((Int32 × Int32) ⊕ ((Int32))) := (kQ S a0 9).bind fun a42 => if kK S a42 = 101 then (if ¬ (p2 < 0 ∨ kN S a42 ≤ p2.toNatClampNeg) then (if (kI S a42 p2.toNatClampNeg) ≤ x36 then (some (.inr x35)) else (if x35 = 0 then (some (.inr x35)) else ((kQ S a0 1).bind fun a48 => if ¬ (p1 < 0 ∨ kN S a6 ≤ p1.toNatClampNeg) then (if kK S a48 = 102 then (if ¬ (((kI S a6 p1.toNatClampNeg) + x36) < 0 ∨ kN S a48 ≤ ((kI S a6 p1.toNatClampNeg) + x36).toNatClampNeg) then ((kQ S a0 8).bind fun a53 => if kK S a53 = 102 then (if ¬ (((p2 * 20) + x36) < 0 ∨ kN S a53 ≤ ((p2 * 20) + x36).toNatClampNeg) then (lt (fun (x57 : Int32) => lt (x36 + 1) fun x59 => some (.inl (x57, x59))) fun j58 => if (kI S a48 ((kI S a6 p1.toNatClampNeg) + x36).toNatClampNeg) = (kI S a53 ((p2 * 20) + x36).toNatClampNeg) then (j58 1) else (j58 0)) else none) else none) else none) else none) else none))) else none) else none
set_option maxRecDepth 100000 in
def f_X10_fits (S : PS) (a0 : Nat) (p1 : Int32) (p2 : Int32) : Option (Int32) := if kK S a0 = 14 then ((kQ S a0 33).bind fun a2 => if kK S a2 = 101 then (if ¬ (p1 < 0 ∨ kN S a2 ≤ p1.toNatClampNeg) then ((kQ S a0 32).bind fun a6 => if kK S a6 = 101 then (if ¬ (p1 < 0 ∨ kN S a6 ≤ p1.toNatClampNeg) then (lt ((kI S a2 p1.toNatClampNeg) - (kI S a6 p1.toNatClampNeg)) fun x10 => (kQ S a0 10).bind fun a12 => if kK S a12 = 101 then (if ¬ (p2 < 0 ∨ kN S a12 ≤ p2.toNatClampNeg) then (lt (fun (u24 : Unit) => if ¬ (p2 < 0 ∨ kN S a12 ≤ p2.toNatClampNeg) then (if (kI S a12 p2.toNatClampNeg) = (3 : Int32) then ((kQ S a0 34).bind fun a19 => if kK S a19 = 103 then (if ¬ (p1 < 0 ∨ kN S a19 ≤ p1.toNatClampNeg) then (if (kI S a19 p1.toNatClampNeg) = 0 then (some 1) else (some 0)) else none) else none) else (some 0)) else none) fun j16 => if (kI S a12 p2.toNatClampNeg) = (3 : Int32) then (j16 ()) else ((kQ S a0 34).bind fun a27 => if kK S a27 = 103 then (if ¬ (p1 < 0 ∨ kN S a27 ≤ p1.toNatClampNeg) then (if (kI S a27 p1.toNatClampNeg) = 0 then (j16 ()) else (if ¬ (p2 < 0 ∨ kN S a12 ≤ p2.toNatClampNeg) then (lt (fun (x33 : Int32) => lt (fun (x37 : Int32) => if x37 = 0 ∨ x37 = 1 then (some x37) else none) fun k38 => (iter (fun (v : Int32 × Int32) => f_X10_fits_b105 a0 a6 p1 p2 S v.1 v.2) kF (x33, 0)).bind (fun (v : Int32) => k38 v)) fun j34 => if (kI S a12 p2.toNatClampNeg) = 0 then ((kQ S a0 9).bind fun a70 => if kK S a70 = 101 then (if ¬ (p2 < 0 ∨ kN S a70 ≤ p2.toNatClampNeg) then (if x10 = (kI S a70 p2.toNatClampNeg) then (j34 1) else (j34 0)) else none) else none) else ((kQ S a0 9).bind fun a65 => if kK S a65 = 101 then (if ¬ (p2 < 0 ∨ kN S a65 ≤ p2.toNatClampNeg) then (if x10 < (kI S a65 p2.toNatClampNeg) then (j34 0) else (j34 1)) else none) else none)) else none)) else none) else none)) else none) else none) else none) else none) else none) else none) else none
abbrev rmX10_fits : Room := { frames := 0, cells := 0, slots := 0, locals := 0 }
set_option maxHeartbeats 4000000 in
set_option maxRecDepth 100000 in
theorem c_X10_fits (l : Launch) (D : va_G × Nat) (S : PS) (a0 : Nat) (p1 : Int32) (p2 : Int32) (r : Int32) (hf : f_X10_fits S a0 p1 p2 = some r) : MI l D yX10_fits wsX10_fits rmX10_fits S [.ref a0, .int p1, .int p2] S r 0 0 := by
  unfold f_X10_fits at hf
  refine Met.ofW (cc := cX10_fits) (maxL := 6) (ret := (some .boolean)) (by decide) rfl ?_
  intro p e s m args below meth c s₁ B hml hv
  obtain ⟨rfl, hH0, hNE⟩ := hv
  have hx := B.exec
  have hb := B.bytes
  have hr := B.returns
  have hts := atoms_spec (ws := wsX10_fits) B.pre
  have hown : s.vm.findClass RX10 = some m.cls := findClass_of_methodNamed B.named
  have hlocks := B.notSynchronized
  have hH : HI D S S s s.heap [] := HI.start hH0
  have hl := lv_entry ([.ref a0, .int p1, .int p2]) (n := 6) (Nat.le_of_ble_eq_true rfl)
  rw [lg_entry_eq]
  generalize (lg_sl ([.ref a0, .int p1, .int p2]) ++ List.replicate (6 - (lg_sl ([.ref a0, .int p1, .int p2])).length) Slot.unset).toArray = ls at hl ⊢
  have hl : lv_has ls 6 [(0, .ref a0), (1, .int p1), (2, .int p2)] := hl
  refine lv_aload_n hx hb dX10_fits_0 rfl (lv_at hl 0 rfl) ?_
  obtain ⟨ek1, hf⟩ := oc hf
  obtain ⟨a2, e3, hf⟩ := ob hf
  refine r_getQ hx hb 13 hts (fun w h => List.mem_cons_of_mem _ (mwsX100 w h)) hown hH ek1 (by decide) rfl 33 (by decide) rfl (hts (.fieldLink RX10 93 "HousestyleModel" "to" "[I") (List.mem_cons_of_mem _ gw_30_16)) (fun _ h9 => h9) dX10_fits_1 e3 ?_
  refine lv_iload_n hx hb dX10_fits_4 rfl (lv_at hl 1 rfl) ?_
  obtain ⟨ek4, hf⟩ := oc hf
  obtain ⟨ei5, hf⟩ := oc hf
  refine r_iald hx hb hH ek4 ei5 dX10_fits_5 ?_
  refine lv_aload_n hx hb dX10_fits_6 rfl (lv_at hl 0 rfl) ?_
  obtain ⟨a6, e7, hf⟩ := ob hf
  refine r_getQ hx hb 13 hts (fun w h => List.mem_cons_of_mem _ (mwsX100 w h)) hown hH ek1 (by decide) rfl 32 (by decide) rfl (hts (.fieldLink RX10 90 "HousestyleModel" "from" "[I") (List.mem_cons_of_mem _ gw_30_15)) (fun _ h9 => h9) dX10_fits_7 e7 ?_
  refine lv_iload_n hx hb dX10_fits_10 rfl (lv_at hl 1 rfl) ?_
  obtain ⟨ek8, hf⟩ := oc hf
  obtain ⟨ei9, hf⟩ := oc hf
  refine r_iald hx hb hH ek8 ei9 dX10_fits_11 ?_
  refine lv_isub hx hb dX10_fits_12 ?_
  obtain ⟨x10, e11, hf⟩ := ol hf
  refine lv_topE e11 ?_
  refine lv_istore_n (lv' := [(3, .int x10), (0, .ref a0), (1, .int p1), (2, .int p2)]) hx hb dX10_fits_13 rfl hl (by decide) rfl (fun ls hl => ?_)
  refine lv_aload_n hx hb dX10_fits_14 rfl (lv_at hl 1 rfl) ?_
  obtain ⟨a12, e13, hf⟩ := ob hf
  refine r_getQ hx hb 13 hts (fun w h => List.mem_cons_of_mem _ (mwsX100 w h)) hown hH ek1 (by decide) rfl 10 (by decide) rfl (hts (.fieldLink RX10 29 "HousestyleModel" "sorts" "[I") (List.mem_cons_of_mem _ gw_29_18)) (fun _ h9 => h9) dX10_fits_15 e13 ?_
  refine lv_iload_n hx hb dX10_fits_18 rfl (lv_at hl 3 rfl) ?_
  obtain ⟨ek14, hf⟩ := oc hf
  obtain ⟨ei15, hf⟩ := oc hf
  refine r_iald hx hb hH ek14 ei15 dX10_fits_19 ?_
  refine lv_iconst (v := 3) hx hb dX10_fits_20 (by decide) ?_
  obtain ⟨j16, e25, hf⟩ := ol hf
  have Jj16 : ∀ (u24 : Unit) (H : Heap) (locs : List Loc) (ls : Array Slot), HI D S S s H locs → lv_has ls 6 [(0, .ref a0), (1, .int p1), (2, .int p2)] → j16 u24 = some r → GI p l e (headSpec wsX10_fits rmX10_fits).room s m ([.ref a0, .int p1, .int p2] : List Value).toArray below meth c D S S r H locs 0 0 0 0 (F0 m 33 ls []) := by
    intro u24 H locs ls hH hl hf
    rw [← e25] at hf
    refine lv_aload_n hx hb dX10_fits_33 rfl (lv_at hl 0 rfl) ?_
    refine r_getQ hx hb 13 hts (fun w h => List.mem_cons_of_mem _ (mwsX100 w h)) hown hH ek1 (by decide) rfl 10 (by decide) rfl (hts (.fieldLink RX10 29 "HousestyleModel" "sorts" "[I") (List.mem_cons_of_mem _ gw_29_18)) (fun _ h9 => h9) dX10_fits_34 e13 ?_
    refine lv_iload_n hx hb dX10_fits_37 rfl (lv_at hl 2 rfl) ?_
    obtain ⟨ei17, hf⟩ := oc hf
    refine r_iald hx hb hH ek14 ei17 dX10_fits_38 ?_
    refine lv_iconst (v := 3) hx hb dX10_fits_39 (by decide) ?_
    refine lv_icmp_ne (tgt := 56) hx hb dX10_fits_40 (by decide) (fun c18 => ?_) (fun c18 => ?_)
    · have hf := iq hf c18
      refine lv_iconst (v := 0) hx hb dX10_fits_56 (by decide) ?_
      have hr9 := Option.some.inj hf
      subst hr9
      exact e_z (r := 0) hx hb hr hlocks rfl hH dX10_fits_57
    · have hf := ip hf c18
      refine lv_aload_n hx hb dX10_fits_43 rfl (lv_at hl 0 rfl) ?_
      obtain ⟨a19, e20, hf⟩ := ob hf
      refine r_getQ hx hb 13 hts (fun w h => List.mem_cons_of_mem _ (mwsX100 w h)) hown hH ek1 (by decide) rfl 34 (by decide) rfl (hts (.fieldLink RX10 96 "HousestyleModel" "isWord" "[Z") (List.mem_cons_of_mem _ gw_30_17)) (fun _ h9 => h9) dX10_fits_44 e20 ?_
      refine lv_iload_n hx hb dX10_fits_47 rfl (lv_at hl 1 rfl) ?_
      obtain ⟨ek21, hf⟩ := oc hf
      obtain ⟨ei22, hf⟩ := oc hf
      refine r_zald hx hb hH ek21 ei22 dX10_fits_48 ?_
      refine lv_if_ne (tgt := 56) hx hb dX10_fits_49 (by decide) (fun c23 => ?_) (fun c23 => ?_)
      · have hf := iq hf c23
        refine lv_iconst (v := 0) hx hb dX10_fits_56 (by decide) ?_
        have hr9 := Option.some.inj hf
        subst hr9
        exact e_z (r := 0) hx hb hr hlocks rfl hH dX10_fits_57
      · have hf := ip hf c23
        refine lv_iconst (v := 1) hx hb dX10_fits_52 (by decide) ?_
        refine lv_goto (tgt := 57) hx hb dX10_fits_53 (by decide) ?_
        have hr9 := Option.some.inj hf
        subst hr9
        exact e_z (r := 1) hx hb hr hlocks rfl hH dX10_fits_57
  refine lv_icmp_eq (tgt := 33) hx hb dX10_fits_21 (by decide) (fun c26 => ?_) (fun c26 => ?_)
  · have hf := ip hf c26
    exact Jj16 () _ _ ls hH (lv_sub hl [1, 2, 3] rfl) hf
  · have hf := iq hf c26
    refine lv_aload_n hx hb dX10_fits_24 rfl (lv_at hl 1 rfl) ?_
    obtain ⟨a27, e28, hf⟩ := ob hf
    refine r_getQ hx hb 13 hts (fun w h => List.mem_cons_of_mem _ (mwsX100 w h)) hown hH ek1 (by decide) rfl 34 (by decide) rfl (hts (.fieldLink RX10 96 "HousestyleModel" "isWord" "[Z") (List.mem_cons_of_mem _ gw_30_17)) (fun _ h9 => h9) dX10_fits_25 e28 ?_
    refine lv_iload_n hx hb dX10_fits_28 rfl (lv_at hl 2 rfl) ?_
    obtain ⟨ek29, hf⟩ := oc hf
    obtain ⟨ei30, hf⟩ := oc hf
    refine r_zald hx hb hH ek29 ei30 dX10_fits_29 ?_
    refine lv_if_ne (tgt := 58) hx hb dX10_fits_30 (by decide) (fun c31 => ?_) (fun c31 => ?_)
    · have hf := iq hf c31
      refine lv_aload_n hx hb dX10_fits_58 rfl (lv_at hl 1 rfl) ?_
      refine r_getQ hx hb 13 hts (fun w h => List.mem_cons_of_mem _ (mwsX100 w h)) hown hH ek1 (by decide) rfl 10 (by decide) rfl (hts (.fieldLink RX10 29 "HousestyleModel" "sorts" "[I") (List.mem_cons_of_mem _ gw_29_18)) (fun _ h9 => h9) dX10_fits_59 e13 ?_
      refine lv_iload_n hx hb dX10_fits_62 rfl (lv_at hl 3 rfl) ?_
      obtain ⟨ei32, hf⟩ := oc hf
      refine r_iald hx hb hH ek14 ei32 dX10_fits_63 ?_
      obtain ⟨j34, e63, hf⟩ := ol hf
      have Jj34 : ∀ (x33 : Int32) (H : Heap) (locs : List Loc) (ls : Array Slot), HI D S S s H locs → lv_has ls 6 [(0, .ref a0), (1, .int p1), (2, .int p2)] → j34 x33 = some r → GI p l e (headSpec wsX10_fits rmX10_fits).room s m ([.ref a0, .int p1, .int p2] : List Value).toArray below meth c D S S r H locs 0 0 0 0 (F0 m 100 ls [.int x33]) := by
        intro x33 H locs ls hH hl hf
        rw [← e63] at hf
        refine lv_istore (lv' := [(4, .int x33), (0, .ref a0), (1, .int p1), (2, .int p2)]) hx hb dX10_fits_100 hl (by decide) rfl (fun ls hl => ?_)
        refine lv_iconst (v := 0) hx hb dX10_fits_102 (by decide) ?_
        refine lv_istore (lv' := [(5, .int 0), (4, .int x33), (0, .ref a0), (1, .int p1), (2, .int p2)]) hx hb dX10_fits_103 hl (by decide) rfl (fun ls hl => ?_)
        obtain ⟨k38, e39, hf⟩ := ol hf
        have Xk38 : ∀ (x37 : Int32) (H : Heap) (locs : List Loc) (ls : Array Slot), HI D S S s H locs → lv_has ls 6 [(4, .int x37)] → k38 x37 = some r → GI p l e (headSpec wsX10_fits rmX10_fits).room s m ([.ref a0, .int p1, .int p2] : List Value).toArray below meth c D S S r H locs 0 0 0 0 (F0 m 163 ls []) := by
          intro x37 H locs ls hH hl hf
          rw [← e39] at hf
          refine lv_iload hx hb dX10_fits_163 (lv_at hl 0 rfl) ?_
          obtain ⟨en40, hf⟩ := oc hf
          have hr9 := Option.some.inj hf
          subst hr9
          exact e_z hx hb hr hlocks (nar_Z9 en40) hH dX10_fits_165
        obtain ⟨o41, eo41, hq41f⟩ := ob hf
        have Lo41 : ∀ (n : Nat) (x35 : Int32) (x36 : Int32), iter (fun (v : Int32 × Int32) => f_X10_fits_b105 a0 a6 p1 p2 S v.1 v.2) n (x35, x36) = some o41 → ∀ (H : Heap) (locs : List Loc) (ls : Array Slot), HI D S S s H locs → lv_has ls 6 [(0, .ref a0), (1, .int p1), (2, .int p2), (4, .int x35), (5, .int x36)] → GI p l e (headSpec wsX10_fits rmX10_fits).room s m ([.ref a0, .int p1, .int p2] : List Value).toArray below meth c D S S r H locs 0 0 0 0 (F0 m 105 ls []) := by
          intro n
          induction n with
          | zero => intro x35 x36 hi; cases hi
          | succ n ih41 =>
            intro x35 x36 hi H locs ls hH hl
            obtain ⟨q41_, hf, hq41⟩ := iter_s hi
            have hf : f_X10_fits_b105 a0 a6 p1 p2 S x35 x36 = some q41_ := hf
            unfold f_X10_fits_b105 at hf
            refine lv_iload hx hb dX10_fits_105 (lv_at hl 4 rfl) ?_
            refine lv_aload_n hx hb dX10_fits_107 rfl (lv_at hl 0 rfl) ?_
            obtain ⟨a42, e43, hf⟩ := ob hf
            refine r_getQ hx hb 13 hts (fun w h => List.mem_cons_of_mem _ (mwsX100 w h)) hown hH ek1 (by decide) rfl 9 (by decide) rfl (hts (.fieldLink RX10 26 "HousestyleModel" "sizes" "[I") (List.mem_cons_of_mem _ gw_29_17)) (fun _ h9 => h9) dX10_fits_108 e43 ?_
            refine lv_iload_n hx hb dX10_fits_111 rfl (lv_at hl 2 rfl) ?_
            obtain ⟨ek44, hf⟩ := oc hf
            obtain ⟨ei45, hf⟩ := oc hf
            refine r_iald hx hb hH ek44 ei45 dX10_fits_112 ?_
            refine lv_icmp_ge (tgt := 163) hx hb dX10_fits_113 (by decide) (fun c46 => ?_) (fun c46 => ?_)
            · have hf := ip hf c46
              cases hf
              have hf9 := itR (K := (fun (v : Int32) => k38 v)) hq41 hq41f
              exact Xk38 x35 _ _ ls hH (lv_sub hl [3] rfl) hf9
            · have hf := iq hf c46
              refine lv_iload hx hb dX10_fits_116 (lv_at hl 3 rfl) ?_
              refine lv_if_eq (tgt := 163) hx hb dX10_fits_118 (by decide) (fun c47 => ?_) (fun c47 => ?_)
              · have hf := ip hf c47
                cases hf
                have hf9 := itR (K := (fun (v : Int32) => k38 v)) hq41 hq41f
                exact Xk38 x35 _ _ ls hH (lv_sub hl [3] rfl) hf9
              · have hf := iq hf c47
                refine lv_aload_n hx hb dX10_fits_121 rfl (lv_at hl 0 rfl) ?_
                obtain ⟨a48, e49, hf⟩ := ob hf
                refine r_getQ hx hb 13 hts (fun w h => List.mem_cons_of_mem _ (mwsX100 w h)) hown hH ek1 (by decide) rfl 1 (by decide) rfl (hts (.fieldLink RX10 7 "HousestyleModel" "text" "[C") (List.mem_cons_of_mem _ gw_29_12)) (fun _ h9 => h9) dX10_fits_122 e49 ?_
                refine lv_aload_n hx hb dX10_fits_125 rfl (lv_at hl 0 rfl) ?_
                refine r_getQ hx hb 13 hts (fun w h => List.mem_cons_of_mem _ (mwsX100 w h)) hown hH ek1 (by decide) rfl 32 (by decide) rfl (hts (.fieldLink RX10 90 "HousestyleModel" "from" "[I") (List.mem_cons_of_mem _ gw_30_15)) (fun _ h9 => h9) dX10_fits_126 e7 ?_
                refine lv_iload_n hx hb dX10_fits_129 rfl (lv_at hl 1 rfl) ?_
                obtain ⟨ei50, hf⟩ := oc hf
                refine r_iald hx hb hH ek8 ei50 dX10_fits_130 ?_
                refine lv_iload hx hb dX10_fits_131 (lv_at hl 4 rfl) ?_
                refine lv_iadd hx hb dX10_fits_133 ?_
                obtain ⟨ek51, hf⟩ := oc hf
                obtain ⟨ei52, hf⟩ := oc hf
                refine r_cald hx hb hH ek51 ei52 dX10_fits_134 ?_
                refine lv_aload_n hx hb dX10_fits_135 rfl (lv_at hl 0 rfl) ?_
                obtain ⟨a53, e54, hf⟩ := ob hf
                refine r_getQ hx hb 13 hts (fun w h => List.mem_cons_of_mem _ (mwsX100 w h)) hown hH ek1 (by decide) rfl 8 (by decide) rfl (hts (.fieldLink RX10 23 "HousestyleModel" "letters" "[C") (List.mem_cons_of_mem _ gw_29_16)) (fun _ h9 => h9) dX10_fits_136 e54 ?_
                refine lv_iload_n hx hb dX10_fits_139 rfl (lv_at hl 2 rfl) ?_
                refine lv_bipush (v := 20) hx hb dX10_fits_140 (by decide) ?_
                refine lv_imul hx hb dX10_fits_142 ?_
                refine lv_iload hx hb dX10_fits_143 (lv_at hl 4 rfl) ?_
                refine lv_iadd hx hb dX10_fits_145 ?_
                obtain ⟨ek55, hf⟩ := oc hf
                obtain ⟨ei56, hf⟩ := oc hf
                refine r_cald hx hb hH ek55 ei56 dX10_fits_146 ?_
                obtain ⟨j58, e61, hf⟩ := ol hf
                have Jj58 : ∀ (x57 : Int32) (H : Heap) (locs : List Loc) (ls : Array Slot), HI D S S s H locs → lv_has ls 6 [(0, .ref a0), (1, .int p1), (2, .int p2), (5, .int x36)] → j58 x57 = some q41_ → GI p l e (headSpec wsX10_fits rmX10_fits).room s m ([.ref a0, .int p1, .int p2] : List Value).toArray below meth c D S S r H locs 0 0 0 0 (F0 m 155 ls [.int x57]) := by
                  intro x57 H locs ls hH hl hf
                  rw [← e61] at hf
                  refine lv_istore (lv' := [(4, .int x57), (0, .ref a0), (1, .int p1), (2, .int p2), (5, .int x36)]) hx hb dX10_fits_155 hl (by decide) rfl (fun ls hl => ?_)
                  obtain ⟨x59, e60, hf⟩ := ol hf
                  refine lv_iinc (v := x59) (lv' := [(5, .int x59), (4, .int x57), (0, .ref a0), (1, .int p1), (2, .int p2)]) hx hb dX10_fits_157 hl (k := 4) rfl (by rw [← e60]; rfl) (by decide) rfl (fun ls hl => ?_)
                  refine lv_goto (tgt := 105) hx hb dX10_fits_160 (by decide) ?_
                  cases hf
                  exact ih41 x57 x59 hq41 _ _ ls hH (lv_sub hl [2, 3, 4, 1, 0] rfl)
                refine lv_icmp_ne (tgt := 154) hx hb dX10_fits_147 (by decide) (fun c62 => ?_) (fun c62 => ?_)
                · have hf := iq hf c62
                  refine lv_iconst (v := 0) hx hb dX10_fits_154 (by decide) ?_
                  exact Jj58 0 _ _ ls hH (lv_sub hl [0, 1, 2, 4] rfl) hf
                · have hf := ip hf c62
                  refine lv_iconst (v := 1) hx hb dX10_fits_150 (by decide) ?_
                  refine lv_goto (tgt := 155) hx hb dX10_fits_151 (by decide) ?_
                  exact Jj58 1 _ _ ls hH (lv_sub hl [0, 1, 2, 4] rfl) hf
        exact Lo41 kF x33 0 eo41 _ _ ls hH (lv_sub hl [2, 3, 4, 1, 0] rfl)
      refine lv_if_ne (tgt := 85) hx hb dX10_fits_64 (by decide) (fun c64 => ?_) (fun c64 => ?_)
      · have hf := iq hf c64
        refine lv_iload_n hx hb dX10_fits_85 rfl (lv_at hl 0 rfl) ?_
        refine lv_aload_n hx hb dX10_fits_86 rfl (lv_at hl 1 rfl) ?_
        obtain ⟨a65, e66, hf⟩ := ob hf
        refine r_getQ hx hb 13 hts (fun w h => List.mem_cons_of_mem _ (mwsX100 w h)) hown hH ek1 (by decide) rfl 9 (by decide) rfl (hts (.fieldLink RX10 26 "HousestyleModel" "sizes" "[I") (List.mem_cons_of_mem _ gw_29_17)) (fun _ h9 => h9) dX10_fits_87 e66 ?_
        refine lv_iload_n hx hb dX10_fits_90 rfl (lv_at hl 3 rfl) ?_
        obtain ⟨ek67, hf⟩ := oc hf
        obtain ⟨ei68, hf⟩ := oc hf
        refine r_iald hx hb hH ek67 ei68 dX10_fits_91 ?_
        refine lv_icmp_lt (tgt := 99) hx hb dX10_fits_92 (by decide) (fun c69 => ?_) (fun c69 => ?_)
        · have hf := ip hf c69
          refine lv_iconst (v := 0) hx hb dX10_fits_99 (by decide) ?_
          exact Jj34 0 _ _ ls hH (lv_sub hl [1, 2, 3] rfl) hf
        · have hf := iq hf c69
          refine lv_iconst (v := 1) hx hb dX10_fits_95 (by decide) ?_
          refine lv_goto (tgt := 100) hx hb dX10_fits_96 (by decide) ?_
          exact Jj34 1 _ _ ls hH (lv_sub hl [1, 2, 3] rfl) hf
      · have hf := ip hf c64
        refine lv_iload_n hx hb dX10_fits_67 rfl (lv_at hl 0 rfl) ?_
        refine lv_aload_n hx hb dX10_fits_68 rfl (lv_at hl 1 rfl) ?_
        obtain ⟨a70, e71, hf⟩ := ob hf
        refine r_getQ hx hb 13 hts (fun w h => List.mem_cons_of_mem _ (mwsX100 w h)) hown hH ek1 (by decide) rfl 9 (by decide) rfl (hts (.fieldLink RX10 26 "HousestyleModel" "sizes" "[I") (List.mem_cons_of_mem _ gw_29_17)) (fun _ h9 => h9) dX10_fits_69 e71 ?_
        refine lv_iload_n hx hb dX10_fits_72 rfl (lv_at hl 3 rfl) ?_
        obtain ⟨ek72, hf⟩ := oc hf
        obtain ⟨ei73, hf⟩ := oc hf
        refine r_iald hx hb hH ek72 ei73 dX10_fits_73 ?_
        refine lv_icmp_ne (tgt := 81) hx hb dX10_fits_74 (by decide) (fun c74 => ?_) (fun c74 => ?_)
        · have hf := iq hf c74
          refine lv_iconst (v := 0) hx hb dX10_fits_81 (by decide) ?_
          refine lv_goto (tgt := 100) hx hb dX10_fits_82 (by decide) ?_
          exact Jj34 0 _ _ ls hH (lv_sub hl [1, 2, 3] rfl) hf
        · have hf := ip hf c74
          refine lv_iconst (v := 1) hx hb dX10_fits_77 (by decide) ?_
          refine lv_goto (tgt := 100) hx hb dX10_fits_78 (by decide) ?_
          exact Jj34 1 _ _ ls hH (lv_sub hl [1, 2, 3] rfl) hf
    · have hf := ip hf c31
      exact Jj16 () _ _ ls hH (lv_sub hl [1, 2, 3] rfl) hf
set_option maxRecDepth 100000 in
def f_X10_isAt_b24 (a0 : Nat) (a2 : Nat) (p1 : Int32) (p2 : Int32) (S : PS) (x8 : Int32) (x9 : Int32) : Option ((Int32 × Int32) ⊕ ((Int32))) := if ¬ (p1 < 0 ∨ kN S a2 ≤ p1.toNatClampNeg) then (if (kI S a2 p1.toNatClampNeg) ≤ x9 then (some (.inr x8)) else (if x8 = 0 then (some (.inr x8)) else ((f_X10_fits S a0 (p2 + x9) ((p1 * 3) + x9)).bind fun r18 => lt (fun (x20 : Int32) => lt (x9 + 1) fun x22 => some (.inl (x20, x22))) fun j21 => lt (fun (u26 : Unit) => j21 0) fun j25 => if r18 = 0 then (j25 ()) else (lt (fun (u30 : Unit) => j21 1) fun j29 => if x9 = 0 then (j29 ()) else ((kQ S a0 32).bind fun a33 => if kK S a33 = 101 then (if ¬ ((p2 + x9) < 0 ∨ kN S a33 ≤ (p2 + x9).toNatClampNeg) then ((kQ S a0 33).bind fun a37 => if kK S a37 = 101 then (if ¬ (((p2 + x9) - 1) < 0 ∨ kN S a37 ≤ ((p2 + x9) - 1).toNatClampNeg) then (if (kI S a33 (p2 + x9).toNatClampNeg) = ((kI S a37 ((p2 + x9) - 1).toNatClampNeg) + 1) then ((kQ S a0 1).bind fun a42 => if ¬ (((p2 + x9) - 1) < 0 ∨ kN S a37 ≤ ((p2 + x9) - 1).toNatClampNeg) then (if kK S a42 = 102 then (if ¬ ((kI S a37 ((p2 + x9) - 1).toNatClampNeg) < 0 ∨ kN S a42 ≤ (kI S a37 ((p2 + x9) - 1).toNatClampNeg).toNatClampNeg) then (if (kI S a42 (kI S a37 ((p2 + x9) - 1).toNatClampNeg).toNatClampNeg) = (32 : Int32) then (j29 ()) else (j25 ())) else none) else none) else none) else (j25 ())) else none) else none) else none) else none))))) else none
set_option maxRecDepth 100000 in
def f_X10_isAt (S : PS) (a0 : Nat) (p1 : Int32) (p2 : Int32) : Option (Int32) := if kK S a0 = 14 then ((kQ S a0 7).bind fun a2 => if kK S a2 = 101 then (if ¬ (p1 < 0 ∨ kN S a2 ≤ p1.toNatClampNeg) then (lt (fun (x6 : Int32) => lt (fun (x10 : Int32) => if x10 = 0 ∨ x10 = 1 then (some x10) else none) fun k11 => (iter (fun (v : Int32 × Int32) => f_X10_isAt_b24 a0 a2 p1 p2 S v.1 v.2) kF (x6, 0)).bind (fun (v : Int32) => k11 v)) fun j7 => if (kI S a0 31) < (p2 + (kI S a2 p1.toNatClampNeg)) then (j7 0) else (j7 1)) else none) else none) else none
abbrev rmX10_isAt : Room := { frames := 1, cells := 0, slots := 0, locals := 25 }
set_option maxHeartbeats 4000000 in
set_option maxRecDepth 100000 in
theorem c_X10_isAt (l : Launch) (D : va_G × Nat) (S : PS) (a0 : Nat) (p1 : Int32) (p2 : Int32) (r : Int32) (hf : f_X10_isAt S a0 p1 p2 = some r) : MI l D yX10_isAt wsX10_isAt rmX10_isAt S [.ref a0, .int p1, .int p2] S r 0 0 := by
  unfold f_X10_isAt at hf
  refine Met.ofW (cc := cX10_isAt) (maxL := 5) (ret := (some .boolean)) (by decide) rfl ?_
  intro p e s m args below meth c s₁ B hml hv
  obtain ⟨rfl, hH0, hNE⟩ := hv
  have hx := B.exec
  have hb := B.bytes
  have hr := B.returns
  have hts := atoms_spec (ws := wsX10_isAt) B.pre
  have hown : s.vm.findClass RX10 = some m.cls := findClass_of_methodNamed B.named
  have hlocks := B.notSynchronized
  have hH : HI D S S s s.heap [] := HI.start hH0
  have hl := lv_entry ([.ref a0, .int p1, .int p2]) (n := 5) (Nat.le_of_ble_eq_true rfl)
  rw [lg_entry_eq]
  generalize (lg_sl ([.ref a0, .int p1, .int p2]) ++ List.replicate (5 - (lg_sl ([.ref a0, .int p1, .int p2])).length) Slot.unset).toArray = ls at hl ⊢
  have hl : lv_has ls 5 [(0, .ref a0), (1, .int p1), (2, .int p2)] := hl
  refine lv_iload_n hx hb dX10_isAt_0 rfl (lv_at hl 2 rfl) ?_
  refine lv_aload_n hx hb dX10_isAt_1 rfl (lv_at hl 0 rfl) ?_
  obtain ⟨ek1, hf⟩ := oc hf
  obtain ⟨a2, e3, hf⟩ := ob hf
  refine r_getQ hx hb 13 hts (fun w h => List.mem_cons_of_mem _ (mwsX100 w h)) hown hH ek1 (by decide) rfl 7 (by decide) rfl (hts (.fieldLink RX10 20 "HousestyleModel" "items" "[I") (List.mem_cons_of_mem _ gw_29_15)) (fun _ h9 => h9) dX10_isAt_2 e3 ?_
  refine lv_iload_n hx hb dX10_isAt_5 rfl (lv_at hl 1 rfl) ?_
  obtain ⟨ek4, hf⟩ := oc hf
  obtain ⟨ei5, hf⟩ := oc hf
  refine r_iald hx hb hH ek4 ei5 dX10_isAt_6 ?_
  refine lv_iadd hx hb dX10_isAt_7 ?_
  refine lv_aload_n hx hb dX10_isAt_8 rfl (lv_at hl 0 rfl) ?_
  refine r_getI hx hb 13 hts (fun w h => List.mem_cons_of_mem _ (mwsX100 w h)) hown hH ek1 (by decide) rfl 31 (by decide) rfl (hts (.fieldLink RX10 194 "HousestyleModel" "tokens" "I") (List.mem_cons_of_mem _ gw_34_8)) (fun _ h9 => h9) dX10_isAt_9 ?_
  obtain ⟨j7, e48, hf⟩ := ol hf
  have Jj7 : ∀ (x6 : Int32) (H : Heap) (locs : List Loc) (ls : Array Slot), HI D S S s H locs → lv_has ls 5 [(0, .ref a0), (1, .int p1), (2, .int p2)] → j7 x6 = some r → GI p l e (headSpec wsX10_isAt rmX10_isAt).room s m ([.ref a0, .int p1, .int p2] : List Value).toArray below meth c D S S r H locs 0 0 0 0 (F0 m 20 ls [.int x6]) := by
    intro x6 H locs ls hH hl hf
    rw [← e48] at hf
    refine lv_istore_n (lv' := [(3, .int x6), (0, .ref a0), (1, .int p1), (2, .int p2)]) hx hb dX10_isAt_20 rfl hl (by decide) rfl (fun ls hl => ?_)
    refine lv_iconst (v := 0) hx hb dX10_isAt_21 (by decide) ?_
    refine lv_istore (lv' := [(4, .int 0), (3, .int x6), (0, .ref a0), (1, .int p1), (2, .int p2)]) hx hb dX10_isAt_22 hl (by decide) rfl (fun ls hl => ?_)
    obtain ⟨k11, e12, hf⟩ := ol hf
    have Xk11 : ∀ (x10 : Int32) (H : Heap) (locs : List Loc) (ls : Array Slot), HI D S S s H locs → lv_has ls 5 [(3, .int x10)] → k11 x10 = some r → GI p l e (headSpec wsX10_isAt rmX10_isAt).room s m ([.ref a0, .int p1, .int p2] : List Value).toArray below meth c D S S r H locs 0 0 0 0 (F0 m 121 ls []) := by
      intro x10 H locs ls hH hl hf
      rw [← e12] at hf
      refine lv_iload_n hx hb dX10_isAt_121 rfl (lv_at hl 0 rfl) ?_
      obtain ⟨en13, hf⟩ := oc hf
      have hr9 := Option.some.inj hf
      subst hr9
      exact e_z hx hb hr hlocks (nar_Z9 en13) hH dX10_isAt_122
    obtain ⟨o14, eo14, hq14f⟩ := ob hf
    have Lo14 : ∀ (n : Nat) (x8 : Int32) (x9 : Int32), iter (fun (v : Int32 × Int32) => f_X10_isAt_b24 a0 a2 p1 p2 S v.1 v.2) n (x8, x9) = some o14 → ∀ (H : Heap) (locs : List Loc) (ls : Array Slot), HI D S S s H locs → lv_has ls 5 [(0, .ref a0), (1, .int p1), (2, .int p2), (3, .int x8), (4, .int x9)] → GI p l e (headSpec wsX10_isAt rmX10_isAt).room s m ([.ref a0, .int p1, .int p2] : List Value).toArray below meth c D S S r H locs 0 0 0 0 (F0 m 24 ls []) := by
      intro n
      induction n with
      | zero => intro x8 x9 hi; cases hi
      | succ n ih14 =>
        intro x8 x9 hi H locs ls hH hl
        obtain ⟨q14_, hf, hq14⟩ := iter_s hi
        have hf : f_X10_isAt_b24 a0 a2 p1 p2 S x8 x9 = some q14_ := hf
        unfold f_X10_isAt_b24 at hf
        refine lv_iload hx hb dX10_isAt_24 (lv_at hl 4 rfl) ?_
        refine lv_aload_n hx hb dX10_isAt_26 rfl (lv_at hl 0 rfl) ?_
        refine r_getQ hx hb 13 hts (fun w h => List.mem_cons_of_mem _ (mwsX100 w h)) hown hH ek1 (by decide) rfl 7 (by decide) rfl (hts (.fieldLink RX10 20 "HousestyleModel" "items" "[I") (List.mem_cons_of_mem _ gw_29_15)) (fun _ h9 => h9) dX10_isAt_27 e3 ?_
        refine lv_iload_n hx hb dX10_isAt_30 rfl (lv_at hl 1 rfl) ?_
        obtain ⟨ei15, hf⟩ := oc hf
        refine r_iald hx hb hH ek4 ei15 dX10_isAt_31 ?_
        refine lv_icmp_ge (tgt := 121) hx hb dX10_isAt_32 (by decide) (fun c16 => ?_) (fun c16 => ?_)
        · have hf := ip hf c16
          cases hf
          have hf9 := itR (K := (fun (v : Int32) => k11 v)) hq14 hq14f
          exact Xk11 x8 _ _ ls hH (lv_sub hl [3] rfl) hf9
        · have hf := iq hf c16
          refine lv_iload_n hx hb dX10_isAt_35 rfl (lv_at hl 3 rfl) ?_
          refine lv_if_eq (tgt := 121) hx hb dX10_isAt_36 (by decide) (fun c17 => ?_) (fun c17 => ?_)
          · have hf := ip hf c17
            cases hf
            have hf9 := itR (K := (fun (v : Int32) => k11 v)) hq14 hq14f
            exact Xk11 x8 _ _ ls hH (lv_sub hl [3] rfl) hf9
          · have hf := iq hf c17
            refine lv_aload_n hx hb dX10_isAt_39 rfl (lv_at hl 0 rfl) ?_
            refine lv_iload_n hx hb dX10_isAt_40 rfl (lv_at hl 2 rfl) ?_
            refine lv_iload hx hb dX10_isAt_41 (lv_at hl 4 rfl) ?_
            refine lv_iadd hx hb dX10_isAt_43 ?_
            refine lv_iload_n hx hb dX10_isAt_44 rfl (lv_at hl 1 rfl) ?_
            refine lv_iconst (v := 3) hx hb dX10_isAt_45 (by decide) ?_
            refine lv_imul hx hb dX10_isAt_46 ?_
            refine lv_iload hx hb dX10_isAt_47 (lv_at hl 4 rfl) ?_
            refine lv_iadd hx hb dX10_isAt_49 ?_
            obtain ⟨r18, e19, hf⟩ := ob hf
            refine r_callVi (As := [.int (p2 + x9), .int ((p1 * 3) + x9)]) ⟨hx, hb, hml, hown, hts⟩ (c_X10_fits l D S a0 (p2 + x9) ((p1 * 3) + x9) r18 e19) (cwV 2 hts (gwV gw_34_13 gw_34_14 gw_34_15 gw_31_10 gw_34_11) rfl rfl rfl (by decide +kernel) ⟨Nat.le_of_ble_eq_true rfl, Nat.le_of_ble_eq_true rfl⟩) hH hNE 13 ek1 (by decide) rfl rfl rfl hl.1 rfl (Nat.le_of_ble_eq_true rfl) dX10_isAt_50 ⟨(Nat.le_of_ble_eq_true rfl), (Nat.le_of_ble_eq_true rfl)⟩ (fun H locs hH => ?_)
            refine lv_istore_n (lv' := [(3, .int r18), (0, .ref a0), (1, .int p1), (2, .int p2), (4, .int x9)]) hx hb dX10_isAt_53 rfl hl (by decide) rfl (fun ls hl => ?_)
            refine lv_iload_n hx hb dX10_isAt_54 rfl (lv_at hl 0 rfl) ?_
            obtain ⟨j21, e24, hf⟩ := ol hf
            have Jj21 : ∀ (x20 : Int32) (H : Heap) (locs : List Loc) (ls : Array Slot), HI D S S s H locs → lv_has ls 5 [(0, .ref a0), (1, .int p1), (2, .int p2), (4, .int x9)] → j21 x20 = some q14_ → GI p l e (headSpec wsX10_isAt rmX10_isAt).room s m ([.ref a0, .int p1, .int p2] : List Value).toArray below meth c D S S r H locs 0 0 0 0 (F0 m 114 ls [.int x20]) := by
              intro x20 H locs ls hH hl hf
              rw [← e24] at hf
              refine lv_istore_n (lv' := [(3, .int x20), (0, .ref a0), (1, .int p1), (2, .int p2), (4, .int x9)]) hx hb dX10_isAt_114 rfl hl (by decide) rfl (fun ls hl => ?_)
              obtain ⟨x22, e23, hf⟩ := ol hf
              refine lv_iinc (v := x22) (lv' := [(4, .int x22), (3, .int x20), (0, .ref a0), (1, .int p1), (2, .int p2)]) hx hb dX10_isAt_115 hl (k := 4) rfl (by rw [← e23]; rfl) (by decide) rfl (fun ls hl => ?_)
              refine lv_goto (tgt := 24) hx hb dX10_isAt_118 (by decide) ?_
              cases hf
              exact ih14 x20 x22 hq14 _ _ ls hH (lv_sub hl [2, 3, 4, 1, 0] rfl)
            obtain ⟨j25, e27, hf⟩ := ol hf
            have Jj25 : ∀ (u26 : Unit) (H : Heap) (locs : List Loc) (ls : Array Slot), HI D S S s H locs → lv_has ls 5 [(0, .ref a0), (1, .int p1), (2, .int p2), (4, .int x9)] → j25 u26 = some q14_ → GI p l e (headSpec wsX10_isAt rmX10_isAt).room s m ([.ref a0, .int p1, .int p2] : List Value).toArray below meth c D S S r H locs 0 0 0 0 (F0 m 113 ls []) := by
              intro u26 H locs ls hH hl hf
              rw [← e27] at hf
              refine lv_iconst (v := 0) hx hb dX10_isAt_113 (by decide) ?_
              exact Jj21 0 _ _ ls hH (lv_sub hl [0, 1, 2, 3] rfl) hf
            refine lv_if_eq (tgt := 113) hx hb dX10_isAt_55 (by decide) (fun c28 => ?_) (fun c28 => ?_)
            · have hf := ip hf c28
              exact Jj25 () _ _ ls hH (lv_sub hl [1, 2, 3, 4] rfl) hf
            · have hf := iq hf c28
              refine lv_iload hx hb dX10_isAt_58 (lv_at hl 4 rfl) ?_
              obtain ⟨j29, e31, hf⟩ := ol hf
              have Jj29 : ∀ (u30 : Unit) (H : Heap) (locs : List Loc) (ls : Array Slot), HI D S S s H locs → lv_has ls 5 [(0, .ref a0), (1, .int p1), (2, .int p2), (4, .int x9)] → j29 u30 = some q14_ → GI p l e (headSpec wsX10_isAt rmX10_isAt).room s m ([.ref a0, .int p1, .int p2] : List Value).toArray below meth c D S S r H locs 0 0 0 0 (F0 m 109 ls []) := by
                intro u30 H locs ls hH hl hf
                rw [← e31] at hf
                refine lv_iconst (v := 1) hx hb dX10_isAt_109 (by decide) ?_
                refine lv_goto (tgt := 114) hx hb dX10_isAt_110 (by decide) ?_
                exact Jj21 1 _ _ ls hH (lv_sub hl [0, 1, 2, 3] rfl) hf
              refine lv_if_eq (tgt := 109) hx hb dX10_isAt_60 (by decide) (fun c32 => ?_) (fun c32 => ?_)
              · have hf := ip hf c32
                exact Jj29 () _ _ ls hH (lv_sub hl [1, 2, 3, 4] rfl) hf
              · have hf := iq hf c32
                refine lv_aload_n hx hb dX10_isAt_63 rfl (lv_at hl 1 rfl) ?_
                obtain ⟨a33, e34, hf⟩ := ob hf
                refine r_getQ hx hb 13 hts (fun w h => List.mem_cons_of_mem _ (mwsX100 w h)) hown hH ek1 (by decide) rfl 32 (by decide) rfl (hts (.fieldLink RX10 90 "HousestyleModel" "from" "[I") (List.mem_cons_of_mem _ gw_30_15)) (fun _ h9 => h9) dX10_isAt_64 e34 ?_
                refine lv_iload_n hx hb dX10_isAt_67 rfl (lv_at hl 3 rfl) ?_
                refine lv_iload hx hb dX10_isAt_68 (lv_at hl 4 rfl) ?_
                refine lv_iadd hx hb dX10_isAt_70 ?_
                obtain ⟨ek35, hf⟩ := oc hf
                obtain ⟨ei36, hf⟩ := oc hf
                refine r_iald hx hb hH ek35 ei36 dX10_isAt_71 ?_
                refine lv_aload_n hx hb dX10_isAt_72 rfl (lv_at hl 1 rfl) ?_
                obtain ⟨a37, e38, hf⟩ := ob hf
                refine r_getQ hx hb 13 hts (fun w h => List.mem_cons_of_mem _ (mwsX100 w h)) hown hH ek1 (by decide) rfl 33 (by decide) rfl (hts (.fieldLink RX10 93 "HousestyleModel" "to" "[I") (List.mem_cons_of_mem _ gw_30_16)) (fun _ h9 => h9) dX10_isAt_73 e38 ?_
                refine lv_iload_n hx hb dX10_isAt_76 rfl (lv_at hl 3 rfl) ?_
                refine lv_iload hx hb dX10_isAt_77 (lv_at hl 4 rfl) ?_
                refine lv_iadd hx hb dX10_isAt_79 ?_
                refine lv_iconst (v := 1) hx hb dX10_isAt_80 (by decide) ?_
                refine lv_isub hx hb dX10_isAt_81 ?_
                obtain ⟨ek39, hf⟩ := oc hf
                obtain ⟨ei40, hf⟩ := oc hf
                refine r_iald hx hb hH ek39 ei40 dX10_isAt_82 ?_
                refine lv_iconst (v := 1) hx hb dX10_isAt_83 (by decide) ?_
                refine lv_iadd hx hb dX10_isAt_84 ?_
                refine lv_icmp_ne (tgt := 113) hx hb dX10_isAt_85 (by decide) (fun c41 => ?_) (fun c41 => ?_)
                · have hf := iq hf c41
                  exact Jj25 () _ _ ls hH (lv_sub hl [1, 2, 3, 4] rfl) hf
                · have hf := ip hf c41
                  refine lv_aload_n hx hb dX10_isAt_88 rfl (lv_at hl 1 rfl) ?_
                  obtain ⟨a42, e43, hf⟩ := ob hf
                  refine r_getQ hx hb 13 hts (fun w h => List.mem_cons_of_mem _ (mwsX100 w h)) hown hH ek1 (by decide) rfl 1 (by decide) rfl (hts (.fieldLink RX10 7 "HousestyleModel" "text" "[C") (List.mem_cons_of_mem _ gw_29_12)) (fun _ h9 => h9) dX10_isAt_89 e43 ?_
                  refine lv_aload_n hx hb dX10_isAt_92 rfl (lv_at hl 1 rfl) ?_
                  refine r_getQ hx hb 13 hts (fun w h => List.mem_cons_of_mem _ (mwsX100 w h)) hown hH ek1 (by decide) rfl 33 (by decide) rfl (hts (.fieldLink RX10 93 "HousestyleModel" "to" "[I") (List.mem_cons_of_mem _ gw_30_16)) (fun _ h9 => h9) dX10_isAt_93 e38 ?_
                  refine lv_iload_n hx hb dX10_isAt_96 rfl (lv_at hl 3 rfl) ?_
                  refine lv_iload hx hb dX10_isAt_97 (lv_at hl 4 rfl) ?_
                  refine lv_iadd hx hb dX10_isAt_99 ?_
                  refine lv_iconst (v := 1) hx hb dX10_isAt_100 (by decide) ?_
                  refine lv_isub hx hb dX10_isAt_101 ?_
                  obtain ⟨ei44, hf⟩ := oc hf
                  refine r_iald hx hb hH ek39 ei44 dX10_isAt_102 ?_
                  obtain ⟨ek45, hf⟩ := oc hf
                  obtain ⟨ei46, hf⟩ := oc hf
                  refine r_cald hx hb hH ek45 ei46 dX10_isAt_103 ?_
                  refine lv_bipush (v := 32) hx hb dX10_isAt_104 (by decide) ?_
                  refine lv_icmp_ne (tgt := 113) hx hb dX10_isAt_106 (by decide) (fun c47 => ?_) (fun c47 => ?_)
                  · have hf := iq hf c47
                    exact Jj25 () _ _ ls hH (lv_sub hl [1, 2, 3, 4] rfl) hf
                  · have hf := ip hf c47
                    exact Jj29 () _ _ ls hH (lv_sub hl [1, 2, 3, 4] rfl) hf
    exact Lo14 kF x6 0 eo14 _ _ ls hH (lv_sub hl [2, 3, 4, 1, 0] rfl)
  refine lv_icmp_gt (tgt := 19) hx hb dX10_isAt_12 (by decide) (fun c49 => ?_) (fun c49 => ?_)
  · have hf := ip hf c49
    refine lv_iconst (v := 0) hx hb dX10_isAt_19 (by decide) ?_
    exact Jj7 0 _ _ ls hH (lv_sub hl [0, 1, 2] rfl) hf
  · have hf := iq hf c49
    refine lv_iconst (v := 1) hx hb dX10_isAt_15 (by decide) ?_
    refine lv_goto (tgt := 20) hx hb dX10_isAt_16 (by decide) ?_
    exact Jj7 1 _ _ ls hH (lv_sub hl [0, 1, 2] rfl) hf
set_option maxRecDepth 100000 in
def f_X10_isExcepted_b103 (a0 : Nat) (a10 : Nat) (a38 : Nat) (p2 : Int32) (x22 : Int32) (S : PS) (x44 : Int32) (x45 : Int32) : Option ((Int32 × Int32) ⊕ ((Int32))) := if ¬ (x22 < 0 ∨ kN S a38 ≤ x22.toNatClampNeg) then (if (kI S a38 x22.toNatClampNeg) ≤ x45 then (some (.inr x44)) else (if x44 = 0 then (some (.inr x44)) else ((kQ S a0 1).bind fun a63 => if ¬ ((p2 - 1) < 0 ∨ kN S a10 ≤ (p2 - 1).toNatClampNeg) then (if kK S a63 = 102 then (if ¬ (((kI S a10 (p2 - 1).toNatClampNeg) + x45) < 0 ∨ kN S a63 ≤ ((kI S a10 (p2 - 1).toNatClampNeg) + x45).toNatClampNeg) then ((kQ S a0 15).bind fun a68 => if kK S a68 = 102 then (if ¬ (((x22 * 20) + x45) < 0 ∨ kN S a68 ≤ ((x22 * 20) + x45).toNatClampNeg) then (lt (fun (x72 : Int32) => lt (x45 + 1) fun x74 => some (.inl (x72, x74))) fun j73 => if (kI S a63 ((kI S a10 (p2 - 1).toNatClampNeg) + x45).toNatClampNeg) = (kI S a68 ((x22 * 20) + x45).toNatClampNeg) then (j73 1) else (j73 0)) else none) else none) else none) else none) else none))) else none
set_option maxRecDepth 100000 in
def f_X10_isExcepted_b51 (a0 : Nat) (a10 : Nat) (p1 : Int32) (p2 : Int32) (S : PS) (x21 : Int32) (x22 : Int32) : Option ((Int32 × Int32) ⊕ ((Int32))) := (kQ S a0 14).bind fun a28 => if kK S a28 = 101 then (if ¬ (p1 < 0 ∨ kN S a28 ≤ p1.toNatClampNeg) then (if ((p1 * 3) + (kI S a28 p1.toNatClampNeg)) ≤ x22 then (some (.inr x21)) else ((kQ S a0 33).bind fun a33 => if kK S a33 = 101 then (if ¬ ((p2 - 1) < 0 ∨ kN S a33 ≤ (p2 - 1).toNatClampNeg) then (if ¬ ((p2 - 1) < 0 ∨ kN S a10 ≤ (p2 - 1).toNatClampNeg) then ((kQ S a0 16).bind fun a38 => if kK S a38 = 101 then (if ¬ (x22 < 0 ∨ kN S a38 ≤ x22.toNatClampNeg) then (lt (fun (x42 : Int32) => lt (fun (x46 : Int32) => lt (fun (x49 : Int32) => lt (x22 + 1) fun x51 => some (.inl (x49, x51))) fun j50 => lt (fun (u55 : Unit) => j50 1) fun j54 => if x21 = 0 then (if x46 = 0 then (j50 0) else (j54 ())) else (j54 ())) fun k47 => (iter (fun (v : Int32 × Int32) => f_X10_isExcepted_b103 a0 a10 a38 p2 x22 S v.1 v.2) kF (x42, 0)).bind (fun (v : Int32) => k47 v)) fun j43 => if ((kI S a33 (p2 - 1).toNatClampNeg) - (kI S a10 (p2 - 1).toNatClampNeg)) = (kI S a38 x22.toNatClampNeg) then (j43 1) else (j43 0)) else none) else none) else none) else none) else none)) else none) else none
set_option maxRecDepth 100000 in
def f_X10_isExcepted (S : PS) (a0 : Nat) (p1 : Int32) (p2 : Int32) : Option (Int32) := if p2 = 0 then (some 0) else (if kK S a0 = 14 then ((kQ S a0 34).bind fun a3 => if kK S a3 = 103 then (if ¬ ((p2 - 1) < 0 ∨ kN S a3 ≤ (p2 - 1).toNatClampNeg) then (if (kI S a3 (p2 - 1).toNatClampNeg) = 0 then (some 0) else ((kQ S a0 35).bind fun a8 => (kQ S a0 32).bind fun a10 => if kK S a10 = 101 then (if ¬ ((p2 - 1) < 0 ∨ kN S a10 ≤ (p2 - 1).toNatClampNeg) then (if kK S a8 = 101 then (if ¬ ((kI S a10 (p2 - 1).toNatClampNeg) < 0 ∨ kN S a8 ≤ (kI S a10 (p2 - 1).toNatClampNeg).toNatClampNeg) then (if ¬ (p2 < 0 ∨ kN S a10 ≤ p2.toNatClampNeg) then (if ¬ ((kI S a10 p2.toNatClampNeg) < 0 ∨ kN S a8 ≤ (kI S a10 p2.toNatClampNeg).toNatClampNeg) then (if (kI S a8 (kI S a10 (p2 - 1).toNatClampNeg).toNatClampNeg) = (kI S a8 (kI S a10 p2.toNatClampNeg).toNatClampNeg) then (lt (p1 * 3) fun x19 => lt (fun (x23 : Int32) => if x23 = 0 ∨ x23 = 1 then (some x23) else none) fun k24 => (iter (fun (v : Int32 × Int32) => f_X10_isExcepted_b51 a0 a10 p1 p2 S v.1 v.2) kF (0, x19)).bind (fun (v : Int32) => k24 v)) else (some 0)) else none) else none) else none) else none) else none) else none)) else none) else none) else none)
abbrev rmX10_isExcepted : Room := { frames := 0, cells := 0, slots := 0, locals := 0 }
set_option maxHeartbeats 4000000 in
set_option maxRecDepth 100000 in
theorem c_X10_isExcepted (l : Launch) (D : va_G × Nat) (S : PS) (a0 : Nat) (p1 : Int32) (p2 : Int32) (r : Int32) (hf : f_X10_isExcepted S a0 p1 p2 = some r) : MI l D yX10_isExcepted wsX10_isExcepted rmX10_isExcepted S [.ref a0, .int p1, .int p2] S r 0 0 := by
  unfold f_X10_isExcepted at hf
  refine Met.ofW (cc := cX10_isExcepted) (maxL := 7) (ret := (some .boolean)) (by decide) rfl ?_
  intro p e s m args below meth c s₁ B hml hv
  obtain ⟨rfl, hH0, hNE⟩ := hv
  have hx := B.exec
  have hb := B.bytes
  have hr := B.returns
  have hts := atoms_spec (ws := wsX10_isExcepted) B.pre
  have hown : s.vm.findClass RX10 = some m.cls := findClass_of_methodNamed B.named
  have hlocks := B.notSynchronized
  have hH : HI D S S s s.heap [] := HI.start hH0
  have hl := lv_entry ([.ref a0, .int p1, .int p2]) (n := 7) (Nat.le_of_ble_eq_true rfl)
  rw [lg_entry_eq]
  generalize (lg_sl ([.ref a0, .int p1, .int p2]) ++ List.replicate (7 - (lg_sl ([.ref a0, .int p1, .int p2])).length) Slot.unset).toArray = ls at hl ⊢
  have hl : lv_has ls 7 [(0, .ref a0), (1, .int p1), (2, .int p2)] := hl
  refine lv_iload_n hx hb dX10_isExcepted_0 rfl (lv_at hl 2 rfl) ?_
  refine lv_if_eq (tgt := 42) hx hb dX10_isExcepted_1 (by decide) (fun c1 => ?_) (fun c1 => ?_)
  · have hf := ip hf c1
    refine lv_iconst (v := 0) hx hb dX10_isExcepted_42 (by decide) ?_
    have hr9 := Option.some.inj hf
    subst hr9
    exact e_z (r := 0) hx hb hr hlocks rfl hH dX10_isExcepted_43
  · have hf := iq hf c1
    refine lv_aload_n hx hb dX10_isExcepted_4 rfl (lv_at hl 0 rfl) ?_
    obtain ⟨ek2, hf⟩ := oc hf
    obtain ⟨a3, e4, hf⟩ := ob hf
    refine r_getQ hx hb 13 hts (fun w h => List.mem_cons_of_mem _ (mwsX100 w h)) hown hH ek2 (by decide) rfl 34 (by decide) rfl (hts (.fieldLink RX10 96 "HousestyleModel" "isWord" "[Z") (List.mem_cons_of_mem _ gw_30_17)) (fun _ h9 => h9) dX10_isExcepted_5 e4 ?_
    refine lv_iload_n hx hb dX10_isExcepted_8 rfl (lv_at hl 2 rfl) ?_
    refine lv_iconst (v := 1) hx hb dX10_isExcepted_9 (by decide) ?_
    refine lv_isub hx hb dX10_isExcepted_10 ?_
    obtain ⟨ek5, hf⟩ := oc hf
    obtain ⟨ei6, hf⟩ := oc hf
    refine r_zald hx hb hH ek5 ei6 dX10_isExcepted_11 ?_
    refine lv_if_eq (tgt := 42) hx hb dX10_isExcepted_12 (by decide) (fun c7 => ?_) (fun c7 => ?_)
    · have hf := ip hf c7
      refine lv_iconst (v := 0) hx hb dX10_isExcepted_42 (by decide) ?_
      have hr9 := Option.some.inj hf
      subst hr9
      exact e_z (r := 0) hx hb hr hlocks rfl hH dX10_isExcepted_43
    · have hf := iq hf c7
      refine lv_aload_n hx hb dX10_isExcepted_15 rfl (lv_at hl 0 rfl) ?_
      obtain ⟨a8, e9, hf⟩ := ob hf
      refine r_getQ hx hb 13 hts (fun w h => List.mem_cons_of_mem _ (mwsX100 w h)) hown hH ek2 (by decide) rfl 35 (by decide) rfl (hts (.fieldLink RX10 99 "HousestyleModel" "paragraph" "[I") (List.mem_cons_of_mem _ gw_30_18)) (fun _ h9 => h9) dX10_isExcepted_16 e9 ?_
      refine lv_aload_n hx hb dX10_isExcepted_19 rfl (lv_at hl 0 rfl) ?_
      obtain ⟨a10, e11, hf⟩ := ob hf
      refine r_getQ hx hb 13 hts (fun w h => List.mem_cons_of_mem _ (mwsX100 w h)) hown hH ek2 (by decide) rfl 32 (by decide) rfl (hts (.fieldLink RX10 90 "HousestyleModel" "from" "[I") (List.mem_cons_of_mem _ gw_30_15)) (fun _ h9 => h9) dX10_isExcepted_20 e11 ?_
      refine lv_iload_n hx hb dX10_isExcepted_23 rfl (lv_at hl 2 rfl) ?_
      refine lv_iconst (v := 1) hx hb dX10_isExcepted_24 (by decide) ?_
      refine lv_isub hx hb dX10_isExcepted_25 ?_
      obtain ⟨ek12, hf⟩ := oc hf
      obtain ⟨ei13, hf⟩ := oc hf
      refine r_iald hx hb hH ek12 ei13 dX10_isExcepted_26 ?_
      obtain ⟨ek14, hf⟩ := oc hf
      obtain ⟨ei15, hf⟩ := oc hf
      refine r_iald hx hb hH ek14 ei15 dX10_isExcepted_27 ?_
      refine lv_aload_n hx hb dX10_isExcepted_28 rfl (lv_at hl 0 rfl) ?_
      refine r_getQ hx hb 13 hts (fun w h => List.mem_cons_of_mem _ (mwsX100 w h)) hown hH ek2 (by decide) rfl 35 (by decide) rfl (hts (.fieldLink RX10 99 "HousestyleModel" "paragraph" "[I") (List.mem_cons_of_mem _ gw_30_18)) (fun _ h9 => h9) dX10_isExcepted_29 e9 ?_
      refine lv_aload_n hx hb dX10_isExcepted_32 rfl (lv_at hl 0 rfl) ?_
      refine r_getQ hx hb 13 hts (fun w h => List.mem_cons_of_mem _ (mwsX100 w h)) hown hH ek2 (by decide) rfl 32 (by decide) rfl (hts (.fieldLink RX10 90 "HousestyleModel" "from" "[I") (List.mem_cons_of_mem _ gw_30_15)) (fun _ h9 => h9) dX10_isExcepted_33 e11 ?_
      refine lv_iload_n hx hb dX10_isExcepted_36 rfl (lv_at hl 2 rfl) ?_
      obtain ⟨ei16, hf⟩ := oc hf
      refine r_iald hx hb hH ek12 ei16 dX10_isExcepted_37 ?_
      obtain ⟨ei17, hf⟩ := oc hf
      refine r_iald hx hb hH ek14 ei17 dX10_isExcepted_38 ?_
      refine lv_icmp_eq (tgt := 44) hx hb dX10_isExcepted_39 (by decide) (fun c18 => ?_) (fun c18 => ?_)
      · have hf := ip hf c18
        refine lv_iconst (v := 0) hx hb dX10_isExcepted_44 (by decide) ?_
        refine lv_istore_n (lv' := [(3, .int 0), (0, .ref a0), (1, .int p1), (2, .int p2)]) hx hb dX10_isExcepted_45 rfl hl (by decide) rfl (fun ls hl => ?_)
        refine lv_iload_n hx hb dX10_isExcepted_46 rfl (lv_at hl 2 rfl) ?_
        refine lv_iconst (v := 3) hx hb dX10_isExcepted_47 (by decide) ?_
        refine lv_imul hx hb dX10_isExcepted_48 ?_
        obtain ⟨x19, e20, hf⟩ := ol hf
        refine lv_topE e20 ?_
        refine lv_istore (lv' := [(4, .int x19), (3, .int 0), (0, .ref a0), (1, .int p1), (2, .int p2)]) hx hb dX10_isExcepted_49 hl (by decide) rfl (fun ls hl => ?_)
        obtain ⟨k24, e25, hf⟩ := ol hf
        have Xk24 : ∀ (x23 : Int32) (H : Heap) (locs : List Loc) (ls : Array Slot), HI D S S s H locs → lv_has ls 7 [(3, .int x23)] → k24 x23 = some r → GI p l e (headSpec wsX10_isExcepted rmX10_isExcepted).room s m ([.ref a0, .int p1, .int p2] : List Value).toArray below meth c D S S r H locs 0 0 0 0 (F0 m 186 ls []) := by
          intro x23 H locs ls hH hl hf
          rw [← e25] at hf
          refine lv_iload_n hx hb dX10_isExcepted_186 rfl (lv_at hl 0 rfl) ?_
          obtain ⟨en26, hf⟩ := oc hf
          have hr9 := Option.some.inj hf
          subst hr9
          exact e_z hx hb hr hlocks (nar_Z9 en26) hH dX10_isExcepted_187
        obtain ⟨o27, eo27, hq27f⟩ := ob hf
        have Lo27 : ∀ (n : Nat) (x21 : Int32) (x22 : Int32), iter (fun (v : Int32 × Int32) => f_X10_isExcepted_b51 a0 a10 p1 p2 S v.1 v.2) n (x21, x22) = some o27 → ∀ (H : Heap) (locs : List Loc) (ls : Array Slot), HI D S S s H locs → lv_has ls 7 [(0, .ref a0), (1, .int p1), (2, .int p2), (3, .int x21), (4, .int x22)] → GI p l e (headSpec wsX10_isExcepted rmX10_isExcepted).room s m ([.ref a0, .int p1, .int p2] : List Value).toArray below meth c D S S r H locs 0 0 0 0 (F0 m 51 ls []) := by
          intro n
          induction n with
          | zero => intro x21 x22 hi; cases hi
          | succ n ih27 =>
            intro x21 x22 hi H locs ls hH hl
            obtain ⟨q27_, hf, hq27⟩ := iter_s hi
            have hf : f_X10_isExcepted_b51 a0 a10 p1 p2 S x21 x22 = some q27_ := hf
            unfold f_X10_isExcepted_b51 at hf
            refine lv_iload hx hb dX10_isExcepted_51 (lv_at hl 4 rfl) ?_
            refine lv_iload_n hx hb dX10_isExcepted_53 rfl (lv_at hl 1 rfl) ?_
            refine lv_iconst (v := 3) hx hb dX10_isExcepted_54 (by decide) ?_
            refine lv_imul hx hb dX10_isExcepted_55 ?_
            refine lv_aload_n hx hb dX10_isExcepted_56 rfl (lv_at hl 0 rfl) ?_
            obtain ⟨a28, e29, hf⟩ := ob hf
            refine r_getQ hx hb 13 hts (fun w h => List.mem_cons_of_mem _ (mwsX100 w h)) hown hH ek2 (by decide) rfl 14 (by decide) rfl (hts (.fieldLink RX10 42 "HousestyleModel" "exceptions" "[I") (List.mem_cons_of_mem _ gw_29_23)) (fun _ h9 => h9) dX10_isExcepted_57 e29 ?_
            refine lv_iload_n hx hb dX10_isExcepted_60 rfl (lv_at hl 1 rfl) ?_
            obtain ⟨ek30, hf⟩ := oc hf
            obtain ⟨ei31, hf⟩ := oc hf
            refine r_iald hx hb hH ek30 ei31 dX10_isExcepted_61 ?_
            refine lv_iadd hx hb dX10_isExcepted_62 ?_
            refine lv_icmp_ge (tgt := 186) hx hb dX10_isExcepted_63 (by decide) (fun c32 => ?_) (fun c32 => ?_)
            · have hf := ip hf c32
              cases hf
              have hf9 := itR (K := (fun (v : Int32) => k24 v)) hq27 hq27f
              exact Xk24 x21 _ _ ls hH (lv_sub hl [3] rfl) hf9
            · have hf := iq hf c32
              refine lv_aload_n hx hb dX10_isExcepted_66 rfl (lv_at hl 0 rfl) ?_
              obtain ⟨a33, e34, hf⟩ := ob hf
              refine r_getQ hx hb 13 hts (fun w h => List.mem_cons_of_mem _ (mwsX100 w h)) hown hH ek2 (by decide) rfl 33 (by decide) rfl (hts (.fieldLink RX10 93 "HousestyleModel" "to" "[I") (List.mem_cons_of_mem _ gw_30_16)) (fun _ h9 => h9) dX10_isExcepted_67 e34 ?_
              refine lv_iload_n hx hb dX10_isExcepted_70 rfl (lv_at hl 2 rfl) ?_
              refine lv_iconst (v := 1) hx hb dX10_isExcepted_71 (by decide) ?_
              refine lv_isub hx hb dX10_isExcepted_72 ?_
              obtain ⟨ek35, hf⟩ := oc hf
              obtain ⟨ei36, hf⟩ := oc hf
              refine r_iald hx hb hH ek35 ei36 dX10_isExcepted_73 ?_
              refine lv_aload_n hx hb dX10_isExcepted_74 rfl (lv_at hl 0 rfl) ?_
              refine r_getQ hx hb 13 hts (fun w h => List.mem_cons_of_mem _ (mwsX100 w h)) hown hH ek2 (by decide) rfl 32 (by decide) rfl (hts (.fieldLink RX10 90 "HousestyleModel" "from" "[I") (List.mem_cons_of_mem _ gw_30_15)) (fun _ h9 => h9) dX10_isExcepted_75 e11 ?_
              refine lv_iload_n hx hb dX10_isExcepted_78 rfl (lv_at hl 2 rfl) ?_
              refine lv_iconst (v := 1) hx hb dX10_isExcepted_79 (by decide) ?_
              refine lv_isub hx hb dX10_isExcepted_80 ?_
              obtain ⟨ei37, hf⟩ := oc hf
              refine r_iald hx hb hH ek12 ei37 dX10_isExcepted_81 ?_
              refine lv_isub hx hb dX10_isExcepted_82 ?_
              refine lv_aload_n hx hb dX10_isExcepted_83 rfl (lv_at hl 0 rfl) ?_
              obtain ⟨a38, e39, hf⟩ := ob hf
              refine r_getQ hx hb 13 hts (fun w h => List.mem_cons_of_mem _ (mwsX100 w h)) hown hH ek2 (by decide) rfl 16 (by decide) rfl (hts (.fieldLink RX10 48 "HousestyleModel" "exceptedSizes" "[I") (List.mem_cons_of_mem _ gw_30_1)) (fun _ h9 => h9) dX10_isExcepted_84 e39 ?_
              refine lv_iload hx hb dX10_isExcepted_87 (lv_at hl 4 rfl) ?_
              obtain ⟨ek40, hf⟩ := oc hf
              obtain ⟨ei41, hf⟩ := oc hf
              refine r_iald hx hb hH ek40 ei41 dX10_isExcepted_89 ?_
              obtain ⟨j43, e78, hf⟩ := ol hf
              have Jj43 : ∀ (x42 : Int32) (H : Heap) (locs : List Loc) (ls : Array Slot), HI D S S s H locs → lv_has ls 7 [(0, .ref a0), (1, .int p1), (2, .int p2), (3, .int x21), (4, .int x22)] → j43 x42 = some q27_ → GI p l e (headSpec wsX10_isExcepted rmX10_isExcepted).room s m ([.ref a0, .int p1, .int p2] : List Value).toArray below meth c D S S r H locs 0 0 0 0 (F0 m 98 ls [.int x42]) := by
                intro x42 H locs ls hH hl hf
                rw [← e78] at hf
                refine lv_istore (lv' := [(5, .int x42), (0, .ref a0), (1, .int p1), (2, .int p2), (3, .int x21), (4, .int x22)]) hx hb dX10_isExcepted_98 hl (by decide) rfl (fun ls hl => ?_)
                refine lv_iconst (v := 0) hx hb dX10_isExcepted_100 (by decide) ?_
                refine lv_istore (lv' := [(6, .int 0), (5, .int x42), (0, .ref a0), (1, .int p1), (2, .int p2), (3, .int x21), (4, .int x22)]) hx hb dX10_isExcepted_101 hl (by decide) rfl (fun ls hl => ?_)
                obtain ⟨k47, e48, hf⟩ := ol hf
                have Xk47 : ∀ (x46 : Int32) (H : Heap) (locs : List Loc) (ls : Array Slot), HI D S S s H locs → lv_has ls 7 [(0, .ref a0), (1, .int p1), (2, .int p2), (3, .int x21), (4, .int x22), (5, .int x46)] → k47 x46 = some q27_ → GI p l e (headSpec wsX10_isExcepted rmX10_isExcepted).room s m ([.ref a0, .int p1, .int p2] : List Value).toArray below meth c D S S r H locs 0 0 0 0 (F0 m 165 ls []) := by
                  intro x46 H locs ls hH hl hf
                  rw [← e48] at hf
                  refine lv_iload_n hx hb dX10_isExcepted_165 rfl (lv_at hl 3 rfl) ?_
                  obtain ⟨j50, e53, hf⟩ := ol hf
                  have Jj50 : ∀ (x49 : Int32) (H : Heap) (locs : List Loc) (ls : Array Slot), HI D S S s H locs → lv_has ls 7 [(0, .ref a0), (1, .int p1), (2, .int p2), (4, .int x22)] → j50 x49 = some q27_ → GI p l e (headSpec wsX10_isExcepted rmX10_isExcepted).room s m ([.ref a0, .int p1, .int p2] : List Value).toArray below meth c D S S r H locs 0 0 0 0 (F0 m 179 ls [.int x49]) := by
                    intro x49 H locs ls hH hl hf
                    rw [← e53] at hf
                    refine lv_istore_n (lv' := [(3, .int x49), (0, .ref a0), (1, .int p1), (2, .int p2), (4, .int x22)]) hx hb dX10_isExcepted_179 rfl hl (by decide) rfl (fun ls hl => ?_)
                    obtain ⟨x51, e52, hf⟩ := ol hf
                    refine lv_iinc (v := x51) (lv' := [(4, .int x51), (3, .int x49), (0, .ref a0), (1, .int p1), (2, .int p2)]) hx hb dX10_isExcepted_180 hl (k := 4) rfl (by rw [← e52]; rfl) (by decide) rfl (fun ls hl => ?_)
                    refine lv_goto (tgt := 51) hx hb dX10_isExcepted_183 (by decide) ?_
                    cases hf
                    exact ih27 x49 x51 hq27 _ _ ls hH (lv_sub hl [2, 3, 4, 1, 0] rfl)
                  obtain ⟨j54, e56, hf⟩ := ol hf
                  have Jj54 : ∀ (u55 : Unit) (H : Heap) (locs : List Loc) (ls : Array Slot), HI D S S s H locs → lv_has ls 7 [(0, .ref a0), (1, .int p1), (2, .int p2), (4, .int x22)] → j54 u55 = some q27_ → GI p l e (headSpec wsX10_isExcepted rmX10_isExcepted).room s m ([.ref a0, .int p1, .int p2] : List Value).toArray below meth c D S S r H locs 0 0 0 0 (F0 m 174 ls []) := by
                    intro u55 H locs ls hH hl hf
                    rw [← e56] at hf
                    refine lv_iconst (v := 1) hx hb dX10_isExcepted_174 (by decide) ?_
                    refine lv_goto (tgt := 179) hx hb dX10_isExcepted_175 (by decide) ?_
                    exact Jj50 1 _ _ ls hH (lv_sub hl [0, 1, 2, 3] rfl) hf
                  refine lv_if_ne (tgt := 174) hx hb dX10_isExcepted_166 (by decide) (fun c57 => ?_) (fun c57 => ?_)
                  · have hf := iq hf c57
                    exact Jj54 () _ _ ls hH (lv_sub hl [0, 1, 2, 4] rfl) hf
                  · have hf := ip hf c57
                    refine lv_iload hx hb dX10_isExcepted_169 (lv_at hl 5 rfl) ?_
                    refine lv_if_eq (tgt := 178) hx hb dX10_isExcepted_171 (by decide) (fun c58 => ?_) (fun c58 => ?_)
                    · have hf := ip hf c58
                      refine lv_iconst (v := 0) hx hb dX10_isExcepted_178 (by decide) ?_
                      exact Jj50 0 _ _ ls hH (lv_sub hl [0, 1, 2, 4] rfl) hf
                    · have hf := iq hf c58
                      exact Jj54 () _ _ ls hH (lv_sub hl [0, 1, 2, 4] rfl) hf
                obtain ⟨o59, eo59, hq59f⟩ := ob hf
                have Lo59 : ∀ (n : Nat) (x44 : Int32) (x45 : Int32), iter (fun (v : Int32 × Int32) => f_X10_isExcepted_b103 a0 a10 a38 p2 x22 S v.1 v.2) n (x44, x45) = some o59 → ∀ (H : Heap) (locs : List Loc) (ls : Array Slot), HI D S S s H locs → lv_has ls 7 [(0, .ref a0), (1, .int p1), (2, .int p2), (3, .int x21), (4, .int x22), (5, .int x44), (6, .int x45)] → GI p l e (headSpec wsX10_isExcepted rmX10_isExcepted).room s m ([.ref a0, .int p1, .int p2] : List Value).toArray below meth c D S S r H locs 0 0 0 0 (F0 m 103 ls []) := by
                  intro n
                  induction n with
                  | zero => intro x44 x45 hi; cases hi
                  | succ n ih59 =>
                    intro x44 x45 hi H locs ls hH hl
                    obtain ⟨q59_, hf, hq59⟩ := iter_s hi
                    have hf : f_X10_isExcepted_b103 a0 a10 a38 p2 x22 S x44 x45 = some q59_ := hf
                    unfold f_X10_isExcepted_b103 at hf
                    refine lv_iload hx hb dX10_isExcepted_103 (lv_at hl 6 rfl) ?_
                    refine lv_aload_n hx hb dX10_isExcepted_105 rfl (lv_at hl 0 rfl) ?_
                    refine r_getQ hx hb 13 hts (fun w h => List.mem_cons_of_mem _ (mwsX100 w h)) hown hH ek2 (by decide) rfl 16 (by decide) rfl (hts (.fieldLink RX10 48 "HousestyleModel" "exceptedSizes" "[I") (List.mem_cons_of_mem _ gw_30_1)) (fun _ h9 => h9) dX10_isExcepted_106 e39 ?_
                    refine lv_iload hx hb dX10_isExcepted_109 (lv_at hl 4 rfl) ?_
                    obtain ⟨ei60, hf⟩ := oc hf
                    refine r_iald hx hb hH ek40 ei60 dX10_isExcepted_111 ?_
                    refine lv_icmp_ge (tgt := 165) hx hb dX10_isExcepted_112 (by decide) (fun c61 => ?_) (fun c61 => ?_)
                    · have hf := ip hf c61
                      cases hf
                      have hf9 := itR (K := (fun (v : Int32) => k47 v)) hq59 hq59f
                      exact Xk47 x44 _ _ ls hH (lv_sub hl [0, 1, 2, 3, 4, 5] rfl) hf9
                    · have hf := iq hf c61
                      refine lv_iload hx hb dX10_isExcepted_115 (lv_at hl 5 rfl) ?_
                      refine lv_if_eq (tgt := 165) hx hb dX10_isExcepted_117 (by decide) (fun c62 => ?_) (fun c62 => ?_)
                      · have hf := ip hf c62
                        cases hf
                        have hf9 := itR (K := (fun (v : Int32) => k47 v)) hq59 hq59f
                        exact Xk47 x44 _ _ ls hH (lv_sub hl [0, 1, 2, 3, 4, 5] rfl) hf9
                      · have hf := iq hf c62
                        refine lv_aload_n hx hb dX10_isExcepted_120 rfl (lv_at hl 0 rfl) ?_
                        obtain ⟨a63, e64, hf⟩ := ob hf
                        refine r_getQ hx hb 13 hts (fun w h => List.mem_cons_of_mem _ (mwsX100 w h)) hown hH ek2 (by decide) rfl 1 (by decide) rfl (hts (.fieldLink RX10 7 "HousestyleModel" "text" "[C") (List.mem_cons_of_mem _ gw_29_12)) (fun _ h9 => h9) dX10_isExcepted_121 e64 ?_
                        refine lv_aload_n hx hb dX10_isExcepted_124 rfl (lv_at hl 0 rfl) ?_
                        refine r_getQ hx hb 13 hts (fun w h => List.mem_cons_of_mem _ (mwsX100 w h)) hown hH ek2 (by decide) rfl 32 (by decide) rfl (hts (.fieldLink RX10 90 "HousestyleModel" "from" "[I") (List.mem_cons_of_mem _ gw_30_15)) (fun _ h9 => h9) dX10_isExcepted_125 e11 ?_
                        refine lv_iload_n hx hb dX10_isExcepted_128 rfl (lv_at hl 2 rfl) ?_
                        refine lv_iconst (v := 1) hx hb dX10_isExcepted_129 (by decide) ?_
                        refine lv_isub hx hb dX10_isExcepted_130 ?_
                        obtain ⟨ei65, hf⟩ := oc hf
                        refine r_iald hx hb hH ek12 ei65 dX10_isExcepted_131 ?_
                        refine lv_iload hx hb dX10_isExcepted_132 (lv_at hl 6 rfl) ?_
                        refine lv_iadd hx hb dX10_isExcepted_134 ?_
                        obtain ⟨ek66, hf⟩ := oc hf
                        obtain ⟨ei67, hf⟩ := oc hf
                        refine r_cald hx hb hH ek66 ei67 dX10_isExcepted_135 ?_
                        refine lv_aload_n hx hb dX10_isExcepted_136 rfl (lv_at hl 0 rfl) ?_
                        obtain ⟨a68, e69, hf⟩ := ob hf
                        refine r_getQ hx hb 13 hts (fun w h => List.mem_cons_of_mem _ (mwsX100 w h)) hown hH ek2 (by decide) rfl 15 (by decide) rfl (hts (.fieldLink RX10 45 "HousestyleModel" "excepted" "[C") (List.mem_cons_of_mem _ gw_30_0)) (fun _ h9 => h9) dX10_isExcepted_137 e69 ?_
                        refine lv_iload hx hb dX10_isExcepted_140 (lv_at hl 4 rfl) ?_
                        refine lv_bipush (v := 20) hx hb dX10_isExcepted_142 (by decide) ?_
                        refine lv_imul hx hb dX10_isExcepted_144 ?_
                        refine lv_iload hx hb dX10_isExcepted_145 (lv_at hl 6 rfl) ?_
                        refine lv_iadd hx hb dX10_isExcepted_147 ?_
                        obtain ⟨ek70, hf⟩ := oc hf
                        obtain ⟨ei71, hf⟩ := oc hf
                        refine r_cald hx hb hH ek70 ei71 dX10_isExcepted_148 ?_
                        obtain ⟨j73, e76, hf⟩ := ol hf
                        have Jj73 : ∀ (x72 : Int32) (H : Heap) (locs : List Loc) (ls : Array Slot), HI D S S s H locs → lv_has ls 7 [(0, .ref a0), (1, .int p1), (2, .int p2), (3, .int x21), (4, .int x22), (6, .int x45)] → j73 x72 = some q59_ → GI p l e (headSpec wsX10_isExcepted rmX10_isExcepted).room s m ([.ref a0, .int p1, .int p2] : List Value).toArray below meth c D S S r H locs 0 0 0 0 (F0 m 157 ls [.int x72]) := by
                          intro x72 H locs ls hH hl hf
                          rw [← e76] at hf
                          refine lv_istore (lv' := [(5, .int x72), (0, .ref a0), (1, .int p1), (2, .int p2), (3, .int x21), (4, .int x22), (6, .int x45)]) hx hb dX10_isExcepted_157 hl (by decide) rfl (fun ls hl => ?_)
                          obtain ⟨x74, e75, hf⟩ := ol hf
                          refine lv_iinc (v := x74) (lv' := [(6, .int x74), (5, .int x72), (0, .ref a0), (1, .int p1), (2, .int p2), (3, .int x21), (4, .int x22)]) hx hb dX10_isExcepted_159 hl (k := 6) rfl (by rw [← e75]; rfl) (by decide) rfl (fun ls hl => ?_)
                          refine lv_goto (tgt := 103) hx hb dX10_isExcepted_162 (by decide) ?_
                          cases hf
                          exact ih59 x72 x74 hq59 _ _ ls hH (lv_sub hl [2, 3, 4, 5, 6, 1, 0] rfl)
                        refine lv_icmp_ne (tgt := 156) hx hb dX10_isExcepted_149 (by decide) (fun c77 => ?_) (fun c77 => ?_)
                        · have hf := iq hf c77
                          refine lv_iconst (v := 0) hx hb dX10_isExcepted_156 (by decide) ?_
                          exact Jj73 0 _ _ ls hH (lv_sub hl [0, 1, 2, 3, 4, 6] rfl) hf
                        · have hf := ip hf c77
                          refine lv_iconst (v := 1) hx hb dX10_isExcepted_152 (by decide) ?_
                          refine lv_goto (tgt := 157) hx hb dX10_isExcepted_153 (by decide) ?_
                          exact Jj73 1 _ _ ls hH (lv_sub hl [0, 1, 2, 3, 4, 6] rfl) hf
                exact Lo59 kF x42 0 eo59 _ _ ls hH (lv_sub hl [2, 3, 4, 5, 6, 1, 0] rfl)
              refine lv_icmp_ne (tgt := 97) hx hb dX10_isExcepted_90 (by decide) (fun c79 => ?_) (fun c79 => ?_)
              · have hf := iq hf c79
                refine lv_iconst (v := 0) hx hb dX10_isExcepted_97 (by decide) ?_
                exact Jj43 0 _ _ ls hH (lv_sub hl [0, 1, 2, 3, 4] rfl) hf
              · have hf := ip hf c79
                refine lv_iconst (v := 1) hx hb dX10_isExcepted_93 (by decide) ?_
                refine lv_goto (tgt := 98) hx hb dX10_isExcepted_94 (by decide) ?_
                exact Jj43 1 _ _ ls hH (lv_sub hl [0, 1, 2, 3, 4] rfl) hf
        exact Lo27 kF 0 x19 eo27 _ _ ls hH (lv_sub hl [2, 3, 4, 1, 0] rfl)
      · have hf := iq hf c18
        refine lv_iconst (v := 0) hx hb dX10_isExcepted_42 (by decide) ?_
        have hr9 := Option.some.inj hf
        subst hr9
        exact e_z (r := 0) hx hb hr hlocks rfl hH dX10_isExcepted_43
set_option maxRecDepth 100000 in
def f_X10_valueOf_b9 (a0 : Nat) (p1 : Int32) (S : PS) (x8 : Int32) (x9 : Int32) : Option ((Int32 × Int32) ⊕ ((Int32))) := (kQ S a0 33).bind fun a14 => if kK S a14 = 101 then (if ¬ (p1 < 0 ∨ kN S a14 ≤ p1.toNatClampNeg) then (if (kI S a14 p1.toNatClampNeg) ≤ x9 then (some (.inr x8)) else (lt (fun (x19 : Int32) => lt (x9 + 1) fun x21 => some (.inl (x19, x21))) fun j20 => if x8 ≤ (999 : Int32) then ((kQ S a0 1).bind fun a25 => if kK S a25 = 102 then (if ¬ (x9 < 0 ∨ kN S a25 ≤ x9.toNatClampNeg) then (j20 (((10 * x8) + (kI S a25 x9.toNatClampNeg)) - 48)) else none) else none) else (j20 x8))) else none) else none
set_option maxRecDepth 100000 in
def f_X10_valueOf (S : PS) (a0 : Nat) (p1 : Int32) : Option (Int32) := if kK S a0 = 14 then ((kQ S a0 32).bind fun a2 => if kK S a2 = 101 then (if ¬ (p1 < 0 ∨ kN S a2 ≤ p1.toNatClampNeg) then (lt (kI S a2 p1.toNatClampNeg) fun x6 => lt (fun (x10 : Int32) => some x10) fun k11 => (iter (fun (v : Int32 × Int32) => f_X10_valueOf_b9 a0 p1 S v.1 v.2) kF (0, x6)).bind (fun (v : Int32) => k11 v)) else none) else none) else none
abbrev rmX10_valueOf : Room := { frames := 0, cells := 0, slots := 0, locals := 0 }
set_option maxHeartbeats 4000000 in
set_option maxRecDepth 100000 in
theorem c_X10_valueOf (l : Launch) (D : va_G × Nat) (S : PS) (a0 : Nat) (p1 : Int32) (r : Int32) (hf : f_X10_valueOf S a0 p1 = some r) : MI l D yX10_valueOf wsX10_valueOf rmX10_valueOf S [.ref a0, .int p1] S r 0 0 := by
  unfold f_X10_valueOf at hf
  refine Met.ofW (cc := cX10_valueOf) (maxL := 4) (ret := (some .int)) (by decide) rfl ?_
  intro p e s m args below meth c s₁ B hml hv
  obtain ⟨rfl, hH0, hNE⟩ := hv
  have hx := B.exec
  have hb := B.bytes
  have hr := B.returns
  have hts := atoms_spec (ws := wsX10_valueOf) B.pre
  have hown : s.vm.findClass RX10 = some m.cls := findClass_of_methodNamed B.named
  have hlocks := B.notSynchronized
  have hH : HI D S S s s.heap [] := HI.start hH0
  have hl := lv_entry ([.ref a0, .int p1]) (n := 4) (Nat.le_of_ble_eq_true rfl)
  rw [lg_entry_eq]
  generalize (lg_sl ([.ref a0, .int p1]) ++ List.replicate (4 - (lg_sl ([.ref a0, .int p1])).length) Slot.unset).toArray = ls at hl ⊢
  have hl : lv_has ls 4 [(0, .ref a0), (1, .int p1)] := hl
  refine lv_iconst (v := 0) hx hb dX10_valueOf_0 (by decide) ?_
  refine lv_istore_n (lv' := [(2, .int 0), (0, .ref a0), (1, .int p1)]) hx hb dX10_valueOf_1 rfl hl (by decide) rfl (fun ls hl => ?_)
  refine lv_aload_n hx hb dX10_valueOf_2 rfl (lv_at hl 1 rfl) ?_
  obtain ⟨ek1, hf⟩ := oc hf
  obtain ⟨a2, e3, hf⟩ := ob hf
  refine r_getQ hx hb 13 hts (fun w h => List.mem_cons_of_mem _ (mwsX100 w h)) hown hH ek1 (by decide) rfl 32 (by decide) rfl (hts (.fieldLink RX10 90 "HousestyleModel" "from" "[I") (List.mem_cons_of_mem _ gw_30_15)) (fun _ h9 => h9) dX10_valueOf_3 e3 ?_
  refine lv_iload_n hx hb dX10_valueOf_6 rfl (lv_at hl 2 rfl) ?_
  obtain ⟨ek4, hf⟩ := oc hf
  obtain ⟨ei5, hf⟩ := oc hf
  refine r_iald hx hb hH ek4 ei5 dX10_valueOf_7 ?_
  obtain ⟨x6, e7, hf⟩ := ol hf
  refine lv_topE e7 ?_
  refine lv_istore_n (lv' := [(3, .int x6), (2, .int 0), (0, .ref a0), (1, .int p1)]) hx hb dX10_valueOf_8 rfl hl (by decide) rfl (fun ls hl => ?_)
  obtain ⟨k11, e12, hf⟩ := ol hf
  have Xk11 : ∀ (x10 : Int32) (H : Heap) (locs : List Loc) (ls : Array Slot), HI D S S s H locs → lv_has ls 4 [(2, .int x10)] → k11 x10 = some r → GI p l e (headSpec wsX10_valueOf rmX10_valueOf).room s m ([.ref a0, .int p1] : List Value).toArray below meth c D S S r H locs 0 0 0 0 (F0 m 51 ls []) := by
    intro x10 H locs ls hH hl hf
    rw [← e12] at hf
    refine lv_iload_n hx hb dX10_valueOf_51 rfl (lv_at hl 0 rfl) ?_
    have hr9 := Option.some.inj hf
    subst hr9
    exact e_i hx hb hr hlocks hH dX10_valueOf_52
  obtain ⟨o13, eo13, hq13f⟩ := ob hf
  have Lo13 : ∀ (n : Nat) (x8 : Int32) (x9 : Int32), iter (fun (v : Int32 × Int32) => f_X10_valueOf_b9 a0 p1 S v.1 v.2) n (x8, x9) = some o13 → ∀ (H : Heap) (locs : List Loc) (ls : Array Slot), HI D S S s H locs → lv_has ls 4 [(0, .ref a0), (1, .int p1), (2, .int x8), (3, .int x9)] → GI p l e (headSpec wsX10_valueOf rmX10_valueOf).room s m ([.ref a0, .int p1] : List Value).toArray below meth c D S S r H locs 0 0 0 0 (F0 m 9 ls []) := by
    intro n
    induction n with
    | zero => intro x8 x9 hi; cases hi
    | succ n ih13 =>
      intro x8 x9 hi H locs ls hH hl
      obtain ⟨q13_, hf, hq13⟩ := iter_s hi
      have hf : f_X10_valueOf_b9 a0 p1 S x8 x9 = some q13_ := hf
      unfold f_X10_valueOf_b9 at hf
      refine lv_iload_n hx hb dX10_valueOf_9 rfl (lv_at hl 3 rfl) ?_
      refine lv_aload_n hx hb dX10_valueOf_10 rfl (lv_at hl 0 rfl) ?_
      obtain ⟨a14, e15, hf⟩ := ob hf
      refine r_getQ hx hb 13 hts (fun w h => List.mem_cons_of_mem _ (mwsX100 w h)) hown hH ek1 (by decide) rfl 33 (by decide) rfl (hts (.fieldLink RX10 93 "HousestyleModel" "to" "[I") (List.mem_cons_of_mem _ gw_30_16)) (fun _ h9 => h9) dX10_valueOf_11 e15 ?_
      refine lv_iload_n hx hb dX10_valueOf_14 rfl (lv_at hl 1 rfl) ?_
      obtain ⟨ek16, hf⟩ := oc hf
      obtain ⟨ei17, hf⟩ := oc hf
      refine r_iald hx hb hH ek16 ei17 dX10_valueOf_15 ?_
      refine lv_icmp_ge (tgt := 51) hx hb dX10_valueOf_16 (by decide) (fun c18 => ?_) (fun c18 => ?_)
      · have hf := ip hf c18
        cases hf
        have hf9 := itR (K := (fun (v : Int32) => k11 v)) hq13 hq13f
        exact Xk11 x8 _ _ ls hH (lv_sub hl [2] rfl) hf9
      · have hf := iq hf c18
        refine lv_iload_n hx hb dX10_valueOf_19 rfl (lv_at hl 2 rfl) ?_
        refine lv_sipush (v := 999) hx hb dX10_valueOf_20 (by decide) ?_
        obtain ⟨j20, e23, hf⟩ := ol hf
        have Jj20 : ∀ (x19 : Int32) (H : Heap) (locs : List Loc) (ls : Array Slot), HI D S S s H locs → lv_has ls 4 [(0, .ref a0), (1, .int p1), (3, .int x9)] → j20 x19 = some q13_ → GI p l e (headSpec wsX10_valueOf rmX10_valueOf).room s m ([.ref a0, .int p1] : List Value).toArray below meth c D S S r H locs 0 0 0 0 (F0 m 44 ls [.int x19]) := by
          intro x19 H locs ls hH hl hf
          rw [← e23] at hf
          refine lv_istore_n (lv' := [(2, .int x19), (0, .ref a0), (1, .int p1), (3, .int x9)]) hx hb dX10_valueOf_44 rfl hl (by decide) rfl (fun ls hl => ?_)
          obtain ⟨x21, e22, hf⟩ := ol hf
          refine lv_iinc (v := x21) (lv' := [(3, .int x21), (2, .int x19), (0, .ref a0), (1, .int p1)]) hx hb dX10_valueOf_45 hl (k := 3) rfl (by rw [← e22]; rfl) (by decide) rfl (fun ls hl => ?_)
          refine lv_goto (tgt := 9) hx hb dX10_valueOf_48 (by decide) ?_
          cases hf
          exact ih13 x19 x21 hq13 _ _ ls hH (lv_sub hl [2, 3, 1, 0] rfl)
        refine lv_icmp_le (tgt := 30) hx hb dX10_valueOf_23 (by decide) (fun c24 => ?_) (fun c24 => ?_)
        · have hf := ip hf c24
          refine lv_bipush (v := 10) hx hb dX10_valueOf_30 (by decide) ?_
          refine lv_iload_n hx hb dX10_valueOf_32 rfl (lv_at hl 2 rfl) ?_
          refine lv_imul hx hb dX10_valueOf_33 ?_
          refine lv_aload_n hx hb dX10_valueOf_34 rfl (lv_at hl 0 rfl) ?_
          obtain ⟨a25, e26, hf⟩ := ob hf
          refine r_getQ hx hb 13 hts (fun w h => List.mem_cons_of_mem _ (mwsX100 w h)) hown hH ek1 (by decide) rfl 1 (by decide) rfl (hts (.fieldLink RX10 7 "HousestyleModel" "text" "[C") (List.mem_cons_of_mem _ gw_29_12)) (fun _ h9 => h9) dX10_valueOf_35 e26 ?_
          refine lv_iload_n hx hb dX10_valueOf_38 rfl (lv_at hl 3 rfl) ?_
          obtain ⟨ek27, hf⟩ := oc hf
          obtain ⟨ei28, hf⟩ := oc hf
          refine r_cald hx hb hH ek27 ei28 dX10_valueOf_39 ?_
          refine lv_iadd hx hb dX10_valueOf_40 ?_
          refine lv_bipush (v := 48) hx hb dX10_valueOf_41 (by decide) ?_
          refine lv_isub hx hb dX10_valueOf_43 ?_
          exact Jj20 (((10 * x8) + (kI S a25 x9.toNatClampNeg)) - 48) _ _ ls hH (lv_sub hl [0, 1, 3] rfl) hf
        · have hf := iq hf c24
          refine lv_iload_n hx hb dX10_valueOf_26 rfl (lv_at hl 2 rfl) ?_
          refine lv_goto (tgt := 44) hx hb dX10_valueOf_27 (by decide) ?_
          exact Jj20 x8 _ _ ls hH (lv_sub hl [0, 1, 3] rfl) hf
  exact Lo13 kF 0 x6 eo13 _ _ ls hH (lv_sub hl [2, 3, 1, 0] rfl)
set_option maxRecDepth 100000 in
def f_X10_wordOf_b57 (a0 : Nat) (a18 : Nat) (a22 : Nat) (p1 : Int32) (p2 : Int32) (x2 : Int32) (S : PS) (x28 : Int32) (x29 : Int32) : Option ((Int32 × Int32) ⊕ ((Int32))) := if ¬ (((2 * p1) + x2) < 0 ∨ kN S a22 ≤ ((2 * p1) + x2).toNatClampNeg) then (if (kI S a22 ((2 * p1) + x2).toNatClampNeg) ≤ x29 then (some (.inr x28)) else (if x28 = 0 then (some (.inr x28)) else ((kQ S a0 1).bind fun a43 => if ¬ (p2 < 0 ∨ kN S a18 ≤ p2.toNatClampNeg) then (if kK S a43 = 102 then (if ¬ (((kI S a18 p2.toNatClampNeg) + x29) < 0 ∨ kN S a43 ≤ ((kI S a18 p2.toNatClampNeg) + x29).toNatClampNeg) then ((kQ S a0 21).bind fun a48 => if kK S a48 = 102 then (if ¬ (((((2 * p1) + x2) * 20) + x29) < 0 ∨ kN S a48 ≤ ((((2 * p1) + x2) * 20) + x29).toNatClampNeg) then (lt (fun (x52 : Int32) => lt (x29 + 1) fun x54 => some (.inl (x52, x54))) fun j53 => if (kI S a43 ((kI S a18 p2.toNatClampNeg) + x29).toNatClampNeg) = (kI S a48 ((((2 * p1) + x2) * 20) + x29).toNatClampNeg) then (j53 1) else (j53 0)) else none) else none) else none) else none) else none))) else none
set_option maxRecDepth 100000 in
def f_X10_wordOf_b5 (a0 : Nat) (p1 : Int32) (p2 : Int32) (S : PS) (x1 : Int32) (x2 : Int32) : Option ((Int32 × Int32) ⊕ ((Int32))) := if (2 : Int32) ≤ x2 then (some (.inr x1)) else (if kK S a0 = 14 then ((kQ S a0 34).bind fun a9 => if kK S a9 = 103 then (if ¬ (p2 < 0 ∨ kN S a9 ≤ p2.toNatClampNeg) then (if (kI S a9 p2.toNatClampNeg) = 0 then (some (.inr x1)) else ((kQ S a0 33).bind fun a14 => if kK S a14 = 101 then (if ¬ (p2 < 0 ∨ kN S a14 ≤ p2.toNatClampNeg) then ((kQ S a0 32).bind fun a18 => if kK S a18 = 101 then (if ¬ (p2 < 0 ∨ kN S a18 ≤ p2.toNatClampNeg) then ((kQ S a0 22).bind fun a22 => if kK S a22 = 101 then (if ¬ (((2 * p1) + x2) < 0 ∨ kN S a22 ≤ ((2 * p1) + x2).toNatClampNeg) then (lt (fun (x26 : Int32) => lt (fun (x30 : Int32) => lt (fun (x33 : Int32) => lt (x2 + 1) fun x35 => some (.inl (x33, x35))) fun j34 => if x30 = 0 then (j34 x1) else (j34 x2)) fun k31 => (iter (fun (v : Int32 × Int32) => f_X10_wordOf_b57 a0 a18 a22 p1 p2 x2 S v.1 v.2) kF (x26, 0)).bind (fun (v : Int32) => k31 v)) fun j27 => if ((kI S a14 p2.toNatClampNeg) - (kI S a18 p2.toNatClampNeg)) = (kI S a22 ((2 * p1) + x2).toNatClampNeg) then (j27 1) else (j27 0)) else none) else none) else none) else none) else none) else none)) else none) else none) else none)
set_option maxRecDepth 100000 in
def f_X10_wordOf (S : PS) (a0 : Nat) (p1 : Int32) (p2 : Int32) : Option (Int32) := lt (fun (x3 : Int32) => some x3) fun k4 => (iter (fun (v : Int32 × Int32) => f_X10_wordOf_b5 a0 p1 p2 S v.1 v.2) kF (2, 0)).bind (fun (v : Int32) => k4 v)
abbrev rmX10_wordOf : Room := { frames := 0, cells := 0, slots := 0, locals := 0 }
set_option maxHeartbeats 4000000 in
set_option maxRecDepth 100000 in
theorem c_X10_wordOf (l : Launch) (D : va_G × Nat) (S : PS) (a0 : Nat) (p1 : Int32) (p2 : Int32) (r : Int32) (hf : f_X10_wordOf S a0 p1 p2 = some r) : MI l D yX10_wordOf wsX10_wordOf rmX10_wordOf S [.ref a0, .int p1, .int p2] S r 0 0 := by
  unfold f_X10_wordOf at hf
  refine Met.ofW (cc := cX10_wordOf) (maxL := 7) (ret := (some .int)) (by decide) rfl ?_
  intro p e s m args below meth c s₁ B hml hv
  obtain ⟨rfl, hH0, hNE⟩ := hv
  have hx := B.exec
  have hb := B.bytes
  have hr := B.returns
  have hts := atoms_spec (ws := wsX10_wordOf) B.pre
  have hown : s.vm.findClass RX10 = some m.cls := findClass_of_methodNamed B.named
  have hlocks := B.notSynchronized
  have hH : HI D S S s s.heap [] := HI.start hH0
  have hl := lv_entry ([.ref a0, .int p1, .int p2]) (n := 7) (Nat.le_of_ble_eq_true rfl)
  rw [lg_entry_eq]
  generalize (lg_sl ([.ref a0, .int p1, .int p2]) ++ List.replicate (7 - (lg_sl ([.ref a0, .int p1, .int p2])).length) Slot.unset).toArray = ls at hl ⊢
  have hl : lv_has ls 7 [(0, .ref a0), (1, .int p1), (2, .int p2)] := hl
  refine lv_iconst (v := 2) hx hb dX10_wordOf_0 (by decide) ?_
  refine lv_istore_n (lv' := [(3, .int 2), (0, .ref a0), (1, .int p1), (2, .int p2)]) hx hb dX10_wordOf_1 rfl hl (by decide) rfl (fun ls hl => ?_)
  refine lv_iconst (v := 0) hx hb dX10_wordOf_2 (by decide) ?_
  refine lv_istore (lv' := [(4, .int 0), (3, .int 2), (0, .ref a0), (1, .int p1), (2, .int p2)]) hx hb dX10_wordOf_3 hl (by decide) rfl (fun ls hl => ?_)
  obtain ⟨k4, e5, hf⟩ := ol hf
  have Xk4 : ∀ (x3 : Int32) (H : Heap) (locs : List Loc) (ls : Array Slot), HI D S S s H locs → lv_has ls 7 [(3, .int x3)] → k4 x3 = some r → GI p l e (headSpec wsX10_wordOf rmX10_wordOf).room s m ([.ref a0, .int p1, .int p2] : List Value).toArray below meth c D S S r H locs 0 0 0 0 (F0 m 143 ls []) := by
    intro x3 H locs ls hH hl hf
    rw [← e5] at hf
    refine lv_iload_n hx hb dX10_wordOf_143 rfl (lv_at hl 0 rfl) ?_
    have hr9 := Option.some.inj hf
    subst hr9
    exact e_i hx hb hr hlocks hH dX10_wordOf_144
  obtain ⟨o6, eo6, hq6f⟩ := ob hf
  have Lo6 : ∀ (n : Nat) (x1 : Int32) (x2 : Int32), iter (fun (v : Int32 × Int32) => f_X10_wordOf_b5 a0 p1 p2 S v.1 v.2) n (x1, x2) = some o6 → ∀ (H : Heap) (locs : List Loc) (ls : Array Slot), HI D S S s H locs → lv_has ls 7 [(0, .ref a0), (1, .int p1), (2, .int p2), (3, .int x1), (4, .int x2)] → GI p l e (headSpec wsX10_wordOf rmX10_wordOf).room s m ([.ref a0, .int p1, .int p2] : List Value).toArray below meth c D S S r H locs 0 0 0 0 (F0 m 5 ls []) := by
    intro n
    induction n with
    | zero => intro x1 x2 hi; cases hi
    | succ n ih6 =>
      intro x1 x2 hi H locs ls hH hl
      obtain ⟨q6_, hf, hq6⟩ := iter_s hi
      have hf : f_X10_wordOf_b5 a0 p1 p2 S x1 x2 = some q6_ := hf
      unfold f_X10_wordOf_b5 at hf
      refine lv_iload hx hb dX10_wordOf_5 (lv_at hl 4 rfl) ?_
      refine lv_iconst (v := 2) hx hb dX10_wordOf_7 (by decide) ?_
      refine lv_icmp_ge (tgt := 143) hx hb dX10_wordOf_8 (by decide) (fun c7 => ?_) (fun c7 => ?_)
      · have hf := ip hf c7
        cases hf
        have hf9 := itR (K := (fun (v : Int32) => k4 v)) hq6 hq6f
        exact Xk4 x1 _ _ ls hH (lv_sub hl [3] rfl) hf9
      · have hf := iq hf c7
        refine lv_aload_n hx hb dX10_wordOf_11 rfl (lv_at hl 0 rfl) ?_
        obtain ⟨ek8, hf⟩ := oc hf
        obtain ⟨a9, e10, hf⟩ := ob hf
        refine r_getQ hx hb 13 hts (fun w h => List.mem_cons_of_mem _ (mwsX100 w h)) hown hH ek8 (by decide) rfl 34 (by decide) rfl (hts (.fieldLink RX10 96 "HousestyleModel" "isWord" "[Z") (List.mem_cons_of_mem _ gw_30_17)) (fun _ h9 => h9) dX10_wordOf_12 e10 ?_
        refine lv_iload_n hx hb dX10_wordOf_15 rfl (lv_at hl 2 rfl) ?_
        obtain ⟨ek11, hf⟩ := oc hf
        obtain ⟨ei12, hf⟩ := oc hf
        refine r_zald hx hb hH ek11 ei12 dX10_wordOf_16 ?_
        refine lv_if_eq (tgt := 143) hx hb dX10_wordOf_17 (by decide) (fun c13 => ?_) (fun c13 => ?_)
        · have hf := ip hf c13
          cases hf
          have hf9 := itR (K := (fun (v : Int32) => k4 v)) hq6 hq6f
          exact Xk4 x1 _ _ ls hH (lv_sub hl [3] rfl) hf9
        · have hf := iq hf c13
          refine lv_aload_n hx hb dX10_wordOf_20 rfl (lv_at hl 0 rfl) ?_
          obtain ⟨a14, e15, hf⟩ := ob hf
          refine r_getQ hx hb 13 hts (fun w h => List.mem_cons_of_mem _ (mwsX100 w h)) hown hH ek8 (by decide) rfl 33 (by decide) rfl (hts (.fieldLink RX10 93 "HousestyleModel" "to" "[I") (List.mem_cons_of_mem _ gw_30_16)) (fun _ h9 => h9) dX10_wordOf_21 e15 ?_
          refine lv_iload_n hx hb dX10_wordOf_24 rfl (lv_at hl 2 rfl) ?_
          obtain ⟨ek16, hf⟩ := oc hf
          obtain ⟨ei17, hf⟩ := oc hf
          refine r_iald hx hb hH ek16 ei17 dX10_wordOf_25 ?_
          refine lv_aload_n hx hb dX10_wordOf_26 rfl (lv_at hl 0 rfl) ?_
          obtain ⟨a18, e19, hf⟩ := ob hf
          refine r_getQ hx hb 13 hts (fun w h => List.mem_cons_of_mem _ (mwsX100 w h)) hown hH ek8 (by decide) rfl 32 (by decide) rfl (hts (.fieldLink RX10 90 "HousestyleModel" "from" "[I") (List.mem_cons_of_mem _ gw_30_15)) (fun _ h9 => h9) dX10_wordOf_27 e19 ?_
          refine lv_iload_n hx hb dX10_wordOf_30 rfl (lv_at hl 2 rfl) ?_
          obtain ⟨ek20, hf⟩ := oc hf
          obtain ⟨ei21, hf⟩ := oc hf
          refine r_iald hx hb hH ek20 ei21 dX10_wordOf_31 ?_
          refine lv_isub hx hb dX10_wordOf_32 ?_
          refine lv_aload_n hx hb dX10_wordOf_33 rfl (lv_at hl 0 rfl) ?_
          obtain ⟨a22, e23, hf⟩ := ob hf
          refine r_getQ hx hb 13 hts (fun w h => List.mem_cons_of_mem _ (mwsX100 w h)) hown hH ek8 (by decide) rfl 22 (by decide) rfl (hts (.fieldLink RX10 63 "HousestyleModel" "pairedSizes" "[I") (List.mem_cons_of_mem _ gw_30_6)) (fun _ h9 => h9) dX10_wordOf_34 e23 ?_
          refine lv_iconst (v := 2) hx hb dX10_wordOf_37 (by decide) ?_
          refine lv_iload_n hx hb dX10_wordOf_38 rfl (lv_at hl 1 rfl) ?_
          refine lv_imul hx hb dX10_wordOf_39 ?_
          refine lv_iload hx hb dX10_wordOf_40 (lv_at hl 4 rfl) ?_
          refine lv_iadd hx hb dX10_wordOf_42 ?_
          obtain ⟨ek24, hf⟩ := oc hf
          obtain ⟨ei25, hf⟩ := oc hf
          refine r_iald hx hb hH ek24 ei25 dX10_wordOf_43 ?_
          obtain ⟨j27, e58, hf⟩ := ol hf
          have Jj27 : ∀ (x26 : Int32) (H : Heap) (locs : List Loc) (ls : Array Slot), HI D S S s H locs → lv_has ls 7 [(0, .ref a0), (1, .int p1), (2, .int p2), (3, .int x1), (4, .int x2)] → j27 x26 = some q6_ → GI p l e (headSpec wsX10_wordOf rmX10_wordOf).room s m ([.ref a0, .int p1, .int p2] : List Value).toArray below meth c D S S r H locs 0 0 0 0 (F0 m 52 ls [.int x26]) := by
            intro x26 H locs ls hH hl hf
            rw [← e58] at hf
            refine lv_istore (lv' := [(5, .int x26), (0, .ref a0), (1, .int p1), (2, .int p2), (3, .int x1), (4, .int x2)]) hx hb dX10_wordOf_52 hl (by decide) rfl (fun ls hl => ?_)
            refine lv_iconst (v := 0) hx hb dX10_wordOf_54 (by decide) ?_
            refine lv_istore (lv' := [(6, .int 0), (5, .int x26), (0, .ref a0), (1, .int p1), (2, .int p2), (3, .int x1), (4, .int x2)]) hx hb dX10_wordOf_55 hl (by decide) rfl (fun ls hl => ?_)
            obtain ⟨k31, e32, hf⟩ := ol hf
            have Xk31 : ∀ (x30 : Int32) (H : Heap) (locs : List Loc) (ls : Array Slot), HI D S S s H locs → lv_has ls 7 [(0, .ref a0), (1, .int p1), (2, .int p2), (3, .int x1), (4, .int x2), (5, .int x30)] → k31 x30 = some q6_ → GI p l e (headSpec wsX10_wordOf rmX10_wordOf).room s m ([.ref a0, .int p1, .int p2] : List Value).toArray below meth c D S S r H locs 0 0 0 0 (F0 m 125 ls []) := by
              intro x30 H locs ls hH hl hf
              rw [← e32] at hf
              refine lv_iload hx hb dX10_wordOf_125 (lv_at hl 5 rfl) ?_
              obtain ⟨j34, e37, hf⟩ := ol hf
              have Jj34 : ∀ (x33 : Int32) (H : Heap) (locs : List Loc) (ls : Array Slot), HI D S S s H locs → lv_has ls 7 [(0, .ref a0), (1, .int p1), (2, .int p2), (4, .int x2)] → j34 x33 = some q6_ → GI p l e (headSpec wsX10_wordOf rmX10_wordOf).room s m ([.ref a0, .int p1, .int p2] : List Value).toArray below meth c D S S r H locs 0 0 0 0 (F0 m 136 ls [.int x33]) := by
                intro x33 H locs ls hH hl hf
                rw [← e37] at hf
                refine lv_istore_n (lv' := [(3, .int x33), (0, .ref a0), (1, .int p1), (2, .int p2), (4, .int x2)]) hx hb dX10_wordOf_136 rfl hl (by decide) rfl (fun ls hl => ?_)
                obtain ⟨x35, e36, hf⟩ := ol hf
                refine lv_iinc (v := x35) (lv' := [(4, .int x35), (3, .int x33), (0, .ref a0), (1, .int p1), (2, .int p2)]) hx hb dX10_wordOf_137 hl (k := 4) rfl (by rw [← e36]; rfl) (by decide) rfl (fun ls hl => ?_)
                refine lv_goto (tgt := 5) hx hb dX10_wordOf_140 (by decide) ?_
                cases hf
                exact ih6 x33 x35 hq6 _ _ ls hH (lv_sub hl [2, 3, 4, 1, 0] rfl)
              refine lv_if_eq (tgt := 135) hx hb dX10_wordOf_127 (by decide) (fun c38 => ?_) (fun c38 => ?_)
              · have hf := ip hf c38
                refine lv_iload_n hx hb dX10_wordOf_135 rfl (lv_at hl 3 rfl) ?_
                exact Jj34 x1 _ _ ls hH (lv_sub hl [0, 1, 2, 4] rfl) hf
              · have hf := iq hf c38
                refine lv_iload hx hb dX10_wordOf_130 (lv_at hl 4 rfl) ?_
                refine lv_goto (tgt := 136) hx hb dX10_wordOf_132 (by decide) ?_
                exact Jj34 x2 _ _ ls hH (lv_sub hl [0, 1, 2, 4] rfl) hf
            obtain ⟨o39, eo39, hq39f⟩ := ob hf
            have Lo39 : ∀ (n : Nat) (x28 : Int32) (x29 : Int32), iter (fun (v : Int32 × Int32) => f_X10_wordOf_b57 a0 a18 a22 p1 p2 x2 S v.1 v.2) n (x28, x29) = some o39 → ∀ (H : Heap) (locs : List Loc) (ls : Array Slot), HI D S S s H locs → lv_has ls 7 [(0, .ref a0), (1, .int p1), (2, .int p2), (3, .int x1), (4, .int x2), (5, .int x28), (6, .int x29)] → GI p l e (headSpec wsX10_wordOf rmX10_wordOf).room s m ([.ref a0, .int p1, .int p2] : List Value).toArray below meth c D S S r H locs 0 0 0 0 (F0 m 57 ls []) := by
              intro n
              induction n with
              | zero => intro x28 x29 hi; cases hi
              | succ n ih39 =>
                intro x28 x29 hi H locs ls hH hl
                obtain ⟨q39_, hf, hq39⟩ := iter_s hi
                have hf : f_X10_wordOf_b57 a0 a18 a22 p1 p2 x2 S x28 x29 = some q39_ := hf
                unfold f_X10_wordOf_b57 at hf
                refine lv_iload hx hb dX10_wordOf_57 (lv_at hl 6 rfl) ?_
                refine lv_aload_n hx hb dX10_wordOf_59 rfl (lv_at hl 0 rfl) ?_
                refine r_getQ hx hb 13 hts (fun w h => List.mem_cons_of_mem _ (mwsX100 w h)) hown hH ek8 (by decide) rfl 22 (by decide) rfl (hts (.fieldLink RX10 63 "HousestyleModel" "pairedSizes" "[I") (List.mem_cons_of_mem _ gw_30_6)) (fun _ h9 => h9) dX10_wordOf_60 e23 ?_
                refine lv_iconst (v := 2) hx hb dX10_wordOf_63 (by decide) ?_
                refine lv_iload_n hx hb dX10_wordOf_64 rfl (lv_at hl 1 rfl) ?_
                refine lv_imul hx hb dX10_wordOf_65 ?_
                refine lv_iload hx hb dX10_wordOf_66 (lv_at hl 4 rfl) ?_
                refine lv_iadd hx hb dX10_wordOf_68 ?_
                obtain ⟨ei40, hf⟩ := oc hf
                refine r_iald hx hb hH ek24 ei40 dX10_wordOf_69 ?_
                refine lv_icmp_ge (tgt := 125) hx hb dX10_wordOf_70 (by decide) (fun c41 => ?_) (fun c41 => ?_)
                · have hf := ip hf c41
                  cases hf
                  have hf9 := itR (K := (fun (v : Int32) => k31 v)) hq39 hq39f
                  exact Xk31 x28 _ _ ls hH (lv_sub hl [0, 1, 2, 3, 4, 5] rfl) hf9
                · have hf := iq hf c41
                  refine lv_iload hx hb dX10_wordOf_73 (lv_at hl 5 rfl) ?_
                  refine lv_if_eq (tgt := 125) hx hb dX10_wordOf_75 (by decide) (fun c42 => ?_) (fun c42 => ?_)
                  · have hf := ip hf c42
                    cases hf
                    have hf9 := itR (K := (fun (v : Int32) => k31 v)) hq39 hq39f
                    exact Xk31 x28 _ _ ls hH (lv_sub hl [0, 1, 2, 3, 4, 5] rfl) hf9
                  · have hf := iq hf c42
                    refine lv_aload_n hx hb dX10_wordOf_78 rfl (lv_at hl 0 rfl) ?_
                    obtain ⟨a43, e44, hf⟩ := ob hf
                    refine r_getQ hx hb 13 hts (fun w h => List.mem_cons_of_mem _ (mwsX100 w h)) hown hH ek8 (by decide) rfl 1 (by decide) rfl (hts (.fieldLink RX10 7 "HousestyleModel" "text" "[C") (List.mem_cons_of_mem _ gw_29_12)) (fun _ h9 => h9) dX10_wordOf_79 e44 ?_
                    refine lv_aload_n hx hb dX10_wordOf_82 rfl (lv_at hl 0 rfl) ?_
                    refine r_getQ hx hb 13 hts (fun w h => List.mem_cons_of_mem _ (mwsX100 w h)) hown hH ek8 (by decide) rfl 32 (by decide) rfl (hts (.fieldLink RX10 90 "HousestyleModel" "from" "[I") (List.mem_cons_of_mem _ gw_30_15)) (fun _ h9 => h9) dX10_wordOf_83 e19 ?_
                    refine lv_iload_n hx hb dX10_wordOf_86 rfl (lv_at hl 2 rfl) ?_
                    obtain ⟨ei45, hf⟩ := oc hf
                    refine r_iald hx hb hH ek20 ei45 dX10_wordOf_87 ?_
                    refine lv_iload hx hb dX10_wordOf_88 (lv_at hl 6 rfl) ?_
                    refine lv_iadd hx hb dX10_wordOf_90 ?_
                    obtain ⟨ek46, hf⟩ := oc hf
                    obtain ⟨ei47, hf⟩ := oc hf
                    refine r_cald hx hb hH ek46 ei47 dX10_wordOf_91 ?_
                    refine lv_aload_n hx hb dX10_wordOf_92 rfl (lv_at hl 0 rfl) ?_
                    obtain ⟨a48, e49, hf⟩ := ob hf
                    refine r_getQ hx hb 13 hts (fun w h => List.mem_cons_of_mem _ (mwsX100 w h)) hown hH ek8 (by decide) rfl 21 (by decide) rfl (hts (.fieldLink RX10 60 "HousestyleModel" "paired" "[C") (List.mem_cons_of_mem _ gw_30_5)) (fun _ h9 => h9) dX10_wordOf_93 e49 ?_
                    refine lv_iconst (v := 2) hx hb dX10_wordOf_96 (by decide) ?_
                    refine lv_iload_n hx hb dX10_wordOf_97 rfl (lv_at hl 1 rfl) ?_
                    refine lv_imul hx hb dX10_wordOf_98 ?_
                    refine lv_iload hx hb dX10_wordOf_99 (lv_at hl 4 rfl) ?_
                    refine lv_iadd hx hb dX10_wordOf_101 ?_
                    refine lv_bipush (v := 20) hx hb dX10_wordOf_102 (by decide) ?_
                    refine lv_imul hx hb dX10_wordOf_104 ?_
                    refine lv_iload hx hb dX10_wordOf_105 (lv_at hl 6 rfl) ?_
                    refine lv_iadd hx hb dX10_wordOf_107 ?_
                    obtain ⟨ek50, hf⟩ := oc hf
                    obtain ⟨ei51, hf⟩ := oc hf
                    refine r_cald hx hb hH ek50 ei51 dX10_wordOf_108 ?_
                    obtain ⟨j53, e56, hf⟩ := ol hf
                    have Jj53 : ∀ (x52 : Int32) (H : Heap) (locs : List Loc) (ls : Array Slot), HI D S S s H locs → lv_has ls 7 [(0, .ref a0), (1, .int p1), (2, .int p2), (3, .int x1), (4, .int x2), (6, .int x29)] → j53 x52 = some q39_ → GI p l e (headSpec wsX10_wordOf rmX10_wordOf).room s m ([.ref a0, .int p1, .int p2] : List Value).toArray below meth c D S S r H locs 0 0 0 0 (F0 m 117 ls [.int x52]) := by
                      intro x52 H locs ls hH hl hf
                      rw [← e56] at hf
                      refine lv_istore (lv' := [(5, .int x52), (0, .ref a0), (1, .int p1), (2, .int p2), (3, .int x1), (4, .int x2), (6, .int x29)]) hx hb dX10_wordOf_117 hl (by decide) rfl (fun ls hl => ?_)
                      obtain ⟨x54, e55, hf⟩ := ol hf
                      refine lv_iinc (v := x54) (lv' := [(6, .int x54), (5, .int x52), (0, .ref a0), (1, .int p1), (2, .int p2), (3, .int x1), (4, .int x2)]) hx hb dX10_wordOf_119 hl (k := 6) rfl (by rw [← e55]; rfl) (by decide) rfl (fun ls hl => ?_)
                      refine lv_goto (tgt := 57) hx hb dX10_wordOf_122 (by decide) ?_
                      cases hf
                      exact ih39 x52 x54 hq39 _ _ ls hH (lv_sub hl [2, 3, 4, 5, 6, 1, 0] rfl)
                    refine lv_icmp_ne (tgt := 116) hx hb dX10_wordOf_109 (by decide) (fun c57 => ?_) (fun c57 => ?_)
                    · have hf := iq hf c57
                      refine lv_iconst (v := 0) hx hb dX10_wordOf_116 (by decide) ?_
                      exact Jj53 0 _ _ ls hH (lv_sub hl [0, 1, 2, 3, 4, 6] rfl) hf
                    · have hf := ip hf c57
                      refine lv_iconst (v := 1) hx hb dX10_wordOf_112 (by decide) ?_
                      refine lv_goto (tgt := 117) hx hb dX10_wordOf_113 (by decide) ?_
                      exact Jj53 1 _ _ ls hH (lv_sub hl [0, 1, 2, 3, 4, 6] rfl) hf
            exact Lo39 kF x26 0 eo39 _ _ ls hH (lv_sub hl [2, 3, 4, 5, 6, 1, 0] rfl)
          refine lv_icmp_ne (tgt := 51) hx hb dX10_wordOf_44 (by decide) (fun c59 => ?_) (fun c59 => ?_)
          · have hf := iq hf c59
            refine lv_iconst (v := 0) hx hb dX10_wordOf_51 (by decide) ?_
            exact Jj27 0 _ _ ls hH (lv_sub hl [0, 1, 2, 3, 4] rfl) hf
          · have hf := ip hf c59
            refine lv_iconst (v := 1) hx hb dX10_wordOf_47 (by decide) ?_
            refine lv_goto (tgt := 52) hx hb dX10_wordOf_48 (by decide) ?_
            exact Jj27 1 _ _ ls hH (lv_sub hl [0, 1, 2, 3, 4] rfl) hf
  exact Lo6 kF 2 0 eo6 _ _ ls hH (lv_sub hl [2, 3, 4, 1, 0] rfl)
set_option maxRecDepth 100000 in
def f_X10_isIgnored_b9 (a0 : Nat) (p1 : Int32) (p2 : Int32) (p3 : Int32) (p4 : Int32) (S : PS) (x3 : Int32) (x4 : Int32) : Option ((Int32 × Int32) ⊕ ((Int32))) := if kK S a0 = 14 then ((kQ S a0 26).bind fun a11 => if kK S a11 = 101 then (if ¬ (p1 < 0 ∨ kN S a11 ≤ p1.toNatClampNeg) then (if ((p1 * 20) + (kI S a11 p1.toNatClampNeg)) ≤ x4 then (some (.inr x3)) else (lt (fun (x16 : Int32) => lt (x4 + 1) fun x18 => some (.inl (x16, x18))) fun j17 => lt (fun (u22 : Unit) => j17 1) fun j21 => if x3 = 0 then ((kQ S a0 27).bind fun a25 => if kK S a25 = 101 then (if ¬ (x4 < 0 ∨ kN S a25 ≤ x4.toNatClampNeg) then (lt (fun (u30 : Unit) => j17 0) fun j29 => if (kI S a25 x4.toNatClampNeg) = p2 then ((kQ S a0 28).bind fun a33 => if kK S a33 = 101 then (if ¬ (x4 < 0 ∨ kN S a33 ≤ x4.toNatClampNeg) then (if (kI S a33 x4.toNatClampNeg) = p3 then ((kQ S a0 29).bind fun a38 => if kK S a38 = 101 then (if ¬ (x4 < 0 ∨ kN S a38 ≤ x4.toNatClampNeg) then (if (kI S a38 x4.toNatClampNeg) = p4 then (j21 ()) else (j29 ())) else none) else none) else (j29 ())) else none) else none) else (j29 ())) else none) else none) else (j21 ()))) else none) else none) else none
set_option maxRecDepth 100000 in
def f_X10_isIgnored (S : PS) (a0 : Nat) (p1 : Int32) (p2 : Int32) (p3 : Int32) (p4 : Int32) : Option (Int32) := lt (p1 * 20) fun x1 => lt (fun (x5 : Int32) => if x5 = 0 ∨ x5 = 1 then (some x5) else none) fun k6 => (iter (fun (v : Int32 × Int32) => f_X10_isIgnored_b9 a0 p1 p2 p3 p4 S v.1 v.2) kF (0, x1)).bind (fun (v : Int32) => k6 v)
abbrev rmX10_isIgnored : Room := { frames := 0, cells := 0, slots := 0, locals := 0 }
set_option maxHeartbeats 4000000 in
set_option maxRecDepth 100000 in
theorem c_X10_isIgnored (l : Launch) (D : va_G × Nat) (S : PS) (a0 : Nat) (p1 : Int32) (p2 : Int32) (p3 : Int32) (p4 : Int32) (r : Int32) (hf : f_X10_isIgnored S a0 p1 p2 p3 p4 = some r) : MI l D yX10_isIgnored wsX10_isIgnored rmX10_isIgnored S [.ref a0, .int p1, .int p2, .int p3, .int p4] S r 0 0 := by
  unfold f_X10_isIgnored at hf
  refine Met.ofW (cc := cX10_isIgnored) (maxL := 7) (ret := (some .boolean)) (by decide) rfl ?_
  intro p e s m args below meth c s₁ B hml hv
  obtain ⟨rfl, hH0, hNE⟩ := hv
  have hx := B.exec
  have hb := B.bytes
  have hr := B.returns
  have hts := atoms_spec (ws := wsX10_isIgnored) B.pre
  have hown : s.vm.findClass RX10 = some m.cls := findClass_of_methodNamed B.named
  have hlocks := B.notSynchronized
  have hH : HI D S S s s.heap [] := HI.start hH0
  have hl := lv_entry ([.ref a0, .int p1, .int p2, .int p3, .int p4]) (n := 7) (Nat.le_of_ble_eq_true rfl)
  rw [lg_entry_eq]
  generalize (lg_sl ([.ref a0, .int p1, .int p2, .int p3, .int p4]) ++ List.replicate (7 - (lg_sl ([.ref a0, .int p1, .int p2, .int p3, .int p4])).length) Slot.unset).toArray = ls at hl ⊢
  have hl : lv_has ls 7 [(0, .ref a0), (1, .int p1), (2, .int p2), (3, .int p3), (4, .int p4)] := hl
  refine lv_iconst (v := 0) hx hb dX10_isIgnored_0 (by decide) ?_
  refine lv_istore (lv' := [(5, .int 0), (0, .ref a0), (1, .int p1), (2, .int p2), (3, .int p3), (4, .int p4)]) hx hb dX10_isIgnored_1 hl (by decide) rfl (fun ls hl => ?_)
  refine lv_iload_n hx hb dX10_isIgnored_3 rfl (lv_at hl 2 rfl) ?_
  refine lv_bipush (v := 20) hx hb dX10_isIgnored_4 (by decide) ?_
  refine lv_imul hx hb dX10_isIgnored_6 ?_
  obtain ⟨x1, e2, hf⟩ := ol hf
  refine lv_topE e2 ?_
  refine lv_istore (lv' := [(6, .int x1), (5, .int 0), (0, .ref a0), (1, .int p1), (2, .int p2), (3, .int p3), (4, .int p4)]) hx hb dX10_isIgnored_7 hl (by decide) rfl (fun ls hl => ?_)
  obtain ⟨k6, e7, hf⟩ := ol hf
  have Xk6 : ∀ (x5 : Int32) (H : Heap) (locs : List Loc) (ls : Array Slot), HI D S S s H locs → lv_has ls 7 [(5, .int x5)] → k6 x5 = some r → GI p l e (headSpec wsX10_isIgnored rmX10_isIgnored).room s m ([.ref a0, .int p1, .int p2, .int p3, .int p4] : List Value).toArray below meth c D S S r H locs 0 0 0 0 (F0 m 77 ls []) := by
    intro x5 H locs ls hH hl hf
    rw [← e7] at hf
    refine lv_iload hx hb dX10_isIgnored_77 (lv_at hl 0 rfl) ?_
    obtain ⟨en8, hf⟩ := oc hf
    have hr9 := Option.some.inj hf
    subst hr9
    exact e_z hx hb hr hlocks (nar_Z9 en8) hH dX10_isIgnored_79
  obtain ⟨o9, eo9, hq9f⟩ := ob hf
  have Lo9 : ∀ (n : Nat) (x3 : Int32) (x4 : Int32), iter (fun (v : Int32 × Int32) => f_X10_isIgnored_b9 a0 p1 p2 p3 p4 S v.1 v.2) n (x3, x4) = some o9 → ∀ (H : Heap) (locs : List Loc) (ls : Array Slot), HI D S S s H locs → lv_has ls 7 [(0, .ref a0), (1, .int p1), (2, .int p2), (3, .int p3), (4, .int p4), (5, .int x3), (6, .int x4)] → GI p l e (headSpec wsX10_isIgnored rmX10_isIgnored).room s m ([.ref a0, .int p1, .int p2, .int p3, .int p4] : List Value).toArray below meth c D S S r H locs 0 0 0 0 (F0 m 9 ls []) := by
    intro n
    induction n with
    | zero => intro x3 x4 hi; cases hi
    | succ n ih9 =>
      intro x3 x4 hi H locs ls hH hl
      obtain ⟨q9_, hf, hq9⟩ := iter_s hi
      have hf : f_X10_isIgnored_b9 a0 p1 p2 p3 p4 S x3 x4 = some q9_ := hf
      unfold f_X10_isIgnored_b9 at hf
      refine lv_iload hx hb dX10_isIgnored_9 (lv_at hl 6 rfl) ?_
      refine lv_iload_n hx hb dX10_isIgnored_11 rfl (lv_at hl 1 rfl) ?_
      refine lv_bipush (v := 20) hx hb dX10_isIgnored_12 (by decide) ?_
      refine lv_imul hx hb dX10_isIgnored_14 ?_
      refine lv_aload_n hx hb dX10_isIgnored_15 rfl (lv_at hl 0 rfl) ?_
      obtain ⟨ek10, hf⟩ := oc hf
      obtain ⟨a11, e12, hf⟩ := ob hf
      refine r_getQ hx hb 13 hts (fun w h => List.mem_cons_of_mem _ (mwsX100 w h)) hown hH ek10 (by decide) rfl 26 (by decide) rfl (hts (.fieldLink RX10 75 "HousestyleModel" "ignored" "[I") (List.mem_cons_of_mem _ gw_30_10)) (fun _ h9 => h9) dX10_isIgnored_16 e12 ?_
      refine lv_iload_n hx hb dX10_isIgnored_19 rfl (lv_at hl 1 rfl) ?_
      obtain ⟨ek13, hf⟩ := oc hf
      obtain ⟨ei14, hf⟩ := oc hf
      refine r_iald hx hb hH ek13 ei14 dX10_isIgnored_20 ?_
      refine lv_iadd hx hb dX10_isIgnored_21 ?_
      refine lv_icmp_ge (tgt := 77) hx hb dX10_isIgnored_22 (by decide) (fun c15 => ?_) (fun c15 => ?_)
      · have hf := ip hf c15
        cases hf
        have hf9 := itR (K := (fun (v : Int32) => k6 v)) hq9 hq9f
        exact Xk6 x3 _ _ ls hH (lv_sub hl [5] rfl) hf9
      · have hf := iq hf c15
        refine lv_iload hx hb dX10_isIgnored_25 (lv_at hl 5 rfl) ?_
        obtain ⟨j17, e20, hf⟩ := ol hf
        have Jj17 : ∀ (x16 : Int32) (H : Heap) (locs : List Loc) (ls : Array Slot), HI D S S s H locs → lv_has ls 7 [(0, .ref a0), (1, .int p1), (2, .int p2), (3, .int p3), (4, .int p4), (6, .int x4)] → j17 x16 = some q9_ → GI p l e (headSpec wsX10_isIgnored rmX10_isIgnored).room s m ([.ref a0, .int p1, .int p2, .int p3, .int p4] : List Value).toArray below meth c D S S r H locs 0 0 0 0 (F0 m 69 ls [.int x16]) := by
          intro x16 H locs ls hH hl hf
          rw [← e20] at hf
          refine lv_istore (lv' := [(5, .int x16), (0, .ref a0), (1, .int p1), (2, .int p2), (3, .int p3), (4, .int p4), (6, .int x4)]) hx hb dX10_isIgnored_69 hl (by decide) rfl (fun ls hl => ?_)
          obtain ⟨x18, e19, hf⟩ := ol hf
          refine lv_iinc (v := x18) (lv' := [(6, .int x18), (5, .int x16), (0, .ref a0), (1, .int p1), (2, .int p2), (3, .int p3), (4, .int p4)]) hx hb dX10_isIgnored_71 hl (k := 6) rfl (by rw [← e19]; rfl) (by decide) rfl (fun ls hl => ?_)
          refine lv_goto (tgt := 9) hx hb dX10_isIgnored_74 (by decide) ?_
          cases hf
          exact ih9 x16 x18 hq9 _ _ ls hH (lv_sub hl [2, 3, 4, 5, 6, 1, 0] rfl)
        obtain ⟨j21, e23, hf⟩ := ol hf
        have Jj21 : ∀ (u22 : Unit) (H : Heap) (locs : List Loc) (ls : Array Slot), HI D S S s H locs → lv_has ls 7 [(0, .ref a0), (1, .int p1), (2, .int p2), (3, .int p3), (4, .int p4), (6, .int x4)] → j21 u22 = some q9_ → GI p l e (headSpec wsX10_isIgnored rmX10_isIgnored).room s m ([.ref a0, .int p1, .int p2, .int p3, .int p4] : List Value).toArray below meth c D S S r H locs 0 0 0 0 (F0 m 64 ls []) := by
          intro u22 H locs ls hH hl hf
          rw [← e23] at hf
          refine lv_iconst (v := 1) hx hb dX10_isIgnored_64 (by decide) ?_
          refine lv_goto (tgt := 69) hx hb dX10_isIgnored_65 (by decide) ?_
          exact Jj17 1 _ _ ls hH (lv_sub hl [0, 1, 2, 3, 4, 5] rfl) hf
        refine lv_if_ne (tgt := 64) hx hb dX10_isIgnored_27 (by decide) (fun c24 => ?_) (fun c24 => ?_)
        · have hf := iq hf c24
          exact Jj21 () _ _ ls hH (lv_sub hl [0, 1, 2, 3, 4, 6] rfl) hf
        · have hf := ip hf c24
          refine lv_aload_n hx hb dX10_isIgnored_30 rfl (lv_at hl 0 rfl) ?_
          obtain ⟨a25, e26, hf⟩ := ob hf
          refine r_getQ hx hb 13 hts (fun w h => List.mem_cons_of_mem _ (mwsX100 w h)) hown hH ek10 (by decide) rfl 27 (by decide) rfl (hts (.fieldLink RX10 78 "HousestyleModel" "ignoredRules" "[I") (List.mem_cons_of_mem _ gw_30_11)) (fun _ h9 => h9) dX10_isIgnored_31 e26 ?_
          refine lv_iload hx hb dX10_isIgnored_34 (lv_at hl 6 rfl) ?_
          obtain ⟨ek27, hf⟩ := oc hf
          obtain ⟨ei28, hf⟩ := oc hf
          refine r_iald hx hb hH ek27 ei28 dX10_isIgnored_36 ?_
          refine lv_iload_n hx hb dX10_isIgnored_37 rfl (lv_at hl 2 rfl) ?_
          obtain ⟨j29, e31, hf⟩ := ol hf
          have Jj29 : ∀ (u30 : Unit) (H : Heap) (locs : List Loc) (ls : Array Slot), HI D S S s H locs → lv_has ls 7 [(0, .ref a0), (1, .int p1), (2, .int p2), (3, .int p3), (4, .int p4), (6, .int x4)] → j29 u30 = some q9_ → GI p l e (headSpec wsX10_isIgnored rmX10_isIgnored).room s m ([.ref a0, .int p1, .int p2, .int p3, .int p4] : List Value).toArray below meth c D S S r H locs 0 0 0 0 (F0 m 68 ls []) := by
            intro u30 H locs ls hH hl hf
            rw [← e31] at hf
            refine lv_iconst (v := 0) hx hb dX10_isIgnored_68 (by decide) ?_
            exact Jj17 0 _ _ ls hH (lv_sub hl [0, 1, 2, 3, 4, 5] rfl) hf
          refine lv_icmp_ne (tgt := 68) hx hb dX10_isIgnored_38 (by decide) (fun c32 => ?_) (fun c32 => ?_)
          · have hf := iq hf c32
            exact Jj29 () _ _ ls hH (lv_sub hl [0, 1, 2, 3, 4, 6] rfl) hf
          · have hf := ip hf c32
            refine lv_aload_n hx hb dX10_isIgnored_41 rfl (lv_at hl 0 rfl) ?_
            obtain ⟨a33, e34, hf⟩ := ob hf
            refine r_getQ hx hb 13 hts (fun w h => List.mem_cons_of_mem _ (mwsX100 w h)) hown hH ek10 (by decide) rfl 28 (by decide) rfl (hts (.fieldLink RX10 81 "HousestyleModel" "ignoredFrom" "[I") (List.mem_cons_of_mem _ gw_30_12)) (fun _ h9 => h9) dX10_isIgnored_42 e34 ?_
            refine lv_iload hx hb dX10_isIgnored_45 (lv_at hl 6 rfl) ?_
            obtain ⟨ek35, hf⟩ := oc hf
            obtain ⟨ei36, hf⟩ := oc hf
            refine r_iald hx hb hH ek35 ei36 dX10_isIgnored_47 ?_
            refine lv_iload_n hx hb dX10_isIgnored_48 rfl (lv_at hl 3 rfl) ?_
            refine lv_icmp_ne (tgt := 68) hx hb dX10_isIgnored_49 (by decide) (fun c37 => ?_) (fun c37 => ?_)
            · have hf := iq hf c37
              exact Jj29 () _ _ ls hH (lv_sub hl [0, 1, 2, 3, 4, 6] rfl) hf
            · have hf := ip hf c37
              refine lv_aload_n hx hb dX10_isIgnored_52 rfl (lv_at hl 0 rfl) ?_
              obtain ⟨a38, e39, hf⟩ := ob hf
              refine r_getQ hx hb 13 hts (fun w h => List.mem_cons_of_mem _ (mwsX100 w h)) hown hH ek10 (by decide) rfl 29 (by decide) rfl (hts (.fieldLink RX10 84 "HousestyleModel" "ignoredTo" "[I") (List.mem_cons_of_mem _ gw_30_13)) (fun _ h9 => h9) dX10_isIgnored_53 e39 ?_
              refine lv_iload hx hb dX10_isIgnored_56 (lv_at hl 6 rfl) ?_
              obtain ⟨ek40, hf⟩ := oc hf
              obtain ⟨ei41, hf⟩ := oc hf
              refine r_iald hx hb hH ek40 ei41 dX10_isIgnored_58 ?_
              refine lv_iload hx hb dX10_isIgnored_59 (lv_at hl 4 rfl) ?_
              refine lv_icmp_ne (tgt := 68) hx hb dX10_isIgnored_61 (by decide) (fun c42 => ?_) (fun c42 => ?_)
              · have hf := iq hf c42
                exact Jj29 () _ _ ls hH (lv_sub hl [0, 1, 2, 3, 4, 6] rfl) hf
              · have hf := ip hf c42
                exact Jj21 () _ _ ls hH (lv_sub hl [0, 1, 2, 3, 4, 6] rfl) hf
  exact Lo9 kF 0 x1 eo9 _ _ ls hH (lv_sub hl [2, 3, 4, 5, 6, 1, 0] rfl)
