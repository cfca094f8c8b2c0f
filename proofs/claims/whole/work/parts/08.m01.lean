set_option maxRecDepth 100000 in
def f_X10_takesOut_b110 (a0 : Nat) (r4 : Int32) (x27 : Int32) (x47 : Int32) (S48 : PS) : Option ((Int32 × PS) ⊕ ((PS))) := if (r4 - 1) ≤ x47 then (some (.inr S48)) else (if kK S48 a0 = 14 then ((kQ S48 a0 30).bind fun a62 => if kK S48 a62 = 103 then (if ¬ (((x27 + x47) + 1) < 0 ∨ kN S48 a62 ≤ ((x27 + x47) + 1).toNatClampNeg) then (if ¬ ((x27 + x47) < 0 ∨ kN S48 a62 ≤ (x27 + x47).toNatClampNeg) then (lt (wI S48 a62 (x27 + x47).toNatClampNeg (vp_nar .boolean (kI S48 a62 ((x27 + x47) + 1).toNatClampNeg))) fun S67 => lt (x47 + 1) fun x69 => some (.inl (x69, S67))) else none) else none) else none) else none)
set_option maxRecDepth 100000 in
def f_X10_takesOut_b84 (a0 : Nat) (p1 : Int32) (r2 : Int32) (r4 : Int32) (x10 : Int32) (x20 : Int32) (S21 : PS) : Option ((Int32 × PS) ⊕ ((PS))) := if (4 : Int32) ≤ x20 then (some (.inr S21)) else (lt (x20 * 161) fun x27 => lt (fun (S29 : PS) => if kK S29 a0 = 14 then ((kQ S29 a0 30).bind fun a32 => if kK S29 a32 = 103 then (if ¬ ((x27 + r2) < 0 ∨ kN S29 a32 ≤ (x27 + r2).toNatClampNeg) then (lt (wI S29 a32 (x27 + r2).toNatClampNeg (vp_nar .boolean 1)) fun S36 => if kK S36 a0 = 14 then ((f_X10_follows S36 a0 x20 p1 (-1)).bind fun r39 => lt (x20 + 1) fun x41 => some (.inl (x41, r39))) else none) else none) else none) else none) fun j30 => if x10 = (47 : Int32) then (lt (r2 + 1) fun x45 => lt (fun (S49 : PS) => if kK S49 a0 = 14 then ((kQ S49 a0 30).bind fun a53 => if kK S49 a53 = 103 then (if ¬ (((x27 + r4) - 1) < 0 ∨ kN S49 a53 ≤ ((x27 + r4) - 1).toNatClampNeg) then (lt (wI S49 a53 ((x27 + r4) - 1).toNatClampNeg (vp_nar .boolean 0)) fun S57 => j30 S57) else none) else none) else none) fun k50 => (iter (fun (v : Int32 × PS) => f_X10_takesOut_b110 a0 r4 x27 v.1 v.2) kF (x45, S21)).bind (fun (v : PS) => k50 v)) else (j30 S21))
set_option maxRecDepth 100000 in
def f_X10_takesOut_b22 (a0 : Nat) (x12 : Int32) (S13 : PS) : Option ((Int32 × PS) ⊕ ((PS))) := if kK S13 a0 = 14 then (if ((kI S13 a0 3) - 1) ≤ x12 then (some (.inr S13)) else ((kQ S13 a0 1).bind fun a74 => if kK S13 a74 = 102 then (if ¬ ((x12 + 1) < 0 ∨ kN S13 a74 ≤ (x12 + 1).toNatClampNeg) then (if ¬ (x12 < 0 ∨ kN S13 a74 ≤ x12.toNatClampNeg) then (lt (wI S13 a74 x12.toNatClampNeg (vp_nar .char (kI S13 a74 (x12 + 1).toNatClampNeg))) fun S79 => if kK S79 a0 = 14 then ((kQ S79 a0 2).bind fun a82 => if kK S79 a82 = 101 then (if ¬ ((x12 + 1) < 0 ∨ kN S79 a82 ≤ (x12 + 1).toNatClampNeg) then (if ¬ (x12 < 0 ∨ kN S79 a82 ≤ x12.toNatClampNeg) then (lt (wI S79 a82 x12.toNatClampNeg (kI S79 a82 (x12 + 1).toNatClampNeg)) fun S87 => lt (x12 + 1) fun x89 => some (.inl (x89, S87))) else none) else none) else none) else none) else none) else none) else none)) else none
set_option maxRecDepth 100000 in
def f_X10_takesOut (S : PS) (a0 : Nat) (p1 : Int32) : Option (PS) := if kK S a0 = 14 then ((f_X10_endsAhead S a0 p1).bind fun r2 => (f_X10_paragraphsNow S a0).bind fun r4 => (kQ S a0 1).bind fun a6 => if kK S a6 = 102 then (if ¬ (p1 < 0 ∨ kN S a6 ≤ p1.toNatClampNeg) then (lt (kI S a6 p1.toNatClampNeg) fun x10 => lt (fun (S14 : PS) => if kK S14 a0 = 14 then (lt (wI S14 a0 3 ((kI S14 a0 3) - 1)) fun S18 => lt (fun (S22 : PS) => some S22) fun k23 => (iter (fun (v : Int32 × PS) => f_X10_takesOut_b84 a0 p1 r2 r4 x10 v.1 v.2) kF (0, S18)).bind (fun (v : PS) => k23 v)) else none) fun k15 => (iter (fun (v : Int32 × PS) => f_X10_takesOut_b22 a0 v.1 v.2) kF (p1, S)).bind (fun (v : PS) => k15 v)) else none) else none) else none
abbrev rmX10_takesOut : Room := { frames := 2, cells := 0, slots := 0, locals := 43 }
set_option maxHeartbeats 4000000 in
set_option maxRecDepth 100000 in
theorem c_X10_takesOut (l : Launch) (D : va_G × Nat) (S : PS) (a0 : Nat) (p1 : Int32) (r : PS) (hf : f_X10_takesOut S a0 p1 = some r) : MV l D yX10_takesOut wsX10_takesOut rmX10_takesOut S [.ref a0, .int p1] r 0 0 := by
  unfold f_X10_takesOut at hf
  refine Met.ofW (cc := cX10_takesOut) (maxL := 8) (ret := none) (by decide) rfl ?_
  intro p e s m args below meth c s₁ B hml hv
  obtain ⟨rfl, hH0, hNE⟩ := hv
  have hx := B.exec
  have hb := B.bytes
  have hr := B.returns
  have hts := atoms_spec (ws := wsX10_takesOut) B.pre
  have hown : s.vm.findClass RX10 = some m.cls := findClass_of_methodNamed B.named
  have hlocks := B.notSynchronized
  have hH : HI D S S s s.heap [] := HI.start hH0
  have hl := lv_entry ([.ref a0, .int p1]) (n := 8) (Nat.le_of_ble_eq_true rfl)
  rw [lg_entry_eq]
  generalize (lg_sl ([.ref a0, .int p1]) ++ List.replicate (8 - (lg_sl ([.ref a0, .int p1])).length) Slot.unset).toArray = ls at hl ⊢
  have hl : lv_has ls 8 [(0, .ref a0), (1, .int p1)] := hl
  refine lv_aload_n hx hb dX10_takesOut_0 rfl (lv_at hl 0 rfl) ?_
  refine lv_iload_n hx hb dX10_takesOut_1 rfl (lv_at hl 1 rfl) ?_
  obtain ⟨ek1, hf⟩ := oc hf
  obtain ⟨r2, e3, hf⟩ := ob hf
  refine r_callVi (As := [.int p1]) ⟨hx, hb, hml, hown, hts⟩ (c_X10_endsAhead l D S a0 p1 r2 e3) (cwV 1 hts (gwV gw_32_3 gw_32_4 gw_32_5 gw_31_10 gw_32_0) rfl rfl rfl (by decide +kernel) ⟨Nat.le_of_ble_eq_true rfl, Nat.le_of_ble_eq_true rfl⟩) hH hNE 13 ek1 (by decide) rfl rfl rfl hl.1 rfl (Nat.le_of_ble_eq_true rfl) dX10_takesOut_2 ⟨(Nat.le_of_ble_eq_true rfl), (Nat.le_of_ble_eq_true rfl)⟩ (fun H locs hH => ?_)
  refine lv_istore_n (lv' := [(2, .int r2), (0, .ref a0), (1, .int p1)]) hx hb dX10_takesOut_5 rfl hl (by decide) rfl (fun ls hl => ?_)
  refine lv_aload_n hx hb dX10_takesOut_6 rfl (lv_at hl 1 rfl) ?_
  obtain ⟨r4, e5, hf⟩ := ob hf
  refine r_callVi (As := []) ⟨hx, hb, hml, hown, hts⟩ (c_X10_paragraphsNow l D S a0 r4 e5) (cwV 0 hts (gwV gw_32_7 gw_32_8 gw_32_9 gw_31_10 gw_32_1) rfl rfl rfl (by decide +kernel) ⟨Nat.le_of_ble_eq_true rfl, Nat.le_of_ble_eq_true rfl⟩) hH hNE 13 ek1 (by decide) rfl rfl rfl hl.1 rfl (Nat.le_of_ble_eq_true rfl) dX10_takesOut_7 ⟨(Nat.le_of_ble_eq_true rfl), (Nat.le_of_ble_eq_true rfl)⟩ (fun H locs hH => ?_)
  refine lv_istore_n (lv' := [(3, .int r4), (2, .int r2), (0, .ref a0), (1, .int p1)]) hx hb dX10_takesOut_10 rfl hl (by decide) rfl (fun ls hl => ?_)
  refine lv_aload_n hx hb dX10_takesOut_11 rfl (lv_at hl 2 rfl) ?_
  obtain ⟨a6, e7, hf⟩ := ob hf
  refine r_getQ hx hb 13 hts (fun w h => List.mem_cons_of_mem _ (mwsX100 w h)) hown hH ek1 (by decide) rfl 1 (by decide) rfl (hts (.fieldLink RX10 7 "HousestyleModel" "text" "[C") (List.mem_cons_of_mem _ gw_29_12)) (fun _ h9 => h9) dX10_takesOut_12 e7 ?_
  refine lv_iload_n hx hb dX10_takesOut_15 rfl (lv_at hl 3 rfl) ?_
  obtain ⟨ek8, hf⟩ := oc hf
  obtain ⟨ei9, hf⟩ := oc hf
  refine r_cald hx hb hH ek8 ei9 dX10_takesOut_16 ?_
  obtain ⟨x10, e11, hf⟩ := ol hf
  refine lv_topE e11 ?_
  refine lv_istore (lv' := [(4, .int x10), (3, .int r4), (2, .int r2), (0, .ref a0), (1, .int p1)]) hx hb dX10_takesOut_17 hl (by decide) rfl (fun ls hl => ?_)
  refine lv_iload_n hx hb dX10_takesOut_19 rfl (lv_at hl 4 rfl) ?_
  refine lv_istore (lv' := [(5, .int p1), (4, .int x10), (3, .int r4), (2, .int r2), (0, .ref a0), (1, .int p1)]) hx hb dX10_takesOut_20 hl (by decide) rfl (fun ls hl => ?_)
  obtain ⟨k15, e16, hf⟩ := ol hf
  have Xk15 : ∀ (S14 : PS) (H : Heap) (locs : List Loc) (ls : Array Slot), HI D S S14 s H locs → lv_has ls 8 [(0, .ref a0), (1, .int p1), (2, .int r2), (3, .int r4), (4, .int x10)] → k15 S14 = some r → GV p l e (headSpec wsX10_takesOut rmX10_takesOut).room s m ([.ref a0, .int p1] : List Value).toArray below meth c D S r H locs 0 0 0 0 (F0 m 71 ls []) := by
    intro S14 H locs ls hH hl hf
    rw [← e16] at hf
    refine lv_aload_n hx hb dX10_takesOut_71 rfl (lv_at hl 0 rfl) ?_
    refine lv_dup hx hb dX10_takesOut_72 rfl ?_
    obtain ⟨ek17, hf⟩ := oc hf
    refine r_getI hx hb 13 hts (fun w h => List.mem_cons_of_mem _ (mwsX100 w h)) hown hH ek17 (by decide) rfl 3 (by decide) rfl (hts (.fieldLink RX10 156 "HousestyleModel" "length" "I") (List.mem_cons_of_mem _ gw_32_2)) (fun _ h9 => h9) dX10_takesOut_73 ?_
    refine lv_iconst (v := 1) hx hb dX10_takesOut_76 (by decide) ?_
    refine lv_isub hx hb dX10_takesOut_77 ?_
    refine r_putI hx hb 13 hts (fun w h => List.mem_cons_of_mem _ (mwsX100 w h)) tyX10 tyX10_ok nmX10 hown hH ek17 (by decide) rfl 3 (by decide) rfl (hts (.fieldLink RX10 156 "HousestyleModel" "length" "I") (List.mem_cons_of_mem _ gw_32_2)) (fun _ h9 => h9) (Or.inl rfl) (ty := .int) (by decide +kernel) rfl rfl dX10_takesOut_78 (fun H locs hH => ?_)
    obtain ⟨S18, e19, hf⟩ := ol hf
    rw [e19] at hH
    refine lv_iconst (v := 0) hx hb dX10_takesOut_81 (by decide) ?_
    refine lv_istore (lv' := [(5, .int 0), (0, .ref a0), (1, .int p1), (2, .int r2), (3, .int r4), (4, .int x10)]) hx hb dX10_takesOut_82 hl (by decide) rfl (fun ls hl => ?_)
    obtain ⟨k23, e24, hf⟩ := ol hf
    have Xk23 : ∀ (S22 : PS) (H : Heap) (locs : List Loc) (ls : Array Slot), HI D S S22 s H locs → lv_has ls 8 [] → k23 S22 = some r → GV p l e (headSpec wsX10_takesOut rmX10_takesOut).room s m ([.ref a0, .int p1] : List Value).toArray below meth c D S r H locs 0 0 0 0 (F0 m 182 ls []) := by
      intro S22 H locs ls hH hl hf
      rw [← e24] at hf
      have hr9 := Option.some.inj hf
      subst hr9
      exact e_v hx hb hr hlocks hH dX10_takesOut_182
    obtain ⟨o25, eo25, hq25f⟩ := ob hf
    have Lo25 : ∀ (n : Nat) (x20 : Int32) (S21 : PS), iter (fun (v : Int32 × PS) => f_X10_takesOut_b84 a0 p1 r2 r4 x10 v.1 v.2) n (x20, S21) = some o25 → ∀ (H : Heap) (locs : List Loc) (ls : Array Slot), HI D S S21 s H locs → lv_has ls 8 [(0, .ref a0), (1, .int p1), (2, .int r2), (3, .int r4), (4, .int x10), (5, .int x20)] → GV p l e (headSpec wsX10_takesOut rmX10_takesOut).room s m ([.ref a0, .int p1] : List Value).toArray below meth c D S r H locs 0 0 0 0 (F0 m 84 ls []) := by
      intro n
      induction n with
      | zero => intro x20 S21 hi; cases hi
      | succ n ih25 =>
        intro x20 S21 hi H locs ls hH hl
        obtain ⟨q25_, hf, hq25⟩ := iter_s hi
        have hf : f_X10_takesOut_b84 a0 p1 r2 r4 x10 x20 S21 = some q25_ := hf
        unfold f_X10_takesOut_b84 at hf
        refine lv_iload hx hb dX10_takesOut_84 (lv_at hl 5 rfl) ?_
        refine lv_iconst (v := 4) hx hb dX10_takesOut_86 (by decide) ?_
        refine lv_icmp_ge (tgt := 182) hx hb dX10_takesOut_87 (by decide) (fun c26 => ?_) (fun c26 => ?_)
        · have hf := ip hf c26
          cases hf
          have hf9 := itR (K := (fun (v : PS) => k23 v)) hq25 hq25f
          exact Xk23 S21 _ _ ls hH (lv_sub hl [] rfl) hf9
        · have hf := iq hf c26
          refine lv_iload hx hb dX10_takesOut_90 (lv_at hl 5 rfl) ?_
          refine lv_sipush (v := 161) hx hb dX10_takesOut_92 (by decide) ?_
          refine lv_imul hx hb dX10_takesOut_95 ?_
          obtain ⟨x27, e28, hf⟩ := ol hf
          refine lv_topE e28 ?_
          refine lv_istore (lv' := [(6, .int x27), (0, .ref a0), (1, .int p1), (2, .int r2), (3, .int r4), (4, .int x10), (5, .int x20)]) hx hb dX10_takesOut_96 hl (by decide) rfl (fun ls hl => ?_)
          refine lv_iload hx hb dX10_takesOut_98 (lv_at hl 5 rfl) ?_
          refine lv_bipush (v := 47) hx hb dX10_takesOut_100 (by decide) ?_
          obtain ⟨j30, e43, hf⟩ := ol hf
          have Jj30 : ∀ (S29 : PS) (H : Heap) (locs : List Loc) (ls : Array Slot), HI D S S29 s H locs → lv_has ls 8 [(0, .ref a0), (1, .int p1), (2, .int r2), (3, .int r4), (4, .int x10), (5, .int x20), (6, .int x27)] → j30 S29 = some q25_ → GV p l e (headSpec wsX10_takesOut rmX10_takesOut).room s m ([.ref a0, .int p1] : List Value).toArray below meth c D S r H locs 0 0 0 0 (F0 m 158 ls []) := by
            intro S29 H locs ls hH hl hf
            rw [← e43] at hf
            refine lv_aload_n hx hb dX10_takesOut_158 rfl (lv_at hl 0 rfl) ?_
            obtain ⟨ek31, hf⟩ := oc hf
            obtain ⟨a32, e33, hf⟩ := ob hf
            refine r_getQ hx hb 13 hts (fun w h => List.mem_cons_of_mem _ (mwsX100 w h)) hown hH ek31 (by decide) rfl 30 (by decide) rfl (hts (.fieldLink RX10 87 "HousestyleModel" "hasChanged" "[Z") (List.mem_cons_of_mem _ gw_30_14)) (fun _ h9 => h9) dX10_takesOut_159 e33 ?_
            refine lv_iload hx hb dX10_takesOut_162 (lv_at hl 6 rfl) ?_
            refine lv_iload_n hx hb dX10_takesOut_164 rfl (lv_at hl 2 rfl) ?_
            refine lv_iadd hx hb dX10_takesOut_165 ?_
            refine lv_iconst (v := 1) hx hb dX10_takesOut_166 (by decide) ?_
            obtain ⟨ek34, hf⟩ := oc hf
            obtain ⟨ei35, hf⟩ := oc hf
            refine r_zast hx hb hH ek34 ei35 dX10_takesOut_167 (fun H locs hH => ?_)
            obtain ⟨S36, e37, hf⟩ := ol hf
            rw [e37] at hH
            refine lv_aload_n hx hb dX10_takesOut_168 rfl (lv_at hl 0 rfl) ?_
            refine lv_iload hx hb dX10_takesOut_169 (lv_at hl 5 rfl) ?_
            refine lv_iload_n hx hb dX10_takesOut_171 rfl (lv_at hl 1 rfl) ?_
            refine lv_iconst (v := (-1)) hx hb dX10_takesOut_172 (by decide) ?_
            obtain ⟨ek38, hf⟩ := oc hf
            obtain ⟨r39, e40, hf⟩ := ob hf
            refine r_callVv (As := [.int x20, .int p1, .int (-1)]) ⟨hx, hb, hml, hown, hts⟩ (c_X10_follows l D S36 a0 x20 p1 (-1) r39 e40) (cwV 3 hts (gwV gw_32_16 gw_32_17 gw_32_18 gw_31_10 gw_32_14) rfl rfl rfl (by decide +kernel) ⟨Nat.le_of_ble_eq_true rfl, Nat.le_of_ble_eq_true rfl⟩) hH hNE 13 ek38 (by decide) rfl rfl rfl hl.1 rfl (Nat.le_of_ble_eq_true rfl) dX10_takesOut_173 ⟨(Nat.le_of_ble_eq_true rfl), (Nat.le_of_ble_eq_true rfl)⟩ (fun H locs hH => ?_)
            obtain ⟨x41, e42, hf⟩ := ol hf
            refine lv_iinc (v := x41) (lv' := [(5, .int x41), (0, .ref a0), (1, .int p1), (2, .int r2), (3, .int r4), (4, .int x10), (6, .int x27)]) hx hb dX10_takesOut_176 hl (k := 5) rfl (by rw [← e42]; rfl) (by decide) rfl (fun ls hl => ?_)
            refine lv_goto (tgt := 84) hx hb dX10_takesOut_179 (by decide) ?_
            cases hf
            exact ih25 x41 r39 hq25 _ _ ls hH (lv_sub hl [1, 2, 3, 4, 5, 0] rfl)
          refine lv_icmp_ne (tgt := 158) hx hb dX10_takesOut_102 (by decide) (fun c44 => ?_) (fun c44 => ?_)
          · have hf := iq hf c44
            exact Jj30 S21 _ _ ls hH (lv_sub hl [1, 2, 3, 4, 5, 6, 0] rfl) hf
          · have hf := ip hf c44
            refine lv_iload_n hx hb dX10_takesOut_105 rfl (lv_at hl 3 rfl) ?_
            refine lv_iconst (v := 1) hx hb dX10_takesOut_106 (by decide) ?_
            refine lv_iadd hx hb dX10_takesOut_107 ?_
            obtain ⟨x45, e46, hf⟩ := ol hf
            refine lv_topE e46 ?_
            refine lv_istore (lv' := [(7, .int x45), (6, .int x27), (0, .ref a0), (1, .int p1), (2, .int r2), (3, .int r4), (4, .int x10), (5, .int x20)]) hx hb dX10_takesOut_108 hl (by decide) rfl (fun ls hl => ?_)
            obtain ⟨k50, e51, hf⟩ := ol hf
            have Xk50 : ∀ (S49 : PS) (H : Heap) (locs : List Loc) (ls : Array Slot), HI D S S49 s H locs → lv_has ls 8 [(0, .ref a0), (1, .int p1), (2, .int r2), (3, .int r4), (4, .int x10), (5, .int x20), (6, .int x27)] → k50 S49 = some q25_ → GV p l e (headSpec wsX10_takesOut rmX10_takesOut).room s m ([.ref a0, .int p1] : List Value).toArray below meth c D S r H locs 0 0 0 0 (F0 m 146 ls []) := by
              intro S49 H locs ls hH hl hf
              rw [← e51] at hf
              refine lv_aload_n hx hb dX10_takesOut_146 rfl (lv_at hl 0 rfl) ?_
              obtain ⟨ek52, hf⟩ := oc hf
              obtain ⟨a53, e54, hf⟩ := ob hf
              refine r_getQ hx hb 13 hts (fun w h => List.mem_cons_of_mem _ (mwsX100 w h)) hown hH ek52 (by decide) rfl 30 (by decide) rfl (hts (.fieldLink RX10 87 "HousestyleModel" "hasChanged" "[Z") (List.mem_cons_of_mem _ gw_30_14)) (fun _ h9 => h9) dX10_takesOut_147 e54 ?_
              refine lv_iload hx hb dX10_takesOut_150 (lv_at hl 6 rfl) ?_
              refine lv_iload_n hx hb dX10_takesOut_152 rfl (lv_at hl 3 rfl) ?_
              refine lv_iadd hx hb dX10_takesOut_153 ?_
              refine lv_iconst (v := 1) hx hb dX10_takesOut_154 (by decide) ?_
              refine lv_isub hx hb dX10_takesOut_155 ?_
              refine lv_iconst (v := 0) hx hb dX10_takesOut_156 (by decide) ?_
              obtain ⟨ek55, hf⟩ := oc hf
              obtain ⟨ei56, hf⟩ := oc hf
              refine r_zast hx hb hH ek55 ei56 dX10_takesOut_157 (fun H locs hH => ?_)
              obtain ⟨S57, e58, hf⟩ := ol hf
              rw [e58] at hH
              exact Jj30 S57 _ _ ls hH (lv_sub hl [0, 1, 2, 3, 4, 5, 6] rfl) hf
            obtain ⟨o59, eo59, hq59f⟩ := ob hf
            have Lo59 : ∀ (n : Nat) (x47 : Int32) (S48 : PS), iter (fun (v : Int32 × PS) => f_X10_takesOut_b110 a0 r4 x27 v.1 v.2) n (x47, S48) = some o59 → ∀ (H : Heap) (locs : List Loc) (ls : Array Slot), HI D S S48 s H locs → lv_has ls 8 [(0, .ref a0), (1, .int p1), (2, .int r2), (3, .int r4), (4, .int x10), (5, .int x20), (6, .int x27), (7, .int x47)] → GV p l e (headSpec wsX10_takesOut rmX10_takesOut).room s m ([.ref a0, .int p1] : List Value).toArray below meth c D S r H locs 0 0 0 0 (F0 m 110 ls []) := by
              intro n
              induction n with
              | zero => intro x47 S48 hi; cases hi
              | succ n ih59 =>
                intro x47 S48 hi H locs ls hH hl
                obtain ⟨q59_, hf, hq59⟩ := iter_s hi
                have hf : f_X10_takesOut_b110 a0 r4 x27 x47 S48 = some q59_ := hf
                unfold f_X10_takesOut_b110 at hf
                refine lv_iload hx hb dX10_takesOut_110 (lv_at hl 7 rfl) ?_
                refine lv_iload_n hx hb dX10_takesOut_112 rfl (lv_at hl 3 rfl) ?_
                refine lv_iconst (v := 1) hx hb dX10_takesOut_113 (by decide) ?_
                refine lv_isub hx hb dX10_takesOut_114 ?_
                refine lv_icmp_ge (tgt := 146) hx hb dX10_takesOut_115 (by decide) (fun c60 => ?_) (fun c60 => ?_)
                · have hf := ip hf c60
                  cases hf
                  have hf9 := itR (K := (fun (v : PS) => k50 v)) hq59 hq59f
                  exact Xk50 S48 _ _ ls hH (lv_sub hl [0, 1, 2, 3, 4, 5, 6] rfl) hf9
                · have hf := iq hf c60
                  refine lv_aload_n hx hb dX10_takesOut_118 rfl (lv_at hl 0 rfl) ?_
                  obtain ⟨ek61, hf⟩ := oc hf
                  obtain ⟨a62, e63, hf⟩ := ob hf
                  refine r_getQ hx hb 13 hts (fun w h => List.mem_cons_of_mem _ (mwsX100 w h)) hown hH ek61 (by decide) rfl 30 (by decide) rfl (hts (.fieldLink RX10 87 "HousestyleModel" "hasChanged" "[Z") (List.mem_cons_of_mem _ gw_30_14)) (fun _ h9 => h9) dX10_takesOut_119 e63 ?_
                  refine lv_iload hx hb dX10_takesOut_122 (lv_at hl 6 rfl) ?_
                  refine lv_iload hx hb dX10_takesOut_124 (lv_at hl 7 rfl) ?_
                  refine lv_iadd hx hb dX10_takesOut_126 ?_
                  refine lv_aload_n hx hb dX10_takesOut_127 rfl (lv_at hl 0 rfl) ?_
                  refine r_getQ hx hb 13 hts (fun w h => List.mem_cons_of_mem _ (mwsX100 w h)) hown hH ek61 (by decide) rfl 30 (by decide) rfl (hts (.fieldLink RX10 87 "HousestyleModel" "hasChanged" "[Z") (List.mem_cons_of_mem _ gw_30_14)) (fun _ h9 => h9) dX10_takesOut_128 e63 ?_
                  refine lv_iload hx hb dX10_takesOut_131 (lv_at hl 6 rfl) ?_
                  refine lv_iload hx hb dX10_takesOut_133 (lv_at hl 7 rfl) ?_
                  refine lv_iadd hx hb dX10_takesOut_135 ?_
                  refine lv_iconst (v := 1) hx hb dX10_takesOut_136 (by decide) ?_
                  refine lv_iadd hx hb dX10_takesOut_137 ?_
                  obtain ⟨ek64, hf⟩ := oc hf
                  obtain ⟨ei65, hf⟩ := oc hf
                  refine r_zald hx hb hH ek64 ei65 dX10_takesOut_138 ?_
                  obtain ⟨ei66, hf⟩ := oc hf
                  refine r_zast hx hb hH ek64 ei66 dX10_takesOut_139 (fun H locs hH => ?_)
                  obtain ⟨S67, e68, hf⟩ := ol hf
                  rw [e68] at hH
                  obtain ⟨x69, e70, hf⟩ := ol hf
                  refine lv_iinc (v := x69) (lv' := [(7, .int x69), (0, .ref a0), (1, .int p1), (2, .int r2), (3, .int r4), (4, .int x10), (5, .int x20), (6, .int x27)]) hx hb dX10_takesOut_140 hl (k := 7) rfl (by rw [← e70]; rfl) (by decide) rfl (fun ls hl => ?_)
                  refine lv_goto (tgt := 110) hx hb dX10_takesOut_143 (by decide) ?_
                  cases hf
                  exact ih59 x69 S67 hq59 _ _ ls hH (lv_sub hl [1, 2, 3, 4, 5, 6, 7, 0] rfl)
            exact Lo59 kF x45 S21 eo59 _ _ ls hH (lv_sub hl [2, 3, 4, 5, 6, 7, 1, 0] rfl)
    exact Lo25 kF 0 S18 eo25 _ _ ls hH (lv_sub hl [1, 2, 3, 4, 5, 0] rfl)
  obtain ⟨o71, eo71, hq71f⟩ := ob hf
  have Lo71 : ∀ (n : Nat) (x12 : Int32) (S13 : PS), iter (fun (v : Int32 × PS) => f_X10_takesOut_b22 a0 v.1 v.2) n (x12, S13) = some o71 → ∀ (H : Heap) (locs : List Loc) (ls : Array Slot), HI D S S13 s H locs → lv_has ls 8 [(0, .ref a0), (1, .int p1), (2, .int r2), (3, .int r4), (4, .int x10), (5, .int x12)] → GV p l e (headSpec wsX10_takesOut rmX10_takesOut).room s m ([.ref a0, .int p1] : List Value).toArray below meth c D S r H locs 0 0 0 0 (F0 m 22 ls []) := by
    intro n
    induction n with
    | zero => intro x12 S13 hi; cases hi
    | succ n ih71 =>
      intro x12 S13 hi H locs ls hH hl
      obtain ⟨q71_, hf, hq71⟩ := iter_s hi
      have hf : f_X10_takesOut_b22 a0 x12 S13 = some q71_ := hf
      unfold f_X10_takesOut_b22 at hf
      refine lv_iload hx hb dX10_takesOut_22 (lv_at hl 5 rfl) ?_
      refine lv_aload_n hx hb dX10_takesOut_24 rfl (lv_at hl 0 rfl) ?_
      obtain ⟨ek72, hf⟩ := oc hf
      refine r_getI hx hb 13 hts (fun w h => List.mem_cons_of_mem _ (mwsX100 w h)) hown hH ek72 (by decide) rfl 3 (by decide) rfl (hts (.fieldLink RX10 156 "HousestyleModel" "length" "I") (List.mem_cons_of_mem _ gw_32_2)) (fun _ h9 => h9) dX10_takesOut_25 ?_
      refine lv_iconst (v := 1) hx hb dX10_takesOut_28 (by decide) ?_
      refine lv_isub hx hb dX10_takesOut_29 ?_
      refine lv_icmp_ge (tgt := 71) hx hb dX10_takesOut_30 (by decide) (fun c73 => ?_) (fun c73 => ?_)
      · have hf := ip hf c73
        cases hf
        have hf9 := itR (K := (fun (v : PS) => k15 v)) hq71 hq71f
        exact Xk15 S13 _ _ ls hH (lv_sub hl [0, 1, 2, 3, 4] rfl) hf9
      · have hf := iq hf c73
        refine lv_aload_n hx hb dX10_takesOut_33 rfl (lv_at hl 0 rfl) ?_
        obtain ⟨a74, e75, hf⟩ := ob hf
        refine r_getQ hx hb 13 hts (fun w h => List.mem_cons_of_mem _ (mwsX100 w h)) hown hH ek72 (by decide) rfl 1 (by decide) rfl (hts (.fieldLink RX10 7 "HousestyleModel" "text" "[C") (List.mem_cons_of_mem _ gw_29_12)) (fun _ h9 => h9) dX10_takesOut_34 e75 ?_
        refine lv_iload hx hb dX10_takesOut_37 (lv_at hl 5 rfl) ?_
        refine lv_aload_n hx hb dX10_takesOut_39 rfl (lv_at hl 0 rfl) ?_
        refine r_getQ hx hb 13 hts (fun w h => List.mem_cons_of_mem _ (mwsX100 w h)) hown hH ek72 (by decide) rfl 1 (by decide) rfl (hts (.fieldLink RX10 7 "HousestyleModel" "text" "[C") (List.mem_cons_of_mem _ gw_29_12)) (fun _ h9 => h9) dX10_takesOut_40 e75 ?_
        refine lv_iload hx hb dX10_takesOut_43 (lv_at hl 5 rfl) ?_
        refine lv_iconst (v := 1) hx hb dX10_takesOut_45 (by decide) ?_
        refine lv_iadd hx hb dX10_takesOut_46 ?_
        obtain ⟨ek76, hf⟩ := oc hf
        obtain ⟨ei77, hf⟩ := oc hf
        refine r_cald hx hb hH ek76 ei77 dX10_takesOut_47 ?_
        obtain ⟨ei78, hf⟩ := oc hf
        refine r_cast hx hb hH ek76 ei78 dX10_takesOut_48 (fun H locs hH => ?_)
        obtain ⟨S79, e80, hf⟩ := ol hf
        rw [e80] at hH
        refine lv_aload_n hx hb dX10_takesOut_49 rfl (lv_at hl 0 rfl) ?_
        obtain ⟨ek81, hf⟩ := oc hf
        obtain ⟨a82, e83, hf⟩ := ob hf
        refine r_getQ hx hb 13 hts (fun w h => List.mem_cons_of_mem _ (mwsX100 w h)) hown hH ek81 (by decide) rfl 2 (by decide) rfl (hts (.fieldLink RX10 13 "HousestyleModel" "writers" "[I") (List.mem_cons_of_mem _ gw_29_13)) (fun _ h9 => h9) dX10_takesOut_50 e83 ?_
        refine lv_iload hx hb dX10_takesOut_53 (lv_at hl 5 rfl) ?_
        refine lv_aload_n hx hb dX10_takesOut_55 rfl (lv_at hl 0 rfl) ?_
        refine r_getQ hx hb 13 hts (fun w h => List.mem_cons_of_mem _ (mwsX100 w h)) hown hH ek81 (by decide) rfl 2 (by decide) rfl (hts (.fieldLink RX10 13 "HousestyleModel" "writers" "[I") (List.mem_cons_of_mem _ gw_29_13)) (fun _ h9 => h9) dX10_takesOut_56 e83 ?_
        refine lv_iload hx hb dX10_takesOut_59 (lv_at hl 5 rfl) ?_
        refine lv_iconst (v := 1) hx hb dX10_takesOut_61 (by decide) ?_
        refine lv_iadd hx hb dX10_takesOut_62 ?_
        obtain ⟨ek84, hf⟩ := oc hf
        obtain ⟨ei85, hf⟩ := oc hf
        refine r_iald hx hb hH ek84 ei85 dX10_takesOut_63 ?_
        obtain ⟨ei86, hf⟩ := oc hf
        refine r_iast hx hb hH ek84 ei86 dX10_takesOut_64 (fun H locs hH => ?_)
        obtain ⟨S87, e88, hf⟩ := ol hf
        rw [e88] at hH
        obtain ⟨x89, e90, hf⟩ := ol hf
        refine lv_iinc (v := x89) (lv' := [(5, .int x89), (0, .ref a0), (1, .int p1), (2, .int r2), (3, .int r4), (4, .int x10)]) hx hb dX10_takesOut_65 hl (k := 5) rfl (by rw [← e90]; rfl) (by decide) rfl (fun ls hl => ?_)
        refine lv_goto (tgt := 22) hx hb dX10_takesOut_68 (by decide) ?_
        cases hf
        exact ih71 x89 S87 hq71 _ _ ls hH (lv_sub hl [1, 2, 3, 4, 5, 0] rfl)
  exact Lo71 kF p1 S eo71 _ _ ls hH (lv_sub hl [4, 5, 3, 2, 1, 0] rfl)
set_option maxRecDepth 100000 in
def f_X10_put (S : PS) (a0 : Nat) (p1 : Int32) (p2 : Int32) (p3 : Int32) : Option (PS × Int32) := if kK S a0 = 14 then ((f_X10_in S p1 0 (kI S a0 3)).bind fun r2 => lt (fun (x4 : Int32) => lt (wI S a0 0 x4) fun S6 => if kK S6 a0 = 14 then (if (kI S6 a0 0) ≤ 0 then ((f_X10_isLetter S6 p2).bind fun r10 => lt (fun (x12 : Int32) => lt (fun (x14 : Int32) => lt (wI S6 a0 0 x14) fun S16 => if kK S16 a0 = 14 then (if (kI S16 a0 0) ≤ 0 then ((f_X10_puts S16 a0 p1 p2 p3).bind fun r20 => if kK r20 a0 = 14 then (some (r20, (kI r20 a0 3))) else none) else (some (S16, 0))) else none) fun j15 => lt (fun (u25 : Unit) => j15 2) fun j24 => if x12 = 0 then (j24 ()) else ((f_X10_in S6 p3 0 3).bind fun r28 => if r28 = 0 then (j24 ()) else (if (kI S6 a0 3) = (160 : Int32) then (j15 3) else (j15 0)))) fun j13 => lt (fun (u34 : Unit) => j13 1) fun j33 => if r10 = 0 then ((f_X10_isDigit S6 p2).bind fun r37 => if r37 = 0 then (if p2 = (32 : Int32) then (j33 ()) else (if p2 = (46 : Int32) then (j33 ()) else (if p2 = (34 : Int32) then (j33 ()) else (if p2 = (47 : Int32) then (j33 ()) else (j13 0))))) else (j33 ())) else (j33 ())) else (some (S6, 0))) else none) fun j5 => if r2 = 0 then (j5 1) else (j5 0)) else none
abbrev rmX10_put : Room := { frames := 3, cells := 0, slots := 0, locals := 71 }
set_option maxHeartbeats 4000000 in
set_option maxRecDepth 100000 in
theorem c_X10_put (l : Launch) (D : va_G × Nat) (S : PS) (a0 : Nat) (p1 : Int32) (p2 : Int32) (p3 : Int32) (r : PS × Int32) (hf : f_X10_put S a0 p1 p2 p3 = some r) : MI l D yX10_put wsX10_put rmX10_put S [.ref a0, .int p1, .int p2, .int p3] r.1 r.2 0 0 := by
  unfold f_X10_put at hf
  refine Met.ofW (cc := cX10_put) (maxL := 5) (ret := (some .int)) (by decide) rfl ?_
  intro p e s m args below meth c s₁ B hml hv
  obtain ⟨rfl, hH0, hNE⟩ := hv
  have hx := B.exec
  have hb := B.bytes
  have hr := B.returns
  have hts := atoms_spec (ws := wsX10_put) B.pre
  have hown : s.vm.findClass RX10 = some m.cls := findClass_of_methodNamed B.named
  have hlocks := B.notSynchronized
  have hH : HI D S S s s.heap [] := HI.start hH0
  have hl := lv_entry ([.ref a0, .int p1, .int p2, .int p3]) (n := 5) (Nat.le_of_ble_eq_true rfl)
  rw [lg_entry_eq]
  generalize (lg_sl ([.ref a0, .int p1, .int p2, .int p3]) ++ List.replicate (5 - (lg_sl ([.ref a0, .int p1, .int p2, .int p3])).length) Slot.unset).toArray = ls at hl ⊢
  have hl : lv_has ls 5 [(0, .ref a0), (1, .int p1), (2, .int p2), (3, .int p3)] := hl
  refine lv_aload_n hx hb dX10_put_0 rfl (lv_at hl 0 rfl) ?_
  refine lv_iload_n hx hb dX10_put_1 rfl (lv_at hl 1 rfl) ?_
  refine lv_iconst (v := 0) hx hb dX10_put_2 (by decide) ?_
  refine lv_aload_n hx hb dX10_put_3 rfl (lv_at hl 0 rfl) ?_
  obtain ⟨ek1, hf⟩ := oc hf
  refine r_getI hx hb 13 hts (fun w h => List.mem_cons_of_mem _ (mwsX100 w h)) hown hH ek1 (by decide) rfl 3 (by decide) rfl (hts (.fieldLink RX10 156 "HousestyleModel" "length" "I") (List.mem_cons_of_mem _ gw_32_2)) (fun _ h9 => h9) dX10_put_4 ?_
  obtain ⟨r2, e3, hf⟩ := ob hf
  refine r_callSi (As := [.int p1, .int 0, .int (kI S a0 3)]) ⟨hx, hb, hml, hown, hts⟩ (c_X10_in l D S p1 0 (kI S a0 3) r2 e3) (va_cwS 3 hts (gwS gw_31_8 gw_31_9 gw_31_10 gw_31_4) rfl rfl rfl (by decide +kernel) ⟨Nat.le_of_ble_eq_true rfl, Nat.le_of_ble_eq_true rfl⟩) hH hNE rfl hl.1 rfl (Nat.le_of_ble_eq_true rfl) dX10_put_7 ⟨(Nat.le_of_ble_eq_true rfl), (Nat.le_of_ble_eq_true rfl)⟩ (fun H locs hH => ?_)
  obtain ⟨j5, e44, hf⟩ := ol hf
  have Jj5 : ∀ (x4 : Int32) (H : Heap) (locs : List Loc) (ls : Array Slot), HI D S S s H locs → lv_has ls 5 [(0, .ref a0), (1, .int p1), (2, .int p2), (3, .int p3)] → j5 x4 = some r → GI p l e (headSpec wsX10_put rmX10_put).room s m ([.ref a0, .int p1, .int p2, .int p3] : List Value).toArray below meth c D S r.1 r.2 H locs 0 0 0 0 (F0 m 18 ls [.int x4, .ref a0]) := by
    intro x4 H locs ls hH hl hf
    rw [← e44] at hf
    refine r_putI hx hb 13 hts (fun w h => List.mem_cons_of_mem _ (mwsX100 w h)) tyX10 tyX10_ok nmX10 hown hH ek1 (by decide) rfl 0 (by decide) rfl (hts (.fieldLink RX10 123 "HousestyleModel" "thrown" "I") (List.mem_cons_of_mem _ gw_31_3)) (fun _ h9 => h9) (Or.inl rfl) (ty := .int) (by decide +kernel) rfl rfl dX10_put_18 (fun H locs hH => ?_)
    obtain ⟨S6, e7, hf⟩ := ol hf
    rw [e7] at hH
    refine lv_aload_n hx hb dX10_put_21 rfl (lv_at hl 0 rfl) ?_
    obtain ⟨ek8, hf⟩ := oc hf
    refine r_getI hx hb 13 hts (fun w h => List.mem_cons_of_mem _ (mwsX100 w h)) hown hH ek8 (by decide) rfl 0 (by decide) rfl (hts (.fieldLink RX10 123 "HousestyleModel" "thrown" "I") (List.mem_cons_of_mem _ gw_31_3)) (fun _ h9 => h9) dX10_put_22 ?_
    refine lv_if_le (tgt := 30) hx hb dX10_put_25 (by decide) (fun c9 => ?_) (fun c9 => ?_)
    · have hf := ip hf c9
      refine lv_iload_n hx hb dX10_put_30 rfl (lv_at hl 2 rfl) ?_
      obtain ⟨r10, e11, hf⟩ := ob hf
      refine r_callSi (As := [.int p2]) ⟨hx, hb, hml, hown, hts⟩ (c_X10_isLetter l D S6 p2 r10 e11) (va_cwS 1 hts (gwS gw_31_18 gw_31_19 gw_31_10 gw_31_5) rfl rfl rfl (by decide +kernel) ⟨Nat.le_of_ble_eq_true rfl, Nat.le_of_ble_eq_true rfl⟩) hH hNE rfl hl.1 rfl (Nat.le_of_ble_eq_true rfl) dX10_put_31 ⟨(Nat.le_of_ble_eq_true rfl), (Nat.le_of_ble_eq_true rfl)⟩ (fun H locs hH => ?_)
      obtain ⟨j13, e32, hf⟩ := ol hf
      have Jj13 : ∀ (x12 : Int32) (H : Heap) (locs : List Loc) (ls : Array Slot), HI D S S6 s H locs → lv_has ls 5 [(0, .ref a0), (1, .int p1), (2, .int p2), (3, .int p3)] → j13 x12 = some r → GI p l e (headSpec wsX10_put rmX10_put).room s m ([.ref a0, .int p1, .int p2, .int p3] : List Value).toArray below meth c D S r.1 r.2 H locs 0 0 0 0 (F0 m 73 ls [.int x12]) := by
        intro x12 H locs ls hH hl hf
        rw [← e32] at hf
        refine lv_istore (lv' := [(4, .int x12), (0, .ref a0), (1, .int p1), (2, .int p2), (3, .int p3)]) hx hb dX10_put_73 hl (by decide) rfl (fun ls hl => ?_)
        refine lv_aload_n hx hb dX10_put_75 rfl (lv_at hl 1 rfl) ?_
        refine lv_iload hx hb dX10_put_76 (lv_at hl 0 rfl) ?_
        obtain ⟨j15, e23, hf⟩ := ol hf
        have Jj15 : ∀ (x14 : Int32) (H : Heap) (locs : List Loc) (ls : Array Slot), HI D S S6 s H locs → lv_has ls 5 [(0, .ref a0), (1, .int p1), (2, .int p2), (3, .int p3)] → j15 x14 = some r → GI p l e (headSpec wsX10_put rmX10_put).room s m ([.ref a0, .int p1, .int p2, .int p3] : List Value).toArray below meth c D S r.1 r.2 H locs 0 0 0 0 (F0 m 109 ls [.int x14, .ref a0]) := by
          intro x14 H locs ls hH hl hf
          rw [← e23] at hf
          refine r_putI hx hb 13 hts (fun w h => List.mem_cons_of_mem _ (mwsX100 w h)) tyX10 tyX10_ok nmX10 hown hH ek8 (by decide) rfl 0 (by decide) rfl (hts (.fieldLink RX10 123 "HousestyleModel" "thrown" "I") (List.mem_cons_of_mem _ gw_31_3)) (fun _ h9 => h9) (Or.inl rfl) (ty := .int) (by decide +kernel) rfl rfl dX10_put_109 (fun H locs hH => ?_)
          obtain ⟨S16, e17, hf⟩ := ol hf
          rw [e17] at hH
          refine lv_aload_n hx hb dX10_put_112 rfl (lv_at hl 0 rfl) ?_
          obtain ⟨ek18, hf⟩ := oc hf
          refine r_getI hx hb 13 hts (fun w h => List.mem_cons_of_mem _ (mwsX100 w h)) hown hH ek18 (by decide) rfl 0 (by decide) rfl (hts (.fieldLink RX10 123 "HousestyleModel" "thrown" "I") (List.mem_cons_of_mem _ gw_31_3)) (fun _ h9 => h9) dX10_put_113 ?_
          refine lv_if_le (tgt := 121) hx hb dX10_put_116 (by decide) (fun c19 => ?_) (fun c19 => ?_)
          · have hf := ip hf c19
            refine lv_aload_n hx hb dX10_put_121 rfl (lv_at hl 0 rfl) ?_
            refine lv_iload_n hx hb dX10_put_122 rfl (lv_at hl 1 rfl) ?_
            refine lv_iload_n hx hb dX10_put_123 rfl (lv_at hl 2 rfl) ?_
            refine lv_iload_n hx hb dX10_put_124 rfl (lv_at hl 3 rfl) ?_
            obtain ⟨r20, e21, hf⟩ := ob hf
            refine r_callVv (As := [.int p1, .int p2, .int p3]) ⟨hx, hb, hml, hown, hts⟩ (c_X10_puts l D S16 a0 p1 p2 p3 r20 e21) (cwV 3 hts (gwV gw_32_21 gw_32_22 gw_32_23 gw_31_10 gw_32_15) rfl rfl rfl (by decide +kernel) ⟨Nat.le_of_ble_eq_true rfl, Nat.le_of_ble_eq_true rfl⟩) hH hNE 13 ek18 (by decide) rfl rfl rfl hl.1 rfl (Nat.le_of_ble_eq_true rfl) dX10_put_125 ⟨(Nat.le_of_ble_eq_true rfl), (Nat.le_of_ble_eq_true rfl)⟩ (fun H locs hH => ?_)
            refine lv_aload_n hx hb dX10_put_128 rfl (lv_at hl 0 rfl) ?_
            obtain ⟨ek22, hf⟩ := oc hf
            refine r_getI hx hb 13 hts (fun w h => List.mem_cons_of_mem _ (mwsX100 w h)) hown hH ek22 (by decide) rfl 3 (by decide) rfl (hts (.fieldLink RX10 156 "HousestyleModel" "length" "I") (List.mem_cons_of_mem _ gw_32_2)) (fun _ h9 => h9) dX10_put_129 ?_
            have hr9 := Option.some.inj hf
            subst hr9
            exact e_i hx hb hr hlocks hH dX10_put_132
          · have hf := iq hf c19
            refine lv_iconst (v := 0) hx hb dX10_put_119 (by decide) ?_
            have hr9 := Option.some.inj hf
            subst hr9
            exact e_i hx hb hr hlocks hH dX10_put_120
        obtain ⟨j24, e26, hf⟩ := ol hf
        have Jj24 : ∀ (u25 : Unit) (H : Heap) (locs : List Loc) (ls : Array Slot), HI D S S6 s H locs → lv_has ls 5 [(0, .ref a0), (1, .int p1), (2, .int p2), (3, .int p3)] → j24 u25 = some r → GI p l e (headSpec wsX10_put rmX10_put).room s m ([.ref a0, .int p1, .int p2, .int p3] : List Value).toArray below meth c D S r.1 r.2 H locs 0 0 0 0 (F0 m 90 ls [.ref a0]) := by
          intro u25 H locs ls hH hl hf
          rw [← e26] at hf
          refine lv_iconst (v := 2) hx hb dX10_put_90 (by decide) ?_
          refine lv_goto (tgt := 109) hx hb dX10_put_91 (by decide) ?_
          exact Jj15 2 _ _ ls hH (lv_sub hl [0, 1, 2, 3] rfl) hf
        refine lv_if_eq (tgt := 90) hx hb dX10_put_78 (by decide) (fun c27 => ?_) (fun c27 => ?_)
        · have hf := ip hf c27
          exact Jj24 () _ _ ls hH (lv_sub hl [1, 2, 3, 4] rfl) hf
        · have hf := iq hf c27
          refine lv_iload_n hx hb dX10_put_81 rfl (lv_at hl 4 rfl) ?_
          refine lv_iconst (v := 0) hx hb dX10_put_82 (by decide) ?_
          refine lv_iconst (v := 3) hx hb dX10_put_83 (by decide) ?_
          obtain ⟨r28, e29, hf⟩ := ob hf
          refine r_callSi (As := [.int p3, .int 0, .int 3]) ⟨hx, hb, hml, hown, hts⟩ (c_X10_in l D S6 p3 0 3 r28 e29) (va_cwS 3 hts (gwS gw_31_8 gw_31_9 gw_31_10 gw_31_4) rfl rfl rfl (by decide +kernel) ⟨Nat.le_of_ble_eq_true rfl, Nat.le_of_ble_eq_true rfl⟩) hH hNE rfl hl.1 rfl (Nat.le_of_ble_eq_true rfl) dX10_put_84 ⟨(Nat.le_of_ble_eq_true rfl), (Nat.le_of_ble_eq_true rfl)⟩ (fun H locs hH => ?_)
          refine lv_if_ne (tgt := 94) hx hb dX10_put_87 (by decide) (fun c30 => ?_) (fun c30 => ?_)
          · have hf := iq hf c30
            refine lv_aload_n hx hb dX10_put_94 rfl (lv_at hl 1 rfl) ?_
            refine r_getI hx hb 13 hts (fun w h => List.mem_cons_of_mem _ (mwsX100 w h)) hown hH ek8 (by decide) rfl 3 (by decide) rfl (hts (.fieldLink RX10 156 "HousestyleModel" "length" "I") (List.mem_cons_of_mem _ gw_32_2)) (fun _ h9 => h9) dX10_put_95 ?_
            refine lv_sipush (v := 160) hx hb dX10_put_98 (by decide) ?_
            refine lv_icmp_ne (tgt := 108) hx hb dX10_put_101 (by decide) (fun c31 => ?_) (fun c31 => ?_)
            · have hf := iq hf c31
              refine lv_iconst (v := 0) hx hb dX10_put_108 (by decide) ?_
              exact Jj15 0 _ _ ls hH (lv_sub hl [1, 2, 3, 4] rfl) hf
            · have hf := ip hf c31
              refine lv_iconst (v := 3) hx hb dX10_put_104 (by decide) ?_
              refine lv_goto (tgt := 109) hx hb dX10_put_105 (by decide) ?_
              exact Jj15 3 _ _ ls hH (lv_sub hl [1, 2, 3, 4] rfl) hf
          · have hf := ip hf c30
            exact Jj24 () _ _ ls hH (lv_sub hl [1, 2, 3, 4] rfl) hf
      obtain ⟨j33, e35, hf⟩ := ol hf
      have Jj33 : ∀ (u34 : Unit) (H : Heap) (locs : List Loc) (ls : Array Slot), HI D S S6 s H locs → lv_has ls 5 [(0, .ref a0), (1, .int p1), (2, .int p2), (3, .int p3)] → j33 u34 = some r → GI p l e (headSpec wsX10_put rmX10_put).room s m ([.ref a0, .int p1, .int p2, .int p3] : List Value).toArray below meth c D S r.1 r.2 H locs 0 0 0 0 (F0 m 68 ls []) := by
        intro u34 H locs ls hH hl hf
        rw [← e35] at hf
        refine lv_iconst (v := 1) hx hb dX10_put_68 (by decide) ?_
        refine lv_goto (tgt := 73) hx hb dX10_put_69 (by decide) ?_
        exact Jj13 1 _ _ ls hH (lv_sub hl [0, 1, 2, 3] rfl) hf
      refine lv_if_ne (tgt := 68) hx hb dX10_put_34 (by decide) (fun c36 => ?_) (fun c36 => ?_)
      · have hf := iq hf c36
        exact Jj33 () _ _ ls hH (lv_sub hl [0, 1, 2, 3] rfl) hf
      · have hf := ip hf c36
        refine lv_iload_n hx hb dX10_put_37 rfl (lv_at hl 2 rfl) ?_
        obtain ⟨r37, e38, hf⟩ := ob hf
        refine r_callSi (As := [.int p2]) ⟨hx, hb, hml, hown, hts⟩ (c_X10_isDigit l D S6 p2 r37 e38) (va_cwS 1 hts (gwS gw_31_20 gw_31_21 gw_31_10 gw_31_6) rfl rfl rfl (by decide +kernel) ⟨Nat.le_of_ble_eq_true rfl, Nat.le_of_ble_eq_true rfl⟩) hH hNE rfl hl.1 rfl (Nat.le_of_ble_eq_true rfl) dX10_put_38 ⟨(Nat.le_of_ble_eq_true rfl), (Nat.le_of_ble_eq_true rfl)⟩ (fun H locs hH => ?_)
        refine lv_if_ne (tgt := 68) hx hb dX10_put_41 (by decide) (fun c39 => ?_) (fun c39 => ?_)
        · have hf := iq hf c39
          exact Jj33 () _ _ ls hH (lv_sub hl [0, 1, 2, 3] rfl) hf
        · have hf := ip hf c39
          refine lv_iload_n hx hb dX10_put_44 rfl (lv_at hl 2 rfl) ?_
          refine lv_bipush (v := 32) hx hb dX10_put_45 (by decide) ?_
          refine lv_icmp_eq (tgt := 68) hx hb dX10_put_47 (by decide) (fun c40 => ?_) (fun c40 => ?_)
          · have hf := ip hf c40
            exact Jj33 () _ _ ls hH (lv_sub hl [0, 1, 2, 3] rfl) hf
          · have hf := iq hf c40
            refine lv_iload_n hx hb dX10_put_50 rfl (lv_at hl 2 rfl) ?_
            refine lv_bipush (v := 46) hx hb dX10_put_51 (by decide) ?_
            refine lv_icmp_eq (tgt := 68) hx hb dX10_put_53 (by decide) (fun c41 => ?_) (fun c41 => ?_)
            · have hf := ip hf c41
              exact Jj33 () _ _ ls hH (lv_sub hl [0, 1, 2, 3] rfl) hf
            · have hf := iq hf c41
              refine lv_iload_n hx hb dX10_put_56 rfl (lv_at hl 2 rfl) ?_
              refine lv_bipush (v := 34) hx hb dX10_put_57 (by decide) ?_
              refine lv_icmp_eq (tgt := 68) hx hb dX10_put_59 (by decide) (fun c42 => ?_) (fun c42 => ?_)
              · have hf := ip hf c42
                exact Jj33 () _ _ ls hH (lv_sub hl [0, 1, 2, 3] rfl) hf
              · have hf := iq hf c42
                refine lv_iload_n hx hb dX10_put_62 rfl (lv_at hl 2 rfl) ?_
                refine lv_bipush (v := 47) hx hb dX10_put_63 (by decide) ?_
                refine lv_icmp_ne (tgt := 72) hx hb dX10_put_65 (by decide) (fun c43 => ?_) (fun c43 => ?_)
                · have hf := iq hf c43
                  refine lv_iconst (v := 0) hx hb dX10_put_72 (by decide) ?_
                  exact Jj13 0 _ _ ls hH (lv_sub hl [0, 1, 2, 3] rfl) hf
                · have hf := ip hf c43
                  exact Jj33 () _ _ ls hH (lv_sub hl [0, 1, 2, 3] rfl) hf
    · have hf := iq hf c9
      refine lv_iconst (v := 0) hx hb dX10_put_28 (by decide) ?_
      have hr9 := Option.some.inj hf
      subst hr9
      exact e_i hx hb hr hlocks hH dX10_put_29
  refine lv_if_eq (tgt := 17) hx hb dX10_put_10 (by decide) (fun c45 => ?_) (fun c45 => ?_)
  · have hf := ip hf c45
    refine lv_iconst (v := 1) hx hb dX10_put_17 (by decide) ?_
    exact Jj5 1 _ _ ls hH (lv_sub hl [0, 1, 2, 3] rfl) hf
  · have hf := iq hf c45
    refine lv_iconst (v := 0) hx hb dX10_put_13 (by decide) ?_
    refine lv_goto (tgt := 18) hx hb dX10_put_14 (by decide) ?_
    exact Jj5 0 _ _ ls hH (lv_sub hl [0, 1, 2, 3] rfl) hf
set_option maxRecDepth 100000 in
def f_X10_take (S : PS) (a0 : Nat) (p1 : Int32) : Option (PS × Int32) := if kK S a0 = 14 then ((f_X10_in S p1 0 ((kI S a0 3) - 1)).bind fun r2 => lt (fun (x4 : Int32) => lt (wI S a0 0 x4) fun S6 => if kK S6 a0 = 14 then (if (kI S6 a0 0) ≤ 0 then ((kQ S6 a0 1).bind fun a10 => if kK S6 a10 = 102 then (if ¬ (p1 < 0 ∨ kN S6 a10 ≤ p1.toNatClampNeg) then (lt (kI S6 a10 p1.toNatClampNeg) fun x14 => (f_X10_takesOut S6 a0 p1).bind fun r16 => if vp_nar .char x14 = x14 then (some (r16, x14)) else none) else none) else none) else (some (S6, 32))) else none) fun j5 => if r2 = 0 then (j5 1) else (j5 0)) else none
abbrev rmX10_take : Room := { frames := 3, cells := 0, slots := 0, locals := 70 }
set_option maxHeartbeats 4000000 in
set_option maxRecDepth 100000 in
theorem c_X10_take (l : Launch) (D : va_G × Nat) (S : PS) (a0 : Nat) (p1 : Int32) (r : PS × Int32) (hf : f_X10_take S a0 p1 = some r) : MI l D yX10_take wsX10_take rmX10_take S [.ref a0, .int p1] r.1 r.2 0 0 := by
  unfold f_X10_take at hf
  refine Met.ofW (cc := cX10_take) (maxL := 3) (ret := (some .char)) (by decide) rfl ?_
  intro p e s m args below meth c s₁ B hml hv
  obtain ⟨rfl, hH0, hNE⟩ := hv
  have hx := B.exec
  have hb := B.bytes
  have hr := B.returns
  have hts := atoms_spec (ws := wsX10_take) B.pre
  have hown : s.vm.findClass RX10 = some m.cls := findClass_of_methodNamed B.named
  have hlocks := B.notSynchronized
  have hH : HI D S S s s.heap [] := HI.start hH0
  have hl := lv_entry ([.ref a0, .int p1]) (n := 3) (Nat.le_of_ble_eq_true rfl)
  rw [lg_entry_eq]
  generalize (lg_sl ([.ref a0, .int p1]) ++ List.replicate (3 - (lg_sl ([.ref a0, .int p1])).length) Slot.unset).toArray = ls at hl ⊢
  have hl : lv_has ls 3 [(0, .ref a0), (1, .int p1)] := hl
  refine lv_aload_n hx hb dX10_take_0 rfl (lv_at hl 0 rfl) ?_
  refine lv_iload_n hx hb dX10_take_1 rfl (lv_at hl 1 rfl) ?_
  refine lv_iconst (v := 0) hx hb dX10_take_2 (by decide) ?_
  refine lv_aload_n hx hb dX10_take_3 rfl (lv_at hl 0 rfl) ?_
  obtain ⟨ek1, hf⟩ := oc hf
  refine r_getI hx hb 13 hts (fun w h => List.mem_cons_of_mem _ (mwsX100 w h)) hown hH ek1 (by decide) rfl 3 (by decide) rfl (hts (.fieldLink RX10 156 "HousestyleModel" "length" "I") (List.mem_cons_of_mem _ gw_32_2)) (fun _ h9 => h9) dX10_take_4 ?_
  refine lv_iconst (v := 1) hx hb dX10_take_7 (by decide) ?_
  refine lv_isub hx hb dX10_take_8 ?_
  obtain ⟨r2, e3, hf⟩ := ob hf
  refine r_callSi (As := [.int p1, .int 0, .int ((kI S a0 3) - 1)]) ⟨hx, hb, hml, hown, hts⟩ (c_X10_in l D S p1 0 ((kI S a0 3) - 1) r2 e3) (va_cwS 3 hts (gwS gw_31_8 gw_31_9 gw_31_10 gw_31_4) rfl rfl rfl (by decide +kernel) ⟨Nat.le_of_ble_eq_true rfl, Nat.le_of_ble_eq_true rfl⟩) hH hNE rfl hl.1 rfl (Nat.le_of_ble_eq_true rfl) dX10_take_9 ⟨(Nat.le_of_ble_eq_true rfl), (Nat.le_of_ble_eq_true rfl)⟩ (fun H locs hH => ?_)
  obtain ⟨j5, e19, hf⟩ := ol hf
  have Jj5 : ∀ (x4 : Int32) (H : Heap) (locs : List Loc) (ls : Array Slot), HI D S S s H locs → lv_has ls 3 [(0, .ref a0), (1, .int p1)] → j5 x4 = some r → GI p l e (headSpec wsX10_take rmX10_take).room s m ([.ref a0, .int p1] : List Value).toArray below meth c D S r.1 r.2 H locs 0 0 0 0 (F0 m 20 ls [.int x4, .ref a0]) := by
    intro x4 H locs ls hH hl hf
    rw [← e19] at hf
    refine r_putI hx hb 13 hts (fun w h => List.mem_cons_of_mem _ (mwsX100 w h)) tyX10 tyX10_ok nmX10 hown hH ek1 (by decide) rfl 0 (by decide) rfl (hts (.fieldLink RX10 123 "HousestyleModel" "thrown" "I") (List.mem_cons_of_mem _ gw_31_3)) (fun _ h9 => h9) (Or.inl rfl) (ty := .int) (by decide +kernel) rfl rfl dX10_take_20 (fun H locs hH => ?_)
    obtain ⟨S6, e7, hf⟩ := ol hf
    rw [e7] at hH
    refine lv_aload_n hx hb dX10_take_23 rfl (lv_at hl 0 rfl) ?_
    obtain ⟨ek8, hf⟩ := oc hf
    refine r_getI hx hb 13 hts (fun w h => List.mem_cons_of_mem _ (mwsX100 w h)) hown hH ek8 (by decide) rfl 0 (by decide) rfl (hts (.fieldLink RX10 123 "HousestyleModel" "thrown" "I") (List.mem_cons_of_mem _ gw_31_3)) (fun _ h9 => h9) dX10_take_24 ?_
    refine lv_if_le (tgt := 33) hx hb dX10_take_27 (by decide) (fun c9 => ?_) (fun c9 => ?_)
    · have hf := ip hf c9
      refine lv_aload_n hx hb dX10_take_33 rfl (lv_at hl 0 rfl) ?_
      obtain ⟨a10, e11, hf⟩ := ob hf
      refine r_getQ hx hb 13 hts (fun w h => List.mem_cons_of_mem _ (mwsX100 w h)) hown hH ek8 (by decide) rfl 1 (by decide) rfl (hts (.fieldLink RX10 7 "HousestyleModel" "text" "[C") (List.mem_cons_of_mem _ gw_29_12)) (fun _ h9 => h9) dX10_take_34 e11 ?_
      refine lv_iload_n hx hb dX10_take_37 rfl (lv_at hl 1 rfl) ?_
      obtain ⟨ek12, hf⟩ := oc hf
      obtain ⟨ei13, hf⟩ := oc hf
      refine r_cald hx hb hH ek12 ei13 dX10_take_38 ?_
      obtain ⟨x14, e15, hf⟩ := ol hf
      refine lv_topE e15 ?_
      refine lv_istore_n (lv' := [(2, .int x14), (0, .ref a0), (1, .int p1)]) hx hb dX10_take_39 rfl hl (by decide) rfl (fun ls hl => ?_)
      refine lv_aload_n hx hb dX10_take_40 rfl (lv_at hl 1 rfl) ?_
      refine lv_iload_n hx hb dX10_take_41 rfl (lv_at hl 2 rfl) ?_
      obtain ⟨r16, e17, hf⟩ := ob hf
      refine r_callVv (As := [.int p1]) ⟨hx, hb, hml, hown, hts⟩ (c_X10_takesOut l D S6 a0 p1 r16 e17) (cwV 1 hts (gwV gw_33_1 gw_33_2 gw_33_3 gw_31_10 gw_32_19) rfl rfl rfl (by decide +kernel) ⟨Nat.le_of_ble_eq_true rfl, Nat.le_of_ble_eq_true rfl⟩) hH hNE 13 ek8 (by decide) rfl rfl rfl hl.1 rfl (Nat.le_of_ble_eq_true rfl) dX10_take_42 ⟨(Nat.le_of_ble_eq_true rfl), (Nat.le_of_ble_eq_true rfl)⟩ (fun H locs hH => ?_)
      refine lv_iload_n hx hb dX10_take_45 rfl (lv_at hl 0 rfl) ?_
      obtain ⟨en18, hf⟩ := oc hf
      have hr9 := Option.some.inj hf
      subst hr9
      exact e_z hx hb hr hlocks (nar_C en18) hH dX10_take_46
    · have hf := iq hf c9
      refine lv_bipush (v := 32) hx hb dX10_take_30 (by decide) ?_
      have hr9 := Option.some.inj hf
      subst hr9
      exact e_z (r := 32) hx hb hr hlocks rfl hH dX10_take_32
  refine lv_if_eq (tgt := 19) hx hb dX10_take_12 (by decide) (fun c20 => ?_) (fun c20 => ?_)
  · have hf := ip hf c20
    refine lv_iconst (v := 1) hx hb dX10_take_19 (by decide) ?_
    exact Jj5 1 _ _ ls hH (lv_sub hl [0, 1] rfl) hf
  · have hf := iq hf c20
    refine lv_iconst (v := 0) hx hb dX10_take_15 (by decide) ?_
    refine lv_goto (tgt := 20) hx hb dX10_take_16 (by decide) ?_
    exact Jj5 0 _ _ ls hH (lv_sub hl [0, 1] rfl) hf
set_option maxRecDepth 100000 in
def f_X10_at (S : PS) (a0 : Nat) (p1 : Int32) : Option (PS × Int32) := if kK S a0 = 14 then ((f_X10_in S p1 0 ((kI S a0 3) - 1)).bind fun r2 => lt (fun (x4 : Int32) => lt (wI S a0 0 x4) fun S6 => if kK S6 a0 = 14 then (if (kI S6 a0 0) ≤ 0 then ((kQ S6 a0 1).bind fun a10 => if kK S6 a10 = 102 then (if ¬ (p1 < 0 ∨ kN S6 a10 ≤ p1.toNatClampNeg) then (if vp_nar .char (kI S6 a10 p1.toNatClampNeg) = (kI S6 a10 p1.toNatClampNeg) then (some (S6, (kI S6 a10 p1.toNatClampNeg))) else none) else none) else none) else (some (S6, 32))) else none) fun j5 => if r2 = 0 then (j5 1) else (j5 0)) else none
abbrev rmX10_at : Room := { frames := 1, cells := 0, slots := 0, locals := 22 }
set_option maxHeartbeats 4000000 in
set_option maxRecDepth 100000 in
theorem c_X10_at (l : Launch) (D : va_G × Nat) (S : PS) (a0 : Nat) (p1 : Int32) (r : PS × Int32) (hf : f_X10_at S a0 p1 = some r) : MI l D yX10_at wsX10_at rmX10_at S [.ref a0, .int p1] r.1 r.2 0 0 := by
  unfold f_X10_at at hf
  refine Met.ofW (cc := cX10_at) (maxL := 2) (ret := (some .char)) (by decide) rfl ?_
  intro p e s m args below meth c s₁ B hml hv
  obtain ⟨rfl, hH0, hNE⟩ := hv
  have hx := B.exec
  have hb := B.bytes
  have hr := B.returns
  have hts := atoms_spec (ws := wsX10_at) B.pre
  have hown : s.vm.findClass RX10 = some m.cls := findClass_of_methodNamed B.named
  have hlocks := B.notSynchronized
  have hH : HI D S S s s.heap [] := HI.start hH0
  have hl := lv_entry ([.ref a0, .int p1]) (n := 2) (Nat.le_of_ble_eq_true rfl)
  rw [lg_entry_eq]
  generalize (lg_sl ([.ref a0, .int p1]) ++ List.replicate (2 - (lg_sl ([.ref a0, .int p1])).length) Slot.unset).toArray = ls at hl ⊢
  have hl : lv_has ls 2 [(0, .ref a0), (1, .int p1)] := hl
  refine lv_aload_n hx hb dX10_at_0 rfl (lv_at hl 0 rfl) ?_
  refine lv_iload_n hx hb dX10_at_1 rfl (lv_at hl 1 rfl) ?_
  refine lv_iconst (v := 0) hx hb dX10_at_2 (by decide) ?_
  refine lv_aload_n hx hb dX10_at_3 rfl (lv_at hl 0 rfl) ?_
  obtain ⟨ek1, hf⟩ := oc hf
  refine r_getI hx hb 13 hts (fun w h => List.mem_cons_of_mem _ (mwsX100 w h)) hown hH ek1 (by decide) rfl 3 (by decide) rfl (hts (.fieldLink RX10 156 "HousestyleModel" "length" "I") (List.mem_cons_of_mem _ gw_32_2)) (fun _ h9 => h9) dX10_at_4 ?_
  refine lv_iconst (v := 1) hx hb dX10_at_7 (by decide) ?_
  refine lv_isub hx hb dX10_at_8 ?_
  obtain ⟨r2, e3, hf⟩ := ob hf
  refine r_callSi (As := [.int p1, .int 0, .int ((kI S a0 3) - 1)]) ⟨hx, hb, hml, hown, hts⟩ (c_X10_in l D S p1 0 ((kI S a0 3) - 1) r2 e3) (va_cwS 3 hts (gwS gw_31_8 gw_31_9 gw_31_10 gw_31_4) rfl rfl rfl (by decide +kernel) ⟨Nat.le_of_ble_eq_true rfl, Nat.le_of_ble_eq_true rfl⟩) hH hNE rfl hl.1 rfl (Nat.le_of_ble_eq_true rfl) dX10_at_9 ⟨(Nat.le_of_ble_eq_true rfl), (Nat.le_of_ble_eq_true rfl)⟩ (fun H locs hH => ?_)
  obtain ⟨j5, e15, hf⟩ := ol hf
  have Jj5 : ∀ (x4 : Int32) (H : Heap) (locs : List Loc) (ls : Array Slot), HI D S S s H locs → lv_has ls 2 [(0, .ref a0), (1, .int p1)] → j5 x4 = some r → GI p l e (headSpec wsX10_at rmX10_at).room s m ([.ref a0, .int p1] : List Value).toArray below meth c D S r.1 r.2 H locs 0 0 0 0 (F0 m 20 ls [.int x4, .ref a0]) := by
    intro x4 H locs ls hH hl hf
    rw [← e15] at hf
    refine r_putI hx hb 13 hts (fun w h => List.mem_cons_of_mem _ (mwsX100 w h)) tyX10 tyX10_ok nmX10 hown hH ek1 (by decide) rfl 0 (by decide) rfl (hts (.fieldLink RX10 123 "HousestyleModel" "thrown" "I") (List.mem_cons_of_mem _ gw_31_3)) (fun _ h9 => h9) (Or.inl rfl) (ty := .int) (by decide +kernel) rfl rfl dX10_at_20 (fun H locs hH => ?_)
    obtain ⟨S6, e7, hf⟩ := ol hf
    rw [e7] at hH
    refine lv_aload_n hx hb dX10_at_23 rfl (lv_at hl 0 rfl) ?_
    obtain ⟨ek8, hf⟩ := oc hf
    refine r_getI hx hb 13 hts (fun w h => List.mem_cons_of_mem _ (mwsX100 w h)) hown hH ek8 (by decide) rfl 0 (by decide) rfl (hts (.fieldLink RX10 123 "HousestyleModel" "thrown" "I") (List.mem_cons_of_mem _ gw_31_3)) (fun _ h9 => h9) dX10_at_24 ?_
    refine lv_if_le (tgt := 35) hx hb dX10_at_27 (by decide) (fun c9 => ?_) (fun c9 => ?_)
    · have hf := ip hf c9
      refine lv_aload_n hx hb dX10_at_35 rfl (lv_at hl 0 rfl) ?_
      obtain ⟨a10, e11, hf⟩ := ob hf
      refine r_getQ hx hb 13 hts (fun w h => List.mem_cons_of_mem _ (mwsX100 w h)) hown hH ek8 (by decide) rfl 1 (by decide) rfl (hts (.fieldLink RX10 7 "HousestyleModel" "text" "[C") (List.mem_cons_of_mem _ gw_29_12)) (fun _ h9 => h9) dX10_at_36 e11 ?_
      refine lv_iload_n hx hb dX10_at_39 rfl (lv_at hl 1 rfl) ?_
      obtain ⟨ek12, hf⟩ := oc hf
      obtain ⟨ei13, hf⟩ := oc hf
      refine r_cald hx hb hH ek12 ei13 dX10_at_40 ?_
      obtain ⟨en14, hf⟩ := oc hf
      have hr9 := Option.some.inj hf
      subst hr9
      exact e_z hx hb hr hlocks (nar_C en14) hH dX10_at_41
    · have hf := iq hf c9
      refine lv_bipush (v := 32) hx hb dX10_at_30 (by decide) ?_
      refine lv_goto (tgt := 41) hx hb dX10_at_32 (by decide) ?_
      have hr9 := Option.some.inj hf
      subst hr9
      exact e_z (r := 32) hx hb hr hlocks rfl hH dX10_at_41
  refine lv_if_eq (tgt := 19) hx hb dX10_at_12 (by decide) (fun c16 => ?_) (fun c16 => ?_)
  · have hf := ip hf c16
    refine lv_iconst (v := 1) hx hb dX10_at_19 (by decide) ?_
    exact Jj5 1 _ _ ls hH (lv_sub hl [0, 1] rfl) hf
  · have hf := iq hf c16
    refine lv_iconst (v := 0) hx hb dX10_at_15 (by decide) ?_
    refine lv_goto (tgt := 20) hx hb dX10_at_16 (by decide) ?_
    exact Jj5 0 _ _ ls hH (lv_sub hl [0, 1] rfl) hf
set_option maxRecDepth 100000 in
def f_X10_length (S : PS) (a0 : Nat) : Option (PS × Int32) := if kK S a0 = 14 then (lt (wI S a0 0 0) fun S2 => if kK S2 a0 = 14 then (some (S2, (kI S2 a0 3))) else none) else none
abbrev rmX10_length : Room := { frames := 0, cells := 0, slots := 0, locals := 0 }
set_option maxHeartbeats 4000000 in
set_option maxRecDepth 100000 in
theorem c_X10_length (l : Launch) (D : va_G × Nat) (S : PS) (a0 : Nat) (r : PS × Int32) (hf : f_X10_length S a0 = some r) : MI l D yX10_length wsX10_length rmX10_length S [.ref a0] r.1 r.2 0 0 := by
  unfold f_X10_length at hf
  refine Met.ofW (cc := cX10_length) (maxL := 1) (ret := (some .int)) (by decide) rfl ?_
  intro p e s m args below meth c s₁ B hml hv
  obtain ⟨rfl, hH0, hNE⟩ := hv
  have hx := B.exec
  have hb := B.bytes
  have hr := B.returns
  have hts := atoms_spec (ws := wsX10_length) B.pre
  have hown : s.vm.findClass RX10 = some m.cls := findClass_of_methodNamed B.named
  have hlocks := B.notSynchronized
  have hH : HI D S S s s.heap [] := HI.start hH0
  have hl := lv_entry ([.ref a0]) (n := 1) (Nat.le_of_ble_eq_true rfl)
  rw [lg_entry_eq]
  generalize (lg_sl ([.ref a0]) ++ List.replicate (1 - (lg_sl ([.ref a0])).length) Slot.unset).toArray = ls at hl ⊢
  have hl : lv_has ls 1 [(0, .ref a0)] := hl
  refine lv_aload_n hx hb dX10_length_0 rfl (lv_at hl 0 rfl) ?_
  refine lv_iconst (v := 0) hx hb dX10_length_1 (by decide) ?_
  obtain ⟨ek1, hf⟩ := oc hf
  refine r_putI hx hb 13 hts (fun w h => List.mem_cons_of_mem _ (mwsX100 w h)) tyX10 tyX10_ok nmX10 hown hH ek1 (by decide) rfl 0 (by decide) rfl (hts (.fieldLink RX10 123 "HousestyleModel" "thrown" "I") (List.mem_cons_of_mem _ gw_31_3)) (fun _ h9 => h9) (Or.inl rfl) (ty := .int) (by decide +kernel) rfl rfl dX10_length_2 (fun H locs hH => ?_)
  obtain ⟨S2, e3, hf⟩ := ol hf
  rw [e3] at hH
  refine lv_aload_n hx hb dX10_length_5 rfl (lv_at hl 0 rfl) ?_
  obtain ⟨ek4, hf⟩ := oc hf
  refine r_getI hx hb 13 hts (fun w h => List.mem_cons_of_mem _ (mwsX100 w h)) hown hH ek4 (by decide) rfl 3 (by decide) rfl (hts (.fieldLink RX10 156 "HousestyleModel" "length" "I") (List.mem_cons_of_mem _ gw_32_2)) (fun _ h9 => h9) dX10_length_6 ?_
  have hr9 := Option.some.inj hf
  subst hr9
  exact e_i hx hb hr hlocks hH dX10_length_9
set_option maxRecDepth 100000 in
def f_X10_isPattern_b198 (a0 : Nat) (r18 : Int32) (x4 : Int32) (x46 : Int32) (x48 : Int32) (S49 : PS) : Option ((Int32 × PS) ⊕ ((PS))) := if r18 ≤ x48 then (some (.inr S49)) else (if kK S49 a0 = 14 then ((kQ S49 a0 8).bind fun a83 => (kQ S49 a0 4).bind fun a85 => if kK S49 a85 = 102 then (if ¬ ((x4 + x48) < 0 ∨ kN S49 a85 ≤ (x4 + x48).toNatClampNeg) then (if kK S49 a83 = 102 then (if ¬ (((x46 * 20) + x48) < 0 ∨ kN S49 a83 ≤ ((x46 * 20) + x48).toNatClampNeg) then (lt (wI S49 a83 ((x46 * 20) + x48).toNatClampNeg (vp_nar .char (kI S49 a85 (x4 + x48).toNatClampNeg))) fun S91 => lt (x48 + 1) fun x93 => some (.inl (x93, S91))) else none) else none) else none) else none) else none)
set_option maxRecDepth 100000 in
def f_X10_isPattern_b20 (a0 : Nat) (x4 : Int32) (x5 : Int32) (x6 : Int32) (x7 : Int32) (S8 : PS) : Option ((Int32 × Int32 × Int32 × Int32 × PS) ⊕ ((Int32 × PS))) := if x6 = 0 then (some (.inr (x6, S8))) else (if x7 = 0 then (some (.inr (x6, S8))) else (if kK S8 a0 = 14 then ((f_X10_lettersFrom S8 a0 x4).bind fun r18 => lt (x4 + r18) fun x20 => lt (fun (x22 : Int32) => lt (fun (x24 : Int32) => lt (fun (x26 : Int32) => lt (x20 + x26) fun x28 => lt (fun (x30 : Int32) => lt (fun (S32 : PS) => lt (x5 + 1) fun x34 => if kK S32 a0 = 14 then (lt (fun (x37 : Int32) => lt (x28 + 1) fun x39 => some (.inl (x39, x34, x30, x37, S32))) fun j38 => if (kI S32 a0 5) ≤ x28 then (j38 0) else (j38 1)) else none) fun j33 => if x30 = 0 then (j33 S8) else (if (12 : Int32) ≤ (kI S8 a0 6) then (j33 S8) else (lt (((kI S8 a0 6) * 3) + x5) fun x46 => lt (fun (S50 : PS) => if kK S50 a0 = 14 then ((kQ S50 a0 9).bind fun a54 => if kK S50 a54 = 101 then (if ¬ (x46 < 0 ∨ kN S50 a54 ≤ x46.toNatClampNeg) then (lt (wI S50 a54 x46.toNatClampNeg r18) fun S58 => if kK S58 a0 = 14 then ((kQ S58 a0 10).bind fun a61 => lt (fun (x63 : Int32) => if kK S58 a61 = 101 then (if ¬ (x46 < 0 ∨ kN S58 a61 ≤ x46.toNatClampNeg) then (lt (wI S58 a61 x46.toNatClampNeg x63) fun S67 => if kK S67 a0 = 14 then ((kQ S67 a0 7).bind fun a70 => if kK S67 a70 = 101 then (if ¬ ((kI S67 a0 6) < 0 ∨ kN S67 a70 ≤ (kI S67 a0 6).toNatClampNeg) then (lt (wI S67 a70 (kI S67 a0 6).toNatClampNeg (x5 + 1)) fun S74 => j33 S74) else none) else none) else none) else none) else none) fun j64 => if x24 = 0 then (if x22 = 0 then (j64 0) else (if r18 ≤ 0 then (j64 2) else (j64 1))) else (j64 3)) else none) else none) else none) else none) fun k51 => (iter (fun (v : Int32 × PS) => f_X10_isPattern_b198 a0 r18 x4 x46 v.1 v.2) kF (0, S8)).bind (fun (v : PS) => k51 v)))) fun j31 => lt (fun (u97 : Unit) => j31 0) fun j96 => if (3 : Int32) ≤ x5 then (j96 ()) else (if x28 ≤ x4 then (j96 ()) else (lt (fun (u102 : Unit) => j31 1) fun j101 => if x28 = (kI S8 a0 5) then (j101 ()) else ((kQ S8 a0 4).bind fun a105 => if kK S8 a105 = 102 then (if ¬ (x28 < 0 ∨ kN S8 a105 ≤ x28.toNatClampNeg) then (if (kI S8 a105 x28.toNatClampNeg) = (45 : Int32) then (if (kI S8 a0 5) ≤ (x28 + 1) then (j96 ()) else (j101 ())) else (j96 ())) else none) else none)))) fun j27 => lt (fun (u113 : Unit) => j27 1) fun j112 => if x22 = 0 then (if x24 = 0 then (j27 0) else (j112 ())) else (j112 ())) fun j25 => lt (fun (u119 : Unit) => j25 0) fun j118 => if r18 = 0 then (if (kI S8 a0 5) ≤ x20 then (j118 ()) else ((kQ S8 a0 4).bind fun a123 => if kK S8 a123 = 102 then (if ¬ (x20 < 0 ∨ kN S8 a123 ≤ x20.toNatClampNeg) then (if (kI S8 a123 x20.toNatClampNeg) = (35 : Int32) then (j25 1) else (j118 ())) else none) else none)) else (j118 ())) fun j23 => lt (fun (u130 : Unit) => j23 0) fun j129 => if (kI S8 a0 5) ≤ x20 then (j129 ()) else ((kQ S8 a0 4).bind fun a133 => if kK S8 a133 = 102 then (if ¬ (x20 < 0 ∨ kN S8 a133 ≤ x20.toNatClampNeg) then (if (kI S8 a133 x20.toNatClampNeg) = (42 : Int32) then (j23 1) else (j129 ())) else none) else none)) else none))
set_option maxRecDepth 100000 in
def f_X10_isPattern (S : PS) (a0 : Nat) : Option (PS × Int32) := if kK S a0 = 14 then (lt (fun (x2 : Int32) => lt (fun (x9 : Int32) (S10 : PS) => if x9 = 0 ∨ x9 = 1 then (some (S10, x9)) else none) fun k11 => (iter (fun (v : Int32 × Int32 × Int32 × Int32 × PS) => f_X10_isPattern_b20 a0 v.1 v.2.1 v.2.2.1 v.2.2.2.1 v.2.2.2.2) kF (0, 0, x2, 1, S)).bind (fun (v : Int32 × PS) => k11 v.1 v.2)) fun j3 => if (kI S a0 5) ≤ 0 then (j3 0) else (j3 1)) else none
abbrev rmX10_isPattern : Room := { frames := 2, cells := 0, slots := 0, locals := 42 }
set_option maxHeartbeats 4000000 in
set_option maxRecDepth 100000 in
theorem c_X10_isPattern (l : Launch) (D : va_G × Nat) (S : PS) (a0 : Nat) (r : PS × Int32) (hf : f_X10_isPattern S a0 = some r) : MI l D yX10_isPattern wsX10_isPattern rmX10_isPattern S [.ref a0] r.1 r.2 0 0 := by
  unfold f_X10_isPattern at hf
  refine Met.ofW (cc := cX10_isPattern) (maxL := 11) (ret := (some .boolean)) (by decide) rfl ?_
  intro p e s m args below meth c s₁ B hml hv
  obtain ⟨rfl, hH0, hNE⟩ := hv
  have hx := B.exec
  have hb := B.bytes
  have hr := B.returns
  have hts := atoms_spec (ws := wsX10_isPattern) B.pre
  have hown : s.vm.findClass RX10 = some m.cls := findClass_of_methodNamed B.named
  have hlocks := B.notSynchronized
  have hH : HI D S S s s.heap [] := HI.start hH0
  have hl := lv_entry ([.ref a0]) (n := 11) (Nat.le_of_ble_eq_true rfl)
  rw [lg_entry_eq]
  generalize (lg_sl ([.ref a0]) ++ List.replicate (11 - (lg_sl ([.ref a0])).length) Slot.unset).toArray = ls at hl ⊢
  have hl : lv_has ls 11 [(0, .ref a0)] := hl
  refine lv_iconst (v := 0) hx hb dX10_isPattern_0 (by decide) ?_
  refine lv_istore_n (lv' := [(1, .int 0), (0, .ref a0)]) hx hb dX10_isPattern_1 rfl hl (by decide) rfl (fun ls hl => ?_)
  refine lv_iconst (v := 0) hx hb dX10_isPattern_2 (by decide) ?_
  refine lv_istore_n (lv' := [(2, .int 0), (1, .int 0), (0, .ref a0)]) hx hb dX10_isPattern_3 rfl hl (by decide) rfl (fun ls hl => ?_)
  refine lv_aload_n hx hb dX10_isPattern_4 rfl (lv_at hl 2 rfl) ?_
  obtain ⟨ek1, hf⟩ := oc hf
  refine r_getI hx hb 13 hts (fun w h => List.mem_cons_of_mem _ (mwsX100 w h)) hown hH ek1 (by decide) rfl 5 (by decide) rfl (hts (.fieldLink RX10 145 "HousestyleModel" "typedSize" "I") (List.mem_cons_of_mem _ gw_31_17)) (fun _ h9 => h9) dX10_isPattern_5 ?_
  obtain ⟨j3, e138, hf⟩ := ol hf
  have Jj3 : ∀ (x2 : Int32) (H : Heap) (locs : List Loc) (ls : Array Slot), HI D S S s H locs → lv_has ls 11 [(0, .ref a0), (1, .int 0), (2, .int 0)] → j3 x2 = some r → GI p l e (headSpec wsX10_isPattern rmX10_isPattern).room s m ([.ref a0] : List Value).toArray below meth c D S r.1 r.2 H locs 0 0 0 0 (F0 m 16 ls [.int x2]) := by
    intro x2 H locs ls hH hl hf
    rw [← e138] at hf
    refine lv_istore_n (lv' := [(3, .int x2), (0, .ref a0), (1, .int 0), (2, .int 0)]) hx hb dX10_isPattern_16 rfl hl (by decide) rfl (fun ls hl => ?_)
    refine lv_iconst (v := 1) hx hb dX10_isPattern_17 (by decide) ?_
    refine lv_istore (lv' := [(4, .int 1), (3, .int x2), (0, .ref a0), (1, .int 0), (2, .int 0)]) hx hb dX10_isPattern_18 hl (by decide) rfl (fun ls hl => ?_)
    obtain ⟨k11, e12, hf⟩ := ol hf
    have Xk11 : ∀ (x9 : Int32) (S10 : PS) (H : Heap) (locs : List Loc) (ls : Array Slot), HI D S S10 s H locs → lv_has ls 11 [(3, .int x9)] → k11 x9 S10 = some r → GI p l e (headSpec wsX10_isPattern rmX10_isPattern).room s m ([.ref a0] : List Value).toArray below meth c D S r.1 r.2 H locs 0 0 0 0 (F0 m 316 ls []) := by
      intro x9 S10 H locs ls hH hl hf
      rw [← e12] at hf
      refine lv_iload_n hx hb dX10_isPattern_316 rfl (lv_at hl 0 rfl) ?_
      obtain ⟨en13, hf⟩ := oc hf
      have hr9 := Option.some.inj hf
      subst hr9
      exact e_z hx hb hr hlocks (nar_Z9 en13) hH dX10_isPattern_317
    obtain ⟨o14, eo14, hq14f⟩ := ob hf
    have Lo14 : ∀ (n : Nat) (x4 : Int32) (x5 : Int32) (x6 : Int32) (x7 : Int32) (S8 : PS), iter (fun (v : Int32 × Int32 × Int32 × Int32 × PS) => f_X10_isPattern_b20 a0 v.1 v.2.1 v.2.2.1 v.2.2.2.1 v.2.2.2.2) n (x4, x5, x6, x7, S8) = some o14 → ∀ (H : Heap) (locs : List Loc) (ls : Array Slot), HI D S S8 s H locs → lv_has ls 11 [(0, .ref a0), (1, .int x4), (2, .int x5), (3, .int x6), (4, .int x7)] → GI p l e (headSpec wsX10_isPattern rmX10_isPattern).room s m ([.ref a0] : List Value).toArray below meth c D S r.1 r.2 H locs 0 0 0 0 (F0 m 20 ls []) := by
      intro n
      induction n with
      | zero => intro x4 x5 x6 x7 S8 hi; cases hi
      | succ n ih14 =>
        intro x4 x5 x6 x7 S8 hi H locs ls hH hl
        obtain ⟨q14_, hf, hq14⟩ := iter_s hi
        have hf : f_X10_isPattern_b20 a0 x4 x5 x6 x7 S8 = some q14_ := hf
        unfold f_X10_isPattern_b20 at hf
        refine lv_iload_n hx hb dX10_isPattern_20 rfl (lv_at hl 3 rfl) ?_
        refine lv_if_eq (tgt := 316) hx hb dX10_isPattern_21 (by decide) (fun c15 => ?_) (fun c15 => ?_)
        · have hf := ip hf c15
          cases hf
          have hf9 := itR (K := (fun (v : Int32 × PS) => k11 v.1 v.2)) hq14 hq14f
          exact Xk11 x6 S8 _ _ ls hH (lv_sub hl [3] rfl) hf9
        · have hf := iq hf c15
          refine lv_iload hx hb dX10_isPattern_24 (lv_at hl 4 rfl) ?_
          refine lv_if_eq (tgt := 316) hx hb dX10_isPattern_26 (by decide) (fun c16 => ?_) (fun c16 => ?_)
          · have hf := ip hf c16
            cases hf
            have hf9 := itR (K := (fun (v : Int32 × PS) => k11 v.1 v.2)) hq14 hq14f
            exact Xk11 x6 S8 _ _ ls hH (lv_sub hl [3] rfl) hf9
          · have hf := iq hf c16
            refine lv_aload_n hx hb dX10_isPattern_29 rfl (lv_at hl 0 rfl) ?_
            refine lv_iload_n hx hb dX10_isPattern_30 rfl (lv_at hl 1 rfl) ?_
            obtain ⟨ek17, hf⟩ := oc hf
            obtain ⟨r18, e19, hf⟩ := ob hf
            refine r_callVi (As := [.int x4]) ⟨hx, hb, hml, hown, hts⟩ (c_X10_lettersFrom l D S8 a0 x4 r18 e19) (cwV 1 hts (gwV gw_33_7 gw_33_8 gw_33_9 gw_31_10 gw_31_23) rfl rfl rfl (by decide +kernel) ⟨Nat.le_of_ble_eq_true rfl, Nat.le_of_ble_eq_true rfl⟩) hH hNE 13 ek17 (by decide) rfl rfl rfl hl.1 rfl (Nat.le_of_ble_eq_true rfl) dX10_isPattern_31 ⟨(Nat.le_of_ble_eq_true rfl), (Nat.le_of_ble_eq_true rfl)⟩ (fun H locs hH => ?_)
            refine lv_istore (lv' := [(5, .int r18), (0, .ref a0), (1, .int x4), (2, .int x5), (3, .int x6), (4, .int x7)]) hx hb dX10_isPattern_34 hl (by decide) rfl (fun ls hl => ?_)
            refine lv_iload_n hx hb dX10_isPattern_36 rfl (lv_at hl 2 rfl) ?_
            refine lv_iload hx hb dX10_isPattern_37 (lv_at hl 0 rfl) ?_
            refine lv_iadd hx hb dX10_isPattern_39 ?_
            obtain ⟨x20, e21, hf⟩ := ol hf
            refine lv_topE e21 ?_
            refine lv_istore (lv' := [(6, .int x20), (5, .int r18), (0, .ref a0), (1, .int x4), (2, .int x5), (3, .int x6), (4, .int x7)]) hx hb dX10_isPattern_40 hl (by decide) rfl (fun ls hl => ?_)
            refine lv_iload hx hb dX10_isPattern_42 (lv_at hl 0 rfl) ?_
            refine lv_aload_n hx hb dX10_isPattern_44 rfl (lv_at hl 2 rfl) ?_
            refine r_getI hx hb 13 hts (fun w h => List.mem_cons_of_mem _ (mwsX100 w h)) hown hH ek17 (by decide) rfl 5 (by decide) rfl (hts (.fieldLink RX10 145 "HousestyleModel" "typedSize" "I") (List.mem_cons_of_mem _ gw_31_17)) (fun _ h9 => h9) dX10_isPattern_45 ?_
            obtain ⟨j23, e128, hf⟩ := ol hf
            have Jj23 : ∀ (x22 : Int32) (H : Heap) (locs : List Loc) (ls : Array Slot), HI D S S8 s H locs → lv_has ls 11 [(0, .ref a0), (1, .int x4), (2, .int x5), (5, .int r18), (6, .int x20)] → j23 x22 = some q14_ → GI p l e (headSpec wsX10_isPattern rmX10_isPattern).room s m ([.ref a0] : List Value).toArray below meth c D S r.1 r.2 H locs 0 0 0 0 (F0 m 68 ls [.int x22]) := by
              intro x22 H locs ls hH hl hf
              rw [← e128] at hf
              refine lv_istore (lv' := [(7, .int x22), (0, .ref a0), (1, .int x4), (2, .int x5), (5, .int r18), (6, .int x20)]) hx hb dX10_isPattern_68 hl (by decide) rfl (fun ls hl => ?_)
              refine lv_iload hx hb dX10_isPattern_70 (lv_at hl 4 rfl) ?_
              obtain ⟨j25, e117, hf⟩ := ol hf
              have Jj25 : ∀ (x24 : Int32) (H : Heap) (locs : List Loc) (ls : Array Slot), HI D S S8 s H locs → lv_has ls 11 [(0, .ref a0), (1, .int x4), (2, .int x5), (5, .int r18), (6, .int x20), (7, .int x22)] → j25 x24 = some q14_ → GI p l e (headSpec wsX10_isPattern rmX10_isPattern).room s m ([.ref a0] : List Value).toArray below meth c D S r.1 r.2 H locs 0 0 0 0 (F0 m 101 ls [.int x24]) := by
                intro x24 H locs ls hH hl hf
                rw [← e117] at hf
                refine lv_istore (lv' := [(8, .int x24), (0, .ref a0), (1, .int x4), (2, .int x5), (5, .int r18), (6, .int x20), (7, .int x22)]) hx hb dX10_isPattern_101 hl (by decide) rfl (fun ls hl => ?_)
                refine lv_iload hx hb dX10_isPattern_103 (lv_at hl 5 rfl) ?_
                refine lv_iload hx hb dX10_isPattern_105 (lv_at hl 6 rfl) ?_
                obtain ⟨j27, e111, hf⟩ := ol hf
                have Jj27 : ∀ (x26 : Int32) (H : Heap) (locs : List Loc) (ls : Array Slot), HI D S S8 s H locs → lv_has ls 11 [(0, .ref a0), (1, .int x4), (2, .int x5), (5, .int r18), (7, .int x22), (8, .int x24)] → j27 x26 = some q14_ → GI p l e (headSpec wsX10_isPattern rmX10_isPattern).room s m ([.ref a0] : List Value).toArray below meth c D S r.1 r.2 H locs 0 0 0 0 (F0 m 120 ls [.int x26, .int x20]) := by
                  intro x26 H locs ls hH hl hf
                  rw [← e111] at hf
                  refine lv_iadd hx hb dX10_isPattern_120 ?_
                  obtain ⟨x28, e29, hf⟩ := ol hf
                  refine lv_topE e29 ?_
                  refine lv_istore (lv' := [(6, .int x28), (0, .ref a0), (1, .int x4), (2, .int x5), (5, .int r18), (7, .int x22), (8, .int x24)]) hx hb dX10_isPattern_121 hl (by decide) rfl (fun ls hl => ?_)
                  refine lv_iload_n hx hb dX10_isPattern_123 rfl (lv_at hl 3 rfl) ?_
                  refine lv_iconst (v := 3) hx hb dX10_isPattern_124 (by decide) ?_
                  obtain ⟨j31, e95, hf⟩ := ol hf
                  have Jj31 : ∀ (x30 : Int32) (H : Heap) (locs : List Loc) (ls : Array Slot), HI D S S8 s H locs → lv_has ls 11 [(0, .ref a0), (1, .int x4), (2, .int x5), (5, .int r18), (6, .int x28), (7, .int x22), (8, .int x24)] → j31 x30 = some q14_ → GI p l e (headSpec wsX10_isPattern rmX10_isPattern).room s m ([.ref a0] : List Value).toArray below meth c D S r.1 r.2 H locs 0 0 0 0 (F0 m 171 ls [.int x30]) := by
                    intro x30 H locs ls hH hl hf
                    rw [← e95] at hf
                    refine lv_istore_n (lv' := [(3, .int x30), (0, .ref a0), (1, .int x4), (2, .int x5), (5, .int r18), (6, .int x28), (7, .int x22), (8, .int x24)]) hx hb dX10_isPattern_171 rfl hl (by decide) rfl (fun ls hl => ?_)
                    refine lv_iload_n hx hb dX10_isPattern_172 rfl (lv_at hl 0 rfl) ?_
                    obtain ⟨j33, e43, hf⟩ := ol hf
                    have Jj33 : ∀ (S32 : PS) (H : Heap) (locs : List Loc) (ls : Array Slot), HI D S S32 s H locs → lv_has ls 11 [(0, .ref a0), (2, .int x5), (3, .int x30), (6, .int x28)] → j33 S32 = some q14_ → GI p l e (headSpec wsX10_isPattern rmX10_isPattern).room s m ([.ref a0] : List Value).toArray below meth c D S r.1 r.2 H locs 0 0 0 0 (F0 m 289 ls []) := by
                      intro S32 H locs ls hH hl hf
                      rw [← e43] at hf
                      obtain ⟨x34, e35, hf⟩ := ol hf
                      refine lv_iinc (v := x34) (lv' := [(2, .int x34), (0, .ref a0), (3, .int x30), (6, .int x28)]) hx hb dX10_isPattern_289 hl (k := 1) rfl (by rw [← e35]; rfl) (by decide) rfl (fun ls hl => ?_)
                      refine lv_iload hx hb dX10_isPattern_292 (lv_at hl 3 rfl) ?_
                      refine lv_aload_n hx hb dX10_isPattern_294 rfl (lv_at hl 1 rfl) ?_
                      obtain ⟨ek36, hf⟩ := oc hf
                      refine r_getI hx hb 13 hts (fun w h => List.mem_cons_of_mem _ (mwsX100 w h)) hown hH ek36 (by decide) rfl 5 (by decide) rfl (hts (.fieldLink RX10 145 "HousestyleModel" "typedSize" "I") (List.mem_cons_of_mem _ gw_31_17)) (fun _ h9 => h9) dX10_isPattern_295 ?_
                      obtain ⟨j38, e41, hf⟩ := ol hf
                      have Jj38 : ∀ (x37 : Int32) (H : Heap) (locs : List Loc) (ls : Array Slot), HI D S S32 s H locs → lv_has ls 11 [(0, .ref a0), (2, .int x34), (3, .int x30), (6, .int x28)] → j38 x37 = some q14_ → GI p l e (headSpec wsX10_isPattern rmX10_isPattern).room s m ([.ref a0] : List Value).toArray below meth c D S r.1 r.2 H locs 0 0 0 0 (F0 m 306 ls [.int x37]) := by
                        intro x37 H locs ls hH hl hf
                        rw [← e41] at hf
                        refine lv_istore (lv' := [(4, .int x37), (0, .ref a0), (2, .int x34), (3, .int x30), (6, .int x28)]) hx hb dX10_isPattern_306 hl (by decide) rfl (fun ls hl => ?_)
                        refine lv_iload hx hb dX10_isPattern_308 (lv_at hl 4 rfl) ?_
                        refine lv_iconst (v := 1) hx hb dX10_isPattern_310 (by decide) ?_
                        refine lv_iadd hx hb dX10_isPattern_311 ?_
                        obtain ⟨x39, e40, hf⟩ := ol hf
                        refine lv_topE e40 ?_
                        refine lv_istore_n (lv' := [(1, .int x39), (4, .int x37), (0, .ref a0), (2, .int x34), (3, .int x30), (6, .int x28)]) hx hb dX10_isPattern_312 rfl hl (by decide) rfl (fun ls hl => ?_)
                        refine lv_goto (tgt := 20) hx hb dX10_isPattern_313 (by decide) ?_
                        cases hf
                        exact ih14 x39 x34 x30 x37 S32 hq14 _ _ ls hH (lv_sub hl [2, 0, 3, 4, 1] rfl)
                      refine lv_icmp_ge (tgt := 305) hx hb dX10_isPattern_298 (by decide) (fun c42 => ?_) (fun c42 => ?_)
                      · have hf := ip hf c42
                        refine lv_iconst (v := 0) hx hb dX10_isPattern_305 (by decide) ?_
                        exact Jj38 0 _ _ ls hH (lv_sub hl [1, 0, 2, 3] rfl) hf
                      · have hf := iq hf c42
                        refine lv_iconst (v := 1) hx hb dX10_isPattern_301 (by decide) ?_
                        refine lv_goto (tgt := 306) hx hb dX10_isPattern_302 (by decide) ?_
                        exact Jj38 1 _ _ ls hH (lv_sub hl [1, 0, 2, 3] rfl) hf
                    refine lv_if_eq (tgt := 289) hx hb dX10_isPattern_173 (by decide) (fun c44 => ?_) (fun c44 => ?_)
                    · have hf := ip hf c44
                      exact Jj33 S8 _ _ ls hH (lv_sub hl [1, 3, 0, 5] rfl) hf
                    · have hf := iq hf c44
                      refine lv_aload_n hx hb dX10_isPattern_176 rfl (lv_at hl 1 rfl) ?_
                      refine r_getI hx hb 13 hts (fun w h => List.mem_cons_of_mem _ (mwsX100 w h)) hown hH ek17 (by decide) rfl 6 (by decide) rfl (hts (.fieldLink RX10 135 "HousestyleModel" "rules" "I") (List.mem_cons_of_mem _ gw_31_15)) (fun _ h9 => h9) dX10_isPattern_177 ?_
                      refine lv_bipush (v := 12) hx hb dX10_isPattern_180 (by decide) ?_
                      refine lv_icmp_ge (tgt := 289) hx hb dX10_isPattern_182 (by decide) (fun c45 => ?_) (fun c45 => ?_)
                      · have hf := ip hf c45
                        exact Jj33 S8 _ _ ls hH (lv_sub hl [1, 3, 0, 5] rfl) hf
                      · have hf := iq hf c45
                        refine lv_aload_n hx hb dX10_isPattern_185 rfl (lv_at hl 1 rfl) ?_
                        refine r_getI hx hb 13 hts (fun w h => List.mem_cons_of_mem _ (mwsX100 w h)) hown hH ek17 (by decide) rfl 6 (by decide) rfl (hts (.fieldLink RX10 135 "HousestyleModel" "rules" "I") (List.mem_cons_of_mem _ gw_31_15)) (fun _ h9 => h9) dX10_isPattern_186 ?_
                        refine lv_iconst (v := 3) hx hb dX10_isPattern_189 (by decide) ?_
                        refine lv_imul hx hb dX10_isPattern_190 ?_
                        refine lv_iload_n hx hb dX10_isPattern_191 rfl (lv_at hl 3 rfl) ?_
                        refine lv_iadd hx hb dX10_isPattern_192 ?_
                        obtain ⟨x46, e47, hf⟩ := ol hf
                        refine lv_topE e47 ?_
                        refine lv_istore (lv' := [(9, .int x46), (3, .int x30), (0, .ref a0), (1, .int x4), (2, .int x5), (5, .int r18), (6, .int x28), (7, .int x22), (8, .int x24)]) hx hb dX10_isPattern_193 hl (by decide) rfl (fun ls hl => ?_)
                        refine lv_iconst (v := 0) hx hb dX10_isPattern_195 (by decide) ?_
                        refine lv_istore (lv' := [(10, .int 0), (9, .int x46), (3, .int x30), (0, .ref a0), (1, .int x4), (2, .int x5), (5, .int r18), (6, .int x28), (7, .int x22), (8, .int x24)]) hx hb dX10_isPattern_196 hl (by decide) rfl (fun ls hl => ?_)
                        obtain ⟨k51, e52, hf⟩ := ol hf
                        have Xk51 : ∀ (S50 : PS) (H : Heap) (locs : List Loc) (ls : Array Slot), HI D S S50 s H locs → lv_has ls 11 [(0, .ref a0), (2, .int x5), (3, .int x30), (5, .int r18), (6, .int x28), (7, .int x22), (8, .int x24), (9, .int x46)] → k51 S50 = some q14_ → GI p l e (headSpec wsX10_isPattern rmX10_isPattern).room s m ([.ref a0] : List Value).toArray below meth c D S r.1 r.2 H locs 0 0 0 0 (F0 m 233 ls []) := by
                          intro S50 H locs ls hH hl hf
                          rw [← e52] at hf
                          refine lv_aload_n hx hb dX10_isPattern_233 rfl (lv_at hl 0 rfl) ?_
                          obtain ⟨ek53, hf⟩ := oc hf
                          obtain ⟨a54, e55, hf⟩ := ob hf
                          refine r_getQ hx hb 13 hts (fun w h => List.mem_cons_of_mem _ (mwsX100 w h)) hown hH ek53 (by decide) rfl 9 (by decide) rfl (hts (.fieldLink RX10 26 "HousestyleModel" "sizes" "[I") (List.mem_cons_of_mem _ gw_29_17)) (fun _ h9 => h9) dX10_isPattern_234 e55 ?_
                          refine lv_iload hx hb dX10_isPattern_237 (lv_at hl 7 rfl) ?_
                          refine lv_iload hx hb dX10_isPattern_239 (lv_at hl 3 rfl) ?_
                          obtain ⟨ek56, hf⟩ := oc hf
                          obtain ⟨ei57, hf⟩ := oc hf
                          refine r_iast hx hb hH ek56 ei57 dX10_isPattern_241 (fun H locs hH => ?_)
                          obtain ⟨S58, e59, hf⟩ := ol hf
                          rw [e59] at hH
                          refine lv_aload_n hx hb dX10_isPattern_242 rfl (lv_at hl 0 rfl) ?_
                          obtain ⟨ek60, hf⟩ := oc hf
                          obtain ⟨a61, e62, hf⟩ := ob hf
                          refine r_getQ hx hb 13 hts (fun w h => List.mem_cons_of_mem _ (mwsX100 w h)) hown hH ek60 (by decide) rfl 10 (by decide) rfl (hts (.fieldLink RX10 29 "HousestyleModel" "sorts" "[I") (List.mem_cons_of_mem _ gw_29_18)) (fun _ h9 => h9) dX10_isPattern_243 e62 ?_
                          refine lv_iload hx hb dX10_isPattern_246 (lv_at hl 7 rfl) ?_
                          refine lv_iload hx hb dX10_isPattern_248 (lv_at hl 6 rfl) ?_
                          obtain ⟨j64, e76, hf⟩ := ol hf
                          have Jj64 : ∀ (x63 : Int32) (H : Heap) (locs : List Loc) (ls : Array Slot), HI D S S58 s H locs → lv_has ls 11 [(0, .ref a0), (2, .int x5), (3, .int x30), (6, .int x28)] → j64 x63 = some q14_ → GI p l e (headSpec wsX10_isPattern rmX10_isPattern).room s m ([.ref a0] : List Value).toArray below meth c D S r.1 r.2 H locs 0 0 0 0 (F0 m 276 ls [.int x63, .int x46, .ref a61]) := by
                            intro x63 H locs ls hH hl hf
                            rw [← e76] at hf
                            obtain ⟨ek65, hf⟩ := oc hf
                            obtain ⟨ei66, hf⟩ := oc hf
                            refine r_iast hx hb hH ek65 ei66 dX10_isPattern_276 (fun H locs hH => ?_)
                            obtain ⟨S67, e68, hf⟩ := ol hf
                            rw [e68] at hH
                            refine lv_aload_n hx hb dX10_isPattern_277 rfl (lv_at hl 0 rfl) ?_
                            obtain ⟨ek69, hf⟩ := oc hf
                            obtain ⟨a70, e71, hf⟩ := ob hf
                            refine r_getQ hx hb 13 hts (fun w h => List.mem_cons_of_mem _ (mwsX100 w h)) hown hH ek69 (by decide) rfl 7 (by decide) rfl (hts (.fieldLink RX10 20 "HousestyleModel" "items" "[I") (List.mem_cons_of_mem _ gw_29_15)) (fun _ h9 => h9) dX10_isPattern_278 e71 ?_
                            refine lv_aload_n hx hb dX10_isPattern_281 rfl (lv_at hl 0 rfl) ?_
                            refine r_getI hx hb 13 hts (fun w h => List.mem_cons_of_mem _ (mwsX100 w h)) hown hH ek69 (by decide) rfl 6 (by decide) rfl (hts (.fieldLink RX10 135 "HousestyleModel" "rules" "I") (List.mem_cons_of_mem _ gw_31_15)) (fun _ h9 => h9) dX10_isPattern_282 ?_
                            refine lv_iload_n hx hb dX10_isPattern_285 rfl (lv_at hl 1 rfl) ?_
                            refine lv_iconst (v := 1) hx hb dX10_isPattern_286 (by decide) ?_
                            refine lv_iadd hx hb dX10_isPattern_287 ?_
                            obtain ⟨ek72, hf⟩ := oc hf
                            obtain ⟨ei73, hf⟩ := oc hf
                            refine r_iast hx hb hH ek72 ei73 dX10_isPattern_288 (fun H locs hH => ?_)
                            obtain ⟨S74, e75, hf⟩ := ol hf
                            rw [e75] at hH
                            exact Jj33 S74 _ _ ls hH (lv_sub hl [0, 1, 2, 3] rfl) hf
                          refine lv_if_eq (tgt := 257) hx hb dX10_isPattern_250 (by decide) (fun c77 => ?_) (fun c77 => ?_)
                          · have hf := ip hf c77
                            refine lv_iload hx hb dX10_isPattern_257 (lv_at hl 5 rfl) ?_
                            refine lv_if_ne (tgt := 266) hx hb dX10_isPattern_259 (by decide) (fun c78 => ?_) (fun c78 => ?_)
                            · have hf := iq hf c78
                              refine lv_iload hx hb dX10_isPattern_266 (lv_at hl 3 rfl) ?_
                              refine lv_if_le (tgt := 275) hx hb dX10_isPattern_268 (by decide) (fun c79 => ?_) (fun c79 => ?_)
                              · have hf := ip hf c79
                                refine lv_iconst (v := 2) hx hb dX10_isPattern_275 (by decide) ?_
                                exact Jj64 2 _ _ ls hH (lv_sub hl [0, 1, 2, 4] rfl) hf
                              · have hf := iq hf c79
                                refine lv_iconst (v := 1) hx hb dX10_isPattern_271 (by decide) ?_
                                refine lv_goto (tgt := 276) hx hb dX10_isPattern_272 (by decide) ?_
                                exact Jj64 1 _ _ ls hH (lv_sub hl [0, 1, 2, 4] rfl) hf
                            · have hf := ip hf c78
                              refine lv_iconst (v := 0) hx hb dX10_isPattern_262 (by decide) ?_
                              refine lv_goto (tgt := 276) hx hb dX10_isPattern_263 (by decide) ?_
                              exact Jj64 0 _ _ ls hH (lv_sub hl [0, 1, 2, 4] rfl) hf
                          · have hf := iq hf c77
                            refine lv_iconst (v := 3) hx hb dX10_isPattern_253 (by decide) ?_
                            refine lv_goto (tgt := 276) hx hb dX10_isPattern_254 (by decide) ?_
                            exact Jj64 3 _ _ ls hH (lv_sub hl [0, 1, 2, 4] rfl) hf
                        obtain ⟨o80, eo80, hq80f⟩ := ob hf
                        have Lo80 : ∀ (n : Nat) (x48 : Int32) (S49 : PS), iter (fun (v : Int32 × PS) => f_X10_isPattern_b198 a0 r18 x4 x46 v.1 v.2) n (x48, S49) = some o80 → ∀ (H : Heap) (locs : List Loc) (ls : Array Slot), HI D S S49 s H locs → lv_has ls 11 [(0, .ref a0), (1, .int x4), (2, .int x5), (3, .int x30), (5, .int r18), (6, .int x28), (7, .int x22), (8, .int x24), (9, .int x46), (10, .int x48)] → GI p l e (headSpec wsX10_isPattern rmX10_isPattern).room s m ([.ref a0] : List Value).toArray below meth c D S r.1 r.2 H locs 0 0 0 0 (F0 m 198 ls []) := by
                          intro n
                          induction n with
                          | zero => intro x48 S49 hi; cases hi
                          | succ n ih80 =>
                            intro x48 S49 hi H locs ls hH hl
                            obtain ⟨q80_, hf, hq80⟩ := iter_s hi
                            have hf : f_X10_isPattern_b198 a0 r18 x4 x46 x48 S49 = some q80_ := hf
                            unfold f_X10_isPattern_b198 at hf
                            refine lv_iload hx hb dX10_isPattern_198 (lv_at hl 9 rfl) ?_
                            refine lv_iload hx hb dX10_isPattern_200 (lv_at hl 4 rfl) ?_
                            refine lv_icmp_ge (tgt := 233) hx hb dX10_isPattern_202 (by decide) (fun c81 => ?_) (fun c81 => ?_)
                            · have hf := ip hf c81
                              cases hf
                              have hf9 := itR (K := (fun (v : PS) => k51 v)) hq80 hq80f
                              exact Xk51 S49 _ _ ls hH (lv_sub hl [0, 2, 3, 4, 5, 6, 7, 8] rfl) hf9
                            · have hf := iq hf c81
                              refine lv_aload_n hx hb dX10_isPattern_205 rfl (lv_at hl 0 rfl) ?_
                              obtain ⟨ek82, hf⟩ := oc hf
                              obtain ⟨a83, e84, hf⟩ := ob hf
                              refine r_getQ hx hb 13 hts (fun w h => List.mem_cons_of_mem _ (mwsX100 w h)) hown hH ek82 (by decide) rfl 8 (by decide) rfl (hts (.fieldLink RX10 23 "HousestyleModel" "letters" "[C") (List.mem_cons_of_mem _ gw_29_16)) (fun _ h9 => h9) dX10_isPattern_206 e84 ?_
                              refine lv_iload hx hb dX10_isPattern_209 (lv_at hl 8 rfl) ?_
                              refine lv_bipush (v := 20) hx hb dX10_isPattern_211 (by decide) ?_
                              refine lv_imul hx hb dX10_isPattern_213 ?_
                              refine lv_iload hx hb dX10_isPattern_214 (lv_at hl 9 rfl) ?_
                              refine lv_iadd hx hb dX10_isPattern_216 ?_
                              refine lv_aload_n hx hb dX10_isPattern_217 rfl (lv_at hl 0 rfl) ?_
                              obtain ⟨a85, e86, hf⟩ := ob hf
                              refine r_getQ hx hb 13 hts (fun w h => List.mem_cons_of_mem _ (mwsX100 w h)) hown hH ek82 (by decide) rfl 4 (by decide) rfl (hts (.fieldLink RX10 17 "HousestyleModel" "typed" "[C") (List.mem_cons_of_mem _ gw_29_14)) (fun _ h9 => h9) dX10_isPattern_218 e86 ?_
                              refine lv_iload_n hx hb dX10_isPattern_221 rfl (lv_at hl 1 rfl) ?_
                              refine lv_iload hx hb dX10_isPattern_222 (lv_at hl 9 rfl) ?_
                              refine lv_iadd hx hb dX10_isPattern_224 ?_
                              obtain ⟨ek87, hf⟩ := oc hf
                              obtain ⟨ei88, hf⟩ := oc hf
                              refine r_cald hx hb hH ek87 ei88 dX10_isPattern_225 ?_
                              obtain ⟨ek89, hf⟩ := oc hf
                              obtain ⟨ei90, hf⟩ := oc hf
                              refine r_cast hx hb hH ek89 ei90 dX10_isPattern_226 (fun H locs hH => ?_)
                              obtain ⟨S91, e92, hf⟩ := ol hf
                              rw [e92] at hH
                              obtain ⟨x93, e94, hf⟩ := ol hf
                              refine lv_iinc (v := x93) (lv' := [(10, .int x93), (0, .ref a0), (1, .int x4), (2, .int x5), (3, .int x30), (5, .int r18), (6, .int x28), (7, .int x22), (8, .int x24), (9, .int x46)]) hx hb dX10_isPattern_227 hl (k := 9) rfl (by rw [← e94]; rfl) (by decide) rfl (fun ls hl => ?_)
                              refine lv_goto (tgt := 198) hx hb dX10_isPattern_230 (by decide) ?_
                              cases hf
                              exact ih80 x93 S91 hq80 _ _ ls hH (lv_sub hl [1, 2, 3, 4, 5, 6, 7, 8, 9, 0] rfl)
                        exact Lo80 kF 0 S8 eo80 _ _ ls hH (lv_sub hl [3, 4, 5, 2, 6, 7, 8, 9, 1, 0] rfl)
                  obtain ⟨j96, e98, hf⟩ := ol hf
                  have Jj96 : ∀ (u97 : Unit) (H : Heap) (locs : List Loc) (ls : Array Slot), HI D S S8 s H locs → lv_has ls 11 [(0, .ref a0), (1, .int x4), (2, .int x5), (5, .int r18), (6, .int x28), (7, .int x22), (8, .int x24)] → j96 u97 = some q14_ → GI p l e (headSpec wsX10_isPattern rmX10_isPattern).room s m ([.ref a0] : List Value).toArray below meth c D S r.1 r.2 H locs 0 0 0 0 (F0 m 170 ls []) := by
                    intro u97 H locs ls hH hl hf
                    rw [← e98] at hf
                    refine lv_iconst (v := 0) hx hb dX10_isPattern_170 (by decide) ?_
                    exact Jj31 0 _ _ ls hH (lv_sub hl [0, 1, 2, 3, 4, 5, 6] rfl) hf
                  refine lv_icmp_ge (tgt := 170) hx hb dX10_isPattern_125 (by decide) (fun c99 => ?_) (fun c99 => ?_)
                  · have hf := ip hf c99
                    exact Jj96 () _ _ ls hH (lv_sub hl [1, 2, 3, 4, 0, 5, 6] rfl) hf
                  · have hf := iq hf c99
                    refine lv_iload hx hb dX10_isPattern_128 (lv_at hl 0 rfl) ?_
                    refine lv_iload_n hx hb dX10_isPattern_130 rfl (lv_at hl 2 rfl) ?_
                    refine lv_icmp_le (tgt := 170) hx hb dX10_isPattern_131 (by decide) (fun c100 => ?_) (fun c100 => ?_)
                    · have hf := ip hf c100
                      exact Jj96 () _ _ ls hH (lv_sub hl [1, 2, 3, 4, 0, 5, 6] rfl) hf
                    · have hf := iq hf c100
                      refine lv_iload hx hb dX10_isPattern_134 (lv_at hl 0 rfl) ?_
                      refine lv_aload_n hx hb dX10_isPattern_136 rfl (lv_at hl 1 rfl) ?_
                      refine r_getI hx hb 13 hts (fun w h => List.mem_cons_of_mem _ (mwsX100 w h)) hown hH ek17 (by decide) rfl 5 (by decide) rfl (hts (.fieldLink RX10 145 "HousestyleModel" "typedSize" "I") (List.mem_cons_of_mem _ gw_31_17)) (fun _ h9 => h9) dX10_isPattern_137 ?_
                      obtain ⟨j101, e103, hf⟩ := ol hf
                      have Jj101 : ∀ (u102 : Unit) (H : Heap) (locs : List Loc) (ls : Array Slot), HI D S S8 s H locs → lv_has ls 11 [(0, .ref a0), (1, .int x4), (2, .int x5), (5, .int r18), (6, .int x28), (7, .int x22), (8, .int x24)] → j101 u102 = some q14_ → GI p l e (headSpec wsX10_isPattern rmX10_isPattern).room s m ([.ref a0] : List Value).toArray below meth c D S r.1 r.2 H locs 0 0 0 0 (F0 m 166 ls []) := by
                        intro u102 H locs ls hH hl hf
                        rw [← e103] at hf
                        refine lv_iconst (v := 1) hx hb dX10_isPattern_166 (by decide) ?_
                        refine lv_goto (tgt := 171) hx hb dX10_isPattern_167 (by decide) ?_
                        exact Jj31 1 _ _ ls hH (lv_sub hl [0, 1, 2, 3, 4, 5, 6] rfl) hf
                      refine lv_icmp_eq (tgt := 166) hx hb dX10_isPattern_140 (by decide) (fun c104 => ?_) (fun c104 => ?_)
                      · have hf := ip hf c104
                        exact Jj101 () _ _ ls hH (lv_sub hl [1, 2, 3, 4, 0, 5, 6] rfl) hf
                      · have hf := iq hf c104
                        refine lv_aload_n hx hb dX10_isPattern_143 rfl (lv_at hl 1 rfl) ?_
                        obtain ⟨a105, e106, hf⟩ := ob hf
                        refine r_getQ hx hb 13 hts (fun w h => List.mem_cons_of_mem _ (mwsX100 w h)) hown hH ek17 (by decide) rfl 4 (by decide) rfl (hts (.fieldLink RX10 17 "HousestyleModel" "typed" "[C") (List.mem_cons_of_mem _ gw_29_14)) (fun _ h9 => h9) dX10_isPattern_144 e106 ?_
                        refine lv_iload hx hb dX10_isPattern_147 (lv_at hl 0 rfl) ?_
                        obtain ⟨ek107, hf⟩ := oc hf
                        obtain ⟨ei108, hf⟩ := oc hf
                        refine r_cald hx hb hH ek107 ei108 dX10_isPattern_149 ?_
                        refine lv_bipush (v := 45) hx hb dX10_isPattern_150 (by decide) ?_
                        refine lv_icmp_ne (tgt := 170) hx hb dX10_isPattern_152 (by decide) (fun c109 => ?_) (fun c109 => ?_)
                        · have hf := iq hf c109
                          exact Jj96 () _ _ ls hH (lv_sub hl [1, 2, 3, 4, 0, 5, 6] rfl) hf
                        · have hf := ip hf c109
                          refine lv_iload hx hb dX10_isPattern_155 (lv_at hl 0 rfl) ?_
                          refine lv_iconst (v := 1) hx hb dX10_isPattern_157 (by decide) ?_
                          refine lv_iadd hx hb dX10_isPattern_158 ?_
                          refine lv_aload_n hx hb dX10_isPattern_159 rfl (lv_at hl 1 rfl) ?_
                          refine r_getI hx hb 13 hts (fun w h => List.mem_cons_of_mem _ (mwsX100 w h)) hown hH ek17 (by decide) rfl 5 (by decide) rfl (hts (.fieldLink RX10 145 "HousestyleModel" "typedSize" "I") (List.mem_cons_of_mem _ gw_31_17)) (fun _ h9 => h9) dX10_isPattern_160 ?_
                          refine lv_icmp_ge (tgt := 170) hx hb dX10_isPattern_163 (by decide) (fun c110 => ?_) (fun c110 => ?_)
                          · have hf := ip hf c110
                            exact Jj96 () _ _ ls hH (lv_sub hl [1, 2, 3, 4, 0, 5, 6] rfl) hf
                          · have hf := iq hf c110
                            exact Jj101 () _ _ ls hH (lv_sub hl [1, 2, 3, 4, 0, 5, 6] rfl) hf
                obtain ⟨j112, e114, hf⟩ := ol hf
                have Jj112 : ∀ (u113 : Unit) (H : Heap) (locs : List Loc) (ls : Array Slot), HI D S S8 s H locs → lv_has ls 11 [(0, .ref a0), (1, .int x4), (2, .int x5), (5, .int r18), (7, .int x22), (8, .int x24)] → j112 u113 = some q14_ → GI p l e (headSpec wsX10_isPattern rmX10_isPattern).room s m ([.ref a0] : List Value).toArray below meth c D S r.1 r.2 H locs 0 0 0 0 (F0 m 115 ls [.int x20]) := by
                  intro u113 H locs ls hH hl hf
                  rw [← e114] at hf
                  refine lv_iconst (v := 1) hx hb dX10_isPattern_115 (by decide) ?_
                  refine lv_goto (tgt := 120) hx hb dX10_isPattern_116 (by decide) ?_
                  exact Jj27 1 _ _ ls hH (lv_sub hl [0, 1, 2, 3, 4, 5] rfl) hf
                refine lv_if_ne (tgt := 115) hx hb dX10_isPattern_107 (by decide) (fun c115 => ?_) (fun c115 => ?_)
                · have hf := iq hf c115
                  exact Jj112 () _ _ ls hH (lv_sub hl [1, 2, 3, 4, 6, 0] rfl) hf
                · have hf := ip hf c115
                  refine lv_iload hx hb dX10_isPattern_110 (lv_at hl 0 rfl) ?_
                  refine lv_if_eq (tgt := 119) hx hb dX10_isPattern_112 (by decide) (fun c116 => ?_) (fun c116 => ?_)
                  · have hf := ip hf c116
                    refine lv_iconst (v := 0) hx hb dX10_isPattern_119 (by decide) ?_
                    exact Jj27 0 _ _ ls hH (lv_sub hl [1, 2, 3, 4, 6, 0] rfl) hf
                  · have hf := iq hf c116
                    exact Jj112 () _ _ ls hH (lv_sub hl [1, 2, 3, 4, 6, 0] rfl) hf
              obtain ⟨j118, e120, hf⟩ := ol hf
              have Jj118 : ∀ (u119 : Unit) (H : Heap) (locs : List Loc) (ls : Array Slot), HI D S S8 s H locs → lv_has ls 11 [(0, .ref a0), (1, .int x4), (2, .int x5), (5, .int r18), (6, .int x20), (7, .int x22)] → j118 u119 = some q14_ → GI p l e (headSpec wsX10_isPattern rmX10_isPattern).room s m ([.ref a0] : List Value).toArray below meth c D S r.1 r.2 H locs 0 0 0 0 (F0 m 100 ls []) := by
                intro u119 H locs ls hH hl hf
                rw [← e120] at hf
                refine lv_iconst (v := 0) hx hb dX10_isPattern_100 (by decide) ?_
                exact Jj25 0 _ _ ls hH (lv_sub hl [0, 1, 2, 3, 4, 5] rfl) hf
              refine lv_if_ne (tgt := 100) hx hb dX10_isPattern_72 (by decide) (fun c121 => ?_) (fun c121 => ?_)
              · have hf := iq hf c121
                exact Jj118 () _ _ ls hH (lv_sub hl [1, 2, 3, 4, 5, 0] rfl) hf
              · have hf := ip hf c121
                refine lv_iload hx hb dX10_isPattern_75 (lv_at hl 5 rfl) ?_
                refine lv_aload_n hx hb dX10_isPattern_77 rfl (lv_at hl 1 rfl) ?_
                refine r_getI hx hb 13 hts (fun w h => List.mem_cons_of_mem _ (mwsX100 w h)) hown hH ek17 (by decide) rfl 5 (by decide) rfl (hts (.fieldLink RX10 145 "HousestyleModel" "typedSize" "I") (List.mem_cons_of_mem _ gw_31_17)) (fun _ h9 => h9) dX10_isPattern_78 ?_
                refine lv_icmp_ge (tgt := 100) hx hb dX10_isPattern_81 (by decide) (fun c122 => ?_) (fun c122 => ?_)
                · have hf := ip hf c122
                  exact Jj118 () _ _ ls hH (lv_sub hl [1, 2, 3, 4, 5, 0] rfl) hf
                · have hf := iq hf c122
                  refine lv_aload_n hx hb dX10_isPattern_84 rfl (lv_at hl 1 rfl) ?_
                  obtain ⟨a123, e124, hf⟩ := ob hf
                  refine r_getQ hx hb 13 hts (fun w h => List.mem_cons_of_mem _ (mwsX100 w h)) hown hH ek17 (by decide) rfl 4 (by decide) rfl (hts (.fieldLink RX10 17 "HousestyleModel" "typed" "[C") (List.mem_cons_of_mem _ gw_29_14)) (fun _ h9 => h9) dX10_isPattern_85 e124 ?_
                  refine lv_iload hx hb dX10_isPattern_88 (lv_at hl 5 rfl) ?_
                  obtain ⟨ek125, hf⟩ := oc hf
                  obtain ⟨ei126, hf⟩ := oc hf
                  refine r_cald hx hb hH ek125 ei126 dX10_isPattern_90 ?_
                  refine lv_bipush (v := 35) hx hb dX10_isPattern_91 (by decide) ?_
                  refine lv_icmp_ne (tgt := 100) hx hb dX10_isPattern_93 (by decide) (fun c127 => ?_) (fun c127 => ?_)
                  · have hf := iq hf c127
                    exact Jj118 () _ _ ls hH (lv_sub hl [1, 2, 3, 4, 5, 0] rfl) hf
                  · have hf := ip hf c127
                    refine lv_iconst (v := 1) hx hb dX10_isPattern_96 (by decide) ?_
                    refine lv_goto (tgt := 101) hx hb dX10_isPattern_97 (by decide) ?_
                    exact Jj25 1 _ _ ls hH (lv_sub hl [1, 2, 3, 4, 5, 0] rfl) hf
            obtain ⟨j129, e131, hf⟩ := ol hf
            have Jj129 : ∀ (u130 : Unit) (H : Heap) (locs : List Loc) (ls : Array Slot), HI D S S8 s H locs → lv_has ls 11 [(0, .ref a0), (1, .int x4), (2, .int x5), (5, .int r18), (6, .int x20)] → j129 u130 = some q14_ → GI p l e (headSpec wsX10_isPattern rmX10_isPattern).room s m ([.ref a0] : List Value).toArray below meth c D S r.1 r.2 H locs 0 0 0 0 (F0 m 67 ls []) := by
              intro u130 H locs ls hH hl hf
              rw [← e131] at hf
              refine lv_iconst (v := 0) hx hb dX10_isPattern_67 (by decide) ?_
              exact Jj23 0 _ _ ls hH (lv_sub hl [0, 1, 2, 3, 4] rfl) hf
            refine lv_icmp_ge (tgt := 67) hx hb dX10_isPattern_48 (by decide) (fun c132 => ?_) (fun c132 => ?_)
            · have hf := ip hf c132
              exact Jj129 () _ _ ls hH (lv_sub hl [2, 3, 4, 1, 0] rfl) hf
            · have hf := iq hf c132
              refine lv_aload_n hx hb dX10_isPattern_51 rfl (lv_at hl 2 rfl) ?_
              obtain ⟨a133, e134, hf⟩ := ob hf
              refine r_getQ hx hb 13 hts (fun w h => List.mem_cons_of_mem _ (mwsX100 w h)) hown hH ek17 (by decide) rfl 4 (by decide) rfl (hts (.fieldLink RX10 17 "HousestyleModel" "typed" "[C") (List.mem_cons_of_mem _ gw_29_14)) (fun _ h9 => h9) dX10_isPattern_52 e134 ?_
              refine lv_iload hx hb dX10_isPattern_55 (lv_at hl 0 rfl) ?_
              obtain ⟨ek135, hf⟩ := oc hf
              obtain ⟨ei136, hf⟩ := oc hf
              refine r_cald hx hb hH ek135 ei136 dX10_isPattern_57 ?_
              refine lv_bipush (v := 42) hx hb dX10_isPattern_58 (by decide) ?_
              refine lv_icmp_ne (tgt := 67) hx hb dX10_isPattern_60 (by decide) (fun c137 => ?_) (fun c137 => ?_)
              · have hf := iq hf c137
                exact Jj129 () _ _ ls hH (lv_sub hl [2, 3, 4, 1, 0] rfl) hf
              · have hf := ip hf c137
                refine lv_iconst (v := 1) hx hb dX10_isPattern_63 (by decide) ?_
                refine lv_goto (tgt := 68) hx hb dX10_isPattern_64 (by decide) ?_
                exact Jj23 1 _ _ ls hH (lv_sub hl [2, 3, 4, 1, 0] rfl) hf
    exact Lo14 kF 0 0 x2 1 S eo14 _ _ ls hH (lv_sub hl [2, 3, 4, 1, 0] rfl)
  refine lv_if_le (tgt := 15) hx hb dX10_isPattern_8 (by decide) (fun c139 => ?_) (fun c139 => ?_)
  · have hf := ip hf c139
    refine lv_iconst (v := 0) hx hb dX10_isPattern_15 (by decide) ?_
    exact Jj3 0 _ _ ls hH (lv_sub hl [2, 1, 0] rfl) hf
  · have hf := iq hf c139
    refine lv_iconst (v := 1) hx hb dX10_isPattern_11 (by decide) ?_
    refine lv_goto (tgt := 16) hx hb dX10_isPattern_12 (by decide) ?_
    exact Jj3 1 _ _ ls hH (lv_sub hl [2, 1, 0] rfl) hf
set_option maxRecDepth 100000 in
def f_X10_rule (S : PS) (a0 : Nat) (p1 : Int32) (p2 : Int32) (p3 : Int32) : Option (PS × Int32) := lt (fun (x1 : Int32) => lt (fun (x3 : Int32) (S4 : PS) => if kK S4 a0 = 14 then (lt (wI S4 a0 0 x3) fun S7 => if kK S7 a0 = 14 then (if (kI S7 a0 0) ≤ 0 then ((kQ S7 a0 11).bind fun a11 => if kK S7 a11 = 102 then (if ¬ ((kI S7 a0 6) < 0 ∨ kN S7 a11 ≤ (kI S7 a0 6).toNatClampNeg) then (lt (wI S7 a11 (kI S7 a0 6).toNatClampNeg (vp_nar .char p1)) fun S15 => if kK S15 a0 = 14 then ((kQ S15 a0 12).bind fun a18 => if kK S15 a18 = 103 then (if ¬ ((kI S15 a0 6) < 0 ∨ kN S15 a18 ≤ (kI S15 a0 6).toNatClampNeg) then (lt (wI S15 a18 (kI S15 a0 6).toNatClampNeg (vp_nar .boolean p2)) fun S22 => if kK S22 a0 = 14 then ((kQ S22 a0 13).bind fun a25 => if kK S22 a25 = 101 then (if ¬ ((kI S22 a0 6) < 0 ∨ kN S22 a25 ≤ (kI S22 a0 6).toNatClampNeg) then (lt (wI S22 a25 (kI S22 a0 6).toNatClampNeg p3) fun S29 => if kK S29 a0 = 14 then (lt (wI S29 a0 6 ((kI S29 a0 6) + 1)) fun S32 => if kK S32 a0 = 14 then (lt (wI S32 a0 5 0) fun S35 => if kK S35 a0 = 14 then ((f_X10_marksAll S35 a0).bind fun r38 => if kK r38 a0 = 14 then (some (r38, ((kI r38 a0 6) - 1))) else none) else none) else none) else none) else none) else none) else none) else none) else none) else none) else none) else none) else (some (S7, 0))) else none) else none) fun j5 => if x1 = 0 then (j5 1 S) else (if kK S a0 = 14 then ((f_X10_isPattern S a0).bind fun r44 => lt r44.1 fun S46 => if r44.2 = 0 then (j5 2 S46) else (if kK S46 a0 = 14 then (if (kI S46 a0 6) = (12 : Int32) then (j5 3 S46) else (j5 0 S46)) else none)) else none)) fun j2 => lt (fun (u53 : Unit) => j2 0) fun j52 => lt (fun (u59 : Unit) => (f_X10_in S p3 1 9).bind fun r56 => if r56 = 0 then (j52 ()) else (j2 1)) fun j55 => if p1 = (97 : Int32) then (j55 ()) else (if p1 = (115 : Int32) then (j55 ()) else (if p1 = (109 : Int32) then (j55 ()) else (j52 ())))
abbrev rmX10_rule : Room := { frames := 4, cells := 0, slots := 0, locals := 86 }
set_option maxHeartbeats 4000000 in
set_option maxRecDepth 100000 in
theorem c_X10_rule (l : Launch) (D : va_G × Nat) (S : PS) (a0 : Nat) (p1 : Int32) (p2 : Int32) (p3 : Int32) (r : PS × Int32) (hf : f_X10_rule S a0 p1 p2 p3 = some r) : MI l D yX10_rule wsX10_rule rmX10_rule S [.ref a0, .int p1, .int p2, .int p3] r.1 r.2 0 0 := by
  unfold f_X10_rule at hf
  refine Met.ofW (cc := cX10_rule) (maxL := 5) (ret := (some .int)) (by decide) rfl ?_
  intro p e s m args below meth c s₁ B hml hv
  obtain ⟨rfl, hH0, hNE⟩ := hv
  have hx := B.exec
  have hb := B.bytes
  have hr := B.returns
  have hts := atoms_spec (ws := wsX10_rule) B.pre
  have hown : s.vm.findClass RX10 = some m.cls := findClass_of_methodNamed B.named
  have hlocks := B.notSynchronized
  have hH : HI D S S s s.heap [] := HI.start hH0
  have hl := lv_entry ([.ref a0, .int p1, .int p2, .int p3]) (n := 5) (Nat.le_of_ble_eq_true rfl)
  rw [lg_entry_eq]
  generalize (lg_sl ([.ref a0, .int p1, .int p2, .int p3]) ++ List.replicate (5 - (lg_sl ([.ref a0, .int p1, .int p2, .int p3])).length) Slot.unset).toArray = ls at hl ⊢
  have hl : lv_has ls 5 [(0, .ref a0), (1, .int p1), (2, .int p2), (3, .int p3)] := hl
  refine lv_iload_n hx hb dX10_rule_0 rfl (lv_at hl 1 rfl) ?_
  refine lv_bipush (v := 97) hx hb dX10_rule_1 (by decide) ?_
  obtain ⟨j2, e51, hf⟩ := ol hf
  have Jj2 : ∀ (x1 : Int32) (H : Heap) (locs : List Loc) (ls : Array Slot), HI D S S s H locs → lv_has ls 5 [(0, .ref a0), (1, .int p1), (2, .int p2), (3, .int p3)] → j2 x1 = some r → GI p l e (headSpec wsX10_rule rmX10_rule).room s m ([.ref a0, .int p1, .int p2, .int p3] : List Value).toArray below meth c D S r.1 r.2 H locs 0 0 0 0 (F0 m 33 ls [.int x1]) := by
    intro x1 H locs ls hH hl hf
    rw [← e51] at hf
    refine lv_istore (lv' := [(4, .int x1), (0, .ref a0), (1, .int p1), (2, .int p2), (3, .int p3)]) hx hb dX10_rule_33 hl (by decide) rfl (fun ls hl => ?_)
    refine lv_aload_n hx hb dX10_rule_35 rfl (lv_at hl 1 rfl) ?_
    refine lv_iload hx hb dX10_rule_36 (lv_at hl 0 rfl) ?_
    obtain ⟨j5, e41, hf⟩ := ol hf
    have Jj5 : ∀ (x3 : Int32) (S4 : PS) (H : Heap) (locs : List Loc) (ls : Array Slot), HI D S S4 s H locs → lv_has ls 5 [(0, .ref a0), (1, .int p1), (2, .int p2), (3, .int p3)] → j5 x3 S4 = some r → GI p l e (headSpec wsX10_rule rmX10_rule).room s m ([.ref a0, .int p1, .int p2, .int p3] : List Value).toArray below meth c D S r.1 r.2 H locs 0 0 0 0 (F0 m 70 ls [.int x3, .ref a0]) := by
      intro x3 S4 H locs ls hH hl hf
      rw [← e41] at hf
      obtain ⟨ek6, hf⟩ := oc hf
      refine r_putI hx hb 13 hts (fun w h => List.mem_cons_of_mem _ (mwsX100 w h)) tyX10 tyX10_ok nmX10 hown hH ek6 (by decide) rfl 0 (by decide) rfl (hts (.fieldLink RX10 123 "HousestyleModel" "thrown" "I") (List.mem_cons_of_mem _ gw_31_3)) (fun _ h9 => h9) (Or.inl rfl) (ty := .int) (by decide +kernel) rfl rfl dX10_rule_70 (fun H locs hH => ?_)
      obtain ⟨S7, e8, hf⟩ := ol hf
      rw [e8] at hH
      refine lv_aload_n hx hb dX10_rule_73 rfl (lv_at hl 0 rfl) ?_
      obtain ⟨ek9, hf⟩ := oc hf
      refine r_getI hx hb 13 hts (fun w h => List.mem_cons_of_mem _ (mwsX100 w h)) hown hH ek9 (by decide) rfl 0 (by decide) rfl (hts (.fieldLink RX10 123 "HousestyleModel" "thrown" "I") (List.mem_cons_of_mem _ gw_31_3)) (fun _ h9 => h9) dX10_rule_74 ?_
      refine lv_if_le (tgt := 82) hx hb dX10_rule_77 (by decide) (fun c10 => ?_) (fun c10 => ?_)
      · have hf := ip hf c10
        refine lv_aload_n hx hb dX10_rule_82 rfl (lv_at hl 0 rfl) ?_
        obtain ⟨a11, e12, hf⟩ := ob hf
        refine r_getQ hx hb 13 hts (fun w h => List.mem_cons_of_mem _ (mwsX100 w h)) hown hH ek9 (by decide) rfl 11 (by decide) rfl (hts (.fieldLink RX10 32 "HousestyleModel" "conditions" "[C") (List.mem_cons_of_mem _ gw_29_19)) (fun _ h9 => h9) dX10_rule_83 e12 ?_
        refine lv_aload_n hx hb dX10_rule_86 rfl (lv_at hl 0 rfl) ?_
        refine r_getI hx hb 13 hts (fun w h => List.mem_cons_of_mem _ (mwsX100 w h)) hown hH ek9 (by decide) rfl 6 (by decide) rfl (hts (.fieldLink RX10 135 "HousestyleModel" "rules" "I") (List.mem_cons_of_mem _ gw_31_15)) (fun _ h9 => h9) dX10_rule_87 ?_
        refine lv_iload_n hx hb dX10_rule_90 rfl (lv_at hl 1 rfl) ?_
        obtain ⟨ek13, hf⟩ := oc hf
        obtain ⟨ei14, hf⟩ := oc hf
        refine r_cast hx hb hH ek13 ei14 dX10_rule_91 (fun H locs hH => ?_)
        obtain ⟨S15, e16, hf⟩ := ol hf
        rw [e16] at hH
        refine lv_aload_n hx hb dX10_rule_92 rfl (lv_at hl 0 rfl) ?_
        obtain ⟨ek17, hf⟩ := oc hf
        obtain ⟨a18, e19, hf⟩ := ob hf
        refine r_getQ hx hb 13 hts (fun w h => List.mem_cons_of_mem _ (mwsX100 w h)) hown hH ek17 (by decide) rfl 12 (by decide) rfl (hts (.fieldLink RX10 35 "HousestyleModel" "inQuotes" "[Z") (List.mem_cons_of_mem _ gw_29_21)) (fun _ h9 => h9) dX10_rule_93 e19 ?_
        refine lv_aload_n hx hb dX10_rule_96 rfl (lv_at hl 0 rfl) ?_
        refine r_getI hx hb 13 hts (fun w h => List.mem_cons_of_mem _ (mwsX100 w h)) hown hH ek17 (by decide) rfl 6 (by decide) rfl (hts (.fieldLink RX10 135 "HousestyleModel" "rules" "I") (List.mem_cons_of_mem _ gw_31_15)) (fun _ h9 => h9) dX10_rule_97 ?_
        refine lv_iload_n hx hb dX10_rule_100 rfl (lv_at hl 2 rfl) ?_
        obtain ⟨ek20, hf⟩ := oc hf
        obtain ⟨ei21, hf⟩ := oc hf
        refine r_zast hx hb hH ek20 ei21 dX10_rule_101 (fun H locs hH => ?_)
        obtain ⟨S22, e23, hf⟩ := ol hf
        rw [e23] at hH
        refine lv_aload_n hx hb dX10_rule_102 rfl (lv_at hl 0 rfl) ?_
        obtain ⟨ek24, hf⟩ := oc hf
        obtain ⟨a25, e26, hf⟩ := ob hf
        refine r_getQ hx hb 13 hts (fun w h => List.mem_cons_of_mem _ (mwsX100 w h)) hown hH ek24 (by decide) rfl 13 (by decide) rfl (hts (.fieldLink RX10 39 "HousestyleModel" "ranks" "[I") (List.mem_cons_of_mem _ gw_29_22)) (fun _ h9 => h9) dX10_rule_103 e26 ?_
        refine lv_aload_n hx hb dX10_rule_106 rfl (lv_at hl 0 rfl) ?_
        refine r_getI hx hb 13 hts (fun w h => List.mem_cons_of_mem _ (mwsX100 w h)) hown hH ek24 (by decide) rfl 6 (by decide) rfl (hts (.fieldLink RX10 135 "HousestyleModel" "rules" "I") (List.mem_cons_of_mem _ gw_31_15)) (fun _ h9 => h9) dX10_rule_107 ?_
        refine lv_iload_n hx hb dX10_rule_110 rfl (lv_at hl 3 rfl) ?_
        obtain ⟨ek27, hf⟩ := oc hf
        obtain ⟨ei28, hf⟩ := oc hf
        refine r_iast hx hb hH ek27 ei28 dX10_rule_111 (fun H locs hH => ?_)
        obtain ⟨S29, e30, hf⟩ := ol hf
        rw [e30] at hH
        refine lv_aload_n hx hb dX10_rule_112 rfl (lv_at hl 0 rfl) ?_
        refine lv_dup hx hb dX10_rule_113 rfl ?_
        obtain ⟨ek31, hf⟩ := oc hf
        refine r_getI hx hb 13 hts (fun w h => List.mem_cons_of_mem _ (mwsX100 w h)) hown hH ek31 (by decide) rfl 6 (by decide) rfl (hts (.fieldLink RX10 135 "HousestyleModel" "rules" "I") (List.mem_cons_of_mem _ gw_31_15)) (fun _ h9 => h9) dX10_rule_114 ?_
        refine lv_iconst (v := 1) hx hb dX10_rule_117 (by decide) ?_
        refine lv_iadd hx hb dX10_rule_118 ?_
        refine r_putI hx hb 13 hts (fun w h => List.mem_cons_of_mem _ (mwsX100 w h)) tyX10 tyX10_ok nmX10 hown hH ek31 (by decide) rfl 6 (by decide) rfl (hts (.fieldLink RX10 135 "HousestyleModel" "rules" "I") (List.mem_cons_of_mem _ gw_31_15)) (fun _ h9 => h9) (Or.inl rfl) (ty := .int) (by decide +kernel) rfl rfl dX10_rule_119 (fun H locs hH => ?_)
        obtain ⟨S32, e33, hf⟩ := ol hf
        rw [e33] at hH
        refine lv_aload_n hx hb dX10_rule_122 rfl (lv_at hl 0 rfl) ?_
        refine lv_iconst (v := 0) hx hb dX10_rule_123 (by decide) ?_
        obtain ⟨ek34, hf⟩ := oc hf
        refine r_putI hx hb 13 hts (fun w h => List.mem_cons_of_mem _ (mwsX100 w h)) tyX10 tyX10_ok nmX10 hown hH ek34 (by decide) rfl 5 (by decide) rfl (hts (.fieldLink RX10 145 "HousestyleModel" "typedSize" "I") (List.mem_cons_of_mem _ gw_31_17)) (fun _ h9 => h9) (Or.inl rfl) (ty := .int) (by decide +kernel) rfl rfl dX10_rule_124 (fun H locs hH => ?_)
        obtain ⟨S35, e36, hf⟩ := ol hf
        rw [e36] at hH
        refine lv_aload_n hx hb dX10_rule_127 rfl (lv_at hl 0 rfl) ?_
        obtain ⟨ek37, hf⟩ := oc hf
        obtain ⟨r38, e39, hf⟩ := ob hf
        refine r_callVv (As := []) ⟨hx, hb, hml, hown, hts⟩ (c_X10_marksAll l D S35 a0 r38 e39) (cwV 0 hts (gwV gw_33_14 gw_33_15 gw_33_16 gw_31_10 gw_32_10) rfl rfl rfl (by decide +kernel) ⟨Nat.le_of_ble_eq_true rfl, Nat.le_of_ble_eq_true rfl⟩) hH hNE 13 ek37 (by decide) rfl rfl rfl hl.1 rfl (Nat.le_of_ble_eq_true rfl) dX10_rule_128 ⟨(Nat.le_of_ble_eq_true rfl), (Nat.le_of_ble_eq_true rfl)⟩ (fun H locs hH => ?_)
        refine lv_aload_n hx hb dX10_rule_131 rfl (lv_at hl 0 rfl) ?_
        obtain ⟨ek40, hf⟩ := oc hf
        refine r_getI hx hb 13 hts (fun w h => List.mem_cons_of_mem _ (mwsX100 w h)) hown hH ek40 (by decide) rfl 6 (by decide) rfl (hts (.fieldLink RX10 135 "HousestyleModel" "rules" "I") (List.mem_cons_of_mem _ gw_31_15)) (fun _ h9 => h9) dX10_rule_132 ?_
        refine lv_iconst (v := 1) hx hb dX10_rule_135 (by decide) ?_
        refine lv_isub hx hb dX10_rule_136 ?_
        have hr9 := Option.some.inj hf
        subst hr9
        exact e_i hx hb hr hlocks hH dX10_rule_137
      · have hf := iq hf c10
        refine lv_iconst (v := 0) hx hb dX10_rule_80 (by decide) ?_
        have hr9 := Option.some.inj hf
        subst hr9
        exact e_i hx hb hr hlocks hH dX10_rule_81
    refine lv_if_ne (tgt := 45) hx hb dX10_rule_38 (by decide) (fun c42 => ?_) (fun c42 => ?_)
    · have hf := iq hf c42
      refine lv_aload_n hx hb dX10_rule_45 rfl (lv_at hl 1 rfl) ?_
      obtain ⟨ek43, hf⟩ := oc hf
      obtain ⟨r44, e45, hf⟩ := ob hf
      refine r_callVi (As := []) ⟨hx, hb, hml, hown, hts⟩ (c_X10_isPattern l D S a0 r44 e45) (cwV 0 hts (gwV gw_33_11 gw_33_12 gw_33_13 gw_31_10 gw_33_6) rfl rfl rfl (by decide +kernel) ⟨Nat.le_of_ble_eq_true rfl, Nat.le_of_ble_eq_true rfl⟩) hH hNE 13 ek43 (by decide) rfl rfl rfl hl.1 rfl (Nat.le_of_ble_eq_true rfl) dX10_rule_46 ⟨(Nat.le_of_ble_eq_true rfl), (Nat.le_of_ble_eq_true rfl)⟩ (fun H locs hH => ?_)
      obtain ⟨S46, e47, hf⟩ := ol hf
      rw [e47] at hH
      refine lv_if_ne (tgt := 56) hx hb dX10_rule_49 (by decide) (fun c48 => ?_) (fun c48 => ?_)
      · have hf := iq hf c48
        refine lv_aload_n hx hb dX10_rule_56 rfl (lv_at hl 1 rfl) ?_
        obtain ⟨ek49, hf⟩ := oc hf
        refine r_getI hx hb 13 hts (fun w h => List.mem_cons_of_mem _ (mwsX100 w h)) hown hH ek49 (by decide) rfl 6 (by decide) rfl (hts (.fieldLink RX10 135 "HousestyleModel" "rules" "I") (List.mem_cons_of_mem _ gw_31_15)) (fun _ h9 => h9) dX10_rule_57 ?_
        refine lv_bipush (v := 12) hx hb dX10_rule_60 (by decide) ?_
        refine lv_icmp_ne (tgt := 69) hx hb dX10_rule_62 (by decide) (fun c50 => ?_) (fun c50 => ?_)
        · have hf := iq hf c50
          refine lv_iconst (v := 0) hx hb dX10_rule_69 (by decide) ?_
          exact Jj5 0 S46 _ _ ls hH (lv_sub hl [1, 2, 3, 4] rfl) hf
        · have hf := ip hf c50
          refine lv_iconst (v := 3) hx hb dX10_rule_65 (by decide) ?_
          refine lv_goto (tgt := 70) hx hb dX10_rule_66 (by decide) ?_
          exact Jj5 3 S46 _ _ ls hH (lv_sub hl [1, 2, 3, 4] rfl) hf
      · have hf := ip hf c48
        refine lv_iconst (v := 2) hx hb dX10_rule_52 (by decide) ?_
        refine lv_goto (tgt := 70) hx hb dX10_rule_53 (by decide) ?_
        exact Jj5 2 S46 _ _ ls hH (lv_sub hl [1, 2, 3, 4] rfl) hf
    · have hf := ip hf c42
      refine lv_iconst (v := 1) hx hb dX10_rule_41 (by decide) ?_
      refine lv_goto (tgt := 70) hx hb dX10_rule_42 (by decide) ?_
      exact Jj5 1 S _ _ ls hH (lv_sub hl [1, 2, 3, 4] rfl) hf
  obtain ⟨j52, e54, hf⟩ := ol hf
  have Jj52 : ∀ (u53 : Unit) (H : Heap) (locs : List Loc) (ls : Array Slot), HI D S S s H locs → lv_has ls 5 [(0, .ref a0), (1, .int p1), (2, .int p2), (3, .int p3)] → j52 u53 = some r → GI p l e (headSpec wsX10_rule rmX10_rule).room s m ([.ref a0, .int p1, .int p2, .int p3] : List Value).toArray below meth c D S r.1 r.2 H locs 0 0 0 0 (F0 m 32 ls []) := by
    intro u53 H locs ls hH hl hf
    rw [← e54] at hf
    refine lv_iconst (v := 0) hx hb dX10_rule_32 (by decide) ?_
    exact Jj2 0 _ _ ls hH (lv_sub hl [0, 1, 2, 3] rfl) hf
  obtain ⟨j55, e60, hf⟩ := ol hf
  have Jj55 : ∀ (u59 : Unit) (H : Heap) (locs : List Loc) (ls : Array Slot), HI D S S s H locs → lv_has ls 5 [(0, .ref a0), (1, .int p1), (2, .int p2), (3, .int p3)] → j55 u59 = some r → GI p l e (headSpec wsX10_rule rmX10_rule).room s m ([.ref a0, .int p1, .int p2, .int p3] : List Value).toArray below meth c D S r.1 r.2 H locs 0 0 0 0 (F0 m 18 ls []) := by
    intro u59 H locs ls hH hl hf
    rw [← e60] at hf
    refine lv_iload_n hx hb dX10_rule_18 rfl (lv_at hl 3 rfl) ?_
    refine lv_iconst (v := 1) hx hb dX10_rule_19 (by decide) ?_
    refine lv_bipush (v := 9) hx hb dX10_rule_20 (by decide) ?_
    obtain ⟨r56, e57, hf⟩ := ob hf
    refine r_callSi (As := [.int p3, .int 1, .int 9]) ⟨hx, hb, hml, hown, hts⟩ (c_X10_in l D S p3 1 9 r56 e57) (va_cwS 3 hts (gwS gw_31_8 gw_31_9 gw_31_10 gw_31_4) rfl rfl rfl (by decide +kernel) ⟨Nat.le_of_ble_eq_true rfl, Nat.le_of_ble_eq_true rfl⟩) hH hNE rfl hl.1 rfl (Nat.le_of_ble_eq_true rfl) dX10_rule_22 ⟨(Nat.le_of_ble_eq_true rfl), (Nat.le_of_ble_eq_true rfl)⟩ (fun H locs hH => ?_)
    refine lv_if_eq (tgt := 32) hx hb dX10_rule_25 (by decide) (fun c58 => ?_) (fun c58 => ?_)
    · have hf := ip hf c58
      exact Jj52 () _ _ ls hH (lv_sub hl [0, 1, 2, 3] rfl) hf
    · have hf := iq hf c58
      refine lv_iconst (v := 1) hx hb dX10_rule_28 (by decide) ?_
      refine lv_goto (tgt := 33) hx hb dX10_rule_29 (by decide) ?_
      exact Jj2 1 _ _ ls hH (lv_sub hl [0, 1, 2, 3] rfl) hf
  refine lv_icmp_eq (tgt := 18) hx hb dX10_rule_3 (by decide) (fun c61 => ?_) (fun c61 => ?_)
  · have hf := ip hf c61
    exact Jj55 () _ _ ls hH (lv_sub hl [0, 1, 2, 3] rfl) hf
  · have hf := iq hf c61
    refine lv_iload_n hx hb dX10_rule_6 rfl (lv_at hl 1 rfl) ?_
    refine lv_bipush (v := 115) hx hb dX10_rule_7 (by decide) ?_
    refine lv_icmp_eq (tgt := 18) hx hb dX10_rule_9 (by decide) (fun c62 => ?_) (fun c62 => ?_)
    · have hf := ip hf c62
      exact Jj55 () _ _ ls hH (lv_sub hl [0, 1, 2, 3] rfl) hf
    · have hf := iq hf c62
      refine lv_iload_n hx hb dX10_rule_12 rfl (lv_at hl 1 rfl) ?_
      refine lv_bipush (v := 109) hx hb dX10_rule_13 (by decide) ?_
      refine lv_icmp_ne (tgt := 32) hx hb dX10_rule_15 (by decide) (fun c63 => ?_) (fun c63 => ?_)
      · have hf := iq hf c63
        exact Jj52 () _ _ ls hH (lv_sub hl [0, 1, 2, 3] rfl) hf
      · have hf := ip hf c63
        exact Jj55 () _ _ ls hH (lv_sub hl [0, 1, 2, 3] rfl) hf
set_option maxRecDepth 100000 in
def f_X10_except_b85 (a0 : Nat) (x20 : Int32) (x22 : Int32) (S23 : PS) : Option ((Int32 × PS) ⊕ ((PS))) := if kK S23 a0 = 14 then (if (kI S23 a0 5) ≤ x22 then (some (.inr S23)) else ((kQ S23 a0 15).bind fun a56 => (kQ S23 a0 4).bind fun a58 => if kK S23 a58 = 102 then (if ¬ (x22 < 0 ∨ kN S23 a58 ≤ x22.toNatClampNeg) then (if kK S23 a56 = 102 then (if ¬ (((x20 * 20) + x22) < 0 ∨ kN S23 a56 ≤ ((x20 * 20) + x22).toNatClampNeg) then (lt (wI S23 a56 ((x20 * 20) + x22).toNatClampNeg (vp_nar .char (kI S23 a58 x22.toNatClampNeg))) fun S64 => lt (x22 + 1) fun x66 => some (.inl (x66, S64))) else none) else none) else none) else none)) else none
set_option maxRecDepth 100000 in
def f_X10_except (S : PS) (a0 : Nat) (p1 : Int32) : Option (PS × Int32) := if kK S a0 = 14 then ((f_X10_noRule S a0 p1).bind fun r2 => lt r2.1 fun S4 => if r2.2 = 0 then (if kK S4 a0 = 14 then (lt (fun (x8 : Int32) => lt (fun (x10 : Int32) => lt (wI S4 a0 0 x10) fun S12 => if kK S12 a0 = 14 then (if (kI S12 a0 0) ≤ 0 then ((kQ S12 a0 14).bind fun a16 => if kK S12 a16 = 101 then (if ¬ (p1 < 0 ∨ kN S12 a16 ≤ p1.toNatClampNeg) then (lt ((p1 * 3) + (kI S12 a16 p1.toNatClampNeg)) fun x20 => lt (fun (S24 : PS) => if kK S24 a0 = 14 then ((kQ S24 a0 16).bind fun a28 => if kK S24 a28 = 101 then (if ¬ (x20 < 0 ∨ kN S24 a28 ≤ x20.toNatClampNeg) then (lt (wI S24 a28 x20.toNatClampNeg (kI S24 a0 5)) fun S32 => if kK S32 a0 = 14 then ((kQ S32 a0 14).bind fun a35 => if kK S32 a35 = 101 then (if ¬ (p1 < 0 ∨ kN S32 a35 ≤ p1.toNatClampNeg) then (if ¬ (p1 < 0 ∨ kN S32 a35 ≤ p1.toNatClampNeg) then (lt (wI S32 a35 p1.toNatClampNeg ((kI S32 a35 p1.toNatClampNeg) + 1)) fun S40 => if kK S40 a0 = 14 then (lt (wI S40 a0 5 0) fun S43 => if kK S43 a0 = 14 then ((f_X10_marksAll S43 a0).bind fun r46 => if kK r46 a0 = 14 then ((kQ r46 a0 14).bind fun a49 => if kK r46 a49 = 101 then (if ¬ (p1 < 0 ∨ kN r46 a49 ≤ p1.toNatClampNeg) then (some (r46, (kI r46 a49 p1.toNatClampNeg))) else none) else none) else none) else none) else none) else none) else none) else none) else none) else none) else none) else none) fun k25 => (iter (fun (v : Int32 × PS) => f_X10_except_b85 a0 x20 v.1 v.2) kF (0, S12)).bind (fun (v : PS) => k25 v)) else none) else none) else (some (S12, 0))) else none) fun j11 => if x8 = 0 then (j11 2) else ((kQ S4 a0 14).bind fun a70 => if kK S4 a70 = 101 then (if ¬ (p1 < 0 ∨ kN S4 a70 ≤ p1.toNatClampNeg) then (if (kI S4 a70 p1.toNatClampNeg) = (3 : Int32) then (j11 3) else (j11 0)) else none) else none)) fun j9 => lt (fun (u77 : Unit) => j9 0) fun j76 => if (kI S4 a0 5) ≤ 0 then (j76 ()) else ((f_X10_lettersFrom S4 a0 0).bind fun r80 => if r80 = (kI S4 a0 5) then (j9 1) else (j76 ()))) else none) else (some (S4, 0))) else none
abbrev rmX10_except : Room := { frames := 4, cells := 0, slots := 0, locals := 86 }
set_option maxHeartbeats 4000000 in
set_option maxRecDepth 100000 in
theorem c_X10_except (l : Launch) (D : va_G × Nat) (S : PS) (a0 : Nat) (p1 : Int32) (r : PS × Int32) (hf : f_X10_except S a0 p1 = some r) : MI l D yX10_except wsX10_except rmX10_except S [.ref a0, .int p1] r.1 r.2 0 0 := by
  unfold f_X10_except at hf
  refine Met.ofW (cc := cX10_except) (maxL := 5) (ret := (some .int)) (by decide) rfl ?_
  intro p e s m args below meth c s₁ B hml hv
  obtain ⟨rfl, hH0, hNE⟩ := hv
  have hx := B.exec
  have hb := B.bytes
  have hr := B.returns
  have hts := atoms_spec (ws := wsX10_except) B.pre
  have hown : s.vm.findClass RX10 = some m.cls := findClass_of_methodNamed B.named
  have hlocks := B.notSynchronized
  have hH : HI D S S s s.heap [] := HI.start hH0
  have hl := lv_entry ([.ref a0, .int p1]) (n := 5) (Nat.le_of_ble_eq_true rfl)
  rw [lg_entry_eq]
  generalize (lg_sl ([.ref a0, .int p1]) ++ List.replicate (5 - (lg_sl ([.ref a0, .int p1])).length) Slot.unset).toArray = ls at hl ⊢
  have hl : lv_has ls 5 [(0, .ref a0), (1, .int p1)] := hl
  refine lv_aload_n hx hb dX10_except_0 rfl (lv_at hl 0 rfl) ?_
  refine lv_iload_n hx hb dX10_except_1 rfl (lv_at hl 1 rfl) ?_
  obtain ⟨ek1, hf⟩ := oc hf
  obtain ⟨r2, e3, hf⟩ := ob hf
  refine r_callVi (As := [.int p1]) ⟨hx, hb, hml, hown, hts⟩ (c_X10_noRule l D S a0 p1 r2 e3) (cwV 1 hts (gwV gw_33_18 gw_33_19 gw_33_20 gw_31_10 gw_31_14) rfl rfl rfl (by decide +kernel) ⟨Nat.le_of_ble_eq_true rfl, Nat.le_of_ble_eq_true rfl⟩) hH hNE 13 ek1 (by decide) rfl rfl rfl hl.1 rfl (Nat.le_of_ble_eq_true rfl) dX10_except_2 ⟨(Nat.le_of_ble_eq_true rfl), (Nat.le_of_ble_eq_true rfl)⟩ (fun H locs hH => ?_)
  obtain ⟨S4, e5, hf⟩ := ol hf
  rw [e5] at hH
  refine lv_if_eq (tgt := 10) hx hb dX10_except_5 (by decide) (fun c6 => ?_) (fun c6 => ?_)
  · have hf := ip hf c6
    refine lv_aload_n hx hb dX10_except_10 rfl (lv_at hl 0 rfl) ?_
    obtain ⟨ek7, hf⟩ := oc hf
    refine r_getI hx hb 13 hts (fun w h => List.mem_cons_of_mem _ (mwsX100 w h)) hown hH ek7 (by decide) rfl 5 (by decide) rfl (hts (.fieldLink RX10 145 "HousestyleModel" "typedSize" "I") (List.mem_cons_of_mem _ gw_31_17)) (fun _ h9 => h9) dX10_except_11 ?_
    obtain ⟨j9, e75, hf⟩ := ol hf
    have Jj9 : ∀ (x8 : Int32) (H : Heap) (locs : List Loc) (ls : Array Slot), HI D S S4 s H locs → lv_has ls 5 [(0, .ref a0), (1, .int p1)] → j9 x8 = some r → GI p l e (headSpec wsX10_except rmX10_except).room s m ([.ref a0, .int p1] : List Value).toArray below meth c D S r.1 r.2 H locs 0 0 0 0 (F0 m 34 ls [.int x8]) := by
      intro x8 H locs ls hH hl hf
      rw [← e75] at hf
      refine lv_istore_n (lv' := [(2, .int x8), (0, .ref a0), (1, .int p1)]) hx hb dX10_except_34 rfl hl (by decide) rfl (fun ls hl => ?_)
      refine lv_aload_n hx hb dX10_except_35 rfl (lv_at hl 1 rfl) ?_
      refine lv_iload_n hx hb dX10_except_36 rfl (lv_at hl 0 rfl) ?_
      obtain ⟨j11, e68, hf⟩ := ol hf
      have Jj11 : ∀ (x10 : Int32) (H : Heap) (locs : List Loc) (ls : Array Slot), HI D S S4 s H locs → lv_has ls 5 [(0, .ref a0), (1, .int p1)] → j11 x10 = some r → GI p l e (headSpec wsX10_except rmX10_except).room s m ([.ref a0, .int p1] : List Value).toArray below meth c D S r.1 r.2 H locs 0 0 0 0 (F0 m 59 ls [.int x10, .ref a0]) := by
        intro x10 H locs ls hH hl hf
        rw [← e68] at hf
        refine r_putI hx hb 13 hts (fun w h => List.mem_cons_of_mem _ (mwsX100 w h)) tyX10 tyX10_ok nmX10 hown hH ek7 (by decide) rfl 0 (by decide) rfl (hts (.fieldLink RX10 123 "HousestyleModel" "thrown" "I") (List.mem_cons_of_mem _ gw_31_3)) (fun _ h9 => h9) (Or.inl rfl) (ty := .int) (by decide +kernel) rfl rfl dX10_except_59 (fun H locs hH => ?_)
        obtain ⟨S12, e13, hf⟩ := ol hf
        rw [e13] at hH
        refine lv_aload_n hx hb dX10_except_62 rfl (lv_at hl 0 rfl) ?_
        obtain ⟨ek14, hf⟩ := oc hf
        refine r_getI hx hb 13 hts (fun w h => List.mem_cons_of_mem _ (mwsX100 w h)) hown hH ek14 (by decide) rfl 0 (by decide) rfl (hts (.fieldLink RX10 123 "HousestyleModel" "thrown" "I") (List.mem_cons_of_mem _ gw_31_3)) (fun _ h9 => h9) dX10_except_63 ?_
        refine lv_if_le (tgt := 71) hx hb dX10_except_66 (by decide) (fun c15 => ?_) (fun c15 => ?_)
        · have hf := ip hf c15
          refine lv_iload_n hx hb dX10_except_71 rfl (lv_at hl 1 rfl) ?_
          refine lv_iconst (v := 3) hx hb dX10_except_72 (by decide) ?_
          refine lv_imul hx hb dX10_except_73 ?_
          refine lv_aload_n hx hb dX10_except_74 rfl (lv_at hl 0 rfl) ?_
          obtain ⟨a16, e17, hf⟩ := ob hf
          refine r_getQ hx hb 13 hts (fun w h => List.mem_cons_of_mem _ (mwsX100 w h)) hown hH ek14 (by decide) rfl 14 (by decide) rfl (hts (.fieldLink RX10 42 "HousestyleModel" "exceptions" "[I") (List.mem_cons_of_mem _ gw_29_23)) (fun _ h9 => h9) dX10_except_75 e17 ?_
          refine lv_iload_n hx hb dX10_except_78 rfl (lv_at hl 1 rfl) ?_
          obtain ⟨ek18, hf⟩ := oc hf
          obtain ⟨ei19, hf⟩ := oc hf
          refine r_iald hx hb hH ek18 ei19 dX10_except_79 ?_
          refine lv_iadd hx hb dX10_except_80 ?_
          obtain ⟨x20, e21, hf⟩ := ol hf
          refine lv_topE e21 ?_
          refine lv_istore_n (lv' := [(3, .int x20), (0, .ref a0), (1, .int p1)]) hx hb dX10_except_81 rfl hl (by decide) rfl (fun ls hl => ?_)
          refine lv_iconst (v := 0) hx hb dX10_except_82 (by decide) ?_
          refine lv_istore (lv' := [(4, .int 0), (3, .int x20), (0, .ref a0), (1, .int p1)]) hx hb dX10_except_83 hl (by decide) rfl (fun ls hl => ?_)
          obtain ⟨k25, e26, hf⟩ := ol hf
          have Xk25 : ∀ (S24 : PS) (H : Heap) (locs : List Loc) (ls : Array Slot), HI D S S24 s H locs → lv_has ls 5 [(0, .ref a0), (1, .int p1), (3, .int x20)] → k25 S24 = some r → GI p l e (headSpec wsX10_except rmX10_except).room s m ([.ref a0, .int p1] : List Value).toArray below meth c D S r.1 r.2 H locs 0 0 0 0 (F0 m 119 ls []) := by
            intro S24 H locs ls hH hl hf
            rw [← e26] at hf
            refine lv_aload_n hx hb dX10_except_119 rfl (lv_at hl 0 rfl) ?_
            obtain ⟨ek27, hf⟩ := oc hf
            obtain ⟨a28, e29, hf⟩ := ob hf
            refine r_getQ hx hb 13 hts (fun w h => List.mem_cons_of_mem _ (mwsX100 w h)) hown hH ek27 (by decide) rfl 16 (by decide) rfl (hts (.fieldLink RX10 48 "HousestyleModel" "exceptedSizes" "[I") (List.mem_cons_of_mem _ gw_30_1)) (fun _ h9 => h9) dX10_except_120 e29 ?_
            refine lv_iload_n hx hb dX10_except_123 rfl (lv_at hl 2 rfl) ?_
            refine lv_aload_n hx hb dX10_except_124 rfl (lv_at hl 0 rfl) ?_
            refine r_getI hx hb 13 hts (fun w h => List.mem_cons_of_mem _ (mwsX100 w h)) hown hH ek27 (by decide) rfl 5 (by decide) rfl (hts (.fieldLink RX10 145 "HousestyleModel" "typedSize" "I") (List.mem_cons_of_mem _ gw_31_17)) (fun _ h9 => h9) dX10_except_125 ?_
            obtain ⟨ek30, hf⟩ := oc hf
            obtain ⟨ei31, hf⟩ := oc hf
            refine r_iast hx hb hH ek30 ei31 dX10_except_128 (fun H locs hH => ?_)
            obtain ⟨S32, e33, hf⟩ := ol hf
            rw [e33] at hH
            refine lv_aload_n hx hb dX10_except_129 rfl (lv_at hl 0 rfl) ?_
            obtain ⟨ek34, hf⟩ := oc hf
            obtain ⟨a35, e36, hf⟩ := ob hf
            refine r_getQ hx hb 13 hts (fun w h => List.mem_cons_of_mem _ (mwsX100 w h)) hown hH ek34 (by decide) rfl 14 (by decide) rfl (hts (.fieldLink RX10 42 "HousestyleModel" "exceptions" "[I") (List.mem_cons_of_mem _ gw_29_23)) (fun _ h9 => h9) dX10_except_130 e36 ?_
            refine lv_iload_n hx hb dX10_except_133 rfl (lv_at hl 1 rfl) ?_
            refine lv_dup2_11 hx hb dX10_except_134 rfl rfl ?_
            obtain ⟨ek37, hf⟩ := oc hf
            obtain ⟨ei38, hf⟩ := oc hf
            refine r_iald hx hb hH ek37 ei38 dX10_except_135 ?_
            refine lv_iconst (v := 1) hx hb dX10_except_136 (by decide) ?_
            refine lv_iadd hx hb dX10_except_137 ?_
            obtain ⟨ei39, hf⟩ := oc hf
            refine r_iast hx hb hH ek37 ei39 dX10_except_138 (fun H locs hH => ?_)
            obtain ⟨S40, e41, hf⟩ := ol hf
            rw [e41] at hH
            refine lv_aload_n hx hb dX10_except_139 rfl (lv_at hl 0 rfl) ?_
            refine lv_iconst (v := 0) hx hb dX10_except_140 (by decide) ?_
            obtain ⟨ek42, hf⟩ := oc hf
            refine r_putI hx hb 13 hts (fun w h => List.mem_cons_of_mem _ (mwsX100 w h)) tyX10 tyX10_ok nmX10 hown hH ek42 (by decide) rfl 5 (by decide) rfl (hts (.fieldLink RX10 145 "HousestyleModel" "typedSize" "I") (List.mem_cons_of_mem _ gw_31_17)) (fun _ h9 => h9) (Or.inl rfl) (ty := .int) (by decide +kernel) rfl rfl dX10_except_141 (fun H locs hH => ?_)
            obtain ⟨S43, e44, hf⟩ := ol hf
            rw [e44] at hH
            refine lv_aload_n hx hb dX10_except_144 rfl (lv_at hl 0 rfl) ?_
            obtain ⟨ek45, hf⟩ := oc hf
            obtain ⟨r46, e47, hf⟩ := ob hf
            refine r_callVv (As := []) ⟨hx, hb, hml, hown, hts⟩ (c_X10_marksAll l D S43 a0 r46 e47) (cwV 0 hts (gwV gw_33_14 gw_33_15 gw_33_16 gw_31_10 gw_32_10) rfl rfl rfl (by decide +kernel) ⟨Nat.le_of_ble_eq_true rfl, Nat.le_of_ble_eq_true rfl⟩) hH hNE 13 ek45 (by decide) rfl rfl rfl hl.1 rfl (Nat.le_of_ble_eq_true rfl) dX10_except_145 ⟨(Nat.le_of_ble_eq_true rfl), (Nat.le_of_ble_eq_true rfl)⟩ (fun H locs hH => ?_)
            refine lv_aload_n hx hb dX10_except_148 rfl (lv_at hl 0 rfl) ?_
            obtain ⟨ek48, hf⟩ := oc hf
            obtain ⟨a49, e50, hf⟩ := ob hf
            refine r_getQ hx hb 13 hts (fun w h => List.mem_cons_of_mem _ (mwsX100 w h)) hown hH ek48 (by decide) rfl 14 (by decide) rfl (hts (.fieldLink RX10 42 "HousestyleModel" "exceptions" "[I") (List.mem_cons_of_mem _ gw_29_23)) (fun _ h9 => h9) dX10_except_149 e50 ?_
            refine lv_iload_n hx hb dX10_except_152 rfl (lv_at hl 1 rfl) ?_
            obtain ⟨ek51, hf⟩ := oc hf
            obtain ⟨ei52, hf⟩ := oc hf
            refine r_iald hx hb hH ek51 ei52 dX10_except_153 ?_
            have hr9 := Option.some.inj hf
            subst hr9
            exact e_i hx hb hr hlocks hH dX10_except_154
          obtain ⟨o53, eo53, hq53f⟩ := ob hf
          have Lo53 : ∀ (n : Nat) (x22 : Int32) (S23 : PS), iter (fun (v : Int32 × PS) => f_X10_except_b85 a0 x20 v.1 v.2) n (x22, S23) = some o53 → ∀ (H : Heap) (locs : List Loc) (ls : Array Slot), HI D S S23 s H locs → lv_has ls 5 [(0, .ref a0), (1, .int p1), (3, .int x20), (4, .int x22)] → GI p l e (headSpec wsX10_except rmX10_except).room s m ([.ref a0, .int p1] : List Value).toArray below meth c D S r.1 r.2 H locs 0 0 0 0 (F0 m 85 ls []) := by
            intro n
            induction n with
            | zero => intro x22 S23 hi; cases hi
            | succ n ih53 =>
              intro x22 S23 hi H locs ls hH hl
              obtain ⟨q53_, hf, hq53⟩ := iter_s hi
              have hf : f_X10_except_b85 a0 x20 x22 S23 = some q53_ := hf
              unfold f_X10_except_b85 at hf
              refine lv_iload hx hb dX10_except_85 (lv_at hl 3 rfl) ?_
              refine lv_aload_n hx hb dX10_except_87 rfl (lv_at hl 0 rfl) ?_
              obtain ⟨ek54, hf⟩ := oc hf
              refine r_getI hx hb 13 hts (fun w h => List.mem_cons_of_mem _ (mwsX100 w h)) hown hH ek54 (by decide) rfl 5 (by decide) rfl (hts (.fieldLink RX10 145 "HousestyleModel" "typedSize" "I") (List.mem_cons_of_mem _ gw_31_17)) (fun _ h9 => h9) dX10_except_88 ?_
              refine lv_icmp_ge (tgt := 119) hx hb dX10_except_91 (by decide) (fun c55 => ?_) (fun c55 => ?_)
              · have hf := ip hf c55
                cases hf
                have hf9 := itR (K := (fun (v : PS) => k25 v)) hq53 hq53f
                exact Xk25 S23 _ _ ls hH (lv_sub hl [0, 1, 2] rfl) hf9
              · have hf := iq hf c55
                refine lv_aload_n hx hb dX10_except_94 rfl (lv_at hl 0 rfl) ?_
                obtain ⟨a56, e57, hf⟩ := ob hf
                refine r_getQ hx hb 13 hts (fun w h => List.mem_cons_of_mem _ (mwsX100 w h)) hown hH ek54 (by decide) rfl 15 (by decide) rfl (hts (.fieldLink RX10 45 "HousestyleModel" "excepted" "[C") (List.mem_cons_of_mem _ gw_30_0)) (fun _ h9 => h9) dX10_except_95 e57 ?_
                refine lv_iload_n hx hb dX10_except_98 rfl (lv_at hl 2 rfl) ?_
                refine lv_bipush (v := 20) hx hb dX10_except_99 (by decide) ?_
                refine lv_imul hx hb dX10_except_101 ?_
                refine lv_iload hx hb dX10_except_102 (lv_at hl 3 rfl) ?_
                refine lv_iadd hx hb dX10_except_104 ?_
                refine lv_aload_n hx hb dX10_except_105 rfl (lv_at hl 0 rfl) ?_
                obtain ⟨a58, e59, hf⟩ := ob hf
                refine r_getQ hx hb 13 hts (fun w h => List.mem_cons_of_mem _ (mwsX100 w h)) hown hH ek54 (by decide) rfl 4 (by decide) rfl (hts (.fieldLink RX10 17 "HousestyleModel" "typed" "[C") (List.mem_cons_of_mem _ gw_29_14)) (fun _ h9 => h9) dX10_except_106 e59 ?_
                refine lv_iload hx hb dX10_except_109 (lv_at hl 3 rfl) ?_
                obtain ⟨ek60, hf⟩ := oc hf
                obtain ⟨ei61, hf⟩ := oc hf
                refine r_cald hx hb hH ek60 ei61 dX10_except_111 ?_
                obtain ⟨ek62, hf⟩ := oc hf
                obtain ⟨ei63, hf⟩ := oc hf
                refine r_cast hx hb hH ek62 ei63 dX10_except_112 (fun H locs hH => ?_)
                obtain ⟨S64, e65, hf⟩ := ol hf
                rw [e65] at hH
                obtain ⟨x66, e67, hf⟩ := ol hf
                refine lv_iinc (v := x66) (lv' := [(4, .int x66), (0, .ref a0), (1, .int p1), (3, .int x20)]) hx hb dX10_except_113 hl (k := 3) rfl (by rw [← e67]; rfl) (by decide) rfl (fun ls hl => ?_)
                refine lv_goto (tgt := 85) hx hb dX10_except_116 (by decide) ?_
                cases hf
                exact ih53 x66 S64 hq53 _ _ ls hH (lv_sub hl [1, 2, 3, 0] rfl)
          exact Lo53 kF 0 S12 eo53 _ _ ls hH (lv_sub hl [2, 3, 1, 0] rfl)
        · have hf := iq hf c15
          refine lv_iconst (v := 0) hx hb dX10_except_69 (by decide) ?_
          have hr9 := Option.some.inj hf
          subst hr9
          exact e_i hx hb hr hlocks hH dX10_except_70
      refine lv_if_ne (tgt := 44) hx hb dX10_except_37 (by decide) (fun c69 => ?_) (fun c69 => ?_)
      · have hf := iq hf c69
        refine lv_aload_n hx hb dX10_except_44 rfl (lv_at hl 1 rfl) ?_
        obtain ⟨a70, e71, hf⟩ := ob hf
        refine r_getQ hx hb 13 hts (fun w h => List.mem_cons_of_mem _ (mwsX100 w h)) hown hH ek7 (by decide) rfl 14 (by decide) rfl (hts (.fieldLink RX10 42 "HousestyleModel" "exceptions" "[I") (List.mem_cons_of_mem _ gw_29_23)) (fun _ h9 => h9) dX10_except_45 e71 ?_
        refine lv_iload_n hx hb dX10_except_48 rfl (lv_at hl 2 rfl) ?_
        obtain ⟨ek72, hf⟩ := oc hf
        obtain ⟨ei73, hf⟩ := oc hf
        refine r_iald hx hb hH ek72 ei73 dX10_except_49 ?_
        refine lv_iconst (v := 3) hx hb dX10_except_50 (by decide) ?_
        refine lv_icmp_ne (tgt := 58) hx hb dX10_except_51 (by decide) (fun c74 => ?_) (fun c74 => ?_)
        · have hf := iq hf c74
          refine lv_iconst (v := 0) hx hb dX10_except_58 (by decide) ?_
          exact Jj11 0 _ _ ls hH (lv_sub hl [1, 2] rfl) hf
        · have hf := ip hf c74
          refine lv_iconst (v := 3) hx hb dX10_except_54 (by decide) ?_
          refine lv_goto (tgt := 59) hx hb dX10_except_55 (by decide) ?_
          exact Jj11 3 _ _ ls hH (lv_sub hl [1, 2] rfl) hf
      · have hf := ip hf c69
        refine lv_iconst (v := 2) hx hb dX10_except_40 (by decide) ?_
        refine lv_goto (tgt := 59) hx hb dX10_except_41 (by decide) ?_
        exact Jj11 2 _ _ ls hH (lv_sub hl [1, 2] rfl) hf
    obtain ⟨j76, e78, hf⟩ := ol hf
    have Jj76 : ∀ (u77 : Unit) (H : Heap) (locs : List Loc) (ls : Array Slot), HI D S S4 s H locs → lv_has ls 5 [(0, .ref a0), (1, .int p1)] → j76 u77 = some r → GI p l e (headSpec wsX10_except rmX10_except).room s m ([.ref a0, .int p1] : List Value).toArray below meth c D S r.1 r.2 H locs 0 0 0 0 (F0 m 33 ls []) := by
      intro u77 H locs ls hH hl hf
      rw [← e78] at hf
      refine lv_iconst (v := 0) hx hb dX10_except_33 (by decide) ?_
      exact Jj9 0 _ _ ls hH (lv_sub hl [0, 1] rfl) hf
    refine lv_if_le (tgt := 33) hx hb dX10_except_14 (by decide) (fun c79 => ?_) (fun c79 => ?_)
    · have hf := ip hf c79
      exact Jj76 () _ _ ls hH (lv_sub hl [0, 1] rfl) hf
    · have hf := iq hf c79
      refine lv_aload_n hx hb dX10_except_17 rfl (lv_at hl 0 rfl) ?_
      refine lv_iconst (v := 0) hx hb dX10_except_18 (by decide) ?_
      obtain ⟨r80, e81, hf⟩ := ob hf
      refine r_callVi (As := [.int 0]) ⟨hx, hb, hml, hown, hts⟩ (c_X10_lettersFrom l D S4 a0 0 r80 e81) (cwV 1 hts (gwV gw_33_7 gw_33_8 gw_33_9 gw_31_10 gw_31_23) rfl rfl rfl (by decide +kernel) ⟨Nat.le_of_ble_eq_true rfl, Nat.le_of_ble_eq_true rfl⟩) hH hNE 13 ek7 (by decide) rfl rfl rfl hl.1 rfl (Nat.le_of_ble_eq_true rfl) dX10_except_19 ⟨(Nat.le_of_ble_eq_true rfl), (Nat.le_of_ble_eq_true rfl)⟩ (fun H locs hH => ?_)
      refine lv_aload_n hx hb dX10_except_22 rfl (lv_at hl 0 rfl) ?_
      refine r_getI hx hb 13 hts (fun w h => List.mem_cons_of_mem _ (mwsX100 w h)) hown hH ek7 (by decide) rfl 5 (by decide) rfl (hts (.fieldLink RX10 145 "HousestyleModel" "typedSize" "I") (List.mem_cons_of_mem _ gw_31_17)) (fun _ h9 => h9) dX10_except_23 ?_
      refine lv_icmp_ne (tgt := 33) hx hb dX10_except_26 (by decide) (fun c82 => ?_) (fun c82 => ?_)
      · have hf := iq hf c82
        exact Jj76 () _ _ ls hH (lv_sub hl [0, 1] rfl) hf
      · have hf := ip hf c82
        refine lv_iconst (v := 1) hx hb dX10_except_29 (by decide) ?_
        refine lv_goto (tgt := 34) hx hb dX10_except_30 (by decide) ?_
        exact Jj9 1 _ _ ls hH (lv_sub hl [0, 1] rfl) hf
  · have hf := iq hf c6
    refine lv_iconst (v := 0) hx hb dX10_except_8 (by decide) ?_
    have hr9 := Option.some.inj hf
    subst hr9
    exact e_i hx hb hr hlocks hH dX10_except_9
