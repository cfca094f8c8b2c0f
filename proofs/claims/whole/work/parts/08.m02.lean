set_option maxRecDepth 100000 in
def f_X10_suggest_b153 (a0 : Nat) (x27 : Int32) (x29 : Int32) (S30 : PS) : Option ((Int32 × PS) ⊕ ((PS))) := if kK S30 a0 = 14 then (if (kI S30 a0 5) ≤ x29 then (some (.inr S30)) else ((kQ S30 a0 18).bind fun a63 => (kQ S30 a0 4).bind fun a65 => if kK S30 a65 = 102 then (if ¬ (x29 < 0 ∨ kN S30 a65 ≤ x29.toNatClampNeg) then (if kK S30 a63 = 102 then (if ¬ (((x27 * 20) + x29) < 0 ∨ kN S30 a63 ≤ ((x27 * 20) + x29).toNatClampNeg) then (lt (wI S30 a63 ((x27 * 20) + x29).toNatClampNeg (vp_nar .char (kI S30 a65 x29.toNatClampNeg))) fun S71 => lt (x29 + 1) fun x73 => some (.inl (x73, S71))) else none) else none) else none) else none)) else none
set_option maxRecDepth 100000 in
def f_X10_suggest_b28 (a0 : Nat) (S4 : PS) (x10 : Int32) (x11 : Int32) (x12 : Int32) : Option ((Int32 × Int32 × Int32) ⊕ ((Int32 × Int32))) := if (kI S4 a0 5) ≤ x12 then (some (.inr (x10, x11))) else (lt (fun (x88 : Int32) => (kQ S4 a0 4).bind fun a90 => if kK S4 a90 = 102 then (if ¬ (x12 < 0 ∨ kN S4 a90 ≤ x12.toNatClampNeg) then (lt (fun (x94 : Int32) => lt (x11 + x94) fun x96 => lt (x12 + 1) fun x98 => some (.inl (x88, x96, x98))) fun j95 => if (kI S4 a90 x12.toNatClampNeg) = (42 : Int32) then (j95 1) else (j95 0)) else none) else none) fun j89 => lt (fun (u104 : Unit) => j89 0) fun j103 => if x10 = 0 then (j103 ()) else ((kQ S4 a0 4).bind fun a107 => if kK S4 a107 = 102 then (if ¬ (x12 < 0 ∨ kN S4 a107 ≤ x12.toNatClampNeg) then (if (kI S4 a107 x12.toNatClampNeg) = (35 : Int32) then (j103 ()) else (if ¬ (x12 < 0 ∨ kN S4 a107 ≤ x12.toNatClampNeg) then (if (kI S4 a107 x12.toNatClampNeg) = (45 : Int32) then (j103 ()) else (j89 1)) else none)) else none) else none))
set_option maxRecDepth 100000 in
def f_X10_suggest (S : PS) (a0 : Nat) (p1 : Int32) : Option (PS × Int32) := if kK S a0 = 14 then ((f_X10_noRule S a0 p1).bind fun r2 => lt r2.1 fun S4 => if r2.2 = 0 then (if kK S4 a0 = 14 then (lt (fun (x8 : Int32) => lt (fun (x13 : Int32) (x14 : Int32) => lt (fun (x17 : Int32) => lt (wI S4 a0 0 x17) fun S19 => if kK S19 a0 = 14 then (if (kI S19 a0 0) ≤ 0 then ((kQ S19 a0 17).bind fun a23 => if kK S19 a23 = 101 then (if ¬ (p1 < 0 ∨ kN S19 a23 ≤ p1.toNatClampNeg) then (lt ((p1 * 2) + (kI S19 a23 p1.toNatClampNeg)) fun x27 => lt (fun (S31 : PS) => if kK S31 a0 = 14 then ((kQ S31 a0 19).bind fun a35 => if kK S31 a35 = 101 then (if ¬ (x27 < 0 ∨ kN S31 a35 ≤ x27.toNatClampNeg) then (lt (wI S31 a35 x27.toNatClampNeg (kI S31 a0 5)) fun S39 => if kK S39 a0 = 14 then ((kQ S39 a0 17).bind fun a42 => if kK S39 a42 = 101 then (if ¬ (p1 < 0 ∨ kN S39 a42 ≤ p1.toNatClampNeg) then (if ¬ (p1 < 0 ∨ kN S39 a42 ≤ p1.toNatClampNeg) then (lt (wI S39 a42 p1.toNatClampNeg ((kI S39 a42 p1.toNatClampNeg) + 1)) fun S47 => if kK S47 a0 = 14 then (lt (wI S47 a0 5 0) fun S50 => if kK S50 a0 = 14 then ((f_X10_marksAll S50 a0).bind fun r53 => if kK r53 a0 = 14 then ((kQ r53 a0 17).bind fun a56 => if kK r53 a56 = 101 then (if ¬ (p1 < 0 ∨ kN r53 a56 ≤ p1.toNatClampNeg) then (some (r53, (kI r53 a56 p1.toNatClampNeg))) else none) else none) else none) else none) else none) else none) else none) else none) else none) else none) else none) else none) fun k32 => (iter (fun (v : Int32 × PS) => f_X10_suggest_b153 a0 x27 v.1 v.2) kF (0, S19)).bind (fun (v : PS) => k32 v)) else none) else none) else (some (S19, 0))) else none) fun j18 => lt (fun (u77 : Unit) => j18 2) fun j76 => if x13 = 0 then (j76 ()) else (if x14 ≤ (1 : Int32) then ((kQ S4 a0 17).bind fun a81 => if kK S4 a81 = 101 then (if ¬ (p1 < 0 ∨ kN S4 a81 ≤ p1.toNatClampNeg) then (if (kI S4 a81 p1.toNatClampNeg) = (2 : Int32) then (j18 3) else (j18 0)) else none) else none) else (j76 ()))) fun k15 => (iter (fun (v : Int32 × Int32 × Int32) => f_X10_suggest_b28 a0 S4 v.1 v.2.1 v.2.2) kF (x8, 0, 0)).bind (fun (v : Int32 × Int32) => k15 v.1 v.2)) fun j9 => if (kI S4 a0 5) ≤ 0 then (j9 0) else (j9 1)) else none) else (some (S4, 0))) else none
abbrev rmX10_suggest : Room := { frames := 4, cells := 0, slots := 0, locals := 86 }
set_option maxHeartbeats 4000000 in
set_option maxRecDepth 100000 in
theorem c_X10_suggest (l : Launch) (D : va_G × Nat) (S : PS) (a0 : Nat) (p1 : Int32) (r : PS × Int32) (hf : f_X10_suggest S a0 p1 = some r) : MI l D yX10_suggest wsX10_suggest rmX10_suggest S [.ref a0, .int p1] r.1 r.2 0 0 := by
  unfold f_X10_suggest at hf
  refine Met.ofW (cc := cX10_suggest) (maxL := 6) (ret := (some .int)) (by decide) rfl ?_
  intro p e s m args below meth c s₁ B hml hv
  obtain ⟨rfl, hH0, hNE⟩ := hv
  have hx := B.exec
  have hb := B.bytes
  have hr := B.returns
  have hts := atoms_spec (ws := wsX10_suggest) B.pre
  have hown : s.vm.findClass RX10 = some m.cls := findClass_of_methodNamed B.named
  have hlocks := B.notSynchronized
  have hH : HI D S S s s.heap [] := HI.start hH0
  have hl := lv_entry ([.ref a0, .int p1]) (n := 6) (Nat.le_of_ble_eq_true rfl)
  rw [lg_entry_eq]
  generalize (lg_sl ([.ref a0, .int p1]) ++ List.replicate (6 - (lg_sl ([.ref a0, .int p1])).length) Slot.unset).toArray = ls at hl ⊢
  have hl : lv_has ls 6 [(0, .ref a0), (1, .int p1)] := hl
  refine lv_aload_n hx hb dX10_suggest_0 rfl (lv_at hl 0 rfl) ?_
  refine lv_iload_n hx hb dX10_suggest_1 rfl (lv_at hl 1 rfl) ?_
  obtain ⟨ek1, hf⟩ := oc hf
  obtain ⟨r2, e3, hf⟩ := ob hf
  refine r_callVi (As := [.int p1]) ⟨hx, hb, hml, hown, hts⟩ (c_X10_noRule l D S a0 p1 r2 e3) (cwV 1 hts (gwV gw_33_18 gw_33_19 gw_33_20 gw_31_10 gw_31_14) rfl rfl rfl (by decide +kernel) ⟨Nat.le_of_ble_eq_true rfl, Nat.le_of_ble_eq_true rfl⟩) hH hNE 13 ek1 (by decide) rfl rfl rfl hl.1 rfl (Nat.le_of_ble_eq_true rfl) dX10_suggest_2 ⟨(Nat.le_of_ble_eq_true rfl), (Nat.le_of_ble_eq_true rfl)⟩ (fun H locs hH => ?_)
  obtain ⟨S4, e5, hf⟩ := ol hf
  rw [e5] at hH
  refine lv_if_eq (tgt := 10) hx hb dX10_suggest_5 (by decide) (fun c6 => ?_) (fun c6 => ?_)
  · have hf := ip hf c6
    refine lv_aload_n hx hb dX10_suggest_10 rfl (lv_at hl 0 rfl) ?_
    obtain ⟨ek7, hf⟩ := oc hf
    refine r_getI hx hb 13 hts (fun w h => List.mem_cons_of_mem _ (mwsX100 w h)) hown hH ek7 (by decide) rfl 5 (by decide) rfl (hts (.fieldLink RX10 145 "HousestyleModel" "typedSize" "I") (List.mem_cons_of_mem _ gw_31_17)) (fun _ h9 => h9) dX10_suggest_11 ?_
    obtain ⟨j9, e114, hf⟩ := ol hf
    have Jj9 : ∀ (x8 : Int32) (H : Heap) (locs : List Loc) (ls : Array Slot), HI D S S4 s H locs → lv_has ls 6 [(0, .ref a0), (1, .int p1)] → j9 x8 = some r → GI p l e (headSpec wsX10_suggest rmX10_suggest).room s m ([.ref a0, .int p1] : List Value).toArray below meth c D S r.1 r.2 H locs 0 0 0 0 (F0 m 22 ls [.int x8]) := by
      intro x8 H locs ls hH hl hf
      rw [← e114] at hf
      refine lv_istore_n (lv' := [(2, .int x8), (0, .ref a0), (1, .int p1)]) hx hb dX10_suggest_22 rfl hl (by decide) rfl (fun ls hl => ?_)
      refine lv_iconst (v := 0) hx hb dX10_suggest_23 (by decide) ?_
      refine lv_istore_n (lv' := [(3, .int 0), (2, .int x8), (0, .ref a0), (1, .int p1)]) hx hb dX10_suggest_24 rfl hl (by decide) rfl (fun ls hl => ?_)
      refine lv_iconst (v := 0) hx hb dX10_suggest_25 (by decide) ?_
      refine lv_istore (lv' := [(4, .int 0), (3, .int 0), (2, .int x8), (0, .ref a0), (1, .int p1)]) hx hb dX10_suggest_26 hl (by decide) rfl (fun ls hl => ?_)
      obtain ⟨k15, e16, hf⟩ := ol hf
      have Xk15 : ∀ (x13 : Int32) (x14 : Int32) (H : Heap) (locs : List Loc) (ls : Array Slot), HI D S S4 s H locs → lv_has ls 6 [(0, .ref a0), (1, .int p1), (2, .int x13), (3, .int x14)] → k15 x13 x14 = some r → GI p l e (headSpec wsX10_suggest rmX10_suggest).room s m ([.ref a0, .int p1] : List Value).toArray below meth c D S r.1 r.2 H locs 0 0 0 0 (F0 m 97 ls []) := by
        intro x13 x14 H locs ls hH hl hf
        rw [← e16] at hf
        refine lv_aload_n hx hb dX10_suggest_97 rfl (lv_at hl 0 rfl) ?_
        refine lv_iload_n hx hb dX10_suggest_98 rfl (lv_at hl 2 rfl) ?_
        obtain ⟨j18, e75, hf⟩ := ol hf
        have Jj18 : ∀ (x17 : Int32) (H : Heap) (locs : List Loc) (ls : Array Slot), HI D S S4 s H locs → lv_has ls 6 [(0, .ref a0), (1, .int p1)] → j18 x17 = some r → GI p l e (headSpec wsX10_suggest rmX10_suggest).room s m ([.ref a0, .int p1] : List Value).toArray below meth c D S r.1 r.2 H locs 0 0 0 0 (F0 m 126 ls [.int x17, .ref a0]) := by
          intro x17 H locs ls hH hl hf
          rw [← e75] at hf
          refine r_putI hx hb 13 hts (fun w h => List.mem_cons_of_mem _ (mwsX100 w h)) tyX10 tyX10_ok nmX10 hown hH ek7 (by decide) rfl 0 (by decide) rfl (hts (.fieldLink RX10 123 "HousestyleModel" "thrown" "I") (List.mem_cons_of_mem _ gw_31_3)) (fun _ h9 => h9) (Or.inl rfl) (ty := .int) (by decide +kernel) rfl rfl dX10_suggest_126 (fun H locs hH => ?_)
          obtain ⟨S19, e20, hf⟩ := ol hf
          rw [e20] at hH
          refine lv_aload_n hx hb dX10_suggest_129 rfl (lv_at hl 0 rfl) ?_
          obtain ⟨ek21, hf⟩ := oc hf
          refine r_getI hx hb 13 hts (fun w h => List.mem_cons_of_mem _ (mwsX100 w h)) hown hH ek21 (by decide) rfl 0 (by decide) rfl (hts (.fieldLink RX10 123 "HousestyleModel" "thrown" "I") (List.mem_cons_of_mem _ gw_31_3)) (fun _ h9 => h9) dX10_suggest_130 ?_
          refine lv_if_le (tgt := 138) hx hb dX10_suggest_133 (by decide) (fun c22 => ?_) (fun c22 => ?_)
          · have hf := ip hf c22
            refine lv_iload_n hx hb dX10_suggest_138 rfl (lv_at hl 1 rfl) ?_
            refine lv_iconst (v := 2) hx hb dX10_suggest_139 (by decide) ?_
            refine lv_imul hx hb dX10_suggest_140 ?_
            refine lv_aload_n hx hb dX10_suggest_141 rfl (lv_at hl 0 rfl) ?_
            obtain ⟨a23, e24, hf⟩ := ob hf
            refine r_getQ hx hb 13 hts (fun w h => List.mem_cons_of_mem _ (mwsX100 w h)) hown hH ek21 (by decide) rfl 17 (by decide) rfl (hts (.fieldLink RX10 51 "HousestyleModel" "suggestions" "[I") (List.mem_cons_of_mem _ gw_30_2)) (fun _ h9 => h9) dX10_suggest_142 e24 ?_
            refine lv_iload_n hx hb dX10_suggest_145 rfl (lv_at hl 1 rfl) ?_
            obtain ⟨ek25, hf⟩ := oc hf
            obtain ⟨ei26, hf⟩ := oc hf
            refine r_iald hx hb hH ek25 ei26 dX10_suggest_146 ?_
            refine lv_iadd hx hb dX10_suggest_147 ?_
            obtain ⟨x27, e28, hf⟩ := ol hf
            refine lv_topE e28 ?_
            refine lv_istore (lv' := [(4, .int x27), (0, .ref a0), (1, .int p1)]) hx hb dX10_suggest_148 hl (by decide) rfl (fun ls hl => ?_)
            refine lv_iconst (v := 0) hx hb dX10_suggest_150 (by decide) ?_
            refine lv_istore (lv' := [(5, .int 0), (4, .int x27), (0, .ref a0), (1, .int p1)]) hx hb dX10_suggest_151 hl (by decide) rfl (fun ls hl => ?_)
            obtain ⟨k32, e33, hf⟩ := ol hf
            have Xk32 : ∀ (S31 : PS) (H : Heap) (locs : List Loc) (ls : Array Slot), HI D S S31 s H locs → lv_has ls 6 [(0, .ref a0), (1, .int p1), (4, .int x27)] → k32 S31 = some r → GI p l e (headSpec wsX10_suggest rmX10_suggest).room s m ([.ref a0, .int p1] : List Value).toArray below meth c D S r.1 r.2 H locs 0 0 0 0 (F0 m 188 ls []) := by
              intro S31 H locs ls hH hl hf
              rw [← e33] at hf
              refine lv_aload_n hx hb dX10_suggest_188 rfl (lv_at hl 0 rfl) ?_
              obtain ⟨ek34, hf⟩ := oc hf
              obtain ⟨a35, e36, hf⟩ := ob hf
              refine r_getQ hx hb 13 hts (fun w h => List.mem_cons_of_mem _ (mwsX100 w h)) hown hH ek34 (by decide) rfl 19 (by decide) rfl (hts (.fieldLink RX10 57 "HousestyleModel" "suggestedSizes" "[I") (List.mem_cons_of_mem _ gw_30_4)) (fun _ h9 => h9) dX10_suggest_189 e36 ?_
              refine lv_iload hx hb dX10_suggest_192 (lv_at hl 2 rfl) ?_
              refine lv_aload_n hx hb dX10_suggest_194 rfl (lv_at hl 0 rfl) ?_
              refine r_getI hx hb 13 hts (fun w h => List.mem_cons_of_mem _ (mwsX100 w h)) hown hH ek34 (by decide) rfl 5 (by decide) rfl (hts (.fieldLink RX10 145 "HousestyleModel" "typedSize" "I") (List.mem_cons_of_mem _ gw_31_17)) (fun _ h9 => h9) dX10_suggest_195 ?_
              obtain ⟨ek37, hf⟩ := oc hf
              obtain ⟨ei38, hf⟩ := oc hf
              refine r_iast hx hb hH ek37 ei38 dX10_suggest_198 (fun H locs hH => ?_)
              obtain ⟨S39, e40, hf⟩ := ol hf
              rw [e40] at hH
              refine lv_aload_n hx hb dX10_suggest_199 rfl (lv_at hl 0 rfl) ?_
              obtain ⟨ek41, hf⟩ := oc hf
              obtain ⟨a42, e43, hf⟩ := ob hf
              refine r_getQ hx hb 13 hts (fun w h => List.mem_cons_of_mem _ (mwsX100 w h)) hown hH ek41 (by decide) rfl 17 (by decide) rfl (hts (.fieldLink RX10 51 "HousestyleModel" "suggestions" "[I") (List.mem_cons_of_mem _ gw_30_2)) (fun _ h9 => h9) dX10_suggest_200 e43 ?_
              refine lv_iload_n hx hb dX10_suggest_203 rfl (lv_at hl 1 rfl) ?_
              refine lv_dup2_11 hx hb dX10_suggest_204 rfl rfl ?_
              obtain ⟨ek44, hf⟩ := oc hf
              obtain ⟨ei45, hf⟩ := oc hf
              refine r_iald hx hb hH ek44 ei45 dX10_suggest_205 ?_
              refine lv_iconst (v := 1) hx hb dX10_suggest_206 (by decide) ?_
              refine lv_iadd hx hb dX10_suggest_207 ?_
              obtain ⟨ei46, hf⟩ := oc hf
              refine r_iast hx hb hH ek44 ei46 dX10_suggest_208 (fun H locs hH => ?_)
              obtain ⟨S47, e48, hf⟩ := ol hf
              rw [e48] at hH
              refine lv_aload_n hx hb dX10_suggest_209 rfl (lv_at hl 0 rfl) ?_
              refine lv_iconst (v := 0) hx hb dX10_suggest_210 (by decide) ?_
              obtain ⟨ek49, hf⟩ := oc hf
              refine r_putI hx hb 13 hts (fun w h => List.mem_cons_of_mem _ (mwsX100 w h)) tyX10 tyX10_ok nmX10 hown hH ek49 (by decide) rfl 5 (by decide) rfl (hts (.fieldLink RX10 145 "HousestyleModel" "typedSize" "I") (List.mem_cons_of_mem _ gw_31_17)) (fun _ h9 => h9) (Or.inl rfl) (ty := .int) (by decide +kernel) rfl rfl dX10_suggest_211 (fun H locs hH => ?_)
              obtain ⟨S50, e51, hf⟩ := ol hf
              rw [e51] at hH
              refine lv_aload_n hx hb dX10_suggest_214 rfl (lv_at hl 0 rfl) ?_
              obtain ⟨ek52, hf⟩ := oc hf
              obtain ⟨r53, e54, hf⟩ := ob hf
              refine r_callVv (As := []) ⟨hx, hb, hml, hown, hts⟩ (c_X10_marksAll l D S50 a0 r53 e54) (cwV 0 hts (gwV gw_33_14 gw_33_15 gw_33_16 gw_31_10 gw_32_10) rfl rfl rfl (by decide +kernel) ⟨Nat.le_of_ble_eq_true rfl, Nat.le_of_ble_eq_true rfl⟩) hH hNE 13 ek52 (by decide) rfl rfl rfl hl.1 rfl (Nat.le_of_ble_eq_true rfl) dX10_suggest_215 ⟨(Nat.le_of_ble_eq_true rfl), (Nat.le_of_ble_eq_true rfl)⟩ (fun H locs hH => ?_)
              refine lv_aload_n hx hb dX10_suggest_218 rfl (lv_at hl 0 rfl) ?_
              obtain ⟨ek55, hf⟩ := oc hf
              obtain ⟨a56, e57, hf⟩ := ob hf
              refine r_getQ hx hb 13 hts (fun w h => List.mem_cons_of_mem _ (mwsX100 w h)) hown hH ek55 (by decide) rfl 17 (by decide) rfl (hts (.fieldLink RX10 51 "HousestyleModel" "suggestions" "[I") (List.mem_cons_of_mem _ gw_30_2)) (fun _ h9 => h9) dX10_suggest_219 e57 ?_
              refine lv_iload_n hx hb dX10_suggest_222 rfl (lv_at hl 1 rfl) ?_
              obtain ⟨ek58, hf⟩ := oc hf
              obtain ⟨ei59, hf⟩ := oc hf
              refine r_iald hx hb hH ek58 ei59 dX10_suggest_223 ?_
              have hr9 := Option.some.inj hf
              subst hr9
              exact e_i hx hb hr hlocks hH dX10_suggest_224
            obtain ⟨o60, eo60, hq60f⟩ := ob hf
            have Lo60 : ∀ (n : Nat) (x29 : Int32) (S30 : PS), iter (fun (v : Int32 × PS) => f_X10_suggest_b153 a0 x27 v.1 v.2) n (x29, S30) = some o60 → ∀ (H : Heap) (locs : List Loc) (ls : Array Slot), HI D S S30 s H locs → lv_has ls 6 [(0, .ref a0), (1, .int p1), (4, .int x27), (5, .int x29)] → GI p l e (headSpec wsX10_suggest rmX10_suggest).room s m ([.ref a0, .int p1] : List Value).toArray below meth c D S r.1 r.2 H locs 0 0 0 0 (F0 m 153 ls []) := by
              intro n
              induction n with
              | zero => intro x29 S30 hi; cases hi
              | succ n ih60 =>
                intro x29 S30 hi H locs ls hH hl
                obtain ⟨q60_, hf, hq60⟩ := iter_s hi
                have hf : f_X10_suggest_b153 a0 x27 x29 S30 = some q60_ := hf
                unfold f_X10_suggest_b153 at hf
                refine lv_iload hx hb dX10_suggest_153 (lv_at hl 3 rfl) ?_
                refine lv_aload_n hx hb dX10_suggest_155 rfl (lv_at hl 0 rfl) ?_
                obtain ⟨ek61, hf⟩ := oc hf
                refine r_getI hx hb 13 hts (fun w h => List.mem_cons_of_mem _ (mwsX100 w h)) hown hH ek61 (by decide) rfl 5 (by decide) rfl (hts (.fieldLink RX10 145 "HousestyleModel" "typedSize" "I") (List.mem_cons_of_mem _ gw_31_17)) (fun _ h9 => h9) dX10_suggest_156 ?_
                refine lv_icmp_ge (tgt := 188) hx hb dX10_suggest_159 (by decide) (fun c62 => ?_) (fun c62 => ?_)
                · have hf := ip hf c62
                  cases hf
                  have hf9 := itR (K := (fun (v : PS) => k32 v)) hq60 hq60f
                  exact Xk32 S30 _ _ ls hH (lv_sub hl [0, 1, 2] rfl) hf9
                · have hf := iq hf c62
                  refine lv_aload_n hx hb dX10_suggest_162 rfl (lv_at hl 0 rfl) ?_
                  obtain ⟨a63, e64, hf⟩ := ob hf
                  refine r_getQ hx hb 13 hts (fun w h => List.mem_cons_of_mem _ (mwsX100 w h)) hown hH ek61 (by decide) rfl 18 (by decide) rfl (hts (.fieldLink RX10 54 "HousestyleModel" "suggested" "[C") (List.mem_cons_of_mem _ gw_30_3)) (fun _ h9 => h9) dX10_suggest_163 e64 ?_
                  refine lv_iload hx hb dX10_suggest_166 (lv_at hl 2 rfl) ?_
                  refine lv_bipush (v := 20) hx hb dX10_suggest_168 (by decide) ?_
                  refine lv_imul hx hb dX10_suggest_170 ?_
                  refine lv_iload hx hb dX10_suggest_171 (lv_at hl 3 rfl) ?_
                  refine lv_iadd hx hb dX10_suggest_173 ?_
                  refine lv_aload_n hx hb dX10_suggest_174 rfl (lv_at hl 0 rfl) ?_
                  obtain ⟨a65, e66, hf⟩ := ob hf
                  refine r_getQ hx hb 13 hts (fun w h => List.mem_cons_of_mem _ (mwsX100 w h)) hown hH ek61 (by decide) rfl 4 (by decide) rfl (hts (.fieldLink RX10 17 "HousestyleModel" "typed" "[C") (List.mem_cons_of_mem _ gw_29_14)) (fun _ h9 => h9) dX10_suggest_175 e66 ?_
                  refine lv_iload hx hb dX10_suggest_178 (lv_at hl 3 rfl) ?_
                  obtain ⟨ek67, hf⟩ := oc hf
                  obtain ⟨ei68, hf⟩ := oc hf
                  refine r_cald hx hb hH ek67 ei68 dX10_suggest_180 ?_
                  obtain ⟨ek69, hf⟩ := oc hf
                  obtain ⟨ei70, hf⟩ := oc hf
                  refine r_cast hx hb hH ek69 ei70 dX10_suggest_181 (fun H locs hH => ?_)
                  obtain ⟨S71, e72, hf⟩ := ol hf
                  rw [e72] at hH
                  obtain ⟨x73, e74, hf⟩ := ol hf
                  refine lv_iinc (v := x73) (lv' := [(5, .int x73), (0, .ref a0), (1, .int p1), (4, .int x27)]) hx hb dX10_suggest_182 hl (k := 3) rfl (by rw [← e74]; rfl) (by decide) rfl (fun ls hl => ?_)
                  refine lv_goto (tgt := 153) hx hb dX10_suggest_185 (by decide) ?_
                  cases hf
                  exact ih60 x73 S71 hq60 _ _ ls hH (lv_sub hl [1, 2, 3, 0] rfl)
            exact Lo60 kF 0 S19 eo60 _ _ ls hH (lv_sub hl [2, 3, 1, 0] rfl)
          · have hf := iq hf c22
            refine lv_iconst (v := 0) hx hb dX10_suggest_136 (by decide) ?_
            have hr9 := Option.some.inj hf
            subst hr9
            exact e_i hx hb hr hlocks hH dX10_suggest_137
        obtain ⟨j76, e78, hf⟩ := ol hf
        have Jj76 : ∀ (u77 : Unit) (H : Heap) (locs : List Loc) (ls : Array Slot), HI D S S4 s H locs → lv_has ls 6 [(0, .ref a0), (1, .int p1)] → j76 u77 = some r → GI p l e (headSpec wsX10_suggest rmX10_suggest).room s m ([.ref a0, .int p1] : List Value).toArray below meth c D S r.1 r.2 H locs 0 0 0 0 (F0 m 107 ls [.ref a0]) := by
          intro u77 H locs ls hH hl hf
          rw [← e78] at hf
          refine lv_iconst (v := 2) hx hb dX10_suggest_107 (by decide) ?_
          refine lv_goto (tgt := 126) hx hb dX10_suggest_108 (by decide) ?_
          exact Jj18 2 _ _ ls hH (lv_sub hl [0, 1] rfl) hf
        refine lv_if_eq (tgt := 107) hx hb dX10_suggest_99 (by decide) (fun c79 => ?_) (fun c79 => ?_)
        · have hf := ip hf c79
          exact Jj76 () _ _ ls hH (lv_sub hl [0, 1] rfl) hf
        · have hf := iq hf c79
          refine lv_iload_n hx hb dX10_suggest_102 rfl (lv_at hl 3 rfl) ?_
          refine lv_iconst (v := 1) hx hb dX10_suggest_103 (by decide) ?_
          refine lv_icmp_le (tgt := 111) hx hb dX10_suggest_104 (by decide) (fun c80 => ?_) (fun c80 => ?_)
          · have hf := ip hf c80
            refine lv_aload_n hx hb dX10_suggest_111 rfl (lv_at hl 0 rfl) ?_
            obtain ⟨a81, e82, hf⟩ := ob hf
            refine r_getQ hx hb 13 hts (fun w h => List.mem_cons_of_mem _ (mwsX100 w h)) hown hH ek7 (by decide) rfl 17 (by decide) rfl (hts (.fieldLink RX10 51 "HousestyleModel" "suggestions" "[I") (List.mem_cons_of_mem _ gw_30_2)) (fun _ h9 => h9) dX10_suggest_112 e82 ?_
            refine lv_iload_n hx hb dX10_suggest_115 rfl (lv_at hl 1 rfl) ?_
            obtain ⟨ek83, hf⟩ := oc hf
            obtain ⟨ei84, hf⟩ := oc hf
            refine r_iald hx hb hH ek83 ei84 dX10_suggest_116 ?_
            refine lv_iconst (v := 2) hx hb dX10_suggest_117 (by decide) ?_
            refine lv_icmp_ne (tgt := 125) hx hb dX10_suggest_118 (by decide) (fun c85 => ?_) (fun c85 => ?_)
            · have hf := iq hf c85
              refine lv_iconst (v := 0) hx hb dX10_suggest_125 (by decide) ?_
              exact Jj18 0 _ _ ls hH (lv_sub hl [0, 1] rfl) hf
            · have hf := ip hf c85
              refine lv_iconst (v := 3) hx hb dX10_suggest_121 (by decide) ?_
              refine lv_goto (tgt := 126) hx hb dX10_suggest_122 (by decide) ?_
              exact Jj18 3 _ _ ls hH (lv_sub hl [0, 1] rfl) hf
          · have hf := iq hf c80
            exact Jj76 () _ _ ls hH (lv_sub hl [0, 1] rfl) hf
      obtain ⟨o86, eo86, hq86f⟩ := ob hf
      have Lo86 : ∀ (n : Nat) (x10 : Int32) (x11 : Int32) (x12 : Int32), iter (fun (v : Int32 × Int32 × Int32) => f_X10_suggest_b28 a0 S4 v.1 v.2.1 v.2.2) n (x10, x11, x12) = some o86 → ∀ (H : Heap) (locs : List Loc) (ls : Array Slot), HI D S S4 s H locs → lv_has ls 6 [(0, .ref a0), (1, .int p1), (2, .int x10), (3, .int x11), (4, .int x12)] → GI p l e (headSpec wsX10_suggest rmX10_suggest).room s m ([.ref a0, .int p1] : List Value).toArray below meth c D S r.1 r.2 H locs 0 0 0 0 (F0 m 28 ls []) := by
        intro n
        induction n with
        | zero => intro x10 x11 x12 hi; cases hi
        | succ n ih86 =>
          intro x10 x11 x12 hi H locs ls hH hl
          obtain ⟨q86_, hf, hq86⟩ := iter_s hi
          have hf : f_X10_suggest_b28 a0 S4 x10 x11 x12 = some q86_ := hf
          unfold f_X10_suggest_b28 at hf
          refine lv_iload hx hb dX10_suggest_28 (lv_at hl 4 rfl) ?_
          refine lv_aload_n hx hb dX10_suggest_30 rfl (lv_at hl 0 rfl) ?_
          refine r_getI hx hb 13 hts (fun w h => List.mem_cons_of_mem _ (mwsX100 w h)) hown hH ek7 (by decide) rfl 5 (by decide) rfl (hts (.fieldLink RX10 145 "HousestyleModel" "typedSize" "I") (List.mem_cons_of_mem _ gw_31_17)) (fun _ h9 => h9) dX10_suggest_31 ?_
          refine lv_icmp_ge (tgt := 97) hx hb dX10_suggest_34 (by decide) (fun c87 => ?_) (fun c87 => ?_)
          · have hf := ip hf c87
            cases hf
            have hf9 := itR (K := (fun (v : Int32 × Int32) => k15 v.1 v.2)) hq86 hq86f
            exact Xk15 x10 x11 _ _ ls hH (lv_sub hl [0, 1, 2, 3] rfl) hf9
          · have hf := iq hf c87
            refine lv_iload_n hx hb dX10_suggest_37 rfl (lv_at hl 2 rfl) ?_
            obtain ⟨j89, e102, hf⟩ := ol hf
            have Jj89 : ∀ (x88 : Int32) (H : Heap) (locs : List Loc) (ls : Array Slot), HI D S S4 s H locs → lv_has ls 6 [(0, .ref a0), (1, .int p1), (3, .int x11), (4, .int x12)] → j89 x88 = some q86_ → GI p l e (headSpec wsX10_suggest rmX10_suggest).room s m ([.ref a0, .int p1] : List Value).toArray below meth c D S r.1 r.2 H locs 0 0 0 0 (F0 m 70 ls [.int x88]) := by
              intro x88 H locs ls hH hl hf
              rw [← e102] at hf
              refine lv_istore_n (lv' := [(2, .int x88), (0, .ref a0), (1, .int p1), (3, .int x11), (4, .int x12)]) hx hb dX10_suggest_70 rfl hl (by decide) rfl (fun ls hl => ?_)
              refine lv_iload_n hx hb dX10_suggest_71 rfl (lv_at hl 3 rfl) ?_
              refine lv_aload_n hx hb dX10_suggest_72 rfl (lv_at hl 1 rfl) ?_
              obtain ⟨a90, e91, hf⟩ := ob hf
              refine r_getQ hx hb 13 hts (fun w h => List.mem_cons_of_mem _ (mwsX100 w h)) hown hH ek7 (by decide) rfl 4 (by decide) rfl (hts (.fieldLink RX10 17 "HousestyleModel" "typed" "[C") (List.mem_cons_of_mem _ gw_29_14)) (fun _ h9 => h9) dX10_suggest_73 e91 ?_
              refine lv_iload hx hb dX10_suggest_76 (lv_at hl 4 rfl) ?_
              obtain ⟨ek92, hf⟩ := oc hf
              obtain ⟨ei93, hf⟩ := oc hf
              refine r_cald hx hb hH ek92 ei93 dX10_suggest_78 ?_
              refine lv_bipush (v := 42) hx hb dX10_suggest_79 (by decide) ?_
              obtain ⟨j95, e100, hf⟩ := ol hf
              have Jj95 : ∀ (x94 : Int32) (H : Heap) (locs : List Loc) (ls : Array Slot), HI D S S4 s H locs → lv_has ls 6 [(0, .ref a0), (1, .int p1), (2, .int x88), (4, .int x12)] → j95 x94 = some q86_ → GI p l e (headSpec wsX10_suggest rmX10_suggest).room s m ([.ref a0, .int p1] : List Value).toArray below meth c D S r.1 r.2 H locs 0 0 0 0 (F0 m 89 ls [.int x94, .int x11]) := by
                intro x94 H locs ls hH hl hf
                rw [← e100] at hf
                refine lv_iadd hx hb dX10_suggest_89 ?_
                obtain ⟨x96, e97, hf⟩ := ol hf
                refine lv_topE e97 ?_
                refine lv_istore_n (lv' := [(3, .int x96), (0, .ref a0), (1, .int p1), (2, .int x88), (4, .int x12)]) hx hb dX10_suggest_90 rfl hl (by decide) rfl (fun ls hl => ?_)
                obtain ⟨x98, e99, hf⟩ := ol hf
                refine lv_iinc (v := x98) (lv' := [(4, .int x98), (3, .int x96), (0, .ref a0), (1, .int p1), (2, .int x88)]) hx hb dX10_suggest_91 hl (k := 4) rfl (by rw [← e99]; rfl) (by decide) rfl (fun ls hl => ?_)
                refine lv_goto (tgt := 28) hx hb dX10_suggest_94 (by decide) ?_
                cases hf
                exact ih86 x88 x96 x98 hq86 _ _ ls hH (lv_sub hl [2, 3, 4, 1, 0] rfl)
              refine lv_icmp_ne (tgt := 88) hx hb dX10_suggest_81 (by decide) (fun c101 => ?_) (fun c101 => ?_)
              · have hf := iq hf c101
                refine lv_iconst (v := 0) hx hb dX10_suggest_88 (by decide) ?_
                exact Jj95 0 _ _ ls hH (lv_sub hl [1, 2, 0, 4] rfl) hf
              · have hf := ip hf c101
                refine lv_iconst (v := 1) hx hb dX10_suggest_84 (by decide) ?_
                refine lv_goto (tgt := 89) hx hb dX10_suggest_85 (by decide) ?_
                exact Jj95 1 _ _ ls hH (lv_sub hl [1, 2, 0, 4] rfl) hf
            obtain ⟨j103, e105, hf⟩ := ol hf
            have Jj103 : ∀ (u104 : Unit) (H : Heap) (locs : List Loc) (ls : Array Slot), HI D S S4 s H locs → lv_has ls 6 [(0, .ref a0), (1, .int p1), (3, .int x11), (4, .int x12)] → j103 u104 = some q86_ → GI p l e (headSpec wsX10_suggest rmX10_suggest).room s m ([.ref a0, .int p1] : List Value).toArray below meth c D S r.1 r.2 H locs 0 0 0 0 (F0 m 69 ls []) := by
              intro u104 H locs ls hH hl hf
              rw [← e105] at hf
              refine lv_iconst (v := 0) hx hb dX10_suggest_69 (by decide) ?_
              exact Jj89 0 _ _ ls hH (lv_sub hl [0, 1, 2, 3] rfl) hf
            refine lv_if_eq (tgt := 69) hx hb dX10_suggest_38 (by decide) (fun c106 => ?_) (fun c106 => ?_)
            · have hf := ip hf c106
              exact Jj103 () _ _ ls hH (lv_sub hl [0, 1, 3, 4] rfl) hf
            · have hf := iq hf c106
              refine lv_aload_n hx hb dX10_suggest_41 rfl (lv_at hl 0 rfl) ?_
              obtain ⟨a107, e108, hf⟩ := ob hf
              refine r_getQ hx hb 13 hts (fun w h => List.mem_cons_of_mem _ (mwsX100 w h)) hown hH ek7 (by decide) rfl 4 (by decide) rfl (hts (.fieldLink RX10 17 "HousestyleModel" "typed" "[C") (List.mem_cons_of_mem _ gw_29_14)) (fun _ h9 => h9) dX10_suggest_42 e108 ?_
              refine lv_iload hx hb dX10_suggest_45 (lv_at hl 4 rfl) ?_
              obtain ⟨ek109, hf⟩ := oc hf
              obtain ⟨ei110, hf⟩ := oc hf
              refine r_cald hx hb hH ek109 ei110 dX10_suggest_47 ?_
              refine lv_bipush (v := 35) hx hb dX10_suggest_48 (by decide) ?_
              refine lv_icmp_eq (tgt := 69) hx hb dX10_suggest_50 (by decide) (fun c111 => ?_) (fun c111 => ?_)
              · have hf := ip hf c111
                exact Jj103 () _ _ ls hH (lv_sub hl [0, 1, 3, 4] rfl) hf
              · have hf := iq hf c111
                refine lv_aload_n hx hb dX10_suggest_53 rfl (lv_at hl 0 rfl) ?_
                refine r_getQ hx hb 13 hts (fun w h => List.mem_cons_of_mem _ (mwsX100 w h)) hown hH ek7 (by decide) rfl 4 (by decide) rfl (hts (.fieldLink RX10 17 "HousestyleModel" "typed" "[C") (List.mem_cons_of_mem _ gw_29_14)) (fun _ h9 => h9) dX10_suggest_54 e108 ?_
                refine lv_iload hx hb dX10_suggest_57 (lv_at hl 4 rfl) ?_
                obtain ⟨ei112, hf⟩ := oc hf
                refine r_cald hx hb hH ek109 ei112 dX10_suggest_59 ?_
                refine lv_bipush (v := 45) hx hb dX10_suggest_60 (by decide) ?_
                refine lv_icmp_eq (tgt := 69) hx hb dX10_suggest_62 (by decide) (fun c113 => ?_) (fun c113 => ?_)
                · have hf := ip hf c113
                  exact Jj103 () _ _ ls hH (lv_sub hl [0, 1, 3, 4] rfl) hf
                · have hf := iq hf c113
                  refine lv_iconst (v := 1) hx hb dX10_suggest_65 (by decide) ?_
                  refine lv_goto (tgt := 70) hx hb dX10_suggest_66 (by decide) ?_
                  exact Jj89 1 _ _ ls hH (lv_sub hl [0, 1, 3, 4] rfl) hf
      exact Lo86 kF x8 0 0 eo86 _ _ ls hH (lv_sub hl [3, 4, 2, 1, 0] rfl)
    refine lv_if_le (tgt := 21) hx hb dX10_suggest_14 (by decide) (fun c115 => ?_) (fun c115 => ?_)
    · have hf := ip hf c115
      refine lv_iconst (v := 0) hx hb dX10_suggest_21 (by decide) ?_
      exact Jj9 0 _ _ ls hH (lv_sub hl [0, 1] rfl) hf
    · have hf := iq hf c115
      refine lv_iconst (v := 1) hx hb dX10_suggest_17 (by decide) ?_
      refine lv_goto (tgt := 22) hx hb dX10_suggest_18 (by decide) ?_
      exact Jj9 1 _ _ ls hH (lv_sub hl [0, 1] rfl) hf
  · have hf := iq hf c6
    refine lv_iconst (v := 0) hx hb dX10_suggest_8 (by decide) ?_
    have hr9 := Option.some.inj hf
    subst hr9
    exact e_i hx hb hr hlocks hH dX10_suggest_9
set_option maxRecDepth 100000 in
def f_X10_pair_b204 (a0 : Nat) (r2 : Int32) (x4 : Int32) (x26 : Int32) (S27 : PS) : Option ((Int32 × PS) ⊕ ((PS))) := if x4 ≤ x26 then (some (.inr S27)) else (if kK S27 a0 = 14 then ((kQ S27 a0 21).bind fun a58 => (kQ S27 a0 4).bind fun a60 => if kK S27 a60 = 102 then (if ¬ (((r2 + 1) + x26) < 0 ∨ kN S27 a60 ≤ ((r2 + 1) + x26).toNatClampNeg) then (if kK S27 a58 = 102 then (if ¬ (((((2 * (kI S27 a0 20)) + 1) * 20) + x26) < 0 ∨ kN S27 a58 ≤ ((((2 * (kI S27 a0 20)) + 1) * 20) + x26).toNatClampNeg) then (lt (wI S27 a58 ((((2 * (kI S27 a0 20)) + 1) * 20) + x26).toNatClampNeg (vp_nar .char (kI S27 a60 ((r2 + 1) + x26).toNatClampNeg))) fun S66 => lt (x26 + 1) fun x68 => some (.inl (x68, S66))) else none) else none) else none) else none) else none)
set_option maxRecDepth 100000 in
def f_X10_pair_b165 (a0 : Nat) (r2 : Int32) (x21 : Int32) (S22 : PS) : Option ((Int32 × PS) ⊕ ((PS))) := if r2 ≤ x21 then (some (.inr S22)) else (if kK S22 a0 = 14 then ((kQ S22 a0 21).bind fun a73 => (kQ S22 a0 4).bind fun a75 => if kK S22 a75 = 102 then (if ¬ (x21 < 0 ∨ kN S22 a75 ≤ x21.toNatClampNeg) then (if kK S22 a73 = 102 then (if ¬ ((((2 * (kI S22 a0 20)) * 20) + x21) < 0 ∨ kN S22 a73 ≤ (((2 * (kI S22 a0 20)) * 20) + x21).toNatClampNeg) then (lt (wI S22 a73 (((2 * (kI S22 a0 20)) * 20) + x21).toNatClampNeg (vp_nar .char (kI S22 a75 x21.toNatClampNeg))) fun S81 => lt (x21 + 1) fun x83 => some (.inl (x83, S81))) else none) else none) else none) else none) else none)
set_option maxRecDepth 100000 in
def f_X10_pair_b78 (a0 : Nat) (r2 : Int32) (S : PS) (x10 : Int32) (x11 : Int32) : Option ((Int32 × Int32) ⊕ ((Int32))) := if r2 ≤ x11 then (some (.inr x10)) else (if x10 = 0 then (some (.inr x10)) else ((kQ S a0 4).bind fun a95 => if kK S a95 = 102 then (if ¬ (x11 < 0 ∨ kN S a95 ≤ x11.toNatClampNeg) then (if ¬ (((r2 + 1) + x11) < 0 ∨ kN S a95 ≤ ((r2 + 1) + x11).toNatClampNeg) then (lt (fun (x100 : Int32) => lt (x11 + 1) fun x102 => some (.inl (x100, x102))) fun j101 => if (kI S a95 x11.toNatClampNeg) = (kI S a95 ((r2 + 1) + x11).toNatClampNeg) then (j101 1) else (j101 0)) else none) else none) else none))
set_option maxRecDepth 100000 in
def f_X10_pair (S : PS) (a0 : Nat) : Option (PS × Int32) := if kK S a0 = 14 then ((f_X10_lettersFrom S a0 0).bind fun r2 => lt (fun (x4 : Int32) => lt (fun (x6 : Int32) => lt (fun (x8 : Int32) => lt (fun (x12 : Int32) => lt (fun (x15 : Int32) => lt (wI S a0 0 x15) fun S17 => if kK S17 a0 = 14 then (if (kI S17 a0 0) ≤ 0 then (lt (fun (S23 : PS) => lt (fun (S28 : PS) => if kK S28 a0 = 14 then ((kQ S28 a0 22).bind fun a32 => if kK S28 a32 = 101 then (if ¬ ((2 * (kI S28 a0 20)) < 0 ∨ kN S28 a32 ≤ (2 * (kI S28 a0 20)).toNatClampNeg) then (lt (wI S28 a32 (2 * (kI S28 a0 20)).toNatClampNeg r2) fun S36 => if kK S36 a0 = 14 then ((kQ S36 a0 22).bind fun a39 => if kK S36 a39 = 101 then (if ¬ (((2 * (kI S36 a0 20)) + 1) < 0 ∨ kN S36 a39 ≤ ((2 * (kI S36 a0 20)) + 1).toNatClampNeg) then (lt (wI S36 a39 ((2 * (kI S36 a0 20)) + 1).toNatClampNeg x4) fun S43 => if kK S43 a0 = 14 then (lt (wI S43 a0 20 ((kI S43 a0 20) + 1)) fun S46 => if kK S46 a0 = 14 then (lt (wI S46 a0 5 0) fun S49 => if kK S49 a0 = 14 then ((f_X10_marksAll S49 a0).bind fun r52 => if kK r52 a0 = 14 then (some (r52, ((kI r52 a0 20) - 1))) else none) else none) else none) else none) else none) else none) else none) else none) else none) else none) fun k29 => (iter (fun (v : Int32 × PS) => f_X10_pair_b204 a0 r2 x4 v.1 v.2) kF (0, S23)).bind (fun (v : PS) => k29 v)) fun k24 => (iter (fun (v : Int32 × PS) => f_X10_pair_b165 a0 r2 v.1 v.2) kF (0, S17)).bind (fun (v : PS) => k24 v)) else (some (S17, 0))) else none) fun j16 => lt (fun (u87 : Unit) => j16 1) fun j86 => if x6 = 0 then (j86 ()) else (if x12 = 0 then (if (kI S a0 20) = (4 : Int32) then (j16 2) else (j16 0)) else (j86 ()))) fun k13 => (iter (fun (v : Int32 × Int32) => f_X10_pair_b78 a0 r2 S v.1 v.2) kF (x8, 0)).bind (fun (v : Int32) => k13 v)) fun j9 => if r2 = x4 then (j9 1) else (j9 0)) fun j7 => lt (fun (u110 : Unit) => j7 0) fun j109 => if r2 ≤ 0 then (j109 ()) else (if x4 ≤ 0 then (j109 ()) else (if ((r2 + 1) + x4) = (kI S a0 5) then (j7 1) else (j109 ())))) fun j5 => lt (fun (u117 : Unit) => j5 0) fun j116 => if (kI S a0 5) ≤ r2 then (j116 ()) else ((kQ S a0 4).bind fun a120 => if kK S a120 = 102 then (if ¬ (r2 < 0 ∨ kN S a120 ≤ r2.toNatClampNeg) then (if (kI S a120 r2.toNatClampNeg) = (32 : Int32) then ((f_X10_lettersFrom S a0 (r2 + 1)).bind fun r125 => j5 r125) else (j116 ())) else none) else none)) else none
abbrev rmX10_pair : Room := { frames := 4, cells := 0, slots := 0, locals := 86 }
set_option maxHeartbeats 4000000 in
set_option maxRecDepth 100000 in
theorem c_X10_pair (l : Launch) (D : va_G × Nat) (S : PS) (a0 : Nat) (r : PS × Int32) (hf : f_X10_pair S a0 = some r) : MI l D yX10_pair wsX10_pair rmX10_pair S [.ref a0] r.1 r.2 0 0 := by
  unfold f_X10_pair at hf
  refine Met.ofW (cc := cX10_pair) (maxL := 6) (ret := (some .int)) (by decide) rfl ?_
  intro p e s m args below meth c s₁ B hml hv
  obtain ⟨rfl, hH0, hNE⟩ := hv
  have hx := B.exec
  have hb := B.bytes
  have hr := B.returns
  have hts := atoms_spec (ws := wsX10_pair) B.pre
  have hown : s.vm.findClass RX10 = some m.cls := findClass_of_methodNamed B.named
  have hlocks := B.notSynchronized
  have hH : HI D S S s s.heap [] := HI.start hH0
  have hl := lv_entry ([.ref a0]) (n := 6) (Nat.le_of_ble_eq_true rfl)
  rw [lg_entry_eq]
  generalize (lg_sl ([.ref a0]) ++ List.replicate (6 - (lg_sl ([.ref a0])).length) Slot.unset).toArray = ls at hl ⊢
  have hl : lv_has ls 6 [(0, .ref a0)] := hl
  refine lv_aload_n hx hb dX10_pair_0 rfl (lv_at hl 0 rfl) ?_
  refine lv_iconst (v := 0) hx hb dX10_pair_1 (by decide) ?_
  obtain ⟨ek1, hf⟩ := oc hf
  obtain ⟨r2, e3, hf⟩ := ob hf
  refine r_callVi (As := [.int 0]) ⟨hx, hb, hml, hown, hts⟩ (c_X10_lettersFrom l D S a0 0 r2 e3) (cwV 1 hts (gwV gw_33_7 gw_33_8 gw_33_9 gw_31_10 gw_31_23) rfl rfl rfl (by decide +kernel) ⟨Nat.le_of_ble_eq_true rfl, Nat.le_of_ble_eq_true rfl⟩) hH hNE 13 ek1 (by decide) rfl rfl rfl hl.1 rfl (Nat.le_of_ble_eq_true rfl) dX10_pair_2 ⟨(Nat.le_of_ble_eq_true rfl), (Nat.le_of_ble_eq_true rfl)⟩ (fun H locs hH => ?_)
  refine lv_istore_n (lv' := [(1, .int r2), (0, .ref a0)]) hx hb dX10_pair_5 rfl hl (by decide) rfl (fun ls hl => ?_)
  refine lv_iload_n hx hb dX10_pair_6 rfl (lv_at hl 0 rfl) ?_
  refine lv_aload_n hx hb dX10_pair_7 rfl (lv_at hl 1 rfl) ?_
  refine r_getI hx hb 13 hts (fun w h => List.mem_cons_of_mem _ (mwsX100 w h)) hown hH ek1 (by decide) rfl 5 (by decide) rfl (hts (.fieldLink RX10 145 "HousestyleModel" "typedSize" "I") (List.mem_cons_of_mem _ gw_31_17)) (fun _ h9 => h9) dX10_pair_8 ?_
  obtain ⟨j5, e115, hf⟩ := ol hf
  have Jj5 : ∀ (x4 : Int32) (H : Heap) (locs : List Loc) (ls : Array Slot), HI D S S s H locs → lv_has ls 6 [(0, .ref a0), (1, .int r2)] → j5 x4 = some r → GI p l e (headSpec wsX10_pair rmX10_pair).room s m ([.ref a0] : List Value).toArray below meth c D S r.1 r.2 H locs 0 0 0 0 (F0 m 36 ls [.int x4]) := by
    intro x4 H locs ls hH hl hf
    rw [← e115] at hf
    refine lv_istore_n (lv' := [(2, .int x4), (0, .ref a0), (1, .int r2)]) hx hb dX10_pair_36 rfl hl (by decide) rfl (fun ls hl => ?_)
    refine lv_iload_n hx hb dX10_pair_37 rfl (lv_at hl 2 rfl) ?_
    obtain ⟨j7, e108, hf⟩ := ol hf
    have Jj7 : ∀ (x6 : Int32) (H : Heap) (locs : List Loc) (ls : Array Slot), HI D S S s H locs → lv_has ls 6 [(0, .ref a0), (1, .int r2), (2, .int x4)] → j7 x6 = some r → GI p l e (headSpec wsX10_pair rmX10_pair).room s m ([.ref a0] : List Value).toArray below meth c D S r.1 r.2 H locs 0 0 0 0 (F0 m 62 ls [.int x6]) := by
      intro x6 H locs ls hH hl hf
      rw [← e108] at hf
      refine lv_istore_n (lv' := [(3, .int x6), (0, .ref a0), (1, .int r2), (2, .int x4)]) hx hb dX10_pair_62 rfl hl (by decide) rfl (fun ls hl => ?_)
      refine lv_iload_n hx hb dX10_pair_63 rfl (lv_at hl 2 rfl) ?_
      refine lv_iload_n hx hb dX10_pair_64 rfl (lv_at hl 3 rfl) ?_
      obtain ⟨j9, e106, hf⟩ := ol hf
      have Jj9 : ∀ (x8 : Int32) (H : Heap) (locs : List Loc) (ls : Array Slot), HI D S S s H locs → lv_has ls 6 [(0, .ref a0), (1, .int r2), (2, .int x4), (3, .int x6)] → j9 x8 = some r → GI p l e (headSpec wsX10_pair rmX10_pair).room s m ([.ref a0] : List Value).toArray below meth c D S r.1 r.2 H locs 0 0 0 0 (F0 m 73 ls [.int x8]) := by
        intro x8 H locs ls hH hl hf
        rw [← e106] at hf
        refine lv_istore (lv' := [(4, .int x8), (0, .ref a0), (1, .int r2), (2, .int x4), (3, .int x6)]) hx hb dX10_pair_73 hl (by decide) rfl (fun ls hl => ?_)
        refine lv_iconst (v := 0) hx hb dX10_pair_75 (by decide) ?_
        refine lv_istore (lv' := [(5, .int 0), (4, .int x8), (0, .ref a0), (1, .int r2), (2, .int x4), (3, .int x6)]) hx hb dX10_pair_76 hl (by decide) rfl (fun ls hl => ?_)
        obtain ⟨k13, e14, hf⟩ := ol hf
        have Xk13 : ∀ (x12 : Int32) (H : Heap) (locs : List Loc) (ls : Array Slot), HI D S S s H locs → lv_has ls 6 [(0, .ref a0), (1, .int r2), (2, .int x4), (3, .int x6), (4, .int x12)] → k13 x12 = some r → GI p l e (headSpec wsX10_pair rmX10_pair).room s m ([.ref a0] : List Value).toArray below meth c D S r.1 r.2 H locs 0 0 0 0 (F0 m 123 ls []) := by
          intro x12 H locs ls hH hl hf
          rw [← e14] at hf
          refine lv_aload_n hx hb dX10_pair_123 rfl (lv_at hl 0 rfl) ?_
          refine lv_iload_n hx hb dX10_pair_124 rfl (lv_at hl 3 rfl) ?_
          obtain ⟨j16, e85, hf⟩ := ol hf
          have Jj16 : ∀ (x15 : Int32) (H : Heap) (locs : List Loc) (ls : Array Slot), HI D S S s H locs → lv_has ls 6 [(0, .ref a0), (1, .int r2), (2, .int x4)] → j16 x15 = some r → GI p l e (headSpec wsX10_pair rmX10_pair).room s m ([.ref a0] : List Value).toArray below meth c D S r.1 r.2 H locs 0 0 0 0 (F0 m 150 ls [.int x15, .ref a0]) := by
            intro x15 H locs ls hH hl hf
            rw [← e85] at hf
            refine r_putI hx hb 13 hts (fun w h => List.mem_cons_of_mem _ (mwsX100 w h)) tyX10 tyX10_ok nmX10 hown hH ek1 (by decide) rfl 0 (by decide) rfl (hts (.fieldLink RX10 123 "HousestyleModel" "thrown" "I") (List.mem_cons_of_mem _ gw_31_3)) (fun _ h9 => h9) (Or.inl rfl) (ty := .int) (by decide +kernel) rfl rfl dX10_pair_150 (fun H locs hH => ?_)
            obtain ⟨S17, e18, hf⟩ := ol hf
            rw [e18] at hH
            refine lv_aload_n hx hb dX10_pair_153 rfl (lv_at hl 0 rfl) ?_
            obtain ⟨ek19, hf⟩ := oc hf
            refine r_getI hx hb 13 hts (fun w h => List.mem_cons_of_mem _ (mwsX100 w h)) hown hH ek19 (by decide) rfl 0 (by decide) rfl (hts (.fieldLink RX10 123 "HousestyleModel" "thrown" "I") (List.mem_cons_of_mem _ gw_31_3)) (fun _ h9 => h9) dX10_pair_154 ?_
            refine lv_if_le (tgt := 162) hx hb dX10_pair_157 (by decide) (fun c20 => ?_) (fun c20 => ?_)
            · have hf := ip hf c20
              refine lv_iconst (v := 0) hx hb dX10_pair_162 (by decide) ?_
              refine lv_istore (lv' := [(5, .int 0), (0, .ref a0), (1, .int r2), (2, .int x4)]) hx hb dX10_pair_163 hl (by decide) rfl (fun ls hl => ?_)
              obtain ⟨k24, e25, hf⟩ := ol hf
              have Xk24 : ∀ (S23 : PS) (H : Heap) (locs : List Loc) (ls : Array Slot), HI D S S23 s H locs → lv_has ls 6 [(0, .ref a0), (1, .int r2), (2, .int x4)] → k24 S23 = some r → GI p l e (headSpec wsX10_pair rmX10_pair).room s m ([.ref a0] : List Value).toArray below meth c D S r.1 r.2 H locs 0 0 0 0 (F0 m 201 ls []) := by
                intro S23 H locs ls hH hl hf
                rw [← e25] at hf
                refine lv_iconst (v := 0) hx hb dX10_pair_201 (by decide) ?_
                refine lv_istore (lv' := [(5, .int 0), (0, .ref a0), (1, .int r2), (2, .int x4)]) hx hb dX10_pair_202 hl (by decide) rfl (fun ls hl => ?_)
                obtain ⟨k29, e30, hf⟩ := ol hf
                have Xk29 : ∀ (S28 : PS) (H : Heap) (locs : List Loc) (ls : Array Slot), HI D S S28 s H locs → lv_has ls 6 [(0, .ref a0), (1, .int r2), (2, .int x4)] → k29 S28 = some r → GI p l e (headSpec wsX10_pair rmX10_pair).room s m ([.ref a0] : List Value).toArray below meth c D S r.1 r.2 H locs 0 0 0 0 (F0 m 246 ls []) := by
                  intro S28 H locs ls hH hl hf
                  rw [← e30] at hf
                  refine lv_aload_n hx hb dX10_pair_246 rfl (lv_at hl 0 rfl) ?_
                  obtain ⟨ek31, hf⟩ := oc hf
                  obtain ⟨a32, e33, hf⟩ := ob hf
                  refine r_getQ hx hb 13 hts (fun w h => List.mem_cons_of_mem _ (mwsX100 w h)) hown hH ek31 (by decide) rfl 22 (by decide) rfl (hts (.fieldLink RX10 63 "HousestyleModel" "pairedSizes" "[I") (List.mem_cons_of_mem _ gw_30_6)) (fun _ h9 => h9) dX10_pair_247 e33 ?_
                  refine lv_iconst (v := 2) hx hb dX10_pair_250 (by decide) ?_
                  refine lv_aload_n hx hb dX10_pair_251 rfl (lv_at hl 0 rfl) ?_
                  refine r_getI hx hb 13 hts (fun w h => List.mem_cons_of_mem _ (mwsX100 w h)) hown hH ek31 (by decide) rfl 20 (by decide) rfl (hts (.fieldLink RX10 187 "HousestyleModel" "pairs" "I") (List.mem_cons_of_mem _ gw_33_23)) (fun _ h9 => h9) dX10_pair_252 ?_
                  refine lv_imul hx hb dX10_pair_255 ?_
                  refine lv_iload_n hx hb dX10_pair_256 rfl (lv_at hl 1 rfl) ?_
                  obtain ⟨ek34, hf⟩ := oc hf
                  obtain ⟨ei35, hf⟩ := oc hf
                  refine r_iast hx hb hH ek34 ei35 dX10_pair_257 (fun H locs hH => ?_)
                  obtain ⟨S36, e37, hf⟩ := ol hf
                  rw [e37] at hH
                  refine lv_aload_n hx hb dX10_pair_258 rfl (lv_at hl 0 rfl) ?_
                  obtain ⟨ek38, hf⟩ := oc hf
                  obtain ⟨a39, e40, hf⟩ := ob hf
                  refine r_getQ hx hb 13 hts (fun w h => List.mem_cons_of_mem _ (mwsX100 w h)) hown hH ek38 (by decide) rfl 22 (by decide) rfl (hts (.fieldLink RX10 63 "HousestyleModel" "pairedSizes" "[I") (List.mem_cons_of_mem _ gw_30_6)) (fun _ h9 => h9) dX10_pair_259 e40 ?_
                  refine lv_iconst (v := 2) hx hb dX10_pair_262 (by decide) ?_
                  refine lv_aload_n hx hb dX10_pair_263 rfl (lv_at hl 0 rfl) ?_
                  refine r_getI hx hb 13 hts (fun w h => List.mem_cons_of_mem _ (mwsX100 w h)) hown hH ek38 (by decide) rfl 20 (by decide) rfl (hts (.fieldLink RX10 187 "HousestyleModel" "pairs" "I") (List.mem_cons_of_mem _ gw_33_23)) (fun _ h9 => h9) dX10_pair_264 ?_
                  refine lv_imul hx hb dX10_pair_267 ?_
                  refine lv_iconst (v := 1) hx hb dX10_pair_268 (by decide) ?_
                  refine lv_iadd hx hb dX10_pair_269 ?_
                  refine lv_iload_n hx hb dX10_pair_270 rfl (lv_at hl 2 rfl) ?_
                  obtain ⟨ek41, hf⟩ := oc hf
                  obtain ⟨ei42, hf⟩ := oc hf
                  refine r_iast hx hb hH ek41 ei42 dX10_pair_271 (fun H locs hH => ?_)
                  obtain ⟨S43, e44, hf⟩ := ol hf
                  rw [e44] at hH
                  refine lv_aload_n hx hb dX10_pair_272 rfl (lv_at hl 0 rfl) ?_
                  refine lv_dup hx hb dX10_pair_273 rfl ?_
                  obtain ⟨ek45, hf⟩ := oc hf
                  refine r_getI hx hb 13 hts (fun w h => List.mem_cons_of_mem _ (mwsX100 w h)) hown hH ek45 (by decide) rfl 20 (by decide) rfl (hts (.fieldLink RX10 187 "HousestyleModel" "pairs" "I") (List.mem_cons_of_mem _ gw_33_23)) (fun _ h9 => h9) dX10_pair_274 ?_
                  refine lv_iconst (v := 1) hx hb dX10_pair_277 (by decide) ?_
                  refine lv_iadd hx hb dX10_pair_278 ?_
                  refine r_putI hx hb 13 hts (fun w h => List.mem_cons_of_mem _ (mwsX100 w h)) tyX10 tyX10_ok nmX10 hown hH ek45 (by decide) rfl 20 (by decide) rfl (hts (.fieldLink RX10 187 "HousestyleModel" "pairs" "I") (List.mem_cons_of_mem _ gw_33_23)) (fun _ h9 => h9) (Or.inl rfl) (ty := .int) (by decide +kernel) rfl rfl dX10_pair_279 (fun H locs hH => ?_)
                  obtain ⟨S46, e47, hf⟩ := ol hf
                  rw [e47] at hH
                  refine lv_aload_n hx hb dX10_pair_282 rfl (lv_at hl 0 rfl) ?_
                  refine lv_iconst (v := 0) hx hb dX10_pair_283 (by decide) ?_
                  obtain ⟨ek48, hf⟩ := oc hf
                  refine r_putI hx hb 13 hts (fun w h => List.mem_cons_of_mem _ (mwsX100 w h)) tyX10 tyX10_ok nmX10 hown hH ek48 (by decide) rfl 5 (by decide) rfl (hts (.fieldLink RX10 145 "HousestyleModel" "typedSize" "I") (List.mem_cons_of_mem _ gw_31_17)) (fun _ h9 => h9) (Or.inl rfl) (ty := .int) (by decide +kernel) rfl rfl dX10_pair_284 (fun H locs hH => ?_)
                  obtain ⟨S49, e50, hf⟩ := ol hf
                  rw [e50] at hH
                  refine lv_aload_n hx hb dX10_pair_287 rfl (lv_at hl 0 rfl) ?_
                  obtain ⟨ek51, hf⟩ := oc hf
                  obtain ⟨r52, e53, hf⟩ := ob hf
                  refine r_callVv (As := []) ⟨hx, hb, hml, hown, hts⟩ (c_X10_marksAll l D S49 a0 r52 e53) (cwV 0 hts (gwV gw_33_14 gw_33_15 gw_33_16 gw_31_10 gw_32_10) rfl rfl rfl (by decide +kernel) ⟨Nat.le_of_ble_eq_true rfl, Nat.le_of_ble_eq_true rfl⟩) hH hNE 13 ek51 (by decide) rfl rfl rfl hl.1 rfl (Nat.le_of_ble_eq_true rfl) dX10_pair_288 ⟨(Nat.le_of_ble_eq_true rfl), (Nat.le_of_ble_eq_true rfl)⟩ (fun H locs hH => ?_)
                  refine lv_aload_n hx hb dX10_pair_291 rfl (lv_at hl 0 rfl) ?_
                  obtain ⟨ek54, hf⟩ := oc hf
                  refine r_getI hx hb 13 hts (fun w h => List.mem_cons_of_mem _ (mwsX100 w h)) hown hH ek54 (by decide) rfl 20 (by decide) rfl (hts (.fieldLink RX10 187 "HousestyleModel" "pairs" "I") (List.mem_cons_of_mem _ gw_33_23)) (fun _ h9 => h9) dX10_pair_292 ?_
                  refine lv_iconst (v := 1) hx hb dX10_pair_295 (by decide) ?_
                  refine lv_isub hx hb dX10_pair_296 ?_
                  have hr9 := Option.some.inj hf
                  subst hr9
                  exact e_i hx hb hr hlocks hH dX10_pair_297
                obtain ⟨o55, eo55, hq55f⟩ := ob hf
                have Lo55 : ∀ (n : Nat) (x26 : Int32) (S27 : PS), iter (fun (v : Int32 × PS) => f_X10_pair_b204 a0 r2 x4 v.1 v.2) n (x26, S27) = some o55 → ∀ (H : Heap) (locs : List Loc) (ls : Array Slot), HI D S S27 s H locs → lv_has ls 6 [(0, .ref a0), (1, .int r2), (2, .int x4), (5, .int x26)] → GI p l e (headSpec wsX10_pair rmX10_pair).room s m ([.ref a0] : List Value).toArray below meth c D S r.1 r.2 H locs 0 0 0 0 (F0 m 204 ls []) := by
                  intro n
                  induction n with
                  | zero => intro x26 S27 hi; cases hi
                  | succ n ih55 =>
                    intro x26 S27 hi H locs ls hH hl
                    obtain ⟨q55_, hf, hq55⟩ := iter_s hi
                    have hf : f_X10_pair_b204 a0 r2 x4 x26 S27 = some q55_ := hf
                    unfold f_X10_pair_b204 at hf
                    refine lv_iload hx hb dX10_pair_204 (lv_at hl 3 rfl) ?_
                    refine lv_iload_n hx hb dX10_pair_206 rfl (lv_at hl 2 rfl) ?_
                    refine lv_icmp_ge (tgt := 246) hx hb dX10_pair_207 (by decide) (fun c56 => ?_) (fun c56 => ?_)
                    · have hf := ip hf c56
                      cases hf
                      have hf9 := itR (K := (fun (v : PS) => k29 v)) hq55 hq55f
                      exact Xk29 S27 _ _ ls hH (lv_sub hl [0, 1, 2] rfl) hf9
                    · have hf := iq hf c56
                      refine lv_aload_n hx hb dX10_pair_210 rfl (lv_at hl 0 rfl) ?_
                      obtain ⟨ek57, hf⟩ := oc hf
                      obtain ⟨a58, e59, hf⟩ := ob hf
                      refine r_getQ hx hb 13 hts (fun w h => List.mem_cons_of_mem _ (mwsX100 w h)) hown hH ek57 (by decide) rfl 21 (by decide) rfl (hts (.fieldLink RX10 60 "HousestyleModel" "paired" "[C") (List.mem_cons_of_mem _ gw_30_5)) (fun _ h9 => h9) dX10_pair_211 e59 ?_
                      refine lv_iconst (v := 2) hx hb dX10_pair_214 (by decide) ?_
                      refine lv_aload_n hx hb dX10_pair_215 rfl (lv_at hl 0 rfl) ?_
                      refine r_getI hx hb 13 hts (fun w h => List.mem_cons_of_mem _ (mwsX100 w h)) hown hH ek57 (by decide) rfl 20 (by decide) rfl (hts (.fieldLink RX10 187 "HousestyleModel" "pairs" "I") (List.mem_cons_of_mem _ gw_33_23)) (fun _ h9 => h9) dX10_pair_216 ?_
                      refine lv_imul hx hb dX10_pair_219 ?_
                      refine lv_iconst (v := 1) hx hb dX10_pair_220 (by decide) ?_
                      refine lv_iadd hx hb dX10_pair_221 ?_
                      refine lv_bipush (v := 20) hx hb dX10_pair_222 (by decide) ?_
                      refine lv_imul hx hb dX10_pair_224 ?_
                      refine lv_iload hx hb dX10_pair_225 (lv_at hl 3 rfl) ?_
                      refine lv_iadd hx hb dX10_pair_227 ?_
                      refine lv_aload_n hx hb dX10_pair_228 rfl (lv_at hl 0 rfl) ?_
                      obtain ⟨a60, e61, hf⟩ := ob hf
                      refine r_getQ hx hb 13 hts (fun w h => List.mem_cons_of_mem _ (mwsX100 w h)) hown hH ek57 (by decide) rfl 4 (by decide) rfl (hts (.fieldLink RX10 17 "HousestyleModel" "typed" "[C") (List.mem_cons_of_mem _ gw_29_14)) (fun _ h9 => h9) dX10_pair_229 e61 ?_
                      refine lv_iload_n hx hb dX10_pair_232 rfl (lv_at hl 1 rfl) ?_
                      refine lv_iconst (v := 1) hx hb dX10_pair_233 (by decide) ?_
                      refine lv_iadd hx hb dX10_pair_234 ?_
                      refine lv_iload hx hb dX10_pair_235 (lv_at hl 3 rfl) ?_
                      refine lv_iadd hx hb dX10_pair_237 ?_
                      obtain ⟨ek62, hf⟩ := oc hf
                      obtain ⟨ei63, hf⟩ := oc hf
                      refine r_cald hx hb hH ek62 ei63 dX10_pair_238 ?_
                      obtain ⟨ek64, hf⟩ := oc hf
                      obtain ⟨ei65, hf⟩ := oc hf
                      refine r_cast hx hb hH ek64 ei65 dX10_pair_239 (fun H locs hH => ?_)
                      obtain ⟨S66, e67, hf⟩ := ol hf
                      rw [e67] at hH
                      obtain ⟨x68, e69, hf⟩ := ol hf
                      refine lv_iinc (v := x68) (lv' := [(5, .int x68), (0, .ref a0), (1, .int r2), (2, .int x4)]) hx hb dX10_pair_240 hl (k := 3) rfl (by rw [← e69]; rfl) (by decide) rfl (fun ls hl => ?_)
                      refine lv_goto (tgt := 204) hx hb dX10_pair_243 (by decide) ?_
                      cases hf
                      exact ih55 x68 S66 hq55 _ _ ls hH (lv_sub hl [1, 2, 3, 0] rfl)
                exact Lo55 kF 0 S23 eo55 _ _ ls hH (lv_sub hl [1, 2, 3, 0] rfl)
              obtain ⟨o70, eo70, hq70f⟩ := ob hf
              have Lo70 : ∀ (n : Nat) (x21 : Int32) (S22 : PS), iter (fun (v : Int32 × PS) => f_X10_pair_b165 a0 r2 v.1 v.2) n (x21, S22) = some o70 → ∀ (H : Heap) (locs : List Loc) (ls : Array Slot), HI D S S22 s H locs → lv_has ls 6 [(0, .ref a0), (1, .int r2), (2, .int x4), (5, .int x21)] → GI p l e (headSpec wsX10_pair rmX10_pair).room s m ([.ref a0] : List Value).toArray below meth c D S r.1 r.2 H locs 0 0 0 0 (F0 m 165 ls []) := by
                intro n
                induction n with
                | zero => intro x21 S22 hi; cases hi
                | succ n ih70 =>
                  intro x21 S22 hi H locs ls hH hl
                  obtain ⟨q70_, hf, hq70⟩ := iter_s hi
                  have hf : f_X10_pair_b165 a0 r2 x21 S22 = some q70_ := hf
                  unfold f_X10_pair_b165 at hf
                  refine lv_iload hx hb dX10_pair_165 (lv_at hl 3 rfl) ?_
                  refine lv_iload_n hx hb dX10_pair_167 rfl (lv_at hl 1 rfl) ?_
                  refine lv_icmp_ge (tgt := 201) hx hb dX10_pair_168 (by decide) (fun c71 => ?_) (fun c71 => ?_)
                  · have hf := ip hf c71
                    cases hf
                    have hf9 := itR (K := (fun (v : PS) => k24 v)) hq70 hq70f
                    exact Xk24 S22 _ _ ls hH (lv_sub hl [0, 1, 2] rfl) hf9
                  · have hf := iq hf c71
                    refine lv_aload_n hx hb dX10_pair_171 rfl (lv_at hl 0 rfl) ?_
                    obtain ⟨ek72, hf⟩ := oc hf
                    obtain ⟨a73, e74, hf⟩ := ob hf
                    refine r_getQ hx hb 13 hts (fun w h => List.mem_cons_of_mem _ (mwsX100 w h)) hown hH ek72 (by decide) rfl 21 (by decide) rfl (hts (.fieldLink RX10 60 "HousestyleModel" "paired" "[C") (List.mem_cons_of_mem _ gw_30_5)) (fun _ h9 => h9) dX10_pair_172 e74 ?_
                    refine lv_iconst (v := 2) hx hb dX10_pair_175 (by decide) ?_
                    refine lv_aload_n hx hb dX10_pair_176 rfl (lv_at hl 0 rfl) ?_
                    refine r_getI hx hb 13 hts (fun w h => List.mem_cons_of_mem _ (mwsX100 w h)) hown hH ek72 (by decide) rfl 20 (by decide) rfl (hts (.fieldLink RX10 187 "HousestyleModel" "pairs" "I") (List.mem_cons_of_mem _ gw_33_23)) (fun _ h9 => h9) dX10_pair_177 ?_
                    refine lv_imul hx hb dX10_pair_180 ?_
                    refine lv_bipush (v := 20) hx hb dX10_pair_181 (by decide) ?_
                    refine lv_imul hx hb dX10_pair_183 ?_
                    refine lv_iload hx hb dX10_pair_184 (lv_at hl 3 rfl) ?_
                    refine lv_iadd hx hb dX10_pair_186 ?_
                    refine lv_aload_n hx hb dX10_pair_187 rfl (lv_at hl 0 rfl) ?_
                    obtain ⟨a75, e76, hf⟩ := ob hf
                    refine r_getQ hx hb 13 hts (fun w h => List.mem_cons_of_mem _ (mwsX100 w h)) hown hH ek72 (by decide) rfl 4 (by decide) rfl (hts (.fieldLink RX10 17 "HousestyleModel" "typed" "[C") (List.mem_cons_of_mem _ gw_29_14)) (fun _ h9 => h9) dX10_pair_188 e76 ?_
                    refine lv_iload hx hb dX10_pair_191 (lv_at hl 3 rfl) ?_
                    obtain ⟨ek77, hf⟩ := oc hf
                    obtain ⟨ei78, hf⟩ := oc hf
                    refine r_cald hx hb hH ek77 ei78 dX10_pair_193 ?_
                    obtain ⟨ek79, hf⟩ := oc hf
                    obtain ⟨ei80, hf⟩ := oc hf
                    refine r_cast hx hb hH ek79 ei80 dX10_pair_194 (fun H locs hH => ?_)
                    obtain ⟨S81, e82, hf⟩ := ol hf
                    rw [e82] at hH
                    obtain ⟨x83, e84, hf⟩ := ol hf
                    refine lv_iinc (v := x83) (lv' := [(5, .int x83), (0, .ref a0), (1, .int r2), (2, .int x4)]) hx hb dX10_pair_195 hl (k := 3) rfl (by rw [← e84]; rfl) (by decide) rfl (fun ls hl => ?_)
                    refine lv_goto (tgt := 165) hx hb dX10_pair_198 (by decide) ?_
                    cases hf
                    exact ih70 x83 S81 hq70 _ _ ls hH (lv_sub hl [1, 2, 3, 0] rfl)
              exact Lo70 kF 0 S17 eo70 _ _ ls hH (lv_sub hl [1, 2, 3, 0] rfl)
            · have hf := iq hf c20
              refine lv_iconst (v := 0) hx hb dX10_pair_160 (by decide) ?_
              have hr9 := Option.some.inj hf
              subst hr9
              exact e_i hx hb hr hlocks hH dX10_pair_161
          obtain ⟨j86, e88, hf⟩ := ol hf
          have Jj86 : ∀ (u87 : Unit) (H : Heap) (locs : List Loc) (ls : Array Slot), HI D S S s H locs → lv_has ls 6 [(0, .ref a0), (1, .int r2), (2, .int x4)] → j86 u87 = some r → GI p l e (headSpec wsX10_pair rmX10_pair).room s m ([.ref a0] : List Value).toArray below meth c D S r.1 r.2 H locs 0 0 0 0 (F0 m 133 ls [.ref a0]) := by
            intro u87 H locs ls hH hl hf
            rw [← e88] at hf
            refine lv_iconst (v := 1) hx hb dX10_pair_133 (by decide) ?_
            refine lv_goto (tgt := 150) hx hb dX10_pair_134 (by decide) ?_
            exact Jj16 1 _ _ ls hH (lv_sub hl [0, 1, 2] rfl) hf
          refine lv_if_eq (tgt := 133) hx hb dX10_pair_125 (by decide) (fun c89 => ?_) (fun c89 => ?_)
          · have hf := ip hf c89
            exact Jj86 () _ _ ls hH (lv_sub hl [0, 1, 2] rfl) hf
          · have hf := iq hf c89
            refine lv_iload hx hb dX10_pair_128 (lv_at hl 4 rfl) ?_
            refine lv_if_eq (tgt := 137) hx hb dX10_pair_130 (by decide) (fun c90 => ?_) (fun c90 => ?_)
            · have hf := ip hf c90
              refine lv_aload_n hx hb dX10_pair_137 rfl (lv_at hl 0 rfl) ?_
              refine r_getI hx hb 13 hts (fun w h => List.mem_cons_of_mem _ (mwsX100 w h)) hown hH ek1 (by decide) rfl 20 (by decide) rfl (hts (.fieldLink RX10 187 "HousestyleModel" "pairs" "I") (List.mem_cons_of_mem _ gw_33_23)) (fun _ h9 => h9) dX10_pair_138 ?_
              refine lv_iconst (v := 4) hx hb dX10_pair_141 (by decide) ?_
              refine lv_icmp_ne (tgt := 149) hx hb dX10_pair_142 (by decide) (fun c91 => ?_) (fun c91 => ?_)
              · have hf := iq hf c91
                refine lv_iconst (v := 0) hx hb dX10_pair_149 (by decide) ?_
                exact Jj16 0 _ _ ls hH (lv_sub hl [0, 1, 2] rfl) hf
              · have hf := ip hf c91
                refine lv_iconst (v := 2) hx hb dX10_pair_145 (by decide) ?_
                refine lv_goto (tgt := 150) hx hb dX10_pair_146 (by decide) ?_
                exact Jj16 2 _ _ ls hH (lv_sub hl [0, 1, 2] rfl) hf
            · have hf := iq hf c90
              exact Jj86 () _ _ ls hH (lv_sub hl [0, 1, 2] rfl) hf
        obtain ⟨o92, eo92, hq92f⟩ := ob hf
        have Lo92 : ∀ (n : Nat) (x10 : Int32) (x11 : Int32), iter (fun (v : Int32 × Int32) => f_X10_pair_b78 a0 r2 S v.1 v.2) n (x10, x11) = some o92 → ∀ (H : Heap) (locs : List Loc) (ls : Array Slot), HI D S S s H locs → lv_has ls 6 [(0, .ref a0), (1, .int r2), (2, .int x4), (3, .int x6), (4, .int x10), (5, .int x11)] → GI p l e (headSpec wsX10_pair rmX10_pair).room s m ([.ref a0] : List Value).toArray below meth c D S r.1 r.2 H locs 0 0 0 0 (F0 m 78 ls []) := by
          intro n
          induction n with
          | zero => intro x10 x11 hi; cases hi
          | succ n ih92 =>
            intro x10 x11 hi H locs ls hH hl
            obtain ⟨q92_, hf, hq92⟩ := iter_s hi
            have hf : f_X10_pair_b78 a0 r2 S x10 x11 = some q92_ := hf
            unfold f_X10_pair_b78 at hf
            refine lv_iload hx hb dX10_pair_78 (lv_at hl 5 rfl) ?_
            refine lv_iload_n hx hb dX10_pair_80 rfl (lv_at hl 1 rfl) ?_
            refine lv_icmp_ge (tgt := 123) hx hb dX10_pair_81 (by decide) (fun c93 => ?_) (fun c93 => ?_)
            · have hf := ip hf c93
              cases hf
              have hf9 := itR (K := (fun (v : Int32) => k13 v)) hq92 hq92f
              exact Xk13 x10 _ _ ls hH (lv_sub hl [0, 1, 2, 3, 4] rfl) hf9
            · have hf := iq hf c93
              refine lv_iload hx hb dX10_pair_84 (lv_at hl 4 rfl) ?_
              refine lv_if_eq (tgt := 123) hx hb dX10_pair_86 (by decide) (fun c94 => ?_) (fun c94 => ?_)
              · have hf := ip hf c94
                cases hf
                have hf9 := itR (K := (fun (v : Int32) => k13 v)) hq92 hq92f
                exact Xk13 x10 _ _ ls hH (lv_sub hl [0, 1, 2, 3, 4] rfl) hf9
              · have hf := iq hf c94
                refine lv_aload_n hx hb dX10_pair_89 rfl (lv_at hl 0 rfl) ?_
                obtain ⟨a95, e96, hf⟩ := ob hf
                refine r_getQ hx hb 13 hts (fun w h => List.mem_cons_of_mem _ (mwsX100 w h)) hown hH ek1 (by decide) rfl 4 (by decide) rfl (hts (.fieldLink RX10 17 "HousestyleModel" "typed" "[C") (List.mem_cons_of_mem _ gw_29_14)) (fun _ h9 => h9) dX10_pair_90 e96 ?_
                refine lv_iload hx hb dX10_pair_93 (lv_at hl 5 rfl) ?_
                obtain ⟨ek97, hf⟩ := oc hf
                obtain ⟨ei98, hf⟩ := oc hf
                refine r_cald hx hb hH ek97 ei98 dX10_pair_95 ?_
                refine lv_aload_n hx hb dX10_pair_96 rfl (lv_at hl 0 rfl) ?_
                refine r_getQ hx hb 13 hts (fun w h => List.mem_cons_of_mem _ (mwsX100 w h)) hown hH ek1 (by decide) rfl 4 (by decide) rfl (hts (.fieldLink RX10 17 "HousestyleModel" "typed" "[C") (List.mem_cons_of_mem _ gw_29_14)) (fun _ h9 => h9) dX10_pair_97 e96 ?_
                refine lv_iload_n hx hb dX10_pair_100 rfl (lv_at hl 1 rfl) ?_
                refine lv_iconst (v := 1) hx hb dX10_pair_101 (by decide) ?_
                refine lv_iadd hx hb dX10_pair_102 ?_
                refine lv_iload hx hb dX10_pair_103 (lv_at hl 5 rfl) ?_
                refine lv_iadd hx hb dX10_pair_105 ?_
                obtain ⟨ei99, hf⟩ := oc hf
                refine r_cald hx hb hH ek97 ei99 dX10_pair_106 ?_
                obtain ⟨j101, e104, hf⟩ := ol hf
                have Jj101 : ∀ (x100 : Int32) (H : Heap) (locs : List Loc) (ls : Array Slot), HI D S S s H locs → lv_has ls 6 [(0, .ref a0), (1, .int r2), (2, .int x4), (3, .int x6), (5, .int x11)] → j101 x100 = some q92_ → GI p l e (headSpec wsX10_pair rmX10_pair).room s m ([.ref a0] : List Value).toArray below meth c D S r.1 r.2 H locs 0 0 0 0 (F0 m 115 ls [.int x100]) := by
                  intro x100 H locs ls hH hl hf
                  rw [← e104] at hf
                  refine lv_istore (lv' := [(4, .int x100), (0, .ref a0), (1, .int r2), (2, .int x4), (3, .int x6), (5, .int x11)]) hx hb dX10_pair_115 hl (by decide) rfl (fun ls hl => ?_)
                  obtain ⟨x102, e103, hf⟩ := ol hf
                  refine lv_iinc (v := x102) (lv' := [(5, .int x102), (4, .int x100), (0, .ref a0), (1, .int r2), (2, .int x4), (3, .int x6)]) hx hb dX10_pair_117 hl (k := 5) rfl (by rw [← e103]; rfl) (by decide) rfl (fun ls hl => ?_)
                  refine lv_goto (tgt := 78) hx hb dX10_pair_120 (by decide) ?_
                  cases hf
                  exact ih92 x100 x102 hq92 _ _ ls hH (lv_sub hl [2, 3, 4, 5, 1, 0] rfl)
                refine lv_icmp_ne (tgt := 114) hx hb dX10_pair_107 (by decide) (fun c105 => ?_) (fun c105 => ?_)
                · have hf := iq hf c105
                  refine lv_iconst (v := 0) hx hb dX10_pair_114 (by decide) ?_
                  exact Jj101 0 _ _ ls hH (lv_sub hl [0, 1, 2, 3, 5] rfl) hf
                · have hf := ip hf c105
                  refine lv_iconst (v := 1) hx hb dX10_pair_110 (by decide) ?_
                  refine lv_goto (tgt := 115) hx hb dX10_pair_111 (by decide) ?_
                  exact Jj101 1 _ _ ls hH (lv_sub hl [0, 1, 2, 3, 5] rfl) hf
        exact Lo92 kF x8 0 eo92 _ _ ls hH (lv_sub hl [2, 3, 4, 5, 1, 0] rfl)
      refine lv_icmp_ne (tgt := 72) hx hb dX10_pair_65 (by decide) (fun c107 => ?_) (fun c107 => ?_)
      · have hf := iq hf c107
        refine lv_iconst (v := 0) hx hb dX10_pair_72 (by decide) ?_
        exact Jj9 0 _ _ ls hH (lv_sub hl [1, 2, 3, 0] rfl) hf
      · have hf := ip hf c107
        refine lv_iconst (v := 1) hx hb dX10_pair_68 (by decide) ?_
        refine lv_goto (tgt := 73) hx hb dX10_pair_69 (by decide) ?_
        exact Jj9 1 _ _ ls hH (lv_sub hl [1, 2, 3, 0] rfl) hf
    obtain ⟨j109, e111, hf⟩ := ol hf
    have Jj109 : ∀ (u110 : Unit) (H : Heap) (locs : List Loc) (ls : Array Slot), HI D S S s H locs → lv_has ls 6 [(0, .ref a0), (1, .int r2), (2, .int x4)] → j109 u110 = some r → GI p l e (headSpec wsX10_pair rmX10_pair).room s m ([.ref a0] : List Value).toArray below meth c D S r.1 r.2 H locs 0 0 0 0 (F0 m 61 ls []) := by
      intro u110 H locs ls hH hl hf
      rw [← e111] at hf
      refine lv_iconst (v := 0) hx hb dX10_pair_61 (by decide) ?_
      exact Jj7 0 _ _ ls hH (lv_sub hl [0, 1, 2] rfl) hf
    refine lv_if_le (tgt := 61) hx hb dX10_pair_38 (by decide) (fun c112 => ?_) (fun c112 => ?_)
    · have hf := ip hf c112
      exact Jj109 () _ _ ls hH (lv_sub hl [1, 2, 0] rfl) hf
    · have hf := iq hf c112
      refine lv_iload_n hx hb dX10_pair_41 rfl (lv_at hl 0 rfl) ?_
      refine lv_if_le (tgt := 61) hx hb dX10_pair_42 (by decide) (fun c113 => ?_) (fun c113 => ?_)
      · have hf := ip hf c113
        exact Jj109 () _ _ ls hH (lv_sub hl [1, 2, 0] rfl) hf
      · have hf := iq hf c113
        refine lv_iload_n hx hb dX10_pair_45 rfl (lv_at hl 2 rfl) ?_
        refine lv_iconst (v := 1) hx hb dX10_pair_46 (by decide) ?_
        refine lv_iadd hx hb dX10_pair_47 ?_
        refine lv_iload_n hx hb dX10_pair_48 rfl (lv_at hl 0 rfl) ?_
        refine lv_iadd hx hb dX10_pair_49 ?_
        refine lv_aload_n hx hb dX10_pair_50 rfl (lv_at hl 1 rfl) ?_
        refine r_getI hx hb 13 hts (fun w h => List.mem_cons_of_mem _ (mwsX100 w h)) hown hH ek1 (by decide) rfl 5 (by decide) rfl (hts (.fieldLink RX10 145 "HousestyleModel" "typedSize" "I") (List.mem_cons_of_mem _ gw_31_17)) (fun _ h9 => h9) dX10_pair_51 ?_
        refine lv_icmp_ne (tgt := 61) hx hb dX10_pair_54 (by decide) (fun c114 => ?_) (fun c114 => ?_)
        · have hf := iq hf c114
          exact Jj109 () _ _ ls hH (lv_sub hl [1, 2, 0] rfl) hf
        · have hf := ip hf c114
          refine lv_iconst (v := 1) hx hb dX10_pair_57 (by decide) ?_
          refine lv_goto (tgt := 62) hx hb dX10_pair_58 (by decide) ?_
          exact Jj7 1 _ _ ls hH (lv_sub hl [1, 2, 0] rfl) hf
  obtain ⟨j116, e118, hf⟩ := ol hf
  have Jj116 : ∀ (u117 : Unit) (H : Heap) (locs : List Loc) (ls : Array Slot), HI D S S s H locs → lv_has ls 6 [(0, .ref a0), (1, .int r2)] → j116 u117 = some r → GI p l e (headSpec wsX10_pair rmX10_pair).room s m ([.ref a0] : List Value).toArray below meth c D S r.1 r.2 H locs 0 0 0 0 (F0 m 35 ls []) := by
    intro u117 H locs ls hH hl hf
    rw [← e118] at hf
    refine lv_iconst (v := 0) hx hb dX10_pair_35 (by decide) ?_
    exact Jj5 0 _ _ ls hH (lv_sub hl [0, 1] rfl) hf
  refine lv_icmp_ge (tgt := 35) hx hb dX10_pair_11 (by decide) (fun c119 => ?_) (fun c119 => ?_)
  · have hf := ip hf c119
    exact Jj116 () _ _ ls hH (lv_sub hl [1, 0] rfl) hf
  · have hf := iq hf c119
    refine lv_aload_n hx hb dX10_pair_14 rfl (lv_at hl 1 rfl) ?_
    obtain ⟨a120, e121, hf⟩ := ob hf
    refine r_getQ hx hb 13 hts (fun w h => List.mem_cons_of_mem _ (mwsX100 w h)) hown hH ek1 (by decide) rfl 4 (by decide) rfl (hts (.fieldLink RX10 17 "HousestyleModel" "typed" "[C") (List.mem_cons_of_mem _ gw_29_14)) (fun _ h9 => h9) dX10_pair_15 e121 ?_
    refine lv_iload_n hx hb dX10_pair_18 rfl (lv_at hl 0 rfl) ?_
    obtain ⟨ek122, hf⟩ := oc hf
    obtain ⟨ei123, hf⟩ := oc hf
    refine r_cald hx hb hH ek122 ei123 dX10_pair_19 ?_
    refine lv_bipush (v := 32) hx hb dX10_pair_20 (by decide) ?_
    refine lv_icmp_ne (tgt := 35) hx hb dX10_pair_22 (by decide) (fun c124 => ?_) (fun c124 => ?_)
    · have hf := iq hf c124
      exact Jj116 () _ _ ls hH (lv_sub hl [1, 0] rfl) hf
    · have hf := ip hf c124
      refine lv_aload_n hx hb dX10_pair_25 rfl (lv_at hl 1 rfl) ?_
      refine lv_iload_n hx hb dX10_pair_26 rfl (lv_at hl 0 rfl) ?_
      refine lv_iconst (v := 1) hx hb dX10_pair_27 (by decide) ?_
      refine lv_iadd hx hb dX10_pair_28 ?_
      obtain ⟨r125, e126, hf⟩ := ob hf
      refine r_callVi (As := [.int (r2 + 1)]) ⟨hx, hb, hml, hown, hts⟩ (c_X10_lettersFrom l D S a0 (r2 + 1) r125 e126) (cwV 1 hts (gwV gw_33_7 gw_33_8 gw_33_9 gw_31_10 gw_31_23) rfl rfl rfl (by decide +kernel) ⟨Nat.le_of_ble_eq_true rfl, Nat.le_of_ble_eq_true rfl⟩) hH hNE 13 ek1 (by decide) rfl rfl rfl hl.1 rfl (Nat.le_of_ble_eq_true rfl) dX10_pair_29 ⟨(Nat.le_of_ble_eq_true rfl), (Nat.le_of_ble_eq_true rfl)⟩ (fun H locs hH => ?_)
      refine lv_goto (tgt := 36) hx hb dX10_pair_32 (by decide) ?_
      exact Jj5 r125 _ _ ls hH (lv_sub hl [1, 0] rfl) hf
set_option maxRecDepth 100000 in
def f_X10_use (S : PS) (a0 : Nat) (p1 : Int32) (p2 : Int32) (p3 : Int32) : Option (PS × Int32) := if kK S a0 = 14 then ((f_X10_noRule S a0 p2).bind fun r2 => lt r2.1 fun S4 => if r2.2 = 0 then ((f_X10_isDesk S4 p1).bind fun r7 => lt (fun (x9 : Int32) => if kK S4 a0 = 14 then (lt (wI S4 a0 0 x9) fun S12 => if kK S12 a0 = 14 then (if (kI S12 a0 0) ≤ 0 then ((kQ S12 a0 23).bind fun a16 => if kK S12 a16 = 103 then (if ¬ (((p1 * 12) + p2) < 0 ∨ kN S12 a16 ≤ ((p1 * 12) + p2).toNatClampNeg) then (lt (fun (x20 : Int32) => lt (fun (x22 : Int32) => if ¬ (((p1 * 12) + p2) < 0 ∨ kN S12 a16 ≤ ((p1 * 12) + p2).toNatClampNeg) then (lt (wI S12 a16 ((p1 * 12) + p2).toNatClampNeg (vp_nar .boolean x22)) fun S25 => if kK S25 a0 = 14 then ((f_X10_marks S25 a0 p1).bind fun r28 => if x20 = 0 ∨ x20 = 1 then (some (r28, x20)) else none) else none) else none) fun j23 => if p3 = 0 then (j23 1) else (j23 0)) fun j21 => if (kI S12 a16 ((p1 * 12) + p2).toNatClampNeg) = 0 then (j21 1) else (j21 0)) else none) else none) else (some (S12, 0))) else none) else none) fun j10 => if r7 = 0 then (j10 2) else (j10 0)) else (some (S4, 0))) else none
abbrev rmX10_use : Room := { frames := 3, cells := 0, slots := 0, locals := 65 }
set_option maxHeartbeats 4000000 in
set_option maxRecDepth 100000 in
theorem c_X10_use (l : Launch) (D : va_G × Nat) (S : PS) (a0 : Nat) (p1 : Int32) (p2 : Int32) (p3 : Int32) (r : PS × Int32) (hf : f_X10_use S a0 p1 p2 p3 = some r) : MI l D yX10_use wsX10_use rmX10_use S [.ref a0, .int p1, .int p2, .int p3] r.1 r.2 0 0 := by
  unfold f_X10_use at hf
  refine Met.ofW (cc := cX10_use) (maxL := 5) (ret := (some .boolean)) (by decide) rfl ?_
  intro p e s m args below meth c s₁ B hml hv
  obtain ⟨rfl, hH0, hNE⟩ := hv
  have hx := B.exec
  have hb := B.bytes
  have hr := B.returns
  have hts := atoms_spec (ws := wsX10_use) B.pre
  have hown : s.vm.findClass RX10 = some m.cls := findClass_of_methodNamed B.named
  have hlocks := B.notSynchronized
  have hH : HI D S S s s.heap [] := HI.start hH0
  have hl := lv_entry ([.ref a0, .int p1, .int p2, .int p3]) (n := 5) (Nat.le_of_ble_eq_true rfl)
  rw [lg_entry_eq]
  generalize (lg_sl ([.ref a0, .int p1, .int p2, .int p3]) ++ List.replicate (5 - (lg_sl ([.ref a0, .int p1, .int p2, .int p3])).length) Slot.unset).toArray = ls at hl ⊢
  have hl : lv_has ls 5 [(0, .ref a0), (1, .int p1), (2, .int p2), (3, .int p3)] := hl
  refine lv_aload_n hx hb dX10_use_0 rfl (lv_at hl 0 rfl) ?_
  refine lv_iload_n hx hb dX10_use_1 rfl (lv_at hl 2 rfl) ?_
  obtain ⟨ek1, hf⟩ := oc hf
  obtain ⟨r2, e3, hf⟩ := ob hf
  refine r_callVi (As := [.int p2]) ⟨hx, hb, hml, hown, hts⟩ (c_X10_noRule l D S a0 p2 r2 e3) (cwV 1 hts (gwV gw_33_18 gw_33_19 gw_33_20 gw_31_10 gw_31_14) rfl rfl rfl (by decide +kernel) ⟨Nat.le_of_ble_eq_true rfl, Nat.le_of_ble_eq_true rfl⟩) hH hNE 13 ek1 (by decide) rfl rfl rfl hl.1 rfl (Nat.le_of_ble_eq_true rfl) dX10_use_2 ⟨(Nat.le_of_ble_eq_true rfl), (Nat.le_of_ble_eq_true rfl)⟩ (fun H locs hH => ?_)
  obtain ⟨S4, e5, hf⟩ := ol hf
  rw [e5] at hH
  refine lv_if_eq (tgt := 10) hx hb dX10_use_5 (by decide) (fun c6 => ?_) (fun c6 => ?_)
  · have hf := ip hf c6
    refine lv_aload_n hx hb dX10_use_10 rfl (lv_at hl 0 rfl) ?_
    refine lv_iload_n hx hb dX10_use_11 rfl (lv_at hl 1 rfl) ?_
    obtain ⟨r7, e8, hf⟩ := ob hf
    refine r_callSi (As := [.int p1]) ⟨hx, hb, hml, hown, hts⟩ (c_X10_isDesk l D S4 p1 r7 e8) (va_cwS 1 hts (gwS gw_31_12 gw_31_13 gw_31_10 gw_31_7) rfl rfl rfl (by decide +kernel) ⟨Nat.le_of_ble_eq_true rfl, Nat.le_of_ble_eq_true rfl⟩) hH hNE rfl hl.1 rfl (Nat.le_of_ble_eq_true rfl) dX10_use_12 ⟨(Nat.le_of_ble_eq_true rfl), (Nat.le_of_ble_eq_true rfl)⟩ (fun H locs hH => ?_)
    obtain ⟨j10, e35, hf⟩ := ol hf
    have Jj10 : ∀ (x9 : Int32) (H : Heap) (locs : List Loc) (ls : Array Slot), HI D S S4 s H locs → lv_has ls 5 [(0, .ref a0), (1, .int p1), (2, .int p2), (3, .int p3)] → j10 x9 = some r → GI p l e (headSpec wsX10_use rmX10_use).room s m ([.ref a0, .int p1, .int p2, .int p3] : List Value).toArray below meth c D S r.1 r.2 H locs 0 0 0 0 (F0 m 23 ls [.int x9, .ref a0]) := by
      intro x9 H locs ls hH hl hf
      rw [← e35] at hf
      obtain ⟨ek11, hf⟩ := oc hf
      refine r_putI hx hb 13 hts (fun w h => List.mem_cons_of_mem _ (mwsX100 w h)) tyX10 tyX10_ok nmX10 hown hH ek11 (by decide) rfl 0 (by decide) rfl (hts (.fieldLink RX10 123 "HousestyleModel" "thrown" "I") (List.mem_cons_of_mem _ gw_31_3)) (fun _ h9 => h9) (Or.inl rfl) (ty := .int) (by decide +kernel) rfl rfl dX10_use_23 (fun H locs hH => ?_)
      obtain ⟨S12, e13, hf⟩ := ol hf
      rw [e13] at hH
      refine lv_aload_n hx hb dX10_use_26 rfl (lv_at hl 0 rfl) ?_
      obtain ⟨ek14, hf⟩ := oc hf
      refine r_getI hx hb 13 hts (fun w h => List.mem_cons_of_mem _ (mwsX100 w h)) hown hH ek14 (by decide) rfl 0 (by decide) rfl (hts (.fieldLink RX10 123 "HousestyleModel" "thrown" "I") (List.mem_cons_of_mem _ gw_31_3)) (fun _ h9 => h9) dX10_use_27 ?_
      refine lv_if_le (tgt := 35) hx hb dX10_use_30 (by decide) (fun c15 => ?_) (fun c15 => ?_)
      · have hf := ip hf c15
        refine lv_aload_n hx hb dX10_use_35 rfl (lv_at hl 0 rfl) ?_
        obtain ⟨a16, e17, hf⟩ := ob hf
        refine r_getQ hx hb 13 hts (fun w h => List.mem_cons_of_mem _ (mwsX100 w h)) hown hH ek14 (by decide) rfl 23 (by decide) rfl (hts (.fieldLink RX10 66 "HousestyleModel" "isLeftOut" "[Z") (List.mem_cons_of_mem _ gw_30_7)) (fun _ h9 => h9) dX10_use_36 e17 ?_
        refine lv_iload_n hx hb dX10_use_39 rfl (lv_at hl 1 rfl) ?_
        refine lv_bipush (v := 12) hx hb dX10_use_40 (by decide) ?_
        refine lv_imul hx hb dX10_use_42 ?_
        refine lv_iload_n hx hb dX10_use_43 rfl (lv_at hl 2 rfl) ?_
        refine lv_iadd hx hb dX10_use_44 ?_
        obtain ⟨ek18, hf⟩ := oc hf
        obtain ⟨ei19, hf⟩ := oc hf
        refine r_zald hx hb hH ek18 ei19 dX10_use_45 ?_
        obtain ⟨j21, e33, hf⟩ := ol hf
        have Jj21 : ∀ (x20 : Int32) (H : Heap) (locs : List Loc) (ls : Array Slot), HI D S S12 s H locs → lv_has ls 5 [(0, .ref a0), (1, .int p1), (2, .int p2), (3, .int p3)] → j21 x20 = some r → GI p l e (headSpec wsX10_use rmX10_use).room s m ([.ref a0, .int p1, .int p2, .int p3] : List Value).toArray below meth c D S r.1 r.2 H locs 0 0 0 0 (F0 m 54 ls [.int x20]) := by
          intro x20 H locs ls hH hl hf
          rw [← e33] at hf
          refine lv_istore (lv' := [(4, .int x20), (0, .ref a0), (1, .int p1), (2, .int p2), (3, .int p3)]) hx hb dX10_use_54 hl (by decide) rfl (fun ls hl => ?_)
          refine lv_aload_n hx hb dX10_use_56 rfl (lv_at hl 1 rfl) ?_
          refine r_getQ hx hb 13 hts (fun w h => List.mem_cons_of_mem _ (mwsX100 w h)) hown hH ek14 (by decide) rfl 23 (by decide) rfl (hts (.fieldLink RX10 66 "HousestyleModel" "isLeftOut" "[Z") (List.mem_cons_of_mem _ gw_30_7)) (fun _ h9 => h9) dX10_use_57 e17 ?_
          refine lv_iload_n hx hb dX10_use_60 rfl (lv_at hl 2 rfl) ?_
          refine lv_bipush (v := 12) hx hb dX10_use_61 (by decide) ?_
          refine lv_imul hx hb dX10_use_63 ?_
          refine lv_iload_n hx hb dX10_use_64 rfl (lv_at hl 3 rfl) ?_
          refine lv_iadd hx hb dX10_use_65 ?_
          refine lv_iload_n hx hb dX10_use_66 rfl (lv_at hl 4 rfl) ?_
          obtain ⟨j23, e31, hf⟩ := ol hf
          have Jj23 : ∀ (x22 : Int32) (H : Heap) (locs : List Loc) (ls : Array Slot), HI D S S12 s H locs → lv_has ls 5 [(0, .ref a0), (1, .int p1), (4, .int x20)] → j23 x22 = some r → GI p l e (headSpec wsX10_use rmX10_use).room s m ([.ref a0, .int p1, .int p2, .int p3] : List Value).toArray below meth c D S r.1 r.2 H locs 0 0 0 0 (F0 m 75 ls [.int x22, .int ((p1 * 12) + p2), .ref a16]) := by
            intro x22 H locs ls hH hl hf
            rw [← e31] at hf
            obtain ⟨ei24, hf⟩ := oc hf
            refine r_zast hx hb hH ek18 ei24 dX10_use_75 (fun H locs hH => ?_)
            obtain ⟨S25, e26, hf⟩ := ol hf
            rw [e26] at hH
            refine lv_aload_n hx hb dX10_use_76 rfl (lv_at hl 0 rfl) ?_
            refine lv_iload_n hx hb dX10_use_77 rfl (lv_at hl 1 rfl) ?_
            obtain ⟨ek27, hf⟩ := oc hf
            obtain ⟨r28, e29, hf⟩ := ob hf
            refine r_callVv (As := [.int p1]) ⟨hx, hb, hml, hown, hts⟩ (c_X10_marks l D S25 a0 p1 r28 e29) (cwV 1 hts (gwV gw_32_11 gw_32_12 gw_32_13 gw_31_10 gw_32_6) rfl rfl rfl (by decide +kernel) ⟨Nat.le_of_ble_eq_true rfl, Nat.le_of_ble_eq_true rfl⟩) hH hNE 13 ek27 (by decide) rfl rfl rfl hl.1 rfl (Nat.le_of_ble_eq_true rfl) dX10_use_78 ⟨(Nat.le_of_ble_eq_true rfl), (Nat.le_of_ble_eq_true rfl)⟩ (fun H locs hH => ?_)
            refine lv_iload hx hb dX10_use_81 (lv_at hl 2 rfl) ?_
            obtain ⟨en30, hf⟩ := oc hf
            have hr9 := Option.some.inj hf
            subst hr9
            exact e_z hx hb hr hlocks (nar_Z9 en30) hH dX10_use_83
          refine lv_if_ne (tgt := 74) hx hb dX10_use_67 (by decide) (fun c32 => ?_) (fun c32 => ?_)
          · have hf := iq hf c32
            refine lv_iconst (v := 0) hx hb dX10_use_74 (by decide) ?_
            exact Jj23 0 _ _ ls hH (lv_sub hl [1, 2, 0] rfl) hf
          · have hf := ip hf c32
            refine lv_iconst (v := 1) hx hb dX10_use_70 (by decide) ?_
            refine lv_goto (tgt := 75) hx hb dX10_use_71 (by decide) ?_
            exact Jj23 1 _ _ ls hH (lv_sub hl [1, 2, 0] rfl) hf
        refine lv_if_ne (tgt := 53) hx hb dX10_use_46 (by decide) (fun c34 => ?_) (fun c34 => ?_)
        · have hf := iq hf c34
          refine lv_iconst (v := 0) hx hb dX10_use_53 (by decide) ?_
          exact Jj21 0 _ _ ls hH (lv_sub hl [0, 1, 2, 3] rfl) hf
        · have hf := ip hf c34
          refine lv_iconst (v := 1) hx hb dX10_use_49 (by decide) ?_
          refine lv_goto (tgt := 54) hx hb dX10_use_50 (by decide) ?_
          exact Jj21 1 _ _ ls hH (lv_sub hl [0, 1, 2, 3] rfl) hf
      · have hf := iq hf c15
        refine lv_iconst (v := 0) hx hb dX10_use_33 (by decide) ?_
        have hr9 := Option.some.inj hf
        subst hr9
        exact e_z (r := 0) hx hb hr hlocks rfl hH dX10_use_34
    refine lv_if_eq (tgt := 22) hx hb dX10_use_15 (by decide) (fun c36 => ?_) (fun c36 => ?_)
    · have hf := ip hf c36
      refine lv_iconst (v := 2) hx hb dX10_use_22 (by decide) ?_
      exact Jj10 2 _ _ ls hH (lv_sub hl [0, 1, 2, 3] rfl) hf
    · have hf := iq hf c36
      refine lv_iconst (v := 0) hx hb dX10_use_18 (by decide) ?_
      refine lv_goto (tgt := 23) hx hb dX10_use_19 (by decide) ?_
      exact Jj10 0 _ _ ls hH (lv_sub hl [0, 1, 2, 3] rfl) hf
  · have hf := iq hf c6
    refine lv_iconst (v := 0) hx hb dX10_use_8 (by decide) ?_
    have hr9 := Option.some.inj hf
    subst hr9
    exact e_z (r := 0) hx hb hr hlocks rfl hH dX10_use_9
set_option maxRecDepth 100000 in
def f_X10_rankAt (S : PS) (a0 : Nat) (p1 : Int32) (p2 : Int32) : Option (Int32) := if kK S a0 = 14 then ((kQ S a0 24).bind fun a2 => if kK S a2 = 101 then (if ¬ (((p1 * 12) + p2) < 0 ∨ kN S a2 ≤ ((p1 * 12) + p2).toNatClampNeg) then (lt (kI S a2 ((p1 * 12) + p2).toNatClampNeg) fun x6 => if x6 = 0 then ((kQ S a0 13).bind fun a9 => if kK S a9 = 101 then (if ¬ (p2 < 0 ∨ kN S a9 ≤ p2.toNatClampNeg) then (some (kI S a9 p2.toNatClampNeg)) else none) else none) else (some x6)) else none) else none) else none
abbrev rmX10_rankAt : Room := { frames := 0, cells := 0, slots := 0, locals := 0 }
set_option maxHeartbeats 4000000 in
set_option maxRecDepth 100000 in
theorem c_X10_rankAt (l : Launch) (D : va_G × Nat) (S : PS) (a0 : Nat) (p1 : Int32) (p2 : Int32) (r : Int32) (hf : f_X10_rankAt S a0 p1 p2 = some r) : MI l D yX10_rankAt wsX10_rankAt rmX10_rankAt S [.ref a0, .int p1, .int p2] S r 0 0 := by
  unfold f_X10_rankAt at hf
  refine Met.ofW (cc := cX10_rankAt) (maxL := 4) (ret := (some .int)) (by decide) rfl ?_
  intro p e s m args below meth c s₁ B hml hv
  obtain ⟨rfl, hH0, hNE⟩ := hv
  have hx := B.exec
  have hb := B.bytes
  have hr := B.returns
  have hts := atoms_spec (ws := wsX10_rankAt) B.pre
  have hown : s.vm.findClass RX10 = some m.cls := findClass_of_methodNamed B.named
  have hlocks := B.notSynchronized
  have hH : HI D S S s s.heap [] := HI.start hH0
  have hl := lv_entry ([.ref a0, .int p1, .int p2]) (n := 4) (Nat.le_of_ble_eq_true rfl)
  rw [lg_entry_eq]
  generalize (lg_sl ([.ref a0, .int p1, .int p2]) ++ List.replicate (4 - (lg_sl ([.ref a0, .int p1, .int p2])).length) Slot.unset).toArray = ls at hl ⊢
  have hl : lv_has ls 4 [(0, .ref a0), (1, .int p1), (2, .int p2)] := hl
  refine lv_aload_n hx hb dX10_rankAt_0 rfl (lv_at hl 0 rfl) ?_
  obtain ⟨ek1, hf⟩ := oc hf
  obtain ⟨a2, e3, hf⟩ := ob hf
  refine r_getQ hx hb 13 hts (fun w h => List.mem_cons_of_mem _ (mwsX100 w h)) hown hH ek1 (by decide) rfl 24 (by decide) rfl (hts (.fieldLink RX10 69 "HousestyleModel" "deskRanks" "[I") (List.mem_cons_of_mem _ gw_30_8)) (fun _ h9 => h9) dX10_rankAt_1 e3 ?_
  refine lv_iload_n hx hb dX10_rankAt_4 rfl (lv_at hl 1 rfl) ?_
  refine lv_bipush (v := 12) hx hb dX10_rankAt_5 (by decide) ?_
  refine lv_imul hx hb dX10_rankAt_7 ?_
  refine lv_iload_n hx hb dX10_rankAt_8 rfl (lv_at hl 2 rfl) ?_
  refine lv_iadd hx hb dX10_rankAt_9 ?_
  obtain ⟨ek4, hf⟩ := oc hf
  obtain ⟨ei5, hf⟩ := oc hf
  refine r_iald hx hb hH ek4 ei5 dX10_rankAt_10 ?_
  obtain ⟨x6, e7, hf⟩ := ol hf
  refine lv_topE e7 ?_
  refine lv_istore_n (lv' := [(3, .int x6), (0, .ref a0), (1, .int p1), (2, .int p2)]) hx hb dX10_rankAt_11 rfl hl (by decide) rfl (fun ls hl => ?_)
  refine lv_iload_n hx hb dX10_rankAt_12 rfl (lv_at hl 0 rfl) ?_
  refine lv_if_ne (tgt := 25) hx hb dX10_rankAt_13 (by decide) (fun c8 => ?_) (fun c8 => ?_)
  · have hf := iq hf c8
    refine lv_iload_n hx hb dX10_rankAt_25 rfl (lv_at hl 0 rfl) ?_
    have hr9 := Option.some.inj hf
    subst hr9
    exact e_i hx hb hr hlocks hH dX10_rankAt_26
  · have hf := ip hf c8
    refine lv_aload_n hx hb dX10_rankAt_16 rfl (lv_at hl 1 rfl) ?_
    obtain ⟨a9, e10, hf⟩ := ob hf
    refine r_getQ hx hb 13 hts (fun w h => List.mem_cons_of_mem _ (mwsX100 w h)) hown hH ek1 (by decide) rfl 13 (by decide) rfl (hts (.fieldLink RX10 39 "HousestyleModel" "ranks" "[I") (List.mem_cons_of_mem _ gw_29_22)) (fun _ h9 => h9) dX10_rankAt_17 e10 ?_
    refine lv_iload_n hx hb dX10_rankAt_20 rfl (lv_at hl 3 rfl) ?_
    obtain ⟨ek11, hf⟩ := oc hf
    obtain ⟨ei12, hf⟩ := oc hf
    refine r_iald hx hb hH ek11 ei12 dX10_rankAt_21 ?_
    refine lv_goto (tgt := 26) hx hb dX10_rankAt_22 (by decide) ?_
    have hr9 := Option.some.inj hf
    subst hr9
    exact e_i hx hb hr hlocks hH dX10_rankAt_26
set_option maxRecDepth 100000 in
def f_X10_rank (S : PS) (a0 : Nat) (p1 : Int32) (p2 : Int32) (p3 : Int32) : Option (PS × Int32) := if kK S a0 = 14 then ((f_X10_noRule S a0 p2).bind fun r2 => lt r2.1 fun S4 => if r2.2 = 0 then ((f_X10_isDesk S4 p1).bind fun r7 => lt (fun (x9 : Int32) => if kK S4 a0 = 14 then (lt (wI S4 a0 0 x9) fun S12 => if kK S12 a0 = 14 then (if (kI S12 a0 0) ≤ 0 then ((f_X10_rankAt S12 a0 p1 p2).bind fun r16 => (kQ S12 a0 24).bind fun a18 => if kK S12 a18 = 101 then (if ¬ (((p1 * 12) + p2) < 0 ∨ kN S12 a18 ≤ ((p1 * 12) + p2).toNatClampNeg) then (lt (wI S12 a18 ((p1 * 12) + p2).toNatClampNeg p3) fun S22 => if kK S22 a0 = 14 then ((f_X10_marks S22 a0 p1).bind fun r25 => some (r25, r16)) else none) else none) else none) else (some (S12, 0))) else none) else none) fun j10 => lt (fun (u29 : Unit) => j10 2) fun j28 => if r7 = 0 then (j28 ()) else ((f_X10_in S4 p3 0 9).bind fun r32 => if r32 = 0 then (j28 ()) else (j10 0))) else (some (S4, 0))) else none
abbrev rmX10_rank : Room := { frames := 3, cells := 0, slots := 0, locals := 65 }
set_option maxHeartbeats 4000000 in
set_option maxRecDepth 100000 in
theorem c_X10_rank (l : Launch) (D : va_G × Nat) (S : PS) (a0 : Nat) (p1 : Int32) (p2 : Int32) (p3 : Int32) (r : PS × Int32) (hf : f_X10_rank S a0 p1 p2 p3 = some r) : MI l D yX10_rank wsX10_rank rmX10_rank S [.ref a0, .int p1, .int p2, .int p3] r.1 r.2 0 0 := by
  unfold f_X10_rank at hf
  refine Met.ofW (cc := cX10_rank) (maxL := 5) (ret := (some .int)) (by decide) rfl ?_
  intro p e s m args below meth c s₁ B hml hv
  obtain ⟨rfl, hH0, hNE⟩ := hv
  have hx := B.exec
  have hb := B.bytes
  have hr := B.returns
  have hts := atoms_spec (ws := wsX10_rank) B.pre
  have hown : s.vm.findClass RX10 = some m.cls := findClass_of_methodNamed B.named
  have hlocks := B.notSynchronized
  have hH : HI D S S s s.heap [] := HI.start hH0
  have hl := lv_entry ([.ref a0, .int p1, .int p2, .int p3]) (n := 5) (Nat.le_of_ble_eq_true rfl)
  rw [lg_entry_eq]
  generalize (lg_sl ([.ref a0, .int p1, .int p2, .int p3]) ++ List.replicate (5 - (lg_sl ([.ref a0, .int p1, .int p2, .int p3])).length) Slot.unset).toArray = ls at hl ⊢
  have hl : lv_has ls 5 [(0, .ref a0), (1, .int p1), (2, .int p2), (3, .int p3)] := hl
  refine lv_aload_n hx hb dX10_rank_0 rfl (lv_at hl 0 rfl) ?_
  refine lv_iload_n hx hb dX10_rank_1 rfl (lv_at hl 2 rfl) ?_
  obtain ⟨ek1, hf⟩ := oc hf
  obtain ⟨r2, e3, hf⟩ := ob hf
  refine r_callVi (As := [.int p2]) ⟨hx, hb, hml, hown, hts⟩ (c_X10_noRule l D S a0 p2 r2 e3) (cwV 1 hts (gwV gw_33_18 gw_33_19 gw_33_20 gw_31_10 gw_31_14) rfl rfl rfl (by decide +kernel) ⟨Nat.le_of_ble_eq_true rfl, Nat.le_of_ble_eq_true rfl⟩) hH hNE 13 ek1 (by decide) rfl rfl rfl hl.1 rfl (Nat.le_of_ble_eq_true rfl) dX10_rank_2 ⟨(Nat.le_of_ble_eq_true rfl), (Nat.le_of_ble_eq_true rfl)⟩ (fun H locs hH => ?_)
  obtain ⟨S4, e5, hf⟩ := ol hf
  rw [e5] at hH
  refine lv_if_eq (tgt := 10) hx hb dX10_rank_5 (by decide) (fun c6 => ?_) (fun c6 => ?_)
  · have hf := ip hf c6
    refine lv_aload_n hx hb dX10_rank_10 rfl (lv_at hl 0 rfl) ?_
    refine lv_iload_n hx hb dX10_rank_11 rfl (lv_at hl 1 rfl) ?_
    obtain ⟨r7, e8, hf⟩ := ob hf
    refine r_callSi (As := [.int p1]) ⟨hx, hb, hml, hown, hts⟩ (c_X10_isDesk l D S4 p1 r7 e8) (va_cwS 1 hts (gwS gw_31_12 gw_31_13 gw_31_10 gw_31_7) rfl rfl rfl (by decide +kernel) ⟨Nat.le_of_ble_eq_true rfl, Nat.le_of_ble_eq_true rfl⟩) hH hNE rfl hl.1 rfl (Nat.le_of_ble_eq_true rfl) dX10_rank_12 ⟨(Nat.le_of_ble_eq_true rfl), (Nat.le_of_ble_eq_true rfl)⟩ (fun H locs hH => ?_)
    obtain ⟨j10, e27, hf⟩ := ol hf
    have Jj10 : ∀ (x9 : Int32) (H : Heap) (locs : List Loc) (ls : Array Slot), HI D S S4 s H locs → lv_has ls 5 [(0, .ref a0), (1, .int p1), (2, .int p2), (3, .int p3)] → j10 x9 = some r → GI p l e (headSpec wsX10_rank rmX10_rank).room s m ([.ref a0, .int p1, .int p2, .int p3] : List Value).toArray below meth c D S r.1 r.2 H locs 0 0 0 0 (F0 m 33 ls [.int x9, .ref a0]) := by
      intro x9 H locs ls hH hl hf
      rw [← e27] at hf
      obtain ⟨ek11, hf⟩ := oc hf
      refine r_putI hx hb 13 hts (fun w h => List.mem_cons_of_mem _ (mwsX100 w h)) tyX10 tyX10_ok nmX10 hown hH ek11 (by decide) rfl 0 (by decide) rfl (hts (.fieldLink RX10 123 "HousestyleModel" "thrown" "I") (List.mem_cons_of_mem _ gw_31_3)) (fun _ h9 => h9) (Or.inl rfl) (ty := .int) (by decide +kernel) rfl rfl dX10_rank_33 (fun H locs hH => ?_)
      obtain ⟨S12, e13, hf⟩ := ol hf
      rw [e13] at hH
      refine lv_aload_n hx hb dX10_rank_36 rfl (lv_at hl 0 rfl) ?_
      obtain ⟨ek14, hf⟩ := oc hf
      refine r_getI hx hb 13 hts (fun w h => List.mem_cons_of_mem _ (mwsX100 w h)) hown hH ek14 (by decide) rfl 0 (by decide) rfl (hts (.fieldLink RX10 123 "HousestyleModel" "thrown" "I") (List.mem_cons_of_mem _ gw_31_3)) (fun _ h9 => h9) dX10_rank_37 ?_
      refine lv_if_le (tgt := 45) hx hb dX10_rank_40 (by decide) (fun c15 => ?_) (fun c15 => ?_)
      · have hf := ip hf c15
        refine lv_aload_n hx hb dX10_rank_45 rfl (lv_at hl 0 rfl) ?_
        refine lv_iload_n hx hb dX10_rank_46 rfl (lv_at hl 1 rfl) ?_
        refine lv_iload_n hx hb dX10_rank_47 rfl (lv_at hl 2 rfl) ?_
        obtain ⟨r16, e17, hf⟩ := ob hf
        refine r_callVi (As := [.int p1, .int p2]) ⟨hx, hb, hml, hown, hts⟩ (c_X10_rankAt l D S12 a0 p1 p2 r16 e17) (cwV 2 hts (gwV gw_34_3 gw_34_4 gw_34_5 gw_31_10 gw_34_1) rfl rfl rfl (by decide +kernel) ⟨Nat.le_of_ble_eq_true rfl, Nat.le_of_ble_eq_true rfl⟩) hH hNE 13 ek14 (by decide) rfl rfl rfl hl.1 rfl (Nat.le_of_ble_eq_true rfl) dX10_rank_48 ⟨(Nat.le_of_ble_eq_true rfl), (Nat.le_of_ble_eq_true rfl)⟩ (fun H locs hH => ?_)
        refine lv_istore (lv' := [(4, .int r16), (0, .ref a0), (1, .int p1), (2, .int p2), (3, .int p3)]) hx hb dX10_rank_51 hl (by decide) rfl (fun ls hl => ?_)
        refine lv_aload_n hx hb dX10_rank_53 rfl (lv_at hl 1 rfl) ?_
        obtain ⟨a18, e19, hf⟩ := ob hf
        refine r_getQ hx hb 13 hts (fun w h => List.mem_cons_of_mem _ (mwsX100 w h)) hown hH ek14 (by decide) rfl 24 (by decide) rfl (hts (.fieldLink RX10 69 "HousestyleModel" "deskRanks" "[I") (List.mem_cons_of_mem _ gw_30_8)) (fun _ h9 => h9) dX10_rank_54 e19 ?_
        refine lv_iload_n hx hb dX10_rank_57 rfl (lv_at hl 2 rfl) ?_
        refine lv_bipush (v := 12) hx hb dX10_rank_58 (by decide) ?_
        refine lv_imul hx hb dX10_rank_60 ?_
        refine lv_iload_n hx hb dX10_rank_61 rfl (lv_at hl 3 rfl) ?_
        refine lv_iadd hx hb dX10_rank_62 ?_
        refine lv_iload_n hx hb dX10_rank_63 rfl (lv_at hl 4 rfl) ?_
        obtain ⟨ek20, hf⟩ := oc hf
        obtain ⟨ei21, hf⟩ := oc hf
        refine r_iast hx hb hH ek20 ei21 dX10_rank_64 (fun H locs hH => ?_)
        obtain ⟨S22, e23, hf⟩ := ol hf
        rw [e23] at hH
        refine lv_aload_n hx hb dX10_rank_65 rfl (lv_at hl 1 rfl) ?_
        refine lv_iload_n hx hb dX10_rank_66 rfl (lv_at hl 2 rfl) ?_
        obtain ⟨ek24, hf⟩ := oc hf
        obtain ⟨r25, e26, hf⟩ := ob hf
        refine r_callVv (As := [.int p1]) ⟨hx, hb, hml, hown, hts⟩ (c_X10_marks l D S22 a0 p1 r25 e26) (cwV 1 hts (gwV gw_32_11 gw_32_12 gw_32_13 gw_31_10 gw_32_6) rfl rfl rfl (by decide +kernel) ⟨Nat.le_of_ble_eq_true rfl, Nat.le_of_ble_eq_true rfl⟩) hH hNE 13 ek24 (by decide) rfl rfl rfl hl.1 rfl (Nat.le_of_ble_eq_true rfl) dX10_rank_67 ⟨(Nat.le_of_ble_eq_true rfl), (Nat.le_of_ble_eq_true rfl)⟩ (fun H locs hH => ?_)
        refine lv_iload hx hb dX10_rank_70 (lv_at hl 0 rfl) ?_
        have hr9 := Option.some.inj hf
        subst hr9
        exact e_i hx hb hr hlocks hH dX10_rank_72
      · have hf := iq hf c15
        refine lv_iconst (v := 0) hx hb dX10_rank_43 (by decide) ?_
        have hr9 := Option.some.inj hf
        subst hr9
        exact e_i hx hb hr hlocks hH dX10_rank_44
    obtain ⟨j28, e30, hf⟩ := ol hf
    have Jj28 : ∀ (u29 : Unit) (H : Heap) (locs : List Loc) (ls : Array Slot), HI D S S4 s H locs → lv_has ls 5 [(0, .ref a0), (1, .int p1), (2, .int p2), (3, .int p3)] → j28 u29 = some r → GI p l e (headSpec wsX10_rank rmX10_rank).room s m ([.ref a0, .int p1, .int p2, .int p3] : List Value).toArray below meth c D S r.1 r.2 H locs 0 0 0 0 (F0 m 32 ls [.ref a0]) := by
      intro u29 H locs ls hH hl hf
      rw [← e30] at hf
      refine lv_iconst (v := 2) hx hb dX10_rank_32 (by decide) ?_
      exact Jj10 2 _ _ ls hH (lv_sub hl [0, 1, 2, 3] rfl) hf
    refine lv_if_eq (tgt := 32) hx hb dX10_rank_15 (by decide) (fun c31 => ?_) (fun c31 => ?_)
    · have hf := ip hf c31
      exact Jj28 () _ _ ls hH (lv_sub hl [0, 1, 2, 3] rfl) hf
    · have hf := iq hf c31
      refine lv_iload_n hx hb dX10_rank_18 rfl (lv_at hl 3 rfl) ?_
      refine lv_iconst (v := 0) hx hb dX10_rank_19 (by decide) ?_
      refine lv_bipush (v := 9) hx hb dX10_rank_20 (by decide) ?_
      obtain ⟨r32, e33, hf⟩ := ob hf
      refine r_callSi (As := [.int p3, .int 0, .int 9]) ⟨hx, hb, hml, hown, hts⟩ (c_X10_in l D S4 p3 0 9 r32 e33) (va_cwS 3 hts (gwS gw_31_8 gw_31_9 gw_31_10 gw_31_4) rfl rfl rfl (by decide +kernel) ⟨Nat.le_of_ble_eq_true rfl, Nat.le_of_ble_eq_true rfl⟩) hH hNE rfl hl.1 rfl (Nat.le_of_ble_eq_true rfl) dX10_rank_22 ⟨(Nat.le_of_ble_eq_true rfl), (Nat.le_of_ble_eq_true rfl)⟩ (fun H locs hH => ?_)
      refine lv_if_eq (tgt := 32) hx hb dX10_rank_25 (by decide) (fun c34 => ?_) (fun c34 => ?_)
      · have hf := ip hf c34
        exact Jj28 () _ _ ls hH (lv_sub hl [0, 1, 2, 3] rfl) hf
      · have hf := iq hf c34
        refine lv_iconst (v := 0) hx hb dX10_rank_28 (by decide) ?_
        refine lv_goto (tgt := 33) hx hb dX10_rank_29 (by decide) ?_
        exact Jj10 0 _ _ ls hH (lv_sub hl [0, 1, 2, 3] rfl) hf
  · have hf := iq hf c6
    refine lv_iconst (v := 0) hx hb dX10_rank_8 (by decide) ?_
    have hr9 := Option.some.inj hf
    subst hr9
    exact e_i hx hb hr hlocks hH dX10_rank_9
set_option maxRecDepth 100000 in
def f_X10_limit (S : PS) (a0 : Nat) (p1 : Int32) (p2 : Int32) : Option (PS × Int32) := (f_X10_isDesk S p1).bind fun r1 => lt (fun (x3 : Int32) => if kK S a0 = 14 then (lt (wI S a0 0 x3) fun S6 => if kK S6 a0 = 14 then (if (kI S6 a0 0) ≤ 0 then ((kQ S6 a0 25).bind fun a10 => if kK S6 a10 = 101 then (if ¬ (p1 < 0 ∨ kN S6 a10 ≤ p1.toNatClampNeg) then (lt (kI S6 a10 p1.toNatClampNeg) fun x14 => if ¬ (p1 < 0 ∨ kN S6 a10 ≤ p1.toNatClampNeg) then (lt (wI S6 a10 p1.toNatClampNeg p2) fun S17 => if kK S17 a0 = 14 then ((f_X10_marks S17 a0 p1).bind fun r20 => some (r20, x14)) else none) else none) else none) else none) else (some (S6, 0))) else none) else none) fun j4 => lt (fun (u24 : Unit) => j4 1) fun j23 => if r1 = 0 then (j23 ()) else ((f_X10_in S p2 0 20).bind fun r27 => if r27 = 0 then (j23 ()) else (j4 0))
abbrev rmX10_limit : Room := { frames := 3, cells := 0, slots := 0, locals := 65 }
set_option maxHeartbeats 4000000 in
set_option maxRecDepth 100000 in
theorem c_X10_limit (l : Launch) (D : va_G × Nat) (S : PS) (a0 : Nat) (p1 : Int32) (p2 : Int32) (r : PS × Int32) (hf : f_X10_limit S a0 p1 p2 = some r) : MI l D yX10_limit wsX10_limit rmX10_limit S [.ref a0, .int p1, .int p2] r.1 r.2 0 0 := by
  unfold f_X10_limit at hf
  refine Met.ofW (cc := cX10_limit) (maxL := 4) (ret := (some .int)) (by decide) rfl ?_
  intro p e s m args below meth c s₁ B hml hv
  obtain ⟨rfl, hH0, hNE⟩ := hv
  have hx := B.exec
  have hb := B.bytes
  have hr := B.returns
  have hts := atoms_spec (ws := wsX10_limit) B.pre
  have hown : s.vm.findClass RX10 = some m.cls := findClass_of_methodNamed B.named
  have hlocks := B.notSynchronized
  have hH : HI D S S s s.heap [] := HI.start hH0
  have hl := lv_entry ([.ref a0, .int p1, .int p2]) (n := 4) (Nat.le_of_ble_eq_true rfl)
  rw [lg_entry_eq]
  generalize (lg_sl ([.ref a0, .int p1, .int p2]) ++ List.replicate (4 - (lg_sl ([.ref a0, .int p1, .int p2])).length) Slot.unset).toArray = ls at hl ⊢
  have hl : lv_has ls 4 [(0, .ref a0), (1, .int p1), (2, .int p2)] := hl
  refine lv_aload_n hx hb dX10_limit_0 rfl (lv_at hl 0 rfl) ?_
  refine lv_iload_n hx hb dX10_limit_1 rfl (lv_at hl 1 rfl) ?_
  obtain ⟨r1, e2, hf⟩ := ob hf
  refine r_callSi (As := [.int p1]) ⟨hx, hb, hml, hown, hts⟩ (c_X10_isDesk l D S p1 r1 e2) (va_cwS 1 hts (gwS gw_31_12 gw_31_13 gw_31_10 gw_31_7) rfl rfl rfl (by decide +kernel) ⟨Nat.le_of_ble_eq_true rfl, Nat.le_of_ble_eq_true rfl⟩) hH hNE rfl hl.1 rfl (Nat.le_of_ble_eq_true rfl) dX10_limit_2 ⟨(Nat.le_of_ble_eq_true rfl), (Nat.le_of_ble_eq_true rfl)⟩ (fun H locs hH => ?_)
  obtain ⟨j4, e22, hf⟩ := ol hf
  have Jj4 : ∀ (x3 : Int32) (H : Heap) (locs : List Loc) (ls : Array Slot), HI D S S s H locs → lv_has ls 4 [(0, .ref a0), (1, .int p1), (2, .int p2)] → j4 x3 = some r → GI p l e (headSpec wsX10_limit rmX10_limit).room s m ([.ref a0, .int p1, .int p2] : List Value).toArray below meth c D S r.1 r.2 H locs 0 0 0 0 (F0 m 23 ls [.int x3, .ref a0]) := by
    intro x3 H locs ls hH hl hf
    rw [← e22] at hf
    obtain ⟨ek5, hf⟩ := oc hf
    refine r_putI hx hb 13 hts (fun w h => List.mem_cons_of_mem _ (mwsX100 w h)) tyX10 tyX10_ok nmX10 hown hH ek5 (by decide) rfl 0 (by decide) rfl (hts (.fieldLink RX10 123 "HousestyleModel" "thrown" "I") (List.mem_cons_of_mem _ gw_31_3)) (fun _ h9 => h9) (Or.inl rfl) (ty := .int) (by decide +kernel) rfl rfl dX10_limit_23 (fun H locs hH => ?_)
    obtain ⟨S6, e7, hf⟩ := ol hf
    rw [e7] at hH
    refine lv_aload_n hx hb dX10_limit_26 rfl (lv_at hl 0 rfl) ?_
    obtain ⟨ek8, hf⟩ := oc hf
    refine r_getI hx hb 13 hts (fun w h => List.mem_cons_of_mem _ (mwsX100 w h)) hown hH ek8 (by decide) rfl 0 (by decide) rfl (hts (.fieldLink RX10 123 "HousestyleModel" "thrown" "I") (List.mem_cons_of_mem _ gw_31_3)) (fun _ h9 => h9) dX10_limit_27 ?_
    refine lv_if_le (tgt := 35) hx hb dX10_limit_30 (by decide) (fun c9 => ?_) (fun c9 => ?_)
    · have hf := ip hf c9
      refine lv_aload_n hx hb dX10_limit_35 rfl (lv_at hl 0 rfl) ?_
      obtain ⟨a10, e11, hf⟩ := ob hf
      refine r_getQ hx hb 13 hts (fun w h => List.mem_cons_of_mem _ (mwsX100 w h)) hown hH ek8 (by decide) rfl 25 (by decide) rfl (hts (.fieldLink RX10 72 "HousestyleModel" "limits" "[I") (List.mem_cons_of_mem _ gw_30_9)) (fun _ h9 => h9) dX10_limit_36 e11 ?_
      refine lv_iload_n hx hb dX10_limit_39 rfl (lv_at hl 1 rfl) ?_
      obtain ⟨ek12, hf⟩ := oc hf
      obtain ⟨ei13, hf⟩ := oc hf
      refine r_iald hx hb hH ek12 ei13 dX10_limit_40 ?_
      obtain ⟨x14, e15, hf⟩ := ol hf
      refine lv_topE e15 ?_
      refine lv_istore_n (lv' := [(3, .int x14), (0, .ref a0), (1, .int p1), (2, .int p2)]) hx hb dX10_limit_41 rfl hl (by decide) rfl (fun ls hl => ?_)
      refine lv_aload_n hx hb dX10_limit_42 rfl (lv_at hl 1 rfl) ?_
      refine r_getQ hx hb 13 hts (fun w h => List.mem_cons_of_mem _ (mwsX100 w h)) hown hH ek8 (by decide) rfl 25 (by decide) rfl (hts (.fieldLink RX10 72 "HousestyleModel" "limits" "[I") (List.mem_cons_of_mem _ gw_30_9)) (fun _ h9 => h9) dX10_limit_43 e11 ?_
      refine lv_iload_n hx hb dX10_limit_46 rfl (lv_at hl 2 rfl) ?_
      refine lv_iload_n hx hb dX10_limit_47 rfl (lv_at hl 3 rfl) ?_
      obtain ⟨ei16, hf⟩ := oc hf
      refine r_iast hx hb hH ek12 ei16 dX10_limit_48 (fun H locs hH => ?_)
      obtain ⟨S17, e18, hf⟩ := ol hf
      rw [e18] at hH
      refine lv_aload_n hx hb dX10_limit_49 rfl (lv_at hl 1 rfl) ?_
      refine lv_iload_n hx hb dX10_limit_50 rfl (lv_at hl 2 rfl) ?_
      obtain ⟨ek19, hf⟩ := oc hf
      obtain ⟨r20, e21, hf⟩ := ob hf
      refine r_callVv (As := [.int p1]) ⟨hx, hb, hml, hown, hts⟩ (c_X10_marks l D S17 a0 p1 r20 e21) (cwV 1 hts (gwV gw_32_11 gw_32_12 gw_32_13 gw_31_10 gw_32_6) rfl rfl rfl (by decide +kernel) ⟨Nat.le_of_ble_eq_true rfl, Nat.le_of_ble_eq_true rfl⟩) hH hNE 13 ek19 (by decide) rfl rfl rfl hl.1 rfl (Nat.le_of_ble_eq_true rfl) dX10_limit_51 ⟨(Nat.le_of_ble_eq_true rfl), (Nat.le_of_ble_eq_true rfl)⟩ (fun H locs hH => ?_)
      refine lv_iload_n hx hb dX10_limit_54 rfl (lv_at hl 0 rfl) ?_
      have hr9 := Option.some.inj hf
      subst hr9
      exact e_i hx hb hr hlocks hH dX10_limit_55
    · have hf := iq hf c9
      refine lv_iconst (v := 0) hx hb dX10_limit_33 (by decide) ?_
      have hr9 := Option.some.inj hf
      subst hr9
      exact e_i hx hb hr hlocks hH dX10_limit_34
  obtain ⟨j23, e25, hf⟩ := ol hf
  have Jj23 : ∀ (u24 : Unit) (H : Heap) (locs : List Loc) (ls : Array Slot), HI D S S s H locs → lv_has ls 4 [(0, .ref a0), (1, .int p1), (2, .int p2)] → j23 u24 = some r → GI p l e (headSpec wsX10_limit rmX10_limit).room s m ([.ref a0, .int p1, .int p2] : List Value).toArray below meth c D S r.1 r.2 H locs 0 0 0 0 (F0 m 22 ls [.ref a0]) := by
    intro u24 H locs ls hH hl hf
    rw [← e25] at hf
    refine lv_iconst (v := 1) hx hb dX10_limit_22 (by decide) ?_
    exact Jj4 1 _ _ ls hH (lv_sub hl [0, 1, 2] rfl) hf
  refine lv_if_eq (tgt := 22) hx hb dX10_limit_5 (by decide) (fun c26 => ?_) (fun c26 => ?_)
  · have hf := ip hf c26
    exact Jj23 () _ _ ls hH (lv_sub hl [0, 1, 2] rfl) hf
  · have hf := iq hf c26
    refine lv_iload_n hx hb dX10_limit_8 rfl (lv_at hl 2 rfl) ?_
    refine lv_iconst (v := 0) hx hb dX10_limit_9 (by decide) ?_
    refine lv_bipush (v := 20) hx hb dX10_limit_10 (by decide) ?_
    obtain ⟨r27, e28, hf⟩ := ob hf
    refine r_callSi (As := [.int p2, .int 0, .int 20]) ⟨hx, hb, hml, hown, hts⟩ (c_X10_in l D S p2 0 20 r27 e28) (va_cwS 3 hts (gwS gw_31_8 gw_31_9 gw_31_10 gw_31_4) rfl rfl rfl (by decide +kernel) ⟨Nat.le_of_ble_eq_true rfl, Nat.le_of_ble_eq_true rfl⟩) hH hNE rfl hl.1 rfl (Nat.le_of_ble_eq_true rfl) dX10_limit_12 ⟨(Nat.le_of_ble_eq_true rfl), (Nat.le_of_ble_eq_true rfl)⟩ (fun H locs hH => ?_)
    refine lv_if_eq (tgt := 22) hx hb dX10_limit_15 (by decide) (fun c29 => ?_) (fun c29 => ?_)
    · have hf := ip hf c29
      exact Jj23 () _ _ ls hH (lv_sub hl [0, 1, 2] rfl) hf
    · have hf := iq hf c29
      refine lv_iconst (v := 0) hx hb dX10_limit_18 (by decide) ?_
      refine lv_goto (tgt := 23) hx hb dX10_limit_19 (by decide) ?_
      exact Jj4 0 _ _ ls hH (lv_sub hl [0, 1, 2] rfl) hf
set_option maxRecDepth 100000 in
def f_X10_scan_b14 (a0 : Nat) (x4 : Int32) (x5 : Int32) (x6 : Int32) (x7 : Int32) (S8 : PS) : Option ((Int32 × Int32 × Int32 × Int32 × PS) ⊕ ((PS))) := if kK S8 a0 = 14 then (if (kI S8 a0 3) ≤ x7 then (some (.inr S8)) else ((kQ S8 a0 1).bind fun a15 => if kK S8 a15 = 102 then (if ¬ (x7 < 0 ∨ kN S8 a15 ≤ x7.toNatClampNeg) then (lt (kI S8 a15 x7.toNatClampNeg) fun x19 => (kQ S8 a0 35).bind fun a21 => if kK S8 a21 = 101 then (if ¬ (x7 < 0 ∨ kN S8 a21 ≤ x7.toNatClampNeg) then (lt (wI S8 a21 x7.toNatClampNeg x4) fun S25 => lt (fun (x27 : Int32) => if kK S25 a0 = 14 then ((kQ S25 a0 36).bind fun a30 => lt (fun (x32 : Int32) => if kK S25 a30 = 103 then (if ¬ (x7 < 0 ∨ kN S25 a30 ≤ x7.toNatClampNeg) then (lt (wI S25 a30 x7.toNatClampNeg (vp_nar .boolean x32)) fun S36 => lt (fun (x38 : Int32) => lt (fun (x40 : Int32) => lt (x4 + x40) fun x42 => (f_X10_isLetter S36 x19).bind fun r44 => lt (fun (x46 : Int32) => lt (fun (S48 : PS) => lt (x7 + 1) fun x50 => some (.inl (x42, x38, x46, x50, S48))) fun j49 => lt (fun (u83 : Unit) => if x46 ≤ 0 then (j49 S36) else (if kK S36 a0 = 14 then ((kQ S36 a0 32).bind fun a56 => if kK S36 a56 = 101 then (if ¬ ((kI S36 a0 31) < 0 ∨ kN S36 a56 ≤ (kI S36 a0 31).toNatClampNeg) then (lt (wI S36 a56 (kI S36 a0 31).toNatClampNeg x7) fun S60 => if kK S60 a0 = 14 then ((kQ S60 a0 33).bind fun a63 => if kK S60 a63 = 101 then (if ¬ ((kI S60 a0 31) < 0 ∨ kN S60 a63 ≤ (kI S60 a0 31).toNatClampNeg) then (lt (wI S60 a63 (kI S60 a0 31).toNatClampNeg (x7 + 1)) fun S67 => if kK S67 a0 = 14 then ((kQ S67 a0 34).bind fun a70 => lt (fun (x72 : Int32) => if kK S67 a70 = 103 then (if ¬ ((kI S67 a0 31) < 0 ∨ kN S67 a70 ≤ (kI S67 a0 31).toNatClampNeg) then (lt (wI S67 a70 (kI S67 a0 31).toNatClampNeg (vp_nar .boolean x72)) fun S76 => if kK S76 a0 = 14 then (lt (wI S76 a0 31 ((kI S76 a0 31) + 1)) fun S79 => j49 S79) else none) else none) else none) fun j73 => if x46 = (1 : Int32) then (j73 1) else (j73 0)) else none) else none) else none) else none) else none) else none) else none)) fun j53 => if x46 ≤ 0 then (j53 ()) else (if x46 = x6 then (if kK S36 a0 = 14 then ((kQ S36 a0 33).bind fun a88 => if kK S36 a88 = 101 then (if ¬ (((kI S36 a0 31) - 1) < 0 ∨ kN S36 a88 ≤ ((kI S36 a0 31) - 1).toNatClampNeg) then (lt (wI S36 a88 ((kI S36 a0 31) - 1).toNatClampNeg (x7 + 1)) fun S92 => j49 S92) else none) else none) else none) else (j53 ()))) fun j47 => if r44 = 0 then ((f_X10_isDigit S36 x19).bind fun r96 => if r96 = 0 then (j47 0) else (j47 2)) else (j47 1)) fun j41 => if x19 = (47 : Int32) then (j41 1) else (j41 0)) fun j39 => if x19 = (34 : Int32) then (if x27 = 0 then (j39 1) else (j39 0)) else (j39 x27)) else none) else none) fun j33 => lt (fun (u106 : Unit) => j33 1) fun j105 => if x27 = 0 then (if x19 = (34 : Int32) then (j105 ()) else (j33 0)) else (j105 ())) else none) fun j28 => lt (fun (u112 : Unit) => j28 0) fun j111 => if x5 = 0 then (j111 ()) else (if x19 = (47 : Int32) then (j111 ()) else (j28 1))) else none) else none) else none) else none)) else none
set_option maxRecDepth 100000 in
def f_X10_scan (S : PS) (a0 : Nat) : Option (PS) := if kK S a0 = 14 then (lt (wI S a0 31 0) fun S2 => lt (fun (S9 : PS) => some S9) fun k10 => (iter (fun (v : Int32 × Int32 × Int32 × Int32 × PS) => f_X10_scan_b14 a0 v.1 v.2.1 v.2.2.1 v.2.2.2.1 v.2.2.2.2) kF (0, 0, 0, 0, S2)).bind (fun (v : PS) => k10 v)) else none
abbrev rmX10_scan : Room := { frames := 1, cells := 0, slots := 0, locals := 20 }
set_option maxHeartbeats 4000000 in
set_option maxRecDepth 100000 in
theorem c_X10_scan (l : Launch) (D : va_G × Nat) (S : PS) (a0 : Nat) (r : PS) (hf : f_X10_scan S a0 = some r) : MV l D yX10_scan wsX10_scan rmX10_scan S [.ref a0] r 0 0 := by
  unfold f_X10_scan at hf
  refine Met.ofW (cc := cX10_scan) (maxL := 7) (ret := none) (by decide) rfl ?_
  intro p e s m args below meth c s₁ B hml hv
  obtain ⟨rfl, hH0, hNE⟩ := hv
  have hx := B.exec
  have hb := B.bytes
  have hr := B.returns
  have hts := atoms_spec (ws := wsX10_scan) B.pre
  have hown : s.vm.findClass RX10 = some m.cls := findClass_of_methodNamed B.named
  have hlocks := B.notSynchronized
  have hH : HI D S S s s.heap [] := HI.start hH0
  have hl := lv_entry ([.ref a0]) (n := 7) (Nat.le_of_ble_eq_true rfl)
  rw [lg_entry_eq]
  generalize (lg_sl ([.ref a0]) ++ List.replicate (7 - (lg_sl ([.ref a0])).length) Slot.unset).toArray = ls at hl ⊢
  have hl : lv_has ls 7 [(0, .ref a0)] := hl
  refine lv_aload_n hx hb dX10_scan_0 rfl (lv_at hl 0 rfl) ?_
  refine lv_iconst (v := 0) hx hb dX10_scan_1 (by decide) ?_
  obtain ⟨ek1, hf⟩ := oc hf
  refine r_putI hx hb 13 hts (fun w h => List.mem_cons_of_mem _ (mwsX100 w h)) tyX10 tyX10_ok nmX10 hown hH ek1 (by decide) rfl 31 (by decide) rfl (hts (.fieldLink RX10 194 "HousestyleModel" "tokens" "I") (List.mem_cons_of_mem _ gw_34_8)) (fun _ h9 => h9) (Or.inl rfl) (ty := .int) (by decide +kernel) rfl rfl dX10_scan_2 (fun H locs hH => ?_)
  obtain ⟨S2, e3, hf⟩ := ol hf
  rw [e3] at hH
  refine lv_iconst (v := 0) hx hb dX10_scan_5 (by decide) ?_
  refine lv_istore_n (lv' := [(1, .int 0), (0, .ref a0)]) hx hb dX10_scan_6 rfl hl (by decide) rfl (fun ls hl => ?_)
  refine lv_iconst (v := 0) hx hb dX10_scan_7 (by decide) ?_
  refine lv_istore_n (lv' := [(2, .int 0), (1, .int 0), (0, .ref a0)]) hx hb dX10_scan_8 rfl hl (by decide) rfl (fun ls hl => ?_)
  refine lv_iconst (v := 0) hx hb dX10_scan_9 (by decide) ?_
  refine lv_istore_n (lv' := [(3, .int 0), (2, .int 0), (1, .int 0), (0, .ref a0)]) hx hb dX10_scan_10 rfl hl (by decide) rfl (fun ls hl => ?_)
  refine lv_iconst (v := 0) hx hb dX10_scan_11 (by decide) ?_
  refine lv_istore (lv' := [(4, .int 0), (3, .int 0), (2, .int 0), (1, .int 0), (0, .ref a0)]) hx hb dX10_scan_12 hl (by decide) rfl (fun ls hl => ?_)
  obtain ⟨k10, e11, hf⟩ := ol hf
  have Xk10 : ∀ (S9 : PS) (H : Heap) (locs : List Loc) (ls : Array Slot), HI D S S9 s H locs → lv_has ls 7 [] → k10 S9 = some r → GV p l e (headSpec wsX10_scan rmX10_scan).room s m ([.ref a0] : List Value).toArray below meth c D S r H locs 0 0 0 0 (F0 m 240 ls []) := by
    intro S9 H locs ls hH hl hf
    rw [← e11] at hf
    have hr9 := Option.some.inj hf
    subst hr9
    exact e_v hx hb hr hlocks hH dX10_scan_240
  obtain ⟨o12, eo12, hq12f⟩ := ob hf
  have Lo12 : ∀ (n : Nat) (x4 : Int32) (x5 : Int32) (x6 : Int32) (x7 : Int32) (S8 : PS), iter (fun (v : Int32 × Int32 × Int32 × Int32 × PS) => f_X10_scan_b14 a0 v.1 v.2.1 v.2.2.1 v.2.2.2.1 v.2.2.2.2) n (x4, x5, x6, x7, S8) = some o12 → ∀ (H : Heap) (locs : List Loc) (ls : Array Slot), HI D S S8 s H locs → lv_has ls 7 [(0, .ref a0), (1, .int x4), (2, .int x5), (3, .int x6), (4, .int x7)] → GV p l e (headSpec wsX10_scan rmX10_scan).room s m ([.ref a0] : List Value).toArray below meth c D S r H locs 0 0 0 0 (F0 m 14 ls []) := by
    intro n
    induction n with
    | zero => intro x4 x5 x6 x7 S8 hi; cases hi
    | succ n ih12 =>
      intro x4 x5 x6 x7 S8 hi H locs ls hH hl
      obtain ⟨q12_, hf, hq12⟩ := iter_s hi
      have hf : f_X10_scan_b14 a0 x4 x5 x6 x7 S8 = some q12_ := hf
      unfold f_X10_scan_b14 at hf
      refine lv_iload hx hb dX10_scan_14 (lv_at hl 4 rfl) ?_
      refine lv_aload_n hx hb dX10_scan_16 rfl (lv_at hl 0 rfl) ?_
      obtain ⟨ek13, hf⟩ := oc hf
      refine r_getI hx hb 13 hts (fun w h => List.mem_cons_of_mem _ (mwsX100 w h)) hown hH ek13 (by decide) rfl 3 (by decide) rfl (hts (.fieldLink RX10 156 "HousestyleModel" "length" "I") (List.mem_cons_of_mem _ gw_32_2)) (fun _ h9 => h9) dX10_scan_17 ?_
      refine lv_icmp_ge (tgt := 240) hx hb dX10_scan_20 (by decide) (fun c14 => ?_) (fun c14 => ?_)
      · have hf := ip hf c14
        cases hf
        have hf9 := itR (K := (fun (v : PS) => k10 v)) hq12 hq12f
        exact Xk10 S8 _ _ ls hH (lv_sub hl [] rfl) hf9
      · have hf := iq hf c14
        refine lv_aload_n hx hb dX10_scan_23 rfl (lv_at hl 0 rfl) ?_
        obtain ⟨a15, e16, hf⟩ := ob hf
        refine r_getQ hx hb 13 hts (fun w h => List.mem_cons_of_mem _ (mwsX100 w h)) hown hH ek13 (by decide) rfl 1 (by decide) rfl (hts (.fieldLink RX10 7 "HousestyleModel" "text" "[C") (List.mem_cons_of_mem _ gw_29_12)) (fun _ h9 => h9) dX10_scan_24 e16 ?_
        refine lv_iload hx hb dX10_scan_27 (lv_at hl 4 rfl) ?_
        obtain ⟨ek17, hf⟩ := oc hf
        obtain ⟨ei18, hf⟩ := oc hf
        refine r_cald hx hb hH ek17 ei18 dX10_scan_29 ?_
        obtain ⟨x19, e20, hf⟩ := ol hf
        refine lv_topE e20 ?_
        refine lv_istore (lv' := [(5, .int x19), (0, .ref a0), (1, .int x4), (2, .int x5), (3, .int x6), (4, .int x7)]) hx hb dX10_scan_30 hl (by decide) rfl (fun ls hl => ?_)
        refine lv_aload_n hx hb dX10_scan_32 rfl (lv_at hl 1 rfl) ?_
        obtain ⟨a21, e22, hf⟩ := ob hf
        refine r_getQ hx hb 13 hts (fun w h => List.mem_cons_of_mem _ (mwsX100 w h)) hown hH ek13 (by decide) rfl 35 (by decide) rfl (hts (.fieldLink RX10 99 "HousestyleModel" "paragraph" "[I") (List.mem_cons_of_mem _ gw_30_18)) (fun _ h9 => h9) dX10_scan_33 e22 ?_
        refine lv_iload hx hb dX10_scan_36 (lv_at hl 5 rfl) ?_
        refine lv_iload_n hx hb dX10_scan_38 rfl (lv_at hl 2 rfl) ?_
        obtain ⟨ek23, hf⟩ := oc hf
        obtain ⟨ei24, hf⟩ := oc hf
        refine r_iast hx hb hH ek23 ei24 dX10_scan_39 (fun H locs hH => ?_)
        obtain ⟨S25, e26, hf⟩ := ol hf
        rw [e26] at hH
        refine lv_iload_n hx hb dX10_scan_40 rfl (lv_at hl 3 rfl) ?_
        obtain ⟨j28, e110, hf⟩ := ol hf
        have Jj28 : ∀ (x27 : Int32) (H : Heap) (locs : List Loc) (ls : Array Slot), HI D S S25 s H locs → lv_has ls 7 [(0, .ref a0), (1, .int x4), (3, .int x6), (4, .int x7), (5, .int x19)] → j28 x27 = some q12_ → GV p l e (headSpec wsX10_scan rmX10_scan).room s m ([.ref a0] : List Value).toArray below meth c D S r H locs 0 0 0 0 (F0 m 56 ls [.int x27]) := by
          intro x27 H locs ls hH hl hf
          rw [← e110] at hf
          refine lv_istore_n (lv' := [(2, .int x27), (0, .ref a0), (1, .int x4), (3, .int x6), (4, .int x7), (5, .int x19)]) hx hb dX10_scan_56 rfl hl (by decide) rfl (fun ls hl => ?_)
          refine lv_aload_n hx hb dX10_scan_57 rfl (lv_at hl 1 rfl) ?_
          obtain ⟨ek29, hf⟩ := oc hf
          obtain ⟨a30, e31, hf⟩ := ob hf
          refine r_getQ hx hb 13 hts (fun w h => List.mem_cons_of_mem _ (mwsX100 w h)) hown hH ek29 (by decide) rfl 36 (by decide) rfl (hts (.fieldLink RX10 102 "HousestyleModel" "isQuoted" "[Z") (List.mem_cons_of_mem _ gw_30_19)) (fun _ h9 => h9) dX10_scan_58 e31 ?_
          refine lv_iload hx hb dX10_scan_61 (lv_at hl 4 rfl) ?_
          refine lv_iload_n hx hb dX10_scan_63 rfl (lv_at hl 0 rfl) ?_
          obtain ⟨j33, e104, hf⟩ := ol hf
          have Jj33 : ∀ (x32 : Int32) (H : Heap) (locs : List Loc) (ls : Array Slot), HI D S S25 s H locs → lv_has ls 7 [(0, .ref a0), (1, .int x4), (2, .int x27), (3, .int x6), (4, .int x7), (5, .int x19)] → j33 x32 = some q12_ → GV p l e (headSpec wsX10_scan rmX10_scan).room s m ([.ref a0] : List Value).toArray below meth c D S r H locs 0 0 0 0 (F0 m 79 ls [.int x32, .int x7, .ref a30]) := by
            intro x32 H locs ls hH hl hf
            rw [← e104] at hf
            obtain ⟨ek34, hf⟩ := oc hf
            obtain ⟨ei35, hf⟩ := oc hf
            refine r_zast hx hb hH ek34 ei35 dX10_scan_79 (fun H locs hH => ?_)
            obtain ⟨S36, e37, hf⟩ := ol hf
            rw [e37] at hH
            refine lv_iload hx hb dX10_scan_80 (lv_at hl 5 rfl) ?_
            refine lv_bipush (v := 34) hx hb dX10_scan_82 (by decide) ?_
            obtain ⟨j39, e101, hf⟩ := ol hf
            have Jj39 : ∀ (x38 : Int32) (H : Heap) (locs : List Loc) (ls : Array Slot), HI D S S36 s H locs → lv_has ls 7 [(0, .ref a0), (1, .int x4), (3, .int x6), (4, .int x7), (5, .int x19)] → j39 x38 = some q12_ → GV p l e (headSpec wsX10_scan rmX10_scan).room s m ([.ref a0] : List Value).toArray below meth c D S r H locs 0 0 0 0 (F0 m 100 ls [.int x38]) := by
              intro x38 H locs ls hH hl hf
              rw [← e101] at hf
              refine lv_istore_n (lv' := [(2, .int x38), (0, .ref a0), (1, .int x4), (3, .int x6), (4, .int x7), (5, .int x19)]) hx hb dX10_scan_100 rfl hl (by decide) rfl (fun ls hl => ?_)
              refine lv_iload_n hx hb dX10_scan_101 rfl (lv_at hl 2 rfl) ?_
              refine lv_iload hx hb dX10_scan_102 (lv_at hl 5 rfl) ?_
              refine lv_bipush (v := 47) hx hb dX10_scan_104 (by decide) ?_
              obtain ⟨j41, e99, hf⟩ := ol hf
              have Jj41 : ∀ (x40 : Int32) (H : Heap) (locs : List Loc) (ls : Array Slot), HI D S S36 s H locs → lv_has ls 7 [(0, .ref a0), (2, .int x38), (3, .int x6), (4, .int x7), (5, .int x19)] → j41 x40 = some q12_ → GV p l e (headSpec wsX10_scan rmX10_scan).room s m ([.ref a0] : List Value).toArray below meth c D S r H locs 0 0 0 0 (F0 m 114 ls [.int x40, .int x4]) := by
                intro x40 H locs ls hH hl hf
                rw [← e99] at hf
                refine lv_iadd hx hb dX10_scan_114 ?_
                obtain ⟨x42, e43, hf⟩ := ol hf
                refine lv_topE e43 ?_
                refine lv_istore_n (lv' := [(1, .int x42), (0, .ref a0), (2, .int x38), (3, .int x6), (4, .int x7), (5, .int x19)]) hx hb dX10_scan_115 rfl hl (by decide) rfl (fun ls hl => ?_)
                refine lv_iload hx hb dX10_scan_116 (lv_at hl 5 rfl) ?_
                obtain ⟨r44, e45, hf⟩ := ob hf
                refine r_callSi (As := [.int x19]) ⟨hx, hb, hml, hown, hts⟩ (c_X10_isLetter l D S36 x19 r44 e45) (va_cwS 1 hts (gwS gw_31_18 gw_31_19 gw_31_10 gw_31_5) rfl rfl rfl (by decide +kernel) ⟨Nat.le_of_ble_eq_true rfl, Nat.le_of_ble_eq_true rfl⟩) hH hNE rfl hl.1 rfl (Nat.le_of_ble_eq_true rfl) dX10_scan_118 ⟨(Nat.le_of_ble_eq_true rfl), (Nat.le_of_ble_eq_true rfl)⟩ (fun H locs hH => ?_)
                obtain ⟨j47, e94, hf⟩ := ol hf
                have Jj47 : ∀ (x46 : Int32) (H : Heap) (locs : List Loc) (ls : Array Slot), HI D S S36 s H locs → lv_has ls 7 [(0, .ref a0), (1, .int x42), (2, .int x38), (3, .int x6), (4, .int x7)] → j47 x46 = some q12_ → GV p l e (headSpec wsX10_scan rmX10_scan).room s m ([.ref a0] : List Value).toArray below meth c D S r H locs 0 0 0 0 (F0 m 141 ls [.int x46]) := by
                  intro x46 H locs ls hH hl hf
                  rw [← e94] at hf
                  refine lv_istore (lv' := [(6, .int x46), (0, .ref a0), (1, .int x42), (2, .int x38), (3, .int x6), (4, .int x7)]) hx hb dX10_scan_141 hl (by decide) rfl (fun ls hl => ?_)
                  refine lv_iload hx hb dX10_scan_143 (lv_at hl 0 rfl) ?_
                  obtain ⟨j49, e52, hf⟩ := ol hf
                  have Jj49 : ∀ (S48 : PS) (H : Heap) (locs : List Loc) (ls : Array Slot), HI D S S48 s H locs → lv_has ls 7 [(0, .ref a0), (1, .int x42), (2, .int x38), (4, .int x7), (6, .int x46)] → j49 S48 = some q12_ → GV p l e (headSpec wsX10_scan rmX10_scan).room s m ([.ref a0] : List Value).toArray below meth c D S r H locs 0 0 0 0 (F0 m 231 ls []) := by
                    intro S48 H locs ls hH hl hf
                    rw [← e52] at hf
                    refine lv_iload hx hb dX10_scan_231 (lv_at hl 4 rfl) ?_
                    refine lv_istore_n (lv' := [(3, .int x46), (0, .ref a0), (1, .int x42), (2, .int x38), (4, .int x7), (6, .int x46)]) hx hb dX10_scan_233 rfl hl (by decide) rfl (fun ls hl => ?_)
                    obtain ⟨x50, e51, hf⟩ := ol hf
                    refine lv_iinc (v := x50) (lv' := [(4, .int x50), (3, .int x46), (0, .ref a0), (1, .int x42), (2, .int x38), (6, .int x46)]) hx hb dX10_scan_234 hl (k := 4) rfl (by rw [← e51]; rfl) (by decide) rfl (fun ls hl => ?_)
                    refine lv_goto (tgt := 14) hx hb dX10_scan_237 (by decide) ?_
                    cases hf
                    exact ih12 x42 x38 x46 x50 S48 hq12 _ _ ls hH (lv_sub hl [2, 3, 4, 1, 0] rfl)
                  obtain ⟨j53, e84, hf⟩ := ol hf
                  have Jj53 : ∀ (u83 : Unit) (H : Heap) (locs : List Loc) (ls : Array Slot), HI D S S36 s H locs → lv_has ls 7 [(0, .ref a0), (1, .int x42), (2, .int x38), (4, .int x7), (6, .int x46)] → j53 u83 = some q12_ → GV p l e (headSpec wsX10_scan rmX10_scan).room s m ([.ref a0] : List Value).toArray below meth c D S r H locs 0 0 0 0 (F0 m 172 ls []) := by
                    intro u83 H locs ls hH hl hf
                    rw [← e84] at hf
                    refine lv_iload hx hb dX10_scan_172 (lv_at hl 4 rfl) ?_
                    refine lv_if_le (tgt := 231) hx hb dX10_scan_174 (by decide) (fun c54 => ?_) (fun c54 => ?_)
                    · have hf := ip hf c54
                      exact Jj49 S36 _ _ ls hH (lv_sub hl [0, 1, 2, 3, 4] rfl) hf
                    · have hf := iq hf c54
                      refine lv_aload_n hx hb dX10_scan_177 rfl (lv_at hl 0 rfl) ?_
                      obtain ⟨ek55, hf⟩ := oc hf
                      obtain ⟨a56, e57, hf⟩ := ob hf
                      refine r_getQ hx hb 13 hts (fun w h => List.mem_cons_of_mem _ (mwsX100 w h)) hown hH ek55 (by decide) rfl 32 (by decide) rfl (hts (.fieldLink RX10 90 "HousestyleModel" "from" "[I") (List.mem_cons_of_mem _ gw_30_15)) (fun _ h9 => h9) dX10_scan_178 e57 ?_
                      refine lv_aload_n hx hb dX10_scan_181 rfl (lv_at hl 0 rfl) ?_
                      refine r_getI hx hb 13 hts (fun w h => List.mem_cons_of_mem _ (mwsX100 w h)) hown hH ek55 (by decide) rfl 31 (by decide) rfl (hts (.fieldLink RX10 194 "HousestyleModel" "tokens" "I") (List.mem_cons_of_mem _ gw_34_8)) (fun _ h9 => h9) dX10_scan_182 ?_
                      refine lv_iload hx hb dX10_scan_185 (lv_at hl 3 rfl) ?_
                      obtain ⟨ek58, hf⟩ := oc hf
                      obtain ⟨ei59, hf⟩ := oc hf
                      refine r_iast hx hb hH ek58 ei59 dX10_scan_187 (fun H locs hH => ?_)
                      obtain ⟨S60, e61, hf⟩ := ol hf
                      rw [e61] at hH
                      refine lv_aload_n hx hb dX10_scan_188 rfl (lv_at hl 0 rfl) ?_
                      obtain ⟨ek62, hf⟩ := oc hf
                      obtain ⟨a63, e64, hf⟩ := ob hf
                      refine r_getQ hx hb 13 hts (fun w h => List.mem_cons_of_mem _ (mwsX100 w h)) hown hH ek62 (by decide) rfl 33 (by decide) rfl (hts (.fieldLink RX10 93 "HousestyleModel" "to" "[I") (List.mem_cons_of_mem _ gw_30_16)) (fun _ h9 => h9) dX10_scan_189 e64 ?_
                      refine lv_aload_n hx hb dX10_scan_192 rfl (lv_at hl 0 rfl) ?_
                      refine r_getI hx hb 13 hts (fun w h => List.mem_cons_of_mem _ (mwsX100 w h)) hown hH ek62 (by decide) rfl 31 (by decide) rfl (hts (.fieldLink RX10 194 "HousestyleModel" "tokens" "I") (List.mem_cons_of_mem _ gw_34_8)) (fun _ h9 => h9) dX10_scan_193 ?_
                      refine lv_iload hx hb dX10_scan_196 (lv_at hl 3 rfl) ?_
                      refine lv_iconst (v := 1) hx hb dX10_scan_198 (by decide) ?_
                      refine lv_iadd hx hb dX10_scan_199 ?_
                      obtain ⟨ek65, hf⟩ := oc hf
                      obtain ⟨ei66, hf⟩ := oc hf
                      refine r_iast hx hb hH ek65 ei66 dX10_scan_200 (fun H locs hH => ?_)
                      obtain ⟨S67, e68, hf⟩ := ol hf
                      rw [e68] at hH
                      refine lv_aload_n hx hb dX10_scan_201 rfl (lv_at hl 0 rfl) ?_
                      obtain ⟨ek69, hf⟩ := oc hf
                      obtain ⟨a70, e71, hf⟩ := ob hf
                      refine r_getQ hx hb 13 hts (fun w h => List.mem_cons_of_mem _ (mwsX100 w h)) hown hH ek69 (by decide) rfl 34 (by decide) rfl (hts (.fieldLink RX10 96 "HousestyleModel" "isWord" "[Z") (List.mem_cons_of_mem _ gw_30_17)) (fun _ h9 => h9) dX10_scan_202 e71 ?_
                      refine lv_aload_n hx hb dX10_scan_205 rfl (lv_at hl 0 rfl) ?_
                      refine r_getI hx hb 13 hts (fun w h => List.mem_cons_of_mem _ (mwsX100 w h)) hown hH ek69 (by decide) rfl 31 (by decide) rfl (hts (.fieldLink RX10 194 "HousestyleModel" "tokens" "I") (List.mem_cons_of_mem _ gw_34_8)) (fun _ h9 => h9) dX10_scan_206 ?_
                      refine lv_iload hx hb dX10_scan_209 (lv_at hl 4 rfl) ?_
                      refine lv_iconst (v := 1) hx hb dX10_scan_211 (by decide) ?_
                      obtain ⟨j73, e81, hf⟩ := ol hf
                      have Jj73 : ∀ (x72 : Int32) (H : Heap) (locs : List Loc) (ls : Array Slot), HI D S S67 s H locs → lv_has ls 7 [(0, .ref a0), (1, .int x42), (2, .int x38), (4, .int x7), (6, .int x46)] → j73 x72 = some q12_ → GV p l e (headSpec wsX10_scan rmX10_scan).room s m ([.ref a0] : List Value).toArray below meth c D S r H locs 0 0 0 0 (F0 m 220 ls [.int x72, .int (kI S67 a0 31), .ref a70]) := by
                        intro x72 H locs ls hH hl hf
                        rw [← e81] at hf
                        obtain ⟨ek74, hf⟩ := oc hf
                        obtain ⟨ei75, hf⟩ := oc hf
                        refine r_zast hx hb hH ek74 ei75 dX10_scan_220 (fun H locs hH => ?_)
                        obtain ⟨S76, e77, hf⟩ := ol hf
                        rw [e77] at hH
                        refine lv_aload_n hx hb dX10_scan_221 rfl (lv_at hl 0 rfl) ?_
                        refine lv_dup hx hb dX10_scan_222 rfl ?_
                        obtain ⟨ek78, hf⟩ := oc hf
                        refine r_getI hx hb 13 hts (fun w h => List.mem_cons_of_mem _ (mwsX100 w h)) hown hH ek78 (by decide) rfl 31 (by decide) rfl (hts (.fieldLink RX10 194 "HousestyleModel" "tokens" "I") (List.mem_cons_of_mem _ gw_34_8)) (fun _ h9 => h9) dX10_scan_223 ?_
                        refine lv_iconst (v := 1) hx hb dX10_scan_226 (by decide) ?_
                        refine lv_iadd hx hb dX10_scan_227 ?_
                        refine r_putI hx hb 13 hts (fun w h => List.mem_cons_of_mem _ (mwsX100 w h)) tyX10 tyX10_ok nmX10 hown hH ek78 (by decide) rfl 31 (by decide) rfl (hts (.fieldLink RX10 194 "HousestyleModel" "tokens" "I") (List.mem_cons_of_mem _ gw_34_8)) (fun _ h9 => h9) (Or.inl rfl) (ty := .int) (by decide +kernel) rfl rfl dX10_scan_228 (fun H locs hH => ?_)
                        obtain ⟨S79, e80, hf⟩ := ol hf
                        rw [e80] at hH
                        exact Jj49 S79 _ _ ls hH (lv_sub hl [0, 1, 2, 3, 4] rfl) hf
                      refine lv_icmp_ne (tgt := 219) hx hb dX10_scan_212 (by decide) (fun c82 => ?_) (fun c82 => ?_)
                      · have hf := iq hf c82
                        refine lv_iconst (v := 0) hx hb dX10_scan_219 (by decide) ?_
                        exact Jj73 0 _ _ ls hH (lv_sub hl [0, 1, 2, 3, 4] rfl) hf
                      · have hf := ip hf c82
                        refine lv_iconst (v := 1) hx hb dX10_scan_215 (by decide) ?_
                        refine lv_goto (tgt := 220) hx hb dX10_scan_216 (by decide) ?_
                        exact Jj73 1 _ _ ls hH (lv_sub hl [0, 1, 2, 3, 4] rfl) hf
                  refine lv_if_le (tgt := 172) hx hb dX10_scan_145 (by decide) (fun c85 => ?_) (fun c85 => ?_)
                  · have hf := ip hf c85
                    exact Jj53 () _ _ ls hH (lv_sub hl [1, 2, 3, 5, 0] rfl) hf
                  · have hf := iq hf c85
                    refine lv_iload hx hb dX10_scan_148 (lv_at hl 0 rfl) ?_
                    refine lv_iload_n hx hb dX10_scan_150 rfl (lv_at hl 4 rfl) ?_
                    refine lv_icmp_ne (tgt := 172) hx hb dX10_scan_151 (by decide) (fun c86 => ?_) (fun c86 => ?_)
                    · have hf := iq hf c86
                      exact Jj53 () _ _ ls hH (lv_sub hl [1, 2, 3, 5, 0] rfl) hf
                    · have hf := ip hf c86
                      refine lv_aload_n hx hb dX10_scan_154 rfl (lv_at hl 1 rfl) ?_
                      obtain ⟨ek87, hf⟩ := oc hf
                      obtain ⟨a88, e89, hf⟩ := ob hf
                      refine r_getQ hx hb 13 hts (fun w h => List.mem_cons_of_mem _ (mwsX100 w h)) hown hH ek87 (by decide) rfl 33 (by decide) rfl (hts (.fieldLink RX10 93 "HousestyleModel" "to" "[I") (List.mem_cons_of_mem _ gw_30_16)) (fun _ h9 => h9) dX10_scan_155 e89 ?_
                      refine lv_aload_n hx hb dX10_scan_158 rfl (lv_at hl 1 rfl) ?_
                      refine r_getI hx hb 13 hts (fun w h => List.mem_cons_of_mem _ (mwsX100 w h)) hown hH ek87 (by decide) rfl 31 (by decide) rfl (hts (.fieldLink RX10 194 "HousestyleModel" "tokens" "I") (List.mem_cons_of_mem _ gw_34_8)) (fun _ h9 => h9) dX10_scan_159 ?_
                      refine lv_iconst (v := 1) hx hb dX10_scan_162 (by decide) ?_
                      refine lv_isub hx hb dX10_scan_163 ?_
                      refine lv_iload hx hb dX10_scan_164 (lv_at hl 5 rfl) ?_
                      refine lv_iconst (v := 1) hx hb dX10_scan_166 (by decide) ?_
                      refine lv_iadd hx hb dX10_scan_167 ?_
                      obtain ⟨ek90, hf⟩ := oc hf
                      obtain ⟨ei91, hf⟩ := oc hf
                      refine r_iast hx hb hH ek90 ei91 dX10_scan_168 (fun H locs hH => ?_)
                      obtain ⟨S92, e93, hf⟩ := ol hf
                      rw [e93] at hH
                      refine lv_goto (tgt := 231) hx hb dX10_scan_169 (by decide) ?_
                      exact Jj49 S92 _ _ ls hH (lv_sub hl [1, 2, 3, 5, 0] rfl) hf
                refine lv_if_eq (tgt := 128) hx hb dX10_scan_121 (by decide) (fun c95 => ?_) (fun c95 => ?_)
                · have hf := ip hf c95
                  refine lv_iload hx hb dX10_scan_128 (lv_at hl 5 rfl) ?_
                  obtain ⟨r96, e97, hf⟩ := ob hf
                  refine r_callSi (As := [.int x19]) ⟨hx, hb, hml, hown, hts⟩ (c_X10_isDigit l D S36 x19 r96 e97) (va_cwS 1 hts (gwS gw_31_20 gw_31_21 gw_31_10 gw_31_6) rfl rfl rfl (by decide +kernel) ⟨Nat.le_of_ble_eq_true rfl, Nat.le_of_ble_eq_true rfl⟩) hH hNE rfl hl.1 rfl (Nat.le_of_ble_eq_true rfl) dX10_scan_130 ⟨(Nat.le_of_ble_eq_true rfl), (Nat.le_of_ble_eq_true rfl)⟩ (fun H locs hH => ?_)
                  refine lv_if_eq (tgt := 140) hx hb dX10_scan_133 (by decide) (fun c98 => ?_) (fun c98 => ?_)
                  · have hf := ip hf c98
                    refine lv_iconst (v := 0) hx hb dX10_scan_140 (by decide) ?_
                    exact Jj47 0 _ _ ls hH (lv_sub hl [1, 0, 2, 3, 4] rfl) hf
                  · have hf := iq hf c98
                    refine lv_iconst (v := 2) hx hb dX10_scan_136 (by decide) ?_
                    refine lv_goto (tgt := 141) hx hb dX10_scan_137 (by decide) ?_
                    exact Jj47 2 _ _ ls hH (lv_sub hl [1, 0, 2, 3, 4] rfl) hf
                · have hf := iq hf c95
                  refine lv_iconst (v := 1) hx hb dX10_scan_124 (by decide) ?_
                  refine lv_goto (tgt := 141) hx hb dX10_scan_125 (by decide) ?_
                  exact Jj47 1 _ _ ls hH (lv_sub hl [1, 0, 2, 3, 4] rfl) hf
              refine lv_icmp_ne (tgt := 113) hx hb dX10_scan_106 (by decide) (fun c100 => ?_) (fun c100 => ?_)
              · have hf := iq hf c100
                refine lv_iconst (v := 0) hx hb dX10_scan_113 (by decide) ?_
                exact Jj41 0 _ _ ls hH (lv_sub hl [1, 0, 3, 4, 5] rfl) hf
              · have hf := ip hf c100
                refine lv_iconst (v := 1) hx hb dX10_scan_109 (by decide) ?_
                refine lv_goto (tgt := 114) hx hb dX10_scan_110 (by decide) ?_
                exact Jj41 1 _ _ ls hH (lv_sub hl [1, 0, 3, 4, 5] rfl) hf
            refine lv_icmp_ne (tgt := 99) hx hb dX10_scan_84 (by decide) (fun c102 => ?_) (fun c102 => ?_)
            · have hf := iq hf c102
              refine lv_iload_n hx hb dX10_scan_99 rfl (lv_at hl 2 rfl) ?_
              exact Jj39 x27 _ _ ls hH (lv_sub hl [0, 1, 3, 4, 5] rfl) hf
            · have hf := ip hf c102
              refine lv_iload_n hx hb dX10_scan_87 rfl (lv_at hl 2 rfl) ?_
              refine lv_if_ne (tgt := 95) hx hb dX10_scan_88 (by decide) (fun c103 => ?_) (fun c103 => ?_)
              · have hf := iq hf c103
                refine lv_iconst (v := 0) hx hb dX10_scan_95 (by decide) ?_
                refine lv_goto (tgt := 100) hx hb dX10_scan_96 (by decide) ?_
                exact Jj39 0 _ _ ls hH (lv_sub hl [0, 1, 3, 4, 5] rfl) hf
              · have hf := ip hf c103
                refine lv_iconst (v := 1) hx hb dX10_scan_91 (by decide) ?_
                refine lv_goto (tgt := 100) hx hb dX10_scan_92 (by decide) ?_
                exact Jj39 1 _ _ ls hH (lv_sub hl [0, 1, 3, 4, 5] rfl) hf
          obtain ⟨j105, e107, hf⟩ := ol hf
          have Jj105 : ∀ (u106 : Unit) (H : Heap) (locs : List Loc) (ls : Array Slot), HI D S S25 s H locs → lv_has ls 7 [(0, .ref a0), (1, .int x4), (2, .int x27), (3, .int x6), (4, .int x7), (5, .int x19)] → j105 u106 = some q12_ → GV p l e (headSpec wsX10_scan rmX10_scan).room s m ([.ref a0] : List Value).toArray below meth c D S r H locs 0 0 0 0 (F0 m 74 ls [.int x7, .ref a30]) := by
            intro u106 H locs ls hH hl hf
            rw [← e107] at hf
            refine lv_iconst (v := 1) hx hb dX10_scan_74 (by decide) ?_
            refine lv_goto (tgt := 79) hx hb dX10_scan_75 (by decide) ?_
            exact Jj33 1 _ _ ls hH (lv_sub hl [0, 1, 2, 3, 4, 5] rfl) hf
          refine lv_if_ne (tgt := 74) hx hb dX10_scan_64 (by decide) (fun c108 => ?_) (fun c108 => ?_)
          · have hf := iq hf c108
            exact Jj105 () _ _ ls hH (lv_sub hl [1, 2, 0, 3, 4, 5] rfl) hf
          · have hf := ip hf c108
            refine lv_iload hx hb dX10_scan_67 (lv_at hl 5 rfl) ?_
            refine lv_bipush (v := 34) hx hb dX10_scan_69 (by decide) ?_
            refine lv_icmp_ne (tgt := 78) hx hb dX10_scan_71 (by decide) (fun c109 => ?_) (fun c109 => ?_)
            · have hf := iq hf c109
              refine lv_iconst (v := 0) hx hb dX10_scan_78 (by decide) ?_
              exact Jj33 0 _ _ ls hH (lv_sub hl [1, 2, 0, 3, 4, 5] rfl) hf
            · have hf := ip hf c109
              exact Jj105 () _ _ ls hH (lv_sub hl [1, 2, 0, 3, 4, 5] rfl) hf
        obtain ⟨j111, e113, hf⟩ := ol hf
        have Jj111 : ∀ (u112 : Unit) (H : Heap) (locs : List Loc) (ls : Array Slot), HI D S S25 s H locs → lv_has ls 7 [(0, .ref a0), (1, .int x4), (3, .int x6), (4, .int x7), (5, .int x19)] → j111 u112 = some q12_ → GV p l e (headSpec wsX10_scan rmX10_scan).room s m ([.ref a0] : List Value).toArray below meth c D S r H locs 0 0 0 0 (F0 m 55 ls []) := by
          intro u112 H locs ls hH hl hf
          rw [← e113] at hf
          refine lv_iconst (v := 0) hx hb dX10_scan_55 (by decide) ?_
          exact Jj28 0 _ _ ls hH (lv_sub hl [0, 1, 2, 3, 4] rfl) hf
        refine lv_if_eq (tgt := 55) hx hb dX10_scan_41 (by decide) (fun c114 => ?_) (fun c114 => ?_)
        · have hf := ip hf c114
          exact Jj111 () _ _ ls hH (lv_sub hl [1, 2, 4, 5, 0] rfl) hf
        · have hf := iq hf c114
          refine lv_iload hx hb dX10_scan_44 (lv_at hl 0 rfl) ?_
          refine lv_bipush (v := 47) hx hb dX10_scan_46 (by decide) ?_
          refine lv_icmp_eq (tgt := 55) hx hb dX10_scan_48 (by decide) (fun c115 => ?_) (fun c115 => ?_)
          · have hf := ip hf c115
            exact Jj111 () _ _ ls hH (lv_sub hl [1, 2, 4, 5, 0] rfl) hf
          · have hf := iq hf c115
            refine lv_iconst (v := 1) hx hb dX10_scan_51 (by decide) ?_
            refine lv_goto (tgt := 56) hx hb dX10_scan_52 (by decide) ?_
            exact Jj28 1 _ _ ls hH (lv_sub hl [1, 2, 4, 5, 0] rfl) hf
  exact Lo12 kF 0 0 0 0 S2 eo12 _ _ ls hH (lv_sub hl [4, 3, 2, 1, 0] rfl)
