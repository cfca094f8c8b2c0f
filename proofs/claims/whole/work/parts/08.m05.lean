set_option maxRecDepth 100000 in
def f_X10_of (S : PS) (a0 : Nat) (p1 : Int32) (p2 : Int32) (p3 : Int32) : Option (PS × Int32) := (f_X10_isDesk S p1).bind fun r1 => lt (fun (x3 : Int32) => if kK S a0 = 14 then (lt (wI S a0 0 x3) fun S6 => if kK S6 a0 = 14 then (if (kI S6 a0 0) ≤ 0 then ((f_X10_look S6 a0 p1).bind fun r10 => if kK r10 a0 = 14 then ((f_X10_in r10 p2 0 ((kI r10 a0 42) - 1)).bind fun r13 => lt (fun (x15 : Int32) => lt (wI r10 a0 0 x15) fun S17 => if kK S17 a0 = 14 then (if (kI S17 a0 0) ≤ 0 then ((kQ S17 a0 43).bind fun a21 => if kK S17 a21 = 101 then (if ¬ (p2 < 0 ∨ kN S17 a21 ≤ p2.toNatClampNeg) then (lt (kI S17 a21 p2.toNatClampNeg) fun x25 => (f_X10_placeOf S17 a0 x25).bind fun r27 => if p3 = (102 : Int32) then (some (S17, r27)) else (if p3 = (108 : Int32) then ((kQ S17 a0 39).bind fun a48 => if kK S17 a48 = 101 then (if ¬ (x25 < 0 ∨ kN S17 a48 ≤ x25.toNatClampNeg) then (some (S17, ((kI S17 a48 x25.toNatClampNeg) - r27))) else none) else none) else (if p3 = (114 : Int32) then ((kQ S17 a0 40).bind fun a44 => if kK S17 a44 = 101 then (if ¬ (x25 < 0 ∨ kN S17 a44 ≤ x25.toNatClampNeg) then (some (S17, (kI S17 a44 x25.toNatClampNeg))) else none) else none) else (if p3 = (107 : Int32) then ((kQ S17 a0 41).bind fun a40 => if kK S17 a40 = 101 then (if ¬ (x25 < 0 ∨ kN S17 a40 ≤ x25.toNatClampNeg) then (some (S17, (kI S17 a40 x25.toNatClampNeg))) else none) else none) else (if p3 = (119 : Int32) then ((kQ S17 a0 2).bind fun a36 => if kK S17 a36 = 101 then (if ¬ (r27 < 0 ∨ kN S17 a36 ≤ r27.toNatClampNeg) then (some (S17, (kI S17 a36 r27.toNatClampNeg))) else none) else none) else ((f_X10_suggestionsOf S17 a0 x25).bind fun r34 => some (S17, r34))))))) else none) else none) else (some (S17, 0))) else none) fun j16 => if r13 = 0 then (j16 2) else (j16 0)) else none) else (some (S6, 0))) else none) else none) fun j4 => lt (fun (u56 : Unit) => j4 1) fun j55 => if r1 = 0 then (j55 ()) else ((f_X10_isThing S p3).bind fun r59 => if r59 = 0 then (j55 ()) else (j4 0))
abbrev rmX10_of : Room := { frames := 4, cells := 0, slots := 0, locals := 100 }
set_option maxHeartbeats 4000000 in
set_option maxRecDepth 100000 in
theorem c_X10_of (l : Launch) (D : va_G × Nat) (S : PS) (a0 : Nat) (p1 : Int32) (p2 : Int32) (p3 : Int32) (r : PS × Int32) (hf : f_X10_of S a0 p1 p2 p3 = some r) : MI l D yX10_of wsX10_of rmX10_of S [.ref a0, .int p1, .int p2, .int p3] r.1 r.2 0 0 := by
  unfold f_X10_of at hf
  refine Met.ofW (cc := cX10_of) (maxL := 6) (ret := (some .int)) (by decide) rfl ?_
  intro p e s m args below meth c s₁ B hml hv
  obtain ⟨rfl, hH0, hNE⟩ := hv
  have hx := B.exec
  have hb := B.bytes
  have hr := B.returns
  have hts := atoms_spec (ws := wsX10_of) B.pre
  have hown : s.vm.findClass RX10 = some m.cls := findClass_of_methodNamed B.named
  have hlocks := B.notSynchronized
  have hH : HI D S S s s.heap [] := HI.start hH0
  have hl := lv_entry ([.ref a0, .int p1, .int p2, .int p3]) (n := 6) (Nat.le_of_ble_eq_true rfl)
  rw [lg_entry_eq]
  generalize (lg_sl ([.ref a0, .int p1, .int p2, .int p3]) ++ List.replicate (6 - (lg_sl ([.ref a0, .int p1, .int p2, .int p3])).length) Slot.unset).toArray = ls at hl ⊢
  have hl : lv_has ls 6 [(0, .ref a0), (1, .int p1), (2, .int p2), (3, .int p3)] := hl
  refine lv_aload_n hx hb dX10_of_0 rfl (lv_at hl 0 rfl) ?_
  refine lv_iload_n hx hb dX10_of_1 rfl (lv_at hl 1 rfl) ?_
  obtain ⟨r1, e2, hf⟩ := ob hf
  refine r_callSi (As := [.int p1]) ⟨hx, hb, hml, hown, hts⟩ (c_X10_isDesk l D S p1 r1 e2) (va_cwS 1 hts (gwS gw_31_12 gw_31_13 gw_31_10 gw_31_7) rfl rfl rfl (by decide +kernel) ⟨Nat.le_of_ble_eq_true rfl, Nat.le_of_ble_eq_true rfl⟩) hH hNE rfl hl.1 rfl (Nat.le_of_ble_eq_true rfl) dX10_of_2 ⟨(Nat.le_of_ble_eq_true rfl), (Nat.le_of_ble_eq_true rfl)⟩ (fun H locs hH => ?_)
  obtain ⟨j4, e54, hf⟩ := ol hf
  have Jj4 : ∀ (x3 : Int32) (H : Heap) (locs : List Loc) (ls : Array Slot), HI D S S s H locs → lv_has ls 6 [(0, .ref a0), (1, .int p1), (2, .int p2), (3, .int p3)] → j4 x3 = some r → GI p l e (headSpec wsX10_of rmX10_of).room s m ([.ref a0, .int p1, .int p2, .int p3] : List Value).toArray below meth c D S r.1 r.2 H locs 0 0 0 0 (F0 m 20 ls [.int x3, .ref a0]) := by
    intro x3 H locs ls hH hl hf
    rw [← e54] at hf
    obtain ⟨ek5, hf⟩ := oc hf
    refine r_putI hx hb 13 hts (fun w h => List.mem_cons_of_mem _ (mwsX100 w h)) tyX10 tyX10_ok nmX10 hown hH ek5 (by decide) rfl 0 (by decide) rfl (hts (.fieldLink RX10 123 "HousestyleModel" "thrown" "I") (List.mem_cons_of_mem _ gw_31_3)) (fun _ h9 => h9) (Or.inl rfl) (ty := .int) (by decide +kernel) rfl rfl dX10_of_20 (fun H locs hH => ?_)
    obtain ⟨S6, e7, hf⟩ := ol hf
    rw [e7] at hH
    refine lv_aload_n hx hb dX10_of_23 rfl (lv_at hl 0 rfl) ?_
    obtain ⟨ek8, hf⟩ := oc hf
    refine r_getI hx hb 13 hts (fun w h => List.mem_cons_of_mem _ (mwsX100 w h)) hown hH ek8 (by decide) rfl 0 (by decide) rfl (hts (.fieldLink RX10 123 "HousestyleModel" "thrown" "I") (List.mem_cons_of_mem _ gw_31_3)) (fun _ h9 => h9) dX10_of_24 ?_
    refine lv_if_le (tgt := 32) hx hb dX10_of_27 (by decide) (fun c9 => ?_) (fun c9 => ?_)
    · have hf := ip hf c9
      refine lv_aload_n hx hb dX10_of_32 rfl (lv_at hl 0 rfl) ?_
      refine lv_iload_n hx hb dX10_of_33 rfl (lv_at hl 1 rfl) ?_
      obtain ⟨r10, e11, hf⟩ := ob hf
      refine r_callVv (As := [.int p1]) ⟨hx, hb, hml, hown, hts⟩ (c_X10_look l D S6 a0 p1 r10 e11) (cwV 1 hts (gwV gw_36_23 gw_37_0 gw_37_1 gw_31_10 gw_36_9) rfl rfl rfl (by decide +kernel) ⟨Nat.le_of_ble_eq_true rfl, Nat.le_of_ble_eq_true rfl⟩) hH hNE 13 ek8 (by decide) rfl rfl rfl hl.1 rfl (Nat.le_of_ble_eq_true rfl) dX10_of_34 ⟨(Nat.le_of_ble_eq_true rfl), (Nat.le_of_ble_eq_true rfl)⟩ (fun H locs hH => ?_)
      refine lv_aload_n hx hb dX10_of_37 rfl (lv_at hl 0 rfl) ?_
      refine lv_iload_n hx hb dX10_of_38 rfl (lv_at hl 2 rfl) ?_
      refine lv_iconst (v := 0) hx hb dX10_of_39 (by decide) ?_
      refine lv_aload_n hx hb dX10_of_40 rfl (lv_at hl 0 rfl) ?_
      obtain ⟨ek12, hf⟩ := oc hf
      refine r_getI hx hb 13 hts (fun w h => List.mem_cons_of_mem _ (mwsX100 w h)) hown hH ek12 (by decide) rfl 42 (by decide) rfl (hts (.fieldLink RX10 236 "HousestyleModel" "taken" "I") (List.mem_cons_of_mem _ gw_36_8)) (fun _ h9 => h9) dX10_of_41 ?_
      refine lv_iconst (v := 1) hx hb dX10_of_44 (by decide) ?_
      refine lv_isub hx hb dX10_of_45 ?_
      obtain ⟨r13, e14, hf⟩ := ob hf
      refine r_callSi (As := [.int p2, .int 0, .int ((kI r10 a0 42) - 1)]) ⟨hx, hb, hml, hown, hts⟩ (c_X10_in l D r10 p2 0 ((kI r10 a0 42) - 1) r13 e14) (va_cwS 3 hts (gwS gw_31_8 gw_31_9 gw_31_10 gw_31_4) rfl rfl rfl (by decide +kernel) ⟨Nat.le_of_ble_eq_true rfl, Nat.le_of_ble_eq_true rfl⟩) hH hNE rfl hl.1 rfl (Nat.le_of_ble_eq_true rfl) dX10_of_46 ⟨(Nat.le_of_ble_eq_true rfl), (Nat.le_of_ble_eq_true rfl)⟩ (fun H locs hH => ?_)
      obtain ⟨j16, e52, hf⟩ := ol hf
      have Jj16 : ∀ (x15 : Int32) (H : Heap) (locs : List Loc) (ls : Array Slot), HI D S r10 s H locs → lv_has ls 6 [(0, .ref a0), (2, .int p2), (3, .int p3)] → j16 x15 = some r → GI p l e (headSpec wsX10_of rmX10_of).room s m ([.ref a0, .int p1, .int p2, .int p3] : List Value).toArray below meth c D S r.1 r.2 H locs 0 0 0 0 (F0 m 57 ls [.int x15, .ref a0]) := by
        intro x15 H locs ls hH hl hf
        rw [← e52] at hf
        refine r_putI hx hb 13 hts (fun w h => List.mem_cons_of_mem _ (mwsX100 w h)) tyX10 tyX10_ok nmX10 hown hH ek12 (by decide) rfl 0 (by decide) rfl (hts (.fieldLink RX10 123 "HousestyleModel" "thrown" "I") (List.mem_cons_of_mem _ gw_31_3)) (fun _ h9 => h9) (Or.inl rfl) (ty := .int) (by decide +kernel) rfl rfl dX10_of_57 (fun H locs hH => ?_)
        obtain ⟨S17, e18, hf⟩ := ol hf
        rw [e18] at hH
        refine lv_aload_n hx hb dX10_of_60 rfl (lv_at hl 0 rfl) ?_
        obtain ⟨ek19, hf⟩ := oc hf
        refine r_getI hx hb 13 hts (fun w h => List.mem_cons_of_mem _ (mwsX100 w h)) hown hH ek19 (by decide) rfl 0 (by decide) rfl (hts (.fieldLink RX10 123 "HousestyleModel" "thrown" "I") (List.mem_cons_of_mem _ gw_31_3)) (fun _ h9 => h9) dX10_of_61 ?_
        refine lv_if_le (tgt := 69) hx hb dX10_of_64 (by decide) (fun c20 => ?_) (fun c20 => ?_)
        · have hf := ip hf c20
          refine lv_aload_n hx hb dX10_of_69 rfl (lv_at hl 0 rfl) ?_
          obtain ⟨a21, e22, hf⟩ := ob hf
          refine r_getQ hx hb 13 hts (fun w h => List.mem_cons_of_mem _ (mwsX100 w h)) hown hH ek19 (by decide) rfl 43 (by decide) rfl (hts (.fieldLink RX10 117 "HousestyleModel" "takes" "[I") (List.mem_cons_of_mem _ gw_31_0)) (fun _ h9 => h9) dX10_of_70 e22 ?_
          refine lv_iload_n hx hb dX10_of_73 rfl (lv_at hl 1 rfl) ?_
          obtain ⟨ek23, hf⟩ := oc hf
          obtain ⟨ei24, hf⟩ := oc hf
          refine r_iald hx hb hH ek23 ei24 dX10_of_74 ?_
          obtain ⟨x25, e26, hf⟩ := ol hf
          refine lv_topE e26 ?_
          refine lv_istore (lv' := [(4, .int x25), (0, .ref a0), (2, .int p2), (3, .int p3)]) hx hb dX10_of_75 hl (by decide) rfl (fun ls hl => ?_)
          refine lv_aload_n hx hb dX10_of_77 rfl (lv_at hl 1 rfl) ?_
          refine lv_iload hx hb dX10_of_78 (lv_at hl 0 rfl) ?_
          obtain ⟨r27, e28, hf⟩ := ob hf
          refine r_callVi (As := [.int x25]) ⟨hx, hb, hml, hown, hts⟩ (c_X10_placeOf l D S17 a0 x25 r27 e28) (cwV 1 hts (gwV gw_36_4 gw_36_5 gw_36_6 gw_31_10 gw_36_2) rfl rfl rfl (by decide +kernel) ⟨Nat.le_of_ble_eq_true rfl, Nat.le_of_ble_eq_true rfl⟩) hH hNE 13 ek19 (by decide) rfl rfl rfl hl.1 rfl (Nat.le_of_ble_eq_true rfl) dX10_of_80 ⟨(Nat.le_of_ble_eq_true rfl), (Nat.le_of_ble_eq_true rfl)⟩ (fun H locs hH => ?_)
          refine lv_istore (lv' := [(5, .int r27), (4, .int x25), (0, .ref a0), (2, .int p2), (3, .int p3)]) hx hb dX10_of_83 hl (by decide) rfl (fun ls hl => ?_)
          refine lv_iload_n hx hb dX10_of_85 rfl (lv_at hl 4 rfl) ?_
          refine lv_bipush (v := 102) hx hb dX10_of_86 (by decide) ?_
          refine lv_icmp_ne (tgt := 96) hx hb dX10_of_88 (by decide) (fun c29 => ?_) (fun c29 => ?_)
          · have hf := iq hf c29
            refine lv_iload_n hx hb dX10_of_96 rfl (lv_at hl 4 rfl) ?_
            refine lv_bipush (v := 108) hx hb dX10_of_97 (by decide) ?_
            refine lv_icmp_ne (tgt := 115) hx hb dX10_of_99 (by decide) (fun c30 => ?_) (fun c30 => ?_)
            · have hf := iq hf c30
              refine lv_iload_n hx hb dX10_of_115 rfl (lv_at hl 4 rfl) ?_
              refine lv_bipush (v := 114) hx hb dX10_of_116 (by decide) ?_
              refine lv_icmp_ne (tgt := 131) hx hb dX10_of_118 (by decide) (fun c31 => ?_) (fun c31 => ?_)
              · have hf := iq hf c31
                refine lv_iload_n hx hb dX10_of_131 rfl (lv_at hl 4 rfl) ?_
                refine lv_bipush (v := 107) hx hb dX10_of_132 (by decide) ?_
                refine lv_icmp_ne (tgt := 147) hx hb dX10_of_134 (by decide) (fun c32 => ?_) (fun c32 => ?_)
                · have hf := iq hf c32
                  refine lv_iload_n hx hb dX10_of_147 rfl (lv_at hl 4 rfl) ?_
                  refine lv_bipush (v := 119) hx hb dX10_of_148 (by decide) ?_
                  refine lv_icmp_ne (tgt := 163) hx hb dX10_of_150 (by decide) (fun c33 => ?_) (fun c33 => ?_)
                  · have hf := iq hf c33
                    refine lv_aload_n hx hb dX10_of_163 rfl (lv_at hl 2 rfl) ?_
                    refine lv_iload hx hb dX10_of_164 (lv_at hl 1 rfl) ?_
                    obtain ⟨r34, e35, hf⟩ := ob hf
                    refine r_callVi (As := [.int x25]) ⟨hx, hb, hml, hown, hts⟩ (c_X10_suggestionsOf l D S17 a0 x25 r34 e35) (cwV 1 hts (gwV gw_37_7 gw_37_8 gw_37_9 gw_31_10 gw_37_2) rfl rfl rfl (by decide +kernel) ⟨Nat.le_of_ble_eq_true rfl, Nat.le_of_ble_eq_true rfl⟩) hH hNE 13 ek19 (by decide) rfl rfl rfl hl.1 rfl (Nat.le_of_ble_eq_true rfl) dX10_of_166 ⟨(Nat.le_of_ble_eq_true rfl), (Nat.le_of_ble_eq_true rfl)⟩ (fun H locs hH => ?_)
                    have hr9 := Option.some.inj hf
                    subst hr9
                    exact e_i hx hb hr hlocks hH dX10_of_169
                  · have hf := ip hf c33
                    refine lv_aload_n hx hb dX10_of_153 rfl (lv_at hl 2 rfl) ?_
                    obtain ⟨a36, e37, hf⟩ := ob hf
                    refine r_getQ hx hb 13 hts (fun w h => List.mem_cons_of_mem _ (mwsX100 w h)) hown hH ek19 (by decide) rfl 2 (by decide) rfl (hts (.fieldLink RX10 13 "HousestyleModel" "writers" "[I") (List.mem_cons_of_mem _ gw_29_13)) (fun _ h9 => h9) dX10_of_154 e37 ?_
                    refine lv_iload hx hb dX10_of_157 (lv_at hl 0 rfl) ?_
                    obtain ⟨ek38, hf⟩ := oc hf
                    obtain ⟨ei39, hf⟩ := oc hf
                    refine r_iald hx hb hH ek38 ei39 dX10_of_159 ?_
                    refine lv_goto (tgt := 169) hx hb dX10_of_160 (by decide) ?_
                    have hr9 := Option.some.inj hf
                    subst hr9
                    exact e_i hx hb hr hlocks hH dX10_of_169
                · have hf := ip hf c32
                  refine lv_aload_n hx hb dX10_of_137 rfl (lv_at hl 2 rfl) ?_
                  obtain ⟨a40, e41, hf⟩ := ob hf
                  refine r_getQ hx hb 13 hts (fun w h => List.mem_cons_of_mem _ (mwsX100 w h)) hown hH ek19 (by decide) rfl 41 (by decide) rfl (hts (.fieldLink RX10 114 "HousestyleModel" "foundRank" "[I") (List.mem_cons_of_mem _ gw_30_23)) (fun _ h9 => h9) dX10_of_138 e41 ?_
                  refine lv_iload hx hb dX10_of_141 (lv_at hl 1 rfl) ?_
                  obtain ⟨ek42, hf⟩ := oc hf
                  obtain ⟨ei43, hf⟩ := oc hf
                  refine r_iald hx hb hH ek42 ei43 dX10_of_143 ?_
                  refine lv_goto (tgt := 169) hx hb dX10_of_144 (by decide) ?_
                  have hr9 := Option.some.inj hf
                  subst hr9
                  exact e_i hx hb hr hlocks hH dX10_of_169
              · have hf := ip hf c31
                refine lv_aload_n hx hb dX10_of_121 rfl (lv_at hl 2 rfl) ?_
                obtain ⟨a44, e45, hf⟩ := ob hf
                refine r_getQ hx hb 13 hts (fun w h => List.mem_cons_of_mem _ (mwsX100 w h)) hown hH ek19 (by decide) rfl 40 (by decide) rfl (hts (.fieldLink RX10 111 "HousestyleModel" "foundRule" "[I") (List.mem_cons_of_mem _ gw_30_22)) (fun _ h9 => h9) dX10_of_122 e45 ?_
                refine lv_iload hx hb dX10_of_125 (lv_at hl 1 rfl) ?_
                obtain ⟨ek46, hf⟩ := oc hf
                obtain ⟨ei47, hf⟩ := oc hf
                refine r_iald hx hb hH ek46 ei47 dX10_of_127 ?_
                refine lv_goto (tgt := 169) hx hb dX10_of_128 (by decide) ?_
                have hr9 := Option.some.inj hf
                subst hr9
                exact e_i hx hb hr hlocks hH dX10_of_169
            · have hf := ip hf c30
              refine lv_aload_n hx hb dX10_of_102 rfl (lv_at hl 2 rfl) ?_
              obtain ⟨a48, e49, hf⟩ := ob hf
              refine r_getQ hx hb 13 hts (fun w h => List.mem_cons_of_mem _ (mwsX100 w h)) hown hH ek19 (by decide) rfl 39 (by decide) rfl (hts (.fieldLink RX10 108 "HousestyleModel" "foundTo" "[I") (List.mem_cons_of_mem _ gw_30_21)) (fun _ h9 => h9) dX10_of_103 e49 ?_
              refine lv_iload hx hb dX10_of_106 (lv_at hl 1 rfl) ?_
              obtain ⟨ek50, hf⟩ := oc hf
              obtain ⟨ei51, hf⟩ := oc hf
              refine r_iald hx hb hH ek50 ei51 dX10_of_108 ?_
              refine lv_iload hx hb dX10_of_109 (lv_at hl 0 rfl) ?_
              refine lv_isub hx hb dX10_of_111 ?_
              refine lv_goto (tgt := 169) hx hb dX10_of_112 (by decide) ?_
              have hr9 := Option.some.inj hf
              subst hr9
              exact e_i hx hb hr hlocks hH dX10_of_169
          · have hf := ip hf c29
            refine lv_iload hx hb dX10_of_91 (lv_at hl 0 rfl) ?_
            refine lv_goto (tgt := 169) hx hb dX10_of_93 (by decide) ?_
            have hr9 := Option.some.inj hf
            subst hr9
            exact e_i hx hb hr hlocks hH dX10_of_169
        · have hf := iq hf c20
          refine lv_iconst (v := 0) hx hb dX10_of_67 (by decide) ?_
          have hr9 := Option.some.inj hf
          subst hr9
          exact e_i hx hb hr hlocks hH dX10_of_68
      refine lv_if_eq (tgt := 56) hx hb dX10_of_49 (by decide) (fun c53 => ?_) (fun c53 => ?_)
      · have hf := ip hf c53
        refine lv_iconst (v := 2) hx hb dX10_of_56 (by decide) ?_
        exact Jj16 2 _ _ ls hH (lv_sub hl [0, 2, 3] rfl) hf
      · have hf := iq hf c53
        refine lv_iconst (v := 0) hx hb dX10_of_52 (by decide) ?_
        refine lv_goto (tgt := 57) hx hb dX10_of_53 (by decide) ?_
        exact Jj16 0 _ _ ls hH (lv_sub hl [0, 2, 3] rfl) hf
    · have hf := iq hf c9
      refine lv_iconst (v := 0) hx hb dX10_of_30 (by decide) ?_
      have hr9 := Option.some.inj hf
      subst hr9
      exact e_i hx hb hr hlocks hH dX10_of_31
  obtain ⟨j55, e57, hf⟩ := ol hf
  have Jj55 : ∀ (u56 : Unit) (H : Heap) (locs : List Loc) (ls : Array Slot), HI D S S s H locs → lv_has ls 6 [(0, .ref a0), (1, .int p1), (2, .int p2), (3, .int p3)] → j55 u56 = some r → GI p l e (headSpec wsX10_of rmX10_of).room s m ([.ref a0, .int p1, .int p2, .int p3] : List Value).toArray below meth c D S r.1 r.2 H locs 0 0 0 0 (F0 m 19 ls [.ref a0]) := by
    intro u56 H locs ls hH hl hf
    rw [← e57] at hf
    refine lv_iconst (v := 1) hx hb dX10_of_19 (by decide) ?_
    exact Jj4 1 _ _ ls hH (lv_sub hl [0, 1, 2, 3] rfl) hf
  refine lv_if_eq (tgt := 19) hx hb dX10_of_5 (by decide) (fun c58 => ?_) (fun c58 => ?_)
  · have hf := ip hf c58
    exact Jj55 () _ _ ls hH (lv_sub hl [0, 1, 2, 3] rfl) hf
  · have hf := iq hf c58
    refine lv_iload_n hx hb dX10_of_8 rfl (lv_at hl 3 rfl) ?_
    obtain ⟨r59, e60, hf⟩ := ob hf
    refine r_callSi (As := [.int p3]) ⟨hx, hb, hml, hown, hts⟩ (c_X10_isThing l D S p3 r59 e60) (va_cwS 1 hts (gwS gw_37_5 gw_37_6 gw_31_10 gw_37_3) rfl rfl rfl (by decide +kernel) ⟨Nat.le_of_ble_eq_true rfl, Nat.le_of_ble_eq_true rfl⟩) hH hNE rfl hl.1 rfl (Nat.le_of_ble_eq_true rfl) dX10_of_9 ⟨(Nat.le_of_ble_eq_true rfl), (Nat.le_of_ble_eq_true rfl)⟩ (fun H locs hH => ?_)
    refine lv_if_eq (tgt := 19) hx hb dX10_of_12 (by decide) (fun c61 => ?_) (fun c61 => ?_)
    · have hf := ip hf c61
      exact Jj55 () _ _ ls hH (lv_sub hl [0, 1, 2, 3] rfl) hf
    · have hf := iq hf c61
      refine lv_iconst (v := 0) hx hb dX10_of_15 (by decide) ?_
      refine lv_goto (tgt := 20) hx hb dX10_of_16 (by decide) ?_
      exact Jj4 0 _ _ ls hH (lv_sub hl [0, 1, 2, 3] rfl) hf
set_option maxRecDepth 100000 in
def f_X10_outs (S : PS) (a0 : Nat) (p1 : Int32) : Option (PS) := if kK S a0 = 14 then ((kQ S a0 44).bind fun a2 => if kK S a2 = 102 then (if ¬ ((kI S a0 45) < 0 ∨ kN S a2 ≤ (kI S a0 45).toNatClampNeg) then (lt (wI S a2 (kI S a0 45).toNatClampNeg (vp_nar .char p1)) fun S6 => if kK S6 a0 = 14 then (lt (wI S6 a0 45 ((kI S6 a0 45) + 1)) fun S9 => some S9) else none) else none) else none) else none
abbrev rmX10_outs : Room := { frames := 0, cells := 0, slots := 0, locals := 0 }
set_option maxHeartbeats 4000000 in
set_option maxRecDepth 100000 in
theorem c_X10_outs (l : Launch) (D : va_G × Nat) (S : PS) (a0 : Nat) (p1 : Int32) (r : PS) (hf : f_X10_outs S a0 p1 = some r) : MV l D yX10_outs wsX10_outs rmX10_outs S [.ref a0, .int p1] r 0 0 := by
  unfold f_X10_outs at hf
  refine Met.ofW (cc := cX10_outs) (maxL := 2) (ret := none) (by decide) rfl ?_
  intro p e s m args below meth c s₁ B hml hv
  obtain ⟨rfl, hH0, hNE⟩ := hv
  have hx := B.exec
  have hb := B.bytes
  have hr := B.returns
  have hts := atoms_spec (ws := wsX10_outs) B.pre
  have hown : s.vm.findClass RX10 = some m.cls := findClass_of_methodNamed B.named
  have hlocks := B.notSynchronized
  have hH : HI D S S s s.heap [] := HI.start hH0
  have hl := lv_entry ([.ref a0, .int p1]) (n := 2) (Nat.le_of_ble_eq_true rfl)
  rw [lg_entry_eq]
  generalize (lg_sl ([.ref a0, .int p1]) ++ List.replicate (2 - (lg_sl ([.ref a0, .int p1])).length) Slot.unset).toArray = ls at hl ⊢
  have hl : lv_has ls 2 [(0, .ref a0), (1, .int p1)] := hl
  refine lv_aload_n hx hb dX10_outs_0 rfl (lv_at hl 0 rfl) ?_
  obtain ⟨ek1, hf⟩ := oc hf
  obtain ⟨a2, e3, hf⟩ := ob hf
  refine r_getQ hx hb 13 hts (fun w h => List.mem_cons_of_mem _ (mwsX100 w h)) hown hH ek1 (by decide) rfl 44 (by decide) rfl (hts (.fieldLink RX10 120 "HousestyleModel" "out" "[C") (List.mem_cons_of_mem _ gw_31_1)) (fun _ h9 => h9) dX10_outs_1 e3 ?_
  refine lv_aload_n hx hb dX10_outs_4 rfl (lv_at hl 0 rfl) ?_
  refine r_getI hx hb 13 hts (fun w h => List.mem_cons_of_mem _ (mwsX100 w h)) hown hH ek1 (by decide) rfl 45 (by decide) rfl (hts (.fieldLink RX10 260 "HousestyleModel" "outSize" "I") (List.mem_cons_of_mem _ gw_37_11)) (fun _ h9 => h9) dX10_outs_5 ?_
  refine lv_iload_n hx hb dX10_outs_8 rfl (lv_at hl 1 rfl) ?_
  obtain ⟨ek4, hf⟩ := oc hf
  obtain ⟨ei5, hf⟩ := oc hf
  refine r_cast hx hb hH ek4 ei5 dX10_outs_9 (fun H locs hH => ?_)
  obtain ⟨S6, e7, hf⟩ := ol hf
  rw [e7] at hH
  refine lv_aload_n hx hb dX10_outs_10 rfl (lv_at hl 0 rfl) ?_
  refine lv_dup hx hb dX10_outs_11 rfl ?_
  obtain ⟨ek8, hf⟩ := oc hf
  refine r_getI hx hb 13 hts (fun w h => List.mem_cons_of_mem _ (mwsX100 w h)) hown hH ek8 (by decide) rfl 45 (by decide) rfl (hts (.fieldLink RX10 260 "HousestyleModel" "outSize" "I") (List.mem_cons_of_mem _ gw_37_11)) (fun _ h9 => h9) dX10_outs_12 ?_
  refine lv_iconst (v := 1) hx hb dX10_outs_15 (by decide) ?_
  refine lv_iadd hx hb dX10_outs_16 ?_
  refine r_putI hx hb 13 hts (fun w h => List.mem_cons_of_mem _ (mwsX100 w h)) tyX10 tyX10_ok nmX10 hown hH ek8 (by decide) rfl 45 (by decide) rfl (hts (.fieldLink RX10 260 "HousestyleModel" "outSize" "I") (List.mem_cons_of_mem _ gw_37_11)) (fun _ h9 => h9) (Or.inl rfl) (ty := .int) (by decide +kernel) rfl rfl dX10_outs_17 (fun H locs hH => ?_)
  obtain ⟨S9, e10, hf⟩ := ol hf
  rw [e10] at hH
  have hr9 := Option.some.inj hf
  subst hr9
  exact e_v hx hb hr hlocks hH dX10_outs_20
set_option maxRecDepth 100000 in
def f_X10_star_b87 (a0 : Nat) (x39 : Int32) (x51 : Int32) (S52 : PS) : Option ((Int32 × PS) ⊕ ((PS))) := if kK S52 a0 = 14 then ((kQ S52 a0 33).bind fun a58 => if kK S52 a58 = 101 then (if ¬ (x39 < 0 ∨ kN S52 a58 ≤ x39.toNatClampNeg) then (if (kI S52 a58 x39.toNatClampNeg) ≤ x51 then (some (.inr S52)) else ((kQ S52 a0 1).bind fun a63 => if kK S52 a63 = 102 then (if ¬ (x51 < 0 ∨ kN S52 a63 ≤ x51.toNatClampNeg) then ((f_X10_outs S52 a0 (kI S52 a63 x51.toNatClampNeg)).bind fun r67 => lt (x51 + 1) fun x69 => some (.inl (x69, r67))) else none) else none)) else none) else none) else none
set_option maxRecDepth 100000 in
def f_X10_star_b12 (a0 : Nat) (p1 : Int32) (x6 : Int32) (x8 : Int32) (x9 : Int32) (S10 : PS) : Option ((Int32 × Int32 × PS) ⊕ ((PS))) := if kK S10 a0 = 14 then ((kQ S10 a0 7).bind fun a16 => if kK S10 a16 = 101 then (if ¬ (x6 < 0 ∨ kN S10 a16 ≤ x6.toNatClampNeg) then (if (kI S10 a16 x6.toNatClampNeg) ≤ x9 then (some (.inr S10)) else (lt ((x6 * 3) + x9) fun x21 => lt (fun (x23 : Int32) (S24 : PS) => lt (x9 + 1) fun x26 => some (.inl (x23, x26, S24))) fun j25 => if x8 = 0 then ((kQ S10 a0 10).bind fun a30 => if kK S10 a30 = 101 then (if ¬ (x21 < 0 ∨ kN S10 a30 ≤ x21.toNatClampNeg) then (lt (fun (u71 : Unit) => (kQ S10 a0 38).bind fun a35 => if kK S10 a35 = 101 then (if ¬ (p1 < 0 ∨ kN S10 a35 ≤ p1.toNatClampNeg) then (lt ((kI S10 a35 p1.toNatClampNeg) + x9) fun x39 => (kQ S10 a0 32).bind fun a41 => if kK S10 a41 = 101 then (if ¬ (x39 < 0 ∨ kN S10 a41 ≤ x39.toNatClampNeg) then ((kQ S10 a0 9).bind fun a45 => if kK S10 a45 = 101 then (if ¬ (x21 < 0 ∨ kN S10 a45 ≤ x21.toNatClampNeg) then (lt ((kI S10 a41 x39.toNatClampNeg) + (kI S10 a45 x21.toNatClampNeg)) fun x49 => lt (fun (S53 : PS) => j25 1 S53) fun k54 => (iter (fun (v : Int32 × PS) => f_X10_star_b87 a0 x39 v.1 v.2) kF (x49, S10)).bind (fun (v : PS) => k54 v)) else none) else none) else none) else none) else none) else none) fun j34 => if (kI S10 a30 x21.toNatClampNeg) = (1 : Int32) then (j34 ()) else (if ¬ (x21 < 0 ∨ kN S10 a30 ≤ x21.toNatClampNeg) then (if (kI S10 a30 x21.toNatClampNeg) = (2 : Int32) then (j34 ()) else (j25 x8 S10)) else none)) else none) else none) else (j25 x8 S10))) else none) else none) else none
set_option maxRecDepth 100000 in
def f_X10_star (S : PS) (a0 : Nat) (p1 : Int32) : Option (PS) := if kK S a0 = 14 then ((kQ S a0 40).bind fun a2 => if kK S a2 = 101 then (if ¬ (p1 < 0 ∨ kN S a2 ≤ p1.toNatClampNeg) then (lt (kI S a2 p1.toNatClampNeg) fun x6 => lt (fun (S11 : PS) => some S11) fun k12 => (iter (fun (v : Int32 × Int32 × PS) => f_X10_star_b12 a0 p1 x6 v.1 v.2.1 v.2.2) kF (0, 0, S)).bind (fun (v : PS) => k12 v)) else none) else none) else none
abbrev rmX10_star : Room := { frames := 1, cells := 0, slots := 0, locals := 21 }
set_option maxHeartbeats 4000000 in
set_option maxRecDepth 100000 in
theorem c_X10_star (l : Launch) (D : va_G × Nat) (S : PS) (a0 : Nat) (p1 : Int32) (r : PS) (hf : f_X10_star S a0 p1 = some r) : MV l D yX10_star wsX10_star rmX10_star S [.ref a0, .int p1] r 0 0 := by
  unfold f_X10_star at hf
  refine Met.ofW (cc := cX10_star) (maxL := 8) (ret := none) (by decide) rfl ?_
  intro p e s m args below meth c s₁ B hml hv
  obtain ⟨rfl, hH0, hNE⟩ := hv
  have hx := B.exec
  have hb := B.bytes
  have hr := B.returns
  have hts := atoms_spec (ws := wsX10_star) B.pre
  have hown : s.vm.findClass RX10 = some m.cls := findClass_of_methodNamed B.named
  have hlocks := B.notSynchronized
  have hH : HI D S S s s.heap [] := HI.start hH0
  have hl := lv_entry ([.ref a0, .int p1]) (n := 8) (Nat.le_of_ble_eq_true rfl)
  rw [lg_entry_eq]
  generalize (lg_sl ([.ref a0, .int p1]) ++ List.replicate (8 - (lg_sl ([.ref a0, .int p1])).length) Slot.unset).toArray = ls at hl ⊢
  have hl : lv_has ls 8 [(0, .ref a0), (1, .int p1)] := hl
  refine lv_aload_n hx hb dX10_star_0 rfl (lv_at hl 0 rfl) ?_
  obtain ⟨ek1, hf⟩ := oc hf
  obtain ⟨a2, e3, hf⟩ := ob hf
  refine r_getQ hx hb 13 hts (fun w h => List.mem_cons_of_mem _ (mwsX100 w h)) hown hH ek1 (by decide) rfl 40 (by decide) rfl (hts (.fieldLink RX10 111 "HousestyleModel" "foundRule" "[I") (List.mem_cons_of_mem _ gw_30_22)) (fun _ h9 => h9) dX10_star_1 e3 ?_
  refine lv_iload_n hx hb dX10_star_4 rfl (lv_at hl 1 rfl) ?_
  obtain ⟨ek4, hf⟩ := oc hf
  obtain ⟨ei5, hf⟩ := oc hf
  refine r_iald hx hb hH ek4 ei5 dX10_star_5 ?_
  obtain ⟨x6, e7, hf⟩ := ol hf
  refine lv_topE e7 ?_
  refine lv_istore_n (lv' := [(2, .int x6), (0, .ref a0), (1, .int p1)]) hx hb dX10_star_6 rfl hl (by decide) rfl (fun ls hl => ?_)
  refine lv_iconst (v := 0) hx hb dX10_star_7 (by decide) ?_
  refine lv_istore_n (lv' := [(3, .int 0), (2, .int x6), (0, .ref a0), (1, .int p1)]) hx hb dX10_star_8 rfl hl (by decide) rfl (fun ls hl => ?_)
  refine lv_iconst (v := 0) hx hb dX10_star_9 (by decide) ?_
  refine lv_istore (lv' := [(4, .int 0), (3, .int 0), (2, .int x6), (0, .ref a0), (1, .int p1)]) hx hb dX10_star_10 hl (by decide) rfl (fun ls hl => ?_)
  obtain ⟨k12, e13, hf⟩ := ol hf
  have Xk12 : ∀ (S11 : PS) (H : Heap) (locs : List Loc) (ls : Array Slot), HI D S S11 s H locs → lv_has ls 8 [] → k12 S11 = some r → GV p l e (headSpec wsX10_star rmX10_star).room s m ([.ref a0, .int p1] : List Value).toArray below meth c D S r H locs 0 0 0 0 (F0 m 122 ls []) := by
    intro S11 H locs ls hH hl hf
    rw [← e13] at hf
    have hr9 := Option.some.inj hf
    subst hr9
    exact e_v hx hb hr hlocks hH dX10_star_122
  obtain ⟨o14, eo14, hq14f⟩ := ob hf
  have Lo14 : ∀ (n : Nat) (x8 : Int32) (x9 : Int32) (S10 : PS), iter (fun (v : Int32 × Int32 × PS) => f_X10_star_b12 a0 p1 x6 v.1 v.2.1 v.2.2) n (x8, x9, S10) = some o14 → ∀ (H : Heap) (locs : List Loc) (ls : Array Slot), HI D S S10 s H locs → lv_has ls 8 [(0, .ref a0), (1, .int p1), (2, .int x6), (3, .int x8), (4, .int x9)] → GV p l e (headSpec wsX10_star rmX10_star).room s m ([.ref a0, .int p1] : List Value).toArray below meth c D S r H locs 0 0 0 0 (F0 m 12 ls []) := by
    intro n
    induction n with
    | zero => intro x8 x9 S10 hi; cases hi
    | succ n ih14 =>
      intro x8 x9 S10 hi H locs ls hH hl
      obtain ⟨q14_, hf, hq14⟩ := iter_s hi
      have hf : f_X10_star_b12 a0 p1 x6 x8 x9 S10 = some q14_ := hf
      unfold f_X10_star_b12 at hf
      refine lv_iload hx hb dX10_star_12 (lv_at hl 4 rfl) ?_
      refine lv_aload_n hx hb dX10_star_14 rfl (lv_at hl 0 rfl) ?_
      obtain ⟨ek15, hf⟩ := oc hf
      obtain ⟨a16, e17, hf⟩ := ob hf
      refine r_getQ hx hb 13 hts (fun w h => List.mem_cons_of_mem _ (mwsX100 w h)) hown hH ek15 (by decide) rfl 7 (by decide) rfl (hts (.fieldLink RX10 20 "HousestyleModel" "items" "[I") (List.mem_cons_of_mem _ gw_29_15)) (fun _ h9 => h9) dX10_star_15 e17 ?_
      refine lv_iload_n hx hb dX10_star_18 rfl (lv_at hl 2 rfl) ?_
      obtain ⟨ek18, hf⟩ := oc hf
      obtain ⟨ei19, hf⟩ := oc hf
      refine r_iald hx hb hH ek18 ei19 dX10_star_19 ?_
      refine lv_icmp_ge (tgt := 122) hx hb dX10_star_20 (by decide) (fun c20 => ?_) (fun c20 => ?_)
      · have hf := ip hf c20
        cases hf
        have hf9 := itR (K := (fun (v : PS) => k12 v)) hq14 hq14f
        exact Xk12 S10 _ _ ls hH (lv_sub hl [] rfl) hf9
      · have hf := iq hf c20
        refine lv_iload_n hx hb dX10_star_23 rfl (lv_at hl 2 rfl) ?_
        refine lv_iconst (v := 3) hx hb dX10_star_24 (by decide) ?_
        refine lv_imul hx hb dX10_star_25 ?_
        refine lv_iload hx hb dX10_star_26 (lv_at hl 4 rfl) ?_
        refine lv_iadd hx hb dX10_star_28 ?_
        obtain ⟨x21, e22, hf⟩ := ol hf
        refine lv_topE e22 ?_
        refine lv_istore (lv' := [(5, .int x21), (0, .ref a0), (1, .int p1), (2, .int x6), (3, .int x8), (4, .int x9)]) hx hb dX10_star_29 hl (by decide) rfl (fun ls hl => ?_)
        refine lv_iload_n hx hb dX10_star_31 rfl (lv_at hl 4 rfl) ?_
        obtain ⟨j25, e28, hf⟩ := ol hf
        have Jj25 : ∀ (x23 : Int32) (S24 : PS) (H : Heap) (locs : List Loc) (ls : Array Slot), HI D S S24 s H locs → lv_has ls 8 [(0, .ref a0), (1, .int p1), (2, .int x6), (3, .int x23), (4, .int x9)] → j25 x23 S24 = some q14_ → GV p l e (headSpec wsX10_star rmX10_star).room s m ([.ref a0, .int p1] : List Value).toArray below meth c D S r H locs 0 0 0 0 (F0 m 116 ls []) := by
          intro x23 S24 H locs ls hH hl hf
          rw [← e28] at hf
          obtain ⟨x26, e27, hf⟩ := ol hf
          refine lv_iinc (v := x26) (lv' := [(4, .int x26), (0, .ref a0), (1, .int p1), (2, .int x6), (3, .int x23)]) hx hb dX10_star_116 hl (k := 4) rfl (by rw [← e27]; rfl) (by decide) rfl (fun ls hl => ?_)
          refine lv_goto (tgt := 12) hx hb dX10_star_119 (by decide) ?_
          cases hf
          exact ih14 x23 x26 S24 hq14 _ _ ls hH (lv_sub hl [1, 2, 3, 4, 0] rfl)
        refine lv_if_ne (tgt := 116) hx hb dX10_star_32 (by decide) (fun c29 => ?_) (fun c29 => ?_)
        · have hf := iq hf c29
          exact Jj25 x8 S10 _ _ ls hH (lv_sub hl [1, 2, 3, 4, 5] rfl) hf
        · have hf := ip hf c29
          refine lv_aload_n hx hb dX10_star_35 rfl (lv_at hl 1 rfl) ?_
          obtain ⟨a30, e31, hf⟩ := ob hf
          refine r_getQ hx hb 13 hts (fun w h => List.mem_cons_of_mem _ (mwsX100 w h)) hown hH ek15 (by decide) rfl 10 (by decide) rfl (hts (.fieldLink RX10 29 "HousestyleModel" "sorts" "[I") (List.mem_cons_of_mem _ gw_29_18)) (fun _ h9 => h9) dX10_star_36 e31 ?_
          refine lv_iload hx hb dX10_star_39 (lv_at hl 0 rfl) ?_
          obtain ⟨ek32, hf⟩ := oc hf
          obtain ⟨ei33, hf⟩ := oc hf
          refine r_iald hx hb hH ek32 ei33 dX10_star_41 ?_
          refine lv_iconst (v := 1) hx hb dX10_star_42 (by decide) ?_
          obtain ⟨j34, e72, hf⟩ := ol hf
          have Jj34 : ∀ (u71 : Unit) (H : Heap) (locs : List Loc) (ls : Array Slot), HI D S S10 s H locs → lv_has ls 8 [(0, .ref a0), (1, .int p1), (2, .int x6), (4, .int x9), (5, .int x21)] → j34 u71 = some q14_ → GV p l e (headSpec wsX10_star rmX10_star).room s m ([.ref a0, .int p1] : List Value).toArray below meth c D S r H locs 0 0 0 0 (F0 m 57 ls []) := by
            intro u71 H locs ls hH hl hf
            rw [← e72] at hf
            refine lv_iconst (v := 1) hx hb dX10_star_57 (by decide) ?_
            refine lv_istore_n (lv' := [(3, .int 1), (0, .ref a0), (1, .int p1), (2, .int x6), (4, .int x9), (5, .int x21)]) hx hb dX10_star_58 rfl hl (by decide) rfl (fun ls hl => ?_)
            refine lv_aload_n hx hb dX10_star_59 rfl (lv_at hl 1 rfl) ?_
            obtain ⟨a35, e36, hf⟩ := ob hf
            refine r_getQ hx hb 13 hts (fun w h => List.mem_cons_of_mem _ (mwsX100 w h)) hown hH ek15 (by decide) rfl 38 (by decide) rfl (hts (.fieldLink RX10 105 "HousestyleModel" "foundToken" "[I") (List.mem_cons_of_mem _ gw_30_20)) (fun _ h9 => h9) dX10_star_60 e36 ?_
            refine lv_iload_n hx hb dX10_star_63 rfl (lv_at hl 2 rfl) ?_
            obtain ⟨ek37, hf⟩ := oc hf
            obtain ⟨ei38, hf⟩ := oc hf
            refine r_iald hx hb hH ek37 ei38 dX10_star_64 ?_
            refine lv_iload hx hb dX10_star_65 (lv_at hl 4 rfl) ?_
            refine lv_iadd hx hb dX10_star_67 ?_
            obtain ⟨x39, e40, hf⟩ := ol hf
            refine lv_topE e40 ?_
            refine lv_istore (lv' := [(6, .int x39), (3, .int 1), (0, .ref a0), (1, .int p1), (2, .int x6), (4, .int x9), (5, .int x21)]) hx hb dX10_star_68 hl (by decide) rfl (fun ls hl => ?_)
            refine lv_aload_n hx hb dX10_star_70 rfl (lv_at hl 2 rfl) ?_
            obtain ⟨a41, e42, hf⟩ := ob hf
            refine r_getQ hx hb 13 hts (fun w h => List.mem_cons_of_mem _ (mwsX100 w h)) hown hH ek15 (by decide) rfl 32 (by decide) rfl (hts (.fieldLink RX10 90 "HousestyleModel" "from" "[I") (List.mem_cons_of_mem _ gw_30_15)) (fun _ h9 => h9) dX10_star_71 e42 ?_
            refine lv_iload hx hb dX10_star_74 (lv_at hl 0 rfl) ?_
            obtain ⟨ek43, hf⟩ := oc hf
            obtain ⟨ei44, hf⟩ := oc hf
            refine r_iald hx hb hH ek43 ei44 dX10_star_76 ?_
            refine lv_aload_n hx hb dX10_star_77 rfl (lv_at hl 2 rfl) ?_
            obtain ⟨a45, e46, hf⟩ := ob hf
            refine r_getQ hx hb 13 hts (fun w h => List.mem_cons_of_mem _ (mwsX100 w h)) hown hH ek15 (by decide) rfl 9 (by decide) rfl (hts (.fieldLink RX10 26 "HousestyleModel" "sizes" "[I") (List.mem_cons_of_mem _ gw_29_17)) (fun _ h9 => h9) dX10_star_78 e46 ?_
            refine lv_iload hx hb dX10_star_81 (lv_at hl 6 rfl) ?_
            obtain ⟨ek47, hf⟩ := oc hf
            obtain ⟨ei48, hf⟩ := oc hf
            refine r_iald hx hb hH ek47 ei48 dX10_star_83 ?_
            refine lv_iadd hx hb dX10_star_84 ?_
            obtain ⟨x49, e50, hf⟩ := ol hf
            refine lv_topE e50 ?_
            refine lv_istore (lv' := [(7, .int x49), (6, .int x39), (3, .int 1), (0, .ref a0), (1, .int p1), (2, .int x6), (4, .int x9), (5, .int x21)]) hx hb dX10_star_85 hl (by decide) rfl (fun ls hl => ?_)
            obtain ⟨k54, e55, hf⟩ := ol hf
            have Xk54 : ∀ (S53 : PS) (H : Heap) (locs : List Loc) (ls : Array Slot), HI D S S53 s H locs → lv_has ls 8 [(0, .ref a0), (1, .int p1), (2, .int x6), (3, .int 1), (4, .int x9)] → k54 S53 = some q14_ → GV p l e (headSpec wsX10_star rmX10_star).room s m ([.ref a0, .int p1] : List Value).toArray below meth c D S r H locs 0 0 0 0 (F0 m 116 ls []) := by
              intro S53 H locs ls hH hl hf
              rw [← e55] at hf
              exact Jj25 1 S53 _ _ ls hH (lv_sub hl [0, 1, 2, 3, 4] rfl) hf
            obtain ⟨o56, eo56, hq56f⟩ := ob hf
            have Lo56 : ∀ (n : Nat) (x51 : Int32) (S52 : PS), iter (fun (v : Int32 × PS) => f_X10_star_b87 a0 x39 v.1 v.2) n (x51, S52) = some o56 → ∀ (H : Heap) (locs : List Loc) (ls : Array Slot), HI D S S52 s H locs → lv_has ls 8 [(0, .ref a0), (1, .int p1), (2, .int x6), (3, .int 1), (4, .int x9), (6, .int x39), (7, .int x51)] → GV p l e (headSpec wsX10_star rmX10_star).room s m ([.ref a0, .int p1] : List Value).toArray below meth c D S r H locs 0 0 0 0 (F0 m 87 ls []) := by
              intro n
              induction n with
              | zero => intro x51 S52 hi; cases hi
              | succ n ih56 =>
                intro x51 S52 hi H locs ls hH hl
                obtain ⟨q56_, hf, hq56⟩ := iter_s hi
                have hf : f_X10_star_b87 a0 x39 x51 S52 = some q56_ := hf
                unfold f_X10_star_b87 at hf
                refine lv_iload hx hb dX10_star_87 (lv_at hl 6 rfl) ?_
                refine lv_aload_n hx hb dX10_star_89 rfl (lv_at hl 0 rfl) ?_
                obtain ⟨ek57, hf⟩ := oc hf
                obtain ⟨a58, e59, hf⟩ := ob hf
                refine r_getQ hx hb 13 hts (fun w h => List.mem_cons_of_mem _ (mwsX100 w h)) hown hH ek57 (by decide) rfl 33 (by decide) rfl (hts (.fieldLink RX10 93 "HousestyleModel" "to" "[I") (List.mem_cons_of_mem _ gw_30_16)) (fun _ h9 => h9) dX10_star_90 e59 ?_
                refine lv_iload hx hb dX10_star_93 (lv_at hl 5 rfl) ?_
                obtain ⟨ek60, hf⟩ := oc hf
                obtain ⟨ei61, hf⟩ := oc hf
                refine r_iald hx hb hH ek60 ei61 dX10_star_95 ?_
                refine lv_icmp_ge (tgt := 116) hx hb dX10_star_96 (by decide) (fun c62 => ?_) (fun c62 => ?_)
                · have hf := ip hf c62
                  cases hf
                  have hf9 := itR (K := (fun (v : PS) => k54 v)) hq56 hq56f
                  exact Xk54 S52 _ _ ls hH (lv_sub hl [0, 1, 2, 3, 4] rfl) hf9
                · have hf := iq hf c62
                  refine lv_aload_n hx hb dX10_star_99 rfl (lv_at hl 0 rfl) ?_
                  refine lv_aload_n hx hb dX10_star_100 rfl (lv_at hl 0 rfl) ?_
                  obtain ⟨a63, e64, hf⟩ := ob hf
                  refine r_getQ hx hb 13 hts (fun w h => List.mem_cons_of_mem _ (mwsX100 w h)) hown hH ek57 (by decide) rfl 1 (by decide) rfl (hts (.fieldLink RX10 7 "HousestyleModel" "text" "[C") (List.mem_cons_of_mem _ gw_29_12)) (fun _ h9 => h9) dX10_star_101 e64 ?_
                  refine lv_iload hx hb dX10_star_104 (lv_at hl 6 rfl) ?_
                  obtain ⟨ek65, hf⟩ := oc hf
                  obtain ⟨ei66, hf⟩ := oc hf
                  refine r_cald hx hb hH ek65 ei66 dX10_star_106 ?_
                  obtain ⟨r67, e68, hf⟩ := ob hf
                  refine r_callVv (As := [.int (kI S52 a63 x51.toNatClampNeg)]) ⟨hx, hb, hml, hown, hts⟩ (c_X10_outs l D S52 a0 (kI S52 a63 x51.toNatClampNeg) r67 e68) (cwV 1 hts (gwV gw_37_13 gw_37_14 gw_37_15 gw_31_10 gw_37_10) rfl rfl rfl (by decide +kernel) ⟨Nat.le_of_ble_eq_true rfl, Nat.le_of_ble_eq_true rfl⟩) hH hNE 13 ek57 (by decide) rfl rfl rfl hl.1 rfl (Nat.le_of_ble_eq_true rfl) dX10_star_107 ⟨(Nat.le_of_ble_eq_true rfl), (Nat.le_of_ble_eq_true rfl)⟩ (fun H locs hH => ?_)
                  obtain ⟨x69, e70, hf⟩ := ol hf
                  refine lv_iinc (v := x69) (lv' := [(7, .int x69), (0, .ref a0), (1, .int p1), (2, .int x6), (3, .int 1), (4, .int x9), (6, .int x39)]) hx hb dX10_star_110 hl (k := 6) rfl (by rw [← e70]; rfl) (by decide) rfl (fun ls hl => ?_)
                  refine lv_goto (tgt := 87) hx hb dX10_star_113 (by decide) ?_
                  cases hf
                  exact ih56 x69 r67 hq56 _ _ ls hH (lv_sub hl [1, 2, 3, 4, 5, 6, 0] rfl)
            exact Lo56 kF x49 S10 eo56 _ _ ls hH (lv_sub hl [3, 4, 5, 2, 6, 1, 0] rfl)
          refine lv_icmp_eq (tgt := 57) hx hb dX10_star_43 (by decide) (fun c73 => ?_) (fun c73 => ?_)
          · have hf := ip hf c73
            exact Jj34 () _ _ ls hH (lv_sub hl [1, 2, 3, 5, 0] rfl) hf
          · have hf := iq hf c73
            refine lv_aload_n hx hb dX10_star_46 rfl (lv_at hl 1 rfl) ?_
            refine r_getQ hx hb 13 hts (fun w h => List.mem_cons_of_mem _ (mwsX100 w h)) hown hH ek15 (by decide) rfl 10 (by decide) rfl (hts (.fieldLink RX10 29 "HousestyleModel" "sorts" "[I") (List.mem_cons_of_mem _ gw_29_18)) (fun _ h9 => h9) dX10_star_47 e31 ?_
            refine lv_iload hx hb dX10_star_50 (lv_at hl 0 rfl) ?_
            obtain ⟨ei74, hf⟩ := oc hf
            refine r_iald hx hb hH ek32 ei74 dX10_star_52 ?_
            refine lv_iconst (v := 2) hx hb dX10_star_53 (by decide) ?_
            refine lv_icmp_ne (tgt := 116) hx hb dX10_star_54 (by decide) (fun c75 => ?_) (fun c75 => ?_)
            · have hf := iq hf c75
              exact Jj25 x8 S10 _ _ ls hH (lv_sub hl [1, 2, 3, 4, 5] rfl) hf
            · have hf := ip hf c75
              exact Jj34 () _ _ ls hH (lv_sub hl [1, 2, 3, 5, 0] rfl) hf
  exact Lo14 kF 0 0 S eo14 _ _ ls hH (lv_sub hl [3, 4, 2, 1, 0] rfl)
set_option maxRecDepth 100000 in
def f_X10_isMade_b149 (a0 : Nat) (x21 : Int32) (x30 : Int32) (x32 : Int32) (S33 : PS) : Option ((Int32 × PS) ⊕ ((PS))) := if kK S33 a0 = 14 then ((kQ S33 a0 19).bind fun a39 => if kK S33 a39 = 101 then (if ¬ (x30 < 0 ∨ kN S33 a39 ≤ x30.toNatClampNeg) then (if (kI S33 a39 x30.toNatClampNeg) ≤ x32 then (some (.inr S33)) else ((kQ S33 a0 18).bind fun a44 => if kK S33 a44 = 102 then (if ¬ (((x30 * 20) + x32) < 0 ∨ kN S33 a44 ≤ ((x30 * 20) + x32).toNatClampNeg) then (lt (fun (S48 : PS) => lt (x32 + 1) fun x50 => some (.inl (x50, S48))) fun j49 => if (kI S33 a44 ((x30 * 20) + x32).toNatClampNeg) = (42 : Int32) then ((f_X10_star S33 a0 x21).bind fun r57 => j49 r57) else (if ¬ (((x30 * 20) + x32) < 0 ∨ kN S33 a44 ≤ ((x30 * 20) + x32).toNatClampNeg) then ((f_X10_outs S33 a0 (kI S33 a44 ((x30 * 20) + x32).toNatClampNeg)).bind fun r55 => j49 r55) else none)) else none) else none)) else none) else none) else none
set_option maxRecDepth 100000 in
def f_X10_isMade_b101 (a0 : Nat) (x65 : Int32) (x67 : Int32) (S68 : PS) : Option ((Int32 × PS) ⊕ ((PS))) := if kK S68 a0 = 14 then ((kQ S68 a0 22).bind fun a74 => if kK S68 a74 = 101 then (if ¬ (x65 < 0 ∨ kN S68 a74 ≤ x65.toNatClampNeg) then (if (kI S68 a74 x65.toNatClampNeg) ≤ x67 then (some (.inr S68)) else ((kQ S68 a0 21).bind fun a79 => if kK S68 a79 = 102 then (if ¬ (((x65 * 20) + x67) < 0 ∨ kN S68 a79 ≤ ((x65 * 20) + x67).toNatClampNeg) then ((f_X10_outs S68 a0 (kI S68 a79 ((x65 * 20) + x67).toNatClampNeg)).bind fun r83 => lt (x67 + 1) fun x85 => some (.inl (x85, r83))) else none) else none)) else none) else none) else none
set_option maxRecDepth 100000 in
def f_X10_isMade (S : PS) (a0 : Nat) (p1 : Int32) (p2 : Int32) (p3 : Int32) : Option (PS × Int32) := if kK S a0 = 14 then ((f_X10_look S a0 p1).bind fun r2 => if kK r2 a0 = 14 then (lt (wI r2 a0 45 0) fun S5 => if kK S5 a0 = 14 then ((f_X10_in S5 p2 0 ((kI S5 a0 42) - 1)).bind fun r8 => if r8 = 0 then (some (S5, 0)) else ((kQ S5 a0 43).bind fun a11 => if kK S5 a11 = 101 then (if ¬ (p2 < 0 ∨ kN S5 a11 ≤ p2.toNatClampNeg) then ((f_X10_suggestionsOf S5 a0 (kI S5 a11 p2.toNatClampNeg)).bind fun r15 => (f_X10_in S5 p3 0 (r15 - 1)).bind fun r17 => if r17 = 0 then (some (S5, 0)) else (if ¬ (p2 < 0 ∨ kN S5 a11 ≤ p2.toNatClampNeg) then (lt (kI S5 a11 p2.toNatClampNeg) fun x21 => (kQ S5 a0 40).bind fun a23 => if kK S5 a23 = 101 then (if ¬ (x21 < 0 ∨ kN S5 a23 ≤ x21.toNatClampNeg) then (lt (kI S5 a23 x21.toNatClampNeg) fun x27 => if x27 < (12 : Int32) then (lt ((x27 * 2) + p3) fun x30 => lt (fun (S34 : PS) => some (S34, 1)) fun k35 => (iter (fun (v : Int32 × PS) => f_X10_isMade_b149 a0 x21 x30 v.1 v.2) kF (0, S5)).bind (fun (v : PS) => k35 v)) else ((kQ S5 a0 38).bind fun a59 => if kK S5 a59 = 101 then (if ¬ (x21 < 0 ∨ kN S5 a59 ≤ x21.toNatClampNeg) then ((f_X10_wordOf S5 a0 (x27 - 12) (kI S5 a59 x21.toNatClampNeg)).bind fun r63 => lt (((2 * (x27 - 12)) + 1) - r63) fun x65 => lt (fun (S69 : PS) => some (S69, 1)) fun k70 => (iter (fun (v : Int32 × PS) => f_X10_isMade_b101 a0 x65 v.1 v.2) kF (0, S5)).bind (fun (v : PS) => k70 v)) else none) else none)) else none) else none) else none)) else none) else none)) else none) else none) else none
abbrev rmX10_isMade : Room := { frames := 4, cells := 0, slots := 0, locals := 100 }
set_option maxHeartbeats 4000000 in
set_option maxRecDepth 100000 in
theorem c_X10_isMade (l : Launch) (D : va_G × Nat) (S : PS) (a0 : Nat) (p1 : Int32) (p2 : Int32) (p3 : Int32) (r : PS × Int32) (hf : f_X10_isMade S a0 p1 p2 p3 = some r) : MI l D yX10_isMade wsX10_isMade rmX10_isMade S [.ref a0, .int p1, .int p2, .int p3] r.1 r.2 0 0 := by
  unfold f_X10_isMade at hf
  refine Met.ofW (cc := cX10_isMade) (maxL := 8) (ret := (some .boolean)) (by decide) rfl ?_
  intro p e s m args below meth c s₁ B hml hv
  obtain ⟨rfl, hH0, hNE⟩ := hv
  have hx := B.exec
  have hb := B.bytes
  have hr := B.returns
  have hts := atoms_spec (ws := wsX10_isMade) B.pre
  have hown : s.vm.findClass RX10 = some m.cls := findClass_of_methodNamed B.named
  have hlocks := B.notSynchronized
  have hH : HI D S S s s.heap [] := HI.start hH0
  have hl := lv_entry ([.ref a0, .int p1, .int p2, .int p3]) (n := 8) (Nat.le_of_ble_eq_true rfl)
  rw [lg_entry_eq]
  generalize (lg_sl ([.ref a0, .int p1, .int p2, .int p3]) ++ List.replicate (8 - (lg_sl ([.ref a0, .int p1, .int p2, .int p3])).length) Slot.unset).toArray = ls at hl ⊢
  have hl : lv_has ls 8 [(0, .ref a0), (1, .int p1), (2, .int p2), (3, .int p3)] := hl
  refine lv_aload_n hx hb dX10_isMade_0 rfl (lv_at hl 0 rfl) ?_
  refine lv_iload_n hx hb dX10_isMade_1 rfl (lv_at hl 1 rfl) ?_
  obtain ⟨ek1, hf⟩ := oc hf
  obtain ⟨r2, e3, hf⟩ := ob hf
  refine r_callVv (As := [.int p1]) ⟨hx, hb, hml, hown, hts⟩ (c_X10_look l D S a0 p1 r2 e3) (cwV 1 hts (gwV gw_36_23 gw_37_0 gw_37_1 gw_31_10 gw_36_9) rfl rfl rfl (by decide +kernel) ⟨Nat.le_of_ble_eq_true rfl, Nat.le_of_ble_eq_true rfl⟩) hH hNE 13 ek1 (by decide) rfl rfl rfl hl.1 rfl (Nat.le_of_ble_eq_true rfl) dX10_isMade_2 ⟨(Nat.le_of_ble_eq_true rfl), (Nat.le_of_ble_eq_true rfl)⟩ (fun H locs hH => ?_)
  refine lv_aload_n hx hb dX10_isMade_5 rfl (lv_at hl 0 rfl) ?_
  refine lv_iconst (v := 0) hx hb dX10_isMade_6 (by decide) ?_
  obtain ⟨ek4, hf⟩ := oc hf
  refine r_putI hx hb 13 hts (fun w h => List.mem_cons_of_mem _ (mwsX100 w h)) tyX10 tyX10_ok nmX10 hown hH ek4 (by decide) rfl 45 (by decide) rfl (hts (.fieldLink RX10 260 "HousestyleModel" "outSize" "I") (List.mem_cons_of_mem _ gw_37_11)) (fun _ h9 => h9) (Or.inl rfl) (ty := .int) (by decide +kernel) rfl rfl dX10_isMade_7 (fun H locs hH => ?_)
  obtain ⟨S5, e6, hf⟩ := ol hf
  rw [e6] at hH
  refine lv_iload_n hx hb dX10_isMade_10 rfl (lv_at hl 2 rfl) ?_
  refine lv_iconst (v := 0) hx hb dX10_isMade_11 (by decide) ?_
  refine lv_aload_n hx hb dX10_isMade_12 rfl (lv_at hl 0 rfl) ?_
  obtain ⟨ek7, hf⟩ := oc hf
  refine r_getI hx hb 13 hts (fun w h => List.mem_cons_of_mem _ (mwsX100 w h)) hown hH ek7 (by decide) rfl 42 (by decide) rfl (hts (.fieldLink RX10 236 "HousestyleModel" "taken" "I") (List.mem_cons_of_mem _ gw_36_8)) (fun _ h9 => h9) dX10_isMade_13 ?_
  refine lv_iconst (v := 1) hx hb dX10_isMade_16 (by decide) ?_
  refine lv_isub hx hb dX10_isMade_17 ?_
  obtain ⟨r8, e9, hf⟩ := ob hf
  refine r_callSi (As := [.int p2, .int 0, .int ((kI S5 a0 42) - 1)]) ⟨hx, hb, hml, hown, hts⟩ (c_X10_in l D S5 p2 0 ((kI S5 a0 42) - 1) r8 e9) (va_cwS 3 hts (gwS gw_31_8 gw_31_9 gw_31_10 gw_31_4) rfl rfl rfl (by decide +kernel) ⟨Nat.le_of_ble_eq_true rfl, Nat.le_of_ble_eq_true rfl⟩) hH hNE rfl hl.1 rfl (Nat.le_of_ble_eq_true rfl) dX10_isMade_18 ⟨(Nat.le_of_ble_eq_true rfl), (Nat.le_of_ble_eq_true rfl)⟩ (fun H locs hH => ?_)
  refine lv_if_eq (tgt := 44) hx hb dX10_isMade_21 (by decide) (fun c10 => ?_) (fun c10 => ?_)
  · have hf := ip hf c10
    refine lv_iconst (v := 0) hx hb dX10_isMade_44 (by decide) ?_
    have hr9 := Option.some.inj hf
    subst hr9
    exact e_z (r := 0) hx hb hr hlocks rfl hH dX10_isMade_45
  · have hf := iq hf c10
    refine lv_iload_n hx hb dX10_isMade_24 rfl (lv_at hl 3 rfl) ?_
    refine lv_iconst (v := 0) hx hb dX10_isMade_25 (by decide) ?_
    refine lv_aload_n hx hb dX10_isMade_26 rfl (lv_at hl 0 rfl) ?_
    refine lv_aload_n hx hb dX10_isMade_27 rfl (lv_at hl 0 rfl) ?_
    obtain ⟨a11, e12, hf⟩ := ob hf
    refine r_getQ hx hb 13 hts (fun w h => List.mem_cons_of_mem _ (mwsX100 w h)) hown hH ek7 (by decide) rfl 43 (by decide) rfl (hts (.fieldLink RX10 117 "HousestyleModel" "takes" "[I") (List.mem_cons_of_mem _ gw_31_0)) (fun _ h9 => h9) dX10_isMade_28 e12 ?_
    refine lv_iload_n hx hb dX10_isMade_31 rfl (lv_at hl 2 rfl) ?_
    obtain ⟨ek13, hf⟩ := oc hf
    obtain ⟨ei14, hf⟩ := oc hf
    refine r_iald hx hb hH ek13 ei14 dX10_isMade_32 ?_
    obtain ⟨r15, e16, hf⟩ := ob hf
    refine r_callVi (As := [.int (kI S5 a11 p2.toNatClampNeg)]) ⟨hx, hb, hml, hown, hts⟩ (c_X10_suggestionsOf l D S5 a0 (kI S5 a11 p2.toNatClampNeg) r15 e16) (cwV 1 hts (gwV gw_37_7 gw_37_8 gw_37_9 gw_31_10 gw_37_2) rfl rfl rfl (by decide +kernel) ⟨Nat.le_of_ble_eq_true rfl, Nat.le_of_ble_eq_true rfl⟩) hH hNE 13 ek7 (by decide) rfl rfl rfl hl.1 rfl (Nat.le_of_ble_eq_true rfl) dX10_isMade_33 ⟨(Nat.le_of_ble_eq_true rfl), (Nat.le_of_ble_eq_true rfl)⟩ (fun H locs hH => ?_)
    refine lv_iconst (v := 1) hx hb dX10_isMade_36 (by decide) ?_
    refine lv_isub hx hb dX10_isMade_37 ?_
    obtain ⟨r17, e18, hf⟩ := ob hf
    refine r_callSi (As := [.int p3, .int 0, .int (r15 - 1)]) ⟨hx, hb, hml, hown, hts⟩ (c_X10_in l D S5 p3 0 (r15 - 1) r17 e18) (va_cwS 3 hts (gwS gw_31_8 gw_31_9 gw_31_10 gw_31_4) rfl rfl rfl (by decide +kernel) ⟨Nat.le_of_ble_eq_true rfl, Nat.le_of_ble_eq_true rfl⟩) hH hNE rfl hl.1 rfl (Nat.le_of_ble_eq_true rfl) dX10_isMade_38 ⟨(Nat.le_of_ble_eq_true rfl), (Nat.le_of_ble_eq_true rfl)⟩ (fun H locs hH => ?_)
    refine lv_if_ne (tgt := 46) hx hb dX10_isMade_41 (by decide) (fun c19 => ?_) (fun c19 => ?_)
    · have hf := iq hf c19
      refine lv_aload_n hx hb dX10_isMade_46 rfl (lv_at hl 0 rfl) ?_
      refine r_getQ hx hb 13 hts (fun w h => List.mem_cons_of_mem _ (mwsX100 w h)) hown hH ek7 (by decide) rfl 43 (by decide) rfl (hts (.fieldLink RX10 117 "HousestyleModel" "takes" "[I") (List.mem_cons_of_mem _ gw_31_0)) (fun _ h9 => h9) dX10_isMade_47 e12 ?_
      refine lv_iload_n hx hb dX10_isMade_50 rfl (lv_at hl 2 rfl) ?_
      obtain ⟨ei20, hf⟩ := oc hf
      refine r_iald hx hb hH ek13 ei20 dX10_isMade_51 ?_
      obtain ⟨x21, e22, hf⟩ := ol hf
      refine lv_topE e22 ?_
      refine lv_istore (lv' := [(4, .int x21), (0, .ref a0), (1, .int p1), (2, .int p2), (3, .int p3)]) hx hb dX10_isMade_52 hl (by decide) rfl (fun ls hl => ?_)
      refine lv_aload_n hx hb dX10_isMade_54 rfl (lv_at hl 1 rfl) ?_
      obtain ⟨a23, e24, hf⟩ := ob hf
      refine r_getQ hx hb 13 hts (fun w h => List.mem_cons_of_mem _ (mwsX100 w h)) hown hH ek7 (by decide) rfl 40 (by decide) rfl (hts (.fieldLink RX10 111 "HousestyleModel" "foundRule" "[I") (List.mem_cons_of_mem _ gw_30_22)) (fun _ h9 => h9) dX10_isMade_55 e24 ?_
      refine lv_iload hx hb dX10_isMade_58 (lv_at hl 0 rfl) ?_
      obtain ⟨ek25, hf⟩ := oc hf
      obtain ⟨ei26, hf⟩ := oc hf
      refine r_iald hx hb hH ek25 ei26 dX10_isMade_60 ?_
      obtain ⟨x27, e28, hf⟩ := ol hf
      refine lv_topE e28 ?_
      refine lv_istore (lv' := [(5, .int x27), (4, .int x21), (0, .ref a0), (1, .int p1), (2, .int p2), (3, .int p3)]) hx hb dX10_isMade_61 hl (by decide) rfl (fun ls hl => ?_)
      refine lv_iload hx hb dX10_isMade_63 (lv_at hl 0 rfl) ?_
      refine lv_bipush (v := 12) hx hb dX10_isMade_65 (by decide) ?_
      refine lv_icmp_lt (tgt := 138) hx hb dX10_isMade_67 (by decide) (fun c29 => ?_) (fun c29 => ?_)
      · have hf := ip hf c29
        refine lv_iload hx hb dX10_isMade_138 (lv_at hl 0 rfl) ?_
        refine lv_iconst (v := 2) hx hb dX10_isMade_140 (by decide) ?_
        refine lv_imul hx hb dX10_isMade_141 ?_
        refine lv_iload_n hx hb dX10_isMade_142 rfl (lv_at hl 5 rfl) ?_
        refine lv_iadd hx hb dX10_isMade_143 ?_
        obtain ⟨x30, e31, hf⟩ := ol hf
        refine lv_topE e31 ?_
        refine lv_istore (lv' := [(6, .int x30), (5, .int x27), (4, .int x21), (0, .ref a0), (1, .int p1), (2, .int p2), (3, .int p3)]) hx hb dX10_isMade_144 hl (by decide) rfl (fun ls hl => ?_)
        refine lv_iconst (v := 0) hx hb dX10_isMade_146 (by decide) ?_
        refine lv_istore (lv' := [(7, .int 0), (6, .int x30), (5, .int x27), (4, .int x21), (0, .ref a0), (1, .int p1), (2, .int p2), (3, .int p3)]) hx hb dX10_isMade_147 hl (by decide) rfl (fun ls hl => ?_)
        obtain ⟨k35, e36, hf⟩ := ol hf
        have Xk35 : ∀ (S34 : PS) (H : Heap) (locs : List Loc) (ls : Array Slot), HI D S S34 s H locs → lv_has ls 8 [] → k35 S34 = some r → GI p l e (headSpec wsX10_isMade rmX10_isMade).room s m ([.ref a0, .int p1, .int p2, .int p3] : List Value).toArray below meth c D S r.1 r.2 H locs 0 0 0 0 (F0 m 211 ls []) := by
          intro S34 H locs ls hH hl hf
          rw [← e36] at hf
          refine lv_iconst (v := 1) hx hb dX10_isMade_211 (by decide) ?_
          have hr9 := Option.some.inj hf
          subst hr9
          exact e_z (r := 1) hx hb hr hlocks rfl hH dX10_isMade_212
        obtain ⟨o37, eo37, hq37f⟩ := ob hf
        have Lo37 : ∀ (n : Nat) (x32 : Int32) (S33 : PS), iter (fun (v : Int32 × PS) => f_X10_isMade_b149 a0 x21 x30 v.1 v.2) n (x32, S33) = some o37 → ∀ (H : Heap) (locs : List Loc) (ls : Array Slot), HI D S S33 s H locs → lv_has ls 8 [(0, .ref a0), (4, .int x21), (6, .int x30), (7, .int x32)] → GI p l e (headSpec wsX10_isMade rmX10_isMade).room s m ([.ref a0, .int p1, .int p2, .int p3] : List Value).toArray below meth c D S r.1 r.2 H locs 0 0 0 0 (F0 m 149 ls []) := by
          intro n
          induction n with
          | zero => intro x32 S33 hi; cases hi
          | succ n ih37 =>
            intro x32 S33 hi H locs ls hH hl
            obtain ⟨q37_, hf, hq37⟩ := iter_s hi
            have hf : f_X10_isMade_b149 a0 x21 x30 x32 S33 = some q37_ := hf
            unfold f_X10_isMade_b149 at hf
            refine lv_iload hx hb dX10_isMade_149 (lv_at hl 3 rfl) ?_
            refine lv_aload_n hx hb dX10_isMade_151 rfl (lv_at hl 0 rfl) ?_
            obtain ⟨ek38, hf⟩ := oc hf
            obtain ⟨a39, e40, hf⟩ := ob hf
            refine r_getQ hx hb 13 hts (fun w h => List.mem_cons_of_mem _ (mwsX100 w h)) hown hH ek38 (by decide) rfl 19 (by decide) rfl (hts (.fieldLink RX10 57 "HousestyleModel" "suggestedSizes" "[I") (List.mem_cons_of_mem _ gw_30_4)) (fun _ h9 => h9) dX10_isMade_152 e40 ?_
            refine lv_iload hx hb dX10_isMade_155 (lv_at hl 2 rfl) ?_
            obtain ⟨ek41, hf⟩ := oc hf
            obtain ⟨ei42, hf⟩ := oc hf
            refine r_iald hx hb hH ek41 ei42 dX10_isMade_157 ?_
            refine lv_icmp_ge (tgt := 211) hx hb dX10_isMade_158 (by decide) (fun c43 => ?_) (fun c43 => ?_)
            · have hf := ip hf c43
              cases hf
              have hf9 := itR (K := (fun (v : PS) => k35 v)) hq37 hq37f
              exact Xk35 S33 _ _ ls hH (lv_sub hl [] rfl) hf9
            · have hf := iq hf c43
              refine lv_aload_n hx hb dX10_isMade_161 rfl (lv_at hl 0 rfl) ?_
              obtain ⟨a44, e45, hf⟩ := ob hf
              refine r_getQ hx hb 13 hts (fun w h => List.mem_cons_of_mem _ (mwsX100 w h)) hown hH ek38 (by decide) rfl 18 (by decide) rfl (hts (.fieldLink RX10 54 "HousestyleModel" "suggested" "[C") (List.mem_cons_of_mem _ gw_30_3)) (fun _ h9 => h9) dX10_isMade_162 e45 ?_
              refine lv_iload hx hb dX10_isMade_165 (lv_at hl 2 rfl) ?_
              refine lv_bipush (v := 20) hx hb dX10_isMade_167 (by decide) ?_
              refine lv_imul hx hb dX10_isMade_169 ?_
              refine lv_iload hx hb dX10_isMade_170 (lv_at hl 3 rfl) ?_
              refine lv_iadd hx hb dX10_isMade_172 ?_
              obtain ⟨ek46, hf⟩ := oc hf
              obtain ⟨ei47, hf⟩ := oc hf
              refine r_cald hx hb hH ek46 ei47 dX10_isMade_173 ?_
              refine lv_bipush (v := 42) hx hb dX10_isMade_174 (by decide) ?_
              obtain ⟨j49, e52, hf⟩ := ol hf
              have Jj49 : ∀ (S48 : PS) (H : Heap) (locs : List Loc) (ls : Array Slot), HI D S S48 s H locs → lv_has ls 8 [(0, .ref a0), (4, .int x21), (6, .int x30), (7, .int x32)] → j49 S48 = some q37_ → GI p l e (headSpec wsX10_isMade rmX10_isMade).room s m ([.ref a0, .int p1, .int p2, .int p3] : List Value).toArray below meth c D S r.1 r.2 H locs 0 0 0 0 (F0 m 205 ls []) := by
                intro S48 H locs ls hH hl hf
                rw [← e52] at hf
                obtain ⟨x50, e51, hf⟩ := ol hf
                refine lv_iinc (v := x50) (lv' := [(7, .int x50), (0, .ref a0), (4, .int x21), (6, .int x30)]) hx hb dX10_isMade_205 hl (k := 3) rfl (by rw [← e51]; rfl) (by decide) rfl (fun ls hl => ?_)
                refine lv_goto (tgt := 149) hx hb dX10_isMade_208 (by decide) ?_
                cases hf
                exact ih37 x50 S48 hq37 _ _ ls hH (lv_sub hl [1, 2, 3, 0] rfl)
              refine lv_icmp_ne (tgt := 188) hx hb dX10_isMade_176 (by decide) (fun c53 => ?_) (fun c53 => ?_)
              · have hf := iq hf c53
                refine lv_aload_n hx hb dX10_isMade_188 rfl (lv_at hl 0 rfl) ?_
                refine lv_aload_n hx hb dX10_isMade_189 rfl (lv_at hl 0 rfl) ?_
                refine r_getQ hx hb 13 hts (fun w h => List.mem_cons_of_mem _ (mwsX100 w h)) hown hH ek38 (by decide) rfl 18 (by decide) rfl (hts (.fieldLink RX10 54 "HousestyleModel" "suggested" "[C") (List.mem_cons_of_mem _ gw_30_3)) (fun _ h9 => h9) dX10_isMade_190 e45 ?_
                refine lv_iload hx hb dX10_isMade_193 (lv_at hl 2 rfl) ?_
                refine lv_bipush (v := 20) hx hb dX10_isMade_195 (by decide) ?_
                refine lv_imul hx hb dX10_isMade_197 ?_
                refine lv_iload hx hb dX10_isMade_198 (lv_at hl 3 rfl) ?_
                refine lv_iadd hx hb dX10_isMade_200 ?_
                obtain ⟨ei54, hf⟩ := oc hf
                refine r_cald hx hb hH ek46 ei54 dX10_isMade_201 ?_
                obtain ⟨r55, e56, hf⟩ := ob hf
                refine r_callVv (As := [.int (kI S33 a44 ((x30 * 20) + x32).toNatClampNeg)]) ⟨hx, hb, hml, hown, hts⟩ (c_X10_outs l D S33 a0 (kI S33 a44 ((x30 * 20) + x32).toNatClampNeg) r55 e56) (cwV 1 hts (gwV gw_37_13 gw_37_14 gw_37_15 gw_31_10 gw_37_10) rfl rfl rfl (by decide +kernel) ⟨Nat.le_of_ble_eq_true rfl, Nat.le_of_ble_eq_true rfl⟩) hH hNE 13 ek38 (by decide) rfl rfl rfl hl.1 rfl (Nat.le_of_ble_eq_true rfl) dX10_isMade_202 ⟨(Nat.le_of_ble_eq_true rfl), (Nat.le_of_ble_eq_true rfl)⟩ (fun H locs hH => ?_)
                exact Jj49 r55 _ _ ls hH (lv_sub hl [0, 1, 2, 3] rfl) hf
              · have hf := ip hf c53
                refine lv_aload_n hx hb dX10_isMade_179 rfl (lv_at hl 0 rfl) ?_
                refine lv_iload hx hb dX10_isMade_180 (lv_at hl 1 rfl) ?_
                obtain ⟨r57, e58, hf⟩ := ob hf
                refine r_callVv (As := [.int x21]) ⟨hx, hb, hml, hown, hts⟩ (c_X10_star l D S33 a0 x21 r57 e58) (cwV 1 hts (gwV gw_37_17 gw_37_18 gw_37_19 gw_31_10 gw_37_12) rfl rfl rfl (by decide +kernel) ⟨Nat.le_of_ble_eq_true rfl, Nat.le_of_ble_eq_true rfl⟩) hH hNE 13 ek38 (by decide) rfl rfl rfl hl.1 rfl (Nat.le_of_ble_eq_true rfl) dX10_isMade_182 ⟨(Nat.le_of_ble_eq_true rfl), (Nat.le_of_ble_eq_true rfl)⟩ (fun H locs hH => ?_)
                refine lv_goto (tgt := 205) hx hb dX10_isMade_185 (by decide) ?_
                exact Jj49 r57 _ _ ls hH (lv_sub hl [0, 1, 2, 3] rfl) hf
        exact Lo37 kF 0 S5 eo37 _ _ ls hH (lv_sub hl [4, 3, 1, 0] rfl)
      · have hf := iq hf c29
        refine lv_iconst (v := 2) hx hb dX10_isMade_70 (by decide) ?_
        refine lv_iload hx hb dX10_isMade_71 (lv_at hl 0 rfl) ?_
        refine lv_bipush (v := 12) hx hb dX10_isMade_73 (by decide) ?_
        refine lv_isub hx hb dX10_isMade_75 ?_
        refine lv_imul hx hb dX10_isMade_76 ?_
        refine lv_iconst (v := 1) hx hb dX10_isMade_77 (by decide) ?_
        refine lv_iadd hx hb dX10_isMade_78 ?_
        refine lv_aload_n hx hb dX10_isMade_79 rfl (lv_at hl 2 rfl) ?_
        refine lv_iload hx hb dX10_isMade_80 (lv_at hl 0 rfl) ?_
        refine lv_bipush (v := 12) hx hb dX10_isMade_82 (by decide) ?_
        refine lv_isub hx hb dX10_isMade_84 ?_
        refine lv_aload_n hx hb dX10_isMade_85 rfl (lv_at hl 2 rfl) ?_
        obtain ⟨a59, e60, hf⟩ := ob hf
        refine r_getQ hx hb 13 hts (fun w h => List.mem_cons_of_mem _ (mwsX100 w h)) hown hH ek7 (by decide) rfl 38 (by decide) rfl (hts (.fieldLink RX10 105 "HousestyleModel" "foundToken" "[I") (List.mem_cons_of_mem _ gw_30_20)) (fun _ h9 => h9) dX10_isMade_86 e60 ?_
        refine lv_iload hx hb dX10_isMade_89 (lv_at hl 1 rfl) ?_
        obtain ⟨ek61, hf⟩ := oc hf
        obtain ⟨ei62, hf⟩ := oc hf
        refine r_iald hx hb hH ek61 ei62 dX10_isMade_91 ?_
        obtain ⟨r63, e64, hf⟩ := ob hf
        refine r_callVi (As := [.int (x27 - 12), .int (kI S5 a59 x21.toNatClampNeg)]) ⟨hx, hb, hml, hown, hts⟩ (c_X10_wordOf l D S5 a0 (x27 - 12) (kI S5 a59 x21.toNatClampNeg) r63 e64) (cwV 2 hts (gwV gw_35_23 gw_36_0 gw_36_1 gw_31_10 gw_34_18) rfl rfl rfl (by decide +kernel) ⟨Nat.le_of_ble_eq_true rfl, Nat.le_of_ble_eq_true rfl⟩) hH hNE 13 ek7 (by decide) rfl rfl rfl hl.1 rfl (Nat.le_of_ble_eq_true rfl) dX10_isMade_92 ⟨(Nat.le_of_ble_eq_true rfl), (Nat.le_of_ble_eq_true rfl)⟩ (fun H locs hH => ?_)
        refine lv_isub hx hb dX10_isMade_95 ?_
        obtain ⟨x65, e66, hf⟩ := ol hf
        refine lv_topE e66 ?_
        refine lv_istore (lv' := [(6, .int x65), (5, .int x27), (4, .int x21), (0, .ref a0), (1, .int p1), (2, .int p2), (3, .int p3)]) hx hb dX10_isMade_96 hl (by decide) rfl (fun ls hl => ?_)
        refine lv_iconst (v := 0) hx hb dX10_isMade_98 (by decide) ?_
        refine lv_istore (lv' := [(7, .int 0), (6, .int x65), (5, .int x27), (4, .int x21), (0, .ref a0), (1, .int p1), (2, .int p2), (3, .int p3)]) hx hb dX10_isMade_99 hl (by decide) rfl (fun ls hl => ?_)
        obtain ⟨k70, e71, hf⟩ := ol hf
        have Xk70 : ∀ (S69 : PS) (H : Heap) (locs : List Loc) (ls : Array Slot), HI D S S69 s H locs → lv_has ls 8 [] → k70 S69 = some r → GI p l e (headSpec wsX10_isMade rmX10_isMade).room s m ([.ref a0, .int p1, .int p2, .int p3] : List Value).toArray below meth c D S r.1 r.2 H locs 0 0 0 0 (F0 m 136 ls []) := by
          intro S69 H locs ls hH hl hf
          rw [← e71] at hf
          refine lv_iconst (v := 1) hx hb dX10_isMade_136 (by decide) ?_
          have hr9 := Option.some.inj hf
          subst hr9
          exact e_z (r := 1) hx hb hr hlocks rfl hH dX10_isMade_137
        obtain ⟨o72, eo72, hq72f⟩ := ob hf
        have Lo72 : ∀ (n : Nat) (x67 : Int32) (S68 : PS), iter (fun (v : Int32 × PS) => f_X10_isMade_b101 a0 x65 v.1 v.2) n (x67, S68) = some o72 → ∀ (H : Heap) (locs : List Loc) (ls : Array Slot), HI D S S68 s H locs → lv_has ls 8 [(0, .ref a0), (6, .int x65), (7, .int x67)] → GI p l e (headSpec wsX10_isMade rmX10_isMade).room s m ([.ref a0, .int p1, .int p2, .int p3] : List Value).toArray below meth c D S r.1 r.2 H locs 0 0 0 0 (F0 m 101 ls []) := by
          intro n
          induction n with
          | zero => intro x67 S68 hi; cases hi
          | succ n ih72 =>
            intro x67 S68 hi H locs ls hH hl
            obtain ⟨q72_, hf, hq72⟩ := iter_s hi
            have hf : f_X10_isMade_b101 a0 x65 x67 S68 = some q72_ := hf
            unfold f_X10_isMade_b101 at hf
            refine lv_iload hx hb dX10_isMade_101 (lv_at hl 2 rfl) ?_
            refine lv_aload_n hx hb dX10_isMade_103 rfl (lv_at hl 0 rfl) ?_
            obtain ⟨ek73, hf⟩ := oc hf
            obtain ⟨a74, e75, hf⟩ := ob hf
            refine r_getQ hx hb 13 hts (fun w h => List.mem_cons_of_mem _ (mwsX100 w h)) hown hH ek73 (by decide) rfl 22 (by decide) rfl (hts (.fieldLink RX10 63 "HousestyleModel" "pairedSizes" "[I") (List.mem_cons_of_mem _ gw_30_6)) (fun _ h9 => h9) dX10_isMade_104 e75 ?_
            refine lv_iload hx hb dX10_isMade_107 (lv_at hl 1 rfl) ?_
            obtain ⟨ek76, hf⟩ := oc hf
            obtain ⟨ei77, hf⟩ := oc hf
            refine r_iald hx hb hH ek76 ei77 dX10_isMade_109 ?_
            refine lv_icmp_ge (tgt := 136) hx hb dX10_isMade_110 (by decide) (fun c78 => ?_) (fun c78 => ?_)
            · have hf := ip hf c78
              cases hf
              have hf9 := itR (K := (fun (v : PS) => k70 v)) hq72 hq72f
              exact Xk70 S68 _ _ ls hH (lv_sub hl [] rfl) hf9
            · have hf := iq hf c78
              refine lv_aload_n hx hb dX10_isMade_113 rfl (lv_at hl 0 rfl) ?_
              refine lv_aload_n hx hb dX10_isMade_114 rfl (lv_at hl 0 rfl) ?_
              obtain ⟨a79, e80, hf⟩ := ob hf
              refine r_getQ hx hb 13 hts (fun w h => List.mem_cons_of_mem _ (mwsX100 w h)) hown hH ek73 (by decide) rfl 21 (by decide) rfl (hts (.fieldLink RX10 60 "HousestyleModel" "paired" "[C") (List.mem_cons_of_mem _ gw_30_5)) (fun _ h9 => h9) dX10_isMade_115 e80 ?_
              refine lv_iload hx hb dX10_isMade_118 (lv_at hl 1 rfl) ?_
              refine lv_bipush (v := 20) hx hb dX10_isMade_120 (by decide) ?_
              refine lv_imul hx hb dX10_isMade_122 ?_
              refine lv_iload hx hb dX10_isMade_123 (lv_at hl 2 rfl) ?_
              refine lv_iadd hx hb dX10_isMade_125 ?_
              obtain ⟨ek81, hf⟩ := oc hf
              obtain ⟨ei82, hf⟩ := oc hf
              refine r_cald hx hb hH ek81 ei82 dX10_isMade_126 ?_
              obtain ⟨r83, e84, hf⟩ := ob hf
              refine r_callVv (As := [.int (kI S68 a79 ((x65 * 20) + x67).toNatClampNeg)]) ⟨hx, hb, hml, hown, hts⟩ (c_X10_outs l D S68 a0 (kI S68 a79 ((x65 * 20) + x67).toNatClampNeg) r83 e84) (cwV 1 hts (gwV gw_37_13 gw_37_14 gw_37_15 gw_31_10 gw_37_10) rfl rfl rfl (by decide +kernel) ⟨Nat.le_of_ble_eq_true rfl, Nat.le_of_ble_eq_true rfl⟩) hH hNE 13 ek73 (by decide) rfl rfl rfl hl.1 rfl (Nat.le_of_ble_eq_true rfl) dX10_isMade_127 ⟨(Nat.le_of_ble_eq_true rfl), (Nat.le_of_ble_eq_true rfl)⟩ (fun H locs hH => ?_)
              obtain ⟨x85, e86, hf⟩ := ol hf
              refine lv_iinc (v := x85) (lv' := [(7, .int x85), (0, .ref a0), (6, .int x65)]) hx hb dX10_isMade_130 hl (k := 2) rfl (by rw [← e86]; rfl) (by decide) rfl (fun ls hl => ?_)
              refine lv_goto (tgt := 101) hx hb dX10_isMade_133 (by decide) ?_
              cases hf
              exact ih72 x85 r83 hq72 _ _ ls hH (lv_sub hl [1, 2, 0] rfl)
        exact Lo72 kF 0 S5 eo72 _ _ ls hH (lv_sub hl [4, 1, 0] rfl)
    · have hf := ip hf c19
      refine lv_iconst (v := 0) hx hb dX10_isMade_44 (by decide) ?_
      have hr9 := Option.some.inj hf
      subst hr9
      exact e_z (r := 0) hx hb hr hlocks rfl hH dX10_isMade_45
set_option maxRecDepth 100000 in
def f_X10_size (S : PS) (a0 : Nat) (p1 : Int32) (p2 : Int32) (p3 : Int32) : Option (PS × Int32) := if kK S a0 = 14 then ((f_X10_noDesk S a0 p1).bind fun r2 => lt r2.1 fun S4 => if r2.2 = 0 then (if kK S4 a0 = 14 then ((f_X10_isMade S4 a0 p1 p2 p3).bind fun r8 => lt r8.1 fun S10 => lt (fun (x12 : Int32) => if kK S10 a0 = 14 then (lt (wI S10 a0 0 x12) fun S15 => if kK S15 a0 = 14 then (if (kI S15 a0 0) ≤ 0 then (some (S15, (kI S15 a0 45))) else (some (S15, 0))) else none) else none) fun j13 => if r8.2 = 0 then (j13 2) else (j13 0)) else none) else (some (S4, 0))) else none
abbrev rmX10_size : Room := { frames := 5, cells := 0, slots := 0, locals := 127 }
set_option maxHeartbeats 4000000 in
set_option maxRecDepth 100000 in
theorem c_X10_size (l : Launch) (D : va_G × Nat) (S : PS) (a0 : Nat) (p1 : Int32) (p2 : Int32) (p3 : Int32) (r : PS × Int32) (hf : f_X10_size S a0 p1 p2 p3 = some r) : MI l D yX10_size wsX10_size rmX10_size S [.ref a0, .int p1, .int p2, .int p3] r.1 r.2 0 0 := by
  unfold f_X10_size at hf
  refine Met.ofW (cc := cX10_size) (maxL := 4) (ret := (some .int)) (by decide) rfl ?_
  intro p e s m args below meth c s₁ B hml hv
  obtain ⟨rfl, hH0, hNE⟩ := hv
  have hx := B.exec
  have hb := B.bytes
  have hr := B.returns
  have hts := atoms_spec (ws := wsX10_size) B.pre
  have hown : s.vm.findClass RX10 = some m.cls := findClass_of_methodNamed B.named
  have hlocks := B.notSynchronized
  have hH : HI D S S s s.heap [] := HI.start hH0
  have hl := lv_entry ([.ref a0, .int p1, .int p2, .int p3]) (n := 4) (Nat.le_of_ble_eq_true rfl)
  rw [lg_entry_eq]
  generalize (lg_sl ([.ref a0, .int p1, .int p2, .int p3]) ++ List.replicate (4 - (lg_sl ([.ref a0, .int p1, .int p2, .int p3])).length) Slot.unset).toArray = ls at hl ⊢
  have hl : lv_has ls 4 [(0, .ref a0), (1, .int p1), (2, .int p2), (3, .int p3)] := hl
  refine lv_aload_n hx hb dX10_size_0 rfl (lv_at hl 0 rfl) ?_
  refine lv_iload_n hx hb dX10_size_1 rfl (lv_at hl 1 rfl) ?_
  obtain ⟨ek1, hf⟩ := oc hf
  obtain ⟨r2, e3, hf⟩ := ob hf
  refine r_callVi (As := [.int p1]) ⟨hx, hb, hml, hown, hts⟩ (c_X10_noDesk l D S a0 p1 r2 e3) (cwV 1 hts (gwV gw_36_20 gw_36_21 gw_36_22 gw_31_10 gw_31_11) rfl rfl rfl (by decide +kernel) ⟨Nat.le_of_ble_eq_true rfl, Nat.le_of_ble_eq_true rfl⟩) hH hNE 13 ek1 (by decide) rfl rfl rfl hl.1 rfl (Nat.le_of_ble_eq_true rfl) dX10_size_2 ⟨(Nat.le_of_ble_eq_true rfl), (Nat.le_of_ble_eq_true rfl)⟩ (fun H locs hH => ?_)
  obtain ⟨S4, e5, hf⟩ := ol hf
  rw [e5] at hH
  refine lv_if_eq (tgt := 10) hx hb dX10_size_5 (by decide) (fun c6 => ?_) (fun c6 => ?_)
  · have hf := ip hf c6
    refine lv_aload_n hx hb dX10_size_10 rfl (lv_at hl 0 rfl) ?_
    refine lv_aload_n hx hb dX10_size_11 rfl (lv_at hl 0 rfl) ?_
    refine lv_iload_n hx hb dX10_size_12 rfl (lv_at hl 1 rfl) ?_
    refine lv_iload_n hx hb dX10_size_13 rfl (lv_at hl 2 rfl) ?_
    refine lv_iload_n hx hb dX10_size_14 rfl (lv_at hl 3 rfl) ?_
    obtain ⟨ek7, hf⟩ := oc hf
    obtain ⟨r8, e9, hf⟩ := ob hf
    refine r_callVi (As := [.int p1, .int p2, .int p3]) ⟨hx, hb, hml, hown, hts⟩ (c_X10_isMade l D S4 a0 p1 p2 p3 r8 e9) (cwV 3 hts (gwV gw_37_21 gw_37_22 gw_37_23 gw_31_10 gw_37_16) rfl rfl rfl (by decide +kernel) ⟨Nat.le_of_ble_eq_true rfl, Nat.le_of_ble_eq_true rfl⟩) hH hNE 13 ek7 (by decide) rfl rfl rfl hl.1 rfl (Nat.le_of_ble_eq_true rfl) dX10_size_15 ⟨(Nat.le_of_ble_eq_true rfl), (Nat.le_of_ble_eq_true rfl)⟩ (fun H locs hH => ?_)
    obtain ⟨S10, e11, hf⟩ := ol hf
    rw [e11] at hH
    obtain ⟨j13, e19, hf⟩ := ol hf
    have Jj13 : ∀ (x12 : Int32) (H : Heap) (locs : List Loc) (ls : Array Slot), HI D S S10 s H locs → lv_has ls 4 [(0, .ref a0)] → j13 x12 = some r → GI p l e (headSpec wsX10_size rmX10_size).room s m ([.ref a0, .int p1, .int p2, .int p3] : List Value).toArray below meth c D S r.1 r.2 H locs 0 0 0 0 (F0 m 26 ls [.int x12, .ref a0]) := by
      intro x12 H locs ls hH hl hf
      rw [← e19] at hf
      obtain ⟨ek14, hf⟩ := oc hf
      refine r_putI hx hb 13 hts (fun w h => List.mem_cons_of_mem _ (mwsX100 w h)) tyX10 tyX10_ok nmX10 hown hH ek14 (by decide) rfl 0 (by decide) rfl (hts (.fieldLink RX10 123 "HousestyleModel" "thrown" "I") (List.mem_cons_of_mem _ gw_31_3)) (fun _ h9 => h9) (Or.inl rfl) (ty := .int) (by decide +kernel) rfl rfl dX10_size_26 (fun H locs hH => ?_)
      obtain ⟨S15, e16, hf⟩ := ol hf
      rw [e16] at hH
      refine lv_aload_n hx hb dX10_size_29 rfl (lv_at hl 0 rfl) ?_
      obtain ⟨ek17, hf⟩ := oc hf
      refine r_getI hx hb 13 hts (fun w h => List.mem_cons_of_mem _ (mwsX100 w h)) hown hH ek17 (by decide) rfl 0 (by decide) rfl (hts (.fieldLink RX10 123 "HousestyleModel" "thrown" "I") (List.mem_cons_of_mem _ gw_31_3)) (fun _ h9 => h9) dX10_size_30 ?_
      refine lv_if_le (tgt := 40) hx hb dX10_size_33 (by decide) (fun c18 => ?_) (fun c18 => ?_)
      · have hf := ip hf c18
        refine lv_aload_n hx hb dX10_size_40 rfl (lv_at hl 0 rfl) ?_
        refine r_getI hx hb 13 hts (fun w h => List.mem_cons_of_mem _ (mwsX100 w h)) hown hH ek17 (by decide) rfl 45 (by decide) rfl (hts (.fieldLink RX10 260 "HousestyleModel" "outSize" "I") (List.mem_cons_of_mem _ gw_37_11)) (fun _ h9 => h9) dX10_size_41 ?_
        have hr9 := Option.some.inj hf
        subst hr9
        exact e_i hx hb hr hlocks hH dX10_size_44
      · have hf := iq hf c18
        refine lv_iconst (v := 0) hx hb dX10_size_36 (by decide) ?_
        refine lv_goto (tgt := 44) hx hb dX10_size_37 (by decide) ?_
        have hr9 := Option.some.inj hf
        subst hr9
        exact e_i hx hb hr hlocks hH dX10_size_44
    refine lv_if_eq (tgt := 25) hx hb dX10_size_18 (by decide) (fun c20 => ?_) (fun c20 => ?_)
    · have hf := ip hf c20
      refine lv_iconst (v := 2) hx hb dX10_size_25 (by decide) ?_
      exact Jj13 2 _ _ ls hH (lv_sub hl [0] rfl) hf
    · have hf := iq hf c20
      refine lv_iconst (v := 0) hx hb dX10_size_21 (by decide) ?_
      refine lv_goto (tgt := 26) hx hb dX10_size_22 (by decide) ?_
      exact Jj13 0 _ _ ls hH (lv_sub hl [0] rfl) hf
  · have hf := iq hf c6
    refine lv_iconst (v := 0) hx hb dX10_size_8 (by decide) ?_
    have hr9 := Option.some.inj hf
    subst hr9
    exact e_i hx hb hr hlocks hH dX10_size_9
set_option maxRecDepth 100000 in
def f_X10_sign (S : PS) (a0 : Nat) (p1 : Int32) (p2 : Int32) (p3 : Int32) (p4 : Int32) : Option (PS × Int32) := if kK S a0 = 14 then ((f_X10_noDesk S a0 p1).bind fun r2 => lt r2.1 fun S4 => if r2.2 = 0 then (if kK S4 a0 = 14 then ((f_X10_isMade S4 a0 p1 p2 p3).bind fun r8 => lt r8.1 fun S10 => lt (fun (x12 : Int32) => if kK S10 a0 = 14 then (lt (wI S10 a0 0 x12) fun S15 => if kK S15 a0 = 14 then (if (kI S15 a0 0) ≤ 0 then ((kQ S15 a0 44).bind fun a19 => if kK S15 a19 = 102 then (if ¬ (p4 < 0 ∨ kN S15 a19 ≤ p4.toNatClampNeg) then (if vp_nar .char (kI S15 a19 p4.toNatClampNeg) = (kI S15 a19 p4.toNatClampNeg) then (some (S15, (kI S15 a19 p4.toNatClampNeg))) else none) else none) else none) else (some (S15, 32))) else none) else none) fun j13 => lt (fun (u26 : Unit) => j13 2) fun j25 => if r8.2 = 0 then (j25 ()) else (if kK S10 a0 = 14 then ((f_X10_in S10 p4 0 ((kI S10 a0 45) - 1)).bind fun r30 => if r30 = 0 then (j25 ()) else (j13 0)) else none)) else none) else (some (S4, 32))) else none
abbrev rmX10_sign : Room := { frames := 5, cells := 0, slots := 0, locals := 127 }
set_option maxHeartbeats 4000000 in
set_option maxRecDepth 100000 in
theorem c_X10_sign (l : Launch) (D : va_G × Nat) (S : PS) (a0 : Nat) (p1 : Int32) (p2 : Int32) (p3 : Int32) (p4 : Int32) (r : PS × Int32) (hf : f_X10_sign S a0 p1 p2 p3 p4 = some r) : MI l D yX10_sign wsX10_sign rmX10_sign S [.ref a0, .int p1, .int p2, .int p3, .int p4] r.1 r.2 0 0 := by
  unfold f_X10_sign at hf
  refine Met.ofW (cc := cX10_sign) (maxL := 5) (ret := (some .char)) (by decide) rfl ?_
  intro p e s m args below meth c s₁ B hml hv
  obtain ⟨rfl, hH0, hNE⟩ := hv
  have hx := B.exec
  have hb := B.bytes
  have hr := B.returns
  have hts := atoms_spec (ws := wsX10_sign) B.pre
  have hown : s.vm.findClass RX10 = some m.cls := findClass_of_methodNamed B.named
  have hlocks := B.notSynchronized
  have hH : HI D S S s s.heap [] := HI.start hH0
  have hl := lv_entry ([.ref a0, .int p1, .int p2, .int p3, .int p4]) (n := 5) (Nat.le_of_ble_eq_true rfl)
  rw [lg_entry_eq]
  generalize (lg_sl ([.ref a0, .int p1, .int p2, .int p3, .int p4]) ++ List.replicate (5 - (lg_sl ([.ref a0, .int p1, .int p2, .int p3, .int p4])).length) Slot.unset).toArray = ls at hl ⊢
  have hl : lv_has ls 5 [(0, .ref a0), (1, .int p1), (2, .int p2), (3, .int p3), (4, .int p4)] := hl
  refine lv_aload_n hx hb dX10_sign_0 rfl (lv_at hl 0 rfl) ?_
  refine lv_iload_n hx hb dX10_sign_1 rfl (lv_at hl 1 rfl) ?_
  obtain ⟨ek1, hf⟩ := oc hf
  obtain ⟨r2, e3, hf⟩ := ob hf
  refine r_callVi (As := [.int p1]) ⟨hx, hb, hml, hown, hts⟩ (c_X10_noDesk l D S a0 p1 r2 e3) (cwV 1 hts (gwV gw_36_20 gw_36_21 gw_36_22 gw_31_10 gw_31_11) rfl rfl rfl (by decide +kernel) ⟨Nat.le_of_ble_eq_true rfl, Nat.le_of_ble_eq_true rfl⟩) hH hNE 13 ek1 (by decide) rfl rfl rfl hl.1 rfl (Nat.le_of_ble_eq_true rfl) dX10_sign_2 ⟨(Nat.le_of_ble_eq_true rfl), (Nat.le_of_ble_eq_true rfl)⟩ (fun H locs hH => ?_)
  obtain ⟨S4, e5, hf⟩ := ol hf
  rw [e5] at hH
  refine lv_if_eq (tgt := 11) hx hb dX10_sign_5 (by decide) (fun c6 => ?_) (fun c6 => ?_)
  · have hf := ip hf c6
    refine lv_aload_n hx hb dX10_sign_11 rfl (lv_at hl 0 rfl) ?_
    refine lv_aload_n hx hb dX10_sign_12 rfl (lv_at hl 0 rfl) ?_
    refine lv_iload_n hx hb dX10_sign_13 rfl (lv_at hl 1 rfl) ?_
    refine lv_iload_n hx hb dX10_sign_14 rfl (lv_at hl 2 rfl) ?_
    refine lv_iload_n hx hb dX10_sign_15 rfl (lv_at hl 3 rfl) ?_
    obtain ⟨ek7, hf⟩ := oc hf
    obtain ⟨r8, e9, hf⟩ := ob hf
    refine r_callVi (As := [.int p1, .int p2, .int p3]) ⟨hx, hb, hml, hown, hts⟩ (c_X10_isMade l D S4 a0 p1 p2 p3 r8 e9) (cwV 3 hts (gwV gw_37_21 gw_37_22 gw_37_23 gw_31_10 gw_37_16) rfl rfl rfl (by decide +kernel) ⟨Nat.le_of_ble_eq_true rfl, Nat.le_of_ble_eq_true rfl⟩) hH hNE 13 ek7 (by decide) rfl rfl rfl hl.1 rfl (Nat.le_of_ble_eq_true rfl) dX10_sign_16 ⟨(Nat.le_of_ble_eq_true rfl), (Nat.le_of_ble_eq_true rfl)⟩ (fun H locs hH => ?_)
    obtain ⟨S10, e11, hf⟩ := ol hf
    rw [e11] at hH
    obtain ⟨j13, e24, hf⟩ := ol hf
    have Jj13 : ∀ (x12 : Int32) (H : Heap) (locs : List Loc) (ls : Array Slot), HI D S S10 s H locs → lv_has ls 5 [(0, .ref a0), (4, .int p4)] → j13 x12 = some r → GI p l e (headSpec wsX10_sign rmX10_sign).room s m ([.ref a0, .int p1, .int p2, .int p3, .int p4] : List Value).toArray below meth c D S r.1 r.2 H locs 0 0 0 0 (F0 m 42 ls [.int x12, .ref a0]) := by
      intro x12 H locs ls hH hl hf
      rw [← e24] at hf
      obtain ⟨ek14, hf⟩ := oc hf
      refine r_putI hx hb 13 hts (fun w h => List.mem_cons_of_mem _ (mwsX100 w h)) tyX10 tyX10_ok nmX10 hown hH ek14 (by decide) rfl 0 (by decide) rfl (hts (.fieldLink RX10 123 "HousestyleModel" "thrown" "I") (List.mem_cons_of_mem _ gw_31_3)) (fun _ h9 => h9) (Or.inl rfl) (ty := .int) (by decide +kernel) rfl rfl dX10_sign_42 (fun H locs hH => ?_)
      obtain ⟨S15, e16, hf⟩ := ol hf
      rw [e16] at hH
      refine lv_aload_n hx hb dX10_sign_45 rfl (lv_at hl 0 rfl) ?_
      obtain ⟨ek17, hf⟩ := oc hf
      refine r_getI hx hb 13 hts (fun w h => List.mem_cons_of_mem _ (mwsX100 w h)) hown hH ek17 (by decide) rfl 0 (by decide) rfl (hts (.fieldLink RX10 123 "HousestyleModel" "thrown" "I") (List.mem_cons_of_mem _ gw_31_3)) (fun _ h9 => h9) dX10_sign_46 ?_
      refine lv_if_le (tgt := 57) hx hb dX10_sign_49 (by decide) (fun c18 => ?_) (fun c18 => ?_)
      · have hf := ip hf c18
        refine lv_aload_n hx hb dX10_sign_57 rfl (lv_at hl 0 rfl) ?_
        obtain ⟨a19, e20, hf⟩ := ob hf
        refine r_getQ hx hb 13 hts (fun w h => List.mem_cons_of_mem _ (mwsX100 w h)) hown hH ek17 (by decide) rfl 44 (by decide) rfl (hts (.fieldLink RX10 120 "HousestyleModel" "out" "[C") (List.mem_cons_of_mem _ gw_31_1)) (fun _ h9 => h9) dX10_sign_58 e20 ?_
        refine lv_iload hx hb dX10_sign_61 (lv_at hl 1 rfl) ?_
        obtain ⟨ek21, hf⟩ := oc hf
        obtain ⟨ei22, hf⟩ := oc hf
        refine r_cald hx hb hH ek21 ei22 dX10_sign_63 ?_
        obtain ⟨en23, hf⟩ := oc hf
        have hr9 := Option.some.inj hf
        subst hr9
        exact e_z hx hb hr hlocks (nar_C en23) hH dX10_sign_64
      · have hf := iq hf c18
        refine lv_bipush (v := 32) hx hb dX10_sign_52 (by decide) ?_
        refine lv_goto (tgt := 64) hx hb dX10_sign_54 (by decide) ?_
        have hr9 := Option.some.inj hf
        subst hr9
        exact e_z (r := 32) hx hb hr hlocks rfl hH dX10_sign_64
    obtain ⟨j25, e27, hf⟩ := ol hf
    have Jj25 : ∀ (u26 : Unit) (H : Heap) (locs : List Loc) (ls : Array Slot), HI D S S10 s H locs → lv_has ls 5 [(0, .ref a0), (4, .int p4)] → j25 u26 = some r → GI p l e (headSpec wsX10_sign rmX10_sign).room s m ([.ref a0, .int p1, .int p2, .int p3, .int p4] : List Value).toArray below meth c D S r.1 r.2 H locs 0 0 0 0 (F0 m 41 ls [.ref a0]) := by
      intro u26 H locs ls hH hl hf
      rw [← e27] at hf
      refine lv_iconst (v := 2) hx hb dX10_sign_41 (by decide) ?_
      exact Jj13 2 _ _ ls hH (lv_sub hl [0, 1] rfl) hf
    refine lv_if_eq (tgt := 41) hx hb dX10_sign_19 (by decide) (fun c28 => ?_) (fun c28 => ?_)
    · have hf := ip hf c28
      exact Jj25 () _ _ ls hH (lv_sub hl [0, 4] rfl) hf
    · have hf := iq hf c28
      refine lv_iload hx hb dX10_sign_22 (lv_at hl 4 rfl) ?_
      refine lv_iconst (v := 0) hx hb dX10_sign_24 (by decide) ?_
      refine lv_aload_n hx hb dX10_sign_25 rfl (lv_at hl 0 rfl) ?_
      obtain ⟨ek29, hf⟩ := oc hf
      refine r_getI hx hb 13 hts (fun w h => List.mem_cons_of_mem _ (mwsX100 w h)) hown hH ek29 (by decide) rfl 45 (by decide) rfl (hts (.fieldLink RX10 260 "HousestyleModel" "outSize" "I") (List.mem_cons_of_mem _ gw_37_11)) (fun _ h9 => h9) dX10_sign_26 ?_
      refine lv_iconst (v := 1) hx hb dX10_sign_29 (by decide) ?_
      refine lv_isub hx hb dX10_sign_30 ?_
      obtain ⟨r30, e31, hf⟩ := ob hf
      refine r_callSi (As := [.int p4, .int 0, .int ((kI S10 a0 45) - 1)]) ⟨hx, hb, hml, hown, hts⟩ (c_X10_in l D S10 p4 0 ((kI S10 a0 45) - 1) r30 e31) (va_cwS 3 hts (gwS gw_31_8 gw_31_9 gw_31_10 gw_31_4) rfl rfl rfl (by decide +kernel) ⟨Nat.le_of_ble_eq_true rfl, Nat.le_of_ble_eq_true rfl⟩) hH hNE rfl hl.1 rfl (Nat.le_of_ble_eq_true rfl) dX10_sign_31 ⟨(Nat.le_of_ble_eq_true rfl), (Nat.le_of_ble_eq_true rfl)⟩ (fun H locs hH => ?_)
      refine lv_if_eq (tgt := 41) hx hb dX10_sign_34 (by decide) (fun c32 => ?_) (fun c32 => ?_)
      · have hf := ip hf c32
        exact Jj25 () _ _ ls hH (lv_sub hl [0, 4] rfl) hf
      · have hf := iq hf c32
        refine lv_iconst (v := 0) hx hb dX10_sign_37 (by decide) ?_
        refine lv_goto (tgt := 42) hx hb dX10_sign_38 (by decide) ?_
        exact Jj13 0 _ _ ls hH (lv_sub hl [0, 4] rfl) hf
  · have hf := iq hf c6
    refine lv_bipush (v := 32) hx hb dX10_sign_8 (by decide) ?_
    have hr9 := Option.some.inj hf
    subst hr9
    exact e_z (r := 32) hx hb hr hlocks rfl hH dX10_sign_10
set_option maxRecDepth 100000 in
def f_X10_apply_b152 (a0 : Nat) (p4 : Int32) (r25 : Int32) (x45 : Int32) (S46 : PS) : Option ((Int32 × PS) ⊕ ((PS))) := if kK S46 a0 = 14 then (if (kI S46 a0 45) ≤ x45 then (some (.inr S46)) else ((kQ S46 a0 44).bind fun a54 => if kK S46 a54 = 102 then (if ¬ (x45 < 0 ∨ kN S46 a54 ≤ x45.toNatClampNeg) then ((f_X10_puts S46 a0 (r25 + x45) (kI S46 a54 x45.toNatClampNeg) p4).bind fun r58 => lt (x45 + 1) fun x60 => some (.inl (x60, r58))) else none) else none)) else none
set_option maxRecDepth 100000 in
def f_X10_apply_b130 (a0 : Nat) (r25 : Int32) (x32 : Int32) (x40 : Int32) (S41 : PS) : Option ((Int32 × PS) ⊕ ((PS))) := if x32 ≤ x40 then (some (.inr S41)) else (if kK S41 a0 = 14 then ((f_X10_takesOut S41 a0 r25).bind fun r65 => lt (x40 + 1) fun x67 => some (.inl (x67, r65))) else none)
set_option maxRecDepth 100000 in
def f_X10_apply (S : PS) (a0 : Nat) (p1 : Int32) (p2 : Int32) (p3 : Int32) (p4 : Int32) : Option (PS × Int32) := (f_X10_isDesk S p1).bind fun r1 => lt (fun (x3 : Int32) => if kK S a0 = 14 then (lt (wI S a0 0 x3) fun S6 => if kK S6 a0 = 14 then (if (kI S6 a0 0) ≤ 0 then ((f_X10_isMade S6 a0 p1 p2 p3).bind fun r10 => lt r10.1 fun S12 => lt (fun (x14 : Int32) => if kK S12 a0 = 14 then (lt (wI S12 a0 0 x14) fun S17 => if kK S17 a0 = 14 then (if (kI S17 a0 0) ≤ 0 then ((kQ S17 a0 43).bind fun a21 => if kK S17 a21 = 101 then (if ¬ (p2 < 0 ∨ kN S17 a21 ≤ p2.toNatClampNeg) then ((f_X10_placeOf S17 a0 (kI S17 a21 p2.toNatClampNeg)).bind fun r25 => (kQ S17 a0 39).bind fun a27 => if ¬ (p2 < 0 ∨ kN S17 a21 ≤ p2.toNatClampNeg) then (if kK S17 a27 = 101 then (if ¬ ((kI S17 a21 p2.toNatClampNeg) < 0 ∨ kN S17 a27 ≤ (kI S17 a21 p2.toNatClampNeg).toNatClampNeg) then (lt ((kI S17 a27 (kI S17 a21 p2.toNatClampNeg).toNatClampNeg) - r25) fun x32 => lt (fun (x34 : Int32) => lt (wI S17 a0 0 x34) fun S36 => if kK S36 a0 = 14 then (if (kI S36 a0 0) ≤ 0 then (lt (fun (S42 : PS) => lt (fun (S47 : PS) => if kK S47 a0 = 14 then (some (S47, (kI S47 a0 3))) else none) fun k48 => (iter (fun (v : Int32 × PS) => f_X10_apply_b152 a0 p4 r25 v.1 v.2) kF (0, S42)).bind (fun (v : PS) => k48 v)) fun k43 => (iter (fun (v : Int32 × PS) => f_X10_apply_b130 a0 r25 x32 v.1 v.2) kF (0, S36)).bind (fun (v : PS) => k43 v)) else (some (S36, 0))) else none) fun j35 => if (((kI S17 a0 3) - x32) + (kI S17 a0 45)) ≤ (160 : Int32) then (j35 0) else (j35 3)) else none) else none) else none) else none) else none) else (some (S17, 0))) else none) else none) fun j15 => if r10.2 = 0 then (j15 2) else (j15 0)) else (some (S6, 0))) else none) else none) fun j4 => lt (fun (u75 : Unit) => j4 1) fun j74 => if r1 = 0 then (j74 ()) else ((f_X10_in S p4 0 3).bind fun r78 => if r78 = 0 then (j74 ()) else (j4 0))
abbrev rmX10_apply : Room := { frames := 5, cells := 0, slots := 0, locals := 127 }
set_option maxHeartbeats 4000000 in
set_option maxRecDepth 100000 in
theorem c_X10_apply (l : Launch) (D : va_G × Nat) (S : PS) (a0 : Nat) (p1 : Int32) (p2 : Int32) (p3 : Int32) (p4 : Int32) (r : PS × Int32) (hf : f_X10_apply S a0 p1 p2 p3 p4 = some r) : MI l D yX10_apply wsX10_apply rmX10_apply S [.ref a0, .int p1, .int p2, .int p3, .int p4] r.1 r.2 0 0 := by
  unfold f_X10_apply at hf
  refine Met.ofW (cc := cX10_apply) (maxL := 8) (ret := (some .int)) (by decide) rfl ?_
  intro p e s m args below meth c s₁ B hml hv
  obtain ⟨rfl, hH0, hNE⟩ := hv
  have hx := B.exec
  have hb := B.bytes
  have hr := B.returns
  have hts := atoms_spec (ws := wsX10_apply) B.pre
  have hown : s.vm.findClass RX10 = some m.cls := findClass_of_methodNamed B.named
  have hlocks := B.notSynchronized
  have hH : HI D S S s s.heap [] := HI.start hH0
  have hl := lv_entry ([.ref a0, .int p1, .int p2, .int p3, .int p4]) (n := 8) (Nat.le_of_ble_eq_true rfl)
  rw [lg_entry_eq]
  generalize (lg_sl ([.ref a0, .int p1, .int p2, .int p3, .int p4]) ++ List.replicate (8 - (lg_sl ([.ref a0, .int p1, .int p2, .int p3, .int p4])).length) Slot.unset).toArray = ls at hl ⊢
  have hl : lv_has ls 8 [(0, .ref a0), (1, .int p1), (2, .int p2), (3, .int p3), (4, .int p4)] := hl
  refine lv_aload_n hx hb dX10_apply_0 rfl (lv_at hl 0 rfl) ?_
  refine lv_iload_n hx hb dX10_apply_1 rfl (lv_at hl 1 rfl) ?_
  obtain ⟨r1, e2, hf⟩ := ob hf
  refine r_callSi (As := [.int p1]) ⟨hx, hb, hml, hown, hts⟩ (c_X10_isDesk l D S p1 r1 e2) (va_cwS 1 hts (gwS gw_31_12 gw_31_13 gw_31_10 gw_31_7) rfl rfl rfl (by decide +kernel) ⟨Nat.le_of_ble_eq_true rfl, Nat.le_of_ble_eq_true rfl⟩) hH hNE rfl hl.1 rfl (Nat.le_of_ble_eq_true rfl) dX10_apply_2 ⟨(Nat.le_of_ble_eq_true rfl), (Nat.le_of_ble_eq_true rfl)⟩ (fun H locs hH => ?_)
  obtain ⟨j4, e73, hf⟩ := ol hf
  have Jj4 : ∀ (x3 : Int32) (H : Heap) (locs : List Loc) (ls : Array Slot), HI D S S s H locs → lv_has ls 8 [(0, .ref a0), (1, .int p1), (2, .int p2), (3, .int p3), (4, .int p4)] → j4 x3 = some r → GI p l e (headSpec wsX10_apply rmX10_apply).room s m ([.ref a0, .int p1, .int p2, .int p3, .int p4] : List Value).toArray below meth c D S r.1 r.2 H locs 0 0 0 0 (F0 m 23 ls [.int x3, .ref a0]) := by
    intro x3 H locs ls hH hl hf
    rw [← e73] at hf
    obtain ⟨ek5, hf⟩ := oc hf
    refine r_putI hx hb 13 hts (fun w h => List.mem_cons_of_mem _ (mwsX100 w h)) tyX10 tyX10_ok nmX10 hown hH ek5 (by decide) rfl 0 (by decide) rfl (hts (.fieldLink RX10 123 "HousestyleModel" "thrown" "I") (List.mem_cons_of_mem _ gw_31_3)) (fun _ h9 => h9) (Or.inl rfl) (ty := .int) (by decide +kernel) rfl rfl dX10_apply_23 (fun H locs hH => ?_)
    obtain ⟨S6, e7, hf⟩ := ol hf
    rw [e7] at hH
    refine lv_aload_n hx hb dX10_apply_26 rfl (lv_at hl 0 rfl) ?_
    obtain ⟨ek8, hf⟩ := oc hf
    refine r_getI hx hb 13 hts (fun w h => List.mem_cons_of_mem _ (mwsX100 w h)) hown hH ek8 (by decide) rfl 0 (by decide) rfl (hts (.fieldLink RX10 123 "HousestyleModel" "thrown" "I") (List.mem_cons_of_mem _ gw_31_3)) (fun _ h9 => h9) dX10_apply_27 ?_
    refine lv_if_le (tgt := 35) hx hb dX10_apply_30 (by decide) (fun c9 => ?_) (fun c9 => ?_)
    · have hf := ip hf c9
      refine lv_aload_n hx hb dX10_apply_35 rfl (lv_at hl 0 rfl) ?_
      refine lv_aload_n hx hb dX10_apply_36 rfl (lv_at hl 0 rfl) ?_
      refine lv_iload_n hx hb dX10_apply_37 rfl (lv_at hl 1 rfl) ?_
      refine lv_iload_n hx hb dX10_apply_38 rfl (lv_at hl 2 rfl) ?_
      refine lv_iload_n hx hb dX10_apply_39 rfl (lv_at hl 3 rfl) ?_
      obtain ⟨r10, e11, hf⟩ := ob hf
      refine r_callVi (As := [.int p1, .int p2, .int p3]) ⟨hx, hb, hml, hown, hts⟩ (c_X10_isMade l D S6 a0 p1 p2 p3 r10 e11) (cwV 3 hts (gwV gw_37_21 gw_37_22 gw_37_23 gw_31_10 gw_37_16) rfl rfl rfl (by decide +kernel) ⟨Nat.le_of_ble_eq_true rfl, Nat.le_of_ble_eq_true rfl⟩) hH hNE 13 ek8 (by decide) rfl rfl rfl hl.1 rfl (Nat.le_of_ble_eq_true rfl) dX10_apply_40 ⟨(Nat.le_of_ble_eq_true rfl), (Nat.le_of_ble_eq_true rfl)⟩ (fun H locs hH => ?_)
      obtain ⟨S12, e13, hf⟩ := ol hf
      rw [e13] at hH
      obtain ⟨j15, e71, hf⟩ := ol hf
      have Jj15 : ∀ (x14 : Int32) (H : Heap) (locs : List Loc) (ls : Array Slot), HI D S S12 s H locs → lv_has ls 8 [(0, .ref a0), (2, .int p2), (4, .int p4)] → j15 x14 = some r → GI p l e (headSpec wsX10_apply rmX10_apply).room s m ([.ref a0, .int p1, .int p2, .int p3, .int p4] : List Value).toArray below meth c D S r.1 r.2 H locs 0 0 0 0 (F0 m 51 ls [.int x14, .ref a0]) := by
        intro x14 H locs ls hH hl hf
        rw [← e71] at hf
        obtain ⟨ek16, hf⟩ := oc hf
        refine r_putI hx hb 13 hts (fun w h => List.mem_cons_of_mem _ (mwsX100 w h)) tyX10 tyX10_ok nmX10 hown hH ek16 (by decide) rfl 0 (by decide) rfl (hts (.fieldLink RX10 123 "HousestyleModel" "thrown" "I") (List.mem_cons_of_mem _ gw_31_3)) (fun _ h9 => h9) (Or.inl rfl) (ty := .int) (by decide +kernel) rfl rfl dX10_apply_51 (fun H locs hH => ?_)
        obtain ⟨S17, e18, hf⟩ := ol hf
        rw [e18] at hH
        refine lv_aload_n hx hb dX10_apply_54 rfl (lv_at hl 0 rfl) ?_
        obtain ⟨ek19, hf⟩ := oc hf
        refine r_getI hx hb 13 hts (fun w h => List.mem_cons_of_mem _ (mwsX100 w h)) hown hH ek19 (by decide) rfl 0 (by decide) rfl (hts (.fieldLink RX10 123 "HousestyleModel" "thrown" "I") (List.mem_cons_of_mem _ gw_31_3)) (fun _ h9 => h9) dX10_apply_55 ?_
        refine lv_if_le (tgt := 63) hx hb dX10_apply_58 (by decide) (fun c20 => ?_) (fun c20 => ?_)
        · have hf := ip hf c20
          refine lv_aload_n hx hb dX10_apply_63 rfl (lv_at hl 0 rfl) ?_
          refine lv_aload_n hx hb dX10_apply_64 rfl (lv_at hl 0 rfl) ?_
          obtain ⟨a21, e22, hf⟩ := ob hf
          refine r_getQ hx hb 13 hts (fun w h => List.mem_cons_of_mem _ (mwsX100 w h)) hown hH ek19 (by decide) rfl 43 (by decide) rfl (hts (.fieldLink RX10 117 "HousestyleModel" "takes" "[I") (List.mem_cons_of_mem _ gw_31_0)) (fun _ h9 => h9) dX10_apply_65 e22 ?_
          refine lv_iload_n hx hb dX10_apply_68 rfl (lv_at hl 1 rfl) ?_
          obtain ⟨ek23, hf⟩ := oc hf
          obtain ⟨ei24, hf⟩ := oc hf
          refine r_iald hx hb hH ek23 ei24 dX10_apply_69 ?_
          obtain ⟨r25, e26, hf⟩ := ob hf
          refine r_callVi (As := [.int (kI S17 a21 p2.toNatClampNeg)]) ⟨hx, hb, hml, hown, hts⟩ (c_X10_placeOf l D S17 a0 (kI S17 a21 p2.toNatClampNeg) r25 e26) (cwV 1 hts (gwV gw_36_4 gw_36_5 gw_36_6 gw_31_10 gw_36_2) rfl rfl rfl (by decide +kernel) ⟨Nat.le_of_ble_eq_true rfl, Nat.le_of_ble_eq_true rfl⟩) hH hNE 13 ek19 (by decide) rfl rfl rfl hl.1 rfl (Nat.le_of_ble_eq_true rfl) dX10_apply_70 ⟨(Nat.le_of_ble_eq_true rfl), (Nat.le_of_ble_eq_true rfl)⟩ (fun H locs hH => ?_)
          refine lv_istore (lv' := [(5, .int r25), (0, .ref a0), (2, .int p2), (4, .int p4)]) hx hb dX10_apply_73 hl (by decide) rfl (fun ls hl => ?_)
          refine lv_aload_n hx hb dX10_apply_75 rfl (lv_at hl 1 rfl) ?_
          obtain ⟨a27, e28, hf⟩ := ob hf
          refine r_getQ hx hb 13 hts (fun w h => List.mem_cons_of_mem _ (mwsX100 w h)) hown hH ek19 (by decide) rfl 39 (by decide) rfl (hts (.fieldLink RX10 108 "HousestyleModel" "foundTo" "[I") (List.mem_cons_of_mem _ gw_30_21)) (fun _ h9 => h9) dX10_apply_76 e28 ?_
          refine lv_aload_n hx hb dX10_apply_79 rfl (lv_at hl 1 rfl) ?_
          refine r_getQ hx hb 13 hts (fun w h => List.mem_cons_of_mem _ (mwsX100 w h)) hown hH ek19 (by decide) rfl 43 (by decide) rfl (hts (.fieldLink RX10 117 "HousestyleModel" "takes" "[I") (List.mem_cons_of_mem _ gw_31_0)) (fun _ h9 => h9) dX10_apply_80 e22 ?_
          refine lv_iload_n hx hb dX10_apply_83 rfl (lv_at hl 2 rfl) ?_
          obtain ⟨ei29, hf⟩ := oc hf
          refine r_iald hx hb hH ek23 ei29 dX10_apply_84 ?_
          obtain ⟨ek30, hf⟩ := oc hf
          obtain ⟨ei31, hf⟩ := oc hf
          refine r_iald hx hb hH ek30 ei31 dX10_apply_85 ?_
          refine lv_iload hx hb dX10_apply_86 (lv_at hl 0 rfl) ?_
          refine lv_isub hx hb dX10_apply_88 ?_
          obtain ⟨x32, e33, hf⟩ := ol hf
          refine lv_topE e33 ?_
          refine lv_istore (lv' := [(6, .int x32), (5, .int r25), (0, .ref a0), (2, .int p2), (4, .int p4)]) hx hb dX10_apply_89 hl (by decide) rfl (fun ls hl => ?_)
          refine lv_aload_n hx hb dX10_apply_91 rfl (lv_at hl 2 rfl) ?_
          refine lv_aload_n hx hb dX10_apply_92 rfl (lv_at hl 2 rfl) ?_
          refine r_getI hx hb 13 hts (fun w h => List.mem_cons_of_mem _ (mwsX100 w h)) hown hH ek19 (by decide) rfl 3 (by decide) rfl (hts (.fieldLink RX10 156 "HousestyleModel" "length" "I") (List.mem_cons_of_mem _ gw_32_2)) (fun _ h9 => h9) dX10_apply_93 ?_
          refine lv_iload hx hb dX10_apply_96 (lv_at hl 0 rfl) ?_
          refine lv_isub hx hb dX10_apply_98 ?_
          refine lv_aload_n hx hb dX10_apply_99 rfl (lv_at hl 2 rfl) ?_
          refine r_getI hx hb 13 hts (fun w h => List.mem_cons_of_mem _ (mwsX100 w h)) hown hH ek19 (by decide) rfl 45 (by decide) rfl (hts (.fieldLink RX10 260 "HousestyleModel" "outSize" "I") (List.mem_cons_of_mem _ gw_37_11)) (fun _ h9 => h9) dX10_apply_100 ?_
          refine lv_iadd hx hb dX10_apply_103 ?_
          refine lv_sipush (v := 160) hx hb dX10_apply_104 (by decide) ?_
          obtain ⟨j35, e69, hf⟩ := ol hf
          have Jj35 : ∀ (x34 : Int32) (H : Heap) (locs : List Loc) (ls : Array Slot), HI D S S17 s H locs → lv_has ls 8 [(0, .ref a0), (4, .int p4), (5, .int r25), (6, .int x32)] → j35 x34 = some r → GI p l e (headSpec wsX10_apply rmX10_apply).room s m ([.ref a0, .int p1, .int p2, .int p3, .int p4] : List Value).toArray below meth c D S r.1 r.2 H locs 0 0 0 0 (F0 m 115 ls [.int x34, .ref a0]) := by
            intro x34 H locs ls hH hl hf
            rw [← e69] at hf
            refine r_putI hx hb 13 hts (fun w h => List.mem_cons_of_mem _ (mwsX100 w h)) tyX10 tyX10_ok nmX10 hown hH ek19 (by decide) rfl 0 (by decide) rfl (hts (.fieldLink RX10 123 "HousestyleModel" "thrown" "I") (List.mem_cons_of_mem _ gw_31_3)) (fun _ h9 => h9) (Or.inl rfl) (ty := .int) (by decide +kernel) rfl rfl dX10_apply_115 (fun H locs hH => ?_)
            obtain ⟨S36, e37, hf⟩ := ol hf
            rw [e37] at hH
            refine lv_aload_n hx hb dX10_apply_118 rfl (lv_at hl 0 rfl) ?_
            obtain ⟨ek38, hf⟩ := oc hf
            refine r_getI hx hb 13 hts (fun w h => List.mem_cons_of_mem _ (mwsX100 w h)) hown hH ek38 (by decide) rfl 0 (by decide) rfl (hts (.fieldLink RX10 123 "HousestyleModel" "thrown" "I") (List.mem_cons_of_mem _ gw_31_3)) (fun _ h9 => h9) dX10_apply_119 ?_
            refine lv_if_le (tgt := 127) hx hb dX10_apply_122 (by decide) (fun c39 => ?_) (fun c39 => ?_)
            · have hf := ip hf c39
              refine lv_iconst (v := 0) hx hb dX10_apply_127 (by decide) ?_
              refine lv_istore (lv' := [(7, .int 0), (0, .ref a0), (4, .int p4), (5, .int r25), (6, .int x32)]) hx hb dX10_apply_128 hl (by decide) rfl (fun ls hl => ?_)
              obtain ⟨k43, e44, hf⟩ := ol hf
              have Xk43 : ∀ (S42 : PS) (H : Heap) (locs : List Loc) (ls : Array Slot), HI D S S42 s H locs → lv_has ls 8 [(0, .ref a0), (4, .int p4), (5, .int r25)] → k43 S42 = some r → GI p l e (headSpec wsX10_apply rmX10_apply).room s m ([.ref a0, .int p1, .int p2, .int p3, .int p4] : List Value).toArray below meth c D S r.1 r.2 H locs 0 0 0 0 (F0 m 149 ls []) := by
                intro S42 H locs ls hH hl hf
                rw [← e44] at hf
                refine lv_iconst (v := 0) hx hb dX10_apply_149 (by decide) ?_
                refine lv_istore (lv' := [(7, .int 0), (0, .ref a0), (4, .int p4), (5, .int r25)]) hx hb dX10_apply_150 hl (by decide) rfl (fun ls hl => ?_)
                obtain ⟨k48, e49, hf⟩ := ol hf
                have Xk48 : ∀ (S47 : PS) (H : Heap) (locs : List Loc) (ls : Array Slot), HI D S S47 s H locs → lv_has ls 8 [(0, .ref a0)] → k48 S47 = some r → GI p l e (headSpec wsX10_apply rmX10_apply).room s m ([.ref a0, .int p1, .int p2, .int p3, .int p4] : List Value).toArray below meth c D S r.1 r.2 H locs 0 0 0 0 (F0 m 185 ls []) := by
                  intro S47 H locs ls hH hl hf
                  rw [← e49] at hf
                  refine lv_aload_n hx hb dX10_apply_185 rfl (lv_at hl 0 rfl) ?_
                  obtain ⟨ek50, hf⟩ := oc hf
                  refine r_getI hx hb 13 hts (fun w h => List.mem_cons_of_mem _ (mwsX100 w h)) hown hH ek50 (by decide) rfl 3 (by decide) rfl (hts (.fieldLink RX10 156 "HousestyleModel" "length" "I") (List.mem_cons_of_mem _ gw_32_2)) (fun _ h9 => h9) dX10_apply_186 ?_
                  have hr9 := Option.some.inj hf
                  subst hr9
                  exact e_i hx hb hr hlocks hH dX10_apply_189
                obtain ⟨o51, eo51, hq51f⟩ := ob hf
                have Lo51 : ∀ (n : Nat) (x45 : Int32) (S46 : PS), iter (fun (v : Int32 × PS) => f_X10_apply_b152 a0 p4 r25 v.1 v.2) n (x45, S46) = some o51 → ∀ (H : Heap) (locs : List Loc) (ls : Array Slot), HI D S S46 s H locs → lv_has ls 8 [(0, .ref a0), (4, .int p4), (5, .int r25), (7, .int x45)] → GI p l e (headSpec wsX10_apply rmX10_apply).room s m ([.ref a0, .int p1, .int p2, .int p3, .int p4] : List Value).toArray below meth c D S r.1 r.2 H locs 0 0 0 0 (F0 m 152 ls []) := by
                  intro n
                  induction n with
                  | zero => intro x45 S46 hi; cases hi
                  | succ n ih51 =>
                    intro x45 S46 hi H locs ls hH hl
                    obtain ⟨q51_, hf, hq51⟩ := iter_s hi
                    have hf : f_X10_apply_b152 a0 p4 r25 x45 S46 = some q51_ := hf
                    unfold f_X10_apply_b152 at hf
                    refine lv_iload hx hb dX10_apply_152 (lv_at hl 3 rfl) ?_
                    refine lv_aload_n hx hb dX10_apply_154 rfl (lv_at hl 0 rfl) ?_
                    obtain ⟨ek52, hf⟩ := oc hf
                    refine r_getI hx hb 13 hts (fun w h => List.mem_cons_of_mem _ (mwsX100 w h)) hown hH ek52 (by decide) rfl 45 (by decide) rfl (hts (.fieldLink RX10 260 "HousestyleModel" "outSize" "I") (List.mem_cons_of_mem _ gw_37_11)) (fun _ h9 => h9) dX10_apply_155 ?_
                    refine lv_icmp_ge (tgt := 185) hx hb dX10_apply_158 (by decide) (fun c53 => ?_) (fun c53 => ?_)
                    · have hf := ip hf c53
                      cases hf
                      have hf9 := itR (K := (fun (v : PS) => k48 v)) hq51 hq51f
                      exact Xk48 S46 _ _ ls hH (lv_sub hl [0] rfl) hf9
                    · have hf := iq hf c53
                      refine lv_aload_n hx hb dX10_apply_161 rfl (lv_at hl 0 rfl) ?_
                      refine lv_iload hx hb dX10_apply_162 (lv_at hl 2 rfl) ?_
                      refine lv_iload hx hb dX10_apply_164 (lv_at hl 3 rfl) ?_
                      refine lv_iadd hx hb dX10_apply_166 ?_
                      refine lv_aload_n hx hb dX10_apply_167 rfl (lv_at hl 0 rfl) ?_
                      obtain ⟨a54, e55, hf⟩ := ob hf
                      refine r_getQ hx hb 13 hts (fun w h => List.mem_cons_of_mem _ (mwsX100 w h)) hown hH ek52 (by decide) rfl 44 (by decide) rfl (hts (.fieldLink RX10 120 "HousestyleModel" "out" "[C") (List.mem_cons_of_mem _ gw_31_1)) (fun _ h9 => h9) dX10_apply_168 e55 ?_
                      refine lv_iload hx hb dX10_apply_171 (lv_at hl 3 rfl) ?_
                      obtain ⟨ek56, hf⟩ := oc hf
                      obtain ⟨ei57, hf⟩ := oc hf
                      refine r_cald hx hb hH ek56 ei57 dX10_apply_173 ?_
                      refine lv_iload hx hb dX10_apply_174 (lv_at hl 1 rfl) ?_
                      obtain ⟨r58, e59, hf⟩ := ob hf
                      refine r_callVv (As := [.int (r25 + x45), .int (kI S46 a54 x45.toNatClampNeg), .int p4]) ⟨hx, hb, hml, hown, hts⟩ (c_X10_puts l D S46 a0 (r25 + x45) (kI S46 a54 x45.toNatClampNeg) p4 r58 e59) (cwV 3 hts (gwV gw_32_21 gw_32_22 gw_32_23 gw_31_10 gw_32_15) rfl rfl rfl (by decide +kernel) ⟨Nat.le_of_ble_eq_true rfl, Nat.le_of_ble_eq_true rfl⟩) hH hNE 13 ek52 (by decide) rfl rfl rfl hl.1 rfl (Nat.le_of_ble_eq_true rfl) dX10_apply_176 ⟨(Nat.le_of_ble_eq_true rfl), (Nat.le_of_ble_eq_true rfl)⟩ (fun H locs hH => ?_)
                      obtain ⟨x60, e61, hf⟩ := ol hf
                      refine lv_iinc (v := x60) (lv' := [(7, .int x60), (0, .ref a0), (4, .int p4), (5, .int r25)]) hx hb dX10_apply_179 hl (k := 3) rfl (by rw [← e61]; rfl) (by decide) rfl (fun ls hl => ?_)
                      refine lv_goto (tgt := 152) hx hb dX10_apply_182 (by decide) ?_
                      cases hf
                      exact ih51 x60 r58 hq51 _ _ ls hH (lv_sub hl [1, 2, 3, 0] rfl)
                exact Lo51 kF 0 S42 eo51 _ _ ls hH (lv_sub hl [1, 2, 3, 0] rfl)
              obtain ⟨o62, eo62, hq62f⟩ := ob hf
              have Lo62 : ∀ (n : Nat) (x40 : Int32) (S41 : PS), iter (fun (v : Int32 × PS) => f_X10_apply_b130 a0 r25 x32 v.1 v.2) n (x40, S41) = some o62 → ∀ (H : Heap) (locs : List Loc) (ls : Array Slot), HI D S S41 s H locs → lv_has ls 8 [(0, .ref a0), (4, .int p4), (5, .int r25), (6, .int x32), (7, .int x40)] → GI p l e (headSpec wsX10_apply rmX10_apply).room s m ([.ref a0, .int p1, .int p2, .int p3, .int p4] : List Value).toArray below meth c D S r.1 r.2 H locs 0 0 0 0 (F0 m 130 ls []) := by
                intro n
                induction n with
                | zero => intro x40 S41 hi; cases hi
                | succ n ih62 =>
                  intro x40 S41 hi H locs ls hH hl
                  obtain ⟨q62_, hf, hq62⟩ := iter_s hi
                  have hf : f_X10_apply_b130 a0 r25 x32 x40 S41 = some q62_ := hf
                  unfold f_X10_apply_b130 at hf
                  refine lv_iload hx hb dX10_apply_130 (lv_at hl 4 rfl) ?_
                  refine lv_iload hx hb dX10_apply_132 (lv_at hl 3 rfl) ?_
                  refine lv_icmp_ge (tgt := 149) hx hb dX10_apply_134 (by decide) (fun c63 => ?_) (fun c63 => ?_)
                  · have hf := ip hf c63
                    cases hf
                    have hf9 := itR (K := (fun (v : PS) => k43 v)) hq62 hq62f
                    exact Xk43 S41 _ _ ls hH (lv_sub hl [0, 1, 2] rfl) hf9
                  · have hf := iq hf c63
                    refine lv_aload_n hx hb dX10_apply_137 rfl (lv_at hl 0 rfl) ?_
                    refine lv_iload hx hb dX10_apply_138 (lv_at hl 2 rfl) ?_
                    obtain ⟨ek64, hf⟩ := oc hf
                    obtain ⟨r65, e66, hf⟩ := ob hf
                    refine r_callVv (As := [.int r25]) ⟨hx, hb, hml, hown, hts⟩ (c_X10_takesOut l D S41 a0 r25 r65 e66) (cwV 1 hts (gwV gw_33_1 gw_33_2 gw_33_3 gw_31_10 gw_32_19) rfl rfl rfl (by decide +kernel) ⟨Nat.le_of_ble_eq_true rfl, Nat.le_of_ble_eq_true rfl⟩) hH hNE 13 ek64 (by decide) rfl rfl rfl hl.1 rfl (Nat.le_of_ble_eq_true rfl) dX10_apply_140 ⟨(Nat.le_of_ble_eq_true rfl), (Nat.le_of_ble_eq_true rfl)⟩ (fun H locs hH => ?_)
                    obtain ⟨x67, e68, hf⟩ := ol hf
                    refine lv_iinc (v := x67) (lv' := [(7, .int x67), (0, .ref a0), (4, .int p4), (5, .int r25), (6, .int x32)]) hx hb dX10_apply_143 hl (k := 4) rfl (by rw [← e68]; rfl) (by decide) rfl (fun ls hl => ?_)
                    refine lv_goto (tgt := 130) hx hb dX10_apply_146 (by decide) ?_
                    cases hf
                    exact ih62 x67 r65 hq62 _ _ ls hH (lv_sub hl [1, 2, 3, 4, 0] rfl)
              exact Lo62 kF 0 S36 eo62 _ _ ls hH (lv_sub hl [1, 2, 3, 4, 0] rfl)
            · have hf := iq hf c39
              refine lv_iconst (v := 0) hx hb dX10_apply_125 (by decide) ?_
              have hr9 := Option.some.inj hf
              subst hr9
              exact e_i hx hb hr hlocks hH dX10_apply_126
          refine lv_icmp_le (tgt := 114) hx hb dX10_apply_107 (by decide) (fun c70 => ?_) (fun c70 => ?_)
          · have hf := ip hf c70
            refine lv_iconst (v := 0) hx hb dX10_apply_114 (by decide) ?_
            exact Jj35 0 _ _ ls hH (lv_sub hl [2, 4, 1, 0] rfl) hf
          · have hf := iq hf c70
            refine lv_iconst (v := 3) hx hb dX10_apply_110 (by decide) ?_
            refine lv_goto (tgt := 115) hx hb dX10_apply_111 (by decide) ?_
            exact Jj35 3 _ _ ls hH (lv_sub hl [2, 4, 1, 0] rfl) hf
        · have hf := iq hf c20
          refine lv_iconst (v := 0) hx hb dX10_apply_61 (by decide) ?_
          have hr9 := Option.some.inj hf
          subst hr9
          exact e_i hx hb hr hlocks hH dX10_apply_62
      refine lv_if_eq (tgt := 50) hx hb dX10_apply_43 (by decide) (fun c72 => ?_) (fun c72 => ?_)
      · have hf := ip hf c72
        refine lv_iconst (v := 2) hx hb dX10_apply_50 (by decide) ?_
        exact Jj15 2 _ _ ls hH (lv_sub hl [0, 2, 4] rfl) hf
      · have hf := iq hf c72
        refine lv_iconst (v := 0) hx hb dX10_apply_46 (by decide) ?_
        refine lv_goto (tgt := 51) hx hb dX10_apply_47 (by decide) ?_
        exact Jj15 0 _ _ ls hH (lv_sub hl [0, 2, 4] rfl) hf
    · have hf := iq hf c9
      refine lv_iconst (v := 0) hx hb dX10_apply_33 (by decide) ?_
      have hr9 := Option.some.inj hf
      subst hr9
      exact e_i hx hb hr hlocks hH dX10_apply_34
  obtain ⟨j74, e76, hf⟩ := ol hf
  have Jj74 : ∀ (u75 : Unit) (H : Heap) (locs : List Loc) (ls : Array Slot), HI D S S s H locs → lv_has ls 8 [(0, .ref a0), (1, .int p1), (2, .int p2), (3, .int p3), (4, .int p4)] → j74 u75 = some r → GI p l e (headSpec wsX10_apply rmX10_apply).room s m ([.ref a0, .int p1, .int p2, .int p3, .int p4] : List Value).toArray below meth c D S r.1 r.2 H locs 0 0 0 0 (F0 m 22 ls [.ref a0]) := by
    intro u75 H locs ls hH hl hf
    rw [← e76] at hf
    refine lv_iconst (v := 1) hx hb dX10_apply_22 (by decide) ?_
    exact Jj4 1 _ _ ls hH (lv_sub hl [0, 1, 2, 3, 4] rfl) hf
  refine lv_if_eq (tgt := 22) hx hb dX10_apply_5 (by decide) (fun c77 => ?_) (fun c77 => ?_)
  · have hf := ip hf c77
    exact Jj74 () _ _ ls hH (lv_sub hl [0, 1, 2, 3, 4] rfl) hf
  · have hf := iq hf c77
    refine lv_iload hx hb dX10_apply_8 (lv_at hl 4 rfl) ?_
    refine lv_iconst (v := 0) hx hb dX10_apply_10 (by decide) ?_
    refine lv_iconst (v := 3) hx hb dX10_apply_11 (by decide) ?_
    obtain ⟨r78, e79, hf⟩ := ob hf
    refine r_callSi (As := [.int p4, .int 0, .int 3]) ⟨hx, hb, hml, hown, hts⟩ (c_X10_in l D S p4 0 3 r78 e79) (va_cwS 3 hts (gwS gw_31_8 gw_31_9 gw_31_10 gw_31_4) rfl rfl rfl (by decide +kernel) ⟨Nat.le_of_ble_eq_true rfl, Nat.le_of_ble_eq_true rfl⟩) hH hNE rfl hl.1 rfl (Nat.le_of_ble_eq_true rfl) dX10_apply_12 ⟨(Nat.le_of_ble_eq_true rfl), (Nat.le_of_ble_eq_true rfl)⟩ (fun H locs hH => ?_)
    refine lv_if_eq (tgt := 22) hx hb dX10_apply_15 (by decide) (fun c80 => ?_) (fun c80 => ?_)
    · have hf := ip hf c80
      exact Jj74 () _ _ ls hH (lv_sub hl [0, 1, 2, 3, 4] rfl) hf
    · have hf := iq hf c80
      refine lv_iconst (v := 0) hx hb dX10_apply_18 (by decide) ?_
      refine lv_goto (tgt := 23) hx hb dX10_apply_19 (by decide) ?_
      exact Jj4 0 _ _ ls hH (lv_sub hl [0, 1, 2, 3, 4] rfl) hf
set_option maxRecDepth 100000 in
def f_X10_ignore (S : PS) (a0 : Nat) (p1 : Int32) (p2 : Int32) : Option (PS × Int32) := if kK S a0 = 14 then ((f_X10_noDesk S a0 p1).bind fun r2 => lt r2.1 fun S4 => if r2.2 = 0 then (if kK S4 a0 = 14 then ((f_X10_look S4 a0 p1).bind fun r8 => if kK r8 a0 = 14 then ((f_X10_in r8 p2 0 ((kI r8 a0 42) - 1)).bind fun r11 => lt (fun (x13 : Int32) => lt (wI r8 a0 0 x13) fun S15 => if kK S15 a0 = 14 then (if (kI S15 a0 0) ≤ 0 then ((kQ S15 a0 26).bind fun a19 => if kK S15 a19 = 101 then (if ¬ (p1 < 0 ∨ kN S15 a19 ≤ p1.toNatClampNeg) then (lt ((p1 * 20) + (kI S15 a19 p1.toNatClampNeg)) fun x23 => (kQ S15 a0 27).bind fun a25 => (kQ S15 a0 40).bind fun a27 => (kQ S15 a0 43).bind fun a29 => if kK S15 a29 = 101 then (if ¬ (p2 < 0 ∨ kN S15 a29 ≤ p2.toNatClampNeg) then (if kK S15 a27 = 101 then (if ¬ ((kI S15 a29 p2.toNatClampNeg) < 0 ∨ kN S15 a27 ≤ (kI S15 a29 p2.toNatClampNeg).toNatClampNeg) then (if kK S15 a25 = 101 then (if ¬ (x23 < 0 ∨ kN S15 a25 ≤ x23.toNatClampNeg) then (lt (wI S15 a25 x23.toNatClampNeg (kI S15 a27 (kI S15 a29 p2.toNatClampNeg).toNatClampNeg)) fun S37 => if kK S37 a0 = 14 then ((kQ S37 a0 28).bind fun a40 => (kQ S37 a0 43).bind fun a42 => if kK S37 a42 = 101 then (if ¬ (p2 < 0 ∨ kN S37 a42 ≤ p2.toNatClampNeg) then ((f_X10_placeOf S37 a0 (kI S37 a42 p2.toNatClampNeg)).bind fun r46 => if kK S37 a40 = 101 then (if ¬ (x23 < 0 ∨ kN S37 a40 ≤ x23.toNatClampNeg) then (lt (wI S37 a40 x23.toNatClampNeg r46) fun S50 => if kK S50 a0 = 14 then ((kQ S50 a0 29).bind fun a53 => (kQ S50 a0 39).bind fun a55 => (kQ S50 a0 43).bind fun a57 => if kK S50 a57 = 101 then (if ¬ (p2 < 0 ∨ kN S50 a57 ≤ p2.toNatClampNeg) then (if kK S50 a55 = 101 then (if ¬ ((kI S50 a57 p2.toNatClampNeg) < 0 ∨ kN S50 a55 ≤ (kI S50 a57 p2.toNatClampNeg).toNatClampNeg) then (if kK S50 a53 = 101 then (if ¬ (x23 < 0 ∨ kN S50 a53 ≤ x23.toNatClampNeg) then (lt (wI S50 a53 x23.toNatClampNeg (kI S50 a55 (kI S50 a57 p2.toNatClampNeg).toNatClampNeg)) fun S65 => if kK S65 a0 = 14 then ((kQ S65 a0 26).bind fun a68 => if kK S65 a68 = 101 then (if ¬ (p1 < 0 ∨ kN S65 a68 ≤ p1.toNatClampNeg) then (if ¬ (p1 < 0 ∨ kN S65 a68 ≤ p1.toNatClampNeg) then (lt (wI S65 a68 p1.toNatClampNeg ((kI S65 a68 p1.toNatClampNeg) + 1)) fun S73 => if kK S73 a0 = 14 then ((kQ S73 a0 26).bind fun a76 => if kK S73 a76 = 101 then (if ¬ (p1 < 0 ∨ kN S73 a76 ≤ p1.toNatClampNeg) then (some (S73, (kI S73 a76 p1.toNatClampNeg))) else none) else none) else none) else none) else none) else none) else none) else none) else none) else none) else none) else none) else none) else none) else none) else none) else none) else none) else none) else none) else none) else none) else none) else none) else none) else none) else none) else (some (S15, 0))) else none) fun j14 => if r11 = 0 then (j14 2) else ((kQ r8 a0 26).bind fun a82 => if kK r8 a82 = 101 then (if ¬ (p1 < 0 ∨ kN r8 a82 ≤ p1.toNatClampNeg) then (if (kI r8 a82 p1.toNatClampNeg) = (20 : Int32) then (j14 3) else (j14 0)) else none) else none)) else none) else none) else (some (S4, 0))) else none
abbrev rmX10_ignore : Room := { frames := 4, cells := 0, slots := 0, locals := 100 }
set_option maxHeartbeats 4000000 in
set_option maxRecDepth 100000 in
theorem c_X10_ignore (l : Launch) (D : va_G × Nat) (S : PS) (a0 : Nat) (p1 : Int32) (p2 : Int32) (r : PS × Int32) (hf : f_X10_ignore S a0 p1 p2 = some r) : MI l D yX10_ignore wsX10_ignore rmX10_ignore S [.ref a0, .int p1, .int p2] r.1 r.2 0 0 := by
  unfold f_X10_ignore at hf
  refine Met.ofW (cc := cX10_ignore) (maxL := 4) (ret := (some .int)) (by decide) rfl ?_
  intro p e s m args below meth c s₁ B hml hv
  obtain ⟨rfl, hH0, hNE⟩ := hv
  have hx := B.exec
  have hb := B.bytes
  have hr := B.returns
  have hts := atoms_spec (ws := wsX10_ignore) B.pre
  have hown : s.vm.findClass RX10 = some m.cls := findClass_of_methodNamed B.named
  have hlocks := B.notSynchronized
  have hH : HI D S S s s.heap [] := HI.start hH0
  have hl := lv_entry ([.ref a0, .int p1, .int p2]) (n := 4) (Nat.le_of_ble_eq_true rfl)
  rw [lg_entry_eq]
  generalize (lg_sl ([.ref a0, .int p1, .int p2]) ++ List.replicate (4 - (lg_sl ([.ref a0, .int p1, .int p2])).length) Slot.unset).toArray = ls at hl ⊢
  have hl : lv_has ls 4 [(0, .ref a0), (1, .int p1), (2, .int p2)] := hl
  refine lv_aload_n hx hb dX10_ignore_0 rfl (lv_at hl 0 rfl) ?_
  refine lv_iload_n hx hb dX10_ignore_1 rfl (lv_at hl 1 rfl) ?_
  obtain ⟨ek1, hf⟩ := oc hf
  obtain ⟨r2, e3, hf⟩ := ob hf
  refine r_callVi (As := [.int p1]) ⟨hx, hb, hml, hown, hts⟩ (c_X10_noDesk l D S a0 p1 r2 e3) (cwV 1 hts (gwV gw_36_20 gw_36_21 gw_36_22 gw_31_10 gw_31_11) rfl rfl rfl (by decide +kernel) ⟨Nat.le_of_ble_eq_true rfl, Nat.le_of_ble_eq_true rfl⟩) hH hNE 13 ek1 (by decide) rfl rfl rfl hl.1 rfl (Nat.le_of_ble_eq_true rfl) dX10_ignore_2 ⟨(Nat.le_of_ble_eq_true rfl), (Nat.le_of_ble_eq_true rfl)⟩ (fun H locs hH => ?_)
  obtain ⟨S4, e5, hf⟩ := ol hf
  rw [e5] at hH
  refine lv_if_eq (tgt := 10) hx hb dX10_ignore_5 (by decide) (fun c6 => ?_) (fun c6 => ?_)
  · have hf := ip hf c6
    refine lv_aload_n hx hb dX10_ignore_10 rfl (lv_at hl 0 rfl) ?_
    refine lv_iload_n hx hb dX10_ignore_11 rfl (lv_at hl 1 rfl) ?_
    obtain ⟨ek7, hf⟩ := oc hf
    obtain ⟨r8, e9, hf⟩ := ob hf
    refine r_callVv (As := [.int p1]) ⟨hx, hb, hml, hown, hts⟩ (c_X10_look l D S4 a0 p1 r8 e9) (cwV 1 hts (gwV gw_36_23 gw_37_0 gw_37_1 gw_31_10 gw_36_9) rfl rfl rfl (by decide +kernel) ⟨Nat.le_of_ble_eq_true rfl, Nat.le_of_ble_eq_true rfl⟩) hH hNE 13 ek7 (by decide) rfl rfl rfl hl.1 rfl (Nat.le_of_ble_eq_true rfl) dX10_ignore_12 ⟨(Nat.le_of_ble_eq_true rfl), (Nat.le_of_ble_eq_true rfl)⟩ (fun H locs hH => ?_)
    refine lv_aload_n hx hb dX10_ignore_15 rfl (lv_at hl 0 rfl) ?_
    refine lv_iload_n hx hb dX10_ignore_16 rfl (lv_at hl 2 rfl) ?_
    refine lv_iconst (v := 0) hx hb dX10_ignore_17 (by decide) ?_
    refine lv_aload_n hx hb dX10_ignore_18 rfl (lv_at hl 0 rfl) ?_
    obtain ⟨ek10, hf⟩ := oc hf
    refine r_getI hx hb 13 hts (fun w h => List.mem_cons_of_mem _ (mwsX100 w h)) hown hH ek10 (by decide) rfl 42 (by decide) rfl (hts (.fieldLink RX10 236 "HousestyleModel" "taken" "I") (List.mem_cons_of_mem _ gw_36_8)) (fun _ h9 => h9) dX10_ignore_19 ?_
    refine lv_iconst (v := 1) hx hb dX10_ignore_22 (by decide) ?_
    refine lv_isub hx hb dX10_ignore_23 ?_
    obtain ⟨r11, e12, hf⟩ := ob hf
    refine r_callSi (As := [.int p2, .int 0, .int ((kI r8 a0 42) - 1)]) ⟨hx, hb, hml, hown, hts⟩ (c_X10_in l D r8 p2 0 ((kI r8 a0 42) - 1) r11 e12) (va_cwS 3 hts (gwS gw_31_8 gw_31_9 gw_31_10 gw_31_4) rfl rfl rfl (by decide +kernel) ⟨Nat.le_of_ble_eq_true rfl, Nat.le_of_ble_eq_true rfl⟩) hH hNE rfl hl.1 rfl (Nat.le_of_ble_eq_true rfl) dX10_ignore_24 ⟨(Nat.le_of_ble_eq_true rfl), (Nat.le_of_ble_eq_true rfl)⟩ (fun H locs hH => ?_)
    obtain ⟨j14, e80, hf⟩ := ol hf
    have Jj14 : ∀ (x13 : Int32) (H : Heap) (locs : List Loc) (ls : Array Slot), HI D S r8 s H locs → lv_has ls 4 [(0, .ref a0), (1, .int p1), (2, .int p2)] → j14 x13 = some r → GI p l e (headSpec wsX10_ignore rmX10_ignore).room s m ([.ref a0, .int p1, .int p2] : List Value).toArray below meth c D S r.1 r.2 H locs 0 0 0 0 (F0 m 50 ls [.int x13, .ref a0]) := by
      intro x13 H locs ls hH hl hf
      rw [← e80] at hf
      refine r_putI hx hb 13 hts (fun w h => List.mem_cons_of_mem _ (mwsX100 w h)) tyX10 tyX10_ok nmX10 hown hH ek10 (by decide) rfl 0 (by decide) rfl (hts (.fieldLink RX10 123 "HousestyleModel" "thrown" "I") (List.mem_cons_of_mem _ gw_31_3)) (fun _ h9 => h9) (Or.inl rfl) (ty := .int) (by decide +kernel) rfl rfl dX10_ignore_50 (fun H locs hH => ?_)
      obtain ⟨S15, e16, hf⟩ := ol hf
      rw [e16] at hH
      refine lv_aload_n hx hb dX10_ignore_53 rfl (lv_at hl 0 rfl) ?_
      obtain ⟨ek17, hf⟩ := oc hf
      refine r_getI hx hb 13 hts (fun w h => List.mem_cons_of_mem _ (mwsX100 w h)) hown hH ek17 (by decide) rfl 0 (by decide) rfl (hts (.fieldLink RX10 123 "HousestyleModel" "thrown" "I") (List.mem_cons_of_mem _ gw_31_3)) (fun _ h9 => h9) dX10_ignore_54 ?_
      refine lv_if_le (tgt := 62) hx hb dX10_ignore_57 (by decide) (fun c18 => ?_) (fun c18 => ?_)
      · have hf := ip hf c18
        refine lv_iload_n hx hb dX10_ignore_62 rfl (lv_at hl 1 rfl) ?_
        refine lv_bipush (v := 20) hx hb dX10_ignore_63 (by decide) ?_
        refine lv_imul hx hb dX10_ignore_65 ?_
        refine lv_aload_n hx hb dX10_ignore_66 rfl (lv_at hl 0 rfl) ?_
        obtain ⟨a19, e20, hf⟩ := ob hf
        refine r_getQ hx hb 13 hts (fun w h => List.mem_cons_of_mem _ (mwsX100 w h)) hown hH ek17 (by decide) rfl 26 (by decide) rfl (hts (.fieldLink RX10 75 "HousestyleModel" "ignored" "[I") (List.mem_cons_of_mem _ gw_30_10)) (fun _ h9 => h9) dX10_ignore_67 e20 ?_
        refine lv_iload_n hx hb dX10_ignore_70 rfl (lv_at hl 1 rfl) ?_
        obtain ⟨ek21, hf⟩ := oc hf
        obtain ⟨ei22, hf⟩ := oc hf
        refine r_iald hx hb hH ek21 ei22 dX10_ignore_71 ?_
        refine lv_iadd hx hb dX10_ignore_72 ?_
        obtain ⟨x23, e24, hf⟩ := ol hf
        refine lv_topE e24 ?_
        refine lv_istore_n (lv' := [(3, .int x23), (0, .ref a0), (1, .int p1), (2, .int p2)]) hx hb dX10_ignore_73 rfl hl (by decide) rfl (fun ls hl => ?_)
        refine lv_aload_n hx hb dX10_ignore_74 rfl (lv_at hl 1 rfl) ?_
        obtain ⟨a25, e26, hf⟩ := ob hf
        refine r_getQ hx hb 13 hts (fun w h => List.mem_cons_of_mem _ (mwsX100 w h)) hown hH ek17 (by decide) rfl 27 (by decide) rfl (hts (.fieldLink RX10 78 "HousestyleModel" "ignoredRules" "[I") (List.mem_cons_of_mem _ gw_30_11)) (fun _ h9 => h9) dX10_ignore_75 e26 ?_
        refine lv_iload_n hx hb dX10_ignore_78 rfl (lv_at hl 0 rfl) ?_
        refine lv_aload_n hx hb dX10_ignore_79 rfl (lv_at hl 1 rfl) ?_
        obtain ⟨a27, e28, hf⟩ := ob hf
        refine r_getQ hx hb 13 hts (fun w h => List.mem_cons_of_mem _ (mwsX100 w h)) hown hH ek17 (by decide) rfl 40 (by decide) rfl (hts (.fieldLink RX10 111 "HousestyleModel" "foundRule" "[I") (List.mem_cons_of_mem _ gw_30_22)) (fun _ h9 => h9) dX10_ignore_80 e28 ?_
        refine lv_aload_n hx hb dX10_ignore_83 rfl (lv_at hl 1 rfl) ?_
        obtain ⟨a29, e30, hf⟩ := ob hf
        refine r_getQ hx hb 13 hts (fun w h => List.mem_cons_of_mem _ (mwsX100 w h)) hown hH ek17 (by decide) rfl 43 (by decide) rfl (hts (.fieldLink RX10 117 "HousestyleModel" "takes" "[I") (List.mem_cons_of_mem _ gw_31_0)) (fun _ h9 => h9) dX10_ignore_84 e30 ?_
        refine lv_iload_n hx hb dX10_ignore_87 rfl (lv_at hl 3 rfl) ?_
        obtain ⟨ek31, hf⟩ := oc hf
        obtain ⟨ei32, hf⟩ := oc hf
        refine r_iald hx hb hH ek31 ei32 dX10_ignore_88 ?_
        obtain ⟨ek33, hf⟩ := oc hf
        obtain ⟨ei34, hf⟩ := oc hf
        refine r_iald hx hb hH ek33 ei34 dX10_ignore_89 ?_
        obtain ⟨ek35, hf⟩ := oc hf
        obtain ⟨ei36, hf⟩ := oc hf
        refine r_iast hx hb hH ek35 ei36 dX10_ignore_90 (fun H locs hH => ?_)
        obtain ⟨S37, e38, hf⟩ := ol hf
        rw [e38] at hH
        refine lv_aload_n hx hb dX10_ignore_91 rfl (lv_at hl 1 rfl) ?_
        obtain ⟨ek39, hf⟩ := oc hf
        obtain ⟨a40, e41, hf⟩ := ob hf
        refine r_getQ hx hb 13 hts (fun w h => List.mem_cons_of_mem _ (mwsX100 w h)) hown hH ek39 (by decide) rfl 28 (by decide) rfl (hts (.fieldLink RX10 81 "HousestyleModel" "ignoredFrom" "[I") (List.mem_cons_of_mem _ gw_30_12)) (fun _ h9 => h9) dX10_ignore_92 e41 ?_
        refine lv_iload_n hx hb dX10_ignore_95 rfl (lv_at hl 0 rfl) ?_
        refine lv_aload_n hx hb dX10_ignore_96 rfl (lv_at hl 1 rfl) ?_
        refine lv_aload_n hx hb dX10_ignore_97 rfl (lv_at hl 1 rfl) ?_
        obtain ⟨a42, e43, hf⟩ := ob hf
        refine r_getQ hx hb 13 hts (fun w h => List.mem_cons_of_mem _ (mwsX100 w h)) hown hH ek39 (by decide) rfl 43 (by decide) rfl (hts (.fieldLink RX10 117 "HousestyleModel" "takes" "[I") (List.mem_cons_of_mem _ gw_31_0)) (fun _ h9 => h9) dX10_ignore_98 e43 ?_
        refine lv_iload_n hx hb dX10_ignore_101 rfl (lv_at hl 3 rfl) ?_
        obtain ⟨ek44, hf⟩ := oc hf
        obtain ⟨ei45, hf⟩ := oc hf
        refine r_iald hx hb hH ek44 ei45 dX10_ignore_102 ?_
        obtain ⟨r46, e47, hf⟩ := ob hf
        refine r_callVi (As := [.int (kI S37 a42 p2.toNatClampNeg)]) ⟨hx, hb, hml, hown, hts⟩ (c_X10_placeOf l D S37 a0 (kI S37 a42 p2.toNatClampNeg) r46 e47) (cwV 1 hts (gwV gw_36_4 gw_36_5 gw_36_6 gw_31_10 gw_36_2) rfl rfl rfl (by decide +kernel) ⟨Nat.le_of_ble_eq_true rfl, Nat.le_of_ble_eq_true rfl⟩) hH hNE 13 ek39 (by decide) rfl rfl rfl hl.1 rfl (Nat.le_of_ble_eq_true rfl) dX10_ignore_103 ⟨(Nat.le_of_ble_eq_true rfl), (Nat.le_of_ble_eq_true rfl)⟩ (fun H locs hH => ?_)
        obtain ⟨ek48, hf⟩ := oc hf
        obtain ⟨ei49, hf⟩ := oc hf
        refine r_iast hx hb hH ek48 ei49 dX10_ignore_106 (fun H locs hH => ?_)
        obtain ⟨S50, e51, hf⟩ := ol hf
        rw [e51] at hH
        refine lv_aload_n hx hb dX10_ignore_107 rfl (lv_at hl 1 rfl) ?_
        obtain ⟨ek52, hf⟩ := oc hf
        obtain ⟨a53, e54, hf⟩ := ob hf
        refine r_getQ hx hb 13 hts (fun w h => List.mem_cons_of_mem _ (mwsX100 w h)) hown hH ek52 (by decide) rfl 29 (by decide) rfl (hts (.fieldLink RX10 84 "HousestyleModel" "ignoredTo" "[I") (List.mem_cons_of_mem _ gw_30_13)) (fun _ h9 => h9) dX10_ignore_108 e54 ?_
        refine lv_iload_n hx hb dX10_ignore_111 rfl (lv_at hl 0 rfl) ?_
        refine lv_aload_n hx hb dX10_ignore_112 rfl (lv_at hl 1 rfl) ?_
        obtain ⟨a55, e56, hf⟩ := ob hf
        refine r_getQ hx hb 13 hts (fun w h => List.mem_cons_of_mem _ (mwsX100 w h)) hown hH ek52 (by decide) rfl 39 (by decide) rfl (hts (.fieldLink RX10 108 "HousestyleModel" "foundTo" "[I") (List.mem_cons_of_mem _ gw_30_21)) (fun _ h9 => h9) dX10_ignore_113 e56 ?_
        refine lv_aload_n hx hb dX10_ignore_116 rfl (lv_at hl 1 rfl) ?_
        obtain ⟨a57, e58, hf⟩ := ob hf
        refine r_getQ hx hb 13 hts (fun w h => List.mem_cons_of_mem _ (mwsX100 w h)) hown hH ek52 (by decide) rfl 43 (by decide) rfl (hts (.fieldLink RX10 117 "HousestyleModel" "takes" "[I") (List.mem_cons_of_mem _ gw_31_0)) (fun _ h9 => h9) dX10_ignore_117 e58 ?_
        refine lv_iload_n hx hb dX10_ignore_120 rfl (lv_at hl 3 rfl) ?_
        obtain ⟨ek59, hf⟩ := oc hf
        obtain ⟨ei60, hf⟩ := oc hf
        refine r_iald hx hb hH ek59 ei60 dX10_ignore_121 ?_
        obtain ⟨ek61, hf⟩ := oc hf
        obtain ⟨ei62, hf⟩ := oc hf
        refine r_iald hx hb hH ek61 ei62 dX10_ignore_122 ?_
        obtain ⟨ek63, hf⟩ := oc hf
        obtain ⟨ei64, hf⟩ := oc hf
        refine r_iast hx hb hH ek63 ei64 dX10_ignore_123 (fun H locs hH => ?_)
        obtain ⟨S65, e66, hf⟩ := ol hf
        rw [e66] at hH
        refine lv_aload_n hx hb dX10_ignore_124 rfl (lv_at hl 1 rfl) ?_
        obtain ⟨ek67, hf⟩ := oc hf
        obtain ⟨a68, e69, hf⟩ := ob hf
        refine r_getQ hx hb 13 hts (fun w h => List.mem_cons_of_mem _ (mwsX100 w h)) hown hH ek67 (by decide) rfl 26 (by decide) rfl (hts (.fieldLink RX10 75 "HousestyleModel" "ignored" "[I") (List.mem_cons_of_mem _ gw_30_10)) (fun _ h9 => h9) dX10_ignore_125 e69 ?_
        refine lv_iload_n hx hb dX10_ignore_128 rfl (lv_at hl 2 rfl) ?_
        refine lv_dup2_11 hx hb dX10_ignore_129 rfl rfl ?_
        obtain ⟨ek70, hf⟩ := oc hf
        obtain ⟨ei71, hf⟩ := oc hf
        refine r_iald hx hb hH ek70 ei71 dX10_ignore_130 ?_
        refine lv_iconst (v := 1) hx hb dX10_ignore_131 (by decide) ?_
        refine lv_iadd hx hb dX10_ignore_132 ?_
        obtain ⟨ei72, hf⟩ := oc hf
        refine r_iast hx hb hH ek70 ei72 dX10_ignore_133 (fun H locs hH => ?_)
        obtain ⟨S73, e74, hf⟩ := ol hf
        rw [e74] at hH
        refine lv_aload_n hx hb dX10_ignore_134 rfl (lv_at hl 1 rfl) ?_
        obtain ⟨ek75, hf⟩ := oc hf
        obtain ⟨a76, e77, hf⟩ := ob hf
        refine r_getQ hx hb 13 hts (fun w h => List.mem_cons_of_mem _ (mwsX100 w h)) hown hH ek75 (by decide) rfl 26 (by decide) rfl (hts (.fieldLink RX10 75 "HousestyleModel" "ignored" "[I") (List.mem_cons_of_mem _ gw_30_10)) (fun _ h9 => h9) dX10_ignore_135 e77 ?_
        refine lv_iload_n hx hb dX10_ignore_138 rfl (lv_at hl 2 rfl) ?_
        obtain ⟨ek78, hf⟩ := oc hf
        obtain ⟨ei79, hf⟩ := oc hf
        refine r_iald hx hb hH ek78 ei79 dX10_ignore_139 ?_
        have hr9 := Option.some.inj hf
        subst hr9
        exact e_i hx hb hr hlocks hH dX10_ignore_140
      · have hf := iq hf c18
        refine lv_iconst (v := 0) hx hb dX10_ignore_60 (by decide) ?_
        have hr9 := Option.some.inj hf
        subst hr9
        exact e_i hx hb hr hlocks hH dX10_ignore_61
    refine lv_if_ne (tgt := 34) hx hb dX10_ignore_27 (by decide) (fun c81 => ?_) (fun c81 => ?_)
    · have hf := iq hf c81
      refine lv_aload_n hx hb dX10_ignore_34 rfl (lv_at hl 0 rfl) ?_
      obtain ⟨a82, e83, hf⟩ := ob hf
      refine r_getQ hx hb 13 hts (fun w h => List.mem_cons_of_mem _ (mwsX100 w h)) hown hH ek10 (by decide) rfl 26 (by decide) rfl (hts (.fieldLink RX10 75 "HousestyleModel" "ignored" "[I") (List.mem_cons_of_mem _ gw_30_10)) (fun _ h9 => h9) dX10_ignore_35 e83 ?_
      refine lv_iload_n hx hb dX10_ignore_38 rfl (lv_at hl 1 rfl) ?_
      obtain ⟨ek84, hf⟩ := oc hf
      obtain ⟨ei85, hf⟩ := oc hf
      refine r_iald hx hb hH ek84 ei85 dX10_ignore_39 ?_
      refine lv_bipush (v := 20) hx hb dX10_ignore_40 (by decide) ?_
      refine lv_icmp_ne (tgt := 49) hx hb dX10_ignore_42 (by decide) (fun c86 => ?_) (fun c86 => ?_)
      · have hf := iq hf c86
        refine lv_iconst (v := 0) hx hb dX10_ignore_49 (by decide) ?_
        exact Jj14 0 _ _ ls hH (lv_sub hl [0, 1, 2] rfl) hf
      · have hf := ip hf c86
        refine lv_iconst (v := 3) hx hb dX10_ignore_45 (by decide) ?_
        refine lv_goto (tgt := 50) hx hb dX10_ignore_46 (by decide) ?_
        exact Jj14 3 _ _ ls hH (lv_sub hl [0, 1, 2] rfl) hf
    · have hf := ip hf c81
      refine lv_iconst (v := 2) hx hb dX10_ignore_30 (by decide) ?_
      refine lv_goto (tgt := 50) hx hb dX10_ignore_31 (by decide) ?_
      exact Jj14 2 _ _ ls hH (lv_sub hl [0, 1, 2] rfl) hf
  · have hf := iq hf c6
    refine lv_iconst (v := 0) hx hb dX10_ignore_8 (by decide) ?_
    have hr9 := Option.some.inj hf
    subst hr9
    exact e_i hx hb hr hlocks hH dX10_ignore_9
