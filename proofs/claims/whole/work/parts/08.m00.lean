set_option maxRecDepth 100000 in
def f_X10_init_b318 (a0 : Nat) (x297 : Int32) (S298 : PS) : Option ((Int32 × PS) ⊕ ((PS))) := if (4 : Int32) ≤ x297 then (some (.inr S298)) else (if kK S298 a0 = 14 then ((kQ S298 a0 30).bind fun a305 => if kK S298 a305 = 103 then (if ¬ ((x297 * 161) < 0 ∨ kN S298 a305 ≤ (x297 * 161).toNatClampNeg) then (lt (wI S298 a305 (x297 * 161).toNatClampNeg (vp_nar .boolean 1)) fun S309 => lt (x297 + 1) fun x311 => some (.inl (x311, S309))) else none) else none) else none)
set_option maxRecDepth 100000 in
def f_X10_init (S : PS) (a0 : Nat) : Option (PS) := if ¬ (161 : Int32) < 0 ∧ (161 : Int32).toNatClampNeg ≤ 161 then (lt (kZ S) fun a2 => lt (wN S 102 (161 : Int32).toNatClampNeg) fun S4 => if kK S4 a0 = 14 then (lt (wQ S4 a0 1 (some a2)) fun S7 => if ¬ (161 : Int32) < 0 ∧ (161 : Int32).toNatClampNeg ≤ 161 then (lt (kZ S7) fun a10 => lt (wN S7 101 (161 : Int32).toNatClampNeg) fun S12 => if kK S12 a0 = 14 then (lt (wQ S12 a0 2 (some a10)) fun S15 => if ¬ (20 : Int32) < 0 ∧ (20 : Int32).toNatClampNeg ≤ 20 then (lt (kZ S15) fun a18 => lt (wN S15 102 (20 : Int32).toNatClampNeg) fun S20 => if kK S20 a0 = 14 then (lt (wQ S20 a0 4 (some a18)) fun S23 => if ¬ (12 : Int32) < 0 ∧ (12 : Int32).toNatClampNeg ≤ 12 then (lt (kZ S23) fun a26 => lt (wN S23 101 (12 : Int32).toNatClampNeg) fun S28 => if kK S28 a0 = 14 then (lt (wQ S28 a0 7 (some a26)) fun S31 => if ¬ (720 : Int32) < 0 ∧ (720 : Int32).toNatClampNeg ≤ 720 then (lt (kZ S31) fun a34 => lt (wN S31 102 (720 : Int32).toNatClampNeg) fun S36 => if kK S36 a0 = 14 then (lt (wQ S36 a0 8 (some a34)) fun S39 => if ¬ (36 : Int32) < 0 ∧ (36 : Int32).toNatClampNeg ≤ 36 then (lt (kZ S39) fun a42 => lt (wN S39 101 (36 : Int32).toNatClampNeg) fun S44 => if kK S44 a0 = 14 then (lt (wQ S44 a0 9 (some a42)) fun S47 => if ¬ (36 : Int32) < 0 ∧ (36 : Int32).toNatClampNeg ≤ 36 then (lt (kZ S47) fun a50 => lt (wN S47 101 (36 : Int32).toNatClampNeg) fun S52 => if kK S52 a0 = 14 then (lt (wQ S52 a0 10 (some a50)) fun S55 => if ¬ (12 : Int32) < 0 ∧ (12 : Int32).toNatClampNeg ≤ 12 then (lt (kZ S55) fun a58 => lt (wN S55 102 (12 : Int32).toNatClampNeg) fun S60 => if kK S60 a0 = 14 then (lt (wQ S60 a0 11 (some a58)) fun S63 => if ¬ (12 : Int32) < 0 ∧ (12 : Int32).toNatClampNeg ≤ 12 then (lt (kZ S63) fun a66 => lt (wN S63 103 (12 : Int32).toNatClampNeg) fun S68 => if kK S68 a0 = 14 then (lt (wQ S68 a0 12 (some a66)) fun S71 => if ¬ (12 : Int32) < 0 ∧ (12 : Int32).toNatClampNeg ≤ 12 then (lt (kZ S71) fun a74 => lt (wN S71 101 (12 : Int32).toNatClampNeg) fun S76 => if kK S76 a0 = 14 then (lt (wQ S76 a0 13 (some a74)) fun S79 => if ¬ (12 : Int32) < 0 ∧ (12 : Int32).toNatClampNeg ≤ 12 then (lt (kZ S79) fun a82 => lt (wN S79 101 (12 : Int32).toNatClampNeg) fun S84 => if kK S84 a0 = 14 then (lt (wQ S84 a0 14 (some a82)) fun S87 => if ¬ (720 : Int32) < 0 ∧ (720 : Int32).toNatClampNeg ≤ 720 then (lt (kZ S87) fun a90 => lt (wN S87 102 (720 : Int32).toNatClampNeg) fun S92 => if kK S92 a0 = 14 then (lt (wQ S92 a0 15 (some a90)) fun S95 => if ¬ (36 : Int32) < 0 ∧ (36 : Int32).toNatClampNeg ≤ 36 then (lt (kZ S95) fun a98 => lt (wN S95 101 (36 : Int32).toNatClampNeg) fun S100 => if kK S100 a0 = 14 then (lt (wQ S100 a0 16 (some a98)) fun S103 => if ¬ (12 : Int32) < 0 ∧ (12 : Int32).toNatClampNeg ≤ 12 then (lt (kZ S103) fun a106 => lt (wN S103 101 (12 : Int32).toNatClampNeg) fun S108 => if kK S108 a0 = 14 then (lt (wQ S108 a0 17 (some a106)) fun S111 => if ¬ (480 : Int32) < 0 ∧ (480 : Int32).toNatClampNeg ≤ 480 then (lt (kZ S111) fun a114 => lt (wN S111 102 (480 : Int32).toNatClampNeg) fun S116 => if kK S116 a0 = 14 then (lt (wQ S116 a0 18 (some a114)) fun S119 => if ¬ (24 : Int32) < 0 ∧ (24 : Int32).toNatClampNeg ≤ 24 then (lt (kZ S119) fun a122 => lt (wN S119 101 (24 : Int32).toNatClampNeg) fun S124 => if kK S124 a0 = 14 then (lt (wQ S124 a0 19 (some a122)) fun S127 => if ¬ (160 : Int32) < 0 ∧ (160 : Int32).toNatClampNeg ≤ 160 then (lt (kZ S127) fun a130 => lt (wN S127 102 (160 : Int32).toNatClampNeg) fun S132 => if kK S132 a0 = 14 then (lt (wQ S132 a0 21 (some a130)) fun S135 => if ¬ (8 : Int32) < 0 ∧ (8 : Int32).toNatClampNeg ≤ 8 then (lt (kZ S135) fun a138 => lt (wN S135 101 (8 : Int32).toNatClampNeg) fun S140 => if kK S140 a0 = 14 then (lt (wQ S140 a0 22 (some a138)) fun S143 => if ¬ (48 : Int32) < 0 ∧ (48 : Int32).toNatClampNeg ≤ 48 then (lt (kZ S143) fun a146 => lt (wN S143 103 (48 : Int32).toNatClampNeg) fun S148 => if kK S148 a0 = 14 then (lt (wQ S148 a0 23 (some a146)) fun S151 => if ¬ (48 : Int32) < 0 ∧ (48 : Int32).toNatClampNeg ≤ 48 then (lt (kZ S151) fun a154 => lt (wN S151 101 (48 : Int32).toNatClampNeg) fun S156 => if kK S156 a0 = 14 then (lt (wQ S156 a0 24 (some a154)) fun S159 => if ¬ (4 : Int32) < 0 ∧ (4 : Int32).toNatClampNeg ≤ 4 then (lt (kZ S159) fun a162 => lt (wN S159 101 (4 : Int32).toNatClampNeg) fun S164 => if kK S164 a0 = 14 then (lt (wQ S164 a0 25 (some a162)) fun S167 => if ¬ (4 : Int32) < 0 ∧ (4 : Int32).toNatClampNeg ≤ 4 then (lt (kZ S167) fun a170 => lt (wN S167 101 (4 : Int32).toNatClampNeg) fun S172 => if kK S172 a0 = 14 then (lt (wQ S172 a0 26 (some a170)) fun S175 => if ¬ (80 : Int32) < 0 ∧ (80 : Int32).toNatClampNeg ≤ 80 then (lt (kZ S175) fun a178 => lt (wN S175 101 (80 : Int32).toNatClampNeg) fun S180 => if kK S180 a0 = 14 then (lt (wQ S180 a0 27 (some a178)) fun S183 => if ¬ (80 : Int32) < 0 ∧ (80 : Int32).toNatClampNeg ≤ 80 then (lt (kZ S183) fun a186 => lt (wN S183 101 (80 : Int32).toNatClampNeg) fun S188 => if kK S188 a0 = 14 then (lt (wQ S188 a0 28 (some a186)) fun S191 => if ¬ (80 : Int32) < 0 ∧ (80 : Int32).toNatClampNeg ≤ 80 then (lt (kZ S191) fun a194 => lt (wN S191 101 (80 : Int32).toNatClampNeg) fun S196 => if kK S196 a0 = 14 then (lt (wQ S196 a0 29 (some a194)) fun S199 => if ¬ (644 : Int32) < 0 ∧ (644 : Int32).toNatClampNeg ≤ 644 then (lt (kZ S199) fun a202 => lt (wN S199 103 (644 : Int32).toNatClampNeg) fun S204 => if kK S204 a0 = 14 then (lt (wQ S204 a0 30 (some a202)) fun S207 => if ¬ (160 : Int32) < 0 ∧ (160 : Int32).toNatClampNeg ≤ 160 then (lt (kZ S207) fun a210 => lt (wN S207 101 (160 : Int32).toNatClampNeg) fun S212 => if kK S212 a0 = 14 then (lt (wQ S212 a0 32 (some a210)) fun S215 => if ¬ (160 : Int32) < 0 ∧ (160 : Int32).toNatClampNeg ≤ 160 then (lt (kZ S215) fun a218 => lt (wN S215 101 (160 : Int32).toNatClampNeg) fun S220 => if kK S220 a0 = 14 then (lt (wQ S220 a0 33 (some a218)) fun S223 => if ¬ (160 : Int32) < 0 ∧ (160 : Int32).toNatClampNeg ≤ 160 then (lt (kZ S223) fun a226 => lt (wN S223 103 (160 : Int32).toNatClampNeg) fun S228 => if kK S228 a0 = 14 then (lt (wQ S228 a0 34 (some a226)) fun S231 => if ¬ (161 : Int32) < 0 ∧ (161 : Int32).toNatClampNeg ≤ 161 then (lt (kZ S231) fun a234 => lt (wN S231 101 (161 : Int32).toNatClampNeg) fun S236 => if kK S236 a0 = 14 then (lt (wQ S236 a0 35 (some a234)) fun S239 => if ¬ (161 : Int32) < 0 ∧ (161 : Int32).toNatClampNeg ≤ 161 then (lt (kZ S239) fun a242 => lt (wN S239 103 (161 : Int32).toNatClampNeg) fun S244 => if kK S244 a0 = 14 then (lt (wQ S244 a0 36 (some a242)) fun S247 => if ¬ (2800 : Int32) < 0 ∧ (2800 : Int32).toNatClampNeg ≤ 2800 then (lt (kZ S247) fun a250 => lt (wN S247 101 (2800 : Int32).toNatClampNeg) fun S252 => if kK S252 a0 = 14 then (lt (wQ S252 a0 38 (some a250)) fun S255 => if ¬ (2800 : Int32) < 0 ∧ (2800 : Int32).toNatClampNeg ≤ 2800 then (lt (kZ S255) fun a258 => lt (wN S255 101 (2800 : Int32).toNatClampNeg) fun S260 => if kK S260 a0 = 14 then (lt (wQ S260 a0 39 (some a258)) fun S263 => if ¬ (2800 : Int32) < 0 ∧ (2800 : Int32).toNatClampNeg ≤ 2800 then (lt (kZ S263) fun a266 => lt (wN S263 101 (2800 : Int32).toNatClampNeg) fun S268 => if kK S268 a0 = 14 then (lt (wQ S268 a0 40 (some a266)) fun S271 => if ¬ (2800 : Int32) < 0 ∧ (2800 : Int32).toNatClampNeg ≤ 2800 then (lt (kZ S271) fun a274 => lt (wN S271 101 (2800 : Int32).toNatClampNeg) fun S276 => if kK S276 a0 = 14 then (lt (wQ S276 a0 41 (some a274)) fun S279 => if ¬ (160 : Int32) < 0 ∧ (160 : Int32).toNatClampNeg ≤ 160 then (lt (kZ S279) fun a282 => lt (wN S279 101 (160 : Int32).toNatClampNeg) fun S284 => if kK S284 a0 = 14 then (lt (wQ S284 a0 43 (some a282)) fun S287 => if ¬ (200 : Int32) < 0 ∧ (200 : Int32).toNatClampNeg ≤ 200 then (lt (kZ S287) fun a290 => lt (wN S287 102 (200 : Int32).toNatClampNeg) fun S292 => if kK S292 a0 = 14 then (lt (wQ S292 a0 44 (some a290)) fun S295 => lt (fun (S299 : PS) => some S299) fun k300 => (iter (fun (v : Int32 × PS) => f_X10_init_b318 a0 v.1 v.2) kF (0, S295)).bind (fun (v : PS) => k300 v)) else none) else none) else none) else none) else none) else none) else none) else none) else none) else none) else none) else none) else none) else none) else none) else none) else none) else none) else none) else none) else none) else none) else none) else none) else none) else none) else none) else none) else none) else none) else none) else none) else none) else none) else none) else none) else none) else none) else none) else none) else none) else none) else none) else none) else none) else none) else none) else none) else none) else none) else none) else none) else none) else none) else none) else none) else none) else none) else none) else none) else none) else none) else none) else none) else none) else none) else none) else none) else none) else none) else none) else none) else none) else none
abbrev rmX10_init : Room := { frames := 1, cells := 37, slots := 15984, locals := 16 }
set_option maxHeartbeats 4000000 in
set_option maxRecDepth 100000 in
theorem c_X10_init (l : Launch) (D : va_G × Nat) (S : PS) (a0 : Nat) (r : PS) (hf : f_X10_init S a0 = some r) : MV l D yX10_init wsX10_init rmX10_init S [.ref a0] r 37 15984 := by
  unfold f_X10_init at hf
  refine Met.ofW (cc := cX10_init) (maxL := 2) (ret := none) (by decide) rfl ?_
  intro p e s m args below meth c s₁ B hml hv
  obtain ⟨rfl, hH0, hNE⟩ := hv
  have hx := B.exec
  have hb := B.bytes
  have hr := B.returns
  have hts := atoms_spec (ws := wsX10_init) B.pre
  have hown : s.vm.findClass RX10 = some m.cls := findClass_of_methodNamed B.named
  have hlocks := B.notSynchronized
  have hin : meth.name = "<init>" := (name_of_methodNamed B.named B.method).1
  have hH : HI D S S s s.heap [] := HI.start hH0
  have hl := lv_entry ([.ref a0]) (n := 2) (Nat.le_of_ble_eq_true rfl)
  rw [lg_entry_eq]
  generalize (lg_sl ([.ref a0]) ++ List.replicate (2 - (lg_sl ([.ref a0])).length) Slot.unset).toArray = ls at hl ⊢
  have hl : lv_has ls 2 [(0, .ref a0)] := hl
  refine lv_aload_n hx hb dX10_init_0 rfl (lv_at hl 0 rfl) ?_
  refine W.objInit hx hb hown (hts (.methodLink RX10 1 objectInit) (List.mem_cons_of_mem _ gw_29_10)) (hts (.instanceMethod objectInit) (List.mem_cons_of_mem _ gw_0_2)) (hts (.code objectInit ⟨#[0xb1]⟩ 1 none) (List.mem_cons_of_mem _ gw_0_3)) rfl (by rw [hml]; exact hl.1) rfl dX10_init_1 (Nat.le_of_ble_eq_true rfl) (Nat.le_of_ble_eq_true rfl) ?_
  refine W.eq (g2 := F0 m 4 ls []) rfl ?_
  refine lv_aload_n hx hb dX10_init_4 rfl (lv_at hl 0 rfl) ?_
  refine lv_sipush (v := 161) hx hb dX10_init_5 (by decide) ?_
  obtain ⟨en1, hf⟩ := oc hf
  refine r_newa (atype := .char) hx hb 102 (hts (.arrayClass .char) (List.mem_cons_of_mem _ gw_29_11)) rfl (by decide) (by decide) rfl (by decide) (fun _ h9 => h9) hH (cap := 161) en1 (by decide) (Nat.le_of_ble_eq_true rfl) (Nat.le_of_ble_eq_true rfl) dX10_init_8 (fun H hH => ?_)
  obtain ⟨a2, e3, hf⟩ := ol hf
  rw [e3]
  obtain ⟨S4, e5, hf⟩ := ol hf
  rw [e5] at hH
  refine W.widen (k := 1) (n := 161) (by omega) (by omega) ?_
  obtain ⟨ek6, hf⟩ := oc hf
  refine r_putQ hx hb 13 hts (fun w h => List.mem_cons_of_mem _ (mwsX100 w h)) tyX10 tyX10_ok nmX10 hown hH ek6 (by decide) rfl 1 (by decide) rfl (hts (.fieldLink RX10 7 "HousestyleModel" "text" "[C") (List.mem_cons_of_mem _ gw_29_12)) (fun _ h9 => h9) (Or.inr ⟨rfl, hin, rfl⟩) (ty := (.array .char)) (by decide +kernel) rfl rfl dX10_init_10 (fun H locs hH => ?_)
  obtain ⟨S7, e8, hf⟩ := ol hf
  rw [e8] at hH
  refine lv_aload_n hx hb dX10_init_13 rfl (lv_at hl 0 rfl) ?_
  refine lv_sipush (v := 161) hx hb dX10_init_14 (by decide) ?_
  obtain ⟨en9, hf⟩ := oc hf
  refine r_newa (atype := .int) hx hb 101 (hts (.arrayClass .int) (List.mem_cons_of_mem _ gw_0_17)) rfl (by decide) (by decide) rfl (by decide) (fun _ h9 => h9) hH (cap := 161) en9 (by decide) (Nat.le_of_ble_eq_true rfl) (Nat.le_of_ble_eq_true rfl) dX10_init_17 (fun H hH => ?_)
  obtain ⟨a10, e11, hf⟩ := ol hf
  rw [e11]
  obtain ⟨S12, e13, hf⟩ := ol hf
  rw [e13] at hH
  refine W.widen (k := 2) (n := 322) (by omega) (by omega) ?_
  obtain ⟨ek14, hf⟩ := oc hf
  refine r_putQ hx hb 13 hts (fun w h => List.mem_cons_of_mem _ (mwsX100 w h)) tyX10 tyX10_ok nmX10 hown hH ek14 (by decide) rfl 2 (by decide) rfl (hts (.fieldLink RX10 13 "HousestyleModel" "writers" "[I") (List.mem_cons_of_mem _ gw_29_13)) (fun _ h9 => h9) (Or.inr ⟨rfl, hin, rfl⟩) (ty := (.array .int)) (by decide +kernel) rfl rfl dX10_init_19 (fun H locs hH => ?_)
  obtain ⟨S15, e16, hf⟩ := ol hf
  rw [e16] at hH
  refine lv_aload_n hx hb dX10_init_22 rfl (lv_at hl 0 rfl) ?_
  refine lv_bipush (v := 20) hx hb dX10_init_23 (by decide) ?_
  obtain ⟨en17, hf⟩ := oc hf
  refine r_newa (atype := .char) hx hb 102 (hts (.arrayClass .char) (List.mem_cons_of_mem _ gw_29_11)) rfl (by decide) (by decide) rfl (by decide) (fun _ h9 => h9) hH (cap := 20) en17 (by decide) (Nat.le_of_ble_eq_true rfl) (Nat.le_of_ble_eq_true rfl) dX10_init_25 (fun H hH => ?_)
  obtain ⟨a18, e19, hf⟩ := ol hf
  rw [e19]
  obtain ⟨S20, e21, hf⟩ := ol hf
  rw [e21] at hH
  refine W.widen (k := 3) (n := 342) (by omega) (by omega) ?_
  obtain ⟨ek22, hf⟩ := oc hf
  refine r_putQ hx hb 13 hts (fun w h => List.mem_cons_of_mem _ (mwsX100 w h)) tyX10 tyX10_ok nmX10 hown hH ek22 (by decide) rfl 4 (by decide) rfl (hts (.fieldLink RX10 17 "HousestyleModel" "typed" "[C") (List.mem_cons_of_mem _ gw_29_14)) (fun _ h9 => h9) (Or.inr ⟨rfl, hin, rfl⟩) (ty := (.array .char)) (by decide +kernel) rfl rfl dX10_init_27 (fun H locs hH => ?_)
  obtain ⟨S23, e24, hf⟩ := ol hf
  rw [e24] at hH
  refine lv_aload_n hx hb dX10_init_30 rfl (lv_at hl 0 rfl) ?_
  refine lv_bipush (v := 12) hx hb dX10_init_31 (by decide) ?_
  obtain ⟨en25, hf⟩ := oc hf
  refine r_newa (atype := .int) hx hb 101 (hts (.arrayClass .int) (List.mem_cons_of_mem _ gw_0_17)) rfl (by decide) (by decide) rfl (by decide) (fun _ h9 => h9) hH (cap := 12) en25 (by decide) (Nat.le_of_ble_eq_true rfl) (Nat.le_of_ble_eq_true rfl) dX10_init_33 (fun H hH => ?_)
  obtain ⟨a26, e27, hf⟩ := ol hf
  rw [e27]
  obtain ⟨S28, e29, hf⟩ := ol hf
  rw [e29] at hH
  refine W.widen (k := 4) (n := 354) (by omega) (by omega) ?_
  obtain ⟨ek30, hf⟩ := oc hf
  refine r_putQ hx hb 13 hts (fun w h => List.mem_cons_of_mem _ (mwsX100 w h)) tyX10 tyX10_ok nmX10 hown hH ek30 (by decide) rfl 7 (by decide) rfl (hts (.fieldLink RX10 20 "HousestyleModel" "items" "[I") (List.mem_cons_of_mem _ gw_29_15)) (fun _ h9 => h9) (Or.inr ⟨rfl, hin, rfl⟩) (ty := (.array .int)) (by decide +kernel) rfl rfl dX10_init_35 (fun H locs hH => ?_)
  obtain ⟨S31, e32, hf⟩ := ol hf
  rw [e32] at hH
  refine lv_aload_n hx hb dX10_init_38 rfl (lv_at hl 0 rfl) ?_
  refine lv_sipush (v := 720) hx hb dX10_init_39 (by decide) ?_
  obtain ⟨en33, hf⟩ := oc hf
  refine r_newa (atype := .char) hx hb 102 (hts (.arrayClass .char) (List.mem_cons_of_mem _ gw_29_11)) rfl (by decide) (by decide) rfl (by decide) (fun _ h9 => h9) hH (cap := 720) en33 (by decide) (Nat.le_of_ble_eq_true rfl) (Nat.le_of_ble_eq_true rfl) dX10_init_42 (fun H hH => ?_)
  obtain ⟨a34, e35, hf⟩ := ol hf
  rw [e35]
  obtain ⟨S36, e37, hf⟩ := ol hf
  rw [e37] at hH
  refine W.widen (k := 5) (n := 1074) (by omega) (by omega) ?_
  obtain ⟨ek38, hf⟩ := oc hf
  refine r_putQ hx hb 13 hts (fun w h => List.mem_cons_of_mem _ (mwsX100 w h)) tyX10 tyX10_ok nmX10 hown hH ek38 (by decide) rfl 8 (by decide) rfl (hts (.fieldLink RX10 23 "HousestyleModel" "letters" "[C") (List.mem_cons_of_mem _ gw_29_16)) (fun _ h9 => h9) (Or.inr ⟨rfl, hin, rfl⟩) (ty := (.array .char)) (by decide +kernel) rfl rfl dX10_init_44 (fun H locs hH => ?_)
  obtain ⟨S39, e40, hf⟩ := ol hf
  rw [e40] at hH
  refine lv_aload_n hx hb dX10_init_47 rfl (lv_at hl 0 rfl) ?_
  refine lv_bipush (v := 36) hx hb dX10_init_48 (by decide) ?_
  obtain ⟨en41, hf⟩ := oc hf
  refine r_newa (atype := .int) hx hb 101 (hts (.arrayClass .int) (List.mem_cons_of_mem _ gw_0_17)) rfl (by decide) (by decide) rfl (by decide) (fun _ h9 => h9) hH (cap := 36) en41 (by decide) (Nat.le_of_ble_eq_true rfl) (Nat.le_of_ble_eq_true rfl) dX10_init_50 (fun H hH => ?_)
  obtain ⟨a42, e43, hf⟩ := ol hf
  rw [e43]
  obtain ⟨S44, e45, hf⟩ := ol hf
  rw [e45] at hH
  refine W.widen (k := 6) (n := 1110) (by omega) (by omega) ?_
  obtain ⟨ek46, hf⟩ := oc hf
  refine r_putQ hx hb 13 hts (fun w h => List.mem_cons_of_mem _ (mwsX100 w h)) tyX10 tyX10_ok nmX10 hown hH ek46 (by decide) rfl 9 (by decide) rfl (hts (.fieldLink RX10 26 "HousestyleModel" "sizes" "[I") (List.mem_cons_of_mem _ gw_29_17)) (fun _ h9 => h9) (Or.inr ⟨rfl, hin, rfl⟩) (ty := (.array .int)) (by decide +kernel) rfl rfl dX10_init_52 (fun H locs hH => ?_)
  obtain ⟨S47, e48, hf⟩ := ol hf
  rw [e48] at hH
  refine lv_aload_n hx hb dX10_init_55 rfl (lv_at hl 0 rfl) ?_
  refine lv_bipush (v := 36) hx hb dX10_init_56 (by decide) ?_
  obtain ⟨en49, hf⟩ := oc hf
  refine r_newa (atype := .int) hx hb 101 (hts (.arrayClass .int) (List.mem_cons_of_mem _ gw_0_17)) rfl (by decide) (by decide) rfl (by decide) (fun _ h9 => h9) hH (cap := 36) en49 (by decide) (Nat.le_of_ble_eq_true rfl) (Nat.le_of_ble_eq_true rfl) dX10_init_58 (fun H hH => ?_)
  obtain ⟨a50, e51, hf⟩ := ol hf
  rw [e51]
  obtain ⟨S52, e53, hf⟩ := ol hf
  rw [e53] at hH
  refine W.widen (k := 7) (n := 1146) (by omega) (by omega) ?_
  obtain ⟨ek54, hf⟩ := oc hf
  refine r_putQ hx hb 13 hts (fun w h => List.mem_cons_of_mem _ (mwsX100 w h)) tyX10 tyX10_ok nmX10 hown hH ek54 (by decide) rfl 10 (by decide) rfl (hts (.fieldLink RX10 29 "HousestyleModel" "sorts" "[I") (List.mem_cons_of_mem _ gw_29_18)) (fun _ h9 => h9) (Or.inr ⟨rfl, hin, rfl⟩) (ty := (.array .int)) (by decide +kernel) rfl rfl dX10_init_60 (fun H locs hH => ?_)
  obtain ⟨S55, e56, hf⟩ := ol hf
  rw [e56] at hH
  refine lv_aload_n hx hb dX10_init_63 rfl (lv_at hl 0 rfl) ?_
  refine lv_bipush (v := 12) hx hb dX10_init_64 (by decide) ?_
  obtain ⟨en57, hf⟩ := oc hf
  refine r_newa (atype := .char) hx hb 102 (hts (.arrayClass .char) (List.mem_cons_of_mem _ gw_29_11)) rfl (by decide) (by decide) rfl (by decide) (fun _ h9 => h9) hH (cap := 12) en57 (by decide) (Nat.le_of_ble_eq_true rfl) (Nat.le_of_ble_eq_true rfl) dX10_init_66 (fun H hH => ?_)
  obtain ⟨a58, e59, hf⟩ := ol hf
  rw [e59]
  obtain ⟨S60, e61, hf⟩ := ol hf
  rw [e61] at hH
  refine W.widen (k := 8) (n := 1158) (by omega) (by omega) ?_
  obtain ⟨ek62, hf⟩ := oc hf
  refine r_putQ hx hb 13 hts (fun w h => List.mem_cons_of_mem _ (mwsX100 w h)) tyX10 tyX10_ok nmX10 hown hH ek62 (by decide) rfl 11 (by decide) rfl (hts (.fieldLink RX10 32 "HousestyleModel" "conditions" "[C") (List.mem_cons_of_mem _ gw_29_19)) (fun _ h9 => h9) (Or.inr ⟨rfl, hin, rfl⟩) (ty := (.array .char)) (by decide +kernel) rfl rfl dX10_init_68 (fun H locs hH => ?_)
  obtain ⟨S63, e64, hf⟩ := ol hf
  rw [e64] at hH
  refine lv_aload_n hx hb dX10_init_71 rfl (lv_at hl 0 rfl) ?_
  refine lv_bipush (v := 12) hx hb dX10_init_72 (by decide) ?_
  obtain ⟨en65, hf⟩ := oc hf
  refine r_newa (atype := .boolean) hx hb 103 (hts (.arrayClass .boolean) (List.mem_cons_of_mem _ gw_29_20)) rfl (by decide) (by decide) rfl (by decide) (fun _ h9 => h9) hH (cap := 12) en65 (by decide) (Nat.le_of_ble_eq_true rfl) (Nat.le_of_ble_eq_true rfl) dX10_init_74 (fun H hH => ?_)
  obtain ⟨a66, e67, hf⟩ := ol hf
  rw [e67]
  obtain ⟨S68, e69, hf⟩ := ol hf
  rw [e69] at hH
  refine W.widen (k := 9) (n := 1170) (by omega) (by omega) ?_
  obtain ⟨ek70, hf⟩ := oc hf
  refine r_putQ hx hb 13 hts (fun w h => List.mem_cons_of_mem _ (mwsX100 w h)) tyX10 tyX10_ok nmX10 hown hH ek70 (by decide) rfl 12 (by decide) rfl (hts (.fieldLink RX10 35 "HousestyleModel" "inQuotes" "[Z") (List.mem_cons_of_mem _ gw_29_21)) (fun _ h9 => h9) (Or.inr ⟨rfl, hin, rfl⟩) (ty := (.array .boolean)) (by decide +kernel) rfl rfl dX10_init_76 (fun H locs hH => ?_)
  obtain ⟨S71, e72, hf⟩ := ol hf
  rw [e72] at hH
  refine lv_aload_n hx hb dX10_init_79 rfl (lv_at hl 0 rfl) ?_
  refine lv_bipush (v := 12) hx hb dX10_init_80 (by decide) ?_
  obtain ⟨en73, hf⟩ := oc hf
  refine r_newa (atype := .int) hx hb 101 (hts (.arrayClass .int) (List.mem_cons_of_mem _ gw_0_17)) rfl (by decide) (by decide) rfl (by decide) (fun _ h9 => h9) hH (cap := 12) en73 (by decide) (Nat.le_of_ble_eq_true rfl) (Nat.le_of_ble_eq_true rfl) dX10_init_82 (fun H hH => ?_)
  obtain ⟨a74, e75, hf⟩ := ol hf
  rw [e75]
  obtain ⟨S76, e77, hf⟩ := ol hf
  rw [e77] at hH
  refine W.widen (k := 10) (n := 1182) (by omega) (by omega) ?_
  obtain ⟨ek78, hf⟩ := oc hf
  refine r_putQ hx hb 13 hts (fun w h => List.mem_cons_of_mem _ (mwsX100 w h)) tyX10 tyX10_ok nmX10 hown hH ek78 (by decide) rfl 13 (by decide) rfl (hts (.fieldLink RX10 39 "HousestyleModel" "ranks" "[I") (List.mem_cons_of_mem _ gw_29_22)) (fun _ h9 => h9) (Or.inr ⟨rfl, hin, rfl⟩) (ty := (.array .int)) (by decide +kernel) rfl rfl dX10_init_84 (fun H locs hH => ?_)
  obtain ⟨S79, e80, hf⟩ := ol hf
  rw [e80] at hH
  refine lv_aload_n hx hb dX10_init_87 rfl (lv_at hl 0 rfl) ?_
  refine lv_bipush (v := 12) hx hb dX10_init_88 (by decide) ?_
  obtain ⟨en81, hf⟩ := oc hf
  refine r_newa (atype := .int) hx hb 101 (hts (.arrayClass .int) (List.mem_cons_of_mem _ gw_0_17)) rfl (by decide) (by decide) rfl (by decide) (fun _ h9 => h9) hH (cap := 12) en81 (by decide) (Nat.le_of_ble_eq_true rfl) (Nat.le_of_ble_eq_true rfl) dX10_init_90 (fun H hH => ?_)
  obtain ⟨a82, e83, hf⟩ := ol hf
  rw [e83]
  obtain ⟨S84, e85, hf⟩ := ol hf
  rw [e85] at hH
  refine W.widen (k := 11) (n := 1194) (by omega) (by omega) ?_
  obtain ⟨ek86, hf⟩ := oc hf
  refine r_putQ hx hb 13 hts (fun w h => List.mem_cons_of_mem _ (mwsX100 w h)) tyX10 tyX10_ok nmX10 hown hH ek86 (by decide) rfl 14 (by decide) rfl (hts (.fieldLink RX10 42 "HousestyleModel" "exceptions" "[I") (List.mem_cons_of_mem _ gw_29_23)) (fun _ h9 => h9) (Or.inr ⟨rfl, hin, rfl⟩) (ty := (.array .int)) (by decide +kernel) rfl rfl dX10_init_92 (fun H locs hH => ?_)
  obtain ⟨S87, e88, hf⟩ := ol hf
  rw [e88] at hH
  refine lv_aload_n hx hb dX10_init_95 rfl (lv_at hl 0 rfl) ?_
  refine lv_sipush (v := 720) hx hb dX10_init_96 (by decide) ?_
  obtain ⟨en89, hf⟩ := oc hf
  refine r_newa (atype := .char) hx hb 102 (hts (.arrayClass .char) (List.mem_cons_of_mem _ gw_29_11)) rfl (by decide) (by decide) rfl (by decide) (fun _ h9 => h9) hH (cap := 720) en89 (by decide) (Nat.le_of_ble_eq_true rfl) (Nat.le_of_ble_eq_true rfl) dX10_init_99 (fun H hH => ?_)
  obtain ⟨a90, e91, hf⟩ := ol hf
  rw [e91]
  obtain ⟨S92, e93, hf⟩ := ol hf
  rw [e93] at hH
  refine W.widen (k := 12) (n := 1914) (by omega) (by omega) ?_
  obtain ⟨ek94, hf⟩ := oc hf
  refine r_putQ hx hb 13 hts (fun w h => List.mem_cons_of_mem _ (mwsX100 w h)) tyX10 tyX10_ok nmX10 hown hH ek94 (by decide) rfl 15 (by decide) rfl (hts (.fieldLink RX10 45 "HousestyleModel" "excepted" "[C") (List.mem_cons_of_mem _ gw_30_0)) (fun _ h9 => h9) (Or.inr ⟨rfl, hin, rfl⟩) (ty := (.array .char)) (by decide +kernel) rfl rfl dX10_init_101 (fun H locs hH => ?_)
  obtain ⟨S95, e96, hf⟩ := ol hf
  rw [e96] at hH
  refine lv_aload_n hx hb dX10_init_104 rfl (lv_at hl 0 rfl) ?_
  refine lv_bipush (v := 36) hx hb dX10_init_105 (by decide) ?_
  obtain ⟨en97, hf⟩ := oc hf
  refine r_newa (atype := .int) hx hb 101 (hts (.arrayClass .int) (List.mem_cons_of_mem _ gw_0_17)) rfl (by decide) (by decide) rfl (by decide) (fun _ h9 => h9) hH (cap := 36) en97 (by decide) (Nat.le_of_ble_eq_true rfl) (Nat.le_of_ble_eq_true rfl) dX10_init_107 (fun H hH => ?_)
  obtain ⟨a98, e99, hf⟩ := ol hf
  rw [e99]
  obtain ⟨S100, e101, hf⟩ := ol hf
  rw [e101] at hH
  refine W.widen (k := 13) (n := 1950) (by omega) (by omega) ?_
  obtain ⟨ek102, hf⟩ := oc hf
  refine r_putQ hx hb 13 hts (fun w h => List.mem_cons_of_mem _ (mwsX100 w h)) tyX10 tyX10_ok nmX10 hown hH ek102 (by decide) rfl 16 (by decide) rfl (hts (.fieldLink RX10 48 "HousestyleModel" "exceptedSizes" "[I") (List.mem_cons_of_mem _ gw_30_1)) (fun _ h9 => h9) (Or.inr ⟨rfl, hin, rfl⟩) (ty := (.array .int)) (by decide +kernel) rfl rfl dX10_init_109 (fun H locs hH => ?_)
  obtain ⟨S103, e104, hf⟩ := ol hf
  rw [e104] at hH
  refine lv_aload_n hx hb dX10_init_112 rfl (lv_at hl 0 rfl) ?_
  refine lv_bipush (v := 12) hx hb dX10_init_113 (by decide) ?_
  obtain ⟨en105, hf⟩ := oc hf
  refine r_newa (atype := .int) hx hb 101 (hts (.arrayClass .int) (List.mem_cons_of_mem _ gw_0_17)) rfl (by decide) (by decide) rfl (by decide) (fun _ h9 => h9) hH (cap := 12) en105 (by decide) (Nat.le_of_ble_eq_true rfl) (Nat.le_of_ble_eq_true rfl) dX10_init_115 (fun H hH => ?_)
  obtain ⟨a106, e107, hf⟩ := ol hf
  rw [e107]
  obtain ⟨S108, e109, hf⟩ := ol hf
  rw [e109] at hH
  refine W.widen (k := 14) (n := 1962) (by omega) (by omega) ?_
  obtain ⟨ek110, hf⟩ := oc hf
  refine r_putQ hx hb 13 hts (fun w h => List.mem_cons_of_mem _ (mwsX100 w h)) tyX10 tyX10_ok nmX10 hown hH ek110 (by decide) rfl 17 (by decide) rfl (hts (.fieldLink RX10 51 "HousestyleModel" "suggestions" "[I") (List.mem_cons_of_mem _ gw_30_2)) (fun _ h9 => h9) (Or.inr ⟨rfl, hin, rfl⟩) (ty := (.array .int)) (by decide +kernel) rfl rfl dX10_init_117 (fun H locs hH => ?_)
  obtain ⟨S111, e112, hf⟩ := ol hf
  rw [e112] at hH
  refine lv_aload_n hx hb dX10_init_120 rfl (lv_at hl 0 rfl) ?_
  refine lv_sipush (v := 480) hx hb dX10_init_121 (by decide) ?_
  obtain ⟨en113, hf⟩ := oc hf
  refine r_newa (atype := .char) hx hb 102 (hts (.arrayClass .char) (List.mem_cons_of_mem _ gw_29_11)) rfl (by decide) (by decide) rfl (by decide) (fun _ h9 => h9) hH (cap := 480) en113 (by decide) (Nat.le_of_ble_eq_true rfl) (Nat.le_of_ble_eq_true rfl) dX10_init_124 (fun H hH => ?_)
  obtain ⟨a114, e115, hf⟩ := ol hf
  rw [e115]
  obtain ⟨S116, e117, hf⟩ := ol hf
  rw [e117] at hH
  refine W.widen (k := 15) (n := 2442) (by omega) (by omega) ?_
  obtain ⟨ek118, hf⟩ := oc hf
  refine r_putQ hx hb 13 hts (fun w h => List.mem_cons_of_mem _ (mwsX100 w h)) tyX10 tyX10_ok nmX10 hown hH ek118 (by decide) rfl 18 (by decide) rfl (hts (.fieldLink RX10 54 "HousestyleModel" "suggested" "[C") (List.mem_cons_of_mem _ gw_30_3)) (fun _ h9 => h9) (Or.inr ⟨rfl, hin, rfl⟩) (ty := (.array .char)) (by decide +kernel) rfl rfl dX10_init_126 (fun H locs hH => ?_)
  obtain ⟨S119, e120, hf⟩ := ol hf
  rw [e120] at hH
  refine lv_aload_n hx hb dX10_init_129 rfl (lv_at hl 0 rfl) ?_
  refine lv_bipush (v := 24) hx hb dX10_init_130 (by decide) ?_
  obtain ⟨en121, hf⟩ := oc hf
  refine r_newa (atype := .int) hx hb 101 (hts (.arrayClass .int) (List.mem_cons_of_mem _ gw_0_17)) rfl (by decide) (by decide) rfl (by decide) (fun _ h9 => h9) hH (cap := 24) en121 (by decide) (Nat.le_of_ble_eq_true rfl) (Nat.le_of_ble_eq_true rfl) dX10_init_132 (fun H hH => ?_)
  obtain ⟨a122, e123, hf⟩ := ol hf
  rw [e123]
  obtain ⟨S124, e125, hf⟩ := ol hf
  rw [e125] at hH
  refine W.widen (k := 16) (n := 2466) (by omega) (by omega) ?_
  obtain ⟨ek126, hf⟩ := oc hf
  refine r_putQ hx hb 13 hts (fun w h => List.mem_cons_of_mem _ (mwsX100 w h)) tyX10 tyX10_ok nmX10 hown hH ek126 (by decide) rfl 19 (by decide) rfl (hts (.fieldLink RX10 57 "HousestyleModel" "suggestedSizes" "[I") (List.mem_cons_of_mem _ gw_30_4)) (fun _ h9 => h9) (Or.inr ⟨rfl, hin, rfl⟩) (ty := (.array .int)) (by decide +kernel) rfl rfl dX10_init_134 (fun H locs hH => ?_)
  obtain ⟨S127, e128, hf⟩ := ol hf
  rw [e128] at hH
  refine lv_aload_n hx hb dX10_init_137 rfl (lv_at hl 0 rfl) ?_
  refine lv_sipush (v := 160) hx hb dX10_init_138 (by decide) ?_
  obtain ⟨en129, hf⟩ := oc hf
  refine r_newa (atype := .char) hx hb 102 (hts (.arrayClass .char) (List.mem_cons_of_mem _ gw_29_11)) rfl (by decide) (by decide) rfl (by decide) (fun _ h9 => h9) hH (cap := 160) en129 (by decide) (Nat.le_of_ble_eq_true rfl) (Nat.le_of_ble_eq_true rfl) dX10_init_141 (fun H hH => ?_)
  obtain ⟨a130, e131, hf⟩ := ol hf
  rw [e131]
  obtain ⟨S132, e133, hf⟩ := ol hf
  rw [e133] at hH
  refine W.widen (k := 17) (n := 2626) (by omega) (by omega) ?_
  obtain ⟨ek134, hf⟩ := oc hf
  refine r_putQ hx hb 13 hts (fun w h => List.mem_cons_of_mem _ (mwsX100 w h)) tyX10 tyX10_ok nmX10 hown hH ek134 (by decide) rfl 21 (by decide) rfl (hts (.fieldLink RX10 60 "HousestyleModel" "paired" "[C") (List.mem_cons_of_mem _ gw_30_5)) (fun _ h9 => h9) (Or.inr ⟨rfl, hin, rfl⟩) (ty := (.array .char)) (by decide +kernel) rfl rfl dX10_init_143 (fun H locs hH => ?_)
  obtain ⟨S135, e136, hf⟩ := ol hf
  rw [e136] at hH
  refine lv_aload_n hx hb dX10_init_146 rfl (lv_at hl 0 rfl) ?_
  refine lv_bipush (v := 8) hx hb dX10_init_147 (by decide) ?_
  obtain ⟨en137, hf⟩ := oc hf
  refine r_newa (atype := .int) hx hb 101 (hts (.arrayClass .int) (List.mem_cons_of_mem _ gw_0_17)) rfl (by decide) (by decide) rfl (by decide) (fun _ h9 => h9) hH (cap := 8) en137 (by decide) (Nat.le_of_ble_eq_true rfl) (Nat.le_of_ble_eq_true rfl) dX10_init_149 (fun H hH => ?_)
  obtain ⟨a138, e139, hf⟩ := ol hf
  rw [e139]
  obtain ⟨S140, e141, hf⟩ := ol hf
  rw [e141] at hH
  refine W.widen (k := 18) (n := 2634) (by omega) (by omega) ?_
  obtain ⟨ek142, hf⟩ := oc hf
  refine r_putQ hx hb 13 hts (fun w h => List.mem_cons_of_mem _ (mwsX100 w h)) tyX10 tyX10_ok nmX10 hown hH ek142 (by decide) rfl 22 (by decide) rfl (hts (.fieldLink RX10 63 "HousestyleModel" "pairedSizes" "[I") (List.mem_cons_of_mem _ gw_30_6)) (fun _ h9 => h9) (Or.inr ⟨rfl, hin, rfl⟩) (ty := (.array .int)) (by decide +kernel) rfl rfl dX10_init_151 (fun H locs hH => ?_)
  obtain ⟨S143, e144, hf⟩ := ol hf
  rw [e144] at hH
  refine lv_aload_n hx hb dX10_init_154 rfl (lv_at hl 0 rfl) ?_
  refine lv_bipush (v := 48) hx hb dX10_init_155 (by decide) ?_
  obtain ⟨en145, hf⟩ := oc hf
  refine r_newa (atype := .boolean) hx hb 103 (hts (.arrayClass .boolean) (List.mem_cons_of_mem _ gw_29_20)) rfl (by decide) (by decide) rfl (by decide) (fun _ h9 => h9) hH (cap := 48) en145 (by decide) (Nat.le_of_ble_eq_true rfl) (Nat.le_of_ble_eq_true rfl) dX10_init_157 (fun H hH => ?_)
  obtain ⟨a146, e147, hf⟩ := ol hf
  rw [e147]
  obtain ⟨S148, e149, hf⟩ := ol hf
  rw [e149] at hH
  refine W.widen (k := 19) (n := 2682) (by omega) (by omega) ?_
  obtain ⟨ek150, hf⟩ := oc hf
  refine r_putQ hx hb 13 hts (fun w h => List.mem_cons_of_mem _ (mwsX100 w h)) tyX10 tyX10_ok nmX10 hown hH ek150 (by decide) rfl 23 (by decide) rfl (hts (.fieldLink RX10 66 "HousestyleModel" "isLeftOut" "[Z") (List.mem_cons_of_mem _ gw_30_7)) (fun _ h9 => h9) (Or.inr ⟨rfl, hin, rfl⟩) (ty := (.array .boolean)) (by decide +kernel) rfl rfl dX10_init_159 (fun H locs hH => ?_)
  obtain ⟨S151, e152, hf⟩ := ol hf
  rw [e152] at hH
  refine lv_aload_n hx hb dX10_init_162 rfl (lv_at hl 0 rfl) ?_
  refine lv_bipush (v := 48) hx hb dX10_init_163 (by decide) ?_
  obtain ⟨en153, hf⟩ := oc hf
  refine r_newa (atype := .int) hx hb 101 (hts (.arrayClass .int) (List.mem_cons_of_mem _ gw_0_17)) rfl (by decide) (by decide) rfl (by decide) (fun _ h9 => h9) hH (cap := 48) en153 (by decide) (Nat.le_of_ble_eq_true rfl) (Nat.le_of_ble_eq_true rfl) dX10_init_165 (fun H hH => ?_)
  obtain ⟨a154, e155, hf⟩ := ol hf
  rw [e155]
  obtain ⟨S156, e157, hf⟩ := ol hf
  rw [e157] at hH
  refine W.widen (k := 20) (n := 2730) (by omega) (by omega) ?_
  obtain ⟨ek158, hf⟩ := oc hf
  refine r_putQ hx hb 13 hts (fun w h => List.mem_cons_of_mem _ (mwsX100 w h)) tyX10 tyX10_ok nmX10 hown hH ek158 (by decide) rfl 24 (by decide) rfl (hts (.fieldLink RX10 69 "HousestyleModel" "deskRanks" "[I") (List.mem_cons_of_mem _ gw_30_8)) (fun _ h9 => h9) (Or.inr ⟨rfl, hin, rfl⟩) (ty := (.array .int)) (by decide +kernel) rfl rfl dX10_init_167 (fun H locs hH => ?_)
  obtain ⟨S159, e160, hf⟩ := ol hf
  rw [e160] at hH
  refine lv_aload_n hx hb dX10_init_170 rfl (lv_at hl 0 rfl) ?_
  refine lv_iconst (v := 4) hx hb dX10_init_171 (by decide) ?_
  obtain ⟨en161, hf⟩ := oc hf
  refine r_newa (atype := .int) hx hb 101 (hts (.arrayClass .int) (List.mem_cons_of_mem _ gw_0_17)) rfl (by decide) (by decide) rfl (by decide) (fun _ h9 => h9) hH (cap := 4) en161 (by decide) (Nat.le_of_ble_eq_true rfl) (Nat.le_of_ble_eq_true rfl) dX10_init_172 (fun H hH => ?_)
  obtain ⟨a162, e163, hf⟩ := ol hf
  rw [e163]
  obtain ⟨S164, e165, hf⟩ := ol hf
  rw [e165] at hH
  refine W.widen (k := 21) (n := 2734) (by omega) (by omega) ?_
  obtain ⟨ek166, hf⟩ := oc hf
  refine r_putQ hx hb 13 hts (fun w h => List.mem_cons_of_mem _ (mwsX100 w h)) tyX10 tyX10_ok nmX10 hown hH ek166 (by decide) rfl 25 (by decide) rfl (hts (.fieldLink RX10 72 "HousestyleModel" "limits" "[I") (List.mem_cons_of_mem _ gw_30_9)) (fun _ h9 => h9) (Or.inr ⟨rfl, hin, rfl⟩) (ty := (.array .int)) (by decide +kernel) rfl rfl dX10_init_174 (fun H locs hH => ?_)
  obtain ⟨S167, e168, hf⟩ := ol hf
  rw [e168] at hH
  refine lv_aload_n hx hb dX10_init_177 rfl (lv_at hl 0 rfl) ?_
  refine lv_iconst (v := 4) hx hb dX10_init_178 (by decide) ?_
  obtain ⟨en169, hf⟩ := oc hf
  refine r_newa (atype := .int) hx hb 101 (hts (.arrayClass .int) (List.mem_cons_of_mem _ gw_0_17)) rfl (by decide) (by decide) rfl (by decide) (fun _ h9 => h9) hH (cap := 4) en169 (by decide) (Nat.le_of_ble_eq_true rfl) (Nat.le_of_ble_eq_true rfl) dX10_init_179 (fun H hH => ?_)
  obtain ⟨a170, e171, hf⟩ := ol hf
  rw [e171]
  obtain ⟨S172, e173, hf⟩ := ol hf
  rw [e173] at hH
  refine W.widen (k := 22) (n := 2738) (by omega) (by omega) ?_
  obtain ⟨ek174, hf⟩ := oc hf
  refine r_putQ hx hb 13 hts (fun w h => List.mem_cons_of_mem _ (mwsX100 w h)) tyX10 tyX10_ok nmX10 hown hH ek174 (by decide) rfl 26 (by decide) rfl (hts (.fieldLink RX10 75 "HousestyleModel" "ignored" "[I") (List.mem_cons_of_mem _ gw_30_10)) (fun _ h9 => h9) (Or.inr ⟨rfl, hin, rfl⟩) (ty := (.array .int)) (by decide +kernel) rfl rfl dX10_init_181 (fun H locs hH => ?_)
  obtain ⟨S175, e176, hf⟩ := ol hf
  rw [e176] at hH
  refine lv_aload_n hx hb dX10_init_184 rfl (lv_at hl 0 rfl) ?_
  refine lv_bipush (v := 80) hx hb dX10_init_185 (by decide) ?_
  obtain ⟨en177, hf⟩ := oc hf
  refine r_newa (atype := .int) hx hb 101 (hts (.arrayClass .int) (List.mem_cons_of_mem _ gw_0_17)) rfl (by decide) (by decide) rfl (by decide) (fun _ h9 => h9) hH (cap := 80) en177 (by decide) (Nat.le_of_ble_eq_true rfl) (Nat.le_of_ble_eq_true rfl) dX10_init_187 (fun H hH => ?_)
  obtain ⟨a178, e179, hf⟩ := ol hf
  rw [e179]
  obtain ⟨S180, e181, hf⟩ := ol hf
  rw [e181] at hH
  refine W.widen (k := 23) (n := 2818) (by omega) (by omega) ?_
  obtain ⟨ek182, hf⟩ := oc hf
  refine r_putQ hx hb 13 hts (fun w h => List.mem_cons_of_mem _ (mwsX100 w h)) tyX10 tyX10_ok nmX10 hown hH ek182 (by decide) rfl 27 (by decide) rfl (hts (.fieldLink RX10 78 "HousestyleModel" "ignoredRules" "[I") (List.mem_cons_of_mem _ gw_30_11)) (fun _ h9 => h9) (Or.inr ⟨rfl, hin, rfl⟩) (ty := (.array .int)) (by decide +kernel) rfl rfl dX10_init_189 (fun H locs hH => ?_)
  obtain ⟨S183, e184, hf⟩ := ol hf
  rw [e184] at hH
  refine lv_aload_n hx hb dX10_init_192 rfl (lv_at hl 0 rfl) ?_
  refine lv_bipush (v := 80) hx hb dX10_init_193 (by decide) ?_
  obtain ⟨en185, hf⟩ := oc hf
  refine r_newa (atype := .int) hx hb 101 (hts (.arrayClass .int) (List.mem_cons_of_mem _ gw_0_17)) rfl (by decide) (by decide) rfl (by decide) (fun _ h9 => h9) hH (cap := 80) en185 (by decide) (Nat.le_of_ble_eq_true rfl) (Nat.le_of_ble_eq_true rfl) dX10_init_195 (fun H hH => ?_)
  obtain ⟨a186, e187, hf⟩ := ol hf
  rw [e187]
  obtain ⟨S188, e189, hf⟩ := ol hf
  rw [e189] at hH
  refine W.widen (k := 24) (n := 2898) (by omega) (by omega) ?_
  obtain ⟨ek190, hf⟩ := oc hf
  refine r_putQ hx hb 13 hts (fun w h => List.mem_cons_of_mem _ (mwsX100 w h)) tyX10 tyX10_ok nmX10 hown hH ek190 (by decide) rfl 28 (by decide) rfl (hts (.fieldLink RX10 81 "HousestyleModel" "ignoredFrom" "[I") (List.mem_cons_of_mem _ gw_30_12)) (fun _ h9 => h9) (Or.inr ⟨rfl, hin, rfl⟩) (ty := (.array .int)) (by decide +kernel) rfl rfl dX10_init_197 (fun H locs hH => ?_)
  obtain ⟨S191, e192, hf⟩ := ol hf
  rw [e192] at hH
  refine lv_aload_n hx hb dX10_init_200 rfl (lv_at hl 0 rfl) ?_
  refine lv_bipush (v := 80) hx hb dX10_init_201 (by decide) ?_
  obtain ⟨en193, hf⟩ := oc hf
  refine r_newa (atype := .int) hx hb 101 (hts (.arrayClass .int) (List.mem_cons_of_mem _ gw_0_17)) rfl (by decide) (by decide) rfl (by decide) (fun _ h9 => h9) hH (cap := 80) en193 (by decide) (Nat.le_of_ble_eq_true rfl) (Nat.le_of_ble_eq_true rfl) dX10_init_203 (fun H hH => ?_)
  obtain ⟨a194, e195, hf⟩ := ol hf
  rw [e195]
  obtain ⟨S196, e197, hf⟩ := ol hf
  rw [e197] at hH
  refine W.widen (k := 25) (n := 2978) (by omega) (by omega) ?_
  obtain ⟨ek198, hf⟩ := oc hf
  refine r_putQ hx hb 13 hts (fun w h => List.mem_cons_of_mem _ (mwsX100 w h)) tyX10 tyX10_ok nmX10 hown hH ek198 (by decide) rfl 29 (by decide) rfl (hts (.fieldLink RX10 84 "HousestyleModel" "ignoredTo" "[I") (List.mem_cons_of_mem _ gw_30_13)) (fun _ h9 => h9) (Or.inr ⟨rfl, hin, rfl⟩) (ty := (.array .int)) (by decide +kernel) rfl rfl dX10_init_205 (fun H locs hH => ?_)
  obtain ⟨S199, e200, hf⟩ := ol hf
  rw [e200] at hH
  refine lv_aload_n hx hb dX10_init_208 rfl (lv_at hl 0 rfl) ?_
  refine lv_sipush (v := 644) hx hb dX10_init_209 (by decide) ?_
  obtain ⟨en201, hf⟩ := oc hf
  refine r_newa (atype := .boolean) hx hb 103 (hts (.arrayClass .boolean) (List.mem_cons_of_mem _ gw_29_20)) rfl (by decide) (by decide) rfl (by decide) (fun _ h9 => h9) hH (cap := 644) en201 (by decide) (Nat.le_of_ble_eq_true rfl) (Nat.le_of_ble_eq_true rfl) dX10_init_212 (fun H hH => ?_)
  obtain ⟨a202, e203, hf⟩ := ol hf
  rw [e203]
  obtain ⟨S204, e205, hf⟩ := ol hf
  rw [e205] at hH
  refine W.widen (k := 26) (n := 3622) (by omega) (by omega) ?_
  obtain ⟨ek206, hf⟩ := oc hf
  refine r_putQ hx hb 13 hts (fun w h => List.mem_cons_of_mem _ (mwsX100 w h)) tyX10 tyX10_ok nmX10 hown hH ek206 (by decide) rfl 30 (by decide) rfl (hts (.fieldLink RX10 87 "HousestyleModel" "hasChanged" "[Z") (List.mem_cons_of_mem _ gw_30_14)) (fun _ h9 => h9) (Or.inr ⟨rfl, hin, rfl⟩) (ty := (.array .boolean)) (by decide +kernel) rfl rfl dX10_init_214 (fun H locs hH => ?_)
  obtain ⟨S207, e208, hf⟩ := ol hf
  rw [e208] at hH
  refine lv_aload_n hx hb dX10_init_217 rfl (lv_at hl 0 rfl) ?_
  refine lv_sipush (v := 160) hx hb dX10_init_218 (by decide) ?_
  obtain ⟨en209, hf⟩ := oc hf
  refine r_newa (atype := .int) hx hb 101 (hts (.arrayClass .int) (List.mem_cons_of_mem _ gw_0_17)) rfl (by decide) (by decide) rfl (by decide) (fun _ h9 => h9) hH (cap := 160) en209 (by decide) (Nat.le_of_ble_eq_true rfl) (Nat.le_of_ble_eq_true rfl) dX10_init_221 (fun H hH => ?_)
  obtain ⟨a210, e211, hf⟩ := ol hf
  rw [e211]
  obtain ⟨S212, e213, hf⟩ := ol hf
  rw [e213] at hH
  refine W.widen (k := 27) (n := 3782) (by omega) (by omega) ?_
  obtain ⟨ek214, hf⟩ := oc hf
  refine r_putQ hx hb 13 hts (fun w h => List.mem_cons_of_mem _ (mwsX100 w h)) tyX10 tyX10_ok nmX10 hown hH ek214 (by decide) rfl 32 (by decide) rfl (hts (.fieldLink RX10 90 "HousestyleModel" "from" "[I") (List.mem_cons_of_mem _ gw_30_15)) (fun _ h9 => h9) (Or.inr ⟨rfl, hin, rfl⟩) (ty := (.array .int)) (by decide +kernel) rfl rfl dX10_init_223 (fun H locs hH => ?_)
  obtain ⟨S215, e216, hf⟩ := ol hf
  rw [e216] at hH
  refine lv_aload_n hx hb dX10_init_226 rfl (lv_at hl 0 rfl) ?_
  refine lv_sipush (v := 160) hx hb dX10_init_227 (by decide) ?_
  obtain ⟨en217, hf⟩ := oc hf
  refine r_newa (atype := .int) hx hb 101 (hts (.arrayClass .int) (List.mem_cons_of_mem _ gw_0_17)) rfl (by decide) (by decide) rfl (by decide) (fun _ h9 => h9) hH (cap := 160) en217 (by decide) (Nat.le_of_ble_eq_true rfl) (Nat.le_of_ble_eq_true rfl) dX10_init_230 (fun H hH => ?_)
  obtain ⟨a218, e219, hf⟩ := ol hf
  rw [e219]
  obtain ⟨S220, e221, hf⟩ := ol hf
  rw [e221] at hH
  refine W.widen (k := 28) (n := 3942) (by omega) (by omega) ?_
  obtain ⟨ek222, hf⟩ := oc hf
  refine r_putQ hx hb 13 hts (fun w h => List.mem_cons_of_mem _ (mwsX100 w h)) tyX10 tyX10_ok nmX10 hown hH ek222 (by decide) rfl 33 (by decide) rfl (hts (.fieldLink RX10 93 "HousestyleModel" "to" "[I") (List.mem_cons_of_mem _ gw_30_16)) (fun _ h9 => h9) (Or.inr ⟨rfl, hin, rfl⟩) (ty := (.array .int)) (by decide +kernel) rfl rfl dX10_init_232 (fun H locs hH => ?_)
  obtain ⟨S223, e224, hf⟩ := ol hf
  rw [e224] at hH
  refine lv_aload_n hx hb dX10_init_235 rfl (lv_at hl 0 rfl) ?_
  refine lv_sipush (v := 160) hx hb dX10_init_236 (by decide) ?_
  obtain ⟨en225, hf⟩ := oc hf
  refine r_newa (atype := .boolean) hx hb 103 (hts (.arrayClass .boolean) (List.mem_cons_of_mem _ gw_29_20)) rfl (by decide) (by decide) rfl (by decide) (fun _ h9 => h9) hH (cap := 160) en225 (by decide) (Nat.le_of_ble_eq_true rfl) (Nat.le_of_ble_eq_true rfl) dX10_init_239 (fun H hH => ?_)
  obtain ⟨a226, e227, hf⟩ := ol hf
  rw [e227]
  obtain ⟨S228, e229, hf⟩ := ol hf
  rw [e229] at hH
  refine W.widen (k := 29) (n := 4102) (by omega) (by omega) ?_
  obtain ⟨ek230, hf⟩ := oc hf
  refine r_putQ hx hb 13 hts (fun w h => List.mem_cons_of_mem _ (mwsX100 w h)) tyX10 tyX10_ok nmX10 hown hH ek230 (by decide) rfl 34 (by decide) rfl (hts (.fieldLink RX10 96 "HousestyleModel" "isWord" "[Z") (List.mem_cons_of_mem _ gw_30_17)) (fun _ h9 => h9) (Or.inr ⟨rfl, hin, rfl⟩) (ty := (.array .boolean)) (by decide +kernel) rfl rfl dX10_init_241 (fun H locs hH => ?_)
  obtain ⟨S231, e232, hf⟩ := ol hf
  rw [e232] at hH
  refine lv_aload_n hx hb dX10_init_244 rfl (lv_at hl 0 rfl) ?_
  refine lv_sipush (v := 161) hx hb dX10_init_245 (by decide) ?_
  obtain ⟨en233, hf⟩ := oc hf
  refine r_newa (atype := .int) hx hb 101 (hts (.arrayClass .int) (List.mem_cons_of_mem _ gw_0_17)) rfl (by decide) (by decide) rfl (by decide) (fun _ h9 => h9) hH (cap := 161) en233 (by decide) (Nat.le_of_ble_eq_true rfl) (Nat.le_of_ble_eq_true rfl) dX10_init_248 (fun H hH => ?_)
  obtain ⟨a234, e235, hf⟩ := ol hf
  rw [e235]
  obtain ⟨S236, e237, hf⟩ := ol hf
  rw [e237] at hH
  refine W.widen (k := 30) (n := 4263) (by omega) (by omega) ?_
  obtain ⟨ek238, hf⟩ := oc hf
  refine r_putQ hx hb 13 hts (fun w h => List.mem_cons_of_mem _ (mwsX100 w h)) tyX10 tyX10_ok nmX10 hown hH ek238 (by decide) rfl 35 (by decide) rfl (hts (.fieldLink RX10 99 "HousestyleModel" "paragraph" "[I") (List.mem_cons_of_mem _ gw_30_18)) (fun _ h9 => h9) (Or.inr ⟨rfl, hin, rfl⟩) (ty := (.array .int)) (by decide +kernel) rfl rfl dX10_init_250 (fun H locs hH => ?_)
  obtain ⟨S239, e240, hf⟩ := ol hf
  rw [e240] at hH
  refine lv_aload_n hx hb dX10_init_253 rfl (lv_at hl 0 rfl) ?_
  refine lv_sipush (v := 161) hx hb dX10_init_254 (by decide) ?_
  obtain ⟨en241, hf⟩ := oc hf
  refine r_newa (atype := .boolean) hx hb 103 (hts (.arrayClass .boolean) (List.mem_cons_of_mem _ gw_29_20)) rfl (by decide) (by decide) rfl (by decide) (fun _ h9 => h9) hH (cap := 161) en241 (by decide) (Nat.le_of_ble_eq_true rfl) (Nat.le_of_ble_eq_true rfl) dX10_init_257 (fun H hH => ?_)
  obtain ⟨a242, e243, hf⟩ := ol hf
  rw [e243]
  obtain ⟨S244, e245, hf⟩ := ol hf
  rw [e245] at hH
  refine W.widen (k := 31) (n := 4424) (by omega) (by omega) ?_
  obtain ⟨ek246, hf⟩ := oc hf
  refine r_putQ hx hb 13 hts (fun w h => List.mem_cons_of_mem _ (mwsX100 w h)) tyX10 tyX10_ok nmX10 hown hH ek246 (by decide) rfl 36 (by decide) rfl (hts (.fieldLink RX10 102 "HousestyleModel" "isQuoted" "[Z") (List.mem_cons_of_mem _ gw_30_19)) (fun _ h9 => h9) (Or.inr ⟨rfl, hin, rfl⟩) (ty := (.array .boolean)) (by decide +kernel) rfl rfl dX10_init_259 (fun H locs hH => ?_)
  obtain ⟨S247, e248, hf⟩ := ol hf
  rw [e248] at hH
  refine lv_aload_n hx hb dX10_init_262 rfl (lv_at hl 0 rfl) ?_
  refine lv_sipush (v := 2800) hx hb dX10_init_263 (by decide) ?_
  obtain ⟨en249, hf⟩ := oc hf
  refine r_newa (atype := .int) hx hb 101 (hts (.arrayClass .int) (List.mem_cons_of_mem _ gw_0_17)) rfl (by decide) (by decide) rfl (by decide) (fun _ h9 => h9) hH (cap := 2800) en249 (by decide) (Nat.le_of_ble_eq_true rfl) (Nat.le_of_ble_eq_true rfl) dX10_init_266 (fun H hH => ?_)
  obtain ⟨a250, e251, hf⟩ := ol hf
  rw [e251]
  obtain ⟨S252, e253, hf⟩ := ol hf
  rw [e253] at hH
  refine W.widen (k := 32) (n := 7224) (by omega) (by omega) ?_
  obtain ⟨ek254, hf⟩ := oc hf
  refine r_putQ hx hb 13 hts (fun w h => List.mem_cons_of_mem _ (mwsX100 w h)) tyX10 tyX10_ok nmX10 hown hH ek254 (by decide) rfl 38 (by decide) rfl (hts (.fieldLink RX10 105 "HousestyleModel" "foundToken" "[I") (List.mem_cons_of_mem _ gw_30_20)) (fun _ h9 => h9) (Or.inr ⟨rfl, hin, rfl⟩) (ty := (.array .int)) (by decide +kernel) rfl rfl dX10_init_268 (fun H locs hH => ?_)
  obtain ⟨S255, e256, hf⟩ := ol hf
  rw [e256] at hH
  refine lv_aload_n hx hb dX10_init_271 rfl (lv_at hl 0 rfl) ?_
  refine lv_sipush (v := 2800) hx hb dX10_init_272 (by decide) ?_
  obtain ⟨en257, hf⟩ := oc hf
  refine r_newa (atype := .int) hx hb 101 (hts (.arrayClass .int) (List.mem_cons_of_mem _ gw_0_17)) rfl (by decide) (by decide) rfl (by decide) (fun _ h9 => h9) hH (cap := 2800) en257 (by decide) (Nat.le_of_ble_eq_true rfl) (Nat.le_of_ble_eq_true rfl) dX10_init_275 (fun H hH => ?_)
  obtain ⟨a258, e259, hf⟩ := ol hf
  rw [e259]
  obtain ⟨S260, e261, hf⟩ := ol hf
  rw [e261] at hH
  refine W.widen (k := 33) (n := 10024) (by omega) (by omega) ?_
  obtain ⟨ek262, hf⟩ := oc hf
  refine r_putQ hx hb 13 hts (fun w h => List.mem_cons_of_mem _ (mwsX100 w h)) tyX10 tyX10_ok nmX10 hown hH ek262 (by decide) rfl 39 (by decide) rfl (hts (.fieldLink RX10 108 "HousestyleModel" "foundTo" "[I") (List.mem_cons_of_mem _ gw_30_21)) (fun _ h9 => h9) (Or.inr ⟨rfl, hin, rfl⟩) (ty := (.array .int)) (by decide +kernel) rfl rfl dX10_init_277 (fun H locs hH => ?_)
  obtain ⟨S263, e264, hf⟩ := ol hf
  rw [e264] at hH
  refine lv_aload_n hx hb dX10_init_280 rfl (lv_at hl 0 rfl) ?_
  refine lv_sipush (v := 2800) hx hb dX10_init_281 (by decide) ?_
  obtain ⟨en265, hf⟩ := oc hf
  refine r_newa (atype := .int) hx hb 101 (hts (.arrayClass .int) (List.mem_cons_of_mem _ gw_0_17)) rfl (by decide) (by decide) rfl (by decide) (fun _ h9 => h9) hH (cap := 2800) en265 (by decide) (Nat.le_of_ble_eq_true rfl) (Nat.le_of_ble_eq_true rfl) dX10_init_284 (fun H hH => ?_)
  obtain ⟨a266, e267, hf⟩ := ol hf
  rw [e267]
  obtain ⟨S268, e269, hf⟩ := ol hf
  rw [e269] at hH
  refine W.widen (k := 34) (n := 12824) (by omega) (by omega) ?_
  obtain ⟨ek270, hf⟩ := oc hf
  refine r_putQ hx hb 13 hts (fun w h => List.mem_cons_of_mem _ (mwsX100 w h)) tyX10 tyX10_ok nmX10 hown hH ek270 (by decide) rfl 40 (by decide) rfl (hts (.fieldLink RX10 111 "HousestyleModel" "foundRule" "[I") (List.mem_cons_of_mem _ gw_30_22)) (fun _ h9 => h9) (Or.inr ⟨rfl, hin, rfl⟩) (ty := (.array .int)) (by decide +kernel) rfl rfl dX10_init_286 (fun H locs hH => ?_)
  obtain ⟨S271, e272, hf⟩ := ol hf
  rw [e272] at hH
  refine lv_aload_n hx hb dX10_init_289 rfl (lv_at hl 0 rfl) ?_
  refine lv_sipush (v := 2800) hx hb dX10_init_290 (by decide) ?_
  obtain ⟨en273, hf⟩ := oc hf
  refine r_newa (atype := .int) hx hb 101 (hts (.arrayClass .int) (List.mem_cons_of_mem _ gw_0_17)) rfl (by decide) (by decide) rfl (by decide) (fun _ h9 => h9) hH (cap := 2800) en273 (by decide) (Nat.le_of_ble_eq_true rfl) (Nat.le_of_ble_eq_true rfl) dX10_init_293 (fun H hH => ?_)
  obtain ⟨a274, e275, hf⟩ := ol hf
  rw [e275]
  obtain ⟨S276, e277, hf⟩ := ol hf
  rw [e277] at hH
  refine W.widen (k := 35) (n := 15624) (by omega) (by omega) ?_
  obtain ⟨ek278, hf⟩ := oc hf
  refine r_putQ hx hb 13 hts (fun w h => List.mem_cons_of_mem _ (mwsX100 w h)) tyX10 tyX10_ok nmX10 hown hH ek278 (by decide) rfl 41 (by decide) rfl (hts (.fieldLink RX10 114 "HousestyleModel" "foundRank" "[I") (List.mem_cons_of_mem _ gw_30_23)) (fun _ h9 => h9) (Or.inr ⟨rfl, hin, rfl⟩) (ty := (.array .int)) (by decide +kernel) rfl rfl dX10_init_295 (fun H locs hH => ?_)
  obtain ⟨S279, e280, hf⟩ := ol hf
  rw [e280] at hH
  refine lv_aload_n hx hb dX10_init_298 rfl (lv_at hl 0 rfl) ?_
  refine lv_sipush (v := 160) hx hb dX10_init_299 (by decide) ?_
  obtain ⟨en281, hf⟩ := oc hf
  refine r_newa (atype := .int) hx hb 101 (hts (.arrayClass .int) (List.mem_cons_of_mem _ gw_0_17)) rfl (by decide) (by decide) rfl (by decide) (fun _ h9 => h9) hH (cap := 160) en281 (by decide) (Nat.le_of_ble_eq_true rfl) (Nat.le_of_ble_eq_true rfl) dX10_init_302 (fun H hH => ?_)
  obtain ⟨a282, e283, hf⟩ := ol hf
  rw [e283]
  obtain ⟨S284, e285, hf⟩ := ol hf
  rw [e285] at hH
  refine W.widen (k := 36) (n := 15784) (by omega) (by omega) ?_
  obtain ⟨ek286, hf⟩ := oc hf
  refine r_putQ hx hb 13 hts (fun w h => List.mem_cons_of_mem _ (mwsX100 w h)) tyX10 tyX10_ok nmX10 hown hH ek286 (by decide) rfl 43 (by decide) rfl (hts (.fieldLink RX10 117 "HousestyleModel" "takes" "[I") (List.mem_cons_of_mem _ gw_31_0)) (fun _ h9 => h9) (Or.inr ⟨rfl, hin, rfl⟩) (ty := (.array .int)) (by decide +kernel) rfl rfl dX10_init_304 (fun H locs hH => ?_)
  obtain ⟨S287, e288, hf⟩ := ol hf
  rw [e288] at hH
  refine lv_aload_n hx hb dX10_init_307 rfl (lv_at hl 0 rfl) ?_
  refine lv_sipush (v := 200) hx hb dX10_init_308 (by decide) ?_
  obtain ⟨en289, hf⟩ := oc hf
  refine r_newa (atype := .char) hx hb 102 (hts (.arrayClass .char) (List.mem_cons_of_mem _ gw_29_11)) rfl (by decide) (by decide) rfl (by decide) (fun _ h9 => h9) hH (cap := 200) en289 (by decide) (Nat.le_of_ble_eq_true rfl) (Nat.le_of_ble_eq_true rfl) dX10_init_311 (fun H hH => ?_)
  obtain ⟨a290, e291, hf⟩ := ol hf
  rw [e291]
  obtain ⟨S292, e293, hf⟩ := ol hf
  rw [e293] at hH
  refine W.widen (k := 37) (n := 15984) (by omega) (by omega) ?_
  obtain ⟨ek294, hf⟩ := oc hf
  refine r_putQ hx hb 13 hts (fun w h => List.mem_cons_of_mem _ (mwsX100 w h)) tyX10 tyX10_ok nmX10 hown hH ek294 (by decide) rfl 44 (by decide) rfl (hts (.fieldLink RX10 120 "HousestyleModel" "out" "[C") (List.mem_cons_of_mem _ gw_31_1)) (fun _ h9 => h9) (Or.inr ⟨rfl, hin, rfl⟩) (ty := (.array .char)) (by decide +kernel) rfl rfl dX10_init_313 (fun H locs hH => ?_)
  obtain ⟨S295, e296, hf⟩ := ol hf
  rw [e296] at hH
  refine lv_iconst (v := 0) hx hb dX10_init_316 (by decide) ?_
  refine lv_istore_n (lv' := [(1, .int 0), (0, .ref a0)]) hx hb dX10_init_317 rfl hl (by decide) rfl (fun ls hl => ?_)
  obtain ⟨k300, e301, hf⟩ := ol hf
  have Xk300 : ∀ (S299 : PS) (H : Heap) (locs : List Loc) (ls : Array Slot), HI D S S299 s H locs → lv_has ls 2 [] → k300 S299 = some r → GV p l e (headSpec wsX10_init rmX10_init).room s m ([.ref a0] : List Value).toArray below meth c D S r H locs 37 15984 37 15984 (F0 m 340 ls []) := by
    intro S299 H locs ls hH hl hf
    rw [← e301] at hf
    have hr9 := Option.some.inj hf
    subst hr9
    exact e_v hx hb hr hlocks hH dX10_init_340
  obtain ⟨o302, eo302, hq302f⟩ := ob hf
  have Lo302 : ∀ (n : Nat) (x297 : Int32) (S298 : PS), iter (fun (v : Int32 × PS) => f_X10_init_b318 a0 v.1 v.2) n (x297, S298) = some o302 → ∀ (H : Heap) (locs : List Loc) (ls : Array Slot), HI D S S298 s H locs → lv_has ls 2 [(0, .ref a0), (1, .int x297)] → GV p l e (headSpec wsX10_init rmX10_init).room s m ([.ref a0] : List Value).toArray below meth c D S r H locs 37 15984 37 15984 (F0 m 318 ls []) := by
    intro n
    induction n with
    | zero => intro x297 S298 hi; cases hi
    | succ n ih302 =>
      intro x297 S298 hi H locs ls hH hl
      obtain ⟨q302_, hf, hq302⟩ := iter_s hi
      have hf : f_X10_init_b318 a0 x297 S298 = some q302_ := hf
      unfold f_X10_init_b318 at hf
      refine lv_iload_n hx hb dX10_init_318 rfl (lv_at hl 1 rfl) ?_
      refine lv_iconst (v := 4) hx hb dX10_init_319 (by decide) ?_
      refine lv_icmp_ge (tgt := 340) hx hb dX10_init_320 (by decide) (fun c303 => ?_) (fun c303 => ?_)
      · have hf := ip hf c303
        cases hf
        have hf9 := itR (K := (fun (v : PS) => k300 v)) hq302 hq302f
        exact Xk300 S298 _ _ ls hH (lv_sub hl [] rfl) hf9
      · have hf := iq hf c303
        refine lv_aload_n hx hb dX10_init_323 rfl (lv_at hl 0 rfl) ?_
        obtain ⟨ek304, hf⟩ := oc hf
        obtain ⟨a305, e306, hf⟩ := ob hf
        refine r_getQ hx hb 13 hts (fun w h => List.mem_cons_of_mem _ (mwsX100 w h)) hown hH ek304 (by decide) rfl 30 (by decide) rfl (hts (.fieldLink RX10 87 "HousestyleModel" "hasChanged" "[Z") (List.mem_cons_of_mem _ gw_30_14)) (fun _ h9 => h9) dX10_init_324 e306 ?_
        refine lv_iload_n hx hb dX10_init_327 rfl (lv_at hl 1 rfl) ?_
        refine lv_sipush (v := 161) hx hb dX10_init_328 (by decide) ?_
        refine lv_imul hx hb dX10_init_331 ?_
        refine lv_iconst (v := 1) hx hb dX10_init_332 (by decide) ?_
        obtain ⟨ek307, hf⟩ := oc hf
        obtain ⟨ei308, hf⟩ := oc hf
        refine r_zast hx hb hH ek307 ei308 dX10_init_333 (fun H locs hH => ?_)
        obtain ⟨S309, e310, hf⟩ := ol hf
        rw [e310] at hH
        obtain ⟨x311, e312, hf⟩ := ol hf
        refine lv_iinc (v := x311) (lv' := [(1, .int x311), (0, .ref a0)]) hx hb dX10_init_334 hl (k := 1) rfl (by rw [← e312]; rfl) (by decide) rfl (fun ls hl => ?_)
        refine lv_goto (tgt := 318) hx hb dX10_init_337 (by decide) ?_
        cases hf
        exact ih302 x311 S309 hq302 _ _ ls hH (lv_sub hl [1, 0] rfl)
  exact Lo302 kF 0 S295 eo302 _ _ ls hH (lv_sub hl [1, 0] rfl)
set_option maxRecDepth 100000 in
def f_X10_thrown (S : PS) (a0 : Nat) : Option (Int32) := if kK S a0 = 14 then (some (kI S a0 0)) else none
abbrev rmX10_thrown : Room := { frames := 0, cells := 0, slots := 0, locals := 0 }
set_option maxHeartbeats 4000000 in
set_option maxRecDepth 100000 in
theorem c_X10_thrown (l : Launch) (D : va_G × Nat) (S : PS) (a0 : Nat) (r : Int32) (hf : f_X10_thrown S a0 = some r) : MI l D yX10_thrown wsX10_thrown rmX10_thrown S [.ref a0] S r 0 0 := by
  unfold f_X10_thrown at hf
  refine Met.ofW (cc := cX10_thrown) (maxL := 1) (ret := (some .int)) (by decide) rfl ?_
  intro p e s m args below meth c s₁ B hml hv
  obtain ⟨rfl, hH0, hNE⟩ := hv
  have hx := B.exec
  have hb := B.bytes
  have hr := B.returns
  have hts := atoms_spec (ws := wsX10_thrown) B.pre
  have hown : s.vm.findClass RX10 = some m.cls := findClass_of_methodNamed B.named
  have hlocks := B.notSynchronized
  have hH : HI D S S s s.heap [] := HI.start hH0
  have hl := lv_entry ([.ref a0]) (n := 1) (Nat.le_of_ble_eq_true rfl)
  rw [lg_entry_eq]
  generalize (lg_sl ([.ref a0]) ++ List.replicate (1 - (lg_sl ([.ref a0])).length) Slot.unset).toArray = ls at hl ⊢
  have hl : lv_has ls 1 [(0, .ref a0)] := hl
  refine lv_aload_n hx hb dX10_thrown_0 rfl (lv_at hl 0 rfl) ?_
  obtain ⟨ek1, hf⟩ := oc hf
  refine r_getI hx hb 13 hts (fun w h => List.mem_cons_of_mem _ (mwsX100 w h)) hown hH ek1 (by decide) rfl 0 (by decide) rfl (hts (.fieldLink RX10 123 "HousestyleModel" "thrown" "I") (List.mem_cons_of_mem _ gw_31_3)) (fun _ h9 => h9) dX10_thrown_1 ?_
  have hr9 := Option.some.inj hf
  subst hr9
  exact e_i hx hb hr hlocks hH dX10_thrown_4
set_option maxRecDepth 100000 in
def f_X10_in (S : PS) (p0 : Int32) (p1 : Int32) (p2 : Int32) : Option (Int32) := if p0 < p1 then (some 0) else (if p2 < p0 then (some 0) else (some 1))
abbrev rmX10_in : Room := { frames := 0, cells := 0, slots := 0, locals := 0 }
set_option maxHeartbeats 4000000 in
set_option maxRecDepth 100000 in
theorem c_X10_in (l : Launch) (D : va_G × Nat) (S : PS) (p0 : Int32) (p1 : Int32) (p2 : Int32) (r : Int32) (hf : f_X10_in S p0 p1 p2 = some r) : MI l D yX10_in wsX10_in rmX10_in S [.int p0, .int p1, .int p2] S r 0 0 := by
  unfold f_X10_in at hf
  refine Met.ofW (cc := cX10_in) (maxL := 3) (ret := (some .boolean)) (by decide) rfl ?_
  intro p e s m args below meth c s₁ B hml hv
  obtain ⟨rfl, hH0, hNE⟩ := hv
  have hx := B.exec
  have hb := B.bytes
  have hr := B.returns
  have hts := atoms_spec (ws := wsX10_in) B.pre
  have hown : s.vm.findClass RX10 = some m.cls := findClass_of_methodNamed B.named
  have hlocks := B.notSynchronized
  have hH : HI D S S s s.heap [] := HI.start hH0
  have hl := lv_entry ([.int p0, .int p1, .int p2]) (n := 3) (Nat.le_of_ble_eq_true rfl)
  rw [lg_entry_eq]
  generalize (lg_sl ([.int p0, .int p1, .int p2]) ++ List.replicate (3 - (lg_sl ([.int p0, .int p1, .int p2])).length) Slot.unset).toArray = ls at hl ⊢
  have hl : lv_has ls 3 [(0, .int p0), (1, .int p1), (2, .int p2)] := hl
  refine lv_iload_n hx hb dX10_in_0 rfl (lv_at hl 0 rfl) ?_
  refine lv_iload_n hx hb dX10_in_1 rfl (lv_at hl 1 rfl) ?_
  refine lv_icmp_lt (tgt := 14) hx hb dX10_in_2 (by decide) (fun c1 => ?_) (fun c1 => ?_)
  · have hf := ip hf c1
    refine lv_iconst (v := 0) hx hb dX10_in_14 (by decide) ?_
    have hr9 := Option.some.inj hf
    subst hr9
    exact e_z (r := 0) hx hb hr hlocks rfl hH dX10_in_15
  · have hf := iq hf c1
    refine lv_iload_n hx hb dX10_in_5 rfl (lv_at hl 0 rfl) ?_
    refine lv_iload_n hx hb dX10_in_6 rfl (lv_at hl 2 rfl) ?_
    refine lv_icmp_gt (tgt := 14) hx hb dX10_in_7 (by decide) (fun c2 => ?_) (fun c2 => ?_)
    · have hf := ip hf c2
      refine lv_iconst (v := 0) hx hb dX10_in_14 (by decide) ?_
      have hr9 := Option.some.inj hf
      subst hr9
      exact e_z (r := 0) hx hb hr hlocks rfl hH dX10_in_15
    · have hf := iq hf c2
      refine lv_iconst (v := 1) hx hb dX10_in_10 (by decide) ?_
      refine lv_goto (tgt := 15) hx hb dX10_in_11 (by decide) ?_
      have hr9 := Option.some.inj hf
      subst hr9
      exact e_z (r := 1) hx hb hr hlocks rfl hH dX10_in_15
set_option maxRecDepth 100000 in
def f_X10_isLetter (S : PS) (p0 : Int32) : Option (Int32) := if p0 < (97 : Int32) then (some 0) else (if (122 : Int32) < p0 then (some 0) else (some 1))
abbrev rmX10_isLetter : Room := { frames := 0, cells := 0, slots := 0, locals := 0 }
set_option maxHeartbeats 4000000 in
set_option maxRecDepth 100000 in
theorem c_X10_isLetter (l : Launch) (D : va_G × Nat) (S : PS) (p0 : Int32) (r : Int32) (hf : f_X10_isLetter S p0 = some r) : MI l D yX10_isLetter wsX10_isLetter rmX10_isLetter S [.int p0] S r 0 0 := by
  unfold f_X10_isLetter at hf
  refine Met.ofW (cc := cX10_isLetter) (maxL := 1) (ret := (some .boolean)) (by decide) rfl ?_
  intro p e s m args below meth c s₁ B hml hv
  obtain ⟨rfl, hH0, hNE⟩ := hv
  have hx := B.exec
  have hb := B.bytes
  have hr := B.returns
  have hts := atoms_spec (ws := wsX10_isLetter) B.pre
  have hown : s.vm.findClass RX10 = some m.cls := findClass_of_methodNamed B.named
  have hlocks := B.notSynchronized
  have hH : HI D S S s s.heap [] := HI.start hH0
  have hl := lv_entry ([.int p0]) (n := 1) (Nat.le_of_ble_eq_true rfl)
  rw [lg_entry_eq]
  generalize (lg_sl ([.int p0]) ++ List.replicate (1 - (lg_sl ([.int p0])).length) Slot.unset).toArray = ls at hl ⊢
  have hl : lv_has ls 1 [(0, .int p0)] := hl
  refine lv_iload_n hx hb dX10_isLetter_0 rfl (lv_at hl 0 rfl) ?_
  refine lv_bipush (v := 97) hx hb dX10_isLetter_1 (by decide) ?_
  refine lv_icmp_lt (tgt := 16) hx hb dX10_isLetter_3 (by decide) (fun c1 => ?_) (fun c1 => ?_)
  · have hf := ip hf c1
    refine lv_iconst (v := 0) hx hb dX10_isLetter_16 (by decide) ?_
    have hr9 := Option.some.inj hf
    subst hr9
    exact e_z (r := 0) hx hb hr hlocks rfl hH dX10_isLetter_17
  · have hf := iq hf c1
    refine lv_iload_n hx hb dX10_isLetter_6 rfl (lv_at hl 0 rfl) ?_
    refine lv_bipush (v := 122) hx hb dX10_isLetter_7 (by decide) ?_
    refine lv_icmp_gt (tgt := 16) hx hb dX10_isLetter_9 (by decide) (fun c2 => ?_) (fun c2 => ?_)
    · have hf := ip hf c2
      refine lv_iconst (v := 0) hx hb dX10_isLetter_16 (by decide) ?_
      have hr9 := Option.some.inj hf
      subst hr9
      exact e_z (r := 0) hx hb hr hlocks rfl hH dX10_isLetter_17
    · have hf := iq hf c2
      refine lv_iconst (v := 1) hx hb dX10_isLetter_12 (by decide) ?_
      refine lv_goto (tgt := 17) hx hb dX10_isLetter_13 (by decide) ?_
      have hr9 := Option.some.inj hf
      subst hr9
      exact e_z (r := 1) hx hb hr hlocks rfl hH dX10_isLetter_17
set_option maxRecDepth 100000 in
def f_X10_isDigit (S : PS) (p0 : Int32) : Option (Int32) := if p0 < (48 : Int32) then (some 0) else (if (57 : Int32) < p0 then (some 0) else (some 1))
abbrev rmX10_isDigit : Room := { frames := 0, cells := 0, slots := 0, locals := 0 }
set_option maxHeartbeats 4000000 in
set_option maxRecDepth 100000 in
theorem c_X10_isDigit (l : Launch) (D : va_G × Nat) (S : PS) (p0 : Int32) (r : Int32) (hf : f_X10_isDigit S p0 = some r) : MI l D yX10_isDigit wsX10_isDigit rmX10_isDigit S [.int p0] S r 0 0 := by
  unfold f_X10_isDigit at hf
  refine Met.ofW (cc := cX10_isDigit) (maxL := 1) (ret := (some .boolean)) (by decide) rfl ?_
  intro p e s m args below meth c s₁ B hml hv
  obtain ⟨rfl, hH0, hNE⟩ := hv
  have hx := B.exec
  have hb := B.bytes
  have hr := B.returns
  have hts := atoms_spec (ws := wsX10_isDigit) B.pre
  have hown : s.vm.findClass RX10 = some m.cls := findClass_of_methodNamed B.named
  have hlocks := B.notSynchronized
  have hH : HI D S S s s.heap [] := HI.start hH0
  have hl := lv_entry ([.int p0]) (n := 1) (Nat.le_of_ble_eq_true rfl)
  rw [lg_entry_eq]
  generalize (lg_sl ([.int p0]) ++ List.replicate (1 - (lg_sl ([.int p0])).length) Slot.unset).toArray = ls at hl ⊢
  have hl : lv_has ls 1 [(0, .int p0)] := hl
  refine lv_iload_n hx hb dX10_isDigit_0 rfl (lv_at hl 0 rfl) ?_
  refine lv_bipush (v := 48) hx hb dX10_isDigit_1 (by decide) ?_
  refine lv_icmp_lt (tgt := 16) hx hb dX10_isDigit_3 (by decide) (fun c1 => ?_) (fun c1 => ?_)
  · have hf := ip hf c1
    refine lv_iconst (v := 0) hx hb dX10_isDigit_16 (by decide) ?_
    have hr9 := Option.some.inj hf
    subst hr9
    exact e_z (r := 0) hx hb hr hlocks rfl hH dX10_isDigit_17
  · have hf := iq hf c1
    refine lv_iload_n hx hb dX10_isDigit_6 rfl (lv_at hl 0 rfl) ?_
    refine lv_bipush (v := 57) hx hb dX10_isDigit_7 (by decide) ?_
    refine lv_icmp_gt (tgt := 16) hx hb dX10_isDigit_9 (by decide) (fun c2 => ?_) (fun c2 => ?_)
    · have hf := ip hf c2
      refine lv_iconst (v := 0) hx hb dX10_isDigit_16 (by decide) ?_
      have hr9 := Option.some.inj hf
      subst hr9
      exact e_z (r := 0) hx hb hr hlocks rfl hH dX10_isDigit_17
    · have hf := iq hf c2
      refine lv_iconst (v := 1) hx hb dX10_isDigit_12 (by decide) ?_
      refine lv_goto (tgt := 17) hx hb dX10_isDigit_13 (by decide) ?_
      have hr9 := Option.some.inj hf
      subst hr9
      exact e_z (r := 1) hx hb hr hlocks rfl hH dX10_isDigit_17
set_option maxRecDepth 100000 in
def f_X10_isDesk (S : PS) (p0 : Int32) : Option (Int32) := (f_X10_in S p0 0 3).bind fun r1 => if r1 = 0 ∨ r1 = 1 then (some r1) else none
abbrev rmX10_isDesk : Room := { frames := 1, cells := 0, slots := 0, locals := 22 }
set_option maxHeartbeats 4000000 in
set_option maxRecDepth 100000 in
theorem c_X10_isDesk (l : Launch) (D : va_G × Nat) (S : PS) (p0 : Int32) (r : Int32) (hf : f_X10_isDesk S p0 = some r) : MI l D yX10_isDesk wsX10_isDesk rmX10_isDesk S [.int p0] S r 0 0 := by
  unfold f_X10_isDesk at hf
  refine Met.ofW (cc := cX10_isDesk) (maxL := 1) (ret := (some .boolean)) (by decide) rfl ?_
  intro p e s m args below meth c s₁ B hml hv
  obtain ⟨rfl, hH0, hNE⟩ := hv
  have hx := B.exec
  have hb := B.bytes
  have hr := B.returns
  have hts := atoms_spec (ws := wsX10_isDesk) B.pre
  have hown : s.vm.findClass RX10 = some m.cls := findClass_of_methodNamed B.named
  have hlocks := B.notSynchronized
  have hH : HI D S S s s.heap [] := HI.start hH0
  have hl := lv_entry ([.int p0]) (n := 1) (Nat.le_of_ble_eq_true rfl)
  rw [lg_entry_eq]
  generalize (lg_sl ([.int p0]) ++ List.replicate (1 - (lg_sl ([.int p0])).length) Slot.unset).toArray = ls at hl ⊢
  have hl : lv_has ls 1 [(0, .int p0)] := hl
  refine lv_iload_n hx hb dX10_isDesk_0 rfl (lv_at hl 0 rfl) ?_
  refine lv_iconst (v := 0) hx hb dX10_isDesk_1 (by decide) ?_
  refine lv_iconst (v := 3) hx hb dX10_isDesk_2 (by decide) ?_
  obtain ⟨r1, e2, hf⟩ := ob hf
  refine r_callSi (As := [.int p0, .int 0, .int 3]) ⟨hx, hb, hml, hown, hts⟩ (c_X10_in l D S p0 0 3 r1 e2) (va_cwS 3 hts (gwS gw_31_8 gw_31_9 gw_31_10 gw_31_4) rfl rfl rfl (by decide +kernel) ⟨Nat.le_of_ble_eq_true rfl, Nat.le_of_ble_eq_true rfl⟩) hH hNE rfl hl.1 rfl (Nat.le_of_ble_eq_true rfl) dX10_isDesk_3 ⟨(Nat.le_of_ble_eq_true rfl), (Nat.le_of_ble_eq_true rfl)⟩ (fun H locs hH => ?_)
  obtain ⟨en3, hf⟩ := oc hf
  have hr9 := Option.some.inj hf
  subst hr9
  exact e_z hx hb hr hlocks (nar_Z9 en3) hH dX10_isDesk_6
set_option maxRecDepth 100000 in
def f_X10_noDesk (S : PS) (a0 : Nat) (p1 : Int32) : Option (PS × Int32) := (f_X10_isDesk S p1).bind fun r1 => lt (fun (x3 : Int32) => if kK S a0 = 14 then (lt (wI S a0 0 x3) fun S6 => if kK S6 a0 = 14 then (if (kI S6 a0 0) ≤ 0 then (some (S6, 0)) else (some (S6, 1))) else none) else none) fun j4 => if r1 = 0 then (j4 1) else (j4 0)
abbrev rmX10_noDesk : Room := { frames := 2, cells := 0, slots := 0, locals := 42 }
set_option maxHeartbeats 4000000 in
set_option maxRecDepth 100000 in
theorem c_X10_noDesk (l : Launch) (D : va_G × Nat) (S : PS) (a0 : Nat) (p1 : Int32) (r : PS × Int32) (hf : f_X10_noDesk S a0 p1 = some r) : MI l D yX10_noDesk wsX10_noDesk rmX10_noDesk S [.ref a0, .int p1] r.1 r.2 0 0 := by
  unfold f_X10_noDesk at hf
  refine Met.ofW (cc := cX10_noDesk) (maxL := 2) (ret := (some .boolean)) (by decide) rfl ?_
  intro p e s m args below meth c s₁ B hml hv
  obtain ⟨rfl, hH0, hNE⟩ := hv
  have hx := B.exec
  have hb := B.bytes
  have hr := B.returns
  have hts := atoms_spec (ws := wsX10_noDesk) B.pre
  have hown : s.vm.findClass RX10 = some m.cls := findClass_of_methodNamed B.named
  have hlocks := B.notSynchronized
  have hH : HI D S S s s.heap [] := HI.start hH0
  have hl := lv_entry ([.ref a0, .int p1]) (n := 2) (Nat.le_of_ble_eq_true rfl)
  rw [lg_entry_eq]
  generalize (lg_sl ([.ref a0, .int p1]) ++ List.replicate (2 - (lg_sl ([.ref a0, .int p1])).length) Slot.unset).toArray = ls at hl ⊢
  have hl : lv_has ls 2 [(0, .ref a0), (1, .int p1)] := hl
  refine lv_aload_n hx hb dX10_noDesk_0 rfl (lv_at hl 0 rfl) ?_
  refine lv_iload_n hx hb dX10_noDesk_1 rfl (lv_at hl 1 rfl) ?_
  obtain ⟨r1, e2, hf⟩ := ob hf
  refine r_callSi (As := [.int p1]) ⟨hx, hb, hml, hown, hts⟩ (c_X10_isDesk l D S p1 r1 e2) (va_cwS 1 hts (gwS gw_31_12 gw_31_13 gw_31_10 gw_31_7) rfl rfl rfl (by decide +kernel) ⟨Nat.le_of_ble_eq_true rfl, Nat.le_of_ble_eq_true rfl⟩) hH hNE rfl hl.1 rfl (Nat.le_of_ble_eq_true rfl) dX10_noDesk_2 ⟨(Nat.le_of_ble_eq_true rfl), (Nat.le_of_ble_eq_true rfl)⟩ (fun H locs hH => ?_)
  obtain ⟨j4, e10, hf⟩ := ol hf
  have Jj4 : ∀ (x3 : Int32) (H : Heap) (locs : List Loc) (ls : Array Slot), HI D S S s H locs → lv_has ls 2 [(0, .ref a0)] → j4 x3 = some r → GI p l e (headSpec wsX10_noDesk rmX10_noDesk).room s m ([.ref a0, .int p1] : List Value).toArray below meth c D S r.1 r.2 H locs 0 0 0 0 (F0 m 13 ls [.int x3, .ref a0]) := by
    intro x3 H locs ls hH hl hf
    rw [← e10] at hf
    obtain ⟨ek5, hf⟩ := oc hf
    refine r_putI hx hb 13 hts (fun w h => List.mem_cons_of_mem _ (mwsX100 w h)) tyX10 tyX10_ok nmX10 hown hH ek5 (by decide) rfl 0 (by decide) rfl (hts (.fieldLink RX10 123 "HousestyleModel" "thrown" "I") (List.mem_cons_of_mem _ gw_31_3)) (fun _ h9 => h9) (Or.inl rfl) (ty := .int) (by decide +kernel) rfl rfl dX10_noDesk_13 (fun H locs hH => ?_)
    obtain ⟨S6, e7, hf⟩ := ol hf
    rw [e7] at hH
    refine lv_aload_n hx hb dX10_noDesk_16 rfl (lv_at hl 0 rfl) ?_
    obtain ⟨ek8, hf⟩ := oc hf
    refine r_getI hx hb 13 hts (fun w h => List.mem_cons_of_mem _ (mwsX100 w h)) hown hH ek8 (by decide) rfl 0 (by decide) rfl (hts (.fieldLink RX10 123 "HousestyleModel" "thrown" "I") (List.mem_cons_of_mem _ gw_31_3)) (fun _ h9 => h9) dX10_noDesk_17 ?_
    refine lv_if_le (tgt := 27) hx hb dX10_noDesk_20 (by decide) (fun c9 => ?_) (fun c9 => ?_)
    · have hf := ip hf c9
      refine lv_iconst (v := 0) hx hb dX10_noDesk_27 (by decide) ?_
      have hr9 := Option.some.inj hf
      subst hr9
      exact e_z (r := 0) hx hb hr hlocks rfl hH dX10_noDesk_28
    · have hf := iq hf c9
      refine lv_iconst (v := 1) hx hb dX10_noDesk_23 (by decide) ?_
      refine lv_goto (tgt := 28) hx hb dX10_noDesk_24 (by decide) ?_
      have hr9 := Option.some.inj hf
      subst hr9
      exact e_z (r := 1) hx hb hr hlocks rfl hH dX10_noDesk_28
  refine lv_if_eq (tgt := 12) hx hb dX10_noDesk_5 (by decide) (fun c11 => ?_) (fun c11 => ?_)
  · have hf := ip hf c11
    refine lv_iconst (v := 1) hx hb dX10_noDesk_12 (by decide) ?_
    exact Jj4 1 _ _ ls hH (lv_sub hl [0] rfl) hf
  · have hf := iq hf c11
    refine lv_iconst (v := 0) hx hb dX10_noDesk_8 (by decide) ?_
    refine lv_goto (tgt := 13) hx hb dX10_noDesk_9 (by decide) ?_
    exact Jj4 0 _ _ ls hH (lv_sub hl [0] rfl) hf
set_option maxRecDepth 100000 in
def f_X10_noRule (S : PS) (a0 : Nat) (p1 : Int32) : Option (PS × Int32) := if kK S a0 = 14 then ((f_X10_in S p1 0 ((kI S a0 6) - 1)).bind fun r2 => lt (fun (x4 : Int32) => lt (wI S a0 0 x4) fun S6 => if kK S6 a0 = 14 then (if (kI S6 a0 0) ≤ 0 then (some (S6, 0)) else (some (S6, 1))) else none) fun j5 => if r2 = 0 then (j5 1) else (j5 0)) else none
abbrev rmX10_noRule : Room := { frames := 1, cells := 0, slots := 0, locals := 22 }
set_option maxHeartbeats 4000000 in
set_option maxRecDepth 100000 in
theorem c_X10_noRule (l : Launch) (D : va_G × Nat) (S : PS) (a0 : Nat) (p1 : Int32) (r : PS × Int32) (hf : f_X10_noRule S a0 p1 = some r) : MI l D yX10_noRule wsX10_noRule rmX10_noRule S [.ref a0, .int p1] r.1 r.2 0 0 := by
  unfold f_X10_noRule at hf
  refine Met.ofW (cc := cX10_noRule) (maxL := 2) (ret := (some .boolean)) (by decide) rfl ?_
  intro p e s m args below meth c s₁ B hml hv
  obtain ⟨rfl, hH0, hNE⟩ := hv
  have hx := B.exec
  have hb := B.bytes
  have hr := B.returns
  have hts := atoms_spec (ws := wsX10_noRule) B.pre
  have hown : s.vm.findClass RX10 = some m.cls := findClass_of_methodNamed B.named
  have hlocks := B.notSynchronized
  have hH : HI D S S s s.heap [] := HI.start hH0
  have hl := lv_entry ([.ref a0, .int p1]) (n := 2) (Nat.le_of_ble_eq_true rfl)
  rw [lg_entry_eq]
  generalize (lg_sl ([.ref a0, .int p1]) ++ List.replicate (2 - (lg_sl ([.ref a0, .int p1])).length) Slot.unset).toArray = ls at hl ⊢
  have hl : lv_has ls 2 [(0, .ref a0), (1, .int p1)] := hl
  refine lv_aload_n hx hb dX10_noRule_0 rfl (lv_at hl 0 rfl) ?_
  refine lv_iload_n hx hb dX10_noRule_1 rfl (lv_at hl 1 rfl) ?_
  refine lv_iconst (v := 0) hx hb dX10_noRule_2 (by decide) ?_
  refine lv_aload_n hx hb dX10_noRule_3 rfl (lv_at hl 0 rfl) ?_
  obtain ⟨ek1, hf⟩ := oc hf
  refine r_getI hx hb 13 hts (fun w h => List.mem_cons_of_mem _ (mwsX100 w h)) hown hH ek1 (by decide) rfl 6 (by decide) rfl (hts (.fieldLink RX10 135 "HousestyleModel" "rules" "I") (List.mem_cons_of_mem _ gw_31_15)) (fun _ h9 => h9) dX10_noRule_4 ?_
  refine lv_iconst (v := 1) hx hb dX10_noRule_7 (by decide) ?_
  refine lv_isub hx hb dX10_noRule_8 ?_
  obtain ⟨r2, e3, hf⟩ := ob hf
  refine r_callSi (As := [.int p1, .int 0, .int ((kI S a0 6) - 1)]) ⟨hx, hb, hml, hown, hts⟩ (c_X10_in l D S p1 0 ((kI S a0 6) - 1) r2 e3) (va_cwS 3 hts (gwS gw_31_8 gw_31_9 gw_31_10 gw_31_4) rfl rfl rfl (by decide +kernel) ⟨Nat.le_of_ble_eq_true rfl, Nat.le_of_ble_eq_true rfl⟩) hH hNE rfl hl.1 rfl (Nat.le_of_ble_eq_true rfl) dX10_noRule_9 ⟨(Nat.le_of_ble_eq_true rfl), (Nat.le_of_ble_eq_true rfl)⟩ (fun H locs hH => ?_)
  obtain ⟨j5, e10, hf⟩ := ol hf
  have Jj5 : ∀ (x4 : Int32) (H : Heap) (locs : List Loc) (ls : Array Slot), HI D S S s H locs → lv_has ls 2 [(0, .ref a0)] → j5 x4 = some r → GI p l e (headSpec wsX10_noRule rmX10_noRule).room s m ([.ref a0, .int p1] : List Value).toArray below meth c D S r.1 r.2 H locs 0 0 0 0 (F0 m 20 ls [.int x4, .ref a0]) := by
    intro x4 H locs ls hH hl hf
    rw [← e10] at hf
    refine r_putI hx hb 13 hts (fun w h => List.mem_cons_of_mem _ (mwsX100 w h)) tyX10 tyX10_ok nmX10 hown hH ek1 (by decide) rfl 0 (by decide) rfl (hts (.fieldLink RX10 123 "HousestyleModel" "thrown" "I") (List.mem_cons_of_mem _ gw_31_3)) (fun _ h9 => h9) (Or.inl rfl) (ty := .int) (by decide +kernel) rfl rfl dX10_noRule_20 (fun H locs hH => ?_)
    obtain ⟨S6, e7, hf⟩ := ol hf
    rw [e7] at hH
    refine lv_aload_n hx hb dX10_noRule_23 rfl (lv_at hl 0 rfl) ?_
    obtain ⟨ek8, hf⟩ := oc hf
    refine r_getI hx hb 13 hts (fun w h => List.mem_cons_of_mem _ (mwsX100 w h)) hown hH ek8 (by decide) rfl 0 (by decide) rfl (hts (.fieldLink RX10 123 "HousestyleModel" "thrown" "I") (List.mem_cons_of_mem _ gw_31_3)) (fun _ h9 => h9) dX10_noRule_24 ?_
    refine lv_if_le (tgt := 34) hx hb dX10_noRule_27 (by decide) (fun c9 => ?_) (fun c9 => ?_)
    · have hf := ip hf c9
      refine lv_iconst (v := 0) hx hb dX10_noRule_34 (by decide) ?_
      have hr9 := Option.some.inj hf
      subst hr9
      exact e_z (r := 0) hx hb hr hlocks rfl hH dX10_noRule_35
    · have hf := iq hf c9
      refine lv_iconst (v := 1) hx hb dX10_noRule_30 (by decide) ?_
      refine lv_goto (tgt := 35) hx hb dX10_noRule_31 (by decide) ?_
      have hr9 := Option.some.inj hf
      subst hr9
      exact e_z (r := 1) hx hb hr hlocks rfl hH dX10_noRule_35
  refine lv_if_eq (tgt := 19) hx hb dX10_noRule_12 (by decide) (fun c11 => ?_) (fun c11 => ?_)
  · have hf := ip hf c11
    refine lv_iconst (v := 1) hx hb dX10_noRule_19 (by decide) ?_
    exact Jj5 1 _ _ ls hH (lv_sub hl [0] rfl) hf
  · have hf := iq hf c11
    refine lv_iconst (v := 0) hx hb dX10_noRule_15 (by decide) ?_
    refine lv_goto (tgt := 20) hx hb dX10_noRule_16 (by decide) ?_
    exact Jj5 0 _ _ ls hH (lv_sub hl [0] rfl) hf
set_option maxRecDepth 100000 in
def f_X10_type (S : PS) (a0 : Nat) (p1 : Int32) : Option (PS × Int32) := (f_X10_isLetter S p1).bind fun r1 => lt (fun (x3 : Int32) => lt (fun (x5 : Int32) => if kK S a0 = 14 then (lt (wI S a0 0 x5) fun S8 => if kK S8 a0 = 14 then (if (kI S8 a0 0) ≤ 0 then ((kQ S8 a0 4).bind fun a12 => if kK S8 a12 = 102 then (if ¬ ((kI S8 a0 5) < 0 ∨ kN S8 a12 ≤ (kI S8 a0 5).toNatClampNeg) then (lt (wI S8 a12 (kI S8 a0 5).toNatClampNeg (vp_nar .char p1)) fun S16 => if kK S16 a0 = 14 then (lt (wI S16 a0 5 ((kI S16 a0 5) + 1)) fun S19 => if kK S19 a0 = 14 then (some (S19, (kI S19 a0 5))) else none) else none) else none) else none) else (some (S8, 0))) else none) else none) fun j6 => if x3 = 0 then (j6 1) else (if kK S a0 = 14 then (if (kI S a0 5) = (20 : Int32) then (j6 2) else (j6 0)) else none)) fun j4 => lt (fun (u28 : Unit) => j4 1) fun j27 => if r1 = 0 then ((f_X10_isDigit S p1).bind fun r31 => if r31 = 0 then (if p1 = (32 : Int32) then (j27 ()) else (if p1 = (42 : Int32) then (j27 ()) else (if p1 = (35 : Int32) then (j27 ()) else (if p1 = (45 : Int32) then (j27 ()) else (j4 0))))) else (j27 ())) else (j27 ())
abbrev rmX10_type : Room := { frames := 1, cells := 0, slots := 0, locals := 20 }
set_option maxHeartbeats 4000000 in
set_option maxRecDepth 100000 in
theorem c_X10_type (l : Launch) (D : va_G × Nat) (S : PS) (a0 : Nat) (p1 : Int32) (r : PS × Int32) (hf : f_X10_type S a0 p1 = some r) : MI l D yX10_type wsX10_type rmX10_type S [.ref a0, .int p1] r.1 r.2 0 0 := by
  unfold f_X10_type at hf
  refine Met.ofW (cc := cX10_type) (maxL := 3) (ret := (some .int)) (by decide) rfl ?_
  intro p e s m args below meth c s₁ B hml hv
  obtain ⟨rfl, hH0, hNE⟩ := hv
  have hx := B.exec
  have hb := B.bytes
  have hr := B.returns
  have hts := atoms_spec (ws := wsX10_type) B.pre
  have hown : s.vm.findClass RX10 = some m.cls := findClass_of_methodNamed B.named
  have hlocks := B.notSynchronized
  have hH : HI D S S s s.heap [] := HI.start hH0
  have hl := lv_entry ([.ref a0, .int p1]) (n := 3) (Nat.le_of_ble_eq_true rfl)
  rw [lg_entry_eq]
  generalize (lg_sl ([.ref a0, .int p1]) ++ List.replicate (3 - (lg_sl ([.ref a0, .int p1])).length) Slot.unset).toArray = ls at hl ⊢
  have hl : lv_has ls 3 [(0, .ref a0), (1, .int p1)] := hl
  refine lv_iload_n hx hb dX10_type_0 rfl (lv_at hl 1 rfl) ?_
  obtain ⟨r1, e2, hf⟩ := ob hf
  refine r_callSi (As := [.int p1]) ⟨hx, hb, hml, hown, hts⟩ (c_X10_isLetter l D S p1 r1 e2) (va_cwS 1 hts (gwS gw_31_18 gw_31_19 gw_31_10 gw_31_5) rfl rfl rfl (by decide +kernel) ⟨Nat.le_of_ble_eq_true rfl, Nat.le_of_ble_eq_true rfl⟩) hH hNE rfl hl.1 rfl (Nat.le_of_ble_eq_true rfl) dX10_type_1 ⟨(Nat.le_of_ble_eq_true rfl), (Nat.le_of_ble_eq_true rfl)⟩ (fun H locs hH => ?_)
  obtain ⟨j4, e26, hf⟩ := ol hf
  have Jj4 : ∀ (x3 : Int32) (H : Heap) (locs : List Loc) (ls : Array Slot), HI D S S s H locs → lv_has ls 3 [(0, .ref a0), (1, .int p1)] → j4 x3 = some r → GI p l e (headSpec wsX10_type rmX10_type).room s m ([.ref a0, .int p1] : List Value).toArray below meth c D S r.1 r.2 H locs 0 0 0 0 (F0 m 43 ls [.int x3]) := by
    intro x3 H locs ls hH hl hf
    rw [← e26] at hf
    refine lv_istore_n (lv' := [(2, .int x3), (0, .ref a0), (1, .int p1)]) hx hb dX10_type_43 rfl hl (by decide) rfl (fun ls hl => ?_)
    refine lv_aload_n hx hb dX10_type_44 rfl (lv_at hl 1 rfl) ?_
    refine lv_iload_n hx hb dX10_type_45 rfl (lv_at hl 0 rfl) ?_
    obtain ⟨j6, e22, hf⟩ := ol hf
    have Jj6 : ∀ (x5 : Int32) (H : Heap) (locs : List Loc) (ls : Array Slot), HI D S S s H locs → lv_has ls 3 [(0, .ref a0), (1, .int p1)] → j6 x5 = some r → GI p l e (headSpec wsX10_type rmX10_type).room s m ([.ref a0, .int p1] : List Value).toArray below meth c D S r.1 r.2 H locs 0 0 0 0 (F0 m 67 ls [.int x5, .ref a0]) := by
      intro x5 H locs ls hH hl hf
      rw [← e22] at hf
      obtain ⟨ek7, hf⟩ := oc hf
      refine r_putI hx hb 13 hts (fun w h => List.mem_cons_of_mem _ (mwsX100 w h)) tyX10 tyX10_ok nmX10 hown hH ek7 (by decide) rfl 0 (by decide) rfl (hts (.fieldLink RX10 123 "HousestyleModel" "thrown" "I") (List.mem_cons_of_mem _ gw_31_3)) (fun _ h9 => h9) (Or.inl rfl) (ty := .int) (by decide +kernel) rfl rfl dX10_type_67 (fun H locs hH => ?_)
      obtain ⟨S8, e9, hf⟩ := ol hf
      rw [e9] at hH
      refine lv_aload_n hx hb dX10_type_70 rfl (lv_at hl 0 rfl) ?_
      obtain ⟨ek10, hf⟩ := oc hf
      refine r_getI hx hb 13 hts (fun w h => List.mem_cons_of_mem _ (mwsX100 w h)) hown hH ek10 (by decide) rfl 0 (by decide) rfl (hts (.fieldLink RX10 123 "HousestyleModel" "thrown" "I") (List.mem_cons_of_mem _ gw_31_3)) (fun _ h9 => h9) dX10_type_71 ?_
      refine lv_if_le (tgt := 79) hx hb dX10_type_74 (by decide) (fun c11 => ?_) (fun c11 => ?_)
      · have hf := ip hf c11
        refine lv_aload_n hx hb dX10_type_79 rfl (lv_at hl 0 rfl) ?_
        obtain ⟨a12, e13, hf⟩ := ob hf
        refine r_getQ hx hb 13 hts (fun w h => List.mem_cons_of_mem _ (mwsX100 w h)) hown hH ek10 (by decide) rfl 4 (by decide) rfl (hts (.fieldLink RX10 17 "HousestyleModel" "typed" "[C") (List.mem_cons_of_mem _ gw_29_14)) (fun _ h9 => h9) dX10_type_80 e13 ?_
        refine lv_aload_n hx hb dX10_type_83 rfl (lv_at hl 0 rfl) ?_
        refine r_getI hx hb 13 hts (fun w h => List.mem_cons_of_mem _ (mwsX100 w h)) hown hH ek10 (by decide) rfl 5 (by decide) rfl (hts (.fieldLink RX10 145 "HousestyleModel" "typedSize" "I") (List.mem_cons_of_mem _ gw_31_17)) (fun _ h9 => h9) dX10_type_84 ?_
        refine lv_iload_n hx hb dX10_type_87 rfl (lv_at hl 1 rfl) ?_
        obtain ⟨ek14, hf⟩ := oc hf
        obtain ⟨ei15, hf⟩ := oc hf
        refine r_cast hx hb hH ek14 ei15 dX10_type_88 (fun H locs hH => ?_)
        obtain ⟨S16, e17, hf⟩ := ol hf
        rw [e17] at hH
        refine lv_aload_n hx hb dX10_type_89 rfl (lv_at hl 0 rfl) ?_
        refine lv_dup hx hb dX10_type_90 rfl ?_
        obtain ⟨ek18, hf⟩ := oc hf
        refine r_getI hx hb 13 hts (fun w h => List.mem_cons_of_mem _ (mwsX100 w h)) hown hH ek18 (by decide) rfl 5 (by decide) rfl (hts (.fieldLink RX10 145 "HousestyleModel" "typedSize" "I") (List.mem_cons_of_mem _ gw_31_17)) (fun _ h9 => h9) dX10_type_91 ?_
        refine lv_iconst (v := 1) hx hb dX10_type_94 (by decide) ?_
        refine lv_iadd hx hb dX10_type_95 ?_
        refine r_putI hx hb 13 hts (fun w h => List.mem_cons_of_mem _ (mwsX100 w h)) tyX10 tyX10_ok nmX10 hown hH ek18 (by decide) rfl 5 (by decide) rfl (hts (.fieldLink RX10 145 "HousestyleModel" "typedSize" "I") (List.mem_cons_of_mem _ gw_31_17)) (fun _ h9 => h9) (Or.inl rfl) (ty := .int) (by decide +kernel) rfl rfl dX10_type_96 (fun H locs hH => ?_)
        obtain ⟨S19, e20, hf⟩ := ol hf
        rw [e20] at hH
        refine lv_aload_n hx hb dX10_type_99 rfl (lv_at hl 0 rfl) ?_
        obtain ⟨ek21, hf⟩ := oc hf
        refine r_getI hx hb 13 hts (fun w h => List.mem_cons_of_mem _ (mwsX100 w h)) hown hH ek21 (by decide) rfl 5 (by decide) rfl (hts (.fieldLink RX10 145 "HousestyleModel" "typedSize" "I") (List.mem_cons_of_mem _ gw_31_17)) (fun _ h9 => h9) dX10_type_100 ?_
        have hr9 := Option.some.inj hf
        subst hr9
        exact e_i hx hb hr hlocks hH dX10_type_103
      · have hf := iq hf c11
        refine lv_iconst (v := 0) hx hb dX10_type_77 (by decide) ?_
        have hr9 := Option.some.inj hf
        subst hr9
        exact e_i hx hb hr hlocks hH dX10_type_78
    refine lv_if_ne (tgt := 53) hx hb dX10_type_46 (by decide) (fun c23 => ?_) (fun c23 => ?_)
    · have hf := iq hf c23
      refine lv_aload_n hx hb dX10_type_53 rfl (lv_at hl 1 rfl) ?_
      obtain ⟨ek24, hf⟩ := oc hf
      refine r_getI hx hb 13 hts (fun w h => List.mem_cons_of_mem _ (mwsX100 w h)) hown hH ek24 (by decide) rfl 5 (by decide) rfl (hts (.fieldLink RX10 145 "HousestyleModel" "typedSize" "I") (List.mem_cons_of_mem _ gw_31_17)) (fun _ h9 => h9) dX10_type_54 ?_
      refine lv_bipush (v := 20) hx hb dX10_type_57 (by decide) ?_
      refine lv_icmp_ne (tgt := 66) hx hb dX10_type_59 (by decide) (fun c25 => ?_) (fun c25 => ?_)
      · have hf := iq hf c25
        refine lv_iconst (v := 0) hx hb dX10_type_66 (by decide) ?_
        exact Jj6 0 _ _ ls hH (lv_sub hl [1, 2] rfl) hf
      · have hf := ip hf c25
        refine lv_iconst (v := 2) hx hb dX10_type_62 (by decide) ?_
        refine lv_goto (tgt := 67) hx hb dX10_type_63 (by decide) ?_
        exact Jj6 2 _ _ ls hH (lv_sub hl [1, 2] rfl) hf
    · have hf := ip hf c23
      refine lv_iconst (v := 1) hx hb dX10_type_49 (by decide) ?_
      refine lv_goto (tgt := 67) hx hb dX10_type_50 (by decide) ?_
      exact Jj6 1 _ _ ls hH (lv_sub hl [1, 2] rfl) hf
  obtain ⟨j27, e29, hf⟩ := ol hf
  have Jj27 : ∀ (u28 : Unit) (H : Heap) (locs : List Loc) (ls : Array Slot), HI D S S s H locs → lv_has ls 3 [(0, .ref a0), (1, .int p1)] → j27 u28 = some r → GI p l e (headSpec wsX10_type rmX10_type).room s m ([.ref a0, .int p1] : List Value).toArray below meth c D S r.1 r.2 H locs 0 0 0 0 (F0 m 38 ls []) := by
    intro u28 H locs ls hH hl hf
    rw [← e29] at hf
    refine lv_iconst (v := 1) hx hb dX10_type_38 (by decide) ?_
    refine lv_goto (tgt := 43) hx hb dX10_type_39 (by decide) ?_
    exact Jj4 1 _ _ ls hH (lv_sub hl [0, 1] rfl) hf
  refine lv_if_ne (tgt := 38) hx hb dX10_type_4 (by decide) (fun c30 => ?_) (fun c30 => ?_)
  · have hf := iq hf c30
    exact Jj27 () _ _ ls hH (lv_sub hl [0, 1] rfl) hf
  · have hf := ip hf c30
    refine lv_iload_n hx hb dX10_type_7 rfl (lv_at hl 1 rfl) ?_
    obtain ⟨r31, e32, hf⟩ := ob hf
    refine r_callSi (As := [.int p1]) ⟨hx, hb, hml, hown, hts⟩ (c_X10_isDigit l D S p1 r31 e32) (va_cwS 1 hts (gwS gw_31_20 gw_31_21 gw_31_10 gw_31_6) rfl rfl rfl (by decide +kernel) ⟨Nat.le_of_ble_eq_true rfl, Nat.le_of_ble_eq_true rfl⟩) hH hNE rfl hl.1 rfl (Nat.le_of_ble_eq_true rfl) dX10_type_8 ⟨(Nat.le_of_ble_eq_true rfl), (Nat.le_of_ble_eq_true rfl)⟩ (fun H locs hH => ?_)
    refine lv_if_ne (tgt := 38) hx hb dX10_type_11 (by decide) (fun c33 => ?_) (fun c33 => ?_)
    · have hf := iq hf c33
      exact Jj27 () _ _ ls hH (lv_sub hl [0, 1] rfl) hf
    · have hf := ip hf c33
      refine lv_iload_n hx hb dX10_type_14 rfl (lv_at hl 1 rfl) ?_
      refine lv_bipush (v := 32) hx hb dX10_type_15 (by decide) ?_
      refine lv_icmp_eq (tgt := 38) hx hb dX10_type_17 (by decide) (fun c34 => ?_) (fun c34 => ?_)
      · have hf := ip hf c34
        exact Jj27 () _ _ ls hH (lv_sub hl [0, 1] rfl) hf
      · have hf := iq hf c34
        refine lv_iload_n hx hb dX10_type_20 rfl (lv_at hl 1 rfl) ?_
        refine lv_bipush (v := 42) hx hb dX10_type_21 (by decide) ?_
        refine lv_icmp_eq (tgt := 38) hx hb dX10_type_23 (by decide) (fun c35 => ?_) (fun c35 => ?_)
        · have hf := ip hf c35
          exact Jj27 () _ _ ls hH (lv_sub hl [0, 1] rfl) hf
        · have hf := iq hf c35
          refine lv_iload_n hx hb dX10_type_26 rfl (lv_at hl 1 rfl) ?_
          refine lv_bipush (v := 35) hx hb dX10_type_27 (by decide) ?_
          refine lv_icmp_eq (tgt := 38) hx hb dX10_type_29 (by decide) (fun c36 => ?_) (fun c36 => ?_)
          · have hf := ip hf c36
            exact Jj27 () _ _ ls hH (lv_sub hl [0, 1] rfl) hf
          · have hf := iq hf c36
            refine lv_iload_n hx hb dX10_type_32 rfl (lv_at hl 1 rfl) ?_
            refine lv_bipush (v := 45) hx hb dX10_type_33 (by decide) ?_
            refine lv_icmp_ne (tgt := 42) hx hb dX10_type_35 (by decide) (fun c37 => ?_) (fun c37 => ?_)
            · have hf := iq hf c37
              refine lv_iconst (v := 0) hx hb dX10_type_42 (by decide) ?_
              exact Jj4 0 _ _ ls hH (lv_sub hl [0, 1] rfl) hf
            · have hf := ip hf c37
              exact Jj27 () _ _ ls hH (lv_sub hl [0, 1] rfl) hf
set_option maxRecDepth 100000 in
def f_X10_wipe (S : PS) (a0 : Nat) : Option (PS × Int32) := if kK S a0 = 14 then (lt (wI S a0 0 0) fun S2 => if kK S2 a0 = 14 then (lt (kI S2 a0 5) fun x5 => lt (wI S2 a0 5 0) fun S7 => some (S7, x5)) else none) else none
abbrev rmX10_wipe : Room := { frames := 0, cells := 0, slots := 0, locals := 0 }
set_option maxHeartbeats 4000000 in
set_option maxRecDepth 100000 in
theorem c_X10_wipe (l : Launch) (D : va_G × Nat) (S : PS) (a0 : Nat) (r : PS × Int32) (hf : f_X10_wipe S a0 = some r) : MI l D yX10_wipe wsX10_wipe rmX10_wipe S [.ref a0] r.1 r.2 0 0 := by
  unfold f_X10_wipe at hf
  refine Met.ofW (cc := cX10_wipe) (maxL := 2) (ret := (some .int)) (by decide) rfl ?_
  intro p e s m args below meth c s₁ B hml hv
  obtain ⟨rfl, hH0, hNE⟩ := hv
  have hx := B.exec
  have hb := B.bytes
  have hr := B.returns
  have hts := atoms_spec (ws := wsX10_wipe) B.pre
  have hown : s.vm.findClass RX10 = some m.cls := findClass_of_methodNamed B.named
  have hlocks := B.notSynchronized
  have hH : HI D S S s s.heap [] := HI.start hH0
  have hl := lv_entry ([.ref a0]) (n := 2) (Nat.le_of_ble_eq_true rfl)
  rw [lg_entry_eq]
  generalize (lg_sl ([.ref a0]) ++ List.replicate (2 - (lg_sl ([.ref a0])).length) Slot.unset).toArray = ls at hl ⊢
  have hl : lv_has ls 2 [(0, .ref a0)] := hl
  refine lv_aload_n hx hb dX10_wipe_0 rfl (lv_at hl 0 rfl) ?_
  refine lv_iconst (v := 0) hx hb dX10_wipe_1 (by decide) ?_
  obtain ⟨ek1, hf⟩ := oc hf
  refine r_putI hx hb 13 hts (fun w h => List.mem_cons_of_mem _ (mwsX100 w h)) tyX10 tyX10_ok nmX10 hown hH ek1 (by decide) rfl 0 (by decide) rfl (hts (.fieldLink RX10 123 "HousestyleModel" "thrown" "I") (List.mem_cons_of_mem _ gw_31_3)) (fun _ h9 => h9) (Or.inl rfl) (ty := .int) (by decide +kernel) rfl rfl dX10_wipe_2 (fun H locs hH => ?_)
  obtain ⟨S2, e3, hf⟩ := ol hf
  rw [e3] at hH
  refine lv_aload_n hx hb dX10_wipe_5 rfl (lv_at hl 0 rfl) ?_
  obtain ⟨ek4, hf⟩ := oc hf
  refine r_getI hx hb 13 hts (fun w h => List.mem_cons_of_mem _ (mwsX100 w h)) hown hH ek4 (by decide) rfl 5 (by decide) rfl (hts (.fieldLink RX10 145 "HousestyleModel" "typedSize" "I") (List.mem_cons_of_mem _ gw_31_17)) (fun _ h9 => h9) dX10_wipe_6 ?_
  obtain ⟨x5, e6, hf⟩ := ol hf
  refine lv_topE e6 ?_
  refine lv_istore_n (lv' := [(1, .int x5), (0, .ref a0)]) hx hb dX10_wipe_9 rfl hl (by decide) rfl (fun ls hl => ?_)
  refine lv_aload_n hx hb dX10_wipe_10 rfl (lv_at hl 1 rfl) ?_
  refine lv_iconst (v := 0) hx hb dX10_wipe_11 (by decide) ?_
  refine r_putI hx hb 13 hts (fun w h => List.mem_cons_of_mem _ (mwsX100 w h)) tyX10 tyX10_ok nmX10 hown hH ek4 (by decide) rfl 5 (by decide) rfl (hts (.fieldLink RX10 145 "HousestyleModel" "typedSize" "I") (List.mem_cons_of_mem _ gw_31_17)) (fun _ h9 => h9) (Or.inl rfl) (ty := .int) (by decide +kernel) rfl rfl dX10_wipe_12 (fun H locs hH => ?_)
  obtain ⟨S7, e8, hf⟩ := ol hf
  rw [e8] at hH
  refine lv_iload_n hx hb dX10_wipe_15 rfl (lv_at hl 0 rfl) ?_
  have hr9 := Option.some.inj hf
  subst hr9
  exact e_i hx hb hr hlocks hH dX10_wipe_16
set_option maxRecDepth 100000 in
def f_X10_lettersFrom_b2 (a0 : Nat) (p1 : Int32) (S : PS) (x1 : Int32) : Option ((Int32) ⊕ ((Int32))) := if kK S a0 = 14 then (if (kI S a0 5) ≤ (p1 + x1) then (some (.inr x1)) else ((kQ S a0 4).bind fun a8 => if kK S a8 = 102 then (if ¬ ((p1 + x1) < 0 ∨ kN S a8 ≤ (p1 + x1).toNatClampNeg) then ((f_X10_isLetter S (kI S a8 (p1 + x1).toNatClampNeg)).bind fun r12 => if r12 = 0 then (some (.inr x1)) else (lt (x1 + 1) fun x15 => some (.inl x15))) else none) else none)) else none
set_option maxRecDepth 100000 in
def f_X10_lettersFrom (S : PS) (a0 : Nat) (p1 : Int32) : Option (Int32) := lt (fun (x2 : Int32) => some x2) fun k3 => (iter (fun (v : Int32) => f_X10_lettersFrom_b2 a0 p1 S v) kF 0).bind (fun (v : Int32) => k3 v)
abbrev rmX10_lettersFrom : Room := { frames := 1, cells := 0, slots := 0, locals := 20 }
set_option maxHeartbeats 4000000 in
set_option maxRecDepth 100000 in
theorem c_X10_lettersFrom (l : Launch) (D : va_G × Nat) (S : PS) (a0 : Nat) (p1 : Int32) (r : Int32) (hf : f_X10_lettersFrom S a0 p1 = some r) : MI l D yX10_lettersFrom wsX10_lettersFrom rmX10_lettersFrom S [.ref a0, .int p1] S r 0 0 := by
  unfold f_X10_lettersFrom at hf
  refine Met.ofW (cc := cX10_lettersFrom) (maxL := 3) (ret := (some .int)) (by decide) rfl ?_
  intro p e s m args below meth c s₁ B hml hv
  obtain ⟨rfl, hH0, hNE⟩ := hv
  have hx := B.exec
  have hb := B.bytes
  have hr := B.returns
  have hts := atoms_spec (ws := wsX10_lettersFrom) B.pre
  have hown : s.vm.findClass RX10 = some m.cls := findClass_of_methodNamed B.named
  have hlocks := B.notSynchronized
  have hH : HI D S S s s.heap [] := HI.start hH0
  have hl := lv_entry ([.ref a0, .int p1]) (n := 3) (Nat.le_of_ble_eq_true rfl)
  rw [lg_entry_eq]
  generalize (lg_sl ([.ref a0, .int p1]) ++ List.replicate (3 - (lg_sl ([.ref a0, .int p1])).length) Slot.unset).toArray = ls at hl ⊢
  have hl : lv_has ls 3 [(0, .ref a0), (1, .int p1)] := hl
  refine lv_iconst (v := 0) hx hb dX10_lettersFrom_0 (by decide) ?_
  refine lv_istore_n (lv' := [(2, .int 0), (0, .ref a0), (1, .int p1)]) hx hb dX10_lettersFrom_1 rfl hl (by decide) rfl (fun ls hl => ?_)
  obtain ⟨k3, e4, hf⟩ := ol hf
  have Xk3 : ∀ (x2 : Int32) (H : Heap) (locs : List Loc) (ls : Array Slot), HI D S S s H locs → lv_has ls 3 [(2, .int x2)] → k3 x2 = some r → GI p l e (headSpec wsX10_lettersFrom rmX10_lettersFrom).room s m ([.ref a0, .int p1] : List Value).toArray below meth c D S S r H locs 0 0 0 0 (F0 m 32 ls []) := by
    intro x2 H locs ls hH hl hf
    rw [← e4] at hf
    refine lv_iload_n hx hb dX10_lettersFrom_32 rfl (lv_at hl 0 rfl) ?_
    have hr9 := Option.some.inj hf
    subst hr9
    exact e_i hx hb hr hlocks hH dX10_lettersFrom_33
  obtain ⟨o5, eo5, hq5f⟩ := ob hf
  have Lo5 : ∀ (n : Nat) (x1 : Int32), iter (fun (v : Int32) => f_X10_lettersFrom_b2 a0 p1 S v) n x1 = some o5 → ∀ (H : Heap) (locs : List Loc) (ls : Array Slot), HI D S S s H locs → lv_has ls 3 [(0, .ref a0), (1, .int p1), (2, .int x1)] → GI p l e (headSpec wsX10_lettersFrom rmX10_lettersFrom).room s m ([.ref a0, .int p1] : List Value).toArray below meth c D S S r H locs 0 0 0 0 (F0 m 2 ls []) := by
    intro n
    induction n with
    | zero => intro x1 hi; cases hi
    | succ n ih5 =>
      intro x1 hi H locs ls hH hl
      obtain ⟨q5_, hf, hq5⟩ := iter_s hi
      have hf : f_X10_lettersFrom_b2 a0 p1 S x1 = some q5_ := hf
      unfold f_X10_lettersFrom_b2 at hf
      refine lv_iload_n hx hb dX10_lettersFrom_2 rfl (lv_at hl 1 rfl) ?_
      refine lv_iload_n hx hb dX10_lettersFrom_3 rfl (lv_at hl 2 rfl) ?_
      refine lv_iadd hx hb dX10_lettersFrom_4 ?_
      refine lv_aload_n hx hb dX10_lettersFrom_5 rfl (lv_at hl 0 rfl) ?_
      obtain ⟨ek6, hf⟩ := oc hf
      refine r_getI hx hb 13 hts (fun w h => List.mem_cons_of_mem _ (mwsX100 w h)) hown hH ek6 (by decide) rfl 5 (by decide) rfl (hts (.fieldLink RX10 145 "HousestyleModel" "typedSize" "I") (List.mem_cons_of_mem _ gw_31_17)) (fun _ h9 => h9) dX10_lettersFrom_6 ?_
      refine lv_icmp_ge (tgt := 32) hx hb dX10_lettersFrom_9 (by decide) (fun c7 => ?_) (fun c7 => ?_)
      · have hf := ip hf c7
        cases hf
        have hf9 := itR (K := (fun (v : Int32) => k3 v)) hq5 hq5f
        exact Xk3 x1 _ _ ls hH (lv_sub hl [2] rfl) hf9
      · have hf := iq hf c7
        refine lv_aload_n hx hb dX10_lettersFrom_12 rfl (lv_at hl 0 rfl) ?_
        obtain ⟨a8, e9, hf⟩ := ob hf
        refine r_getQ hx hb 13 hts (fun w h => List.mem_cons_of_mem _ (mwsX100 w h)) hown hH ek6 (by decide) rfl 4 (by decide) rfl (hts (.fieldLink RX10 17 "HousestyleModel" "typed" "[C") (List.mem_cons_of_mem _ gw_29_14)) (fun _ h9 => h9) dX10_lettersFrom_13 e9 ?_
        refine lv_iload_n hx hb dX10_lettersFrom_16 rfl (lv_at hl 1 rfl) ?_
        refine lv_iload_n hx hb dX10_lettersFrom_17 rfl (lv_at hl 2 rfl) ?_
        refine lv_iadd hx hb dX10_lettersFrom_18 ?_
        obtain ⟨ek10, hf⟩ := oc hf
        obtain ⟨ei11, hf⟩ := oc hf
        refine r_cald hx hb hH ek10 ei11 dX10_lettersFrom_19 ?_
        obtain ⟨r12, e13, hf⟩ := ob hf
        refine r_callSi (As := [.int (kI S a8 (p1 + x1).toNatClampNeg)]) ⟨hx, hb, hml, hown, hts⟩ (c_X10_isLetter l D S (kI S a8 (p1 + x1).toNatClampNeg) r12 e13) (va_cwS 1 hts (gwS gw_31_18 gw_31_19 gw_31_10 gw_31_5) rfl rfl rfl (by decide +kernel) ⟨Nat.le_of_ble_eq_true rfl, Nat.le_of_ble_eq_true rfl⟩) hH hNE rfl hl.1 rfl (Nat.le_of_ble_eq_true rfl) dX10_lettersFrom_20 ⟨(Nat.le_of_ble_eq_true rfl), (Nat.le_of_ble_eq_true rfl)⟩ (fun H locs hH => ?_)
        refine lv_if_eq (tgt := 32) hx hb dX10_lettersFrom_23 (by decide) (fun c14 => ?_) (fun c14 => ?_)
        · have hf := ip hf c14
          cases hf
          have hf9 := itR (K := (fun (v : Int32) => k3 v)) hq5 hq5f
          exact Xk3 x1 _ _ ls hH (lv_sub hl [2] rfl) hf9
        · have hf := iq hf c14
          obtain ⟨x15, e16, hf⟩ := ol hf
          refine lv_iinc (v := x15) (lv' := [(2, .int x15), (0, .ref a0), (1, .int p1)]) hx hb dX10_lettersFrom_26 hl (k := 2) rfl (by rw [← e16]; rfl) (by decide) rfl (fun ls hl => ?_)
          refine lv_goto (tgt := 2) hx hb dX10_lettersFrom_29 (by decide) ?_
          cases hf
          exact ih5 x15 hq5 _ _ ls hH (lv_sub hl [1, 2, 0] rfl)
  exact Lo5 kF 0 eo5 _ _ ls hH (lv_sub hl [1, 2, 0] rfl)
set_option maxRecDepth 100000 in
def f_X10_endsAhead_b4 (a0 : Nat) (p1 : Int32) (S : PS) (x1 : Int32) (x2 : Int32) : Option ((Int32 × Int32) ⊕ ((Int32))) := if p1 ≤ x2 then (some (.inr x1)) else (if kK S a0 = 14 then ((kQ S a0 1).bind fun a9 => if kK S a9 = 102 then (if ¬ (x2 < 0 ∨ kN S a9 ≤ x2.toNatClampNeg) then (lt (fun (x13 : Int32) => lt (x1 + x13) fun x15 => lt (x2 + 1) fun x17 => some (.inl (x15, x17))) fun j14 => if (kI S a9 x2.toNatClampNeg) = (47 : Int32) then (j14 1) else (j14 0)) else none) else none) else none)
set_option maxRecDepth 100000 in
def f_X10_endsAhead (S : PS) (a0 : Nat) (p1 : Int32) : Option (Int32) := lt (fun (x3 : Int32) => some x3) fun k4 => (iter (fun (v : Int32 × Int32) => f_X10_endsAhead_b4 a0 p1 S v.1 v.2) kF (0, 0)).bind (fun (v : Int32) => k4 v)
abbrev rmX10_endsAhead : Room := { frames := 0, cells := 0, slots := 0, locals := 0 }
set_option maxHeartbeats 4000000 in
set_option maxRecDepth 100000 in
theorem c_X10_endsAhead (l : Launch) (D : va_G × Nat) (S : PS) (a0 : Nat) (p1 : Int32) (r : Int32) (hf : f_X10_endsAhead S a0 p1 = some r) : MI l D yX10_endsAhead wsX10_endsAhead rmX10_endsAhead S [.ref a0, .int p1] S r 0 0 := by
  unfold f_X10_endsAhead at hf
  refine Met.ofW (cc := cX10_endsAhead) (maxL := 4) (ret := (some .int)) (by decide) rfl ?_
  intro p e s m args below meth c s₁ B hml hv
  obtain ⟨rfl, hH0, hNE⟩ := hv
  have hx := B.exec
  have hb := B.bytes
  have hr := B.returns
  have hts := atoms_spec (ws := wsX10_endsAhead) B.pre
  have hown : s.vm.findClass RX10 = some m.cls := findClass_of_methodNamed B.named
  have hlocks := B.notSynchronized
  have hH : HI D S S s s.heap [] := HI.start hH0
  have hl := lv_entry ([.ref a0, .int p1]) (n := 4) (Nat.le_of_ble_eq_true rfl)
  rw [lg_entry_eq]
  generalize (lg_sl ([.ref a0, .int p1]) ++ List.replicate (4 - (lg_sl ([.ref a0, .int p1])).length) Slot.unset).toArray = ls at hl ⊢
  have hl : lv_has ls 4 [(0, .ref a0), (1, .int p1)] := hl
  refine lv_iconst (v := 0) hx hb dX10_endsAhead_0 (by decide) ?_
  refine lv_istore_n (lv' := [(2, .int 0), (0, .ref a0), (1, .int p1)]) hx hb dX10_endsAhead_1 rfl hl (by decide) rfl (fun ls hl => ?_)
  refine lv_iconst (v := 0) hx hb dX10_endsAhead_2 (by decide) ?_
  refine lv_istore_n (lv' := [(3, .int 0), (2, .int 0), (0, .ref a0), (1, .int p1)]) hx hb dX10_endsAhead_3 rfl hl (by decide) rfl (fun ls hl => ?_)
  obtain ⟨k4, e5, hf⟩ := ol hf
  have Xk4 : ∀ (x3 : Int32) (H : Heap) (locs : List Loc) (ls : Array Slot), HI D S S s H locs → lv_has ls 4 [(2, .int x3)] → k4 x3 = some r → GI p l e (headSpec wsX10_endsAhead rmX10_endsAhead).room s m ([.ref a0, .int p1] : List Value).toArray below meth c D S S r H locs 0 0 0 0 (F0 m 34 ls []) := by
    intro x3 H locs ls hH hl hf
    rw [← e5] at hf
    refine lv_iload_n hx hb dX10_endsAhead_34 rfl (lv_at hl 0 rfl) ?_
    have hr9 := Option.some.inj hf
    subst hr9
    exact e_i hx hb hr hlocks hH dX10_endsAhead_35
  obtain ⟨o6, eo6, hq6f⟩ := ob hf
  have Lo6 : ∀ (n : Nat) (x1 : Int32) (x2 : Int32), iter (fun (v : Int32 × Int32) => f_X10_endsAhead_b4 a0 p1 S v.1 v.2) n (x1, x2) = some o6 → ∀ (H : Heap) (locs : List Loc) (ls : Array Slot), HI D S S s H locs → lv_has ls 4 [(0, .ref a0), (1, .int p1), (2, .int x1), (3, .int x2)] → GI p l e (headSpec wsX10_endsAhead rmX10_endsAhead).room s m ([.ref a0, .int p1] : List Value).toArray below meth c D S S r H locs 0 0 0 0 (F0 m 4 ls []) := by
    intro n
    induction n with
    | zero => intro x1 x2 hi; cases hi
    | succ n ih6 =>
      intro x1 x2 hi H locs ls hH hl
      obtain ⟨q6_, hf, hq6⟩ := iter_s hi
      have hf : f_X10_endsAhead_b4 a0 p1 S x1 x2 = some q6_ := hf
      unfold f_X10_endsAhead_b4 at hf
      refine lv_iload_n hx hb dX10_endsAhead_4 rfl (lv_at hl 3 rfl) ?_
      refine lv_iload_n hx hb dX10_endsAhead_5 rfl (lv_at hl 1 rfl) ?_
      refine lv_icmp_ge (tgt := 34) hx hb dX10_endsAhead_6 (by decide) (fun c7 => ?_) (fun c7 => ?_)
      · have hf := ip hf c7
        cases hf
        have hf9 := itR (K := (fun (v : Int32) => k4 v)) hq6 hq6f
        exact Xk4 x1 _ _ ls hH (lv_sub hl [2] rfl) hf9
      · have hf := iq hf c7
        refine lv_iload_n hx hb dX10_endsAhead_9 rfl (lv_at hl 2 rfl) ?_
        refine lv_aload_n hx hb dX10_endsAhead_10 rfl (lv_at hl 0 rfl) ?_
        obtain ⟨ek8, hf⟩ := oc hf
        obtain ⟨a9, e10, hf⟩ := ob hf
        refine r_getQ hx hb 13 hts (fun w h => List.mem_cons_of_mem _ (mwsX100 w h)) hown hH ek8 (by decide) rfl 1 (by decide) rfl (hts (.fieldLink RX10 7 "HousestyleModel" "text" "[C") (List.mem_cons_of_mem _ gw_29_12)) (fun _ h9 => h9) dX10_endsAhead_11 e10 ?_
        refine lv_iload_n hx hb dX10_endsAhead_14 rfl (lv_at hl 3 rfl) ?_
        obtain ⟨ek11, hf⟩ := oc hf
        obtain ⟨ei12, hf⟩ := oc hf
        refine r_cald hx hb hH ek11 ei12 dX10_endsAhead_15 ?_
        refine lv_bipush (v := 47) hx hb dX10_endsAhead_16 (by decide) ?_
        obtain ⟨j14, e19, hf⟩ := ol hf
        have Jj14 : ∀ (x13 : Int32) (H : Heap) (locs : List Loc) (ls : Array Slot), HI D S S s H locs → lv_has ls 4 [(0, .ref a0), (1, .int p1), (3, .int x2)] → j14 x13 = some q6_ → GI p l e (headSpec wsX10_endsAhead rmX10_endsAhead).room s m ([.ref a0, .int p1] : List Value).toArray below meth c D S S r H locs 0 0 0 0 (F0 m 26 ls [.int x13, .int x1]) := by
          intro x13 H locs ls hH hl hf
          rw [← e19] at hf
          refine lv_iadd hx hb dX10_endsAhead_26 ?_
          obtain ⟨x15, e16, hf⟩ := ol hf
          refine lv_topE e16 ?_
          refine lv_istore_n (lv' := [(2, .int x15), (0, .ref a0), (1, .int p1), (3, .int x2)]) hx hb dX10_endsAhead_27 rfl hl (by decide) rfl (fun ls hl => ?_)
          obtain ⟨x17, e18, hf⟩ := ol hf
          refine lv_iinc (v := x17) (lv' := [(3, .int x17), (2, .int x15), (0, .ref a0), (1, .int p1)]) hx hb dX10_endsAhead_28 hl (k := 3) rfl (by rw [← e18]; rfl) (by decide) rfl (fun ls hl => ?_)
          refine lv_goto (tgt := 4) hx hb dX10_endsAhead_31 (by decide) ?_
          cases hf
          exact ih6 x15 x17 hq6 _ _ ls hH (lv_sub hl [2, 3, 1, 0] rfl)
        refine lv_icmp_ne (tgt := 25) hx hb dX10_endsAhead_18 (by decide) (fun c20 => ?_) (fun c20 => ?_)
        · have hf := iq hf c20
          refine lv_iconst (v := 0) hx hb dX10_endsAhead_25 (by decide) ?_
          exact Jj14 0 _ _ ls hH (lv_sub hl [0, 1, 3] rfl) hf
        · have hf := ip hf c20
          refine lv_iconst (v := 1) hx hb dX10_endsAhead_21 (by decide) ?_
          refine lv_goto (tgt := 26) hx hb dX10_endsAhead_22 (by decide) ?_
          exact Jj14 1 _ _ ls hH (lv_sub hl [0, 1, 3] rfl) hf
  exact Lo6 kF 0 0 eo6 _ _ ls hH (lv_sub hl [2, 3, 1, 0] rfl)
set_option maxRecDepth 100000 in
def f_X10_paragraphsNow (S : PS) (a0 : Nat) : Option (Int32) := if kK S a0 = 14 then ((f_X10_endsAhead S a0 (kI S a0 3)).bind fun r2 => some (r2 + 1)) else none
abbrev rmX10_paragraphsNow : Room := { frames := 1, cells := 0, slots := 0, locals := 23 }
set_option maxHeartbeats 4000000 in
set_option maxRecDepth 100000 in
theorem c_X10_paragraphsNow (l : Launch) (D : va_G × Nat) (S : PS) (a0 : Nat) (r : Int32) (hf : f_X10_paragraphsNow S a0 = some r) : MI l D yX10_paragraphsNow wsX10_paragraphsNow rmX10_paragraphsNow S [.ref a0] S r 0 0 := by
  unfold f_X10_paragraphsNow at hf
  refine Met.ofW (cc := cX10_paragraphsNow) (maxL := 1) (ret := (some .int)) (by decide) rfl ?_
  intro p e s m args below meth c s₁ B hml hv
  obtain ⟨rfl, hH0, hNE⟩ := hv
  have hx := B.exec
  have hb := B.bytes
  have hr := B.returns
  have hts := atoms_spec (ws := wsX10_paragraphsNow) B.pre
  have hown : s.vm.findClass RX10 = some m.cls := findClass_of_methodNamed B.named
  have hlocks := B.notSynchronized
  have hH : HI D S S s s.heap [] := HI.start hH0
  have hl := lv_entry ([.ref a0]) (n := 1) (Nat.le_of_ble_eq_true rfl)
  rw [lg_entry_eq]
  generalize (lg_sl ([.ref a0]) ++ List.replicate (1 - (lg_sl ([.ref a0])).length) Slot.unset).toArray = ls at hl ⊢
  have hl : lv_has ls 1 [(0, .ref a0)] := hl
  refine lv_aload_n hx hb dX10_paragraphsNow_0 rfl (lv_at hl 0 rfl) ?_
  refine lv_aload_n hx hb dX10_paragraphsNow_1 rfl (lv_at hl 0 rfl) ?_
  obtain ⟨ek1, hf⟩ := oc hf
  refine r_getI hx hb 13 hts (fun w h => List.mem_cons_of_mem _ (mwsX100 w h)) hown hH ek1 (by decide) rfl 3 (by decide) rfl (hts (.fieldLink RX10 156 "HousestyleModel" "length" "I") (List.mem_cons_of_mem _ gw_32_2)) (fun _ h9 => h9) dX10_paragraphsNow_2 ?_
  obtain ⟨r2, e3, hf⟩ := ob hf
  refine r_callVi (As := [.int (kI S a0 3)]) ⟨hx, hb, hml, hown, hts⟩ (c_X10_endsAhead l D S a0 (kI S a0 3) r2 e3) (cwV 1 hts (gwV gw_32_3 gw_32_4 gw_32_5 gw_31_10 gw_32_0) rfl rfl rfl (by decide +kernel) ⟨Nat.le_of_ble_eq_true rfl, Nat.le_of_ble_eq_true rfl⟩) hH hNE 13 ek1 (by decide) rfl rfl rfl hl.1 rfl (Nat.le_of_ble_eq_true rfl) dX10_paragraphsNow_5 ⟨(Nat.le_of_ble_eq_true rfl), (Nat.le_of_ble_eq_true rfl)⟩ (fun H locs hH => ?_)
  refine lv_iconst (v := 1) hx hb dX10_paragraphsNow_8 (by decide) ?_
  refine lv_iadd hx hb dX10_paragraphsNow_9 ?_
  have hr9 := Option.some.inj hf
  subst hr9
  exact e_i hx hb hr hlocks hH dX10_paragraphsNow_10
set_option maxRecDepth 100000 in
def f_X10_marks_b2 (a0 : Nat) (p1 : Int32) (x1 : Int32) (S2 : PS) : Option ((Int32 × PS) ⊕ ((PS))) := if kK S2 a0 = 14 then ((f_X10_paragraphsNow S2 a0).bind fun r8 => if r8 ≤ x1 then (some (.inr S2)) else ((kQ S2 a0 30).bind fun a11 => if kK S2 a11 = 103 then (if ¬ (((p1 * 161) + x1) < 0 ∨ kN S2 a11 ≤ ((p1 * 161) + x1).toNatClampNeg) then (lt (wI S2 a11 ((p1 * 161) + x1).toNatClampNeg (vp_nar .boolean 1)) fun S15 => lt (x1 + 1) fun x17 => some (.inl (x17, S15))) else none) else none)) else none
set_option maxRecDepth 100000 in
def f_X10_marks (S : PS) (a0 : Nat) (p1 : Int32) : Option (PS) := lt (fun (S3 : PS) => some S3) fun k4 => (iter (fun (v : Int32 × PS) => f_X10_marks_b2 a0 p1 v.1 v.2) kF (0, S)).bind (fun (v : PS) => k4 v)
abbrev rmX10_marks : Room := { frames := 2, cells := 0, slots := 0, locals := 43 }
set_option maxHeartbeats 4000000 in
set_option maxRecDepth 100000 in
theorem c_X10_marks (l : Launch) (D : va_G × Nat) (S : PS) (a0 : Nat) (p1 : Int32) (r : PS) (hf : f_X10_marks S a0 p1 = some r) : MV l D yX10_marks wsX10_marks rmX10_marks S [.ref a0, .int p1] r 0 0 := by
  unfold f_X10_marks at hf
  refine Met.ofW (cc := cX10_marks) (maxL := 3) (ret := none) (by decide) rfl ?_
  intro p e s m args below meth c s₁ B hml hv
  obtain ⟨rfl, hH0, hNE⟩ := hv
  have hx := B.exec
  have hb := B.bytes
  have hr := B.returns
  have hts := atoms_spec (ws := wsX10_marks) B.pre
  have hown : s.vm.findClass RX10 = some m.cls := findClass_of_methodNamed B.named
  have hlocks := B.notSynchronized
  have hH : HI D S S s s.heap [] := HI.start hH0
  have hl := lv_entry ([.ref a0, .int p1]) (n := 3) (Nat.le_of_ble_eq_true rfl)
  rw [lg_entry_eq]
  generalize (lg_sl ([.ref a0, .int p1]) ++ List.replicate (3 - (lg_sl ([.ref a0, .int p1])).length) Slot.unset).toArray = ls at hl ⊢
  have hl : lv_has ls 3 [(0, .ref a0), (1, .int p1)] := hl
  refine lv_iconst (v := 0) hx hb dX10_marks_0 (by decide) ?_
  refine lv_istore_n (lv' := [(2, .int 0), (0, .ref a0), (1, .int p1)]) hx hb dX10_marks_1 rfl hl (by decide) rfl (fun ls hl => ?_)
  obtain ⟨k4, e5, hf⟩ := ol hf
  have Xk4 : ∀ (S3 : PS) (H : Heap) (locs : List Loc) (ls : Array Slot), HI D S S3 s H locs → lv_has ls 3 [] → k4 S3 = some r → GV p l e (headSpec wsX10_marks rmX10_marks).room s m ([.ref a0, .int p1] : List Value).toArray below meth c D S r H locs 0 0 0 0 (F0 m 29 ls []) := by
    intro S3 H locs ls hH hl hf
    rw [← e5] at hf
    have hr9 := Option.some.inj hf
    subst hr9
    exact e_v hx hb hr hlocks hH dX10_marks_29
  obtain ⟨o6, eo6, hq6f⟩ := ob hf
  have Lo6 : ∀ (n : Nat) (x1 : Int32) (S2 : PS), iter (fun (v : Int32 × PS) => f_X10_marks_b2 a0 p1 v.1 v.2) n (x1, S2) = some o6 → ∀ (H : Heap) (locs : List Loc) (ls : Array Slot), HI D S S2 s H locs → lv_has ls 3 [(0, .ref a0), (1, .int p1), (2, .int x1)] → GV p l e (headSpec wsX10_marks rmX10_marks).room s m ([.ref a0, .int p1] : List Value).toArray below meth c D S r H locs 0 0 0 0 (F0 m 2 ls []) := by
    intro n
    induction n with
    | zero => intro x1 S2 hi; cases hi
    | succ n ih6 =>
      intro x1 S2 hi H locs ls hH hl
      obtain ⟨q6_, hf, hq6⟩ := iter_s hi
      have hf : f_X10_marks_b2 a0 p1 x1 S2 = some q6_ := hf
      unfold f_X10_marks_b2 at hf
      refine lv_iload_n hx hb dX10_marks_2 rfl (lv_at hl 2 rfl) ?_
      refine lv_aload_n hx hb dX10_marks_3 rfl (lv_at hl 0 rfl) ?_
      obtain ⟨ek7, hf⟩ := oc hf
      obtain ⟨r8, e9, hf⟩ := ob hf
      refine r_callVi (As := []) ⟨hx, hb, hml, hown, hts⟩ (c_X10_paragraphsNow l D S2 a0 r8 e9) (cwV 0 hts (gwV gw_32_7 gw_32_8 gw_32_9 gw_31_10 gw_32_1) rfl rfl rfl (by decide +kernel) ⟨Nat.le_of_ble_eq_true rfl, Nat.le_of_ble_eq_true rfl⟩) hH hNE 13 ek7 (by decide) rfl rfl rfl hl.1 rfl (Nat.le_of_ble_eq_true rfl) dX10_marks_4 ⟨(Nat.le_of_ble_eq_true rfl), (Nat.le_of_ble_eq_true rfl)⟩ (fun H locs hH => ?_)
      refine lv_icmp_ge (tgt := 29) hx hb dX10_marks_7 (by decide) (fun c10 => ?_) (fun c10 => ?_)
      · have hf := ip hf c10
        cases hf
        have hf9 := itR (K := (fun (v : PS) => k4 v)) hq6 hq6f
        exact Xk4 S2 _ _ ls hH (lv_sub hl [] rfl) hf9
      · have hf := iq hf c10
        refine lv_aload_n hx hb dX10_marks_10 rfl (lv_at hl 0 rfl) ?_
        obtain ⟨a11, e12, hf⟩ := ob hf
        refine r_getQ hx hb 13 hts (fun w h => List.mem_cons_of_mem _ (mwsX100 w h)) hown hH ek7 (by decide) rfl 30 (by decide) rfl (hts (.fieldLink RX10 87 "HousestyleModel" "hasChanged" "[Z") (List.mem_cons_of_mem _ gw_30_14)) (fun _ h9 => h9) dX10_marks_11 e12 ?_
        refine lv_iload_n hx hb dX10_marks_14 rfl (lv_at hl 1 rfl) ?_
        refine lv_sipush (v := 161) hx hb dX10_marks_15 (by decide) ?_
        refine lv_imul hx hb dX10_marks_18 ?_
        refine lv_iload_n hx hb dX10_marks_19 rfl (lv_at hl 2 rfl) ?_
        refine lv_iadd hx hb dX10_marks_20 ?_
        refine lv_iconst (v := 1) hx hb dX10_marks_21 (by decide) ?_
        obtain ⟨ek13, hf⟩ := oc hf
        obtain ⟨ei14, hf⟩ := oc hf
        refine r_zast hx hb hH ek13 ei14 dX10_marks_22 (fun H locs hH => ?_)
        obtain ⟨S15, e16, hf⟩ := ol hf
        rw [e16] at hH
        obtain ⟨x17, e18, hf⟩ := ol hf
        refine lv_iinc (v := x17) (lv' := [(2, .int x17), (0, .ref a0), (1, .int p1)]) hx hb dX10_marks_23 hl (k := 2) rfl (by rw [← e18]; rfl) (by decide) rfl (fun ls hl => ?_)
        refine lv_goto (tgt := 2) hx hb dX10_marks_26 (by decide) ?_
        cases hf
        exact ih6 x17 S15 hq6 _ _ ls hH (lv_sub hl [1, 2, 0] rfl)
  exact Lo6 kF 0 S eo6 _ _ ls hH (lv_sub hl [1, 2, 0] rfl)
set_option maxRecDepth 100000 in
def f_X10_marksAll_b2 (a0 : Nat) (x1 : Int32) (S2 : PS) : Option ((Int32 × PS) ⊕ ((PS))) := if (4 : Int32) ≤ x1 then (some (.inr S2)) else (if kK S2 a0 = 14 then ((f_X10_marks S2 a0 x1).bind fun r9 => lt (x1 + 1) fun x11 => some (.inl (x11, r9))) else none)
set_option maxRecDepth 100000 in
def f_X10_marksAll (S : PS) (a0 : Nat) : Option (PS) := lt (fun (S3 : PS) => some S3) fun k4 => (iter (fun (v : Int32 × PS) => f_X10_marksAll_b2 a0 v.1 v.2) kF (0, S)).bind (fun (v : PS) => k4 v)
abbrev rmX10_marksAll : Room := { frames := 3, cells := 0, slots := 0, locals := 65 }
set_option maxHeartbeats 4000000 in
set_option maxRecDepth 100000 in
theorem c_X10_marksAll (l : Launch) (D : va_G × Nat) (S : PS) (a0 : Nat) (r : PS) (hf : f_X10_marksAll S a0 = some r) : MV l D yX10_marksAll wsX10_marksAll rmX10_marksAll S [.ref a0] r 0 0 := by
  unfold f_X10_marksAll at hf
  refine Met.ofW (cc := cX10_marksAll) (maxL := 2) (ret := none) (by decide) rfl ?_
  intro p e s m args below meth c s₁ B hml hv
  obtain ⟨rfl, hH0, hNE⟩ := hv
  have hx := B.exec
  have hb := B.bytes
  have hr := B.returns
  have hts := atoms_spec (ws := wsX10_marksAll) B.pre
  have hown : s.vm.findClass RX10 = some m.cls := findClass_of_methodNamed B.named
  have hlocks := B.notSynchronized
  have hH : HI D S S s s.heap [] := HI.start hH0
  have hl := lv_entry ([.ref a0]) (n := 2) (Nat.le_of_ble_eq_true rfl)
  rw [lg_entry_eq]
  generalize (lg_sl ([.ref a0]) ++ List.replicate (2 - (lg_sl ([.ref a0])).length) Slot.unset).toArray = ls at hl ⊢
  have hl : lv_has ls 2 [(0, .ref a0)] := hl
  refine lv_iconst (v := 0) hx hb dX10_marksAll_0 (by decide) ?_
  refine lv_istore_n (lv' := [(1, .int 0), (0, .ref a0)]) hx hb dX10_marksAll_1 rfl hl (by decide) rfl (fun ls hl => ?_)
  obtain ⟨k4, e5, hf⟩ := ol hf
  have Xk4 : ∀ (S3 : PS) (H : Heap) (locs : List Loc) (ls : Array Slot), HI D S S3 s H locs → lv_has ls 2 [] → k4 S3 = some r → GV p l e (headSpec wsX10_marksAll rmX10_marksAll).room s m ([.ref a0] : List Value).toArray below meth c D S r H locs 0 0 0 0 (F0 m 18 ls []) := by
    intro S3 H locs ls hH hl hf
    rw [← e5] at hf
    have hr9 := Option.some.inj hf
    subst hr9
    exact e_v hx hb hr hlocks hH dX10_marksAll_18
  obtain ⟨o6, eo6, hq6f⟩ := ob hf
  have Lo6 : ∀ (n : Nat) (x1 : Int32) (S2 : PS), iter (fun (v : Int32 × PS) => f_X10_marksAll_b2 a0 v.1 v.2) n (x1, S2) = some o6 → ∀ (H : Heap) (locs : List Loc) (ls : Array Slot), HI D S S2 s H locs → lv_has ls 2 [(0, .ref a0), (1, .int x1)] → GV p l e (headSpec wsX10_marksAll rmX10_marksAll).room s m ([.ref a0] : List Value).toArray below meth c D S r H locs 0 0 0 0 (F0 m 2 ls []) := by
    intro n
    induction n with
    | zero => intro x1 S2 hi; cases hi
    | succ n ih6 =>
      intro x1 S2 hi H locs ls hH hl
      obtain ⟨q6_, hf, hq6⟩ := iter_s hi
      have hf : f_X10_marksAll_b2 a0 x1 S2 = some q6_ := hf
      unfold f_X10_marksAll_b2 at hf
      refine lv_iload_n hx hb dX10_marksAll_2 rfl (lv_at hl 1 rfl) ?_
      refine lv_iconst (v := 4) hx hb dX10_marksAll_3 (by decide) ?_
      refine lv_icmp_ge (tgt := 18) hx hb dX10_marksAll_4 (by decide) (fun c7 => ?_) (fun c7 => ?_)
      · have hf := ip hf c7
        cases hf
        have hf9 := itR (K := (fun (v : PS) => k4 v)) hq6 hq6f
        exact Xk4 S2 _ _ ls hH (lv_sub hl [] rfl) hf9
      · have hf := iq hf c7
        refine lv_aload_n hx hb dX10_marksAll_7 rfl (lv_at hl 0 rfl) ?_
        refine lv_iload_n hx hb dX10_marksAll_8 rfl (lv_at hl 1 rfl) ?_
        obtain ⟨ek8, hf⟩ := oc hf
        obtain ⟨r9, e10, hf⟩ := ob hf
        refine r_callVv (As := [.int x1]) ⟨hx, hb, hml, hown, hts⟩ (c_X10_marks l D S2 a0 x1 r9 e10) (cwV 1 hts (gwV gw_32_11 gw_32_12 gw_32_13 gw_31_10 gw_32_6) rfl rfl rfl (by decide +kernel) ⟨Nat.le_of_ble_eq_true rfl, Nat.le_of_ble_eq_true rfl⟩) hH hNE 13 ek8 (by decide) rfl rfl rfl hl.1 rfl (Nat.le_of_ble_eq_true rfl) dX10_marksAll_9 ⟨(Nat.le_of_ble_eq_true rfl), (Nat.le_of_ble_eq_true rfl)⟩ (fun H locs hH => ?_)
        obtain ⟨x11, e12, hf⟩ := ol hf
        refine lv_iinc (v := x11) (lv' := [(1, .int x11), (0, .ref a0)]) hx hb dX10_marksAll_12 hl (k := 1) rfl (by rw [← e12]; rfl) (by decide) rfl (fun ls hl => ?_)
        refine lv_goto (tgt := 2) hx hb dX10_marksAll_15 (by decide) ?_
        cases hf
        exact ih6 x11 r9 hq6 _ _ ls hH (lv_sub hl [1, 0] rfl)
  exact Lo6 kF 0 S eo6 _ _ ls hH (lv_sub hl [1, 0] rfl)
set_option maxRecDepth 100000 in
def f_X10_follows_b6 (a0 : Nat) (p1 : Int32) (p2 : Int32) (p3 : Int32) (x1 : Int32) (x2 : Int32) (S3 : PS) : Option ((Int32 × Int32 × PS) ⊕ ((Int32 × PS))) := if kK S3 a0 = 14 then ((kQ S3 a0 26).bind fun a17 => if kK S3 a17 = 101 then (if ¬ (p1 < 0 ∨ kN S3 a17 ≤ p1.toNatClampNeg) then (if (kI S3 a17 p1.toNatClampNeg) ≤ x2 then (some (.inr (x1, S3))) else (lt ((p1 * 20) + x2) fun x22 => (kQ S3 a0 28).bind fun a24 => if kK S3 a24 = 101 then (if ¬ (x22 < 0 ∨ kN S3 a24 ≤ x22.toNatClampNeg) then (lt (kI S3 a24 x22.toNatClampNeg) fun x28 => (kQ S3 a0 29).bind fun a30 => if kK S3 a30 = 101 then (if ¬ (x22 < 0 ∨ kN S3 a30 ≤ x22.toNatClampNeg) then (lt (kI S3 a30 x22.toNatClampNeg) fun x34 => lt (fun (x36 : Int32) => lt (fun (x38 : Int32) => lt (fun (x40 : Int32) (S41 : PS) => lt (x2 + 1) fun x43 => some (.inl (x40, x43, S41))) fun j42 => if x36 = 0 then (lt ((p1 * 20) + x1) fun x47 => (kQ S3 a0 27).bind fun a49 => if kK S3 a49 = 101 then (if ¬ (x22 < 0 ∨ kN S3 a49 ≤ x22.toNatClampNeg) then (if ¬ (x47 < 0 ∨ kN S3 a49 ≤ x47.toNatClampNeg) then (lt (wI S3 a49 x47.toNatClampNeg (kI S3 a49 x22.toNatClampNeg)) fun S54 => if kK S54 a0 = 14 then ((kQ S54 a0 28).bind fun a57 => if kK S54 a57 = 101 then (if ¬ (x47 < 0 ∨ kN S54 a57 ≤ x47.toNatClampNeg) then (lt (wI S54 a57 x47.toNatClampNeg (x28 + x38)) fun S61 => if kK S61 a0 = 14 then ((kQ S61 a0 29).bind fun a64 => if kK S61 a64 = 101 then (if ¬ (x47 < 0 ∨ kN S61 a64 ≤ x47.toNatClampNeg) then (lt (wI S61 a64 x47.toNatClampNeg (x34 + x38)) fun S68 => lt (x1 + 1) fun x70 => j42 x70 S68) else none) else none) else none) else none) else none) else none) else none) else none) else none) else (j42 x1 S3)) fun j39 => if p3 ≤ 0 then (if x28 ≤ p2 then (j39 0) else (j39 (-1))) else (if x28 < p2 then (j39 0) else (j39 1))) fun j37 => if p3 ≤ 0 then (lt (fun (u79 : Unit) => j37 0) fun j78 => if p2 < x28 then (j78 ()) else (if x34 ≤ p2 then (j78 ()) else (j37 1))) else (lt (fun (u84 : Unit) => j37 0) fun j83 => if p2 ≤ x28 then (j83 ()) else (if x34 ≤ p2 then (j83 ()) else (j37 1)))) else none) else none) else none) else none)) else none) else none) else none
set_option maxRecDepth 100000 in
def f_X10_follows (S : PS) (a0 : Nat) (p1 : Int32) (p2 : Int32) (p3 : Int32) : Option (PS) := lt (fun (x4 : Int32) (S5 : PS) => if kK S5 a0 = 14 then ((kQ S5 a0 26).bind fun a9 => if kK S5 a9 = 101 then (if ¬ (p1 < 0 ∨ kN S5 a9 ≤ p1.toNatClampNeg) then (lt (wI S5 a9 p1.toNatClampNeg x4) fun S13 => some S13) else none) else none) else none) fun k6 => (iter (fun (v : Int32 × Int32 × PS) => f_X10_follows_b6 a0 p1 p2 p3 v.1 v.2.1 v.2.2) kF (0, 0, S)).bind (fun (v : Int32 × PS) => k6 v.1 v.2)
abbrev rmX10_follows : Room := { frames := 0, cells := 0, slots := 0, locals := 0 }
set_option maxHeartbeats 4000000 in
set_option maxRecDepth 100000 in
theorem c_X10_follows (l : Launch) (D : va_G × Nat) (S : PS) (a0 : Nat) (p1 : Int32) (p2 : Int32) (p3 : Int32) (r : PS) (hf : f_X10_follows S a0 p1 p2 p3 = some r) : MV l D yX10_follows wsX10_follows rmX10_follows S [.ref a0, .int p1, .int p2, .int p3] r 0 0 := by
  unfold f_X10_follows at hf
  refine Met.ofW (cc := cX10_follows) (maxL := 12) (ret := none) (by decide) rfl ?_
  intro p e s m args below meth c s₁ B hml hv
  obtain ⟨rfl, hH0, hNE⟩ := hv
  have hx := B.exec
  have hb := B.bytes
  have hr := B.returns
  have hts := atoms_spec (ws := wsX10_follows) B.pre
  have hown : s.vm.findClass RX10 = some m.cls := findClass_of_methodNamed B.named
  have hlocks := B.notSynchronized
  have hH : HI D S S s s.heap [] := HI.start hH0
  have hl := lv_entry ([.ref a0, .int p1, .int p2, .int p3]) (n := 12) (Nat.le_of_ble_eq_true rfl)
  rw [lg_entry_eq]
  generalize (lg_sl ([.ref a0, .int p1, .int p2, .int p3]) ++ List.replicate (12 - (lg_sl ([.ref a0, .int p1, .int p2, .int p3])).length) Slot.unset).toArray = ls at hl ⊢
  have hl : lv_has ls 12 [(0, .ref a0), (1, .int p1), (2, .int p2), (3, .int p3)] := hl
  refine lv_iconst (v := 0) hx hb dX10_follows_0 (by decide) ?_
  refine lv_istore (lv' := [(4, .int 0), (0, .ref a0), (1, .int p1), (2, .int p2), (3, .int p3)]) hx hb dX10_follows_1 hl (by decide) rfl (fun ls hl => ?_)
  refine lv_iconst (v := 0) hx hb dX10_follows_3 (by decide) ?_
  refine lv_istore (lv' := [(5, .int 0), (4, .int 0), (0, .ref a0), (1, .int p1), (2, .int p2), (3, .int p3)]) hx hb dX10_follows_4 hl (by decide) rfl (fun ls hl => ?_)
  obtain ⟨k6, e7, hf⟩ := ol hf
  have Xk6 : ∀ (x4 : Int32) (S5 : PS) (H : Heap) (locs : List Loc) (ls : Array Slot), HI D S S5 s H locs → lv_has ls 12 [(0, .ref a0), (1, .int p1), (4, .int x4)] → k6 x4 S5 = some r → GV p l e (headSpec wsX10_follows rmX10_follows).room s m ([.ref a0, .int p1, .int p2, .int p3] : List Value).toArray below meth c D S r H locs 0 0 0 0 (F0 m 179 ls []) := by
    intro x4 S5 H locs ls hH hl hf
    rw [← e7] at hf
    refine lv_aload_n hx hb dX10_follows_179 rfl (lv_at hl 0 rfl) ?_
    obtain ⟨ek8, hf⟩ := oc hf
    obtain ⟨a9, e10, hf⟩ := ob hf
    refine r_getQ hx hb 13 hts (fun w h => List.mem_cons_of_mem _ (mwsX100 w h)) hown hH ek8 (by decide) rfl 26 (by decide) rfl (hts (.fieldLink RX10 75 "HousestyleModel" "ignored" "[I") (List.mem_cons_of_mem _ gw_30_10)) (fun _ h9 => h9) dX10_follows_180 e10 ?_
    refine lv_iload_n hx hb dX10_follows_183 rfl (lv_at hl 1 rfl) ?_
    refine lv_iload hx hb dX10_follows_184 (lv_at hl 2 rfl) ?_
    obtain ⟨ek11, hf⟩ := oc hf
    obtain ⟨ei12, hf⟩ := oc hf
    refine r_iast hx hb hH ek11 ei12 dX10_follows_186 (fun H locs hH => ?_)
    obtain ⟨S13, e14, hf⟩ := ol hf
    rw [e14] at hH
    have hr9 := Option.some.inj hf
    subst hr9
    exact e_v hx hb hr hlocks hH dX10_follows_187
  obtain ⟨o15, eo15, hq15f⟩ := ob hf
  have Lo15 : ∀ (n : Nat) (x1 : Int32) (x2 : Int32) (S3 : PS), iter (fun (v : Int32 × Int32 × PS) => f_X10_follows_b6 a0 p1 p2 p3 v.1 v.2.1 v.2.2) n (x1, x2, S3) = some o15 → ∀ (H : Heap) (locs : List Loc) (ls : Array Slot), HI D S S3 s H locs → lv_has ls 12 [(0, .ref a0), (1, .int p1), (2, .int p2), (3, .int p3), (4, .int x1), (5, .int x2)] → GV p l e (headSpec wsX10_follows rmX10_follows).room s m ([.ref a0, .int p1, .int p2, .int p3] : List Value).toArray below meth c D S r H locs 0 0 0 0 (F0 m 6 ls []) := by
    intro n
    induction n with
    | zero => intro x1 x2 S3 hi; cases hi
    | succ n ih15 =>
      intro x1 x2 S3 hi H locs ls hH hl
      obtain ⟨q15_, hf, hq15⟩ := iter_s hi
      have hf : f_X10_follows_b6 a0 p1 p2 p3 x1 x2 S3 = some q15_ := hf
      unfold f_X10_follows_b6 at hf
      refine lv_iload hx hb dX10_follows_6 (lv_at hl 5 rfl) ?_
      refine lv_aload_n hx hb dX10_follows_8 rfl (lv_at hl 0 rfl) ?_
      obtain ⟨ek16, hf⟩ := oc hf
      obtain ⟨a17, e18, hf⟩ := ob hf
      refine r_getQ hx hb 13 hts (fun w h => List.mem_cons_of_mem _ (mwsX100 w h)) hown hH ek16 (by decide) rfl 26 (by decide) rfl (hts (.fieldLink RX10 75 "HousestyleModel" "ignored" "[I") (List.mem_cons_of_mem _ gw_30_10)) (fun _ h9 => h9) dX10_follows_9 e18 ?_
      refine lv_iload_n hx hb dX10_follows_12 rfl (lv_at hl 1 rfl) ?_
      obtain ⟨ek19, hf⟩ := oc hf
      obtain ⟨ei20, hf⟩ := oc hf
      refine r_iald hx hb hH ek19 ei20 dX10_follows_13 ?_
      refine lv_icmp_ge (tgt := 179) hx hb dX10_follows_14 (by decide) (fun c21 => ?_) (fun c21 => ?_)
      · have hf := ip hf c21
        cases hf
        have hf9 := itR (K := (fun (v : Int32 × PS) => k6 v.1 v.2)) hq15 hq15f
        exact Xk6 x1 S3 _ _ ls hH (lv_sub hl [0, 1, 4] rfl) hf9
      · have hf := iq hf c21
        refine lv_iload_n hx hb dX10_follows_17 rfl (lv_at hl 1 rfl) ?_
        refine lv_bipush (v := 20) hx hb dX10_follows_18 (by decide) ?_
        refine lv_imul hx hb dX10_follows_20 ?_
        refine lv_iload hx hb dX10_follows_21 (lv_at hl 5 rfl) ?_
        refine lv_iadd hx hb dX10_follows_23 ?_
        obtain ⟨x22, e23, hf⟩ := ol hf
        refine lv_topE e23 ?_
        refine lv_istore (lv' := [(6, .int x22), (0, .ref a0), (1, .int p1), (2, .int p2), (3, .int p3), (4, .int x1), (5, .int x2)]) hx hb dX10_follows_24 hl (by decide) rfl (fun ls hl => ?_)
        refine lv_aload_n hx hb dX10_follows_26 rfl (lv_at hl 1 rfl) ?_
        obtain ⟨a24, e25, hf⟩ := ob hf
        refine r_getQ hx hb 13 hts (fun w h => List.mem_cons_of_mem _ (mwsX100 w h)) hown hH ek16 (by decide) rfl 28 (by decide) rfl (hts (.fieldLink RX10 81 "HousestyleModel" "ignoredFrom" "[I") (List.mem_cons_of_mem _ gw_30_12)) (fun _ h9 => h9) dX10_follows_27 e25 ?_
        refine lv_iload hx hb dX10_follows_30 (lv_at hl 0 rfl) ?_
        obtain ⟨ek26, hf⟩ := oc hf
        obtain ⟨ei27, hf⟩ := oc hf
        refine r_iald hx hb hH ek26 ei27 dX10_follows_32 ?_
        obtain ⟨x28, e29, hf⟩ := ol hf
        refine lv_topE e29 ?_
        refine lv_istore (lv' := [(7, .int x28), (6, .int x22), (0, .ref a0), (1, .int p1), (2, .int p2), (3, .int p3), (4, .int x1), (5, .int x2)]) hx hb dX10_follows_33 hl (by decide) rfl (fun ls hl => ?_)
        refine lv_aload_n hx hb dX10_follows_35 rfl (lv_at hl 2 rfl) ?_
        obtain ⟨a30, e31, hf⟩ := ob hf
        refine r_getQ hx hb 13 hts (fun w h => List.mem_cons_of_mem _ (mwsX100 w h)) hown hH ek16 (by decide) rfl 29 (by decide) rfl (hts (.fieldLink RX10 84 "HousestyleModel" "ignoredTo" "[I") (List.mem_cons_of_mem _ gw_30_13)) (fun _ h9 => h9) dX10_follows_36 e31 ?_
        refine lv_iload hx hb dX10_follows_39 (lv_at hl 1 rfl) ?_
        obtain ⟨ek32, hf⟩ := oc hf
        obtain ⟨ei33, hf⟩ := oc hf
        refine r_iald hx hb hH ek32 ei33 dX10_follows_41 ?_
        obtain ⟨x34, e35, hf⟩ := ol hf
        refine lv_topE e35 ?_
        refine lv_istore (lv' := [(8, .int x34), (7, .int x28), (6, .int x22), (0, .ref a0), (1, .int p1), (2, .int p2), (3, .int p3), (4, .int x1), (5, .int x2)]) hx hb dX10_follows_42 hl (by decide) rfl (fun ls hl => ?_)
        refine lv_iload_n hx hb dX10_follows_44 rfl (lv_at hl 6 rfl) ?_
        obtain ⟨j37, e76, hf⟩ := ol hf
        have Jj37 : ∀ (x36 : Int32) (H : Heap) (locs : List Loc) (ls : Array Slot), HI D S S3 s H locs → lv_has ls 12 [(0, .ref a0), (1, .int p1), (2, .int p2), (3, .int p3), (4, .int x1), (5, .int x2), (6, .int x22), (7, .int x28), (8, .int x34)] → j37 x36 = some q15_ → GV p l e (headSpec wsX10_follows rmX10_follows).room s m ([.ref a0, .int p1, .int p2, .int p3] : List Value).toArray below meth c D S r H locs 0 0 0 0 (F0 m 85 ls [.int x36]) := by
          intro x36 H locs ls hH hl hf
          rw [← e76] at hf
          refine lv_istore (lv' := [(9, .int x36), (0, .ref a0), (1, .int p1), (2, .int p2), (3, .int p3), (4, .int x1), (5, .int x2), (6, .int x22), (7, .int x28), (8, .int x34)]) hx hb dX10_follows_85 hl (by decide) rfl (fun ls hl => ?_)
          refine lv_iload_n hx hb dX10_follows_87 rfl (lv_at hl 4 rfl) ?_
          obtain ⟨j39, e72, hf⟩ := ol hf
          have Jj39 : ∀ (x38 : Int32) (H : Heap) (locs : List Loc) (ls : Array Slot), HI D S S3 s H locs → lv_has ls 12 [(0, .ref a0), (1, .int p1), (2, .int p2), (3, .int p3), (4, .int x1), (5, .int x2), (6, .int x22), (7, .int x28), (8, .int x34), (9, .int x36)] → j39 x38 = some q15_ → GV p l e (headSpec wsX10_follows rmX10_follows).room s m ([.ref a0, .int p1, .int p2, .int p3] : List Value).toArray below meth c D S r H locs 0 0 0 0 (F0 m 116 ls [.int x38]) := by
            intro x38 H locs ls hH hl hf
            rw [← e72] at hf
            refine lv_istore (lv' := [(10, .int x38), (0, .ref a0), (1, .int p1), (2, .int p2), (3, .int p3), (4, .int x1), (5, .int x2), (6, .int x22), (7, .int x28), (8, .int x34), (9, .int x36)]) hx hb dX10_follows_116 hl (by decide) rfl (fun ls hl => ?_)
            refine lv_iload hx hb dX10_follows_118 (lv_at hl 10 rfl) ?_
            obtain ⟨j42, e45, hf⟩ := ol hf
            have Jj42 : ∀ (x40 : Int32) (S41 : PS) (H : Heap) (locs : List Loc) (ls : Array Slot), HI D S S41 s H locs → lv_has ls 12 [(0, .ref a0), (1, .int p1), (2, .int p2), (3, .int p3), (4, .int x40), (5, .int x2)] → j42 x40 S41 = some q15_ → GV p l e (headSpec wsX10_follows rmX10_follows).room s m ([.ref a0, .int p1, .int p2, .int p3] : List Value).toArray below meth c D S r H locs 0 0 0 0 (F0 m 173 ls []) := by
              intro x40 S41 H locs ls hH hl hf
              rw [← e45] at hf
              obtain ⟨x43, e44, hf⟩ := ol hf
              refine lv_iinc (v := x43) (lv' := [(5, .int x43), (0, .ref a0), (1, .int p1), (2, .int p2), (3, .int p3), (4, .int x40)]) hx hb dX10_follows_173 hl (k := 5) rfl (by rw [← e44]; rfl) (by decide) rfl (fun ls hl => ?_)
              refine lv_goto (tgt := 6) hx hb dX10_follows_176 (by decide) ?_
              cases hf
              exact ih15 x40 x43 S41 hq15 _ _ ls hH (lv_sub hl [1, 2, 3, 4, 5, 0] rfl)
            refine lv_if_ne (tgt := 173) hx hb dX10_follows_120 (by decide) (fun c46 => ?_) (fun c46 => ?_)
            · have hf := iq hf c46
              exact Jj42 x1 S3 _ _ ls hH (lv_sub hl [1, 2, 3, 4, 5, 6] rfl) hf
            · have hf := ip hf c46
              refine lv_iload_n hx hb dX10_follows_123 rfl (lv_at hl 2 rfl) ?_
              refine lv_bipush (v := 20) hx hb dX10_follows_124 (by decide) ?_
              refine lv_imul hx hb dX10_follows_126 ?_
              refine lv_iload hx hb dX10_follows_127 (lv_at hl 5 rfl) ?_
              refine lv_iadd hx hb dX10_follows_129 ?_
              obtain ⟨x47, e48, hf⟩ := ol hf
              refine lv_topE e48 ?_
              refine lv_istore (lv' := [(11, .int x47), (10, .int x38), (0, .ref a0), (1, .int p1), (2, .int p2), (3, .int p3), (4, .int x1), (5, .int x2), (6, .int x22), (7, .int x28), (8, .int x34), (9, .int x36)]) hx hb dX10_follows_130 hl (by decide) rfl (fun ls hl => ?_)
              refine lv_aload_n hx hb dX10_follows_132 rfl (lv_at hl 2 rfl) ?_
              obtain ⟨a49, e50, hf⟩ := ob hf
              refine r_getQ hx hb 13 hts (fun w h => List.mem_cons_of_mem _ (mwsX100 w h)) hown hH ek16 (by decide) rfl 27 (by decide) rfl (hts (.fieldLink RX10 78 "HousestyleModel" "ignoredRules" "[I") (List.mem_cons_of_mem _ gw_30_11)) (fun _ h9 => h9) dX10_follows_133 e50 ?_
              refine lv_iload hx hb dX10_follows_136 (lv_at hl 0 rfl) ?_
              refine lv_aload_n hx hb dX10_follows_138 rfl (lv_at hl 2 rfl) ?_
              refine r_getQ hx hb 13 hts (fun w h => List.mem_cons_of_mem _ (mwsX100 w h)) hown hH ek16 (by decide) rfl 27 (by decide) rfl (hts (.fieldLink RX10 78 "HousestyleModel" "ignoredRules" "[I") (List.mem_cons_of_mem _ gw_30_11)) (fun _ h9 => h9) dX10_follows_139 e50 ?_
              refine lv_iload hx hb dX10_follows_142 (lv_at hl 8 rfl) ?_
              obtain ⟨ek51, hf⟩ := oc hf
              obtain ⟨ei52, hf⟩ := oc hf
              refine r_iald hx hb hH ek51 ei52 dX10_follows_144 ?_
              obtain ⟨ei53, hf⟩ := oc hf
              refine r_iast hx hb hH ek51 ei53 dX10_follows_145 (fun H locs hH => ?_)
              obtain ⟨S54, e55, hf⟩ := ol hf
              rw [e55] at hH
              refine lv_aload_n hx hb dX10_follows_146 rfl (lv_at hl 2 rfl) ?_
              obtain ⟨ek56, hf⟩ := oc hf
              obtain ⟨a57, e58, hf⟩ := ob hf
              refine r_getQ hx hb 13 hts (fun w h => List.mem_cons_of_mem _ (mwsX100 w h)) hown hH ek56 (by decide) rfl 28 (by decide) rfl (hts (.fieldLink RX10 81 "HousestyleModel" "ignoredFrom" "[I") (List.mem_cons_of_mem _ gw_30_12)) (fun _ h9 => h9) dX10_follows_147 e58 ?_
              refine lv_iload hx hb dX10_follows_150 (lv_at hl 0 rfl) ?_
              refine lv_iload hx hb dX10_follows_152 (lv_at hl 9 rfl) ?_
              refine lv_iload hx hb dX10_follows_154 (lv_at hl 1 rfl) ?_
              refine lv_iadd hx hb dX10_follows_156 ?_
              obtain ⟨ek59, hf⟩ := oc hf
              obtain ⟨ei60, hf⟩ := oc hf
              refine r_iast hx hb hH ek59 ei60 dX10_follows_157 (fun H locs hH => ?_)
              obtain ⟨S61, e62, hf⟩ := ol hf
              rw [e62] at hH
              refine lv_aload_n hx hb dX10_follows_158 rfl (lv_at hl 2 rfl) ?_
              obtain ⟨ek63, hf⟩ := oc hf
              obtain ⟨a64, e65, hf⟩ := ob hf
              refine r_getQ hx hb 13 hts (fun w h => List.mem_cons_of_mem _ (mwsX100 w h)) hown hH ek63 (by decide) rfl 29 (by decide) rfl (hts (.fieldLink RX10 84 "HousestyleModel" "ignoredTo" "[I") (List.mem_cons_of_mem _ gw_30_13)) (fun _ h9 => h9) dX10_follows_159 e65 ?_
              refine lv_iload hx hb dX10_follows_162 (lv_at hl 0 rfl) ?_
              refine lv_iload hx hb dX10_follows_164 (lv_at hl 10 rfl) ?_
              refine lv_iload hx hb dX10_follows_166 (lv_at hl 1 rfl) ?_
              refine lv_iadd hx hb dX10_follows_168 ?_
              obtain ⟨ek66, hf⟩ := oc hf
              obtain ⟨ei67, hf⟩ := oc hf
              refine r_iast hx hb hH ek66 ei67 dX10_follows_169 (fun H locs hH => ?_)
              obtain ⟨S68, e69, hf⟩ := ol hf
              rw [e69] at hH
              obtain ⟨x70, e71, hf⟩ := ol hf
              refine lv_iinc (v := x70) (lv' := [(4, .int x70), (11, .int x47), (10, .int x38), (0, .ref a0), (1, .int p1), (2, .int p2), (3, .int p3), (5, .int x2), (6, .int x22), (7, .int x28), (8, .int x34), (9, .int x36)]) hx hb dX10_follows_170 hl (k := 6) rfl (by rw [← e71]; rfl) (by decide) rfl (fun ls hl => ?_)
              exact Jj42 x70 S68 _ _ ls hH (lv_sub hl [3, 4, 5, 6, 0, 7] rfl) hf
          refine lv_if_le (tgt := 105) hx hb dX10_follows_88 (by decide) (fun c73 => ?_) (fun c73 => ?_)
          · have hf := ip hf c73
            refine lv_iload_n hx hb dX10_follows_105 rfl (lv_at hl 3 rfl) ?_
            refine lv_iload hx hb dX10_follows_106 (lv_at hl 8 rfl) ?_
            refine lv_icmp_ge (tgt := 115) hx hb dX10_follows_108 (by decide) (fun c74 => ?_) (fun c74 => ?_)
            · have hf := ip hf c74
              refine lv_iconst (v := 0) hx hb dX10_follows_115 (by decide) ?_
              exact Jj39 0 _ _ ls hH (lv_sub hl [1, 2, 3, 4, 5, 6, 7, 8, 9, 0] rfl) hf
            · have hf := iq hf c74
              refine lv_iconst (v := (-1)) hx hb dX10_follows_111 (by decide) ?_
              refine lv_goto (tgt := 116) hx hb dX10_follows_112 (by decide) ?_
              exact Jj39 (-1) _ _ ls hH (lv_sub hl [1, 2, 3, 4, 5, 6, 7, 8, 9, 0] rfl) hf
          · have hf := iq hf c73
            refine lv_iload_n hx hb dX10_follows_91 rfl (lv_at hl 3 rfl) ?_
            refine lv_iload hx hb dX10_follows_92 (lv_at hl 8 rfl) ?_
            refine lv_icmp_gt (tgt := 101) hx hb dX10_follows_94 (by decide) (fun c75 => ?_) (fun c75 => ?_)
            · have hf := ip hf c75
              refine lv_iconst (v := 0) hx hb dX10_follows_101 (by decide) ?_
              refine lv_goto (tgt := 116) hx hb dX10_follows_102 (by decide) ?_
              exact Jj39 0 _ _ ls hH (lv_sub hl [1, 2, 3, 4, 5, 6, 7, 8, 9, 0] rfl) hf
            · have hf := iq hf c75
              refine lv_iconst (v := 1) hx hb dX10_follows_97 (by decide) ?_
              refine lv_goto (tgt := 116) hx hb dX10_follows_98 (by decide) ?_
              exact Jj39 1 _ _ ls hH (lv_sub hl [1, 2, 3, 4, 5, 6, 7, 8, 9, 0] rfl) hf
        refine lv_if_le (tgt := 68) hx hb dX10_follows_45 (by decide) (fun c77 => ?_) (fun c77 => ?_)
        · have hf := ip hf c77
          refine lv_iload_n hx hb dX10_follows_68 rfl (lv_at hl 5 rfl) ?_
          refine lv_iload hx hb dX10_follows_69 (lv_at hl 1 rfl) ?_
          obtain ⟨j78, e80, hf⟩ := ol hf
          have Jj78 : ∀ (u79 : Unit) (H : Heap) (locs : List Loc) (ls : Array Slot), HI D S S3 s H locs → lv_has ls 12 [(0, .ref a0), (1, .int p1), (2, .int p2), (3, .int p3), (4, .int x1), (5, .int x2), (6, .int x22), (7, .int x28), (8, .int x34)] → j78 u79 = some q15_ → GV p l e (headSpec wsX10_follows rmX10_follows).room s m ([.ref a0, .int p1, .int p2, .int p3] : List Value).toArray below meth c D S r H locs 0 0 0 0 (F0 m 84 ls []) := by
            intro u79 H locs ls hH hl hf
            rw [← e80] at hf
            refine lv_iconst (v := 0) hx hb dX10_follows_84 (by decide) ?_
            exact Jj37 0 _ _ ls hH (lv_sub hl [0, 1, 2, 3, 4, 5, 6, 7, 8] rfl) hf
          refine lv_icmp_lt (tgt := 84) hx hb dX10_follows_71 (by decide) (fun c81 => ?_) (fun c81 => ?_)
          · have hf := ip hf c81
            exact Jj78 () _ _ ls hH (lv_sub hl [3, 4, 5, 6, 7, 8, 2, 1, 0] rfl) hf
          · have hf := iq hf c81
            refine lv_iload_n hx hb dX10_follows_74 rfl (lv_at hl 5 rfl) ?_
            refine lv_iload hx hb dX10_follows_75 (lv_at hl 0 rfl) ?_
            refine lv_icmp_ge (tgt := 84) hx hb dX10_follows_77 (by decide) (fun c82 => ?_) (fun c82 => ?_)
            · have hf := ip hf c82
              exact Jj78 () _ _ ls hH (lv_sub hl [3, 4, 5, 6, 7, 8, 2, 1, 0] rfl) hf
            · have hf := iq hf c82
              refine lv_iconst (v := 1) hx hb dX10_follows_80 (by decide) ?_
              refine lv_goto (tgt := 85) hx hb dX10_follows_81 (by decide) ?_
              exact Jj37 1 _ _ ls hH (lv_sub hl [3, 4, 5, 6, 7, 8, 2, 1, 0] rfl) hf
        · have hf := iq hf c77
          refine lv_iload_n hx hb dX10_follows_48 rfl (lv_at hl 5 rfl) ?_
          refine lv_iload hx hb dX10_follows_49 (lv_at hl 1 rfl) ?_
          obtain ⟨j83, e85, hf⟩ := ol hf
          have Jj83 : ∀ (u84 : Unit) (H : Heap) (locs : List Loc) (ls : Array Slot), HI D S S3 s H locs → lv_has ls 12 [(0, .ref a0), (1, .int p1), (2, .int p2), (3, .int p3), (4, .int x1), (5, .int x2), (6, .int x22), (7, .int x28), (8, .int x34)] → j83 u84 = some q15_ → GV p l e (headSpec wsX10_follows rmX10_follows).room s m ([.ref a0, .int p1, .int p2, .int p3] : List Value).toArray below meth c D S r H locs 0 0 0 0 (F0 m 64 ls []) := by
            intro u84 H locs ls hH hl hf
            rw [← e85] at hf
            refine lv_iconst (v := 0) hx hb dX10_follows_64 (by decide) ?_
            refine lv_goto (tgt := 85) hx hb dX10_follows_65 (by decide) ?_
            exact Jj37 0 _ _ ls hH (lv_sub hl [0, 1, 2, 3, 4, 5, 6, 7, 8] rfl) hf
          refine lv_icmp_le (tgt := 64) hx hb dX10_follows_51 (by decide) (fun c86 => ?_) (fun c86 => ?_)
          · have hf := ip hf c86
            exact Jj83 () _ _ ls hH (lv_sub hl [3, 4, 5, 6, 7, 8, 2, 1, 0] rfl) hf
          · have hf := iq hf c86
            refine lv_iload_n hx hb dX10_follows_54 rfl (lv_at hl 5 rfl) ?_
            refine lv_iload hx hb dX10_follows_55 (lv_at hl 0 rfl) ?_
            refine lv_icmp_ge (tgt := 64) hx hb dX10_follows_57 (by decide) (fun c87 => ?_) (fun c87 => ?_)
            · have hf := ip hf c87
              exact Jj83 () _ _ ls hH (lv_sub hl [3, 4, 5, 6, 7, 8, 2, 1, 0] rfl) hf
            · have hf := iq hf c87
              refine lv_iconst (v := 1) hx hb dX10_follows_60 (by decide) ?_
              refine lv_goto (tgt := 85) hx hb dX10_follows_61 (by decide) ?_
              exact Jj37 1 _ _ ls hH (lv_sub hl [3, 4, 5, 6, 7, 8, 2, 1, 0] rfl) hf
  exact Lo15 kF 0 0 S eo15 _ _ ls hH (lv_sub hl [2, 3, 4, 5, 1, 0] rfl)
set_option maxRecDepth 100000 in
def f_X10_puts_b114 (a0 : Nat) (r2 : Int32) (x37 : Int32) (x55 : Int32) (S56 : PS) : Option ((Int32 × PS) ⊕ ((PS))) := if x55 ≤ (r2 + 1) then (some (.inr S56)) else (if kK S56 a0 = 14 then ((kQ S56 a0 30).bind fun a70 => if kK S56 a70 = 103 then (if ¬ (((x37 + x55) - 1) < 0 ∨ kN S56 a70 ≤ ((x37 + x55) - 1).toNatClampNeg) then (if ¬ ((x37 + x55) < 0 ∨ kN S56 a70 ≤ (x37 + x55).toNatClampNeg) then (lt (wI S56 a70 (x37 + x55).toNatClampNeg (vp_nar .boolean (kI S56 a70 ((x37 + x55) - 1).toNatClampNeg))) fun S75 => lt (x55 + (-1)) fun x77 => some (.inl (x77, S75))) else none) else none) else none) else none)
set_option maxRecDepth 100000 in
def f_X10_puts_b90 (a0 : Nat) (p1 : Int32) (p2 : Int32) (r2 : Int32) (r4 : Int32) (x30 : Int32) (S31 : PS) : Option ((Int32 × PS) ⊕ ((PS))) := if (4 : Int32) ≤ x30 then (some (.inr S31)) else (lt (x30 * 161) fun x37 => lt (fun (S39 : PS) => if kK S39 a0 = 14 then ((kQ S39 a0 30).bind fun a42 => if kK S39 a42 = 103 then (if ¬ ((x37 + r2) < 0 ∨ kN S39 a42 ≤ (x37 + r2).toNatClampNeg) then (lt (wI S39 a42 (x37 + r2).toNatClampNeg (vp_nar .boolean 1)) fun S46 => if kK S46 a0 = 14 then ((f_X10_follows S46 a0 x30 p1 1).bind fun r49 => lt (x30 + 1) fun x51 => some (.inl (x51, r49))) else none) else none) else none) else none) fun j40 => if p2 = (47 : Int32) then (lt (fun (S57 : PS) => if kK S57 a0 = 14 then ((kQ S57 a0 30).bind fun a61 => if kK S57 a61 = 103 then (if ¬ (((x37 + r2) + 1) < 0 ∨ kN S57 a61 ≤ ((x37 + r2) + 1).toNatClampNeg) then (lt (wI S57 a61 ((x37 + r2) + 1).toNatClampNeg (vp_nar .boolean 1)) fun S65 => j40 S65) else none) else none) else none) fun k58 => (iter (fun (v : Int32 × PS) => f_X10_puts_b114 a0 r2 x37 v.1 v.2) kF (r4, S31)).bind (fun (v : PS) => k58 v)) else (j40 S31))
set_option maxRecDepth 100000 in
def f_X10_puts_b19 (a0 : Nat) (p1 : Int32) (x8 : Int32) (S9 : PS) : Option ((Int32 × PS) ⊕ ((PS))) := if x8 ≤ p1 then (some (.inr S9)) else (if kK S9 a0 = 14 then ((kQ S9 a0 1).bind fun a82 => if kK S9 a82 = 102 then (if ¬ ((x8 - 1) < 0 ∨ kN S9 a82 ≤ (x8 - 1).toNatClampNeg) then (if ¬ (x8 < 0 ∨ kN S9 a82 ≤ x8.toNatClampNeg) then (lt (wI S9 a82 x8.toNatClampNeg (vp_nar .char (kI S9 a82 (x8 - 1).toNatClampNeg))) fun S87 => if kK S87 a0 = 14 then ((kQ S87 a0 2).bind fun a90 => if kK S87 a90 = 101 then (if ¬ ((x8 - 1) < 0 ∨ kN S87 a90 ≤ (x8 - 1).toNatClampNeg) then (if ¬ (x8 < 0 ∨ kN S87 a90 ≤ x8.toNatClampNeg) then (lt (wI S87 a90 x8.toNatClampNeg (kI S87 a90 (x8 - 1).toNatClampNeg)) fun S95 => lt (x8 + (-1)) fun x97 => some (.inl (x97, S95))) else none) else none) else none) else none) else none) else none) else none) else none)
set_option maxRecDepth 100000 in
def f_X10_puts (S : PS) (a0 : Nat) (p1 : Int32) (p2 : Int32) (p3 : Int32) : Option (PS) := if kK S a0 = 14 then ((f_X10_endsAhead S a0 p1).bind fun r2 => (f_X10_paragraphsNow S a0).bind fun r4 => lt (kI S a0 3) fun x6 => lt (fun (S10 : PS) => if kK S10 a0 = 14 then ((kQ S10 a0 1).bind fun a14 => if kK S10 a14 = 102 then (if ¬ (p1 < 0 ∨ kN S10 a14 ≤ p1.toNatClampNeg) then (lt (wI S10 a14 p1.toNatClampNeg (vp_nar .char p2)) fun S18 => if kK S18 a0 = 14 then ((kQ S18 a0 2).bind fun a21 => if kK S18 a21 = 101 then (if ¬ (p1 < 0 ∨ kN S18 a21 ≤ p1.toNatClampNeg) then (lt (wI S18 a21 p1.toNatClampNeg p3) fun S25 => if kK S25 a0 = 14 then (lt (wI S25 a0 3 ((kI S25 a0 3) + 1)) fun S28 => lt (fun (S32 : PS) => some S32) fun k33 => (iter (fun (v : Int32 × PS) => f_X10_puts_b90 a0 p1 p2 r2 r4 v.1 v.2) kF (0, S28)).bind (fun (v : PS) => k33 v)) else none) else none) else none) else none) else none) else none) else none) fun k11 => (iter (fun (v : Int32 × PS) => f_X10_puts_b19 a0 p1 v.1 v.2) kF (x6, S)).bind (fun (v : PS) => k11 v)) else none
abbrev rmX10_puts : Room := { frames := 2, cells := 0, slots := 0, locals := 43 }
set_option maxHeartbeats 4000000 in
set_option maxRecDepth 100000 in
theorem c_X10_puts (l : Launch) (D : va_G × Nat) (S : PS) (a0 : Nat) (p1 : Int32) (p2 : Int32) (p3 : Int32) (r : PS) (hf : f_X10_puts S a0 p1 p2 p3 = some r) : MV l D yX10_puts wsX10_puts rmX10_puts S [.ref a0, .int p1, .int p2, .int p3] r 0 0 := by
  unfold f_X10_puts at hf
  refine Met.ofW (cc := cX10_puts) (maxL := 9) (ret := none) (by decide) rfl ?_
  intro p e s m args below meth c s₁ B hml hv
  obtain ⟨rfl, hH0, hNE⟩ := hv
  have hx := B.exec
  have hb := B.bytes
  have hr := B.returns
  have hts := atoms_spec (ws := wsX10_puts) B.pre
  have hown : s.vm.findClass RX10 = some m.cls := findClass_of_methodNamed B.named
  have hlocks := B.notSynchronized
  have hH : HI D S S s s.heap [] := HI.start hH0
  have hl := lv_entry ([.ref a0, .int p1, .int p2, .int p3]) (n := 9) (Nat.le_of_ble_eq_true rfl)
  rw [lg_entry_eq]
  generalize (lg_sl ([.ref a0, .int p1, .int p2, .int p3]) ++ List.replicate (9 - (lg_sl ([.ref a0, .int p1, .int p2, .int p3])).length) Slot.unset).toArray = ls at hl ⊢
  have hl : lv_has ls 9 [(0, .ref a0), (1, .int p1), (2, .int p2), (3, .int p3)] := hl
  refine lv_aload_n hx hb dX10_puts_0 rfl (lv_at hl 0 rfl) ?_
  refine lv_iload_n hx hb dX10_puts_1 rfl (lv_at hl 1 rfl) ?_
  obtain ⟨ek1, hf⟩ := oc hf
  obtain ⟨r2, e3, hf⟩ := ob hf
  refine r_callVi (As := [.int p1]) ⟨hx, hb, hml, hown, hts⟩ (c_X10_endsAhead l D S a0 p1 r2 e3) (cwV 1 hts (gwV gw_32_3 gw_32_4 gw_32_5 gw_31_10 gw_32_0) rfl rfl rfl (by decide +kernel) ⟨Nat.le_of_ble_eq_true rfl, Nat.le_of_ble_eq_true rfl⟩) hH hNE 13 ek1 (by decide) rfl rfl rfl hl.1 rfl (Nat.le_of_ble_eq_true rfl) dX10_puts_2 ⟨(Nat.le_of_ble_eq_true rfl), (Nat.le_of_ble_eq_true rfl)⟩ (fun H locs hH => ?_)
  refine lv_istore (lv' := [(4, .int r2), (0, .ref a0), (1, .int p1), (2, .int p2), (3, .int p3)]) hx hb dX10_puts_5 hl (by decide) rfl (fun ls hl => ?_)
  refine lv_aload_n hx hb dX10_puts_7 rfl (lv_at hl 1 rfl) ?_
  obtain ⟨r4, e5, hf⟩ := ob hf
  refine r_callVi (As := []) ⟨hx, hb, hml, hown, hts⟩ (c_X10_paragraphsNow l D S a0 r4 e5) (cwV 0 hts (gwV gw_32_7 gw_32_8 gw_32_9 gw_31_10 gw_32_1) rfl rfl rfl (by decide +kernel) ⟨Nat.le_of_ble_eq_true rfl, Nat.le_of_ble_eq_true rfl⟩) hH hNE 13 ek1 (by decide) rfl rfl rfl hl.1 rfl (Nat.le_of_ble_eq_true rfl) dX10_puts_8 ⟨(Nat.le_of_ble_eq_true rfl), (Nat.le_of_ble_eq_true rfl)⟩ (fun H locs hH => ?_)
  refine lv_istore (lv' := [(5, .int r4), (4, .int r2), (0, .ref a0), (1, .int p1), (2, .int p2), (3, .int p3)]) hx hb dX10_puts_11 hl (by decide) rfl (fun ls hl => ?_)
  refine lv_aload_n hx hb dX10_puts_13 rfl (lv_at hl 2 rfl) ?_
  refine r_getI hx hb 13 hts (fun w h => List.mem_cons_of_mem _ (mwsX100 w h)) hown hH ek1 (by decide) rfl 3 (by decide) rfl (hts (.fieldLink RX10 156 "HousestyleModel" "length" "I") (List.mem_cons_of_mem _ gw_32_2)) (fun _ h9 => h9) dX10_puts_14 ?_
  obtain ⟨x6, e7, hf⟩ := ol hf
  refine lv_topE e7 ?_
  refine lv_istore (lv' := [(6, .int x6), (5, .int r4), (4, .int r2), (0, .ref a0), (1, .int p1), (2, .int p2), (3, .int p3)]) hx hb dX10_puts_17 hl (by decide) rfl (fun ls hl => ?_)
  obtain ⟨k11, e12, hf⟩ := ol hf
  have Xk11 : ∀ (S10 : PS) (H : Heap) (locs : List Loc) (ls : Array Slot), HI D S S10 s H locs → lv_has ls 9 [(0, .ref a0), (1, .int p1), (2, .int p2), (3, .int p3), (4, .int r2), (5, .int r4)] → k11 S10 = some r → GV p l e (headSpec wsX10_puts rmX10_puts).room s m ([.ref a0, .int p1, .int p2, .int p3] : List Value).toArray below meth c D S r H locs 0 0 0 0 (F0 m 63 ls []) := by
    intro S10 H locs ls hH hl hf
    rw [← e12] at hf
    refine lv_aload_n hx hb dX10_puts_63 rfl (lv_at hl 0 rfl) ?_
    obtain ⟨ek13, hf⟩ := oc hf
    obtain ⟨a14, e15, hf⟩ := ob hf
    refine r_getQ hx hb 13 hts (fun w h => List.mem_cons_of_mem _ (mwsX100 w h)) hown hH ek13 (by decide) rfl 1 (by decide) rfl (hts (.fieldLink RX10 7 "HousestyleModel" "text" "[C") (List.mem_cons_of_mem _ gw_29_12)) (fun _ h9 => h9) dX10_puts_64 e15 ?_
    refine lv_iload_n hx hb dX10_puts_67 rfl (lv_at hl 1 rfl) ?_
    refine lv_iload_n hx hb dX10_puts_68 rfl (lv_at hl 2 rfl) ?_
    obtain ⟨ek16, hf⟩ := oc hf
    obtain ⟨ei17, hf⟩ := oc hf
    refine r_cast hx hb hH ek16 ei17 dX10_puts_69 (fun H locs hH => ?_)
    obtain ⟨S18, e19, hf⟩ := ol hf
    rw [e19] at hH
    refine lv_aload_n hx hb dX10_puts_70 rfl (lv_at hl 0 rfl) ?_
    obtain ⟨ek20, hf⟩ := oc hf
    obtain ⟨a21, e22, hf⟩ := ob hf
    refine r_getQ hx hb 13 hts (fun w h => List.mem_cons_of_mem _ (mwsX100 w h)) hown hH ek20 (by decide) rfl 2 (by decide) rfl (hts (.fieldLink RX10 13 "HousestyleModel" "writers" "[I") (List.mem_cons_of_mem _ gw_29_13)) (fun _ h9 => h9) dX10_puts_71 e22 ?_
    refine lv_iload_n hx hb dX10_puts_74 rfl (lv_at hl 1 rfl) ?_
    refine lv_iload_n hx hb dX10_puts_75 rfl (lv_at hl 3 rfl) ?_
    obtain ⟨ek23, hf⟩ := oc hf
    obtain ⟨ei24, hf⟩ := oc hf
    refine r_iast hx hb hH ek23 ei24 dX10_puts_76 (fun H locs hH => ?_)
    obtain ⟨S25, e26, hf⟩ := ol hf
    rw [e26] at hH
    refine lv_aload_n hx hb dX10_puts_77 rfl (lv_at hl 0 rfl) ?_
    refine lv_dup hx hb dX10_puts_78 rfl ?_
    obtain ⟨ek27, hf⟩ := oc hf
    refine r_getI hx hb 13 hts (fun w h => List.mem_cons_of_mem _ (mwsX100 w h)) hown hH ek27 (by decide) rfl 3 (by decide) rfl (hts (.fieldLink RX10 156 "HousestyleModel" "length" "I") (List.mem_cons_of_mem _ gw_32_2)) (fun _ h9 => h9) dX10_puts_79 ?_
    refine lv_iconst (v := 1) hx hb dX10_puts_82 (by decide) ?_
    refine lv_iadd hx hb dX10_puts_83 ?_
    refine r_putI hx hb 13 hts (fun w h => List.mem_cons_of_mem _ (mwsX100 w h)) tyX10 tyX10_ok nmX10 hown hH ek27 (by decide) rfl 3 (by decide) rfl (hts (.fieldLink RX10 156 "HousestyleModel" "length" "I") (List.mem_cons_of_mem _ gw_32_2)) (fun _ h9 => h9) (Or.inl rfl) (ty := .int) (by decide +kernel) rfl rfl dX10_puts_84 (fun H locs hH => ?_)
    obtain ⟨S28, e29, hf⟩ := ol hf
    rw [e29] at hH
    refine lv_iconst (v := 0) hx hb dX10_puts_87 (by decide) ?_
    refine lv_istore (lv' := [(6, .int 0), (0, .ref a0), (1, .int p1), (2, .int p2), (3, .int p3), (4, .int r2), (5, .int r4)]) hx hb dX10_puts_88 hl (by decide) rfl (fun ls hl => ?_)
    obtain ⟨k33, e34, hf⟩ := ol hf
    have Xk33 : ∀ (S32 : PS) (H : Heap) (locs : List Loc) (ls : Array Slot), HI D S S32 s H locs → lv_has ls 9 [] → k33 S32 = some r → GV p l e (headSpec wsX10_puts rmX10_puts).room s m ([.ref a0, .int p1, .int p2, .int p3] : List Value).toArray below meth c D S r H locs 0 0 0 0 (F0 m 189 ls []) := by
      intro S32 H locs ls hH hl hf
      rw [← e34] at hf
      have hr9 := Option.some.inj hf
      subst hr9
      exact e_v hx hb hr hlocks hH dX10_puts_189
    obtain ⟨o35, eo35, hq35f⟩ := ob hf
    have Lo35 : ∀ (n : Nat) (x30 : Int32) (S31 : PS), iter (fun (v : Int32 × PS) => f_X10_puts_b90 a0 p1 p2 r2 r4 v.1 v.2) n (x30, S31) = some o35 → ∀ (H : Heap) (locs : List Loc) (ls : Array Slot), HI D S S31 s H locs → lv_has ls 9 [(0, .ref a0), (1, .int p1), (2, .int p2), (4, .int r2), (5, .int r4), (6, .int x30)] → GV p l e (headSpec wsX10_puts rmX10_puts).room s m ([.ref a0, .int p1, .int p2, .int p3] : List Value).toArray below meth c D S r H locs 0 0 0 0 (F0 m 90 ls []) := by
      intro n
      induction n with
      | zero => intro x30 S31 hi; cases hi
      | succ n ih35 =>
        intro x30 S31 hi H locs ls hH hl
        obtain ⟨q35_, hf, hq35⟩ := iter_s hi
        have hf : f_X10_puts_b90 a0 p1 p2 r2 r4 x30 S31 = some q35_ := hf
        unfold f_X10_puts_b90 at hf
        refine lv_iload hx hb dX10_puts_90 (lv_at hl 5 rfl) ?_
        refine lv_iconst (v := 4) hx hb dX10_puts_92 (by decide) ?_
        refine lv_icmp_ge (tgt := 189) hx hb dX10_puts_93 (by decide) (fun c36 => ?_) (fun c36 => ?_)
        · have hf := ip hf c36
          cases hf
          have hf9 := itR (K := (fun (v : PS) => k33 v)) hq35 hq35f
          exact Xk33 S31 _ _ ls hH (lv_sub hl [] rfl) hf9
        · have hf := iq hf c36
          refine lv_iload hx hb dX10_puts_96 (lv_at hl 5 rfl) ?_
          refine lv_sipush (v := 161) hx hb dX10_puts_98 (by decide) ?_
          refine lv_imul hx hb dX10_puts_101 ?_
          obtain ⟨x37, e38, hf⟩ := ol hf
          refine lv_topE e38 ?_
          refine lv_istore (lv' := [(7, .int x37), (0, .ref a0), (1, .int p1), (2, .int p2), (4, .int r2), (5, .int r4), (6, .int x30)]) hx hb dX10_puts_102 hl (by decide) rfl (fun ls hl => ?_)
          refine lv_iload_n hx hb dX10_puts_104 rfl (lv_at hl 3 rfl) ?_
          refine lv_bipush (v := 47) hx hb dX10_puts_105 (by decide) ?_
          obtain ⟨j40, e53, hf⟩ := ol hf
          have Jj40 : ∀ (S39 : PS) (H : Heap) (locs : List Loc) (ls : Array Slot), HI D S S39 s H locs → lv_has ls 9 [(0, .ref a0), (1, .int p1), (2, .int p2), (4, .int r2), (5, .int r4), (6, .int x30), (7, .int x37)] → j40 S39 = some q35_ → GV p l e (headSpec wsX10_puts rmX10_puts).room s m ([.ref a0, .int p1, .int p2, .int p3] : List Value).toArray below meth c D S r H locs 0 0 0 0 (F0 m 164 ls []) := by
            intro S39 H locs ls hH hl hf
            rw [← e53] at hf
            refine lv_aload_n hx hb dX10_puts_164 rfl (lv_at hl 0 rfl) ?_
            obtain ⟨ek41, hf⟩ := oc hf
            obtain ⟨a42, e43, hf⟩ := ob hf
            refine r_getQ hx hb 13 hts (fun w h => List.mem_cons_of_mem _ (mwsX100 w h)) hown hH ek41 (by decide) rfl 30 (by decide) rfl (hts (.fieldLink RX10 87 "HousestyleModel" "hasChanged" "[Z") (List.mem_cons_of_mem _ gw_30_14)) (fun _ h9 => h9) dX10_puts_165 e43 ?_
            refine lv_iload hx hb dX10_puts_168 (lv_at hl 6 rfl) ?_
            refine lv_iload hx hb dX10_puts_170 (lv_at hl 3 rfl) ?_
            refine lv_iadd hx hb dX10_puts_172 ?_
            refine lv_iconst (v := 1) hx hb dX10_puts_173 (by decide) ?_
            obtain ⟨ek44, hf⟩ := oc hf
            obtain ⟨ei45, hf⟩ := oc hf
            refine r_zast hx hb hH ek44 ei45 dX10_puts_174 (fun H locs hH => ?_)
            obtain ⟨S46, e47, hf⟩ := ol hf
            rw [e47] at hH
            refine lv_aload_n hx hb dX10_puts_175 rfl (lv_at hl 0 rfl) ?_
            refine lv_iload hx hb dX10_puts_176 (lv_at hl 5 rfl) ?_
            refine lv_iload_n hx hb dX10_puts_178 rfl (lv_at hl 1 rfl) ?_
            refine lv_iconst (v := 1) hx hb dX10_puts_179 (by decide) ?_
            obtain ⟨ek48, hf⟩ := oc hf
            obtain ⟨r49, e50, hf⟩ := ob hf
            refine r_callVv (As := [.int x30, .int p1, .int 1]) ⟨hx, hb, hml, hown, hts⟩ (c_X10_follows l D S46 a0 x30 p1 1 r49 e50) (cwV 3 hts (gwV gw_32_16 gw_32_17 gw_32_18 gw_31_10 gw_32_14) rfl rfl rfl (by decide +kernel) ⟨Nat.le_of_ble_eq_true rfl, Nat.le_of_ble_eq_true rfl⟩) hH hNE 13 ek48 (by decide) rfl rfl rfl hl.1 rfl (Nat.le_of_ble_eq_true rfl) dX10_puts_180 ⟨(Nat.le_of_ble_eq_true rfl), (Nat.le_of_ble_eq_true rfl)⟩ (fun H locs hH => ?_)
            obtain ⟨x51, e52, hf⟩ := ol hf
            refine lv_iinc (v := x51) (lv' := [(6, .int x51), (0, .ref a0), (1, .int p1), (2, .int p2), (4, .int r2), (5, .int r4), (7, .int x37)]) hx hb dX10_puts_183 hl (k := 5) rfl (by rw [← e52]; rfl) (by decide) rfl (fun ls hl => ?_)
            refine lv_goto (tgt := 90) hx hb dX10_puts_186 (by decide) ?_
            cases hf
            exact ih35 x51 r49 hq35 _ _ ls hH (lv_sub hl [1, 2, 3, 4, 5, 0] rfl)
          refine lv_icmp_ne (tgt := 164) hx hb dX10_puts_107 (by decide) (fun c54 => ?_) (fun c54 => ?_)
          · have hf := iq hf c54
            exact Jj40 S31 _ _ ls hH (lv_sub hl [1, 2, 3, 4, 5, 6, 0] rfl) hf
          · have hf := ip hf c54
            refine lv_iload hx hb dX10_puts_110 (lv_at hl 5 rfl) ?_
            refine lv_istore (lv' := [(8, .int r4), (7, .int x37), (0, .ref a0), (1, .int p1), (2, .int p2), (4, .int r2), (5, .int r4), (6, .int x30)]) hx hb dX10_puts_112 hl (by decide) rfl (fun ls hl => ?_)
            obtain ⟨k58, e59, hf⟩ := ol hf
            have Xk58 : ∀ (S57 : PS) (H : Heap) (locs : List Loc) (ls : Array Slot), HI D S S57 s H locs → lv_has ls 9 [(0, .ref a0), (1, .int p1), (2, .int p2), (4, .int r2), (5, .int r4), (6, .int x30), (7, .int x37)] → k58 S57 = some q35_ → GV p l e (headSpec wsX10_puts rmX10_puts).room s m ([.ref a0, .int p1, .int p2, .int p3] : List Value).toArray below meth c D S r H locs 0 0 0 0 (F0 m 151 ls []) := by
              intro S57 H locs ls hH hl hf
              rw [← e59] at hf
              refine lv_aload_n hx hb dX10_puts_151 rfl (lv_at hl 0 rfl) ?_
              obtain ⟨ek60, hf⟩ := oc hf
              obtain ⟨a61, e62, hf⟩ := ob hf
              refine r_getQ hx hb 13 hts (fun w h => List.mem_cons_of_mem _ (mwsX100 w h)) hown hH ek60 (by decide) rfl 30 (by decide) rfl (hts (.fieldLink RX10 87 "HousestyleModel" "hasChanged" "[Z") (List.mem_cons_of_mem _ gw_30_14)) (fun _ h9 => h9) dX10_puts_152 e62 ?_
              refine lv_iload hx hb dX10_puts_155 (lv_at hl 6 rfl) ?_
              refine lv_iload hx hb dX10_puts_157 (lv_at hl 3 rfl) ?_
              refine lv_iadd hx hb dX10_puts_159 ?_
              refine lv_iconst (v := 1) hx hb dX10_puts_160 (by decide) ?_
              refine lv_iadd hx hb dX10_puts_161 ?_
              refine lv_iconst (v := 1) hx hb dX10_puts_162 (by decide) ?_
              obtain ⟨ek63, hf⟩ := oc hf
              obtain ⟨ei64, hf⟩ := oc hf
              refine r_zast hx hb hH ek63 ei64 dX10_puts_163 (fun H locs hH => ?_)
              obtain ⟨S65, e66, hf⟩ := ol hf
              rw [e66] at hH
              exact Jj40 S65 _ _ ls hH (lv_sub hl [0, 1, 2, 3, 4, 5, 6] rfl) hf
            obtain ⟨o67, eo67, hq67f⟩ := ob hf
            have Lo67 : ∀ (n : Nat) (x55 : Int32) (S56 : PS), iter (fun (v : Int32 × PS) => f_X10_puts_b114 a0 r2 x37 v.1 v.2) n (x55, S56) = some o67 → ∀ (H : Heap) (locs : List Loc) (ls : Array Slot), HI D S S56 s H locs → lv_has ls 9 [(0, .ref a0), (1, .int p1), (2, .int p2), (4, .int r2), (5, .int r4), (6, .int x30), (7, .int x37), (8, .int x55)] → GV p l e (headSpec wsX10_puts rmX10_puts).room s m ([.ref a0, .int p1, .int p2, .int p3] : List Value).toArray below meth c D S r H locs 0 0 0 0 (F0 m 114 ls []) := by
              intro n
              induction n with
              | zero => intro x55 S56 hi; cases hi
              | succ n ih67 =>
                intro x55 S56 hi H locs ls hH hl
                obtain ⟨q67_, hf, hq67⟩ := iter_s hi
                have hf : f_X10_puts_b114 a0 r2 x37 x55 S56 = some q67_ := hf
                unfold f_X10_puts_b114 at hf
                refine lv_iload hx hb dX10_puts_114 (lv_at hl 7 rfl) ?_
                refine lv_iload hx hb dX10_puts_116 (lv_at hl 3 rfl) ?_
                refine lv_iconst (v := 1) hx hb dX10_puts_118 (by decide) ?_
                refine lv_iadd hx hb dX10_puts_119 ?_
                refine lv_icmp_le (tgt := 151) hx hb dX10_puts_120 (by decide) (fun c68 => ?_) (fun c68 => ?_)
                · have hf := ip hf c68
                  cases hf
                  have hf9 := itR (K := (fun (v : PS) => k58 v)) hq67 hq67f
                  exact Xk58 S56 _ _ ls hH (lv_sub hl [0, 1, 2, 3, 4, 5, 6] rfl) hf9
                · have hf := iq hf c68
                  refine lv_aload_n hx hb dX10_puts_123 rfl (lv_at hl 0 rfl) ?_
                  obtain ⟨ek69, hf⟩ := oc hf
                  obtain ⟨a70, e71, hf⟩ := ob hf
                  refine r_getQ hx hb 13 hts (fun w h => List.mem_cons_of_mem _ (mwsX100 w h)) hown hH ek69 (by decide) rfl 30 (by decide) rfl (hts (.fieldLink RX10 87 "HousestyleModel" "hasChanged" "[Z") (List.mem_cons_of_mem _ gw_30_14)) (fun _ h9 => h9) dX10_puts_124 e71 ?_
                  refine lv_iload hx hb dX10_puts_127 (lv_at hl 6 rfl) ?_
                  refine lv_iload hx hb dX10_puts_129 (lv_at hl 7 rfl) ?_
                  refine lv_iadd hx hb dX10_puts_131 ?_
                  refine lv_aload_n hx hb dX10_puts_132 rfl (lv_at hl 0 rfl) ?_
                  refine r_getQ hx hb 13 hts (fun w h => List.mem_cons_of_mem _ (mwsX100 w h)) hown hH ek69 (by decide) rfl 30 (by decide) rfl (hts (.fieldLink RX10 87 "HousestyleModel" "hasChanged" "[Z") (List.mem_cons_of_mem _ gw_30_14)) (fun _ h9 => h9) dX10_puts_133 e71 ?_
                  refine lv_iload hx hb dX10_puts_136 (lv_at hl 6 rfl) ?_
                  refine lv_iload hx hb dX10_puts_138 (lv_at hl 7 rfl) ?_
                  refine lv_iadd hx hb dX10_puts_140 ?_
                  refine lv_iconst (v := 1) hx hb dX10_puts_141 (by decide) ?_
                  refine lv_isub hx hb dX10_puts_142 ?_
                  obtain ⟨ek72, hf⟩ := oc hf
                  obtain ⟨ei73, hf⟩ := oc hf
                  refine r_zald hx hb hH ek72 ei73 dX10_puts_143 ?_
                  obtain ⟨ei74, hf⟩ := oc hf
                  refine r_zast hx hb hH ek72 ei74 dX10_puts_144 (fun H locs hH => ?_)
                  obtain ⟨S75, e76, hf⟩ := ol hf
                  rw [e76] at hH
                  obtain ⟨x77, e78, hf⟩ := ol hf
                  refine lv_iinc (v := x77) (lv' := [(8, .int x77), (0, .ref a0), (1, .int p1), (2, .int p2), (4, .int r2), (5, .int r4), (6, .int x30), (7, .int x37)]) hx hb dX10_puts_145 hl (k := 7) rfl (by rw [← e78]; rfl) (by decide) rfl (fun ls hl => ?_)
                  refine lv_goto (tgt := 114) hx hb dX10_puts_148 (by decide) ?_
                  cases hf
                  exact ih67 x77 S75 hq67 _ _ ls hH (lv_sub hl [1, 2, 3, 4, 5, 6, 7, 0] rfl)
            exact Lo67 kF r4 S31 eo67 _ _ ls hH (lv_sub hl [2, 3, 4, 5, 6, 7, 1, 0] rfl)
    exact Lo35 kF 0 S28 eo35 _ _ ls hH (lv_sub hl [1, 2, 3, 5, 6, 0] rfl)
  obtain ⟨o79, eo79, hq79f⟩ := ob hf
  have Lo79 : ∀ (n : Nat) (x8 : Int32) (S9 : PS), iter (fun (v : Int32 × PS) => f_X10_puts_b19 a0 p1 v.1 v.2) n (x8, S9) = some o79 → ∀ (H : Heap) (locs : List Loc) (ls : Array Slot), HI D S S9 s H locs → lv_has ls 9 [(0, .ref a0), (1, .int p1), (2, .int p2), (3, .int p3), (4, .int r2), (5, .int r4), (6, .int x8)] → GV p l e (headSpec wsX10_puts rmX10_puts).room s m ([.ref a0, .int p1, .int p2, .int p3] : List Value).toArray below meth c D S r H locs 0 0 0 0 (F0 m 19 ls []) := by
    intro n
    induction n with
    | zero => intro x8 S9 hi; cases hi
    | succ n ih79 =>
      intro x8 S9 hi H locs ls hH hl
      obtain ⟨q79_, hf, hq79⟩ := iter_s hi
      have hf : f_X10_puts_b19 a0 p1 x8 S9 = some q79_ := hf
      unfold f_X10_puts_b19 at hf
      refine lv_iload hx hb dX10_puts_19 (lv_at hl 6 rfl) ?_
      refine lv_iload_n hx hb dX10_puts_21 rfl (lv_at hl 1 rfl) ?_
      refine lv_icmp_le (tgt := 63) hx hb dX10_puts_22 (by decide) (fun c80 => ?_) (fun c80 => ?_)
      · have hf := ip hf c80
        cases hf
        have hf9 := itR (K := (fun (v : PS) => k11 v)) hq79 hq79f
        exact Xk11 S9 _ _ ls hH (lv_sub hl [0, 1, 2, 3, 4, 5] rfl) hf9
      · have hf := iq hf c80
        refine lv_aload_n hx hb dX10_puts_25 rfl (lv_at hl 0 rfl) ?_
        obtain ⟨ek81, hf⟩ := oc hf
        obtain ⟨a82, e83, hf⟩ := ob hf
        refine r_getQ hx hb 13 hts (fun w h => List.mem_cons_of_mem _ (mwsX100 w h)) hown hH ek81 (by decide) rfl 1 (by decide) rfl (hts (.fieldLink RX10 7 "HousestyleModel" "text" "[C") (List.mem_cons_of_mem _ gw_29_12)) (fun _ h9 => h9) dX10_puts_26 e83 ?_
        refine lv_iload hx hb dX10_puts_29 (lv_at hl 6 rfl) ?_
        refine lv_aload_n hx hb dX10_puts_31 rfl (lv_at hl 0 rfl) ?_
        refine r_getQ hx hb 13 hts (fun w h => List.mem_cons_of_mem _ (mwsX100 w h)) hown hH ek81 (by decide) rfl 1 (by decide) rfl (hts (.fieldLink RX10 7 "HousestyleModel" "text" "[C") (List.mem_cons_of_mem _ gw_29_12)) (fun _ h9 => h9) dX10_puts_32 e83 ?_
        refine lv_iload hx hb dX10_puts_35 (lv_at hl 6 rfl) ?_
        refine lv_iconst (v := 1) hx hb dX10_puts_37 (by decide) ?_
        refine lv_isub hx hb dX10_puts_38 ?_
        obtain ⟨ek84, hf⟩ := oc hf
        obtain ⟨ei85, hf⟩ := oc hf
        refine r_cald hx hb hH ek84 ei85 dX10_puts_39 ?_
        obtain ⟨ei86, hf⟩ := oc hf
        refine r_cast hx hb hH ek84 ei86 dX10_puts_40 (fun H locs hH => ?_)
        obtain ⟨S87, e88, hf⟩ := ol hf
        rw [e88] at hH
        refine lv_aload_n hx hb dX10_puts_41 rfl (lv_at hl 0 rfl) ?_
        obtain ⟨ek89, hf⟩ := oc hf
        obtain ⟨a90, e91, hf⟩ := ob hf
        refine r_getQ hx hb 13 hts (fun w h => List.mem_cons_of_mem _ (mwsX100 w h)) hown hH ek89 (by decide) rfl 2 (by decide) rfl (hts (.fieldLink RX10 13 "HousestyleModel" "writers" "[I") (List.mem_cons_of_mem _ gw_29_13)) (fun _ h9 => h9) dX10_puts_42 e91 ?_
        refine lv_iload hx hb dX10_puts_45 (lv_at hl 6 rfl) ?_
        refine lv_aload_n hx hb dX10_puts_47 rfl (lv_at hl 0 rfl) ?_
        refine r_getQ hx hb 13 hts (fun w h => List.mem_cons_of_mem _ (mwsX100 w h)) hown hH ek89 (by decide) rfl 2 (by decide) rfl (hts (.fieldLink RX10 13 "HousestyleModel" "writers" "[I") (List.mem_cons_of_mem _ gw_29_13)) (fun _ h9 => h9) dX10_puts_48 e91 ?_
        refine lv_iload hx hb dX10_puts_51 (lv_at hl 6 rfl) ?_
        refine lv_iconst (v := 1) hx hb dX10_puts_53 (by decide) ?_
        refine lv_isub hx hb dX10_puts_54 ?_
        obtain ⟨ek92, hf⟩ := oc hf
        obtain ⟨ei93, hf⟩ := oc hf
        refine r_iald hx hb hH ek92 ei93 dX10_puts_55 ?_
        obtain ⟨ei94, hf⟩ := oc hf
        refine r_iast hx hb hH ek92 ei94 dX10_puts_56 (fun H locs hH => ?_)
        obtain ⟨S95, e96, hf⟩ := ol hf
        rw [e96] at hH
        obtain ⟨x97, e98, hf⟩ := ol hf
        refine lv_iinc (v := x97) (lv' := [(6, .int x97), (0, .ref a0), (1, .int p1), (2, .int p2), (3, .int p3), (4, .int r2), (5, .int r4)]) hx hb dX10_puts_57 hl (k := 6) rfl (by rw [← e98]; rfl) (by decide) rfl (fun ls hl => ?_)
        refine lv_goto (tgt := 19) hx hb dX10_puts_60 (by decide) ?_
        cases hf
        exact ih79 x97 S95 hq79 _ _ ls hH (lv_sub hl [1, 2, 3, 4, 5, 6, 0] rfl)
  exact Lo79 kF x6 S eo79 _ _ ls hH (lv_sub hl [3, 4, 5, 6, 2, 1, 0] rfl)
