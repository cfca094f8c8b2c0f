/-! the law begins: the class, the model and two arrays are made -/
theorem HI.grow1 {D : va_G × Nat} {S0 S : PS} {s : State} {H H1 : Heap} {locs : List Loc} (h : HI D S0 S s H locs) (z1 : H1.size = kZ S + 1) (o1 : ∀ q : Nat, q < kZ S → H1[q]? = H[q]?) : HI D S0 (zS S (kZ S + 1)) s H1 locs := by
  have hz := h.1.2.2.1
  have hg := h.1.grow (H1 := H1) (by rw [z1, hz]; exact Nat.le_succ _) (fun q hq => o1 q (by rw [← hz]; exact hq))
  rw [z1] at hg
  refine ⟨hg, ⟨?_, fun q h1 h2 => ?_, h.2.1.2.2⟩, ⟨h.2.2.1.1, Nat.le_trans h.2.2.1.2 (Nat.le_succ _)⟩, h.2.2.2⟩
  · rw [z1, h.2.2.2]
    exact Nat.le_trans h.2.2.1.2 (Nat.le_succ _)
  · rw [o1 q (by rw [h.2.2.2] at h1; exact Nat.lt_of_lt_of_le h1 h.2.2.1.2)]
    exact h.2.1.2.1 q h1 h2
section HBEGIN
variable {p : Program} {l : Launch} {e : Env} {s : State} {m : MethodId} {below : List Frame} {meth : Method} {c : Code} {Q : State → Prop}
variable {b L : Nat} {D : va_G × Nat} {S0 : PS} {c0 : Cond} {xs : Nat → Int32}
/-- an array of one is made -/
theorem r_new1 {R : Room} {args : Array Value} {cc : ByteArray} {pc : Nat} {ls : Array Slot} {rest : List Value} {H : Heap} {locs : List Loc} {cells slots : Nat} {S : PS} {atype : ArrayType} (ty : FieldType) (w : Value) (hx : p.tables.exec = Jvm.exec) (hb : c.code = cc) (harr : (Cond.arrayClass (newarray.typeOf atype)).before args s = true) (hty : newarray.typeOf atype = ty) (hdf : defaultValue ty = w) (h8 : 1 * componentBytes ty ≤ 536870912) (hRA : ∀ cA : ClassId, s.vm.findClass ("[" ++ ty.toString) = some cA → va_RA s cA ty) (hH : HI D S0 S s H locs) (hcells : cells + 1 ≤ R.cells) (hslots : slots + 1 ≤ R.slots) (hdg : decode cc pc = .ok (.newarray atype, 2))
    (kk : ∀ (H1 : Heap), HI D S0 (zS S (kZ S + 1)) s H1 locs → OA s H1 ty (kZ S) w → (∀ q : Nat, q < kZ S → H1[q]? = H[q]?) → W p l e R s m args below meth c H1 locs (cells + 1) (slots + 1) Q (F0 m (pc + 2) ls (.ref (kZ S) :: rest))) : W p l e R s m args below meth c H locs cells slots Q (F0 m pc ls (.int 1 :: rest)) := by
  subst hty
  refine va_newaK (N := 1) hx hb harr rfl hdg rfl (by decide) (by decide) h8 hcells hslots hH.1.2.2.1 fun H1 cA e1 z1 o1 hAr hNm => ?_
  exact kk H1 (hH.grow1 z1 o1) ⟨cA, _, hAr, hRA cA hNm, hdf, e1⟩ o1
set_option maxHeartbeats 4000000 in
set_option maxRecDepth 100000 in
theorem law_begin (C : LC p l s m c b c0 D S0 L xs) (hH : HI D S0 S0 s s.heap []) (hg : gI S0) (hA : ∀ q, kZ S0 ≤ q → pA S0 q) (KE : ∀ (H : Heap) (locs : List Loc) (ls : Array Slot) (P : PS) (cells slots : Nat), HI D S0 P s H locs → cells ≤ 603072 → slots ≤ 7211114 → W p l e room_1 s m #[Value.ref b] below meth c H locs cells slots Q (F0 m 1967 ls [])) : W p l e room_1 s m #[Value.ref b] below meth c s.heap [] 0 0 Q (entryFrame m ([Value.ref b] : List Value).toArray 9) := by
  obtain ⟨hx, hb, hml, hown, hts, hE, hNE, hCN, hst, hB, hX, hbl, hbA, hL9⟩ := id C
  have hl := lv_entry ([.ref b]) (n := 9) (Nat.le_of_ble_eq_true rfl)
  rw [lg_entry_eq]
  generalize (lg_sl ([.ref b]) ++ List.replicate (9 - (lg_sl ([.ref b])).length) Slot.unset).toArray = ls at hl ⊢
  have hl : lv_has ls 9 [(0, .ref b)] := hl
  -- the class
  obtain ⟨S1, I1, e1, g1, z1, c1⟩ := x9_init (I := kI S0) hg
  refine r_new hx hb 12 hts (fun w h => List.mem_cons_of_mem _ (mwsX90 w h)) tyX9 tyX9_ok hown (hts (.classLink RL 8 RX9) (List.mem_cons_of_mem _ gw_43_1)) (hts (.instantiable RX9 9) (List.mem_cons_of_mem _ gw_43_2)) (hts (.initialized RX9) (List.mem_cons_of_mem _ gw_14_5)) hH (by decide) rfl (by decide +kernel) (Nat.le_of_ble_eq_true rfl) (Nat.le_of_ble_eq_true rfl) dL_law_0 (fun H hH => ?_)
  refine lv_dup hx hb dL_law_3 rfl ?_
  refine r_callIv (As := []) ⟨hx, hb, hml, hown, hts⟩ (c_X9_init l D (wN S0 13 0) (kZ S0) (sI S1 I1) e1) (cwI 0 hts (gwI (gwC gw_19_18)) rfl rfl rfl (hts (.initialized RX9) (List.mem_cons_of_mem _ gw_14_5)) (hts (.methodLink RL 107 yX9_init) (List.mem_cons_of_mem _ gw_43_7)) (hts (.instanceMethod yX9_init) (List.mem_cons_of_mem _ gw_43_8)) rfl (by decide +kernel) ⟨Nat.le_of_ble_eq_true rfl, Nat.le_of_ble_eq_true rfl⟩) hH hNE rfl hl.1 rfl (Nat.le_of_ble_eq_true rfl) dL_law_4 ⟨(Nat.le_of_ble_eq_true rfl), (Nat.le_of_ble_eq_true rfl)⟩ (fun H locs hH => ?_)
  refine lv_astore_n (lv' := [(1, .ref (kZ S0)), (0, .ref b)]) hx hb dL_law_7 rfl hl (by decide) rfl (fun ls hl => ?_)
  -- the model
  obtain ⟨S2, I2, e2, g2, z2, m2, x2, i2, G, hG, hmT⟩ := x10_init (I := I1) g1
  refine r_new hx hb 13 hts (fun w h => List.mem_cons_of_mem _ (mwsX100 w h)) tyX10 tyX10_ok hown (hts (.classLink RL 108 RX10) (List.mem_cons_of_mem _ gw_43_3)) (hts (.instantiable RX10 46) (List.mem_cons_of_mem _ gw_43_4)) (hts (.initialized RX10) (List.mem_cons_of_mem _ gw_31_10)) hH (by decide) rfl (by decide +kernel) (Nat.le_of_ble_eq_true rfl) (Nat.le_of_ble_eq_true rfl) dL_law_8 (fun H hH => ?_)
  refine lv_dup hx hb dL_law_11 rfl ?_
  refine r_callIv (As := []) ⟨hx, hb, hml, hown, hts⟩ (c_X10_init l D (wN (sI S1 I1) 14 0) (kZ S1) (sI S2 I2) e2) (cwI 0 hts (gwI (gwC gw_29_9)) rfl rfl rfl (hts (.initialized RX10) (List.mem_cons_of_mem _ gw_31_10)) (hts (.methodLink RL 110 yX10_init) (List.mem_cons_of_mem _ gw_43_9)) (hts (.instanceMethod yX10_init) (List.mem_cons_of_mem _ gw_43_10)) rfl (by decide +kernel) ⟨Nat.le_of_ble_eq_true rfl, Nat.le_of_ble_eq_true rfl⟩) hH hNE rfl hl.1 rfl (Nat.le_of_ble_eq_true rfl) dL_law_12 ⟨(Nat.le_of_ble_eq_true rfl), (Nat.le_of_ble_eq_true rfl)⟩ (fun H locs hH => ?_)
  refine lv_astore_n (lv' := [(2, .ref (kZ S1)), (1, .ref (kZ S0)), (0, .ref b)]) hx hb dL_law_15 rfl hl (by decide) rfl (fun ls hl => ?_)
  -- both tell the state of the beginning
  rw [z1] at m2 hG z2
  have hmG : mT (fun k j => I2 (kZ S0 + 79 + k) j) T0 := by
    have h9 := hmT.own (I := I2) (m := kZ S0 + 79)
    rw [← hG] at h9
    exact h9
  have hP : lP (sI S2 I2) (kZ S0) T0 := ⟨g2, c1.xn g1 x2 i2, m2, wf_T0, hmG⟩
  have hzz : kZ S0 + 79 + 38 = kZ (sI S2 I2) := z2.symm
  -- the arrays
  refine lv_iconst (v := 1) hx hb dL_law_16 (by decide) ?_
  refine r_new1 (atype := .long) .long (.long 0) hx hb (hts (.arrayClass .long) (List.mem_cons_of_mem _ gw_43_5)) rfl rfl (by decide) (fun _ h9 => h9) hH (Nat.le_of_ble_eq_true rfl) (Nat.le_of_ble_eq_true rfl) dL_law_17 (fun H1 hH1 hO1 _ => ?_)
  refine lv_astore_n (lv' := [(3, .ref (kZ (sI S2 I2))), (2, .ref (kZ S1)), (1, .ref (kZ S0)), (0, .ref b)]) hx hb dL_law_19 rfl hl (by decide) rfl (fun ls hl => ?_)
  refine lv_iconst (v := 1) hx hb dL_law_20 (by decide) ?_
  refine r_new1 (atype := .double) .double (.double 0) hx hb (hts (.arrayClass .double) (List.mem_cons_of_mem _ gw_43_6)) rfl rfl (by decide) (fun _ h9 => h9) hH1 (Nat.le_of_ble_eq_true rfl) (Nat.le_of_ble_eq_true rfl) dL_law_21 (fun H2 hH2 hO2 hq2 => ?_)
  refine lv_astore (lv' := [(4, .ref (kZ (sI S2 I2) + 1)), (3, .ref (kZ (sI S2 I2))), (2, .ref (kZ S1)), (1, .ref (kZ S0)), (0, .ref b)]) hx hb dL_law_23 hl (by decide) rfl (fun ls hl => ?_)
  refine lv_iconst (v := 0) hx hb dL_law_25 (by decide) ?_
  refine lv_istore (lv' := [(5, .int 0), (4, .ref (kZ (sI S2 I2) + 1)), (3, .ref (kZ (sI S2 I2))), (2, .ref (kZ S1)), (1, .ref (kZ S0)), (0, .ref b)]) hx hb dL_law_26 hl (by decide) rfl (fun ls hl => ?_)
  rw [show kZ S1 = kZ S0 + 79 from z1] at hl
  have hl9 : lv_has ls 9 (LB b (kZ S0) (kZ (sI S2 I2)) (kZ (sI S2 I2) + 1) 0) := lv_sub hl [5, 4, 3, 2, 1, 0] rfl
  have hzP : ∀ q, kZ (sI S2 I2) ≤ q → kK (sI S2 I2) q = 0 := fun q hq => g2.1.1 q hq
  have hL : LH D S0 s (kZ S0) (kZ (sI S2 I2)) (kZ (sI S2 I2) + 1) T0 (zS (zS (sI S2 I2) (kZ (sI S2 I2) + 1)) (kZ (sI S2 I2) + 1 + 1)) H2 locs := by
    refine ⟨hH2, (hP.z (Nat.le_succ _)).z (Nat.le_succ _), ⟨_, hO1.heap (hq2 _ (Nat.lt_succ_self _))⟩, ⟨_, hO2⟩, hzP _ (Nat.le_refl _), hzP _ (Nat.le_succ _), ?_, Nat.lt_succ_self _, hA _ (by omega), hA _ (by omega), by omega⟩
    show kZ (sI S2 I2) < kZ (sI S2 I2) + 1 + 1
    omega
  exact law_loop C KE 512 0 T0 _ H2 locs _ _ ls (by omega) (Nat.zero_le _) hL hl9 (Nat.le_of_ble_eq_true rfl) (Nat.le_of_ble_eq_true rfl)
end HBEGIN
