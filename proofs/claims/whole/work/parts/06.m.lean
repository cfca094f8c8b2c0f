/-! Arrays.copyOf of an array of Rules: the new array, its cells copied -/
def wC (S : PS) (b a k : Nat) : PS := (S.1, S.2.1, S.2.2.1, fun x j => if x = b ∧ j < k then S.2.2.2.1 a j else S.2.2.2.1 x j, S.2.2.2.2)
theorem kK_wC (S : PS) (b a k x : Nat) : kK (wC S b a k) x = kK S x := rfl
theorem kN_wC (S : PS) (b a k x : Nat) : kN (wC S b a k) x = kN S x := rfl
theorem kI_wC (S : PS) (b a k x j : Nat) : kI (wC S b a k) x j = kI S x j := rfl
theorem kQ_wC (S : PS) (b a k x j : Nat) : kQ (wC S b a k) x j = if x = b ∧ j < k then kQ S a j else kQ S x j := rfl
theorem kZ_wC (S : PS) (b a k : Nat) : kZ (wC S b a k) = kZ S := rfl
/-- the first k of an array are Rules or null -/
def rulesAt (S : PS) (a k : Nat) : Bool := (List.range k).all (fun i => match kQ S a i with
  | none => true
  | some y => kK S y == 10)
theorem rulesAt_spec {S : PS} {a k : Nat} (h : rulesAt S a k = true) {i : Nat} (hi : i < k) {y : Nat} (hy : kQ S a i = some y) : kK S y = 10 := by
  have h1 := List.all_eq_true.mp h i (List.mem_range.mpr hi)
  rw [hy] at h1
  exact eq_of_beq h1
section LCOPY
variable {p : Program} {l : Launch} {e : Env} {R : Room} {s : State} {m : MethodId} {args : Array Value} {below : List Frame} {meth : Method} {c : Code} {H : Heap} {locs : List Loc} {cells slots : Nat} {Q : State → Prop}
variable {cc : ByteArray} {pc : Nat} {ls : Array Slot} {rest : List Value} {D : va_G × Nat} {S0 S : PS} {a a0 : Nat}
set_option maxHeartbeats 4000000 in
theorem r_copyq (hexec : p.tables.exec = Jvm.exec) (hb : c.code = cc) (hml : c.maxLocals = ls.size) {own : String} {index : Nat} (hown : s.vm.findClass own = some m.cls) (hlink : (Cond.methodLink own index arraycopyName).before args s = true) (hnat : (Cond.native arraycopyName).before args s = true) (hstat : (Cond.static arraycopyName).before args s = true) (hini : (Cond.initialized "java/lang/System").before args s = true)
    (hNE : NE s) (hH : HI D S0 S s H locs) (ek0 : kK S a0 = 104) (ek : kK S a = 104) {n : Int32} (h3 : ¬ n < 0) (h4 : n.toNatClampNeg ≤ kN S a0) (h5 : n.toNatClampNeg ≤ kN S a) (hel : rulesAt S a0 n.toNatClampNeg = true)
    (hframes : 1 ≤ R.frames) (hlocals : (rest.map fun v => v.category).sum + (nativeFrameWords "java/lang/System" "arraycopy" 5 + 11) ≤ R.locals) (hdg : decode cc pc = .ok (.invokestatic index, 3))
    (kk : ∀ (H1 : Heap) (locs1 : List Loc), HI D S0 (wC S a a0 n.toNatClampNeg) s H1 locs1 → W p l e R s m args below meth c H1 locs1 cells slots Q (F0 m (pc + 3) ls rest)) : W p l e R s m args below meth c H locs cells slots Q (F0 m pc ls (.int n :: .int 0 :: .ref a :: .int 0 :: .ref a0 :: rest)) := by
  have nn : ∀ z : Int32, ¬ z < 0 → z.toInt = (z.toNatClampNeg : Int) := by
    intro z hz
    have hz0 : (0 : Int) ≤ z.toInt := by
      have := Int32.not_lt.mp hz
      simpa using Int32.le_iff_toInt_le.mp this
    show z.toInt = ((z.toInt.toNat : Nat) : Int)
    omega
  obtain ⟨cA0, hK0, hP0⟩ := hH.1.arr ek0 (by decide)
  rw [acont_q ek0 (by decide)] at hP0
  obtain ⟨cA, hK, hP⟩ := hH.1.arr ek (by decide)
  rw [acont_q ek (by decide)] at hP
  have hca := hNE.2.2.1 RX6 (List.mem_of_getElem? (i := 4) rfl)
  intro T hT X
  have hc0 : H[a0]? = some (vp_cell cA0 (kN S a0, .inr (.inr (.inr (.inr (kQ S a0)))))) := hP0 0 _ rfl
  have hc1 : H[a]? = some (vp_cell cA (kN S a, .inr (.inr (.inr (.inr (kQ S a)))))) := hP 0 _ rfl
  obtain ⟨-, k0, hk0, cm0, hkk0⟩ := (hK0.2 0 _ rfl).1 (kN S a0) (fun j => va_rf (kQ S a0 j))
  obtain ⟨-, k1, hk1, cm1, hkk1⟩ := (hK.2 0 _ rfl).1 (kN S a) (fun j => va_rf (kQ S a j))
  have z0 : (0 : Int32).toNatClampNeg = 0 := rfl
  obtain ⟨vm', X', step⟩ := X.arraycopy hexec hown hlink hnat hstat hini (src := a0) (dst := a) (cs := vp_cell cA0 (kN S a0, .inr (.inr (.inr (.inr (kQ S a0)))))) (cd := vp_cell cA (kN S a, .inr (.inr (.inr (.inr (kQ S a)))))) (srcPos := 0) (destPos := 0) (n := n) (by rw [hT]; exact hc0) (by rw [hT]; exact hc1)
    (fun _ h => by cases h) (fun _ h => by cases h) (fun h => by cases h) (fun h => by cases h) hk0 hk1 hkk0 hkk1 rfl (by decide) (by decide) h3
    (by rw [nn 0 (by decide), nn n h3, z0]; show ¬ _ > ((arrV cA0 (kN S a0) (fun j => va_rf (kQ S a0 j))).slots.size : Int); rw [arrV_size]; omega)
    (by rw [nn 0 (by decide), nn n h3, z0]; show ¬ _ > ((arrV cA (kN S a) (fun j => va_rf (kQ S a j))).slots.size : Int); rw [arrV_size]; omega)
    (fun vm₁ hal i hi => by
      have e : (vp_cell cA0 (kN S a0, .inr (.inr (.inr (.inr (kQ S a0)))))).slots.getD ((0 : Int32).toNatClampNeg + i) .null = va_rf (kQ S a0 i) := by
        show (arrV cA0 (kN S a0) (fun j => va_rf (kQ S a0 j))).slots.getD _ _ = _
        rw [z0, Nat.zero_add, Array.getD_eq_getD_getElem?, arrV_read _ _ (by omega)]
        rfl
      rw [e]
      cases hy : kQ S a0 i with
      | none => exact ⟨rfl, trivial⟩
      | some y =>
        have ey := rulesAt_spec hel hi hy
        obtain ⟨r', hr', cellV, g1, g2, g3, -⟩ := hH.1.obj (ci := 9) ey (by decide) 0 _ rfl
        have hcls := (hH.1.2.1.1 9 (RX6, TX6, 6) rfl).2
        obtain ⟨kA, comp, r1, r2, r3, -⟩ := (hK.2 0 _ rfl).2
        cases hk1.symm.trans r1
        cases hkk1.symm.trans r2
        obtain ⟨kE, hkE, -⟩ := Vm.findClass_spec r3
        obtain ⟨c0, t1, f1, f2, f3⟩ := Cond.castable_spec (va_Nw.use (A := args) rfl hca)
        cases hcls.1.symm.trans f1
        cases r3.symm.trans f2
        obtain ⟨kC, hkC, -⟩ := hcls.2
        obtain ⟨kC', hkC', -⟩ := hal.2.2 _ _ hkC
        obtain ⟨kE', hkE', -⟩ := hal.2.2 _ _ hkE
        refine ⟨rfl, cellV, (show T.heap[y]? = some cellV by rw [hT]; exact g1), (fun q h => by rw [g3] at h; cases h), ⟨kC', by rw [g2]; exact hkC'⟩, ?_, ?_⟩
        · exact ⟨kE', hkE'⟩
        · show vm₁.assignable _ _ = true
          rw [hal.assignable, g2]
          exact f3)
    (g := F0 m pc ls (.int n :: .int 0 :: .ref a :: .int 0 :: .ref a0 :: rest)) rfl (by rw [hml]) (rest := rest) rfl (by rw [hb]; exact hdg) hframes (by show 2 * 0 + _ + _ ≤ _; omega)
  have e1 : copied (vp_cell cA0 (kN S a0, .inr (.inr (.inr (.inr (kQ S a0)))))) (vp_cell cA (kN S a, .inr (.inr (.inr (.inr (kQ S a)))))) 0 0 n = vp_cell cA (kN S a, .inr (.inr (.inr (.inr (va_cpy (kQ S a0) (kQ S a) (0 : Int32).toNatClampNeg (0 : Int32).toNatClampNeg n.toNatClampNeg))))) := by
    rw [vp_cell_q, vp_cell_q, vp_cell_q]
    exact va_copied (fun z => va_rf z) cA0 cA (kQ S a0) (kQ S a) (by rw [z0, Nat.zero_add]; exact h4)
  rw [e1] at X' step
  have hl : a < H.size := (Array.getElem?_eq_some_iff.mp hc1).1
  obtain ⟨cN, hcN⟩ : ∃ z : Cell, z = vp_cell cA (kN S a, .inr (.inr (.inr (.inr (va_cpy (kQ S a0) (kQ S a) (0 : Int32).toNatClampNeg (0 : Int32).toNatClampNeg n.toNatClampNeg))))) := ⟨_, rfl⟩
  rw [← hcN] at X' step
  have hheap : ((T.setVm vm').setCell a cN).heap = H.setIfInBounds a cN := by rw [← hT]; rfl
  have oq : ∀ q : Nat, q ≠ a → (H.setIfInBounds a cN)[q]? = H[q]? := fun q hq => by simp [Array.getElem?_setIfInBounds, Ne.symm hq]
  have hz : (H.setIfInBounds a cN).size = H.size := by simp
  have hA := hH.hA (a := a) (by rw [ek]; decide) (by rw [ek]; decide)
  have hat : hAt D (wC S a a0 n.toNatClampNeg) s (H.setIfInBounds a cN) a := by
    refine hAt_q (S := wC S a a0 n.toNatClampNeg) ek (hK.2 0 _ rfl).1 (hK.2 0 _ rfl).2 ?_
    rw [show (H.setIfInBounds a cN)[a]? = some cN by simp [Array.getElem?_setIfInBounds, hl], hcN, vp_cell_q]
    congr 2
    funext j
    rw [kQ_wC, z0]
    unfold va_cpy
    by_cases hj : j < n.toNatClampNeg
    · simp [hj]
    · simp [hj]
  have hP2 := hH.1.put (S' := wC S a a0 n.toNatClampNeg) (by rw [ek]; decide) (by rw [ek]; decide) hz oq (fun _ => rfl) (fun _ => rfl) rfl (fun _ _ _ => rfl) (fun b hb j => by rw [kQ_wC, if_neg (fun z => hb z.1)]) (fun _ => hat)
  obtain ⟨t, a1, b1⟩ := kk _ _ ⟨hP2, ⟨by rw [hz]; exact hH.2.1.1, fun q g1 g2 => by
      rw [oq q (fun e => g2 (by rw [e]; exact hA))]
      exact hH.2.1.2.1 q g1 g2, fun q hq => by
      rcases List.mem_append.mp hq with h | h
      · exact hH.2.1.2.2 q h
      · obtain ⟨z, -, hz⟩ := List.mem_map.mp h
        rw [← hz]
        exact hA⟩, ⟨fun q hq => hH.2.2.1.1 q hq, hH.2.2.1.2⟩, hH.2.2.2⟩ _ hheap X'
  exact ⟨t, step t a1, b1⟩
end LCOPY
set_option maxRecDepth 100000 in
def f_J7_copyOf_1904c (S : PS) (a0 : Nat) (p1 : Int32) : Option (PS × Nat) := if kK S a0 = 104 then (if ¬ p1 < 0 ∧ p1.toNatClampNeg ≤ 20 then (lt (kZ S) fun a4 => lt (wN S 104 p1.toNatClampNeg) fun S6 => if kK S6 a0 = 104 then (if kK S6 a4 = 104 then (lt (if p1 < nI (kN S6 a0) then p1 else nI (kN S6 a0)) fun x8 => if ¬ x8 < 0 ∧ x8.toNatClampNeg ≤ kN S6 a0 ∧ x8.toNatClampNeg ≤ kN S6 a4 ∧ rulesAt S6 a0 x8.toNatClampNeg = true then some (wC S6 a4 a0 x8.toNatClampNeg, a4) else none) else none) else none) else none) else none
abbrev rmJ7_copyOf_6403c : Room := { frames := 1, cells := 1, slots := 20, locals := 60 }
abbrev rmJ7_copyOf_1904c : Room := { frames := 4, cells := 1, slots := 20, locals := 150 }
set_option maxHeartbeats 4000000 in
set_option maxRecDepth 100000 in
theorem c_J7_copyOf_6403c (l : Launch) (D : va_G × Nat) (S : PS) (a0 : Nat) (p1 : Int32) (mi : Nat) (hMi : True) (r : PS × Nat) (hf : f_J7_copyOf_1904c S a0 p1 = some r) : Met l yJ7_copyOf_6403c wsJ7_copyOf_6403c rmJ7_copyOf_6403c (va_Pc [.ref a0, .int p1, .ref mi] (fun U => (HP D S U U.heap ∧ NE U) ∧ va_Mi "[Ljava/lang/Object;" mi U)) (va_Qr (fun (_ : Unit) => True) (fun _ a t => a = r.2 ∧ HP D r.1 t t.heap ∧ KD S r.1) (pA S)) 1 20 (pA S) := by
  unfold f_J7_copyOf_1904c at hf
  refine Met.ofW (cc := cJ7_copyOf_6403c) (maxL := 4) (ret := (some (.array (.object "java/lang/Object")))) (by decide) rfl ?_
  intro p e s m args below meth c s₁ B hml hv
  obtain ⟨rfl, ⟨hH0, hNE⟩, hM⟩ := hv
  have hx := B.exec
  have hb := B.bytes
  have hr := B.returns
  have hts := atoms_spec (ws := wsJ7_copyOf_6403c) B.pre
  have hown : s.vm.findClass RJ7 = some m.cls := findClass_of_methodNamed B.named
  have hlocks := B.notSynchronized
  have hH : HI D S S s s.heap [] := HI.start hH0
  have hl := lv_entry ([.ref a0, .int p1, .ref mi]) (n := 4) (Nat.le_of_ble_eq_true rfl)
  rw [lg_entry_eq]
  generalize (lg_sl ([.ref a0, .int p1, .ref mi]) ++ List.replicate (4 - (lg_sl ([.ref a0, .int p1, .ref mi])).length) Slot.unset).toArray = ls at hl ⊢
  have hl : lv_has ls 4 [(0, .ref a0), (1, .int p1), (2, .ref mi)] := hl
  refine lv_aload_n hx hb dJ7_copyOf_6403c_0 rfl (lv_at hl 2 rfl) ?_
  refine va_ldcM hx hb hown (hts (.classLink RJ7 110 "[Ljava/lang/Object;") (List.mem_cons_of_mem _ gw_15_0)) hM dJ7_copyOf_6403c_1 ?_
  refine lv_acmp_ne (rx := some mi) (ry := some mi) (tgt := 13) hx hb dJ7_copyOf_6403c_3 (by decide) (fun c1 => absurd rfl c1) (fun _ => ?_)
  refine lv_iload_n hx hb dJ7_copyOf_6403c_6 rfl (lv_at hl 1 rfl) ?_
  obtain ⟨ek0, hf⟩ := oc hf
  obtain ⟨en, hf⟩ := oc hf
  refine r_newq hx hb hown (hts (.classLink RJ7 2 "java/lang/Object") (List.mem_cons_of_mem _ gw_15_1)) hNE.2.2.2.2.2 hH (cap := 20) en (by decide) (Nat.le_of_ble_eq_true rfl) (Nat.le_of_ble_eq_true rfl) dJ7_copyOf_6403c_7 (fun H hH => ?_)
  obtain ⟨a4, e5, hf⟩ := ol hf
  rw [e5]
  obtain ⟨S6, e7, hf⟩ := ol hf
  rw [e7] at hH
  refine W.widen (k := 1) (n := 20) (by omega) (by omega) ?_
  refine lv_goto (tgt := 24) hx hb dJ7_copyOf_6403c_10 (by decide) ?_
  refine lv_astore_n (lv' := [(3, .ref a4), (0, .ref a0), (1, .int p1), (2, .ref mi)]) hx hb dJ7_copyOf_6403c_24 rfl hl (by decide) rfl (fun ls hl => ?_)
  refine lv_aload_n hx hb dJ7_copyOf_6403c_25 rfl (lv_at hl 1 rfl) ?_
  refine lv_iconst (v := 0) hx hb dJ7_copyOf_6403c_26 (by decide) ?_
  refine lv_aload_n hx hb dJ7_copyOf_6403c_27 rfl (lv_at hl 0 rfl) ?_
  refine lv_iconst (v := 0) hx hb dJ7_copyOf_6403c_28 (by decide) ?_
  refine lv_aload_n hx hb dJ7_copyOf_6403c_29 rfl (lv_at hl 1 rfl) ?_
  obtain ⟨ek6, hf⟩ := oc hf
  obtain ⟨ek7, hf⟩ := oc hf
  refine r_alen hx hb 104 hH ek6 (by decide) dJ7_copyOf_6403c_30 ?_
  refine lv_iload_n hx hb dJ7_copyOf_6403c_31 rfl (lv_at hl 2 rfl) ?_
  refine va_mmin hx hb (hml.trans hl.1.symm) hown (hts (.methodLink RJ7 304 Lib.Math.min.name) (List.mem_cons_of_mem _ gw_15_2)) (hts (.static Lib.Math.min.name) (List.mem_cons_of_mem _ gw_15_3)) (hts (.initialized "java/lang/Math") (List.mem_cons_of_mem _ gw_14_18)) (hts (.code Lib.Math.min.name Lib.Math.min.code 2 (some .int)) (List.mem_cons_of_mem _ gw_15_4)) (Nat.le_of_ble_eq_true rfl) (Nat.le_of_ble_eq_true rfl) (Nat.le_of_ble_eq_true rfl) (Nat.le_of_ble_eq_true rfl) dJ7_copyOf_6403c_32 ?_
  obtain ⟨x8, e9, hf⟩ := ol hf
  refine lv_topE e9 ?_
  obtain ⟨⟨g1, g2, g3, g4⟩, hf⟩ := oc hf
  refine r_copyq hx hb (hml.trans hl.1.symm) hown (hts (.methodLink RJ7 150 arraycopyName) (List.mem_cons_of_mem _ gw_15_5)) (hts (.native arraycopyName) (List.mem_cons_of_mem _ gw_15_6)) (hts (.static arraycopyName) (List.mem_cons_of_mem _ gw_15_7)) (hts (.initialized "java/lang/System") (List.mem_cons_of_mem _ gw_15_8)) hNE hH ek6 ek7 g1 g2 g3 g4 (Nat.le_of_ble_eq_true rfl) (Nat.le_of_ble_eq_true rfl) dJ7_copyOf_6403c_35 (fun H locs hH => ?_)
  refine lv_aload_n hx hb dJ7_copyOf_6403c_38 rfl (lv_at hl 0 rfl) ?_
  have hr9 := Option.some.inj hf
  subst hr9
  exact e_ra hx hb hr hlocks hH dJ7_copyOf_6403c_39
set_option maxHeartbeats 4000000 in
set_option maxRecDepth 100000 in
theorem c_J7_copyOf_1904c (l : Launch) (D : va_G × Nat) (S : PS) (a0 : Nat) (p1 : Int32) (r : PS × Nat) (hf : f_J7_copyOf_1904c S a0 p1 = some r) : MR l D yJ7_copyOf_1904c wsJ7_copyOf_1904c rmJ7_copyOf_1904c S [.ref a0, .int p1] r.1 r.2 1 20 := by
  refine Met.ofW (cc := cJ7_copyOf_1904c) (maxL := 2) (ret := (some (.array (.object "java/lang/Object")))) (by decide) rfl ?_
  intro p e s m args below meth c s₁ B hml hv
  obtain ⟨rfl, hH0, hNE⟩ := hv
  have hx := B.exec
  have hb := B.bytes
  have hr := B.returns
  have hts := atoms_spec (ws := wsJ7_copyOf_1904c) B.pre
  have hown : s.vm.findClass RJ7 = some m.cls := findClass_of_methodNamed B.named
  have hlocks := B.notSynchronized
  have hH : HI D S S s s.heap [] := HI.start hH0
  have hl := lv_entry ([.ref a0, .int p1]) (n := 2) (Nat.le_of_ble_eq_true rfl)
  rw [lg_entry_eq]
  generalize (lg_sl ([.ref a0, .int p1]) ++ List.replicate (2 - (lg_sl ([.ref a0, .int p1])).length) Slot.unset).toArray = ls at hl ⊢
  have hl : lv_has ls 2 [(0, .ref a0), (1, .int p1)] := hl
  obtain ⟨mi, hmi⟩ := hNE.2.2.2.1
  have hf0 := hf
  unfold f_J7_copyOf_1904c at hf0
  obtain ⟨ek0, hf0⟩ := oc hf0
  have hrc : ∃ cell : Cell, s.heap[a0]? = some cell ∧ cell.vm.isStatics = false ∧ s.vm.findClass "[Ljava/lang/Object;" = some cell.cls := by
    obtain ⟨cA, hK, hP⟩ := hH0.arr ek0 (by decide)
    rw [acont_q ek0 (by decide)] at hP
    exact ⟨_, hP 0 _ rfl, rfl, va_nmO (hK.2 0 _ rfl).2 rfl⟩
  refine lv_aload_n hx hb dJ7_copyOf_1904c_0 rfl (lv_at hl 0 rfl) ?_
  refine lv_iload_n hx hb dJ7_copyOf_1904c_1 rfl (lv_at hl 1 rfl) ?_
  refine lv_aload_n hx hb dJ7_copyOf_1904c_2 rfl (lv_at hl 0 rfl) ?_
  refine va_getC hx hb (hml.trans hl.1.symm) hown (hts (.methodLink RJ7 86 ⟨"java/lang/Object", "getClass", "()Ljava/lang/Class;"⟩) (List.mem_cons_of_mem _ gw_15_10)) (va_Dc.use hNE.2.2.2.2.1) (hts (.selects "[Ljava/lang/Object;" ⟨"java/lang/Object", "getClass", "()Ljava/lang/Class;"⟩ ⟨"java/lang/Object", "getClass", "()Ljava/lang/Class;"⟩) (List.mem_cons_of_mem _ gw_15_11)) (hts (.instanceMethod ⟨"java/lang/Object", "getClass", "()Ljava/lang/Class;"⟩) (List.mem_cons_of_mem _ gw_15_12)) (hts (.native ⟨"java/lang/Object", "getClass", "()Ljava/lang/Class;"⟩) (List.mem_cons_of_mem _ gw_15_13)) hmi hrc (Nat.le_of_ble_eq_true rfl) (Nat.le_of_ble_eq_true rfl) dJ7_copyOf_1904c_3 ?_
  refine va_callr (va_runS (As := [.ref a0, .int p1, .ref mi]) (rest := []) ⟨hx, hb, hml, hown, hts⟩ (c_J7_copyOf_6403c l D S a0 p1 mi trivial r hf) (va_cwS 3 hts (gwS gw_15_14 gw_15_15 gw_15_16 gw_14_23) rfl rfl rfl (by decide +kernel) ⟨Nat.le_of_ble_eq_true rfl, Nat.le_of_ble_eq_true rfl⟩) ⟨fun a U g mk q => ⟨q.1, ⟨HP.moved (u := U) (U := U.calling g mk a) (Vm.Alike.refl U.vm) q.2.1.1, NE.same (u := U) rfl q.2.1.2⟩, va_Mi.moved (u := U) (U := U.calling g mk a) (Vm.Alike.refl U.vm) q.2.2⟩, fun U hU hW => ⟨rfl, (hH.pre hNE [] U hU hW).2, hmi.moved hW.alike⟩⟩ rfl rfl hl.1 rfl (lv_room (Nat.le_of_ble_eq_true rfl)) dJ7_copyOf_1904c_6 ⟨Nat.le_of_ble_eq_true rfl, Nat.le_of_ble_eq_true rfl⟩) hH.2.1 (fun q _ h => pA_mono hH.2.2.1 q h) (fun q h => pA_mono hH.2.2.1 q h) (fun u ra t H1 locs1 ht hvm hw hB hz hk hS => ?_)
  obtain ⟨rfl, hB⟩ := hB
  have hH := hH.back ht hvm hB.1 hB.2 hS
  refine W.widen (k := 1) (n := 20) (by omega) (by omega) ?_
  exact e_ra hx hb hr hlocks hH dJ7_copyOf_1904c_9
