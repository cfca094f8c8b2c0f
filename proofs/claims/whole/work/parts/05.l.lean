/-! rows for ArrayList: the empty array, arrays of references made, stored into, copied -/
section LROWS
variable {p : Program} {l : Launch} {e : Env} {R : Room} {s : State} {m : MethodId} {args : Array Value} {below : List Frame} {meth : Method} {c : Code} {H : Heap} {locs : List Loc} {cells slots : Nat} {Q : State → Prop}
variable {cc : ByteArray} {pc : Nat} {ls : Array Slot} {rest : List Value} {D : va_G × Nat} {S0 S : PS} {a : Nat}
theorem hAt_q {D : va_G × Nat} {S : PS} {U : State} {H : Heap} {a : Nat} {cA : ClassId} (ek : kK S a = 104) (g1 : ArrOfT U cA (.object "java/lang/Object")) (g2 : va_RA U cA (.object "java/lang/Object")) (g3 : H[a]? = some (arrV cA (kN S a) (fun j => va_rf (kQ S a j)))) : hAt D S U H a := by
  unfold hAt
  rw [if_neg (by rw [ek]; omega), if_neg (by rw [ek]; omega), ek]
  refine ⟨cA, g1, g2, ?_⟩
  show H[a]? = some (vp_cell cA (acont S a))
  rw [acont_q ek (by decide), vp_cell_q]
  exact g3
theorem r_gets {own : String} {index : Nat} (hexec : p.tables.exec = Jvm.exec) (hb : c.code = cc) (hH : HI D S0 S s H locs) {b : Nat} (eq : kQ S 0 0 = some b) (hown : s.vm.findClass own = some m.cls) (hlink : (Cond.fieldLink own index "java/util/ArrayList" "DEFAULTCAPACITY_EMPTY_ELEMENTDATA" "[Ljava/lang/Object;").before args s = true) (hdg : decode cc pc = .ok (.getstatic index, 3))
    (kk : kK S b = 105 ∧ kN S b = 0 → W p l e R s m args below meth c H locs cells slots Q (F0 m (pc + 3) ls (.ref b :: rest))) : W p l e R s m args below meth c H locs cells slots Q (F0 m pc ls rest) := by
  obtain ⟨z0, e0, z1, z2, z3, cf, kf, fi, f, a1, cell, h1, h2, h3, h4, h5, h6, h7, h8⟩ := hH.1.2.2.2.2.2
  rw [z1] at eq
  cases eq
  exact W.gets hexec hb hown hlink h1 h2 h3 h4 h5 (fun e => by rw [e] at h6; cases h6) h7 rfl hdg (kk ⟨z2, z3⟩)
theorem r_newq {own : String} {index : Nat} (hexec : p.tables.exec = Jvm.exec) (hb : c.code = cc) (hown : s.vm.findClass own = some m.cls) (hclink : (Cond.classLink own index "java/lang/Object").before args s = true) (hover : va_AO "java/lang/Object" s)
    (hH : HI D S0 S s H locs) {n : Int32} {cap : Nat} (hn : ¬ n < 0 ∧ n.toNatClampNeg ≤ cap) (hcap : cap ≤ 10000) (hcells : cells + 1 ≤ R.cells) (hslots : slots + cap ≤ R.slots) (hdg : decode cc pc = .ok (.anewarray index, 3))
    (kk : ∀ (H1 : Heap), HI D S0 (wN S 104 n.toNatClampNeg) s H1 locs → W p l e R s m args below meth c H1 locs (cells + 1) (slots + cap) Q (F0 m (pc + 3) ls (.ref (kZ S) :: rest))) : W p l e R s m args below meth c H locs cells slots Q (F0 m pc ls (.int n :: rest)) := by
  refine W.anew hexec hb hown hclink (va_AO.use hover) rfl hdg rfl hn.1 (by have := hn.2; omega) hcells (Nat.le_trans (Nat.add_le_add_left hn.2 _) hslots) fun cA kA comp f1 f2 f3 f4 => ?_
  generalize hH1 : H.push ({ cls := cA, slots := Array.replicate n.toNatClampNeg .null, vm := .none } : Cell) = H1
  have hz := hH.1.2.2.1
  have z1 : H1.size = kZ S + 1 := by rw [← hH1, Array.size_push, hz]
  have e1 : H1[kZ S]? = some (arrV cA n.toNatClampNeg (fun _ => .null)) := by rw [← hz, ← hH1, Array.getElem?_push_size, ← arrV_new]
  have o1 : ∀ q : Nat, q < kZ S → H1[q]? = H[q]? := fun q hq => by rw [← hH1, Array.getElem?_push, if_neg (by rw [hz]; exact Nat.ne_of_lt hq)]
  have hAr : ArrOfT s cA (.object "java/lang/Object") := fun N z => ⟨(fun k h => by cases h), kA, f2, comp, f3⟩
  refine W.widen (k := cells + 1) (n := slots + cap) (Nat.le_refl _) (Nat.add_le_add_left hn.2 _) ?_
  rw [hz]
  refine kk H1 (hH.new z1 o1 (hAt_q (by rw [kK_wN, if_pos rfl]) hAr ⟨kA, comp, f2, f3, f4, f1⟩ ?_))
  rw [e1]
  congr 2
  · rw [kN_wN, if_pos rfl]
  · funext j
    rw [kQ_wN, if_pos rfl]
    rfl
/-- an object of class ci is stored; it may be cast to Object -/
theorem r_astq (hexec : p.tables.exec = Jvm.exec) (hb : c.code = cc) (hH : HI D S0 S s H locs) (ek : kK S a = 104) (ci : Nat) {r : vw_C} {v : Nat} (ev : kK S v = ci + 1) (hci : ci + 1 ≤ 100) (hc : vwCl[ci]? = some r) (hca : va_Nw (.castable r.1 "java/lang/Object") s) {i : Int32} (hin : vp_in i (kN S a)) (hdg : decode cc pc = .ok (.aastore, 1))
    (kk : ∀ (H1 : Heap) (locs1 : List Loc), HI D S0 (wQ S a i.toNatClampNeg (some v)) s H1 locs1 → W p l e R s m args below meth c H1 locs1 cells slots Q (F0 m (pc + 1) ls rest)) : W p l e R s m args below meth c H locs cells slots Q (F0 m pc ls (.ref v :: .int i :: .ref a :: rest)) := by
  obtain ⟨cA, hK, hP⟩ := hH.1.arr ek (by decide)
  rw [acont_q ek (by decide)] at hP
  have hlt : i.toNatClampNeg < kN S a := Nat.not_le.mp fun q => hin (Or.inr q)
  have h0 : ¬ i < 0 := fun q => hin (Or.inl q)
  obtain ⟨r', hr', cellV, g1, g2, g3, -⟩ := hH.1.obj ev hci 0 _ rfl
  have hcls := (hH.1.2.1.1 ci r hc).2
  have ht := hK.2 0 _ rfl
  obtain ⟨kA, comp, k1, k2, k3, -⟩ := ht.2
  obtain ⟨kE, hkE, -⟩ := Vm.findClass_spec k3
  obtain ⟨c0, t1, f1, f2, f3⟩ := Cond.castable_spec (va_Nw.use (A := args) rfl hca)
  cases hcls.1.symm.trans f1
  cases k3.symm.trans f2
  obtain ⟨kC, hkC, -⟩ := hcls.2
  refine W.aast hexec hb (hP 0 _ rfl) (fun q h => by cases h) (fun h => by cases h) k1 k2 rfl hkE ⟨h0, by show _ < (arrV _ _ _).slots.size; rw [arrV_size]; exact hlt⟩ g1 (fun q h => by rw [g3] at h; cases h) (by rw [g2]; exact hkC) (by rw [g2]; exact f3) rfl rfl hdg fun H1 e z oq => ?_
  refine kk H1 _ (hH.put (by rw [ek]; decide) (by rw [ek]; decide) z oq (fun _ => rfl) (fun _ => rfl) rfl (fun _ _ _ => rfl) (fun b hb j => by rw [kQ_wQ, if_neg (fun z => hb z.1)]) (hAt_q (S := wQ S a i.toNatClampNeg (some v)) ek ht.1 ht.2 ?_))
  rw [e, vp_cell_q, arrV_store]
  congr 2
  funext q
  by_cases hq : q = i.toNatClampNeg
  · subst hq
    simp [updV, kQ_wQ, va_rf]
  · simp [updV, kQ_wQ, hq]
theorem r_astqA (hexec : p.tables.exec = Jvm.exec) (hb : c.code = cc) (hNE : NE s) (hH : HI D S0 S s H locs) (ek : kK S a = 104) {v : Nat} (ev : kK S v = 5 ∨ kK S v = 7 ∨ kK S v = 8 ∨ kK S v = 9 ∨ kK S v = 10) {i : Int32} (hin : vp_in i (kN S a)) (hdg : decode cc pc = .ok (.aastore, 1))
    (kk : ∀ (H1 : Heap) (locs1 : List Loc), HI D S0 (wQ S a i.toNatClampNeg (some v)) s H1 locs1 → W p l e R s m args below meth c H1 locs1 cells slots Q (F0 m (pc + 1) ls rest)) : W p l e R s m args below meth c H locs cells slots Q (F0 m pc ls (.ref v :: .int i :: .ref a :: rest)) := by
  rcases ev with ev | ev | ev | ev | ev
  · exact r_astq (r := (RX1, TX1, 6)) hexec hb hH ek 4 ev (by decide) rfl (hNE.2.2.1 RX1 (List.mem_of_getElem? (i := 0) rfl)) hin hdg kk
  · exact r_astq (r := (RX3, TX3, 3)) hexec hb hH ek 6 ev (by decide) rfl (hNE.2.2.1 RX3 (List.mem_of_getElem? (i := 1) rfl)) hin hdg kk
  · exact r_astq (r := (RX4, TX4, 2)) hexec hb hH ek 7 ev (by decide) rfl (hNE.2.2.1 RX4 (List.mem_of_getElem? (i := 2) rfl)) hin hdg kk
  · exact r_astq (r := (RX5, TX5, 2)) hexec hb hH ek 8 ev (by decide) rfl (hNE.2.2.1 RX5 (List.mem_of_getElem? (i := 3) rfl)) hin hdg kk
  · exact r_astq (r := (RX6, TX6, 6)) hexec hb hH ek 9 ev (by decide) rfl (hNE.2.2.1 RX6 (List.mem_of_getElem? (i := 4) rfl)) hin hdg kk
theorem e_ra {r : Nat} {t0 : FieldType} (hexec : p.tables.exec = Jvm.exec) (hb : c.code = cc) (hr : meth.sig.returnType = some (.array t0)) (hlocks : meth.locks = false) (hH : HI D S0 S s H locs) (hdg : decode cc pc = .ok (.areturn, 1)) : W p l e R s m args below meth c H locs cells slots (MQ below (va_Qr (fun (_ : Unit) => True) (fun _ a t => a = r ∧ HP D S t t.heap ∧ KD S0 S) (pA S0)) args s cells slots (pA S0)) (F0 m pc ls [.ref r]) :=
  W.aret hexec hb hr (Or.inr ⟨_, rfl⟩) (Or.inr ⟨_, rfl⟩) (fun t ht hW => ⟨⟨(), r, rfl, trivial, rfl, by rw [ht]; exact hH.1.moved hW.alike, hH.2.2.1⟩, hH.2.1.F ht⟩) hH.2.1.2.2 hdg
end LROWS
section LCALL
variable {p : Program} {l : Launch} {e : Env} {R : Room} {s : State} {m : MethodId} {args : Array Value} {below : List Frame} {meth : Method} {c : Code} {H : Heap} {locs : List Loc} {cells slots : Nat} {Q : State → Prop}
variable {cc bytes : ByteArray} {pc nL maxL mc ms n index : Nat} {ls : Array Slot} {rest st0 As : List Value} {D : va_G × Nat} {S0 S S' : PS} {b : Nat} {Ts ws : List Cond} {own C : String} {y : MethodName} {rm : Room} {ret : Option FieldType}
theorem r_callSr {r : Nat} (S9 : CallFix p m c cc nL s args Ts own) (hM : MR l D y ws rm S As S' r mc ms) (cw : CallB R s args own index y bytes maxL ret ws rm mc ms n ∧ (Cond.static y).before args s = true) (hH : HI D S0 S s H locs) (hNE : NE s) (hn : As.length = n) (hsize : ls.size = nL) (hstack : st0 = As.reverse ++ rest) (hW : (rest.map fun v => v.category).sum ≤ 8) (hdg : decode cc pc = .ok (.invokestatic index, 3)) (hf : cells + mc ≤ R.cells ∧ slots + ms ≤ R.slots)
    (kk : ∀ (H1 : Heap) (locs1 : List Loc), HI D S0 S' s H1 locs1 → W p l e R s m args below meth c H1 locs1 (cells + mc) (slots + ms) Q (F0 m (pc + 3) ls (.ref r :: rest))) : W p l e R s m args below meth c H locs cells slots Q (F0 m pc ls st0) := by
  refine va_callr (va_runS S9 hM cw ⟨PcH.blind D S _, hH.pre hNE _⟩ rfl hn hsize hstack (lv_room hW) hdg hf) hH.2.1 (fun q _ h => pA_mono hH.2.2.1 q h) (fun q h => pA_mono hH.2.2.1 q h) (fun u ra t H1 locs1 ht hvm hw hB hz hk hS => ?_)
  obtain ⟨rfl, hB⟩ := hB
  exact kk H1 locs1 (hH.back ht hvm hB.1 hB.2 hS)
end LCALL
