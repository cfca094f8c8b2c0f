section HROWS2
variable {p : Program} {l : Launch} {e : Env} {R : Room} {s : State} {m : MethodId} {args : Array Value} {below : List Frame} {meth : Method} {c : Code} {H : Heap} {locs : List Loc} {cells slots : Nat} {Q : State → Prop}
variable {cc : ByteArray} {pc : Nat} {ls : Array Slot} {rest : List Value} {D : va_G × Nat} {S0 S : PS} {a : Nat}
theorem hAt_i {D : va_G × Nat} {S : PS} {U : State} {H : Heap} {a kd : Nat} {cA : ClassId} (ek : kK S a = kd) (h1 : 100 < kd) (h2 : kd ≤ 103) (g1 : ArrOfT U cA (aty kd)) (g2 : va_RA U cA (aty kd)) (g3 : H[a]? = some (arrV cA (kN S a) (fun j => .int (kI S a j)))) : hAt D S U H a := by
  unfold hAt
  rw [if_neg (by rw [ek]; omega), if_neg (by rw [ek]; omega), ek]
  refine ⟨cA, g1, g2, ?_⟩
  show H[a]? = some (vp_cell cA (acont S a))
  rw [acont_i ek h2, vp_cell_i]
  exact g3
theorem r_iast (hexec : p.tables.exec = Jvm.exec) (hb : c.code = cc) (hH : HI D S0 S s H locs) (ek : kK S a = 101) {i x : Int32} (hin : vp_in i (kN S a)) (hdg : decode cc pc = .ok (.iastore, 1))
    (kk : ∀ (H1 : Heap) (locs1 : List Loc), HI D S0 (wI S a i.toNatClampNeg x) s H1 locs1 → W p l e R s m args below meth c H1 locs1 cells slots Q (F0 m (pc + 1) ls rest)) : W p l e R s m args below meth c H locs cells slots Q (F0 m pc ls (.int x :: .int i :: .ref a :: rest)) := by
  obtain ⟨cA, hK, hP⟩ := hH.1.arr ek (by decide)
  rw [acont_i ek (by decide)] at hP
  refine W.iast hexec hb (hP 0 _ rfl) ((hK.2 0 _ rfl).1 (kN S a) (fun j => .int (kI S a j))) (fun q => by cases q) (by show ¬ (i < 0 ∨ (arrV _ _ _).slots.size ≤ _); rw [arrV_size]; exact hin) rfl rfl hdg fun H1 e z oq => ?_
  refine kk H1 _ (hH.put (by rw [ek]; decide) (by rw [ek]; decide) z oq (fun _ => rfl) (fun _ => rfl) rfl (fun b hb j => by rw [kI_wI, if_neg (fun z => hb z.1)]) (fun _ _ _ => rfl) (hAt_i (kd := 101) ek (by decide) (by decide) (hK.2 0 _ rfl).1 (hK.2 0 _ rfl).2 ?_))
  rw [e, vp_cell_i, arrV_store]
  congr 2
  funext q
  by_cases hq : q = i.toNatClampNeg
  · subst hq
    simp [updV, kI_wI]
  · simp [updV, kI_wI, hq]
theorem r_cast (hexec : p.tables.exec = Jvm.exec) (hb : c.code = cc) (hH : HI D S0 S s H locs) (ek : kK S a = 102) {i x : Int32} (hin : vp_in i (kN S a)) (hdg : decode cc pc = .ok (.castore, 1))
    (kk : ∀ (H1 : Heap) (locs1 : List Loc), HI D S0 (wI S a i.toNatClampNeg (vp_nar .char x)) s H1 locs1 → W p l e R s m args below meth c H1 locs1 cells slots Q (F0 m (pc + 1) ls rest)) : W p l e R s m args below meth c H locs cells slots Q (F0 m pc ls (.int x :: .int i :: .ref a :: rest)) := by
  obtain ⟨cA, hK, hP⟩ := hH.1.arr ek (by decide)
  rw [acont_i ek (by decide)] at hP
  refine W.cast hexec hb (hP 0 _ rfl) ((hK.2 0 _ rfl).1 (kN S a) (fun j => .int (kI S a j))) (fun q => by cases q) (by show ¬ (i < 0 ∨ (arrV _ _ _).slots.size ≤ _); rw [arrV_size]; exact hin) rfl rfl hdg fun H1 e z oq => ?_
  refine kk H1 _ (hH.put (by rw [ek]; decide) (by rw [ek]; decide) z oq (fun _ => rfl) (fun _ => rfl) rfl (fun b hb j => by rw [kI_wI, if_neg (fun z => hb z.1)]) (fun _ _ _ => rfl) (hAt_i (kd := 102) ek (by decide) (by decide) (hK.2 0 _ rfl).1 (hK.2 0 _ rfl).2 ?_))
  rw [e, vp_cell_i, arrV_store]
  congr 2
  funext q
  by_cases hq : q = i.toNatClampNeg
  · subst hq
    simp [updV, kI_wI, vp_nar]
    try rfl
  · simp [updV, kI_wI, hq]
theorem r_zast (hexec : p.tables.exec = Jvm.exec) (hb : c.code = cc) (hH : HI D S0 S s H locs) (ek : kK S a = 103) {i x : Int32} (hin : vp_in i (kN S a)) (hdg : decode cc pc = .ok (.bastore, 1))
    (kk : ∀ (H1 : Heap) (locs1 : List Loc), HI D S0 (wI S a i.toNatClampNeg (vp_nar .boolean x)) s H1 locs1 → W p l e R s m args below meth c H1 locs1 cells slots Q (F0 m (pc + 1) ls rest)) : W p l e R s m args below meth c H locs cells slots Q (F0 m pc ls (.int x :: .int i :: .ref a :: rest)) := by
  obtain ⟨cA, hK, hP⟩ := hH.1.arr ek (by decide)
  rw [acont_i ek (by decide)] at hP
  refine W.zast hexec hb (hP 0 _ rfl) ((hK.2 0 _ rfl).1 (kN S a) (fun j => .int (kI S a j))) (fun q => by cases q) (by show ¬ (i < 0 ∨ (arrV _ _ _).slots.size ≤ _); rw [arrV_size]; exact hin) rfl rfl hdg fun H1 e z oq => ?_
  refine kk H1 _ (hH.put (by rw [ek]; decide) (by rw [ek]; decide) z oq (fun _ => rfl) (fun _ => rfl) rfl (fun b hb j => by rw [kI_wI, if_neg (fun z => hb z.1)]) (fun _ _ _ => rfl) (hAt_i (kd := 103) ek (by decide) (by decide) (hK.2 0 _ rfl).1 (hK.2 0 _ rfl).2 ?_))
  rw [e, vp_cell_i, arrV_store]
  congr 2
  funext q
  by_cases hq : q = i.toNatClampNeg
  · subst hq
    simp [updV, kI_wI, vp_nar]
    try rfl
  · simp [updV, kI_wI, hq]
theorem HI.new {D : va_G × Nat} {S0 S : PS} {s : State} {H H1 : Heap} {locs : List Loc} {kd n : Nat} (h : HI D S0 S s H locs) (z1 : H1.size = kZ S + 1) (o1 : ∀ q, q < kZ S → H1[q]? = H[q]?) (hc : hAt D (wN S kd n) s H1 (kZ S)) : HI D S0 (wN S kd n) s H1 locs := by
  have hz := h.1.2.2.1
  have hfr : kK S (kZ S) = 0 := Classical.byContradiction fun q => Nat.lt_irrefl _ (h.1.fresh q)
  obtain ⟨z0, e0, y1, y2, y3, y4⟩ := h.1.2.2.2.2.2
  have he0 : e0 ≠ kZ S := fun e => by rw [e, hfr] at y2; cases y2
  have hzp : 0 ≠ kZ S := fun e => by
    have := h.1.fresh (a := e0) (by rw [y2]; decide)
    omega
  refine ⟨⟨fun b hb => ?_, h.1.2.1, z1, fun b h1 h2 => ?_, Nat.le_trans h.1.2.2.2.2.1 (Nat.le_succ _), by rw [kK_wN, if_neg hzp]; exact z0, e0, by rw [kQ_wN, if_neg hzp]; exact y1, by rw [kK_wN, if_neg he0]; exact y2, by rw [kN_wN, if_neg he0]; exact y3, y4.kept (fun q h8 _ => o1 q (by rw [← hz]; exact h8))⟩, ⟨?_, fun q h1 h2 => ?_, h.2.1.2.2⟩, ⟨fun q hq => ?_, Nat.le_trans h.2.2.1.2 (Nat.le_succ _)⟩, h.2.2.2⟩
  · by_cases e : b = kZ S
    · rw [e]; exact hc
    · rw [kK_wN, if_neg e] at hb
      exact (h.1.1 b hb).cong (by rw [kK_wN, if_neg e]) (by rw [kN_wN, if_neg e]) (fun j => by rw [kI_wN, if_neg e]) (fun j => by rw [kQ_wN, if_neg e]) (o1 b (h.1.fresh hb))
  · by_cases e : b = kZ S
    · rw [e]; exact h.1.2.2.2.2.1
    · rw [kK_wN, if_neg e] at h1 h2
      exact h.1.2.2.2.1 b h1 h2
  · rw [z1, h.2.2.2]
    exact Nat.le_trans h.2.2.1.2 (Nat.le_succ _)
  · rw [o1 q (by rw [h.2.2.2] at h1; exact Nat.lt_of_lt_of_le h1 h.2.2.1.2)]
    exact h.2.1.2.1 q h1 h2
  · rw [kK_wN, if_neg (Nat.ne_of_lt (Nat.lt_of_lt_of_le hq h.2.2.1.2))]
    exact h.2.2.1.1 q hq
theorem fl_new (S : PS) (kd n : Nat) : ∀ (bs : List Bool) (k : Nat), fl (wN S kd n) (kZ S) k bs = bs.map (fun b => if b = true then Value.int 0 else Value.null)
  | [], _ => rfl
  | b :: bs, k => by simp only [fl, fl_new S kd n bs (k + 1), List.map_cons, kI_wN, kQ_wN, if_true, va_rf]
theorem r_new (hexec : p.tables.exec = Jvm.exec) (hb : c.code = cc) {own C : String} {T : u_T} {N index : Nat} {Ts : List Cond} (ci : Nat) (hts : ∀ w ∈ Ts, w.before args s = true) (hin : ∀ w ∈ u_ws C T N, w ∈ Ts) (ty : Nat → FieldType) (hty : ∀ k, k < N → parseFieldDescriptor (T k).2.2.1 = some (ty k)) (hown : s.vm.findClass own = some m.cls) (hcl : (Cond.classLink own index C).before args s = true) (hinst : (Cond.instantiable C N).before args s = true) (hini : (Cond.initialized C).before args s = true)
    (hH : HI D S0 S s H locs) (hci : ci + 1 ≤ 100) (hc : vwCl[ci]? = some (C, T, N)) (hfs : ∀ j, j < N → defaultValue (ty j) = vp_V ((lay ci).map (fun b => if b = true then Value.int 0 else Value.null)) j) (hcells : cells + 1 ≤ R.cells) (hslots : slots + N ≤ R.slots) (hdg : decode cc pc = .ok (.new index, 3))
    (kk : ∀ (H1 : Heap), HI D S0 (wN S (ci + 1) 0) s H1 locs → W p l e R s m args below meth c H1 locs (cells + 1) (slots + N) Q (F0 m (pc + 3) ls (.ref (kZ S) :: rest))) : W p l e R s m args below meth c H locs cells slots Q (F0 m pc ls rest) := by
  have hKn := hH.1.2.1.1 ci _ hc
  refine W.newcK hexec hb hown hcl hinst hini rfl hdg hcells hslots hKn.2.1 hH.1.2.2.1 fun H1 kC hkC e1 z1 o1 => ?_
  refine kk H1 (hH.new z1 o1 ?_)
  unfold hAt
  rw [kK_wN, if_pos rfl, if_pos hci, Nat.add_sub_cancel]
  refine ⟨_, hc, ?_⟩
  rw [fl_new]
  exact (u_born ty hts hin hKn hkC e1 hty).to hfs
theorem r_newa (hexec : p.tables.exec = Jvm.exec) (hb : c.code = cc) {atype : ArrayType} (kd : Nat) (harr : (Cond.arrayClass (newarray.typeOf atype)).before args s = true) (hty : newarray.typeOf atype = aty kd) (h1 : 100 < kd) (h2 : kd ≤ 103) (hd : defaultValue (aty kd) = .int 0) (h8 : componentBytes (aty kd) ≤ 8) (hRA : ∀ cA : ClassId, s.vm.findClass ("[" ++ (aty kd).toString) = some cA → va_RA s cA (aty kd))
    (hH : HI D S0 S s H locs) {n : Int32} {cap : Nat} (hn : ¬ n < 0 ∧ n.toNatClampNeg ≤ cap) (hcap : cap ≤ 10000) (hcells : cells + 1 ≤ R.cells) (hslots : slots + cap ≤ R.slots) (hdg : decode cc pc = .ok (.newarray atype, 2))
    (kk : ∀ (H1 : Heap), HI D S0 (wN S kd n.toNatClampNeg) s H1 locs → W p l e R s m args below meth c H1 locs (cells + 1) (slots + cap) Q (F0 m (pc + 2) ls (.ref (kZ S) :: rest))) : W p l e R s m args below meth c H locs cells slots Q (F0 m pc ls (.int n :: rest)) := by
  have hb8 : n.toNatClampNeg * componentBytes (aty kd) ≤ 536870912 := Nat.le_trans (Nat.mul_le_mul (Nat.le_trans hn.2 hcap) h8) (by decide)
  refine va_newaK hexec hb harr rfl hdg rfl hn.1 rfl (by rw [hty]; exact hb8) hcells (Nat.le_trans (Nat.add_le_add_left hn.2 _) hslots) hH.1.2.2.1 fun H1 cA e1 z1 o1 hAr hNm => ?_
  rw [hty] at e1 hAr hNm
  refine W.widen (k := cells + 1) (n := slots + cap) (Nat.le_refl _) (Nat.add_le_add_left hn.2 _) ?_
  refine kk H1 (hH.new z1 o1 (hAt_i (kd := kd) (by rw [kK_wN, if_pos rfl]) h1 h2 hAr (hRA cA hNm) ?_))
  rw [e1, hd]
  congr 2
  · rw [kN_wN, if_pos rfl]
  · funext j
    rw [kI_wN, if_pos rfl]
end HROWS2
/-! links to private members of nest mates -/
def nfs : List (String × Nat × String × String × String) := [(RX9, 27, "Housestyle$Text", "signs", "LHousestyle$Row;"), (RX9, 147, "Housestyle$Book", "rules", "Ljava/util/ArrayList;"), (RX9, 171, "Housestyle$Rule", "exceptions", "Ljava/util/ArrayList;"), (RX9, 185, "Housestyle$Rule", "suggestions", "Ljava/util/ArrayList;"), (RX9, 200, "Housestyle$Pair", "one", "LHousestyle$Row;"), (RX9, 203, "Housestyle$Pair", "other", "LHousestyle$Row;"), (RX9, 211, "Housestyle$Book", "pairs", "Ljava/util/ArrayList;"), (RX9, 236, "Housestyle$Desk", "ranks", "LHousestyle$Row;"), (RX9, 245, "Housestyle$Desk", "numbersBelow", "I"), (RX9, 266, "Housestyle$Text", "writers", "LHousestyle$Row;"), (RX9, 301, "Housestyle$Text", "changed", "LHousestyle$Row;"), (RX0, 76, "Housestyle$Pair", "one", "LHousestyle$Row;"), (RX0, 79, "Housestyle$Pair", "other", "LHousestyle$Row;"), (RX0, 82, "Housestyle$Desk", "leftOut", "I"), (RX0, 94, "Housestyle$Desk", "numbersBelow", "I"), (RX0, 98, "Housestyle$Rule", "items", "Ljava/util/ArrayList;"), (RX0, 101, "Housestyle$Desk", "ranks", "LHousestyle$Row;"), (RX0, 104, "Housestyle$Rule", "ownRank", "I"), (RX0, 111, "Housestyle$Rule", "suggestions", "Ljava/util/ArrayList;"), (RX6, 104, "Housestyle$Item", "hasStar", "Z"), (RX6, 107, "Housestyle$Item", "letters", "LHousestyle$Row;")]
def nms : List (String × Nat × MethodName) := [(RX3, 30, yX9_isWord), (RX6, 59, yX9_isLetter), (RX6, 63, yX9_isDigit), (RX8, 80, yX9_isLetter), (RX8, 84, yX9_isDigit)]
def csts : List String := [RX1, RX3, RX4, RX5, RX6]
def NE (U : State) : Prop := (∀ x ∈ nfs, va_Nw (.fieldLinkNest x.1 x.2.1 x.2.2.1 x.2.2.2.1 x.2.2.2.2 "Housestyle") U) ∧ (∀ x ∈ nms, va_Nw (.methodLinkNest x.1 x.2.1 x.2.2 "Housestyle") U) ∧ (∀ x ∈ csts, va_Nw (.castable x "java/lang/Object") U) ∧ (∃ mi : Nat, va_Mi "[Ljava/lang/Object;" mi U) ∧ va_Dc U ∧ va_AO "java/lang/Object" U
theorem NE.warm {s U : State} (hW : s.WarmedH U.vm) (h : NE s) : NE U := by
  obtain ⟨mi, hmi⟩ := h.2.2.2.1
  exact ⟨fun x hx => va_Nw.warmF hW (h.1 x hx), fun x hx => va_Nw.warmM hW (h.2.1 x hx), fun x hx => va_Nw.warmC hW (h.2.2.1 x hx), ⟨mi, hmi.moved hW.alike⟩, h.2.2.2.2.1.moved hW.alike, h.2.2.2.2.2.moved hW.alike⟩
theorem NE.same {u U : State} (hv : u.vm = U.vm) (h : NE u) : NE U := by
  have hal : u.vm.Alike U.vm := by rw [hv]; exact Vm.Alike.refl U.vm
  obtain ⟨mi, hmi⟩ := h.2.2.2.1
  exact ⟨fun x hx => va_Nw.same rfl hv (h.1 x hx), fun x hx => va_Nw.same rfl hv (h.2.1 x hx), fun x hx => va_Nw.same rfl hv (h.2.2.1 x hx), ⟨mi, hmi.moved hal⟩, h.2.2.2.2.1.moved hal, h.2.2.2.2.2.moved hal⟩
theorem nf_0 {U : State} {A : Array Value} (h : NE U) : (Cond.fieldLinkNest RX9 27 "Housestyle$Text" "signs" "LHousestyle$Row;" "Housestyle").before A U = true := va_Nw.use rfl (h.1 (RX9, 27, "Housestyle$Text", "signs", "LHousestyle$Row;") (List.mem_of_getElem? (i := 0) rfl))
theorem nf_1 {U : State} {A : Array Value} (h : NE U) : (Cond.fieldLinkNest RX9 147 "Housestyle$Book" "rules" "Ljava/util/ArrayList;" "Housestyle").before A U = true := va_Nw.use rfl (h.1 (RX9, 147, "Housestyle$Book", "rules", "Ljava/util/ArrayList;") (List.mem_of_getElem? (i := 1) rfl))
theorem nf_2 {U : State} {A : Array Value} (h : NE U) : (Cond.fieldLinkNest RX9 171 "Housestyle$Rule" "exceptions" "Ljava/util/ArrayList;" "Housestyle").before A U = true := va_Nw.use rfl (h.1 (RX9, 171, "Housestyle$Rule", "exceptions", "Ljava/util/ArrayList;") (List.mem_of_getElem? (i := 2) rfl))
theorem nf_3 {U : State} {A : Array Value} (h : NE U) : (Cond.fieldLinkNest RX9 185 "Housestyle$Rule" "suggestions" "Ljava/util/ArrayList;" "Housestyle").before A U = true := va_Nw.use rfl (h.1 (RX9, 185, "Housestyle$Rule", "suggestions", "Ljava/util/ArrayList;") (List.mem_of_getElem? (i := 3) rfl))
theorem nf_4 {U : State} {A : Array Value} (h : NE U) : (Cond.fieldLinkNest RX9 200 "Housestyle$Pair" "one" "LHousestyle$Row;" "Housestyle").before A U = true := va_Nw.use rfl (h.1 (RX9, 200, "Housestyle$Pair", "one", "LHousestyle$Row;") (List.mem_of_getElem? (i := 4) rfl))
theorem nf_5 {U : State} {A : Array Value} (h : NE U) : (Cond.fieldLinkNest RX9 203 "Housestyle$Pair" "other" "LHousestyle$Row;" "Housestyle").before A U = true := va_Nw.use rfl (h.1 (RX9, 203, "Housestyle$Pair", "other", "LHousestyle$Row;") (List.mem_of_getElem? (i := 5) rfl))
theorem nf_6 {U : State} {A : Array Value} (h : NE U) : (Cond.fieldLinkNest RX9 211 "Housestyle$Book" "pairs" "Ljava/util/ArrayList;" "Housestyle").before A U = true := va_Nw.use rfl (h.1 (RX9, 211, "Housestyle$Book", "pairs", "Ljava/util/ArrayList;") (List.mem_of_getElem? (i := 6) rfl))
theorem nf_7 {U : State} {A : Array Value} (h : NE U) : (Cond.fieldLinkNest RX9 236 "Housestyle$Desk" "ranks" "LHousestyle$Row;" "Housestyle").before A U = true := va_Nw.use rfl (h.1 (RX9, 236, "Housestyle$Desk", "ranks", "LHousestyle$Row;") (List.mem_of_getElem? (i := 7) rfl))
theorem nf_8 {U : State} {A : Array Value} (h : NE U) : (Cond.fieldLinkNest RX9 245 "Housestyle$Desk" "numbersBelow" "I" "Housestyle").before A U = true := va_Nw.use rfl (h.1 (RX9, 245, "Housestyle$Desk", "numbersBelow", "I") (List.mem_of_getElem? (i := 8) rfl))
theorem nf_9 {U : State} {A : Array Value} (h : NE U) : (Cond.fieldLinkNest RX9 266 "Housestyle$Text" "writers" "LHousestyle$Row;" "Housestyle").before A U = true := va_Nw.use rfl (h.1 (RX9, 266, "Housestyle$Text", "writers", "LHousestyle$Row;") (List.mem_of_getElem? (i := 9) rfl))
theorem nf_10 {U : State} {A : Array Value} (h : NE U) : (Cond.fieldLinkNest RX9 301 "Housestyle$Text" "changed" "LHousestyle$Row;" "Housestyle").before A U = true := va_Nw.use rfl (h.1 (RX9, 301, "Housestyle$Text", "changed", "LHousestyle$Row;") (List.mem_of_getElem? (i := 10) rfl))
theorem nf_11 {U : State} {A : Array Value} (h : NE U) : (Cond.fieldLinkNest RX0 76 "Housestyle$Pair" "one" "LHousestyle$Row;" "Housestyle").before A U = true := va_Nw.use rfl (h.1 (RX0, 76, "Housestyle$Pair", "one", "LHousestyle$Row;") (List.mem_of_getElem? (i := 11) rfl))
theorem nf_12 {U : State} {A : Array Value} (h : NE U) : (Cond.fieldLinkNest RX0 79 "Housestyle$Pair" "other" "LHousestyle$Row;" "Housestyle").before A U = true := va_Nw.use rfl (h.1 (RX0, 79, "Housestyle$Pair", "other", "LHousestyle$Row;") (List.mem_of_getElem? (i := 12) rfl))
theorem nf_13 {U : State} {A : Array Value} (h : NE U) : (Cond.fieldLinkNest RX0 82 "Housestyle$Desk" "leftOut" "I" "Housestyle").before A U = true := va_Nw.use rfl (h.1 (RX0, 82, "Housestyle$Desk", "leftOut", "I") (List.mem_of_getElem? (i := 13) rfl))
theorem nf_14 {U : State} {A : Array Value} (h : NE U) : (Cond.fieldLinkNest RX0 94 "Housestyle$Desk" "numbersBelow" "I" "Housestyle").before A U = true := va_Nw.use rfl (h.1 (RX0, 94, "Housestyle$Desk", "numbersBelow", "I") (List.mem_of_getElem? (i := 14) rfl))
theorem nf_15 {U : State} {A : Array Value} (h : NE U) : (Cond.fieldLinkNest RX0 98 "Housestyle$Rule" "items" "Ljava/util/ArrayList;" "Housestyle").before A U = true := va_Nw.use rfl (h.1 (RX0, 98, "Housestyle$Rule", "items", "Ljava/util/ArrayList;") (List.mem_of_getElem? (i := 15) rfl))
theorem nf_16 {U : State} {A : Array Value} (h : NE U) : (Cond.fieldLinkNest RX0 101 "Housestyle$Desk" "ranks" "LHousestyle$Row;" "Housestyle").before A U = true := va_Nw.use rfl (h.1 (RX0, 101, "Housestyle$Desk", "ranks", "LHousestyle$Row;") (List.mem_of_getElem? (i := 16) rfl))
theorem nf_17 {U : State} {A : Array Value} (h : NE U) : (Cond.fieldLinkNest RX0 104 "Housestyle$Rule" "ownRank" "I" "Housestyle").before A U = true := va_Nw.use rfl (h.1 (RX0, 104, "Housestyle$Rule", "ownRank", "I") (List.mem_of_getElem? (i := 17) rfl))
theorem nf_18 {U : State} {A : Array Value} (h : NE U) : (Cond.fieldLinkNest RX0 111 "Housestyle$Rule" "suggestions" "Ljava/util/ArrayList;" "Housestyle").before A U = true := va_Nw.use rfl (h.1 (RX0, 111, "Housestyle$Rule", "suggestions", "Ljava/util/ArrayList;") (List.mem_of_getElem? (i := 18) rfl))
theorem nf_19 {U : State} {A : Array Value} (h : NE U) : (Cond.fieldLinkNest RX6 104 "Housestyle$Item" "hasStar" "Z" "Housestyle").before A U = true := va_Nw.use rfl (h.1 (RX6, 104, "Housestyle$Item", "hasStar", "Z") (List.mem_of_getElem? (i := 19) rfl))
theorem nf_20 {U : State} {A : Array Value} (h : NE U) : (Cond.fieldLinkNest RX6 107 "Housestyle$Item" "letters" "LHousestyle$Row;" "Housestyle").before A U = true := va_Nw.use rfl (h.1 (RX6, 107, "Housestyle$Item", "letters", "LHousestyle$Row;") (List.mem_of_getElem? (i := 20) rfl))
theorem nm_0 {U : State} (h : NE U) : va_Nw (.methodLinkNest RX3 30 yX9_isWord "Housestyle") U := h.2.1 (RX3, 30, yX9_isWord) (List.mem_of_getElem? (i := 0) rfl)
theorem nm_1 {U : State} (h : NE U) : va_Nw (.methodLinkNest RX6 59 yX9_isLetter "Housestyle") U := h.2.1 (RX6, 59, yX9_isLetter) (List.mem_of_getElem? (i := 1) rfl)
theorem nm_2 {U : State} (h : NE U) : va_Nw (.methodLinkNest RX6 63 yX9_isDigit "Housestyle") U := h.2.1 (RX6, 63, yX9_isDigit) (List.mem_of_getElem? (i := 2) rfl)
theorem nm_3 {U : State} (h : NE U) : va_Nw (.methodLinkNest RX8 80 yX9_isLetter "Housestyle") U := h.2.1 (RX8, 80, yX9_isLetter) (List.mem_of_getElem? (i := 3) rfl)
theorem nm_4 {U : State} (h : NE U) : va_Nw (.methodLinkNest RX8 84 yX9_isDigit "Housestyle") U := h.2.1 (RX8, 84, yX9_isDigit) (List.mem_of_getElem? (i := 4) rfl)
/-! contracts over the pure heap -/
def PcH (D : va_G × Nat) (S : PS) (as : List Value) : Array Value → State → Prop := va_Pc as (fun U => HP D S U U.heap ∧ NE U)
def MI (l : Launch) (D : va_G × Nat) (y : MethodName) (ws : List Cond) (rm : Room) (S : PS) (as : List Value) (S' : PS) (r : Int32) (mc ms : Nat) : Prop := Met l y ws rm (PcH D S as) (va_Qi (fun (x : Int32) (_ : Unit) => x = r) (fun _ t => HP D S' t t.heap ∧ KD S S') (pA S)) mc ms (pA S)
def MV (l : Launch) (D : va_G × Nat) (y : MethodName) (ws : List Cond) (rm : Room) (S : PS) (as : List Value) (S' : PS) (mc ms : Nat) : Prop := Met l y ws rm (PcH D S as) (va_Qv (fun (_ : Unit) => True) (fun _ t => HP D S' t t.heap ∧ KD S S') (pA S)) mc ms (pA S)
def MR (l : Launch) (D : va_G × Nat) (y : MethodName) (ws : List Cond) (rm : Room) (S : PS) (as : List Value) (S' : PS) (r : Nat) (mc ms : Nat) : Prop := Met l y ws rm (PcH D S as) (va_Qr (fun (_ : Unit) => True) (fun _ a t => a = r ∧ HP D S' t t.heap ∧ KD S S') (pA S)) mc ms (pA S)
def ML (l : Launch) (D : va_G × Nat) (y : MethodName) (ws : List Cond) (rm : Room) (S : PS) (as : List Value) (S' : PS) (r : Int64) (mc ms : Nat) : Prop := Met l y ws rm (PcH D S as) (va_Ql (fun (x : Int64) (_ : Unit) => x = r) (fun _ t => HP D S' t t.heap ∧ KD S S') (pA S)) mc ms (pA S)
theorem PcH.blind (D : va_G × Nat) (S : PS) (as : List Value) : FrameBlind (PcH D S as) := fun a U g mk q => ⟨q.1, HP.moved (u := U) (U := U.calling g mk a) (Vm.Alike.refl U.vm) q.2.1, NE.same (u := U) rfl q.2.2⟩
theorem HI.pre {D : va_G × Nat} {S0 S : PS} {s : State} {H : Heap} {locs : List Loc} (h : HI D S0 S s H locs) (hN : NE s) (as : List Value) : ∀ U : State, U.heap = H → s.WarmedH U.vm → PcH D S as as.toArray U := fun U hU hW => ⟨rfl, by show HP D S U U.heap; rw [hU]; exact h.1.moved hW.alike, hN.warm hW⟩
theorem HI.recv {D : va_G × Nat} {S0 S : PS} {s : State} {H : Heap} {locs : List Loc} (h : HI D S0 S s H locs) {b : Nat} (ci : Nat) {q : vw_C} (ek : kK S b = ci + 1) (hci : ci + 1 ≤ 100) (hc : vwCl[ci]? = some q) : ∃ cell : Cell, H[b]? = some cell ∧ cell.vm.isStatics = false ∧ s.vm.findClass q.1 = some cell.cls := va_recv h.1.2.1 (h.1.obj ek hci) hc (q0 := 0) rfl
theorem HI.back {D : va_G × Nat} {S0 S S' : PS} {s t : State} {H H1 : Heap} {locs locs1 : List Loc} (h : HI D S0 S s H locs) (ht : t.heap = H1) (hvm : s.vm.Alike t.vm) (hP : HP D S' t t.heap) (hk : KD S S') (hS : va_S (pA S0) s.heap H1 locs1) : HI D S0 S' s H1 locs1 := ⟨by rw [← ht]; exact hP.moved hvm.symm, hS, h.2.2.1.tr hk, h.2.2.2⟩
section HCALLS
variable {p : Program} {l : Launch} {e : Env} {R : Room} {s : State} {m : MethodId} {args : Array Value} {below : List Frame} {meth : Method} {c : Code} {H : Heap} {locs : List Loc} {cells slots : Nat} {Q : State → Prop}
variable {cc bytes : ByteArray} {pc nL maxL mc ms n index : Nat} {ls : Array Slot} {rest st0 As : List Value} {D : va_G × Nat} {S0 S S' : PS} {b : Nat} {Ts ws : List Cond} {own C : String} {y : MethodName} {rm : Room} {ret : Option FieldType}
theorem r_callVi {r : Int32} (S9 : CallFix p m c cc nL s args Ts own) (hM : MI l D y ws rm S (.ref b :: As) S' r mc ms) (cw : CallW R s args own C index y bytes maxL ret ws rm mc ms n) (hH : HI D S0 S s H locs) (hNE : NE s) (ci : Nat) {q : vw_C} (ek : kK S b = ci + 1) (hci : ci + 1 ≤ 100) (hc : vwCl[ci]? = some q) (hC : q.1 = C) (hn : As.length = n) (hsize : ls.size = nL) (hstack : st0 = As.reverse ++ .ref b :: rest) (hW : (rest.map fun v => v.category).sum ≤ 8) (hdg : decode cc pc = .ok (.invokevirtual index, 3)) (hf : cells + mc ≤ R.cells ∧ slots + ms ≤ R.slots)
    (kk : ∀ (H1 : Heap) (locs1 : List Loc), HI D S0 S' s H1 locs1 → W p l e R s m args below meth c H1 locs1 (cells + mc) (slots + ms) Q (F0 m (pc + 3) ls (.int r :: rest))) : W p l e R s m args below meth c H locs cells slots Q (F0 m pc ls st0) := by
  subst hC
  refine va_calli (va_runV S9 hM cw ⟨PcH.blind D S _, hH.recv ci ek hci hc, hH.pre hNE _⟩ rfl hn hsize hstack (lv_room hW) hdg hf) hH.2.1 (fun q _ h => pA_mono hH.2.2.1 q h) (fun q h => pA_mono hH.2.2.1 q h) (fun r1 u t H1 locs1 ht hvm hw hB hz hk hS => ?_)
  subst hw
  exact kk H1 locs1 (hH.back ht hvm hB.1 hB.2 hS)
theorem r_callVv (S9 : CallFix p m c cc nL s args Ts own) (hM : MV l D y ws rm S (.ref b :: As) S' mc ms) (cw : CallW R s args own C index y bytes maxL ret ws rm mc ms n) (hH : HI D S0 S s H locs) (hNE : NE s) (ci : Nat) {q : vw_C} (ek : kK S b = ci + 1) (hci : ci + 1 ≤ 100) (hc : vwCl[ci]? = some q) (hC : q.1 = C) (hn : As.length = n) (hsize : ls.size = nL) (hstack : st0 = As.reverse ++ .ref b :: rest) (hW : (rest.map fun v => v.category).sum ≤ 8) (hdg : decode cc pc = .ok (.invokevirtual index, 3)) (hf : cells + mc ≤ R.cells ∧ slots + ms ≤ R.slots)
    (kk : ∀ (H1 : Heap) (locs1 : List Loc), HI D S0 S' s H1 locs1 → W p l e R s m args below meth c H1 locs1 (cells + mc) (slots + ms) Q (F0 m (pc + 3) ls rest)) : W p l e R s m args below meth c H locs cells slots Q (F0 m pc ls st0) := by
  subst hC
  refine va_callv (va_runV S9 hM cw ⟨PcH.blind D S _, hH.recv ci ek hci hc, hH.pre hNE _⟩ rfl hn hsize hstack (lv_room hW) hdg hf) hH.2.1 (fun q _ h => pA_mono hH.2.2.1 q h) (fun q h => pA_mono hH.2.2.1 q h) (fun u t H1 locs1 ht hvm hw hB hz hk hS => ?_)
  exact kk H1 locs1 (hH.back ht hvm hB.1 hB.2 hS)
theorem r_callVr {r : Nat} (S9 : CallFix p m c cc nL s args Ts own) (hM : MR l D y ws rm S (.ref b :: As) S' r mc ms) (cw : CallW R s args own C index y bytes maxL ret ws rm mc ms n) (hH : HI D S0 S s H locs) (hNE : NE s) (ci : Nat) {q : vw_C} (ek : kK S b = ci + 1) (hci : ci + 1 ≤ 100) (hc : vwCl[ci]? = some q) (hC : q.1 = C) (hn : As.length = n) (hsize : ls.size = nL) (hstack : st0 = As.reverse ++ .ref b :: rest) (hW : (rest.map fun v => v.category).sum ≤ 8) (hdg : decode cc pc = .ok (.invokevirtual index, 3)) (hf : cells + mc ≤ R.cells ∧ slots + ms ≤ R.slots)
    (kk : ∀ (H1 : Heap) (locs1 : List Loc), HI D S0 S' s H1 locs1 → W p l e R s m args below meth c H1 locs1 (cells + mc) (slots + ms) Q (F0 m (pc + 3) ls (.ref r :: rest))) : W p l e R s m args below meth c H locs cells slots Q (F0 m pc ls st0) := by
  subst hC
  refine va_callr (va_runV S9 hM cw ⟨PcH.blind D S _, hH.recv ci ek hci hc, hH.pre hNE _⟩ rfl hn hsize hstack (lv_room hW) hdg hf) hH.2.1 (fun q _ h => pA_mono hH.2.2.1 q h) (fun q h => pA_mono hH.2.2.1 q h) (fun u ra t H1 locs1 ht hvm hw hB hz hk hS => ?_)
  obtain ⟨rfl, hB⟩ := hB
  exact kk H1 locs1 (hH.back ht hvm hB.1 hB.2 hS)
theorem r_callSi {r : Int32} (S9 : CallFix p m c cc nL s args Ts own) (hM : MI l D y ws rm S As S' r mc ms) (cw : CallB R s args own index y bytes maxL ret ws rm mc ms n ∧ (Cond.static y).before args s = true) (hH : HI D S0 S s H locs) (hNE : NE s) (hn : As.length = n) (hsize : ls.size = nL) (hstack : st0 = As.reverse ++ rest) (hW : (rest.map fun v => v.category).sum ≤ 8) (hdg : decode cc pc = .ok (.invokestatic index, 3)) (hf : cells + mc ≤ R.cells ∧ slots + ms ≤ R.slots)
    (kk : ∀ (H1 : Heap) (locs1 : List Loc), HI D S0 S' s H1 locs1 → W p l e R s m args below meth c H1 locs1 (cells + mc) (slots + ms) Q (F0 m (pc + 3) ls (.int r :: rest))) : W p l e R s m args below meth c H locs cells slots Q (F0 m pc ls st0) := by
  refine va_calli (va_runS S9 hM cw ⟨PcH.blind D S _, hH.pre hNE _⟩ rfl hn hsize hstack (lv_room hW) hdg hf) hH.2.1 (fun q _ h => pA_mono hH.2.2.1 q h) (fun q h => pA_mono hH.2.2.1 q h) (fun r1 u t H1 locs1 ht hvm hw hB hz hk hS => ?_)
  subst hw
  exact kk H1 locs1 (hH.back ht hvm hB.1 hB.2 hS)
theorem r_callIv (S9 : CallFix p m c cc nL s args Ts own) (hM : MV l D y ws rm S (.ref b :: As) S' mc ms) (cw : CallB R s args own index y bytes maxL none ws rm mc ms n ∧ y.name = "<init>" ∧ (Cond.instanceMethod y).before args s = true) (hH : HI D S0 S s H locs) (hNE : NE s) (hn : As.length = n) (hsize : ls.size = nL) (hstack : st0 = As.reverse ++ .ref b :: rest) (hW : (rest.map fun v => v.category).sum ≤ 8) (hdg : decode cc pc = .ok (.invokespecial index, 3)) (hf : cells + mc ≤ R.cells ∧ slots + ms ≤ R.slots)
    (kk : ∀ (H1 : Heap) (locs1 : List Loc), HI D S0 S' s H1 locs1 → W p l e R s m args below meth c H1 locs1 (cells + mc) (slots + ms) Q (F0 m (pc + 3) ls rest)) : W p l e R s m args below meth c H locs cells slots Q (F0 m pc ls st0) := by
  refine va_callv (va_runI S9 hM cw ⟨PcH.blind D S _, hH.pre hNE _⟩ rfl hn hsize hstack (lv_room hW) hdg hf) hH.2.1 (fun q _ h => pA_mono hH.2.2.1 q h) (fun q h => pA_mono hH.2.2.1 q h) (fun u t H1 locs1 ht hvm hw hB hz hk hS => ?_)
  exact kk H1 locs1 (hH.back ht hvm hB.1 hB.2 hS)
/-- the ends -/
theorem e_i {r : Int32} (hexec : p.tables.exec = Jvm.exec) (hb : c.code = cc) (hr : meth.sig.returnType = some .int) (hlocks : meth.locks = false) (hH : HI D S0 S s H locs) (hdg : decode cc pc = .ok (.ireturn, 1)) : W p l e R s m args below meth c H locs cells slots (MQ below (va_Qi (fun (x : Int32) (_ : Unit) => x = r) (fun _ t => HP D S t t.heap ∧ KD S0 S) (pA S0)) args s cells slots (pA S0)) (F0 m pc ls [.int r]) :=
  W.iret hexec hb hr (fun t ht hW => ⟨⟨r, (), rfl, rfl, by rw [ht]; exact hH.1.moved hW.alike, hH.2.2.1⟩, hH.2.1.F ht⟩) hH.2.1.2.2 hdg
theorem e_z {r : Int32} {ty : FieldType} (hexec : p.tables.exec = Jvm.exec) (hb : c.code = cc) (hr : meth.sig.returnType = some ty) (hlocks : meth.locks = false) (hn : narrow ty (.int r) = .int r) (hH : HI D S0 S s H locs) (hdg : decode cc pc = .ok (.ireturn, 1)) : W p l e R s m args below meth c H locs cells slots (MQ below (va_Qi (fun (x : Int32) (_ : Unit) => x = r) (fun _ t => HP D S t t.heap ∧ KD S0 S) (pA S0)) args s cells slots (pA S0)) (F0 m pc ls [.int r]) :=
  W.zret hexec hb hr hn (fun t ht hW => ⟨⟨r, (), rfl, rfl, by rw [ht]; exact hH.1.moved hW.alike, hH.2.2.1⟩, hH.2.1.F ht⟩) hH.2.1.2.2 hdg
theorem e_v (hexec : p.tables.exec = Jvm.exec) (hb : c.code = cc) (hr : meth.sig.returnType = none) (hlocks : meth.locks = false) (hH : HI D S0 S s H locs) (hdg : decode cc pc = .ok (.return_, 1)) : W p l e R s m args below meth c H locs cells slots (MQ below (va_Qv (fun (_ : Unit) => True) (fun _ t => HP D S t t.heap ∧ KD S0 S) (pA S0)) args s cells slots (pA S0)) (F0 m pc ls []) :=
  W.vret hexec hb hr (fun t ht hW => ⟨⟨(), rfl, trivial, by rw [ht]; exact hH.1.moved hW.alike, hH.2.2.1⟩, hH.2.1.F ht⟩) hH.2.1.2.2 hdg
theorem e_r {r : Nat} {nm : String} (hexec : p.tables.exec = Jvm.exec) (hb : c.code = cc) (hr : meth.sig.returnType = some (.object nm)) (hlocks : meth.locks = false) (hH : HI D S0 S s H locs) (hdg : decode cc pc = .ok (.areturn, 1)) : W p l e R s m args below meth c H locs cells slots (MQ below (va_Qr (fun (_ : Unit) => True) (fun _ a t => a = r ∧ HP D S t t.heap ∧ KD S0 S) (pA S0)) args s cells slots (pA S0)) (F0 m pc ls [.ref r]) :=
  W.aret hexec hb hr (Or.inl ⟨_, rfl⟩) (Or.inr ⟨_, rfl⟩) (fun t ht hW => ⟨⟨(), r, rfl, trivial, rfl, by rw [ht]; exact hH.1.moved hW.alike, hH.2.2.1⟩, hH.2.1.F ht⟩) hH.2.1.2.2 hdg
end HCALLS
/-! the functions' small words -/
def lt {α β : Type} (x : α) (f : α → β) : β := f x
theorem ob {α β : Type} {o : Option α} {f : α → Option β} {r : β} (h : o.bind f = some r) : ∃ v, o = some v ∧ f v = some r := by
  cases o with
  | none => cases h
  | some v => exact ⟨v, rfl, h⟩
theorem ol {α β : Type} {x : α} {f : α → Option β} {r : β} (h : lt x f = some r) : ∃ v, x = v ∧ f v = some r := ⟨x, rfl, h⟩
theorem oc {β : Type} {c : Prop} [Decidable c] {x : Option β} {r : β} (h : (if c then x else none) = some r) : c ∧ x = some r := by
  by_cases hc : c
  · rw [if_pos hc] at h; exact ⟨hc, h⟩
  · rw [if_neg hc] at h; cases h
theorem ip {β : Type} {c : Prop} [Decidable c] {x y : Option β} {r : β} (h : (if c then x else y) = some r) (hc : c) : x = some r := by rw [if_pos hc] at h; exact h
theorem iq {β : Type} {c : Prop} [Decidable c] {x y : Option β} {r : β} (h : (if c then x else y) = some r) (hc : ¬ c) : y = some r := by rw [if_neg hc] at h; exact h
/-- a loop: until the body says so, at most n times -/
def iter {σ ρ : Type} (b : σ → Option (σ ⊕ ρ)) : Nat → σ → Option ρ
  | 0, _ => none
  | n + 1, v => (b v).bind fun o => match o with
    | .inl w => iter b n w
    | .inr r => some r
def itK {σ ρ : Type} (b : σ → Option (σ ⊕ ρ)) (n : Nat) (o : ρ) : σ ⊕ ρ → Prop
  | .inl w => iter b n w = some o
  | .inr r => r = o
theorem iter_s {σ ρ : Type} {b : σ → Option (σ ⊕ ρ)} {n : Nat} {v : σ} {o : ρ} (h : iter b (n + 1) v = some o) : ∃ q, b v = some q ∧ itK b n o q := by
  obtain ⟨q, h1, h2⟩ := ob (show (b v).bind (fun o => match o with | .inl w => iter b n w | .inr r => some r) = some o from h)
  refine ⟨q, h1, ?_⟩
  cases q with
  | inl w => exact h2
  | inr r => exact Option.some.inj h2
theorem itR {σ ρ β : Type} {b : σ → Option (σ ⊕ ρ)} {n : Nat} {o v : ρ} {K : ρ → Option β} {r : β} (h : itK b n o (.inr v)) (hk : K o = some r) : K v = some r := by
  have h9 : v = o := h
  rw [h9]
  exact hk
def kF : Nat := 100000
theorem lv_topE {p : Program} {l : Launch} {e : Env} {R : Room} {s : State} {m : MethodId} {args : Array Value} {below : List Frame} {meth : Method} {c : Code} {H : Heap} {locs : List Loc} {cells slots : Nat} {Q : State → Prop} {pc : Nat} {ls : Array Slot} {rest : List Value} {x y : Int32} (h : x = y) (k : W p l e R s m args below meth c H locs cells slots Q (F0 m pc ls (.int y :: rest))) : W p l e R s m args below meth c H locs cells slots Q (F0 m pc ls (.int x :: rest)) := h ▸ k
abbrev GI (p : Program) (l : Launch) (e : Env) (R : Room) (s : State) (m : MethodId) (args : Array Value) (below : List Frame) (meth : Method) (c : Code) (D : va_G × Nat) (S0 S' : PS) (r : Int32) (H : Heap) (locs : List Loc) (cells slots mc ms : Nat) (g : JFrame) : Prop := W p l e R s m args below meth c H locs cells slots (MQ below (va_Qi (fun (x : Int32) (_ : Unit) => x = r) (fun _ t => HP D S' t t.heap ∧ KD S0 S') (pA S0)) args s mc ms (pA S0)) g
abbrev GV (p : Program) (l : Launch) (e : Env) (R : Room) (s : State) (m : MethodId) (args : Array Value) (below : List Frame) (meth : Method) (c : Code) (D : va_G × Nat) (S0 S' : PS) (H : Heap) (locs : List Loc) (cells slots mc ms : Nat) (g : JFrame) : Prop := W p l e R s m args below meth c H locs cells slots (MQ below (va_Qv (fun (_ : Unit) => True) (fun _ t => HP D S' t t.heap ∧ KD S0 S') (pA S0)) args s mc ms (pA S0)) g
abbrev GR (p : Program) (l : Launch) (e : Env) (R : Room) (s : State) (m : MethodId) (args : Array Value) (below : List Frame) (meth : Method) (c : Code) (D : va_G × Nat) (S0 S' : PS) (r : Nat) (H : Heap) (locs : List Loc) (cells slots mc ms : Nat) (g : JFrame) : Prop := W p l e R s m args below meth c H locs cells slots (MQ below (va_Qr (fun (_ : Unit) => True) (fun _ a t => a = r ∧ HP D S' t t.heap ∧ KD S0 S') (pA S0)) args s mc ms (pA S0)) g
abbrev GL (p : Program) (l : Launch) (e : Env) (R : Room) (s : State) (m : MethodId) (args : Array Value) (below : List Frame) (meth : Method) (c : Code) (D : va_G × Nat) (S0 S' : PS) (r : Int64) (H : Heap) (locs : List Loc) (cells slots mc ms : Nat) (g : JFrame) : Prop := W p l e R s m args below meth c H locs cells slots (MQ below (va_Ql (fun (x : Int64) (_ : Unit) => x = r) (fun _ t => HP D S' t t.heap ∧ KD S0 S') (pA S0)) args s mc ms (pA S0)) g
theorem nar_Z {v : Int32} (h : vp_nar .boolean v = v) : narrow .boolean (.int v) = .int v := by
  simp only [vp_nar, narrow] at h ⊢
  rw [h]
theorem nar_C {v : Int32} (h : vp_nar .char v = v) : narrow .char (.int v) = .int v := by
  simp only [vp_nar, narrow] at h ⊢
  rw [h]
theorem nar_Z9 {v : Int32} (h : v = 0 ∨ v = 1) : narrow .boolean (.int v) = .int v := by
  rcases h with rfl | rfl <;> rfl
theorem fit_Z9 {v : Int32} (h : v = 0 ∨ v = 1) : fits .boolean (.int v) = true := by
  rcases h with rfl | rfl <;> rfl
theorem nar_C9 {v : Int32} (h : vp_nar .char v = v ∧ fits .char (.int v) = true) : narrow .char (.int v) = .int v := nar_C h.1
theorem fit_C9 {v : Int32} (h : vp_nar .char v = v ∧ fits .char (.int v) = true) : fits .char (.int v) = true := h.2
section HROWS3
variable {p : Program} {l : Launch} {e : Env} {R : Room} {s : State} {m : MethodId} {args : Array Value} {below : List Frame} {meth : Method} {c : Code} {H : Heap} {locs : List Loc} {cells slots : Nat} {Q : State → Prop}
variable {cc bytes : ByteArray} {pc nL maxL mc ms n index : Nat} {ls : Array Slot} {rest st0 As : List Value} {D : va_G × Nat} {S0 S S' : PS} {b : Nat} {Ts ws : List Cond} {own C : String} {y : MethodName} {rm : Room} {ret : Option FieldType}
theorem r_callSv (S9 : CallFix p m c cc nL s args Ts own) (hM : MV l D y ws rm S As S' mc ms) (cw : CallB R s args own index y bytes maxL ret ws rm mc ms n ∧ (Cond.static y).before args s = true) (hH : HI D S0 S s H locs) (hNE : NE s) (hn : As.length = n) (hsize : ls.size = nL) (hstack : st0 = As.reverse ++ rest) (hW : (rest.map fun v => v.category).sum ≤ 8) (hdg : decode cc pc = .ok (.invokestatic index, 3)) (hf : cells + mc ≤ R.cells ∧ slots + ms ≤ R.slots)
    (kk : ∀ (H1 : Heap) (locs1 : List Loc), HI D S0 S' s H1 locs1 → W p l e R s m args below meth c H1 locs1 (cells + mc) (slots + ms) Q (F0 m (pc + 3) ls rest)) : W p l e R s m args below meth c H locs cells slots Q (F0 m pc ls st0) := by
  refine va_callv (va_runS S9 hM cw ⟨PcH.blind D S _, hH.pre hNE _⟩ rfl hn hsize hstack (lv_room hW) hdg hf) hH.2.1 (fun q _ h => pA_mono hH.2.2.1 q h) (fun q h => pA_mono hH.2.2.1 q h) (fun u t H1 locs1 ht hvm hw hB hz hk hS => ?_)
  exact kk H1 locs1 (hH.back ht hvm hB.1 hB.2 hS)
theorem e_l {r : Int64} (hexec : p.tables.exec = Jvm.exec) (hb : c.code = cc) (hr : meth.sig.returnType = some .long) (hlocks : meth.locks = false) (hH : HI D S0 S s H locs) (hdg : decode cc pc = .ok (.lreturn, 1)) : W p l e R s m args below meth c H locs cells slots (MQ below (va_Ql (fun (x : Int64) (_ : Unit) => x = r) (fun _ t => HP D S t t.heap ∧ KD S0 S) (pA S0)) args s cells slots (pA S0)) (F0 m pc ls [.long r]) :=
  W.lret hexec hb hr (fun t ht hW => ⟨⟨r, (), rfl, rfl, by rw [ht]; exact hH.1.moved hW.alike, hH.2.2.1⟩, hH.2.1.F ht⟩) hH.2.1.2.2 hdg
theorem lv_topEl {x y : Int64} (h : x = y) (k : W p l e R s m args below meth c H locs cells slots Q (F0 m pc ls (.long y :: rest))) : W p l e R s m args below meth c H locs cells slots Q (F0 m pc ls (.long x :: rest)) := h ▸ k
theorem r_castS {nm : String} {T : u_T} {N : Nat} (ci : Nat) (hexec : p.tables.exec = Jvm.exec) (hb : c.code = cc) (hown : s.vm.findClass own = some m.cls) (hlink : (Cond.classLink own index nm).before args s = true) (hH : HI D S0 S s H locs) (ek : kK S b = ci + 1) (hci : ci + 1 ≤ 100) (hc : vwCl[ci]? = some (C, T, N)) (hnm : C = nm) (hdg : decode cc pc = .ok (.checkcast index, 3))
    (kk : W p l e R s m args below meth c H locs cells slots Q (F0 m (pc + 3) ls (.ref b :: rest))) : W p l e R s m args below meth c H locs cells slots Q (F0 m pc ls (.ref b :: rest)) := by
  subst hnm
  exact va_castS hexec hb hown hlink (hH.1.2.1.1 ci _ hc).2 (hH.recv ci ek hci hc) hdg kk
theorem r_getIN (hexec : p.tables.exec = Jvm.exec) (hb : c.code = cc) {own ref C host : String} {a : Nat} {T : u_T} {N index : Nat} {Ts : List Cond} (ci : Nat) (hts : ∀ w ∈ Ts, w.before args s = true) (hin : ∀ w ∈ u_ws C T N, w ∈ Ts) (hown : s.vm.findClass own = some m.cls) (hH : HI D S0 S s H locs) (ek : kK S a = ci + 1) (hci : ci + 1 ≤ 100) (hc : vwCl[ci]? = some (C, T, N)) (k : Nat) (hk : k < N) (hlay : (lay ci)[k]? = some true) (hlink : (Cond.fieldLinkNest own index ref (T k).2.1 (T k).2.2.1 host).before args s = true) (hsame : ∀ x, s.fieldFound? (T k).1 (T k).2.1 (T k).2.2.1 = some x → s.fieldFound? ref (T k).2.1 (T k).2.2.1 = some x) (hdg : decode cc pc = .ok (.getfield index, 3))
    (kk : W p l e R s m args below meth c H locs cells slots Q (F0 m (pc + 3) ls (.int (kI S a k) :: rest))) : W p l e R s m args below meth c H locs cells slots Q (F0 m pc ls (.ref a :: rest)) :=
  va_getN (v := .int (kI S a k)) hexec hb hts hin hown hH.1.2.1 (hH.1.obj ek hci) 0 rfl hc k hk hlink hsame (by rw [fl_get, hlay]; simp) hdg kk
theorem r_getQN (hexec : p.tables.exec = Jvm.exec) (hb : c.code = cc) {own ref C host : String} {a : Nat} {T : u_T} {N index : Nat} {Ts : List Cond} (ci : Nat) (hts : ∀ w ∈ Ts, w.before args s = true) (hin : ∀ w ∈ u_ws C T N, w ∈ Ts) (hown : s.vm.findClass own = some m.cls) (hH : HI D S0 S s H locs) (ek : kK S a = ci + 1) (hci : ci + 1 ≤ 100) (hc : vwCl[ci]? = some (C, T, N)) (k : Nat) (hk : k < N) (hlay : (lay ci)[k]? = some false) (hlink : (Cond.fieldLinkNest own index ref (T k).2.1 (T k).2.2.1 host).before args s = true) (hsame : ∀ x, s.fieldFound? (T k).1 (T k).2.1 (T k).2.2.1 = some x → s.fieldFound? ref (T k).2.1 (T k).2.2.1 = some x) (hdg : decode cc pc = .ok (.getfield index, 3)) {b : Nat} (eq : kQ S a k = some b)
    (kk : W p l e R s m args below meth c H locs cells slots Q (F0 m (pc + 3) ls (.ref b :: rest))) : W p l e R s m args below meth c H locs cells slots Q (F0 m pc ls (.ref a :: rest)) :=
  va_getN (v := .ref b) hexec hb hts hin hown hH.1.2.1 (hH.1.obj ek hci) 0 rfl hc k hk hlink hsame (by rw [fl_get, hlay]; simp [eq, va_rf]) hdg kk
theorem r_putIN (hexec : p.tables.exec = Jvm.exec) (hb : c.code = cc) {own ref C host : String} {a : Nat} {T : u_T} {N index : Nat} {Ts : List Cond} (ci : Nat) (hts : ∀ w ∈ Ts, w.before args s = true) (hin : ∀ w ∈ u_ws C T N, w ∈ Ts) (ty0 : Nat → FieldType) (hty : ∀ k, k < N → parseFieldDescriptor (T k).2.2.1 = some (ty0 k)) (hnm : ∀ a, a < N → ∀ b, b < N → a ≠ b → (T a).2.1 ≠ (T b).2.1) (hown : s.vm.findClass own = some m.cls) (hH : HI D S0 S s H locs) (ek : kK S a = ci + 1) (hci : ci + 1 ≤ 100) (hc : vwCl[ci]? = some (C, T, N)) (k : Nat) (hk : k < N) (hlay : (lay ci)[k]? = some true) (hlink : (Cond.fieldLinkNest own index ref (T k).2.1 (T k).2.2.1 host).before args s = true) (hsame : ∀ x, s.fieldFound? (T k).1 (T k).2.1 (T k).2.2.1 = some x → s.fieldFound? ref (T k).2.1 (T k).2.2.1 = some x) (hfin : (T k).2.2.2 = false) {ty : FieldType} {v : Int32} (hd : parseFieldDescriptor (T k).2.2.1 = some ty) (hn : narrow ty (.int v) = .int v) (hfit : fits ty (.int v) = true)
    (hdg : decode cc pc = .ok (.putfield index, 3)) (kk : ∀ (H1 : Heap) (locs1 : List Loc), HI D S0 (wI S a k v) s H1 locs1 → W p l e R s m args below meth c H1 locs1 cells slots Q (F0 m (pc + 3) ls rest)) : W p l e R s m args below meth c H locs cells slots Q (F0 m pc ls (.int v :: .ref a :: rest)) := by
  have hK := hH.1.2.1
  have hap := va_apart (own := own) hts hin ty0 hty hnm hK hc
  obtain ⟨r, h1, cell, q1, q2, q3, q4⟩ := hH.1.obj ek hci 0 _ rfl
  have hr : r = (C, T, N) := Option.some.inj (h1.symm.trans hc)
  subst hr
  obtain ⟨hS, hfc, kC, hkC, hkind⟩ := hK.1 ci _ hc
  obtain ⟨cf, kf, fi, f, hi, hsl⟩ := hS k hk
  have hlay9 := hts _ (hin _ (u_in_lay hk))
  unfold u_lay at hlay9
  have hst := (u_facts hfc hkC (u_lays hts hin hk) hi).1
  have hl : k < (fl S a 0 (lay ci)).length := by rw [fl_len]; exact (List.getElem?_eq_some_iff.mp hlay).1
  have key : ∀ H' : Heap, H'[a]? = some (cell.setSlot (D.1.2 ci k) (.int v)) → hAt D (wI S a k v) s H' a := by
    intro H' e1
    unfold hAt
    rw [if_pos (by rw [kK_wI, ek]; exact hci), kK_wI, ek, Nat.add_sub_cancel]
    refine ⟨_, hc, ?_⟩
    rw [← fl_setI S a v _ k hlay]
    exact t_OB.to (V := updV (vp_V (fl S a 0 (lay ci))) k (.int v)) ⟨_, e1, q2, q3, t_set q4 hap hk (.int v)⟩ (fun j _ => vp_updV_set hl (.int v) j)
  rw [if_neg (by rw [hfin]; decide)] at hlay9
  have h6 := u_store hfc hkC hkind hlay9 hi hd hn hfit
  refine va_WputK hexec hb (f := f) hown hlink (hsame _ hi) hst (by rw [q2]; exact h6) q1 q3 (by rw [hsl]; exact k2_hasslot (q4 k hk)) rfl rfl hdg fun H' e1 e2 e3 => ?_
  rw [hsl] at e1 ⊢
  exact kk H' _ (hH.put (by rw [ek]; omega) (by rw [ek]; omega) e2 e3 (fun _ => rfl) (fun _ => rfl) rfl (fun b hb j => by rw [kI_wI, if_neg (fun z => hb z.1)]) (fun _ _ _ => rfl) (key H' e1))
theorem r_callSiN {host : String} {r : Int32} (S9 : CallFix p m c cc nL s args Ts own) (hM : MI l D y ws rm S As S' r mc ms) (cw : va_CN R s args own index y host bytes maxL ret ws rm mc ms n ∧ (Cond.static y).before args s = true ∧ True) (hH : HI D S0 S s H locs) (hNE : NE s) (hn : As.length = n) (hsize : ls.size = nL) (hstack : st0 = As.reverse ++ rest) (hW : (rest.map fun v => v.category).sum ≤ 8) (hdg : decode cc pc = .ok (.invokestatic index, 3)) (hf : cells + mc ≤ R.cells ∧ slots + ms ≤ R.slots)
    (kk : ∀ (H1 : Heap) (locs1 : List Loc), HI D S0 S' s H1 locs1 → W p l e R s m args below meth c H1 locs1 (cells + mc) (slots + ms) Q (F0 m (pc + 3) ls (.int r :: rest))) : W p l e R s m args below meth c H locs cells slots Q (F0 m pc ls st0) := by
  refine va_calli (va_runSN S9 hM cw ⟨PcH.blind D S _, hH.pre hNE _⟩ rfl hn hsize hstack (lv_room hW) hdg hf) hH.2.1 (fun q _ h => pA_mono hH.2.2.1 q h) (fun q h => pA_mono hH.2.2.1 q h) (fun r1 u t H1 locs1 ht hvm hw hB hz hk hS => ?_)
  subst hw
  exact kk H1 locs1 (hH.back ht hvm hB.1 hB.2 hS)
end HROWS3
