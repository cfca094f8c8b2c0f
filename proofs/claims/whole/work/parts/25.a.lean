/-! the law's wrappers: what is thrown is caught; the answer lies in an array of one -/
def CN (U : State) : Prop := (∀ j, 1 ≤ j → j ≤ 6 → va_Nw (.castable (exN j) (exN j)) U) ∧ ∀ i j, 1 ≤ i → i ≤ 6 → 1 ≤ j → j ≤ 6 → i ≠ j → va_Nc (exN i) (exN j) U
theorem CN.warm {s U : State} (hW : s.WarmedH U.vm) (h : CN s) : CN U := ⟨fun j h1 h2 => va_Nw.warmC hW (h.1 j h1 h2), fun i j h1 h2 h3 h4 h5 => (h.2 i j h1 h2 h3 h4 h5).moved hW.alike⟩
theorem CN.same {u U : State} (hv : u.vm = U.vm) (h : CN u) : CN U := ⟨fun j h1 h2 => va_Nw.same rfl hv (h.1 j h1 h2), fun i j h1 h2 h3 h4 h5 => (h.2 i j h1 h2 h3 h4 h5).moved (by rw [hv]; exact Vm.Alike.refl U.vm)⟩
def OA (U : State) (H : Heap) (ty : FieldType) (o : Nat) (w : Value) : Prop := ∃ (cA : ClassId) (f : Nat → Value), ArrOfT U cA ty ∧ va_RA U cA ty ∧ f 0 = w ∧ H[o]? = some (arrV cA 1 f)
theorem OA.moved {u U : State} {H : Heap} {ty : FieldType} {o : Nat} {w : Value} (hvm : u.vm.Alike U.vm) (h : OA u H ty o w) : OA U H ty o w := by
  obtain ⟨cA, f, h1, h2, h3, h4⟩ := h
  exact ⟨cA, f, arrOfT_moved hvm h1, h2.moved hvm, h3, h4⟩
theorem OA.heap {U : State} {H H1 : Heap} {ty : FieldType} {o : Nat} {w : Value} (h : OA U H ty o w) (e : H1[o]? = H[o]?) : OA U H1 ty o w := by
  obtain ⟨cA, f, h1, h2, h3, h4⟩ := h
  exact ⟨cA, f, h1, h2, h3, e.trans h4⟩
theorem OA.lt {U : State} {H : Heap} {ty : FieldType} {o : Nat} {w : Value} (h : OA U H ty o w) : o < H.size := by
  obtain ⟨cA, f, h1, h2, h3, h4⟩ := h
  exact (Array.getElem?_eq_some_iff.mp h4).1
theorem HP.other {D : va_G × Nat} {S : PS} {U : State} {H H1 : Heap} {o : Nat} (h : HP D S U H) (ho : kK S o = 0) (hD : D.2 ≤ o) (hz : H1.size = H.size) (oq : ∀ q : Nat, q ≠ o → H1[q]? = H[q]?) : HP D S U H1 := by
  obtain ⟨z0, e0, z1, z2, z3, z4⟩ := h.2.2.2.2.2
  exact ⟨fun b hb => (h.1 b hb).cong rfl rfl (fun _ => rfl) (fun _ => rfl) (oq b (fun e => hb (by rw [e]; exact ho))), h.2.1, by rw [hz]; exact h.2.2.1, h.2.2.2.1, h.2.2.2.2.1, z0, e0, z1, z2, z3, z4.kept (fun q _ h9 => oq q (fun e => h9 (by rw [e]; exact hD)))⟩
def AL (S : PS) (o : Nat) : Nat → Prop := fun q => pA S q ∨ q = o
theorem va_S.al {S : PS} {o : Nat} {H0 H : Heap} {locs : List Loc} (h : va_S (pA S) H0 H locs) : va_S (AL S o) H0 H locs := ⟨h.1, fun q h1 h2 => h.2.1 q h1 (fun z => h2 (Or.inl z)), fun l hl => Or.inl (h.2.2 l hl)⟩
abbrev WR : Type := (PS × Value) ⊕ (PS × Nat)
def QL (D : va_G × Nat) (S0 : PS) (ty : FieldType) (o : Nat) (r : WR) (co : Nat → Int32) : Array Value → State → Outcome → State → Prop := fun _ st oc t => (match r with
  | .inl u => oc = .returned (some (.int 0)) ∧ HP D u.1 t t.heap ∧ KD S0 u.1 ∧ OA t t.heap ty o u.2
  | .inr u => oc = .returned (some (.int (co u.2))) ∧ KD S0 u.1 ∧ ∃ z, kZ u.1 ≤ z ∧ HP D (zS u.1 z) t t.heap ∧ ∃ w, OA t t.heap ty o w) ∧ va_F (AL S0 o) st t
abbrev XN : String → State → State → Prop := fun _ _ _ => False
abbrev PL (D : va_G × Nat) (S : PS) (as : List Value) (ty : FieldType) (o : Nat) : Array Value → State → Prop := va_Pc as (fun U => HP D S U U.heap ∧ EV D U U.heap ∧ NE U ∧ CN U ∧ ∃ w, OA U U.heap ty o w)
def LM (l : Launch) (D : va_G × Nat) (y : MethodName) (ws : List Cond) (rm : Room) (S : PS) (as : List Value) (ty : FieldType) (o : Nat) (r : WR) (co : Nat → Int32) (mc ms : Nat) : Prop := vx_Met l y ws rm (PL D S as ty o) (QL D S ty o r co) XN mc ms (AL S o)
def wI9 (r : (PS × Int32) ⊕ (PS × Nat)) : WR := match r with
  | .inl u => .inl (u.1, .long u.2.toInt64)
  | .inr u => .inr u
def wF9 (r : (PS × UInt32) ⊕ (PS × Nat)) : WR := match r with
  | .inl u => .inl (u.1, .double (FP.f2d u.2))
  | .inr u => .inr u
def wD9 (r : (PS × UInt64) ⊕ (PS × Nat)) : WR := match r with
  | .inl u => .inl (u.1, .double u.2)
  | .inr u => .inr u
section HWRAP
variable {p : Program} {l : Launch} {e : Env} {R : Room} {s : State} {m : MethodId} {args : Array Value} {below : List Frame} {meth : Method} {c : Code} {H : Heap} {locs : List Loc} {cells slots : Nat} {Q : State → Prop}
variable {cc : ByteArray} {pc : Nat} {ls : Array Slot} {rest : List Value} {D : va_G × Nat} {S0 S : PS} {o : Nat} {ty : FieldType} {co : Nat → Int32} {w : Value}
theorem r_last (hexec : p.tables.exec = Jvm.exec) (hb : c.code = cc) (h : OA s H .long o w) {x : Int64} (hdg : decode cc pc = .ok (.lastore, 1))
    (kk : ∀ (H1 : Heap) (k : Nat), OA s H1 .long o (.long x) → H1.size = H.size → (∀ q : Nat, q ≠ o → H1[q]? = H[q]?) → W p l e R s m args below meth c H1 (locs ++ [⟨o, k⟩]) cells slots Q (F0 m (pc + 1) ls rest)) : W p l e R s m args below meth c H locs cells slots Q (F0 m pc ls (.long x :: .int 0 :: .ref o :: rest)) := by
  obtain ⟨cA, f, h1, h2, h3, h4⟩ := h
  refine W.last hexec hb h4 (h1 1 f) (fun q => by cases q) (by show ¬ ((0 : Int32) < 0 ∨ (arrV _ _ _).slots.size ≤ _); rw [arrV_size]; decide) rfl rfl hdg fun H1 e z oq => ?_
  refine kk H1 _ ⟨cA, updV f 0 (.long x), h1, h2, by simp [updV], ?_⟩ z oq
  rw [e, arrV_store]
  rfl
theorem r_dast (hexec : p.tables.exec = Jvm.exec) (hb : c.code = cc) (h : OA s H .double o w) {x : UInt64} (hdg : decode cc pc = .ok (.dastore, 1))
    (kk : ∀ (H1 : Heap) (k : Nat), OA s H1 .double o (.double x) → H1.size = H.size → (∀ q : Nat, q ≠ o → H1[q]? = H[q]?) → W p l e R s m args below meth c H1 (locs ++ [⟨o, k⟩]) cells slots Q (F0 m (pc + 1) ls rest)) : W p l e R s m args below meth c H locs cells slots Q (F0 m pc ls (.double x :: .int 0 :: .ref o :: rest)) := by
  obtain ⟨cA, f, h1, h2, h3, h4⟩ := h
  refine W.dast hexec hb h4 (h1 1 f) (fun q => by cases q) (by show ¬ ((0 : Int32) < 0 ∨ (arrV _ _ _).slots.size ≤ _); rw [arrV_size]; decide) rfl rfl hdg fun H1 e z oq => ?_
  refine kk H1 _ ⟨cA, updV f 0 (.double x), h1, h2, by simp [updV], ?_⟩ z oq
  rw [e, arrV_store]
  rfl
/-- the good end -/
theorem e_ok {u : PS × Value} (hexec : p.tables.exec = Jvm.exec) (hb : c.code = cc) (hr : meth.sig.returnType = some .int) (hlocks : meth.locks = false) (hP : HP D u.1 s H) (hk : KD S u.1) (hO : OA s H ty o u.2) (hS : va_S (AL S o) s.heap H locs) (hdg : decode cc pc = .ok (.ireturn, 1)) : W p l e R s m args below meth c H locs cells slots (vx_MQ below (QL D S ty o (.inl u) co) XN args s cells slots (AL S o)) (F0 m pc ls [.int 0]) :=
  vx_ret (W.iret hexec hb hr (fun t ht hW => ⟨⟨rfl, by rw [ht]; exact hP.moved hW.alike, hk, by rw [ht]; exact hO.moved hW.alike⟩, hS.F ht⟩) hS.2.2 hdg)
/-- the end behind a catch -/
theorem e_no {u : PS × Nat} {z : Nat} {k : Int32} (hco : co u.2 = k) (hexec : p.tables.exec = Jvm.exec) (hb : c.code = cc) (hr : meth.sig.returnType = some .int) (hlocks : meth.locks = false) (hz : kZ u.1 ≤ z) (hP : HP D (zS u.1 z) s H) (hk : KD S u.1) (hO : OA s H ty o w) (hS : va_S (AL S o) s.heap H locs) (hdg : decode cc pc = .ok (.ireturn, 1)) : W p l e R s m args below meth c H locs cells slots (vx_MQ below (QL D S ty o (.inr u) co) XN args s cells slots (AL S o)) (F0 m pc ls [.int k]) := by
  subst hco
  exact vx_ret (W.iret hexec hb hr (fun t ht hW => ⟨⟨rfl, hk, z, hz, by rw [ht]; exact hP.moved hW.alike, w, by rw [ht]; exact hO.moved hW.alike⟩, hS.F ht⟩) hS.2.2 hdg)
/-- the array is as it was -/
theorem HI.oa (hH : HI D S S0 s H locs) (hO : OA s s.heap ty o w) (ho : kK S o = 0) (ho2 : o < kZ S) : OA s H ty o w := hO.heap (hH.2.1.2.1 o hO.lt (fun z => by
  rcases z with z | z
  · exact z.1 ho
  · omega))
end HWRAP
