/-! the law's own frame: its script, its two arrays, the class and the model -/
theorem PL.blind (D : va_G × Nat) (S : PS) (as : List Value) (ty : FieldType) (o : Nat) : FrameBlind (PL D S as ty o) := fun a U g mk q => ⟨q.1, HP.moved (u := U) (U := U.calling g mk a) (Vm.Alike.refl U.vm) q.2.1, q.2.2.1.blind g mk a, NE.same (u := U) rfl q.2.2.2.1, CN.same (u := U) rfl q.2.2.2.2.1, q.2.2.2.2.2.imp fun _ h => h.moved (u := U) (U := U.calling g mk a) (Vm.Alike.refl U.vm)⟩
section HLAW
variable {p : Program} {l : Launch} {e : Env} {R : Room} {s : State} {m : MethodId} {args : Array Value} {below : List Frame} {meth : Method} {c : Code} {H : Heap} {locs : List Loc} {cells slots : Nat} {Q : State → Prop}
variable {cc bytes : ByteArray} {pc nL maxL mc ms n index : Nat} {ls : Array Slot} {rest st0 As : List Value} {D : va_G × Nat} {S0 S S' : PS} {o : Nat} {Ts ws : List Cond} {own : String} {y : MethodName} {rm : Room} {ret : Option FieldType} {ty : FieldType} {w : Value} {co : Nat → Int32} {hh : List (Nat × Nat × Nat × Nat)}
theorem HI.preL (h : HI D S0 S s H locs) (hE : EV D s s.heap) (hB : ∀ q, pA S0 q → D.2 ≤ q) (hN : NE s) (hC : CN s) (hO : OA s H ty o w) (as : List Value) : ∀ U : State, U.heap = H → s.WarmedH U.vm → PL D S as ty o as.toArray U := fun U hU hW => by
  obtain ⟨a1, a2, a3, a4⟩ := h.preX hE hB hN as U hU hW
  exact ⟨a1, a2, a3, a4, hC.warm hW, w, by rw [hU]; exact hO.moved hW.alike⟩
/-- a wrapper is called -/
theorem r_wrap {r : WR} (S9 : CallFix p m c cc nL s args Ts own) (hM : LM l D y ws rm S As ty o r co mc ms) (cw : vx_CSW R s args own index y bytes maxL ret hh ws rm mc ms n) (hH : HI D S0 S s H locs) (hE : EV D s s.heap) (hB : ∀ q, pA S0 q → D.2 ≤ q) (hNE : NE s) (hC : CN s) (hO : OA s H ty o w) (hoA : pA S0 o) (hn : As.length = n) (hsize : ls.size = nL) (hstack : st0 = As.reverse ++ rest) (hW : (rest.map fun v => v.category).sum ≤ 8) (hdg : decode cc pc = .ok (.invokestatic index, 3)) (hf : cells + mc ≤ R.cells ∧ slots + ms ≤ R.slots)
    (k1 : ∀ (u : PS × Value) (H1 : Heap) (locs1 : List Loc), r = .inl u → HI D S0 u.1 s H1 locs1 → OA s H1 ty o u.2 → KD S u.1 → (∀ q : Nat, q < H.size → ¬ AL S o q → H1[q]? = H[q]?) → W p l e R s m args below meth c H1 locs1 (cells + mc) (slots + ms) Q (F0 m (pc + 3) ls (.int 0 :: rest)))
    (k2 : ∀ (u : PS × Nat) (z : Nat) (H1 : Heap) (locs1 : List Loc), r = .inr u → kZ u.1 ≤ z → HI D S0 (zS u.1 z) s H1 locs1 → (∃ w1, OA s H1 ty o w1) → KD S u.1 → (∀ q : Nat, q < H.size → ¬ AL S o q → H1[q]? = H[q]?) → W p l e R s m args below meth c H1 locs1 (cells + mc) (slots + ms) Q (F0 m (pc + 3) ls (.int (co u.2) :: rest))) : W p l e R s m args below meth c H locs cells slots Q (F0 m pc ls st0) := by
  have hr : vx_Run p l e R s m args below meth c H locs cells slots mc ms (F0 m pc ls st0) rest (QL D S ty o r co As.toArray) XN (AL S o) := vx_runSX S9 hM cw ⟨PL.blind D S _ ty o, hH.preL hE hB hNE hC hO _⟩ rfl hn hsize hstack (lv_room hW) hdg hf
  have hfree : ∀ q, AL S o q → pA S0 q := fun q h => h.elim (fun h => pA_mono hH.2.2.1 q h) (fun h => by rw [h]; exact hoA)
  intro T hT X
  rcases hr T hT X with ⟨v1, st₀, t, T', L, h0, X', hL, e1, e2, ⟨hq, hF⟩, st⟩ | ⟨q, st₀, t, T', L, E, ce, h0, X', hL, e1, e2, hx, -⟩
  · have hvm : t.vm.Alike s.vm := by rw [← e2]; exact X'.warmed.alike.symm
    obtain ⟨g1, g2, g3⟩ := vx_keep h0 e1 hH.2.1 (fun q _ h => hfree q h) hfree hL hF
    cases r with
    | inl u =>
      obtain ⟨y1, y2, y3, y4⟩ := hq
      cases y1
      obtain ⟨t2, a1, b1⟩ := k1 u T'.heap (locs ++ L) rfl ⟨by rw [e1]; exact y2.moved hvm, g3, hH.2.2.1.tr y3, hH.2.2.2⟩ (by rw [e1]; exact y4.moved hvm) y3 g2 T' rfl X'
      exact ⟨t2, st t2 a1, b1⟩
    | inr u =>
      obtain ⟨y1, y3, z, hz, y2, w1, y4⟩ := hq
      cases y1
      obtain ⟨t2, a1, b1⟩ := k2 u z T'.heap (locs ++ L) rfl hz ⟨by rw [e1]; exact y2.moved hvm, g3, ⟨fun q hq => (hH.2.2.1.tr y3).1 q hq, Nat.le_trans (hH.2.2.1.tr y3).2 hz⟩, hH.2.2.2⟩ ⟨w1, by rw [e1]; exact y4.moved hvm⟩ y3 g2 T' rfl X'
      exact ⟨t2, st t2 a1, b1⟩
  · exact hx.elim
theorem r_lald {v : Int64} (hexec : p.tables.exec = Jvm.exec) (hb : c.code = cc) (h : OA s H .long o (.long v)) (hdg : decode cc pc = .ok (.laload, 1))
    (kk : W p l e R s m args below meth c H locs cells slots Q (F0 m (pc + 1) ls (.long v :: rest))) : W p l e R s m args below meth c H locs cells slots Q (F0 m pc ls (.int 0 :: .ref o :: rest)) := by
  obtain ⟨cA, f, h1, h2, h3, h4⟩ := h
  exact W.lald (v := .long v) hexec hb h4 (h1 1 f) (fun q => by cases q) (by show ¬ ((0 : Int32) < 0 ∨ (arrV _ _ _).slots.size ≤ _); rw [arrV_size]; decide) (by show (arrV _ _ _).slots[_]? = _; rw [arrV_read _ _ (show (0 : Int32).toNatClampNeg < 1 by decide)]; exact congrArg some h3) rfl rfl hdg kk
theorem r_dald {v : UInt64} (hexec : p.tables.exec = Jvm.exec) (hb : c.code = cc) (h : OA s H .double o (.double v)) (hdg : decode cc pc = .ok (.daload, 1))
    (kk : W p l e R s m args below meth c H locs cells slots Q (F0 m (pc + 1) ls (.double v :: rest))) : W p l e R s m args below meth c H locs cells slots Q (F0 m pc ls (.int 0 :: .ref o :: rest)) := by
  obtain ⟨cA, f, h1, h2, h3, h4⟩ := h
  exact W.dald (v := .double v) hexec hb h4 (h1 1 f) (fun q => by cases q) (by show ¬ ((0 : Int32) < 0 ∨ (arrV _ _ _).slots.size ≤ _); rw [arrV_size]; decide) (by show (arrV _ _ _).slots[_]? = _; rw [arrV_read _ _ (show (0 : Int32).toNatClampNeg < 1 by decide)]; exact congrArg some h3) rfl rfl hdg kk
theorem lg_cmp_self (x : Int64) : lg_cmp x x = 0 := by simp [lg_cmp]
end HLAW
/-- the law's frame -/
def LC (p : Program) (l : Launch) (s : State) (m : MethodId) (c : Code) (b : Nat) (c0 : Cond) (D : va_G × Nat) (S0 : PS) (L : Nat) (xs : Nat → Int32) : Prop := p.tables.exec = Jvm.exec ∧ c.code = cL_law ∧ c.maxLocals = 9 ∧ s.vm.findClass RL = some m.cls ∧ (∀ w ∈ c0 :: GW, w.before #[Value.ref b] s = true) ∧ EV D s s.heap ∧ NE s ∧ CN s ∧ l.stackTraces = false ∧ (∀ q, pA S0 q → D.2 ≤ q) ∧ va_X b L xs s s.heap ∧ b < s.heap.size ∧ ¬ pA S0 b ∧ L ≤ 2560
/-- the law's world: the class and the model tell T; two arrays for answers -/
def LH (D : va_G × Nat) (S0 : PS) (s : State) (x o o2 : Nat) (T : St) (P : PS) (H : Heap) (locs : List Loc) : Prop := HI D S0 P s H locs ∧ lP P x T ∧ (∃ w, OA s H .long o w) ∧ (∃ w, OA s H .double o2 w) ∧ kK P o = 0 ∧ kK P o2 = 0 ∧ o < kZ P ∧ o2 < kZ P ∧ pA S0 o ∧ pA S0 o2 ∧ o ≠ o2
abbrev LB (b x o o2 i : Nat) : List (Nat × Value) := [(0, .ref b), (1, .ref x), (2, .ref (x + 79)), (3, .ref o), (4, .ref o2), (5, .int (nI i))]
theorem LH.k9 {D : va_G × Nat} {S0 : PS} {s : State} {x o o2 : Nat} {T : St} {P : PS} {H : Heap} {locs : List Loc} (h : LH D S0 s x o o2 T P H locs) : kK P x = 13 := cK_0 h.2.1.2.1.1
theorem lP.k10 {x : Nat} {T : St} {P : PS} (h : lP P x T) : kK P (x + 79) = 14 := xK_0 h.2.2.1
