/-! calls out of the law's frame: what the callee may not write stays -/
section HLAW2
variable {p : Program} {l : Launch} {e : Env} {R : Room} {s : State} {m : MethodId} {args : Array Value} {below : List Frame} {meth : Method} {c : Code} {H : Heap} {locs : List Loc} {cells slots : Nat} {Q : State → Prop}
variable {cc bytes : ByteArray} {pc nL maxL mc ms n index : Nat} {ls : Array Slot} {rest st0 As : List Value} {D : va_G × Nat} {S0 S S' : PS} {b : Nat} {Ts ws : List Cond} {own C : String} {y : MethodName} {rm : Room} {ret : Option FieldType}
theorem r_ki {r : Int32} (S9 : CallFix p m c cc nL s args Ts own) (hM : MI l D y ws rm S (.ref b :: As) S' r mc ms) (cw : CallW R s args own C index y bytes maxL ret ws rm mc ms n) (hH : HI D S0 S s H locs) (hNE : NE s) (ci : Nat) {q : vw_C} (ek : kK S b = ci + 1) (hci : ci + 1 ≤ 100) (hc : vwCl[ci]? = some q) (hC : q.1 = C) (hn : As.length = n) (hsize : ls.size = nL) (hstack : st0 = As.reverse ++ .ref b :: rest) (hW : (rest.map fun v => v.category).sum ≤ 8) (hdg : decode cc pc = .ok (.invokevirtual index, 3)) (hf : cells + mc ≤ R.cells ∧ slots + ms ≤ R.slots)
    (kk : ∀ (H1 : Heap) (locs1 : List Loc), HI D S0 S' s H1 locs1 → KD S S' → (∀ q : Nat, q < H.size → ¬ pA S q → H1[q]? = H[q]?) → W p l e R s m args below meth c H1 locs1 (cells + mc) (slots + ms) Q (F0 m (pc + 3) ls (.int r :: rest))) : W p l e R s m args below meth c H locs cells slots Q (F0 m pc ls st0) := by
  subst hC
  refine va_calli (va_runV S9 hM cw ⟨PcH.blind D S _, hH.recv ci ek hci hc, hH.pre hNE _⟩ rfl hn hsize hstack (lv_room hW) hdg hf) hH.2.1 (fun q _ h => pA_mono hH.2.2.1 q h) (fun q h => pA_mono hH.2.2.1 q h) (fun r1 u t H1 locs1 ht hvm hw hB hz hk hS => ?_)
  subst hw
  exact kk H1 locs1 (hH.back ht hvm hB.1 hB.2 hS) hB.2 hk
theorem r_kl {r : Int64} (S9 : CallFix p m c cc nL s args Ts own) (hM : ML l D y ws rm S (.ref b :: As) S' r mc ms) (cw : CallW R s args own C index y bytes maxL ret ws rm mc ms n) (hH : HI D S0 S s H locs) (hNE : NE s) (ci : Nat) {q : vw_C} (ek : kK S b = ci + 1) (hci : ci + 1 ≤ 100) (hc : vwCl[ci]? = some q) (hC : q.1 = C) (hn : As.length = n) (hsize : ls.size = nL) (hstack : st0 = As.reverse ++ .ref b :: rest) (hW : (rest.map fun v => v.category).sum ≤ 8) (hdg : decode cc pc = .ok (.invokevirtual index, 3)) (hf : cells + mc ≤ R.cells ∧ slots + ms ≤ R.slots)
    (kk : ∀ (H1 : Heap) (locs1 : List Loc), HI D S0 S' s H1 locs1 → KD S S' → (∀ q : Nat, q < H.size → ¬ pA S q → H1[q]? = H[q]?) → W p l e R s m args below meth c H1 locs1 (cells + mc) (slots + ms) Q (F0 m (pc + 3) ls (.long r :: rest))) : W p l e R s m args below meth c H locs cells slots Q (F0 m pc ls st0) := by
  subst hC
  refine va_calll (va_runV S9 hM cw ⟨PcH.blind D S _, hH.recv ci ek hci hc, hH.pre hNE _⟩ rfl hn hsize hstack (lv_room hW) hdg hf) hH.2.1 (fun q _ h => pA_mono hH.2.2.1 q h) (fun q h => pA_mono hH.2.2.1 q h) (fun r1 u t H1 locs1 ht hvm hw hB hz hk hS => ?_)
  subst hw
  exact kk H1 locs1 (hH.back ht hvm hB.1 hB.2 hS) hB.2 hk
theorem r_kf {r : UInt32} (S9 : CallFix p m c cc nL s args Ts own) (hM : MF l D y ws rm S (.ref b :: As) S' r mc ms) (cw : CallW R s args own C index y bytes maxL ret ws rm mc ms n) (hH : HI D S0 S s H locs) (hNE : NE s) (ci : Nat) {q : vw_C} (ek : kK S b = ci + 1) (hci : ci + 1 ≤ 100) (hc : vwCl[ci]? = some q) (hC : q.1 = C) (hn : As.length = n) (hsize : ls.size = nL) (hstack : st0 = As.reverse ++ .ref b :: rest) (hW : (rest.map fun v => v.category).sum ≤ 8) (hdg : decode cc pc = .ok (.invokevirtual index, 3)) (hf : cells + mc ≤ R.cells ∧ slots + ms ≤ R.slots)
    (kk : ∀ (H1 : Heap) (locs1 : List Loc), HI D S0 S' s H1 locs1 → KD S S' → (∀ q : Nat, q < H.size → ¬ pA S q → H1[q]? = H[q]?) → W p l e R s m args below meth c H1 locs1 (cells + mc) (slots + ms) Q (F0 m (pc + 3) ls (.float r :: rest))) : W p l e R s m args below meth c H locs cells slots Q (F0 m pc ls st0) := by
  subst hC
  refine va_callf (va_runV S9 hM cw ⟨PcH.blind D S _, hH.recv ci ek hci hc, hH.pre hNE _⟩ rfl hn hsize hstack (lv_room hW) hdg hf) hH.2.1 (fun q _ h => pA_mono hH.2.2.1 q h) (fun q h => pA_mono hH.2.2.1 q h) (fun r1 u t H1 locs1 ht hvm hw hB hz hk hS => ?_)
  subst hw
  exact kk H1 locs1 (hH.back ht hvm hB.1 hB.2 hS) hB.2 hk
theorem r_kd {r : UInt64} (S9 : CallFix p m c cc nL s args Ts own) (hM : MD l D y ws rm S (.ref b :: As) S' r mc ms) (cw : CallW R s args own C index y bytes maxL ret ws rm mc ms n) (hH : HI D S0 S s H locs) (hNE : NE s) (ci : Nat) {q : vw_C} (ek : kK S b = ci + 1) (hci : ci + 1 ≤ 100) (hc : vwCl[ci]? = some q) (hC : q.1 = C) (hn : As.length = n) (hsize : ls.size = nL) (hstack : st0 = As.reverse ++ .ref b :: rest) (hW : (rest.map fun v => v.category).sum ≤ 8) (hdg : decode cc pc = .ok (.invokevirtual index, 3)) (hf : cells + mc ≤ R.cells ∧ slots + ms ≤ R.slots)
    (kk : ∀ (H1 : Heap) (locs1 : List Loc), HI D S0 S' s H1 locs1 → KD S S' → (∀ q : Nat, q < H.size → ¬ pA S q → H1[q]? = H[q]?) → W p l e R s m args below meth c H1 locs1 (cells + mc) (slots + ms) Q (F0 m (pc + 3) ls (.double r :: rest))) : W p l e R s m args below meth c H locs cells slots Q (F0 m pc ls st0) := by
  subst hC
  refine va_calld (va_runV S9 hM cw ⟨PcH.blind D S _, hH.recv ci ek hci hc, hH.pre hNE _⟩ rfl hn hsize hstack (lv_room hW) hdg hf) hH.2.1 (fun q _ h => pA_mono hH.2.2.1 q h) (fun q h => pA_mono hH.2.2.1 q h) (fun r1 u t H1 locs1 ht hvm hw hB hz hk hS => ?_)
  subst hw
  exact kk H1 locs1 (hH.back ht hvm hB.1 hB.2 hS) hB.2 hk
theorem r_kie {r : Int32} (S9 : CallFix p m c cc nL s args Ts own) (hM : MIE l D y ws rm S (.ref b :: As) S' r mc ms) (cw : CallW R s args own C index y bytes maxL ret ws rm mc ms n) (hH : HI D S0 S s H locs) (hE : EV D s s.heap) (hB9 : ∀ q, pA S0 q → D.2 ≤ q) (hNE : NE s) (ci : Nat) {q : vw_C} (ek : kK S b = ci + 1) (hci : ci + 1 ≤ 100) (hc : vwCl[ci]? = some q) (hC : q.1 = C) (hn : As.length = n) (hsize : ls.size = nL) (hstack : st0 = As.reverse ++ .ref b :: rest) (hW : (rest.map fun v => v.category).sum ≤ 8) (hdg : decode cc pc = .ok (.invokevirtual index, 3)) (hf : cells + mc ≤ R.cells ∧ slots + ms ≤ R.slots)
    (kk : ∀ (H1 : Heap) (locs1 : List Loc), HI D S0 S' s H1 locs1 → KD S S' → (∀ q : Nat, q < H.size → ¬ pA S q → H1[q]? = H[q]?) → W p l e R s m args below meth c H1 locs1 (cells + mc) (slots + ms) Q (F0 m (pc + 3) ls (.int r :: rest))) : W p l e R s m args below meth c H locs cells slots Q (F0 m pc ls st0) := by
  subst hC
  refine va_calli (va_runV S9 hM cw ⟨PcX.blind D S _, hH.recv ci ek hci hc, hH.preX hE hB9 hNE _⟩ rfl hn hsize hstack (lv_room hW) hdg hf) hH.2.1 (fun q _ h => pA_mono hH.2.2.1 q h) (fun q h => pA_mono hH.2.2.1 q h) (fun r1 u t H1 locs1 ht hvm hw hB hz hk hS => ?_)
  subst hw
  exact kk H1 locs1 (hH.back ht hvm hB.1 hB.2 hS) hB.2 hk
theorem r_kle {r : Int64} (S9 : CallFix p m c cc nL s args Ts own) (hM : MLE l D y ws rm S (.ref b :: As) S' r mc ms) (cw : CallW R s args own C index y bytes maxL ret ws rm mc ms n) (hH : HI D S0 S s H locs) (hE : EV D s s.heap) (hB9 : ∀ q, pA S0 q → D.2 ≤ q) (hNE : NE s) (ci : Nat) {q : vw_C} (ek : kK S b = ci + 1) (hci : ci + 1 ≤ 100) (hc : vwCl[ci]? = some q) (hC : q.1 = C) (hn : As.length = n) (hsize : ls.size = nL) (hstack : st0 = As.reverse ++ .ref b :: rest) (hW : (rest.map fun v => v.category).sum ≤ 8) (hdg : decode cc pc = .ok (.invokevirtual index, 3)) (hf : cells + mc ≤ R.cells ∧ slots + ms ≤ R.slots)
    (kk : ∀ (H1 : Heap) (locs1 : List Loc), HI D S0 S' s H1 locs1 → KD S S' → (∀ q : Nat, q < H.size → ¬ pA S q → H1[q]? = H[q]?) → W p l e R s m args below meth c H1 locs1 (cells + mc) (slots + ms) Q (F0 m (pc + 3) ls (.long r :: rest))) : W p l e R s m args below meth c H locs cells slots Q (F0 m pc ls st0) := by
  subst hC
  refine va_calll (va_runV S9 hM cw ⟨PcX.blind D S _, hH.recv ci ek hci hc, hH.preX hE hB9 hNE _⟩ rfl hn hsize hstack (lv_room hW) hdg hf) hH.2.1 (fun q _ h => pA_mono hH.2.2.1 q h) (fun q h => pA_mono hH.2.2.1 q h) (fun r1 u t H1 locs1 ht hvm hw hB hz hk hS => ?_)
  subst hw
  exact kk H1 locs1 (hH.back ht hvm hB.1 hB.2 hS) hB.2 hk
end HLAW2
/-- what a call leaves of the law's world -/
theorem LH.step {D : va_G × Nat} {S0 : PS} {s : State} {x o o2 : Nat} {T T1 : St} {P P1 : PS} {H H1 : Heap} {locs locs1 : List Loc} (h : LH D S0 s x o o2 T P H locs) (hH : HI D S0 P1 s H1 locs1) (hk : KD P P1) (hq : ∀ q : Nat, q < H.size → ¬ pA P q → H1[q]? = H[q]?) (hl : lP P1 x T1) : LH D S0 s x o o2 T1 P1 H1 locs1 := by
  obtain ⟨h1, h2, ⟨w1, h3⟩, ⟨w2, h4⟩, h5, h6, h7, h8, h9, h10, h11⟩ := h
  have no : ∀ q, kK P q = 0 → q < kZ P → ¬ pA P q := fun q a b z => z.elim (fun z => z.1 a) (fun z => absurd b (Nat.not_lt.mpr z))
  exact ⟨hH, hl, ⟨w1, h3.heap (hq o h3.lt (no o h5 h7))⟩, ⟨w2, h4.heap (hq o2 h4.lt (no o2 h6 h8))⟩, (hk.1 o h7).trans h5, (hk.1 o2 h8).trans h6, Nat.lt_of_lt_of_le h7 hk.2, Nat.lt_of_lt_of_le h8 hk.2, h9, h10, h11⟩
section HLAW3
variable {p : Program} {l : Launch} {e : Env} {R : Room} {s : State} {m : MethodId} {args : Array Value} {below : List Frame} {meth : Method} {c : Code} {H : Heap} {locs : List Loc} {cells slots : Nat} {Q : State → Prop}
variable {pc b L nL : Nat} {ls : Array Slot} {rest : List Value} {D : va_G × Nat} {S0 P : PS} {c0 : Cond} {xs : Nat → Int32}
/-- an element of the script -/
theorem r_arg (k : Nat) {i : Nat} (C : LC p l s m c b c0 D S0 L xs) (hH : HI D S0 P s H locs) (e0 : ls[0]? = some (.val (.ref b))) (e5 : ls[5]? = some (.val (.int (nI i)))) (hk : k ≤ 4) (hi : i + 5 ≤ L) (d0 : decode cL_law pc = .ok (.aload_n 0, 1)) (d1 : decode cL_law (pc + 1) = .ok (.iload 5, 2)) (d2 : decode cL_law (pc + 3) = .ok (.iconst (k : Int), 1)) (d3 : decode cL_law (pc + 4) = .ok (.iadd, 1)) (d4 : decode cL_law (pc + 5) = .ok (.iaload, 1))
    (kk : W p l e R s m args below meth c H locs cells slots Q (F0 m (pc + 6) ls (.int (xs (i + k)) :: rest))) : W p l e R s m args below meth c H locs cells slots Q (F0 m pc ls rest) := by
  obtain ⟨hx, hb, -, -, -, -, -, -, -, -, hX, hbl, hbA, hL⟩ := C
  refine lv_aload_n hx hb d0 rfl e0 ?_
  refine lv_iload hx hb d1 e5 ?_
  refine lv_iconst (v := nI k) hx hb d2 (by
    have : k = 0 ∨ k = 1 ∨ k = 2 ∨ k = 3 ∨ k = 4 := by omega
    rcases this with rfl | rfl | rfl | rfl | rfl <;> rfl) ?_
  refine lv_iadd hx hb d3 ?_
  refine lv_topE (nI_add i k) ?_
  refine va_sld hx hb hX hbl hbA hH.2.1 (i := nI (i + k)) (bd (by omega) (by omega)) d4 ?_
  exact lv_topE (by rw [nI_clamp (by omega)]) kk
/-- a script's int as a boolean -/
def zb (v : Int32) : Int32 := if v = 0 then 0 else 1
theorem zb_01 (v : Int32) : zb v = 0 ∨ zb v = 1 := by unfold zb; split <;> simp
theorem r_bool {cc : ByteArray} {v : Int32} (hx : p.tables.exec = Jvm.exec) (hb : c.code = cc) (d0 : decode cc pc = .ok (.ifCond .eq 7, 3)) (d1 : decode cc (pc + 3) = .ok (.iconst 1, 1)) (d2 : decode cc (pc + 4) = .ok (.goto 4, 3)) (d3 : decode cc (pc + 7) = .ok (.iconst 0, 1))
    (kk : W p l e R s m args below meth c H locs cells slots Q (F0 m (pc + 8) ls (.int (zb v) :: rest))) : W p l e R s m args below meth c H locs cells slots Q (F0 m pc ls (.int v :: rest)) := by
  refine lv_if_eq (tgt := pc + 7) hx hb d0 (by omega) (fun h0 => ?_) (fun h0 => ?_)
  · refine lv_iconst (v := 0) hx hb d3 (by decide) ?_
    unfold zb at kk
    rw [if_pos h0] at kk
    exact kk
  · refine lv_iconst (v := 1) hx hb d1 (by decide) ?_
    refine lv_goto (tgt := pc + 8) hx hb d2 (by omega) ?_
    unfold zb at kk
    rw [if_neg h0] at kk
    exact kk
def ch (v : Int32) : Int32 := (v.toUInt32 % 65536).toInt32
end HLAW3
