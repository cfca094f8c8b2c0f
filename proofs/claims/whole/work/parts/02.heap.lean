/-! THE PURE HEAP: kind, length, ints and references of each address, and the next address -/
abbrev PS : Type := (Nat → Nat) × (Nat → Nat) × (Nat → Nat → Int32) × (Nat → Nat → Option Nat) × Nat
def kK (S : PS) (a : Nat) : Nat := S.1 a
def kN (S : PS) (a : Nat) : Nat := S.2.1 a
def kI (S : PS) (a k : Nat) : Int32 := S.2.2.1 a k
def kQ (S : PS) (a k : Nat) : Option Nat := S.2.2.2.1 a k
def kZ (S : PS) : Nat := S.2.2.2.2
def wI (S : PS) (a k : Nat) (v : Int32) : PS := (S.1, S.2.1, fun b j => if b = a ∧ j = k then v else S.2.2.1 b j, S.2.2.2)
def wQ (S : PS) (a k : Nat) (v : Option Nat) : PS := (S.1, S.2.1, S.2.2.1, fun b j => if b = a ∧ j = k then v else S.2.2.2.1 b j, S.2.2.2.2)
def wN (S : PS) (kd n : Nat) : PS := (fun b => if b = S.2.2.2.2 then kd else S.1 b, fun b => if b = S.2.2.2.2 then n else S.2.1 b, fun b j => if b = S.2.2.2.2 then 0 else S.2.2.1 b j, fun b j => if b = S.2.2.2.2 then none else S.2.2.2.1 b j, S.2.2.2.2 + 1)
theorem kK_wI (S : PS) (a k : Nat) (v : Int32) (b : Nat) : kK (wI S a k v) b = kK S b := rfl
theorem kN_wI (S : PS) (a k : Nat) (v : Int32) (b : Nat) : kN (wI S a k v) b = kN S b := rfl
theorem kI_wI (S : PS) (a k : Nat) (v : Int32) (b j : Nat) : kI (wI S a k v) b j = if b = a ∧ j = k then v else kI S b j := rfl
theorem kQ_wI (S : PS) (a k : Nat) (v : Int32) (b j : Nat) : kQ (wI S a k v) b j = kQ S b j := rfl
theorem kZ_wI (S : PS) (a k : Nat) (v : Int32) : kZ (wI S a k v) = kZ S := rfl
theorem kK_wQ (S : PS) (a k : Nat) (v : Option Nat) (b : Nat) : kK (wQ S a k v) b = kK S b := rfl
theorem kN_wQ (S : PS) (a k : Nat) (v : Option Nat) (b : Nat) : kN (wQ S a k v) b = kN S b := rfl
theorem kI_wQ (S : PS) (a k : Nat) (v : Option Nat) (b j : Nat) : kI (wQ S a k v) b j = kI S b j := rfl
theorem kQ_wQ (S : PS) (a k : Nat) (v : Option Nat) (b j : Nat) : kQ (wQ S a k v) b j = if b = a ∧ j = k then v else kQ S b j := rfl
theorem kZ_wQ (S : PS) (a k : Nat) (v : Option Nat) : kZ (wQ S a k v) = kZ S := rfl
theorem kK_wN (S : PS) (kd n b : Nat) : kK (wN S kd n) b = if b = kZ S then kd else kK S b := rfl
theorem kN_wN (S : PS) (kd n b : Nat) : kN (wN S kd n) b = if b = kZ S then n else kN S b := rfl
theorem kI_wN (S : PS) (kd n b j : Nat) : kI (wN S kd n) b j = if b = kZ S then 0 else kI S b j := rfl
theorem kQ_wN (S : PS) (kd n b j : Nat) : kQ (wN S kd n) b j = if b = kZ S then none else kQ S b j := rfl
theorem kZ_wN (S : PS) (kd n : Nat) : kZ (wN S kd n) = kZ S + 1 := rfl
/-- the fields of an object, from slot k on: true an int, false a reference -/
def fl (S : PS) (a : Nat) : Nat → List Bool → List Value
  | _, [] => []
  | k, b :: bs => (if b = true then Value.int (kI S a k) else va_rf (kQ S a k)) :: fl S a (k + 1) bs
theorem fl_len (S : PS) (a : Nat) : ∀ (bs : List Bool) (k : Nat), (fl S a k bs).length = bs.length
  | [], _ => rfl
  | b :: bs, k => by simp [fl, fl_len S a bs (k + 1)]
theorem fl_get (S : PS) (a : Nat) : ∀ (bs : List Bool) (k j : Nat), (fl S a k bs)[j]? = bs[j]?.map (fun b => if b = true then Value.int (kI S a (k + j)) else va_rf (kQ S a (k + j)))
  | [], _, _ => by simp [fl]
  | b :: bs, k, 0 => by simp [fl]
  | b :: bs, k, j + 1 => by
    have h := fl_get S a bs (k + 1) j
    simp only [fl, List.getElem?_cons_succ]
    rw [h, show k + 1 + j = k + (j + 1) by omega]
theorem fl_congr {S S' : PS} {a : Nat} (hI : ∀ j, kI S' a j = kI S a j) (hQ : ∀ j, kQ S' a j = kQ S a j) : ∀ (bs : List Bool) (k : Nat), fl S' a k bs = fl S a k bs
  | [], _ => rfl
  | b :: bs, k => by simp only [fl, hI, hQ, fl_congr hI hQ bs (k + 1)]
theorem fl_setI (S : PS) (a : Nat) (v : Int32) (bs : List Bool) (j : Nat) (h : bs[j]? = some true) : (fl S a 0 bs).set j (.int v) = fl (wI S a j v) a 0 bs := by
  apply List.ext_getElem?
  intro i
  rw [List.getElem?_set, fl_get, fl_get, fl_len]
  by_cases hi : j = i
  · subst hi
    have hl := (List.getElem?_eq_some_iff.mp h).1
    have hv := (List.getElem?_eq_some_iff.mp h).2
    simp [hl, hv, kI_wI]
  · rw [if_neg hi]
    simp only [Nat.zero_add, kI_wI, kQ_wI]
    rw [if_neg (fun z => hi z.2.symm)]
theorem fl_setQ (S : PS) (a : Nat) (v : Option Nat) (bs : List Bool) (j : Nat) (h : bs[j]? = some false) : (fl S a 0 bs).set j (va_rf v) = fl (wQ S a j v) a 0 bs := by
  apply List.ext_getElem?
  intro i
  rw [List.getElem?_set, fl_get, fl_get, fl_len]
  by_cases hi : j = i
  · subst hi
    have hl := (List.getElem?_eq_some_iff.mp h).1
    have hv := (List.getElem?_eq_some_iff.mp h).2
    simp [hl, hv, kQ_wQ]
  · rw [if_neg hi]
    simp only [Nat.zero_add, kI_wQ, kQ_wQ]
    rw [if_neg (fun z => hi z.2.symm)]
/-- the slots of the classes in vwCl's order: true an int -/
def lay (ci : Nat) : List Bool := match ci with
  | 2 => [true, false, true]
  | 3 => [false, false, false]
  | 4 => [false, false, false, false, true, true]
  | 5 => [false, false, false, false, false, false]
  | 6 => [true, true, false]
  | 7 => [false, false]
  | 8 => [false, true]
  | 9 => [false, true, true, true, false, false]
  | 10 => [false, false, false]
  | 11 => [false, false, false, false, false, false, false, false, true, true, true]
  | 12 => [false, false, false, false, false, false, false, true, true]
  | 13 => [true, false, false, true, false, true, true, false, false, false, false, false, false, false, false, false, false, false, false, false, true, false, false, false, false, false, false, false, false, false, false, true, false, false, false, false, false, true, false, false, false, false, true, false, false, true]
  | _ => []
/-- the component type of an array's kind: 101 int, 102 char, 103 boolean, 104 and 105 references (105: nobody writes it) -/
def aty (k : Nat) : FieldType := match k with
  | 101 => .int
  | 102 => .char
  | 103 => .boolean
  | _ => .object "java/lang/Object"
def acont (S : PS) (a : Nat) : vp_A := if kK S a ≤ 103 then (kN S a, .inl (kI S a)) else (kN S a, .inr (.inr (.inr (.inr (kQ S a)))))
/-- the empty array of ArrayList, as the beginning has it -/
def hE (S : PS) (U : State) (H : Heap) (a : Nat) : Prop := ∃ cell : Cell, H[a]? = some cell ∧ U.isArrayOf cell (.object "java/lang/Object") ∧ Int32.ofNat cell.slots.size = Int32.ofNat (kN S a)
def hAt (D : va_G × Nat) (S : PS) (U : State) (H : Heap) (a : Nat) : Prop :=
  if kK S a ≤ 100 then va_at D.1 vwCl (a, .inr (kK S a - 1, fl S a 0 (lay (kK S a - 1)))) H
  else if kK S a = 105 then hE S U H a
  else ∃ cA : ClassId, ArrOfT U cA (aty (kK S a)) ∧ va_RA U cA (aty (kK S a)) ∧ va_at D.1 vwCl (a, .inl (cA, acont S a)) H
theorem z0_ne {S : PS} {a : Nat} (z : kK S 0 = 0 ∨ kK S 0 = 105) (h1 : kK S a ≠ 0) (h2 : kK S a ≠ 105) : a ≠ 0 := fun e => by subst e; exact z.elim h1 h2
/-- the empty array of ArrayList: its address stands at (0, 0); nobody writes it -/
def HZ (D : va_G × Nat) (S : PS) (U : State) (H : Heap) : Prop := (kK S 0 = 0 ∨ kK S 0 = 105) ∧ ∃ e0 : Nat, kQ S 0 0 = some e0 ∧ kK S e0 = 105 ∧ kN S e0 = 0 ∧ va_Z "java/util/ArrayList" "DEFAULTCAPACITY_EMPTY_ELEMENTDATA" "[Ljava/lang/Object;" (.ref e0) (fun q => D.2 ≤ q) U H
def HP (D : va_G × Nat) (S : PS) (U : State) (H : Heap) : Prop := (∀ a, kK S a ≠ 0 → hAt D S U H a) ∧ va_K D.1 vwCl [] U ∧ H.size = kZ S ∧ (∀ a, kK S a ≠ 0 → kK S a ≠ 105 → D.2 ≤ a) ∧ D.2 ≤ kZ S ∧ HZ D S U H
/-- which cells may be written: the system's own, and those that are made -/
def pA (S : PS) : Nat → Prop := fun q => (kK S q ≠ 0 ∧ kK S q ≠ 105) ∨ kZ S ≤ q
def KD (S S' : PS) : Prop := (∀ q, q < kZ S → kK S' q = kK S q) ∧ kZ S ≤ kZ S'
def HI (D : va_G × Nat) (S0 S : PS) (s : State) (H : Heap) (locs : List Loc) : Prop := HP D S s H ∧ va_S (pA S0) s.heap H locs ∧ KD S0 S ∧ s.heap.size = kZ S0
theorem KD.rf {S : PS} : KD S S := ⟨fun _ _ => rfl, Nat.le_refl _⟩
theorem KD.tr {S S' S'' : PS} (h1 : KD S S') (h2 : KD S' S'') : KD S S'' := ⟨fun q hq => (h2.1 q (Nat.lt_of_lt_of_le hq h1.2)).trans (h1.1 q hq), Nat.le_trans h1.2 h2.2⟩
theorem pA_mono {S0 S : PS} (h : KD S0 S) : ∀ q, pA S q → pA S0 q := by
  intro q hq
  by_cases hl : q < kZ S0
  · rcases hq with ⟨h1, h2⟩ | h1
    · rw [h.1 q hl] at h1 h2
      exact Or.inl ⟨h1, h2⟩
    · exact absurd (Nat.le_trans h.2 h1) (Nat.not_le.mpr hl)
  · exact Or.inr (Nat.not_lt.mp hl)
theorem hAt.lt {D : va_G × Nat} {S : PS} {U : State} {H : Heap} {a : Nat} (h : hAt D S U H a) : a < H.size := by
  unfold hAt at h
  split at h
  · exact va_at.lt h
  · split at h
    · obtain ⟨cell, h, _⟩ := h
      exact (Array.getElem?_eq_some_iff.mp h).1
    · obtain ⟨cA, _, _, h⟩ := h
      exact va_at.lt h
theorem HP.fresh {D : va_G × Nat} {S : PS} {U : State} {H : Heap} (h : HP D S U H) {a : Nat} (ha : kK S a ≠ 0) : a < kZ S := by
  rw [← h.2.2.1]
  exact (h.1 a ha).lt
theorem hAt.cong {D : va_G × Nat} {S S' : PS} {U : State} {H H' : Heap} {a : Nat} (hK : kK S' a = kK S a) (hN : kN S' a = kN S a) (hI : ∀ j, kI S' a j = kI S a j) (hQ : ∀ j, kQ S' a j = kQ S a j) (hH : H'[a]? = H[a]?) (h : hAt D S U H a) : hAt D S' U H' a := by
  unfold hAt at h ⊢
  rw [hK]
  split at h
  · rename_i h1
    rw [if_pos h1, fl_congr hI hQ]
    exact va_at.kept h hH
  · rename_i h1
    rw [if_neg h1]
    split at h
    · rename_i h5
      rw [if_pos h5]
      obtain ⟨cell, c1, c2, c4⟩ := h
      exact ⟨cell, hH.trans c1, c2, by rw [hN]; exact c4⟩
    rename_i h5
    rw [if_neg h5]
    obtain ⟨cA, h2, h3, h4⟩ := h
    refine ⟨cA, h2, h3, ?_⟩
    have e : acont S' a = acont S a := by
      unfold acont
      rw [hK, hN, show kI S' a = kI S a from funext hI, show kQ S' a = kQ S a from funext hQ]
    rw [e]
    exact va_at.kept h4 hH
theorem HP.moved {D : va_G × Nat} {S : PS} {u U : State} {H : Heap} (hvm : u.vm.Alike U.vm) (h : HP D S u H) : HP D S U H := by
  obtain ⟨z0, e0, z1, z2, z3, z4⟩ := h.2.2.2.2.2
  refine ⟨fun a ha => ?_, va_K.moved hvm h.2.1, h.2.2.1, h.2.2.2.1, h.2.2.2.2.1, z0, e0, z1, z2, z3, z4.moved hvm⟩
  have h1 := h.1 a ha
  unfold hAt at h1 ⊢
  split at h1
  · rename_i h2
    rw [if_pos h2]
    exact h1
  · rename_i h2
    rw [if_neg h2]
    split at h1
    · rename_i h5
      rw [if_pos h5]
      obtain ⟨cell, c1, c2, c4⟩ := h1
      exact ⟨cell, c1, State.isArrayOf_alike hvm c2, c4⟩
    rename_i h5
    rw [if_neg h5]
    obtain ⟨cA, g1, g2, g3⟩ := h1
    exact ⟨cA, arrOfT_moved hvm g1, g2.moved hvm, g3⟩
theorem HP.obj {D : va_G × Nat} {S : PS} {U : State} {H : Heap} (h : HP D S U H) {a ci : Nat} (ek : kK S a = ci + 1) (hci : ci + 1 ≤ 100) : va_P D.1 vwCl [(a, .inr (ci, fl S a 0 (lay ci)))] H := by
  have h1 := h.1 a (by rw [ek]; omega)
  unfold hAt at h1
  rw [if_pos (by rw [ek]; exact hci), ek, Nat.add_sub_cancel] at h1
  intro k q hq
  have hz : k < 1 := (List.getElem?_eq_some_iff.mp hq).1
  rw [show k = 0 by omega] at hq
  cases hq
  exact h1
theorem HP.arr {D : va_G × Nat} {S : PS} {U : State} {H : Heap} (h : HP D S U H) {a kd : Nat} (ek : kK S a = kd) (hkd : 100 < kd ∧ kd ≠ 105) : ∃ cA : ClassId, va_K D.1 vwCl [(cA, aty kd)] U ∧ va_P D.1 vwCl [(a, .inl (cA, acont S a))] H := by
  have h1 := h.1 a (by rw [ek]; omega)
  unfold hAt at h1
  rw [if_neg (by rw [ek]; omega), if_neg (by rw [ek]; exact hkd.2), ek] at h1
  obtain ⟨cA, g1, g2, g3⟩ := h1
  refine ⟨cA, ⟨h.2.1.1, fun k q hq => ?_⟩, fun k q hq => ?_⟩
  · have hz : k < 1 := (List.getElem?_eq_some_iff.mp hq).1
    rw [show k = 0 by omega] at hq
    cases hq
    exact ⟨g1, g2⟩
  · have hz : k < 1 := (List.getElem?_eq_some_iff.mp hq).1
    rw [show k = 0 by omega] at hq
    cases hq
    exact g3
theorem HI.start {D : va_G × Nat} {S : PS} {s : State} (h : HP D S s s.heap) : HI D S S s s.heap [] := ⟨h, va_S.rf, KD.rf, h.2.2.1⟩
theorem HI.hA {D : va_G × Nat} {S0 S : PS} {s : State} {H : Heap} {locs : List Loc} (h : HI D S0 S s H locs) {a : Nat} (h1 : kK S a ≠ 0) (h2 : kK S a ≠ 105) : pA S0 a := pA_mono h.2.2.1 a (Or.inl ⟨h1, h2⟩)
theorem HP.base {D : va_G × Nat} {S : PS} {U : State} {H : Heap} (h : HP D S U H) : ∀ q, pA S q → D.2 ≤ q := by
  intro q hq
  rcases hq with ⟨h1, h2⟩ | h1
  · exact h.2.2.2.1 q h1 h2
  · exact Nat.le_trans h.2.2.2.2.1 h1
theorem pA_new {S0 S : PS} {s : State} (h : s.heap.size = kZ S0) : ∀ q, s.heap.size ≤ q → pA S0 q := fun q hq => Or.inr (by rw [← h]; exact hq)
/-- one cell is written: its new content holds, all others stay -/
theorem HP.put {D : va_G × Nat} {S S' : PS} {U : State} {H H' : Heap} {a : Nat} (h : HP D S U H) (h1a : kK S a ≠ 0) (h2a : kK S a ≠ 105) (hz : H'.size = H.size) (oq : ∀ q : Nat, q ≠ a → H'[q]? = H[q]?) (hk : ∀ b, kK S' b = kK S b) (hn : ∀ b, kN S' b = kN S b) (hzz : kZ S' = kZ S) (hi : ∀ b, b ≠ a → ∀ j, kI S' b j = kI S b j) (hq : ∀ b, b ≠ a → ∀ j, kQ S' b j = kQ S b j) (hc : kK S a ≠ 0 → hAt D S' U H' a) : HP D S' U H' := by
  obtain ⟨z0, e0, z1, z2, z3, z4⟩ := h.2.2.2.2.2
  refine ⟨fun b hb => ?_, h.2.1, by rw [hz, hzz]; exact h.2.2.1, fun b h1 h2 => h.2.2.2.1 b (by rw [← hk]; exact h1) (by rw [← hk]; exact h2), by rw [hzz]; exact h.2.2.2.2.1, by rw [hk]; exact z0, e0, by rw [hq 0 (fun e => z0_ne z0 h1a h2a e.symm)]; exact z1, by rw [hk]; exact z2, by rw [hn]; exact z3, z4.kept (fun q _ h9 => oq q (fun e => h9 (by rw [e]; exact h.2.2.2.1 a h1a h2a)))⟩
  rw [hk] at hb
  by_cases e : b = a
  · subst e
    exact hc hb
  · exact (h.1 b hb).cong (hk b) (hn b) (hi b e) (hq b e) (oq b e)
theorem HI.put {D : va_G × Nat} {S0 S S' : PS} {s : State} {H H' : Heap} {locs : List Loc} {a k : Nat} (h : HI D S0 S s H locs) (h1 : kK S a ≠ 0) (h2 : kK S a ≠ 105) (hz : H'.size = H.size) (oq : ∀ q : Nat, q ≠ a → H'[q]? = H[q]?) (hk : ∀ b, kK S' b = kK S b) (hn : ∀ b, kN S' b = kN S b) (hzz : kZ S' = kZ S) (hi : ∀ b, b ≠ a → ∀ j, kI S' b j = kI S b j) (hq : ∀ b, b ≠ a → ∀ j, kQ S' b j = kQ S b j) (hc : hAt D S' s H' a) : HI D S0 S' s H' (locs ++ [⟨a, k⟩]) :=
  ⟨h.1.put h1 h2 hz oq hk hn hzz hi hq (fun _ => hc), h.2.1.put hz oq (h.hA h1 h2), ⟨fun q hq => (hk q).trans (h.2.2.1.1 q hq), by rw [hzz]; exact h.2.2.1.2⟩, h.2.2.2⟩
section HROWS
variable {p : Program} {l : Launch} {e : Env} {R : Room} {s : State} {m : MethodId} {args : Array Value} {below : List Frame} {meth : Method} {c : Code} {H : Heap} {locs : List Loc} {cells slots : Nat} {Q : State → Prop}
variable {cc : ByteArray} {pc : Nat} {ls : Array Slot} {rest : List Value} {D : va_G × Nat} {S0 S : PS} {a : Nat}
/-- an int field is read -/
theorem r_getI (hexec : p.tables.exec = Jvm.exec) (hb : c.code = cc) {own ref C : String} {T : u_T} {N index : Nat} {Ts : List Cond} (ci : Nat) (hts : ∀ w ∈ Ts, w.before args s = true) (hin : ∀ w ∈ u_ws C T N, w ∈ Ts) (hown : s.vm.findClass own = some m.cls) (hH : HI D S0 S s H locs) (ek : kK S a = ci + 1) (hci : ci + 1 ≤ 100) (hc : vwCl[ci]? = some (C, T, N)) (k : Nat) (hk : k < N) (hlay : (lay ci)[k]? = some true) (hlink : (Cond.fieldLink own index ref (T k).2.1 (T k).2.2.1).before args s = true) (hsame : ∀ x, s.fieldFound? (T k).1 (T k).2.1 (T k).2.2.1 = some x → s.fieldFound? ref (T k).2.1 (T k).2.2.1 = some x) (hdg : decode cc pc = .ok (.getfield index, 3))
    (kk : W p l e R s m args below meth c H locs cells slots Q (F0 m (pc + 3) ls (.int (kI S a k) :: rest))) : W p l e R s m args below meth c H locs cells slots Q (F0 m pc ls (.ref a :: rest)) :=
  va_get (v := .int (kI S a k)) hexec hb hts hin hown hH.1.2.1 (hH.1.obj ek hci) 0 rfl hc k hk hlink hsame (by rw [fl_get, hlay]; simp) hdg kk
/-- a reference is read -/
theorem r_getQ (hexec : p.tables.exec = Jvm.exec) (hb : c.code = cc) {own ref C : String} {T : u_T} {N index : Nat} {Ts : List Cond} (ci : Nat) (hts : ∀ w ∈ Ts, w.before args s = true) (hin : ∀ w ∈ u_ws C T N, w ∈ Ts) (hown : s.vm.findClass own = some m.cls) (hH : HI D S0 S s H locs) (ek : kK S a = ci + 1) (hci : ci + 1 ≤ 100) (hc : vwCl[ci]? = some (C, T, N)) (k : Nat) (hk : k < N) (hlay : (lay ci)[k]? = some false) (hlink : (Cond.fieldLink own index ref (T k).2.1 (T k).2.2.1).before args s = true) (hsame : ∀ x, s.fieldFound? (T k).1 (T k).2.1 (T k).2.2.1 = some x → s.fieldFound? ref (T k).2.1 (T k).2.2.1 = some x) (hdg : decode cc pc = .ok (.getfield index, 3)) {b : Nat} (eq : kQ S a k = some b)
    (kk : W p l e R s m args below meth c H locs cells slots Q (F0 m (pc + 3) ls (.ref b :: rest))) : W p l e R s m args below meth c H locs cells slots Q (F0 m pc ls (.ref a :: rest)) :=
  va_get (v := .ref b) hexec hb hts hin hown hH.1.2.1 (hH.1.obj ek hci) 0 rfl hc k hk hlink hsame (by rw [fl_get, hlay]; simp [eq, va_rf]) hdg kk
/-- an int field is written -/
theorem r_putI (hexec : p.tables.exec = Jvm.exec) (hb : c.code = cc) {own ref C : String} {T : u_T} {N index : Nat} {Ts : List Cond} (ci : Nat) (hts : ∀ w ∈ Ts, w.before args s = true) (hin : ∀ w ∈ u_ws C T N, w ∈ Ts) (ty0 : Nat → FieldType) (hty : ∀ k, k < N → parseFieldDescriptor (T k).2.2.1 = some (ty0 k)) (hnm : ∀ a, a < N → ∀ b, b < N → a ≠ b → (T a).2.1 ≠ (T b).2.1) (hown : s.vm.findClass own = some m.cls) (hH : HI D S0 S s H locs) (ek : kK S a = ci + 1) (hci : ci + 1 ≤ 100) (hc : vwCl[ci]? = some (C, T, N)) (k : Nat) (hk : k < N) (hlay : (lay ci)[k]? = some true) (hlink : (Cond.fieldLink own index ref (T k).2.1 (T k).2.2.1).before args s = true) (hsame : ∀ x, s.fieldFound? (T k).1 (T k).2.1 (T k).2.2.1 = some x → s.fieldFound? ref (T k).2.1 (T k).2.2.1 = some x) (hfin : (T k).2.2.2 = false ∨ ((T k).2.2.2 = true ∧ meth.name = "<init>" ∧ (T k).1 = own)) {ty : FieldType} {v : Int32} (hd : parseFieldDescriptor (T k).2.2.1 = some ty) (hn : narrow ty (.int v) = .int v) (hfit : fits ty (.int v) = true)
    (hdg : decode cc pc = .ok (.putfield index, 3)) (kk : ∀ (H1 : Heap) (locs1 : List Loc), HI D S0 (wI S a k v) s H1 locs1 → W p l e R s m args below meth c H1 locs1 cells slots Q (F0 m (pc + 3) ls rest)) : W p l e R s m args below meth c H locs cells slots Q (F0 m pc ls (.int v :: .ref a :: rest)) := by
  have hK := hH.1.2.1
  have hap := va_apart (own := own) hts hin ty0 hty hnm hK hc
  obtain ⟨r, h1, cell, q1, q2, q3, q4⟩ := hH.1.obj ek hci 0 _ rfl
  have hr : r = (C, T, N) := Option.some.inj (h1.symm.trans hc)
  subst hr
  obtain ⟨hS, hfc, kC, hkC, hkind⟩ := hK.1 ci _ hc
  obtain ⟨cf, kf, fi, f, hi, hsl⟩ := hS k hk
  have hlay9 := hts _ (hin _ (u_in_lay hk))
  unfold u_lay at hlay9
  have hst := (u_facts hfc hkC (u_lays hts hin hk) hi).1
  have hl : k < (fl S a 0 (lay ci)).length := by rw [fl_len]; exact (List.getElem?_eq_some_iff.mp hlay).1
  have key : ∀ H' : Heap, H'[a]? = some (cell.setSlot (D.1.2 ci k) (.int v)) → hAt D (wI S a k v) s H' a := by
    intro H' e1
    unfold hAt
    rw [if_pos (by rw [kK_wI, ek]; exact hci), kK_wI, ek, Nat.add_sub_cancel]
    refine ⟨_, hc, ?_⟩
    rw [← fl_setI S a v _ k hlay]
    exact t_OB.to (V := updV (vp_V (fl S a 0 (lay ci))) k (.int v)) ⟨_, e1, q2, q3, t_set q4 hap hk (.int v)⟩ (fun j _ => vp_updV_set hl (.int v) j)
  rcases hfin with hfin | ⟨hfin, hin2, hdecl⟩
  · rw [if_neg (by rw [hfin]; decide)] at hlay9
    have h6 := u_store hfc hkC hkind hlay9 hi hd hn hfit
    refine W.putK hexec hb (f := f) ⟨hown, hlink, ⟨_, _, _, hsame _ hi⟩, hst⟩ (by rw [q2]; exact h6) q1 q3 (by rw [hsl]; exact k2_hasslot (q4 k hk)) rfl rfl hdg fun H' e1 e2 e3 => ?_
    rw [hsl] at e1 ⊢
    exact kk H' _ (hH.put (by rw [ek]; omega) (by rw [ek]; omega) e2 e3 (fun _ => rfl) (fun _ => rfl) rfl (fun b hb j => by rw [kI_wI, if_neg (fun z => hb z.1)]) (fun _ _ _ => rfl) (key H' e1))
  · rw [if_pos hfin] at hlay9
    have hcf : m.cls = cf := by
      obtain ⟨_, _, c', _, _, _, -, -, hf', -, -, -, hown2, -⟩ := Cond.laysFinal_spec hlay9
      have e1 : c' = cf := by have := hi.symm.trans hf'; simp at this; exact this.1.symm
      rw [hdecl] at hown2
      rw [← e1]; exact Option.some.inj (hown.symm.trans hown2)
    have h6 := u_fits hfc hkC hkind (Or.inr hlay9) hi hd hn hfit
    refine W.putFinK hexec hb hown hlink (hsame _ hi) hst hcf hin2 (by rw [q2]; exact h6) q1 q3 (by rw [hsl]; exact k2_hasslot (q4 k hk)) rfl rfl hdg fun H' e1 e2 e3 => ?_
    rw [hsl] at e1 ⊢
    exact kk H' _ (hH.put (by rw [ek]; omega) (by rw [ek]; omega) e2 e3 (fun _ => rfl) (fun _ => rfl) rfl (fun b hb j => by rw [kI_wI, if_neg (fun z => hb z.1)]) (fun _ _ _ => rfl) (key H' e1))
/-- a reference field is written -/
theorem r_putQ (hexec : p.tables.exec = Jvm.exec) (hb : c.code = cc) {own ref C : String} {T : u_T} {N index : Nat} {Ts : List Cond} (ci : Nat) (hts : ∀ w ∈ Ts, w.before args s = true) (hin : ∀ w ∈ u_ws C T N, w ∈ Ts) (ty0 : Nat → FieldType) (hty : ∀ k, k < N → parseFieldDescriptor (T k).2.2.1 = some (ty0 k)) (hnm : ∀ a, a < N → ∀ b, b < N → a ≠ b → (T a).2.1 ≠ (T b).2.1) (hown : s.vm.findClass own = some m.cls) (hH : HI D S0 S s H locs) (ek : kK S a = ci + 1) (hci : ci + 1 ≤ 100) (hc : vwCl[ci]? = some (C, T, N)) (k : Nat) (hk : k < N) (hlay : (lay ci)[k]? = some false) (hlink : (Cond.fieldLink own index ref (T k).2.1 (T k).2.2.1).before args s = true) (hsame : ∀ x, s.fieldFound? (T k).1 (T k).2.1 (T k).2.2.1 = some x → s.fieldFound? ref (T k).2.1 (T k).2.2.1 = some x) (hfin : (T k).2.2.2 = false ∨ ((T k).2.2.2 = true ∧ meth.name = "<init>" ∧ (T k).1 = own)) {ty : FieldType} {b : Nat} (hd : parseFieldDescriptor (T k).2.2.1 = some ty) (hn : narrow ty (.ref b) = .ref b) (hfit : fits ty (.ref b) = true)
    (hdg : decode cc pc = .ok (.putfield index, 3)) (kk : ∀ (H1 : Heap) (locs1 : List Loc), HI D S0 (wQ S a k (some b)) s H1 locs1 → W p l e R s m args below meth c H1 locs1 cells slots Q (F0 m (pc + 3) ls rest)) : W p l e R s m args below meth c H locs cells slots Q (F0 m pc ls (.ref b :: .ref a :: rest)) := by
  have hK := hH.1.2.1
  have hap := va_apart (own := own) hts hin ty0 hty hnm hK hc
  obtain ⟨r, h1, cell, q1, q2, q3, q4⟩ := hH.1.obj ek hci 0 _ rfl
  have hr : r = (C, T, N) := Option.some.inj (h1.symm.trans hc)
  subst hr
  obtain ⟨hS, hfc, kC, hkC, hkind⟩ := hK.1 ci _ hc
  obtain ⟨cf, kf, fi, f, hi, hsl⟩ := hS k hk
  have hlay9 := hts _ (hin _ (u_in_lay hk))
  unfold u_lay at hlay9
  have hst := (u_facts hfc hkC (u_lays hts hin hk) hi).1
  have hl : k < (fl S a 0 (lay ci)).length := by rw [fl_len]; exact (List.getElem?_eq_some_iff.mp hlay).1
  have key : ∀ H' : Heap, H'[a]? = some (cell.setSlot (D.1.2 ci k) (.ref b)) → hAt D (wQ S a k (some b)) s H' a := by
    intro H' e1
    unfold hAt
    rw [if_pos (by rw [kK_wQ, ek]; exact hci), kK_wQ, ek, Nat.add_sub_cancel]
    refine ⟨_, hc, ?_⟩
    rw [← fl_setQ S a (some b) _ k hlay]
    exact t_OB.to (V := updV (vp_V (fl S a 0 (lay ci))) k (.ref b)) ⟨_, e1, q2, q3, t_set q4 hap hk (.ref b)⟩ (fun j _ => vp_updV_set hl (.ref b) j)
  rcases hfin with hfin | ⟨hfin, hin2, hdecl⟩
  · rw [if_neg (by rw [hfin]; decide)] at hlay9
    have h6 := u_store hfc hkC hkind hlay9 hi hd hn hfit
    refine W.putK hexec hb (f := f) ⟨hown, hlink, ⟨_, _, _, hsame _ hi⟩, hst⟩ (by rw [q2]; exact h6) q1 q3 (by rw [hsl]; exact k2_hasslot (q4 k hk)) rfl rfl hdg fun H' e1 e2 e3 => ?_
    rw [hsl] at e1 ⊢
    exact kk H' _ (hH.put (by rw [ek]; omega) (by rw [ek]; omega) e2 e3 (fun _ => rfl) (fun _ => rfl) rfl (fun _ _ _ => rfl) (fun b hb j => by rw [kQ_wQ, if_neg (fun z => hb z.1)]) (key H' e1))
  · rw [if_pos hfin] at hlay9
    have hcf : m.cls = cf := by
      obtain ⟨_, _, c', _, _, _, -, -, hf', -, -, -, hown2, -⟩ := Cond.laysFinal_spec hlay9
      have e1 : c' = cf := by have := hi.symm.trans hf'; simp at this; exact this.1.symm
      rw [hdecl] at hown2
      rw [← e1]; exact Option.some.inj (hown.symm.trans hown2)
    have h6 := u_fits hfc hkC hkind (Or.inr hlay9) hi hd hn hfit
    refine W.putFinK hexec hb hown hlink (hsame _ hi) hst hcf hin2 (by rw [q2]; exact h6) q1 q3 (by rw [hsl]; exact k2_hasslot (q4 k hk)) rfl rfl hdg fun H' e1 e2 e3 => ?_
    rw [hsl] at e1 ⊢
    exact kk H' _ (hH.put (by rw [ek]; omega) (by rw [ek]; omega) e2 e3 (fun _ => rfl) (fun _ => rfl) rfl (fun _ _ _ => rfl) (fun b hb j => by rw [kQ_wQ, if_neg (fun z => hb z.1)]) (key H' e1))
theorem acont_i {S : PS} {a kd : Nat} (ek : kK S a = kd) (h : kd ≤ 103) : acont S a = (kN S a, .inl (kI S a)) := by unfold acont; rw [if_pos (by rw [ek]; exact h)]
theorem acont_q {S : PS} {a kd : Nat} (ek : kK S a = kd) (h : 103 < kd) : acont S a = (kN S a, .inr (.inr (.inr (.inr (kQ S a))))) := by unfold acont; rw [if_neg (by rw [ek]; omega)]
/-- an array's length -/
theorem r_alen (hexec : p.tables.exec = Jvm.exec) (hb : c.code = cc) (kd : Nat) (hH : HI D S0 S s H locs) (ek : kK S a = kd) (hkd : 100 < kd) (hdg : decode cc pc = .ok (.arraylength, 1))
    (kk : W p l e R s m args below meth c H locs cells slots Q (F0 m (pc + 1) ls (.int (nI (kN S a)) :: rest))) : W p l e R s m args below meth c H locs cells slots Q (F0 m pc ls (.ref a :: rest)) := by
  by_cases h5 : kd = 105
  · have h1 := hH.1.1 a (by rw [ek]; omega)
    unfold hAt at h1
    rw [if_neg (by rw [ek]; omega), if_pos (by rw [ek]; exact h5)] at h1
    obtain ⟨cell, c1, c2, c4⟩ := h1
    exact W.alen (n := nI (kN S a)) hexec hb c1 c2 c4 rfl rfl hdg kk
  obtain ⟨cA, hK, hP⟩ := hH.1.arr ek ⟨hkd, h5⟩
  refine va_alen hexec hb hK hP 0 0 rfl rfl (v := nI (kN S a)) ?_ hdg kk
  unfold acont
  split <;> rfl
theorem r_iald (hexec : p.tables.exec = Jvm.exec) (hb : c.code = cc) (hH : HI D S0 S s H locs) (ek : kK S a = 101) {i : Int32} (hin : vp_in i (kN S a)) (hdg : decode cc pc = .ok (.iaload, 1))
    (kk : W p l e R s m args below meth c H locs cells slots Q (F0 m (pc + 1) ls (.int (kI S a i.toNatClampNeg) :: rest))) : W p l e R s m args below meth c H locs cells slots Q (F0 m pc ls (.int i :: .ref a :: rest)) := by
  obtain ⟨cA, hK, hP⟩ := hH.1.arr ek (by decide)
  rw [acont_i ek (by decide)] at hP
  exact va_iald hexec hb hK hP 0 0 rfl rfl hin hdg kk
theorem r_cald (hexec : p.tables.exec = Jvm.exec) (hb : c.code = cc) (hH : HI D S0 S s H locs) (ek : kK S a = 102) {i : Int32} (hin : vp_in i (kN S a)) (hdg : decode cc pc = .ok (.caload, 1))
    (kk : W p l e R s m args below meth c H locs cells slots Q (F0 m (pc + 1) ls (.int (kI S a i.toNatClampNeg) :: rest))) : W p l e R s m args below meth c H locs cells slots Q (F0 m pc ls (.int i :: .ref a :: rest)) := by
  obtain ⟨cA, hK, hP⟩ := hH.1.arr ek (by decide)
  rw [acont_i ek (by decide)] at hP
  exact va_cald hexec hb hK hP 0 0 rfl rfl hin hdg kk
theorem r_zald (hexec : p.tables.exec = Jvm.exec) (hb : c.code = cc) (hH : HI D S0 S s H locs) (ek : kK S a = 103) {i : Int32} (hin : vp_in i (kN S a)) (hdg : decode cc pc = .ok (.baload, 1))
    (kk : W p l e R s m args below meth c H locs cells slots Q (F0 m (pc + 1) ls (.int (kI S a i.toNatClampNeg) :: rest))) : W p l e R s m args below meth c H locs cells slots Q (F0 m pc ls (.int i :: .ref a :: rest)) := by
  obtain ⟨cA, hK, hP⟩ := hH.1.arr ek (by decide)
  rw [acont_i ek (by decide)] at hP
  exact va_zald hexec hb hK hP 0 0 rfl rfl hin hdg kk
theorem r_aldq (hexec : p.tables.exec = Jvm.exec) (hb : c.code = cc) (hH : HI D S0 S s H locs) (ek : kK S a = 104) {i : Int32} (hin : vp_in i (kN S a)) (hdg : decode cc pc = .ok (.aaload, 1)) {b : Nat} (eq : kQ S a i.toNatClampNeg = some b)
    (kk : W p l e R s m args below meth c H locs cells slots Q (F0 m (pc + 1) ls (.ref b :: rest))) : W p l e R s m args below meth c H locs cells slots Q (F0 m pc ls (.int i :: .ref a :: rest)) := by
  obtain ⟨cA, hK, hP⟩ := hH.1.arr ek (by decide)
  rw [acont_q ek (by decide)] at hP
  refine va_aldq hexec hb hK hP 0 0 rfl rfl hin hdg ?_
  rw [eq]
  exact kk
end HROWS
