/-! the start: what the tables and the claim's own premises say of the law's first state -/
theorem inAll {α : Type} {P : α → Bool} {l : List α} (h : l.all P = true) {x : α} (hx : x ∈ l) : P x = true := List.all_eq_true.mp h x hx
theorem t_NX0 : NX0.all (fun w => decide (w ∈ lw_tbl)) = true := by decide +kernel
theorem t_NX1 : NX1.all (fun w => decide (w ∈ lw_tbl)) = true := by decide +kernel
theorem t_NX2 : NX2.all (fun w => decide (w ∈ lw_tbl)) = true := by decide +kernel
theorem t_NX3 : NX3.all (fun w => decide (w ∈ lw_tbl)) = true := by decide +kernel
theorem t_NX4 : NX4.all (fun w => decide (w ∈ lw_tbl)) = true := by decide +kernel
theorem t_NX5 : NX5.all (fun w => decide (w ∈ lw_tbl)) = true := by decide +kernel
theorem t_NXA : NXA.all (fun w => decide (w ∈ lw_tbl)) = true := by
  simp only [NXA, List.all_append, t_NX0, t_NX1, t_NX2, t_NX3, t_NX4, t_NX5, Bool.and_self]
theorem t_str : strs.all (fun x => decide (Cond.stringRef x.1 x.2.1 x.2.2 ∈ lw_tbl)) = true := by decide +kernel
theorem t_nfs : nfs.all (fun x => decide (Cond.fieldLinkNest x.1 x.2.1 x.2.2.1 x.2.2.2.1 x.2.2.2.2 "Housestyle" ∈ lw_tbl)) = true := by decide +kernel
theorem t_nms : nms.all (fun x => decide (Cond.methodLinkNest x.1 x.2.1 x.2.2 "Housestyle" ∈ lw_tbl)) = true := by decide +kernel
theorem t_cst : csts.all (fun x => decide (Cond.castable x "java/lang/Object" ∈ lw_tbl)) = true := by decide +kernel
theorem t_dec : Cond.declares ⟨"java/lang/Object", "getClass", "()Ljava/lang/Class;"⟩ ∈ lw_tbl := by decide +kernel
theorem t_aov : Cond.arrayOver (.object "java/lang/Object") ∈ lw_tbl := by decide +kernel
theorem t_lU : Cond.laysStatic Bundle.tN "UNASSIGNED_STACK" Bundle.steD ∈ lw_tbl := by decide +kernel
theorem t_lS : Cond.laysStatic Bundle.tN "SUPPRESSED_SENTINEL" Bundle.listD ∈ lw_tbl := by decide +kernel
theorem t_iT : Cond.initialized Bundle.tN ∈ lw_tbl := by decide +kernel
theorem t_lD : Cond.laysStatic "java/util/ArrayList" "DEFAULTCAPACITY_EMPTY_ELEMENTDATA" "[Ljava/lang/Object;" ∈ lw_tbl := by decide +kernel
theorem t_iA : Cond.initialized "java/util/ArrayList" ∈ lw_tbl := by decide +kernel
theorem t_cas : ([1, 2, 3, 4, 5, 6] : List Nat).all (fun j => decide (Cond.castable (exN j) (exN j) ∈ lw_tbl)) = true := by decide +kernel
theorem t_not : ([1, 2, 3, 4, 5, 6] : List Nat).all (fun i => ([1, 2, 3, 4, 5, 6] : List Nat).all (fun j => i == j || decide (Cond.not (.castable (exN i) (exN j)) ∈ flatC (Jvm.Cond.and given_1 narrow_1)))) = true := by decide +kernel
theorem t_cls : vwCl.all (fun q => (u_ws q.1 q.2.1 q.2.2).all (fun w => decide (w ∈ lw_tbl))) = true := by decide +kernel
theorem m_mir : Cond.isRef (.mirror "[Ljava/lang/Object;") ∈ flatC (Jvm.Cond.and given_1 narrow_1) := by decide +kernel
theorem m_U : Cond.isRef (.static Bundle.tN "UNASSIGNED_STACK" Bundle.steD) ∈ flatC (Jvm.Cond.and given_1 narrow_1) := by decide +kernel
theorem m_S : Cond.isRef (.static Bundle.tN "SUPPRESSED_SENTINEL" Bundle.listD) ∈ flatC (Jvm.Cond.and given_1 narrow_1) := by decide +kernel
theorem m_A : Cond.arrayOf (.static "java/util/ArrayList" "DEFAULTCAPACITY_EMPTY_ELEMENTDATA" "[Ljava/lang/Object;") (.object "java/lang/Object") ∈ flatC (Jvm.Cond.and given_1 narrow_1) := by decide +kernel
theorem m_L : Cond.eq (.length (.static "java/util/ArrayList" "DEFAULTCAPACITY_EMPTY_ELEMENTDATA" "[Ljava/lang/Object;")) (.int 0) ∈ flatC (Jvm.Cond.and given_1 narrow_1) := by decide +kernel
/-- the sizes of the classes' objects, as the tables tell them -/
def nIn : List Nat := [4, 6, 3, 3, 6, 6, 3, 2, 2, 6, 3, 11, 9, 46]
theorem t_own : strs.all (fun x => x.1 == RX9) = true := by decide +kernel
theorem t_i9 : Cond.instantiable RX9 9 ∈ lw_tbl := by decide +kernel
theorem t_ins : (vwCl.zip nIn).all (fun q => decide (Cond.instantiable q.1.1 q.2 ∈ lw_tbl)) = true := by decide +kernel
section START
variable {p : Program} {e : Env} {s : State} {m : MethodId} {below : List Frame} {meth : Method} {c : Code} {args : Array Value}
theorem st_K (hts : ∀ w ∈ lw_tbl, w.before args s = true) : ∃ D : va_G, va_K D vwCl [] s := by
  have h : ∀ c : Nat, ∃ q : ClassId × (Nat → Nat), ∀ r : vw_C, vwCl[c]? = some r → u_Kn s r.1 r.2.1 r.2.2 q.1 q.2 := by
    intro c
    cases hr : vwCl[c]? with
    | none => exact ⟨(0, fun _ => 0), fun r h => by cases h⟩
    | some r =>
      have hc : c < 14 := (List.getElem?_eq_some_iff.mp hr).1
      have hn : ∃ n, nIn[c]? = some n := ⟨nIn[c]'hc, List.getElem?_eq_getElem hc⟩
      obtain ⟨n, hn⟩ := hn
      have hz : (r, n) ∈ vwCl.zip nIn := List.mem_of_getElem? (i := c) (by rw [List.getElem?_zip_eq_some]; exact ⟨hr, hn⟩)
      obtain ⟨cC, iS, h⟩ := u_known (N := r.2.2) (T := r.2.1) hts (fun w hw => of_decide_eq_true (inAll (inAll t_cls (List.mem_of_getElem? hr)) hw)) (hts _ (of_decide_eq_true (inAll t_ins hz)))
      exact ⟨(cC, iS), fun r' h' => by cases h'; exact h⟩
  exact ⟨(fun c => (Classical.choose (h c)).1, fun c => (Classical.choose (h c)).2), fun c q hq => Classical.choose_spec (h c) q hq, fun k q hq => by cases hq⟩
theorem st_NE (hts : ∀ w ∈ lw_tbl, w.before args s = true) (hgv : (Cond.and given_1 narrow_1).before args s = true) : NE s :=
  ⟨fun x hx => va_Nw.of rfl (hts _ (of_decide_eq_true (inAll t_nfs hx))), fun x hx => va_Nw.of rfl (hts _ (of_decide_eq_true (inAll t_nms hx))), fun x hx => va_Nw.of rfl (hts _ (of_decide_eq_true (inAll t_cst hx))), va_Mi.of (flat_of_before _ hgv _ m_mir), va_Dc.of (hts _ t_dec), va_AO.of (hts _ t_aov)⟩
theorem st_CN (hts : ∀ w ∈ lw_tbl, w.before args s = true) (hgv : (Cond.and given_1 narrow_1).before args s = true) : CN s := by
  have hm : ∀ j : Nat, 1 ≤ j → j ≤ 6 → j ∈ ([1, 2, 3, 4, 5, 6] : List Nat) := fun j h1 h2 => by
    match j, h1, h2 with
    | 1, _, _ => decide
    | 2, _, _ => decide
    | 3, _, _ => decide
    | 4, _, _ => decide
    | 5, _, _ => decide
    | 6, _, _ => decide
  refine ⟨fun j h1 h2 => va_Nw.of rfl (hts _ (of_decide_eq_true (inAll t_cas (hm j h1 h2)))), fun i j h1 h2 h3 h4 hij => va_Nc.of (flat_of_before _ hgv _ ?_)⟩
  have h := inAll (inAll t_not (hm i h1 h2)) (hm j h3 h4)
  rw [Bool.or_eq_true] at h
  rcases h with h | h
  · exact absurd (eq_of_beq h) hij
  · exact of_decide_eq_true h
theorem st_EV {D : va_G × Nat} (hD : D.2 = s.heap.size) (hts : ∀ w ∈ lw_tbl, w.before args s = true) (hgv : (Cond.and given_1 narrow_1).before args s = true) : EV D s s.heap := by
  refine ⟨vx_Zqof (hts _ t_lU) (hts _ t_iT) (flat_of_before _ hgv _ m_U) (fun a ha => by rw [hD]; exact Nat.not_le.mpr ha), vx_Zqof (hts _ t_lS) (hts _ t_iT) (flat_of_before _ hgv _ m_S) (fun a ha => by rw [hD]; exact Nat.not_le.mpr ha), fun x hx => ?_, fun w hw => va_Nw.of (cd_tab (NXA_cd w hw)) (hts _ (of_decide_eq_true (inAll t_NXA hw)))⟩
  have h1 := hts _ (of_decide_eq_true (inAll t_str hx))
  have hx9 : x.1 = RX9 := eq_of_beq (inAll t_own hx)
  obtain ⟨cC, kC, hfc, -⟩ := Cond.instantiable_spec (hts _ t_i9)
  obtain ⟨k, cf, i, a, -, -, -, -, -, ha⟩ := Cond.stringRef_spec (by rw [hx9]; exact hfc) h1
  exact ⟨a, vk_R.of h1 ha⟩
/-- the empty array of ArrayList, as the claim has it -/
theorem st_E (hgv : (Cond.and given_1 narrow_1).before args s = true) : ∃ (e0 : Nat) (cell : Cell), (Term.static "java/util/ArrayList" "DEFAULTCAPACITY_EMPTY_ELEMENTDATA" "[Ljava/lang/Object;").eval args s none [] s = some (.ref e0) ∧ s.heap[e0]? = some cell ∧ s.isArrayOf cell (.object "java/lang/Object") ∧ Int32.ofNat cell.slots.size = Int32.ofNat 0 := by
  have hl := va_eqt (flat_of_before _ hgv _ m_L)
  obtain ⟨t, cell, ht, hat, hv⟩ := Term.length_spec hl
  obtain ⟨hcell, -, -, -⟩ := State.arrayAt?_spec hat
  obtain ⟨hof, -⟩ := Cond.arrayOf_spec (flat_of_before _ hgv _ m_A) ht hcell
  refine ⟨t, cell, ht, hcell, hof, ?_⟩
  have h9 : Value.int 0 = Value.int cell.slots.size.toInt32 := by first | exact hv | exact hv.symm | exact Option.some.inj hv | exact (Option.some.inj hv).symm
  exact ((Value.int.inj h9).symm : _)
end START
/-- the first world: nothing but the empty array -/
def s0 (e0 z : Nat) : PS := (fun a => if a = e0 then 105 else 0, fun _ => 0, fun _ _ => 0, fun a j => if a = 0 ∧ j = 0 then some e0 else none, z)
theorem kK_s0 (e0 z a : Nat) : kK (s0 e0 z) a = if a = e0 then 105 else 0 := rfl
theorem kQ_s0 (e0 z a j : Nat) : kQ (s0 e0 z) a j = if a = 0 ∧ j = 0 then some e0 else none := rfl
theorem k_s0 (e0 z a : Nat) : kK (s0 e0 z) a = 0 ∨ (a = e0 ∧ kK (s0 e0 z) a = 105) := by
  rw [kK_s0]
  by_cases h : a = e0
  · exact Or.inr ⟨h, if_pos h⟩
  · exact Or.inl (if_neg h)
theorem n_s0 {e0 z a k : Nat} (h : kK (s0 e0 z) a = k) (h1 : k ≠ 0) (h2 : k ≠ 105) : False := by
  rcases k_s0 e0 z a with h3 | ⟨-, h3⟩
  · exact h1 (h.symm.trans h3)
  · exact h2 (h.symm.trans h3)
theorem g_s0 {e0 z : Nat} (h : e0 < z) : gI (s0 e0 z) := by
  refine ⟨⟨fun a ha => ?_, fun a j b ha hq => ?_, e0, by rw [kQ_s0, if_pos ⟨rfl, rfl⟩], by rw [kK_s0, if_pos rfl], rfl, ?_⟩, fun h1 h2 arr a1 => (n_s0 a1 (by decide) (by decide)).elim, fun a1 a2 j1 j2 q b1 => (n_s0 b1 (by decide) (by decide)).elim⟩
  · have ha : z ≤ a := ha
    rw [kK_s0, if_neg (by omega)]
  · rw [kQ_s0] at hq
    split at hq
    · cases hq; exact h
    · cases hq
  · rcases k_s0 e0 z 0 with h3 | ⟨-, h3⟩
    · exact Or.inl h3
    · exact Or.inr h3
theorem p_s0 {e0 z q : Nat} (h : pA (s0 e0 z) q) : z ≤ q := by
  rcases h with ⟨h1, h2⟩ | h
  · rcases k_s0 e0 z q with h3 | ⟨-, h3⟩
    · exact (h1 h3).elim
    · exact (h2 h3).elim
  · exact h
theorem h_s0 {G : va_G} {s : State} {e0 : Nat} {cell : Cell} (hK : va_K G vwCl [] s) (hcell : s.heap[e0]? = some cell) (harr : s.isArrayOf cell (.object "java/lang/Object")) (hsz : Int32.ofNat cell.slots.size = Int32.ofNat 0) (hz : va_Z "java/util/ArrayList" "DEFAULTCAPACITY_EMPTY_ELEMENTDATA" "[Ljava/lang/Object;" (.ref e0) (fun q => s.heap.size ≤ q) s s.heap) : HP (G, s.heap.size) (s0 e0 s.heap.size) s s.heap := by
  refine ⟨fun a ha => ?_, hK, rfl, fun a h1 h2 => ?_, Nat.le_refl _, ?_, e0, by rw [kQ_s0, if_pos ⟨rfl, rfl⟩], by rw [kK_s0, if_pos rfl], rfl, hz⟩
  · rcases k_s0 e0 s.heap.size a with h3 | ⟨h4, h3⟩
    · exact (ha h3).elim
    · subst h4
      unfold hAt
      rw [if_neg (by rw [h3]; decide), if_pos h3]
      exact ⟨cell, hcell, harr, hsz⟩
  · exact p_s0 (e0 := e0) (Or.inl ⟨h1, h2⟩)
  · rcases k_s0 e0 s.heap.size 0 with h3 | ⟨-, h3⟩
    · exact Or.inl h3
    · exact Or.inr h3
/-- YOUR PART: from the entry, for every script of at most 2560 ints, the law comes to its end with true ('hflags': the launch's flags, for a law that throws: no stack traces) -/
theorem whole_start {p : Program} {e : Env} {s : State} {m : MethodId} {below : List Frame} {meth : Method} {c : Code} (l : Launch) (hflags : l.flags = flags0) {b L : Nat} {xs : Nat → Int32} (hL : L ≤ 2560) (C0 : lw_At p s m meth c b L xs) : W p l e room_1 s m #[Value.ref b] below meth c s.heap [] 0 0 (lw_Z below #[Value.ref b] s) (entryFrame m ([Value.ref b] : List Value).toArray 9) := by
  obtain ⟨hx, hb, hr, hml, hown, hts, hX, hbl, hlocks, hgv⟩ := C0
  obtain ⟨G, hK⟩ := st_K hts
  obtain ⟨e0, cell, he, hcell, harr, hsz⟩ := st_E hgv
  have hlt : e0 < s.heap.size := (Array.getElem?_eq_some_iff.mp hcell).1
  have hz := va_Zref (A := fun q => s.heap.size ≤ q) (hts _ t_lD) (hts _ t_iA) he (fun a ha => Nat.not_le.mpr ha)
  have hst : l.stackTraces = false := by
    unfold Launch.stackTraces
    rw [hflags]
    decide
  have C : LC p l s m c b (.classLink RL 8 RX9) (G, s.heap.size) (s0 e0 s.heap.size) L xs :=
    ⟨hx, hb, hml, hown, fun w h => hts w ((List.mem_cons.mp h).elim (fun z => by rw [z]; exact GW_in _ gw_43_1) (GW_in w)), st_EV rfl hts hgv, st_NE hts hgv, st_CN hts hgv, hst, fun q hq => p_s0 hq, hX, hbl, fun h => absurd (p_s0 h) (Nat.not_le.mpr hbl), hL⟩
  refine law_begin C (HI.start (h_s0 hK hcell harr hsz hz)) (g_s0 hlt) (fun q hq => Or.inr hq) (fun H locs ls P cells slots hH hc hs => ?_)
  refine lv_iconst (v := 1) hx hb dL_law_1967 (by decide) ?_
  refine va_forget (fun q hq => p_s0 (hH.2.1.2.2 q hq)) (W.widen hc hs ?_)
  exact W.base (lw_ret (d0 := s.drawn) (Drawn.sameBut.refl s.drawn lw_cs) hx hb hr hlocks dL_law_1968)
