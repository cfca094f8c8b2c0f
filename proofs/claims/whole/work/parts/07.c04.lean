set_option maxRecDepth 100000 in
def f_X1_ignores_b3 (a0 : Nat) (p1 : Int32) (p2 : Int32) (p3 : Int32) (S : PS) (x1 : Int32) : Option ((Int32) ⊕ ((Unit) ⊕ (Unit))) := if kK S a0 = 5 then ((f_X1_ignoredCount S a0).bind fun r10 => if r10 ≤ x1 then (some (.inr (.inl ()))) else ((kQ S a0 1).bind fun a13 => if kK S a13 = 9 then ((f_X5_get S a13 x1).bind fun r16 => lt (fun (u21 : Unit) => lt (x1 + 1) fun x19 => some (.inl x19)) fun j18 => if r16 = p1 then ((kQ S a0 2).bind fun a24 => if kK S a24 = 9 then ((f_X5_get S a24 x1).bind fun r27 => if r27 = p2 then ((kQ S a0 3).bind fun a30 => if kK S a30 = 9 then ((f_X5_get S a30 x1).bind fun r33 => if r33 = p3 then (some (.inr (.inr ()))) else (j18 ())) else none) else (j18 ())) else none) else (j18 ())) else none)) else none
set_option maxRecDepth 100000 in
def f_X1_ignores (S : PS) (a0 : Nat) (p1 : Int32) (p2 : Int32) (p3 : Int32) : Option (Int32) := lt (fun (u4 : Unit) => some 0) fun k2 => lt (fun (u7 : Unit) => some 1) fun k5 => (iter (fun (v : Int32) => f_X1_ignores_b3 a0 p1 p2 p3 S v) kF 0).bind (fun (z : (Unit) ⊕ (Unit)) => Sum.elim (fun (v : Unit) => k2 v) (fun (v : Unit) => k5 v) z)
abbrev rmX1_ignores : Room := { frames := 2, cells := 0, slots := 0, locals := 40 }
set_option maxHeartbeats 4000000 in
set_option maxRecDepth 100000 in
theorem c_X1_ignores (l : Launch) (D : va_G × Nat) (S : PS) (a0 : Nat) (p1 : Int32) (p2 : Int32) (p3 : Int32) (r : Int32) (hf : f_X1_ignores S a0 p1 p2 p3 = some r) : MI l D yX1_ignores wsX1_ignores rmX1_ignores S [.ref a0, .int p1, .int p2, .int p3] S r 0 0 := by
  unfold f_X1_ignores at hf
  refine Met.ofW (cc := cX1_ignores) (maxL := 5) (ret := (some .boolean)) (by decide) rfl ?_
  intro p e s m args below meth c s₁ B hml hv
  obtain ⟨rfl, hH0, hNE⟩ := hv
  have hx := B.exec
  have hb := B.bytes
  have hr := B.returns
  have hts := atoms_spec (ws := wsX1_ignores) B.pre
  have hown : s.vm.findClass RX1 = some m.cls := findClass_of_methodNamed B.named
  have hlocks := B.notSynchronized
  have hH : HI D S S s s.heap [] := HI.start hH0
  have hl := lv_entry ([.ref a0, .int p1, .int p2, .int p3]) (n := 5) (Nat.le_of_ble_eq_true rfl)
  rw [lg_entry_eq]
  generalize (lg_sl ([.ref a0, .int p1, .int p2, .int p3]) ++ List.replicate (5 - (lg_sl ([.ref a0, .int p1, .int p2, .int p3])).length) Slot.unset).toArray = ls at hl ⊢
  have hl : lv_has ls 5 [(0, .ref a0), (1, .int p1), (2, .int p2), (3, .int p3)] := hl
  refine lv_iconst (v := 0) hx hb dX1_ignores_0 (by decide) ?_
  refine lv_istore (lv' := [(4, .int 0), (0, .ref a0), (1, .int p1), (2, .int p2), (3, .int p3)]) hx hb dX1_ignores_1 hl (by decide) rfl (fun ls hl => ?_)
  obtain ⟨k2, e3, hf⟩ := ol hf
  have Xk2 : ∀ (u4 : Unit) (H : Heap) (locs : List Loc) (ls : Array Slot), HI D S S s H locs → lv_has ls 5 [] → k2 u4 = some r → GI p l e (headSpec wsX1_ignores rmX1_ignores).room s m ([.ref a0, .int p1, .int p2, .int p3] : List Value).toArray below meth c D S S r H locs 0 0 0 0 (F0 m 59 ls []) := by
    intro u4 H locs ls hH hl hf
    rw [← e3] at hf
    refine lv_iconst (v := 0) hx hb dX1_ignores_59 (by decide) ?_
    have hr9 := Option.some.inj hf
    subst hr9
    exact e_z (r := 0) hx hb hr hlocks rfl hH dX1_ignores_60
  obtain ⟨k5, e6, hf⟩ := ol hf
  have Xk5 : ∀ (u7 : Unit) (H : Heap) (locs : List Loc) (ls : Array Slot), HI D S S s H locs → lv_has ls 5 [] → k5 u7 = some r → GI p l e (headSpec wsX1_ignores rmX1_ignores).room s m ([.ref a0, .int p1, .int p2, .int p3] : List Value).toArray below meth c D S S r H locs 0 0 0 0 (F0 m 51 ls []) := by
    intro u7 H locs ls hH hl hf
    rw [← e6] at hf
    refine lv_iconst (v := 1) hx hb dX1_ignores_51 (by decide) ?_
    have hr9 := Option.some.inj hf
    subst hr9
    exact e_z (r := 1) hx hb hr hlocks rfl hH dX1_ignores_52
  obtain ⟨o8, eo8, hq8f⟩ := ob hf
  have Lo8 : ∀ (n : Nat) (x1 : Int32), iter (fun (v : Int32) => f_X1_ignores_b3 a0 p1 p2 p3 S v) n x1 = some o8 → ∀ (H : Heap) (locs : List Loc) (ls : Array Slot), HI D S S s H locs → lv_has ls 5 [(0, .ref a0), (1, .int p1), (2, .int p2), (3, .int p3), (4, .int x1)] → GI p l e (headSpec wsX1_ignores rmX1_ignores).room s m ([.ref a0, .int p1, .int p2, .int p3] : List Value).toArray below meth c D S S r H locs 0 0 0 0 (F0 m 3 ls []) := by
    intro n
    induction n with
    | zero => intro x1 hi; cases hi
    | succ n ih8 =>
      intro x1 hi H locs ls hH hl
      obtain ⟨q8_, hf, hq8⟩ := iter_s hi
      have hf : f_X1_ignores_b3 a0 p1 p2 p3 S x1 = some q8_ := hf
      unfold f_X1_ignores_b3 at hf
      refine lv_iload hx hb dX1_ignores_3 (lv_at hl 4 rfl) ?_
      refine lv_aload_n hx hb dX1_ignores_5 rfl (lv_at hl 0 rfl) ?_
      obtain ⟨ek9, hf⟩ := oc hf
      obtain ⟨r10, e11, hf⟩ := ob hf
      refine r_callVi (As := []) ⟨hx, hb, hml, hown, hts⟩ (c_X1_ignoredCount l D S a0 r10 e11) (cwV 0 hts (gwV gw_9_17 gw_9_18 gw_9_19 gw_9_20 gw_9_7) rfl rfl rfl (by decide +kernel) ⟨Nat.le_of_ble_eq_true rfl, Nat.le_of_ble_eq_true rfl⟩) hH hNE 4 ek9 (by decide) rfl rfl rfl hl.1 rfl (Nat.le_of_ble_eq_true rfl) dX1_ignores_6 ⟨(Nat.le_of_ble_eq_true rfl), (Nat.le_of_ble_eq_true rfl)⟩ (fun H locs hH => ?_)
      refine lv_icmp_ge (tgt := 59) hx hb dX1_ignores_9 (by decide) (fun c12 => ?_) (fun c12 => ?_)
      · have hf := ip hf c12
        cases hf
        have hf9 := itR (K := (fun (z : (Unit) ⊕ (Unit)) => Sum.elim (fun (v : Unit) => k2 v) (fun (v : Unit) => k5 v) z)) hq8 hq8f
        exact Xk2 () _ _ ls hH (lv_sub hl [] rfl) hf9
      · have hf := iq hf c12
        refine lv_aload_n hx hb dX1_ignores_12 rfl (lv_at hl 0 rfl) ?_
        obtain ⟨a13, e14, hf⟩ := ob hf
        refine r_getQ hx hb 4 hts (fun w h => List.mem_cons_of_mem _ (mwsX10 w h)) hown hH ek9 (by decide) rfl 1 (by decide) rfl (hts (.fieldLink RX1 23 "Housestyle$Desk" "ignoredRules" "LHousestyle$Row;") (List.mem_cons_of_mem _ gw_8_22)) (fun _ h9 => h9) dX1_ignores_13 e14 ?_
        refine lv_iload hx hb dX1_ignores_16 (lv_at hl 4 rfl) ?_
        obtain ⟨ek15, hf⟩ := oc hf
        obtain ⟨r16, e17, hf⟩ := ob hf
        refine r_callVi (As := [.int x1]) ⟨hx, hb, hml, hown, hts⟩ (c_X5_get l D S a13 x1 r16 e17) (cwV 1 hts (gwV gw_9_21 gw_2_13 gw_2_14 gw_1_5 gw_2_9) rfl rfl rfl (by decide +kernel) ⟨Nat.le_of_ble_eq_true rfl, Nat.le_of_ble_eq_true rfl⟩) hH hNE 8 ek15 (by decide) rfl rfl rfl hl.1 rfl (Nat.le_of_ble_eq_true rfl) dX1_ignores_18 ⟨(Nat.le_of_ble_eq_true rfl), (Nat.le_of_ble_eq_true rfl)⟩ (fun H locs hH => ?_)
        refine lv_iload_n hx hb dX1_ignores_21 rfl (lv_at hl 1 rfl) ?_
        obtain ⟨j18, e22, hf⟩ := ol hf
        have Jj18 : ∀ (u21 : Unit) (H : Heap) (locs : List Loc) (ls : Array Slot), HI D S S s H locs → lv_has ls 5 [(0, .ref a0), (1, .int p1), (2, .int p2), (3, .int p3), (4, .int x1)] → j18 u21 = some q8_ → GI p l e (headSpec wsX1_ignores rmX1_ignores).room s m ([.ref a0, .int p1, .int p2, .int p3] : List Value).toArray below meth c D S S r H locs 0 0 0 0 (F0 m 53 ls []) := by
          intro u21 H locs ls hH hl hf
          rw [← e22] at hf
          obtain ⟨x19, e20, hf⟩ := ol hf
          refine lv_iinc (v := x19) (lv' := [(4, .int x19), (0, .ref a0), (1, .int p1), (2, .int p2), (3, .int p3)]) hx hb dX1_ignores_53 hl (k := 4) rfl (by rw [← e20]; rfl) (by decide) rfl (fun ls hl => ?_)
          refine lv_goto (tgt := 3) hx hb dX1_ignores_56 (by decide) ?_
          cases hf
          exact ih8 x19 hq8 _ _ ls hH (lv_sub hl [1, 2, 3, 4, 0] rfl)
        refine lv_icmp_ne (tgt := 53) hx hb dX1_ignores_22 (by decide) (fun c23 => ?_) (fun c23 => ?_)
        · have hf := iq hf c23
          exact Jj18 () _ _ ls hH (lv_sub hl [0, 1, 2, 3, 4] rfl) hf
        · have hf := ip hf c23
          refine lv_aload_n hx hb dX1_ignores_25 rfl (lv_at hl 0 rfl) ?_
          obtain ⟨a24, e25, hf⟩ := ob hf
          refine r_getQ hx hb 4 hts (fun w h => List.mem_cons_of_mem _ (mwsX10 w h)) hown hH ek9 (by decide) rfl 2 (by decide) rfl (hts (.fieldLink RX1 26 "Housestyle$Desk" "ignoredFroms" "LHousestyle$Row;") (List.mem_cons_of_mem _ gw_8_23)) (fun _ h9 => h9) dX1_ignores_26 e25 ?_
          refine lv_iload hx hb dX1_ignores_29 (lv_at hl 4 rfl) ?_
          obtain ⟨ek26, hf⟩ := oc hf
          obtain ⟨r27, e28, hf⟩ := ob hf
          refine r_callVi (As := [.int x1]) ⟨hx, hb, hml, hown, hts⟩ (c_X5_get l D S a24 x1 r27 e28) (cwV 1 hts (gwV gw_9_21 gw_2_13 gw_2_14 gw_1_5 gw_2_9) rfl rfl rfl (by decide +kernel) ⟨Nat.le_of_ble_eq_true rfl, Nat.le_of_ble_eq_true rfl⟩) hH hNE 8 ek26 (by decide) rfl rfl rfl hl.1 rfl (Nat.le_of_ble_eq_true rfl) dX1_ignores_31 ⟨(Nat.le_of_ble_eq_true rfl), (Nat.le_of_ble_eq_true rfl)⟩ (fun H locs hH => ?_)
          refine lv_iload_n hx hb dX1_ignores_34 rfl (lv_at hl 2 rfl) ?_
          refine lv_icmp_ne (tgt := 53) hx hb dX1_ignores_35 (by decide) (fun c29 => ?_) (fun c29 => ?_)
          · have hf := iq hf c29
            exact Jj18 () _ _ ls hH (lv_sub hl [0, 1, 2, 3, 4] rfl) hf
          · have hf := ip hf c29
            refine lv_aload_n hx hb dX1_ignores_38 rfl (lv_at hl 0 rfl) ?_
            obtain ⟨a30, e31, hf⟩ := ob hf
            refine r_getQ hx hb 4 hts (fun w h => List.mem_cons_of_mem _ (mwsX10 w h)) hown hH ek9 (by decide) rfl 3 (by decide) rfl (hts (.fieldLink RX1 29 "Housestyle$Desk" "ignoredLengths" "LHousestyle$Row;") (List.mem_cons_of_mem _ gw_9_0)) (fun _ h9 => h9) dX1_ignores_39 e31 ?_
            refine lv_iload hx hb dX1_ignores_42 (lv_at hl 4 rfl) ?_
            obtain ⟨ek32, hf⟩ := oc hf
            obtain ⟨r33, e34, hf⟩ := ob hf
            refine r_callVi (As := [.int x1]) ⟨hx, hb, hml, hown, hts⟩ (c_X5_get l D S a30 x1 r33 e34) (cwV 1 hts (gwV gw_9_21 gw_2_13 gw_2_14 gw_1_5 gw_2_9) rfl rfl rfl (by decide +kernel) ⟨Nat.le_of_ble_eq_true rfl, Nat.le_of_ble_eq_true rfl⟩) hH hNE 8 ek32 (by decide) rfl rfl rfl hl.1 rfl (Nat.le_of_ble_eq_true rfl) dX1_ignores_44 ⟨(Nat.le_of_ble_eq_true rfl), (Nat.le_of_ble_eq_true rfl)⟩ (fun H locs hH => ?_)
            refine lv_iload_n hx hb dX1_ignores_47 rfl (lv_at hl 3 rfl) ?_
            refine lv_icmp_ne (tgt := 53) hx hb dX1_ignores_48 (by decide) (fun c35 => ?_) (fun c35 => ?_)
            · have hf := iq hf c35
              exact Jj18 () _ _ ls hH (lv_sub hl [0, 1, 2, 3, 4] rfl) hf
            · have hf := ip hf c35
              cases hf
              have hf9 := itR (K := (fun (z : (Unit) ⊕ (Unit)) => Sum.elim (fun (v : Unit) => k2 v) (fun (v : Unit) => k5 v) z)) hq8 hq8f
              exact Xk5 () _ _ ls hH (lv_sub hl [] rfl) hf9
  exact Lo8 kF 0 eo8 _ _ ls hH (lv_sub hl [1, 2, 3, 4, 0] rfl)
set_option maxRecDepth 100000 in
def f_X2_cover_b2 (a0 : Nat) (p1 : Int32) (p2 : Int32) (x1 : Int32) (S2 : PS) : Option ((Int32 × PS) ⊕ ((PS))) := if p2 ≤ x1 then (some (.inr S2)) else (if kK S2 a0 = 6 then ((kQ S2 a0 2).bind fun a9 => if kK S2 a9 = 9 then ((f_X5_set S2 a9 (p1 + x1) 1).bind fun r12 => lt (x1 + 1) fun x14 => some (.inl (x14, r12))) else none) else none)
set_option maxRecDepth 100000 in
def f_X2_cover (S : PS) (a0 : Nat) (p1 : Int32) (p2 : Int32) : Option (PS) := lt (fun (S3 : PS) => some S3) fun k4 => (iter (fun (v : Int32 × PS) => f_X2_cover_b2 a0 p1 p2 v.1 v.2) kF (0, S)).bind (fun (v : PS) => k4 v)
abbrev rmX2_cover : Room := { frames := 1, cells := 0, slots := 0, locals := 22 }
set_option maxHeartbeats 4000000 in
set_option maxRecDepth 100000 in
theorem c_X2_cover (l : Launch) (D : va_G × Nat) (S : PS) (a0 : Nat) (p1 : Int32) (p2 : Int32) (r : PS) (hf : f_X2_cover S a0 p1 p2 = some r) : MV l D yX2_cover wsX2_cover rmX2_cover S [.ref a0, .int p1, .int p2] r 0 0 := by
  unfold f_X2_cover at hf
  refine Met.ofW (cc := cX2_cover) (maxL := 4) (ret := none) (by decide) rfl ?_
  intro p e s m args below meth c s₁ B hml hv
  obtain ⟨rfl, hH0, hNE⟩ := hv
  have hx := B.exec
  have hb := B.bytes
  have hr := B.returns
  have hts := atoms_spec (ws := wsX2_cover) B.pre
  have hown : s.vm.findClass RX2 = some m.cls := findClass_of_methodNamed B.named
  have hlocks := B.notSynchronized
  have hH : HI D S S s s.heap [] := HI.start hH0
  have hl := lv_entry ([.ref a0, .int p1, .int p2]) (n := 4) (Nat.le_of_ble_eq_true rfl)
  rw [lg_entry_eq]
  generalize (lg_sl ([.ref a0, .int p1, .int p2]) ++ List.replicate (4 - (lg_sl ([.ref a0, .int p1, .int p2])).length) Slot.unset).toArray = ls at hl ⊢
  have hl : lv_has ls 4 [(0, .ref a0), (1, .int p1), (2, .int p2)] := hl
  refine lv_iconst (v := 0) hx hb dX2_cover_0 (by decide) ?_
  refine lv_istore_n (lv' := [(3, .int 0), (0, .ref a0), (1, .int p1), (2, .int p2)]) hx hb dX2_cover_1 rfl hl (by decide) rfl (fun ls hl => ?_)
  obtain ⟨k4, e5, hf⟩ := ol hf
  have Xk4 : ∀ (S3 : PS) (H : Heap) (locs : List Loc) (ls : Array Slot), HI D S S3 s H locs → lv_has ls 4 [] → k4 S3 = some r → GV p l e (headSpec wsX2_cover rmX2_cover).room s m ([.ref a0, .int p1, .int p2] : List Value).toArray below meth c D S r H locs 0 0 0 0 (F0 m 24 ls []) := by
    intro S3 H locs ls hH hl hf
    rw [← e5] at hf
    have hr9 := Option.some.inj hf
    subst hr9
    exact e_v hx hb hr hlocks hH dX2_cover_24
  obtain ⟨o6, eo6, hq6f⟩ := ob hf
  have Lo6 : ∀ (n : Nat) (x1 : Int32) (S2 : PS), iter (fun (v : Int32 × PS) => f_X2_cover_b2 a0 p1 p2 v.1 v.2) n (x1, S2) = some o6 → ∀ (H : Heap) (locs : List Loc) (ls : Array Slot), HI D S S2 s H locs → lv_has ls 4 [(0, .ref a0), (1, .int p1), (2, .int p2), (3, .int x1)] → GV p l e (headSpec wsX2_cover rmX2_cover).room s m ([.ref a0, .int p1, .int p2] : List Value).toArray below meth c D S r H locs 0 0 0 0 (F0 m 2 ls []) := by
    intro n
    induction n with
    | zero => intro x1 S2 hi; cases hi
    | succ n ih6 =>
      intro x1 S2 hi H locs ls hH hl
      obtain ⟨q6_, hf, hq6⟩ := iter_s hi
      have hf : f_X2_cover_b2 a0 p1 p2 x1 S2 = some q6_ := hf
      unfold f_X2_cover_b2 at hf
      refine lv_iload_n hx hb dX2_cover_2 rfl (lv_at hl 3 rfl) ?_
      refine lv_iload_n hx hb dX2_cover_3 rfl (lv_at hl 2 rfl) ?_
      refine lv_icmp_ge (tgt := 24) hx hb dX2_cover_4 (by decide) (fun c7 => ?_) (fun c7 => ?_)
      · have hf := ip hf c7
        cases hf
        have hf9 := itR (K := (fun (v : PS) => k4 v)) hq6 hq6f
        exact Xk4 S2 _ _ ls hH (lv_sub hl [] rfl) hf9
      · have hf := iq hf c7
        refine lv_aload_n hx hb dX2_cover_7 rfl (lv_at hl 0 rfl) ?_
        obtain ⟨ek8, hf⟩ := oc hf
        obtain ⟨a9, e10, hf⟩ := ob hf
        refine r_getQ hx hb 5 hts (fun w h => List.mem_cons_of_mem _ (mwsX20 w h)) hown hH ek8 (by decide) rfl 2 (by decide) rfl (hts (.fieldLink RX2 24 "Housestyle$Findings" "covered" "LHousestyle$Row;") (List.mem_cons_of_mem _ gw_10_15)) (fun _ h9 => h9) dX2_cover_8 e10 ?_
        refine lv_iload_n hx hb dX2_cover_11 rfl (lv_at hl 1 rfl) ?_
        refine lv_iload_n hx hb dX2_cover_12 rfl (lv_at hl 3 rfl) ?_
        refine lv_iadd hx hb dX2_cover_13 ?_
        refine lv_iconst (v := 1) hx hb dX2_cover_14 (by decide) ?_
        obtain ⟨ek11, hf⟩ := oc hf
        obtain ⟨r12, e13, hf⟩ := ob hf
        refine r_callVv (As := [.int (p1 + x1), .int 1]) ⟨hx, hb, hml, hown, hts⟩ (c_X5_set l D S2 a9 (p1 + x1) 1 r12 e13) (cwV 2 hts (gwV gw_11_21 gw_5_20 gw_5_21 gw_1_5 gw_5_16) rfl rfl rfl (by decide +kernel) ⟨Nat.le_of_ble_eq_true rfl, Nat.le_of_ble_eq_true rfl⟩) hH hNE 8 ek11 (by decide) rfl rfl rfl hl.1 rfl (Nat.le_of_ble_eq_true rfl) dX2_cover_15 ⟨(Nat.le_of_ble_eq_true rfl), (Nat.le_of_ble_eq_true rfl)⟩ (fun H locs hH => ?_)
        obtain ⟨x14, e15, hf⟩ := ol hf
        refine lv_iinc (v := x14) (lv' := [(3, .int x14), (0, .ref a0), (1, .int p1), (2, .int p2)]) hx hb dX2_cover_18 hl (k := 3) rfl (by rw [← e15]; rfl) (by decide) rfl (fun ls hl => ?_)
        refine lv_goto (tgt := 2) hx hb dX2_cover_21 (by decide) ?_
        cases hf
        exact ih6 x14 r12 hq6 _ _ ls hH (lv_sub hl [1, 2, 3, 0] rfl)
  exact Lo6 kF 0 S eo6 _ _ ls hH (lv_sub hl [1, 2, 3, 0] rfl)
set_option maxRecDepth 100000 in
def f_X2_takeBest_b17 (a0 : Nat) (b1 : Nat) (p2 : Int32) (p3 : Int32) (x2 : Int32) (S : PS) (x21 : Int32) : Option ((Int32) ⊕ ((Unit) ⊕ (Int32))) := if (20 : Int32) < x21 then (some (.inr (.inl ()))) else (lt (fun (u35 : Unit) => lt (x21 + 1) fun x33 => some (.inl x33)) fun j32 => if (p3 &&& (1 <<< (x21 &&& 31))) = 0 then (j32 ()) else (if kK S a0 = 6 then ((kQ S a0 0).bind fun a39 => if kK S a39 = 4 then ((f_X0_itemsOf S a39 x21).bind fun r42 => if r42 = x2 then ((f_X2_isFree S a0 p2 x2).bind fun r45 => if r45 = 0 then (j32 ()) else ((kQ S a0 1).bind fun a48 => if kK S a48 = 12 then ((f_X8_fromOf S a48 p2).bind fun r51 => (f_X2_lengthAt S a0 x21 p2).bind fun r53 => if kK S b1 = 5 then ((f_X1_ignores S b1 x21 r51 r53).bind fun r56 => if r56 = 0 then (some (.inr (.inr x21))) else (j32 ())) else none) else none)) else (j32 ())) else none) else none))
set_option maxRecDepth 100000 in
def f_X2_takeBest_b8 (a0 : Nat) (b1 : Nat) (p2 : Int32) (p3 : Int32) (S : PS) (x2 : Int32) : Option ((Int32) ⊕ ((Unit) ⊕ (Int32 × Int32))) := if x2 < (1 : Int32) then (some (.inr (.inl ()))) else (lt (fun (u26 : Unit) => lt (x2 + (-1)) fun x24 => some (.inl x24)) fun k22 => lt (fun (x27 : Int32) => some (.inr (.inr (x2, x27)))) fun k28 => (iter (fun (v : Int32) => f_X2_takeBest_b17 a0 b1 p2 p3 x2 S v) kF 0).bind (fun (z : (Unit) ⊕ (Int32)) => Sum.elim (fun (v : Unit) => k22 v) (fun (v : Int32) => k28 v) z))
set_option maxRecDepth 100000 in
def f_X2_takeBest (S : PS) (a0 : Nat) (b1 : Nat) (p2 : Int32) (p3 : Int32) : Option (PS) := if p3 = 0 then (some S) else (lt (fun (u5 : Unit) => some S) fun k3 => lt (fun (x6 : Int32) (x7 : Int32) => if kK S a0 = 6 then ((f_X2_cover S a0 p2 x6).bind fun r11 => if kK r11 a0 = 6 then ((kQ r11 a0 3).bind fun a14 => if kK r11 a14 = 9 then ((f_X5_set r11 a14 p2 (x7 + 1)).bind fun r17 => some r17) else none) else none) else none) fun k8 => (iter (fun (v : Int32) => f_X2_takeBest_b8 a0 b1 p2 p3 S v) kF 3).bind (fun (z : (Unit) ⊕ (Int32 × Int32)) => Sum.elim (fun (v : Unit) => k3 v) (fun (v : Int32 × Int32) => k8 v.1 v.2) z))
abbrev rmX2_takeBest : Room := { frames := 5, cells := 0, slots := 0, locals := 107 }
set_option maxHeartbeats 4000000 in
set_option maxRecDepth 100000 in
theorem c_X2_takeBest (l : Launch) (D : va_G × Nat) (S : PS) (a0 : Nat) (b1 : Nat) (p2 : Int32) (p3 : Int32) (r : PS) (hf : f_X2_takeBest S a0 b1 p2 p3 = some r) : MV l D yX2_takeBest wsX2_takeBest rmX2_takeBest S [.ref a0, .ref b1, .int p2, .int p3] r 0 0 := by
  unfold f_X2_takeBest at hf
  refine Met.ofW (cc := cX2_takeBest) (maxL := 6) (ret := none) (by decide) rfl ?_
  intro p e s m args below meth c s₁ B hml hv
  obtain ⟨rfl, hH0, hNE⟩ := hv
  have hx := B.exec
  have hb := B.bytes
  have hr := B.returns
  have hts := atoms_spec (ws := wsX2_takeBest) B.pre
  have hown : s.vm.findClass RX2 = some m.cls := findClass_of_methodNamed B.named
  have hlocks := B.notSynchronized
  have hH : HI D S S s s.heap [] := HI.start hH0
  have hl := lv_entry ([.ref a0, .ref b1, .int p2, .int p3]) (n := 6) (Nat.le_of_ble_eq_true rfl)
  rw [lg_entry_eq]
  generalize (lg_sl ([.ref a0, .ref b1, .int p2, .int p3]) ++ List.replicate (6 - (lg_sl ([.ref a0, .ref b1, .int p2, .int p3])).length) Slot.unset).toArray = ls at hl ⊢
  have hl : lv_has ls 6 [(0, .ref a0), (1, .ref b1), (2, .int p2), (3, .int p3)] := hl
  refine lv_iload_n hx hb dX2_takeBest_0 rfl (lv_at hl 3 rfl) ?_
  refine lv_if_ne (tgt := 5) hx hb dX2_takeBest_1 (by decide) (fun c1 => ?_) (fun c1 => ?_)
  · have hf := iq hf c1
    refine lv_iconst (v := 3) hx hb dX2_takeBest_5 (by decide) ?_
    refine lv_istore (lv' := [(4, .int 3), (0, .ref a0), (1, .ref b1), (2, .int p2), (3, .int p3)]) hx hb dX2_takeBest_6 hl (by decide) rfl (fun ls hl => ?_)
    obtain ⟨k3, e4, hf⟩ := ol hf
    have Xk3 : ∀ (u5 : Unit) (H : Heap) (locs : List Loc) (ls : Array Slot), HI D S S s H locs → lv_has ls 6 [] → k3 u5 = some r → GV p l e (headSpec wsX2_takeBest rmX2_takeBest).room s m ([.ref a0, .ref b1, .int p2, .int p3] : List Value).toArray below meth c D S r H locs 0 0 0 0 (F0 m 113 ls []) := by
      intro u5 H locs ls hH hl hf
      rw [← e4] at hf
      have hr9 := Option.some.inj hf
      subst hr9
      exact e_v hx hb hr hlocks hH dX2_takeBest_113
    obtain ⟨k8, e9, hf⟩ := ol hf
    have Xk8 : ∀ (x6 : Int32) (x7 : Int32) (H : Heap) (locs : List Loc) (ls : Array Slot), HI D S S s H locs → lv_has ls 6 [(0, .ref a0), (2, .int p2), (4, .int x6), (5, .int x7)] → k8 x6 x7 = some r → GV p l e (headSpec wsX2_takeBest rmX2_takeBest).room s m ([.ref a0, .ref b1, .int p2, .int p3] : List Value).toArray below meth c D S r H locs 0 0 0 0 (F0 m 81 ls []) := by
      intro x6 x7 H locs ls hH hl hf
      rw [← e9] at hf
      refine lv_aload_n hx hb dX2_takeBest_81 rfl (lv_at hl 0 rfl) ?_
      refine lv_iload_n hx hb dX2_takeBest_82 rfl (lv_at hl 1 rfl) ?_
      refine lv_iload hx hb dX2_takeBest_83 (lv_at hl 2 rfl) ?_
      obtain ⟨ek10, hf⟩ := oc hf
      obtain ⟨r11, e12, hf⟩ := ob hf
      refine r_callVv (As := [.int p2, .int x6]) ⟨hx, hb, hml, hown, hts⟩ (c_X2_cover l D S a0 p2 x6 r11 e12) (cwV 2 hts (gwV gw_12_5 gw_12_6 gw_12_7 gw_11_18 gw_11_20) rfl rfl rfl (by decide +kernel) ⟨Nat.le_of_ble_eq_true rfl, Nat.le_of_ble_eq_true rfl⟩) hH hNE 5 ek10 (by decide) rfl rfl rfl hl.1 rfl (Nat.le_of_ble_eq_true rfl) dX2_takeBest_85 ⟨(Nat.le_of_ble_eq_true rfl), (Nat.le_of_ble_eq_true rfl)⟩ (fun H locs hH => ?_)
      refine lv_aload_n hx hb dX2_takeBest_88 rfl (lv_at hl 0 rfl) ?_
      obtain ⟨ek13, hf⟩ := oc hf
      obtain ⟨a14, e15, hf⟩ := ob hf
      refine r_getQ hx hb 5 hts (fun w h => List.mem_cons_of_mem _ (mwsX20 w h)) hown hH ek13 (by decide) rfl 3 (by decide) rfl (hts (.fieldLink RX2 28 "Housestyle$Findings" "takenAt" "LHousestyle$Row;") (List.mem_cons_of_mem _ gw_10_16)) (fun _ h9 => h9) dX2_takeBest_89 e15 ?_
      refine lv_iload_n hx hb dX2_takeBest_92 rfl (lv_at hl 1 rfl) ?_
      refine lv_iload hx hb dX2_takeBest_93 (lv_at hl 3 rfl) ?_
      refine lv_iconst (v := 1) hx hb dX2_takeBest_95 (by decide) ?_
      refine lv_iadd hx hb dX2_takeBest_96 ?_
      obtain ⟨ek16, hf⟩ := oc hf
      obtain ⟨r17, e18, hf⟩ := ob hf
      refine r_callVv (As := [.int p2, .int (x7 + 1)]) ⟨hx, hb, hml, hown, hts⟩ (c_X5_set l D r11 a14 p2 (x7 + 1) r17 e18) (cwV 2 hts (gwV gw_11_21 gw_5_20 gw_5_21 gw_1_5 gw_5_16) rfl rfl rfl (by decide +kernel) ⟨Nat.le_of_ble_eq_true rfl, Nat.le_of_ble_eq_true rfl⟩) hH hNE 8 ek16 (by decide) rfl rfl rfl hl.1 rfl (Nat.le_of_ble_eq_true rfl) dX2_takeBest_97 ⟨(Nat.le_of_ble_eq_true rfl), (Nat.le_of_ble_eq_true rfl)⟩ (fun H locs hH => ?_)
      have hr9 := Option.some.inj hf
      subst hr9
      exact e_v hx hb hr hlocks hH dX2_takeBest_100
    obtain ⟨o19, eo19, hq19f⟩ := ob hf
    have Lo19 : ∀ (n : Nat) (x2 : Int32), iter (fun (v : Int32) => f_X2_takeBest_b8 a0 b1 p2 p3 S v) n x2 = some o19 → ∀ (H : Heap) (locs : List Loc) (ls : Array Slot), HI D S S s H locs → lv_has ls 6 [(0, .ref a0), (1, .ref b1), (2, .int p2), (3, .int p3), (4, .int x2)] → GV p l e (headSpec wsX2_takeBest rmX2_takeBest).room s m ([.ref a0, .ref b1, .int p2, .int p3] : List Value).toArray below meth c D S r H locs 0 0 0 0 (F0 m 8 ls []) := by
      intro n
      induction n with
      | zero => intro x2 hi; cases hi
      | succ n ih19 =>
        intro x2 hi H locs ls hH hl
        obtain ⟨q19_, hf, hq19⟩ := iter_s hi
        have hf : f_X2_takeBest_b8 a0 b1 p2 p3 S x2 = some q19_ := hf
        unfold f_X2_takeBest_b8 at hf
        refine lv_iload hx hb dX2_takeBest_8 (lv_at hl 4 rfl) ?_
        refine lv_iconst (v := 1) hx hb dX2_takeBest_10 (by decide) ?_
        refine lv_icmp_lt (tgt := 113) hx hb dX2_takeBest_11 (by decide) (fun c20 => ?_) (fun c20 => ?_)
        · have hf := ip hf c20
          cases hf
          have hf9 := itR (K := (fun (z : (Unit) ⊕ (Int32 × Int32)) => Sum.elim (fun (v : Unit) => k3 v) (fun (v : Int32 × Int32) => k8 v.1 v.2) z)) hq19 hq19f
          exact Xk3 () _ _ ls hH (lv_sub hl [] rfl) hf9
        · have hf := iq hf c20
          refine lv_iconst (v := 0) hx hb dX2_takeBest_14 (by decide) ?_
          refine lv_istore (lv' := [(5, .int 0), (0, .ref a0), (1, .ref b1), (2, .int p2), (3, .int p3), (4, .int x2)]) hx hb dX2_takeBest_15 hl (by decide) rfl (fun ls hl => ?_)
          obtain ⟨k22, e23, hf⟩ := ol hf
          have Xk22 : ∀ (u26 : Unit) (H : Heap) (locs : List Loc) (ls : Array Slot), HI D S S s H locs → lv_has ls 6 [(0, .ref a0), (1, .ref b1), (2, .int p2), (3, .int p3), (4, .int x2)] → k22 u26 = some q19_ → GV p l e (headSpec wsX2_takeBest rmX2_takeBest).room s m ([.ref a0, .ref b1, .int p2, .int p3] : List Value).toArray below meth c D S r H locs 0 0 0 0 (F0 m 107 ls []) := by
            intro u26 H locs ls hH hl hf
            rw [← e23] at hf
            obtain ⟨x24, e25, hf⟩ := ol hf
            refine lv_iinc (v := x24) (lv' := [(4, .int x24), (0, .ref a0), (1, .ref b1), (2, .int p2), (3, .int p3)]) hx hb dX2_takeBest_107 hl (k := 4) rfl (by rw [← e25]; rfl) (by decide) rfl (fun ls hl => ?_)
            refine lv_goto (tgt := 8) hx hb dX2_takeBest_110 (by decide) ?_
            cases hf
            exact ih19 x24 hq19 _ _ ls hH (lv_sub hl [1, 2, 3, 4, 0] rfl)
          obtain ⟨k28, e29, hf⟩ := ol hf
          have Xk28 : ∀ (x27 : Int32) (H : Heap) (locs : List Loc) (ls : Array Slot), HI D S S s H locs → lv_has ls 6 [(0, .ref a0), (2, .int p2), (4, .int x2), (5, .int x27)] → k28 x27 = some q19_ → GV p l e (headSpec wsX2_takeBest rmX2_takeBest).room s m ([.ref a0, .ref b1, .int p2, .int p3] : List Value).toArray below meth c D S r H locs 0 0 0 0 (F0 m 81 ls []) := by
            intro x27 H locs ls hH hl hf
            rw [← e29] at hf
            cases hf
            have hf9 := itR (K := (fun (z : (Unit) ⊕ (Int32 × Int32)) => Sum.elim (fun (v : Unit) => k3 v) (fun (v : Int32 × Int32) => k8 v.1 v.2) z)) hq19 hq19f
            exact Xk8 x2 x27 _ _ ls hH (lv_sub hl [0, 1, 2, 3] rfl) hf9
          obtain ⟨o30, eo30, hq30f⟩ := ob hf
          have Lo30 : ∀ (n : Nat) (x21 : Int32), iter (fun (v : Int32) => f_X2_takeBest_b17 a0 b1 p2 p3 x2 S v) n x21 = some o30 → ∀ (H : Heap) (locs : List Loc) (ls : Array Slot), HI D S S s H locs → lv_has ls 6 [(0, .ref a0), (1, .ref b1), (2, .int p2), (3, .int p3), (4, .int x2), (5, .int x21)] → GV p l e (headSpec wsX2_takeBest rmX2_takeBest).room s m ([.ref a0, .ref b1, .int p2, .int p3] : List Value).toArray below meth c D S r H locs 0 0 0 0 (F0 m 17 ls []) := by
            intro n
            induction n with
            | zero => intro x21 hi; cases hi
            | succ n ih30 =>
              intro x21 hi H locs ls hH hl
              obtain ⟨q30_, hf, hq30⟩ := iter_s hi
              have hf : f_X2_takeBest_b17 a0 b1 p2 p3 x2 S x21 = some q30_ := hf
              unfold f_X2_takeBest_b17 at hf
              refine lv_iload hx hb dX2_takeBest_17 (lv_at hl 5 rfl) ?_
              refine lv_bipush (v := 20) hx hb dX2_takeBest_19 (by decide) ?_
              refine lv_icmp_gt (tgt := 107) hx hb dX2_takeBest_21 (by decide) (fun c31 => ?_) (fun c31 => ?_)
              · have hf := ip hf c31
                cases hf
                have hf9 := itR (K := (fun (z : (Unit) ⊕ (Int32)) => Sum.elim (fun (v : Unit) => k22 v) (fun (v : Int32) => k28 v) z)) hq30 hq30f
                exact Xk22 () _ _ ls hH (lv_sub hl [0, 1, 2, 3, 4] rfl) hf9
              · have hf := iq hf c31
                refine lv_iload_n hx hb dX2_takeBest_24 rfl (lv_at hl 3 rfl) ?_
                refine lv_iconst (v := 1) hx hb dX2_takeBest_25 (by decide) ?_
                refine lv_iload hx hb dX2_takeBest_26 (lv_at hl 5 rfl) ?_
                refine lv_ishl hx hb dX2_takeBest_28 ?_
                refine lv_iand hx hb dX2_takeBest_29 ?_
                obtain ⟨j32, e36, hf⟩ := ol hf
                have Jj32 : ∀ (u35 : Unit) (H : Heap) (locs : List Loc) (ls : Array Slot), HI D S S s H locs → lv_has ls 6 [(0, .ref a0), (1, .ref b1), (2, .int p2), (3, .int p3), (4, .int x2), (5, .int x21)] → j32 u35 = some q30_ → GV p l e (headSpec wsX2_takeBest rmX2_takeBest).room s m ([.ref a0, .ref b1, .int p2, .int p3] : List Value).toArray below meth c D S r H locs 0 0 0 0 (F0 m 101 ls []) := by
                  intro u35 H locs ls hH hl hf
                  rw [← e36] at hf
                  obtain ⟨x33, e34, hf⟩ := ol hf
                  refine lv_iinc (v := x33) (lv' := [(5, .int x33), (0, .ref a0), (1, .ref b1), (2, .int p2), (3, .int p3), (4, .int x2)]) hx hb dX2_takeBest_101 hl (k := 5) rfl (by rw [← e34]; rfl) (by decide) rfl (fun ls hl => ?_)
                  refine lv_goto (tgt := 17) hx hb dX2_takeBest_104 (by decide) ?_
                  cases hf
                  exact ih30 x33 hq30 _ _ ls hH (lv_sub hl [1, 2, 3, 4, 5, 0] rfl)
                refine lv_if_eq (tgt := 101) hx hb dX2_takeBest_30 (by decide) (fun c37 => ?_) (fun c37 => ?_)
                · have hf := ip hf c37
                  exact Jj32 () _ _ ls hH (lv_sub hl [0, 1, 2, 3, 4, 5] rfl) hf
                · have hf := iq hf c37
                  refine lv_aload_n hx hb dX2_takeBest_33 rfl (lv_at hl 0 rfl) ?_
                  obtain ⟨ek38, hf⟩ := oc hf
                  obtain ⟨a39, e40, hf⟩ := ob hf
                  refine r_getQ hx hb 5 hts (fun w h => List.mem_cons_of_mem _ (mwsX20 w h)) hown hH ek38 (by decide) rfl 0 (by decide) rfl (hts (.fieldLink RX2 9 "Housestyle$Findings" "book" "LHousestyle$Book;") (List.mem_cons_of_mem _ gw_10_12)) (fun _ h9 => h9) dX2_takeBest_34 e40 ?_
                  refine lv_iload hx hb dX2_takeBest_37 (lv_at hl 5 rfl) ?_
                  obtain ⟨ek41, hf⟩ := oc hf
                  obtain ⟨r42, e43, hf⟩ := ob hf
                  refine r_callVi (As := [.int x21]) ⟨hx, hb, hml, hown, hts⟩ (c_X0_itemsOf l D S a39 x21 r42 e43) (cwV 1 hts (gwV gw_11_8 gw_11_9 gw_11_10 gw_6_5 gw_7_4) rfl rfl rfl (by decide +kernel) ⟨Nat.le_of_ble_eq_true rfl, Nat.le_of_ble_eq_true rfl⟩) hH hNE 3 ek41 (by decide) rfl rfl rfl hl.1 rfl (Nat.le_of_ble_eq_true rfl) dX2_takeBest_39 ⟨(Nat.le_of_ble_eq_true rfl), (Nat.le_of_ble_eq_true rfl)⟩ (fun H locs hH => ?_)
                  refine lv_iload hx hb dX2_takeBest_42 (lv_at hl 4 rfl) ?_
                  refine lv_icmp_ne (tgt := 101) hx hb dX2_takeBest_44 (by decide) (fun c44 => ?_) (fun c44 => ?_)
                  · have hf := iq hf c44
                    exact Jj32 () _ _ ls hH (lv_sub hl [0, 1, 2, 3, 4, 5] rfl) hf
                  · have hf := ip hf c44
                    refine lv_aload_n hx hb dX2_takeBest_47 rfl (lv_at hl 0 rfl) ?_
                    refine lv_iload_n hx hb dX2_takeBest_48 rfl (lv_at hl 2 rfl) ?_
                    refine lv_iload hx hb dX2_takeBest_49 (lv_at hl 4 rfl) ?_
                    obtain ⟨r45, e46, hf⟩ := ob hf
                    refine r_callVi (As := [.int p2, .int x2]) ⟨hx, hb, hml, hown, hts⟩ (c_X2_isFree l D S a0 p2 x2 r45 e46) (cwV 2 hts (gwV gw_11_23 gw_12_0 gw_12_1 gw_11_18 gw_11_19) rfl rfl rfl (by decide +kernel) ⟨Nat.le_of_ble_eq_true rfl, Nat.le_of_ble_eq_true rfl⟩) hH hNE 5 ek38 (by decide) rfl rfl rfl hl.1 rfl (Nat.le_of_ble_eq_true rfl) dX2_takeBest_51 ⟨(Nat.le_of_ble_eq_true rfl), (Nat.le_of_ble_eq_true rfl)⟩ (fun H locs hH => ?_)
                    refine lv_if_eq (tgt := 101) hx hb dX2_takeBest_54 (by decide) (fun c47 => ?_) (fun c47 => ?_)
                    · have hf := ip hf c47
                      exact Jj32 () _ _ ls hH (lv_sub hl [0, 1, 2, 3, 4, 5] rfl) hf
                    · have hf := iq hf c47
                      refine lv_aload_n hx hb dX2_takeBest_57 rfl (lv_at hl 1 rfl) ?_
                      refine lv_iload hx hb dX2_takeBest_58 (lv_at hl 5 rfl) ?_
                      refine lv_aload_n hx hb dX2_takeBest_60 rfl (lv_at hl 0 rfl) ?_
                      obtain ⟨a48, e49, hf⟩ := ob hf
                      refine r_getQ hx hb 5 hts (fun w h => List.mem_cons_of_mem _ (mwsX20 w h)) hown hH ek38 (by decide) rfl 1 (by decide) rfl (hts (.fieldLink RX2 15 "Housestyle$Findings" "tokens" "LHousestyle$Tokens;") (List.mem_cons_of_mem _ gw_10_13)) (fun _ h9 => h9) dX2_takeBest_61 e49 ?_
                      refine lv_iload_n hx hb dX2_takeBest_64 rfl (lv_at hl 2 rfl) ?_
                      obtain ⟨ek50, hf⟩ := oc hf
                      obtain ⟨r51, e52, hf⟩ := ob hf
                      refine r_callVi (As := [.int p2]) ⟨hx, hb, hml, hown, hts⟩ (c_X8_fromOf l D S a48 p2 r51 e52) (cwV 1 hts (gwV gw_11_3 gw_11_4 gw_11_5 gw_2_23 gw_11_1) rfl rfl rfl (by decide +kernel) ⟨Nat.le_of_ble_eq_true rfl, Nat.le_of_ble_eq_true rfl⟩) hH hNE 11 ek50 (by decide) rfl rfl rfl hl.1 rfl (Nat.le_of_ble_eq_true rfl) dX2_takeBest_65 ⟨(Nat.le_of_ble_eq_true rfl), (Nat.le_of_ble_eq_true rfl)⟩ (fun H locs hH => ?_)
                      refine lv_aload_n hx hb dX2_takeBest_68 rfl (lv_at hl 0 rfl) ?_
                      refine lv_iload hx hb dX2_takeBest_69 (lv_at hl 5 rfl) ?_
                      refine lv_iload_n hx hb dX2_takeBest_71 rfl (lv_at hl 2 rfl) ?_
                      obtain ⟨r53, e54, hf⟩ := ob hf
                      refine r_callVi (As := [.int x21, .int p2]) ⟨hx, hb, hml, hown, hts⟩ (c_X2_lengthAt l D S a0 x21 p2 r53 e54) (cwV 2 hts (gwV gw_11_15 gw_11_16 gw_11_17 gw_11_18 gw_11_7) rfl rfl rfl (by decide +kernel) ⟨Nat.le_of_ble_eq_true rfl, Nat.le_of_ble_eq_true rfl⟩) hH hNE 5 ek38 (by decide) rfl rfl rfl hl.1 rfl (Nat.le_of_ble_eq_true rfl) dX2_takeBest_72 ⟨(Nat.le_of_ble_eq_true rfl), (Nat.le_of_ble_eq_true rfl)⟩ (fun H locs hH => ?_)
                      obtain ⟨ek55, hf⟩ := oc hf
                      obtain ⟨r56, e57, hf⟩ := ob hf
                      refine r_callVi (As := [.int x21, .int r51, .int r53]) ⟨hx, hb, hml, hown, hts⟩ (c_X1_ignores l D S b1 x21 r51 r53 r56 e57) (cwV 3 hts (gwV gw_12_2 gw_12_3 gw_12_4 gw_9_20 gw_9_16) rfl rfl rfl (by decide +kernel) ⟨Nat.le_of_ble_eq_true rfl, Nat.le_of_ble_eq_true rfl⟩) hH hNE 4 ek55 (by decide) rfl rfl rfl hl.1 rfl (Nat.le_of_ble_eq_true rfl) dX2_takeBest_75 ⟨(Nat.le_of_ble_eq_true rfl), (Nat.le_of_ble_eq_true rfl)⟩ (fun H locs hH => ?_)
                      refine lv_if_ne (tgt := 101) hx hb dX2_takeBest_78 (by decide) (fun c58 => ?_) (fun c58 => ?_)
                      · have hf := iq hf c58
                        exact Jj32 () _ _ ls hH (lv_sub hl [0, 1, 2, 3, 4, 5] rfl) hf
                      · have hf := ip hf c58
                        cases hf
                        have hf9 := itR (K := (fun (z : (Unit) ⊕ (Int32)) => Sum.elim (fun (v : Unit) => k22 v) (fun (v : Int32) => k28 v) z)) hq30 hq30f
                        exact Xk28 x21 _ _ ls hH (lv_sub hl [0, 2, 4, 5] rfl) hf9
          exact Lo30 kF 0 eo30 _ _ ls hH (lv_sub hl [1, 2, 3, 4, 5, 0] rfl)
    exact Lo19 kF 3 eo19 _ _ ls hH (lv_sub hl [1, 2, 3, 4, 0] rfl)
  · have hf := ip hf c1
    have hr9 := Option.some.inj hf
    subst hr9
    exact e_v hx hb hr hlocks hH dX2_takeBest_4
set_option maxRecDepth 100000 in
def f_X2_solve_b116 (a0 : Nat) (x40 : Int32) (S41 : PS) : Option ((Int32 × PS) ⊕ ((PS))) := if kK S41 a0 = 6 then ((kQ S41 a0 1).bind fun a47 => if kK S41 a47 = 12 then ((f_X8_count S41 a47).bind fun r50 => if r50 ≤ x40 then (some (.inr S41)) else ((kQ S41 a0 3).bind fun a53 => if kK S41 a53 = 9 then ((f_X5_get S41 a53 x40).bind fun r56 => lt (fun (S58 : PS) => lt (x40 + 1) fun x60 => some (.inl (x60, S58))) fun j59 => if r56 = 0 then (j59 S41) else ((kQ S41 a0 4).bind fun a64 => if kK S41 a64 = 9 then ((f_X5_add S41 a64 x40).bind fun r67 => if kK r67 a0 = 6 then ((kQ r67 a0 5).bind fun a70 => (kQ r67 a0 3).bind fun a72 => if kK r67 a72 = 9 then ((f_X5_get r67 a72 x40).bind fun r75 => if kK r67 a70 = 9 then ((f_X5_add r67 a70 (r75 - 1)).bind fun r78 => j59 r78) else none) else none) else none) else none)) else none)) else none) else none
set_option maxRecDepth 100000 in
def f_X2_solve_b49 (a0 : Nat) (b1 : Nat) (r86 : Int32) (x88 : Int32) (S89 : PS) : Option ((Int32 × PS) ⊕ ((PS))) := if kK S89 a0 = 6 then ((kQ S89 a0 1).bind fun a97 => if kK S89 a97 = 12 then ((f_X8_count S89 a97).bind fun r100 => if r100 ≤ x88 then (some (.inr S89)) else (if r86 = 0 then (some (.inr S89)) else ((kQ S89 a0 0).bind fun a104 => if kK S89 a104 = 4 then ((f_X0_foundAt S89 a104 a97 b1 x88).bind fun r107 => (f_X2_takeBest S89 a0 b1 x88 (r107 &&& r86)).bind fun r109 => lt (x88 + 1) fun x111 => some (.inl (x111, r109))) else none))) else none) else none
set_option maxRecDepth 100000 in
def f_X2_solve_b31 (a0 : Nat) (b1 : Nat) (x23 : Int32) (S24 : PS) : Option ((Int32 × PS) ⊕ ((PS))) := if x23 < (1 : Int32) then (some (.inr S24)) else (if kK S24 a0 = 6 then ((kQ S24 a0 0).bind fun a83 => if kK S24 a83 = 4 then ((f_X0_ofRank S24 a83 b1 x23).bind fun r86 => lt (fun (S90 : PS) => lt (x23 + (-1)) fun x93 => some (.inl (x93, S90))) fun k91 => (iter (fun (v : Int32 × PS) => f_X2_solve_b49 a0 b1 r86 v.1 v.2) kF (0, S24)).bind (fun (v : PS) => k91 v)) else none) else none)
set_option maxRecDepth 100000 in
def f_X2_solve (S : PS) (a0 : Nat) (b1 : Nat) : Option (PS) := if kK S a0 = 6 then ((kQ S a0 2).bind fun a2 => (kQ S a0 1).bind fun a4 => if kK S a4 = 12 then ((f_X8_count S a4).bind fun r7 => if kK S a2 = 9 then ((f_X5_reset S a2 r7).bind fun r10 => if kK r10 a0 = 6 then ((kQ r10 a0 3).bind fun a13 => (kQ r10 a0 1).bind fun a15 => if kK r10 a15 = 12 then ((f_X8_count r10 a15).bind fun r18 => if kK r10 a13 = 9 then ((f_X5_reset r10 a13 r18).bind fun r21 => lt (fun (S25 : PS) => if kK S25 a0 = 6 then ((kQ S25 a0 4).bind fun a29 => if kK S25 a29 = 9 then ((f_X5_clear S25 a29).bind fun r32 => if kK r32 a0 = 6 then ((kQ r32 a0 5).bind fun a35 => if kK r32 a35 = 9 then ((f_X5_clear r32 a35).bind fun r38 => lt (fun (S42 : PS) => some S42) fun k43 => (iter (fun (v : Int32 × PS) => f_X2_solve_b116 a0 v.1 v.2) kF (0, r38)).bind (fun (v : PS) => k43 v)) else none) else none) else none) else none) fun k26 => (iter (fun (v : Int32 × PS) => f_X2_solve_b31 a0 b1 v.1 v.2) kF (9, r21)).bind (fun (v : PS) => k26 v)) else none) else none) else none) else none) else none) else none
abbrev rmX2_solve : Room := { frames := 6, cells := 0, slots := 0, locals := 132 }
set_option maxHeartbeats 4000000 in
set_option maxRecDepth 100000 in
theorem c_X2_solve (l : Launch) (D : va_G × Nat) (S : PS) (a0 : Nat) (b1 : Nat) (r : PS) (hf : f_X2_solve S a0 b1 = some r) : MV l D yX2_solve wsX2_solve rmX2_solve S [.ref a0, .ref b1] r 0 0 := by
  unfold f_X2_solve at hf
  refine Met.ofW (cc := cX2_solve) (maxL := 5) (ret := none) (by decide) rfl ?_
  intro p e s m args below meth c s₁ B hml hv
  obtain ⟨rfl, hH0, hNE⟩ := hv
  have hx := B.exec
  have hb := B.bytes
  have hr := B.returns
  have hts := atoms_spec (ws := wsX2_solve) B.pre
  have hown : s.vm.findClass RX2 = some m.cls := findClass_of_methodNamed B.named
  have hlocks := B.notSynchronized
  have hH : HI D S S s s.heap [] := HI.start hH0
  have hl := lv_entry ([.ref a0, .ref b1]) (n := 5) (Nat.le_of_ble_eq_true rfl)
  rw [lg_entry_eq]
  generalize (lg_sl ([.ref a0, .ref b1]) ++ List.replicate (5 - (lg_sl ([.ref a0, .ref b1])).length) Slot.unset).toArray = ls at hl ⊢
  have hl : lv_has ls 5 [(0, .ref a0), (1, .ref b1)] := hl
  refine lv_aload_n hx hb dX2_solve_0 rfl (lv_at hl 0 rfl) ?_
  obtain ⟨ek1, hf⟩ := oc hf
  obtain ⟨a2, e3, hf⟩ := ob hf
  refine r_getQ hx hb 5 hts (fun w h => List.mem_cons_of_mem _ (mwsX20 w h)) hown hH ek1 (by decide) rfl 2 (by decide) rfl (hts (.fieldLink RX2 24 "Housestyle$Findings" "covered" "LHousestyle$Row;") (List.mem_cons_of_mem _ gw_10_15)) (fun _ h9 => h9) dX2_solve_1 e3 ?_
  refine lv_aload_n hx hb dX2_solve_4 rfl (lv_at hl 0 rfl) ?_
  obtain ⟨a4, e5, hf⟩ := ob hf
  refine r_getQ hx hb 5 hts (fun w h => List.mem_cons_of_mem _ (mwsX20 w h)) hown hH ek1 (by decide) rfl 1 (by decide) rfl (hts (.fieldLink RX2 15 "Housestyle$Findings" "tokens" "LHousestyle$Tokens;") (List.mem_cons_of_mem _ gw_10_13)) (fun _ h9 => h9) dX2_solve_5 e5 ?_
  obtain ⟨ek6, hf⟩ := oc hf
  obtain ⟨r7, e8, hf⟩ := ob hf
  refine r_callVi (As := []) ⟨hx, hb, hml, hown, hts⟩ (c_X8_count l D S a4 r7 e8) (cwV 0 hts (gwV gw_12_9 gw_2_21 gw_2_22 gw_2_23 gw_1_12) rfl rfl rfl (by decide +kernel) ⟨Nat.le_of_ble_eq_true rfl, Nat.le_of_ble_eq_true rfl⟩) hH hNE 11 ek6 (by decide) rfl rfl rfl hl.1 rfl (Nat.le_of_ble_eq_true rfl) dX2_solve_8 ⟨(Nat.le_of_ble_eq_true rfl), (Nat.le_of_ble_eq_true rfl)⟩ (fun H locs hH => ?_)
  obtain ⟨ek9, hf⟩ := oc hf
  obtain ⟨r10, e11, hf⟩ := ob hf
  refine r_callVv (As := [.int r7]) ⟨hx, hb, hml, hown, hts⟩ (c_X5_reset l D S a2 r7 r10 e11) (cwV 1 hts (gwV gw_12_10 gw_6_10 gw_6_11 gw_1_5 gw_1_17) rfl rfl rfl (by decide +kernel) ⟨Nat.le_of_ble_eq_true rfl, Nat.le_of_ble_eq_true rfl⟩) hH hNE 8 ek9 (by decide) rfl rfl rfl hl.1 rfl (Nat.le_of_ble_eq_true rfl) dX2_solve_11 ⟨(Nat.le_of_ble_eq_true rfl), (Nat.le_of_ble_eq_true rfl)⟩ (fun H locs hH => ?_)
  refine lv_aload_n hx hb dX2_solve_14 rfl (lv_at hl 0 rfl) ?_
  obtain ⟨ek12, hf⟩ := oc hf
  obtain ⟨a13, e14, hf⟩ := ob hf
  refine r_getQ hx hb 5 hts (fun w h => List.mem_cons_of_mem _ (mwsX20 w h)) hown hH ek12 (by decide) rfl 3 (by decide) rfl (hts (.fieldLink RX2 28 "Housestyle$Findings" "takenAt" "LHousestyle$Row;") (List.mem_cons_of_mem _ gw_10_16)) (fun _ h9 => h9) dX2_solve_15 e14 ?_
  refine lv_aload_n hx hb dX2_solve_18 rfl (lv_at hl 0 rfl) ?_
  obtain ⟨a15, e16, hf⟩ := ob hf
  refine r_getQ hx hb 5 hts (fun w h => List.mem_cons_of_mem _ (mwsX20 w h)) hown hH ek12 (by decide) rfl 1 (by decide) rfl (hts (.fieldLink RX2 15 "Housestyle$Findings" "tokens" "LHousestyle$Tokens;") (List.mem_cons_of_mem _ gw_10_13)) (fun _ h9 => h9) dX2_solve_19 e16 ?_
  obtain ⟨ek17, hf⟩ := oc hf
  obtain ⟨r18, e19, hf⟩ := ob hf
  refine r_callVi (As := []) ⟨hx, hb, hml, hown, hts⟩ (c_X8_count l D r10 a15 r18 e19) (cwV 0 hts (gwV gw_12_9 gw_2_21 gw_2_22 gw_2_23 gw_1_12) rfl rfl rfl (by decide +kernel) ⟨Nat.le_of_ble_eq_true rfl, Nat.le_of_ble_eq_true rfl⟩) hH hNE 11 ek17 (by decide) rfl rfl rfl hl.1 rfl (Nat.le_of_ble_eq_true rfl) dX2_solve_22 ⟨(Nat.le_of_ble_eq_true rfl), (Nat.le_of_ble_eq_true rfl)⟩ (fun H locs hH => ?_)
  obtain ⟨ek20, hf⟩ := oc hf
  obtain ⟨r21, e22, hf⟩ := ob hf
  refine r_callVv (As := [.int r18]) ⟨hx, hb, hml, hown, hts⟩ (c_X5_reset l D r10 a13 r18 r21 e22) (cwV 1 hts (gwV gw_12_10 gw_6_10 gw_6_11 gw_1_5 gw_1_17) rfl rfl rfl (by decide +kernel) ⟨Nat.le_of_ble_eq_true rfl, Nat.le_of_ble_eq_true rfl⟩) hH hNE 8 ek20 (by decide) rfl rfl rfl hl.1 rfl (Nat.le_of_ble_eq_true rfl) dX2_solve_25 ⟨(Nat.le_of_ble_eq_true rfl), (Nat.le_of_ble_eq_true rfl)⟩ (fun H locs hH => ?_)
  refine lv_bipush (v := 9) hx hb dX2_solve_28 (by decide) ?_
  refine lv_istore_n (lv' := [(2, .int 9), (0, .ref a0), (1, .ref b1)]) hx hb dX2_solve_30 rfl hl (by decide) rfl (fun ls hl => ?_)
  obtain ⟨k26, e27, hf⟩ := ol hf
  have Xk26 : ∀ (S25 : PS) (H : Heap) (locs : List Loc) (ls : Array Slot), HI D S S25 s H locs → lv_has ls 5 [(0, .ref a0)] → k26 S25 = some r → GV p l e (headSpec wsX2_solve rmX2_solve).room s m ([.ref a0, .ref b1] : List Value).toArray below meth c D S r H locs 0 0 0 0 (F0 m 100 ls []) := by
    intro S25 H locs ls hH hl hf
    rw [← e27] at hf
    refine lv_aload_n hx hb dX2_solve_100 rfl (lv_at hl 0 rfl) ?_
    obtain ⟨ek28, hf⟩ := oc hf
    obtain ⟨a29, e30, hf⟩ := ob hf
    refine r_getQ hx hb 5 hts (fun w h => List.mem_cons_of_mem _ (mwsX20 w h)) hown hH ek28 (by decide) rfl 4 (by decide) rfl (hts (.fieldLink RX2 31 "Housestyle$Findings" "itsTokens" "LHousestyle$Row;") (List.mem_cons_of_mem _ gw_10_17)) (fun _ h9 => h9) dX2_solve_101 e30 ?_
    obtain ⟨ek31, hf⟩ := oc hf
    obtain ⟨r32, e33, hf⟩ := ob hf
    refine r_callVv (As := []) ⟨hx, hb, hml, hown, hts⟩ (c_X5_clear l D S25 a29 r32 e33) (cwV 0 hts (gwV gw_12_20 gw_9_14 gw_9_15 gw_1_5 gw_9_11) rfl rfl rfl (by decide +kernel) ⟨Nat.le_of_ble_eq_true rfl, Nat.le_of_ble_eq_true rfl⟩) hH hNE 8 ek31 (by decide) rfl rfl rfl hl.1 rfl (Nat.le_of_ble_eq_true rfl) dX2_solve_104 ⟨(Nat.le_of_ble_eq_true rfl), (Nat.le_of_ble_eq_true rfl)⟩ (fun H locs hH => ?_)
    refine lv_aload_n hx hb dX2_solve_107 rfl (lv_at hl 0 rfl) ?_
    obtain ⟨ek34, hf⟩ := oc hf
    obtain ⟨a35, e36, hf⟩ := ob hf
    refine r_getQ hx hb 5 hts (fun w h => List.mem_cons_of_mem _ (mwsX20 w h)) hown hH ek34 (by decide) rfl 5 (by decide) rfl (hts (.fieldLink RX2 34 "Housestyle$Findings" "itsRules" "LHousestyle$Row;") (List.mem_cons_of_mem _ gw_10_18)) (fun _ h9 => h9) dX2_solve_108 e36 ?_
    obtain ⟨ek37, hf⟩ := oc hf
    obtain ⟨r38, e39, hf⟩ := ob hf
    refine r_callVv (As := []) ⟨hx, hb, hml, hown, hts⟩ (c_X5_clear l D r32 a35 r38 e39) (cwV 0 hts (gwV gw_12_20 gw_9_14 gw_9_15 gw_1_5 gw_9_11) rfl rfl rfl (by decide +kernel) ⟨Nat.le_of_ble_eq_true rfl, Nat.le_of_ble_eq_true rfl⟩) hH hNE 8 ek37 (by decide) rfl rfl rfl hl.1 rfl (Nat.le_of_ble_eq_true rfl) dX2_solve_111 ⟨(Nat.le_of_ble_eq_true rfl), (Nat.le_of_ble_eq_true rfl)⟩ (fun H locs hH => ?_)
    refine lv_iconst (v := 0) hx hb dX2_solve_114 (by decide) ?_
    refine lv_istore_n (lv' := [(2, .int 0), (0, .ref a0)]) hx hb dX2_solve_115 rfl hl (by decide) rfl (fun ls hl => ?_)
    obtain ⟨k43, e44, hf⟩ := ol hf
    have Xk43 : ∀ (S42 : PS) (H : Heap) (locs : List Loc) (ls : Array Slot), HI D S S42 s H locs → lv_has ls 5 [] → k43 S42 = some r → GV p l e (headSpec wsX2_solve rmX2_solve).room s m ([.ref a0, .ref b1] : List Value).toArray below meth c D S r H locs 0 0 0 0 (F0 m 169 ls []) := by
      intro S42 H locs ls hH hl hf
      rw [← e44] at hf
      have hr9 := Option.some.inj hf
      subst hr9
      exact e_v hx hb hr hlocks hH dX2_solve_169
    obtain ⟨o45, eo45, hq45f⟩ := ob hf
    have Lo45 : ∀ (n : Nat) (x40 : Int32) (S41 : PS), iter (fun (v : Int32 × PS) => f_X2_solve_b116 a0 v.1 v.2) n (x40, S41) = some o45 → ∀ (H : Heap) (locs : List Loc) (ls : Array Slot), HI D S S41 s H locs → lv_has ls 5 [(0, .ref a0), (2, .int x40)] → GV p l e (headSpec wsX2_solve rmX2_solve).room s m ([.ref a0, .ref b1] : List Value).toArray below meth c D S r H locs 0 0 0 0 (F0 m 116 ls []) := by
      intro n
      induction n with
      | zero => intro x40 S41 hi; cases hi
      | succ n ih45 =>
        intro x40 S41 hi H locs ls hH hl
        obtain ⟨q45_, hf, hq45⟩ := iter_s hi
        have hf : f_X2_solve_b116 a0 x40 S41 = some q45_ := hf
        unfold f_X2_solve_b116 at hf
        refine lv_iload_n hx hb dX2_solve_116 rfl (lv_at hl 1 rfl) ?_
        refine lv_aload_n hx hb dX2_solve_117 rfl (lv_at hl 0 rfl) ?_
        obtain ⟨ek46, hf⟩ := oc hf
        obtain ⟨a47, e48, hf⟩ := ob hf
        refine r_getQ hx hb 5 hts (fun w h => List.mem_cons_of_mem _ (mwsX20 w h)) hown hH ek46 (by decide) rfl 1 (by decide) rfl (hts (.fieldLink RX2 15 "Housestyle$Findings" "tokens" "LHousestyle$Tokens;") (List.mem_cons_of_mem _ gw_10_13)) (fun _ h9 => h9) dX2_solve_118 e48 ?_
        obtain ⟨ek49, hf⟩ := oc hf
        obtain ⟨r50, e51, hf⟩ := ob hf
        refine r_callVi (As := []) ⟨hx, hb, hml, hown, hts⟩ (c_X8_count l D S41 a47 r50 e51) (cwV 0 hts (gwV gw_12_9 gw_2_21 gw_2_22 gw_2_23 gw_1_12) rfl rfl rfl (by decide +kernel) ⟨Nat.le_of_ble_eq_true rfl, Nat.le_of_ble_eq_true rfl⟩) hH hNE 11 ek49 (by decide) rfl rfl rfl hl.1 rfl (Nat.le_of_ble_eq_true rfl) dX2_solve_121 ⟨(Nat.le_of_ble_eq_true rfl), (Nat.le_of_ble_eq_true rfl)⟩ (fun H locs hH => ?_)
        refine lv_icmp_ge (tgt := 169) hx hb dX2_solve_124 (by decide) (fun c52 => ?_) (fun c52 => ?_)
        · have hf := ip hf c52
          cases hf
          have hf9 := itR (K := (fun (v : PS) => k43 v)) hq45 hq45f
          exact Xk43 S41 _ _ ls hH (lv_sub hl [] rfl) hf9
        · have hf := iq hf c52
          refine lv_aload_n hx hb dX2_solve_127 rfl (lv_at hl 0 rfl) ?_
          obtain ⟨a53, e54, hf⟩ := ob hf
          refine r_getQ hx hb 5 hts (fun w h => List.mem_cons_of_mem _ (mwsX20 w h)) hown hH ek46 (by decide) rfl 3 (by decide) rfl (hts (.fieldLink RX2 28 "Housestyle$Findings" "takenAt" "LHousestyle$Row;") (List.mem_cons_of_mem _ gw_10_16)) (fun _ h9 => h9) dX2_solve_128 e54 ?_
          refine lv_iload_n hx hb dX2_solve_131 rfl (lv_at hl 1 rfl) ?_
          obtain ⟨ek55, hf⟩ := oc hf
          obtain ⟨r56, e57, hf⟩ := ob hf
          refine r_callVi (As := [.int x40]) ⟨hx, hb, hml, hown, hts⟩ (c_X5_get l D S41 a53 x40 r56 e57) (cwV 1 hts (gwV gw_10_23 gw_2_13 gw_2_14 gw_1_5 gw_2_9) rfl rfl rfl (by decide +kernel) ⟨Nat.le_of_ble_eq_true rfl, Nat.le_of_ble_eq_true rfl⟩) hH hNE 8 ek55 (by decide) rfl rfl rfl hl.1 rfl (Nat.le_of_ble_eq_true rfl) dX2_solve_132 ⟨(Nat.le_of_ble_eq_true rfl), (Nat.le_of_ble_eq_true rfl)⟩ (fun H locs hH => ?_)
          obtain ⟨j59, e62, hf⟩ := ol hf
          have Jj59 : ∀ (S58 : PS) (H : Heap) (locs : List Loc) (ls : Array Slot), HI D S S58 s H locs → lv_has ls 5 [(0, .ref a0), (2, .int x40)] → j59 S58 = some q45_ → GV p l e (headSpec wsX2_solve rmX2_solve).room s m ([.ref a0, .ref b1] : List Value).toArray below meth c D S r H locs 0 0 0 0 (F0 m 163 ls []) := by
            intro S58 H locs ls hH hl hf
            rw [← e62] at hf
            obtain ⟨x60, e61, hf⟩ := ol hf
            refine lv_iinc (v := x60) (lv' := [(2, .int x60), (0, .ref a0)]) hx hb dX2_solve_163 hl (k := 1) rfl (by rw [← e61]; rfl) (by decide) rfl (fun ls hl => ?_)
            refine lv_goto (tgt := 116) hx hb dX2_solve_166 (by decide) ?_
            cases hf
            exact ih45 x60 S58 hq45 _ _ ls hH (lv_sub hl [1, 0] rfl)
          refine lv_if_eq (tgt := 163) hx hb dX2_solve_135 (by decide) (fun c63 => ?_) (fun c63 => ?_)
          · have hf := ip hf c63
            exact Jj59 S41 _ _ ls hH (lv_sub hl [0, 1] rfl) hf
          · have hf := iq hf c63
            refine lv_aload_n hx hb dX2_solve_138 rfl (lv_at hl 0 rfl) ?_
            obtain ⟨a64, e65, hf⟩ := ob hf
            refine r_getQ hx hb 5 hts (fun w h => List.mem_cons_of_mem _ (mwsX20 w h)) hown hH ek46 (by decide) rfl 4 (by decide) rfl (hts (.fieldLink RX2 31 "Housestyle$Findings" "itsTokens" "LHousestyle$Row;") (List.mem_cons_of_mem _ gw_10_17)) (fun _ h9 => h9) dX2_solve_139 e65 ?_
            refine lv_iload_n hx hb dX2_solve_142 rfl (lv_at hl 1 rfl) ?_
            obtain ⟨ek66, hf⟩ := oc hf
            obtain ⟨r67, e68, hf⟩ := ob hf
            refine r_callVv (As := [.int x40]) ⟨hx, hb, hml, hown, hts⟩ (c_X5_add l D S41 a64 x40 r67 e68) (cwV 1 hts (gwV gw_12_21 gw_7_14 gw_7_15 gw_1_5 gw_7_11) rfl rfl rfl (by decide +kernel) ⟨Nat.le_of_ble_eq_true rfl, Nat.le_of_ble_eq_true rfl⟩) hH hNE 8 ek66 (by decide) rfl rfl rfl hl.1 rfl (Nat.le_of_ble_eq_true rfl) dX2_solve_143 ⟨(Nat.le_of_ble_eq_true rfl), (Nat.le_of_ble_eq_true rfl)⟩ (fun H locs hH => ?_)
            refine lv_aload_n hx hb dX2_solve_146 rfl (lv_at hl 0 rfl) ?_
            obtain ⟨ek69, hf⟩ := oc hf
            obtain ⟨a70, e71, hf⟩ := ob hf
            refine r_getQ hx hb 5 hts (fun w h => List.mem_cons_of_mem _ (mwsX20 w h)) hown hH ek69 (by decide) rfl 5 (by decide) rfl (hts (.fieldLink RX2 34 "Housestyle$Findings" "itsRules" "LHousestyle$Row;") (List.mem_cons_of_mem _ gw_10_18)) (fun _ h9 => h9) dX2_solve_147 e71 ?_
            refine lv_aload_n hx hb dX2_solve_150 rfl (lv_at hl 0 rfl) ?_
            obtain ⟨a72, e73, hf⟩ := ob hf
            refine r_getQ hx hb 5 hts (fun w h => List.mem_cons_of_mem _ (mwsX20 w h)) hown hH ek69 (by decide) rfl 3 (by decide) rfl (hts (.fieldLink RX2 28 "Housestyle$Findings" "takenAt" "LHousestyle$Row;") (List.mem_cons_of_mem _ gw_10_16)) (fun _ h9 => h9) dX2_solve_151 e73 ?_
            refine lv_iload_n hx hb dX2_solve_154 rfl (lv_at hl 1 rfl) ?_
            obtain ⟨ek74, hf⟩ := oc hf
            obtain ⟨r75, e76, hf⟩ := ob hf
            refine r_callVi (As := [.int x40]) ⟨hx, hb, hml, hown, hts⟩ (c_X5_get l D r67 a72 x40 r75 e76) (cwV 1 hts (gwV gw_10_23 gw_2_13 gw_2_14 gw_1_5 gw_2_9) rfl rfl rfl (by decide +kernel) ⟨Nat.le_of_ble_eq_true rfl, Nat.le_of_ble_eq_true rfl⟩) hH hNE 8 ek74 (by decide) rfl rfl rfl hl.1 rfl (Nat.le_of_ble_eq_true rfl) dX2_solve_155 ⟨(Nat.le_of_ble_eq_true rfl), (Nat.le_of_ble_eq_true rfl)⟩ (fun H locs hH => ?_)
            refine lv_iconst (v := 1) hx hb dX2_solve_158 (by decide) ?_
            refine lv_isub hx hb dX2_solve_159 ?_
            obtain ⟨ek77, hf⟩ := oc hf
            obtain ⟨r78, e79, hf⟩ := ob hf
            refine r_callVv (As := [.int (r75 - 1)]) ⟨hx, hb, hml, hown, hts⟩ (c_X5_add l D r67 a70 (r75 - 1) r78 e79) (cwV 1 hts (gwV gw_12_21 gw_7_14 gw_7_15 gw_1_5 gw_7_11) rfl rfl rfl (by decide +kernel) ⟨Nat.le_of_ble_eq_true rfl, Nat.le_of_ble_eq_true rfl⟩) hH hNE 8 ek77 (by decide) rfl rfl rfl hl.1 rfl (Nat.le_of_ble_eq_true rfl) dX2_solve_160 ⟨(Nat.le_of_ble_eq_true rfl), (Nat.le_of_ble_eq_true rfl)⟩ (fun H locs hH => ?_)
            exact Jj59 r78 _ _ ls hH (lv_sub hl [0, 1] rfl) hf
    exact Lo45 kF 0 r38 eo45 _ _ ls hH (lv_sub hl [1, 0] rfl)
  obtain ⟨o80, eo80, hq80f⟩ := ob hf
  have Lo80 : ∀ (n : Nat) (x23 : Int32) (S24 : PS), iter (fun (v : Int32 × PS) => f_X2_solve_b31 a0 b1 v.1 v.2) n (x23, S24) = some o80 → ∀ (H : Heap) (locs : List Loc) (ls : Array Slot), HI D S S24 s H locs → lv_has ls 5 [(0, .ref a0), (1, .ref b1), (2, .int x23)] → GV p l e (headSpec wsX2_solve rmX2_solve).room s m ([.ref a0, .ref b1] : List Value).toArray below meth c D S r H locs 0 0 0 0 (F0 m 31 ls []) := by
    intro n
    induction n with
    | zero => intro x23 S24 hi; cases hi
    | succ n ih80 =>
      intro x23 S24 hi H locs ls hH hl
      obtain ⟨q80_, hf, hq80⟩ := iter_s hi
      have hf : f_X2_solve_b31 a0 b1 x23 S24 = some q80_ := hf
      unfold f_X2_solve_b31 at hf
      refine lv_iload_n hx hb dX2_solve_31 rfl (lv_at hl 2 rfl) ?_
      refine lv_iconst (v := 1) hx hb dX2_solve_32 (by decide) ?_
      refine lv_icmp_lt (tgt := 100) hx hb dX2_solve_33 (by decide) (fun c81 => ?_) (fun c81 => ?_)
      · have hf := ip hf c81
        cases hf
        have hf9 := itR (K := (fun (v : PS) => k26 v)) hq80 hq80f
        exact Xk26 S24 _ _ ls hH (lv_sub hl [0] rfl) hf9
      · have hf := iq hf c81
        refine lv_aload_n hx hb dX2_solve_36 rfl (lv_at hl 0 rfl) ?_
        obtain ⟨ek82, hf⟩ := oc hf
        obtain ⟨a83, e84, hf⟩ := ob hf
        refine r_getQ hx hb 5 hts (fun w h => List.mem_cons_of_mem _ (mwsX20 w h)) hown hH ek82 (by decide) rfl 0 (by decide) rfl (hts (.fieldLink RX2 9 "Housestyle$Findings" "book" "LHousestyle$Book;") (List.mem_cons_of_mem _ gw_10_12)) (fun _ h9 => h9) dX2_solve_37 e84 ?_
        refine lv_aload_n hx hb dX2_solve_40 rfl (lv_at hl 1 rfl) ?_
        refine lv_iload_n hx hb dX2_solve_41 rfl (lv_at hl 2 rfl) ?_
        obtain ⟨ek85, hf⟩ := oc hf
        obtain ⟨r86, e87, hf⟩ := ob hf
        refine r_callVi (As := [.ref b1, .int x23]) ⟨hx, hb, hml, hown, hts⟩ (c_X0_ofRank l D S24 a83 b1 x23 r86 e87) (cwV 2 hts (gwV gw_12_11 gw_12_12 gw_12_13 gw_6_5 gw_7_6) rfl rfl rfl (by decide +kernel) ⟨Nat.le_of_ble_eq_true rfl, Nat.le_of_ble_eq_true rfl⟩) hH hNE 3 ek85 (by decide) rfl rfl rfl hl.1 rfl (Nat.le_of_ble_eq_true rfl) dX2_solve_42 ⟨(Nat.le_of_ble_eq_true rfl), (Nat.le_of_ble_eq_true rfl)⟩ (fun H locs hH => ?_)
        refine lv_istore_n (lv' := [(3, .int r86), (0, .ref a0), (1, .ref b1), (2, .int x23)]) hx hb dX2_solve_45 rfl hl (by decide) rfl (fun ls hl => ?_)
        refine lv_iconst (v := 0) hx hb dX2_solve_46 (by decide) ?_
        refine lv_istore (lv' := [(4, .int 0), (3, .int r86), (0, .ref a0), (1, .ref b1), (2, .int x23)]) hx hb dX2_solve_47 hl (by decide) rfl (fun ls hl => ?_)
        obtain ⟨k91, e92, hf⟩ := ol hf
        have Xk91 : ∀ (S90 : PS) (H : Heap) (locs : List Loc) (ls : Array Slot), HI D S S90 s H locs → lv_has ls 5 [(0, .ref a0), (1, .ref b1), (2, .int x23)] → k91 S90 = some q80_ → GV p l e (headSpec wsX2_solve rmX2_solve).room s m ([.ref a0, .ref b1] : List Value).toArray below meth c D S r H locs 0 0 0 0 (F0 m 94 ls []) := by
          intro S90 H locs ls hH hl hf
          rw [← e92] at hf
          obtain ⟨x93, e94, hf⟩ := ol hf
          refine lv_iinc (v := x93) (lv' := [(2, .int x93), (0, .ref a0), (1, .ref b1)]) hx hb dX2_solve_94 hl (k := 2) rfl (by rw [← e94]; rfl) (by decide) rfl (fun ls hl => ?_)
          refine lv_goto (tgt := 31) hx hb dX2_solve_97 (by decide) ?_
          cases hf
          exact ih80 x93 S90 hq80 _ _ ls hH (lv_sub hl [1, 2, 0] rfl)
        obtain ⟨o95, eo95, hq95f⟩ := ob hf
        have Lo95 : ∀ (n : Nat) (x88 : Int32) (S89 : PS), iter (fun (v : Int32 × PS) => f_X2_solve_b49 a0 b1 r86 v.1 v.2) n (x88, S89) = some o95 → ∀ (H : Heap) (locs : List Loc) (ls : Array Slot), HI D S S89 s H locs → lv_has ls 5 [(0, .ref a0), (1, .ref b1), (2, .int x23), (3, .int r86), (4, .int x88)] → GV p l e (headSpec wsX2_solve rmX2_solve).room s m ([.ref a0, .ref b1] : List Value).toArray below meth c D S r H locs 0 0 0 0 (F0 m 49 ls []) := by
          intro n
          induction n with
          | zero => intro x88 S89 hi; cases hi
          | succ n ih95 =>
            intro x88 S89 hi H locs ls hH hl
            obtain ⟨q95_, hf, hq95⟩ := iter_s hi
            have hf : f_X2_solve_b49 a0 b1 r86 x88 S89 = some q95_ := hf
            unfold f_X2_solve_b49 at hf
            refine lv_iload hx hb dX2_solve_49 (lv_at hl 4 rfl) ?_
            refine lv_aload_n hx hb dX2_solve_51 rfl (lv_at hl 0 rfl) ?_
            obtain ⟨ek96, hf⟩ := oc hf
            obtain ⟨a97, e98, hf⟩ := ob hf
            refine r_getQ hx hb 5 hts (fun w h => List.mem_cons_of_mem _ (mwsX20 w h)) hown hH ek96 (by decide) rfl 1 (by decide) rfl (hts (.fieldLink RX2 15 "Housestyle$Findings" "tokens" "LHousestyle$Tokens;") (List.mem_cons_of_mem _ gw_10_13)) (fun _ h9 => h9) dX2_solve_52 e98 ?_
            obtain ⟨ek99, hf⟩ := oc hf
            obtain ⟨r100, e101, hf⟩ := ob hf
            refine r_callVi (As := []) ⟨hx, hb, hml, hown, hts⟩ (c_X8_count l D S89 a97 r100 e101) (cwV 0 hts (gwV gw_12_9 gw_2_21 gw_2_22 gw_2_23 gw_1_12) rfl rfl rfl (by decide +kernel) ⟨Nat.le_of_ble_eq_true rfl, Nat.le_of_ble_eq_true rfl⟩) hH hNE 11 ek99 (by decide) rfl rfl rfl hl.1 rfl (Nat.le_of_ble_eq_true rfl) dX2_solve_55 ⟨(Nat.le_of_ble_eq_true rfl), (Nat.le_of_ble_eq_true rfl)⟩ (fun H locs hH => ?_)
            refine lv_icmp_ge (tgt := 94) hx hb dX2_solve_58 (by decide) (fun c102 => ?_) (fun c102 => ?_)
            · have hf := ip hf c102
              cases hf
              have hf9 := itR (K := (fun (v : PS) => k91 v)) hq95 hq95f
              exact Xk91 S89 _ _ ls hH (lv_sub hl [0, 1, 2] rfl) hf9
            · have hf := iq hf c102
              refine lv_iload_n hx hb dX2_solve_61 rfl (lv_at hl 3 rfl) ?_
              refine lv_if_eq (tgt := 94) hx hb dX2_solve_62 (by decide) (fun c103 => ?_) (fun c103 => ?_)
              · have hf := ip hf c103
                cases hf
                have hf9 := itR (K := (fun (v : PS) => k91 v)) hq95 hq95f
                exact Xk91 S89 _ _ ls hH (lv_sub hl [0, 1, 2] rfl) hf9
              · have hf := iq hf c103
                refine lv_aload_n hx hb dX2_solve_65 rfl (lv_at hl 0 rfl) ?_
                refine lv_aload_n hx hb dX2_solve_66 rfl (lv_at hl 1 rfl) ?_
                refine lv_iload hx hb dX2_solve_67 (lv_at hl 4 rfl) ?_
                refine lv_aload_n hx hb dX2_solve_69 rfl (lv_at hl 0 rfl) ?_
                obtain ⟨a104, e105, hf⟩ := ob hf
                refine r_getQ hx hb 5 hts (fun w h => List.mem_cons_of_mem _ (mwsX20 w h)) hown hH ek96 (by decide) rfl 0 (by decide) rfl (hts (.fieldLink RX2 9 "Housestyle$Findings" "book" "LHousestyle$Book;") (List.mem_cons_of_mem _ gw_10_12)) (fun _ h9 => h9) dX2_solve_70 e105 ?_
                refine lv_aload_n hx hb dX2_solve_73 rfl (lv_at hl 0 rfl) ?_
                refine r_getQ hx hb 5 hts (fun w h => List.mem_cons_of_mem _ (mwsX20 w h)) hown hH ek96 (by decide) rfl 1 (by decide) rfl (hts (.fieldLink RX2 15 "Housestyle$Findings" "tokens" "LHousestyle$Tokens;") (List.mem_cons_of_mem _ gw_10_13)) (fun _ h9 => h9) dX2_solve_74 e98 ?_
                refine lv_aload_n hx hb dX2_solve_77 rfl (lv_at hl 1 rfl) ?_
                refine lv_iload hx hb dX2_solve_78 (lv_at hl 4 rfl) ?_
                obtain ⟨ek106, hf⟩ := oc hf
                obtain ⟨r107, e108, hf⟩ := ob hf
                refine r_callVi (As := [.ref a97, .ref b1, .int x88]) ⟨hx, hb, hml, hown, hts⟩ (c_X0_foundAt l D S89 a104 a97 b1 x88 r107 e108) (cwV 3 hts (gwV gw_12_14 gw_12_15 gw_12_16 gw_6_5 gw_6_22) rfl rfl rfl (by decide +kernel) ⟨Nat.le_of_ble_eq_true rfl, Nat.le_of_ble_eq_true rfl⟩) hH hNE 3 ek106 (by decide) rfl rfl rfl hl.1 rfl (Nat.le_of_ble_eq_true rfl) dX2_solve_80 ⟨(Nat.le_of_ble_eq_true rfl), (Nat.le_of_ble_eq_true rfl)⟩ (fun H locs hH => ?_)
                refine lv_iload_n hx hb dX2_solve_83 rfl (lv_at hl 3 rfl) ?_
                refine lv_iand hx hb dX2_solve_84 ?_
                obtain ⟨r109, e110, hf⟩ := ob hf
                refine r_callVv (As := [.ref b1, .int x88, .int (r107 &&& r86)]) ⟨hx, hb, hml, hown, hts⟩ (c_X2_takeBest l D S89 a0 b1 x88 (r107 &&& r86) r109 e110) (cwV 3 hts (gwV gw_12_17 gw_12_18 gw_12_19 gw_11_18 gw_11_22) rfl rfl rfl (by decide +kernel) ⟨Nat.le_of_ble_eq_true rfl, Nat.le_of_ble_eq_true rfl⟩) hH hNE 5 ek96 (by decide) rfl rfl rfl hl.1 rfl (Nat.le_of_ble_eq_true rfl) dX2_solve_85 ⟨(Nat.le_of_ble_eq_true rfl), (Nat.le_of_ble_eq_true rfl)⟩ (fun H locs hH => ?_)
                obtain ⟨x111, e112, hf⟩ := ol hf
                refine lv_iinc (v := x111) (lv' := [(4, .int x111), (0, .ref a0), (1, .ref b1), (2, .int x23), (3, .int r86)]) hx hb dX2_solve_88 hl (k := 4) rfl (by rw [← e112]; rfl) (by decide) rfl (fun ls hl => ?_)
                refine lv_goto (tgt := 49) hx hb dX2_solve_91 (by decide) ?_
                cases hf
                exact ih95 x111 r109 hq95 _ _ ls hH (lv_sub hl [1, 2, 3, 4, 0] rfl)
        exact Lo95 kF 0 S24 eo95 _ _ ls hH (lv_sub hl [2, 3, 4, 1, 0] rfl)
  exact Lo80 kF 9 r21 eo80 _ _ ls hH (lv_sub hl [1, 2, 0] rfl)
set_option maxRecDepth 100000 in
def f_X9_findFor (S : PS) (a0 : Nat) (p1 : Int32) : Option ((PS × Nat) ⊕ (PS × Nat)) := if kK S a0 = 13 then (bx2 (f_X9_deskAt S a0 p1) fun S3 a4 => if kK S3 a0 = 13 then (lt (fun (S6 : PS) => if kK S6 a0 = 13 then (if (kI S6 a0 8) = p1 then (some (.inl (S6, a4))) else ((kQ S6 a0 5).bind fun a10 => if kK S6 a10 = 6 then ((f_X2_solve S6 a10 a4).bind fun r13 => if kK r13 a0 = 13 then (lt (wI r13 a0 8 p1) fun S16 => some (.inl (S16, a4))) else none) else none)) else none) fun j7 => if (kI S3 a0 7) = 0 then ((kQ S3 a0 2).bind fun a20 => if kK S3 a20 = 12 then ((f_X8_read S3 a20).bind fun r23 => if kK r23 a0 = 13 then ((kQ r23 a0 3).bind fun a26 => (kQ r23 a0 2).bind fun a28 => if kK r23 a26 = 4 then ((f_X0_look r23 a26 a28).bind fun r31 => if kK r31 a0 = 13 then (lt (wI r31 a0 7 1) fun S34 => j7 S34) else none) else none) else none) else none) else (j7 S3)) else none) else none
abbrev rmX9_findFor : Room := { frames := 7, cells := 1, slots := 6, locals := 156 }
set_option maxHeartbeats 4000000 in
set_option maxRecDepth 100000 in
theorem c_X9_findFor (l : Launch) (hst9 : l.stackTraces = false) (D : va_G × Nat) (S : PS) (a0 : Nat) (p1 : Int32) (r : (PS × Nat) ⊕ (PS × Nat)) (hf : f_X9_findFor S a0 p1 = some r) : XM l D yX9_findFor wsX9_findFor rmX9_findFor S [.ref a0, .int p1] (mR r) 1 6 := by
  unfold f_X9_findFor at hf
  refine vx_ofW (cc := cX9_findFor) (maxL := 3) (ret := (some (.object "Housestyle$Desk"))) (by decide) rfl ?_
  intro p e s m args below meth c s₁ B hml hxt hv
  obtain ⟨rfl, hH0, hE, hNE⟩ := hv
  have hB := hH0.base
  have hx := B.exec
  have hb := B.bytes
  have hr := B.returns
  have hts := atoms_spec (ws := wsX9_findFor) B.pre
  have hown : s.vm.findClass RX9 = some m.cls := findClass_of_methodNamed B.named
  have hlocks := B.notSynchronized
  have hH : HI D S S s s.heap [] := HI.start hH0
  have hl := lv_entry ([.ref a0, .int p1]) (n := 3) (Nat.le_of_ble_eq_true rfl)
  rw [lg_entry_eq]
  generalize (lg_sl ([.ref a0, .int p1]) ++ List.replicate (3 - (lg_sl ([.ref a0, .int p1])).length) Slot.unset).toArray = ls at hl ⊢
  have hl : lv_has ls 3 [(0, .ref a0), (1, .int p1)] := hl
  refine lv_aload_n hx hb dX9_findFor_0 rfl (lv_at hl 0 rfl) ?_
  refine lv_iload_n hx hb dX9_findFor_1 rfl (lv_at hl 1 rfl) ?_
  obtain ⟨ek1, hf⟩ := oc hf
  rcases obx2 hf with ⟨x4_, e2, rfl⟩ | ⟨S3, a4, e2, hf⟩
  · refine r_xVex (As := [.int p1]) ⟨hx, hb, hml, hown, hts⟩ (c_X9_deskAt l hst9 D S a0 p1 (.inr x4_) e2) (cwV 1 hts (gwV gw_25_7 gw_25_8 gw_25_9 gw_14_5 gw_25_4) rfl rfl rfl (by decide +kernel) ⟨Nat.le_of_ble_eq_true rfl, Nat.le_of_ble_eq_true rfl⟩) hH hE hB hNE 12 ek1 (by decide) rfl rfl rfl hl.1 rfl (Nat.le_of_ble_eq_true rfl) dX9_findFor_2 ⟨(Nat.le_of_ble_eq_true rfl), (Nat.le_of_ble_eq_true rfl)⟩ (fun z9 ce9 q9 H locs hH hk9 hz9 h91 h92 h93 => ?_)
    exact x_out hxt hlocks hH hk9 hz9 h91 h92 h93 ⟨Nat.le_of_ble_eq_true rfl, Nat.le_of_ble_eq_true rfl⟩
  refine r_xVok (As := [.int p1]) (S' := S3) (v := (some (.ref a4))) (st1 := [.ref a4]) ⟨hx, hb, hml, hown, hts⟩ (c_X9_deskAt l hst9 D S a0 p1 (.inl (S3, a4)) e2) (cwV 1 hts (gwV gw_25_7 gw_25_8 gw_25_9 gw_14_5 gw_25_4) rfl rfl rfl (by decide +kernel) ⟨Nat.le_of_ble_eq_true rfl, Nat.le_of_ble_eq_true rfl⟩) hH hE hB hNE 12 ek1 (by decide) rfl rfl rfl hl.1 rfl (Nat.le_of_ble_eq_true rfl) dX9_findFor_2 ⟨(Nat.le_of_ble_eq_true rfl), (Nat.le_of_ble_eq_true rfl)⟩ rfl (fun H locs hH => ?_)
  refine W.widen (k := 1) (n := 6) (by omega) (by omega) ?_
  refine lv_astore_n (lv' := [(2, .ref a4), (0, .ref a0), (1, .int p1)]) hx hb dX9_findFor_5 rfl hl (by decide) rfl (fun ls hl => ?_)
  refine lv_aload_n hx hb dX9_findFor_6 rfl (lv_at hl 1 rfl) ?_
  obtain ⟨ek5, hf⟩ := oc hf
  refine r_getI hx hb 12 hts (fun w h => List.mem_cons_of_mem _ (mwsX90 w h)) hown hH ek5 (by decide) rfl 7 (by decide) rfl (hts (.fieldLink RX9 70 "Housestyle" "isRead" "Z") (List.mem_cons_of_mem _ gw_20_15)) (fun _ h9 => h9) dX9_findFor_7 ?_
  obtain ⟨j7, e18, hf⟩ := ol hf
  have Jj7 : ∀ (S6 : PS) (H : Heap) (locs : List Loc) (ls : Array Slot), HI D S S6 s H locs → lv_has ls 3 [(0, .ref a0), (1, .int p1), (2, .ref a4)] → j7 S6 = some r → GX p l e (headSpec wsX9_findFor rmX9_findFor).room s m ([.ref a0, .int p1] : List Value).toArray below meth c D S (mR r) H locs 1 6 1 6 (F0 m 36 ls []) := by
    intro S6 H locs ls hH hl hf
    rw [← e18] at hf
    refine lv_aload_n hx hb dX9_findFor_36 rfl (lv_at hl 0 rfl) ?_
    obtain ⟨ek8, hf⟩ := oc hf
    refine r_getI hx hb 12 hts (fun w h => List.mem_cons_of_mem _ (mwsX90 w h)) hown hH ek8 (by decide) rfl 8 (by decide) rfl (hts (.fieldLink RX9 74 "Housestyle" "solvedDesk" "I") (List.mem_cons_of_mem _ gw_20_16)) (fun _ h9 => h9) dX9_findFor_37 ?_
    refine lv_iload_n hx hb dX9_findFor_40 rfl (lv_at hl 1 rfl) ?_
    refine lv_icmp_eq (tgt := 57) hx hb dX9_findFor_41 (by decide) (fun c9 => ?_) (fun c9 => ?_)
    · have hf := ip hf c9
      refine lv_aload_n hx hb dX9_findFor_57 rfl (lv_at hl 2 rfl) ?_
      have hr9 := Option.some.inj hf
      subst hr9
      exact x_r hx hb hr hlocks hH dX9_findFor_58
    · have hf := iq hf c9
      refine lv_aload_n hx hb dX9_findFor_44 rfl (lv_at hl 0 rfl) ?_
      obtain ⟨a10, e11, hf⟩ := ob hf
      refine r_getQ hx hb 12 hts (fun w h => List.mem_cons_of_mem _ (mwsX90 w h)) hown hH ek8 (by decide) rfl 5 (by decide) rfl (hts (.fieldLink RX9 63 "Housestyle" "found" "LHousestyle$Findings;") (List.mem_cons_of_mem _ gw_20_13)) (fun _ h9 => h9) dX9_findFor_45 e11 ?_
      refine lv_aload_n hx hb dX9_findFor_48 rfl (lv_at hl 2 rfl) ?_
      obtain ⟨ek12, hf⟩ := oc hf
      obtain ⟨r13, e14, hf⟩ := ob hf
      refine r_callVv (As := [.ref a4]) ⟨hx, hb, hml, hown, hts⟩ (c_X2_solve l D S6 a10 a4 r13 e14) (cwV 1 hts (gwV gw_26_6 gw_26_7 gw_26_8 gw_11_18 gw_12_8) rfl rfl rfl (by decide +kernel) ⟨Nat.le_of_ble_eq_true rfl, Nat.le_of_ble_eq_true rfl⟩) hH hNE 5 ek12 (by decide) rfl rfl rfl hl.1 rfl (Nat.le_of_ble_eq_true rfl) dX9_findFor_49 ⟨(Nat.le_of_ble_eq_true rfl), (Nat.le_of_ble_eq_true rfl)⟩ (fun H locs hH => ?_)
      refine lv_aload_n hx hb dX9_findFor_52 rfl (lv_at hl 0 rfl) ?_
      refine lv_iload_n hx hb dX9_findFor_53 rfl (lv_at hl 1 rfl) ?_
      obtain ⟨ek15, hf⟩ := oc hf
      refine r_putI hx hb 12 hts (fun w h => List.mem_cons_of_mem _ (mwsX90 w h)) tyX9 tyX9_ok nmX9 hown hH ek15 (by decide) rfl 8 (by decide) rfl (hts (.fieldLink RX9 74 "Housestyle" "solvedDesk" "I") (List.mem_cons_of_mem _ gw_20_16)) (fun _ h9 => h9) (Or.inl rfl) (ty := .int) (by decide +kernel) rfl rfl dX9_findFor_54 (fun H locs hH => ?_)
      obtain ⟨S16, e17, hf⟩ := ol hf
      rw [e17] at hH
      refine lv_aload_n hx hb dX9_findFor_57 rfl (lv_at hl 2 rfl) ?_
      have hr9 := Option.some.inj hf
      subst hr9
      exact x_r hx hb hr hlocks hH dX9_findFor_58
  refine lv_if_ne (tgt := 36) hx hb dX9_findFor_10 (by decide) (fun c19 => ?_) (fun c19 => ?_)
  · have hf := iq hf c19
    exact Jj7 S3 _ _ ls hH (lv_sub hl [1, 2, 0] rfl) hf
  · have hf := ip hf c19
    refine lv_aload_n hx hb dX9_findFor_13 rfl (lv_at hl 1 rfl) ?_
    obtain ⟨a20, e21, hf⟩ := ob hf
    refine r_getQ hx hb 12 hts (fun w h => List.mem_cons_of_mem _ (mwsX90 w h)) hown hH ek5 (by decide) rfl 2 (by decide) rfl (hts (.fieldLink RX9 33 "Housestyle" "tokens" "LHousestyle$Tokens;") (List.mem_cons_of_mem _ gw_20_3)) (fun _ h9 => h9) dX9_findFor_14 e21 ?_
    obtain ⟨ek22, hf⟩ := oc hf
    obtain ⟨r23, e24, hf⟩ := ob hf
    refine r_callVv (As := []) ⟨hx, hb, hml, hown, hts⟩ (c_X8_read l D S3 a20 r23 e24) (cwV 0 hts (gwV gw_26_0 gw_26_1 gw_26_2 gw_2_23 gw_19_3) rfl rfl rfl (by decide +kernel) ⟨Nat.le_of_ble_eq_true rfl, Nat.le_of_ble_eq_true rfl⟩) hH hNE 11 ek22 (by decide) rfl rfl rfl hl.1 rfl (Nat.le_of_ble_eq_true rfl) dX9_findFor_17 ⟨(Nat.le_of_ble_eq_true rfl), (Nat.le_of_ble_eq_true rfl)⟩ (fun H locs hH => ?_)
    refine lv_aload_n hx hb dX9_findFor_20 rfl (lv_at hl 1 rfl) ?_
    obtain ⟨ek25, hf⟩ := oc hf
    obtain ⟨a26, e27, hf⟩ := ob hf
    refine r_getQ hx hb 12 hts (fun w h => List.mem_cons_of_mem _ (mwsX90 w h)) hown hH ek25 (by decide) rfl 3 (by decide) rfl (hts (.fieldLink RX9 40 "Housestyle" "book" "LHousestyle$Book;") (List.mem_cons_of_mem _ gw_20_6)) (fun _ h9 => h9) dX9_findFor_21 e27 ?_
    refine lv_aload_n hx hb dX9_findFor_24 rfl (lv_at hl 1 rfl) ?_
    obtain ⟨a28, e29, hf⟩ := ob hf
    refine r_getQ hx hb 12 hts (fun w h => List.mem_cons_of_mem _ (mwsX90 w h)) hown hH ek25 (by decide) rfl 2 (by decide) rfl (hts (.fieldLink RX9 33 "Housestyle" "tokens" "LHousestyle$Tokens;") (List.mem_cons_of_mem _ gw_20_3)) (fun _ h9 => h9) dX9_findFor_25 e29 ?_
    obtain ⟨ek30, hf⟩ := oc hf
    obtain ⟨r31, e32, hf⟩ := ob hf
    refine r_callVv (As := [.ref a28]) ⟨hx, hb, hml, hown, hts⟩ (c_X0_look l D r23 a26 a28 r31 e32) (cwV 1 hts (gwV gw_26_3 gw_26_4 gw_26_5 gw_6_5 gw_6_6) rfl rfl rfl (by decide +kernel) ⟨Nat.le_of_ble_eq_true rfl, Nat.le_of_ble_eq_true rfl⟩) hH hNE 3 ek30 (by decide) rfl rfl rfl hl.1 rfl (Nat.le_of_ble_eq_true rfl) dX9_findFor_28 ⟨(Nat.le_of_ble_eq_true rfl), (Nat.le_of_ble_eq_true rfl)⟩ (fun H locs hH => ?_)
    refine lv_aload_n hx hb dX9_findFor_31 rfl (lv_at hl 1 rfl) ?_
    refine lv_iconst (v := 1) hx hb dX9_findFor_32 (by decide) ?_
    obtain ⟨ek33, hf⟩ := oc hf
    refine r_putI hx hb 12 hts (fun w h => List.mem_cons_of_mem _ (mwsX90 w h)) tyX9 tyX9_ok nmX9 hown hH ek33 (by decide) rfl 7 (by decide) rfl (hts (.fieldLink RX9 70 "Housestyle" "isRead" "Z") (List.mem_cons_of_mem _ gw_20_15)) (fun _ h9 => h9) (Or.inl rfl) (ty := .boolean) (by decide +kernel) rfl rfl dX9_findFor_33 (fun H locs hH => ?_)
    obtain ⟨S34, e35, hf⟩ := ol hf
    rw [e35] at hH
    exact Jj7 S34 _ _ ls hH (lv_sub hl [1, 2, 0] rfl) hf
set_option maxRecDepth 100000 in
def f_X2_count (S : PS) (a0 : Nat) : Option (Int32) := if kK S a0 = 6 then ((kQ S a0 4).bind fun a2 => if kK S a2 = 9 then ((f_X5_count S a2).bind fun r5 => some r5) else none) else none
abbrev rmX2_count : Room := { frames := 1, cells := 0, slots := 0, locals := 20 }
set_option maxHeartbeats 4000000 in
set_option maxRecDepth 100000 in
theorem c_X2_count (l : Launch) (D : va_G × Nat) (S : PS) (a0 : Nat) (r : Int32) (hf : f_X2_count S a0 = some r) : MI l D yX2_count wsX2_count rmX2_count S [.ref a0] S r 0 0 := by
  unfold f_X2_count at hf
  refine Met.ofW (cc := cX2_count) (maxL := 1) (ret := (some .int)) (by decide) rfl ?_
  intro p e s m args below meth c s₁ B hml hv
  obtain ⟨rfl, hH0, hNE⟩ := hv
  have hx := B.exec
  have hb := B.bytes
  have hr := B.returns
  have hts := atoms_spec (ws := wsX2_count) B.pre
  have hown : s.vm.findClass RX2 = some m.cls := findClass_of_methodNamed B.named
  have hlocks := B.notSynchronized
  have hH : HI D S S s s.heap [] := HI.start hH0
  have hl := lv_entry ([.ref a0]) (n := 1) (Nat.le_of_ble_eq_true rfl)
  rw [lg_entry_eq]
  generalize (lg_sl ([.ref a0]) ++ List.replicate (1 - (lg_sl ([.ref a0])).length) Slot.unset).toArray = ls at hl ⊢
  have hl : lv_has ls 1 [(0, .ref a0)] := hl
  refine lv_aload_n hx hb dX2_count_0 rfl (lv_at hl 0 rfl) ?_
  obtain ⟨ek1, hf⟩ := oc hf
  obtain ⟨a2, e3, hf⟩ := ob hf
  refine r_getQ hx hb 5 hts (fun w h => List.mem_cons_of_mem _ (mwsX20 w h)) hown hH ek1 (by decide) rfl 4 (by decide) rfl (hts (.fieldLink RX2 31 "Housestyle$Findings" "itsTokens" "LHousestyle$Row;") (List.mem_cons_of_mem _ gw_10_17)) (fun _ h9 => h9) dX2_count_1 e3 ?_
  obtain ⟨ek4, hf⟩ := oc hf
  obtain ⟨r5, e6, hf⟩ := ob hf
  refine r_callVi (As := []) ⟨hx, hb, hml, hown, hts⟩ (c_X5_count l D S a2 r5 e6) (cwV 0 hts (gwV gw_10_21 gw_1_15 gw_1_16 gw_1_5 gw_1_11) rfl rfl rfl (by decide +kernel) ⟨Nat.le_of_ble_eq_true rfl, Nat.le_of_ble_eq_true rfl⟩) hH hNE 8 ek4 (by decide) rfl rfl rfl hl.1 rfl (Nat.le_of_ble_eq_true rfl) dX2_count_4 ⟨(Nat.le_of_ble_eq_true rfl), (Nat.le_of_ble_eq_true rfl)⟩ (fun H locs hH => ?_)
  have hr9 := Option.some.inj hf
  subst hr9
  exact e_i hx hb hr hlocks hH dX2_count_7
set_option maxRecDepth 100000 in
def f_X9_findings (S : PS) (a0 : Nat) (p1 : Int32) : Option ((PS × Int32) ⊕ (PS × Nat)) := if kK S a0 = 13 then (bx2 (f_X9_findFor S a0 p1) fun S3 a4 => if kK S3 a0 = 13 then ((kQ S3 a0 5).bind fun a6 => if kK S3 a6 = 6 then ((f_X2_count S3 a6).bind fun r9 => some (.inl (S3, r9))) else none) else none) else none
abbrev rmX9_findings : Room := { frames := 8, cells := 1, slots := 6, locals := 178 }
set_option maxHeartbeats 4000000 in
set_option maxRecDepth 100000 in
theorem c_X9_findings (l : Launch) (hst9 : l.stackTraces = false) (D : va_G × Nat) (S : PS) (a0 : Nat) (p1 : Int32) (r : (PS × Int32) ⊕ (PS × Nat)) (hf : f_X9_findings S a0 p1 = some r) : XM l D yX9_findings wsX9_findings rmX9_findings S [.ref a0, .int p1] (mI r) 1 6 := by
  unfold f_X9_findings at hf
  refine vx_ofW (cc := cX9_findings) (maxL := 2) (ret := (some .int)) (by decide) rfl ?_
  intro p e s m args below meth c s₁ B hml hxt hv
  obtain ⟨rfl, hH0, hE, hNE⟩ := hv
  have hB := hH0.base
  have hx := B.exec
  have hb := B.bytes
  have hr := B.returns
  have hts := atoms_spec (ws := wsX9_findings) B.pre
  have hown : s.vm.findClass RX9 = some m.cls := findClass_of_methodNamed B.named
  have hlocks := B.notSynchronized
  have hH : HI D S S s s.heap [] := HI.start hH0
  have hl := lv_entry ([.ref a0, .int p1]) (n := 2) (Nat.le_of_ble_eq_true rfl)
  rw [lg_entry_eq]
  generalize (lg_sl ([.ref a0, .int p1]) ++ List.replicate (2 - (lg_sl ([.ref a0, .int p1])).length) Slot.unset).toArray = ls at hl ⊢
  have hl : lv_has ls 2 [(0, .ref a0), (1, .int p1)] := hl
  refine lv_aload_n hx hb dX9_findings_0 rfl (lv_at hl 0 rfl) ?_
  refine lv_iload_n hx hb dX9_findings_1 rfl (lv_at hl 1 rfl) ?_
  obtain ⟨ek1, hf⟩ := oc hf
  rcases obx2 hf with ⟨x4_, e2, rfl⟩ | ⟨S3, a4, e2, hf⟩
  · refine r_xVex (As := [.int p1]) ⟨hx, hb, hml, hown, hts⟩ (c_X9_findFor l hst9 D S a0 p1 (.inr x4_) e2) (cwV 1 hts (gwV gw_26_10 gw_26_11 gw_26_12 gw_14_5 gw_25_23) rfl rfl rfl (by decide +kernel) ⟨Nat.le_of_ble_eq_true rfl, Nat.le_of_ble_eq_true rfl⟩) hH hE hB hNE 12 ek1 (by decide) rfl rfl rfl hl.1 rfl (Nat.le_of_ble_eq_true rfl) dX9_findings_2 ⟨(Nat.le_of_ble_eq_true rfl), (Nat.le_of_ble_eq_true rfl)⟩ (fun z9 ce9 q9 H locs hH hk9 hz9 h91 h92 h93 => ?_)
    exact x_out hxt hlocks hH hk9 hz9 h91 h92 h93 ⟨Nat.le_of_ble_eq_true rfl, Nat.le_of_ble_eq_true rfl⟩
  refine r_xVok (As := [.int p1]) (S' := S3) (v := (some (.ref a4))) (st1 := [.ref a4]) ⟨hx, hb, hml, hown, hts⟩ (c_X9_findFor l hst9 D S a0 p1 (.inl (S3, a4)) e2) (cwV 1 hts (gwV gw_26_10 gw_26_11 gw_26_12 gw_14_5 gw_25_23) rfl rfl rfl (by decide +kernel) ⟨Nat.le_of_ble_eq_true rfl, Nat.le_of_ble_eq_true rfl⟩) hH hE hB hNE 12 ek1 (by decide) rfl rfl rfl hl.1 rfl (Nat.le_of_ble_eq_true rfl) dX9_findings_2 ⟨(Nat.le_of_ble_eq_true rfl), (Nat.le_of_ble_eq_true rfl)⟩ rfl (fun H locs hH => ?_)
  refine W.widen (k := 1) (n := 6) (by omega) (by omega) ?_
  refine lv_pop hx hb dX9_findings_5 rfl ?_
  refine lv_aload_n hx hb dX9_findings_6 rfl (lv_at hl 0 rfl) ?_
  obtain ⟨ek5, hf⟩ := oc hf
  obtain ⟨a6, e7, hf⟩ := ob hf
  refine r_getQ hx hb 12 hts (fun w h => List.mem_cons_of_mem _ (mwsX90 w h)) hown hH ek5 (by decide) rfl 5 (by decide) rfl (hts (.fieldLink RX9 63 "Housestyle" "found" "LHousestyle$Findings;") (List.mem_cons_of_mem _ gw_20_13)) (fun _ h9 => h9) dX9_findings_7 e7 ?_
  obtain ⟨ek8, hf⟩ := oc hf
  obtain ⟨r9, e10, hf⟩ := ob hf
  refine r_callVi (As := []) ⟨hx, hb, hml, hown, hts⟩ (c_X2_count l D S3 a6 r9 e10) (cwV 0 hts (gwV gw_26_13 gw_13_0 gw_13_1 gw_11_18 gw_10_20) rfl rfl rfl (by decide +kernel) ⟨Nat.le_of_ble_eq_true rfl, Nat.le_of_ble_eq_true rfl⟩) hH hNE 5 ek8 (by decide) rfl rfl rfl hl.1 rfl (Nat.le_of_ble_eq_true rfl) dX9_findings_10 ⟨(Nat.le_of_ble_eq_true rfl), (Nat.le_of_ble_eq_true rfl)⟩ (fun H locs hH => ?_)
  have hr9 := Option.some.inj hf
  subst hr9
  exact x_i hx hb hr hlocks hH dX9_findings_13
set_option maxRecDepth 100000 in
def f_X9_needFinding (S : PS) (a0 : Nat) (p1 : Int32) : Option (PS ⊕ (PS × Nat)) := lt (fun (u2 : Unit) => some (.inr (S, 5))) fun j1 => if p1 < 0 then (j1 ()) else (if kK S a0 = 13 then ((kQ S a0 5).bind fun a6 => if kK S a6 = 6 then ((f_X2_count S a6).bind fun r9 => if p1 < r9 then (some (.inl S)) else (j1 ())) else none) else none)
abbrev rmX9_needFinding : Room := { frames := 6, cells := 1, slots := 6, locals := 90 }
set_option maxHeartbeats 4000000 in
set_option maxRecDepth 100000 in
theorem c_X9_needFinding (l : Launch) (hst9 : l.stackTraces = false) (D : va_G × Nat) (S : PS) (a0 : Nat) (p1 : Int32) (r : PS ⊕ (PS × Nat)) (hf : f_X9_needFinding S a0 p1 = some r) : XM l D yX9_needFinding wsX9_needFinding rmX9_needFinding S [.ref a0, .int p1] (mV r) 1 6 := by
  unfold f_X9_needFinding at hf
  refine vx_ofW (cc := cX9_needFinding) (maxL := 2) (ret := none) (by decide) rfl ?_
  intro p e s m args below meth c s₁ B hml hxt hv
  obtain ⟨rfl, hH0, hE, hNE⟩ := hv
  have hB := hH0.base
  have hx := B.exec
  have hb := B.bytes
  have hr := B.returns
  have hts := atoms_spec (ws := wsX9_needFinding) B.pre
  have hown : s.vm.findClass RX9 = some m.cls := findClass_of_methodNamed B.named
  have hlocks := B.notSynchronized
  have hH : HI D S S s s.heap [] := HI.start hH0
  have hl := lv_entry ([.ref a0, .int p1]) (n := 2) (Nat.le_of_ble_eq_true rfl)
  rw [lg_entry_eq]
  generalize (lg_sl ([.ref a0, .int p1]) ++ List.replicate (2 - (lg_sl ([.ref a0, .int p1])).length) Slot.unset).toArray = ls at hl ⊢
  have hl : lv_has ls 2 [(0, .ref a0), (1, .int p1)] := hl
  refine lv_iload_n hx hb dX9_needFinding_0 rfl (lv_at hl 1 rfl) ?_
  obtain ⟨j1, e3, hf⟩ := ol hf
  have Jj1 : ∀ (u2 : Unit) (H : Heap) (locs : List Loc) (ls : Array Slot), HI D S S s H locs → lv_has ls 2 [] → j1 u2 = some r → GX p l e (headSpec wsX9_needFinding rmX9_needFinding).room s m ([.ref a0, .int p1] : List Value).toArray below meth c D S (mV r) H locs 0 0 1 6 (F0 m 15 ls []) := by
    intro u2 H locs ls hH hl hf
    rw [← e3] at hf
    cases hf
    exact r_throwWX (ix := 13) (rx := rx13) (x0 := by decide) (x1 := by decide) (x2 := by decide) (x5 := by decide) (text := "no such finding") (cls := "java/util/NoSuchElementException") (names := ["java/lang/RuntimeException", "java/lang/Exception"]) 5 hx hb hst9 hown xf4 xn (hts (.classLink RX9 275 "java/util/NoSuchElementException") (List.mem_cons_of_mem _ gw_26_15)) (hts (.initialized "java/util/NoSuchElementException") (List.mem_cons_of_mem _ gw_26_16)) (List.mem_of_getElem? (i := 24) rfl) (xa4 hts hE) xg4 hE hB hH (hl.1.trans hml.symm) rfl dX9_needFinding_15 dX9_needFinding_18 dX9_needFinding_19 dX9_needFinding_22 dX9_needFinding_25 hxt (Nat.le_of_ble_eq_true rfl) (Nat.le_of_ble_eq_true rfl) (Nat.le_of_ble_eq_true rfl) (Nat.le_of_ble_eq_true rfl) hlocks ⟨Nat.le_of_ble_eq_true rfl, Nat.le_of_ble_eq_true rfl⟩
  refine lv_if_lt (tgt := 15) hx hb dX9_needFinding_1 (by decide) (fun c4 => ?_) (fun c4 => ?_)
  · have hf := ip hf c4
    exact Jj1 () _ _ ls hH (lv_sub hl [] rfl) hf
  · have hf := iq hf c4
    refine lv_iload_n hx hb dX9_needFinding_4 rfl (lv_at hl 1 rfl) ?_
    refine lv_aload_n hx hb dX9_needFinding_5 rfl (lv_at hl 0 rfl) ?_
    obtain ⟨ek5, hf⟩ := oc hf
    obtain ⟨a6, e7, hf⟩ := ob hf
    refine r_getQ hx hb 12 hts (fun w h => List.mem_cons_of_mem _ (mwsX90 w h)) hown hH ek5 (by decide) rfl 5 (by decide) rfl (hts (.fieldLink RX9 63 "Housestyle" "found" "LHousestyle$Findings;") (List.mem_cons_of_mem _ gw_20_13)) (fun _ h9 => h9) dX9_needFinding_6 e7 ?_
    obtain ⟨ek8, hf⟩ := oc hf
    obtain ⟨r9, e10, hf⟩ := ob hf
    refine r_callVi (As := []) ⟨hx, hb, hml, hown, hts⟩ (c_X2_count l D S a6 r9 e10) (cwV 0 hts (gwV gw_26_13 gw_13_0 gw_13_1 gw_11_18 gw_10_20) rfl rfl rfl (by decide +kernel) ⟨Nat.le_of_ble_eq_true rfl, Nat.le_of_ble_eq_true rfl⟩) hH hNE 5 ek8 (by decide) rfl rfl rfl hl.1 rfl (Nat.le_of_ble_eq_true rfl) dX9_needFinding_9 ⟨(Nat.le_of_ble_eq_true rfl), (Nat.le_of_ble_eq_true rfl)⟩ (fun H locs hH => ?_)
    refine lv_icmp_lt (tgt := 26) hx hb dX9_needFinding_12 (by decide) (fun c11 => ?_) (fun c11 => ?_)
    · have hf := ip hf c11
      refine W.widen (k := 1) (n := 6) (by omega) (by omega) ?_
      have hr9 := Option.some.inj hf
      subst hr9
      exact x_v hx hb hr hlocks hH dX9_needFinding_26
    · have hf := iq hf c11
      exact Jj1 () _ _ ls hH (lv_sub hl [] rfl) hf
set_option maxRecDepth 100000 in
def f_X2_ruleOf (S : PS) (a0 : Nat) (p1 : Int32) : Option (Int32) := if kK S a0 = 6 then ((kQ S a0 5).bind fun a2 => if kK S a2 = 9 then ((f_X5_get S a2 p1).bind fun r5 => some r5) else none) else none
abbrev rmX2_ruleOf : Room := { frames := 1, cells := 0, slots := 0, locals := 21 }
set_option maxHeartbeats 4000000 in
set_option maxRecDepth 100000 in
theorem c_X2_ruleOf (l : Launch) (D : va_G × Nat) (S : PS) (a0 : Nat) (p1 : Int32) (r : Int32) (hf : f_X2_ruleOf S a0 p1 = some r) : MI l D yX2_ruleOf wsX2_ruleOf rmX2_ruleOf S [.ref a0, .int p1] S r 0 0 := by
  unfold f_X2_ruleOf at hf
  refine Met.ofW (cc := cX2_ruleOf) (maxL := 2) (ret := (some .int)) (by decide) rfl ?_
  intro p e s m args below meth c s₁ B hml hv
  obtain ⟨rfl, hH0, hNE⟩ := hv
  have hx := B.exec
  have hb := B.bytes
  have hr := B.returns
  have hts := atoms_spec (ws := wsX2_ruleOf) B.pre
  have hown : s.vm.findClass RX2 = some m.cls := findClass_of_methodNamed B.named
  have hlocks := B.notSynchronized
  have hH : HI D S S s s.heap [] := HI.start hH0
  have hl := lv_entry ([.ref a0, .int p1]) (n := 2) (Nat.le_of_ble_eq_true rfl)
  rw [lg_entry_eq]
  generalize (lg_sl ([.ref a0, .int p1]) ++ List.replicate (2 - (lg_sl ([.ref a0, .int p1])).length) Slot.unset).toArray = ls at hl ⊢
  have hl : lv_has ls 2 [(0, .ref a0), (1, .int p1)] := hl
  refine lv_aload_n hx hb dX2_ruleOf_0 rfl (lv_at hl 0 rfl) ?_
  obtain ⟨ek1, hf⟩ := oc hf
  obtain ⟨a2, e3, hf⟩ := ob hf
  refine r_getQ hx hb 5 hts (fun w h => List.mem_cons_of_mem _ (mwsX20 w h)) hown hH ek1 (by decide) rfl 5 (by decide) rfl (hts (.fieldLink RX2 34 "Housestyle$Findings" "itsRules" "LHousestyle$Row;") (List.mem_cons_of_mem _ gw_10_18)) (fun _ h9 => h9) dX2_ruleOf_1 e3 ?_
  refine lv_iload_n hx hb dX2_ruleOf_4 rfl (lv_at hl 1 rfl) ?_
  obtain ⟨ek4, hf⟩ := oc hf
  obtain ⟨r5, e6, hf⟩ := ob hf
  refine r_callVi (As := [.int p1]) ⟨hx, hb, hml, hown, hts⟩ (c_X5_get l D S a2 p1 r5 e6) (cwV 1 hts (gwV gw_10_23 gw_2_13 gw_2_14 gw_1_5 gw_2_9) rfl rfl rfl (by decide +kernel) ⟨Nat.le_of_ble_eq_true rfl, Nat.le_of_ble_eq_true rfl⟩) hH hNE 8 ek4 (by decide) rfl rfl rfl hl.1 rfl (Nat.le_of_ble_eq_true rfl) dX2_ruleOf_5 ⟨(Nat.le_of_ble_eq_true rfl), (Nat.le_of_ble_eq_true rfl)⟩ (fun H locs hH => ?_)
  have hr9 := Option.some.inj hf
  subst hr9
  exact e_i hx hb hr hlocks hH dX2_ruleOf_8
set_option maxRecDepth 100000 in
def f_X2_fromOf (S : PS) (a0 : Nat) (p1 : Int32) : Option (Int32) := if kK S a0 = 6 then ((kQ S a0 1).bind fun a2 => (kQ S a0 4).bind fun a4 => if kK S a4 = 9 then ((f_X5_get S a4 p1).bind fun r7 => if kK S a2 = 12 then ((f_X8_fromOf S a2 r7).bind fun r10 => some r10) else none) else none) else none
abbrev rmX2_fromOf : Room := { frames := 2, cells := 0, slots := 0, locals := 42 }
set_option maxHeartbeats 4000000 in
set_option maxRecDepth 100000 in
theorem c_X2_fromOf (l : Launch) (D : va_G × Nat) (S : PS) (a0 : Nat) (p1 : Int32) (r : Int32) (hf : f_X2_fromOf S a0 p1 = some r) : MI l D yX2_fromOf wsX2_fromOf rmX2_fromOf S [.ref a0, .int p1] S r 0 0 := by
  unfold f_X2_fromOf at hf
  refine Met.ofW (cc := cX2_fromOf) (maxL := 2) (ret := (some .int)) (by decide) rfl ?_
  intro p e s m args below meth c s₁ B hml hv
  obtain ⟨rfl, hH0, hNE⟩ := hv
  have hx := B.exec
  have hb := B.bytes
  have hr := B.returns
  have hts := atoms_spec (ws := wsX2_fromOf) B.pre
  have hown : s.vm.findClass RX2 = some m.cls := findClass_of_methodNamed B.named
  have hlocks := B.notSynchronized
  have hH : HI D S S s s.heap [] := HI.start hH0
  have hl := lv_entry ([.ref a0, .int p1]) (n := 2) (Nat.le_of_ble_eq_true rfl)
  rw [lg_entry_eq]
  generalize (lg_sl ([.ref a0, .int p1]) ++ List.replicate (2 - (lg_sl ([.ref a0, .int p1])).length) Slot.unset).toArray = ls at hl ⊢
  have hl : lv_has ls 2 [(0, .ref a0), (1, .int p1)] := hl
  refine lv_aload_n hx hb dX2_fromOf_0 rfl (lv_at hl 0 rfl) ?_
  obtain ⟨ek1, hf⟩ := oc hf
  obtain ⟨a2, e3, hf⟩ := ob hf
  refine r_getQ hx hb 5 hts (fun w h => List.mem_cons_of_mem _ (mwsX20 w h)) hown hH ek1 (by decide) rfl 1 (by decide) rfl (hts (.fieldLink RX2 15 "Housestyle$Findings" "tokens" "LHousestyle$Tokens;") (List.mem_cons_of_mem _ gw_10_13)) (fun _ h9 => h9) dX2_fromOf_1 e3 ?_
  refine lv_aload_n hx hb dX2_fromOf_4 rfl (lv_at hl 0 rfl) ?_
  obtain ⟨a4, e5, hf⟩ := ob hf
  refine r_getQ hx hb 5 hts (fun w h => List.mem_cons_of_mem _ (mwsX20 w h)) hown hH ek1 (by decide) rfl 4 (by decide) rfl (hts (.fieldLink RX2 31 "Housestyle$Findings" "itsTokens" "LHousestyle$Row;") (List.mem_cons_of_mem _ gw_10_17)) (fun _ h9 => h9) dX2_fromOf_5 e5 ?_
  refine lv_iload_n hx hb dX2_fromOf_8 rfl (lv_at hl 1 rfl) ?_
  obtain ⟨ek6, hf⟩ := oc hf
  obtain ⟨r7, e8, hf⟩ := ob hf
  refine r_callVi (As := [.int p1]) ⟨hx, hb, hml, hown, hts⟩ (c_X5_get l D S a4 p1 r7 e8) (cwV 1 hts (gwV gw_10_23 gw_2_13 gw_2_14 gw_1_5 gw_2_9) rfl rfl rfl (by decide +kernel) ⟨Nat.le_of_ble_eq_true rfl, Nat.le_of_ble_eq_true rfl⟩) hH hNE 8 ek6 (by decide) rfl rfl rfl hl.1 rfl (Nat.le_of_ble_eq_true rfl) dX2_fromOf_9 ⟨(Nat.le_of_ble_eq_true rfl), (Nat.le_of_ble_eq_true rfl)⟩ (fun H locs hH => ?_)
  obtain ⟨ek9, hf⟩ := oc hf
  obtain ⟨r10, e11, hf⟩ := ob hf
  refine r_callVi (As := [.int r7]) ⟨hx, hb, hml, hown, hts⟩ (c_X8_fromOf l D S a2 r7 r10 e11) (cwV 1 hts (gwV gw_11_3 gw_11_4 gw_11_5 gw_2_23 gw_11_1) rfl rfl rfl (by decide +kernel) ⟨Nat.le_of_ble_eq_true rfl, Nat.le_of_ble_eq_true rfl⟩) hH hNE 11 ek9 (by decide) rfl rfl rfl hl.1 rfl (Nat.le_of_ble_eq_true rfl) dX2_fromOf_12 ⟨(Nat.le_of_ble_eq_true rfl), (Nat.le_of_ble_eq_true rfl)⟩ (fun H locs hH => ?_)
  have hr9 := Option.some.inj hf
  subst hr9
  exact e_i hx hb hr hlocks hH dX2_fromOf_15
set_option maxRecDepth 100000 in
def f_X2_lengthOf (S : PS) (a0 : Nat) (p1 : Int32) : Option (Int32) := if kK S a0 = 6 then ((kQ S a0 5).bind fun a2 => if kK S a2 = 9 then ((f_X5_get S a2 p1).bind fun r5 => (kQ S a0 4).bind fun a7 => if kK S a7 = 9 then ((f_X5_get S a7 p1).bind fun r10 => (f_X2_lengthAt S a0 r5 r10).bind fun r12 => some r12) else none) else none) else none
abbrev rmX2_lengthOf : Room := { frames := 5, cells := 0, slots := 0, locals := 107 }
set_option maxHeartbeats 4000000 in
set_option maxRecDepth 100000 in
theorem c_X2_lengthOf (l : Launch) (D : va_G × Nat) (S : PS) (a0 : Nat) (p1 : Int32) (r : Int32) (hf : f_X2_lengthOf S a0 p1 = some r) : MI l D yX2_lengthOf wsX2_lengthOf rmX2_lengthOf S [.ref a0, .int p1] S r 0 0 := by
  unfold f_X2_lengthOf at hf
  refine Met.ofW (cc := cX2_lengthOf) (maxL := 2) (ret := (some .int)) (by decide) rfl ?_
  intro p e s m args below meth c s₁ B hml hv
  obtain ⟨rfl, hH0, hNE⟩ := hv
  have hx := B.exec
  have hb := B.bytes
  have hr := B.returns
  have hts := atoms_spec (ws := wsX2_lengthOf) B.pre
  have hown : s.vm.findClass RX2 = some m.cls := findClass_of_methodNamed B.named
  have hlocks := B.notSynchronized
  have hH : HI D S S s s.heap [] := HI.start hH0
  have hl := lv_entry ([.ref a0, .int p1]) (n := 2) (Nat.le_of_ble_eq_true rfl)
  rw [lg_entry_eq]
  generalize (lg_sl ([.ref a0, .int p1]) ++ List.replicate (2 - (lg_sl ([.ref a0, .int p1])).length) Slot.unset).toArray = ls at hl ⊢
  have hl : lv_has ls 2 [(0, .ref a0), (1, .int p1)] := hl
  refine lv_aload_n hx hb dX2_lengthOf_0 rfl (lv_at hl 0 rfl) ?_
  refine lv_aload_n hx hb dX2_lengthOf_1 rfl (lv_at hl 0 rfl) ?_
  obtain ⟨ek1, hf⟩ := oc hf
  obtain ⟨a2, e3, hf⟩ := ob hf
  refine r_getQ hx hb 5 hts (fun w h => List.mem_cons_of_mem _ (mwsX20 w h)) hown hH ek1 (by decide) rfl 5 (by decide) rfl (hts (.fieldLink RX2 34 "Housestyle$Findings" "itsRules" "LHousestyle$Row;") (List.mem_cons_of_mem _ gw_10_18)) (fun _ h9 => h9) dX2_lengthOf_2 e3 ?_
  refine lv_iload_n hx hb dX2_lengthOf_5 rfl (lv_at hl 1 rfl) ?_
  obtain ⟨ek4, hf⟩ := oc hf
  obtain ⟨r5, e6, hf⟩ := ob hf
  refine r_callVi (As := [.int p1]) ⟨hx, hb, hml, hown, hts⟩ (c_X5_get l D S a2 p1 r5 e6) (cwV 1 hts (gwV gw_10_23 gw_2_13 gw_2_14 gw_1_5 gw_2_9) rfl rfl rfl (by decide +kernel) ⟨Nat.le_of_ble_eq_true rfl, Nat.le_of_ble_eq_true rfl⟩) hH hNE 8 ek4 (by decide) rfl rfl rfl hl.1 rfl (Nat.le_of_ble_eq_true rfl) dX2_lengthOf_6 ⟨(Nat.le_of_ble_eq_true rfl), (Nat.le_of_ble_eq_true rfl)⟩ (fun H locs hH => ?_)
  refine lv_aload_n hx hb dX2_lengthOf_9 rfl (lv_at hl 0 rfl) ?_
  obtain ⟨a7, e8, hf⟩ := ob hf
  refine r_getQ hx hb 5 hts (fun w h => List.mem_cons_of_mem _ (mwsX20 w h)) hown hH ek1 (by decide) rfl 4 (by decide) rfl (hts (.fieldLink RX2 31 "Housestyle$Findings" "itsTokens" "LHousestyle$Row;") (List.mem_cons_of_mem _ gw_10_17)) (fun _ h9 => h9) dX2_lengthOf_10 e8 ?_
  refine lv_iload_n hx hb dX2_lengthOf_13 rfl (lv_at hl 1 rfl) ?_
  obtain ⟨ek9, hf⟩ := oc hf
  obtain ⟨r10, e11, hf⟩ := ob hf
  refine r_callVi (As := [.int p1]) ⟨hx, hb, hml, hown, hts⟩ (c_X5_get l D S a7 p1 r10 e11) (cwV 1 hts (gwV gw_10_23 gw_2_13 gw_2_14 gw_1_5 gw_2_9) rfl rfl rfl (by decide +kernel) ⟨Nat.le_of_ble_eq_true rfl, Nat.le_of_ble_eq_true rfl⟩) hH hNE 8 ek9 (by decide) rfl rfl rfl hl.1 rfl (Nat.le_of_ble_eq_true rfl) dX2_lengthOf_14 ⟨(Nat.le_of_ble_eq_true rfl), (Nat.le_of_ble_eq_true rfl)⟩ (fun H locs hH => ?_)
  obtain ⟨r12, e13, hf⟩ := ob hf
  refine r_callVi (As := [.int r5, .int r10]) ⟨hx, hb, hml, hown, hts⟩ (c_X2_lengthAt l D S a0 r5 r10 r12 e13) (cwV 2 hts (gwV gw_11_15 gw_11_16 gw_11_17 gw_11_18 gw_11_7) rfl rfl rfl (by decide +kernel) ⟨Nat.le_of_ble_eq_true rfl, Nat.le_of_ble_eq_true rfl⟩) hH hNE 5 ek1 (by decide) rfl rfl rfl hl.1 rfl (Nat.le_of_ble_eq_true rfl) dX2_lengthOf_17 ⟨(Nat.le_of_ble_eq_true rfl), (Nat.le_of_ble_eq_true rfl)⟩ (fun H locs hH => ?_)
  have hr9 := Option.some.inj hf
  subst hr9
  exact e_i hx hb hr hlocks hH dX2_lengthOf_20
set_option maxRecDepth 100000 in
def f_X0_suggestionsOf (S : PS) (a0 : Nat) (p1 : Int32) : Option (Int32) := lt (fun (u10 : Unit) => if p1 < (12 : Int32) then (some 0) else (if kK S a0 = 4 then ((kQ S a0 1).bind fun a4 => if kK S a4 = 3 then ((f_Jx4a65c_size_8abf5 S a4).bind fun r7 => if r7 ≤ (p1 - 12) then (some 0) else (some 1)) else none) else none)) fun j1 => if p1 < 0 then (j1 ()) else (if kK S a0 = 4 then ((kQ S a0 0).bind fun a14 => if kK S a14 = 3 then ((f_Jx4a65c_size_8abf5 S a14).bind fun r17 => if r17 ≤ p1 then (j1 ()) else ((f_Jx4a65c_get_915e3 S a14 p1).bind fun r20 => if kK S r20 = 10 then ((kQ S r20 5).bind fun a23 => if kK S a23 = 3 then ((f_Jx4a65c_size_8abf5 S a23).bind fun r26 => some r26) else none) else none)) else none) else none)
abbrev rmX0_suggestionsOf : Room := { frames := 3, cells := 0, slots := 0, locals := 64 }
set_option maxHeartbeats 4000000 in
set_option maxRecDepth 100000 in
theorem c_X0_suggestionsOf (l : Launch) (D : va_G × Nat) (S : PS) (a0 : Nat) (p1 : Int32) (r : Int32) (hf : f_X0_suggestionsOf S a0 p1 = some r) : MI l D yX0_suggestionsOf wsX0_suggestionsOf rmX0_suggestionsOf S [.ref a0, .int p1] S r 0 0 := by
  unfold f_X0_suggestionsOf at hf
  refine Met.ofW (cc := cX0_suggestionsOf) (maxL := 2) (ret := (some .int)) (by decide) rfl ?_
  intro p e s m args below meth c s₁ B hml hv
  obtain ⟨rfl, hH0, hNE⟩ := hv
  have hx := B.exec
  have hb := B.bytes
  have hr := B.returns
  have hts := atoms_spec (ws := wsX0_suggestionsOf) B.pre
  have hown : s.vm.findClass RX0 = some m.cls := findClass_of_methodNamed B.named
  have hlocks := B.notSynchronized
  have hH : HI D S S s s.heap [] := HI.start hH0
  have hl := lv_entry ([.ref a0, .int p1]) (n := 2) (Nat.le_of_ble_eq_true rfl)
  rw [lg_entry_eq]
  generalize (lg_sl ([.ref a0, .int p1]) ++ List.replicate (2 - (lg_sl ([.ref a0, .int p1])).length) Slot.unset).toArray = ls at hl ⊢
  have hl : lv_has ls 2 [(0, .ref a0), (1, .int p1)] := hl
  refine lv_iload_n hx hb dX0_suggestionsOf_0 rfl (lv_at hl 1 rfl) ?_
  obtain ⟨j1, e11, hf⟩ := ol hf
  have Jj1 : ∀ (u10 : Unit) (H : Heap) (locs : List Loc) (ls : Array Slot), HI D S S s H locs → lv_has ls 2 [(0, .ref a0), (1, .int p1)] → j1 u10 = some r → GI p l e (headSpec wsX0_suggestionsOf rmX0_suggestionsOf).room s m ([.ref a0, .int p1] : List Value).toArray below meth c D S S r H locs 0 0 0 0 (F0 m 33 ls []) := by
    intro u10 H locs ls hH hl hf
    rw [← e11] at hf
    refine lv_iload_n hx hb dX0_suggestionsOf_33 rfl (lv_at hl 1 rfl) ?_
    refine lv_bipush (v := 12) hx hb dX0_suggestionsOf_34 (by decide) ?_
    refine lv_icmp_lt (tgt := 57) hx hb dX0_suggestionsOf_36 (by decide) (fun c2 => ?_) (fun c2 => ?_)
    · have hf := ip hf c2
      refine lv_iconst (v := 0) hx hb dX0_suggestionsOf_57 (by decide) ?_
      have hr9 := Option.some.inj hf
      subst hr9
      exact e_i hx hb hr hlocks hH dX0_suggestionsOf_58
    · have hf := iq hf c2
      refine lv_iload_n hx hb dX0_suggestionsOf_39 rfl (lv_at hl 1 rfl) ?_
      refine lv_bipush (v := 12) hx hb dX0_suggestionsOf_40 (by decide) ?_
      refine lv_isub hx hb dX0_suggestionsOf_42 ?_
      refine lv_aload_n hx hb dX0_suggestionsOf_43 rfl (lv_at hl 0 rfl) ?_
      obtain ⟨ek3, hf⟩ := oc hf
      obtain ⟨a4, e5, hf⟩ := ob hf
      refine r_getQ hx hb 3 hts (fun w h => List.mem_cons_of_mem _ (mwsX00 w h)) hown hH ek3 (by decide) rfl 1 (by decide) rfl (hts (.fieldLink RX0 18 "Housestyle$Book" "pairs" "Ljava/util/ArrayList;") (List.mem_cons_of_mem _ gw_1_2)) (fun _ h9 => h9) dX0_suggestionsOf_44 e5 ?_
      obtain ⟨ek6, hf⟩ := oc hf
      obtain ⟨r7, e8, hf⟩ := ob hf
      refine r_callVi (As := []) ⟨hx, hb, hml, hown, hts⟩ (c_Jx4a65c_size_8abf5 l D S a4 r7 e8) (cwV 0 hts (gwV gw_6_12 gw_4_10 gw_4_11 gw_1_0 gw_1_18) rfl rfl rfl (by decide +kernel) ⟨Nat.le_of_ble_eq_true rfl, Nat.le_of_ble_eq_true rfl⟩) hH hNE 2 ek6 (by decide) rfl rfl rfl hl.1 rfl (Nat.le_of_ble_eq_true rfl) dX0_suggestionsOf_47 ⟨(Nat.le_of_ble_eq_true rfl), (Nat.le_of_ble_eq_true rfl)⟩ (fun H locs hH => ?_)
      refine lv_icmp_ge (tgt := 57) hx hb dX0_suggestionsOf_50 (by decide) (fun c9 => ?_) (fun c9 => ?_)
      · have hf := ip hf c9
        refine lv_iconst (v := 0) hx hb dX0_suggestionsOf_57 (by decide) ?_
        have hr9 := Option.some.inj hf
        subst hr9
        exact e_i hx hb hr hlocks hH dX0_suggestionsOf_58
      · have hf := iq hf c9
        refine lv_iconst (v := 1) hx hb dX0_suggestionsOf_53 (by decide) ?_
        refine lv_goto (tgt := 58) hx hb dX0_suggestionsOf_54 (by decide) ?_
        have hr9 := Option.some.inj hf
        subst hr9
        exact e_i hx hb hr hlocks hH dX0_suggestionsOf_58
  refine lv_if_lt (tgt := 33) hx hb dX0_suggestionsOf_1 (by decide) (fun c12 => ?_) (fun c12 => ?_)
  · have hf := ip hf c12
    exact Jj1 () _ _ ls hH (lv_sub hl [0, 1] rfl) hf
  · have hf := iq hf c12
    refine lv_iload_n hx hb dX0_suggestionsOf_4 rfl (lv_at hl 1 rfl) ?_
    refine lv_aload_n hx hb dX0_suggestionsOf_5 rfl (lv_at hl 0 rfl) ?_
    obtain ⟨ek13, hf⟩ := oc hf
    obtain ⟨a14, e15, hf⟩ := ob hf
    refine r_getQ hx hb 3 hts (fun w h => List.mem_cons_of_mem _ (mwsX00 w h)) hown hH ek13 (by decide) rfl 0 (by decide) rfl (hts (.fieldLink RX0 12 "Housestyle$Book" "rules" "Ljava/util/ArrayList;") (List.mem_cons_of_mem _ gw_1_1)) (fun _ h9 => h9) dX0_suggestionsOf_6 e15 ?_
    obtain ⟨ek16, hf⟩ := oc hf
    obtain ⟨r17, e18, hf⟩ := ob hf
    refine r_callVi (As := []) ⟨hx, hb, hml, hown, hts⟩ (c_Jx4a65c_size_8abf5 l D S a14 r17 e18) (cwV 0 hts (gwV gw_6_12 gw_4_10 gw_4_11 gw_1_0 gw_1_18) rfl rfl rfl (by decide +kernel) ⟨Nat.le_of_ble_eq_true rfl, Nat.le_of_ble_eq_true rfl⟩) hH hNE 2 ek16 (by decide) rfl rfl rfl hl.1 rfl (Nat.le_of_ble_eq_true rfl) dX0_suggestionsOf_9 ⟨(Nat.le_of_ble_eq_true rfl), (Nat.le_of_ble_eq_true rfl)⟩ (fun H locs hH => ?_)
    refine lv_icmp_ge (tgt := 33) hx hb dX0_suggestionsOf_12 (by decide) (fun c19 => ?_) (fun c19 => ?_)
    · have hf := ip hf c19
      exact Jj1 () _ _ ls hH (lv_sub hl [0, 1] rfl) hf
    · have hf := iq hf c19
      refine lv_aload_n hx hb dX0_suggestionsOf_15 rfl (lv_at hl 0 rfl) ?_
      refine r_getQ hx hb 3 hts (fun w h => List.mem_cons_of_mem _ (mwsX00 w h)) hown hH ek13 (by decide) rfl 0 (by decide) rfl (hts (.fieldLink RX0 12 "Housestyle$Book" "rules" "Ljava/util/ArrayList;") (List.mem_cons_of_mem _ gw_1_1)) (fun _ h9 => h9) dX0_suggestionsOf_16 e15 ?_
      refine lv_iload_n hx hb dX0_suggestionsOf_19 rfl (lv_at hl 1 rfl) ?_
      obtain ⟨r20, e21, hf⟩ := ob hf
      refine r_callVr (As := [.int p1]) ⟨hx, hb, hml, hown, hts⟩ (c_Jx4a65c_get_915e3 l D S a14 p1 r20 e21) (cwV 1 hts (gwV gw_6_13 gw_4_13 gw_4_14 gw_1_0 gw_2_2) rfl rfl rfl (by decide +kernel) ⟨Nat.le_of_ble_eq_true rfl, Nat.le_of_ble_eq_true rfl⟩) hH hNE 2 ek16 (by decide) rfl rfl rfl hl.1 rfl (Nat.le_of_ble_eq_true rfl) dX0_suggestionsOf_20 ⟨(Nat.le_of_ble_eq_true rfl), (Nat.le_of_ble_eq_true rfl)⟩ (fun H locs hH => ?_)
      obtain ⟨ek22, hf⟩ := oc hf
      refine r_castS 9 hx hb hown (hts (.classLink RX0 46 "Housestyle$Rule") (List.mem_cons_of_mem _ gw_6_7)) hH ek22 (by decide) rfl rfl dX0_suggestionsOf_23 ?_
      obtain ⟨a23, e24, hf⟩ := ob hf
      refine r_getQN hx hb 9 hts (fun w h => List.mem_cons_of_mem _ (mwsX60 w h)) hown hH ek22 (by decide) rfl 5 (by decide) rfl (nf_18 hNE) (fun _ h9 => h9) dX0_suggestionsOf_26 e24 ?_
      obtain ⟨ek25, hf⟩ := oc hf
      obtain ⟨r26, e27, hf⟩ := ob hf
      refine r_callVi (As := []) ⟨hx, hb, hml, hown, hts⟩ (c_Jx4a65c_size_8abf5 l D S a23 r26 e27) (cwV 0 hts (gwV gw_6_12 gw_4_10 gw_4_11 gw_1_0 gw_1_18) rfl rfl rfl (by decide +kernel) ⟨Nat.le_of_ble_eq_true rfl, Nat.le_of_ble_eq_true rfl⟩) hH hNE 2 ek25 (by decide) rfl rfl rfl hl.1 rfl (Nat.le_of_ble_eq_true rfl) dX0_suggestionsOf_29 ⟨(Nat.le_of_ble_eq_true rfl), (Nat.le_of_ble_eq_true rfl)⟩ (fun H locs hH => ?_)
      have hr9 := Option.some.inj hf
      subst hr9
      exact e_i hx hb hr hlocks hH dX0_suggestionsOf_32
set_option maxRecDepth 100000 in
def f_X9_of (S : PS) (a0 : Nat) (p1 : Int32) (p2 : Int32) (p3 : Int32) : Option ((PS × Int32) ⊕ (PS × Nat)) := if kK S a0 = 13 then (bx2 (f_X9_findFor S a0 p1) fun S3 a4 => lt (fun (u44 : Unit) => if kK S3 a0 = 13 then (bx1 (f_X9_needFinding S3 a0 p2) fun S8 => if kK S8 a0 = 13 then ((kQ S8 a0 5).bind fun a10 => if kK S8 a10 = 6 then ((f_X2_ruleOf S8 a10 p2).bind fun r13 => if p3 = (102 : Int32) then ((f_X2_fromOf S8 a10 p2).bind fun r42 => some (.inl (S8, r42))) else (if p3 = (108 : Int32) then ((f_X2_lengthOf S8 a10 p2).bind fun r40 => some (.inl (S8, r40))) else (if p3 = (114 : Int32) then (some (.inl (S8, r13))) else (if p3 = (107 : Int32) then ((kQ S8 a0 3).bind fun a35 => if kK S8 a35 = 4 then ((f_X0_rankAt S8 a35 a4 r13).bind fun r38 => some (.inl (S8, r38))) else none) else (if p3 = (119 : Int32) then ((kQ S8 a0 1).bind fun a25 => if kK S8 a25 = 11 then ((kQ S8 a25 1).bind fun a28 => (f_X2_fromOf S8 a10 p2).bind fun r30 => if kK S8 a28 = 9 then ((f_X5_get S8 a28 r30).bind fun r33 => some (.inl (S8, r33))) else none) else none) else ((kQ S8 a0 3).bind fun a20 => if kK S8 a20 = 4 then ((f_X0_suggestionsOf S8 a20 r13).bind fun r23 => some (.inl (S8, r23))) else none)))))) else none) else none) else none) fun j5 => if p3 = (102 : Int32) then (j5 ()) else (if p3 = (108 : Int32) then (j5 ()) else (if p3 = (114 : Int32) then (j5 ()) else (if p3 = (107 : Int32) then (j5 ()) else (if p3 = (119 : Int32) then (j5 ()) else (if p3 = (115 : Int32) then (j5 ()) else (some (.inr (S3, 1))))))))) else none
abbrev rmX9_of : Room := { frames := 8, cells := 2, slots := 12, locals := 178 }
set_option maxHeartbeats 4000000 in
set_option maxRecDepth 100000 in
theorem c_X9_of (l : Launch) (hst9 : l.stackTraces = false) (D : va_G × Nat) (S : PS) (a0 : Nat) (p1 : Int32) (p2 : Int32) (p3 : Int32) (r : (PS × Int32) ⊕ (PS × Nat)) (hf : f_X9_of S a0 p1 p2 p3 = some r) : XM l D yX9_of wsX9_of rmX9_of S [.ref a0, .int p1, .int p2, .int p3] (mI r) 2 12 := by
  unfold f_X9_of at hf
  refine vx_ofW (cc := cX9_of) (maxL := 6) (ret := (some .int)) (by decide) rfl ?_
  intro p e s m args below meth c s₁ B hml hxt hv
  obtain ⟨rfl, hH0, hE, hNE⟩ := hv
  have hB := hH0.base
  have hx := B.exec
  have hb := B.bytes
  have hr := B.returns
  have hts := atoms_spec (ws := wsX9_of) B.pre
  have hown : s.vm.findClass RX9 = some m.cls := findClass_of_methodNamed B.named
  have hlocks := B.notSynchronized
  have hH : HI D S S s s.heap [] := HI.start hH0
  have hl := lv_entry ([.ref a0, .int p1, .int p2, .int p3]) (n := 6) (Nat.le_of_ble_eq_true rfl)
  rw [lg_entry_eq]
  generalize (lg_sl ([.ref a0, .int p1, .int p2, .int p3]) ++ List.replicate (6 - (lg_sl ([.ref a0, .int p1, .int p2, .int p3])).length) Slot.unset).toArray = ls at hl ⊢
  have hl : lv_has ls 6 [(0, .ref a0), (1, .int p1), (2, .int p2), (3, .int p3)] := hl
  refine lv_aload_n hx hb dX9_of_0 rfl (lv_at hl 0 rfl) ?_
  refine lv_iload_n hx hb dX9_of_1 rfl (lv_at hl 1 rfl) ?_
  obtain ⟨ek1, hf⟩ := oc hf
  rcases obx2 hf with ⟨x4_, e2, rfl⟩ | ⟨S3, a4, e2, hf⟩
  · refine r_xVex (As := [.int p1]) ⟨hx, hb, hml, hown, hts⟩ (c_X9_findFor l hst9 D S a0 p1 (.inr x4_) e2) (cwV 1 hts (gwV gw_26_10 gw_26_11 gw_26_12 gw_14_5 gw_25_23) rfl rfl rfl (by decide +kernel) ⟨Nat.le_of_ble_eq_true rfl, Nat.le_of_ble_eq_true rfl⟩) hH hE hB hNE 12 ek1 (by decide) rfl rfl rfl hl.1 rfl (Nat.le_of_ble_eq_true rfl) dX9_of_2 ⟨(Nat.le_of_ble_eq_true rfl), (Nat.le_of_ble_eq_true rfl)⟩ (fun z9 ce9 q9 H locs hH hk9 hz9 h91 h92 h93 => ?_)
    exact x_out hxt hlocks hH hk9 hz9 h91 h92 h93 ⟨Nat.le_of_ble_eq_true rfl, Nat.le_of_ble_eq_true rfl⟩
  refine r_xVok (As := [.int p1]) (S' := S3) (v := (some (.ref a4))) (st1 := [.ref a4]) ⟨hx, hb, hml, hown, hts⟩ (c_X9_findFor l hst9 D S a0 p1 (.inl (S3, a4)) e2) (cwV 1 hts (gwV gw_26_10 gw_26_11 gw_26_12 gw_14_5 gw_25_23) rfl rfl rfl (by decide +kernel) ⟨Nat.le_of_ble_eq_true rfl, Nat.le_of_ble_eq_true rfl⟩) hH hE hB hNE 12 ek1 (by decide) rfl rfl rfl hl.1 rfl (Nat.le_of_ble_eq_true rfl) dX9_of_2 ⟨(Nat.le_of_ble_eq_true rfl), (Nat.le_of_ble_eq_true rfl)⟩ rfl (fun H locs hH => ?_)
  refine W.widen (k := 1) (n := 6) (by omega) (by omega) ?_
  refine lv_astore (lv' := [(4, .ref a4), (0, .ref a0), (1, .int p1), (2, .int p2), (3, .int p3)]) hx hb dX9_of_5 hl (by decide) rfl (fun ls hl => ?_)
  refine lv_iload_n hx hb dX9_of_7 rfl (lv_at hl 4 rfl) ?_
  refine lv_bipush (v := 102) hx hb dX9_of_8 (by decide) ?_
  obtain ⟨j5, e45, hf⟩ := ol hf
  have Jj5 : ∀ (u44 : Unit) (H : Heap) (locs : List Loc) (ls : Array Slot), HI D S S3 s H locs → lv_has ls 6 [(0, .ref a0), (2, .int p2), (3, .int p3), (4, .ref a4)] → j5 u44 = some r → GX p l e (headSpec wsX9_of rmX9_of).room s m ([.ref a0, .int p1, .int p2, .int p3] : List Value).toArray below meth c D S (mI r) H locs 1 6 2 12 (F0 m 53 ls []) := by
    intro u44 H locs ls hH hl hf
    rw [← e45] at hf
    refine lv_aload_n hx hb dX9_of_53 rfl (lv_at hl 0 rfl) ?_
    refine lv_iload_n hx hb dX9_of_54 rfl (lv_at hl 1 rfl) ?_
    obtain ⟨ek6, hf⟩ := oc hf
    rcases obx1 hf with ⟨x8_, e7, rfl⟩ | ⟨S8, e7, hf⟩
    · refine r_xVex (As := [.int p2]) ⟨hx, hb, hml, hown, hts⟩ (c_X9_needFinding l hst9 D S3 a0 p2 (.inr x8_) e7) (cwV 1 hts (gwV gw_26_18 gw_26_19 gw_26_20 gw_14_5 gw_26_14) rfl rfl rfl (by decide +kernel) ⟨Nat.le_of_ble_eq_true rfl, Nat.le_of_ble_eq_true rfl⟩) hH hE hB hNE 12 ek6 (by decide) rfl rfl rfl hl.1 rfl (Nat.le_of_ble_eq_true rfl) dX9_of_55 ⟨(Nat.le_of_ble_eq_true rfl), (Nat.le_of_ble_eq_true rfl)⟩ (fun z9 ce9 q9 H locs hH hk9 hz9 h91 h92 h93 => ?_)
      exact x_out hxt hlocks hH hk9 hz9 h91 h92 h93 ⟨Nat.le_of_ble_eq_true rfl, Nat.le_of_ble_eq_true rfl⟩
    refine r_xVok (As := [.int p2]) (S' := S8) (v := none) (st1 := []) ⟨hx, hb, hml, hown, hts⟩ (c_X9_needFinding l hst9 D S3 a0 p2 (.inl S8) e7) (cwV 1 hts (gwV gw_26_18 gw_26_19 gw_26_20 gw_14_5 gw_26_14) rfl rfl rfl (by decide +kernel) ⟨Nat.le_of_ble_eq_true rfl, Nat.le_of_ble_eq_true rfl⟩) hH hE hB hNE 12 ek6 (by decide) rfl rfl rfl hl.1 rfl (Nat.le_of_ble_eq_true rfl) dX9_of_55 ⟨(Nat.le_of_ble_eq_true rfl), (Nat.le_of_ble_eq_true rfl)⟩ rfl (fun H locs hH => ?_)
    refine W.widen (k := 2) (n := 12) (by omega) (by omega) ?_
    refine lv_aload_n hx hb dX9_of_58 rfl (lv_at hl 0 rfl) ?_
    obtain ⟨ek9, hf⟩ := oc hf
    obtain ⟨a10, e11, hf⟩ := ob hf
    refine r_getQ hx hb 12 hts (fun w h => List.mem_cons_of_mem _ (mwsX90 w h)) hown hH ek9 (by decide) rfl 5 (by decide) rfl (hts (.fieldLink RX9 63 "Housestyle" "found" "LHousestyle$Findings;") (List.mem_cons_of_mem _ gw_20_13)) (fun _ h9 => h9) dX9_of_59 e11 ?_
    refine lv_iload_n hx hb dX9_of_62 rfl (lv_at hl 1 rfl) ?_
    obtain ⟨ek12, hf⟩ := oc hf
    obtain ⟨r13, e14, hf⟩ := ob hf
    refine r_callVi (As := [.int p2]) ⟨hx, hb, hml, hown, hts⟩ (c_X2_ruleOf l D S8 a10 p2 r13 e14) (cwV 1 hts (gwV gw_26_21 gw_26_22 gw_26_23 gw_11_18 gw_11_0) rfl rfl rfl (by decide +kernel) ⟨Nat.le_of_ble_eq_true rfl, Nat.le_of_ble_eq_true rfl⟩) hH hNE 5 ek12 (by decide) rfl rfl rfl hl.1 rfl (Nat.le_of_ble_eq_true rfl) dX9_of_63 ⟨(Nat.le_of_ble_eq_true rfl), (Nat.le_of_ble_eq_true rfl)⟩ (fun H locs hH => ?_)
    refine lv_istore (lv' := [(5, .int r13), (0, .ref a0), (2, .int p2), (3, .int p3), (4, .ref a4)]) hx hb dX9_of_66 hl (by decide) rfl (fun ls hl => ?_)
    refine lv_iload_n hx hb dX9_of_68 rfl (lv_at hl 3 rfl) ?_
    refine lv_bipush (v := 102) hx hb dX9_of_69 (by decide) ?_
    refine lv_icmp_ne (tgt := 83) hx hb dX9_of_71 (by decide) (fun c15 => ?_) (fun c15 => ?_)
    · have hf := iq hf c15
      refine lv_iload_n hx hb dX9_of_83 rfl (lv_at hl 3 rfl) ?_
      refine lv_bipush (v := 108) hx hb dX9_of_84 (by decide) ?_
      refine lv_icmp_ne (tgt := 98) hx hb dX9_of_86 (by decide) (fun c16 => ?_) (fun c16 => ?_)
      · have hf := iq hf c16
        refine lv_iload_n hx hb dX9_of_98 rfl (lv_at hl 3 rfl) ?_
        refine lv_bipush (v := 114) hx hb dX9_of_99 (by decide) ?_
        refine lv_icmp_ne (tgt := 107) hx hb dX9_of_101 (by decide) (fun c17 => ?_) (fun c17 => ?_)
        · have hf := iq hf c17
          refine lv_iload_n hx hb dX9_of_107 rfl (lv_at hl 3 rfl) ?_
          refine lv_bipush (v := 107) hx hb dX9_of_108 (by decide) ?_
          refine lv_icmp_ne (tgt := 125) hx hb dX9_of_110 (by decide) (fun c18 => ?_) (fun c18 => ?_)
          · have hf := iq hf c18
            refine lv_iload_n hx hb dX9_of_125 rfl (lv_at hl 3 rfl) ?_
            refine lv_bipush (v := 119) hx hb dX9_of_126 (by decide) ?_
            refine lv_icmp_ne (tgt := 150) hx hb dX9_of_128 (by decide) (fun c19 => ?_) (fun c19 => ?_)
            · have hf := iq hf c19
              refine lv_aload_n hx hb dX9_of_150 rfl (lv_at hl 1 rfl) ?_
              obtain ⟨a20, e21, hf⟩ := ob hf
              refine r_getQ hx hb 12 hts (fun w h => List.mem_cons_of_mem _ (mwsX90 w h)) hown hH ek9 (by decide) rfl 3 (by decide) rfl (hts (.fieldLink RX9 40 "Housestyle" "book" "LHousestyle$Book;") (List.mem_cons_of_mem _ gw_20_6)) (fun _ h9 => h9) dX9_of_151 e21 ?_
              refine lv_iload hx hb dX9_of_154 (lv_at hl 0 rfl) ?_
              obtain ⟨ek22, hf⟩ := oc hf
              obtain ⟨r23, e24, hf⟩ := ob hf
              refine r_callVi (As := [.int r13]) ⟨hx, hb, hml, hown, hts⟩ (c_X0_suggestionsOf l D S8 a20 r13 r23 e24) (cwV 1 hts (gwV gw_27_2 gw_27_3 gw_27_4 gw_6_5 gw_7_10) rfl rfl rfl (by decide +kernel) ⟨Nat.le_of_ble_eq_true rfl, Nat.le_of_ble_eq_true rfl⟩) hH hNE 3 ek22 (by decide) rfl rfl rfl hl.1 rfl (Nat.le_of_ble_eq_true rfl) dX9_of_156 ⟨(Nat.le_of_ble_eq_true rfl), (Nat.le_of_ble_eq_true rfl)⟩ (fun H locs hH => ?_)
              have hr9 := Option.some.inj hf
              subst hr9
              exact x_i hx hb hr hlocks hH dX9_of_159
            · have hf := ip hf c19
              refine lv_aload_n hx hb dX9_of_131 rfl (lv_at hl 1 rfl) ?_
              obtain ⟨a25, e26, hf⟩ := ob hf
              refine r_getQ hx hb 12 hts (fun w h => List.mem_cons_of_mem _ (mwsX90 w h)) hown hH ek9 (by decide) rfl 1 (by decide) rfl (hts (.fieldLink RX9 21 "Housestyle" "text" "LHousestyle$Text;") (List.mem_cons_of_mem _ gw_20_0)) (fun _ h9 => h9) dX9_of_132 e26 ?_
              obtain ⟨ek27, hf⟩ := oc hf
              obtain ⟨a28, e29, hf⟩ := ob hf
              refine r_getQN hx hb 10 hts (fun w h => List.mem_cons_of_mem _ (mwsX70 w h)) hown hH ek27 (by decide) rfl 1 (by decide) rfl (nf_9 hNE) (fun _ h9 => h9) dX9_of_135 e29 ?_
              refine lv_aload_n hx hb dX9_of_138 rfl (lv_at hl 1 rfl) ?_
              refine r_getQ hx hb 12 hts (fun w h => List.mem_cons_of_mem _ (mwsX90 w h)) hown hH ek9 (by decide) rfl 5 (by decide) rfl (hts (.fieldLink RX9 63 "Housestyle" "found" "LHousestyle$Findings;") (List.mem_cons_of_mem _ gw_20_13)) (fun _ h9 => h9) dX9_of_139 e11 ?_
              refine lv_iload_n hx hb dX9_of_142 rfl (lv_at hl 2 rfl) ?_
              obtain ⟨r30, e31, hf⟩ := ob hf
              refine r_callVi (As := [.int p2]) ⟨hx, hb, hml, hown, hts⟩ (c_X2_fromOf l D S8 a10 p2 r30 e31) (cwV 1 hts (gwV gw_27_0 gw_13_3 gw_13_4 gw_11_18 gw_11_2) rfl rfl rfl (by decide +kernel) ⟨Nat.le_of_ble_eq_true rfl, Nat.le_of_ble_eq_true rfl⟩) hH hNE 5 ek12 (by decide) rfl rfl rfl hl.1 rfl (Nat.le_of_ble_eq_true rfl) dX9_of_143 ⟨(Nat.le_of_ble_eq_true rfl), (Nat.le_of_ble_eq_true rfl)⟩ (fun H locs hH => ?_)
              obtain ⟨ek32, hf⟩ := oc hf
              obtain ⟨r33, e34, hf⟩ := ob hf
              refine r_callVi (As := [.int r30]) ⟨hx, hb, hml, hown, hts⟩ (c_X5_get l D S8 a28 r30 r33 e34) (cwV 1 hts (gwV gw_14_2 gw_2_13 gw_2_14 gw_1_5 gw_2_9) rfl rfl rfl (by decide +kernel) ⟨Nat.le_of_ble_eq_true rfl, Nat.le_of_ble_eq_true rfl⟩) hH hNE 8 ek32 (by decide) rfl rfl rfl hl.1 rfl (Nat.le_of_ble_eq_true rfl) dX9_of_146 ⟨(Nat.le_of_ble_eq_true rfl), (Nat.le_of_ble_eq_true rfl)⟩ (fun H locs hH => ?_)
              have hr9 := Option.some.inj hf
              subst hr9
              exact x_i hx hb hr hlocks hH dX9_of_149
          · have hf := ip hf c18
            refine lv_aload_n hx hb dX9_of_113 rfl (lv_at hl 1 rfl) ?_
            obtain ⟨a35, e36, hf⟩ := ob hf
            refine r_getQ hx hb 12 hts (fun w h => List.mem_cons_of_mem _ (mwsX90 w h)) hown hH ek9 (by decide) rfl 3 (by decide) rfl (hts (.fieldLink RX9 40 "Housestyle" "book" "LHousestyle$Book;") (List.mem_cons_of_mem _ gw_20_6)) (fun _ h9 => h9) dX9_of_114 e36 ?_
            refine lv_aload hx hb dX9_of_117 (lv_at hl 4 rfl) ?_
            refine lv_iload hx hb dX9_of_119 (lv_at hl 0 rfl) ?_
            obtain ⟨ek37, hf⟩ := oc hf
            obtain ⟨r38, e39, hf⟩ := ob hf
            refine r_callVi (As := [.ref a4, .int r13]) ⟨hx, hb, hml, hown, hts⟩ (c_X0_rankAt l D S8 a35 a4 r13 r38 e39) (cwV 2 hts (gwV gw_25_20 gw_7_8 gw_7_9 gw_6_5 gw_7_5) rfl rfl rfl (by decide +kernel) ⟨Nat.le_of_ble_eq_true rfl, Nat.le_of_ble_eq_true rfl⟩) hH hNE 3 ek37 (by decide) rfl rfl rfl hl.1 rfl (Nat.le_of_ble_eq_true rfl) dX9_of_121 ⟨(Nat.le_of_ble_eq_true rfl), (Nat.le_of_ble_eq_true rfl)⟩ (fun H locs hH => ?_)
            have hr9 := Option.some.inj hf
            subst hr9
            exact x_i hx hb hr hlocks hH dX9_of_124
        · have hf := ip hf c17
          refine lv_iload hx hb dX9_of_104 (lv_at hl 0 rfl) ?_
          have hr9 := Option.some.inj hf
          subst hr9
          exact x_i hx hb hr hlocks hH dX9_of_106
      · have hf := ip hf c16
        refine lv_aload_n hx hb dX9_of_89 rfl (lv_at hl 1 rfl) ?_
        refine r_getQ hx hb 12 hts (fun w h => List.mem_cons_of_mem _ (mwsX90 w h)) hown hH ek9 (by decide) rfl 5 (by decide) rfl (hts (.fieldLink RX9 63 "Housestyle" "found" "LHousestyle$Findings;") (List.mem_cons_of_mem _ gw_20_13)) (fun _ h9 => h9) dX9_of_90 e11 ?_
        refine lv_iload_n hx hb dX9_of_93 rfl (lv_at hl 2 rfl) ?_
        obtain ⟨r40, e41, hf⟩ := ob hf
        refine r_callVi (As := [.int p2]) ⟨hx, hb, hml, hown, hts⟩ (c_X2_lengthOf l D S8 a10 p2 r40 e41) (cwV 1 hts (gwV gw_27_1 gw_13_6 gw_13_7 gw_11_18 gw_11_14) rfl rfl rfl (by decide +kernel) ⟨Nat.le_of_ble_eq_true rfl, Nat.le_of_ble_eq_true rfl⟩) hH hNE 5 ek12 (by decide) rfl rfl rfl hl.1 rfl (Nat.le_of_ble_eq_true rfl) dX9_of_94 ⟨(Nat.le_of_ble_eq_true rfl), (Nat.le_of_ble_eq_true rfl)⟩ (fun H locs hH => ?_)
        have hr9 := Option.some.inj hf
        subst hr9
        exact x_i hx hb hr hlocks hH dX9_of_97
    · have hf := ip hf c15
      refine lv_aload_n hx hb dX9_of_74 rfl (lv_at hl 1 rfl) ?_
      refine r_getQ hx hb 12 hts (fun w h => List.mem_cons_of_mem _ (mwsX90 w h)) hown hH ek9 (by decide) rfl 5 (by decide) rfl (hts (.fieldLink RX9 63 "Housestyle" "found" "LHousestyle$Findings;") (List.mem_cons_of_mem _ gw_20_13)) (fun _ h9 => h9) dX9_of_75 e11 ?_
      refine lv_iload_n hx hb dX9_of_78 rfl (lv_at hl 2 rfl) ?_
      obtain ⟨r42, e43, hf⟩ := ob hf
      refine r_callVi (As := [.int p2]) ⟨hx, hb, hml, hown, hts⟩ (c_X2_fromOf l D S8 a10 p2 r42 e43) (cwV 1 hts (gwV gw_27_0 gw_13_3 gw_13_4 gw_11_18 gw_11_2) rfl rfl rfl (by decide +kernel) ⟨Nat.le_of_ble_eq_true rfl, Nat.le_of_ble_eq_true rfl⟩) hH hNE 5 ek12 (by decide) rfl rfl rfl hl.1 rfl (Nat.le_of_ble_eq_true rfl) dX9_of_79 ⟨(Nat.le_of_ble_eq_true rfl), (Nat.le_of_ble_eq_true rfl)⟩ (fun H locs hH => ?_)
      have hr9 := Option.some.inj hf
      subst hr9
      exact x_i hx hb hr hlocks hH dX9_of_82
  refine lv_icmp_eq (tgt := 53) hx hb dX9_of_10 (by decide) (fun c46 => ?_) (fun c46 => ?_)
  · have hf := ip hf c46
    exact Jj5 () _ _ ls hH (lv_sub hl [1, 3, 4, 0] rfl) hf
  · have hf := iq hf c46
    refine lv_iload_n hx hb dX9_of_13 rfl (lv_at hl 4 rfl) ?_
    refine lv_bipush (v := 108) hx hb dX9_of_14 (by decide) ?_
    refine lv_icmp_eq (tgt := 53) hx hb dX9_of_16 (by decide) (fun c47 => ?_) (fun c47 => ?_)
    · have hf := ip hf c47
      exact Jj5 () _ _ ls hH (lv_sub hl [1, 3, 4, 0] rfl) hf
    · have hf := iq hf c47
      refine lv_iload_n hx hb dX9_of_19 rfl (lv_at hl 4 rfl) ?_
      refine lv_bipush (v := 114) hx hb dX9_of_20 (by decide) ?_
      refine lv_icmp_eq (tgt := 53) hx hb dX9_of_22 (by decide) (fun c48 => ?_) (fun c48 => ?_)
      · have hf := ip hf c48
        exact Jj5 () _ _ ls hH (lv_sub hl [1, 3, 4, 0] rfl) hf
      · have hf := iq hf c48
        refine lv_iload_n hx hb dX9_of_25 rfl (lv_at hl 4 rfl) ?_
        refine lv_bipush (v := 107) hx hb dX9_of_26 (by decide) ?_
        refine lv_icmp_eq (tgt := 53) hx hb dX9_of_28 (by decide) (fun c49 => ?_) (fun c49 => ?_)
        · have hf := ip hf c49
          exact Jj5 () _ _ ls hH (lv_sub hl [1, 3, 4, 0] rfl) hf
        · have hf := iq hf c49
          refine lv_iload_n hx hb dX9_of_31 rfl (lv_at hl 4 rfl) ?_
          refine lv_bipush (v := 119) hx hb dX9_of_32 (by decide) ?_
          refine lv_icmp_eq (tgt := 53) hx hb dX9_of_34 (by decide) (fun c50 => ?_) (fun c50 => ?_)
          · have hf := ip hf c50
            exact Jj5 () _ _ ls hH (lv_sub hl [1, 3, 4, 0] rfl) hf
          · have hf := iq hf c50
            refine lv_iload_n hx hb dX9_of_37 rfl (lv_at hl 4 rfl) ?_
            refine lv_bipush (v := 115) hx hb dX9_of_38 (by decide) ?_
            refine lv_icmp_eq (tgt := 53) hx hb dX9_of_40 (by decide) (fun c51 => ?_) (fun c51 => ?_)
            · have hf := ip hf c51
              exact Jj5 () _ _ ls hH (lv_sub hl [1, 3, 4, 0] rfl) hf
            · have hf := iq hf c51
              cases hf
              exact r_throw (text := "no such thing") (cls := "java/lang/IllegalArgumentException") (names := ["java/lang/RuntimeException", "java/lang/Exception"]) 1 hx hb hst9 hown xf0 xn (hts (.classLink RX9 82 "java/lang/IllegalArgumentException") (List.mem_cons_of_mem _ gw_21_9)) (hts (.initialized "java/lang/IllegalArgumentException") (List.mem_cons_of_mem _ gw_21_10)) (List.mem_of_getElem? (i := 17) rfl) (xa0 hts hE) xg0 hE hB hH (hl.1.trans hml.symm) rfl dX9_of_43 dX9_of_46 dX9_of_47 dX9_of_49 dX9_of_52 hxt (Nat.le_of_ble_eq_true rfl) (Nat.le_of_ble_eq_true rfl) (Nat.le_of_ble_eq_true rfl) (Nat.le_of_ble_eq_true rfl) hlocks ⟨Nat.le_of_ble_eq_true rfl, Nat.le_of_ble_eq_true rfl⟩
set_option maxRecDepth 100000 in
def f_X2_tokenOf (S : PS) (a0 : Nat) (p1 : Int32) : Option (Int32) := if kK S a0 = 6 then ((kQ S a0 4).bind fun a2 => if kK S a2 = 9 then ((f_X5_get S a2 p1).bind fun r5 => some r5) else none) else none
abbrev rmX2_tokenOf : Room := { frames := 1, cells := 0, slots := 0, locals := 21 }
set_option maxHeartbeats 4000000 in
set_option maxRecDepth 100000 in
theorem c_X2_tokenOf (l : Launch) (D : va_G × Nat) (S : PS) (a0 : Nat) (p1 : Int32) (r : Int32) (hf : f_X2_tokenOf S a0 p1 = some r) : MI l D yX2_tokenOf wsX2_tokenOf rmX2_tokenOf S [.ref a0, .int p1] S r 0 0 := by
  unfold f_X2_tokenOf at hf
  refine Met.ofW (cc := cX2_tokenOf) (maxL := 2) (ret := (some .int)) (by decide) rfl ?_
  intro p e s m args below meth c s₁ B hml hv
  obtain ⟨rfl, hH0, hNE⟩ := hv
  have hx := B.exec
  have hb := B.bytes
  have hr := B.returns
  have hts := atoms_spec (ws := wsX2_tokenOf) B.pre
  have hown : s.vm.findClass RX2 = some m.cls := findClass_of_methodNamed B.named
  have hlocks := B.notSynchronized
  have hH : HI D S S s s.heap [] := HI.start hH0
  have hl := lv_entry ([.ref a0, .int p1]) (n := 2) (Nat.le_of_ble_eq_true rfl)
  rw [lg_entry_eq]
  generalize (lg_sl ([.ref a0, .int p1]) ++ List.replicate (2 - (lg_sl ([.ref a0, .int p1])).length) Slot.unset).toArray = ls at hl ⊢
  have hl : lv_has ls 2 [(0, .ref a0), (1, .int p1)] := hl
  refine lv_aload_n hx hb dX2_tokenOf_0 rfl (lv_at hl 0 rfl) ?_
  obtain ⟨ek1, hf⟩ := oc hf
  obtain ⟨a2, e3, hf⟩ := ob hf
  refine r_getQ hx hb 5 hts (fun w h => List.mem_cons_of_mem _ (mwsX20 w h)) hown hH ek1 (by decide) rfl 4 (by decide) rfl (hts (.fieldLink RX2 31 "Housestyle$Findings" "itsTokens" "LHousestyle$Row;") (List.mem_cons_of_mem _ gw_10_17)) (fun _ h9 => h9) dX2_tokenOf_1 e3 ?_
  refine lv_iload_n hx hb dX2_tokenOf_4 rfl (lv_at hl 1 rfl) ?_
  obtain ⟨ek4, hf⟩ := oc hf
  obtain ⟨r5, e6, hf⟩ := ob hf
  refine r_callVi (As := [.int p1]) ⟨hx, hb, hml, hown, hts⟩ (c_X5_get l D S a2 p1 r5 e6) (cwV 1 hts (gwV gw_10_23 gw_2_13 gw_2_14 gw_1_5 gw_2_9) rfl rfl rfl (by decide +kernel) ⟨Nat.le_of_ble_eq_true rfl, Nat.le_of_ble_eq_true rfl⟩) hH hNE 8 ek4 (by decide) rfl rfl rfl hl.1 rfl (Nat.le_of_ble_eq_true rfl) dX2_tokenOf_5 ⟨(Nat.le_of_ble_eq_true rfl), (Nat.le_of_ble_eq_true rfl)⟩ (fun H locs hH => ?_)
  have hr9 := Option.some.inj hf
  subst hr9
  exact e_i hx hb hr hlocks hH dX2_tokenOf_8
set_option maxRecDepth 100000 in
def f_X8_write_b12 (a0 : Nat) (b3 : Nat) (p1 : Int32) (x9 : Int32) (S10 : PS) : Option ((Int32 × PS) ⊕ ((PS))) := if kK S10 a0 = 12 then ((kQ S10 a0 2).bind fun a16 => if kK S10 a16 = 9 then ((f_X5_get S10 a16 p1).bind fun r19 => if r19 ≤ x9 then (some (.inr S10)) else ((kQ S10 a0 0).bind fun a22 => if kK S10 a22 = 9 then ((f_X5_get S10 a22 x9).bind fun r25 => if kK S10 b3 = 9 then ((f_X5_add S10 b3 r25).bind fun r28 => lt (x9 + 1) fun x30 => some (.inl (x30, r28))) else none) else none)) else none) else none
set_option maxRecDepth 100000 in
def f_X8_write (S : PS) (a0 : Nat) (p1 : Int32) (p2 : Int32) (b3 : Nat) : Option (PS) := if kK S a0 = 12 then ((kQ S a0 1).bind fun a2 => if kK S a2 = 9 then ((f_X5_get S a2 p1).bind fun r5 => lt (r5 + p2) fun x7 => lt (fun (S11 : PS) => some S11) fun k12 => (iter (fun (v : Int32 × PS) => f_X8_write_b12 a0 b3 p1 v.1 v.2) kF (x7, S)).bind (fun (v : PS) => k12 v)) else none) else none
abbrev rmX8_write : Room := { frames := 1, cells := 0, slots := 0, locals := 21 }
set_option maxHeartbeats 4000000 in
set_option maxRecDepth 100000 in
theorem c_X8_write (l : Launch) (D : va_G × Nat) (S : PS) (a0 : Nat) (p1 : Int32) (p2 : Int32) (b3 : Nat) (r : PS) (hf : f_X8_write S a0 p1 p2 b3 = some r) : MV l D yX8_write wsX8_write rmX8_write S [.ref a0, .int p1, .int p2, .ref b3] r 0 0 := by
  unfold f_X8_write at hf
  refine Met.ofW (cc := cX8_write) (maxL := 5) (ret := none) (by decide) rfl ?_
  intro p e s m args below meth c s₁ B hml hv
  obtain ⟨rfl, hH0, hNE⟩ := hv
  have hx := B.exec
  have hb := B.bytes
  have hr := B.returns
  have hts := atoms_spec (ws := wsX8_write) B.pre
  have hown : s.vm.findClass RX8 = some m.cls := findClass_of_methodNamed B.named
  have hlocks := B.notSynchronized
  have hH : HI D S S s s.heap [] := HI.start hH0
  have hl := lv_entry ([.ref a0, .int p1, .int p2, .ref b3]) (n := 5) (Nat.le_of_ble_eq_true rfl)
  rw [lg_entry_eq]
  generalize (lg_sl ([.ref a0, .int p1, .int p2, .ref b3]) ++ List.replicate (5 - (lg_sl ([.ref a0, .int p1, .int p2, .ref b3])).length) Slot.unset).toArray = ls at hl ⊢
  have hl : lv_has ls 5 [(0, .ref a0), (1, .int p1), (2, .int p2), (3, .ref b3)] := hl
  refine lv_aload_n hx hb dX8_write_0 rfl (lv_at hl 0 rfl) ?_
  obtain ⟨ek1, hf⟩ := oc hf
  obtain ⟨a2, e3, hf⟩ := ob hf
  refine r_getQ hx hb 11 hts (fun w h => List.mem_cons_of_mem _ (mwsX80 w h)) hown hH ek1 (by decide) rfl 1 (by decide) rfl (hts (.fieldLink RX8 20 "Housestyle$Tokens" "froms" "LHousestyle$Row;") (List.mem_cons_of_mem _ gw_1_13)) (fun _ h9 => h9) dX8_write_1 e3 ?_
  refine lv_iload_n hx hb dX8_write_4 rfl (lv_at hl 1 rfl) ?_
  obtain ⟨ek4, hf⟩ := oc hf
  obtain ⟨r5, e6, hf⟩ := ob hf
  refine r_callVi (As := [.int p1]) ⟨hx, hb, hml, hown, hts⟩ (c_X5_get l D S a2 p1 r5 e6) (cwV 1 hts (gwV gw_2_12 gw_2_13 gw_2_14 gw_1_5 gw_2_9) rfl rfl rfl (by decide +kernel) ⟨Nat.le_of_ble_eq_true rfl, Nat.le_of_ble_eq_true rfl⟩) hH hNE 8 ek4 (by decide) rfl rfl rfl hl.1 rfl (Nat.le_of_ble_eq_true rfl) dX8_write_5 ⟨(Nat.le_of_ble_eq_true rfl), (Nat.le_of_ble_eq_true rfl)⟩ (fun H locs hH => ?_)
  refine lv_iload_n hx hb dX8_write_8 rfl (lv_at hl 2 rfl) ?_
  refine lv_iadd hx hb dX8_write_9 ?_
  obtain ⟨x7, e8, hf⟩ := ol hf
  refine lv_topE e8 ?_
  refine lv_istore (lv' := [(4, .int x7), (0, .ref a0), (1, .int p1), (2, .int p2), (3, .ref b3)]) hx hb dX8_write_10 hl (by decide) rfl (fun ls hl => ?_)
  obtain ⟨k12, e13, hf⟩ := ol hf
  have Xk12 : ∀ (S11 : PS) (H : Heap) (locs : List Loc) (ls : Array Slot), HI D S S11 s H locs → lv_has ls 5 [] → k12 S11 = some r → GV p l e (headSpec wsX8_write rmX8_write).room s m ([.ref a0, .int p1, .int p2, .ref b3] : List Value).toArray below meth c D S r H locs 0 0 0 0 (F0 m 44 ls []) := by
    intro S11 H locs ls hH hl hf
    rw [← e13] at hf
    have hr9 := Option.some.inj hf
    subst hr9
    exact e_v hx hb hr hlocks hH dX8_write_44
  obtain ⟨o14, eo14, hq14f⟩ := ob hf
  have Lo14 : ∀ (n : Nat) (x9 : Int32) (S10 : PS), iter (fun (v : Int32 × PS) => f_X8_write_b12 a0 b3 p1 v.1 v.2) n (x9, S10) = some o14 → ∀ (H : Heap) (locs : List Loc) (ls : Array Slot), HI D S S10 s H locs → lv_has ls 5 [(0, .ref a0), (1, .int p1), (3, .ref b3), (4, .int x9)] → GV p l e (headSpec wsX8_write rmX8_write).room s m ([.ref a0, .int p1, .int p2, .ref b3] : List Value).toArray below meth c D S r H locs 0 0 0 0 (F0 m 12 ls []) := by
    intro n
    induction n with
    | zero => intro x9 S10 hi; cases hi
    | succ n ih14 =>
      intro x9 S10 hi H locs ls hH hl
      obtain ⟨q14_, hf, hq14⟩ := iter_s hi
      have hf : f_X8_write_b12 a0 b3 p1 x9 S10 = some q14_ := hf
      unfold f_X8_write_b12 at hf
      refine lv_iload hx hb dX8_write_12 (lv_at hl 3 rfl) ?_
      refine lv_aload_n hx hb dX8_write_14 rfl (lv_at hl 0 rfl) ?_
      obtain ⟨ek15, hf⟩ := oc hf
      obtain ⟨a16, e17, hf⟩ := ob hf
      refine r_getQ hx hb 11 hts (fun w h => List.mem_cons_of_mem _ (mwsX80 w h)) hown hH ek15 (by decide) rfl 2 (by decide) rfl (hts (.fieldLink RX8 23 "Housestyle$Tokens" "ends" "LHousestyle$Row;") (List.mem_cons_of_mem _ gw_2_18)) (fun _ h9 => h9) dX8_write_15 e17 ?_
      refine lv_iload_n hx hb dX8_write_18 rfl (lv_at hl 1 rfl) ?_
      obtain ⟨ek18, hf⟩ := oc hf
      obtain ⟨r19, e20, hf⟩ := ob hf
      refine r_callVi (As := [.int p1]) ⟨hx, hb, hml, hown, hts⟩ (c_X5_get l D S10 a16 p1 r19 e20) (cwV 1 hts (gwV gw_2_12 gw_2_13 gw_2_14 gw_1_5 gw_2_9) rfl rfl rfl (by decide +kernel) ⟨Nat.le_of_ble_eq_true rfl, Nat.le_of_ble_eq_true rfl⟩) hH hNE 8 ek18 (by decide) rfl rfl rfl hl.1 rfl (Nat.le_of_ble_eq_true rfl) dX8_write_19 ⟨(Nat.le_of_ble_eq_true rfl), (Nat.le_of_ble_eq_true rfl)⟩ (fun H locs hH => ?_)
      refine lv_icmp_ge (tgt := 44) hx hb dX8_write_22 (by decide) (fun c21 => ?_) (fun c21 => ?_)
      · have hf := ip hf c21
        cases hf
        have hf9 := itR (K := (fun (v : PS) => k12 v)) hq14 hq14f
        exact Xk12 S10 _ _ ls hH (lv_sub hl [] rfl) hf9
      · have hf := iq hf c21
        refine lv_aload_n hx hb dX8_write_25 rfl (lv_at hl 2 rfl) ?_
        refine lv_aload_n hx hb dX8_write_26 rfl (lv_at hl 0 rfl) ?_
        obtain ⟨a22, e23, hf⟩ := ob hf
        refine r_getQ hx hb 11 hts (fun w h => List.mem_cons_of_mem _ (mwsX80 w h)) hown hH ek15 (by decide) rfl 0 (by decide) rfl (hts (.fieldLink RX8 9 "Housestyle$Tokens" "signs" "LHousestyle$Row;") (List.mem_cons_of_mem _ gw_2_19)) (fun _ h9 => h9) dX8_write_27 e23 ?_
        refine lv_iload hx hb dX8_write_30 (lv_at hl 3 rfl) ?_
        obtain ⟨ek24, hf⟩ := oc hf
        obtain ⟨r25, e26, hf⟩ := ob hf
        refine r_callVi (As := [.int x9]) ⟨hx, hb, hml, hown, hts⟩ (c_X5_get l D S10 a22 x9 r25 e26) (cwV 1 hts (gwV gw_2_12 gw_2_13 gw_2_14 gw_1_5 gw_2_9) rfl rfl rfl (by decide +kernel) ⟨Nat.le_of_ble_eq_true rfl, Nat.le_of_ble_eq_true rfl⟩) hH hNE 8 ek24 (by decide) rfl rfl rfl hl.1 rfl (Nat.le_of_ble_eq_true rfl) dX8_write_32 ⟨(Nat.le_of_ble_eq_true rfl), (Nat.le_of_ble_eq_true rfl)⟩ (fun H locs hH => ?_)
        obtain ⟨ek27, hf⟩ := oc hf
        obtain ⟨r28, e29, hf⟩ := ob hf
        refine r_callVv (As := [.int r25]) ⟨hx, hb, hml, hown, hts⟩ (c_X5_add l D S10 b3 r25 r28 e29) (cwV 1 hts (gwV gw_7_13 gw_7_14 gw_7_15 gw_1_5 gw_7_11) rfl rfl rfl (by decide +kernel) ⟨Nat.le_of_ble_eq_true rfl, Nat.le_of_ble_eq_true rfl⟩) hH hNE 8 ek27 (by decide) rfl rfl rfl hl.1 rfl (Nat.le_of_ble_eq_true rfl) dX8_write_35 ⟨(Nat.le_of_ble_eq_true rfl), (Nat.le_of_ble_eq_true rfl)⟩ (fun H locs hH => ?_)
        obtain ⟨x30, e31, hf⟩ := ol hf
        refine lv_iinc (v := x30) (lv' := [(4, .int x30), (0, .ref a0), (1, .int p1), (3, .ref b3)]) hx hb dX8_write_38 hl (k := 3) rfl (by rw [← e31]; rfl) (by decide) rfl (fun ls hl => ?_)
        refine lv_goto (tgt := 12) hx hb dX8_write_41 (by decide) ?_
        cases hf
        exact ih14 x30 r28 hq14 _ _ ls hH (lv_sub hl [1, 2, 3, 0] rfl)
  exact Lo14 kF x7 S eo14 _ _ ls hH (lv_sub hl [1, 2, 4, 0] rfl)
set_option maxRecDepth 100000 in
def f_X6_writeTaken_b3 (a0 : Nat) (S : PS) (x1 : Int32) : Option ((Int32) ⊕ ((Unit) ⊕ (Int32 × Nat))) := if kK S a0 = 10 then ((kQ S a0 0).bind fun a20 => if kK S a20 = 3 then ((f_Jx4a65c_size_8abf5 S a20).bind fun r23 => if r23 ≤ x1 then (some (.inr (.inl ()))) else ((f_Jx4a65c_get_915e3 S a20 x1).bind fun r26 => if kK S r26 = 7 then (if (kI S r26 1) = 0 then (lt (x1 + 1) fun x30 => some (.inl x30)) else (some (.inr (.inr (x1, r26))))) else none)) else none) else none
set_option maxRecDepth 100000 in
def f_X6_writeTaken (S : PS) (a0 : Nat) (b1 : Nat) (p2 : Int32) (b3 : Nat) : Option (PS) := lt (fun (u4 : Unit) => some S) fun k2 => lt (fun (x5 : Int32) (a6 : Nat) => if kK S a6 = 7 then ((kQ S a6 2).bind fun a10 => if kK S a10 = 9 then ((f_X5_count S a10).bind fun r13 => if kK S b1 = 12 then ((f_X8_write S b1 (p2 + x5) r13 b3).bind fun r16 => some r16) else none) else none) else none) fun k7 => (iter (fun (v : Int32) => f_X6_writeTaken_b3 a0 S v) kF 0).bind (fun (z : (Unit) ⊕ (Int32 × Nat)) => Sum.elim (fun (v : Unit) => k2 v) (fun (v : Int32 × Nat) => k7 v.1 v.2) z)
abbrev rmX6_writeTaken : Room := { frames := 3, cells := 0, slots := 0, locals := 64 }
set_option maxHeartbeats 4000000 in
set_option maxRecDepth 100000 in
theorem c_X6_writeTaken (l : Launch) (D : va_G × Nat) (S : PS) (a0 : Nat) (b1 : Nat) (p2 : Int32) (b3 : Nat) (r : PS) (hf : f_X6_writeTaken S a0 b1 p2 b3 = some r) : MV l D yX6_writeTaken wsX6_writeTaken rmX6_writeTaken S [.ref a0, .ref b1, .int p2, .ref b3] r 0 0 := by
  unfold f_X6_writeTaken at hf
  refine Met.ofW (cc := cX6_writeTaken) (maxL := 6) (ret := none) (by decide) rfl ?_
  intro p e s m args below meth c s₁ B hml hv
  obtain ⟨rfl, hH0, hNE⟩ := hv
  have hx := B.exec
  have hb := B.bytes
  have hr := B.returns
  have hts := atoms_spec (ws := wsX6_writeTaken) B.pre
  have hown : s.vm.findClass RX6 = some m.cls := findClass_of_methodNamed B.named
  have hlocks := B.notSynchronized
  have hH : HI D S S s s.heap [] := HI.start hH0
  have hl := lv_entry ([.ref a0, .ref b1, .int p2, .ref b3]) (n := 6) (Nat.le_of_ble_eq_true rfl)
  rw [lg_entry_eq]
  generalize (lg_sl ([.ref a0, .ref b1, .int p2, .ref b3]) ++ List.replicate (6 - (lg_sl ([.ref a0, .ref b1, .int p2, .ref b3])).length) Slot.unset).toArray = ls at hl ⊢
  have hl : lv_has ls 6 [(0, .ref a0), (1, .ref b1), (2, .int p2), (3, .ref b3)] := hl
  refine lv_iconst (v := 0) hx hb dX6_writeTaken_0 (by decide) ?_
  refine lv_istore (lv' := [(4, .int 0), (0, .ref a0), (1, .ref b1), (2, .int p2), (3, .ref b3)]) hx hb dX6_writeTaken_1 hl (by decide) rfl (fun ls hl => ?_)
  obtain ⟨k2, e3, hf⟩ := ol hf
  have Xk2 : ∀ (u4 : Unit) (H : Heap) (locs : List Loc) (ls : Array Slot), HI D S S s H locs → lv_has ls 6 [] → k2 u4 = some r → GV p l e (headSpec wsX6_writeTaken rmX6_writeTaken).room s m ([.ref a0, .ref b1, .int p2, .ref b3] : List Value).toArray below meth c D S r H locs 0 0 0 0 (F0 m 61 ls []) := by
    intro u4 H locs ls hH hl hf
    rw [← e3] at hf
    have hr9 := Option.some.inj hf
    subst hr9
    exact e_v hx hb hr hlocks hH dX6_writeTaken_61
  obtain ⟨k7, e8, hf⟩ := ol hf
  have Xk7 : ∀ (x5 : Int32) (a6 : Nat) (H : Heap) (locs : List Loc) (ls : Array Slot), HI D S S s H locs → lv_has ls 6 [(1, .ref b1), (2, .int p2), (3, .ref b3), (4, .int x5), (5, .ref a6)] → k7 x5 a6 = some r → GV p l e (headSpec wsX6_writeTaken rmX6_writeTaken).room s m ([.ref a0, .ref b1, .int p2, .ref b3] : List Value).toArray below meth c D S r H locs 0 0 0 0 (F0 m 37 ls []) := by
    intro x5 a6 H locs ls hH hl hf
    rw [← e8] at hf
    refine lv_aload_n hx hb dX6_writeTaken_37 rfl (lv_at hl 0 rfl) ?_
    refine lv_iload_n hx hb dX6_writeTaken_38 rfl (lv_at hl 1 rfl) ?_
    refine lv_iload hx hb dX6_writeTaken_39 (lv_at hl 3 rfl) ?_
    refine lv_iadd hx hb dX6_writeTaken_41 ?_
    refine lv_aload hx hb dX6_writeTaken_42 (lv_at hl 4 rfl) ?_
    obtain ⟨ek9, hf⟩ := oc hf
    obtain ⟨a10, e11, hf⟩ := ob hf
    refine r_getQN hx hb 6 hts (fun w h => List.mem_cons_of_mem _ (mwsX30 w h)) hown hH ek9 (by decide) rfl 2 (by decide) rfl (nf_20 hNE) (fun _ h9 => h9) dX6_writeTaken_44 e11 ?_
    obtain ⟨ek12, hf⟩ := oc hf
    obtain ⟨r13, e14, hf⟩ := ob hf
    refine r_callVi (As := []) ⟨hx, hb, hml, hown, hts⟩ (c_X5_count l D S a10 r13 e14) (cwV 0 hts (gwV gw_7_17 gw_1_15 gw_1_16 gw_1_5 gw_1_11) rfl rfl rfl (by decide +kernel) ⟨Nat.le_of_ble_eq_true rfl, Nat.le_of_ble_eq_true rfl⟩) hH hNE 8 ek12 (by decide) rfl rfl rfl hl.1 rfl (Nat.le_of_ble_eq_true rfl) dX6_writeTaken_47 ⟨(Nat.le_of_ble_eq_true rfl), (Nat.le_of_ble_eq_true rfl)⟩ (fun H locs hH => ?_)
    refine lv_aload_n hx hb dX6_writeTaken_50 rfl (lv_at hl 2 rfl) ?_
    obtain ⟨ek15, hf⟩ := oc hf
    obtain ⟨r16, e17, hf⟩ := ob hf
    refine r_callVv (As := [.int (p2 + x5), .int r13, .ref b3]) ⟨hx, hb, hml, hown, hts⟩ (c_X8_write l D S b1 (p2 + x5) r13 b3 r16 e17) (cwV 3 hts (gwV gw_7_18 gw_7_19 gw_7_20 gw_2_23 gw_7_12) rfl rfl rfl (by decide +kernel) ⟨Nat.le_of_ble_eq_true rfl, Nat.le_of_ble_eq_true rfl⟩) hH hNE 11 ek15 (by decide) rfl rfl rfl hl.1 rfl (Nat.le_of_ble_eq_true rfl) dX6_writeTaken_51 ⟨(Nat.le_of_ble_eq_true rfl), (Nat.le_of_ble_eq_true rfl)⟩ (fun H locs hH => ?_)
    have hr9 := Option.some.inj hf
    subst hr9
    exact e_v hx hb hr hlocks hH dX6_writeTaken_54
  obtain ⟨o18, eo18, hq18f⟩ := ob hf
  have Lo18 : ∀ (n : Nat) (x1 : Int32), iter (fun (v : Int32) => f_X6_writeTaken_b3 a0 S v) n x1 = some o18 → ∀ (H : Heap) (locs : List Loc) (ls : Array Slot), HI D S S s H locs → lv_has ls 6 [(0, .ref a0), (1, .ref b1), (2, .int p2), (3, .ref b3), (4, .int x1)] → GV p l e (headSpec wsX6_writeTaken rmX6_writeTaken).room s m ([.ref a0, .ref b1, .int p2, .ref b3] : List Value).toArray below meth c D S r H locs 0 0 0 0 (F0 m 3 ls []) := by
    intro n
    induction n with
    | zero => intro x1 hi; cases hi
    | succ n ih18 =>
      intro x1 hi H locs ls hH hl
      obtain ⟨q18_, hf, hq18⟩ := iter_s hi
      have hf : f_X6_writeTaken_b3 a0 S x1 = some q18_ := hf
      unfold f_X6_writeTaken_b3 at hf
      refine lv_iload hx hb dX6_writeTaken_3 (lv_at hl 4 rfl) ?_
      refine lv_aload_n hx hb dX6_writeTaken_5 rfl (lv_at hl 0 rfl) ?_
      obtain ⟨ek19, hf⟩ := oc hf
      obtain ⟨a20, e21, hf⟩ := ob hf
      refine r_getQ hx hb 9 hts (fun w h => List.mem_cons_of_mem _ (mwsX60 w h)) hown hH ek19 (by decide) rfl 0 (by decide) rfl (hts (.fieldLink RX6 12 "Housestyle$Rule" "items" "Ljava/util/ArrayList;") (List.mem_cons_of_mem _ gw_4_21)) (fun _ h9 => h9) dX6_writeTaken_6 e21 ?_
      obtain ⟨ek22, hf⟩ := oc hf
      obtain ⟨r23, e24, hf⟩ := ob hf
      refine r_callVi (As := []) ⟨hx, hb, hml, hown, hts⟩ (c_Jx4a65c_size_8abf5 l D S a20 r23 e24) (cwV 0 hts (gwV gw_4_9 gw_4_10 gw_4_11 gw_1_0 gw_1_18) rfl rfl rfl (by decide +kernel) ⟨Nat.le_of_ble_eq_true rfl, Nat.le_of_ble_eq_true rfl⟩) hH hNE 2 ek22 (by decide) rfl rfl rfl hl.1 rfl (Nat.le_of_ble_eq_true rfl) dX6_writeTaken_9 ⟨(Nat.le_of_ble_eq_true rfl), (Nat.le_of_ble_eq_true rfl)⟩ (fun H locs hH => ?_)
      refine lv_icmp_ge (tgt := 61) hx hb dX6_writeTaken_12 (by decide) (fun c25 => ?_) (fun c25 => ?_)
      · have hf := ip hf c25
        cases hf
        have hf9 := itR (K := (fun (z : (Unit) ⊕ (Int32 × Nat)) => Sum.elim (fun (v : Unit) => k2 v) (fun (v : Int32 × Nat) => k7 v.1 v.2) z)) hq18 hq18f
        exact Xk2 () _ _ ls hH (lv_sub hl [] rfl) hf9
      · have hf := iq hf c25
        refine lv_aload_n hx hb dX6_writeTaken_15 rfl (lv_at hl 0 rfl) ?_
        refine r_getQ hx hb 9 hts (fun w h => List.mem_cons_of_mem _ (mwsX60 w h)) hown hH ek19 (by decide) rfl 0 (by decide) rfl (hts (.fieldLink RX6 12 "Housestyle$Rule" "items" "Ljava/util/ArrayList;") (List.mem_cons_of_mem _ gw_4_21)) (fun _ h9 => h9) dX6_writeTaken_16 e21 ?_
        refine lv_iload hx hb dX6_writeTaken_19 (lv_at hl 4 rfl) ?_
        obtain ⟨r26, e27, hf⟩ := ob hf
        refine r_callVr (As := [.int x1]) ⟨hx, hb, hml, hown, hts⟩ (c_Jx4a65c_get_915e3 l D S a20 x1 r26 e27) (cwV 1 hts (gwV gw_4_12 gw_4_13 gw_4_14 gw_1_0 gw_2_2) rfl rfl rfl (by decide +kernel) ⟨Nat.le_of_ble_eq_true rfl, Nat.le_of_ble_eq_true rfl⟩) hH hNE 2 ek22 (by decide) rfl rfl rfl hl.1 rfl (Nat.le_of_ble_eq_true rfl) dX6_writeTaken_21 ⟨(Nat.le_of_ble_eq_true rfl), (Nat.le_of_ble_eq_true rfl)⟩ (fun H locs hH => ?_)
        obtain ⟨ek28, hf⟩ := oc hf
        refine r_castS 6 hx hb hown (hts (.classLink RX6 28 "Housestyle$Item") (List.mem_cons_of_mem _ gw_4_22)) hH ek28 (by decide) rfl rfl dX6_writeTaken_24 ?_
        refine lv_astore (lv' := [(5, .ref r26), (0, .ref a0), (1, .ref b1), (2, .int p2), (3, .ref b3), (4, .int x1)]) hx hb dX6_writeTaken_27 hl (by decide) rfl (fun ls hl => ?_)
        refine lv_aload hx hb dX6_writeTaken_29 (lv_at hl 0 rfl) ?_
        refine r_getIN hx hb 6 hts (fun w h => List.mem_cons_of_mem _ (mwsX30 w h)) hown hH ek28 (by decide) rfl 1 (by decide) rfl (nf_19 hNE) (fun _ h9 => h9) dX6_writeTaken_31 ?_
        refine lv_if_eq (tgt := 55) hx hb dX6_writeTaken_34 (by decide) (fun c29 => ?_) (fun c29 => ?_)
        · have hf := ip hf c29
          obtain ⟨x30, e31, hf⟩ := ol hf
          refine lv_iinc (v := x30) (lv' := [(4, .int x30), (5, .ref r26), (0, .ref a0), (1, .ref b1), (2, .int p2), (3, .ref b3)]) hx hb dX6_writeTaken_55 hl (k := 5) rfl (by rw [← e31]; rfl) (by decide) rfl (fun ls hl => ?_)
          refine lv_goto (tgt := 3) hx hb dX6_writeTaken_58 (by decide) ?_
          cases hf
          exact ih18 x30 hq18 _ _ ls hH (lv_sub hl [2, 3, 4, 5, 0] rfl)
        · have hf := iq hf c29
          cases hf
          have hf9 := itR (K := (fun (z : (Unit) ⊕ (Int32 × Nat)) => Sum.elim (fun (v : Unit) => k2 v) (fun (v : Int32 × Nat) => k7 v.1 v.2) z)) hq18 hq18f
          exact Xk7 x1 r26 _ _ ls hH (lv_sub hl [2, 3, 4, 5, 0] rfl) hf9
  exact Lo18 kF 0 eo18 _ _ ls hH (lv_sub hl [1, 2, 3, 4, 0] rfl)
set_option maxRecDepth 100000 in
def f_X6_writeSuggestion_b32 (a0 : Nat) (b1 : Nat) (b4 : Nat) (p2 : Int32) (r9 : Nat) (x12 : Int32) (S13 : PS) : Option ((Int32 × PS) ⊕ ((PS))) := if kK S13 r9 = 9 then ((f_X5_count S13 r9).bind fun r19 => if r19 ≤ x12 then (some (.inr S13)) else ((f_X5_get S13 r9 x12).bind fun r22 => lt (fun (S24 : PS) => lt (x12 + 1) fun x26 => some (.inl (x26, S24))) fun j25 => if r22 = (42 : Int32) then (if kK S13 a0 = 10 then ((f_X6_writeTaken S13 a0 b1 p2 b4).bind fun r36 => j25 r36) else none) else ((f_X5_get S13 r9 x12).bind fun r30 => if kK S13 b4 = 9 then ((f_X5_add S13 b4 r30).bind fun r33 => j25 r33) else none))) else none
set_option maxRecDepth 100000 in
def f_X6_writeSuggestion (S : PS) (a0 : Nat) (b1 : Nat) (p2 : Int32) (p3 : Int32) (b4 : Nat) : Option (PS) := if p3 < 0 then (some S) else (if kK S a0 = 10 then ((kQ S a0 5).bind fun a3 => if kK S a3 = 3 then ((f_Jx4a65c_size_8abf5 S a3).bind fun r6 => if p3 < r6 then ((f_Jx4a65c_get_915e3 S a3 p3).bind fun r9 => if kK S r9 = 9 then (lt (fun (S14 : PS) => some S14) fun k15 => (iter (fun (v : Int32 × PS) => f_X6_writeSuggestion_b32 a0 b1 b4 p2 r9 v.1 v.2) kF (0, S)).bind (fun (v : PS) => k15 v)) else none) else (some S)) else none) else none)
abbrev rmX6_writeSuggestion : Room := { frames := 4, cells := 0, slots := 0, locals := 89 }
set_option maxHeartbeats 4000000 in
set_option maxRecDepth 100000 in
theorem c_X6_writeSuggestion (l : Launch) (D : va_G × Nat) (S : PS) (a0 : Nat) (b1 : Nat) (p2 : Int32) (p3 : Int32) (b4 : Nat) (r : PS) (hf : f_X6_writeSuggestion S a0 b1 p2 p3 b4 = some r) : MV l D yX6_writeSuggestion wsX6_writeSuggestion rmX6_writeSuggestion S [.ref a0, .ref b1, .int p2, .int p3, .ref b4] r 0 0 := by
  unfold f_X6_writeSuggestion at hf
  refine Met.ofW (cc := cX6_writeSuggestion) (maxL := 7) (ret := none) (by decide) rfl ?_
  intro p e s m args below meth c s₁ B hml hv
  obtain ⟨rfl, hH0, hNE⟩ := hv
  have hx := B.exec
  have hb := B.bytes
  have hr := B.returns
  have hts := atoms_spec (ws := wsX6_writeSuggestion) B.pre
  have hown : s.vm.findClass RX6 = some m.cls := findClass_of_methodNamed B.named
  have hlocks := B.notSynchronized
  have hH : HI D S S s s.heap [] := HI.start hH0
  have hl := lv_entry ([.ref a0, .ref b1, .int p2, .int p3, .ref b4]) (n := 7) (Nat.le_of_ble_eq_true rfl)
  rw [lg_entry_eq]
  generalize (lg_sl ([.ref a0, .ref b1, .int p2, .int p3, .ref b4]) ++ List.replicate (7 - (lg_sl ([.ref a0, .ref b1, .int p2, .int p3, .ref b4])).length) Slot.unset).toArray = ls at hl ⊢
  have hl : lv_has ls 7 [(0, .ref a0), (1, .ref b1), (2, .int p2), (3, .int p3), (4, .ref b4)] := hl
  refine lv_iload_n hx hb dX6_writeSuggestion_0 rfl (lv_at hl 3 rfl) ?_
  refine lv_if_lt (tgt := 15) hx hb dX6_writeSuggestion_1 (by decide) (fun c1 => ?_) (fun c1 => ?_)
  · have hf := ip hf c1
    have hr9 := Option.some.inj hf
    subst hr9
    exact e_v hx hb hr hlocks hH dX6_writeSuggestion_15
  · have hf := iq hf c1
    refine lv_iload_n hx hb dX6_writeSuggestion_4 rfl (lv_at hl 3 rfl) ?_
    refine lv_aload_n hx hb dX6_writeSuggestion_5 rfl (lv_at hl 0 rfl) ?_
    obtain ⟨ek2, hf⟩ := oc hf
    obtain ⟨a3, e4, hf⟩ := ob hf
    refine r_getQ hx hb 9 hts (fun w h => List.mem_cons_of_mem _ (mwsX60 w h)) hown hH ek2 (by decide) rfl 5 (by decide) rfl (hts (.fieldLink RX6 52 "Housestyle$Rule" "suggestions" "Ljava/util/ArrayList;") (List.mem_cons_of_mem _ gw_7_22)) (fun _ h9 => h9) dX6_writeSuggestion_6 e4 ?_
    obtain ⟨ek5, hf⟩ := oc hf
    obtain ⟨r6, e7, hf⟩ := ob hf
    refine r_callVi (As := []) ⟨hx, hb, hml, hown, hts⟩ (c_Jx4a65c_size_8abf5 l D S a3 r6 e7) (cwV 0 hts (gwV gw_4_9 gw_4_10 gw_4_11 gw_1_0 gw_1_18) rfl rfl rfl (by decide +kernel) ⟨Nat.le_of_ble_eq_true rfl, Nat.le_of_ble_eq_true rfl⟩) hH hNE 2 ek5 (by decide) rfl rfl rfl hl.1 rfl (Nat.le_of_ble_eq_true rfl) dX6_writeSuggestion_9 ⟨(Nat.le_of_ble_eq_true rfl), (Nat.le_of_ble_eq_true rfl)⟩ (fun H locs hH => ?_)
    refine lv_icmp_lt (tgt := 16) hx hb dX6_writeSuggestion_12 (by decide) (fun c8 => ?_) (fun c8 => ?_)
    · have hf := ip hf c8
      refine lv_aload_n hx hb dX6_writeSuggestion_16 rfl (lv_at hl 0 rfl) ?_
      refine r_getQ hx hb 9 hts (fun w h => List.mem_cons_of_mem _ (mwsX60 w h)) hown hH ek2 (by decide) rfl 5 (by decide) rfl (hts (.fieldLink RX6 52 "Housestyle$Rule" "suggestions" "Ljava/util/ArrayList;") (List.mem_cons_of_mem _ gw_7_22)) (fun _ h9 => h9) dX6_writeSuggestion_17 e4 ?_
      refine lv_iload_n hx hb dX6_writeSuggestion_20 rfl (lv_at hl 3 rfl) ?_
      obtain ⟨r9, e10, hf⟩ := ob hf
      refine r_callVr (As := [.int p3]) ⟨hx, hb, hml, hown, hts⟩ (c_Jx4a65c_get_915e3 l D S a3 p3 r9 e10) (cwV 1 hts (gwV gw_4_12 gw_4_13 gw_4_14 gw_1_0 gw_2_2) rfl rfl rfl (by decide +kernel) ⟨Nat.le_of_ble_eq_true rfl, Nat.le_of_ble_eq_true rfl⟩) hH hNE 2 ek5 (by decide) rfl rfl rfl hl.1 rfl (Nat.le_of_ble_eq_true rfl) dX6_writeSuggestion_21 ⟨(Nat.le_of_ble_eq_true rfl), (Nat.le_of_ble_eq_true rfl)⟩ (fun H locs hH => ?_)
      obtain ⟨ek11, hf⟩ := oc hf
      refine r_castS 8 hx hb hown (hts (.classLink RX6 19 "Housestyle$Row") (List.mem_cons_of_mem _ gw_4_5)) hH ek11 (by decide) rfl rfl dX6_writeSuggestion_24 ?_
      refine lv_astore (lv' := [(5, .ref r9), (0, .ref a0), (1, .ref b1), (2, .int p2), (3, .int p3), (4, .ref b4)]) hx hb dX6_writeSuggestion_27 hl (by decide) rfl (fun ls hl => ?_)
      refine lv_iconst (v := 0) hx hb dX6_writeSuggestion_29 (by decide) ?_
      refine lv_istore (lv' := [(6, .int 0), (5, .ref r9), (0, .ref a0), (1, .ref b1), (2, .int p2), (3, .int p3), (4, .ref b4)]) hx hb dX6_writeSuggestion_30 hl (by decide) rfl (fun ls hl => ?_)
      obtain ⟨k15, e16, hf⟩ := ol hf
      have Xk15 : ∀ (S14 : PS) (H : Heap) (locs : List Loc) (ls : Array Slot), HI D S S14 s H locs → lv_has ls 7 [] → k15 S14 = some r → GV p l e (headSpec wsX6_writeSuggestion rmX6_writeSuggestion).room s m ([.ref a0, .ref b1, .int p2, .int p3, .ref b4] : List Value).toArray below meth c D S r H locs 0 0 0 0 (F0 m 83 ls []) := by
        intro S14 H locs ls hH hl hf
        rw [← e16] at hf
        have hr9 := Option.some.inj hf
        subst hr9
        exact e_v hx hb hr hlocks hH dX6_writeSuggestion_83
      obtain ⟨o17, eo17, hq17f⟩ := ob hf
      have Lo17 : ∀ (n : Nat) (x12 : Int32) (S13 : PS), iter (fun (v : Int32 × PS) => f_X6_writeSuggestion_b32 a0 b1 b4 p2 r9 v.1 v.2) n (x12, S13) = some o17 → ∀ (H : Heap) (locs : List Loc) (ls : Array Slot), HI D S S13 s H locs → lv_has ls 7 [(0, .ref a0), (1, .ref b1), (2, .int p2), (4, .ref b4), (5, .ref r9), (6, .int x12)] → GV p l e (headSpec wsX6_writeSuggestion rmX6_writeSuggestion).room s m ([.ref a0, .ref b1, .int p2, .int p3, .ref b4] : List Value).toArray below meth c D S r H locs 0 0 0 0 (F0 m 32 ls []) := by
        intro n
        induction n with
        | zero => intro x12 S13 hi; cases hi
        | succ n ih17 =>
          intro x12 S13 hi H locs ls hH hl
          obtain ⟨q17_, hf, hq17⟩ := iter_s hi
          have hf : f_X6_writeSuggestion_b32 a0 b1 b4 p2 r9 x12 S13 = some q17_ := hf
          unfold f_X6_writeSuggestion_b32 at hf
          refine lv_iload hx hb dX6_writeSuggestion_32 (lv_at hl 5 rfl) ?_
          refine lv_aload hx hb dX6_writeSuggestion_34 (lv_at hl 4 rfl) ?_
          obtain ⟨ek18, hf⟩ := oc hf
          obtain ⟨r19, e20, hf⟩ := ob hf
          refine r_callVi (As := []) ⟨hx, hb, hml, hown, hts⟩ (c_X5_count l D S13 r9 r19 e20) (cwV 0 hts (gwV gw_7_17 gw_1_15 gw_1_16 gw_1_5 gw_1_11) rfl rfl rfl (by decide +kernel) ⟨Nat.le_of_ble_eq_true rfl, Nat.le_of_ble_eq_true rfl⟩) hH hNE 8 ek18 (by decide) rfl rfl rfl hl.1 rfl (Nat.le_of_ble_eq_true rfl) dX6_writeSuggestion_36 ⟨(Nat.le_of_ble_eq_true rfl), (Nat.le_of_ble_eq_true rfl)⟩ (fun H locs hH => ?_)
          refine lv_icmp_ge (tgt := 83) hx hb dX6_writeSuggestion_39 (by decide) (fun c21 => ?_) (fun c21 => ?_)
          · have hf := ip hf c21
            cases hf
            have hf9 := itR (K := (fun (v : PS) => k15 v)) hq17 hq17f
            exact Xk15 S13 _ _ ls hH (lv_sub hl [] rfl) hf9
          · have hf := iq hf c21
            refine lv_aload hx hb dX6_writeSuggestion_42 (lv_at hl 4 rfl) ?_
            refine lv_iload hx hb dX6_writeSuggestion_44 (lv_at hl 5 rfl) ?_
            obtain ⟨r22, e23, hf⟩ := ob hf
            refine r_callVi (As := [.int x12]) ⟨hx, hb, hml, hown, hts⟩ (c_X5_get l D S13 r9 x12 r22 e23) (cwV 1 hts (gwV gw_7_23 gw_2_13 gw_2_14 gw_1_5 gw_2_9) rfl rfl rfl (by decide +kernel) ⟨Nat.le_of_ble_eq_true rfl, Nat.le_of_ble_eq_true rfl⟩) hH hNE 8 ek18 (by decide) rfl rfl rfl hl.1 rfl (Nat.le_of_ble_eq_true rfl) dX6_writeSuggestion_46 ⟨(Nat.le_of_ble_eq_true rfl), (Nat.le_of_ble_eq_true rfl)⟩ (fun H locs hH => ?_)
            refine lv_bipush (v := 42) hx hb dX6_writeSuggestion_49 (by decide) ?_
            obtain ⟨j25, e28, hf⟩ := ol hf
            have Jj25 : ∀ (S24 : PS) (H : Heap) (locs : List Loc) (ls : Array Slot), HI D S S24 s H locs → lv_has ls 7 [(0, .ref a0), (1, .ref b1), (2, .int p2), (4, .ref b4), (5, .ref r9), (6, .int x12)] → j25 S24 = some q17_ → GV p l e (headSpec wsX6_writeSuggestion rmX6_writeSuggestion).room s m ([.ref a0, .ref b1, .int p2, .int p3, .ref b4] : List Value).toArray below meth c D S r H locs 0 0 0 0 (F0 m 77 ls []) := by
              intro S24 H locs ls hH hl hf
              rw [← e28] at hf
              obtain ⟨x26, e27, hf⟩ := ol hf
              refine lv_iinc (v := x26) (lv' := [(6, .int x26), (0, .ref a0), (1, .ref b1), (2, .int p2), (4, .ref b4), (5, .ref r9)]) hx hb dX6_writeSuggestion_77 hl (k := 5) rfl (by rw [← e27]; rfl) (by decide) rfl (fun ls hl => ?_)
              refine lv_goto (tgt := 32) hx hb dX6_writeSuggestion_80 (by decide) ?_
              cases hf
              exact ih17 x26 S24 hq17 _ _ ls hH (lv_sub hl [1, 2, 3, 4, 5, 0] rfl)
            refine lv_icmp_ne (tgt := 65) hx hb dX6_writeSuggestion_51 (by decide) (fun c29 => ?_) (fun c29 => ?_)
            · have hf := iq hf c29
              refine lv_aload hx hb dX6_writeSuggestion_65 (lv_at hl 3 rfl) ?_
              refine lv_aload hx hb dX6_writeSuggestion_67 (lv_at hl 4 rfl) ?_
              refine lv_iload hx hb dX6_writeSuggestion_69 (lv_at hl 5 rfl) ?_
              obtain ⟨r30, e31, hf⟩ := ob hf
              refine r_callVi (As := [.int x12]) ⟨hx, hb, hml, hown, hts⟩ (c_X5_get l D S13 r9 x12 r30 e31) (cwV 1 hts (gwV gw_7_23 gw_2_13 gw_2_14 gw_1_5 gw_2_9) rfl rfl rfl (by decide +kernel) ⟨Nat.le_of_ble_eq_true rfl, Nat.le_of_ble_eq_true rfl⟩) hH hNE 8 ek18 (by decide) rfl rfl rfl hl.1 rfl (Nat.le_of_ble_eq_true rfl) dX6_writeSuggestion_71 ⟨(Nat.le_of_ble_eq_true rfl), (Nat.le_of_ble_eq_true rfl)⟩ (fun H locs hH => ?_)
              obtain ⟨ek32, hf⟩ := oc hf
              obtain ⟨r33, e34, hf⟩ := ob hf
              refine r_callVv (As := [.int r30]) ⟨hx, hb, hml, hown, hts⟩ (c_X5_add l D S13 b4 r30 r33 e34) (cwV 1 hts (gwV gw_8_3 gw_7_14 gw_7_15 gw_1_5 gw_7_11) rfl rfl rfl (by decide +kernel) ⟨Nat.le_of_ble_eq_true rfl, Nat.le_of_ble_eq_true rfl⟩) hH hNE 8 ek32 (by decide) rfl rfl rfl hl.1 rfl (Nat.le_of_ble_eq_true rfl) dX6_writeSuggestion_74 ⟨(Nat.le_of_ble_eq_true rfl), (Nat.le_of_ble_eq_true rfl)⟩ (fun H locs hH => ?_)
              exact Jj25 r33 _ _ ls hH (lv_sub hl [0, 1, 2, 3, 4, 5] rfl) hf
            · have hf := ip hf c29
              refine lv_aload_n hx hb dX6_writeSuggestion_54 rfl (lv_at hl 0 rfl) ?_
              refine lv_aload_n hx hb dX6_writeSuggestion_55 rfl (lv_at hl 1 rfl) ?_
              refine lv_iload_n hx hb dX6_writeSuggestion_56 rfl (lv_at hl 2 rfl) ?_
              refine lv_aload hx hb dX6_writeSuggestion_57 (lv_at hl 3 rfl) ?_
              obtain ⟨ek35, hf⟩ := oc hf
              obtain ⟨r36, e37, hf⟩ := ob hf
              refine r_callVv (As := [.ref b1, .int p2, .ref b4]) ⟨hx, hb, hml, hown, hts⟩ (c_X6_writeTaken l D S13 a0 b1 p2 b4 r36 e37) (cwV 3 hts (gwV gw_8_0 gw_8_1 gw_8_2 gw_5_15 gw_7_16) rfl rfl rfl (by decide +kernel) ⟨Nat.le_of_ble_eq_true rfl, Nat.le_of_ble_eq_true rfl⟩) hH hNE 9 ek35 (by decide) rfl rfl rfl hl.1 rfl (Nat.le_of_ble_eq_true rfl) dX6_writeSuggestion_59 ⟨(Nat.le_of_ble_eq_true rfl), (Nat.le_of_ble_eq_true rfl)⟩ (fun H locs hH => ?_)
              refine lv_goto (tgt := 77) hx hb dX6_writeSuggestion_62 (by decide) ?_
              exact Jj25 r36 _ _ ls hH (lv_sub hl [0, 1, 2, 3, 4, 5] rfl) hf
      exact Lo17 kF 0 S eo17 _ _ ls hH (lv_sub hl [2, 3, 4, 6, 1, 0] rfl)
    · have hf := iq hf c8
      have hr9 := Option.some.inj hf
      subst hr9
      exact e_v hx hb hr hlocks hH dX6_writeSuggestion_15
set_option maxRecDepth 100000 in
def f_X4_unlike (S : PS) (a0 : Nat) (b1 : Nat) (p2 : Int32) : Option (Nat) := if kK S a0 = 8 then ((kQ S a0 0).bind fun a2 => if kK S b1 = 12 then ((f_X8_isThe S b1 a2 p2).bind fun r5 => if r5 = 0 then (some a2) else ((kQ S a0 1).bind fun a8 => some a8)) else none) else none
abbrev rmX4_unlike : Room := { frames := 3, cells := 0, slots := 0, locals := 67 }
set_option maxHeartbeats 4000000 in
set_option maxRecDepth 100000 in
theorem c_X4_unlike (l : Launch) (D : va_G × Nat) (S : PS) (a0 : Nat) (b1 : Nat) (p2 : Int32) (r : Nat) (hf : f_X4_unlike S a0 b1 p2 = some r) : MR l D yX4_unlike wsX4_unlike rmX4_unlike S [.ref a0, .ref b1, .int p2] S r 0 0 := by
  unfold f_X4_unlike at hf
  refine Met.ofW (cc := cX4_unlike) (maxL := 3) (ret := (some (.object "Housestyle$Row"))) (by decide) rfl ?_
  intro p e s m args below meth c s₁ B hml hv
  obtain ⟨rfl, hH0, hNE⟩ := hv
  have hx := B.exec
  have hb := B.bytes
  have hr := B.returns
  have hts := atoms_spec (ws := wsX4_unlike) B.pre
  have hown : s.vm.findClass RX4 = some m.cls := findClass_of_methodNamed B.named
  have hlocks := B.notSynchronized
  have hH : HI D S S s s.heap [] := HI.start hH0
  have hl := lv_entry ([.ref a0, .ref b1, .int p2]) (n := 3) (Nat.le_of_ble_eq_true rfl)
  rw [lg_entry_eq]
  generalize (lg_sl ([.ref a0, .ref b1, .int p2]) ++ List.replicate (3 - (lg_sl ([.ref a0, .ref b1, .int p2])).length) Slot.unset).toArray = ls at hl ⊢
  have hl : lv_has ls 3 [(0, .ref a0), (1, .ref b1), (2, .int p2)] := hl
  refine lv_aload_n hx hb dX4_unlike_0 rfl (lv_at hl 1 rfl) ?_
  refine lv_aload_n hx hb dX4_unlike_1 rfl (lv_at hl 0 rfl) ?_
  obtain ⟨ek1, hf⟩ := oc hf
  obtain ⟨a2, e3, hf⟩ := ob hf
  refine r_getQ hx hb 7 hts (fun w h => List.mem_cons_of_mem _ (mwsX40 w h)) hown hH ek1 (by decide) rfl 0 (by decide) rfl (hts (.fieldLink RX4 7 "Housestyle$Pair" "one" "LHousestyle$Row;") (List.mem_cons_of_mem _ gw_8_5)) (fun _ h9 => h9) dX4_unlike_2 e3 ?_
  refine lv_iload_n hx hb dX4_unlike_5 rfl (lv_at hl 2 rfl) ?_
  obtain ⟨ek4, hf⟩ := oc hf
  obtain ⟨r5, e6, hf⟩ := ob hf
  refine r_callVi (As := [.ref a2, .int p2]) ⟨hx, hb, hml, hown, hts⟩ (c_X8_isThe l D S b1 a2 p2 r5 e6) (cwV 2 hts (gwV gw_8_7 gw_4_16 gw_4_17 gw_2_23 gw_4_0) rfl rfl rfl (by decide +kernel) ⟨Nat.le_of_ble_eq_true rfl, Nat.le_of_ble_eq_true rfl⟩) hH hNE 11 ek4 (by decide) rfl rfl rfl hl.1 rfl (Nat.le_of_ble_eq_true rfl) dX4_unlike_6 ⟨(Nat.le_of_ble_eq_true rfl), (Nat.le_of_ble_eq_true rfl)⟩ (fun H locs hH => ?_)
  refine lv_if_eq (tgt := 19) hx hb dX4_unlike_9 (by decide) (fun c7 => ?_) (fun c7 => ?_)
  · have hf := ip hf c7
    refine lv_aload_n hx hb dX4_unlike_19 rfl (lv_at hl 0 rfl) ?_
    refine r_getQ hx hb 7 hts (fun w h => List.mem_cons_of_mem _ (mwsX40 w h)) hown hH ek1 (by decide) rfl 0 (by decide) rfl (hts (.fieldLink RX4 7 "Housestyle$Pair" "one" "LHousestyle$Row;") (List.mem_cons_of_mem _ gw_8_5)) (fun _ h9 => h9) dX4_unlike_20 e3 ?_
    have hr9 := Option.some.inj hf
    subst hr9
    exact e_r hx hb hr hlocks hH dX4_unlike_23
  · have hf := iq hf c7
    refine lv_aload_n hx hb dX4_unlike_12 rfl (lv_at hl 0 rfl) ?_
    obtain ⟨a8, e9, hf⟩ := ob hf
    refine r_getQ hx hb 7 hts (fun w h => List.mem_cons_of_mem _ (mwsX40 w h)) hown hH ek1 (by decide) rfl 1 (by decide) rfl (hts (.fieldLink RX4 13 "Housestyle$Pair" "other" "LHousestyle$Row;") (List.mem_cons_of_mem _ gw_8_6)) (fun _ h9 => h9) dX4_unlike_13 e9 ?_
    refine lv_goto (tgt := 23) hx hb dX4_unlike_16 (by decide) ?_
    have hr9 := Option.some.inj hf
    subst hr9
    exact e_r hx hb hr hlocks hH dX4_unlike_23
set_option maxRecDepth 100000 in
def f_X0_writeSuggestion_b82 (b5 : Nat) (r13 : Nat) (x15 : Int32) (S16 : PS) : Option ((Int32 × PS) ⊕ ((PS))) := if kK S16 r13 = 9 then ((f_X5_count S16 r13).bind fun r22 => if r22 ≤ x15 then (some (.inr S16)) else ((f_X5_get S16 r13 x15).bind fun r25 => if kK S16 b5 = 9 then ((f_X5_add S16 b5 r25).bind fun r28 => lt (x15 + 1) fun x30 => some (.inl (x30, r28))) else none)) else none
set_option maxRecDepth 100000 in
def f_X0_writeSuggestion (S : PS) (a0 : Nat) (b1 : Nat) (p2 : Int32) (p3 : Int32) (p4 : Int32) (b5 : Nat) : Option (PS) := lt (fun (u32 : Unit) => if p3 < (12 : Int32) then (some S) else (if kK S a0 = 4 then ((kQ S a0 1).bind fun a4 => if kK S a4 = 3 then ((f_Jx4a65c_size_8abf5 S a4).bind fun r7 => if r7 ≤ (p3 - 12) then (some S) else ((f_Jx4a65c_get_915e3 S a4 (p3 - 12)).bind fun r10 => if kK S r10 = 8 then ((f_X4_unlike S r10 b1 p2).bind fun r13 => lt (fun (S17 : PS) => some S17) fun k18 => (iter (fun (v : Int32 × PS) => f_X0_writeSuggestion_b82 b5 r13 v.1 v.2) kF (0, S)).bind (fun (v : PS) => k18 v)) else none)) else none) else none)) fun j1 => if p3 < 0 then (j1 ()) else (if kK S a0 = 4 then ((kQ S a0 0).bind fun a36 => if kK S a36 = 3 then ((f_Jx4a65c_size_8abf5 S a36).bind fun r39 => if r39 ≤ p3 then (j1 ()) else ((f_Jx4a65c_get_915e3 S a36 p3).bind fun r42 => if kK S r42 = 10 then ((f_X6_writeSuggestion S r42 b1 p2 p4 b5).bind fun r45 => some r45) else none)) else none) else none)
abbrev rmX0_writeSuggestion : Room := { frames := 5, cells := 0, slots := 0, locals := 115 }
set_option maxHeartbeats 4000000 in
set_option maxRecDepth 100000 in
theorem c_X0_writeSuggestion (l : Launch) (D : va_G × Nat) (S : PS) (a0 : Nat) (b1 : Nat) (p2 : Int32) (p3 : Int32) (p4 : Int32) (b5 : Nat) (r : PS) (hf : f_X0_writeSuggestion S a0 b1 p2 p3 p4 b5 = some r) : MV l D yX0_writeSuggestion wsX0_writeSuggestion rmX0_writeSuggestion S [.ref a0, .ref b1, .int p2, .int p3, .int p4, .ref b5] r 0 0 := by
  unfold f_X0_writeSuggestion at hf
  refine Met.ofW (cc := cX0_writeSuggestion) (maxL := 8) (ret := none) (by decide) rfl ?_
  intro p e s m args below meth c s₁ B hml hv
  obtain ⟨rfl, hH0, hNE⟩ := hv
  have hx := B.exec
  have hb := B.bytes
  have hr := B.returns
  have hts := atoms_spec (ws := wsX0_writeSuggestion) B.pre
  have hown : s.vm.findClass RX0 = some m.cls := findClass_of_methodNamed B.named
  have hlocks := B.notSynchronized
  have hH : HI D S S s s.heap [] := HI.start hH0
  have hl := lv_entry ([.ref a0, .ref b1, .int p2, .int p3, .int p4, .ref b5]) (n := 8) (Nat.le_of_ble_eq_true rfl)
  rw [lg_entry_eq]
  generalize (lg_sl ([.ref a0, .ref b1, .int p2, .int p3, .int p4, .ref b5]) ++ List.replicate (8 - (lg_sl ([.ref a0, .ref b1, .int p2, .int p3, .int p4, .ref b5])).length) Slot.unset).toArray = ls at hl ⊢
  have hl : lv_has ls 8 [(0, .ref a0), (1, .ref b1), (2, .int p2), (3, .int p3), (4, .int p4), (5, .ref b5)] := hl
  refine lv_iload_n hx hb dX0_writeSuggestion_0 rfl (lv_at hl 3 rfl) ?_
  obtain ⟨j1, e33, hf⟩ := ol hf
  have Jj1 : ∀ (u32 : Unit) (H : Heap) (locs : List Loc) (ls : Array Slot), HI D S S s H locs → lv_has ls 8 [(0, .ref a0), (1, .ref b1), (2, .int p2), (3, .int p3), (5, .ref b5)] → j1 u32 = some r → GV p l e (headSpec wsX0_writeSuggestion rmX0_writeSuggestion).room s m ([.ref a0, .ref b1, .int p2, .int p3, .int p4, .ref b5] : List Value).toArray below meth c D S r H locs 0 0 0 0 (F0 m 38 ls []) := by
    intro u32 H locs ls hH hl hf
    rw [← e33] at hf
    refine lv_iload_n hx hb dX0_writeSuggestion_38 rfl (lv_at hl 3 rfl) ?_
    refine lv_bipush (v := 12) hx hb dX0_writeSuggestion_39 (by decide) ?_
    refine lv_icmp_lt (tgt := 110) hx hb dX0_writeSuggestion_41 (by decide) (fun c2 => ?_) (fun c2 => ?_)
    · have hf := ip hf c2
      have hr9 := Option.some.inj hf
      subst hr9
      exact e_v hx hb hr hlocks hH dX0_writeSuggestion_110
    · have hf := iq hf c2
      refine lv_iload_n hx hb dX0_writeSuggestion_44 rfl (lv_at hl 3 rfl) ?_
      refine lv_bipush (v := 12) hx hb dX0_writeSuggestion_45 (by decide) ?_
      refine lv_isub hx hb dX0_writeSuggestion_47 ?_
      refine lv_aload_n hx hb dX0_writeSuggestion_48 rfl (lv_at hl 0 rfl) ?_
      obtain ⟨ek3, hf⟩ := oc hf
      obtain ⟨a4, e5, hf⟩ := ob hf
      refine r_getQ hx hb 3 hts (fun w h => List.mem_cons_of_mem _ (mwsX00 w h)) hown hH ek3 (by decide) rfl 1 (by decide) rfl (hts (.fieldLink RX0 18 "Housestyle$Book" "pairs" "Ljava/util/ArrayList;") (List.mem_cons_of_mem _ gw_1_2)) (fun _ h9 => h9) dX0_writeSuggestion_49 e5 ?_
      obtain ⟨ek6, hf⟩ := oc hf
      obtain ⟨r7, e8, hf⟩ := ob hf
      refine r_callVi (As := []) ⟨hx, hb, hml, hown, hts⟩ (c_Jx4a65c_size_8abf5 l D S a4 r7 e8) (cwV 0 hts (gwV gw_6_12 gw_4_10 gw_4_11 gw_1_0 gw_1_18) rfl rfl rfl (by decide +kernel) ⟨Nat.le_of_ble_eq_true rfl, Nat.le_of_ble_eq_true rfl⟩) hH hNE 2 ek6 (by decide) rfl rfl rfl hl.1 rfl (Nat.le_of_ble_eq_true rfl) dX0_writeSuggestion_52 ⟨(Nat.le_of_ble_eq_true rfl), (Nat.le_of_ble_eq_true rfl)⟩ (fun H locs hH => ?_)
      refine lv_icmp_ge (tgt := 110) hx hb dX0_writeSuggestion_55 (by decide) (fun c9 => ?_) (fun c9 => ?_)
      · have hf := ip hf c9
        have hr9 := Option.some.inj hf
        subst hr9
        exact e_v hx hb hr hlocks hH dX0_writeSuggestion_110
      · have hf := iq hf c9
        refine lv_aload_n hx hb dX0_writeSuggestion_58 rfl (lv_at hl 0 rfl) ?_
        refine r_getQ hx hb 3 hts (fun w h => List.mem_cons_of_mem _ (mwsX00 w h)) hown hH ek3 (by decide) rfl 1 (by decide) rfl (hts (.fieldLink RX0 18 "Housestyle$Book" "pairs" "Ljava/util/ArrayList;") (List.mem_cons_of_mem _ gw_1_2)) (fun _ h9 => h9) dX0_writeSuggestion_59 e5 ?_
        refine lv_iload_n hx hb dX0_writeSuggestion_62 rfl (lv_at hl 3 rfl) ?_
        refine lv_bipush (v := 12) hx hb dX0_writeSuggestion_63 (by decide) ?_
        refine lv_isub hx hb dX0_writeSuggestion_65 ?_
        obtain ⟨r10, e11, hf⟩ := ob hf
        refine r_callVr (As := [.int (p3 - 12)]) ⟨hx, hb, hml, hown, hts⟩ (c_Jx4a65c_get_915e3 l D S a4 (p3 - 12) r10 e11) (cwV 1 hts (gwV gw_6_13 gw_4_13 gw_4_14 gw_1_0 gw_2_2) rfl rfl rfl (by decide +kernel) ⟨Nat.le_of_ble_eq_true rfl, Nat.le_of_ble_eq_true rfl⟩) hH hNE 2 ek6 (by decide) rfl rfl rfl hl.1 rfl (Nat.le_of_ble_eq_true rfl) dX0_writeSuggestion_66 ⟨(Nat.le_of_ble_eq_true rfl), (Nat.le_of_ble_eq_true rfl)⟩ (fun H locs hH => ?_)
        obtain ⟨ek12, hf⟩ := oc hf
        refine r_castS 7 hx hb hown (hts (.classLink RX0 56 "Housestyle$Pair") (List.mem_cons_of_mem _ gw_6_8)) hH ek12 (by decide) rfl rfl dX0_writeSuggestion_69 ?_
        refine lv_aload_n hx hb dX0_writeSuggestion_72 rfl (lv_at hl 1 rfl) ?_
        refine lv_iload_n hx hb dX0_writeSuggestion_73 rfl (lv_at hl 2 rfl) ?_
        obtain ⟨r13, e14, hf⟩ := ob hf
        refine r_callVr (As := [.ref b1, .int p2]) ⟨hx, hb, hml, hown, hts⟩ (c_X4_unlike l D S r10 b1 p2 r13 e14) (cwV 2 hts (gwV gw_8_12 gw_8_13 gw_8_14 gw_8_15 gw_8_4) rfl rfl rfl (by decide +kernel) ⟨Nat.le_of_ble_eq_true rfl, Nat.le_of_ble_eq_true rfl⟩) hH hNE 7 ek12 (by decide) rfl rfl rfl hl.1 rfl (Nat.le_of_ble_eq_true rfl) dX0_writeSuggestion_74 ⟨(Nat.le_of_ble_eq_true rfl), (Nat.le_of_ble_eq_true rfl)⟩ (fun H locs hH => ?_)
        refine lv_astore (lv' := [(6, .ref r13), (0, .ref a0), (1, .ref b1), (2, .int p2), (3, .int p3), (5, .ref b5)]) hx hb dX0_writeSuggestion_77 hl (by decide) rfl (fun ls hl => ?_)
        refine lv_iconst (v := 0) hx hb dX0_writeSuggestion_79 (by decide) ?_
        refine lv_istore (lv' := [(7, .int 0), (6, .ref r13), (0, .ref a0), (1, .ref b1), (2, .int p2), (3, .int p3), (5, .ref b5)]) hx hb dX0_writeSuggestion_80 hl (by decide) rfl (fun ls hl => ?_)
        obtain ⟨k18, e19, hf⟩ := ol hf
        have Xk18 : ∀ (S17 : PS) (H : Heap) (locs : List Loc) (ls : Array Slot), HI D S S17 s H locs → lv_has ls 8 [] → k18 S17 = some r → GV p l e (headSpec wsX0_writeSuggestion rmX0_writeSuggestion).room s m ([.ref a0, .ref b1, .int p2, .int p3, .int p4, .ref b5] : List Value).toArray below meth c D S r H locs 0 0 0 0 (F0 m 110 ls []) := by
          intro S17 H locs ls hH hl hf
          rw [← e19] at hf
          have hr9 := Option.some.inj hf
          subst hr9
          exact e_v hx hb hr hlocks hH dX0_writeSuggestion_110
        obtain ⟨o20, eo20, hq20f⟩ := ob hf
        have Lo20 : ∀ (n : Nat) (x15 : Int32) (S16 : PS), iter (fun (v : Int32 × PS) => f_X0_writeSuggestion_b82 b5 r13 v.1 v.2) n (x15, S16) = some o20 → ∀ (H : Heap) (locs : List Loc) (ls : Array Slot), HI D S S16 s H locs → lv_has ls 8 [(5, .ref b5), (6, .ref r13), (7, .int x15)] → GV p l e (headSpec wsX0_writeSuggestion rmX0_writeSuggestion).room s m ([.ref a0, .ref b1, .int p2, .int p3, .int p4, .ref b5] : List Value).toArray below meth c D S r H locs 0 0 0 0 (F0 m 82 ls []) := by
          intro n
          induction n with
          | zero => intro x15 S16 hi; cases hi
          | succ n ih20 =>
            intro x15 S16 hi H locs ls hH hl
            obtain ⟨q20_, hf, hq20⟩ := iter_s hi
            have hf : f_X0_writeSuggestion_b82 b5 r13 x15 S16 = some q20_ := hf
            unfold f_X0_writeSuggestion_b82 at hf
            refine lv_iload hx hb dX0_writeSuggestion_82 (lv_at hl 2 rfl) ?_
            refine lv_aload hx hb dX0_writeSuggestion_84 (lv_at hl 1 rfl) ?_
            obtain ⟨ek21, hf⟩ := oc hf
            obtain ⟨r22, e23, hf⟩ := ob hf
            refine r_callVi (As := []) ⟨hx, hb, hml, hown, hts⟩ (c_X5_count l D S16 r13 r22 e23) (cwV 0 hts (gwV gw_8_16 gw_1_15 gw_1_16 gw_1_5 gw_1_11) rfl rfl rfl (by decide +kernel) ⟨Nat.le_of_ble_eq_true rfl, Nat.le_of_ble_eq_true rfl⟩) hH hNE 8 ek21 (by decide) rfl rfl rfl hl.1 rfl (Nat.le_of_ble_eq_true rfl) dX0_writeSuggestion_86 ⟨(Nat.le_of_ble_eq_true rfl), (Nat.le_of_ble_eq_true rfl)⟩ (fun H locs hH => ?_)
            refine lv_icmp_ge (tgt := 110) hx hb dX0_writeSuggestion_89 (by decide) (fun c24 => ?_) (fun c24 => ?_)
            · have hf := ip hf c24
              cases hf
              have hf9 := itR (K := (fun (v : PS) => k18 v)) hq20 hq20f
              exact Xk18 S16 _ _ ls hH (lv_sub hl [] rfl) hf9
            · have hf := iq hf c24
              refine lv_aload hx hb dX0_writeSuggestion_92 (lv_at hl 0 rfl) ?_
              refine lv_aload hx hb dX0_writeSuggestion_94 (lv_at hl 1 rfl) ?_
              refine lv_iload hx hb dX0_writeSuggestion_96 (lv_at hl 2 rfl) ?_
              obtain ⟨r25, e26, hf⟩ := ob hf
              refine r_callVi (As := [.int x15]) ⟨hx, hb, hml, hown, hts⟩ (c_X5_get l D S16 r13 x15 r25 e26) (cwV 1 hts (gwV gw_5_18 gw_2_13 gw_2_14 gw_1_5 gw_2_9) rfl rfl rfl (by decide +kernel) ⟨Nat.le_of_ble_eq_true rfl, Nat.le_of_ble_eq_true rfl⟩) hH hNE 8 ek21 (by decide) rfl rfl rfl hl.1 rfl (Nat.le_of_ble_eq_true rfl) dX0_writeSuggestion_98 ⟨(Nat.le_of_ble_eq_true rfl), (Nat.le_of_ble_eq_true rfl)⟩ (fun H locs hH => ?_)
              obtain ⟨ek27, hf⟩ := oc hf
              obtain ⟨r28, e29, hf⟩ := ob hf
              refine r_callVv (As := [.int r25]) ⟨hx, hb, hml, hown, hts⟩ (c_X5_add l D S16 b5 r25 r28 e29) (cwV 1 hts (gwV gw_8_17 gw_7_14 gw_7_15 gw_1_5 gw_7_11) rfl rfl rfl (by decide +kernel) ⟨Nat.le_of_ble_eq_true rfl, Nat.le_of_ble_eq_true rfl⟩) hH hNE 8 ek27 (by decide) rfl rfl rfl hl.1 rfl (Nat.le_of_ble_eq_true rfl) dX0_writeSuggestion_101 ⟨(Nat.le_of_ble_eq_true rfl), (Nat.le_of_ble_eq_true rfl)⟩ (fun H locs hH => ?_)
              obtain ⟨x30, e31, hf⟩ := ol hf
              refine lv_iinc (v := x30) (lv' := [(7, .int x30), (5, .ref b5), (6, .ref r13)]) hx hb dX0_writeSuggestion_104 hl (k := 2) rfl (by rw [← e31]; rfl) (by decide) rfl (fun ls hl => ?_)
              refine lv_goto (tgt := 82) hx hb dX0_writeSuggestion_107 (by decide) ?_
              cases hf
              exact ih20 x30 r28 hq20 _ _ ls hH (lv_sub hl [1, 2, 0] rfl)
        exact Lo20 kF 0 S eo20 _ _ ls hH (lv_sub hl [6, 1, 0] rfl)
  refine lv_if_lt (tgt := 38) hx hb dX0_writeSuggestion_1 (by decide) (fun c34 => ?_) (fun c34 => ?_)
  · have hf := ip hf c34
    exact Jj1 () _ _ ls hH (lv_sub hl [0, 1, 2, 3, 5] rfl) hf
  · have hf := iq hf c34
    refine lv_iload_n hx hb dX0_writeSuggestion_4 rfl (lv_at hl 3 rfl) ?_
    refine lv_aload_n hx hb dX0_writeSuggestion_5 rfl (lv_at hl 0 rfl) ?_
    obtain ⟨ek35, hf⟩ := oc hf
    obtain ⟨a36, e37, hf⟩ := ob hf
    refine r_getQ hx hb 3 hts (fun w h => List.mem_cons_of_mem _ (mwsX00 w h)) hown hH ek35 (by decide) rfl 0 (by decide) rfl (hts (.fieldLink RX0 12 "Housestyle$Book" "rules" "Ljava/util/ArrayList;") (List.mem_cons_of_mem _ gw_1_1)) (fun _ h9 => h9) dX0_writeSuggestion_6 e37 ?_
    obtain ⟨ek38, hf⟩ := oc hf
    obtain ⟨r39, e40, hf⟩ := ob hf
    refine r_callVi (As := []) ⟨hx, hb, hml, hown, hts⟩ (c_Jx4a65c_size_8abf5 l D S a36 r39 e40) (cwV 0 hts (gwV gw_6_12 gw_4_10 gw_4_11 gw_1_0 gw_1_18) rfl rfl rfl (by decide +kernel) ⟨Nat.le_of_ble_eq_true rfl, Nat.le_of_ble_eq_true rfl⟩) hH hNE 2 ek38 (by decide) rfl rfl rfl hl.1 rfl (Nat.le_of_ble_eq_true rfl) dX0_writeSuggestion_9 ⟨(Nat.le_of_ble_eq_true rfl), (Nat.le_of_ble_eq_true rfl)⟩ (fun H locs hH => ?_)
    refine lv_icmp_ge (tgt := 38) hx hb dX0_writeSuggestion_12 (by decide) (fun c41 => ?_) (fun c41 => ?_)
    · have hf := ip hf c41
      exact Jj1 () _ _ ls hH (lv_sub hl [0, 1, 2, 3, 5] rfl) hf
    · have hf := iq hf c41
      refine lv_aload_n hx hb dX0_writeSuggestion_15 rfl (lv_at hl 0 rfl) ?_
      refine r_getQ hx hb 3 hts (fun w h => List.mem_cons_of_mem _ (mwsX00 w h)) hown hH ek35 (by decide) rfl 0 (by decide) rfl (hts (.fieldLink RX0 12 "Housestyle$Book" "rules" "Ljava/util/ArrayList;") (List.mem_cons_of_mem _ gw_1_1)) (fun _ h9 => h9) dX0_writeSuggestion_16 e37 ?_
      refine lv_iload_n hx hb dX0_writeSuggestion_19 rfl (lv_at hl 3 rfl) ?_
      obtain ⟨r42, e43, hf⟩ := ob hf
      refine r_callVr (As := [.int p3]) ⟨hx, hb, hml, hown, hts⟩ (c_Jx4a65c_get_915e3 l D S a36 p3 r42 e43) (cwV 1 hts (gwV gw_6_13 gw_4_13 gw_4_14 gw_1_0 gw_2_2) rfl rfl rfl (by decide +kernel) ⟨Nat.le_of_ble_eq_true rfl, Nat.le_of_ble_eq_true rfl⟩) hH hNE 2 ek38 (by decide) rfl rfl rfl hl.1 rfl (Nat.le_of_ble_eq_true rfl) dX0_writeSuggestion_20 ⟨(Nat.le_of_ble_eq_true rfl), (Nat.le_of_ble_eq_true rfl)⟩ (fun H locs hH => ?_)
      obtain ⟨ek44, hf⟩ := oc hf
      refine r_castS 9 hx hb hown (hts (.classLink RX0 46 "Housestyle$Rule") (List.mem_cons_of_mem _ gw_6_7)) hH ek44 (by decide) rfl rfl dX0_writeSuggestion_23 ?_
      refine lv_aload_n hx hb dX0_writeSuggestion_26 rfl (lv_at hl 1 rfl) ?_
      refine lv_iload_n hx hb dX0_writeSuggestion_27 rfl (lv_at hl 2 rfl) ?_
      refine lv_iload hx hb dX0_writeSuggestion_28 (lv_at hl 4 rfl) ?_
      refine lv_aload hx hb dX0_writeSuggestion_30 (lv_at hl 5 rfl) ?_
      obtain ⟨r45, e46, hf⟩ := ob hf
      refine r_callVv (As := [.ref b1, .int p2, .int p4, .ref b5]) ⟨hx, hb, hml, hown, hts⟩ (c_X6_writeSuggestion l D S r42 b1 p2 p4 b5 r45 e46) (cwV 4 hts (gwV gw_8_9 gw_8_10 gw_8_11 gw_5_15 gw_7_21) rfl rfl rfl (by decide +kernel) ⟨Nat.le_of_ble_eq_true rfl, Nat.le_of_ble_eq_true rfl⟩) hH hNE 9 ek44 (by decide) rfl rfl rfl hl.1 rfl (Nat.le_of_ble_eq_true rfl) dX0_writeSuggestion_32 ⟨(Nat.le_of_ble_eq_true rfl), (Nat.le_of_ble_eq_true rfl)⟩ (fun H locs hH => ?_)
      refine lv_goto (tgt := 110) hx hb dX0_writeSuggestion_35 (by decide) ?_
      have hr9 := Option.some.inj hf
      subst hr9
      exact e_v hx hb hr hlocks hH dX0_writeSuggestion_110
