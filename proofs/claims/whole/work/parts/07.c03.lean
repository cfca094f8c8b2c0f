set_option maxRecDepth 100000 in
def f_X0_ofRank_b5 (a0 : Nat) (b1 : Nat) (p2 : Int32) (S : PS) (x1 : Int32) (x2 : Int32) : Option ((Int32 × Int32) ⊕ ((Int32))) := if (20 : Int32) < x2 then (some (.inr x1)) else (if kK S a0 = 4 then ((f_X0_rankAt S a0 b1 x2).bind fun r9 => lt (fun (x11 : Int32) => lt (x2 + 1) fun x13 => some (.inl (x11, x13))) fun j12 => if r9 = p2 then (lt (x1 ||| (1 <<< (x2 &&& 31))) fun x17 => j12 x17) else (j12 x1)) else none)
set_option maxRecDepth 100000 in
def f_X0_ofRank (S : PS) (a0 : Nat) (b1 : Nat) (p2 : Int32) : Option (Int32) := lt (fun (x3 : Int32) => some x3) fun k4 => (iter (fun (v : Int32 × Int32) => f_X0_ofRank_b5 a0 b1 p2 S v.1 v.2) kF (0, 0)).bind (fun (v : Int32) => k4 v)
abbrev rmX0_ofRank : Room := { frames := 4, cells := 0, slots := 0, locals := 87 }
set_option maxHeartbeats 4000000 in
set_option maxRecDepth 100000 in
theorem c_X0_ofRank (l : Launch) (D : va_G × Nat) (S : PS) (a0 : Nat) (b1 : Nat) (p2 : Int32) (r : Int32) (hf : f_X0_ofRank S a0 b1 p2 = some r) : MI l D yX0_ofRank wsX0_ofRank rmX0_ofRank S [.ref a0, .ref b1, .int p2] S r 0 0 := by
  unfold f_X0_ofRank at hf
  refine Met.ofW (cc := cX0_ofRank) (maxL := 5) (ret := (some .int)) (by decide) rfl ?_
  intro p e s m args below meth c s₁ B hml hv
  obtain ⟨rfl, hH0, hNE⟩ := hv
  have hx := B.exec
  have hb := B.bytes
  have hr := B.returns
  have hts := atoms_spec (ws := wsX0_ofRank) B.pre
  have hown : s.vm.findClass RX0 = some m.cls := findClass_of_methodNamed B.named
  have hlocks := B.notSynchronized
  have hH : HI D S S s s.heap [] := HI.start hH0
  have hl := lv_entry ([.ref a0, .ref b1, .int p2]) (n := 5) (Nat.le_of_ble_eq_true rfl)
  rw [lg_entry_eq]
  generalize (lg_sl ([.ref a0, .ref b1, .int p2]) ++ List.replicate (5 - (lg_sl ([.ref a0, .ref b1, .int p2])).length) Slot.unset).toArray = ls at hl ⊢
  have hl : lv_has ls 5 [(0, .ref a0), (1, .ref b1), (2, .int p2)] := hl
  refine lv_iconst (v := 0) hx hb dX0_ofRank_0 (by decide) ?_
  refine lv_istore_n (lv' := [(3, .int 0), (0, .ref a0), (1, .ref b1), (2, .int p2)]) hx hb dX0_ofRank_1 rfl hl (by decide) rfl (fun ls hl => ?_)
  refine lv_iconst (v := 0) hx hb dX0_ofRank_2 (by decide) ?_
  refine lv_istore (lv' := [(4, .int 0), (3, .int 0), (0, .ref a0), (1, .ref b1), (2, .int p2)]) hx hb dX0_ofRank_3 hl (by decide) rfl (fun ls hl => ?_)
  obtain ⟨k4, e5, hf⟩ := ol hf
  have Xk4 : ∀ (x3 : Int32) (H : Heap) (locs : List Loc) (ls : Array Slot), HI D S S s H locs → lv_has ls 5 [(3, .int x3)] → k4 x3 = some r → GI p l e (headSpec wsX0_ofRank rmX0_ofRank).room s m ([.ref a0, .ref b1, .int p2] : List Value).toArray below meth c D S S r H locs 0 0 0 0 (F0 m 36 ls []) := by
    intro x3 H locs ls hH hl hf
    rw [← e5] at hf
    refine lv_iload_n hx hb dX0_ofRank_36 rfl (lv_at hl 0 rfl) ?_
    have hr9 := Option.some.inj hf
    subst hr9
    exact e_i hx hb hr hlocks hH dX0_ofRank_37
  obtain ⟨o6, eo6, hq6f⟩ := ob hf
  have Lo6 : ∀ (n : Nat) (x1 : Int32) (x2 : Int32), iter (fun (v : Int32 × Int32) => f_X0_ofRank_b5 a0 b1 p2 S v.1 v.2) n (x1, x2) = some o6 → ∀ (H : Heap) (locs : List Loc) (ls : Array Slot), HI D S S s H locs → lv_has ls 5 [(0, .ref a0), (1, .ref b1), (2, .int p2), (3, .int x1), (4, .int x2)] → GI p l e (headSpec wsX0_ofRank rmX0_ofRank).room s m ([.ref a0, .ref b1, .int p2] : List Value).toArray below meth c D S S r H locs 0 0 0 0 (F0 m 5 ls []) := by
    intro n
    induction n with
    | zero => intro x1 x2 hi; cases hi
    | succ n ih6 =>
      intro x1 x2 hi H locs ls hH hl
      obtain ⟨q6_, hf, hq6⟩ := iter_s hi
      have hf : f_X0_ofRank_b5 a0 b1 p2 S x1 x2 = some q6_ := hf
      unfold f_X0_ofRank_b5 at hf
      refine lv_iload hx hb dX0_ofRank_5 (lv_at hl 4 rfl) ?_
      refine lv_bipush (v := 20) hx hb dX0_ofRank_7 (by decide) ?_
      refine lv_icmp_gt (tgt := 36) hx hb dX0_ofRank_9 (by decide) (fun c7 => ?_) (fun c7 => ?_)
      · have hf := ip hf c7
        cases hf
        have hf9 := itR (K := (fun (v : Int32) => k4 v)) hq6 hq6f
        exact Xk4 x1 _ _ ls hH (lv_sub hl [3] rfl) hf9
      · have hf := iq hf c7
        refine lv_aload_n hx hb dX0_ofRank_12 rfl (lv_at hl 0 rfl) ?_
        refine lv_aload_n hx hb dX0_ofRank_13 rfl (lv_at hl 1 rfl) ?_
        refine lv_iload hx hb dX0_ofRank_14 (lv_at hl 4 rfl) ?_
        obtain ⟨ek8, hf⟩ := oc hf
        obtain ⟨r9, e10, hf⟩ := ob hf
        refine r_callVi (As := [.ref b1, .int x2]) ⟨hx, hb, hml, hown, hts⟩ (c_X0_rankAt l D S a0 b1 x2 r9 e10) (cwV 2 hts (gwV gw_7_7 gw_7_8 gw_7_9 gw_6_5 gw_7_5) rfl rfl rfl (by decide +kernel) ⟨Nat.le_of_ble_eq_true rfl, Nat.le_of_ble_eq_true rfl⟩) hH hNE 3 ek8 (by decide) rfl rfl rfl hl.1 rfl (Nat.le_of_ble_eq_true rfl) dX0_ofRank_16 ⟨(Nat.le_of_ble_eq_true rfl), (Nat.le_of_ble_eq_true rfl)⟩ (fun H locs hH => ?_)
        refine lv_iload_n hx hb dX0_ofRank_19 rfl (lv_at hl 2 rfl) ?_
        obtain ⟨j12, e15, hf⟩ := ol hf
        have Jj12 : ∀ (x11 : Int32) (H : Heap) (locs : List Loc) (ls : Array Slot), HI D S S s H locs → lv_has ls 5 [(0, .ref a0), (1, .ref b1), (2, .int p2), (3, .int x11), (4, .int x2)] → j12 x11 = some q6_ → GI p l e (headSpec wsX0_ofRank rmX0_ofRank).room s m ([.ref a0, .ref b1, .int p2] : List Value).toArray below meth c D S S r H locs 0 0 0 0 (F0 m 30 ls []) := by
          intro x11 H locs ls hH hl hf
          rw [← e15] at hf
          obtain ⟨x13, e14, hf⟩ := ol hf
          refine lv_iinc (v := x13) (lv' := [(4, .int x13), (0, .ref a0), (1, .ref b1), (2, .int p2), (3, .int x11)]) hx hb dX0_ofRank_30 hl (k := 4) rfl (by rw [← e14]; rfl) (by decide) rfl (fun ls hl => ?_)
          refine lv_goto (tgt := 5) hx hb dX0_ofRank_33 (by decide) ?_
          cases hf
          exact ih6 x11 x13 hq6 _ _ ls hH (lv_sub hl [1, 2, 3, 4, 0] rfl)
        refine lv_icmp_ne (tgt := 30) hx hb dX0_ofRank_20 (by decide) (fun c16 => ?_) (fun c16 => ?_)
        · have hf := iq hf c16
          exact Jj12 x1 _ _ ls hH (lv_sub hl [0, 1, 2, 3, 4] rfl) hf
        · have hf := ip hf c16
          refine lv_iload_n hx hb dX0_ofRank_23 rfl (lv_at hl 3 rfl) ?_
          refine lv_iconst (v := 1) hx hb dX0_ofRank_24 (by decide) ?_
          refine lv_iload hx hb dX0_ofRank_25 (lv_at hl 4 rfl) ?_
          refine lv_ishl hx hb dX0_ofRank_27 ?_
          refine lv_ior hx hb dX0_ofRank_28 ?_
          obtain ⟨x17, e18, hf⟩ := ol hf
          refine lv_topE e18 ?_
          refine lv_istore_n (lv' := [(3, .int x17), (0, .ref a0), (1, .ref b1), (2, .int p2), (4, .int x2)]) hx hb dX0_ofRank_29 rfl hl (by decide) rfl (fun ls hl => ?_)
          exact Jj12 x17 _ _ ls hH (lv_sub hl [1, 2, 3, 0, 4] rfl) hf
  exact Lo6 kF 0 0 eo6 _ _ ls hH (lv_sub hl [2, 3, 4, 1, 0] rfl)
set_option maxRecDepth 100000 in
def f_X8_valueOf (S : PS) (a0 : Nat) (p1 : Int32) : Option (Int32) := if kK S a0 = 12 then ((kQ S a0 4).bind fun a2 => if kK S a2 = 9 then ((f_X5_get S a2 p1).bind fun r5 => some r5) else none) else none
abbrev rmX8_valueOf : Room := { frames := 1, cells := 0, slots := 0, locals := 21 }
set_option maxHeartbeats 4000000 in
set_option maxRecDepth 100000 in
theorem c_X8_valueOf (l : Launch) (D : va_G × Nat) (S : PS) (a0 : Nat) (p1 : Int32) (r : Int32) (hf : f_X8_valueOf S a0 p1 = some r) : MI l D yX8_valueOf wsX8_valueOf rmX8_valueOf S [.ref a0, .int p1] S r 0 0 := by
  unfold f_X8_valueOf at hf
  refine Met.ofW (cc := cX8_valueOf) (maxL := 2) (ret := (some .int)) (by decide) rfl ?_
  intro p e s m args below meth c s₁ B hml hv
  obtain ⟨rfl, hH0, hNE⟩ := hv
  have hx := B.exec
  have hb := B.bytes
  have hr := B.returns
  have hts := atoms_spec (ws := wsX8_valueOf) B.pre
  have hown : s.vm.findClass RX8 = some m.cls := findClass_of_methodNamed B.named
  have hlocks := B.notSynchronized
  have hH : HI D S S s s.heap [] := HI.start hH0
  have hl := lv_entry ([.ref a0, .int p1]) (n := 2) (Nat.le_of_ble_eq_true rfl)
  rw [lg_entry_eq]
  generalize (lg_sl ([.ref a0, .int p1]) ++ List.replicate (2 - (lg_sl ([.ref a0, .int p1])).length) Slot.unset).toArray = ls at hl ⊢
  have hl : lv_has ls 2 [(0, .ref a0), (1, .int p1)] := hl
  refine lv_aload_n hx hb dX8_valueOf_0 rfl (lv_at hl 0 rfl) ?_
  obtain ⟨ek1, hf⟩ := oc hf
  obtain ⟨a2, e3, hf⟩ := ob hf
  refine r_getQ hx hb 11 hts (fun w h => List.mem_cons_of_mem _ (mwsX80 w h)) hown hH ek1 (by decide) rfl 4 (by decide) rfl (hts (.fieldLink RX8 29 "Housestyle$Tokens" "values" "LHousestyle$Row;") (List.mem_cons_of_mem _ gw_6_21)) (fun _ h9 => h9) dX8_valueOf_1 e3 ?_
  refine lv_iload_n hx hb dX8_valueOf_4 rfl (lv_at hl 1 rfl) ?_
  obtain ⟨ek4, hf⟩ := oc hf
  obtain ⟨r5, e6, hf⟩ := ob hf
  refine r_callVi (As := [.int p1]) ⟨hx, hb, hml, hown, hts⟩ (c_X5_get l D S a2 p1 r5 e6) (cwV 1 hts (gwV gw_2_12 gw_2_13 gw_2_14 gw_1_5 gw_2_9) rfl rfl rfl (by decide +kernel) ⟨Nat.le_of_ble_eq_true rfl, Nat.le_of_ble_eq_true rfl⟩) hH hNE 8 ek4 (by decide) rfl rfl rfl hl.1 rfl (Nat.le_of_ble_eq_true rfl) dX8_valueOf_5 ⟨(Nat.le_of_ble_eq_true rfl), (Nat.le_of_ble_eq_true rfl)⟩ (fun H locs hH => ?_)
  have hr9 := Option.some.inj hf
  subst hr9
  exact e_i hx hb hr hlocks hH dX8_valueOf_8
set_option maxRecDepth 100000 in
def f_X0_foundAt (S : PS) (a0 : Nat) (b1 : Nat) (b2 : Nat) (p3 : Int32) : Option (Int32) := if kK S a0 = 4 then ((kQ S a0 2).bind fun a2 => if kK S a2 = 9 then ((f_X5_get S a2 p3).bind fun r5 => if kK S b2 = 5 then (lt (r5 &&& ((kI S b2 5) ^^^ (-1))) fun x8 => if kK S b1 = 12 then ((f_X8_isNumber S b1 p3).bind fun r11 => if r11 = 0 then (some x8) else ((f_X8_isQuoted S b1 p3).bind fun r14 => if r14 = 0 then ((f_X8_valueOf S b1 p3).bind fun r17 => if (kI S b2 4) ≤ r17 then (some x8) else (lt (x8 ||| 1048576) fun x20 => some x20)) else (some x8))) else none) else none) else none) else none
abbrev rmX0_foundAt : Room := { frames := 2, cells := 0, slots := 0, locals := 42 }
set_option maxHeartbeats 4000000 in
set_option maxRecDepth 100000 in
theorem c_X0_foundAt (l : Launch) (D : va_G × Nat) (S : PS) (a0 : Nat) (b1 : Nat) (b2 : Nat) (p3 : Int32) (r : Int32) (hf : f_X0_foundAt S a0 b1 b2 p3 = some r) : MI l D yX0_foundAt wsX0_foundAt rmX0_foundAt S [.ref a0, .ref b1, .ref b2, .int p3] S r 0 0 := by
  unfold f_X0_foundAt at hf
  refine Met.ofW (cc := cX0_foundAt) (maxL := 5) (ret := (some .int)) (by decide) rfl ?_
  intro p e s m args below meth c s₁ B hml hv
  obtain ⟨rfl, hH0, hNE⟩ := hv
  have hx := B.exec
  have hb := B.bytes
  have hr := B.returns
  have hts := atoms_spec (ws := wsX0_foundAt) B.pre
  have hown : s.vm.findClass RX0 = some m.cls := findClass_of_methodNamed B.named
  have hlocks := B.notSynchronized
  have hH : HI D S S s s.heap [] := HI.start hH0
  have hl := lv_entry ([.ref a0, .ref b1, .ref b2, .int p3]) (n := 5) (Nat.le_of_ble_eq_true rfl)
  rw [lg_entry_eq]
  generalize (lg_sl ([.ref a0, .ref b1, .ref b2, .int p3]) ++ List.replicate (5 - (lg_sl ([.ref a0, .ref b1, .ref b2, .int p3])).length) Slot.unset).toArray = ls at hl ⊢
  have hl : lv_has ls 5 [(0, .ref a0), (1, .ref b1), (2, .ref b2), (3, .int p3)] := hl
  refine lv_aload_n hx hb dX0_foundAt_0 rfl (lv_at hl 0 rfl) ?_
  obtain ⟨ek1, hf⟩ := oc hf
  obtain ⟨a2, e3, hf⟩ := ob hf
  refine r_getQ hx hb 3 hts (fun w h => List.mem_cons_of_mem _ (mwsX00 w h)) hown hH ek1 (by decide) rfl 2 (by decide) rfl (hts (.fieldLink RX0 26 "Housestyle$Book" "hits" "LHousestyle$Row;") (List.mem_cons_of_mem _ gw_1_6)) (fun _ h9 => h9) dX0_foundAt_1 e3 ?_
  refine lv_iload_n hx hb dX0_foundAt_4 rfl (lv_at hl 3 rfl) ?_
  obtain ⟨ek4, hf⟩ := oc hf
  obtain ⟨r5, e6, hf⟩ := ob hf
  refine r_callVi (As := [.int p3]) ⟨hx, hb, hml, hown, hts⟩ (c_X5_get l D S a2 p3 r5 e6) (cwV 1 hts (gwV gw_5_18 gw_2_13 gw_2_14 gw_1_5 gw_2_9) rfl rfl rfl (by decide +kernel) ⟨Nat.le_of_ble_eq_true rfl, Nat.le_of_ble_eq_true rfl⟩) hH hNE 8 ek4 (by decide) rfl rfl rfl hl.1 rfl (Nat.le_of_ble_eq_true rfl) dX0_foundAt_5 ⟨(Nat.le_of_ble_eq_true rfl), (Nat.le_of_ble_eq_true rfl)⟩ (fun H locs hH => ?_)
  refine lv_aload_n hx hb dX0_foundAt_8 rfl (lv_at hl 2 rfl) ?_
  obtain ⟨ek7, hf⟩ := oc hf
  refine r_getIN hx hb 4 hts (fun w h => List.mem_cons_of_mem _ (mwsX10 w h)) hown hH ek7 (by decide) rfl 5 (by decide) rfl (nf_13 hNE) (fun _ h9 => h9) dX0_foundAt_9 ?_
  refine lv_iconst (v := (-1)) hx hb dX0_foundAt_12 (by decide) ?_
  refine lv_ixor hx hb dX0_foundAt_13 ?_
  refine lv_iand hx hb dX0_foundAt_14 ?_
  obtain ⟨x8, e9, hf⟩ := ol hf
  refine lv_topE e9 ?_
  refine lv_istore (lv' := [(4, .int x8), (0, .ref a0), (1, .ref b1), (2, .ref b2), (3, .int p3)]) hx hb dX0_foundAt_15 hl (by decide) rfl (fun ls hl => ?_)
  refine lv_aload_n hx hb dX0_foundAt_17 rfl (lv_at hl 2 rfl) ?_
  refine lv_iload_n hx hb dX0_foundAt_18 rfl (lv_at hl 4 rfl) ?_
  obtain ⟨ek10, hf⟩ := oc hf
  obtain ⟨r11, e12, hf⟩ := ob hf
  refine r_callVi (As := [.int p3]) ⟨hx, hb, hml, hown, hts⟩ (c_X8_isNumber l D S b1 p3 r11 e12) (cwV 1 hts (gwV gw_7_0 gw_3_10 gw_3_11 gw_2_23 gw_3_0) rfl rfl rfl (by decide +kernel) ⟨Nat.le_of_ble_eq_true rfl, Nat.le_of_ble_eq_true rfl⟩) hH hNE 11 ek10 (by decide) rfl rfl rfl hl.1 rfl (Nat.le_of_ble_eq_true rfl) dX0_foundAt_19 ⟨(Nat.le_of_ble_eq_true rfl), (Nat.le_of_ble_eq_true rfl)⟩ (fun H locs hH => ?_)
  refine lv_if_eq (tgt := 52) hx hb dX0_foundAt_22 (by decide) (fun c13 => ?_) (fun c13 => ?_)
  · have hf := ip hf c13
    refine lv_iload hx hb dX0_foundAt_52 (lv_at hl 0 rfl) ?_
    have hr9 := Option.some.inj hf
    subst hr9
    exact e_i hx hb hr hlocks hH dX0_foundAt_54
  · have hf := iq hf c13
    refine lv_aload_n hx hb dX0_foundAt_25 rfl (lv_at hl 2 rfl) ?_
    refine lv_iload_n hx hb dX0_foundAt_26 rfl (lv_at hl 4 rfl) ?_
    obtain ⟨r14, e15, hf⟩ := ob hf
    refine r_callVi (As := [.int p3]) ⟨hx, hb, hml, hown, hts⟩ (c_X8_isQuoted l D S b1 p3 r14 e15) (cwV 1 hts (gwV gw_6_0 gw_5_0 gw_5_1 gw_2_23 gw_2_10) rfl rfl rfl (by decide +kernel) ⟨Nat.le_of_ble_eq_true rfl, Nat.le_of_ble_eq_true rfl⟩) hH hNE 11 ek10 (by decide) rfl rfl rfl hl.1 rfl (Nat.le_of_ble_eq_true rfl) dX0_foundAt_27 ⟨(Nat.le_of_ble_eq_true rfl), (Nat.le_of_ble_eq_true rfl)⟩ (fun H locs hH => ?_)
    refine lv_if_ne (tgt := 52) hx hb dX0_foundAt_30 (by decide) (fun c16 => ?_) (fun c16 => ?_)
    · have hf := iq hf c16
      refine lv_iload hx hb dX0_foundAt_52 (lv_at hl 0 rfl) ?_
      have hr9 := Option.some.inj hf
      subst hr9
      exact e_i hx hb hr hlocks hH dX0_foundAt_54
    · have hf := ip hf c16
      refine lv_aload_n hx hb dX0_foundAt_33 rfl (lv_at hl 2 rfl) ?_
      refine lv_iload_n hx hb dX0_foundAt_34 rfl (lv_at hl 4 rfl) ?_
      obtain ⟨r17, e18, hf⟩ := ob hf
      refine r_callVi (As := [.int p3]) ⟨hx, hb, hml, hown, hts⟩ (c_X8_valueOf l D S b1 p3 r17 e18) (cwV 1 hts (gwV gw_7_1 gw_7_2 gw_7_3 gw_2_23 gw_6_20) rfl rfl rfl (by decide +kernel) ⟨Nat.le_of_ble_eq_true rfl, Nat.le_of_ble_eq_true rfl⟩) hH hNE 11 ek10 (by decide) rfl rfl rfl hl.1 rfl (Nat.le_of_ble_eq_true rfl) dX0_foundAt_35 ⟨(Nat.le_of_ble_eq_true rfl), (Nat.le_of_ble_eq_true rfl)⟩ (fun H locs hH => ?_)
      refine lv_aload_n hx hb dX0_foundAt_38 rfl (lv_at hl 3 rfl) ?_
      refine r_getIN hx hb 4 hts (fun w h => List.mem_cons_of_mem _ (mwsX10 w h)) hown hH ek7 (by decide) rfl 4 (by decide) rfl (nf_14 hNE) (fun _ h9 => h9) dX0_foundAt_39 ?_
      refine lv_icmp_ge (tgt := 52) hx hb dX0_foundAt_42 (by decide) (fun c19 => ?_) (fun c19 => ?_)
      · have hf := ip hf c19
        refine lv_iload hx hb dX0_foundAt_52 (lv_at hl 0 rfl) ?_
        have hr9 := Option.some.inj hf
        subst hr9
        exact e_i hx hb hr hlocks hH dX0_foundAt_54
      · have hf := iq hf c19
        refine lv_iload hx hb dX0_foundAt_45 (lv_at hl 0 rfl) ?_
        refine lv_ldc hx hb hown (hts (.constant RX0 97 (1048576)) (List.mem_cons_of_mem _ gw_6_23)) dX0_foundAt_47 ?_
        refine lv_ior hx hb dX0_foundAt_49 ?_
        obtain ⟨x20, e21, hf⟩ := ol hf
        refine lv_topE e21 ?_
        refine lv_istore (lv' := [(4, .int x20), (0, .ref a0), (1, .ref b1), (2, .ref b2), (3, .int p3)]) hx hb dX0_foundAt_50 hl (by decide) rfl (fun ls hl => ?_)
        refine lv_iload hx hb dX0_foundAt_52 (lv_at hl 0 rfl) ?_
        have hr9 := Option.some.inj hf
        subst hr9
        exact e_i hx hb hr hlocks hH dX0_foundAt_54
set_option maxRecDepth 100000 in
def f_X0_itemsOf (S : PS) (a0 : Nat) (p1 : Int32) : Option (Int32) := if p1 < 0 then (some 1) else (if kK S a0 = 4 then ((kQ S a0 0).bind fun a3 => if kK S a3 = 3 then ((f_Jx4a65c_size_8abf5 S a3).bind fun r6 => if r6 ≤ p1 then (some 1) else ((f_Jx4a65c_get_915e3 S a3 p1).bind fun r9 => if kK S r9 = 10 then ((kQ S r9 0).bind fun a12 => if kK S a12 = 3 then ((f_Jx4a65c_size_8abf5 S a12).bind fun r15 => some r15) else none) else none)) else none) else none)
abbrev rmX0_itemsOf : Room := { frames := 3, cells := 0, slots := 0, locals := 64 }
set_option maxHeartbeats 4000000 in
set_option maxRecDepth 100000 in
theorem c_X0_itemsOf (l : Launch) (D : va_G × Nat) (S : PS) (a0 : Nat) (p1 : Int32) (r : Int32) (hf : f_X0_itemsOf S a0 p1 = some r) : MI l D yX0_itemsOf wsX0_itemsOf rmX0_itemsOf S [.ref a0, .int p1] S r 0 0 := by
  unfold f_X0_itemsOf at hf
  refine Met.ofW (cc := cX0_itemsOf) (maxL := 2) (ret := (some .int)) (by decide) rfl ?_
  intro p e s m args below meth c s₁ B hml hv
  obtain ⟨rfl, hH0, hNE⟩ := hv
  have hx := B.exec
  have hb := B.bytes
  have hr := B.returns
  have hts := atoms_spec (ws := wsX0_itemsOf) B.pre
  have hown : s.vm.findClass RX0 = some m.cls := findClass_of_methodNamed B.named
  have hlocks := B.notSynchronized
  have hH : HI D S S s s.heap [] := HI.start hH0
  have hl := lv_entry ([.ref a0, .int p1]) (n := 2) (Nat.le_of_ble_eq_true rfl)
  rw [lg_entry_eq]
  generalize (lg_sl ([.ref a0, .int p1]) ++ List.replicate (2 - (lg_sl ([.ref a0, .int p1])).length) Slot.unset).toArray = ls at hl ⊢
  have hl : lv_has ls 2 [(0, .ref a0), (1, .int p1)] := hl
  refine lv_iload_n hx hb dX0_itemsOf_0 rfl (lv_at hl 1 rfl) ?_
  refine lv_if_lt (tgt := 35) hx hb dX0_itemsOf_1 (by decide) (fun c1 => ?_) (fun c1 => ?_)
  · have hf := ip hf c1
    refine lv_iconst (v := 1) hx hb dX0_itemsOf_35 (by decide) ?_
    have hr9 := Option.some.inj hf
    subst hr9
    exact e_i hx hb hr hlocks hH dX0_itemsOf_36
  · have hf := iq hf c1
    refine lv_iload_n hx hb dX0_itemsOf_4 rfl (lv_at hl 1 rfl) ?_
    refine lv_aload_n hx hb dX0_itemsOf_5 rfl (lv_at hl 0 rfl) ?_
    obtain ⟨ek2, hf⟩ := oc hf
    obtain ⟨a3, e4, hf⟩ := ob hf
    refine r_getQ hx hb 3 hts (fun w h => List.mem_cons_of_mem _ (mwsX00 w h)) hown hH ek2 (by decide) rfl 0 (by decide) rfl (hts (.fieldLink RX0 12 "Housestyle$Book" "rules" "Ljava/util/ArrayList;") (List.mem_cons_of_mem _ gw_1_1)) (fun _ h9 => h9) dX0_itemsOf_6 e4 ?_
    obtain ⟨ek5, hf⟩ := oc hf
    obtain ⟨r6, e7, hf⟩ := ob hf
    refine r_callVi (As := []) ⟨hx, hb, hml, hown, hts⟩ (c_Jx4a65c_size_8abf5 l D S a3 r6 e7) (cwV 0 hts (gwV gw_6_12 gw_4_10 gw_4_11 gw_1_0 gw_1_18) rfl rfl rfl (by decide +kernel) ⟨Nat.le_of_ble_eq_true rfl, Nat.le_of_ble_eq_true rfl⟩) hH hNE 2 ek5 (by decide) rfl rfl rfl hl.1 rfl (Nat.le_of_ble_eq_true rfl) dX0_itemsOf_9 ⟨(Nat.le_of_ble_eq_true rfl), (Nat.le_of_ble_eq_true rfl)⟩ (fun H locs hH => ?_)
    refine lv_icmp_ge (tgt := 35) hx hb dX0_itemsOf_12 (by decide) (fun c8 => ?_) (fun c8 => ?_)
    · have hf := ip hf c8
      refine lv_iconst (v := 1) hx hb dX0_itemsOf_35 (by decide) ?_
      have hr9 := Option.some.inj hf
      subst hr9
      exact e_i hx hb hr hlocks hH dX0_itemsOf_36
    · have hf := iq hf c8
      refine lv_aload_n hx hb dX0_itemsOf_15 rfl (lv_at hl 0 rfl) ?_
      refine r_getQ hx hb 3 hts (fun w h => List.mem_cons_of_mem _ (mwsX00 w h)) hown hH ek2 (by decide) rfl 0 (by decide) rfl (hts (.fieldLink RX0 12 "Housestyle$Book" "rules" "Ljava/util/ArrayList;") (List.mem_cons_of_mem _ gw_1_1)) (fun _ h9 => h9) dX0_itemsOf_16 e4 ?_
      refine lv_iload_n hx hb dX0_itemsOf_19 rfl (lv_at hl 1 rfl) ?_
      obtain ⟨r9, e10, hf⟩ := ob hf
      refine r_callVr (As := [.int p1]) ⟨hx, hb, hml, hown, hts⟩ (c_Jx4a65c_get_915e3 l D S a3 p1 r9 e10) (cwV 1 hts (gwV gw_6_13 gw_4_13 gw_4_14 gw_1_0 gw_2_2) rfl rfl rfl (by decide +kernel) ⟨Nat.le_of_ble_eq_true rfl, Nat.le_of_ble_eq_true rfl⟩) hH hNE 2 ek5 (by decide) rfl rfl rfl hl.1 rfl (Nat.le_of_ble_eq_true rfl) dX0_itemsOf_20 ⟨(Nat.le_of_ble_eq_true rfl), (Nat.le_of_ble_eq_true rfl)⟩ (fun H locs hH => ?_)
      obtain ⟨ek11, hf⟩ := oc hf
      refine r_castS 9 hx hb hown (hts (.classLink RX0 46 "Housestyle$Rule") (List.mem_cons_of_mem _ gw_6_7)) hH ek11 (by decide) rfl rfl dX0_itemsOf_23 ?_
      obtain ⟨a12, e13, hf⟩ := ob hf
      refine r_getQN hx hb 9 hts (fun w h => List.mem_cons_of_mem _ (mwsX60 w h)) hown hH ek11 (by decide) rfl 0 (by decide) rfl (nf_15 hNE) (fun _ h9 => h9) dX0_itemsOf_26 e13 ?_
      obtain ⟨ek14, hf⟩ := oc hf
      obtain ⟨r15, e16, hf⟩ := ob hf
      refine r_callVi (As := []) ⟨hx, hb, hml, hown, hts⟩ (c_Jx4a65c_size_8abf5 l D S a12 r15 e16) (cwV 0 hts (gwV gw_6_12 gw_4_10 gw_4_11 gw_1_0 gw_1_18) rfl rfl rfl (by decide +kernel) ⟨Nat.le_of_ble_eq_true rfl, Nat.le_of_ble_eq_true rfl⟩) hH hNE 2 ek14 (by decide) rfl rfl rfl hl.1 rfl (Nat.le_of_ble_eq_true rfl) dX0_itemsOf_29 ⟨(Nat.le_of_ble_eq_true rfl), (Nat.le_of_ble_eq_true rfl)⟩ (fun H locs hH => ?_)
      refine lv_goto (tgt := 36) hx hb dX0_itemsOf_32 (by decide) ?_
      have hr9 := Option.some.inj hf
      subst hr9
      exact e_i hx hb hr hlocks hH dX0_itemsOf_36
set_option maxRecDepth 100000 in
def f_X2_isFree_b2 (a0 : Nat) (p1 : Int32) (p2 : Int32) (S : PS) (x1 : Int32) : Option ((Int32) ⊕ ((Unit) ⊕ (Unit))) := if p2 ≤ x1 then (some (.inr (.inl ()))) else (if kK S a0 = 6 then ((kQ S a0 2).bind fun a11 => if kK S a11 = 9 then ((f_X5_get S a11 (p1 + x1)).bind fun r14 => if r14 = 0 then (lt (x1 + 1) fun x17 => some (.inl x17)) else (some (.inr (.inr ())))) else none) else none)
set_option maxRecDepth 100000 in
def f_X2_isFree (S : PS) (a0 : Nat) (p1 : Int32) (p2 : Int32) : Option (Int32) := lt (fun (u4 : Unit) => some 1) fun k2 => lt (fun (u7 : Unit) => some 0) fun k5 => (iter (fun (v : Int32) => f_X2_isFree_b2 a0 p1 p2 S v) kF 0).bind (fun (z : (Unit) ⊕ (Unit)) => Sum.elim (fun (v : Unit) => k2 v) (fun (v : Unit) => k5 v) z)
abbrev rmX2_isFree : Room := { frames := 1, cells := 0, slots := 0, locals := 21 }
set_option maxHeartbeats 4000000 in
set_option maxRecDepth 100000 in
theorem c_X2_isFree (l : Launch) (D : va_G × Nat) (S : PS) (a0 : Nat) (p1 : Int32) (p2 : Int32) (r : Int32) (hf : f_X2_isFree S a0 p1 p2 = some r) : MI l D yX2_isFree wsX2_isFree rmX2_isFree S [.ref a0, .int p1, .int p2] S r 0 0 := by
  unfold f_X2_isFree at hf
  refine Met.ofW (cc := cX2_isFree) (maxL := 4) (ret := (some .boolean)) (by decide) rfl ?_
  intro p e s m args below meth c s₁ B hml hv
  obtain ⟨rfl, hH0, hNE⟩ := hv
  have hx := B.exec
  have hb := B.bytes
  have hr := B.returns
  have hts := atoms_spec (ws := wsX2_isFree) B.pre
  have hown : s.vm.findClass RX2 = some m.cls := findClass_of_methodNamed B.named
  have hlocks := B.notSynchronized
  have hH : HI D S S s s.heap [] := HI.start hH0
  have hl := lv_entry ([.ref a0, .int p1, .int p2]) (n := 4) (Nat.le_of_ble_eq_true rfl)
  rw [lg_entry_eq]
  generalize (lg_sl ([.ref a0, .int p1, .int p2]) ++ List.replicate (4 - (lg_sl ([.ref a0, .int p1, .int p2])).length) Slot.unset).toArray = ls at hl ⊢
  have hl : lv_has ls 4 [(0, .ref a0), (1, .int p1), (2, .int p2)] := hl
  refine lv_iconst (v := 0) hx hb dX2_isFree_0 (by decide) ?_
  refine lv_istore_n (lv' := [(3, .int 0), (0, .ref a0), (1, .int p1), (2, .int p2)]) hx hb dX2_isFree_1 rfl hl (by decide) rfl (fun ls hl => ?_)
  obtain ⟨k2, e3, hf⟩ := ol hf
  have Xk2 : ∀ (u4 : Unit) (H : Heap) (locs : List Loc) (ls : Array Slot), HI D S S s H locs → lv_has ls 4 [] → k2 u4 = some r → GI p l e (headSpec wsX2_isFree rmX2_isFree).room s m ([.ref a0, .int p1, .int p2] : List Value).toArray below meth c D S S r H locs 0 0 0 0 (F0 m 28 ls []) := by
    intro u4 H locs ls hH hl hf
    rw [← e3] at hf
    refine lv_iconst (v := 1) hx hb dX2_isFree_28 (by decide) ?_
    have hr9 := Option.some.inj hf
    subst hr9
    exact e_z (r := 1) hx hb hr hlocks rfl hH dX2_isFree_29
  obtain ⟨k5, e6, hf⟩ := ol hf
  have Xk5 : ∀ (u7 : Unit) (H : Heap) (locs : List Loc) (ls : Array Slot), HI D S S s H locs → lv_has ls 4 [] → k5 u7 = some r → GI p l e (headSpec wsX2_isFree rmX2_isFree).room s m ([.ref a0, .int p1, .int p2] : List Value).toArray below meth c D S S r H locs 0 0 0 0 (F0 m 20 ls []) := by
    intro u7 H locs ls hH hl hf
    rw [← e6] at hf
    refine lv_iconst (v := 0) hx hb dX2_isFree_20 (by decide) ?_
    have hr9 := Option.some.inj hf
    subst hr9
    exact e_z (r := 0) hx hb hr hlocks rfl hH dX2_isFree_21
  obtain ⟨o8, eo8, hq8f⟩ := ob hf
  have Lo8 : ∀ (n : Nat) (x1 : Int32), iter (fun (v : Int32) => f_X2_isFree_b2 a0 p1 p2 S v) n x1 = some o8 → ∀ (H : Heap) (locs : List Loc) (ls : Array Slot), HI D S S s H locs → lv_has ls 4 [(0, .ref a0), (1, .int p1), (2, .int p2), (3, .int x1)] → GI p l e (headSpec wsX2_isFree rmX2_isFree).room s m ([.ref a0, .int p1, .int p2] : List Value).toArray below meth c D S S r H locs 0 0 0 0 (F0 m 2 ls []) := by
    intro n
    induction n with
    | zero => intro x1 hi; cases hi
    | succ n ih8 =>
      intro x1 hi H locs ls hH hl
      obtain ⟨q8_, hf, hq8⟩ := iter_s hi
      have hf : f_X2_isFree_b2 a0 p1 p2 S x1 = some q8_ := hf
      unfold f_X2_isFree_b2 at hf
      refine lv_iload_n hx hb dX2_isFree_2 rfl (lv_at hl 3 rfl) ?_
      refine lv_iload_n hx hb dX2_isFree_3 rfl (lv_at hl 2 rfl) ?_
      refine lv_icmp_ge (tgt := 28) hx hb dX2_isFree_4 (by decide) (fun c9 => ?_) (fun c9 => ?_)
      · have hf := ip hf c9
        cases hf
        have hf9 := itR (K := (fun (z : (Unit) ⊕ (Unit)) => Sum.elim (fun (v : Unit) => k2 v) (fun (v : Unit) => k5 v) z)) hq8 hq8f
        exact Xk2 () _ _ ls hH (lv_sub hl [] rfl) hf9
      · have hf := iq hf c9
        refine lv_aload_n hx hb dX2_isFree_7 rfl (lv_at hl 0 rfl) ?_
        obtain ⟨ek10, hf⟩ := oc hf
        obtain ⟨a11, e12, hf⟩ := ob hf
        refine r_getQ hx hb 5 hts (fun w h => List.mem_cons_of_mem _ (mwsX20 w h)) hown hH ek10 (by decide) rfl 2 (by decide) rfl (hts (.fieldLink RX2 24 "Housestyle$Findings" "covered" "LHousestyle$Row;") (List.mem_cons_of_mem _ gw_10_15)) (fun _ h9 => h9) dX2_isFree_8 e12 ?_
        refine lv_iload_n hx hb dX2_isFree_11 rfl (lv_at hl 1 rfl) ?_
        refine lv_iload_n hx hb dX2_isFree_12 rfl (lv_at hl 3 rfl) ?_
        refine lv_iadd hx hb dX2_isFree_13 ?_
        obtain ⟨ek13, hf⟩ := oc hf
        obtain ⟨r14, e15, hf⟩ := ob hf
        refine r_callVi (As := [.int (p1 + x1)]) ⟨hx, hb, hml, hown, hts⟩ (c_X5_get l D S a11 (p1 + x1) r14 e15) (cwV 1 hts (gwV gw_10_23 gw_2_13 gw_2_14 gw_1_5 gw_2_9) rfl rfl rfl (by decide +kernel) ⟨Nat.le_of_ble_eq_true rfl, Nat.le_of_ble_eq_true rfl⟩) hH hNE 8 ek13 (by decide) rfl rfl rfl hl.1 rfl (Nat.le_of_ble_eq_true rfl) dX2_isFree_14 ⟨(Nat.le_of_ble_eq_true rfl), (Nat.le_of_ble_eq_true rfl)⟩ (fun H locs hH => ?_)
        refine lv_if_eq (tgt := 22) hx hb dX2_isFree_17 (by decide) (fun c16 => ?_) (fun c16 => ?_)
        · have hf := ip hf c16
          obtain ⟨x17, e18, hf⟩ := ol hf
          refine lv_iinc (v := x17) (lv' := [(3, .int x17), (0, .ref a0), (1, .int p1), (2, .int p2)]) hx hb dX2_isFree_22 hl (k := 3) rfl (by rw [← e18]; rfl) (by decide) rfl (fun ls hl => ?_)
          refine lv_goto (tgt := 2) hx hb dX2_isFree_25 (by decide) ?_
          cases hf
          exact ih8 x17 hq8 _ _ ls hH (lv_sub hl [1, 2, 3, 0] rfl)
        · have hf := iq hf c16
          cases hf
          have hf9 := itR (K := (fun (z : (Unit) ⊕ (Unit)) => Sum.elim (fun (v : Unit) => k2 v) (fun (v : Unit) => k5 v) z)) hq8 hq8f
          exact Xk5 () _ _ ls hH (lv_sub hl [] rfl) hf9
  exact Lo8 kF 0 eo8 _ _ ls hH (lv_sub hl [1, 2, 3, 0] rfl)
set_option maxRecDepth 100000 in
def f_X8_fromOf (S : PS) (a0 : Nat) (p1 : Int32) : Option (Int32) := if kK S a0 = 12 then ((kQ S a0 1).bind fun a2 => if kK S a2 = 9 then ((f_X5_get S a2 p1).bind fun r5 => some r5) else none) else none
abbrev rmX8_fromOf : Room := { frames := 1, cells := 0, slots := 0, locals := 21 }
set_option maxHeartbeats 4000000 in
set_option maxRecDepth 100000 in
theorem c_X8_fromOf (l : Launch) (D : va_G × Nat) (S : PS) (a0 : Nat) (p1 : Int32) (r : Int32) (hf : f_X8_fromOf S a0 p1 = some r) : MI l D yX8_fromOf wsX8_fromOf rmX8_fromOf S [.ref a0, .int p1] S r 0 0 := by
  unfold f_X8_fromOf at hf
  refine Met.ofW (cc := cX8_fromOf) (maxL := 2) (ret := (some .int)) (by decide) rfl ?_
  intro p e s m args below meth c s₁ B hml hv
  obtain ⟨rfl, hH0, hNE⟩ := hv
  have hx := B.exec
  have hb := B.bytes
  have hr := B.returns
  have hts := atoms_spec (ws := wsX8_fromOf) B.pre
  have hown : s.vm.findClass RX8 = some m.cls := findClass_of_methodNamed B.named
  have hlocks := B.notSynchronized
  have hH : HI D S S s s.heap [] := HI.start hH0
  have hl := lv_entry ([.ref a0, .int p1]) (n := 2) (Nat.le_of_ble_eq_true rfl)
  rw [lg_entry_eq]
  generalize (lg_sl ([.ref a0, .int p1]) ++ List.replicate (2 - (lg_sl ([.ref a0, .int p1])).length) Slot.unset).toArray = ls at hl ⊢
  have hl : lv_has ls 2 [(0, .ref a0), (1, .int p1)] := hl
  refine lv_aload_n hx hb dX8_fromOf_0 rfl (lv_at hl 0 rfl) ?_
  obtain ⟨ek1, hf⟩ := oc hf
  obtain ⟨a2, e3, hf⟩ := ob hf
  refine r_getQ hx hb 11 hts (fun w h => List.mem_cons_of_mem _ (mwsX80 w h)) hown hH ek1 (by decide) rfl 1 (by decide) rfl (hts (.fieldLink RX8 20 "Housestyle$Tokens" "froms" "LHousestyle$Row;") (List.mem_cons_of_mem _ gw_1_13)) (fun _ h9 => h9) dX8_fromOf_1 e3 ?_
  refine lv_iload_n hx hb dX8_fromOf_4 rfl (lv_at hl 1 rfl) ?_
  obtain ⟨ek4, hf⟩ := oc hf
  obtain ⟨r5, e6, hf⟩ := ob hf
  refine r_callVi (As := [.int p1]) ⟨hx, hb, hml, hown, hts⟩ (c_X5_get l D S a2 p1 r5 e6) (cwV 1 hts (gwV gw_2_12 gw_2_13 gw_2_14 gw_1_5 gw_2_9) rfl rfl rfl (by decide +kernel) ⟨Nat.le_of_ble_eq_true rfl, Nat.le_of_ble_eq_true rfl⟩) hH hNE 8 ek4 (by decide) rfl rfl rfl hl.1 rfl (Nat.le_of_ble_eq_true rfl) dX8_fromOf_5 ⟨(Nat.le_of_ble_eq_true rfl), (Nat.le_of_ble_eq_true rfl)⟩ (fun H locs hH => ?_)
  have hr9 := Option.some.inj hf
  subst hr9
  exact e_i hx hb hr hlocks hH dX8_fromOf_8
set_option maxRecDepth 100000 in
def f_X8_endOf (S : PS) (a0 : Nat) (p1 : Int32) : Option (Int32) := if kK S a0 = 12 then ((kQ S a0 2).bind fun a2 => if kK S a2 = 9 then ((f_X5_get S a2 p1).bind fun r5 => some r5) else none) else none
abbrev rmX8_endOf : Room := { frames := 1, cells := 0, slots := 0, locals := 21 }
set_option maxHeartbeats 4000000 in
set_option maxRecDepth 100000 in
theorem c_X8_endOf (l : Launch) (D : va_G × Nat) (S : PS) (a0 : Nat) (p1 : Int32) (r : Int32) (hf : f_X8_endOf S a0 p1 = some r) : MI l D yX8_endOf wsX8_endOf rmX8_endOf S [.ref a0, .int p1] S r 0 0 := by
  unfold f_X8_endOf at hf
  refine Met.ofW (cc := cX8_endOf) (maxL := 2) (ret := (some .int)) (by decide) rfl ?_
  intro p e s m args below meth c s₁ B hml hv
  obtain ⟨rfl, hH0, hNE⟩ := hv
  have hx := B.exec
  have hb := B.bytes
  have hr := B.returns
  have hts := atoms_spec (ws := wsX8_endOf) B.pre
  have hown : s.vm.findClass RX8 = some m.cls := findClass_of_methodNamed B.named
  have hlocks := B.notSynchronized
  have hH : HI D S S s s.heap [] := HI.start hH0
  have hl := lv_entry ([.ref a0, .int p1]) (n := 2) (Nat.le_of_ble_eq_true rfl)
  rw [lg_entry_eq]
  generalize (lg_sl ([.ref a0, .int p1]) ++ List.replicate (2 - (lg_sl ([.ref a0, .int p1])).length) Slot.unset).toArray = ls at hl ⊢
  have hl : lv_has ls 2 [(0, .ref a0), (1, .int p1)] := hl
  refine lv_aload_n hx hb dX8_endOf_0 rfl (lv_at hl 0 rfl) ?_
  obtain ⟨ek1, hf⟩ := oc hf
  obtain ⟨a2, e3, hf⟩ := ob hf
  refine r_getQ hx hb 11 hts (fun w h => List.mem_cons_of_mem _ (mwsX80 w h)) hown hH ek1 (by decide) rfl 2 (by decide) rfl (hts (.fieldLink RX8 23 "Housestyle$Tokens" "ends" "LHousestyle$Row;") (List.mem_cons_of_mem _ gw_2_18)) (fun _ h9 => h9) dX8_endOf_1 e3 ?_
  refine lv_iload_n hx hb dX8_endOf_4 rfl (lv_at hl 1 rfl) ?_
  obtain ⟨ek4, hf⟩ := oc hf
  obtain ⟨r5, e6, hf⟩ := ob hf
  refine r_callVi (As := [.int p1]) ⟨hx, hb, hml, hown, hts⟩ (c_X5_get l D S a2 p1 r5 e6) (cwV 1 hts (gwV gw_2_12 gw_2_13 gw_2_14 gw_1_5 gw_2_9) rfl rfl rfl (by decide +kernel) ⟨Nat.le_of_ble_eq_true rfl, Nat.le_of_ble_eq_true rfl⟩) hH hNE 8 ek4 (by decide) rfl rfl rfl hl.1 rfl (Nat.le_of_ble_eq_true rfl) dX8_endOf_5 ⟨(Nat.le_of_ble_eq_true rfl), (Nat.le_of_ble_eq_true rfl)⟩ (fun H locs hH => ?_)
  have hr9 := Option.some.inj hf
  subst hr9
  exact e_i hx hb hr hlocks hH dX8_endOf_8
set_option maxRecDepth 100000 in
def f_X2_lengthAt (S : PS) (a0 : Nat) (p1 : Int32) (p2 : Int32) : Option (Int32) := if kK S a0 = 6 then ((kQ S a0 1).bind fun a2 => (kQ S a0 0).bind fun a4 => if kK S a4 = 4 then ((f_X0_itemsOf S a4 p1).bind fun r7 => if kK S a2 = 12 then ((f_X8_endOf S a2 ((p2 + r7) - 1)).bind fun r10 => (f_X8_fromOf S a2 p2).bind fun r12 => some (r10 - r12)) else none) else none) else none
abbrev rmX2_lengthAt : Room := { frames := 4, cells := 0, slots := 0, locals := 85 }
set_option maxHeartbeats 4000000 in
set_option maxRecDepth 100000 in
theorem c_X2_lengthAt (l : Launch) (D : va_G × Nat) (S : PS) (a0 : Nat) (p1 : Int32) (p2 : Int32) (r : Int32) (hf : f_X2_lengthAt S a0 p1 p2 = some r) : MI l D yX2_lengthAt wsX2_lengthAt rmX2_lengthAt S [.ref a0, .int p1, .int p2] S r 0 0 := by
  unfold f_X2_lengthAt at hf
  refine Met.ofW (cc := cX2_lengthAt) (maxL := 3) (ret := (some .int)) (by decide) rfl ?_
  intro p e s m args below meth c s₁ B hml hv
  obtain ⟨rfl, hH0, hNE⟩ := hv
  have hx := B.exec
  have hb := B.bytes
  have hr := B.returns
  have hts := atoms_spec (ws := wsX2_lengthAt) B.pre
  have hown : s.vm.findClass RX2 = some m.cls := findClass_of_methodNamed B.named
  have hlocks := B.notSynchronized
  have hH : HI D S S s s.heap [] := HI.start hH0
  have hl := lv_entry ([.ref a0, .int p1, .int p2]) (n := 3) (Nat.le_of_ble_eq_true rfl)
  rw [lg_entry_eq]
  generalize (lg_sl ([.ref a0, .int p1, .int p2]) ++ List.replicate (3 - (lg_sl ([.ref a0, .int p1, .int p2])).length) Slot.unset).toArray = ls at hl ⊢
  have hl : lv_has ls 3 [(0, .ref a0), (1, .int p1), (2, .int p2)] := hl
  refine lv_aload_n hx hb dX2_lengthAt_0 rfl (lv_at hl 0 rfl) ?_
  obtain ⟨ek1, hf⟩ := oc hf
  obtain ⟨a2, e3, hf⟩ := ob hf
  refine r_getQ hx hb 5 hts (fun w h => List.mem_cons_of_mem _ (mwsX20 w h)) hown hH ek1 (by decide) rfl 1 (by decide) rfl (hts (.fieldLink RX2 15 "Housestyle$Findings" "tokens" "LHousestyle$Tokens;") (List.mem_cons_of_mem _ gw_10_13)) (fun _ h9 => h9) dX2_lengthAt_1 e3 ?_
  refine lv_iload_n hx hb dX2_lengthAt_4 rfl (lv_at hl 2 rfl) ?_
  refine lv_aload_n hx hb dX2_lengthAt_5 rfl (lv_at hl 0 rfl) ?_
  obtain ⟨a4, e5, hf⟩ := ob hf
  refine r_getQ hx hb 5 hts (fun w h => List.mem_cons_of_mem _ (mwsX20 w h)) hown hH ek1 (by decide) rfl 0 (by decide) rfl (hts (.fieldLink RX2 9 "Housestyle$Findings" "book" "LHousestyle$Book;") (List.mem_cons_of_mem _ gw_10_12)) (fun _ h9 => h9) dX2_lengthAt_6 e5 ?_
  refine lv_iload_n hx hb dX2_lengthAt_9 rfl (lv_at hl 1 rfl) ?_
  obtain ⟨ek6, hf⟩ := oc hf
  obtain ⟨r7, e8, hf⟩ := ob hf
  refine r_callVi (As := [.int p1]) ⟨hx, hb, hml, hown, hts⟩ (c_X0_itemsOf l D S a4 p1 r7 e8) (cwV 1 hts (gwV gw_11_8 gw_11_9 gw_11_10 gw_6_5 gw_7_4) rfl rfl rfl (by decide +kernel) ⟨Nat.le_of_ble_eq_true rfl, Nat.le_of_ble_eq_true rfl⟩) hH hNE 3 ek6 (by decide) rfl rfl rfl hl.1 rfl (Nat.le_of_ble_eq_true rfl) dX2_lengthAt_10 ⟨(Nat.le_of_ble_eq_true rfl), (Nat.le_of_ble_eq_true rfl)⟩ (fun H locs hH => ?_)
  refine lv_iadd hx hb dX2_lengthAt_13 ?_
  refine lv_iconst (v := 1) hx hb dX2_lengthAt_14 (by decide) ?_
  refine lv_isub hx hb dX2_lengthAt_15 ?_
  obtain ⟨ek9, hf⟩ := oc hf
  obtain ⟨r10, e11, hf⟩ := ob hf
  refine r_callVi (As := [.int ((p2 + r7) - 1)]) ⟨hx, hb, hml, hown, hts⟩ (c_X8_endOf l D S a2 ((p2 + r7) - 1) r10 e11) (cwV 1 hts (gwV gw_11_11 gw_11_12 gw_11_13 gw_2_23 gw_11_6) rfl rfl rfl (by decide +kernel) ⟨Nat.le_of_ble_eq_true rfl, Nat.le_of_ble_eq_true rfl⟩) hH hNE 11 ek9 (by decide) rfl rfl rfl hl.1 rfl (Nat.le_of_ble_eq_true rfl) dX2_lengthAt_16 ⟨(Nat.le_of_ble_eq_true rfl), (Nat.le_of_ble_eq_true rfl)⟩ (fun H locs hH => ?_)
  refine lv_aload_n hx hb dX2_lengthAt_19 rfl (lv_at hl 0 rfl) ?_
  refine r_getQ hx hb 5 hts (fun w h => List.mem_cons_of_mem _ (mwsX20 w h)) hown hH ek1 (by decide) rfl 1 (by decide) rfl (hts (.fieldLink RX2 15 "Housestyle$Findings" "tokens" "LHousestyle$Tokens;") (List.mem_cons_of_mem _ gw_10_13)) (fun _ h9 => h9) dX2_lengthAt_20 e3 ?_
  refine lv_iload_n hx hb dX2_lengthAt_23 rfl (lv_at hl 2 rfl) ?_
  obtain ⟨r12, e13, hf⟩ := ob hf
  refine r_callVi (As := [.int p2]) ⟨hx, hb, hml, hown, hts⟩ (c_X8_fromOf l D S a2 p2 r12 e13) (cwV 1 hts (gwV gw_11_3 gw_11_4 gw_11_5 gw_2_23 gw_11_1) rfl rfl rfl (by decide +kernel) ⟨Nat.le_of_ble_eq_true rfl, Nat.le_of_ble_eq_true rfl⟩) hH hNE 11 ek9 (by decide) rfl rfl rfl hl.1 rfl (Nat.le_of_ble_eq_true rfl) dX2_lengthAt_24 ⟨(Nat.le_of_ble_eq_true rfl), (Nat.le_of_ble_eq_true rfl)⟩ (fun H locs hH => ?_)
  refine lv_isub hx hb dX2_lengthAt_27 ?_
  have hr9 := Option.some.inj hf
  subst hr9
  exact e_i hx hb hr hlocks hH dX2_lengthAt_28
set_option maxRecDepth 100000 in
def f_X1_ignores_b3 (a0 : Nat) (p1 : Int32) (p2 : Int32) (p3 : Int32) (S : PS) (x1 : Int32) : Option ((Int32) ⊕ ((Unit) ⊕ (Unit))) := if kK S a0 = 5 then ((f_X1_ignoredCount S a0).bind fun r10 => if r10 ≤ x1 then (some (.inr (.inl ()))) else ((kQ S a0 1).bind fun a13 => if kK S a13 = 9 then ((f_X5_get S a13 x1).bind fun r16 => lt (fun (u21 : Unit) => lt (x1 + 1) fun x19 => some (.inl x19)) fun j18 => if r16 = p1 then ((kQ S a0 2).bind fun a24 => if kK S a24 = 9 then ((f_X5_get S a24 x1).bind fun r27 => if r27 = p2 then ((kQ S a0 3).bind fun a30 => if kK S a30 = 9 then ((f_X5_get S a30 x1).bind fun r33 => if r33 = p3 then (some (.inr (.inr ()))) else (j18 ())) else none) else (j18 ())) else none) else (j18 ())) else none)) else none
set_option maxRecDepth 100000 in
def f_X1_ignores (S : PS) (a0 : Nat) (p1 : Int32) (p2 : Int32) (p3 : Int32) : Option (Int32) := lt (fun (u4 : Unit) => some 0) fun k2 => lt (fun (u7 : Unit) => some 1) fun k5 => (iter (fun (v : Int32) => f_X1_ignores_b3 a0 p1 p2 p3 S v) kF 0).bind (fun (z : (Unit) ⊕ (Unit)) => Sum.elim (fun (v : Unit) => k2 v) (fun (v : Unit) => k5 v) z)
abbrev rmX1_ignores : Room := { frames := 2, cells := 0, slots := 0, locals := 40 }
set_option maxHeartbeats 4000000 in
set_option maxRecDepth 100000 in
theorem c_X1_ignores (l : Launch) (D : va_G × Nat) (S : PS) (a0 : Nat) (p1 : Int32) (p2 : Int32) (p3 : Int32) (r : Int32) (hf : f_X1_ignores S a0 p1 p2 p3 = some r) : MI l D yX1_ignores wsX1_ignores rmX1_ignores S [.ref a0, .int p1, .int p2, .int p3] S r 0 0 := by
  unfold f_X1_ignores at hf
  refine Met.ofW (cc := cX1_ignores) (maxL := 5) (ret := (some .boolean)) (by decide) rfl ?_
  intro p e s m args below meth c s₁ B hml hv
  obtain ⟨rfl, hH0, hNE⟩ := hv
  have hx := B.exec
  have hb := B.bytes
  have hr := B.returns
  have hts := atoms_spec (ws := wsX1_ignores) B.pre
  have hown : s.vm.findClass RX1 = some m.cls := findClass_of_methodNamed B.named
  have hlocks := B.notSynchronized
  have hH : HI D S S s s.heap [] := HI.start hH0
  have hl := lv_entry ([.ref a0, .int p1, .int p2, .int p3]) (n := 5) (Nat.le_of_ble_eq_true rfl)
  rw [lg_entry_eq]
  generalize (lg_sl ([.ref a0, .int p1, .int p2, .int p3]) ++ List.replicate (5 - (lg_sl ([.ref a0, .int p1, .int p2, .int p3])).length) Slot.unset).toArray = ls at hl ⊢
  have hl : lv_has ls 5 [(0, .ref a0), (1, .int p1), (2, .int p2), (3, .int p3)] := hl
  refine lv_iconst (v := 0) hx hb dX1_ignores_0 (by decide) ?_
  refine lv_istore (lv' := [(4, .int 0), (0, .ref a0), (1, .int p1), (2, .int p2), (3, .int p3)]) hx hb dX1_ignores_1 hl (by decide) rfl (fun ls hl => ?_)
  obtain ⟨k2, e3, hf⟩ := ol hf
  have Xk2 : ∀ (u4 : Unit) (H : Heap) (locs : List Loc) (ls : Array Slot), HI D S S s H locs → lv_has ls 5 [] → k2 u4 = some r → GI p l e (headSpec wsX1_ignores rmX1_ignores).room s m ([.ref a0, .int p1, .int p2, .int p3] : List Value).toArray below meth c D S S r H locs 0 0 0 0 (F0 m 59 ls []) := by
    intro u4 H locs ls hH hl hf
    rw [← e3] at hf
    refine lv_iconst (v := 0) hx hb dX1_ignores_59 (by decide) ?_
    have hr9 := Option.some.inj hf
    subst hr9
    exact e_z (r := 0) hx hb hr hlocks rfl hH dX1_ignores_60
  obtain ⟨k5, e6, hf⟩ := ol hf
  have Xk5 : ∀ (u7 : Unit) (H : Heap) (locs : List Loc) (ls : Array Slot), HI D S S s H locs → lv_has ls 5 [] → k5 u7 = some r → GI p l e (headSpec wsX1_ignores rmX1_ignores).room s m ([.ref a0, .int p1, .int p2, .int p3] : List Value).toArray below meth c D S S r H locs 0 0 0 0 (F0 m 51 ls []) := by
    intro u7 H locs ls hH hl hf
    rw [← e6] at hf
    refine lv_iconst (v := 1) hx hb dX1_ignores_51 (by decide) ?_
    have hr9 := Option.some.inj hf
    subst hr9
    exact e_z (r := 1) hx hb hr hlocks rfl hH dX1_ignores_52
  obtain ⟨o8, eo8, hq8f⟩ := ob hf
  have Lo8 : ∀ (n : Nat) (x1 : Int32), iter (fun (v : Int32) => f_X1_ignores_b3 a0 p1 p2 p3 S v) n x1 = some o8 → ∀ (H : Heap) (locs : List Loc) (ls : Array Slot), HI D S S s H locs → lv_has ls 5 [(0, .ref a0), (1, .int p1), (2, .int p2), (3, .int p3), (4, .int x1)] → GI p l e (headSpec wsX1_ignores rmX1_ignores).room s m ([.ref a0, .int p1, .int p2, .int p3] : List Value).toArray below meth c D S S r H locs 0 0 0 0 (F0 m 3 ls []) := by
    intro n
    induction n with
    | zero => intro x1 hi; cases hi
    | succ n ih8 =>
      intro x1 hi H locs ls hH hl
      obtain ⟨q8_, hf, hq8⟩ := iter_s hi
      have hf : f_X1_ignores_b3 a0 p1 p2 p3 S x1 = some q8_ := hf
      unfold f_X1_ignores_b3 at hf
      refine lv_iload hx hb dX1_ignores_3 (lv_at hl 4 rfl) ?_
      refine lv_aload_n hx hb dX1_ignores_5 rfl (lv_at hl 0 rfl) ?_
      obtain ⟨ek9, hf⟩ := oc hf
      obtain ⟨r10, e11, hf⟩ := ob hf
      refine r_callVi (As := []) ⟨hx, hb, hml, hown, hts⟩ (c_X1_ignoredCount l D S a0 r10 e11) (cwV 0 hts (gwV gw_9_17 gw_9_18 gw_9_19 gw_9_20 gw_9_7) rfl rfl rfl (by decide +kernel) ⟨Nat.le_of_ble_eq_true rfl, Nat.le_of_ble_eq_true rfl⟩) hH hNE 4 ek9 (by decide) rfl rfl rfl hl.1 rfl (Nat.le_of_ble_eq_true rfl) dX1_ignores_6 ⟨(Nat.le_of_ble_eq_true rfl), (Nat.le_of_ble_eq_true rfl)⟩ (fun H locs hH => ?_)
      refine lv_icmp_ge (tgt := 59) hx hb dX1_ignores_9 (by decide) (fun c12 => ?_) (fun c12 => ?_)
      · have hf := ip hf c12
        cases hf
        have hf9 := itR (K := (fun (z : (Unit) ⊕ (Unit)) => Sum.elim (fun (v : Unit) => k2 v) (fun (v : Unit) => k5 v) z)) hq8 hq8f
        exact Xk2 () _ _ ls hH (lv_sub hl [] rfl) hf9
      · have hf := iq hf c12
        refine lv_aload_n hx hb dX1_ignores_12 rfl (lv_at hl 0 rfl) ?_
        obtain ⟨a13, e14, hf⟩ := ob hf
        refine r_getQ hx hb 4 hts (fun w h => List.mem_cons_of_mem _ (mwsX10 w h)) hown hH ek9 (by decide) rfl 1 (by decide) rfl (hts (.fieldLink RX1 23 "Housestyle$Desk" "ignoredRules" "LHousestyle$Row;") (List.mem_cons_of_mem _ gw_8_22)) (fun _ h9 => h9) dX1_ignores_13 e14 ?_
        refine lv_iload hx hb dX1_ignores_16 (lv_at hl 4 rfl) ?_
        obtain ⟨ek15, hf⟩ := oc hf
        obtain ⟨r16, e17, hf⟩ := ob hf
        refine r_callVi (As := [.int x1]) ⟨hx, hb, hml, hown, hts⟩ (c_X5_get l D S a13 x1 r16 e17) (cwV 1 hts (gwV gw_9_21 gw_2_13 gw_2_14 gw_1_5 gw_2_9) rfl rfl rfl (by decide +kernel) ⟨Nat.le_of_ble_eq_true rfl, Nat.le_of_ble_eq_true rfl⟩) hH hNE 8 ek15 (by decide) rfl rfl rfl hl.1 rfl (Nat.le_of_ble_eq_true rfl) dX1_ignores_18 ⟨(Nat.le_of_ble_eq_true rfl), (Nat.le_of_ble_eq_true rfl)⟩ (fun H locs hH => ?_)
        refine lv_iload_n hx hb dX1_ignores_21 rfl (lv_at hl 1 rfl) ?_
        obtain ⟨j18, e22, hf⟩ := ol hf
        have Jj18 : ∀ (u21 : Unit) (H : Heap) (locs : List Loc) (ls : Array Slot), HI D S S s H locs → lv_has ls 5 [(0, .ref a0), (1, .int p1), (2, .int p2), (3, .int p3), (4, .int x1)] → j18 u21 = some q8_ → GI p l e (headSpec wsX1_ignores rmX1_ignores).room s m ([.ref a0, .int p1, .int p2, .int p3] : List Value).toArray below meth c D S S r H locs 0 0 0 0 (F0 m 53 ls []) := by
          intro u21 H locs ls hH hl hf
          rw [← e22] at hf
          obtain ⟨x19, e20, hf⟩ := ol hf
          refine lv_iinc (v := x19) (lv' := [(4, .int x19), (0, .ref a0), (1, .int p1), (2, .int p2), (3, .int p3)]) hx hb dX1_ignores_53 hl (k := 4) rfl (by rw [← e20]; rfl) (by decide) rfl (fun ls hl => ?_)
          refine lv_goto (tgt := 3) hx hb dX1_ignores_56 (by decide) ?_
          cases hf
          exact ih8 x19 hq8 _ _ ls hH (lv_sub hl [1, 2, 3, 4, 0] rfl)
        refine lv_icmp_ne (tgt := 53) hx hb dX1_ignores_22 (by decide) (fun c23 => ?_) (fun c23 => ?_)
        · have hf := iq hf c23
          exact Jj18 () _ _ ls hH (lv_sub hl [0, 1, 2, 3, 4] rfl) hf
        · have hf := ip hf c23
          refine lv_aload_n hx hb dX1_ignores_25 rfl (lv_at hl 0 rfl) ?_
          obtain ⟨a24, e25, hf⟩ := ob hf
          refine r_getQ hx hb 4 hts (fun w h => List.mem_cons_of_mem _ (mwsX10 w h)) hown hH ek9 (by decide) rfl 2 (by decide) rfl (hts (.fieldLink RX1 26 "Housestyle$Desk" "ignoredFroms" "LHousestyle$Row;") (List.mem_cons_of_mem _ gw_8_23)) (fun _ h9 => h9) dX1_ignores_26 e25 ?_
          refine lv_iload hx hb dX1_ignores_29 (lv_at hl 4 rfl) ?_
          obtain ⟨ek26, hf⟩ := oc hf
          obtain ⟨r27, e28, hf⟩ := ob hf
          refine r_callVi (As := [.int x1]) ⟨hx, hb, hml, hown, hts⟩ (c_X5_get l D S a24 x1 r27 e28) (cwV 1 hts (gwV gw_9_21 gw_2_13 gw_2_14 gw_1_5 gw_2_9) rfl rfl rfl (by decide +kernel) ⟨Nat.le_of_ble_eq_true rfl, Nat.le_of_ble_eq_true rfl⟩) hH hNE 8 ek26 (by decide) rfl rfl rfl hl.1 rfl (Nat.le_of_ble_eq_true rfl) dX1_ignores_31 ⟨(Nat.le_of_ble_eq_true rfl), (Nat.le_of_ble_eq_true rfl)⟩ (fun H locs hH => ?_)
          refine lv_iload_n hx hb dX1_ignores_34 rfl (lv_at hl 2 rfl) ?_
          refine lv_icmp_ne (tgt := 53) hx hb dX1_ignores_35 (by decide) (fun c29 => ?_) (fun c29 => ?_)
          · have hf := iq hf c29
            exact Jj18 () _ _ ls hH (lv_sub hl [0, 1, 2, 3, 4] rfl) hf
          · have hf := ip hf c29
            refine lv_aload_n hx hb dX1_ignores_38 rfl (lv_at hl 0 rfl) ?_
            obtain ⟨a30, e31, hf⟩ := ob hf
            refine r_getQ hx hb 4 hts (fun w h => List.mem_cons_of_mem _ (mwsX10 w h)) hown hH ek9 (by decide) rfl 3 (by decide) rfl (hts (.fieldLink RX1 29 "Housestyle$Desk" "ignoredLengths" "LHousestyle$Row;") (List.mem_cons_of_mem _ gw_9_0)) (fun _ h9 => h9) dX1_ignores_39 e31 ?_
            refine lv_iload hx hb dX1_ignores_42 (lv_at hl 4 rfl) ?_
            obtain ⟨ek32, hf⟩ := oc hf
            obtain ⟨r33, e34, hf⟩ := ob hf
            refine r_callVi (As := [.int x1]) ⟨hx, hb, hml, hown, hts⟩ (c_X5_get l D S a30 x1 r33 e34) (cwV 1 hts (gwV gw_9_21 gw_2_13 gw_2_14 gw_1_5 gw_2_9) rfl rfl rfl (by decide +kernel) ⟨Nat.le_of_ble_eq_true rfl, Nat.le_of_ble_eq_true rfl⟩) hH hNE 8 ek32 (by decide) rfl rfl rfl hl.1 rfl (Nat.le_of_ble_eq_true rfl) dX1_ignores_44 ⟨(Nat.le_of_ble_eq_true rfl), (Nat.le_of_ble_eq_true rfl)⟩ (fun H locs hH => ?_)
            refine lv_iload_n hx hb dX1_ignores_47 rfl (lv_at hl 3 rfl) ?_
            refine lv_icmp_ne (tgt := 53) hx hb dX1_ignores_48 (by decide) (fun c35 => ?_) (fun c35 => ?_)
            · have hf := iq hf c35
              exact Jj18 () _ _ ls hH (lv_sub hl [0, 1, 2, 3, 4] rfl) hf
            · have hf := ip hf c35
              cases hf
              have hf9 := itR (K := (fun (z : (Unit) ⊕ (Unit)) => Sum.elim (fun (v : Unit) => k2 v) (fun (v : Unit) => k5 v) z)) hq8 hq8f
              exact Xk5 () _ _ ls hH (lv_sub hl [] rfl) hf9
  exact Lo8 kF 0 eo8 _ _ ls hH (lv_sub hl [1, 2, 3, 4, 0] rfl)
set_option maxRecDepth 100000 in
def f_X2_cover_b2 (a0 : Nat) (p1 : Int32) (p2 : Int32) (x1 : Int32) (S2 : PS) : Option ((Int32 × PS) ⊕ ((PS))) := if p2 ≤ x1 then (some (.inr S2)) else (if kK S2 a0 = 6 then ((kQ S2 a0 2).bind fun a9 => if kK S2 a9 = 9 then ((f_X5_set S2 a9 (p1 + x1) 1).bind fun r12 => lt (x1 + 1) fun x14 => some (.inl (x14, r12))) else none) else none)
set_option maxRecDepth 100000 in
def f_X2_cover (S : PS) (a0 : Nat) (p1 : Int32) (p2 : Int32) : Option (PS) := lt (fun (S3 : PS) => some S3) fun k4 => (iter (fun (v : Int32 × PS) => f_X2_cover_b2 a0 p1 p2 v.1 v.2) kF (0, S)).bind (fun (v : PS) => k4 v)
abbrev rmX2_cover : Room := { frames := 1, cells := 0, slots := 0, locals := 22 }
set_option maxHeartbeats 4000000 in
set_option maxRecDepth 100000 in
theorem c_X2_cover (l : Launch) (D : va_G × Nat) (S : PS) (a0 : Nat) (p1 : Int32) (p2 : Int32) (r : PS) (hf : f_X2_cover S a0 p1 p2 = some r) : MV l D yX2_cover wsX2_cover rmX2_cover S [.ref a0, .int p1, .int p2] r 0 0 := by
  unfold f_X2_cover at hf
  refine Met.ofW (cc := cX2_cover) (maxL := 4) (ret := none) (by decide) rfl ?_
  intro p e s m args below meth c s₁ B hml hv
  obtain ⟨rfl, hH0, hNE⟩ := hv
  have hx := B.exec
  have hb := B.bytes
  have hr := B.returns
  have hts := atoms_spec (ws := wsX2_cover) B.pre
  have hown : s.vm.findClass RX2 = some m.cls := findClass_of_methodNamed B.named
  have hlocks := B.notSynchronized
  have hH : HI D S S s s.heap [] := HI.start hH0
  have hl := lv_entry ([.ref a0, .int p1, .int p2]) (n := 4) (Nat.le_of_ble_eq_true rfl)
  rw [lg_entry_eq]
  generalize (lg_sl ([.ref a0, .int p1, .int p2]) ++ List.replicate (4 - (lg_sl ([.ref a0, .int p1, .int p2])).length) Slot.unset).toArray = ls at hl ⊢
  have hl : lv_has ls 4 [(0, .ref a0), (1, .int p1), (2, .int p2)] := hl
  refine lv_iconst (v := 0) hx hb dX2_cover_0 (by decide) ?_
  refine lv_istore_n (lv' := [(3, .int 0), (0, .ref a0), (1, .int p1), (2, .int p2)]) hx hb dX2_cover_1 rfl hl (by decide) rfl (fun ls hl => ?_)
  obtain ⟨k4, e5, hf⟩ := ol hf
  have Xk4 : ∀ (S3 : PS) (H : Heap) (locs : List Loc) (ls : Array Slot), HI D S S3 s H locs → lv_has ls 4 [] → k4 S3 = some r → GV p l e (headSpec wsX2_cover rmX2_cover).room s m ([.ref a0, .int p1, .int p2] : List Value).toArray below meth c D S r H locs 0 0 0 0 (F0 m 24 ls []) := by
    intro S3 H locs ls hH hl hf
    rw [← e5] at hf
    have hr9 := Option.some.inj hf
    subst hr9
    exact e_v hx hb hr hlocks hH dX2_cover_24
  obtain ⟨o6, eo6, hq6f⟩ := ob hf
  have Lo6 : ∀ (n : Nat) (x1 : Int32) (S2 : PS), iter (fun (v : Int32 × PS) => f_X2_cover_b2 a0 p1 p2 v.1 v.2) n (x1, S2) = some o6 → ∀ (H : Heap) (locs : List Loc) (ls : Array Slot), HI D S S2 s H locs → lv_has ls 4 [(0, .ref a0), (1, .int p1), (2, .int p2), (3, .int x1)] → GV p l e (headSpec wsX2_cover rmX2_cover).room s m ([.ref a0, .int p1, .int p2] : List Value).toArray below meth c D S r H locs 0 0 0 0 (F0 m 2 ls []) := by
    intro n
    induction n with
    | zero => intro x1 S2 hi; cases hi
    | succ n ih6 =>
      intro x1 S2 hi H locs ls hH hl
      obtain ⟨q6_, hf, hq6⟩ := iter_s hi
      have hf : f_X2_cover_b2 a0 p1 p2 x1 S2 = some q6_ := hf
      unfold f_X2_cover_b2 at hf
      refine lv_iload_n hx hb dX2_cover_2 rfl (lv_at hl 3 rfl) ?_
      refine lv_iload_n hx hb dX2_cover_3 rfl (lv_at hl 2 rfl) ?_
      refine lv_icmp_ge (tgt := 24) hx hb dX2_cover_4 (by decide) (fun c7 => ?_) (fun c7 => ?_)
      · have hf := ip hf c7
        cases hf
        have hf9 := itR (K := (fun (v : PS) => k4 v)) hq6 hq6f
        exact Xk4 S2 _ _ ls hH (lv_sub hl [] rfl) hf9
      · have hf := iq hf c7
        refine lv_aload_n hx hb dX2_cover_7 rfl (lv_at hl 0 rfl) ?_
        obtain ⟨ek8, hf⟩ := oc hf
        obtain ⟨a9, e10, hf⟩ := ob hf
        refine r_getQ hx hb 5 hts (fun w h => List.mem_cons_of_mem _ (mwsX20 w h)) hown hH ek8 (by decide) rfl 2 (by decide) rfl (hts (.fieldLink RX2 24 "Housestyle$Findings" "covered" "LHousestyle$Row;") (List.mem_cons_of_mem _ gw_10_15)) (fun _ h9 => h9) dX2_cover_8 e10 ?_
        refine lv_iload_n hx hb dX2_cover_11 rfl (lv_at hl 1 rfl) ?_
        refine lv_iload_n hx hb dX2_cover_12 rfl (lv_at hl 3 rfl) ?_
        refine lv_iadd hx hb dX2_cover_13 ?_
        refine lv_iconst (v := 1) hx hb dX2_cover_14 (by decide) ?_
        obtain ⟨ek11, hf⟩ := oc hf
        obtain ⟨r12, e13, hf⟩ := ob hf
        refine r_callVv (As := [.int (p1 + x1), .int 1]) ⟨hx, hb, hml, hown, hts⟩ (c_X5_set l D S2 a9 (p1 + x1) 1 r12 e13) (cwV 2 hts (gwV gw_11_21 gw_5_20 gw_5_21 gw_1_5 gw_5_16) rfl rfl rfl (by decide +kernel) ⟨Nat.le_of_ble_eq_true rfl, Nat.le_of_ble_eq_true rfl⟩) hH hNE 8 ek11 (by decide) rfl rfl rfl hl.1 rfl (Nat.le_of_ble_eq_true rfl) dX2_cover_15 ⟨(Nat.le_of_ble_eq_true rfl), (Nat.le_of_ble_eq_true rfl)⟩ (fun H locs hH => ?_)
        obtain ⟨x14, e15, hf⟩ := ol hf
        refine lv_iinc (v := x14) (lv' := [(3, .int x14), (0, .ref a0), (1, .int p1), (2, .int p2)]) hx hb dX2_cover_18 hl (k := 3) rfl (by rw [← e15]; rfl) (by decide) rfl (fun ls hl => ?_)
        refine lv_goto (tgt := 2) hx hb dX2_cover_21 (by decide) ?_
        cases hf
        exact ih6 x14 r12 hq6 _ _ ls hH (lv_sub hl [1, 2, 3, 0] rfl)
  exact Lo6 kF 0 S eo6 _ _ ls hH (lv_sub hl [1, 2, 3, 0] rfl)
set_option maxRecDepth 100000 in
def f_X2_takeBest_b17 (a0 : Nat) (b1 : Nat) (p2 : Int32) (p3 : Int32) (x2 : Int32) (S : PS) (x21 : Int32) : Option ((Int32) ⊕ ((Unit) ⊕ (Int32))) := if (20 : Int32) < x21 then (some (.inr (.inl ()))) else (lt (fun (u35 : Unit) => lt (x21 + 1) fun x33 => some (.inl x33)) fun j32 => if (p3 &&& (1 <<< (x21 &&& 31))) = 0 then (j32 ()) else (if kK S a0 = 6 then ((kQ S a0 0).bind fun a39 => if kK S a39 = 4 then ((f_X0_itemsOf S a39 x21).bind fun r42 => if r42 = x2 then ((f_X2_isFree S a0 p2 x2).bind fun r45 => if r45 = 0 then (j32 ()) else ((kQ S a0 1).bind fun a48 => if kK S a48 = 12 then ((f_X8_fromOf S a48 p2).bind fun r51 => (f_X2_lengthAt S a0 x21 p2).bind fun r53 => if kK S b1 = 5 then ((f_X1_ignores S b1 x21 r51 r53).bind fun r56 => if r56 = 0 then (some (.inr (.inr x21))) else (j32 ())) else none) else none)) else (j32 ())) else none) else none))
set_option maxRecDepth 100000 in
def f_X2_takeBest_b8 (a0 : Nat) (b1 : Nat) (p2 : Int32) (p3 : Int32) (S : PS) (x2 : Int32) : Option ((Int32) ⊕ ((Unit) ⊕ (Int32 × Int32))) := if x2 < (1 : Int32) then (some (.inr (.inl ()))) else (lt (fun (u26 : Unit) => lt (x2 + (-1)) fun x24 => some (.inl x24)) fun k22 => lt (fun (x27 : Int32) => some (.inr (.inr (x2, x27)))) fun k28 => (iter (fun (v : Int32) => f_X2_takeBest_b17 a0 b1 p2 p3 x2 S v) kF 0).bind (fun (z : (Unit) ⊕ (Int32)) => Sum.elim (fun (v : Unit) => k22 v) (fun (v : Int32) => k28 v) z))
set_option maxRecDepth 100000 in
def f_X2_takeBest (S : PS) (a0 : Nat) (b1 : Nat) (p2 : Int32) (p3 : Int32) : Option (PS) := if p3 = 0 then (some S) else (lt (fun (u5 : Unit) => some S) fun k3 => lt (fun (x6 : Int32) (x7 : Int32) => if kK S a0 = 6 then ((f_X2_cover S a0 p2 x6).bind fun r11 => if kK r11 a0 = 6 then ((kQ r11 a0 3).bind fun a14 => if kK r11 a14 = 9 then ((f_X5_set r11 a14 p2 (x7 + 1)).bind fun r17 => some r17) else none) else none) else none) fun k8 => (iter (fun (v : Int32) => f_X2_takeBest_b8 a0 b1 p2 p3 S v) kF 3).bind (fun (z : (Unit) ⊕ (Int32 × Int32)) => Sum.elim (fun (v : Unit) => k3 v) (fun (v : Int32 × Int32) => k8 v.1 v.2) z))
abbrev rmX2_takeBest : Room := { frames := 5, cells := 0, slots := 0, locals := 107 }
set_option maxHeartbeats 4000000 in
set_option maxRecDepth 100000 in
theorem c_X2_takeBest (l : Launch) (D : va_G × Nat) (S : PS) (a0 : Nat) (b1 : Nat) (p2 : Int32) (p3 : Int32) (r : PS) (hf : f_X2_takeBest S a0 b1 p2 p3 = some r) : MV l D yX2_takeBest wsX2_takeBest rmX2_takeBest S [.ref a0, .ref b1, .int p2, .int p3] r 0 0 := by
  unfold f_X2_takeBest at hf
  refine Met.ofW (cc := cX2_takeBest) (maxL := 6) (ret := none) (by decide) rfl ?_
  intro p e s m args below meth c s₁ B hml hv
  obtain ⟨rfl, hH0, hNE⟩ := hv
  have hx := B.exec
  have hb := B.bytes
  have hr := B.returns
  have hts := atoms_spec (ws := wsX2_takeBest) B.pre
  have hown : s.vm.findClass RX2 = some m.cls := findClass_of_methodNamed B.named
  have hlocks := B.notSynchronized
  have hH : HI D S S s s.heap [] := HI.start hH0
  have hl := lv_entry ([.ref a0, .ref b1, .int p2, .int p3]) (n := 6) (Nat.le_of_ble_eq_true rfl)
  rw [lg_entry_eq]
  generalize (lg_sl ([.ref a0, .ref b1, .int p2, .int p3]) ++ List.replicate (6 - (lg_sl ([.ref a0, .ref b1, .int p2, .int p3])).length) Slot.unset).toArray = ls at hl ⊢
  have hl : lv_has ls 6 [(0, .ref a0), (1, .ref b1), (2, .int p2), (3, .int p3)] := hl
  refine lv_iload_n hx hb dX2_takeBest_0 rfl (lv_at hl 3 rfl) ?_
  refine lv_if_ne (tgt := 5) hx hb dX2_takeBest_1 (by decide) (fun c1 => ?_) (fun c1 => ?_)
  · have hf := iq hf c1
    refine lv_iconst (v := 3) hx hb dX2_takeBest_5 (by decide) ?_
    refine lv_istore (lv' := [(4, .int 3), (0, .ref a0), (1, .ref b1), (2, .int p2), (3, .int p3)]) hx hb dX2_takeBest_6 hl (by decide) rfl (fun ls hl => ?_)
    obtain ⟨k3, e4, hf⟩ := ol hf
    have Xk3 : ∀ (u5 : Unit) (H : Heap) (locs : List Loc) (ls : Array Slot), HI D S S s H locs → lv_has ls 6 [] → k3 u5 = some r → GV p l e (headSpec wsX2_takeBest rmX2_takeBest).room s m ([.ref a0, .ref b1, .int p2, .int p3] : List Value).toArray below meth c D S r H locs 0 0 0 0 (F0 m 113 ls []) := by
      intro u5 H locs ls hH hl hf
      rw [← e4] at hf
      have hr9 := Option.some.inj hf
      subst hr9
      exact e_v hx hb hr hlocks hH dX2_takeBest_113
    obtain ⟨k8, e9, hf⟩ := ol hf
    have Xk8 : ∀ (x6 : Int32) (x7 : Int32) (H : Heap) (locs : List Loc) (ls : Array Slot), HI D S S s H locs → lv_has ls 6 [(0, .ref a0), (2, .int p2), (4, .int x6), (5, .int x7)] → k8 x6 x7 = some r → GV p l e (headSpec wsX2_takeBest rmX2_takeBest).room s m ([.ref a0, .ref b1, .int p2, .int p3] : List Value).toArray below meth c D S r H locs 0 0 0 0 (F0 m 81 ls []) := by
      intro x6 x7 H locs ls hH hl hf
      rw [← e9] at hf
      refine lv_aload_n hx hb dX2_takeBest_81 rfl (lv_at hl 0 rfl) ?_
      refine lv_iload_n hx hb dX2_takeBest_82 rfl (lv_at hl 1 rfl) ?_
      refine lv_iload hx hb dX2_takeBest_83 (lv_at hl 2 rfl) ?_
      obtain ⟨ek10, hf⟩ := oc hf
      obtain ⟨r11, e12, hf⟩ := ob hf
      refine r_callVv (As := [.int p2, .int x6]) ⟨hx, hb, hml, hown, hts⟩ (c_X2_cover l D S a0 p2 x6 r11 e12) (cwV 2 hts (gwV gw_12_5 gw_12_6 gw_12_7 gw_11_18 gw_11_20) rfl rfl rfl (by decide +kernel) ⟨Nat.le_of_ble_eq_true rfl, Nat.le_of_ble_eq_true rfl⟩) hH hNE 5 ek10 (by decide) rfl rfl rfl hl.1 rfl (Nat.le_of_ble_eq_true rfl) dX2_takeBest_85 ⟨(Nat.le_of_ble_eq_true rfl), (Nat.le_of_ble_eq_true rfl)⟩ (fun H locs hH => ?_)
      refine lv_aload_n hx hb dX2_takeBest_88 rfl (lv_at hl 0 rfl) ?_
      obtain ⟨ek13, hf⟩ := oc hf
      obtain ⟨a14, e15, hf⟩ := ob hf
      refine r_getQ hx hb 5 hts (fun w h => List.mem_cons_of_mem _ (mwsX20 w h)) hown hH ek13 (by decide) rfl 3 (by decide) rfl (hts (.fieldLink RX2 28 "Housestyle$Findings" "takenAt" "LHousestyle$Row;") (List.mem_cons_of_mem _ gw_10_16)) (fun _ h9 => h9) dX2_takeBest_89 e15 ?_
      refine lv_iload_n hx hb dX2_takeBest_92 rfl (lv_at hl 1 rfl) ?_
      refine lv_iload hx hb dX2_takeBest_93 (lv_at hl 3 rfl) ?_
      refine lv_iconst (v := 1) hx hb dX2_takeBest_95 (by decide) ?_
      refine lv_iadd hx hb dX2_takeBest_96 ?_
      obtain ⟨ek16, hf⟩ := oc hf
      obtain ⟨r17, e18, hf⟩ := ob hf
      refine r_callVv (As := [.int p2, .int (x7 + 1)]) ⟨hx, hb, hml, hown, hts⟩ (c_X5_set l D r11 a14 p2 (x7 + 1) r17 e18) (cwV 2 hts (gwV gw_11_21 gw_5_20 gw_5_21 gw_1_5 gw_5_16) rfl rfl rfl (by decide +kernel) ⟨Nat.le_of_ble_eq_true rfl, Nat.le_of_ble_eq_true rfl⟩) hH hNE 8 ek16 (by decide) rfl rfl rfl hl.1 rfl (Nat.le_of_ble_eq_true rfl) dX2_takeBest_97 ⟨(Nat.le_of_ble_eq_true rfl), (Nat.le_of_ble_eq_true rfl)⟩ (fun H locs hH => ?_)
      have hr9 := Option.some.inj hf
      subst hr9
      exact e_v hx hb hr hlocks hH dX2_takeBest_100
    obtain ⟨o19, eo19, hq19f⟩ := ob hf
    have Lo19 : ∀ (n : Nat) (x2 : Int32), iter (fun (v : Int32) => f_X2_takeBest_b8 a0 b1 p2 p3 S v) n x2 = some o19 → ∀ (H : Heap) (locs : List Loc) (ls : Array Slot), HI D S S s H locs → lv_has ls 6 [(0, .ref a0), (1, .ref b1), (2, .int p2), (3, .int p3), (4, .int x2)] → GV p l e (headSpec wsX2_takeBest rmX2_takeBest).room s m ([.ref a0, .ref b1, .int p2, .int p3] : List Value).toArray below meth c D S r H locs 0 0 0 0 (F0 m 8 ls []) := by
      intro n
      induction n with
      | zero => intro x2 hi; cases hi
      | succ n ih19 =>
        intro x2 hi H locs ls hH hl
        obtain ⟨q19_, hf, hq19⟩ := iter_s hi
        have hf : f_X2_takeBest_b8 a0 b1 p2 p3 S x2 = some q19_ := hf
        unfold f_X2_takeBest_b8 at hf
        refine lv_iload hx hb dX2_takeBest_8 (lv_at hl 4 rfl) ?_
        refine lv_iconst (v := 1) hx hb dX2_takeBest_10 (by decide) ?_
        refine lv_icmp_lt (tgt := 113) hx hb dX2_takeBest_11 (by decide) (fun c20 => ?_) (fun c20 => ?_)
        · have hf := ip hf c20
          cases hf
          have hf9 := itR (K := (fun (z : (Unit) ⊕ (Int32 × Int32)) => Sum.elim (fun (v : Unit) => k3 v) (fun (v : Int32 × Int32) => k8 v.1 v.2) z)) hq19 hq19f
          exact Xk3 () _ _ ls hH (lv_sub hl [] rfl) hf9
        · have hf := iq hf c20
          refine lv_iconst (v := 0) hx hb dX2_takeBest_14 (by decide) ?_
          refine lv_istore (lv' := [(5, .int 0), (0, .ref a0), (1, .ref b1), (2, .int p2), (3, .int p3), (4, .int x2)]) hx hb dX2_takeBest_15 hl (by decide) rfl (fun ls hl => ?_)
          obtain ⟨k22, e23, hf⟩ := ol hf
          have Xk22 : ∀ (u26 : Unit) (H : Heap) (locs : List Loc) (ls : Array Slot), HI D S S s H locs → lv_has ls 6 [(0, .ref a0), (1, .ref b1), (2, .int p2), (3, .int p3), (4, .int x2)] → k22 u26 = some q19_ → GV p l e (headSpec wsX2_takeBest rmX2_takeBest).room s m ([.ref a0, .ref b1, .int p2, .int p3] : List Value).toArray below meth c D S r H locs 0 0 0 0 (F0 m 107 ls []) := by
            intro u26 H locs ls hH hl hf
            rw [← e23] at hf
            obtain ⟨x24, e25, hf⟩ := ol hf
            refine lv_iinc (v := x24) (lv' := [(4, .int x24), (0, .ref a0), (1, .ref b1), (2, .int p2), (3, .int p3)]) hx hb dX2_takeBest_107 hl (k := 4) rfl (by rw [← e25]; rfl) (by decide) rfl (fun ls hl => ?_)
            refine lv_goto (tgt := 8) hx hb dX2_takeBest_110 (by decide) ?_
            cases hf
            exact ih19 x24 hq19 _ _ ls hH (lv_sub hl [1, 2, 3, 4, 0] rfl)
          obtain ⟨k28, e29, hf⟩ := ol hf
          have Xk28 : ∀ (x27 : Int32) (H : Heap) (locs : List Loc) (ls : Array Slot), HI D S S s H locs → lv_has ls 6 [(0, .ref a0), (2, .int p2), (4, .int x2), (5, .int x27)] → k28 x27 = some q19_ → GV p l e (headSpec wsX2_takeBest rmX2_takeBest).room s m ([.ref a0, .ref b1, .int p2, .int p3] : List Value).toArray below meth c D S r H locs 0 0 0 0 (F0 m 81 ls []) := by
            intro x27 H locs ls hH hl hf
            rw [← e29] at hf
            cases hf
            have hf9 := itR (K := (fun (z : (Unit) ⊕ (Int32 × Int32)) => Sum.elim (fun (v : Unit) => k3 v) (fun (v : Int32 × Int32) => k8 v.1 v.2) z)) hq19 hq19f
            exact Xk8 x2 x27 _ _ ls hH (lv_sub hl [0, 1, 2, 3] rfl) hf9
          obtain ⟨o30, eo30, hq30f⟩ := ob hf
          have Lo30 : ∀ (n : Nat) (x21 : Int32), iter (fun (v : Int32) => f_X2_takeBest_b17 a0 b1 p2 p3 x2 S v) n x21 = some o30 → ∀ (H : Heap) (locs : List Loc) (ls : Array Slot), HI D S S s H locs → lv_has ls 6 [(0, .ref a0), (1, .ref b1), (2, .int p2), (3, .int p3), (4, .int x2), (5, .int x21)] → GV p l e (headSpec wsX2_takeBest rmX2_takeBest).room s m ([.ref a0, .ref b1, .int p2, .int p3] : List Value).toArray below meth c D S r H locs 0 0 0 0 (F0 m 17 ls []) := by
            intro n
            induction n with
            | zero => intro x21 hi; cases hi
            | succ n ih30 =>
              intro x21 hi H locs ls hH hl
              obtain ⟨q30_, hf, hq30⟩ := iter_s hi
              have hf : f_X2_takeBest_b17 a0 b1 p2 p3 x2 S x21 = some q30_ := hf
              unfold f_X2_takeBest_b17 at hf
              refine lv_iload hx hb dX2_takeBest_17 (lv_at hl 5 rfl) ?_
              refine lv_bipush (v := 20) hx hb dX2_takeBest_19 (by decide) ?_
              refine lv_icmp_gt (tgt := 107) hx hb dX2_takeBest_21 (by decide) (fun c31 => ?_) (fun c31 => ?_)
              · have hf := ip hf c31
                cases hf
                have hf9 := itR (K := (fun (z : (Unit) ⊕ (Int32)) => Sum.elim (fun (v : Unit) => k22 v) (fun (v : Int32) => k28 v) z)) hq30 hq30f
                exact Xk22 () _ _ ls hH (lv_sub hl [0, 1, 2, 3, 4] rfl) hf9
              · have hf := iq hf c31
                refine lv_iload_n hx hb dX2_takeBest_24 rfl (lv_at hl 3 rfl) ?_
                refine lv_iconst (v := 1) hx hb dX2_takeBest_25 (by decide) ?_
                refine lv_iload hx hb dX2_takeBest_26 (lv_at hl 5 rfl) ?_
                refine lv_ishl hx hb dX2_takeBest_28 ?_
                refine lv_iand hx hb dX2_takeBest_29 ?_
                obtain ⟨j32, e36, hf⟩ := ol hf
                have Jj32 : ∀ (u35 : Unit) (H : Heap) (locs : List Loc) (ls : Array Slot), HI D S S s H locs → lv_has ls 6 [(0, .ref a0), (1, .ref b1), (2, .int p2), (3, .int p3), (4, .int x2), (5, .int x21)] → j32 u35 = some q30_ → GV p l e (headSpec wsX2_takeBest rmX2_takeBest).room s m ([.ref a0, .ref b1, .int p2, .int p3] : List Value).toArray below meth c D S r H locs 0 0 0 0 (F0 m 101 ls []) := by
                  intro u35 H locs ls hH hl hf
                  rw [← e36] at hf
                  obtain ⟨x33, e34, hf⟩ := ol hf
                  refine lv_iinc (v := x33) (lv' := [(5, .int x33), (0, .ref a0), (1, .ref b1), (2, .int p2), (3, .int p3), (4, .int x2)]) hx hb dX2_takeBest_101 hl (k := 5) rfl (by rw [← e34]; rfl) (by decide) rfl (fun ls hl => ?_)
                  refine lv_goto (tgt := 17) hx hb dX2_takeBest_104 (by decide) ?_
                  cases hf
                  exact ih30 x33 hq30 _ _ ls hH (lv_sub hl [1, 2, 3, 4, 5, 0] rfl)
                refine lv_if_eq (tgt := 101) hx hb dX2_takeBest_30 (by decide) (fun c37 => ?_) (fun c37 => ?_)
                · have hf := ip hf c37
                  exact Jj32 () _ _ ls hH (lv_sub hl [0, 1, 2, 3, 4, 5] rfl) hf
                · have hf := iq hf c37
                  refine lv_aload_n hx hb dX2_takeBest_33 rfl (lv_at hl 0 rfl) ?_
                  obtain ⟨ek38, hf⟩ := oc hf
                  obtain ⟨a39, e40, hf⟩ := ob hf
                  refine r_getQ hx hb 5 hts (fun w h => List.mem_cons_of_mem _ (mwsX20 w h)) hown hH ek38 (by decide) rfl 0 (by decide) rfl (hts (.fieldLink RX2 9 "Housestyle$Findings" "book" "LHousestyle$Book;") (List.mem_cons_of_mem _ gw_10_12)) (fun _ h9 => h9) dX2_takeBest_34 e40 ?_
                  refine lv_iload hx hb dX2_takeBest_37 (lv_at hl 5 rfl) ?_
                  obtain ⟨ek41, hf⟩ := oc hf
                  obtain ⟨r42, e43, hf⟩ := ob hf
                  refine r_callVi (As := [.int x21]) ⟨hx, hb, hml, hown, hts⟩ (c_X0_itemsOf l D S a39 x21 r42 e43) (cwV 1 hts (gwV gw_11_8 gw_11_9 gw_11_10 gw_6_5 gw_7_4) rfl rfl rfl (by decide +kernel) ⟨Nat.le_of_ble_eq_true rfl, Nat.le_of_ble_eq_true rfl⟩) hH hNE 3 ek41 (by decide) rfl rfl rfl hl.1 rfl (Nat.le_of_ble_eq_true rfl) dX2_takeBest_39 ⟨(Nat.le_of_ble_eq_true rfl), (Nat.le_of_ble_eq_true rfl)⟩ (fun H locs hH => ?_)
                  refine lv_iload hx hb dX2_takeBest_42 (lv_at hl 4 rfl) ?_
                  refine lv_icmp_ne (tgt := 101) hx hb dX2_takeBest_44 (by decide) (fun c44 => ?_) (fun c44 => ?_)
                  · have hf := iq hf c44
                    exact Jj32 () _ _ ls hH (lv_sub hl [0, 1, 2, 3, 4, 5] rfl) hf
                  · have hf := ip hf c44
                    refine lv_aload_n hx hb dX2_takeBest_47 rfl (lv_at hl 0 rfl) ?_
                    refine lv_iload_n hx hb dX2_takeBest_48 rfl (lv_at hl 2 rfl) ?_
                    refine lv_iload hx hb dX2_takeBest_49 (lv_at hl 4 rfl) ?_
                    obtain ⟨r45, e46, hf⟩ := ob hf
                    refine r_callVi (As := [.int p2, .int x2]) ⟨hx, hb, hml, hown, hts⟩ (c_X2_isFree l D S a0 p2 x2 r45 e46) (cwV 2 hts (gwV gw_11_23 gw_12_0 gw_12_1 gw_11_18 gw_11_19) rfl rfl rfl (by decide +kernel) ⟨Nat.le_of_ble_eq_true rfl, Nat.le_of_ble_eq_true rfl⟩) hH hNE 5 ek38 (by decide) rfl rfl rfl hl.1 rfl (Nat.le_of_ble_eq_true rfl) dX2_takeBest_51 ⟨(Nat.le_of_ble_eq_true rfl), (Nat.le_of_ble_eq_true rfl)⟩ (fun H locs hH => ?_)
                    refine lv_if_eq (tgt := 101) hx hb dX2_takeBest_54 (by decide) (fun c47 => ?_) (fun c47 => ?_)
                    · have hf := ip hf c47
                      exact Jj32 () _ _ ls hH (lv_sub hl [0, 1, 2, 3, 4, 5] rfl) hf
                    · have hf := iq hf c47
                      refine lv_aload_n hx hb dX2_takeBest_57 rfl (lv_at hl 1 rfl) ?_
                      refine lv_iload hx hb dX2_takeBest_58 (lv_at hl 5 rfl) ?_
                      refine lv_aload_n hx hb dX2_takeBest_60 rfl (lv_at hl 0 rfl) ?_
                      obtain ⟨a48, e49, hf⟩ := ob hf
                      refine r_getQ hx hb 5 hts (fun w h => List.mem_cons_of_mem _ (mwsX20 w h)) hown hH ek38 (by decide) rfl 1 (by decide) rfl (hts (.fieldLink RX2 15 "Housestyle$Findings" "tokens" "LHousestyle$Tokens;") (List.mem_cons_of_mem _ gw_10_13)) (fun _ h9 => h9) dX2_takeBest_61 e49 ?_
                      refine lv_iload_n hx hb dX2_takeBest_64 rfl (lv_at hl 2 rfl) ?_
                      obtain ⟨ek50, hf⟩ := oc hf
                      obtain ⟨r51, e52, hf⟩ := ob hf
                      refine r_callVi (As := [.int p2]) ⟨hx, hb, hml, hown, hts⟩ (c_X8_fromOf l D S a48 p2 r51 e52) (cwV 1 hts (gwV gw_11_3 gw_11_4 gw_11_5 gw_2_23 gw_11_1) rfl rfl rfl (by decide +kernel) ⟨Nat.le_of_ble_eq_true rfl, Nat.le_of_ble_eq_true rfl⟩) hH hNE 11 ek50 (by decide) rfl rfl rfl hl.1 rfl (Nat.le_of_ble_eq_true rfl) dX2_takeBest_65 ⟨(Nat.le_of_ble_eq_true rfl), (Nat.le_of_ble_eq_true rfl)⟩ (fun H locs hH => ?_)
                      refine lv_aload_n hx hb dX2_takeBest_68 rfl (lv_at hl 0 rfl) ?_
                      refine lv_iload hx hb dX2_takeBest_69 (lv_at hl 5 rfl) ?_
                      refine lv_iload_n hx hb dX2_takeBest_71 rfl (lv_at hl 2 rfl) ?_
                      obtain ⟨r53, e54, hf⟩ := ob hf
                      refine r_callVi (As := [.int x21, .int p2]) ⟨hx, hb, hml, hown, hts⟩ (c_X2_lengthAt l D S a0 x21 p2 r53 e54) (cwV 2 hts (gwV gw_11_15 gw_11_16 gw_11_17 gw_11_18 gw_11_7) rfl rfl rfl (by decide +kernel) ⟨Nat.le_of_ble_eq_true rfl, Nat.le_of_ble_eq_true rfl⟩) hH hNE 5 ek38 (by decide) rfl rfl rfl hl.1 rfl (Nat.le_of_ble_eq_true rfl) dX2_takeBest_72 ⟨(Nat.le_of_ble_eq_true rfl), (Nat.le_of_ble_eq_true rfl)⟩ (fun H locs hH => ?_)
                      obtain ⟨ek55, hf⟩ := oc hf
                      obtain ⟨r56, e57, hf⟩ := ob hf
                      refine r_callVi (As := [.int x21, .int r51, .int r53]) ⟨hx, hb, hml, hown, hts⟩ (c_X1_ignores l D S b1 x21 r51 r53 r56 e57) (cwV 3 hts (gwV gw_12_2 gw_12_3 gw_12_4 gw_9_20 gw_9_16) rfl rfl rfl (by decide +kernel) ⟨Nat.le_of_ble_eq_true rfl, Nat.le_of_ble_eq_true rfl⟩) hH hNE 4 ek55 (by decide) rfl rfl rfl hl.1 rfl (Nat.le_of_ble_eq_true rfl) dX2_takeBest_75 ⟨(Nat.le_of_ble_eq_true rfl), (Nat.le_of_ble_eq_true rfl)⟩ (fun H locs hH => ?_)
                      refine lv_if_ne (tgt := 101) hx hb dX2_takeBest_78 (by decide) (fun c58 => ?_) (fun c58 => ?_)
                      · have hf := iq hf c58
                        exact Jj32 () _ _ ls hH (lv_sub hl [0, 1, 2, 3, 4, 5] rfl) hf
                      · have hf := ip hf c58
                        cases hf
                        have hf9 := itR (K := (fun (z : (Unit) ⊕ (Int32)) => Sum.elim (fun (v : Unit) => k22 v) (fun (v : Int32) => k28 v) z)) hq30 hq30f
                        exact Xk28 x21 _ _ ls hH (lv_sub hl [0, 2, 4, 5] rfl) hf9
          exact Lo30 kF 0 eo30 _ _ ls hH (lv_sub hl [1, 2, 3, 4, 5, 0] rfl)
    exact Lo19 kF 3 eo19 _ _ ls hH (lv_sub hl [1, 2, 3, 4, 0] rfl)
  · have hf := ip hf c1
    have hr9 := Option.some.inj hf
    subst hr9
    exact e_v hx hb hr hlocks hH dX2_takeBest_4
set_option maxRecDepth 100000 in
def f_X2_solve_b116 (a0 : Nat) (x40 : Int32) (S41 : PS) : Option ((Int32 × PS) ⊕ ((PS))) := if kK S41 a0 = 6 then ((kQ S41 a0 1).bind fun a47 => if kK S41 a47 = 12 then ((f_X8_count S41 a47).bind fun r50 => if r50 ≤ x40 then (some (.inr S41)) else ((kQ S41 a0 3).bind fun a53 => if kK S41 a53 = 9 then ((f_X5_get S41 a53 x40).bind fun r56 => lt (fun (S58 : PS) => lt (x40 + 1) fun x60 => some (.inl (x60, S58))) fun j59 => if r56 = 0 then (j59 S41) else ((kQ S41 a0 4).bind fun a64 => if kK S41 a64 = 9 then ((f_X5_add S41 a64 x40).bind fun r67 => if kK r67 a0 = 6 then ((kQ r67 a0 5).bind fun a70 => (kQ r67 a0 3).bind fun a72 => if kK r67 a72 = 9 then ((f_X5_get r67 a72 x40).bind fun r75 => if kK r67 a70 = 9 then ((f_X5_add r67 a70 (r75 - 1)).bind fun r78 => j59 r78) else none) else none) else none) else none)) else none)) else none) else none
set_option maxRecDepth 100000 in
def f_X2_solve_b49 (a0 : Nat) (b1 : Nat) (r86 : Int32) (x88 : Int32) (S89 : PS) : Option ((Int32 × PS) ⊕ ((PS))) := if kK S89 a0 = 6 then ((kQ S89 a0 1).bind fun a97 => if kK S89 a97 = 12 then ((f_X8_count S89 a97).bind fun r100 => if r100 ≤ x88 then (some (.inr S89)) else (if r86 = 0 then (some (.inr S89)) else ((kQ S89 a0 0).bind fun a104 => if kK S89 a104 = 4 then ((f_X0_foundAt S89 a104 a97 b1 x88).bind fun r107 => (f_X2_takeBest S89 a0 b1 x88 (r107 &&& r86)).bind fun r109 => lt (x88 + 1) fun x111 => some (.inl (x111, r109))) else none))) else none) else none
set_option maxRecDepth 100000 in
def f_X2_solve_b31 (a0 : Nat) (b1 : Nat) (x23 : Int32) (S24 : PS) : Option ((Int32 × PS) ⊕ ((PS))) := if x23 < (1 : Int32) then (some (.inr S24)) else (if kK S24 a0 = 6 then ((kQ S24 a0 0).bind fun a83 => if kK S24 a83 = 4 then ((f_X0_ofRank S24 a83 b1 x23).bind fun r86 => lt (fun (S90 : PS) => lt (x23 + (-1)) fun x93 => some (.inl (x93, S90))) fun k91 => (iter (fun (v : Int32 × PS) => f_X2_solve_b49 a0 b1 r86 v.1 v.2) kF (0, S24)).bind (fun (v : PS) => k91 v)) else none) else none)
set_option maxRecDepth 100000 in
def f_X2_solve (S : PS) (a0 : Nat) (b1 : Nat) : Option (PS) := if kK S a0 = 6 then ((kQ S a0 2).bind fun a2 => (kQ S a0 1).bind fun a4 => if kK S a4 = 12 then ((f_X8_count S a4).bind fun r7 => if kK S a2 = 9 then ((f_X5_reset S a2 r7).bind fun r10 => if kK r10 a0 = 6 then ((kQ r10 a0 3).bind fun a13 => (kQ r10 a0 1).bind fun a15 => if kK r10 a15 = 12 then ((f_X8_count r10 a15).bind fun r18 => if kK r10 a13 = 9 then ((f_X5_reset r10 a13 r18).bind fun r21 => lt (fun (S25 : PS) => if kK S25 a0 = 6 then ((kQ S25 a0 4).bind fun a29 => if kK S25 a29 = 9 then ((f_X5_clear S25 a29).bind fun r32 => if kK r32 a0 = 6 then ((kQ r32 a0 5).bind fun a35 => if kK r32 a35 = 9 then ((f_X5_clear r32 a35).bind fun r38 => lt (fun (S42 : PS) => some S42) fun k43 => (iter (fun (v : Int32 × PS) => f_X2_solve_b116 a0 v.1 v.2) kF (0, r38)).bind (fun (v : PS) => k43 v)) else none) else none) else none) else none) fun k26 => (iter (fun (v : Int32 × PS) => f_X2_solve_b31 a0 b1 v.1 v.2) kF (9, r21)).bind (fun (v : PS) => k26 v)) else none) else none) else none) else none) else none) else none
abbrev rmX2_solve : Room := { frames := 6, cells := 0, slots := 0, locals := 132 }
set_option maxHeartbeats 4000000 in
set_option maxRecDepth 100000 in
theorem c_X2_solve (l : Launch) (D : va_G × Nat) (S : PS) (a0 : Nat) (b1 : Nat) (r : PS) (hf : f_X2_solve S a0 b1 = some r) : MV l D yX2_solve wsX2_solve rmX2_solve S [.ref a0, .ref b1] r 0 0 := by
  unfold f_X2_solve at hf
  refine Met.ofW (cc := cX2_solve) (maxL := 5) (ret := none) (by decide) rfl ?_
  intro p e s m args below meth c s₁ B hml hv
  obtain ⟨rfl, hH0, hNE⟩ := hv
  have hx := B.exec
  have hb := B.bytes
  have hr := B.returns
  have hts := atoms_spec (ws := wsX2_solve) B.pre
  have hown : s.vm.findClass RX2 = some m.cls := findClass_of_methodNamed B.named
  have hlocks := B.notSynchronized
  have hH : HI D S S s s.heap [] := HI.start hH0
  have hl := lv_entry ([.ref a0, .ref b1]) (n := 5) (Nat.le_of_ble_eq_true rfl)
  rw [lg_entry_eq]
  generalize (lg_sl ([.ref a0, .ref b1]) ++ List.replicate (5 - (lg_sl ([.ref a0, .ref b1])).length) Slot.unset).toArray = ls at hl ⊢
  have hl : lv_has ls 5 [(0, .ref a0), (1, .ref b1)] := hl
  refine lv_aload_n hx hb dX2_solve_0 rfl (lv_at hl 0 rfl) ?_
  obtain ⟨ek1, hf⟩ := oc hf
  obtain ⟨a2, e3, hf⟩ := ob hf
  refine r_getQ hx hb 5 hts (fun w h => List.mem_cons_of_mem _ (mwsX20 w h)) hown hH ek1 (by decide) rfl 2 (by decide) rfl (hts (.fieldLink RX2 24 "Housestyle$Findings" "covered" "LHousestyle$Row;") (List.mem_cons_of_mem _ gw_10_15)) (fun _ h9 => h9) dX2_solve_1 e3 ?_
  refine lv_aload_n hx hb dX2_solve_4 rfl (lv_at hl 0 rfl) ?_
  obtain ⟨a4, e5, hf⟩ := ob hf
  refine r_getQ hx hb 5 hts (fun w h => List.mem_cons_of_mem _ (mwsX20 w h)) hown hH ek1 (by decide) rfl 1 (by decide) rfl (hts (.fieldLink RX2 15 "Housestyle$Findings" "tokens" "LHousestyle$Tokens;") (List.mem_cons_of_mem _ gw_10_13)) (fun _ h9 => h9) dX2_solve_5 e5 ?_
  obtain ⟨ek6, hf⟩ := oc hf
  obtain ⟨r7, e8, hf⟩ := ob hf
  refine r_callVi (As := []) ⟨hx, hb, hml, hown, hts⟩ (c_X8_count l D S a4 r7 e8) (cwV 0 hts (gwV gw_12_9 gw_2_21 gw_2_22 gw_2_23 gw_1_12) rfl rfl rfl (by decide +kernel) ⟨Nat.le_of_ble_eq_true rfl, Nat.le_of_ble_eq_true rfl⟩) hH hNE 11 ek6 (by decide) rfl rfl rfl hl.1 rfl (Nat.le_of_ble_eq_true rfl) dX2_solve_8 ⟨(Nat.le_of_ble_eq_true rfl), (Nat.le_of_ble_eq_true rfl)⟩ (fun H locs hH => ?_)
  obtain ⟨ek9, hf⟩ := oc hf
  obtain ⟨r10, e11, hf⟩ := ob hf
  refine r_callVv (As := [.int r7]) ⟨hx, hb, hml, hown, hts⟩ (c_X5_reset l D S a2 r7 r10 e11) (cwV 1 hts (gwV gw_12_10 gw_6_10 gw_6_11 gw_1_5 gw_1_17) rfl rfl rfl (by decide +kernel) ⟨Nat.le_of_ble_eq_true rfl, Nat.le_of_ble_eq_true rfl⟩) hH hNE 8 ek9 (by decide) rfl rfl rfl hl.1 rfl (Nat.le_of_ble_eq_true rfl) dX2_solve_11 ⟨(Nat.le_of_ble_eq_true rfl), (Nat.le_of_ble_eq_true rfl)⟩ (fun H locs hH => ?_)
  refine lv_aload_n hx hb dX2_solve_14 rfl (lv_at hl 0 rfl) ?_
  obtain ⟨ek12, hf⟩ := oc hf
  obtain ⟨a13, e14, hf⟩ := ob hf
  refine r_getQ hx hb 5 hts (fun w h => List.mem_cons_of_mem _ (mwsX20 w h)) hown hH ek12 (by decide) rfl 3 (by decide) rfl (hts (.fieldLink RX2 28 "Housestyle$Findings" "takenAt" "LHousestyle$Row;") (List.mem_cons_of_mem _ gw_10_16)) (fun _ h9 => h9) dX2_solve_15 e14 ?_
  refine lv_aload_n hx hb dX2_solve_18 rfl (lv_at hl 0 rfl) ?_
  obtain ⟨a15, e16, hf⟩ := ob hf
  refine r_getQ hx hb 5 hts (fun w h => List.mem_cons_of_mem _ (mwsX20 w h)) hown hH ek12 (by decide) rfl 1 (by decide) rfl (hts (.fieldLink RX2 15 "Housestyle$Findings" "tokens" "LHousestyle$Tokens;") (List.mem_cons_of_mem _ gw_10_13)) (fun _ h9 => h9) dX2_solve_19 e16 ?_
  obtain ⟨ek17, hf⟩ := oc hf
  obtain ⟨r18, e19, hf⟩ := ob hf
  refine r_callVi (As := []) ⟨hx, hb, hml, hown, hts⟩ (c_X8_count l D r10 a15 r18 e19) (cwV 0 hts (gwV gw_12_9 gw_2_21 gw_2_22 gw_2_23 gw_1_12) rfl rfl rfl (by decide +kernel) ⟨Nat.le_of_ble_eq_true rfl, Nat.le_of_ble_eq_true rfl⟩) hH hNE 11 ek17 (by decide) rfl rfl rfl hl.1 rfl (Nat.le_of_ble_eq_true rfl) dX2_solve_22 ⟨(Nat.le_of_ble_eq_true rfl), (Nat.le_of_ble_eq_true rfl)⟩ (fun H locs hH => ?_)
  obtain ⟨ek20, hf⟩ := oc hf
  obtain ⟨r21, e22, hf⟩ := ob hf
  refine r_callVv (As := [.int r18]) ⟨hx, hb, hml, hown, hts⟩ (c_X5_reset l D r10 a13 r18 r21 e22) (cwV 1 hts (gwV gw_12_10 gw_6_10 gw_6_11 gw_1_5 gw_1_17) rfl rfl rfl (by decide +kernel) ⟨Nat.le_of_ble_eq_true rfl, Nat.le_of_ble_eq_true rfl⟩) hH hNE 8 ek20 (by decide) rfl rfl rfl hl.1 rfl (Nat.le_of_ble_eq_true rfl) dX2_solve_25 ⟨(Nat.le_of_ble_eq_true rfl), (Nat.le_of_ble_eq_true rfl)⟩ (fun H locs hH => ?_)
  refine lv_bipush (v := 9) hx hb dX2_solve_28 (by decide) ?_
  refine lv_istore_n (lv' := [(2, .int 9), (0, .ref a0), (1, .ref b1)]) hx hb dX2_solve_30 rfl hl (by decide) rfl (fun ls hl => ?_)
  obtain ⟨k26, e27, hf⟩ := ol hf
  have Xk26 : ∀ (S25 : PS) (H : Heap) (locs : List Loc) (ls : Array Slot), HI D S S25 s H locs → lv_has ls 5 [(0, .ref a0)] → k26 S25 = some r → GV p l e (headSpec wsX2_solve rmX2_solve).room s m ([.ref a0, .ref b1] : List Value).toArray below meth c D S r H locs 0 0 0 0 (F0 m 100 ls []) := by
    intro S25 H locs ls hH hl hf
    rw [← e27] at hf
    refine lv_aload_n hx hb dX2_solve_100 rfl (lv_at hl 0 rfl) ?_
    obtain ⟨ek28, hf⟩ := oc hf
    obtain ⟨a29, e30, hf⟩ := ob hf
    refine r_getQ hx hb 5 hts (fun w h => List.mem_cons_of_mem _ (mwsX20 w h)) hown hH ek28 (by decide) rfl 4 (by decide) rfl (hts (.fieldLink RX2 31 "Housestyle$Findings" "itsTokens" "LHousestyle$Row;") (List.mem_cons_of_mem _ gw_10_17)) (fun _ h9 => h9) dX2_solve_101 e30 ?_
    obtain ⟨ek31, hf⟩ := oc hf
    obtain ⟨r32, e33, hf⟩ := ob hf
    refine r_callVv (As := []) ⟨hx, hb, hml, hown, hts⟩ (c_X5_clear l D S25 a29 r32 e33) (cwV 0 hts (gwV gw_12_20 gw_9_14 gw_9_15 gw_1_5 gw_9_11) rfl rfl rfl (by decide +kernel) ⟨Nat.le_of_ble_eq_true rfl, Nat.le_of_ble_eq_true rfl⟩) hH hNE 8 ek31 (by decide) rfl rfl rfl hl.1 rfl (Nat.le_of_ble_eq_true rfl) dX2_solve_104 ⟨(Nat.le_of_ble_eq_true rfl), (Nat.le_of_ble_eq_true rfl)⟩ (fun H locs hH => ?_)
    refine lv_aload_n hx hb dX2_solve_107 rfl (lv_at hl 0 rfl) ?_
    obtain ⟨ek34, hf⟩ := oc hf
    obtain ⟨a35, e36, hf⟩ := ob hf
    refine r_getQ hx hb 5 hts (fun w h => List.mem_cons_of_mem _ (mwsX20 w h)) hown hH ek34 (by decide) rfl 5 (by decide) rfl (hts (.fieldLink RX2 34 "Housestyle$Findings" "itsRules" "LHousestyle$Row;") (List.mem_cons_of_mem _ gw_10_18)) (fun _ h9 => h9) dX2_solve_108 e36 ?_
    obtain ⟨ek37, hf⟩ := oc hf
    obtain ⟨r38, e39, hf⟩ := ob hf
    refine r_callVv (As := []) ⟨hx, hb, hml, hown, hts⟩ (c_X5_clear l D r32 a35 r38 e39) (cwV 0 hts (gwV gw_12_20 gw_9_14 gw_9_15 gw_1_5 gw_9_11) rfl rfl rfl (by decide +kernel) ⟨Nat.le_of_ble_eq_true rfl, Nat.le_of_ble_eq_true rfl⟩) hH hNE 8 ek37 (by decide) rfl rfl rfl hl.1 rfl (Nat.le_of_ble_eq_true rfl) dX2_solve_111 ⟨(Nat.le_of_ble_eq_true rfl), (Nat.le_of_ble_eq_true rfl)⟩ (fun H locs hH => ?_)
    refine lv_iconst (v := 0) hx hb dX2_solve_114 (by decide) ?_
    refine lv_istore_n (lv' := [(2, .int 0), (0, .ref a0)]) hx hb dX2_solve_115 rfl hl (by decide) rfl (fun ls hl => ?_)
    obtain ⟨k43, e44, hf⟩ := ol hf
    have Xk43 : ∀ (S42 : PS) (H : Heap) (locs : List Loc) (ls : Array Slot), HI D S S42 s H locs → lv_has ls 5 [] → k43 S42 = some r → GV p l e (headSpec wsX2_solve rmX2_solve).room s m ([.ref a0, .ref b1] : List Value).toArray below meth c D S r H locs 0 0 0 0 (F0 m 169 ls []) := by
      intro S42 H locs ls hH hl hf
      rw [← e44] at hf
      have hr9 := Option.some.inj hf
      subst hr9
      exact e_v hx hb hr hlocks hH dX2_solve_169
    obtain ⟨o45, eo45, hq45f⟩ := ob hf
    have Lo45 : ∀ (n : Nat) (x40 : Int32) (S41 : PS), iter (fun (v : Int32 × PS) => f_X2_solve_b116 a0 v.1 v.2) n (x40, S41) = some o45 → ∀ (H : Heap) (locs : List Loc) (ls : Array Slot), HI D S S41 s H locs → lv_has ls 5 [(0, .ref a0), (2, .int x40)] → GV p l e (headSpec wsX2_solve rmX2_solve).room s m ([.ref a0, .ref b1] : List Value).toArray below meth c D S r H locs 0 0 0 0 (F0 m 116 ls []) := by
      intro n
      induction n with
      | zero => intro x40 S41 hi; cases hi
      | succ n ih45 =>
        intro x40 S41 hi H locs ls hH hl
        obtain ⟨q45_, hf, hq45⟩ := iter_s hi
        have hf : f_X2_solve_b116 a0 x40 S41 = some q45_ := hf
        unfold f_X2_solve_b116 at hf
        refine lv_iload_n hx hb dX2_solve_116 rfl (lv_at hl 1 rfl) ?_
        refine lv_aload_n hx hb dX2_solve_117 rfl (lv_at hl 0 rfl) ?_
        obtain ⟨ek46, hf⟩ := oc hf
        obtain ⟨a47, e48, hf⟩ := ob hf
        refine r_getQ hx hb 5 hts (fun w h => List.mem_cons_of_mem _ (mwsX20 w h)) hown hH ek46 (by decide) rfl 1 (by decide) rfl (hts (.fieldLink RX2 15 "Housestyle$Findings" "tokens" "LHousestyle$Tokens;") (List.mem_cons_of_mem _ gw_10_13)) (fun _ h9 => h9) dX2_solve_118 e48 ?_
        obtain ⟨ek49, hf⟩ := oc hf
        obtain ⟨r50, e51, hf⟩ := ob hf
        refine r_callVi (As := []) ⟨hx, hb, hml, hown, hts⟩ (c_X8_count l D S41 a47 r50 e51) (cwV 0 hts (gwV gw_12_9 gw_2_21 gw_2_22 gw_2_23 gw_1_12) rfl rfl rfl (by decide +kernel) ⟨Nat.le_of_ble_eq_true rfl, Nat.le_of_ble_eq_true rfl⟩) hH hNE 11 ek49 (by decide) rfl rfl rfl hl.1 rfl (Nat.le_of_ble_eq_true rfl) dX2_solve_121 ⟨(Nat.le_of_ble_eq_true rfl), (Nat.le_of_ble_eq_true rfl)⟩ (fun H locs hH => ?_)
        refine lv_icmp_ge (tgt := 169) hx hb dX2_solve_124 (by decide) (fun c52 => ?_) (fun c52 => ?_)
        · have hf := ip hf c52
          cases hf
          have hf9 := itR (K := (fun (v : PS) => k43 v)) hq45 hq45f
          exact Xk43 S41 _ _ ls hH (lv_sub hl [] rfl) hf9
        · have hf := iq hf c52
          refine lv_aload_n hx hb dX2_solve_127 rfl (lv_at hl 0 rfl) ?_
          obtain ⟨a53, e54, hf⟩ := ob hf
          refine r_getQ hx hb 5 hts (fun w h => List.mem_cons_of_mem _ (mwsX20 w h)) hown hH ek46 (by decide) rfl 3 (by decide) rfl (hts (.fieldLink RX2 28 "Housestyle$Findings" "takenAt" "LHousestyle$Row;") (List.mem_cons_of_mem _ gw_10_16)) (fun _ h9 => h9) dX2_solve_128 e54 ?_
          refine lv_iload_n hx hb dX2_solve_131 rfl (lv_at hl 1 rfl) ?_
          obtain ⟨ek55, hf⟩ := oc hf
          obtain ⟨r56, e57, hf⟩ := ob hf
          refine r_callVi (As := [.int x40]) ⟨hx, hb, hml, hown, hts⟩ (c_X5_get l D S41 a53 x40 r56 e57) (cwV 1 hts (gwV gw_10_23 gw_2_13 gw_2_14 gw_1_5 gw_2_9) rfl rfl rfl (by decide +kernel) ⟨Nat.le_of_ble_eq_true rfl, Nat.le_of_ble_eq_true rfl⟩) hH hNE 8 ek55 (by decide) rfl rfl rfl hl.1 rfl (Nat.le_of_ble_eq_true rfl) dX2_solve_132 ⟨(Nat.le_of_ble_eq_true rfl), (Nat.le_of_ble_eq_true rfl)⟩ (fun H locs hH => ?_)
          obtain ⟨j59, e62, hf⟩ := ol hf
          have Jj59 : ∀ (S58 : PS) (H : Heap) (locs : List Loc) (ls : Array Slot), HI D S S58 s H locs → lv_has ls 5 [(0, .ref a0), (2, .int x40)] → j59 S58 = some q45_ → GV p l e (headSpec wsX2_solve rmX2_solve).room s m ([.ref a0, .ref b1] : List Value).toArray below meth c D S r H locs 0 0 0 0 (F0 m 163 ls []) := by
            intro S58 H locs ls hH hl hf
            rw [← e62] at hf
            obtain ⟨x60, e61, hf⟩ := ol hf
            refine lv_iinc (v := x60) (lv' := [(2, .int x60), (0, .ref a0)]) hx hb dX2_solve_163 hl (k := 1) rfl (by rw [← e61]; rfl) (by decide) rfl (fun ls hl => ?_)
            refine lv_goto (tgt := 116) hx hb dX2_solve_166 (by decide) ?_
            cases hf
            exact ih45 x60 S58 hq45 _ _ ls hH (lv_sub hl [1, 0] rfl)
          refine lv_if_eq (tgt := 163) hx hb dX2_solve_135 (by decide) (fun c63 => ?_) (fun c63 => ?_)
          · have hf := ip hf c63
            exact Jj59 S41 _ _ ls hH (lv_sub hl [0, 1] rfl) hf
          · have hf := iq hf c63
            refine lv_aload_n hx hb dX2_solve_138 rfl (lv_at hl 0 rfl) ?_
            obtain ⟨a64, e65, hf⟩ := ob hf
            refine r_getQ hx hb 5 hts (fun w h => List.mem_cons_of_mem _ (mwsX20 w h)) hown hH ek46 (by decide) rfl 4 (by decide) rfl (hts (.fieldLink RX2 31 "Housestyle$Findings" "itsTokens" "LHousestyle$Row;") (List.mem_cons_of_mem _ gw_10_17)) (fun _ h9 => h9) dX2_solve_139 e65 ?_
            refine lv_iload_n hx hb dX2_solve_142 rfl (lv_at hl 1 rfl) ?_
            obtain ⟨ek66, hf⟩ := oc hf
            obtain ⟨r67, e68, hf⟩ := ob hf
            refine r_callVv (As := [.int x40]) ⟨hx, hb, hml, hown, hts⟩ (c_X5_add l D S41 a64 x40 r67 e68) (cwV 1 hts (gwV gw_12_21 gw_7_14 gw_7_15 gw_1_5 gw_7_11) rfl rfl rfl (by decide +kernel) ⟨Nat.le_of_ble_eq_true rfl, Nat.le_of_ble_eq_true rfl⟩) hH hNE 8 ek66 (by decide) rfl rfl rfl hl.1 rfl (Nat.le_of_ble_eq_true rfl) dX2_solve_143 ⟨(Nat.le_of_ble_eq_true rfl), (Nat.le_of_ble_eq_true rfl)⟩ (fun H locs hH => ?_)
            refine lv_aload_n hx hb dX2_solve_146 rfl (lv_at hl 0 rfl) ?_
            obtain ⟨ek69, hf⟩ := oc hf
            obtain ⟨a70, e71, hf⟩ := ob hf
            refine r_getQ hx hb 5 hts (fun w h => List.mem_cons_of_mem _ (mwsX20 w h)) hown hH ek69 (by decide) rfl 5 (by decide) rfl (hts (.fieldLink RX2 34 "Housestyle$Findings" "itsRules" "LHousestyle$Row;") (List.mem_cons_of_mem _ gw_10_18)) (fun _ h9 => h9) dX2_solve_147 e71 ?_
            refine lv_aload_n hx hb dX2_solve_150 rfl (lv_at hl 0 rfl) ?_
            obtain ⟨a72, e73, hf⟩ := ob hf
            refine r_getQ hx hb 5 hts (fun w h => List.mem_cons_of_mem _ (mwsX20 w h)) hown hH ek69 (by decide) rfl 3 (by decide) rfl (hts (.fieldLink RX2 28 "Housestyle$Findings" "takenAt" "LHousestyle$Row;") (List.mem_cons_of_mem _ gw_10_16)) (fun _ h9 => h9) dX2_solve_151 e73 ?_
            refine lv_iload_n hx hb dX2_solve_154 rfl (lv_at hl 1 rfl) ?_
            obtain ⟨ek74, hf⟩ := oc hf
            obtain ⟨r75, e76, hf⟩ := ob hf
            refine r_callVi (As := [.int x40]) ⟨hx, hb, hml, hown, hts⟩ (c_X5_get l D r67 a72 x40 r75 e76) (cwV 1 hts (gwV gw_10_23 gw_2_13 gw_2_14 gw_1_5 gw_2_9) rfl rfl rfl (by decide +kernel) ⟨Nat.le_of_ble_eq_true rfl, Nat.le_of_ble_eq_true rfl⟩) hH hNE 8 ek74 (by decide) rfl rfl rfl hl.1 rfl (Nat.le_of_ble_eq_true rfl) dX2_solve_155 ⟨(Nat.le_of_ble_eq_true rfl), (Nat.le_of_ble_eq_true rfl)⟩ (fun H locs hH => ?_)
            refine lv_iconst (v := 1) hx hb dX2_solve_158 (by decide) ?_
            refine lv_isub hx hb dX2_solve_159 ?_
            obtain ⟨ek77, hf⟩ := oc hf
            obtain ⟨r78, e79, hf⟩ := ob hf
            refine r_callVv (As := [.int (r75 - 1)]) ⟨hx, hb, hml, hown, hts⟩ (c_X5_add l D r67 a70 (r75 - 1) r78 e79) (cwV 1 hts (gwV gw_12_21 gw_7_14 gw_7_15 gw_1_5 gw_7_11) rfl rfl rfl (by decide +kernel) ⟨Nat.le_of_ble_eq_true rfl, Nat.le_of_ble_eq_true rfl⟩) hH hNE 8 ek77 (by decide) rfl rfl rfl hl.1 rfl (Nat.le_of_ble_eq_true rfl) dX2_solve_160 ⟨(Nat.le_of_ble_eq_true rfl), (Nat.le_of_ble_eq_true rfl)⟩ (fun H locs hH => ?_)
            exact Jj59 r78 _ _ ls hH (lv_sub hl [0, 1] rfl) hf
    exact Lo45 kF 0 r38 eo45 _ _ ls hH (lv_sub hl [1, 0] rfl)
  obtain ⟨o80, eo80, hq80f⟩ := ob hf
  have Lo80 : ∀ (n : Nat) (x23 : Int32) (S24 : PS), iter (fun (v : Int32 × PS) => f_X2_solve_b31 a0 b1 v.1 v.2) n (x23, S24) = some o80 → ∀ (H : Heap) (locs : List Loc) (ls : Array Slot), HI D S S24 s H locs → lv_has ls 5 [(0, .ref a0), (1, .ref b1), (2, .int x23)] → GV p l e (headSpec wsX2_solve rmX2_solve).room s m ([.ref a0, .ref b1] : List Value).toArray below meth c D S r H locs 0 0 0 0 (F0 m 31 ls []) := by
    intro n
    induction n with
    | zero => intro x23 S24 hi; cases hi
    | succ n ih80 =>
      intro x23 S24 hi H locs ls hH hl
      obtain ⟨q80_, hf, hq80⟩ := iter_s hi
      have hf : f_X2_solve_b31 a0 b1 x23 S24 = some q80_ := hf
      unfold f_X2_solve_b31 at hf
      refine lv_iload_n hx hb dX2_solve_31 rfl (lv_at hl 2 rfl) ?_
      refine lv_iconst (v := 1) hx hb dX2_solve_32 (by decide) ?_
      refine lv_icmp_lt (tgt := 100) hx hb dX2_solve_33 (by decide) (fun c81 => ?_) (fun c81 => ?_)
      · have hf := ip hf c81
        cases hf
        have hf9 := itR (K := (fun (v : PS) => k26 v)) hq80 hq80f
        exact Xk26 S24 _ _ ls hH (lv_sub hl [0] rfl) hf9
      · have hf := iq hf c81
        refine lv_aload_n hx hb dX2_solve_36 rfl (lv_at hl 0 rfl) ?_
        obtain ⟨ek82, hf⟩ := oc hf
        obtain ⟨a83, e84, hf⟩ := ob hf
        refine r_getQ hx hb 5 hts (fun w h => List.mem_cons_of_mem _ (mwsX20 w h)) hown hH ek82 (by decide) rfl 0 (by decide) rfl (hts (.fieldLink RX2 9 "Housestyle$Findings" "book" "LHousestyle$Book;") (List.mem_cons_of_mem _ gw_10_12)) (fun _ h9 => h9) dX2_solve_37 e84 ?_
        refine lv_aload_n hx hb dX2_solve_40 rfl (lv_at hl 1 rfl) ?_
        refine lv_iload_n hx hb dX2_solve_41 rfl (lv_at hl 2 rfl) ?_
        obtain ⟨ek85, hf⟩ := oc hf
        obtain ⟨r86, e87, hf⟩ := ob hf
        refine r_callVi (As := [.ref b1, .int x23]) ⟨hx, hb, hml, hown, hts⟩ (c_X0_ofRank l D S24 a83 b1 x23 r86 e87) (cwV 2 hts (gwV gw_12_11 gw_12_12 gw_12_13 gw_6_5 gw_7_6) rfl rfl rfl (by decide +kernel) ⟨Nat.le_of_ble_eq_true rfl, Nat.le_of_ble_eq_true rfl⟩) hH hNE 3 ek85 (by decide) rfl rfl rfl hl.1 rfl (Nat.le_of_ble_eq_true rfl) dX2_solve_42 ⟨(Nat.le_of_ble_eq_true rfl), (Nat.le_of_ble_eq_true rfl)⟩ (fun H locs hH => ?_)
        refine lv_istore_n (lv' := [(3, .int r86), (0, .ref a0), (1, .ref b1), (2, .int x23)]) hx hb dX2_solve_45 rfl hl (by decide) rfl (fun ls hl => ?_)
        refine lv_iconst (v := 0) hx hb dX2_solve_46 (by decide) ?_
        refine lv_istore (lv' := [(4, .int 0), (3, .int r86), (0, .ref a0), (1, .ref b1), (2, .int x23)]) hx hb dX2_solve_47 hl (by decide) rfl (fun ls hl => ?_)
        obtain ⟨k91, e92, hf⟩ := ol hf
        have Xk91 : ∀ (S90 : PS) (H : Heap) (locs : List Loc) (ls : Array Slot), HI D S S90 s H locs → lv_has ls 5 [(0, .ref a0), (1, .ref b1), (2, .int x23)] → k91 S90 = some q80_ → GV p l e (headSpec wsX2_solve rmX2_solve).room s m ([.ref a0, .ref b1] : List Value).toArray below meth c D S r H locs 0 0 0 0 (F0 m 94 ls []) := by
          intro S90 H locs ls hH hl hf
          rw [← e92] at hf
          obtain ⟨x93, e94, hf⟩ := ol hf
          refine lv_iinc (v := x93) (lv' := [(2, .int x93), (0, .ref a0), (1, .ref b1)]) hx hb dX2_solve_94 hl (k := 2) rfl (by rw [← e94]; rfl) (by decide) rfl (fun ls hl => ?_)
          refine lv_goto (tgt := 31) hx hb dX2_solve_97 (by decide) ?_
          cases hf
          exact ih80 x93 S90 hq80 _ _ ls hH (lv_sub hl [1, 2, 0] rfl)
        obtain ⟨o95, eo95, hq95f⟩ := ob hf
        have Lo95 : ∀ (n : Nat) (x88 : Int32) (S89 : PS), iter (fun (v : Int32 × PS) => f_X2_solve_b49 a0 b1 r86 v.1 v.2) n (x88, S89) = some o95 → ∀ (H : Heap) (locs : List Loc) (ls : Array Slot), HI D S S89 s H locs → lv_has ls 5 [(0, .ref a0), (1, .ref b1), (2, .int x23), (3, .int r86), (4, .int x88)] → GV p l e (headSpec wsX2_solve rmX2_solve).room s m ([.ref a0, .ref b1] : List Value).toArray below meth c D S r H locs 0 0 0 0 (F0 m 49 ls []) := by
          intro n
          induction n with
          | zero => intro x88 S89 hi; cases hi
          | succ n ih95 =>
            intro x88 S89 hi H locs ls hH hl
            obtain ⟨q95_, hf, hq95⟩ := iter_s hi
            have hf : f_X2_solve_b49 a0 b1 r86 x88 S89 = some q95_ := hf
            unfold f_X2_solve_b49 at hf
            refine lv_iload hx hb dX2_solve_49 (lv_at hl 4 rfl) ?_
            refine lv_aload_n hx hb dX2_solve_51 rfl (lv_at hl 0 rfl) ?_
            obtain ⟨ek96, hf⟩ := oc hf
            obtain ⟨a97, e98, hf⟩ := ob hf
            refine r_getQ hx hb 5 hts (fun w h => List.mem_cons_of_mem _ (mwsX20 w h)) hown hH ek96 (by decide) rfl 1 (by decide) rfl (hts (.fieldLink RX2 15 "Housestyle$Findings" "tokens" "LHousestyle$Tokens;") (List.mem_cons_of_mem _ gw_10_13)) (fun _ h9 => h9) dX2_solve_52 e98 ?_
            obtain ⟨ek99, hf⟩ := oc hf
            obtain ⟨r100, e101, hf⟩ := ob hf
            refine r_callVi (As := []) ⟨hx, hb, hml, hown, hts⟩ (c_X8_count l D S89 a97 r100 e101) (cwV 0 hts (gwV gw_12_9 gw_2_21 gw_2_22 gw_2_23 gw_1_12) rfl rfl rfl (by decide +kernel) ⟨Nat.le_of_ble_eq_true rfl, Nat.le_of_ble_eq_true rfl⟩) hH hNE 11 ek99 (by decide) rfl rfl rfl hl.1 rfl (Nat.le_of_ble_eq_true rfl) dX2_solve_55 ⟨(Nat.le_of_ble_eq_true rfl), (Nat.le_of_ble_eq_true rfl)⟩ (fun H locs hH => ?_)
            refine lv_icmp_ge (tgt := 94) hx hb dX2_solve_58 (by decide) (fun c102 => ?_) (fun c102 => ?_)
            · have hf := ip hf c102
              cases hf
              have hf9 := itR (K := (fun (v : PS) => k91 v)) hq95 hq95f
              exact Xk91 S89 _ _ ls hH (lv_sub hl [0, 1, 2] rfl) hf9
            · have hf := iq hf c102
              refine lv_iload_n hx hb dX2_solve_61 rfl (lv_at hl 3 rfl) ?_
              refine lv_if_eq (tgt := 94) hx hb dX2_solve_62 (by decide) (fun c103 => ?_) (fun c103 => ?_)
              · have hf := ip hf c103
                cases hf
                have hf9 := itR (K := (fun (v : PS) => k91 v)) hq95 hq95f
                exact Xk91 S89 _ _ ls hH (lv_sub hl [0, 1, 2] rfl) hf9
              · have hf := iq hf c103
                refine lv_aload_n hx hb dX2_solve_65 rfl (lv_at hl 0 rfl) ?_
                refine lv_aload_n hx hb dX2_solve_66 rfl (lv_at hl 1 rfl) ?_
                refine lv_iload hx hb dX2_solve_67 (lv_at hl 4 rfl) ?_
                refine lv_aload_n hx hb dX2_solve_69 rfl (lv_at hl 0 rfl) ?_
                obtain ⟨a104, e105, hf⟩ := ob hf
                refine r_getQ hx hb 5 hts (fun w h => List.mem_cons_of_mem _ (mwsX20 w h)) hown hH ek96 (by decide) rfl 0 (by decide) rfl (hts (.fieldLink RX2 9 "Housestyle$Findings" "book" "LHousestyle$Book;") (List.mem_cons_of_mem _ gw_10_12)) (fun _ h9 => h9) dX2_solve_70 e105 ?_
                refine lv_aload_n hx hb dX2_solve_73 rfl (lv_at hl 0 rfl) ?_
                refine r_getQ hx hb 5 hts (fun w h => List.mem_cons_of_mem _ (mwsX20 w h)) hown hH ek96 (by decide) rfl 1 (by decide) rfl (hts (.fieldLink RX2 15 "Housestyle$Findings" "tokens" "LHousestyle$Tokens;") (List.mem_cons_of_mem _ gw_10_13)) (fun _ h9 => h9) dX2_solve_74 e98 ?_
                refine lv_aload_n hx hb dX2_solve_77 rfl (lv_at hl 1 rfl) ?_
                refine lv_iload hx hb dX2_solve_78 (lv_at hl 4 rfl) ?_
                obtain ⟨ek106, hf⟩ := oc hf
                obtain ⟨r107, e108, hf⟩ := ob hf
                refine r_callVi (As := [.ref a97, .ref b1, .int x88]) ⟨hx, hb, hml, hown, hts⟩ (c_X0_foundAt l D S89 a104 a97 b1 x88 r107 e108) (cwV 3 hts (gwV gw_12_14 gw_12_15 gw_12_16 gw_6_5 gw_6_22) rfl rfl rfl (by decide +kernel) ⟨Nat.le_of_ble_eq_true rfl, Nat.le_of_ble_eq_true rfl⟩) hH hNE 3 ek106 (by decide) rfl rfl rfl hl.1 rfl (Nat.le_of_ble_eq_true rfl) dX2_solve_80 ⟨(Nat.le_of_ble_eq_true rfl), (Nat.le_of_ble_eq_true rfl)⟩ (fun H locs hH => ?_)
                refine lv_iload_n hx hb dX2_solve_83 rfl (lv_at hl 3 rfl) ?_
                refine lv_iand hx hb dX2_solve_84 ?_
                obtain ⟨r109, e110, hf⟩ := ob hf
                refine r_callVv (As := [.ref b1, .int x88, .int (r107 &&& r86)]) ⟨hx, hb, hml, hown, hts⟩ (c_X2_takeBest l D S89 a0 b1 x88 (r107 &&& r86) r109 e110) (cwV 3 hts (gwV gw_12_17 gw_12_18 gw_12_19 gw_11_18 gw_11_22) rfl rfl rfl (by decide +kernel) ⟨Nat.le_of_ble_eq_true rfl, Nat.le_of_ble_eq_true rfl⟩) hH hNE 5 ek96 (by decide) rfl rfl rfl hl.1 rfl (Nat.le_of_ble_eq_true rfl) dX2_solve_85 ⟨(Nat.le_of_ble_eq_true rfl), (Nat.le_of_ble_eq_true rfl)⟩ (fun H locs hH => ?_)
                obtain ⟨x111, e112, hf⟩ := ol hf
                refine lv_iinc (v := x111) (lv' := [(4, .int x111), (0, .ref a0), (1, .ref b1), (2, .int x23), (3, .int r86)]) hx hb dX2_solve_88 hl (k := 4) rfl (by rw [← e112]; rfl) (by decide) rfl (fun ls hl => ?_)
                refine lv_goto (tgt := 49) hx hb dX2_solve_91 (by decide) ?_
                cases hf
                exact ih95 x111 r109 hq95 _ _ ls hH (lv_sub hl [1, 2, 3, 4, 0] rfl)
        exact Lo95 kF 0 S24 eo95 _ _ ls hH (lv_sub hl [2, 3, 4, 1, 0] rfl)
  exact Lo80 kF 9 r21 eo80 _ _ ls hH (lv_sub hl [1, 2, 0] rfl)
set_option maxRecDepth 100000 in
def f_X9_findFor (S : PS) (a0 : Nat) (p1 : Int32) : Option ((PS × Nat) ⊕ (PS × Nat)) := if kK S a0 = 13 then (bx2 (f_X9_deskAt S a0 p1) fun S3 a4 => if kK S3 a0 = 13 then (lt (fun (S6 : PS) => if kK S6 a0 = 13 then (if (kI S6 a0 8) = p1 then (some (.inl (S6, a4))) else ((kQ S6 a0 5).bind fun a10 => if kK S6 a10 = 6 then ((f_X2_solve S6 a10 a4).bind fun r13 => if kK r13 a0 = 13 then (lt (wI r13 a0 8 p1) fun S16 => some (.inl (S16, a4))) else none) else none)) else none) fun j7 => if (kI S3 a0 7) = 0 then ((kQ S3 a0 2).bind fun a20 => if kK S3 a20 = 12 then ((f_X8_read S3 a20).bind fun r23 => if kK r23 a0 = 13 then ((kQ r23 a0 3).bind fun a26 => (kQ r23 a0 2).bind fun a28 => if kK r23 a26 = 4 then ((f_X0_look r23 a26 a28).bind fun r31 => if kK r31 a0 = 13 then (lt (wI r31 a0 7 1) fun S34 => j7 S34) else none) else none) else none) else none) else (j7 S3)) else none) else none
abbrev rmX9_findFor : Room := { frames := 7, cells := 1, slots := 6, locals := 156 }
set_option maxHeartbeats 4000000 in
set_option maxRecDepth 100000 in
theorem c_X9_findFor (l : Launch) (hst9 : l.stackTraces = false) (D : va_G × Nat) (S : PS) (a0 : Nat) (p1 : Int32) (r : (PS × Nat) ⊕ (PS × Nat)) (hf : f_X9_findFor S a0 p1 = some r) : XM l D yX9_findFor wsX9_findFor rmX9_findFor S [.ref a0, .int p1] (mR r) 1 6 := by
  unfold f_X9_findFor at hf
  refine vx_ofW (cc := cX9_findFor) (maxL := 3) (ret := (some (.object "Housestyle$Desk"))) (by decide) rfl ?_
  intro p e s m args below meth c s₁ B hml hxt hv
  obtain ⟨rfl, hH0, hE, hNE⟩ := hv
  have hB := hH0.base
  have hx := B.exec
  have hb := B.bytes
  have hr := B.returns
  have hts := atoms_spec (ws := wsX9_findFor) B.pre
  have hown : s.vm.findClass RX9 = some m.cls := findClass_of_methodNamed B.named
  have hlocks := B.notSynchronized
  have hH : HI D S S s s.heap [] := HI.start hH0
  have hl := lv_entry ([.ref a0, .int p1]) (n := 3) (Nat.le_of_ble_eq_true rfl)
  rw [lg_entry_eq]
  generalize (lg_sl ([.ref a0, .int p1]) ++ List.replicate (3 - (lg_sl ([.ref a0, .int p1])).length) Slot.unset).toArray = ls at hl ⊢
  have hl : lv_has ls 3 [(0, .ref a0), (1, .int p1)] := hl
  refine lv_aload_n hx hb dX9_findFor_0 rfl (lv_at hl 0 rfl) ?_
  refine lv_iload_n hx hb dX9_findFor_1 rfl (lv_at hl 1 rfl) ?_
  obtain ⟨ek1, hf⟩ := oc hf
  rcases obx2 hf with ⟨x4_, e2, rfl⟩ | ⟨S3, a4, e2, hf⟩
  · refine r_xVex (As := [.int p1]) ⟨hx, hb, hml, hown, hts⟩ (c_X9_deskAt l hst9 D S a0 p1 (.inr x4_) e2) (cwV 1 hts (gwV gw_25_7 gw_25_8 gw_25_9 gw_14_5 gw_25_4) rfl rfl rfl (by decide +kernel) ⟨Nat.le_of_ble_eq_true rfl, Nat.le_of_ble_eq_true rfl⟩) hH hE hB hNE 12 ek1 (by decide) rfl rfl rfl hl.1 rfl (Nat.le_of_ble_eq_true rfl) dX9_findFor_2 ⟨(Nat.le_of_ble_eq_true rfl), (Nat.le_of_ble_eq_true rfl)⟩ (fun z9 ce9 q9 H locs hH hk9 hz9 h91 h92 h93 => ?_)
    exact x_out hxt hlocks hH hk9 hz9 h91 h92 h93 ⟨Nat.le_of_ble_eq_true rfl, Nat.le_of_ble_eq_true rfl⟩
  refine r_xVok (As := [.int p1]) (S' := S3) (v := (some (.ref a4))) (st1 := [.ref a4]) ⟨hx, hb, hml, hown, hts⟩ (c_X9_deskAt l hst9 D S a0 p1 (.inl (S3, a4)) e2) (cwV 1 hts (gwV gw_25_7 gw_25_8 gw_25_9 gw_14_5 gw_25_4) rfl rfl rfl (by decide +kernel) ⟨Nat.le_of_ble_eq_true rfl, Nat.le_of_ble_eq_true rfl⟩) hH hE hB hNE 12 ek1 (by decide) rfl rfl rfl hl.1 rfl (Nat.le_of_ble_eq_true rfl) dX9_findFor_2 ⟨(Nat.le_of_ble_eq_true rfl), (Nat.le_of_ble_eq_true rfl)⟩ rfl (fun H locs hH => ?_)
  refine W.widen (k := 1) (n := 6) (by omega) (by omega) ?_
  refine lv_astore_n (lv' := [(2, .ref a4), (0, .ref a0), (1, .int p1)]) hx hb dX9_findFor_5 rfl hl (by decide) rfl (fun ls hl => ?_)
  refine lv_aload_n hx hb dX9_findFor_6 rfl (lv_at hl 1 rfl) ?_
  obtain ⟨ek5, hf⟩ := oc hf
  refine r_getI hx hb 12 hts (fun w h => List.mem_cons_of_mem _ (mwsX90 w h)) hown hH ek5 (by decide) rfl 7 (by decide) rfl (hts (.fieldLink RX9 70 "Housestyle" "isRead" "Z") (List.mem_cons_of_mem _ gw_20_15)) (fun _ h9 => h9) dX9_findFor_7 ?_
  obtain ⟨j7, e18, hf⟩ := ol hf
  have Jj7 : ∀ (S6 : PS) (H : Heap) (locs : List Loc) (ls : Array Slot), HI D S S6 s H locs → lv_has ls 3 [(0, .ref a0), (1, .int p1), (2, .ref a4)] → j7 S6 = some r → GX p l e (headSpec wsX9_findFor rmX9_findFor).room s m ([.ref a0, .int p1] : List Value).toArray below meth c D S (mR r) H locs 1 6 1 6 (F0 m 36 ls []) := by
    intro S6 H locs ls hH hl hf
    rw [← e18] at hf
    refine lv_aload_n hx hb dX9_findFor_36 rfl (lv_at hl 0 rfl) ?_
    obtain ⟨ek8, hf⟩ := oc hf
    refine r_getI hx hb 12 hts (fun w h => List.mem_cons_of_mem _ (mwsX90 w h)) hown hH ek8 (by decide) rfl 8 (by decide) rfl (hts (.fieldLink RX9 74 "Housestyle" "solvedDesk" "I") (List.mem_cons_of_mem _ gw_20_16)) (fun _ h9 => h9) dX9_findFor_37 ?_
    refine lv_iload_n hx hb dX9_findFor_40 rfl (lv_at hl 1 rfl) ?_
    refine lv_icmp_eq (tgt := 57) hx hb dX9_findFor_41 (by decide) (fun c9 => ?_) (fun c9 => ?_)
    · have hf := ip hf c9
      refine lv_aload_n hx hb dX9_findFor_57 rfl (lv_at hl 2 rfl) ?_
      have hr9 := Option.some.inj hf
      subst hr9
      exact x_r hx hb hr hlocks hH dX9_findFor_58
    · have hf := iq hf c9
      refine lv_aload_n hx hb dX9_findFor_44 rfl (lv_at hl 0 rfl) ?_
      obtain ⟨a10, e11, hf⟩ := ob hf
      refine r_getQ hx hb 12 hts (fun w h => List.mem_cons_of_mem _ (mwsX90 w h)) hown hH ek8 (by decide) rfl 5 (by decide) rfl (hts (.fieldLink RX9 63 "Housestyle" "found" "LHousestyle$Findings;") (List.mem_cons_of_mem _ gw_20_13)) (fun _ h9 => h9) dX9_findFor_45 e11 ?_
      refine lv_aload_n hx hb dX9_findFor_48 rfl (lv_at hl 2 rfl) ?_
      obtain ⟨ek12, hf⟩ := oc hf
      obtain ⟨r13, e14, hf⟩ := ob hf
      refine r_callVv (As := [.ref a4]) ⟨hx, hb, hml, hown, hts⟩ (c_X2_solve l D S6 a10 a4 r13 e14) (cwV 1 hts (gwV gw_26_6 gw_26_7 gw_26_8 gw_11_18 gw_12_8) rfl rfl rfl (by decide +kernel) ⟨Nat.le_of_ble_eq_true rfl, Nat.le_of_ble_eq_true rfl⟩) hH hNE 5 ek12 (by decide) rfl rfl rfl hl.1 rfl (Nat.le_of_ble_eq_true rfl) dX9_findFor_49 ⟨(Nat.le_of_ble_eq_true rfl), (Nat.le_of_ble_eq_true rfl)⟩ (fun H locs hH => ?_)
      refine lv_aload_n hx hb dX9_findFor_52 rfl (lv_at hl 0 rfl) ?_
      refine lv_iload_n hx hb dX9_findFor_53 rfl (lv_at hl 1 rfl) ?_
      obtain ⟨ek15, hf⟩ := oc hf
      refine r_putI hx hb 12 hts (fun w h => List.mem_cons_of_mem _ (mwsX90 w h)) tyX9 tyX9_ok nmX9 hown hH ek15 (by decide) rfl 8 (by decide) rfl (hts (.fieldLink RX9 74 "Housestyle" "solvedDesk" "I") (List.mem_cons_of_mem _ gw_20_16)) (fun _ h9 => h9) (Or.inl rfl) (ty := .int) (by decide +kernel) rfl rfl dX9_findFor_54 (fun H locs hH => ?_)
      obtain ⟨S16, e17, hf⟩ := ol hf
      rw [e17] at hH
      refine lv_aload_n hx hb dX9_findFor_57 rfl (lv_at hl 2 rfl) ?_
      have hr9 := Option.some.inj hf
      subst hr9
      exact x_r hx hb hr hlocks hH dX9_findFor_58
  refine lv_if_ne (tgt := 36) hx hb dX9_findFor_10 (by decide) (fun c19 => ?_) (fun c19 => ?_)
  · have hf := iq hf c19
    exact Jj7 S3 _ _ ls hH (lv_sub hl [1, 2, 0] rfl) hf
  · have hf := ip hf c19
    refine lv_aload_n hx hb dX9_findFor_13 rfl (lv_at hl 1 rfl) ?_
    obtain ⟨a20, e21, hf⟩ := ob hf
    refine r_getQ hx hb 12 hts (fun w h => List.mem_cons_of_mem _ (mwsX90 w h)) hown hH ek5 (by decide) rfl 2 (by decide) rfl (hts (.fieldLink RX9 33 "Housestyle" "tokens" "LHousestyle$Tokens;") (List.mem_cons_of_mem _ gw_20_3)) (fun _ h9 => h9) dX9_findFor_14 e21 ?_
    obtain ⟨ek22, hf⟩ := oc hf
    obtain ⟨r23, e24, hf⟩ := ob hf
    refine r_callVv (As := []) ⟨hx, hb, hml, hown, hts⟩ (c_X8_read l D S3 a20 r23 e24) (cwV 0 hts (gwV gw_26_0 gw_26_1 gw_26_2 gw_2_23 gw_19_3) rfl rfl rfl (by decide +kernel) ⟨Nat.le_of_ble_eq_true rfl, Nat.le_of_ble_eq_true rfl⟩) hH hNE 11 ek22 (by decide) rfl rfl rfl hl.1 rfl (Nat.le_of_ble_eq_true rfl) dX9_findFor_17 ⟨(Nat.le_of_ble_eq_true rfl), (Nat.le_of_ble_eq_true rfl)⟩ (fun H locs hH => ?_)
    refine lv_aload_n hx hb dX9_findFor_20 rfl (lv_at hl 1 rfl) ?_
    obtain ⟨ek25, hf⟩ := oc hf
    obtain ⟨a26, e27, hf⟩ := ob hf
    refine r_getQ hx hb 12 hts (fun w h => List.mem_cons_of_mem _ (mwsX90 w h)) hown hH ek25 (by decide) rfl 3 (by decide) rfl (hts (.fieldLink RX9 40 "Housestyle" "book" "LHousestyle$Book;") (List.mem_cons_of_mem _ gw_20_6)) (fun _ h9 => h9) dX9_findFor_21 e27 ?_
    refine lv_aload_n hx hb dX9_findFor_24 rfl (lv_at hl 1 rfl) ?_
    obtain ⟨a28, e29, hf⟩ := ob hf
    refine r_getQ hx hb 12 hts (fun w h => List.mem_cons_of_mem _ (mwsX90 w h)) hown hH ek25 (by decide) rfl 2 (by decide) rfl (hts (.fieldLink RX9 33 "Housestyle" "tokens" "LHousestyle$Tokens;") (List.mem_cons_of_mem _ gw_20_3)) (fun _ h9 => h9) dX9_findFor_25 e29 ?_
    obtain ⟨ek30, hf⟩ := oc hf
    obtain ⟨r31, e32, hf⟩ := ob hf
    refine r_callVv (As := [.ref a28]) ⟨hx, hb, hml, hown, hts⟩ (c_X0_look l D r23 a26 a28 r31 e32) (cwV 1 hts (gwV gw_26_3 gw_26_4 gw_26_5 gw_6_5 gw_6_6) rfl rfl rfl (by decide +kernel) ⟨Nat.le_of_ble_eq_true rfl, Nat.le_of_ble_eq_true rfl⟩) hH hNE 3 ek30 (by decide) rfl rfl rfl hl.1 rfl (Nat.le_of_ble_eq_true rfl) dX9_findFor_28 ⟨(Nat.le_of_ble_eq_true rfl), (Nat.le_of_ble_eq_true rfl)⟩ (fun H locs hH => ?_)
    refine lv_aload_n hx hb dX9_findFor_31 rfl (lv_at hl 1 rfl) ?_
    refine lv_iconst (v := 1) hx hb dX9_findFor_32 (by decide) ?_
    obtain ⟨ek33, hf⟩ := oc hf
    refine r_putI hx hb 12 hts (fun w h => List.mem_cons_of_mem _ (mwsX90 w h)) tyX9 tyX9_ok nmX9 hown hH ek33 (by decide) rfl 7 (by decide) rfl (hts (.fieldLink RX9 70 "Housestyle" "isRead" "Z") (List.mem_cons_of_mem _ gw_20_15)) (fun _ h9 => h9) (Or.inl rfl) (ty := .boolean) (by decide +kernel) rfl rfl dX9_findFor_33 (fun H locs hH => ?_)
    obtain ⟨S34, e35, hf⟩ := ol hf
    rw [e35] at hH
    exact Jj7 S34 _ _ ls hH (lv_sub hl [1, 2, 0] rfl) hf
set_option maxRecDepth 100000 in
def f_X2_count (S : PS) (a0 : Nat) : Option (Int32) := if kK S a0 = 6 then ((kQ S a0 4).bind fun a2 => if kK S a2 = 9 then ((f_X5_count S a2).bind fun r5 => some r5) else none) else none
abbrev rmX2_count : Room := { frames := 1, cells := 0, slots := 0, locals := 20 }
set_option maxHeartbeats 4000000 in
set_option maxRecDepth 100000 in
theorem c_X2_count (l : Launch) (D : va_G × Nat) (S : PS) (a0 : Nat) (r : Int32) (hf : f_X2_count S a0 = some r) : MI l D yX2_count wsX2_count rmX2_count S [.ref a0] S r 0 0 := by
  unfold f_X2_count at hf
  refine Met.ofW (cc := cX2_count) (maxL := 1) (ret := (some .int)) (by decide) rfl ?_
  intro p e s m args below meth c s₁ B hml hv
  obtain ⟨rfl, hH0, hNE⟩ := hv
  have hx := B.exec
  have hb := B.bytes
  have hr := B.returns
  have hts := atoms_spec (ws := wsX2_count) B.pre
  have hown : s.vm.findClass RX2 = some m.cls := findClass_of_methodNamed B.named
  have hlocks := B.notSynchronized
  have hH : HI D S S s s.heap [] := HI.start hH0
  have hl := lv_entry ([.ref a0]) (n := 1) (Nat.le_of_ble_eq_true rfl)
  rw [lg_entry_eq]
  generalize (lg_sl ([.ref a0]) ++ List.replicate (1 - (lg_sl ([.ref a0])).length) Slot.unset).toArray = ls at hl ⊢
  have hl : lv_has ls 1 [(0, .ref a0)] := hl
  refine lv_aload_n hx hb dX2_count_0 rfl (lv_at hl 0 rfl) ?_
  obtain ⟨ek1, hf⟩ := oc hf
  obtain ⟨a2, e3, hf⟩ := ob hf
  refine r_getQ hx hb 5 hts (fun w h => List.mem_cons_of_mem _ (mwsX20 w h)) hown hH ek1 (by decide) rfl 4 (by decide) rfl (hts (.fieldLink RX2 31 "Housestyle$Findings" "itsTokens" "LHousestyle$Row;") (List.mem_cons_of_mem _ gw_10_17)) (fun _ h9 => h9) dX2_count_1 e3 ?_
  obtain ⟨ek4, hf⟩ := oc hf
  obtain ⟨r5, e6, hf⟩ := ob hf
  refine r_callVi (As := []) ⟨hx, hb, hml, hown, hts⟩ (c_X5_count l D S a2 r5 e6) (cwV 0 hts (gwV gw_10_21 gw_1_15 gw_1_16 gw_1_5 gw_1_11) rfl rfl rfl (by decide +kernel) ⟨Nat.le_of_ble_eq_true rfl, Nat.le_of_ble_eq_true rfl⟩) hH hNE 8 ek4 (by decide) rfl rfl rfl hl.1 rfl (Nat.le_of_ble_eq_true rfl) dX2_count_4 ⟨(Nat.le_of_ble_eq_true rfl), (Nat.le_of_ble_eq_true rfl)⟩ (fun H locs hH => ?_)
  have hr9 := Option.some.inj hf
  subst hr9
  exact e_i hx hb hr hlocks hH dX2_count_7
set_option maxRecDepth 100000 in
def f_X9_findings (S : PS) (a0 : Nat) (p1 : Int32) : Option ((PS × Int32) ⊕ (PS × Nat)) := if kK S a0 = 13 then (bx2 (f_X9_findFor S a0 p1) fun S3 a4 => if kK S3 a0 = 13 then ((kQ S3 a0 5).bind fun a6 => if kK S3 a6 = 6 then ((f_X2_count S3 a6).bind fun r9 => some (.inl (S3, r9))) else none) else none) else none
abbrev rmX9_findings : Room := { frames := 8, cells := 1, slots := 6, locals := 178 }
set_option maxHeartbeats 4000000 in
set_option maxRecDepth 100000 in
theorem c_X9_findings (l : Launch) (hst9 : l.stackTraces = false) (D : va_G × Nat) (S : PS) (a0 : Nat) (p1 : Int32) (r : (PS × Int32) ⊕ (PS × Nat)) (hf : f_X9_findings S a0 p1 = some r) : XM l D yX9_findings wsX9_findings rmX9_findings S [.ref a0, .int p1] (mI r) 1 6 := by
  unfold f_X9_findings at hf
  refine vx_ofW (cc := cX9_findings) (maxL := 2) (ret := (some .int)) (by decide) rfl ?_
  intro p e s m args below meth c s₁ B hml hxt hv
  obtain ⟨rfl, hH0, hE, hNE⟩ := hv
  have hB := hH0.base
  have hx := B.exec
  have hb := B.bytes
  have hr := B.returns
  have hts := atoms_spec (ws := wsX9_findings) B.pre
  have hown : s.vm.findClass RX9 = some m.cls := findClass_of_methodNamed B.named
  have hlocks := B.notSynchronized
  have hH : HI D S S s s.heap [] := HI.start hH0
  have hl := lv_entry ([.ref a0, .int p1]) (n := 2) (Nat.le_of_ble_eq_true rfl)
  rw [lg_entry_eq]
  generalize (lg_sl ([.ref a0, .int p1]) ++ List.replicate (2 - (lg_sl ([.ref a0, .int p1])).length) Slot.unset).toArray = ls at hl ⊢
  have hl : lv_has ls 2 [(0, .ref a0), (1, .int p1)] := hl
  refine lv_aload_n hx hb dX9_findings_0 rfl (lv_at hl 0 rfl) ?_
  refine lv_iload_n hx hb dX9_findings_1 rfl (lv_at hl 1 rfl) ?_
  obtain ⟨ek1, hf⟩ := oc hf
  rcases obx2 hf with ⟨x4_, e2, rfl⟩ | ⟨S3, a4, e2, hf⟩
  · refine r_xVex (As := [.int p1]) ⟨hx, hb, hml, hown, hts⟩ (c_X9_findFor l hst9 D S a0 p1 (.inr x4_) e2) (cwV 1 hts (gwV gw_26_10 gw_26_11 gw_26_12 gw_14_5 gw_25_23) rfl rfl rfl (by decide +kernel) ⟨Nat.le_of_ble_eq_true rfl, Nat.le_of_ble_eq_true rfl⟩) hH hE hB hNE 12 ek1 (by decide) rfl rfl rfl hl.1 rfl (Nat.le_of_ble_eq_true rfl) dX9_findings_2 ⟨(Nat.le_of_ble_eq_true rfl), (Nat.le_of_ble_eq_true rfl)⟩ (fun z9 ce9 q9 H locs hH hk9 hz9 h91 h92 h93 => ?_)
    exact x_out hxt hlocks hH hk9 hz9 h91 h92 h93 ⟨Nat.le_of_ble_eq_true rfl, Nat.le_of_ble_eq_true rfl⟩
  refine r_xVok (As := [.int p1]) (S' := S3) (v := (some (.ref a4))) (st1 := [.ref a4]) ⟨hx, hb, hml, hown, hts⟩ (c_X9_findFor l hst9 D S a0 p1 (.inl (S3, a4)) e2) (cwV 1 hts (gwV gw_26_10 gw_26_11 gw_26_12 gw_14_5 gw_25_23) rfl rfl rfl (by decide +kernel) ⟨Nat.le_of_ble_eq_true rfl, Nat.le_of_ble_eq_true rfl⟩) hH hE hB hNE 12 ek1 (by decide) rfl rfl rfl hl.1 rfl (Nat.le_of_ble_eq_true rfl) dX9_findings_2 ⟨(Nat.le_of_ble_eq_true rfl), (Nat.le_of_ble_eq_true rfl)⟩ rfl (fun H locs hH => ?_)
  refine W.widen (k := 1) (n := 6) (by omega) (by omega) ?_
  refine lv_pop hx hb dX9_findings_5 rfl ?_
  refine lv_aload_n hx hb dX9_findings_6 rfl (lv_at hl 0 rfl) ?_
  obtain ⟨ek5, hf⟩ := oc hf
  obtain ⟨a6, e7, hf⟩ := ob hf
  refine r_getQ hx hb 12 hts (fun w h => List.mem_cons_of_mem _ (mwsX90 w h)) hown hH ek5 (by decide) rfl 5 (by decide) rfl (hts (.fieldLink RX9 63 "Housestyle" "found" "LHousestyle$Findings;") (List.mem_cons_of_mem _ gw_20_13)) (fun _ h9 => h9) dX9_findings_7 e7 ?_
  obtain ⟨ek8, hf⟩ := oc hf
  obtain ⟨r9, e10, hf⟩ := ob hf
  refine r_callVi (As := []) ⟨hx, hb, hml, hown, hts⟩ (c_X2_count l D S3 a6 r9 e10) (cwV 0 hts (gwV gw_26_13 gw_13_0 gw_13_1 gw_11_18 gw_10_20) rfl rfl rfl (by decide +kernel) ⟨Nat.le_of_ble_eq_true rfl, Nat.le_of_ble_eq_true rfl⟩) hH hNE 5 ek8 (by decide) rfl rfl rfl hl.1 rfl (Nat.le_of_ble_eq_true rfl) dX9_findings_10 ⟨(Nat.le_of_ble_eq_true rfl), (Nat.le_of_ble_eq_true rfl)⟩ (fun H locs hH => ?_)
  have hr9 := Option.some.inj hf
  subst hr9
  exact x_i hx hb hr hlocks hH dX9_findings_13
set_option maxRecDepth 100000 in
def f_X9_needFinding (S : PS) (a0 : Nat) (p1 : Int32) : Option (PS ⊕ (PS × Nat)) := lt (fun (u2 : Unit) => some (.inr (S, 5))) fun j1 => if p1 < 0 then (j1 ()) else (if kK S a0 = 13 then ((kQ S a0 5).bind fun a6 => if kK S a6 = 6 then ((f_X2_count S a6).bind fun r9 => if p1 < r9 then (some (.inl S)) else (j1 ())) else none) else none)
abbrev rmX9_needFinding : Room := { frames := 6, cells := 1, slots := 6, locals := 90 }
set_option maxHeartbeats 4000000 in
set_option maxRecDepth 100000 in
theorem c_X9_needFinding (l : Launch) (hst9 : l.stackTraces = false) (D : va_G × Nat) (S : PS) (a0 : Nat) (p1 : Int32) (r : PS ⊕ (PS × Nat)) (hf : f_X9_needFinding S a0 p1 = some r) : XM l D yX9_needFinding wsX9_needFinding rmX9_needFinding S [.ref a0, .int p1] (mV r) 1 6 := by
  unfold f_X9_needFinding at hf
  refine vx_ofW (cc := cX9_needFinding) (maxL := 2) (ret := none) (by decide) rfl ?_
  intro p e s m args below meth c s₁ B hml hxt hv
  obtain ⟨rfl, hH0, hE, hNE⟩ := hv
  have hB := hH0.base
  have hx := B.exec
  have hb := B.bytes
  have hr := B.returns
  have hts := atoms_spec (ws := wsX9_needFinding) B.pre
  have hown : s.vm.findClass RX9 = some m.cls := findClass_of_methodNamed B.named
  have hlocks := B.notSynchronized
  have hH : HI D S S s s.heap [] := HI.start hH0
  have hl := lv_entry ([.ref a0, .int p1]) (n := 2) (Nat.le_of_ble_eq_true rfl)
  rw [lg_entry_eq]
  generalize (lg_sl ([.ref a0, .int p1]) ++ List.replicate (2 - (lg_sl ([.ref a0, .int p1])).length) Slot.unset).toArray = ls at hl ⊢
  have hl : lv_has ls 2 [(0, .ref a0), (1, .int p1)] := hl
  refine lv_iload_n hx hb dX9_needFinding_0 rfl (lv_at hl 1 rfl) ?_
  obtain ⟨j1, e3, hf⟩ := ol hf
  have Jj1 : ∀ (u2 : Unit) (H : Heap) (locs : List Loc) (ls : Array Slot), HI D S S s H locs → lv_has ls 2 [] → j1 u2 = some r → GX p l e (headSpec wsX9_needFinding rmX9_needFinding).room s m ([.ref a0, .int p1] : List Value).toArray below meth c D S (mV r) H locs 0 0 1 6 (F0 m 15 ls []) := by
    intro u2 H locs ls hH hl hf
    rw [← e3] at hf
    cases hf
    exact r_throwW (text := "no such finding") (cls := "java/util/NoSuchElementException") (names := ["java/lang/RuntimeException", "java/lang/Exception"]) 5 hx hb hst9 hown xf4 xn (hts (.classLink RX9 275 "java/util/NoSuchElementException") (List.mem_cons_of_mem _ gw_26_15)) (hts (.initialized "java/util/NoSuchElementException") (List.mem_cons_of_mem _ gw_26_16)) (List.mem_of_getElem? (i := 24) rfl) (xa4 hts hE) xg4 hE hB hH (hl.1.trans hml.symm) rfl dX9_needFinding_15 dX9_needFinding_18 dX9_needFinding_19 dX9_needFinding_22 dX9_needFinding_25 hxt (Nat.le_of_ble_eq_true rfl) (Nat.le_of_ble_eq_true rfl) (Nat.le_of_ble_eq_true rfl) (Nat.le_of_ble_eq_true rfl) hlocks ⟨Nat.le_of_ble_eq_true rfl, Nat.le_of_ble_eq_true rfl⟩
  refine lv_if_lt (tgt := 15) hx hb dX9_needFinding_1 (by decide) (fun c4 => ?_) (fun c4 => ?_)
  · have hf := ip hf c4
    exact Jj1 () _ _ ls hH (lv_sub hl [] rfl) hf
  · have hf := iq hf c4
    refine lv_iload_n hx hb dX9_needFinding_4 rfl (lv_at hl 1 rfl) ?_
    refine lv_aload_n hx hb dX9_needFinding_5 rfl (lv_at hl 0 rfl) ?_
    obtain ⟨ek5, hf⟩ := oc hf
    obtain ⟨a6, e7, hf⟩ := ob hf
    refine r_getQ hx hb 12 hts (fun w h => List.mem_cons_of_mem _ (mwsX90 w h)) hown hH ek5 (by decide) rfl 5 (by decide) rfl (hts (.fieldLink RX9 63 "Housestyle" "found" "LHousestyle$Findings;") (List.mem_cons_of_mem _ gw_20_13)) (fun _ h9 => h9) dX9_needFinding_6 e7 ?_
    obtain ⟨ek8, hf⟩ := oc hf
    obtain ⟨r9, e10, hf⟩ := ob hf
    refine r_callVi (As := []) ⟨hx, hb, hml, hown, hts⟩ (c_X2_count l D S a6 r9 e10) (cwV 0 hts (gwV gw_26_13 gw_13_0 gw_13_1 gw_11_18 gw_10_20) rfl rfl rfl (by decide +kernel) ⟨Nat.le_of_ble_eq_true rfl, Nat.le_of_ble_eq_true rfl⟩) hH hNE 5 ek8 (by decide) rfl rfl rfl hl.1 rfl (Nat.le_of_ble_eq_true rfl) dX9_needFinding_9 ⟨(Nat.le_of_ble_eq_true rfl), (Nat.le_of_ble_eq_true rfl)⟩ (fun H locs hH => ?_)
    refine lv_icmp_lt (tgt := 26) hx hb dX9_needFinding_12 (by decide) (fun c11 => ?_) (fun c11 => ?_)
    · have hf := ip hf c11
      refine W.widen (k := 1) (n := 6) (by omega) (by omega) ?_
      have hr9 := Option.some.inj hf
      subst hr9
      exact x_v hx hb hr hlocks hH dX9_needFinding_26
    · have hf := iq hf c11
      exact Jj1 () _ _ ls hH (lv_sub hl [] rfl) hf
set_option maxRecDepth 100000 in
def f_X2_ruleOf (S : PS) (a0 : Nat) (p1 : Int32) : Option (Int32) := if kK S a0 = 6 then ((kQ S a0 5).bind fun a2 => if kK S a2 = 9 then ((f_X5_get S a2 p1).bind fun r5 => some r5) else none) else none
abbrev rmX2_ruleOf : Room := { frames := 1, cells := 0, slots := 0, locals := 21 }
set_option maxHeartbeats 4000000 in
set_option maxRecDepth 100000 in
theorem c_X2_ruleOf (l : Launch) (D : va_G × Nat) (S : PS) (a0 : Nat) (p1 : Int32) (r : Int32) (hf : f_X2_ruleOf S a0 p1 = some r) : MI l D yX2_ruleOf wsX2_ruleOf rmX2_ruleOf S [.ref a0, .int p1] S r 0 0 := by
  unfold f_X2_ruleOf at hf
  refine Met.ofW (cc := cX2_ruleOf) (maxL := 2) (ret := (some .int)) (by decide) rfl ?_
  intro p e s m args below meth c s₁ B hml hv
  obtain ⟨rfl, hH0, hNE⟩ := hv
  have hx := B.exec
  have hb := B.bytes
  have hr := B.returns
  have hts := atoms_spec (ws := wsX2_ruleOf) B.pre
  have hown : s.vm.findClass RX2 = some m.cls := findClass_of_methodNamed B.named
  have hlocks := B.notSynchronized
  have hH : HI D S S s s.heap [] := HI.start hH0
  have hl := lv_entry ([.ref a0, .int p1]) (n := 2) (Nat.le_of_ble_eq_true rfl)
  rw [lg_entry_eq]
  generalize (lg_sl ([.ref a0, .int p1]) ++ List.replicate (2 - (lg_sl ([.ref a0, .int p1])).length) Slot.unset).toArray = ls at hl ⊢
  have hl : lv_has ls 2 [(0, .ref a0), (1, .int p1)] := hl
  refine lv_aload_n hx hb dX2_ruleOf_0 rfl (lv_at hl 0 rfl) ?_
  obtain ⟨ek1, hf⟩ := oc hf
  obtain ⟨a2, e3, hf⟩ := ob hf
  refine r_getQ hx hb 5 hts (fun w h => List.mem_cons_of_mem _ (mwsX20 w h)) hown hH ek1 (by decide) rfl 5 (by decide) rfl (hts (.fieldLink RX2 34 "Housestyle$Findings" "itsRules" "LHousestyle$Row;") (List.mem_cons_of_mem _ gw_10_18)) (fun _ h9 => h9) dX2_ruleOf_1 e3 ?_
  refine lv_iload_n hx hb dX2_ruleOf_4 rfl (lv_at hl 1 rfl) ?_
  obtain ⟨ek4, hf⟩ := oc hf
  obtain ⟨r5, e6, hf⟩ := ob hf
  refine r_callVi (As := [.int p1]) ⟨hx, hb, hml, hown, hts⟩ (c_X5_get l D S a2 p1 r5 e6) (cwV 1 hts (gwV gw_10_23 gw_2_13 gw_2_14 gw_1_5 gw_2_9) rfl rfl rfl (by decide +kernel) ⟨Nat.le_of_ble_eq_true rfl, Nat.le_of_ble_eq_true rfl⟩) hH hNE 8 ek4 (by decide) rfl rfl rfl hl.1 rfl (Nat.le_of_ble_eq_true rfl) dX2_ruleOf_5 ⟨(Nat.le_of_ble_eq_true rfl), (Nat.le_of_ble_eq_true rfl)⟩ (fun H locs hH => ?_)
  have hr9 := Option.some.inj hf
  subst hr9
  exact e_i hx hb hr hlocks hH dX2_ruleOf_8
set_option maxRecDepth 100000 in
def f_X2_fromOf (S : PS) (a0 : Nat) (p1 : Int32) : Option (Int32) := if kK S a0 = 6 then ((kQ S a0 1).bind fun a2 => (kQ S a0 4).bind fun a4 => if kK S a4 = 9 then ((f_X5_get S a4 p1).bind fun r7 => if kK S a2 = 12 then ((f_X8_fromOf S a2 r7).bind fun r10 => some r10) else none) else none) else none
abbrev rmX2_fromOf : Room := { frames := 2, cells := 0, slots := 0, locals := 42 }
set_option maxHeartbeats 4000000 in
set_option maxRecDepth 100000 in
theorem c_X2_fromOf (l : Launch) (D : va_G × Nat) (S : PS) (a0 : Nat) (p1 : Int32) (r : Int32) (hf : f_X2_fromOf S a0 p1 = some r) : MI l D yX2_fromOf wsX2_fromOf rmX2_fromOf S [.ref a0, .int p1] S r 0 0 := by
  unfold f_X2_fromOf at hf
  refine Met.ofW (cc := cX2_fromOf) (maxL := 2) (ret := (some .int)) (by decide) rfl ?_
  intro p e s m args below meth c s₁ B hml hv
  obtain ⟨rfl, hH0, hNE⟩ := hv
  have hx := B.exec
  have hb := B.bytes
  have hr := B.returns
  have hts := atoms_spec (ws := wsX2_fromOf) B.pre
  have hown : s.vm.findClass RX2 = some m.cls := findClass_of_methodNamed B.named
  have hlocks := B.notSynchronized
  have hH : HI D S S s s.heap [] := HI.start hH0
  have hl := lv_entry ([.ref a0, .int p1]) (n := 2) (Nat.le_of_ble_eq_true rfl)
  rw [lg_entry_eq]
  generalize (lg_sl ([.ref a0, .int p1]) ++ List.replicate (2 - (lg_sl ([.ref a0, .int p1])).length) Slot.unset).toArray = ls at hl ⊢
  have hl : lv_has ls 2 [(0, .ref a0), (1, .int p1)] := hl
  refine lv_aload_n hx hb dX2_fromOf_0 rfl (lv_at hl 0 rfl) ?_
  obtain ⟨ek1, hf⟩ := oc hf
  obtain ⟨a2, e3, hf⟩ := ob hf
  refine r_getQ hx hb 5 hts (fun w h => List.mem_cons_of_mem _ (mwsX20 w h)) hown hH ek1 (by decide) rfl 1 (by decide) rfl (hts (.fieldLink RX2 15 "Housestyle$Findings" "tokens" "LHousestyle$Tokens;") (List.mem_cons_of_mem _ gw_10_13)) (fun _ h9 => h9) dX2_fromOf_1 e3 ?_
  refine lv_aload_n hx hb dX2_fromOf_4 rfl (lv_at hl 0 rfl) ?_
  obtain ⟨a4, e5, hf⟩ := ob hf
  refine r_getQ hx hb 5 hts (fun w h => List.mem_cons_of_mem _ (mwsX20 w h)) hown hH ek1 (by decide) rfl 4 (by decide) rfl (hts (.fieldLink RX2 31 "Housestyle$Findings" "itsTokens" "LHousestyle$Row;") (List.mem_cons_of_mem _ gw_10_17)) (fun _ h9 => h9) dX2_fromOf_5 e5 ?_
  refine lv_iload_n hx hb dX2_fromOf_8 rfl (lv_at hl 1 rfl) ?_
  obtain ⟨ek6, hf⟩ := oc hf
  obtain ⟨r7, e8, hf⟩ := ob hf
  refine r_callVi (As := [.int p1]) ⟨hx, hb, hml, hown, hts⟩ (c_X5_get l D S a4 p1 r7 e8) (cwV 1 hts (gwV gw_10_23 gw_2_13 gw_2_14 gw_1_5 gw_2_9) rfl rfl rfl (by decide +kernel) ⟨Nat.le_of_ble_eq_true rfl, Nat.le_of_ble_eq_true rfl⟩) hH hNE 8 ek6 (by decide) rfl rfl rfl hl.1 rfl (Nat.le_of_ble_eq_true rfl) dX2_fromOf_9 ⟨(Nat.le_of_ble_eq_true rfl), (Nat.le_of_ble_eq_true rfl)⟩ (fun H locs hH => ?_)
  obtain ⟨ek9, hf⟩ := oc hf
  obtain ⟨r10, e11, hf⟩ := ob hf
  refine r_callVi (As := [.int r7]) ⟨hx, hb, hml, hown, hts⟩ (c_X8_fromOf l D S a2 r7 r10 e11) (cwV 1 hts (gwV gw_11_3 gw_11_4 gw_11_5 gw_2_23 gw_11_1) rfl rfl rfl (by decide +kernel) ⟨Nat.le_of_ble_eq_true rfl, Nat.le_of_ble_eq_true rfl⟩) hH hNE 11 ek9 (by decide) rfl rfl rfl hl.1 rfl (Nat.le_of_ble_eq_true rfl) dX2_fromOf_12 ⟨(Nat.le_of_ble_eq_true rfl), (Nat.le_of_ble_eq_true rfl)⟩ (fun H locs hH => ?_)
  have hr9 := Option.some.inj hf
  subst hr9
  exact e_i hx hb hr hlocks hH dX2_fromOf_15
set_option maxRecDepth 100000 in
def f_X2_lengthOf (S : PS) (a0 : Nat) (p1 : Int32) : Option (Int32) := if kK S a0 = 6 then ((kQ S a0 5).bind fun a2 => if kK S a2 = 9 then ((f_X5_get S a2 p1).bind fun r5 => (kQ S a0 4).bind fun a7 => if kK S a7 = 9 then ((f_X5_get S a7 p1).bind fun r10 => (f_X2_lengthAt S a0 r5 r10).bind fun r12 => some r12) else none) else none) else none
abbrev rmX2_lengthOf : Room := { frames := 5, cells := 0, slots := 0, locals := 107 }
set_option maxHeartbeats 4000000 in
set_option maxRecDepth 100000 in
theorem c_X2_lengthOf (l : Launch) (D : va_G × Nat) (S : PS) (a0 : Nat) (p1 : Int32) (r : Int32) (hf : f_X2_lengthOf S a0 p1 = some r) : MI l D yX2_lengthOf wsX2_lengthOf rmX2_lengthOf S [.ref a0, .int p1] S r 0 0 := by
  unfold f_X2_lengthOf at hf
  refine Met.ofW (cc := cX2_lengthOf) (maxL := 2) (ret := (some .int)) (by decide) rfl ?_
  intro p e s m args below meth c s₁ B hml hv
  obtain ⟨rfl, hH0, hNE⟩ := hv
  have hx := B.exec
  have hb := B.bytes
  have hr := B.returns
  have hts := atoms_spec (ws := wsX2_lengthOf) B.pre
  have hown : s.vm.findClass RX2 = some m.cls := findClass_of_methodNamed B.named
  have hlocks := B.notSynchronized
  have hH : HI D S S s s.heap [] := HI.start hH0
  have hl := lv_entry ([.ref a0, .int p1]) (n := 2) (Nat.le_of_ble_eq_true rfl)
  rw [lg_entry_eq]
  generalize (lg_sl ([.ref a0, .int p1]) ++ List.replicate (2 - (lg_sl ([.ref a0, .int p1])).length) Slot.unset).toArray = ls at hl ⊢
  have hl : lv_has ls 2 [(0, .ref a0), (1, .int p1)] := hl
  refine lv_aload_n hx hb dX2_lengthOf_0 rfl (lv_at hl 0 rfl) ?_
  refine lv_aload_n hx hb dX2_lengthOf_1 rfl (lv_at hl 0 rfl) ?_
  obtain ⟨ek1, hf⟩ := oc hf
  obtain ⟨a2, e3, hf⟩ := ob hf
  refine r_getQ hx hb 5 hts (fun w h => List.mem_cons_of_mem _ (mwsX20 w h)) hown hH ek1 (by decide) rfl 5 (by decide) rfl (hts (.fieldLink RX2 34 "Housestyle$Findings" "itsRules" "LHousestyle$Row;") (List.mem_cons_of_mem _ gw_10_18)) (fun _ h9 => h9) dX2_lengthOf_2 e3 ?_
  refine lv_iload_n hx hb dX2_lengthOf_5 rfl (lv_at hl 1 rfl) ?_
  obtain ⟨ek4, hf⟩ := oc hf
  obtain ⟨r5, e6, hf⟩ := ob hf
  refine r_callVi (As := [.int p1]) ⟨hx, hb, hml, hown, hts⟩ (c_X5_get l D S a2 p1 r5 e6) (cwV 1 hts (gwV gw_10_23 gw_2_13 gw_2_14 gw_1_5 gw_2_9) rfl rfl rfl (by decide +kernel) ⟨Nat.le_of_ble_eq_true rfl, Nat.le_of_ble_eq_true rfl⟩) hH hNE 8 ek4 (by decide) rfl rfl rfl hl.1 rfl (Nat.le_of_ble_eq_true rfl) dX2_lengthOf_6 ⟨(Nat.le_of_ble_eq_true rfl), (Nat.le_of_ble_eq_true rfl)⟩ (fun H locs hH => ?_)
  refine lv_aload_n hx hb dX2_lengthOf_9 rfl (lv_at hl 0 rfl) ?_
  obtain ⟨a7, e8, hf⟩ := ob hf
  refine r_getQ hx hb 5 hts (fun w h => List.mem_cons_of_mem _ (mwsX20 w h)) hown hH ek1 (by decide) rfl 4 (by decide) rfl (hts (.fieldLink RX2 31 "Housestyle$Findings" "itsTokens" "LHousestyle$Row;") (List.mem_cons_of_mem _ gw_10_17)) (fun _ h9 => h9) dX2_lengthOf_10 e8 ?_
  refine lv_iload_n hx hb dX2_lengthOf_13 rfl (lv_at hl 1 rfl) ?_
  obtain ⟨ek9, hf⟩ := oc hf
  obtain ⟨r10, e11, hf⟩ := ob hf
  refine r_callVi (As := [.int p1]) ⟨hx, hb, hml, hown, hts⟩ (c_X5_get l D S a7 p1 r10 e11) (cwV 1 hts (gwV gw_10_23 gw_2_13 gw_2_14 gw_1_5 gw_2_9) rfl rfl rfl (by decide +kernel) ⟨Nat.le_of_ble_eq_true rfl, Nat.le_of_ble_eq_true rfl⟩) hH hNE 8 ek9 (by decide) rfl rfl rfl hl.1 rfl (Nat.le_of_ble_eq_true rfl) dX2_lengthOf_14 ⟨(Nat.le_of_ble_eq_true rfl), (Nat.le_of_ble_eq_true rfl)⟩ (fun H locs hH => ?_)
  obtain ⟨r12, e13, hf⟩ := ob hf
  refine r_callVi (As := [.int r5, .int r10]) ⟨hx, hb, hml, hown, hts⟩ (c_X2_lengthAt l D S a0 r5 r10 r12 e13) (cwV 2 hts (gwV gw_11_15 gw_11_16 gw_11_17 gw_11_18 gw_11_7) rfl rfl rfl (by decide +kernel) ⟨Nat.le_of_ble_eq_true rfl, Nat.le_of_ble_eq_true rfl⟩) hH hNE 5 ek1 (by decide) rfl rfl rfl hl.1 rfl (Nat.le_of_ble_eq_true rfl) dX2_lengthOf_17 ⟨(Nat.le_of_ble_eq_true rfl), (Nat.le_of_ble_eq_true rfl)⟩ (fun H locs hH => ?_)
  have hr9 := Option.some.inj hf
  subst hr9
  exact e_i hx hb hr hlocks hH dX2_lengthOf_20
set_option maxRecDepth 100000 in
def f_X0_suggestionsOf (S : PS) (a0 : Nat) (p1 : Int32) : Option (Int32) := lt (fun (u10 : Unit) => if p1 < (12 : Int32) then (some 0) else (if kK S a0 = 4 then ((kQ S a0 1).bind fun a4 => if kK S a4 = 3 then ((f_Jx4a65c_size_8abf5 S a4).bind fun r7 => if r7 ≤ (p1 - 12) then (some 0) else (some 1)) else none) else none)) fun j1 => if p1 < 0 then (j1 ()) else (if kK S a0 = 4 then ((kQ S a0 0).bind fun a14 => if kK S a14 = 3 then ((f_Jx4a65c_size_8abf5 S a14).bind fun r17 => if r17 ≤ p1 then (j1 ()) else ((f_Jx4a65c_get_915e3 S a14 p1).bind fun r20 => if kK S r20 = 10 then ((kQ S r20 5).bind fun a23 => if kK S a23 = 3 then ((f_Jx4a65c_size_8abf5 S a23).bind fun r26 => some r26) else none) else none)) else none) else none)
abbrev rmX0_suggestionsOf : Room := { frames := 3, cells := 0, slots := 0, locals := 64 }
set_option maxHeartbeats 4000000 in
set_option maxRecDepth 100000 in
theorem c_X0_suggestionsOf (l : Launch) (D : va_G × Nat) (S : PS) (a0 : Nat) (p1 : Int32) (r : Int32) (hf : f_X0_suggestionsOf S a0 p1 = some r) : MI l D yX0_suggestionsOf wsX0_suggestionsOf rmX0_suggestionsOf S [.ref a0, .int p1] S r 0 0 := by
  unfold f_X0_suggestionsOf at hf
  refine Met.ofW (cc := cX0_suggestionsOf) (maxL := 2) (ret := (some .int)) (by decide) rfl ?_
  intro p e s m args below meth c s₁ B hml hv
  obtain ⟨rfl, hH0, hNE⟩ := hv
  have hx := B.exec
  have hb := B.bytes
  have hr := B.returns
  have hts := atoms_spec (ws := wsX0_suggestionsOf) B.pre
  have hown : s.vm.findClass RX0 = some m.cls := findClass_of_methodNamed B.named
  have hlocks := B.notSynchronized
  have hH : HI D S S s s.heap [] := HI.start hH0
  have hl := lv_entry ([.ref a0, .int p1]) (n := 2) (Nat.le_of_ble_eq_true rfl)
  rw [lg_entry_eq]
  generalize (lg_sl ([.ref a0, .int p1]) ++ List.replicate (2 - (lg_sl ([.ref a0, .int p1])).length) Slot.unset).toArray = ls at hl ⊢
  have hl : lv_has ls 2 [(0, .ref a0), (1, .int p1)] := hl
  refine lv_iload_n hx hb dX0_suggestionsOf_0 rfl (lv_at hl 1 rfl) ?_
  obtain ⟨j1, e11, hf⟩ := ol hf
  have Jj1 : ∀ (u10 : Unit) (H : Heap) (locs : List Loc) (ls : Array Slot), HI D S S s H locs → lv_has ls 2 [(0, .ref a0), (1, .int p1)] → j1 u10 = some r → GI p l e (headSpec wsX0_suggestionsOf rmX0_suggestionsOf).room s m ([.ref a0, .int p1] : List Value).toArray below meth c D S S r H locs 0 0 0 0 (F0 m 33 ls []) := by
    intro u10 H locs ls hH hl hf
    rw [← e11] at hf
    refine lv_iload_n hx hb dX0_suggestionsOf_33 rfl (lv_at hl 1 rfl) ?_
    refine lv_bipush (v := 12) hx hb dX0_suggestionsOf_34 (by decide) ?_
    refine lv_icmp_lt (tgt := 57) hx hb dX0_suggestionsOf_36 (by decide) (fun c2 => ?_) (fun c2 => ?_)
    · have hf := ip hf c2
      refine lv_iconst (v := 0) hx hb dX0_suggestionsOf_57 (by decide) ?_
      have hr9 := Option.some.inj hf
      subst hr9
      exact e_i hx hb hr hlocks hH dX0_suggestionsOf_58
    · have hf := iq hf c2
      refine lv_iload_n hx hb dX0_suggestionsOf_39 rfl (lv_at hl 1 rfl) ?_
      refine lv_bipush (v := 12) hx hb dX0_suggestionsOf_40 (by decide) ?_
      refine lv_isub hx hb dX0_suggestionsOf_42 ?_
      refine lv_aload_n hx hb dX0_suggestionsOf_43 rfl (lv_at hl 0 rfl) ?_
      obtain ⟨ek3, hf⟩ := oc hf
      obtain ⟨a4, e5, hf⟩ := ob hf
      refine r_getQ hx hb 3 hts (fun w h => List.mem_cons_of_mem _ (mwsX00 w h)) hown hH ek3 (by decide) rfl 1 (by decide) rfl (hts (.fieldLink RX0 18 "Housestyle$Book" "pairs" "Ljava/util/ArrayList;") (List.mem_cons_of_mem _ gw_1_2)) (fun _ h9 => h9) dX0_suggestionsOf_44 e5 ?_
      obtain ⟨ek6, hf⟩ := oc hf
      obtain ⟨r7, e8, hf⟩ := ob hf
      refine r_callVi (As := []) ⟨hx, hb, hml, hown, hts⟩ (c_Jx4a65c_size_8abf5 l D S a4 r7 e8) (cwV 0 hts (gwV gw_6_12 gw_4_10 gw_4_11 gw_1_0 gw_1_18) rfl rfl rfl (by decide +kernel) ⟨Nat.le_of_ble_eq_true rfl, Nat.le_of_ble_eq_true rfl⟩) hH hNE 2 ek6 (by decide) rfl rfl rfl hl.1 rfl (Nat.le_of_ble_eq_true rfl) dX0_suggestionsOf_47 ⟨(Nat.le_of_ble_eq_true rfl), (Nat.le_of_ble_eq_true rfl)⟩ (fun H locs hH => ?_)
      refine lv_icmp_ge (tgt := 57) hx hb dX0_suggestionsOf_50 (by decide) (fun c9 => ?_) (fun c9 => ?_)
      · have hf := ip hf c9
        refine lv_iconst (v := 0) hx hb dX0_suggestionsOf_57 (by decide) ?_
        have hr9 := Option.some.inj hf
        subst hr9
        exact e_i hx hb hr hlocks hH dX0_suggestionsOf_58
      · have hf := iq hf c9
        refine lv_iconst (v := 1) hx hb dX0_suggestionsOf_53 (by decide) ?_
        refine lv_goto (tgt := 58) hx hb dX0_suggestionsOf_54 (by decide) ?_
        have hr9 := Option.some.inj hf
        subst hr9
        exact e_i hx hb hr hlocks hH dX0_suggestionsOf_58
  refine lv_if_lt (tgt := 33) hx hb dX0_suggestionsOf_1 (by decide) (fun c12 => ?_) (fun c12 => ?_)
  · have hf := ip hf c12
    exact Jj1 () _ _ ls hH (lv_sub hl [0, 1] rfl) hf
  · have hf := iq hf c12
    refine lv_iload_n hx hb dX0_suggestionsOf_4 rfl (lv_at hl 1 rfl) ?_
    refine lv_aload_n hx hb dX0_suggestionsOf_5 rfl (lv_at hl 0 rfl) ?_
    obtain ⟨ek13, hf⟩ := oc hf
    obtain ⟨a14, e15, hf⟩ := ob hf
    refine r_getQ hx hb 3 hts (fun w h => List.mem_cons_of_mem _ (mwsX00 w h)) hown hH ek13 (by decide) rfl 0 (by decide) rfl (hts (.fieldLink RX0 12 "Housestyle$Book" "rules" "Ljava/util/ArrayList;") (List.mem_cons_of_mem _ gw_1_1)) (fun _ h9 => h9) dX0_suggestionsOf_6 e15 ?_
    obtain ⟨ek16, hf⟩ := oc hf
    obtain ⟨r17, e18, hf⟩ := ob hf
    refine r_callVi (As := []) ⟨hx, hb, hml, hown, hts⟩ (c_Jx4a65c_size_8abf5 l D S a14 r17 e18) (cwV 0 hts (gwV gw_6_12 gw_4_10 gw_4_11 gw_1_0 gw_1_18) rfl rfl rfl (by decide +kernel) ⟨Nat.le_of_ble_eq_true rfl, Nat.le_of_ble_eq_true rfl⟩) hH hNE 2 ek16 (by decide) rfl rfl rfl hl.1 rfl (Nat.le_of_ble_eq_true rfl) dX0_suggestionsOf_9 ⟨(Nat.le_of_ble_eq_true rfl), (Nat.le_of_ble_eq_true rfl)⟩ (fun H locs hH => ?_)
    refine lv_icmp_ge (tgt := 33) hx hb dX0_suggestionsOf_12 (by decide) (fun c19 => ?_) (fun c19 => ?_)
    · have hf := ip hf c19
      exact Jj1 () _ _ ls hH (lv_sub hl [0, 1] rfl) hf
    · have hf := iq hf c19
      refine lv_aload_n hx hb dX0_suggestionsOf_15 rfl (lv_at hl 0 rfl) ?_
      refine r_getQ hx hb 3 hts (fun w h => List.mem_cons_of_mem _ (mwsX00 w h)) hown hH ek13 (by decide) rfl 0 (by decide) rfl (hts (.fieldLink RX0 12 "Housestyle$Book" "rules" "Ljava/util/ArrayList;") (List.mem_cons_of_mem _ gw_1_1)) (fun _ h9 => h9) dX0_suggestionsOf_16 e15 ?_
      refine lv_iload_n hx hb dX0_suggestionsOf_19 rfl (lv_at hl 1 rfl) ?_
      obtain ⟨r20, e21, hf⟩ := ob hf
      refine r_callVr (As := [.int p1]) ⟨hx, hb, hml, hown, hts⟩ (c_Jx4a65c_get_915e3 l D S a14 p1 r20 e21) (cwV 1 hts (gwV gw_6_13 gw_4_13 gw_4_14 gw_1_0 gw_2_2) rfl rfl rfl (by decide +kernel) ⟨Nat.le_of_ble_eq_true rfl, Nat.le_of_ble_eq_true rfl⟩) hH hNE 2 ek16 (by decide) rfl rfl rfl hl.1 rfl (Nat.le_of_ble_eq_true rfl) dX0_suggestionsOf_20 ⟨(Nat.le_of_ble_eq_true rfl), (Nat.le_of_ble_eq_true rfl)⟩ (fun H locs hH => ?_)
      obtain ⟨ek22, hf⟩ := oc hf
      refine r_castS 9 hx hb hown (hts (.classLink RX0 46 "Housestyle$Rule") (List.mem_cons_of_mem _ gw_6_7)) hH ek22 (by decide) rfl rfl dX0_suggestionsOf_23 ?_
      obtain ⟨a23, e24, hf⟩ := ob hf
      refine r_getQN hx hb 9 hts (fun w h => List.mem_cons_of_mem _ (mwsX60 w h)) hown hH ek22 (by decide) rfl 5 (by decide) rfl (nf_18 hNE) (fun _ h9 => h9) dX0_suggestionsOf_26 e24 ?_
      obtain ⟨ek25, hf⟩ := oc hf
      obtain ⟨r26, e27, hf⟩ := ob hf
      refine r_callVi (As := []) ⟨hx, hb, hml, hown, hts⟩ (c_Jx4a65c_size_8abf5 l D S a23 r26 e27) (cwV 0 hts (gwV gw_6_12 gw_4_10 gw_4_11 gw_1_0 gw_1_18) rfl rfl rfl (by decide +kernel) ⟨Nat.le_of_ble_eq_true rfl, Nat.le_of_ble_eq_true rfl⟩) hH hNE 2 ek25 (by decide) rfl rfl rfl hl.1 rfl (Nat.le_of_ble_eq_true rfl) dX0_suggestionsOf_29 ⟨(Nat.le_of_ble_eq_true rfl), (Nat.le_of_ble_eq_true rfl)⟩ (fun H locs hH => ?_)
      have hr9 := Option.some.inj hf
      subst hr9
      exact e_i hx hb hr hlocks hH dX0_suggestionsOf_32
set_option maxRecDepth 100000 in
def f_X9_of (S : PS) (a0 : Nat) (p1 : Int32) (p2 : Int32) (p3 : Int32) : Option ((PS × Int32) ⊕ (PS × Nat)) := if kK S a0 = 13 then (bx2 (f_X9_findFor S a0 p1) fun S3 a4 => lt (fun (u44 : Unit) => if kK S3 a0 = 13 then (bx1 (f_X9_needFinding S3 a0 p2) fun S8 => if kK S8 a0 = 13 then ((kQ S8 a0 5).bind fun a10 => if kK S8 a10 = 6 then ((f_X2_ruleOf S8 a10 p2).bind fun r13 => if p3 = (102 : Int32) then ((f_X2_fromOf S8 a10 p2).bind fun r42 => some (.inl (S8, r42))) else (if p3 = (108 : Int32) then ((f_X2_lengthOf S8 a10 p2).bind fun r40 => some (.inl (S8, r40))) else (if p3 = (114 : Int32) then (some (.inl (S8, r13))) else (if p3 = (107 : Int32) then ((kQ S8 a0 3).bind fun a35 => if kK S8 a35 = 4 then ((f_X0_rankAt S8 a35 a4 r13).bind fun r38 => some (.inl (S8, r38))) else none) else (if p3 = (119 : Int32) then ((kQ S8 a0 1).bind fun a25 => if kK S8 a25 = 11 then ((kQ S8 a25 1).bind fun a28 => (f_X2_fromOf S8 a10 p2).bind fun r30 => if kK S8 a28 = 9 then ((f_X5_get S8 a28 r30).bind fun r33 => some (.inl (S8, r33))) else none) else none) else ((kQ S8 a0 3).bind fun a20 => if kK S8 a20 = 4 then ((f_X0_suggestionsOf S8 a20 r13).bind fun r23 => some (.inl (S8, r23))) else none)))))) else none) else none) else none) fun j5 => if p3 = (102 : Int32) then (j5 ()) else (if p3 = (108 : Int32) then (j5 ()) else (if p3 = (114 : Int32) then (j5 ()) else (if p3 = (107 : Int32) then (j5 ()) else (if p3 = (119 : Int32) then (j5 ()) else (if p3 = (115 : Int32) then (j5 ()) else (some (.inr (S3, 1))))))))) else none
abbrev rmX9_of : Room := { frames := 8, cells := 2, slots := 12, locals := 178 }
set_option maxHeartbeats 4000000 in
set_option maxRecDepth 100000 in
theorem c_X9_of (l : Launch) (hst9 : l.stackTraces = false) (D : va_G × Nat) (S : PS) (a0 : Nat) (p1 : Int32) (p2 : Int32) (p3 : Int32) (r : (PS × Int32) ⊕ (PS × Nat)) (hf : f_X9_of S a0 p1 p2 p3 = some r) : XM l D yX9_of wsX9_of rmX9_of S [.ref a0, .int p1, .int p2, .int p3] (mI r) 2 12 := by
  unfold f_X9_of at hf
  refine vx_ofW (cc := cX9_of) (maxL := 6) (ret := (some .int)) (by decide) rfl ?_
  intro p e s m args below meth c s₁ B hml hxt hv
  obtain ⟨rfl, hH0, hE, hNE⟩ := hv
  have hB := hH0.base
  have hx := B.exec
  have hb := B.bytes
  have hr := B.returns
  have hts := atoms_spec (ws := wsX9_of) B.pre
  have hown : s.vm.findClass RX9 = some m.cls := findClass_of_methodNamed B.named
  have hlocks := B.notSynchronized
  have hH : HI D S S s s.heap [] := HI.start hH0
  have hl := lv_entry ([.ref a0, .int p1, .int p2, .int p3]) (n := 6) (Nat.le_of_ble_eq_true rfl)
  rw [lg_entry_eq]
  generalize (lg_sl ([.ref a0, .int p1, .int p2, .int p3]) ++ List.replicate (6 - (lg_sl ([.ref a0, .int p1, .int p2, .int p3])).length) Slot.unset).toArray = ls at hl ⊢
  have hl : lv_has ls 6 [(0, .ref a0), (1, .int p1), (2, .int p2), (3, .int p3)] := hl
  refine lv_aload_n hx hb dX9_of_0 rfl (lv_at hl 0 rfl) ?_
  refine lv_iload_n hx hb dX9_of_1 rfl (lv_at hl 1 rfl) ?_
  obtain ⟨ek1, hf⟩ := oc hf
  rcases obx2 hf with ⟨x4_, e2, rfl⟩ | ⟨S3, a4, e2, hf⟩
  · refine r_xVex (As := [.int p1]) ⟨hx, hb, hml, hown, hts⟩ (c_X9_findFor l hst9 D S a0 p1 (.inr x4_) e2) (cwV 1 hts (gwV gw_26_10 gw_26_11 gw_26_12 gw_14_5 gw_25_23) rfl rfl rfl (by decide +kernel) ⟨Nat.le_of_ble_eq_true rfl, Nat.le_of_ble_eq_true rfl⟩) hH hE hB hNE 12 ek1 (by decide) rfl rfl rfl hl.1 rfl (Nat.le_of_ble_eq_true rfl) dX9_of_2 ⟨(Nat.le_of_ble_eq_true rfl), (Nat.le_of_ble_eq_true rfl)⟩ (fun z9 ce9 q9 H locs hH hk9 hz9 h91 h92 h93 => ?_)
    exact x_out hxt hlocks hH hk9 hz9 h91 h92 h93 ⟨Nat.le_of_ble_eq_true rfl, Nat.le_of_ble_eq_true rfl⟩
  refine r_xVok (As := [.int p1]) (S' := S3) (v := (some (.ref a4))) (st1 := [.ref a4]) ⟨hx, hb, hml, hown, hts⟩ (c_X9_findFor l hst9 D S a0 p1 (.inl (S3, a4)) e2) (cwV 1 hts (gwV gw_26_10 gw_26_11 gw_26_12 gw_14_5 gw_25_23) rfl rfl rfl (by decide +kernel) ⟨Nat.le_of_ble_eq_true rfl, Nat.le_of_ble_eq_true rfl⟩) hH hE hB hNE 12 ek1 (by decide) rfl rfl rfl hl.1 rfl (Nat.le_of_ble_eq_true rfl) dX9_of_2 ⟨(Nat.le_of_ble_eq_true rfl), (Nat.le_of_ble_eq_true rfl)⟩ rfl (fun H locs hH => ?_)
  refine W.widen (k := 1) (n := 6) (by omega) (by omega) ?_
  refine lv_astore (lv' := [(4, .ref a4), (0, .ref a0), (1, .int p1), (2, .int p2), (3, .int p3)]) hx hb dX9_of_5 hl (by decide) rfl (fun ls hl => ?_)
  refine lv_iload_n hx hb dX9_of_7 rfl (lv_at hl 4 rfl) ?_
  refine lv_bipush (v := 102) hx hb dX9_of_8 (by decide) ?_
  obtain ⟨j5, e45, hf⟩ := ol hf
  have Jj5 : ∀ (u44 : Unit) (H : Heap) (locs : List Loc) (ls : Array Slot), HI D S S3 s H locs → lv_has ls 6 [(0, .ref a0), (2, .int p2), (3, .int p3), (4, .ref a4)] → j5 u44 = some r → GX p l e (headSpec wsX9_of rmX9_of).room s m ([.ref a0, .int p1, .int p2, .int p3] : List Value).toArray below meth c D S (mI r) H locs 1 6 2 12 (F0 m 53 ls []) := by
    intro u44 H locs ls hH hl hf
    rw [← e45] at hf
    refine lv_aload_n hx hb dX9_of_53 rfl (lv_at hl 0 rfl) ?_
    refine lv_iload_n hx hb dX9_of_54 rfl (lv_at hl 1 rfl) ?_
    obtain ⟨ek6, hf⟩ := oc hf
    rcases obx1 hf with ⟨x8_, e7, rfl⟩ | ⟨S8, e7, hf⟩
    · refine r_xVex (As := [.int p2]) ⟨hx, hb, hml, hown, hts⟩ (c_X9_needFinding l hst9 D S3 a0 p2 (.inr x8_) e7) (cwV 1 hts (gwV gw_26_18 gw_26_19 gw_26_20 gw_14_5 gw_26_14) rfl rfl rfl (by decide +kernel) ⟨Nat.le_of_ble_eq_true rfl, Nat.le_of_ble_eq_true rfl⟩) hH hE hB hNE 12 ek6 (by decide) rfl rfl rfl hl.1 rfl (Nat.le_of_ble_eq_true rfl) dX9_of_55 ⟨(Nat.le_of_ble_eq_true rfl), (Nat.le_of_ble_eq_true rfl)⟩ (fun z9 ce9 q9 H locs hH hk9 hz9 h91 h92 h93 => ?_)
      exact x_out hxt hlocks hH hk9 hz9 h91 h92 h93 ⟨Nat.le_of_ble_eq_true rfl, Nat.le_of_ble_eq_true rfl⟩
    refine r_xVok (As := [.int p2]) (S' := S8) (v := none) (st1 := []) ⟨hx, hb, hml, hown, hts⟩ (c_X9_needFinding l hst9 D S3 a0 p2 (.inl S8) e7) (cwV 1 hts (gwV gw_26_18 gw_26_19 gw_26_20 gw_14_5 gw_26_14) rfl rfl rfl (by decide +kernel) ⟨Nat.le_of_ble_eq_true rfl, Nat.le_of_ble_eq_true rfl⟩) hH hE hB hNE 12 ek6 (by decide) rfl rfl rfl hl.1 rfl (Nat.le_of_ble_eq_true rfl) dX9_of_55 ⟨(Nat.le_of_ble_eq_true rfl), (Nat.le_of_ble_eq_true rfl)⟩ rfl (fun H locs hH => ?_)
    refine W.widen (k := 2) (n := 12) (by omega) (by omega) ?_
    refine lv_aload_n hx hb dX9_of_58 rfl (lv_at hl 0 rfl) ?_
    obtain ⟨ek9, hf⟩ := oc hf
    obtain ⟨a10, e11, hf⟩ := ob hf
    refine r_getQ hx hb 12 hts (fun w h => List.mem_cons_of_mem _ (mwsX90 w h)) hown hH ek9 (by decide) rfl 5 (by decide) rfl (hts (.fieldLink RX9 63 "Housestyle" "found" "LHousestyle$Findings;") (List.mem_cons_of_mem _ gw_20_13)) (fun _ h9 => h9) dX9_of_59 e11 ?_
    refine lv_iload_n hx hb dX9_of_62 rfl (lv_at hl 1 rfl) ?_
    obtain ⟨ek12, hf⟩ := oc hf
    obtain ⟨r13, e14, hf⟩ := ob hf
    refine r_callVi (As := [.int p2]) ⟨hx, hb, hml, hown, hts⟩ (c_X2_ruleOf l D S8 a10 p2 r13 e14) (cwV 1 hts (gwV gw_26_21 gw_26_22 gw_26_23 gw_11_18 gw_11_0) rfl rfl rfl (by decide +kernel) ⟨Nat.le_of_ble_eq_true rfl, Nat.le_of_ble_eq_true rfl⟩) hH hNE 5 ek12 (by decide) rfl rfl rfl hl.1 rfl (Nat.le_of_ble_eq_true rfl) dX9_of_63 ⟨(Nat.le_of_ble_eq_true rfl), (Nat.le_of_ble_eq_true rfl)⟩ (fun H locs hH => ?_)
    refine lv_istore (lv' := [(5, .int r13), (0, .ref a0), (2, .int p2), (3, .int p3), (4, .ref a4)]) hx hb dX9_of_66 hl (by decide) rfl (fun ls hl => ?_)
    refine lv_iload_n hx hb dX9_of_68 rfl (lv_at hl 3 rfl) ?_
    refine lv_bipush (v := 102) hx hb dX9_of_69 (by decide) ?_
    refine lv_icmp_ne (tgt := 83) hx hb dX9_of_71 (by decide) (fun c15 => ?_) (fun c15 => ?_)
    · have hf := iq hf c15
      refine lv_iload_n hx hb dX9_of_83 rfl (lv_at hl 3 rfl) ?_
      refine lv_bipush (v := 108) hx hb dX9_of_84 (by decide) ?_
      refine lv_icmp_ne (tgt := 98) hx hb dX9_of_86 (by decide) (fun c16 => ?_) (fun c16 => ?_)
      · have hf := iq hf c16
        refine lv_iload_n hx hb dX9_of_98 rfl (lv_at hl 3 rfl) ?_
        refine lv_bipush (v := 114) hx hb dX9_of_99 (by decide) ?_
        refine lv_icmp_ne (tgt := 107) hx hb dX9_of_101 (by decide) (fun c17 => ?_) (fun c17 => ?_)
        · have hf := iq hf c17
          refine lv_iload_n hx hb dX9_of_107 rfl (lv_at hl 3 rfl) ?_
          refine lv_bipush (v := 107) hx hb dX9_of_108 (by decide) ?_
          refine lv_icmp_ne (tgt := 125) hx hb dX9_of_110 (by decide) (fun c18 => ?_) (fun c18 => ?_)
          · have hf := iq hf c18
            refine lv_iload_n hx hb dX9_of_125 rfl (lv_at hl 3 rfl) ?_
            refine lv_bipush (v := 119) hx hb dX9_of_126 (by decide) ?_
            refine lv_icmp_ne (tgt := 150) hx hb dX9_of_128 (by decide) (fun c19 => ?_) (fun c19 => ?_)
            · have hf := iq hf c19
              refine lv_aload_n hx hb dX9_of_150 rfl (lv_at hl 1 rfl) ?_
              obtain ⟨a20, e21, hf⟩ := ob hf
              refine r_getQ hx hb 12 hts (fun w h => List.mem_cons_of_mem _ (mwsX90 w h)) hown hH ek9 (by decide) rfl 3 (by decide) rfl (hts (.fieldLink RX9 40 "Housestyle" "book" "LHousestyle$Book;") (List.mem_cons_of_mem _ gw_20_6)) (fun _ h9 => h9) dX9_of_151 e21 ?_
              refine lv_iload hx hb dX9_of_154 (lv_at hl 0 rfl) ?_
              obtain ⟨ek22, hf⟩ := oc hf
              obtain ⟨r23, e24, hf⟩ := ob hf
              refine r_callVi (As := [.int r13]) ⟨hx, hb, hml, hown, hts⟩ (c_X0_suggestionsOf l D S8 a20 r13 r23 e24) (cwV 1 hts (gwV gw_27_2 gw_27_3 gw_27_4 gw_6_5 gw_7_10) rfl rfl rfl (by decide +kernel) ⟨Nat.le_of_ble_eq_true rfl, Nat.le_of_ble_eq_true rfl⟩) hH hNE 3 ek22 (by decide) rfl rfl rfl hl.1 rfl (Nat.le_of_ble_eq_true rfl) dX9_of_156 ⟨(Nat.le_of_ble_eq_true rfl), (Nat.le_of_ble_eq_true rfl)⟩ (fun H locs hH => ?_)
              have hr9 := Option.some.inj hf
              subst hr9
              exact x_i hx hb hr hlocks hH dX9_of_159
            · have hf := ip hf c19
              refine lv_aload_n hx hb dX9_of_131 rfl (lv_at hl 1 rfl) ?_
              obtain ⟨a25, e26, hf⟩ := ob hf
              refine r_getQ hx hb 12 hts (fun w h => List.mem_cons_of_mem _ (mwsX90 w h)) hown hH ek9 (by decide) rfl 1 (by decide) rfl (hts (.fieldLink RX9 21 "Housestyle" "text" "LHousestyle$Text;") (List.mem_cons_of_mem _ gw_20_0)) (fun _ h9 => h9) dX9_of_132 e26 ?_
              obtain ⟨ek27, hf⟩ := oc hf
              obtain ⟨a28, e29, hf⟩ := ob hf
              refine r_getQN hx hb 10 hts (fun w h => List.mem_cons_of_mem _ (mwsX70 w h)) hown hH ek27 (by decide) rfl 1 (by decide) rfl (nf_9 hNE) (fun _ h9 => h9) dX9_of_135 e29 ?_
              refine lv_aload_n hx hb dX9_of_138 rfl (lv_at hl 1 rfl) ?_
              refine r_getQ hx hb 12 hts (fun w h => List.mem_cons_of_mem _ (mwsX90 w h)) hown hH ek9 (by decide) rfl 5 (by decide) rfl (hts (.fieldLink RX9 63 "Housestyle" "found" "LHousestyle$Findings;") (List.mem_cons_of_mem _ gw_20_13)) (fun _ h9 => h9) dX9_of_139 e11 ?_
              refine lv_iload_n hx hb dX9_of_142 rfl (lv_at hl 2 rfl) ?_
              obtain ⟨r30, e31, hf⟩ := ob hf
              refine r_callVi (As := [.int p2]) ⟨hx, hb, hml, hown, hts⟩ (c_X2_fromOf l D S8 a10 p2 r30 e31) (cwV 1 hts (gwV gw_27_0 gw_13_3 gw_13_4 gw_11_18 gw_11_2) rfl rfl rfl (by decide +kernel) ⟨Nat.le_of_ble_eq_true rfl, Nat.le_of_ble_eq_true rfl⟩) hH hNE 5 ek12 (by decide) rfl rfl rfl hl.1 rfl (Nat.le_of_ble_eq_true rfl) dX9_of_143 ⟨(Nat.le_of_ble_eq_true rfl), (Nat.le_of_ble_eq_true rfl)⟩ (fun H locs hH => ?_)
              obtain ⟨ek32, hf⟩ := oc hf
              obtain ⟨r33, e34, hf⟩ := ob hf
              refine r_callVi (As := [.int r30]) ⟨hx, hb, hml, hown, hts⟩ (c_X5_get l D S8 a28 r30 r33 e34) (cwV 1 hts (gwV gw_14_2 gw_2_13 gw_2_14 gw_1_5 gw_2_9) rfl rfl rfl (by decide +kernel) ⟨Nat.le_of_ble_eq_true rfl, Nat.le_of_ble_eq_true rfl⟩) hH hNE 8 ek32 (by decide) rfl rfl rfl hl.1 rfl (Nat.le_of_ble_eq_true rfl) dX9_of_146 ⟨(Nat.le_of_ble_eq_true rfl), (Nat.le_of_ble_eq_true rfl)⟩ (fun H locs hH => ?_)
              have hr9 := Option.some.inj hf
              subst hr9
              exact x_i hx hb hr hlocks hH dX9_of_149
          · have hf := ip hf c18
            refine lv_aload_n hx hb dX9_of_113 rfl (lv_at hl 1 rfl) ?_
            obtain ⟨a35, e36, hf⟩ := ob hf
            refine r_getQ hx hb 12 hts (fun w h => List.mem_cons_of_mem _ (mwsX90 w h)) hown hH ek9 (by decide) rfl 3 (by decide) rfl (hts (.fieldLink RX9 40 "Housestyle" "book" "LHousestyle$Book;") (List.mem_cons_of_mem _ gw_20_6)) (fun _ h9 => h9) dX9_of_114 e36 ?_
            refine lv_aload hx hb dX9_of_117 (lv_at hl 4 rfl) ?_
            refine lv_iload hx hb dX9_of_119 (lv_at hl 0 rfl) ?_
            obtain ⟨ek37, hf⟩ := oc hf
            obtain ⟨r38, e39, hf⟩ := ob hf
            refine r_callVi (As := [.ref a4, .int r13]) ⟨hx, hb, hml, hown, hts⟩ (c_X0_rankAt l D S8 a35 a4 r13 r38 e39) (cwV 2 hts (gwV gw_25_20 gw_7_8 gw_7_9 gw_6_5 gw_7_5) rfl rfl rfl (by decide +kernel) ⟨Nat.le_of_ble_eq_true rfl, Nat.le_of_ble_eq_true rfl⟩) hH hNE 3 ek37 (by decide) rfl rfl rfl hl.1 rfl (Nat.le_of_ble_eq_true rfl) dX9_of_121 ⟨(Nat.le_of_ble_eq_true rfl), (Nat.le_of_ble_eq_true rfl)⟩ (fun H locs hH => ?_)
            have hr9 := Option.some.inj hf
            subst hr9
            exact x_i hx hb hr hlocks hH dX9_of_124
        · have hf := ip hf c17
          refine lv_iload hx hb dX9_of_104 (lv_at hl 0 rfl) ?_
          have hr9 := Option.some.inj hf
          subst hr9
          exact x_i hx hb hr hlocks hH dX9_of_106
      · have hf := ip hf c16
        refine lv_aload_n hx hb dX9_of_89 rfl (lv_at hl 1 rfl) ?_
        refine r_getQ hx hb 12 hts (fun w h => List.mem_cons_of_mem _ (mwsX90 w h)) hown hH ek9 (by decide) rfl 5 (by decide) rfl (hts (.fieldLink RX9 63 "Housestyle" "found" "LHousestyle$Findings;") (List.mem_cons_of_mem _ gw_20_13)) (fun _ h9 => h9) dX9_of_90 e11 ?_
        refine lv_iload_n hx hb dX9_of_93 rfl (lv_at hl 2 rfl) ?_
        obtain ⟨r40, e41, hf⟩ := ob hf
        refine r_callVi (As := [.int p2]) ⟨hx, hb, hml, hown, hts⟩ (c_X2_lengthOf l D S8 a10 p2 r40 e41) (cwV 1 hts (gwV gw_27_1 gw_13_6 gw_13_7 gw_11_18 gw_11_14) rfl rfl rfl (by decide +kernel) ⟨Nat.le_of_ble_eq_true rfl, Nat.le_of_ble_eq_true rfl⟩) hH hNE 5 ek12 (by decide) rfl rfl rfl hl.1 rfl (Nat.le_of_ble_eq_true rfl) dX9_of_94 ⟨(Nat.le_of_ble_eq_true rfl), (Nat.le_of_ble_eq_true rfl)⟩ (fun H locs hH => ?_)
        have hr9 := Option.some.inj hf
        subst hr9
        exact x_i hx hb hr hlocks hH dX9_of_97
    · have hf := ip hf c15
      refine lv_aload_n hx hb dX9_of_74 rfl (lv_at hl 1 rfl) ?_
      refine r_getQ hx hb 12 hts (fun w h => List.mem_cons_of_mem _ (mwsX90 w h)) hown hH ek9 (by decide) rfl 5 (by decide) rfl (hts (.fieldLink RX9 63 "Housestyle" "found" "LHousestyle$Findings;") (List.mem_cons_of_mem _ gw_20_13)) (fun _ h9 => h9) dX9_of_75 e11 ?_
      refine lv_iload_n hx hb dX9_of_78 rfl (lv_at hl 2 rfl) ?_
      obtain ⟨r42, e43, hf⟩ := ob hf
      refine r_callVi (As := [.int p2]) ⟨hx, hb, hml, hown, hts⟩ (c_X2_fromOf l D S8 a10 p2 r42 e43) (cwV 1 hts (gwV gw_27_0 gw_13_3 gw_13_4 gw_11_18 gw_11_2) rfl rfl rfl (by decide +kernel) ⟨Nat.le_of_ble_eq_true rfl, Nat.le_of_ble_eq_true rfl⟩) hH hNE 5 ek12 (by decide) rfl rfl rfl hl.1 rfl (Nat.le_of_ble_eq_true rfl) dX9_of_79 ⟨(Nat.le_of_ble_eq_true rfl), (Nat.le_of_ble_eq_true rfl)⟩ (fun H locs hH => ?_)
      have hr9 := Option.some.inj hf
      subst hr9
      exact x_i hx hb hr hlocks hH dX9_of_82
  refine lv_icmp_eq (tgt := 53) hx hb dX9_of_10 (by decide) (fun c46 => ?_) (fun c46 => ?_)
  · have hf := ip hf c46
    exact Jj5 () _ _ ls hH (lv_sub hl [1, 3, 4, 0] rfl) hf
  · have hf := iq hf c46
    refine lv_iload_n hx hb dX9_of_13 rfl (lv_at hl 4 rfl) ?_
    refine lv_bipush (v := 108) hx hb dX9_of_14 (by decide) ?_
    refine lv_icmp_eq (tgt := 53) hx hb dX9_of_16 (by decide) (fun c47 => ?_) (fun c47 => ?_)
    · have hf := ip hf c47
      exact Jj5 () _ _ ls hH (lv_sub hl [1, 3, 4, 0] rfl) hf
    · have hf := iq hf c47
      refine lv_iload_n hx hb dX9_of_19 rfl (lv_at hl 4 rfl) ?_
      refine lv_bipush (v := 114) hx hb dX9_of_20 (by decide) ?_
      refine lv_icmp_eq (tgt := 53) hx hb dX9_of_22 (by decide) (fun c48 => ?_) (fun c48 => ?_)
      · have hf := ip hf c48
        exact Jj5 () _ _ ls hH (lv_sub hl [1, 3, 4, 0] rfl) hf
      · have hf := iq hf c48
        refine lv_iload_n hx hb dX9_of_25 rfl (lv_at hl 4 rfl) ?_
        refine lv_bipush (v := 107) hx hb dX9_of_26 (by decide) ?_
        refine lv_icmp_eq (tgt := 53) hx hb dX9_of_28 (by decide) (fun c49 => ?_) (fun c49 => ?_)
        · have hf := ip hf c49
          exact Jj5 () _ _ ls hH (lv_sub hl [1, 3, 4, 0] rfl) hf
        · have hf := iq hf c49
          refine lv_iload_n hx hb dX9_of_31 rfl (lv_at hl 4 rfl) ?_
          refine lv_bipush (v := 119) hx hb dX9_of_32 (by decide) ?_
          refine lv_icmp_eq (tgt := 53) hx hb dX9_of_34 (by decide) (fun c50 => ?_) (fun c50 => ?_)
          · have hf := ip hf c50
            exact Jj5 () _ _ ls hH (lv_sub hl [1, 3, 4, 0] rfl) hf
          · have hf := iq hf c50
            refine lv_iload_n hx hb dX9_of_37 rfl (lv_at hl 4 rfl) ?_
            refine lv_bipush (v := 115) hx hb dX9_of_38 (by decide) ?_
            refine lv_icmp_eq (tgt := 53) hx hb dX9_of_40 (by decide) (fun c51 => ?_) (fun c51 => ?_)
            · have hf := ip hf c51
              exact Jj5 () _ _ ls hH (lv_sub hl [1, 3, 4, 0] rfl) hf
            · have hf := iq hf c51
              cases hf
              exact r_throw (text := "no such thing") (cls := "java/lang/IllegalArgumentException") (names := ["java/lang/RuntimeException", "java/lang/Exception"]) 1 hx hb hst9 hown xf0 xn (hts (.classLink RX9 82 "java/lang/IllegalArgumentException") (List.mem_cons_of_mem _ gw_21_9)) (hts (.initialized "java/lang/IllegalArgumentException") (List.mem_cons_of_mem _ gw_21_10)) (List.mem_of_getElem? (i := 17) rfl) (xa0 hts hE) xg0 hE hB hH (hl.1.trans hml.symm) rfl dX9_of_43 dX9_of_46 dX9_of_47 dX9_of_49 dX9_of_52 hxt (Nat.le_of_ble_eq_true rfl) (Nat.le_of_ble_eq_true rfl) (Nat.le_of_ble_eq_true rfl) (Nat.le_of_ble_eq_true rfl) hlocks ⟨Nat.le_of_ble_eq_true rfl, Nat.le_of_ble_eq_true rfl⟩
set_option maxRecDepth 100000 in
def f_X2_tokenOf (S : PS) (a0 : Nat) (p1 : Int32) : Option (Int32) := if kK S a0 = 6 then ((kQ S a0 4).bind fun a2 => if kK S a2 = 9 then ((f_X5_get S a2 p1).bind fun r5 => some r5) else none) else none
abbrev rmX2_tokenOf : Room := { frames := 1, cells := 0, slots := 0, locals := 21 }
set_option maxHeartbeats 4000000 in
set_option maxRecDepth 100000 in
theorem c_X2_tokenOf (l : Launch) (D : va_G × Nat) (S : PS) (a0 : Nat) (p1 : Int32) (r : Int32) (hf : f_X2_tokenOf S a0 p1 = some r) : MI l D yX2_tokenOf wsX2_tokenOf rmX2_tokenOf S [.ref a0, .int p1] S r 0 0 := by
  unfold f_X2_tokenOf at hf
  refine Met.ofW (cc := cX2_tokenOf) (maxL := 2) (ret := (some .int)) (by decide) rfl ?_
  intro p e s m args below meth c s₁ B hml hv
  obtain ⟨rfl, hH0, hNE⟩ := hv
  have hx := B.exec
  have hb := B.bytes
  have hr := B.returns
  have hts := atoms_spec (ws := wsX2_tokenOf) B.pre
  have hown : s.vm.findClass RX2 = some m.cls := findClass_of_methodNamed B.named
  have hlocks := B.notSynchronized
  have hH : HI D S S s s.heap [] := HI.start hH0
  have hl := lv_entry ([.ref a0, .int p1]) (n := 2) (Nat.le_of_ble_eq_true rfl)
  rw [lg_entry_eq]
  generalize (lg_sl ([.ref a0, .int p1]) ++ List.replicate (2 - (lg_sl ([.ref a0, .int p1])).length) Slot.unset).toArray = ls at hl ⊢
  have hl : lv_has ls 2 [(0, .ref a0), (1, .int p1)] := hl
  refine lv_aload_n hx hb dX2_tokenOf_0 rfl (lv_at hl 0 rfl) ?_
  obtain ⟨ek1, hf⟩ := oc hf
  obtain ⟨a2, e3, hf⟩ := ob hf
  refine r_getQ hx hb 5 hts (fun w h => List.mem_cons_of_mem _ (mwsX20 w h)) hown hH ek1 (by decide) rfl 4 (by decide) rfl (hts (.fieldLink RX2 31 "Housestyle$Findings" "itsTokens" "LHousestyle$Row;") (List.mem_cons_of_mem _ gw_10_17)) (fun _ h9 => h9) dX2_tokenOf_1 e3 ?_
  refine lv_iload_n hx hb dX2_tokenOf_4 rfl (lv_at hl 1 rfl) ?_
  obtain ⟨ek4, hf⟩ := oc hf
  obtain ⟨r5, e6, hf⟩ := ob hf
  refine r_callVi (As := [.int p1]) ⟨hx, hb, hml, hown, hts⟩ (c_X5_get l D S a2 p1 r5 e6) (cwV 1 hts (gwV gw_10_23 gw_2_13 gw_2_14 gw_1_5 gw_2_9) rfl rfl rfl (by decide +kernel) ⟨Nat.le_of_ble_eq_true rfl, Nat.le_of_ble_eq_true rfl⟩) hH hNE 8 ek4 (by decide) rfl rfl rfl hl.1 rfl (Nat.le_of_ble_eq_true rfl) dX2_tokenOf_5 ⟨(Nat.le_of_ble_eq_true rfl), (Nat.le_of_ble_eq_true rfl)⟩ (fun H locs hH => ?_)
  have hr9 := Option.some.inj hf
  subst hr9
  exact e_i hx hb hr hlocks hH dX2_tokenOf_8
