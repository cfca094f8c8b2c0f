set_option maxRecDepth 100000 in
def f_X6_isSuggestion_b4 (b0 : Nat) (S : PS) (x1 : Int32) (x2 : Int32) : Option ((Int32 × Int32) ⊕ ((Int32) ⊕ (Unit))) := if kK S b0 = 9 then ((f_X5_count S b0).bind fun r16 => if r16 ≤ x2 then (some (.inr (.inl x1))) else ((f_X5_get S b0 x2).bind fun r19 => lt (fun (x21 : Int32) => lt (x2 + 1) fun x23 => some (.inl (x21, x23))) fun j22 => if r19 = (42 : Int32) then (lt (x1 + 1) fun x34 => j22 x34) else ((f_X9_isLetter S r19).bind fun r27 => if r27 = 0 then ((f_X9_isDigit S r19).bind fun r30 => if r30 = 0 then (if r19 = (32 : Int32) then (j22 x1) else (some (.inr (.inr ())))) else (j22 x1)) else (j22 x1)))) else none
set_option maxRecDepth 100000 in
def f_X6_isSuggestion (S : PS) (b0 : Nat) : Option (Int32) := lt (fun (x3 : Int32) => if kK S b0 = 9 then ((f_X5_count S b0).bind fun r7 => if r7 ≤ 0 then (some 0) else (if (1 : Int32) < x3 then (some 0) else (some 1))) else none) fun k4 => lt (fun (u13 : Unit) => some 0) fun k11 => (iter (fun (v : Int32 × Int32) => f_X6_isSuggestion_b4 b0 S v.1 v.2) kF (0, 0)).bind (fun (z : (Int32) ⊕ (Unit)) => Sum.elim (fun (v : Int32) => k4 v) (fun (v : Unit) => k11 v) z)
abbrev rmX6_isSuggestion : Room := { frames := 1, cells := 0, slots := 0, locals := 21 }
set_option maxHeartbeats 4000000 in
set_option maxRecDepth 100000 in
theorem c_X6_isSuggestion (l : Launch) (D : va_G × Nat) (S : PS) (b0 : Nat) (r : Int32) (hf : f_X6_isSuggestion S b0 = some r) : MI l D yX6_isSuggestion wsX6_isSuggestion rmX6_isSuggestion S [.ref b0] S r 0 0 := by
  unfold f_X6_isSuggestion at hf
  refine Met.ofW (cc := cX6_isSuggestion) (maxL := 4) (ret := (some .boolean)) (by decide) rfl ?_
  intro p e s m args below meth c s₁ B hml hv
  obtain ⟨rfl, hH0, hNE⟩ := hv
  have hx := B.exec
  have hb := B.bytes
  have hr := B.returns
  have hts := atoms_spec (ws := wsX6_isSuggestion) B.pre
  have hown : s.vm.findClass RX6 = some m.cls := findClass_of_methodNamed B.named
  have hlocks := B.notSynchronized
  have hH : HI D S S s s.heap [] := HI.start hH0
  have hl := lv_entry ([.ref b0]) (n := 4) (Nat.le_of_ble_eq_true rfl)
  rw [lg_entry_eq]
  generalize (lg_sl ([.ref b0]) ++ List.replicate (4 - (lg_sl ([.ref b0])).length) Slot.unset).toArray = ls at hl ⊢
  have hl : lv_has ls 4 [(0, .ref b0)] := hl
  refine lv_iconst (v := 0) hx hb dX6_isSuggestion_0 (by decide) ?_
  refine lv_istore_n (lv' := [(1, .int 0), (0, .ref b0)]) hx hb dX6_isSuggestion_1 rfl hl (by decide) rfl (fun ls hl => ?_)
  refine lv_iconst (v := 0) hx hb dX6_isSuggestion_2 (by decide) ?_
  refine lv_istore_n (lv' := [(2, .int 0), (1, .int 0), (0, .ref b0)]) hx hb dX6_isSuggestion_3 rfl hl (by decide) rfl (fun ls hl => ?_)
  obtain ⟨k4, e5, hf⟩ := ol hf
  have Xk4 : ∀ (x3 : Int32) (H : Heap) (locs : List Loc) (ls : Array Slot), HI D S S s H locs → lv_has ls 4 [(0, .ref b0), (1, .int x3)] → k4 x3 = some r → GI p l e (headSpec wsX6_isSuggestion rmX6_isSuggestion).room s m ([.ref b0] : List Value).toArray below meth c D S S r H locs 0 0 0 0 (F0 m 58 ls []) := by
    intro x3 H locs ls hH hl hf
    rw [← e5] at hf
    refine lv_aload_n hx hb dX6_isSuggestion_58 rfl (lv_at hl 0 rfl) ?_
    obtain ⟨ek6, hf⟩ := oc hf
    obtain ⟨r7, e8, hf⟩ := ob hf
    refine r_callVi (As := []) ⟨hx, hb, hml, hown, hts⟩ (c_X5_count l D S b0 r7 e8) (cwV 0 hts (gwV gw_7_17 gw_1_15 gw_1_16 gw_1_5 gw_1_11) rfl rfl rfl (by decide +kernel) ⟨Nat.le_of_ble_eq_true rfl, Nat.le_of_ble_eq_true rfl⟩) hH hNE 8 ek6 (by decide) rfl rfl rfl hl.1 rfl (Nat.le_of_ble_eq_true rfl) dX6_isSuggestion_59 ⟨(Nat.le_of_ble_eq_true rfl), (Nat.le_of_ble_eq_true rfl)⟩ (fun H locs hH => ?_)
    refine lv_if_le (tgt := 74) hx hb dX6_isSuggestion_62 (by decide) (fun c9 => ?_) (fun c9 => ?_)
    · have hf := ip hf c9
      refine lv_iconst (v := 0) hx hb dX6_isSuggestion_74 (by decide) ?_
      have hr9 := Option.some.inj hf
      subst hr9
      exact e_z (r := 0) hx hb hr hlocks rfl hH dX6_isSuggestion_75
    · have hf := iq hf c9
      refine lv_iload_n hx hb dX6_isSuggestion_65 rfl (lv_at hl 1 rfl) ?_
      refine lv_iconst (v := 1) hx hb dX6_isSuggestion_66 (by decide) ?_
      refine lv_icmp_gt (tgt := 74) hx hb dX6_isSuggestion_67 (by decide) (fun c10 => ?_) (fun c10 => ?_)
      · have hf := ip hf c10
        refine lv_iconst (v := 0) hx hb dX6_isSuggestion_74 (by decide) ?_
        have hr9 := Option.some.inj hf
        subst hr9
        exact e_z (r := 0) hx hb hr hlocks rfl hH dX6_isSuggestion_75
      · have hf := iq hf c10
        refine lv_iconst (v := 1) hx hb dX6_isSuggestion_70 (by decide) ?_
        refine lv_goto (tgt := 75) hx hb dX6_isSuggestion_71 (by decide) ?_
        have hr9 := Option.some.inj hf
        subst hr9
        exact e_z (r := 1) hx hb hr hlocks rfl hH dX6_isSuggestion_75
  obtain ⟨k11, e12, hf⟩ := ol hf
  have Xk11 : ∀ (u13 : Unit) (H : Heap) (locs : List Loc) (ls : Array Slot), HI D S S s H locs → lv_has ls 4 [] → k11 u13 = some r → GI p l e (headSpec wsX6_isSuggestion rmX6_isSuggestion).room s m ([.ref b0] : List Value).toArray below meth c D S S r H locs 0 0 0 0 (F0 m 50 ls []) := by
    intro u13 H locs ls hH hl hf
    rw [← e12] at hf
    refine lv_iconst (v := 0) hx hb dX6_isSuggestion_50 (by decide) ?_
    have hr9 := Option.some.inj hf
    subst hr9
    exact e_z (r := 0) hx hb hr hlocks rfl hH dX6_isSuggestion_51
  obtain ⟨o14, eo14, hq14f⟩ := ob hf
  have Lo14 : ∀ (n : Nat) (x1 : Int32) (x2 : Int32), iter (fun (v : Int32 × Int32) => f_X6_isSuggestion_b4 b0 S v.1 v.2) n (x1, x2) = some o14 → ∀ (H : Heap) (locs : List Loc) (ls : Array Slot), HI D S S s H locs → lv_has ls 4 [(0, .ref b0), (1, .int x1), (2, .int x2)] → GI p l e (headSpec wsX6_isSuggestion rmX6_isSuggestion).room s m ([.ref b0] : List Value).toArray below meth c D S S r H locs 0 0 0 0 (F0 m 4 ls []) := by
    intro n
    induction n with
    | zero => intro x1 x2 hi; cases hi
    | succ n ih14 =>
      intro x1 x2 hi H locs ls hH hl
      obtain ⟨q14_, hf, hq14⟩ := iter_s hi
      have hf : f_X6_isSuggestion_b4 b0 S x1 x2 = some q14_ := hf
      unfold f_X6_isSuggestion_b4 at hf
      refine lv_iload_n hx hb dX6_isSuggestion_4 rfl (lv_at hl 2 rfl) ?_
      refine lv_aload_n hx hb dX6_isSuggestion_5 rfl (lv_at hl 0 rfl) ?_
      obtain ⟨ek15, hf⟩ := oc hf
      obtain ⟨r16, e17, hf⟩ := ob hf
      refine r_callVi (As := []) ⟨hx, hb, hml, hown, hts⟩ (c_X5_count l D S b0 r16 e17) (cwV 0 hts (gwV gw_7_17 gw_1_15 gw_1_16 gw_1_5 gw_1_11) rfl rfl rfl (by decide +kernel) ⟨Nat.le_of_ble_eq_true rfl, Nat.le_of_ble_eq_true rfl⟩) hH hNE 8 ek15 (by decide) rfl rfl rfl hl.1 rfl (Nat.le_of_ble_eq_true rfl) dX6_isSuggestion_6 ⟨(Nat.le_of_ble_eq_true rfl), (Nat.le_of_ble_eq_true rfl)⟩ (fun H locs hH => ?_)
      refine lv_icmp_ge (tgt := 58) hx hb dX6_isSuggestion_9 (by decide) (fun c18 => ?_) (fun c18 => ?_)
      · have hf := ip hf c18
        cases hf
        have hf9 := itR (K := (fun (z : (Int32) ⊕ (Unit)) => Sum.elim (fun (v : Int32) => k4 v) (fun (v : Unit) => k11 v) z)) hq14 hq14f
        exact Xk4 x1 _ _ ls hH (lv_sub hl [0, 1] rfl) hf9
      · have hf := iq hf c18
        refine lv_aload_n hx hb dX6_isSuggestion_12 rfl (lv_at hl 0 rfl) ?_
        refine lv_iload_n hx hb dX6_isSuggestion_13 rfl (lv_at hl 2 rfl) ?_
        obtain ⟨r19, e20, hf⟩ := ob hf
        refine r_callVi (As := [.int x2]) ⟨hx, hb, hml, hown, hts⟩ (c_X5_get l D S b0 x2 r19 e20) (cwV 1 hts (gwV gw_7_23 gw_2_13 gw_2_14 gw_1_5 gw_2_9) rfl rfl rfl (by decide +kernel) ⟨Nat.le_of_ble_eq_true rfl, Nat.le_of_ble_eq_true rfl⟩) hH hNE 8 ek15 (by decide) rfl rfl rfl hl.1 rfl (Nat.le_of_ble_eq_true rfl) dX6_isSuggestion_14 ⟨(Nat.le_of_ble_eq_true rfl), (Nat.le_of_ble_eq_true rfl)⟩ (fun H locs hH => ?_)
        refine lv_istore_n (lv' := [(3, .int r19), (0, .ref b0), (1, .int x1), (2, .int x2)]) hx hb dX6_isSuggestion_17 rfl hl (by decide) rfl (fun ls hl => ?_)
        refine lv_iload_n hx hb dX6_isSuggestion_18 rfl (lv_at hl 0 rfl) ?_
        refine lv_bipush (v := 42) hx hb dX6_isSuggestion_19 (by decide) ?_
        obtain ⟨j22, e25, hf⟩ := ol hf
        have Jj22 : ∀ (x21 : Int32) (H : Heap) (locs : List Loc) (ls : Array Slot), HI D S S s H locs → lv_has ls 4 [(0, .ref b0), (1, .int x21), (2, .int x2)] → j22 x21 = some q14_ → GI p l e (headSpec wsX6_isSuggestion rmX6_isSuggestion).room s m ([.ref b0] : List Value).toArray below meth c D S S r H locs 0 0 0 0 (F0 m 52 ls []) := by
          intro x21 H locs ls hH hl hf
          rw [← e25] at hf
          obtain ⟨x23, e24, hf⟩ := ol hf
          refine lv_iinc (v := x23) (lv' := [(2, .int x23), (0, .ref b0), (1, .int x21)]) hx hb dX6_isSuggestion_52 hl (k := 2) rfl (by rw [← e24]; rfl) (by decide) rfl (fun ls hl => ?_)
          refine lv_goto (tgt := 4) hx hb dX6_isSuggestion_55 (by decide) ?_
          cases hf
          exact ih14 x21 x23 hq14 _ _ ls hH (lv_sub hl [1, 2, 0] rfl)
        refine lv_icmp_ne (tgt := 30) hx hb dX6_isSuggestion_21 (by decide) (fun c26 => ?_) (fun c26 => ?_)
        · have hf := iq hf c26
          refine lv_iload_n hx hb dX6_isSuggestion_30 rfl (lv_at hl 0 rfl) ?_
          obtain ⟨r27, e28, hf⟩ := ob hf
          refine r_callSiN (As := [.int r19]) ⟨hx, hb, hml, hown, hts⟩ (c_X9_isLetter l D S r19 r27 e28) ⟨va_cnB 1 hts (gwI (gwC gw_14_0)) rfl rfl rfl (nm_1 hNE) (hts (.initialized RX9) (List.mem_cons_of_mem _ gw_14_5)) (by decide +kernel) ⟨Nat.le_of_ble_eq_true rfl, Nat.le_of_ble_eq_true rfl⟩, (hts (.static yX9_isLetter) (List.mem_cons_of_mem _ gw_14_4)), trivial⟩ hH hNE rfl hl.1 rfl (Nat.le_of_ble_eq_true rfl) dX6_isSuggestion_31 ⟨(Nat.le_of_ble_eq_true rfl), (Nat.le_of_ble_eq_true rfl)⟩ (fun H locs hH => ?_)
          refine lv_if_ne (tgt := 52) hx hb dX6_isSuggestion_34 (by decide) (fun c29 => ?_) (fun c29 => ?_)
          · have hf := iq hf c29
            exact Jj22 x1 _ _ ls hH (lv_sub hl [1, 2, 3] rfl) hf
          · have hf := ip hf c29
            refine lv_iload_n hx hb dX6_isSuggestion_37 rfl (lv_at hl 0 rfl) ?_
            obtain ⟨r30, e31, hf⟩ := ob hf
            refine r_callSiN (As := [.int r19]) ⟨hx, hb, hml, hown, hts⟩ (c_X9_isDigit l D S r19 r30 e31) ⟨va_cnB 1 hts (gwI (gwC gw_17_5)) rfl rfl rfl (nm_2 hNE) (hts (.initialized RX9) (List.mem_cons_of_mem _ gw_14_5)) (by decide +kernel) ⟨Nat.le_of_ble_eq_true rfl, Nat.le_of_ble_eq_true rfl⟩, (hts (.static yX9_isDigit) (List.mem_cons_of_mem _ gw_17_7)), trivial⟩ hH hNE rfl hl.1 rfl (Nat.le_of_ble_eq_true rfl) dX6_isSuggestion_38 ⟨(Nat.le_of_ble_eq_true rfl), (Nat.le_of_ble_eq_true rfl)⟩ (fun H locs hH => ?_)
            refine lv_if_ne (tgt := 52) hx hb dX6_isSuggestion_41 (by decide) (fun c32 => ?_) (fun c32 => ?_)
            · have hf := iq hf c32
              exact Jj22 x1 _ _ ls hH (lv_sub hl [1, 2, 3] rfl) hf
            · have hf := ip hf c32
              refine lv_iload_n hx hb dX6_isSuggestion_44 rfl (lv_at hl 0 rfl) ?_
              refine lv_bipush (v := 32) hx hb dX6_isSuggestion_45 (by decide) ?_
              refine lv_icmp_eq (tgt := 52) hx hb dX6_isSuggestion_47 (by decide) (fun c33 => ?_) (fun c33 => ?_)
              · have hf := ip hf c33
                exact Jj22 x1 _ _ ls hH (lv_sub hl [1, 2, 3] rfl) hf
              · have hf := iq hf c33
                cases hf
                have hf9 := itR (K := (fun (z : (Int32) ⊕ (Unit)) => Sum.elim (fun (v : Int32) => k4 v) (fun (v : Unit) => k11 v) z)) hq14 hq14f
                exact Xk11 () _ _ ls hH (lv_sub hl [] rfl) hf9
        · have hf := ip hf c26
          obtain ⟨x34, e35, hf⟩ := ol hf
          refine lv_iinc (v := x34) (lv' := [(1, .int x34), (3, .int r19), (0, .ref b0), (2, .int x2)]) hx hb dX6_isSuggestion_24 hl (k := 2) rfl (by rw [← e35]; rfl) (by decide) rfl (fun ls hl => ?_)
          refine lv_goto (tgt := 52) hx hb dX6_isSuggestion_27 (by decide) ?_
          exact Jj22 x34 _ _ ls hH (lv_sub hl [2, 0, 3] rfl) hf
  exact Lo14 kF 0 0 eo14 _ _ ls hH (lv_sub hl [2, 1, 0] rfl)
set_option maxRecDepth 100000 in
def f_X9_suggest (S : PS) (a0 : Nat) (p1 : Int32) : Option ((PS × Int32) ⊕ (PS × Nat)) := if kK S a0 = 13 then (bx2 (f_X9_ruleAt S a0 p1) fun S3 a4 => if kK S3 a0 = 13 then ((kQ S3 a0 0).bind fun a6 => (f_X6_isSuggestion S3 a6).bind fun r8 => if r8 = 0 then (some (.inr (S3, 4))) else (if kK S3 a4 = 10 then ((kQ S3 a4 5).bind fun a12 => if kK S3 a12 = 3 then ((f_Jx4a65c_size_8abf5 S3 a12).bind fun r15 => if r15 < (2 : Int32) then (if kK S3 a6 = 9 then ((f_X5_count S3 a6).bind fun r19 => (f_X5_part S3 a6 0 r19).bind fun r21 => lt r21.1 fun S23 => if kK S23 a12 = 3 then ((f_Jx4a65c_add_9ea2d S23 a12 r21.2).bind fun r26 => lt r26.1 fun S28 => if kK S28 a0 = 13 then ((f_X9_noteTold S28 a0).bind fun r31 => if kK r31 a4 = 10 then ((kQ r31 a4 5).bind fun a34 => if kK r31 a34 = 3 then ((f_Jx4a65c_size_8abf5 r31 a34).bind fun r37 => some (.inl (r31, r37))) else none) else none) else none) else none) else none) else (some (.inr (S3, 2)))) else none) else none)) else none) else none
abbrev rmX9_suggest : Room := { frames := 9, cells := 4, slots := 208, locals := 258 }
set_option maxHeartbeats 4000000 in
set_option maxRecDepth 100000 in
theorem c_X9_suggest (l : Launch) (hst9 : l.stackTraces = false) (D : va_G × Nat) (S : PS) (a0 : Nat) (p1 : Int32) (r : (PS × Int32) ⊕ (PS × Nat)) (hf : f_X9_suggest S a0 p1 = some r) : XM l D yX9_suggest wsX9_suggest rmX9_suggest S [.ref a0, .int p1] (mI r) 4 208 := by
  unfold f_X9_suggest at hf
  refine vx_ofW (cc := cX9_suggest) (maxL := 3) (ret := (some .int)) (by decide) rfl ?_
  intro p e s m args below meth c s₁ B hml hxt hv
  obtain ⟨rfl, hH0, hE, hNE⟩ := hv
  have hB := hH0.base
  have hx := B.exec
  have hb := B.bytes
  have hr := B.returns
  have hts := atoms_spec (ws := wsX9_suggest) B.pre
  have hown : s.vm.findClass RX9 = some m.cls := findClass_of_methodNamed B.named
  have hlocks := B.notSynchronized
  have hH : HI D S S s s.heap [] := HI.start hH0
  have hl := lv_entry ([.ref a0, .int p1]) (n := 3) (Nat.le_of_ble_eq_true rfl)
  rw [lg_entry_eq]
  generalize (lg_sl ([.ref a0, .int p1]) ++ List.replicate (3 - (lg_sl ([.ref a0, .int p1])).length) Slot.unset).toArray = ls at hl ⊢
  have hl : lv_has ls 3 [(0, .ref a0), (1, .int p1)] := hl
  refine lv_aload_n hx hb dX9_suggest_0 rfl (lv_at hl 0 rfl) ?_
  refine lv_iload_n hx hb dX9_suggest_1 rfl (lv_at hl 1 rfl) ?_
  obtain ⟨ek1, hf⟩ := oc hf
  rcases obx2 hf with ⟨x4_, e2, rfl⟩ | ⟨S3, a4, e2, hf⟩
  · refine r_xVex (As := [.int p1]) ⟨hx, hb, hml, hown, hts⟩ (c_X9_ruleAt l hst9 D S a0 p1 (.inr x4_) e2) (cwV 1 hts (gwV gw_24_9 gw_24_10 gw_24_11 gw_14_5 gw_24_6) rfl rfl rfl (by decide +kernel) ⟨Nat.le_of_ble_eq_true rfl, Nat.le_of_ble_eq_true rfl⟩) hH hE hB hNE 12 ek1 (by decide) rfl rfl rfl hl.1 rfl (Nat.le_of_ble_eq_true rfl) dX9_suggest_2 ⟨(Nat.le_of_ble_eq_true rfl), (Nat.le_of_ble_eq_true rfl)⟩ (fun z9 ce9 q9 H locs hH hk9 hz9 h91 h92 h93 => ?_)
    exact x_out hxt hlocks hH hk9 hz9 h91 h92 h93 ⟨Nat.le_of_ble_eq_true rfl, Nat.le_of_ble_eq_true rfl⟩
  refine r_xVok (As := [.int p1]) (S' := S3) (v := (some (.ref a4))) (st1 := [.ref a4]) ⟨hx, hb, hml, hown, hts⟩ (c_X9_ruleAt l hst9 D S a0 p1 (.inl (S3, a4)) e2) (cwV 1 hts (gwV gw_24_9 gw_24_10 gw_24_11 gw_14_5 gw_24_6) rfl rfl rfl (by decide +kernel) ⟨Nat.le_of_ble_eq_true rfl, Nat.le_of_ble_eq_true rfl⟩) hH hE hB hNE 12 ek1 (by decide) rfl rfl rfl hl.1 rfl (Nat.le_of_ble_eq_true rfl) dX9_suggest_2 ⟨(Nat.le_of_ble_eq_true rfl), (Nat.le_of_ble_eq_true rfl)⟩ rfl (fun H locs hH => ?_)
  refine W.widen (k := 1) (n := 6) (by omega) (by omega) ?_
  refine lv_astore_n (lv' := [(2, .ref a4), (0, .ref a0), (1, .int p1)]) hx hb dX9_suggest_5 rfl hl (by decide) rfl (fun ls hl => ?_)
  refine lv_aload_n hx hb dX9_suggest_6 rfl (lv_at hl 1 rfl) ?_
  obtain ⟨ek5, hf⟩ := oc hf
  obtain ⟨a6, e7, hf⟩ := ob hf
  refine r_getQ hx hb 12 hts (fun w h => List.mem_cons_of_mem _ (mwsX90 w h)) hown hH ek5 (by decide) rfl 0 (by decide) rfl (hts (.fieldLink RX9 14 "Housestyle" "typed" "LHousestyle$Row;") (List.mem_cons_of_mem _ gw_19_21)) (fun _ h9 => h9) dX9_suggest_7 e7 ?_
  obtain ⟨r8, e9, hf⟩ := ob hf
  refine r_callSi (As := [.ref a6]) ⟨hx, hb, hml, hown, hts⟩ (c_X6_isSuggestion l D S3 a6 r8 e9) (va_cwS 1 hts (gwS gw_24_15 gw_24_16 gw_5_15 gw_17_6) rfl rfl rfl (by decide +kernel) ⟨Nat.le_of_ble_eq_true rfl, Nat.le_of_ble_eq_true rfl⟩) hH hNE rfl hl.1 rfl (Nat.le_of_ble_eq_true rfl) dX9_suggest_10 ⟨(Nat.le_of_ble_eq_true rfl), (Nat.le_of_ble_eq_true rfl)⟩ (fun H locs hH => ?_)
  refine lv_if_ne (tgt := 26) hx hb dX9_suggest_13 (by decide) (fun c10 => ?_) (fun c10 => ?_)
  · have hf := iq hf c10
    refine lv_aload_n hx hb dX9_suggest_26 rfl (lv_at hl 0 rfl) ?_
    obtain ⟨ek11, hf⟩ := oc hf
    obtain ⟨a12, e13, hf⟩ := ob hf
    refine r_getQN hx hb 9 hts (fun w h => List.mem_cons_of_mem _ (mwsX60 w h)) hown hH ek11 (by decide) rfl 5 (by decide) rfl (nf_3 hNE) (fun _ h9 => h9) dX9_suggest_27 e13 ?_
    obtain ⟨ek14, hf⟩ := oc hf
    obtain ⟨r15, e16, hf⟩ := ob hf
    refine r_callVi (As := []) ⟨hx, hb, hml, hown, hts⟩ (c_Jx4a65c_size_8abf5 l D S3 a12 r15 e16) (cwV 0 hts (gwV gw_22_3 gw_4_10 gw_4_11 gw_1_0 gw_1_18) rfl rfl rfl (by decide +kernel) ⟨Nat.le_of_ble_eq_true rfl, Nat.le_of_ble_eq_true rfl⟩) hH hNE 2 ek14 (by decide) rfl rfl rfl hl.1 rfl (Nat.le_of_ble_eq_true rfl) dX9_suggest_30 ⟨(Nat.le_of_ble_eq_true rfl), (Nat.le_of_ble_eq_true rfl)⟩ (fun H locs hH => ?_)
    refine lv_iconst (v := 2) hx hb dX9_suggest_33 (by decide) ?_
    refine lv_icmp_lt (tgt := 47) hx hb dX9_suggest_34 (by decide) (fun c17 => ?_) (fun c17 => ?_)
    · have hf := ip hf c17
      refine lv_aload_n hx hb dX9_suggest_47 rfl (lv_at hl 0 rfl) ?_
      refine r_getQN hx hb 9 hts (fun w h => List.mem_cons_of_mem _ (mwsX60 w h)) hown hH ek11 (by decide) rfl 5 (by decide) rfl (nf_3 hNE) (fun _ h9 => h9) dX9_suggest_48 e13 ?_
      refine lv_aload_n hx hb dX9_suggest_51 rfl (lv_at hl 1 rfl) ?_
      refine r_getQ hx hb 12 hts (fun w h => List.mem_cons_of_mem _ (mwsX90 w h)) hown hH ek5 (by decide) rfl 0 (by decide) rfl (hts (.fieldLink RX9 14 "Housestyle" "typed" "LHousestyle$Row;") (List.mem_cons_of_mem _ gw_19_21)) (fun _ h9 => h9) dX9_suggest_52 e7 ?_
      refine lv_iconst (v := 0) hx hb dX9_suggest_55 (by decide) ?_
      refine lv_aload_n hx hb dX9_suggest_56 rfl (lv_at hl 1 rfl) ?_
      refine r_getQ hx hb 12 hts (fun w h => List.mem_cons_of_mem _ (mwsX90 w h)) hown hH ek5 (by decide) rfl 0 (by decide) rfl (hts (.fieldLink RX9 14 "Housestyle" "typed" "LHousestyle$Row;") (List.mem_cons_of_mem _ gw_19_21)) (fun _ h9 => h9) dX9_suggest_57 e7 ?_
      obtain ⟨ek18, hf⟩ := oc hf
      obtain ⟨r19, e20, hf⟩ := ob hf
      refine r_callVi (As := []) ⟨hx, hb, hml, hown, hts⟩ (c_X5_count l D S3 a6 r19 e20) (cwV 0 hts (gwV gw_21_15 gw_1_15 gw_1_16 gw_1_5 gw_1_11) rfl rfl rfl (by decide +kernel) ⟨Nat.le_of_ble_eq_true rfl, Nat.le_of_ble_eq_true rfl⟩) hH hNE 8 ek18 (by decide) rfl rfl rfl hl.1 rfl (Nat.le_of_ble_eq_true rfl) dX9_suggest_60 ⟨(Nat.le_of_ble_eq_true rfl), (Nat.le_of_ble_eq_true rfl)⟩ (fun H locs hH => ?_)
      obtain ⟨r21, e22, hf⟩ := ob hf
      refine r_callVr (As := [.int 0, .int r19]) ⟨hx, hb, hml, hown, hts⟩ (c_X5_part l D S3 a6 0 r19 r21 e22) (cwV 2 hts (gwV gw_24_13 gw_13_22 gw_13_23 gw_1_5 gw_13_13) rfl rfl rfl (by decide +kernel) ⟨Nat.le_of_ble_eq_true rfl, Nat.le_of_ble_eq_true rfl⟩) hH hNE 8 ek18 (by decide) rfl rfl rfl hl.1 rfl (Nat.le_of_ble_eq_true rfl) dX9_suggest_63 ⟨(Nat.le_of_ble_eq_true rfl), (Nat.le_of_ble_eq_true rfl)⟩ (fun H locs hH => ?_)
      obtain ⟨S23, e24, hf⟩ := ol hf
      rw [e24] at hH
      refine W.widen (k := 3) (n := 188) (by omega) (by omega) ?_
      obtain ⟨ek25, hf⟩ := oc hf
      obtain ⟨r26, e27, hf⟩ := ob hf
      refine r_callVi (As := [.ref r21.2]) ⟨hx, hb, hml, hown, hts⟩ (c_Jx4a65c_add_9ea2d l D S23 a12 r21.2 r26 e27) (cwV 1 hts (gwV gw_21_3 gw_17_0 gw_17_1 gw_1_0 gw_16_8) rfl rfl rfl (by decide +kernel) ⟨Nat.le_of_ble_eq_true rfl, Nat.le_of_ble_eq_true rfl⟩) hH hNE 2 ek25 (by decide) rfl rfl rfl hl.1 rfl (Nat.le_of_ble_eq_true rfl) dX9_suggest_66 ⟨(Nat.le_of_ble_eq_true rfl), (Nat.le_of_ble_eq_true rfl)⟩ (fun H locs hH => ?_)
      obtain ⟨S28, e29, hf⟩ := ol hf
      rw [e29] at hH
      refine W.widen (k := 4) (n := 208) (by omega) (by omega) ?_
      refine lv_pop hx hb dX9_suggest_69 rfl ?_
      refine lv_aload_n hx hb dX9_suggest_70 rfl (lv_at hl 1 rfl) ?_
      obtain ⟨ek30, hf⟩ := oc hf
      obtain ⟨r31, e32, hf⟩ := ob hf
      refine r_callVv (As := []) ⟨hx, hb, hml, hown, hts⟩ (c_X9_noteTold l D S28 a0 r31 e32) (cwV 0 hts (gwV gw_24_3 gw_24_4 gw_24_5 gw_14_5 gw_23_14) rfl rfl rfl (by decide +kernel) ⟨Nat.le_of_ble_eq_true rfl, Nat.le_of_ble_eq_true rfl⟩) hH hNE 12 ek30 (by decide) rfl rfl rfl hl.1 rfl (Nat.le_of_ble_eq_true rfl) dX9_suggest_71 ⟨(Nat.le_of_ble_eq_true rfl), (Nat.le_of_ble_eq_true rfl)⟩ (fun H locs hH => ?_)
      refine lv_aload_n hx hb dX9_suggest_74 rfl (lv_at hl 0 rfl) ?_
      obtain ⟨ek33, hf⟩ := oc hf
      obtain ⟨a34, e35, hf⟩ := ob hf
      refine r_getQN hx hb 9 hts (fun w h => List.mem_cons_of_mem _ (mwsX60 w h)) hown hH ek33 (by decide) rfl 5 (by decide) rfl (nf_3 hNE) (fun _ h9 => h9) dX9_suggest_75 e35 ?_
      obtain ⟨ek36, hf⟩ := oc hf
      obtain ⟨r37, e38, hf⟩ := ob hf
      refine r_callVi (As := []) ⟨hx, hb, hml, hown, hts⟩ (c_Jx4a65c_size_8abf5 l D r31 a34 r37 e38) (cwV 0 hts (gwV gw_22_3 gw_4_10 gw_4_11 gw_1_0 gw_1_18) rfl rfl rfl (by decide +kernel) ⟨Nat.le_of_ble_eq_true rfl, Nat.le_of_ble_eq_true rfl⟩) hH hNE 2 ek36 (by decide) rfl rfl rfl hl.1 rfl (Nat.le_of_ble_eq_true rfl) dX9_suggest_78 ⟨(Nat.le_of_ble_eq_true rfl), (Nat.le_of_ble_eq_true rfl)⟩ (fun H locs hH => ?_)
      have hr9 := Option.some.inj hf
      subst hr9
      exact x_i hx hb hr hlocks hH dX9_suggest_81
    · have hf := iq hf c17
      cases hf
      exact r_throw (text := "it has 2") (cls := "java/lang/IllegalStateException") (names := ["java/lang/RuntimeException", "java/lang/Exception"]) 2 hx hb hst9 hown xf1 xn (hts (.classLink RX9 93 "java/lang/IllegalStateException") (List.mem_cons_of_mem _ gw_21_11)) (hts (.initialized "java/lang/IllegalStateException") (List.mem_cons_of_mem _ gw_21_12)) (List.mem_of_getElem? (i := 11) rfl) (xa1 hts hE) xg1 hE hB hH (hl.1.trans hml.symm) rfl dX9_suggest_37 dX9_suggest_40 dX9_suggest_41 dX9_suggest_43 dX9_suggest_46 hxt (Nat.le_of_ble_eq_true rfl) (Nat.le_of_ble_eq_true rfl) (Nat.le_of_ble_eq_true rfl) (Nat.le_of_ble_eq_true rfl) hlocks ⟨Nat.le_of_ble_eq_true rfl, Nat.le_of_ble_eq_true rfl⟩
  · have hf := ip hf c10
    cases hf
    exact r_throw (text := "no suggestion") (cls := "java/lang/UnsupportedOperationException") (names := ["java/lang/RuntimeException", "java/lang/Exception"]) 4 hx hb hst9 hown xf3 xn (hts (.classLink RX9 142 "java/lang/UnsupportedOperationException") (List.mem_cons_of_mem _ gw_23_19)) (hts (.initialized "java/lang/UnsupportedOperationException") (List.mem_cons_of_mem _ gw_23_20)) (List.mem_of_getElem? (i := 10) rfl) (xa3 hts hE) xg3 hE hB hH (hl.1.trans hml.symm) rfl dX9_suggest_16 dX9_suggest_19 dX9_suggest_20 dX9_suggest_22 dX9_suggest_25 hxt (Nat.le_of_ble_eq_true rfl) (Nat.le_of_ble_eq_true rfl) (Nat.le_of_ble_eq_true rfl) (Nat.le_of_ble_eq_true rfl) hlocks ⟨Nat.le_of_ble_eq_true rfl, Nat.le_of_ble_eq_true rfl⟩
set_option maxRecDepth 100000 in
def f_X4_init (S : PS) (a0 : Nat) (b1 : Nat) (b2 : Nat) : Option (PS) := if kK S a0 = 8 then (lt (wQ S a0 0 (some b1)) fun S2 => if kK S2 a0 = 8 then (lt (wQ S2 a0 1 (some b2)) fun S5 => some S5) else none) else none
abbrev rmX4_init : Room := { frames := 1, cells := 0, slots := 0, locals := 16 }
set_option maxHeartbeats 4000000 in
set_option maxRecDepth 100000 in
theorem c_X4_init (l : Launch) (D : va_G × Nat) (S : PS) (a0 : Nat) (b1 : Nat) (b2 : Nat) (r : PS) (hf : f_X4_init S a0 b1 b2 = some r) : MV l D yX4_init wsX4_init rmX4_init S [.ref a0, .ref b1, .ref b2] r 0 0 := by
  unfold f_X4_init at hf
  refine Met.ofW (cc := cX4_init) (maxL := 3) (ret := none) (by decide) rfl ?_
  intro p e s m args below meth c s₁ B hml hv
  obtain ⟨rfl, hH0, hNE⟩ := hv
  have hx := B.exec
  have hb := B.bytes
  have hr := B.returns
  have hts := atoms_spec (ws := wsX4_init) B.pre
  have hown : s.vm.findClass RX4 = some m.cls := findClass_of_methodNamed B.named
  have hlocks := B.notSynchronized
  have hin : meth.name = "<init>" := (name_of_methodNamed B.named B.method).1
  have hH : HI D S S s s.heap [] := HI.start hH0
  have hl := lv_entry ([.ref a0, .ref b1, .ref b2]) (n := 3) (Nat.le_of_ble_eq_true rfl)
  rw [lg_entry_eq]
  generalize (lg_sl ([.ref a0, .ref b1, .ref b2]) ++ List.replicate (3 - (lg_sl ([.ref a0, .ref b1, .ref b2])).length) Slot.unset).toArray = ls at hl ⊢
  have hl : lv_has ls 3 [(0, .ref a0), (1, .ref b1), (2, .ref b2)] := hl
  refine lv_aload_n hx hb dX4_init_0 rfl (lv_at hl 0 rfl) ?_
  refine W.objInit hx hb hown (hts (.methodLink RX4 1 objectInit) (List.mem_cons_of_mem _ gw_14_9)) (hts (.instanceMethod objectInit) (List.mem_cons_of_mem _ gw_0_2)) (hts (.code objectInit ⟨#[0xb1]⟩ 1 none) (List.mem_cons_of_mem _ gw_0_3)) rfl (by rw [hml]; exact hl.1) rfl dX4_init_1 (Nat.le_of_ble_eq_true rfl) (Nat.le_of_ble_eq_true rfl) ?_
  refine W.eq (g2 := F0 m 4 ls []) rfl ?_
  refine lv_aload_n hx hb dX4_init_4 rfl (lv_at hl 0 rfl) ?_
  refine lv_aload_n hx hb dX4_init_5 rfl (lv_at hl 1 rfl) ?_
  obtain ⟨ek1, hf⟩ := oc hf
  refine r_putQ hx hb 7 hts (fun w h => List.mem_cons_of_mem _ (mwsX40 w h)) tyX4 tyX4_ok nmX4 hown hH ek1 (by decide) rfl 0 (by decide) rfl (hts (.fieldLink RX4 7 "Housestyle$Pair" "one" "LHousestyle$Row;") (List.mem_cons_of_mem _ gw_8_5)) (fun _ h9 => h9) (Or.inr ⟨rfl, hin, rfl⟩) (ty := (.object "Housestyle$Row")) (by decide +kernel) rfl rfl dX4_init_6 (fun H locs hH => ?_)
  obtain ⟨S2, e3, hf⟩ := ol hf
  rw [e3] at hH
  refine lv_aload_n hx hb dX4_init_9 rfl (lv_at hl 0 rfl) ?_
  refine lv_aload_n hx hb dX4_init_10 rfl (lv_at hl 2 rfl) ?_
  obtain ⟨ek4, hf⟩ := oc hf
  refine r_putQ hx hb 7 hts (fun w h => List.mem_cons_of_mem _ (mwsX40 w h)) tyX4 tyX4_ok nmX4 hown hH ek4 (by decide) rfl 1 (by decide) rfl (hts (.fieldLink RX4 13 "Housestyle$Pair" "other" "LHousestyle$Row;") (List.mem_cons_of_mem _ gw_8_6)) (fun _ h9 => h9) (Or.inr ⟨rfl, hin, rfl⟩) (ty := (.object "Housestyle$Row")) (by decide +kernel) rfl rfl dX4_init_11 (fun H locs hH => ?_)
  obtain ⟨S5, e6, hf⟩ := ol hf
  rw [e6] at hH
  have hr9 := Option.some.inj hf
  subst hr9
  exact e_v hx hb hr hlocks hH dX4_init_14
set_option maxRecDepth 100000 in
def f_X9_pair (S : PS) (a0 : Nat) : Option ((PS × Int32) ⊕ (PS × Nat)) := if kK S a0 = 13 then ((kQ S a0 0).bind fun a2 => if kK S a2 = 9 then ((f_X5_placeOf S a2 32).bind fun r5 => (f_X9_isWord S a2 0 r5).bind fun r7 => lt (fun (u10 : Unit) => some (.inr (S, 4))) fun j9 => if r7 = 0 then (j9 ()) else ((f_X5_count S a2).bind fun r13 => (f_X9_isWord S a2 (r5 + 1) r13).bind fun r15 => if r15 = 0 then (j9 ()) else (lt (kZ S) fun a18 => lt (wN S 8 0) fun S20 => if kK S20 a0 = 13 then ((kQ S20 a0 0).bind fun a23 => if kK S20 a23 = 9 then ((f_X5_part S20 a23 0 r5).bind fun r26 => lt r26.1 fun S28 => if kK S28 a0 = 13 then ((kQ S28 a0 0).bind fun a31 => if kK S28 a31 = 9 then ((f_X5_count S28 a31).bind fun r34 => (f_X5_part S28 a31 (r5 + 1) r34).bind fun r36 => lt r36.1 fun S38 => (f_X4_init S38 a18 r26.2 r36.2).bind fun r40 => if kK r40 a18 = 8 then ((kQ r40 a18 0).bind fun a43 => (kQ r40 a18 1).bind fun a45 => if kK r40 a43 = 9 then ((f_X5_isLike r40 a43 a45).bind fun r48 => if r48 = 0 then (if kK r40 a0 = 13 then ((kQ r40 a0 3).bind fun a52 => if kK r40 a52 = 4 then ((kQ r40 a52 1).bind fun a55 => if kK r40 a55 = 3 then ((f_Jx4a65c_size_8abf5 r40 a55).bind fun r58 => if r58 < (4 : Int32) then ((f_Jx4a65c_add_9ea2d r40 a55 a18).bind fun r61 => lt r61.1 fun S63 => if kK S63 a0 = 13 then ((f_X9_noteTold S63 a0).bind fun r66 => if kK r66 a0 = 13 then ((kQ r66 a0 3).bind fun a69 => if kK r66 a69 = 4 then ((kQ r66 a69 1).bind fun a72 => if kK r66 a72 = 3 then ((f_Jx4a65c_size_8abf5 r66 a72).bind fun r75 => some (.inl (r66, (r75 - 1)))) else none) else none) else none) else none) else (some (.inr (r40, 2)))) else none) else none) else none) else (some (.inr (r40, 4)))) else none) else none) else none) else none) else none) else none))) else none) else none
abbrev rmX9_pair : Room := { frames := 9, cells := 6, slots := 386, locals := 258 }
set_option maxHeartbeats 4000000 in
set_option maxRecDepth 100000 in
theorem c_X9_pair (l : Launch) (hst9 : l.stackTraces = false) (D : va_G × Nat) (S : PS) (a0 : Nat) (r : (PS × Int32) ⊕ (PS × Nat)) (hf : f_X9_pair S a0 = some r) : XM l D yX9_pair wsX9_pair rmX9_pair S [.ref a0] (mI r) 6 386 := by
  unfold f_X9_pair at hf
  refine vx_ofW (cc := cX9_pair) (maxL := 3) (ret := (some .int)) (by decide) rfl ?_
  intro p e s m args below meth c s₁ B hml hxt hv
  obtain ⟨rfl, hH0, hE, hNE⟩ := hv
  have hB := hH0.base
  have hx := B.exec
  have hb := B.bytes
  have hr := B.returns
  have hts := atoms_spec (ws := wsX9_pair) B.pre
  have hown : s.vm.findClass RX9 = some m.cls := findClass_of_methodNamed B.named
  have hlocks := B.notSynchronized
  have hH : HI D S S s s.heap [] := HI.start hH0
  have hl := lv_entry ([.ref a0]) (n := 3) (Nat.le_of_ble_eq_true rfl)
  rw [lg_entry_eq]
  generalize (lg_sl ([.ref a0]) ++ List.replicate (3 - (lg_sl ([.ref a0])).length) Slot.unset).toArray = ls at hl ⊢
  have hl : lv_has ls 3 [(0, .ref a0)] := hl
  refine lv_aload_n hx hb dX9_pair_0 rfl (lv_at hl 0 rfl) ?_
  obtain ⟨ek1, hf⟩ := oc hf
  obtain ⟨a2, e3, hf⟩ := ob hf
  refine r_getQ hx hb 12 hts (fun w h => List.mem_cons_of_mem _ (mwsX90 w h)) hown hH ek1 (by decide) rfl 0 (by decide) rfl (hts (.fieldLink RX9 14 "Housestyle" "typed" "LHousestyle$Row;") (List.mem_cons_of_mem _ gw_19_21)) (fun _ h9 => h9) dX9_pair_1 e3 ?_
  refine lv_bipush (v := 32) hx hb dX9_pair_4 (by decide) ?_
  obtain ⟨ek4, hf⟩ := oc hf
  obtain ⟨r5, e6, hf⟩ := ob hf
  refine r_callVi (As := [.int 32]) ⟨hx, hb, hml, hown, hts⟩ (c_X5_placeOf l D S a2 32 r5 e6) (cwV 1 hts (gwV gw_24_20 gw_24_21 gw_24_22 gw_1_5 gw_14_11) rfl rfl rfl (by decide +kernel) ⟨Nat.le_of_ble_eq_true rfl, Nat.le_of_ble_eq_true rfl⟩) hH hNE 8 ek4 (by decide) rfl rfl rfl hl.1 rfl (Nat.le_of_ble_eq_true rfl) dX9_pair_6 ⟨(Nat.le_of_ble_eq_true rfl), (Nat.le_of_ble_eq_true rfl)⟩ (fun H locs hH => ?_)
  refine lv_istore_n (lv' := [(1, .int r5), (0, .ref a0)]) hx hb dX9_pair_9 rfl hl (by decide) rfl (fun ls hl => ?_)
  refine lv_aload_n hx hb dX9_pair_10 rfl (lv_at hl 1 rfl) ?_
  refine r_getQ hx hb 12 hts (fun w h => List.mem_cons_of_mem _ (mwsX90 w h)) hown hH ek1 (by decide) rfl 0 (by decide) rfl (hts (.fieldLink RX9 14 "Housestyle" "typed" "LHousestyle$Row;") (List.mem_cons_of_mem _ gw_19_21)) (fun _ h9 => h9) dX9_pair_11 e3 ?_
  refine lv_iconst (v := 0) hx hb dX9_pair_14 (by decide) ?_
  refine lv_iload_n hx hb dX9_pair_15 rfl (lv_at hl 0 rfl) ?_
  obtain ⟨r7, e8, hf⟩ := ob hf
  refine r_callSi (As := [.ref a2, .int 0, .int r5]) ⟨hx, hb, hml, hown, hts⟩ (c_X9_isWord l D S a2 0 r5 r7 e8) (va_cwS 3 hts (gwS gw_24_12 gw_14_7 gw_14_5 gw_14_1) rfl rfl rfl (by decide +kernel) ⟨Nat.le_of_ble_eq_true rfl, Nat.le_of_ble_eq_true rfl⟩) hH hNE rfl hl.1 rfl (Nat.le_of_ble_eq_true rfl) dX9_pair_16 ⟨(Nat.le_of_ble_eq_true rfl), (Nat.le_of_ble_eq_true rfl)⟩ (fun H locs hH => ?_)
  obtain ⟨j9, e11, hf⟩ := ol hf
  have Jj9 : ∀ (u10 : Unit) (H : Heap) (locs : List Loc) (ls : Array Slot), HI D S S s H locs → lv_has ls 3 [] → j9 u10 = some r → GX p l e (headSpec wsX9_pair rmX9_pair).room s m ([.ref a0] : List Value).toArray below meth c D S (mI r) H locs 0 0 6 386 (F0 m 42 ls []) := by
    intro u10 H locs ls hH hl hf
    rw [← e11] at hf
    cases hf
    exact r_throw (text := "not two words") (cls := "java/lang/UnsupportedOperationException") (names := ["java/lang/RuntimeException", "java/lang/Exception"]) 4 hx hb hst9 hown xf3 xn (hts (.classLink RX9 142 "java/lang/UnsupportedOperationException") (List.mem_cons_of_mem _ gw_23_19)) (hts (.initialized "java/lang/UnsupportedOperationException") (List.mem_cons_of_mem _ gw_23_20)) (List.mem_of_getElem? (i := 12) rfl) (xa3 hts hE) xg3 hE hB hH (hl.1.trans hml.symm) rfl dX9_pair_42 dX9_pair_45 dX9_pair_46 dX9_pair_48 dX9_pair_51 hxt (Nat.le_of_ble_eq_true rfl) (Nat.le_of_ble_eq_true rfl) (Nat.le_of_ble_eq_true rfl) (Nat.le_of_ble_eq_true rfl) hlocks ⟨Nat.le_of_ble_eq_true rfl, Nat.le_of_ble_eq_true rfl⟩
  refine lv_if_eq (tgt := 42) hx hb dX9_pair_19 (by decide) (fun c12 => ?_) (fun c12 => ?_)
  · have hf := ip hf c12
    exact Jj9 () _ _ ls hH (lv_sub hl [] rfl) hf
  · have hf := iq hf c12
    refine lv_aload_n hx hb dX9_pair_22 rfl (lv_at hl 1 rfl) ?_
    refine r_getQ hx hb 12 hts (fun w h => List.mem_cons_of_mem _ (mwsX90 w h)) hown hH ek1 (by decide) rfl 0 (by decide) rfl (hts (.fieldLink RX9 14 "Housestyle" "typed" "LHousestyle$Row;") (List.mem_cons_of_mem _ gw_19_21)) (fun _ h9 => h9) dX9_pair_23 e3 ?_
    refine lv_iload_n hx hb dX9_pair_26 rfl (lv_at hl 0 rfl) ?_
    refine lv_iconst (v := 1) hx hb dX9_pair_27 (by decide) ?_
    refine lv_iadd hx hb dX9_pair_28 ?_
    refine lv_aload_n hx hb dX9_pair_29 rfl (lv_at hl 1 rfl) ?_
    refine r_getQ hx hb 12 hts (fun w h => List.mem_cons_of_mem _ (mwsX90 w h)) hown hH ek1 (by decide) rfl 0 (by decide) rfl (hts (.fieldLink RX9 14 "Housestyle" "typed" "LHousestyle$Row;") (List.mem_cons_of_mem _ gw_19_21)) (fun _ h9 => h9) dX9_pair_30 e3 ?_
    obtain ⟨r13, e14, hf⟩ := ob hf
    refine r_callVi (As := []) ⟨hx, hb, hml, hown, hts⟩ (c_X5_count l D S a2 r13 e14) (cwV 0 hts (gwV gw_21_15 gw_1_15 gw_1_16 gw_1_5 gw_1_11) rfl rfl rfl (by decide +kernel) ⟨Nat.le_of_ble_eq_true rfl, Nat.le_of_ble_eq_true rfl⟩) hH hNE 8 ek4 (by decide) rfl rfl rfl hl.1 rfl (Nat.le_of_ble_eq_true rfl) dX9_pair_33 ⟨(Nat.le_of_ble_eq_true rfl), (Nat.le_of_ble_eq_true rfl)⟩ (fun H locs hH => ?_)
    obtain ⟨r15, e16, hf⟩ := ob hf
    refine r_callSi (As := [.ref a2, .int (r5 + 1), .int r13]) ⟨hx, hb, hml, hown, hts⟩ (c_X9_isWord l D S a2 (r5 + 1) r13 r15 e16) (va_cwS 3 hts (gwS gw_24_12 gw_14_7 gw_14_5 gw_14_1) rfl rfl rfl (by decide +kernel) ⟨Nat.le_of_ble_eq_true rfl, Nat.le_of_ble_eq_true rfl⟩) hH hNE rfl hl.1 rfl (Nat.le_of_ble_eq_true rfl) dX9_pair_36 ⟨(Nat.le_of_ble_eq_true rfl), (Nat.le_of_ble_eq_true rfl)⟩ (fun H locs hH => ?_)
    refine lv_if_ne (tgt := 52) hx hb dX9_pair_39 (by decide) (fun c17 => ?_) (fun c17 => ?_)
    · have hf := iq hf c17
      refine r_new hx hb 7 hts (fun w h => List.mem_cons_of_mem _ (mwsX40 w h)) tyX4 tyX4_ok hown (hts (.classLink RX9 195 RX4) (List.mem_cons_of_mem _ gw_24_18)) (hts (.instantiable RX4 2) (List.mem_cons_of_mem _ gw_24_19)) (hts (.initialized RX4) (List.mem_cons_of_mem _ gw_8_15)) hH (by decide) rfl (by decide +kernel) (Nat.le_of_ble_eq_true rfl) (Nat.le_of_ble_eq_true rfl) dX9_pair_52 (fun H hH => ?_)
      obtain ⟨a18, e19, hf⟩ := ol hf
      rw [e19]
      obtain ⟨S20, e21, hf⟩ := ol hf
      rw [e21] at hH
      refine W.widen (k := 1) (n := 2) (by omega) (by omega) ?_
      refine lv_dup hx hb dX9_pair_55 rfl ?_
      refine lv_aload_n hx hb dX9_pair_56 rfl (lv_at hl 1 rfl) ?_
      obtain ⟨ek22, hf⟩ := oc hf
      obtain ⟨a23, e24, hf⟩ := ob hf
      refine r_getQ hx hb 12 hts (fun w h => List.mem_cons_of_mem _ (mwsX90 w h)) hown hH ek22 (by decide) rfl 0 (by decide) rfl (hts (.fieldLink RX9 14 "Housestyle" "typed" "LHousestyle$Row;") (List.mem_cons_of_mem _ gw_19_21)) (fun _ h9 => h9) dX9_pair_57 e24 ?_
      refine lv_iconst (v := 0) hx hb dX9_pair_60 (by decide) ?_
      refine lv_iload_n hx hb dX9_pair_61 rfl (lv_at hl 0 rfl) ?_
      obtain ⟨ek25, hf⟩ := oc hf
      obtain ⟨r26, e27, hf⟩ := ob hf
      refine r_callVr (As := [.int 0, .int r5]) ⟨hx, hb, hml, hown, hts⟩ (c_X5_part l D S20 a23 0 r5 r26 e27) (cwV 2 hts (gwV gw_24_13 gw_13_22 gw_13_23 gw_1_5 gw_13_13) rfl rfl rfl (by decide +kernel) ⟨Nat.le_of_ble_eq_true rfl, Nat.le_of_ble_eq_true rfl⟩) hH hNE 8 ek25 (by decide) rfl rfl rfl hl.1 rfl (Nat.le_of_ble_eq_true rfl) dX9_pair_62 ⟨(Nat.le_of_ble_eq_true rfl), (Nat.le_of_ble_eq_true rfl)⟩ (fun H locs hH => ?_)
      obtain ⟨S28, e29, hf⟩ := ol hf
      rw [e29] at hH
      refine W.widen (k := 3) (n := 184) (by omega) (by omega) ?_
      refine lv_aload_n hx hb dX9_pair_65 rfl (lv_at hl 1 rfl) ?_
      obtain ⟨ek30, hf⟩ := oc hf
      obtain ⟨a31, e32, hf⟩ := ob hf
      refine r_getQ hx hb 12 hts (fun w h => List.mem_cons_of_mem _ (mwsX90 w h)) hown hH ek30 (by decide) rfl 0 (by decide) rfl (hts (.fieldLink RX9 14 "Housestyle" "typed" "LHousestyle$Row;") (List.mem_cons_of_mem _ gw_19_21)) (fun _ h9 => h9) dX9_pair_66 e32 ?_
      refine lv_iload_n hx hb dX9_pair_69 rfl (lv_at hl 0 rfl) ?_
      refine lv_iconst (v := 1) hx hb dX9_pair_70 (by decide) ?_
      refine lv_iadd hx hb dX9_pair_71 ?_
      refine lv_aload_n hx hb dX9_pair_72 rfl (lv_at hl 1 rfl) ?_
      refine r_getQ hx hb 12 hts (fun w h => List.mem_cons_of_mem _ (mwsX90 w h)) hown hH ek30 (by decide) rfl 0 (by decide) rfl (hts (.fieldLink RX9 14 "Housestyle" "typed" "LHousestyle$Row;") (List.mem_cons_of_mem _ gw_19_21)) (fun _ h9 => h9) dX9_pair_73 e32 ?_
      obtain ⟨ek33, hf⟩ := oc hf
      obtain ⟨r34, e35, hf⟩ := ob hf
      refine r_callVi (As := []) ⟨hx, hb, hml, hown, hts⟩ (c_X5_count l D S28 a31 r34 e35) (cwV 0 hts (gwV gw_21_15 gw_1_15 gw_1_16 gw_1_5 gw_1_11) rfl rfl rfl (by decide +kernel) ⟨Nat.le_of_ble_eq_true rfl, Nat.le_of_ble_eq_true rfl⟩) hH hNE 8 ek33 (by decide) rfl rfl rfl hl.1 rfl (Nat.le_of_ble_eq_true rfl) dX9_pair_76 ⟨(Nat.le_of_ble_eq_true rfl), (Nat.le_of_ble_eq_true rfl)⟩ (fun H locs hH => ?_)
      obtain ⟨r36, e37, hf⟩ := ob hf
      refine r_callVr (As := [.int (r5 + 1), .int r34]) ⟨hx, hb, hml, hown, hts⟩ (c_X5_part l D S28 a31 (r5 + 1) r34 r36 e37) (cwV 2 hts (gwV gw_24_13 gw_13_22 gw_13_23 gw_1_5 gw_13_13) rfl rfl rfl (by decide +kernel) ⟨Nat.le_of_ble_eq_true rfl, Nat.le_of_ble_eq_true rfl⟩) hH hNE 8 ek33 (by decide) rfl rfl rfl hl.1 rfl (Nat.le_of_ble_eq_true rfl) dX9_pair_79 ⟨(Nat.le_of_ble_eq_true rfl), (Nat.le_of_ble_eq_true rfl)⟩ (fun H locs hH => ?_)
      obtain ⟨S38, e39, hf⟩ := ol hf
      rw [e39] at hH
      refine W.widen (k := 5) (n := 366) (by omega) (by omega) ?_
      obtain ⟨r40, e41, hf⟩ := ob hf
      refine r_callIv (As := [.ref r26.2, .ref r36.2]) ⟨hx, hb, hml, hown, hts⟩ (c_X4_init l D S38 a18 r26.2 r36.2 r40 e41) (cwI 2 hts (gwI (gwC gw_14_8)) rfl rfl rfl (hts (.initialized RX4) (List.mem_cons_of_mem _ gw_8_15)) (hts (.methodLink RX9 197 yX4_init) (List.mem_cons_of_mem _ gw_24_23)) (hts (.instanceMethod yX4_init) (List.mem_cons_of_mem _ gw_25_0)) rfl (by decide +kernel) ⟨Nat.le_of_ble_eq_true rfl, Nat.le_of_ble_eq_true rfl⟩) hH hNE rfl hl.1 rfl (Nat.le_of_ble_eq_true rfl) dX9_pair_82 ⟨(Nat.le_of_ble_eq_true rfl), (Nat.le_of_ble_eq_true rfl)⟩ (fun H locs hH => ?_)
      refine lv_astore_n (lv' := [(2, .ref a18), (1, .int r5), (0, .ref a0)]) hx hb dX9_pair_85 rfl hl (by decide) rfl (fun ls hl => ?_)
      refine lv_aload_n hx hb dX9_pair_86 rfl (lv_at hl 0 rfl) ?_
      obtain ⟨ek42, hf⟩ := oc hf
      obtain ⟨a43, e44, hf⟩ := ob hf
      refine r_getQN hx hb 7 hts (fun w h => List.mem_cons_of_mem _ (mwsX40 w h)) hown hH ek42 (by decide) rfl 0 (by decide) rfl (nf_4 hNE) (fun _ h9 => h9) dX9_pair_87 e44 ?_
      refine lv_aload_n hx hb dX9_pair_90 rfl (lv_at hl 0 rfl) ?_
      obtain ⟨a45, e46, hf⟩ := ob hf
      refine r_getQN hx hb 7 hts (fun w h => List.mem_cons_of_mem _ (mwsX40 w h)) hown hH ek42 (by decide) rfl 1 (by decide) rfl (nf_5 hNE) (fun _ h9 => h9) dX9_pair_91 e46 ?_
      obtain ⟨ek47, hf⟩ := oc hf
      obtain ⟨r48, e49, hf⟩ := ob hf
      refine r_callVi (As := [.ref a45]) ⟨hx, hb, hml, hown, hts⟩ (c_X5_isLike l D r40 a43 a45 r48 e49) (cwV 1 hts (gwV gw_25_1 gw_25_2 gw_25_3 gw_1_5 gw_14_12) rfl rfl rfl (by decide +kernel) ⟨Nat.le_of_ble_eq_true rfl, Nat.le_of_ble_eq_true rfl⟩) hH hNE 8 ek47 (by decide) rfl rfl rfl hl.1 rfl (Nat.le_of_ble_eq_true rfl) dX9_pair_94 ⟨(Nat.le_of_ble_eq_true rfl), (Nat.le_of_ble_eq_true rfl)⟩ (fun H locs hH => ?_)
      refine lv_if_eq (tgt := 110) hx hb dX9_pair_97 (by decide) (fun c50 => ?_) (fun c50 => ?_)
      · have hf := ip hf c50
        refine lv_aload_n hx hb dX9_pair_110 rfl (lv_at hl 2 rfl) ?_
        obtain ⟨ek51, hf⟩ := oc hf
        obtain ⟨a52, e53, hf⟩ := ob hf
        refine r_getQ hx hb 12 hts (fun w h => List.mem_cons_of_mem _ (mwsX90 w h)) hown hH ek51 (by decide) rfl 3 (by decide) rfl (hts (.fieldLink RX9 40 "Housestyle" "book" "LHousestyle$Book;") (List.mem_cons_of_mem _ gw_20_6)) (fun _ h9 => h9) dX9_pair_111 e53 ?_
        obtain ⟨ek54, hf⟩ := oc hf
        obtain ⟨a55, e56, hf⟩ := ob hf
        refine r_getQN hx hb 3 hts (fun w h => List.mem_cons_of_mem _ (mwsX00 w h)) hown hH ek54 (by decide) rfl 1 (by decide) rfl (nf_6 hNE) (fun _ h9 => h9) dX9_pair_114 e56 ?_
        obtain ⟨ek57, hf⟩ := oc hf
        obtain ⟨r58, e59, hf⟩ := ob hf
        refine r_callVi (As := []) ⟨hx, hb, hml, hown, hts⟩ (c_Jx4a65c_size_8abf5 l D r40 a55 r58 e59) (cwV 0 hts (gwV gw_22_3 gw_4_10 gw_4_11 gw_1_0 gw_1_18) rfl rfl rfl (by decide +kernel) ⟨Nat.le_of_ble_eq_true rfl, Nat.le_of_ble_eq_true rfl⟩) hH hNE 2 ek57 (by decide) rfl rfl rfl hl.1 rfl (Nat.le_of_ble_eq_true rfl) dX9_pair_117 ⟨(Nat.le_of_ble_eq_true rfl), (Nat.le_of_ble_eq_true rfl)⟩ (fun H locs hH => ?_)
        refine lv_iconst (v := 4) hx hb dX9_pair_120 (by decide) ?_
        refine lv_icmp_lt (tgt := 134) hx hb dX9_pair_121 (by decide) (fun c60 => ?_) (fun c60 => ?_)
        · have hf := ip hf c60
          refine lv_aload_n hx hb dX9_pair_134 rfl (lv_at hl 2 rfl) ?_
          refine r_getQ hx hb 12 hts (fun w h => List.mem_cons_of_mem _ (mwsX90 w h)) hown hH ek51 (by decide) rfl 3 (by decide) rfl (hts (.fieldLink RX9 40 "Housestyle" "book" "LHousestyle$Book;") (List.mem_cons_of_mem _ gw_20_6)) (fun _ h9 => h9) dX9_pair_135 e53 ?_
          refine r_getQN hx hb 3 hts (fun w h => List.mem_cons_of_mem _ (mwsX00 w h)) hown hH ek54 (by decide) rfl 1 (by decide) rfl (nf_6 hNE) (fun _ h9 => h9) dX9_pair_138 e56 ?_
          refine lv_aload_n hx hb dX9_pair_141 rfl (lv_at hl 0 rfl) ?_
          obtain ⟨r61, e62, hf⟩ := ob hf
          refine r_callVi (As := [.ref a18]) ⟨hx, hb, hml, hown, hts⟩ (c_Jx4a65c_add_9ea2d l D r40 a55 a18 r61 e62) (cwV 1 hts (gwV gw_21_3 gw_17_0 gw_17_1 gw_1_0 gw_16_8) rfl rfl rfl (by decide +kernel) ⟨Nat.le_of_ble_eq_true rfl, Nat.le_of_ble_eq_true rfl⟩) hH hNE 2 ek57 (by decide) rfl rfl rfl hl.1 rfl (Nat.le_of_ble_eq_true rfl) dX9_pair_142 ⟨(Nat.le_of_ble_eq_true rfl), (Nat.le_of_ble_eq_true rfl)⟩ (fun H locs hH => ?_)
          obtain ⟨S63, e64, hf⟩ := ol hf
          rw [e64] at hH
          refine W.widen (k := 6) (n := 386) (by omega) (by omega) ?_
          refine lv_pop hx hb dX9_pair_145 rfl ?_
          refine lv_aload_n hx hb dX9_pair_146 rfl (lv_at hl 2 rfl) ?_
          obtain ⟨ek65, hf⟩ := oc hf
          obtain ⟨r66, e67, hf⟩ := ob hf
          refine r_callVv (As := []) ⟨hx, hb, hml, hown, hts⟩ (c_X9_noteTold l D S63 a0 r66 e67) (cwV 0 hts (gwV gw_24_3 gw_24_4 gw_24_5 gw_14_5 gw_23_14) rfl rfl rfl (by decide +kernel) ⟨Nat.le_of_ble_eq_true rfl, Nat.le_of_ble_eq_true rfl⟩) hH hNE 12 ek65 (by decide) rfl rfl rfl hl.1 rfl (Nat.le_of_ble_eq_true rfl) dX9_pair_147 ⟨(Nat.le_of_ble_eq_true rfl), (Nat.le_of_ble_eq_true rfl)⟩ (fun H locs hH => ?_)
          refine lv_aload_n hx hb dX9_pair_150 rfl (lv_at hl 2 rfl) ?_
          obtain ⟨ek68, hf⟩ := oc hf
          obtain ⟨a69, e70, hf⟩ := ob hf
          refine r_getQ hx hb 12 hts (fun w h => List.mem_cons_of_mem _ (mwsX90 w h)) hown hH ek68 (by decide) rfl 3 (by decide) rfl (hts (.fieldLink RX9 40 "Housestyle" "book" "LHousestyle$Book;") (List.mem_cons_of_mem _ gw_20_6)) (fun _ h9 => h9) dX9_pair_151 e70 ?_
          obtain ⟨ek71, hf⟩ := oc hf
          obtain ⟨a72, e73, hf⟩ := ob hf
          refine r_getQN hx hb 3 hts (fun w h => List.mem_cons_of_mem _ (mwsX00 w h)) hown hH ek71 (by decide) rfl 1 (by decide) rfl (nf_6 hNE) (fun _ h9 => h9) dX9_pair_154 e73 ?_
          obtain ⟨ek74, hf⟩ := oc hf
          obtain ⟨r75, e76, hf⟩ := ob hf
          refine r_callVi (As := []) ⟨hx, hb, hml, hown, hts⟩ (c_Jx4a65c_size_8abf5 l D r66 a72 r75 e76) (cwV 0 hts (gwV gw_22_3 gw_4_10 gw_4_11 gw_1_0 gw_1_18) rfl rfl rfl (by decide +kernel) ⟨Nat.le_of_ble_eq_true rfl, Nat.le_of_ble_eq_true rfl⟩) hH hNE 2 ek74 (by decide) rfl rfl rfl hl.1 rfl (Nat.le_of_ble_eq_true rfl) dX9_pair_157 ⟨(Nat.le_of_ble_eq_true rfl), (Nat.le_of_ble_eq_true rfl)⟩ (fun H locs hH => ?_)
          refine lv_iconst (v := 1) hx hb dX9_pair_160 (by decide) ?_
          refine lv_isub hx hb dX9_pair_161 ?_
          have hr9 := Option.some.inj hf
          subst hr9
          exact x_i hx hb hr hlocks hH dX9_pair_162
        · have hf := iq hf c60
          cases hf
          exact r_throw (text := "there are 4") (cls := "java/lang/IllegalStateException") (names := ["java/lang/RuntimeException", "java/lang/Exception"]) 2 hx hb hst9 hown xf1 xn (hts (.classLink RX9 93 "java/lang/IllegalStateException") (List.mem_cons_of_mem _ gw_21_11)) (hts (.initialized "java/lang/IllegalStateException") (List.mem_cons_of_mem _ gw_21_12)) (List.mem_of_getElem? (i := 14) rfl) (xa1 hts hE) xg1 hE hB hH (hl.1.trans hml.symm) rfl dX9_pair_124 dX9_pair_127 dX9_pair_128 dX9_pair_130 dX9_pair_133 hxt (Nat.le_of_ble_eq_true rfl) (Nat.le_of_ble_eq_true rfl) (Nat.le_of_ble_eq_true rfl) (Nat.le_of_ble_eq_true rfl) hlocks ⟨Nat.le_of_ble_eq_true rfl, Nat.le_of_ble_eq_true rfl⟩
      · have hf := iq hf c50
        cases hf
        exact r_throw (text := "not two unlike words") (cls := "java/lang/UnsupportedOperationException") (names := ["java/lang/RuntimeException", "java/lang/Exception"]) 4 hx hb hst9 hown xf3 xn (hts (.classLink RX9 142 "java/lang/UnsupportedOperationException") (List.mem_cons_of_mem _ gw_23_19)) (hts (.initialized "java/lang/UnsupportedOperationException") (List.mem_cons_of_mem _ gw_23_20)) (List.mem_of_getElem? (i := 13) rfl) (xa3 hts hE) xg3 hE hB hH (hl.1.trans hml.symm) rfl dX9_pair_100 dX9_pair_103 dX9_pair_104 dX9_pair_106 dX9_pair_109 hxt (Nat.le_of_ble_eq_true rfl) (Nat.le_of_ble_eq_true rfl) (Nat.le_of_ble_eq_true rfl) (Nat.le_of_ble_eq_true rfl) hlocks ⟨Nat.le_of_ble_eq_true rfl, Nat.le_of_ble_eq_true rfl⟩
    · have hf := ip hf c17
      exact Jj9 () _ _ ls hH (lv_sub hl [] rfl) hf
set_option maxRecDepth 100000 in
def f_X9_deskAt (S : PS) (a0 : Nat) (p1 : Int32) : Option ((PS × Nat) ⊕ (PS × Nat)) := lt (fun (u2 : Unit) => some (.inr (S, 1))) fun j1 => if p1 < 0 then (j1 ()) else (if kK S a0 = 13 then ((kQ S a0 4).bind fun a6 => if kK S a6 = 3 then ((f_Jx4a65c_size_8abf5 S a6).bind fun r9 => if p1 < r9 then ((f_Jx4a65c_get_915e3 S a6 p1).bind fun r12 => if kK S r12 = 5 then (some (.inl (S, r12))) else none) else (j1 ())) else none) else none)
abbrev rmX9_deskAt : Room := { frames := 6, cells := 1, slots := 6, locals := 90 }
set_option maxHeartbeats 4000000 in
set_option maxRecDepth 100000 in
theorem c_X9_deskAt (l : Launch) (hst9 : l.stackTraces = false) (D : va_G × Nat) (S : PS) (a0 : Nat) (p1 : Int32) (r : (PS × Nat) ⊕ (PS × Nat)) (hf : f_X9_deskAt S a0 p1 = some r) : XM l D yX9_deskAt wsX9_deskAt rmX9_deskAt S [.ref a0, .int p1] (mR r) 1 6 := by
  unfold f_X9_deskAt at hf
  refine vx_ofW (cc := cX9_deskAt) (maxL := 2) (ret := (some (.object "Housestyle$Desk"))) (by decide) rfl ?_
  intro p e s m args below meth c s₁ B hml hxt hv
  obtain ⟨rfl, hH0, hE, hNE⟩ := hv
  have hB := hH0.base
  have hx := B.exec
  have hb := B.bytes
  have hr := B.returns
  have hts := atoms_spec (ws := wsX9_deskAt) B.pre
  have hown : s.vm.findClass RX9 = some m.cls := findClass_of_methodNamed B.named
  have hlocks := B.notSynchronized
  have hH : HI D S S s s.heap [] := HI.start hH0
  have hl := lv_entry ([.ref a0, .int p1]) (n := 2) (Nat.le_of_ble_eq_true rfl)
  rw [lg_entry_eq]
  generalize (lg_sl ([.ref a0, .int p1]) ++ List.replicate (2 - (lg_sl ([.ref a0, .int p1])).length) Slot.unset).toArray = ls at hl ⊢
  have hl : lv_has ls 2 [(0, .ref a0), (1, .int p1)] := hl
  refine lv_iload_n hx hb dX9_deskAt_0 rfl (lv_at hl 1 rfl) ?_
  obtain ⟨j1, e3, hf⟩ := ol hf
  have Jj1 : ∀ (u2 : Unit) (H : Heap) (locs : List Loc) (ls : Array Slot), HI D S S s H locs → lv_has ls 2 [] → j1 u2 = some r → GX p l e (headSpec wsX9_deskAt rmX9_deskAt).room s m ([.ref a0, .int p1] : List Value).toArray below meth c D S (mR r) H locs 0 0 1 6 (F0 m 15 ls []) := by
    intro u2 H locs ls hH hl hf
    rw [← e3] at hf
    cases hf
    exact r_throwW (text := "no such desk") (cls := "java/lang/IllegalArgumentException") (names := ["java/lang/RuntimeException", "java/lang/Exception"]) 1 hx hb hst9 hown xf0 xn (hts (.classLink RX9 82 "java/lang/IllegalArgumentException") (List.mem_cons_of_mem _ gw_21_9)) (hts (.initialized "java/lang/IllegalArgumentException") (List.mem_cons_of_mem _ gw_21_10)) (List.mem_of_getElem? (i := 23) rfl) (xa0 hts hE) xg0 hE hB hH (hl.1.trans hml.symm) rfl dX9_deskAt_15 dX9_deskAt_18 dX9_deskAt_19 dX9_deskAt_22 dX9_deskAt_25 hxt (Nat.le_of_ble_eq_true rfl) (Nat.le_of_ble_eq_true rfl) (Nat.le_of_ble_eq_true rfl) (Nat.le_of_ble_eq_true rfl) hlocks ⟨Nat.le_of_ble_eq_true rfl, Nat.le_of_ble_eq_true rfl⟩
  refine lv_if_lt (tgt := 15) hx hb dX9_deskAt_1 (by decide) (fun c4 => ?_) (fun c4 => ?_)
  · have hf := ip hf c4
    exact Jj1 () _ _ ls hH (lv_sub hl [] rfl) hf
  · have hf := iq hf c4
    refine lv_iload_n hx hb dX9_deskAt_4 rfl (lv_at hl 1 rfl) ?_
    refine lv_aload_n hx hb dX9_deskAt_5 rfl (lv_at hl 0 rfl) ?_
    obtain ⟨ek5, hf⟩ := oc hf
    obtain ⟨a6, e7, hf⟩ := ob hf
    refine r_getQ hx hb 12 hts (fun w h => List.mem_cons_of_mem _ (mwsX90 w h)) hown hH ek5 (by decide) rfl 4 (by decide) rfl (hts (.fieldLink RX9 47 "Housestyle" "desks" "Ljava/util/ArrayList;") (List.mem_cons_of_mem _ gw_20_8)) (fun _ h9 => h9) dX9_deskAt_6 e7 ?_
    obtain ⟨ek8, hf⟩ := oc hf
    obtain ⟨r9, e10, hf⟩ := ob hf
    refine r_callVi (As := []) ⟨hx, hb, hml, hown, hts⟩ (c_Jx4a65c_size_8abf5 l D S a6 r9 e10) (cwV 0 hts (gwV gw_22_3 gw_4_10 gw_4_11 gw_1_0 gw_1_18) rfl rfl rfl (by decide +kernel) ⟨Nat.le_of_ble_eq_true rfl, Nat.le_of_ble_eq_true rfl⟩) hH hNE 2 ek8 (by decide) rfl rfl rfl hl.1 rfl (Nat.le_of_ble_eq_true rfl) dX9_deskAt_9 ⟨(Nat.le_of_ble_eq_true rfl), (Nat.le_of_ble_eq_true rfl)⟩ (fun H locs hH => ?_)
    refine lv_icmp_lt (tgt := 26) hx hb dX9_deskAt_12 (by decide) (fun c11 => ?_) (fun c11 => ?_)
    · have hf := ip hf c11
      refine lv_aload_n hx hb dX9_deskAt_26 rfl (lv_at hl 0 rfl) ?_
      refine r_getQ hx hb 12 hts (fun w h => List.mem_cons_of_mem _ (mwsX90 w h)) hown hH ek5 (by decide) rfl 4 (by decide) rfl (hts (.fieldLink RX9 47 "Housestyle" "desks" "Ljava/util/ArrayList;") (List.mem_cons_of_mem _ gw_20_8)) (fun _ h9 => h9) dX9_deskAt_27 e7 ?_
      refine lv_iload_n hx hb dX9_deskAt_30 rfl (lv_at hl 1 rfl) ?_
      obtain ⟨r12, e13, hf⟩ := ob hf
      refine r_callVr (As := [.int p1]) ⟨hx, hb, hml, hown, hts⟩ (c_Jx4a65c_get_915e3 l D S a6 p1 r12 e13) (cwV 1 hts (gwV gw_22_4 gw_4_13 gw_4_14 gw_1_0 gw_2_2) rfl rfl rfl (by decide +kernel) ⟨Nat.le_of_ble_eq_true rfl, Nat.le_of_ble_eq_true rfl⟩) hH hNE 2 ek8 (by decide) rfl rfl rfl hl.1 rfl (Nat.le_of_ble_eq_true rfl) dX9_deskAt_31 ⟨(Nat.le_of_ble_eq_true rfl), (Nat.le_of_ble_eq_true rfl)⟩ (fun H locs hH => ?_)
      obtain ⟨ek14, hf⟩ := oc hf
      refine r_castS 4 hx hb hown (hts (.classLink RX9 51 "Housestyle$Desk") (List.mem_cons_of_mem _ gw_21_23)) hH ek14 (by decide) rfl rfl dX9_deskAt_34 ?_
      refine W.widen (k := 1) (n := 6) (by omega) (by omega) ?_
      have hr9 := Option.some.inj hf
      subst hr9
      exact x_r hx hb hr hlocks hH dX9_deskAt_37
    · have hf := iq hf c11
      exact Jj1 () _ _ ls hH (lv_sub hl [] rfl) hf
set_option maxRecDepth 100000 in
def f_X1_uses (S : PS) (a0 : Nat) (p1 : Int32) : Option (Int32) := if kK S a0 = 5 then (if ((kI S a0 5) &&& (1 <<< (p1 &&& 31))) = 0 then (some 1) else (some 0)) else none
abbrev rmX1_uses : Room := { frames := 0, cells := 0, slots := 0, locals := 0 }
set_option maxHeartbeats 4000000 in
set_option maxRecDepth 100000 in
theorem c_X1_uses (l : Launch) (D : va_G × Nat) (S : PS) (a0 : Nat) (p1 : Int32) (r : Int32) (hf : f_X1_uses S a0 p1 = some r) : MI l D yX1_uses wsX1_uses rmX1_uses S [.ref a0, .int p1] S r 0 0 := by
  unfold f_X1_uses at hf
  refine Met.ofW (cc := cX1_uses) (maxL := 2) (ret := (some .boolean)) (by decide) rfl ?_
  intro p e s m args below meth c s₁ B hml hv
  obtain ⟨rfl, hH0, hNE⟩ := hv
  have hx := B.exec
  have hb := B.bytes
  have hr := B.returns
  have hts := atoms_spec (ws := wsX1_uses) B.pre
  have hown : s.vm.findClass RX1 = some m.cls := findClass_of_methodNamed B.named
  have hlocks := B.notSynchronized
  have hH : HI D S S s s.heap [] := HI.start hH0
  have hl := lv_entry ([.ref a0, .int p1]) (n := 2) (Nat.le_of_ble_eq_true rfl)
  rw [lg_entry_eq]
  generalize (lg_sl ([.ref a0, .int p1]) ++ List.replicate (2 - (lg_sl ([.ref a0, .int p1])).length) Slot.unset).toArray = ls at hl ⊢
  have hl : lv_has ls 2 [(0, .ref a0), (1, .int p1)] := hl
  refine lv_aload_n hx hb dX1_uses_0 rfl (lv_at hl 0 rfl) ?_
  obtain ⟨ek1, hf⟩ := oc hf
  refine r_getI hx hb 4 hts (fun w h => List.mem_cons_of_mem _ (mwsX10 w h)) hown hH ek1 (by decide) rfl 5 (by decide) rfl (hts (.fieldLink RX1 36 "Housestyle$Desk" "leftOut" "I") (List.mem_cons_of_mem _ gw_9_2)) (fun _ h9 => h9) dX1_uses_1 ?_
  refine lv_iconst (v := 1) hx hb dX1_uses_4 (by decide) ?_
  refine lv_iload_n hx hb dX1_uses_5 rfl (lv_at hl 1 rfl) ?_
  refine lv_ishl hx hb dX1_uses_6 ?_
  refine lv_iand hx hb dX1_uses_7 ?_
  refine lv_if_ne (tgt := 15) hx hb dX1_uses_8 (by decide) (fun c2 => ?_) (fun c2 => ?_)
  · have hf := iq hf c2
    refine lv_iconst (v := 0) hx hb dX1_uses_15 (by decide) ?_
    have hr9 := Option.some.inj hf
    subst hr9
    exact e_z (r := 0) hx hb hr hlocks rfl hH dX1_uses_16
  · have hf := ip hf c2
    refine lv_iconst (v := 1) hx hb dX1_uses_11 (by decide) ?_
    refine lv_goto (tgt := 16) hx hb dX1_uses_12 (by decide) ?_
    have hr9 := Option.some.inj hf
    subst hr9
    exact e_z (r := 1) hx hb hr hlocks rfl hH dX1_uses_16
set_option maxRecDepth 100000 in
def f_X1_setUse (S : PS) (a0 : Nat) (p1 : Int32) (p2 : Int32) : Option (PS) := lt (fun (x1 : Int32) => if kK S a0 = 5 then (lt (wI S a0 5 x1) fun S4 => some S4) else none) fun j2 => if p2 = 0 then (if kK S a0 = 5 then (j2 ((kI S a0 5) ||| (1 <<< (p1 &&& 31)))) else none) else (if kK S a0 = 5 then (j2 ((kI S a0 5) &&& ((1 <<< (p1 &&& 31)) ^^^ (-1)))) else none)
abbrev rmX1_setUse : Room := { frames := 0, cells := 0, slots := 0, locals := 0 }
set_option maxHeartbeats 4000000 in
set_option maxRecDepth 100000 in
theorem c_X1_setUse (l : Launch) (D : va_G × Nat) (S : PS) (a0 : Nat) (p1 : Int32) (p2 : Int32) (r : PS) (hf : f_X1_setUse S a0 p1 p2 = some r) : MV l D yX1_setUse wsX1_setUse rmX1_setUse S [.ref a0, .int p1, .int p2] r 0 0 := by
  unfold f_X1_setUse at hf
  refine Met.ofW (cc := cX1_setUse) (maxL := 3) (ret := none) (by decide) rfl ?_
  intro p e s m args below meth c s₁ B hml hv
  obtain ⟨rfl, hH0, hNE⟩ := hv
  have hx := B.exec
  have hb := B.bytes
  have hr := B.returns
  have hts := atoms_spec (ws := wsX1_setUse) B.pre
  have hown : s.vm.findClass RX1 = some m.cls := findClass_of_methodNamed B.named
  have hlocks := B.notSynchronized
  have hH : HI D S S s s.heap [] := HI.start hH0
  have hl := lv_entry ([.ref a0, .int p1, .int p2]) (n := 3) (Nat.le_of_ble_eq_true rfl)
  rw [lg_entry_eq]
  generalize (lg_sl ([.ref a0, .int p1, .int p2]) ++ List.replicate (3 - (lg_sl ([.ref a0, .int p1, .int p2])).length) Slot.unset).toArray = ls at hl ⊢
  have hl : lv_has ls 3 [(0, .ref a0), (1, .int p1), (2, .int p2)] := hl
  refine lv_aload_n hx hb dX1_setUse_0 rfl (lv_at hl 0 rfl) ?_
  refine lv_iload_n hx hb dX1_setUse_1 rfl (lv_at hl 2 rfl) ?_
  obtain ⟨j2, e6, hf⟩ := ol hf
  have Jj2 : ∀ (x1 : Int32) (H : Heap) (locs : List Loc) (ls : Array Slot), HI D S S s H locs → lv_has ls 3 [] → j2 x1 = some r → GV p l e (headSpec wsX1_setUse rmX1_setUse).room s m ([.ref a0, .int p1, .int p2] : List Value).toArray below meth c D S r H locs 0 0 0 0 (F0 m 26 ls [.int x1, .ref a0]) := by
    intro x1 H locs ls hH hl hf
    rw [← e6] at hf
    obtain ⟨ek3, hf⟩ := oc hf
    refine r_putI hx hb 4 hts (fun w h => List.mem_cons_of_mem _ (mwsX10 w h)) tyX1 tyX1_ok nmX1 hown hH ek3 (by decide) rfl 5 (by decide) rfl (hts (.fieldLink RX1 36 "Housestyle$Desk" "leftOut" "I") (List.mem_cons_of_mem _ gw_9_2)) (fun _ h9 => h9) (Or.inl rfl) (ty := .int) (by decide +kernel) rfl rfl dX1_setUse_26 (fun H locs hH => ?_)
    obtain ⟨S4, e5, hf⟩ := ol hf
    rw [e5] at hH
    have hr9 := Option.some.inj hf
    subst hr9
    exact e_v hx hb hr hlocks hH dX1_setUse_29
  refine lv_if_eq (tgt := 18) hx hb dX1_setUse_2 (by decide) (fun c7 => ?_) (fun c7 => ?_)
  · have hf := ip hf c7
    refine lv_aload_n hx hb dX1_setUse_18 rfl (lv_at hl 0 rfl) ?_
    obtain ⟨ek8, hf⟩ := oc hf
    refine r_getI hx hb 4 hts (fun w h => List.mem_cons_of_mem _ (mwsX10 w h)) hown hH ek8 (by decide) rfl 5 (by decide) rfl (hts (.fieldLink RX1 36 "Housestyle$Desk" "leftOut" "I") (List.mem_cons_of_mem _ gw_9_2)) (fun _ h9 => h9) dX1_setUse_19 ?_
    refine lv_iconst (v := 1) hx hb dX1_setUse_22 (by decide) ?_
    refine lv_iload_n hx hb dX1_setUse_23 rfl (lv_at hl 1 rfl) ?_
    refine lv_ishl hx hb dX1_setUse_24 ?_
    refine lv_ior hx hb dX1_setUse_25 ?_
    exact Jj2 ((kI S a0 5) ||| (1 <<< (p1 &&& 31))) _ _ ls hH (lv_sub hl [] rfl) hf
  · have hf := iq hf c7
    refine lv_aload_n hx hb dX1_setUse_5 rfl (lv_at hl 0 rfl) ?_
    obtain ⟨ek9, hf⟩ := oc hf
    refine r_getI hx hb 4 hts (fun w h => List.mem_cons_of_mem _ (mwsX10 w h)) hown hH ek9 (by decide) rfl 5 (by decide) rfl (hts (.fieldLink RX1 36 "Housestyle$Desk" "leftOut" "I") (List.mem_cons_of_mem _ gw_9_2)) (fun _ h9 => h9) dX1_setUse_6 ?_
    refine lv_iconst (v := 1) hx hb dX1_setUse_9 (by decide) ?_
    refine lv_iload_n hx hb dX1_setUse_10 rfl (lv_at hl 1 rfl) ?_
    refine lv_ishl hx hb dX1_setUse_11 ?_
    refine lv_iconst (v := (-1)) hx hb dX1_setUse_12 (by decide) ?_
    refine lv_ixor hx hb dX1_setUse_13 ?_
    refine lv_iand hx hb dX1_setUse_14 ?_
    refine lv_goto (tgt := 26) hx hb dX1_setUse_15 (by decide) ?_
    exact Jj2 ((kI S a0 5) &&& ((1 <<< (p1 &&& 31)) ^^^ (-1))) _ _ ls hH (lv_sub hl [] rfl) hf
set_option maxRecDepth 100000 in
def f_X9_noteSettings (S : PS) (a0 : Nat) (p1 : Int32) : Option (PS) := if kK S a0 = 13 then ((kQ S a0 1).bind fun a2 => if kK S a2 = 11 then ((f_X7_markAll S a2 (1 <<< (p1 &&& 31))).bind fun r5 => if kK r5 a0 = 13 then (lt (wI r5 a0 8 (-1)) fun S8 => some S8) else none) else none) else none
abbrev rmX9_noteSettings : Room := { frames := 2, cells := 0, slots := 0, locals := 44 }
set_option maxHeartbeats 4000000 in
set_option maxRecDepth 100000 in
theorem c_X9_noteSettings (l : Launch) (D : va_G × Nat) (S : PS) (a0 : Nat) (p1 : Int32) (r : PS) (hf : f_X9_noteSettings S a0 p1 = some r) : MV l D yX9_noteSettings wsX9_noteSettings rmX9_noteSettings S [.ref a0, .int p1] r 0 0 := by
  unfold f_X9_noteSettings at hf
  refine Met.ofW (cc := cX9_noteSettings) (maxL := 2) (ret := none) (by decide) rfl ?_
  intro p e s m args below meth c s₁ B hml hv
  obtain ⟨rfl, hH0, hNE⟩ := hv
  have hx := B.exec
  have hb := B.bytes
  have hr := B.returns
  have hts := atoms_spec (ws := wsX9_noteSettings) B.pre
  have hown : s.vm.findClass RX9 = some m.cls := findClass_of_methodNamed B.named
  have hlocks := B.notSynchronized
  have hH : HI D S S s s.heap [] := HI.start hH0
  have hl := lv_entry ([.ref a0, .int p1]) (n := 2) (Nat.le_of_ble_eq_true rfl)
  rw [lg_entry_eq]
  generalize (lg_sl ([.ref a0, .int p1]) ++ List.replicate (2 - (lg_sl ([.ref a0, .int p1])).length) Slot.unset).toArray = ls at hl ⊢
  have hl : lv_has ls 2 [(0, .ref a0), (1, .int p1)] := hl
  refine lv_aload_n hx hb dX9_noteSettings_0 rfl (lv_at hl 0 rfl) ?_
  obtain ⟨ek1, hf⟩ := oc hf
  obtain ⟨a2, e3, hf⟩ := ob hf
  refine r_getQ hx hb 12 hts (fun w h => List.mem_cons_of_mem _ (mwsX90 w h)) hown hH ek1 (by decide) rfl 1 (by decide) rfl (hts (.fieldLink RX9 21 "Housestyle" "text" "LHousestyle$Text;") (List.mem_cons_of_mem _ gw_20_0)) (fun _ h9 => h9) dX9_noteSettings_1 e3 ?_
  refine lv_iconst (v := 1) hx hb dX9_noteSettings_4 (by decide) ?_
  refine lv_iload_n hx hb dX9_noteSettings_5 rfl (lv_at hl 1 rfl) ?_
  refine lv_ishl hx hb dX9_noteSettings_6 ?_
  obtain ⟨ek4, hf⟩ := oc hf
  obtain ⟨r5, e6, hf⟩ := ob hf
  refine r_callVv (As := [.int (1 <<< (p1 &&& 31))]) ⟨hx, hb, hml, hown, hts⟩ (c_X7_markAll l D S a2 (1 <<< (p1 &&& 31)) r5 e6) (cwV 1 hts (gwV gw_23_15 gw_23_16 gw_23_17 gw_17_23 gw_18_6) rfl rfl rfl (by decide +kernel) ⟨Nat.le_of_ble_eq_true rfl, Nat.le_of_ble_eq_true rfl⟩) hH hNE 10 ek4 (by decide) rfl rfl rfl hl.1 rfl (Nat.le_of_ble_eq_true rfl) dX9_noteSettings_7 ⟨(Nat.le_of_ble_eq_true rfl), (Nat.le_of_ble_eq_true rfl)⟩ (fun H locs hH => ?_)
  refine lv_aload_n hx hb dX9_noteSettings_10 rfl (lv_at hl 0 rfl) ?_
  refine lv_iconst (v := (-1)) hx hb dX9_noteSettings_11 (by decide) ?_
  obtain ⟨ek7, hf⟩ := oc hf
  refine r_putI hx hb 12 hts (fun w h => List.mem_cons_of_mem _ (mwsX90 w h)) tyX9 tyX9_ok nmX9 hown hH ek7 (by decide) rfl 8 (by decide) rfl (hts (.fieldLink RX9 74 "Housestyle" "solvedDesk" "I") (List.mem_cons_of_mem _ gw_20_16)) (fun _ h9 => h9) (Or.inl rfl) (ty := .int) (by decide +kernel) rfl rfl dX9_noteSettings_12 (fun H locs hH => ?_)
  obtain ⟨S8, e9, hf⟩ := ol hf
  rw [e9] at hH
  have hr9 := Option.some.inj hf
  subst hr9
  exact e_v hx hb hr hlocks hH dX9_noteSettings_15
set_option maxRecDepth 100000 in
def f_X9_use (S : PS) (a0 : Nat) (p1 : Int32) (p2 : Int32) (p3 : Int32) : Option ((PS × Int32) ⊕ (PS × Nat)) := if kK S a0 = 13 then (bx2 (f_X9_ruleAt S a0 p2) fun S3 a4 => if kK S3 a0 = 13 then (bx2 (f_X9_deskAt S3 a0 p1) fun S7 a8 => if kK S7 a8 = 5 then ((f_X1_uses S7 a8 p2).bind fun r10 => (f_X1_setUse S7 a8 p2 p3).bind fun r12 => if kK r12 a0 = 13 then ((f_X9_noteSettings r12 a0 p1).bind fun r15 => if r10 = 0 ∨ r10 = 1 then (some (.inl (r15, r10))) else none) else none) else none) else none) else none
abbrev rmX9_use : Room := { frames := 7, cells := 2, slots := 12, locals := 111 }
set_option maxHeartbeats 4000000 in
set_option maxRecDepth 100000 in
theorem c_X9_use (l : Launch) (hst9 : l.stackTraces = false) (D : va_G × Nat) (S : PS) (a0 : Nat) (p1 : Int32) (p2 : Int32) (p3 : Int32) (r : (PS × Int32) ⊕ (PS × Nat)) (hf : f_X9_use S a0 p1 p2 p3 = some r) : XM l D yX9_use wsX9_use rmX9_use S [.ref a0, .int p1, .int p2, .int p3] (mI r) 2 12 := by
  unfold f_X9_use at hf
  refine vx_ofW (cc := cX9_use) (maxL := 6) (ret := (some .boolean)) (by decide) rfl ?_
  intro p e s m args below meth c s₁ B hml hxt hv
  obtain ⟨rfl, hH0, hE, hNE⟩ := hv
  have hB := hH0.base
  have hx := B.exec
  have hb := B.bytes
  have hr := B.returns
  have hts := atoms_spec (ws := wsX9_use) B.pre
  have hown : s.vm.findClass RX9 = some m.cls := findClass_of_methodNamed B.named
  have hlocks := B.notSynchronized
  have hH : HI D S S s s.heap [] := HI.start hH0
  have hl := lv_entry ([.ref a0, .int p1, .int p2, .int p3]) (n := 6) (Nat.le_of_ble_eq_true rfl)
  rw [lg_entry_eq]
  generalize (lg_sl ([.ref a0, .int p1, .int p2, .int p3]) ++ List.replicate (6 - (lg_sl ([.ref a0, .int p1, .int p2, .int p3])).length) Slot.unset).toArray = ls at hl ⊢
  have hl : lv_has ls 6 [(0, .ref a0), (1, .int p1), (2, .int p2), (3, .int p3)] := hl
  refine lv_aload_n hx hb dX9_use_0 rfl (lv_at hl 0 rfl) ?_
  refine lv_iload_n hx hb dX9_use_1 rfl (lv_at hl 2 rfl) ?_
  obtain ⟨ek1, hf⟩ := oc hf
  rcases obx2 hf with ⟨x4_, e2, rfl⟩ | ⟨S3, a4, e2, hf⟩
  · refine r_xVex (As := [.int p2]) ⟨hx, hb, hml, hown, hts⟩ (c_X9_ruleAt l hst9 D S a0 p2 (.inr x4_) e2) (cwV 1 hts (gwV gw_24_9 gw_24_10 gw_24_11 gw_14_5 gw_24_6) rfl rfl rfl (by decide +kernel) ⟨Nat.le_of_ble_eq_true rfl, Nat.le_of_ble_eq_true rfl⟩) hH hE hB hNE 12 ek1 (by decide) rfl rfl rfl hl.1 rfl (Nat.le_of_ble_eq_true rfl) dX9_use_2 ⟨(Nat.le_of_ble_eq_true rfl), (Nat.le_of_ble_eq_true rfl)⟩ (fun z9 ce9 q9 H locs hH hk9 hz9 h91 h92 h93 => ?_)
    exact x_out hxt hlocks hH hk9 hz9 h91 h92 h93 ⟨Nat.le_of_ble_eq_true rfl, Nat.le_of_ble_eq_true rfl⟩
  refine r_xVok (As := [.int p2]) (S' := S3) (v := (some (.ref a4))) (st1 := [.ref a4]) ⟨hx, hb, hml, hown, hts⟩ (c_X9_ruleAt l hst9 D S a0 p2 (.inl (S3, a4)) e2) (cwV 1 hts (gwV gw_24_9 gw_24_10 gw_24_11 gw_14_5 gw_24_6) rfl rfl rfl (by decide +kernel) ⟨Nat.le_of_ble_eq_true rfl, Nat.le_of_ble_eq_true rfl⟩) hH hE hB hNE 12 ek1 (by decide) rfl rfl rfl hl.1 rfl (Nat.le_of_ble_eq_true rfl) dX9_use_2 ⟨(Nat.le_of_ble_eq_true rfl), (Nat.le_of_ble_eq_true rfl)⟩ rfl (fun H locs hH => ?_)
  refine W.widen (k := 1) (n := 6) (by omega) (by omega) ?_
  refine lv_pop hx hb dX9_use_5 rfl ?_
  refine lv_aload_n hx hb dX9_use_6 rfl (lv_at hl 0 rfl) ?_
  refine lv_iload_n hx hb dX9_use_7 rfl (lv_at hl 1 rfl) ?_
  obtain ⟨ek5, hf⟩ := oc hf
  rcases obx2 hf with ⟨x8_, e6, rfl⟩ | ⟨S7, a8, e6, hf⟩
  · refine r_xVex (As := [.int p1]) ⟨hx, hb, hml, hown, hts⟩ (c_X9_deskAt l hst9 D S3 a0 p1 (.inr x8_) e6) (cwV 1 hts (gwV gw_25_7 gw_25_8 gw_25_9 gw_14_5 gw_25_4) rfl rfl rfl (by decide +kernel) ⟨Nat.le_of_ble_eq_true rfl, Nat.le_of_ble_eq_true rfl⟩) hH hE hB hNE 12 ek5 (by decide) rfl rfl rfl hl.1 rfl (Nat.le_of_ble_eq_true rfl) dX9_use_8 ⟨(Nat.le_of_ble_eq_true rfl), (Nat.le_of_ble_eq_true rfl)⟩ (fun z9 ce9 q9 H locs hH hk9 hz9 h91 h92 h93 => ?_)
    exact x_out hxt hlocks hH hk9 hz9 h91 h92 h93 ⟨Nat.le_of_ble_eq_true rfl, Nat.le_of_ble_eq_true rfl⟩
  refine r_xVok (As := [.int p1]) (S' := S7) (v := (some (.ref a8))) (st1 := [.ref a8]) ⟨hx, hb, hml, hown, hts⟩ (c_X9_deskAt l hst9 D S3 a0 p1 (.inl (S7, a8)) e6) (cwV 1 hts (gwV gw_25_7 gw_25_8 gw_25_9 gw_14_5 gw_25_4) rfl rfl rfl (by decide +kernel) ⟨Nat.le_of_ble_eq_true rfl, Nat.le_of_ble_eq_true rfl⟩) hH hE hB hNE 12 ek5 (by decide) rfl rfl rfl hl.1 rfl (Nat.le_of_ble_eq_true rfl) dX9_use_8 ⟨(Nat.le_of_ble_eq_true rfl), (Nat.le_of_ble_eq_true rfl)⟩ rfl (fun H locs hH => ?_)
  refine W.widen (k := 2) (n := 12) (by omega) (by omega) ?_
  refine lv_astore (lv' := [(4, .ref a8), (0, .ref a0), (1, .int p1), (2, .int p2), (3, .int p3)]) hx hb dX9_use_11 hl (by decide) rfl (fun ls hl => ?_)
  refine lv_aload hx hb dX9_use_13 (lv_at hl 0 rfl) ?_
  refine lv_iload_n hx hb dX9_use_15 rfl (lv_at hl 3 rfl) ?_
  obtain ⟨ek9, hf⟩ := oc hf
  obtain ⟨r10, e11, hf⟩ := ob hf
  refine r_callVi (As := [.int p2]) ⟨hx, hb, hml, hown, hts⟩ (c_X1_uses l D S7 a8 p2 r10 e11) (cwV 1 hts (gwV gw_25_10 gw_25_11 gw_25_12 gw_9_20 gw_9_5) rfl rfl rfl (by decide +kernel) ⟨Nat.le_of_ble_eq_true rfl, Nat.le_of_ble_eq_true rfl⟩) hH hNE 4 ek9 (by decide) rfl rfl rfl hl.1 rfl (Nat.le_of_ble_eq_true rfl) dX9_use_16 ⟨(Nat.le_of_ble_eq_true rfl), (Nat.le_of_ble_eq_true rfl)⟩ (fun H locs hH => ?_)
  refine lv_istore (lv' := [(5, .int r10), (4, .ref a8), (0, .ref a0), (1, .int p1), (2, .int p2), (3, .int p3)]) hx hb dX9_use_19 hl (by decide) rfl (fun ls hl => ?_)
  refine lv_aload hx hb dX9_use_21 (lv_at hl 1 rfl) ?_
  refine lv_iload_n hx hb dX9_use_23 rfl (lv_at hl 4 rfl) ?_
  refine lv_iload_n hx hb dX9_use_24 rfl (lv_at hl 5 rfl) ?_
  obtain ⟨r12, e13, hf⟩ := ob hf
  refine r_callVv (As := [.int p2, .int p3]) ⟨hx, hb, hml, hown, hts⟩ (c_X1_setUse l D S7 a8 p2 p3 r12 e13) (cwV 2 hts (gwV gw_25_13 gw_25_14 gw_25_15 gw_9_20 gw_9_6) rfl rfl rfl (by decide +kernel) ⟨Nat.le_of_ble_eq_true rfl, Nat.le_of_ble_eq_true rfl⟩) hH hNE 4 ek9 (by decide) rfl rfl rfl hl.1 rfl (Nat.le_of_ble_eq_true rfl) dX9_use_25 ⟨(Nat.le_of_ble_eq_true rfl), (Nat.le_of_ble_eq_true rfl)⟩ (fun H locs hH => ?_)
  refine lv_aload_n hx hb dX9_use_28 rfl (lv_at hl 2 rfl) ?_
  refine lv_iload_n hx hb dX9_use_29 rfl (lv_at hl 3 rfl) ?_
  obtain ⟨ek14, hf⟩ := oc hf
  obtain ⟨r15, e16, hf⟩ := ob hf
  refine r_callVv (As := [.int p1]) ⟨hx, hb, hml, hown, hts⟩ (c_X9_noteSettings l D r12 a0 p1 r15 e16) (cwV 1 hts (gwV gw_25_16 gw_25_17 gw_25_18 gw_14_5 gw_25_5) rfl rfl rfl (by decide +kernel) ⟨Nat.le_of_ble_eq_true rfl, Nat.le_of_ble_eq_true rfl⟩) hH hNE 12 ek14 (by decide) rfl rfl rfl hl.1 rfl (Nat.le_of_ble_eq_true rfl) dX9_use_30 ⟨(Nat.le_of_ble_eq_true rfl), (Nat.le_of_ble_eq_true rfl)⟩ (fun H locs hH => ?_)
  refine lv_iload hx hb dX9_use_33 (lv_at hl 0 rfl) ?_
  obtain ⟨en17, hf⟩ := oc hf
  have hr9 := Option.some.inj hf
  subst hr9
  exact x_z hx hb hr hlocks (nar_Z9 en17) hH dX9_use_35
set_option maxRecDepth 100000 in
def f_X0_rankAt (S : PS) (a0 : Nat) (b1 : Nat) (p2 : Int32) : Option (Int32) := lt (fun (u3 : Unit) => if p2 = (20 : Int32) then (some 1) else (some 5)) fun j1 => if p2 < 0 then (j1 ()) else (if kK S a0 = 4 then ((kQ S a0 0).bind fun a7 => if kK S a7 = 3 then ((f_Jx4a65c_size_8abf5 S a7).bind fun r10 => if r10 ≤ p2 then (j1 ()) else (if kK S b1 = 5 then ((kQ S b1 0).bind fun a14 => if kK S a14 = 9 then ((f_X5_get S a14 p2).bind fun r17 => if r17 = 0 then ((f_Jx4a65c_get_915e3 S a7 p2).bind fun r20 => if kK S r20 = 10 then (some (kI S r20 3)) else none) else (some r17)) else none) else none)) else none) else none)
abbrev rmX0_rankAt : Room := { frames := 3, cells := 0, slots := 0, locals := 64 }
set_option maxHeartbeats 4000000 in
set_option maxRecDepth 100000 in
theorem c_X0_rankAt (l : Launch) (D : va_G × Nat) (S : PS) (a0 : Nat) (b1 : Nat) (p2 : Int32) (r : Int32) (hf : f_X0_rankAt S a0 b1 p2 = some r) : MI l D yX0_rankAt wsX0_rankAt rmX0_rankAt S [.ref a0, .ref b1, .int p2] S r 0 0 := by
  unfold f_X0_rankAt at hf
  refine Met.ofW (cc := cX0_rankAt) (maxL := 4) (ret := (some .int)) (by decide) rfl ?_
  intro p e s m args below meth c s₁ B hml hv
  obtain ⟨rfl, hH0, hNE⟩ := hv
  have hx := B.exec
  have hb := B.bytes
  have hr := B.returns
  have hts := atoms_spec (ws := wsX0_rankAt) B.pre
  have hown : s.vm.findClass RX0 = some m.cls := findClass_of_methodNamed B.named
  have hlocks := B.notSynchronized
  have hH : HI D S S s s.heap [] := HI.start hH0
  have hl := lv_entry ([.ref a0, .ref b1, .int p2]) (n := 4) (Nat.le_of_ble_eq_true rfl)
  rw [lg_entry_eq]
  generalize (lg_sl ([.ref a0, .ref b1, .int p2]) ++ List.replicate (4 - (lg_sl ([.ref a0, .ref b1, .int p2])).length) Slot.unset).toArray = ls at hl ⊢
  have hl : lv_has ls 4 [(0, .ref a0), (1, .ref b1), (2, .int p2)] := hl
  refine lv_iload_n hx hb dX0_rankAt_0 rfl (lv_at hl 2 rfl) ?_
  obtain ⟨j1, e4, hf⟩ := ol hf
  have Jj1 : ∀ (u3 : Unit) (H : Heap) (locs : List Loc) (ls : Array Slot), HI D S S s H locs → lv_has ls 4 [(2, .int p2)] → j1 u3 = some r → GI p l e (headSpec wsX0_rankAt rmX0_rankAt).room s m ([.ref a0, .ref b1, .int p2] : List Value).toArray below meth c D S S r H locs 0 0 0 0 (F0 m 47 ls []) := by
    intro u3 H locs ls hH hl hf
    rw [← e4] at hf
    refine lv_iload_n hx hb dX0_rankAt_47 rfl (lv_at hl 0 rfl) ?_
    refine lv_bipush (v := 20) hx hb dX0_rankAt_48 (by decide) ?_
    refine lv_icmp_ne (tgt := 57) hx hb dX0_rankAt_50 (by decide) (fun c2 => ?_) (fun c2 => ?_)
    · have hf := iq hf c2
      refine lv_iconst (v := 5) hx hb dX0_rankAt_57 (by decide) ?_
      have hr9 := Option.some.inj hf
      subst hr9
      exact e_i hx hb hr hlocks hH dX0_rankAt_58
    · have hf := ip hf c2
      refine lv_iconst (v := 1) hx hb dX0_rankAt_53 (by decide) ?_
      refine lv_goto (tgt := 58) hx hb dX0_rankAt_54 (by decide) ?_
      have hr9 := Option.some.inj hf
      subst hr9
      exact e_i hx hb hr hlocks hH dX0_rankAt_58
  refine lv_if_lt (tgt := 47) hx hb dX0_rankAt_1 (by decide) (fun c5 => ?_) (fun c5 => ?_)
  · have hf := ip hf c5
    exact Jj1 () _ _ ls hH (lv_sub hl [2] rfl) hf
  · have hf := iq hf c5
    refine lv_iload_n hx hb dX0_rankAt_4 rfl (lv_at hl 2 rfl) ?_
    refine lv_aload_n hx hb dX0_rankAt_5 rfl (lv_at hl 0 rfl) ?_
    obtain ⟨ek6, hf⟩ := oc hf
    obtain ⟨a7, e8, hf⟩ := ob hf
    refine r_getQ hx hb 3 hts (fun w h => List.mem_cons_of_mem _ (mwsX00 w h)) hown hH ek6 (by decide) rfl 0 (by decide) rfl (hts (.fieldLink RX0 12 "Housestyle$Book" "rules" "Ljava/util/ArrayList;") (List.mem_cons_of_mem _ gw_1_1)) (fun _ h9 => h9) dX0_rankAt_6 e8 ?_
    obtain ⟨ek9, hf⟩ := oc hf
    obtain ⟨r10, e11, hf⟩ := ob hf
    refine r_callVi (As := []) ⟨hx, hb, hml, hown, hts⟩ (c_Jx4a65c_size_8abf5 l D S a7 r10 e11) (cwV 0 hts (gwV gw_6_12 gw_4_10 gw_4_11 gw_1_0 gw_1_18) rfl rfl rfl (by decide +kernel) ⟨Nat.le_of_ble_eq_true rfl, Nat.le_of_ble_eq_true rfl⟩) hH hNE 2 ek9 (by decide) rfl rfl rfl hl.1 rfl (Nat.le_of_ble_eq_true rfl) dX0_rankAt_9 ⟨(Nat.le_of_ble_eq_true rfl), (Nat.le_of_ble_eq_true rfl)⟩ (fun H locs hH => ?_)
    refine lv_icmp_ge (tgt := 47) hx hb dX0_rankAt_12 (by decide) (fun c12 => ?_) (fun c12 => ?_)
    · have hf := ip hf c12
      exact Jj1 () _ _ ls hH (lv_sub hl [2] rfl) hf
    · have hf := iq hf c12
      refine lv_aload_n hx hb dX0_rankAt_15 rfl (lv_at hl 1 rfl) ?_
      obtain ⟨ek13, hf⟩ := oc hf
      obtain ⟨a14, e15, hf⟩ := ob hf
      refine r_getQN hx hb 4 hts (fun w h => List.mem_cons_of_mem _ (mwsX10 w h)) hown hH ek13 (by decide) rfl 0 (by decide) rfl (nf_16 hNE) (fun _ h9 => h9) dX0_rankAt_16 e15 ?_
      refine lv_iload_n hx hb dX0_rankAt_19 rfl (lv_at hl 2 rfl) ?_
      obtain ⟨ek16, hf⟩ := oc hf
      obtain ⟨r17, e18, hf⟩ := ob hf
      refine r_callVi (As := [.int p2]) ⟨hx, hb, hml, hown, hts⟩ (c_X5_get l D S a14 p2 r17 e18) (cwV 1 hts (gwV gw_5_18 gw_2_13 gw_2_14 gw_1_5 gw_2_9) rfl rfl rfl (by decide +kernel) ⟨Nat.le_of_ble_eq_true rfl, Nat.le_of_ble_eq_true rfl⟩) hH hNE 8 ek16 (by decide) rfl rfl rfl hl.1 rfl (Nat.le_of_ble_eq_true rfl) dX0_rankAt_20 ⟨(Nat.le_of_ble_eq_true rfl), (Nat.le_of_ble_eq_true rfl)⟩ (fun H locs hH => ?_)
      refine lv_istore_n (lv' := [(3, .int r17), (0, .ref a0), (1, .ref b1), (2, .int p2)]) hx hb dX0_rankAt_23 rfl hl (by decide) rfl (fun ls hl => ?_)
      refine lv_iload_n hx hb dX0_rankAt_24 rfl (lv_at hl 0 rfl) ?_
      refine lv_if_ne (tgt := 45) hx hb dX0_rankAt_25 (by decide) (fun c19 => ?_) (fun c19 => ?_)
      · have hf := iq hf c19
        refine lv_iload_n hx hb dX0_rankAt_45 rfl (lv_at hl 0 rfl) ?_
        have hr9 := Option.some.inj hf
        subst hr9
        exact e_i hx hb hr hlocks hH dX0_rankAt_46
      · have hf := ip hf c19
        refine lv_aload_n hx hb dX0_rankAt_28 rfl (lv_at hl 1 rfl) ?_
        refine r_getQ hx hb 3 hts (fun w h => List.mem_cons_of_mem _ (mwsX00 w h)) hown hH ek6 (by decide) rfl 0 (by decide) rfl (hts (.fieldLink RX0 12 "Housestyle$Book" "rules" "Ljava/util/ArrayList;") (List.mem_cons_of_mem _ gw_1_1)) (fun _ h9 => h9) dX0_rankAt_29 e8 ?_
        refine lv_iload_n hx hb dX0_rankAt_32 rfl (lv_at hl 3 rfl) ?_
        obtain ⟨r20, e21, hf⟩ := ob hf
        refine r_callVr (As := [.int p2]) ⟨hx, hb, hml, hown, hts⟩ (c_Jx4a65c_get_915e3 l D S a7 p2 r20 e21) (cwV 1 hts (gwV gw_6_13 gw_4_13 gw_4_14 gw_1_0 gw_2_2) rfl rfl rfl (by decide +kernel) ⟨Nat.le_of_ble_eq_true rfl, Nat.le_of_ble_eq_true rfl⟩) hH hNE 2 ek9 (by decide) rfl rfl rfl hl.1 rfl (Nat.le_of_ble_eq_true rfl) dX0_rankAt_33 ⟨(Nat.le_of_ble_eq_true rfl), (Nat.le_of_ble_eq_true rfl)⟩ (fun H locs hH => ?_)
        obtain ⟨ek22, hf⟩ := oc hf
        refine r_castS 9 hx hb hown (hts (.classLink RX0 46 "Housestyle$Rule") (List.mem_cons_of_mem _ gw_6_7)) hH ek22 (by decide) rfl rfl dX0_rankAt_36 ?_
        refine r_getIN hx hb 9 hts (fun w h => List.mem_cons_of_mem _ (mwsX60 w h)) hown hH ek22 (by decide) rfl 3 (by decide) rfl (nf_17 hNE) (fun _ h9 => h9) dX0_rankAt_39 ?_
        refine lv_goto (tgt := 46) hx hb dX0_rankAt_42 (by decide) ?_
        have hr9 := Option.some.inj hf
        subst hr9
        exact e_i hx hb hr hlocks hH dX0_rankAt_46
set_option maxRecDepth 100000 in
def f_X9_rank (S : PS) (a0 : Nat) (p1 : Int32) (p2 : Int32) (p3 : Int32) : Option ((PS × Int32) ⊕ (PS × Nat)) := if kK S a0 = 13 then (bx2 (f_X9_ruleAt S a0 p2) fun S3 a4 => if kK S3 a0 = 13 then (bx2 (f_X9_deskAt S3 a0 p1) fun S7 a8 => lt (fun (u10 : Unit) => some (.inr (S7, 1))) fun j9 => if p3 < 0 then (j9 ()) else (if p3 ≤ (9 : Int32) then (if kK S7 a0 = 13 then ((kQ S7 a0 3).bind fun a15 => if kK S7 a15 = 4 then ((f_X0_rankAt S7 a15 a8 p2).bind fun r18 => if kK S7 a8 = 5 then ((kQ S7 a8 0).bind fun a21 => if kK S7 a21 = 9 then ((f_X5_set S7 a21 p2 p3).bind fun r24 => if kK r24 a0 = 13 then ((f_X9_noteSettings r24 a0 p1).bind fun r27 => some (.inl (r27, r18))) else none) else none) else none) else none) else none) else (j9 ()))) else none) else none
abbrev rmX9_rank : Room := { frames := 7, cells := 3, slots := 18, locals := 111 }
set_option maxHeartbeats 4000000 in
set_option maxRecDepth 100000 in
theorem c_X9_rank (l : Launch) (hst9 : l.stackTraces = false) (D : va_G × Nat) (S : PS) (a0 : Nat) (p1 : Int32) (p2 : Int32) (p3 : Int32) (r : (PS × Int32) ⊕ (PS × Nat)) (hf : f_X9_rank S a0 p1 p2 p3 = some r) : XM l D yX9_rank wsX9_rank rmX9_rank S [.ref a0, .int p1, .int p2, .int p3] (mI r) 3 18 := by
  unfold f_X9_rank at hf
  refine vx_ofW (cc := cX9_rank) (maxL := 6) (ret := (some .int)) (by decide) rfl ?_
  intro p e s m args below meth c s₁ B hml hxt hv
  obtain ⟨rfl, hH0, hE, hNE⟩ := hv
  have hB := hH0.base
  have hx := B.exec
  have hb := B.bytes
  have hr := B.returns
  have hts := atoms_spec (ws := wsX9_rank) B.pre
  have hown : s.vm.findClass RX9 = some m.cls := findClass_of_methodNamed B.named
  have hlocks := B.notSynchronized
  have hH : HI D S S s s.heap [] := HI.start hH0
  have hl := lv_entry ([.ref a0, .int p1, .int p2, .int p3]) (n := 6) (Nat.le_of_ble_eq_true rfl)
  rw [lg_entry_eq]
  generalize (lg_sl ([.ref a0, .int p1, .int p2, .int p3]) ++ List.replicate (6 - (lg_sl ([.ref a0, .int p1, .int p2, .int p3])).length) Slot.unset).toArray = ls at hl ⊢
  have hl : lv_has ls 6 [(0, .ref a0), (1, .int p1), (2, .int p2), (3, .int p3)] := hl
  refine lv_aload_n hx hb dX9_rank_0 rfl (lv_at hl 0 rfl) ?_
  refine lv_iload_n hx hb dX9_rank_1 rfl (lv_at hl 2 rfl) ?_
  obtain ⟨ek1, hf⟩ := oc hf
  rcases obx2 hf with ⟨x4_, e2, rfl⟩ | ⟨S3, a4, e2, hf⟩
  · refine r_xVex (As := [.int p2]) ⟨hx, hb, hml, hown, hts⟩ (c_X9_ruleAt l hst9 D S a0 p2 (.inr x4_) e2) (cwV 1 hts (gwV gw_24_9 gw_24_10 gw_24_11 gw_14_5 gw_24_6) rfl rfl rfl (by decide +kernel) ⟨Nat.le_of_ble_eq_true rfl, Nat.le_of_ble_eq_true rfl⟩) hH hE hB hNE 12 ek1 (by decide) rfl rfl rfl hl.1 rfl (Nat.le_of_ble_eq_true rfl) dX9_rank_2 ⟨(Nat.le_of_ble_eq_true rfl), (Nat.le_of_ble_eq_true rfl)⟩ (fun z9 ce9 q9 H locs hH hk9 hz9 h91 h92 h93 => ?_)
    exact x_out hxt hlocks hH hk9 hz9 h91 h92 h93 ⟨Nat.le_of_ble_eq_true rfl, Nat.le_of_ble_eq_true rfl⟩
  refine r_xVok (As := [.int p2]) (S' := S3) (v := (some (.ref a4))) (st1 := [.ref a4]) ⟨hx, hb, hml, hown, hts⟩ (c_X9_ruleAt l hst9 D S a0 p2 (.inl (S3, a4)) e2) (cwV 1 hts (gwV gw_24_9 gw_24_10 gw_24_11 gw_14_5 gw_24_6) rfl rfl rfl (by decide +kernel) ⟨Nat.le_of_ble_eq_true rfl, Nat.le_of_ble_eq_true rfl⟩) hH hE hB hNE 12 ek1 (by decide) rfl rfl rfl hl.1 rfl (Nat.le_of_ble_eq_true rfl) dX9_rank_2 ⟨(Nat.le_of_ble_eq_true rfl), (Nat.le_of_ble_eq_true rfl)⟩ rfl (fun H locs hH => ?_)
  refine W.widen (k := 1) (n := 6) (by omega) (by omega) ?_
  refine lv_pop hx hb dX9_rank_5 rfl ?_
  refine lv_aload_n hx hb dX9_rank_6 rfl (lv_at hl 0 rfl) ?_
  refine lv_iload_n hx hb dX9_rank_7 rfl (lv_at hl 1 rfl) ?_
  obtain ⟨ek5, hf⟩ := oc hf
  rcases obx2 hf with ⟨x8_, e6, rfl⟩ | ⟨S7, a8, e6, hf⟩
  · refine r_xVex (As := [.int p1]) ⟨hx, hb, hml, hown, hts⟩ (c_X9_deskAt l hst9 D S3 a0 p1 (.inr x8_) e6) (cwV 1 hts (gwV gw_25_7 gw_25_8 gw_25_9 gw_14_5 gw_25_4) rfl rfl rfl (by decide +kernel) ⟨Nat.le_of_ble_eq_true rfl, Nat.le_of_ble_eq_true rfl⟩) hH hE hB hNE 12 ek5 (by decide) rfl rfl rfl hl.1 rfl (Nat.le_of_ble_eq_true rfl) dX9_rank_8 ⟨(Nat.le_of_ble_eq_true rfl), (Nat.le_of_ble_eq_true rfl)⟩ (fun z9 ce9 q9 H locs hH hk9 hz9 h91 h92 h93 => ?_)
    exact x_out hxt hlocks hH hk9 hz9 h91 h92 h93 ⟨Nat.le_of_ble_eq_true rfl, Nat.le_of_ble_eq_true rfl⟩
  refine r_xVok (As := [.int p1]) (S' := S7) (v := (some (.ref a8))) (st1 := [.ref a8]) ⟨hx, hb, hml, hown, hts⟩ (c_X9_deskAt l hst9 D S3 a0 p1 (.inl (S7, a8)) e6) (cwV 1 hts (gwV gw_25_7 gw_25_8 gw_25_9 gw_14_5 gw_25_4) rfl rfl rfl (by decide +kernel) ⟨Nat.le_of_ble_eq_true rfl, Nat.le_of_ble_eq_true rfl⟩) hH hE hB hNE 12 ek5 (by decide) rfl rfl rfl hl.1 rfl (Nat.le_of_ble_eq_true rfl) dX9_rank_8 ⟨(Nat.le_of_ble_eq_true rfl), (Nat.le_of_ble_eq_true rfl)⟩ rfl (fun H locs hH => ?_)
  refine W.widen (k := 2) (n := 12) (by omega) (by omega) ?_
  refine lv_astore (lv' := [(4, .ref a8), (0, .ref a0), (1, .int p1), (2, .int p2), (3, .int p3)]) hx hb dX9_rank_11 hl (by decide) rfl (fun ls hl => ?_)
  refine lv_iload_n hx hb dX9_rank_13 rfl (lv_at hl 4 rfl) ?_
  obtain ⟨j9, e11, hf⟩ := ol hf
  have Jj9 : ∀ (u10 : Unit) (H : Heap) (locs : List Loc) (ls : Array Slot), HI D S S7 s H locs → lv_has ls 6 [] → j9 u10 = some r → GX p l e (headSpec wsX9_rank rmX9_rank).room s m ([.ref a0, .int p1, .int p2, .int p3] : List Value).toArray below meth c D S (mI r) H locs 2 12 3 18 (F0 m 23 ls []) := by
    intro u10 H locs ls hH hl hf
    rw [← e11] at hf
    cases hf
    exact r_throw (text := "no such rank") (cls := "java/lang/IllegalArgumentException") (names := ["java/lang/RuntimeException", "java/lang/Exception"]) 1 hx hb hst9 hown xf0 xn (hts (.classLink RX9 82 "java/lang/IllegalArgumentException") (List.mem_cons_of_mem _ gw_21_9)) (hts (.initialized "java/lang/IllegalArgumentException") (List.mem_cons_of_mem _ gw_21_10)) (List.mem_of_getElem? (i := 15) rfl) (xa0 hts hE) xg0 hE hB hH (hl.1.trans hml.symm) rfl dX9_rank_23 dX9_rank_26 dX9_rank_27 dX9_rank_29 dX9_rank_32 hxt (Nat.le_of_ble_eq_true rfl) (Nat.le_of_ble_eq_true rfl) (Nat.le_of_ble_eq_true rfl) (Nat.le_of_ble_eq_true rfl) hlocks ⟨Nat.le_of_ble_eq_true rfl, Nat.le_of_ble_eq_true rfl⟩
  refine lv_if_lt (tgt := 23) hx hb dX9_rank_14 (by decide) (fun c12 => ?_) (fun c12 => ?_)
  · have hf := ip hf c12
    exact Jj9 () _ _ ls hH (lv_sub hl [] rfl) hf
  · have hf := iq hf c12
    refine lv_iload_n hx hb dX9_rank_17 rfl (lv_at hl 4 rfl) ?_
    refine lv_bipush (v := 9) hx hb dX9_rank_18 (by decide) ?_
    refine lv_icmp_le (tgt := 33) hx hb dX9_rank_20 (by decide) (fun c13 => ?_) (fun c13 => ?_)
    · have hf := ip hf c13
      refine lv_aload_n hx hb dX9_rank_33 rfl (lv_at hl 1 rfl) ?_
      obtain ⟨ek14, hf⟩ := oc hf
      obtain ⟨a15, e16, hf⟩ := ob hf
      refine r_getQ hx hb 12 hts (fun w h => List.mem_cons_of_mem _ (mwsX90 w h)) hown hH ek14 (by decide) rfl 3 (by decide) rfl (hts (.fieldLink RX9 40 "Housestyle" "book" "LHousestyle$Book;") (List.mem_cons_of_mem _ gw_20_6)) (fun _ h9 => h9) dX9_rank_34 e16 ?_
      refine lv_aload hx hb dX9_rank_37 (lv_at hl 0 rfl) ?_
      refine lv_iload_n hx hb dX9_rank_39 rfl (lv_at hl 3 rfl) ?_
      obtain ⟨ek17, hf⟩ := oc hf
      obtain ⟨r18, e19, hf⟩ := ob hf
      refine r_callVi (As := [.ref a8, .int p2]) ⟨hx, hb, hml, hown, hts⟩ (c_X0_rankAt l D S7 a15 a8 p2 r18 e19) (cwV 2 hts (gwV gw_25_20 gw_7_8 gw_7_9 gw_6_5 gw_7_5) rfl rfl rfl (by decide +kernel) ⟨Nat.le_of_ble_eq_true rfl, Nat.le_of_ble_eq_true rfl⟩) hH hNE 3 ek17 (by decide) rfl rfl rfl hl.1 rfl (Nat.le_of_ble_eq_true rfl) dX9_rank_40 ⟨(Nat.le_of_ble_eq_true rfl), (Nat.le_of_ble_eq_true rfl)⟩ (fun H locs hH => ?_)
      refine lv_istore (lv' := [(5, .int r18), (4, .ref a8), (0, .ref a0), (1, .int p1), (2, .int p2), (3, .int p3)]) hx hb dX9_rank_43 hl (by decide) rfl (fun ls hl => ?_)
      refine lv_aload hx hb dX9_rank_45 (lv_at hl 1 rfl) ?_
      obtain ⟨ek20, hf⟩ := oc hf
      obtain ⟨a21, e22, hf⟩ := ob hf
      refine r_getQN hx hb 4 hts (fun w h => List.mem_cons_of_mem _ (mwsX10 w h)) hown hH ek20 (by decide) rfl 0 (by decide) rfl (nf_7 hNE) (fun _ h9 => h9) dX9_rank_47 e22 ?_
      refine lv_iload_n hx hb dX9_rank_50 rfl (lv_at hl 4 rfl) ?_
      refine lv_iload_n hx hb dX9_rank_51 rfl (lv_at hl 5 rfl) ?_
      obtain ⟨ek23, hf⟩ := oc hf
      obtain ⟨r24, e25, hf⟩ := ob hf
      refine r_callVv (As := [.int p2, .int p3]) ⟨hx, hb, hml, hown, hts⟩ (c_X5_set l D S7 a21 p2 p3 r24 e25) (cwV 2 hts (gwV gw_25_21 gw_5_20 gw_5_21 gw_1_5 gw_5_16) rfl rfl rfl (by decide +kernel) ⟨Nat.le_of_ble_eq_true rfl, Nat.le_of_ble_eq_true rfl⟩) hH hNE 8 ek23 (by decide) rfl rfl rfl hl.1 rfl (Nat.le_of_ble_eq_true rfl) dX9_rank_52 ⟨(Nat.le_of_ble_eq_true rfl), (Nat.le_of_ble_eq_true rfl)⟩ (fun H locs hH => ?_)
      refine lv_aload_n hx hb dX9_rank_55 rfl (lv_at hl 2 rfl) ?_
      refine lv_iload_n hx hb dX9_rank_56 rfl (lv_at hl 3 rfl) ?_
      obtain ⟨ek26, hf⟩ := oc hf
      obtain ⟨r27, e28, hf⟩ := ob hf
      refine r_callVv (As := [.int p1]) ⟨hx, hb, hml, hown, hts⟩ (c_X9_noteSettings l D r24 a0 p1 r27 e28) (cwV 1 hts (gwV gw_25_16 gw_25_17 gw_25_18 gw_14_5 gw_25_5) rfl rfl rfl (by decide +kernel) ⟨Nat.le_of_ble_eq_true rfl, Nat.le_of_ble_eq_true rfl⟩) hH hNE 12 ek26 (by decide) rfl rfl rfl hl.1 rfl (Nat.le_of_ble_eq_true rfl) dX9_rank_57 ⟨(Nat.le_of_ble_eq_true rfl), (Nat.le_of_ble_eq_true rfl)⟩ (fun H locs hH => ?_)
      refine lv_iload hx hb dX9_rank_60 (lv_at hl 0 rfl) ?_
      refine W.widen (k := 3) (n := 18) (by omega) (by omega) ?_
      have hr9 := Option.some.inj hf
      subst hr9
      exact x_i hx hb hr hlocks hH dX9_rank_62
    · have hf := iq hf c13
      exact Jj9 () _ _ ls hH (lv_sub hl [] rfl) hf
set_option maxRecDepth 100000 in
def f_X9_limit (S : PS) (a0 : Nat) (p1 : Int32) (p2 : Int32) : Option ((PS × Int32) ⊕ (PS × Nat)) := if kK S a0 = 13 then (bx2 (f_X9_deskAt S a0 p1) fun S3 a4 => lt (fun (u6 : Unit) => some (.inr (S3, 1))) fun j5 => if p2 < 0 then (j5 ()) else (if p2 ≤ (20 : Int32) then (if kK S3 a4 = 5 then (lt (kI S3 a4 4) fun x11 => lt (wI S3 a4 4 p2) fun S13 => if kK S13 a0 = 13 then ((f_X9_noteSettings S13 a0 p1).bind fun r16 => some (.inl (r16, x11))) else none) else none) else (j5 ()))) else none
abbrev rmX9_limit : Room := { frames := 7, cells := 2, slots := 12, locals := 111 }
set_option maxHeartbeats 4000000 in
set_option maxRecDepth 100000 in
theorem c_X9_limit (l : Launch) (hst9 : l.stackTraces = false) (D : va_G × Nat) (S : PS) (a0 : Nat) (p1 : Int32) (p2 : Int32) (r : (PS × Int32) ⊕ (PS × Nat)) (hf : f_X9_limit S a0 p1 p2 = some r) : XM l D yX9_limit wsX9_limit rmX9_limit S [.ref a0, .int p1, .int p2] (mI r) 2 12 := by
  unfold f_X9_limit at hf
  refine vx_ofW (cc := cX9_limit) (maxL := 5) (ret := (some .int)) (by decide) rfl ?_
  intro p e s m args below meth c s₁ B hml hxt hv
  obtain ⟨rfl, hH0, hE, hNE⟩ := hv
  have hB := hH0.base
  have hx := B.exec
  have hb := B.bytes
  have hr := B.returns
  have hts := atoms_spec (ws := wsX9_limit) B.pre
  have hown : s.vm.findClass RX9 = some m.cls := findClass_of_methodNamed B.named
  have hlocks := B.notSynchronized
  have hH : HI D S S s s.heap [] := HI.start hH0
  have hl := lv_entry ([.ref a0, .int p1, .int p2]) (n := 5) (Nat.le_of_ble_eq_true rfl)
  rw [lg_entry_eq]
  generalize (lg_sl ([.ref a0, .int p1, .int p2]) ++ List.replicate (5 - (lg_sl ([.ref a0, .int p1, .int p2])).length) Slot.unset).toArray = ls at hl ⊢
  have hl : lv_has ls 5 [(0, .ref a0), (1, .int p1), (2, .int p2)] := hl
  refine lv_aload_n hx hb dX9_limit_0 rfl (lv_at hl 0 rfl) ?_
  refine lv_iload_n hx hb dX9_limit_1 rfl (lv_at hl 1 rfl) ?_
  obtain ⟨ek1, hf⟩ := oc hf
  rcases obx2 hf with ⟨x4_, e2, rfl⟩ | ⟨S3, a4, e2, hf⟩
  · refine r_xVex (As := [.int p1]) ⟨hx, hb, hml, hown, hts⟩ (c_X9_deskAt l hst9 D S a0 p1 (.inr x4_) e2) (cwV 1 hts (gwV gw_25_7 gw_25_8 gw_25_9 gw_14_5 gw_25_4) rfl rfl rfl (by decide +kernel) ⟨Nat.le_of_ble_eq_true rfl, Nat.le_of_ble_eq_true rfl⟩) hH hE hB hNE 12 ek1 (by decide) rfl rfl rfl hl.1 rfl (Nat.le_of_ble_eq_true rfl) dX9_limit_2 ⟨(Nat.le_of_ble_eq_true rfl), (Nat.le_of_ble_eq_true rfl)⟩ (fun z9 ce9 q9 H locs hH hk9 hz9 h91 h92 h93 => ?_)
    exact x_out hxt hlocks hH hk9 hz9 h91 h92 h93 ⟨Nat.le_of_ble_eq_true rfl, Nat.le_of_ble_eq_true rfl⟩
  refine r_xVok (As := [.int p1]) (S' := S3) (v := (some (.ref a4))) (st1 := [.ref a4]) ⟨hx, hb, hml, hown, hts⟩ (c_X9_deskAt l hst9 D S a0 p1 (.inl (S3, a4)) e2) (cwV 1 hts (gwV gw_25_7 gw_25_8 gw_25_9 gw_14_5 gw_25_4) rfl rfl rfl (by decide +kernel) ⟨Nat.le_of_ble_eq_true rfl, Nat.le_of_ble_eq_true rfl⟩) hH hE hB hNE 12 ek1 (by decide) rfl rfl rfl hl.1 rfl (Nat.le_of_ble_eq_true rfl) dX9_limit_2 ⟨(Nat.le_of_ble_eq_true rfl), (Nat.le_of_ble_eq_true rfl)⟩ rfl (fun H locs hH => ?_)
  refine W.widen (k := 1) (n := 6) (by omega) (by omega) ?_
  refine lv_astore_n (lv' := [(3, .ref a4), (0, .ref a0), (1, .int p1), (2, .int p2)]) hx hb dX9_limit_5 rfl hl (by decide) rfl (fun ls hl => ?_)
  refine lv_iload_n hx hb dX9_limit_6 rfl (lv_at hl 3 rfl) ?_
  obtain ⟨j5, e7, hf⟩ := ol hf
  have Jj5 : ∀ (u6 : Unit) (H : Heap) (locs : List Loc) (ls : Array Slot), HI D S S3 s H locs → lv_has ls 5 [] → j5 u6 = some r → GX p l e (headSpec wsX9_limit rmX9_limit).room s m ([.ref a0, .int p1, .int p2] : List Value).toArray below meth c D S (mI r) H locs 1 6 2 12 (F0 m 16 ls []) := by
    intro u6 H locs ls hH hl hf
    rw [← e7] at hf
    cases hf
    exact r_throw (text := "no such limit") (cls := "java/lang/IllegalArgumentException") (names := ["java/lang/RuntimeException", "java/lang/Exception"]) 1 hx hb hst9 hown xf0 xn (hts (.classLink RX9 82 "java/lang/IllegalArgumentException") (List.mem_cons_of_mem _ gw_21_9)) (hts (.initialized "java/lang/IllegalArgumentException") (List.mem_cons_of_mem _ gw_21_10)) (List.mem_of_getElem? (i := 16) rfl) (xa0 hts hE) xg0 hE hB hH (hl.1.trans hml.symm) rfl dX9_limit_16 dX9_limit_19 dX9_limit_20 dX9_limit_22 dX9_limit_25 hxt (Nat.le_of_ble_eq_true rfl) (Nat.le_of_ble_eq_true rfl) (Nat.le_of_ble_eq_true rfl) (Nat.le_of_ble_eq_true rfl) hlocks ⟨Nat.le_of_ble_eq_true rfl, Nat.le_of_ble_eq_true rfl⟩
  refine lv_if_lt (tgt := 16) hx hb dX9_limit_7 (by decide) (fun c8 => ?_) (fun c8 => ?_)
  · have hf := ip hf c8
    exact Jj5 () _ _ ls hH (lv_sub hl [] rfl) hf
  · have hf := iq hf c8
    refine lv_iload_n hx hb dX9_limit_10 rfl (lv_at hl 3 rfl) ?_
    refine lv_bipush (v := 20) hx hb dX9_limit_11 (by decide) ?_
    refine lv_icmp_le (tgt := 26) hx hb dX9_limit_13 (by decide) (fun c9 => ?_) (fun c9 => ?_)
    · have hf := ip hf c9
      refine lv_aload_n hx hb dX9_limit_26 rfl (lv_at hl 0 rfl) ?_
      obtain ⟨ek10, hf⟩ := oc hf
      refine r_getIN hx hb 4 hts (fun w h => List.mem_cons_of_mem _ (mwsX10 w h)) hown hH ek10 (by decide) rfl 4 (by decide) rfl (nf_8 hNE) (fun _ h9 => h9) dX9_limit_27 ?_
      obtain ⟨x11, e12, hf⟩ := ol hf
      refine lv_topE e12 ?_
      refine lv_istore (lv' := [(4, .int x11), (3, .ref a4), (0, .ref a0), (1, .int p1), (2, .int p2)]) hx hb dX9_limit_30 hl (by decide) rfl (fun ls hl => ?_)
      refine lv_aload_n hx hb dX9_limit_32 rfl (lv_at hl 1 rfl) ?_
      refine lv_iload_n hx hb dX9_limit_33 rfl (lv_at hl 4 rfl) ?_
      refine r_putIN hx hb 4 hts (fun w h => List.mem_cons_of_mem _ (mwsX10 w h)) tyX1 tyX1_ok nmX1 hown hH ek10 (by decide) rfl 4 (by decide) rfl (nf_8 hNE) (fun _ h9 => h9) rfl (ty := .int) (by decide +kernel) rfl rfl dX9_limit_34 (fun H locs hH => ?_)
      obtain ⟨S13, e14, hf⟩ := ol hf
      rw [e14] at hH
      refine lv_aload_n hx hb dX9_limit_37 rfl (lv_at hl 2 rfl) ?_
      refine lv_iload_n hx hb dX9_limit_38 rfl (lv_at hl 3 rfl) ?_
      obtain ⟨ek15, hf⟩ := oc hf
      obtain ⟨r16, e17, hf⟩ := ob hf
      refine r_callVv (As := [.int p1]) ⟨hx, hb, hml, hown, hts⟩ (c_X9_noteSettings l D S13 a0 p1 r16 e17) (cwV 1 hts (gwV gw_25_16 gw_25_17 gw_25_18 gw_14_5 gw_25_5) rfl rfl rfl (by decide +kernel) ⟨Nat.le_of_ble_eq_true rfl, Nat.le_of_ble_eq_true rfl⟩) hH hNE 12 ek15 (by decide) rfl rfl rfl hl.1 rfl (Nat.le_of_ble_eq_true rfl) dX9_limit_39 ⟨(Nat.le_of_ble_eq_true rfl), (Nat.le_of_ble_eq_true rfl)⟩ (fun H locs hH => ?_)
      refine lv_iload hx hb dX9_limit_42 (lv_at hl 0 rfl) ?_
      refine W.widen (k := 2) (n := 12) (by omega) (by omega) ?_
      have hr9 := Option.some.inj hf
      subst hr9
      exact x_i hx hb hr hlocks hH dX9_limit_44
    · have hf := iq hf c9
      exact Jj5 () _ _ ls hH (lv_sub hl [] rfl) hf
set_option maxRecDepth 100000 in
def f_X8_clear (S : PS) (a0 : Nat) : Option (PS) := if kK S a0 = 12 then ((kQ S a0 1).bind fun a2 => if kK S a2 = 9 then ((f_X5_clear S a2).bind fun r5 => if kK r5 a0 = 12 then ((kQ r5 a0 2).bind fun a8 => if kK r5 a8 = 9 then ((f_X5_clear r5 a8).bind fun r11 => if kK r11 a0 = 12 then ((kQ r11 a0 3).bind fun a14 => if kK r11 a14 = 9 then ((f_X5_clear r11 a14).bind fun r17 => if kK r17 a0 = 12 then ((kQ r17 a0 4).bind fun a20 => if kK r17 a20 = 9 then ((f_X5_clear r17 a20).bind fun r23 => if kK r23 a0 = 12 then ((kQ r23 a0 5).bind fun a26 => if kK r23 a26 = 9 then ((f_X5_clear r23 a26).bind fun r29 => if kK r29 a0 = 12 then ((kQ r29 a0 6).bind fun a32 => if kK r29 a32 = 9 then ((f_X5_clear r29 a32).bind fun r35 => if kK r35 a0 = 12 then ((kQ r35 a0 7).bind fun a38 => if kK r35 a38 = 9 then ((f_X5_clear r35 a38).bind fun r41 => some r41) else none) else none) else none) else none) else none) else none) else none) else none) else none) else none) else none) else none) else none) else none
abbrev rmX8_clear : Room := { frames := 1, cells := 0, slots := 0, locals := 20 }
set_option maxHeartbeats 4000000 in
set_option maxRecDepth 100000 in
theorem c_X8_clear (l : Launch) (D : va_G × Nat) (S : PS) (a0 : Nat) (r : PS) (hf : f_X8_clear S a0 = some r) : MV l D yX8_clear wsX8_clear rmX8_clear S [.ref a0] r 0 0 := by
  unfold f_X8_clear at hf
  refine Met.ofW (cc := cX8_clear) (maxL := 1) (ret := none) (by decide) rfl ?_
  intro p e s m args below meth c s₁ B hml hv
  obtain ⟨rfl, hH0, hNE⟩ := hv
  have hx := B.exec
  have hb := B.bytes
  have hr := B.returns
  have hts := atoms_spec (ws := wsX8_clear) B.pre
  have hown : s.vm.findClass RX8 = some m.cls := findClass_of_methodNamed B.named
  have hlocks := B.notSynchronized
  have hH : HI D S S s s.heap [] := HI.start hH0
  have hl := lv_entry ([.ref a0]) (n := 1) (Nat.le_of_ble_eq_true rfl)
  rw [lg_entry_eq]
  generalize (lg_sl ([.ref a0]) ++ List.replicate (1 - (lg_sl ([.ref a0])).length) Slot.unset).toArray = ls at hl ⊢
  have hl : lv_has ls 1 [(0, .ref a0)] := hl
  refine lv_aload_n hx hb dX8_clear_0 rfl (lv_at hl 0 rfl) ?_
  obtain ⟨ek1, hf⟩ := oc hf
  obtain ⟨a2, e3, hf⟩ := ob hf
  refine r_getQ hx hb 11 hts (fun w h => List.mem_cons_of_mem _ (mwsX80 w h)) hown hH ek1 (by decide) rfl 1 (by decide) rfl (hts (.fieldLink RX8 20 "Housestyle$Tokens" "froms" "LHousestyle$Row;") (List.mem_cons_of_mem _ gw_1_13)) (fun _ h9 => h9) dX8_clear_1 e3 ?_
  obtain ⟨ek4, hf⟩ := oc hf
  obtain ⟨r5, e6, hf⟩ := ob hf
  refine r_callVv (As := []) ⟨hx, hb, hml, hown, hts⟩ (c_X5_clear l D S a2 r5 e6) (cwV 0 hts (gwV gw_18_16 gw_9_14 gw_9_15 gw_1_5 gw_9_11) rfl rfl rfl (by decide +kernel) ⟨Nat.le_of_ble_eq_true rfl, Nat.le_of_ble_eq_true rfl⟩) hH hNE 8 ek4 (by decide) rfl rfl rfl hl.1 rfl (Nat.le_of_ble_eq_true rfl) dX8_clear_4 ⟨(Nat.le_of_ble_eq_true rfl), (Nat.le_of_ble_eq_true rfl)⟩ (fun H locs hH => ?_)
  refine lv_aload_n hx hb dX8_clear_7 rfl (lv_at hl 0 rfl) ?_
  obtain ⟨ek7, hf⟩ := oc hf
  obtain ⟨a8, e9, hf⟩ := ob hf
  refine r_getQ hx hb 11 hts (fun w h => List.mem_cons_of_mem _ (mwsX80 w h)) hown hH ek7 (by decide) rfl 2 (by decide) rfl (hts (.fieldLink RX8 23 "Housestyle$Tokens" "ends" "LHousestyle$Row;") (List.mem_cons_of_mem _ gw_2_18)) (fun _ h9 => h9) dX8_clear_8 e9 ?_
  obtain ⟨ek10, hf⟩ := oc hf
  obtain ⟨r11, e12, hf⟩ := ob hf
  refine r_callVv (As := []) ⟨hx, hb, hml, hown, hts⟩ (c_X5_clear l D r5 a8 r11 e12) (cwV 0 hts (gwV gw_18_16 gw_9_14 gw_9_15 gw_1_5 gw_9_11) rfl rfl rfl (by decide +kernel) ⟨Nat.le_of_ble_eq_true rfl, Nat.le_of_ble_eq_true rfl⟩) hH hNE 8 ek10 (by decide) rfl rfl rfl hl.1 rfl (Nat.le_of_ble_eq_true rfl) dX8_clear_11 ⟨(Nat.le_of_ble_eq_true rfl), (Nat.le_of_ble_eq_true rfl)⟩ (fun H locs hH => ?_)
  refine lv_aload_n hx hb dX8_clear_14 rfl (lv_at hl 0 rfl) ?_
  obtain ⟨ek13, hf⟩ := oc hf
  obtain ⟨a14, e15, hf⟩ := ob hf
  refine r_getQ hx hb 11 hts (fun w h => List.mem_cons_of_mem _ (mwsX80 w h)) hown hH ek13 (by decide) rfl 3 (by decide) rfl (hts (.fieldLink RX8 26 "Housestyle$Tokens" "kinds" "LHousestyle$Row;") (List.mem_cons_of_mem _ gw_3_1)) (fun _ h9 => h9) dX8_clear_15 e15 ?_
  obtain ⟨ek16, hf⟩ := oc hf
  obtain ⟨r17, e18, hf⟩ := ob hf
  refine r_callVv (As := []) ⟨hx, hb, hml, hown, hts⟩ (c_X5_clear l D r11 a14 r17 e18) (cwV 0 hts (gwV gw_18_16 gw_9_14 gw_9_15 gw_1_5 gw_9_11) rfl rfl rfl (by decide +kernel) ⟨Nat.le_of_ble_eq_true rfl, Nat.le_of_ble_eq_true rfl⟩) hH hNE 8 ek16 (by decide) rfl rfl rfl hl.1 rfl (Nat.le_of_ble_eq_true rfl) dX8_clear_18 ⟨(Nat.le_of_ble_eq_true rfl), (Nat.le_of_ble_eq_true rfl)⟩ (fun H locs hH => ?_)
  refine lv_aload_n hx hb dX8_clear_21 rfl (lv_at hl 0 rfl) ?_
  obtain ⟨ek19, hf⟩ := oc hf
  obtain ⟨a20, e21, hf⟩ := ob hf
  refine r_getQ hx hb 11 hts (fun w h => List.mem_cons_of_mem _ (mwsX80 w h)) hown hH ek19 (by decide) rfl 4 (by decide) rfl (hts (.fieldLink RX8 29 "Housestyle$Tokens" "values" "LHousestyle$Row;") (List.mem_cons_of_mem _ gw_6_21)) (fun _ h9 => h9) dX8_clear_22 e21 ?_
  obtain ⟨ek22, hf⟩ := oc hf
  obtain ⟨r23, e24, hf⟩ := ob hf
  refine r_callVv (As := []) ⟨hx, hb, hml, hown, hts⟩ (c_X5_clear l D r17 a20 r23 e24) (cwV 0 hts (gwV gw_18_16 gw_9_14 gw_9_15 gw_1_5 gw_9_11) rfl rfl rfl (by decide +kernel) ⟨Nat.le_of_ble_eq_true rfl, Nat.le_of_ble_eq_true rfl⟩) hH hNE 8 ek22 (by decide) rfl rfl rfl hl.1 rfl (Nat.le_of_ble_eq_true rfl) dX8_clear_25 ⟨(Nat.le_of_ble_eq_true rfl), (Nat.le_of_ble_eq_true rfl)⟩ (fun H locs hH => ?_)
  refine lv_aload_n hx hb dX8_clear_28 rfl (lv_at hl 0 rfl) ?_
  obtain ⟨ek25, hf⟩ := oc hf
  obtain ⟨a26, e27, hf⟩ := ob hf
  refine r_getQ hx hb 11 hts (fun w h => List.mem_cons_of_mem _ (mwsX80 w h)) hown hH ek25 (by decide) rfl 5 (by decide) rfl (hts (.fieldLink RX8 32 "Housestyle$Tokens" "quoted" "LHousestyle$Row;") (List.mem_cons_of_mem _ gw_2_11)) (fun _ h9 => h9) dX8_clear_29 e27 ?_
  obtain ⟨ek28, hf⟩ := oc hf
  obtain ⟨r29, e30, hf⟩ := ob hf
  refine r_callVv (As := []) ⟨hx, hb, hml, hown, hts⟩ (c_X5_clear l D r23 a26 r29 e30) (cwV 0 hts (gwV gw_18_16 gw_9_14 gw_9_15 gw_1_5 gw_9_11) rfl rfl rfl (by decide +kernel) ⟨Nat.le_of_ble_eq_true rfl, Nat.le_of_ble_eq_true rfl⟩) hH hNE 8 ek28 (by decide) rfl rfl rfl hl.1 rfl (Nat.le_of_ble_eq_true rfl) dX8_clear_32 ⟨(Nat.le_of_ble_eq_true rfl), (Nat.le_of_ble_eq_true rfl)⟩ (fun H locs hH => ?_)
  refine lv_aload_n hx hb dX8_clear_35 rfl (lv_at hl 0 rfl) ?_
  obtain ⟨ek31, hf⟩ := oc hf
  obtain ⟨a32, e33, hf⟩ := ob hf
  refine r_getQ hx hb 11 hts (fun w h => List.mem_cons_of_mem _ (mwsX80 w h)) hown hH ek31 (by decide) rfl 6 (by decide) rfl (hts (.fieldLink RX8 35 "Housestyle$Tokens" "first" "LHousestyle$Row;") (List.mem_cons_of_mem _ gw_2_16)) (fun _ h9 => h9) dX8_clear_36 e33 ?_
  obtain ⟨ek34, hf⟩ := oc hf
  obtain ⟨r35, e36, hf⟩ := ob hf
  refine r_callVv (As := []) ⟨hx, hb, hml, hown, hts⟩ (c_X5_clear l D r29 a32 r35 e36) (cwV 0 hts (gwV gw_18_16 gw_9_14 gw_9_15 gw_1_5 gw_9_11) rfl rfl rfl (by decide +kernel) ⟨Nat.le_of_ble_eq_true rfl, Nat.le_of_ble_eq_true rfl⟩) hH hNE 8 ek34 (by decide) rfl rfl rfl hl.1 rfl (Nat.le_of_ble_eq_true rfl) dX8_clear_39 ⟨(Nat.le_of_ble_eq_true rfl), (Nat.le_of_ble_eq_true rfl)⟩ (fun H locs hH => ?_)
  refine lv_aload_n hx hb dX8_clear_42 rfl (lv_at hl 0 rfl) ?_
  obtain ⟨ek37, hf⟩ := oc hf
  obtain ⟨a38, e39, hf⟩ := ob hf
  refine r_getQ hx hb 11 hts (fun w h => List.mem_cons_of_mem _ (mwsX80 w h)) hown hH ek37 (by decide) rfl 7 (by decide) rfl (hts (.fieldLink RX8 38 "Housestyle$Tokens" "ahead" "LHousestyle$Row;") (List.mem_cons_of_mem _ gw_3_23)) (fun _ h9 => h9) dX8_clear_43 e39 ?_
  obtain ⟨ek40, hf⟩ := oc hf
  obtain ⟨r41, e42, hf⟩ := ob hf
  refine r_callVv (As := []) ⟨hx, hb, hml, hown, hts⟩ (c_X5_clear l D r35 a38 r41 e42) (cwV 0 hts (gwV gw_18_16 gw_9_14 gw_9_15 gw_1_5 gw_9_11) rfl rfl rfl (by decide +kernel) ⟨Nat.le_of_ble_eq_true rfl, Nat.le_of_ble_eq_true rfl⟩) hH hNE 8 ek40 (by decide) rfl rfl rfl hl.1 rfl (Nat.le_of_ble_eq_true rfl) dX8_clear_46 ⟨(Nat.le_of_ble_eq_true rfl), (Nat.le_of_ble_eq_true rfl)⟩ (fun H locs hH => ?_)
  have hr9 := Option.some.inj hf
  subst hr9
  exact e_v hx hb hr hlocks hH dX8_clear_49
set_option maxRecDepth 100000 in
def f_X8_beginParagraph (S : PS) (a0 : Nat) : Option (PS) := if kK S a0 = 12 then (lt (wI S a0 8 0) fun S2 => if kK S2 a0 = 12 then (lt (wI S2 a0 9 1) fun S5 => if kK S5 a0 = 12 then (lt (wI S5 a0 10 (-1)) fun S8 => some S8) else none) else none) else none
abbrev rmX8_beginParagraph : Room := { frames := 0, cells := 0, slots := 0, locals := 0 }
set_option maxHeartbeats 4000000 in
set_option maxRecDepth 100000 in
theorem c_X8_beginParagraph (l : Launch) (D : va_G × Nat) (S : PS) (a0 : Nat) (r : PS) (hf : f_X8_beginParagraph S a0 = some r) : MV l D yX8_beginParagraph wsX8_beginParagraph rmX8_beginParagraph S [.ref a0] r 0 0 := by
  unfold f_X8_beginParagraph at hf
  refine Met.ofW (cc := cX8_beginParagraph) (maxL := 1) (ret := none) (by decide) rfl ?_
  intro p e s m args below meth c s₁ B hml hv
  obtain ⟨rfl, hH0, hNE⟩ := hv
  have hx := B.exec
  have hb := B.bytes
  have hr := B.returns
  have hts := atoms_spec (ws := wsX8_beginParagraph) B.pre
  have hown : s.vm.findClass RX8 = some m.cls := findClass_of_methodNamed B.named
  have hlocks := B.notSynchronized
  have hH : HI D S S s s.heap [] := HI.start hH0
  have hl := lv_entry ([.ref a0]) (n := 1) (Nat.le_of_ble_eq_true rfl)
  rw [lg_entry_eq]
  generalize (lg_sl ([.ref a0]) ++ List.replicate (1 - (lg_sl ([.ref a0])).length) Slot.unset).toArray = ls at hl ⊢
  have hl : lv_has ls 1 [(0, .ref a0)] := hl
  refine lv_aload_n hx hb dX8_beginParagraph_0 rfl (lv_at hl 0 rfl) ?_
  refine lv_iconst (v := 0) hx hb dX8_beginParagraph_1 (by decide) ?_
  obtain ⟨ek1, hf⟩ := oc hf
  refine r_putI hx hb 11 hts (fun w h => List.mem_cons_of_mem _ (mwsX80 w h)) tyX8 tyX8_ok nmX8 hown hH ek1 (by decide) rfl 8 (by decide) rfl (hts (.fieldLink RX8 41 "Housestyle$Tokens" "isInQuote" "Z") (List.mem_cons_of_mem _ gw_18_11)) (fun _ h9 => h9) (Or.inl rfl) (ty := .boolean) (by decide +kernel) rfl rfl dX8_beginParagraph_2 (fun H locs hH => ?_)
  obtain ⟨S2, e3, hf⟩ := ol hf
  rw [e3] at hH
  refine lv_aload_n hx hb dX8_beginParagraph_5 rfl (lv_at hl 0 rfl) ?_
  refine lv_iconst (v := 1) hx hb dX8_beginParagraph_6 (by decide) ?_
  obtain ⟨ek4, hf⟩ := oc hf
  refine r_putI hx hb 11 hts (fun w h => List.mem_cons_of_mem _ (mwsX80 w h)) tyX8 tyX8_ok nmX8 hown hH ek4 (by decide) rfl 9 (by decide) rfl (hts (.fieldLink RX8 45 "Housestyle$Tokens" "isAtBegin" "Z") (List.mem_cons_of_mem _ gw_18_12)) (fun _ h9 => h9) (Or.inl rfl) (ty := .boolean) (by decide +kernel) rfl rfl dX8_beginParagraph_7 (fun H locs hH => ?_)
  obtain ⟨S5, e6, hf⟩ := ol hf
  rw [e6] at hH
  refine lv_aload_n hx hb dX8_beginParagraph_10 rfl (lv_at hl 0 rfl) ?_
  refine lv_iconst (v := (-1)) hx hb dX8_beginParagraph_11 (by decide) ?_
  obtain ⟨ek7, hf⟩ := oc hf
  refine r_putI hx hb 11 hts (fun w h => List.mem_cons_of_mem _ (mwsX80 w h)) tyX8 tyX8_ok nmX8 hown hH ek7 (by decide) rfl 10 (by decide) rfl (hts (.fieldLink RX8 48 "Housestyle$Tokens" "last" "I") (List.mem_cons_of_mem _ gw_18_13)) (fun _ h9 => h9) (Or.inl rfl) (ty := .int) (by decide +kernel) rfl rfl dX8_beginParagraph_12 (fun H locs hH => ?_)
  obtain ⟨S8, e9, hf⟩ := ol hf
  rw [e9] at hH
  have hr9 := Option.some.inj hf
  subst hr9
  exact e_v hx hb hr hlocks hH dX8_beginParagraph_15
set_option maxRecDepth 100000 in
def f_X8_kindOf (S : PS) (p0 : Int32) : Option (Int32) := (f_X9_isLetter S p0).bind fun r1 => if r1 = 0 then ((f_X9_isDigit S p0).bind fun r4 => if r4 = 0 then (some 0) else (some 2)) else (some 1)
abbrev rmX8_kindOf : Room := { frames := 1, cells := 0, slots := 0, locals := 20 }
set_option maxHeartbeats 4000000 in
set_option maxRecDepth 100000 in
theorem c_X8_kindOf (l : Launch) (D : va_G × Nat) (S : PS) (p0 : Int32) (r : Int32) (hf : f_X8_kindOf S p0 = some r) : MI l D yX8_kindOf wsX8_kindOf rmX8_kindOf S [.int p0] S r 0 0 := by
  unfold f_X8_kindOf at hf
  refine Met.ofW (cc := cX8_kindOf) (maxL := 1) (ret := (some .int)) (by decide) rfl ?_
  intro p e s m args below meth c s₁ B hml hv
  obtain ⟨rfl, hH0, hNE⟩ := hv
  have hx := B.exec
  have hb := B.bytes
  have hr := B.returns
  have hts := atoms_spec (ws := wsX8_kindOf) B.pre
  have hown : s.vm.findClass RX8 = some m.cls := findClass_of_methodNamed B.named
  have hlocks := B.notSynchronized
  have hH : HI D S S s s.heap [] := HI.start hH0
  have hl := lv_entry ([.int p0]) (n := 1) (Nat.le_of_ble_eq_true rfl)
  rw [lg_entry_eq]
  generalize (lg_sl ([.int p0]) ++ List.replicate (1 - (lg_sl ([.int p0])).length) Slot.unset).toArray = ls at hl ⊢
  have hl : lv_has ls 1 [(0, .int p0)] := hl
  refine lv_iload_n hx hb dX8_kindOf_0 rfl (lv_at hl 0 rfl) ?_
  obtain ⟨r1, e2, hf⟩ := ob hf
  refine r_callSiN (As := [.int p0]) ⟨hx, hb, hml, hown, hts⟩ (c_X9_isLetter l D S p0 r1 e2) ⟨va_cnB 1 hts (gwI (gwC gw_14_0)) rfl rfl rfl (nm_3 hNE) (hts (.initialized RX9) (List.mem_cons_of_mem _ gw_14_5)) (by decide +kernel) ⟨Nat.le_of_ble_eq_true rfl, Nat.le_of_ble_eq_true rfl⟩, (hts (.static yX9_isLetter) (List.mem_cons_of_mem _ gw_14_4)), trivial⟩ hH hNE rfl hl.1 rfl (Nat.le_of_ble_eq_true rfl) dX8_kindOf_1 ⟨(Nat.le_of_ble_eq_true rfl), (Nat.le_of_ble_eq_true rfl)⟩ (fun H locs hH => ?_)
  refine lv_if_eq (tgt := 9) hx hb dX8_kindOf_4 (by decide) (fun c3 => ?_) (fun c3 => ?_)
  · have hf := ip hf c3
    refine lv_iload_n hx hb dX8_kindOf_9 rfl (lv_at hl 0 rfl) ?_
    obtain ⟨r4, e5, hf⟩ := ob hf
    refine r_callSiN (As := [.int p0]) ⟨hx, hb, hml, hown, hts⟩ (c_X9_isDigit l D S p0 r4 e5) ⟨va_cnB 1 hts (gwI (gwC gw_17_5)) rfl rfl rfl (nm_4 hNE) (hts (.initialized RX9) (List.mem_cons_of_mem _ gw_14_5)) (by decide +kernel) ⟨Nat.le_of_ble_eq_true rfl, Nat.le_of_ble_eq_true rfl⟩, (hts (.static yX9_isDigit) (List.mem_cons_of_mem _ gw_17_7)), trivial⟩ hH hNE rfl hl.1 rfl (Nat.le_of_ble_eq_true rfl) dX8_kindOf_10 ⟨(Nat.le_of_ble_eq_true rfl), (Nat.le_of_ble_eq_true rfl)⟩ (fun H locs hH => ?_)
    refine lv_if_eq (tgt := 20) hx hb dX8_kindOf_13 (by decide) (fun c6 => ?_) (fun c6 => ?_)
    · have hf := ip hf c6
      refine lv_iconst (v := 0) hx hb dX8_kindOf_20 (by decide) ?_
      have hr9 := Option.some.inj hf
      subst hr9
      exact e_i hx hb hr hlocks hH dX8_kindOf_21
    · have hf := iq hf c6
      refine lv_iconst (v := 2) hx hb dX8_kindOf_16 (by decide) ?_
      refine lv_goto (tgt := 21) hx hb dX8_kindOf_17 (by decide) ?_
      have hr9 := Option.some.inj hf
      subst hr9
      exact e_i hx hb hr hlocks hH dX8_kindOf_21
  · have hf := iq hf c3
    refine lv_iconst (v := 1) hx hb dX8_kindOf_7 (by decide) ?_
    have hr9 := Option.some.inj hf
    subst hr9
    exact e_i hx hb hr hlocks hH dX8_kindOf_8
set_option maxRecDepth 100000 in
def f_X8_passSign (S : PS) (a0 : Nat) (p1 : Int32) : Option (PS) := if p1 = (47 : Int32) then (if kK S a0 = 12 then ((f_X8_beginParagraph S a0).bind fun r16 => some r16) else none) else (if p1 = (46 : Int32) then (if kK S a0 = 12 then (lt (wI S a0 9 1) fun S13 => some S13) else none) else (if p1 = (34 : Int32) then (if kK S a0 = 12 then (lt (fun (x5 : Int32) => if x5 = 0 ∨ x5 = 1 then (lt (wI S a0 8 x5) fun S8 => some S8) else none) fun j6 => if (kI S a0 8) = 0 then (j6 1) else (j6 0)) else none) else (some S)))
abbrev rmX8_passSign : Room := { frames := 1, cells := 0, slots := 0, locals := 20 }
set_option maxHeartbeats 4000000 in
set_option maxRecDepth 100000 in
theorem c_X8_passSign (l : Launch) (D : va_G × Nat) (S : PS) (a0 : Nat) (p1 : Int32) (r : PS) (hf : f_X8_passSign S a0 p1 = some r) : MV l D yX8_passSign wsX8_passSign rmX8_passSign S [.ref a0, .int p1] r 0 0 := by
  unfold f_X8_passSign at hf
  refine Met.ofW (cc := cX8_passSign) (maxL := 2) (ret := none) (by decide) rfl ?_
  intro p e s m args below meth c s₁ B hml hv
  obtain ⟨rfl, hH0, hNE⟩ := hv
  have hx := B.exec
  have hb := B.bytes
  have hr := B.returns
  have hts := atoms_spec (ws := wsX8_passSign) B.pre
  have hown : s.vm.findClass RX8 = some m.cls := findClass_of_methodNamed B.named
  have hlocks := B.notSynchronized
  have hH : HI D S S s s.heap [] := HI.start hH0
  have hl := lv_entry ([.ref a0, .int p1]) (n := 2) (Nat.le_of_ble_eq_true rfl)
  rw [lg_entry_eq]
  generalize (lg_sl ([.ref a0, .int p1]) ++ List.replicate (2 - (lg_sl ([.ref a0, .int p1])).length) Slot.unset).toArray = ls at hl ⊢
  have hl : lv_has ls 2 [(0, .ref a0), (1, .int p1)] := hl
  refine lv_iload_n hx hb dX8_passSign_0 rfl (lv_at hl 1 rfl) ?_
  refine lv_bipush (v := 47) hx hb dX8_passSign_1 (by decide) ?_
  refine lv_icmp_ne (tgt := 13) hx hb dX8_passSign_3 (by decide) (fun c1 => ?_) (fun c1 => ?_)
  · have hf := iq hf c1
    refine lv_iload_n hx hb dX8_passSign_13 rfl (lv_at hl 1 rfl) ?_
    refine lv_bipush (v := 46) hx hb dX8_passSign_14 (by decide) ?_
    refine lv_icmp_ne (tgt := 27) hx hb dX8_passSign_16 (by decide) (fun c2 => ?_) (fun c2 => ?_)
    · have hf := iq hf c2
      refine lv_iload_n hx hb dX8_passSign_27 rfl (lv_at hl 1 rfl) ?_
      refine lv_bipush (v := 34) hx hb dX8_passSign_28 (by decide) ?_
      refine lv_icmp_ne (tgt := 49) hx hb dX8_passSign_30 (by decide) (fun c3 => ?_) (fun c3 => ?_)
      · have hf := iq hf c3
        have hr9 := Option.some.inj hf
        subst hr9
        exact e_v hx hb hr hlocks hH dX8_passSign_49
      · have hf := ip hf c3
        refine lv_aload_n hx hb dX8_passSign_33 rfl (lv_at hl 0 rfl) ?_
        refine lv_aload_n hx hb dX8_passSign_34 rfl (lv_at hl 0 rfl) ?_
        obtain ⟨ek4, hf⟩ := oc hf
        refine r_getI hx hb 11 hts (fun w h => List.mem_cons_of_mem _ (mwsX80 w h)) hown hH ek4 (by decide) rfl 8 (by decide) rfl (hts (.fieldLink RX8 41 "Housestyle$Tokens" "isInQuote" "Z") (List.mem_cons_of_mem _ gw_18_11)) (fun _ h9 => h9) dX8_passSign_35 ?_
        obtain ⟨j6, e10, hf⟩ := ol hf
        have Jj6 : ∀ (x5 : Int32) (H : Heap) (locs : List Loc) (ls : Array Slot), HI D S S s H locs → lv_has ls 2 [] → j6 x5 = some r → GV p l e (headSpec wsX8_passSign rmX8_passSign).room s m ([.ref a0, .int p1] : List Value).toArray below meth c D S r H locs 0 0 0 0 (F0 m 46 ls [.int x5, .ref a0]) := by
          intro x5 H locs ls hH hl hf
          rw [← e10] at hf
          obtain ⟨en7, hf⟩ := oc hf
          refine r_putI hx hb 11 hts (fun w h => List.mem_cons_of_mem _ (mwsX80 w h)) tyX8 tyX8_ok nmX8 hown hH ek4 (by decide) rfl 8 (by decide) rfl (hts (.fieldLink RX8 41 "Housestyle$Tokens" "isInQuote" "Z") (List.mem_cons_of_mem _ gw_18_11)) (fun _ h9 => h9) (Or.inl rfl) (ty := .boolean) (by decide +kernel) (nar_Z9 en7) (fit_Z9 en7) dX8_passSign_46 (fun H locs hH => ?_)
          obtain ⟨S8, e9, hf⟩ := ol hf
          rw [e9] at hH
          have hr9 := Option.some.inj hf
          subst hr9
          exact e_v hx hb hr hlocks hH dX8_passSign_49
        refine lv_if_ne (tgt := 45) hx hb dX8_passSign_38 (by decide) (fun c11 => ?_) (fun c11 => ?_)
        · have hf := iq hf c11
          refine lv_iconst (v := 0) hx hb dX8_passSign_45 (by decide) ?_
          exact Jj6 0 _ _ ls hH (lv_sub hl [] rfl) hf
        · have hf := ip hf c11
          refine lv_iconst (v := 1) hx hb dX8_passSign_41 (by decide) ?_
          refine lv_goto (tgt := 46) hx hb dX8_passSign_42 (by decide) ?_
          exact Jj6 1 _ _ ls hH (lv_sub hl [] rfl) hf
    · have hf := ip hf c2
      refine lv_aload_n hx hb dX8_passSign_19 rfl (lv_at hl 0 rfl) ?_
      refine lv_iconst (v := 1) hx hb dX8_passSign_20 (by decide) ?_
      obtain ⟨ek12, hf⟩ := oc hf
      refine r_putI hx hb 11 hts (fun w h => List.mem_cons_of_mem _ (mwsX80 w h)) tyX8 tyX8_ok nmX8 hown hH ek12 (by decide) rfl 9 (by decide) rfl (hts (.fieldLink RX8 45 "Housestyle$Tokens" "isAtBegin" "Z") (List.mem_cons_of_mem _ gw_18_12)) (fun _ h9 => h9) (Or.inl rfl) (ty := .boolean) (by decide +kernel) rfl rfl dX8_passSign_21 (fun H locs hH => ?_)
      obtain ⟨S13, e14, hf⟩ := ol hf
      rw [e14] at hH
      refine lv_goto (tgt := 49) hx hb dX8_passSign_24 (by decide) ?_
      have hr9 := Option.some.inj hf
      subst hr9
      exact e_v hx hb hr hlocks hH dX8_passSign_49
  · have hf := ip hf c1
    refine lv_aload_n hx hb dX8_passSign_6 rfl (lv_at hl 0 rfl) ?_
    obtain ⟨ek15, hf⟩ := oc hf
    obtain ⟨r16, e17, hf⟩ := ob hf
    refine r_callVv (As := []) ⟨hx, hb, hml, hown, hts⟩ (c_X8_beginParagraph l D S a0 r16 e17) (cwV 0 hts (gwV gw_18_20 gw_18_21 gw_18_22 gw_2_23 gw_18_17) rfl rfl rfl (by decide +kernel) ⟨Nat.le_of_ble_eq_true rfl, Nat.le_of_ble_eq_true rfl⟩) hH hNE 11 ek15 (by decide) rfl rfl rfl hl.1 rfl (Nat.le_of_ble_eq_true rfl) dX8_passSign_7 ⟨(Nat.le_of_ble_eq_true rfl), (Nat.le_of_ble_eq_true rfl)⟩ (fun H locs hH => ?_)
    refine lv_goto (tgt := 49) hx hb dX8_passSign_10 (by decide) ?_
    have hr9 := Option.some.inj hf
    subst hr9
    exact e_v hx hb hr hlocks hH dX8_passSign_49
set_option maxRecDepth 100000 in
def f_X8_count (S : PS) (a0 : Nat) : Option (Int32) := if kK S a0 = 12 then ((kQ S a0 1).bind fun a2 => if kK S a2 = 9 then ((f_X5_count S a2).bind fun r5 => some r5) else none) else none
abbrev rmX8_count : Room := { frames := 1, cells := 0, slots := 0, locals := 20 }
set_option maxHeartbeats 4000000 in
set_option maxRecDepth 100000 in
theorem c_X8_count (l : Launch) (D : va_G × Nat) (S : PS) (a0 : Nat) (r : Int32) (hf : f_X8_count S a0 = some r) : MI l D yX8_count wsX8_count rmX8_count S [.ref a0] S r 0 0 := by
  unfold f_X8_count at hf
  refine Met.ofW (cc := cX8_count) (maxL := 1) (ret := (some .int)) (by decide) rfl ?_
  intro p e s m args below meth c s₁ B hml hv
  obtain ⟨rfl, hH0, hNE⟩ := hv
  have hx := B.exec
  have hb := B.bytes
  have hr := B.returns
  have hts := atoms_spec (ws := wsX8_count) B.pre
  have hown : s.vm.findClass RX8 = some m.cls := findClass_of_methodNamed B.named
  have hlocks := B.notSynchronized
  have hH : HI D S S s s.heap [] := HI.start hH0
  have hl := lv_entry ([.ref a0]) (n := 1) (Nat.le_of_ble_eq_true rfl)
  rw [lg_entry_eq]
  generalize (lg_sl ([.ref a0]) ++ List.replicate (1 - (lg_sl ([.ref a0])).length) Slot.unset).toArray = ls at hl ⊢
  have hl : lv_has ls 1 [(0, .ref a0)] := hl
  refine lv_aload_n hx hb dX8_count_0 rfl (lv_at hl 0 rfl) ?_
  obtain ⟨ek1, hf⟩ := oc hf
  obtain ⟨a2, e3, hf⟩ := ob hf
  refine r_getQ hx hb 11 hts (fun w h => List.mem_cons_of_mem _ (mwsX80 w h)) hown hH ek1 (by decide) rfl 1 (by decide) rfl (hts (.fieldLink RX8 20 "Housestyle$Tokens" "froms" "LHousestyle$Row;") (List.mem_cons_of_mem _ gw_1_13)) (fun _ h9 => h9) dX8_count_1 e3 ?_
  obtain ⟨ek4, hf⟩ := oc hf
  obtain ⟨r5, e6, hf⟩ := ob hf
  refine r_callVi (As := []) ⟨hx, hb, hml, hown, hts⟩ (c_X5_count l D S a2 r5 e6) (cwV 0 hts (gwV gw_1_14 gw_1_15 gw_1_16 gw_1_5 gw_1_11) rfl rfl rfl (by decide +kernel) ⟨Nat.le_of_ble_eq_true rfl, Nat.le_of_ble_eq_true rfl⟩) hH hNE 8 ek4 (by decide) rfl rfl rfl hl.1 rfl (Nat.le_of_ble_eq_true rfl) dX8_count_4 ⟨(Nat.le_of_ble_eq_true rfl), (Nat.le_of_ble_eq_true rfl)⟩ (fun H locs hH => ?_)
  have hr9 := Option.some.inj hf
  subst hr9
  exact e_i hx hb hr hlocks hH dX8_count_7
set_option maxRecDepth 100000 in
def f_X8_beginToken (S : PS) (a0 : Nat) (p1 : Int32) (p2 : Int32) : Option (PS) := if kK S a0 = 12 then ((kQ S a0 1).bind fun a2 => if kK S a2 = 9 then ((f_X5_add S a2 p1).bind fun r5 => if kK r5 a0 = 12 then ((kQ r5 a0 2).bind fun a8 => if kK r5 a8 = 9 then ((f_X5_add r5 a8 p1).bind fun r11 => if kK r11 a0 = 12 then ((kQ r11 a0 3).bind fun a14 => if kK r11 a14 = 9 then ((f_X5_add r11 a14 p2).bind fun r17 => if kK r17 a0 = 12 then ((kQ r17 a0 4).bind fun a20 => if kK r17 a20 = 9 then ((f_X5_add r17 a20 0).bind fun r23 => if kK r23 a0 = 12 then ((kQ r23 a0 5).bind fun a26 => lt (fun (x28 : Int32) => if kK r23 a26 = 9 then ((f_X5_add r23 a26 x28).bind fun r31 => if kK r31 a0 = 12 then ((kQ r31 a0 6).bind fun a34 => lt (fun (x36 : Int32) => if kK r31 a34 = 9 then ((f_X5_add r31 a34 x36).bind fun r39 => if kK r39 a0 = 12 then ((kQ r39 a0 7).bind fun a42 => if kK r39 a42 = 9 then ((f_X5_add r39 a42 (kI r39 a0 10)).bind fun r45 => if kK r45 a0 = 12 then (lt (wI r45 a0 9 0) fun S48 => if kK S48 a0 = 12 then ((f_X8_count S48 a0).bind fun r51 => lt (wI S48 a0 10 (r51 - 1)) fun S53 => some S53) else none) else none) else none) else none) else none) fun j37 => if (kI r31 a0 9) = 0 then (j37 0) else (j37 1)) else none) else none) fun j29 => if (kI r23 a0 8) = 0 then (j29 0) else (j29 1)) else none) else none) else none) else none) else none) else none) else none) else none) else none
abbrev rmX8_beginToken : Room := { frames := 2, cells := 0, slots := 0, locals := 40 }
set_option maxHeartbeats 4000000 in
set_option maxRecDepth 100000 in
theorem c_X8_beginToken (l : Launch) (D : va_G × Nat) (S : PS) (a0 : Nat) (p1 : Int32) (p2 : Int32) (r : PS) (hf : f_X8_beginToken S a0 p1 p2 = some r) : MV l D yX8_beginToken wsX8_beginToken rmX8_beginToken S [.ref a0, .int p1, .int p2] r 0 0 := by
  unfold f_X8_beginToken at hf
  refine Met.ofW (cc := cX8_beginToken) (maxL := 3) (ret := none) (by decide) rfl ?_
  intro p e s m args below meth c s₁ B hml hv
  obtain ⟨rfl, hH0, hNE⟩ := hv
  have hx := B.exec
  have hb := B.bytes
  have hr := B.returns
  have hts := atoms_spec (ws := wsX8_beginToken) B.pre
  have hown : s.vm.findClass RX8 = some m.cls := findClass_of_methodNamed B.named
  have hlocks := B.notSynchronized
  have hH : HI D S S s s.heap [] := HI.start hH0
  have hl := lv_entry ([.ref a0, .int p1, .int p2]) (n := 3) (Nat.le_of_ble_eq_true rfl)
  rw [lg_entry_eq]
  generalize (lg_sl ([.ref a0, .int p1, .int p2]) ++ List.replicate (3 - (lg_sl ([.ref a0, .int p1, .int p2])).length) Slot.unset).toArray = ls at hl ⊢
  have hl : lv_has ls 3 [(0, .ref a0), (1, .int p1), (2, .int p2)] := hl
  refine lv_aload_n hx hb dX8_beginToken_0 rfl (lv_at hl 0 rfl) ?_
  obtain ⟨ek1, hf⟩ := oc hf
  obtain ⟨a2, e3, hf⟩ := ob hf
  refine r_getQ hx hb 11 hts (fun w h => List.mem_cons_of_mem _ (mwsX80 w h)) hown hH ek1 (by decide) rfl 1 (by decide) rfl (hts (.fieldLink RX8 20 "Housestyle$Tokens" "froms" "LHousestyle$Row;") (List.mem_cons_of_mem _ gw_1_13)) (fun _ h9 => h9) dX8_beginToken_1 e3 ?_
  refine lv_iload_n hx hb dX8_beginToken_4 rfl (lv_at hl 1 rfl) ?_
  obtain ⟨ek4, hf⟩ := oc hf
  obtain ⟨r5, e6, hf⟩ := ob hf
  refine r_callVv (As := [.int p1]) ⟨hx, hb, hml, hown, hts⟩ (c_X5_add l D S a2 p1 r5 e6) (cwV 1 hts (gwV gw_7_13 gw_7_14 gw_7_15 gw_1_5 gw_7_11) rfl rfl rfl (by decide +kernel) ⟨Nat.le_of_ble_eq_true rfl, Nat.le_of_ble_eq_true rfl⟩) hH hNE 8 ek4 (by decide) rfl rfl rfl hl.1 rfl (Nat.le_of_ble_eq_true rfl) dX8_beginToken_5 ⟨(Nat.le_of_ble_eq_true rfl), (Nat.le_of_ble_eq_true rfl)⟩ (fun H locs hH => ?_)
  refine lv_aload_n hx hb dX8_beginToken_8 rfl (lv_at hl 0 rfl) ?_
  obtain ⟨ek7, hf⟩ := oc hf
  obtain ⟨a8, e9, hf⟩ := ob hf
  refine r_getQ hx hb 11 hts (fun w h => List.mem_cons_of_mem _ (mwsX80 w h)) hown hH ek7 (by decide) rfl 2 (by decide) rfl (hts (.fieldLink RX8 23 "Housestyle$Tokens" "ends" "LHousestyle$Row;") (List.mem_cons_of_mem _ gw_2_18)) (fun _ h9 => h9) dX8_beginToken_9 e9 ?_
  refine lv_iload_n hx hb dX8_beginToken_12 rfl (lv_at hl 1 rfl) ?_
  obtain ⟨ek10, hf⟩ := oc hf
  obtain ⟨r11, e12, hf⟩ := ob hf
  refine r_callVv (As := [.int p1]) ⟨hx, hb, hml, hown, hts⟩ (c_X5_add l D r5 a8 p1 r11 e12) (cwV 1 hts (gwV gw_7_13 gw_7_14 gw_7_15 gw_1_5 gw_7_11) rfl rfl rfl (by decide +kernel) ⟨Nat.le_of_ble_eq_true rfl, Nat.le_of_ble_eq_true rfl⟩) hH hNE 8 ek10 (by decide) rfl rfl rfl hl.1 rfl (Nat.le_of_ble_eq_true rfl) dX8_beginToken_13 ⟨(Nat.le_of_ble_eq_true rfl), (Nat.le_of_ble_eq_true rfl)⟩ (fun H locs hH => ?_)
  refine lv_aload_n hx hb dX8_beginToken_16 rfl (lv_at hl 0 rfl) ?_
  obtain ⟨ek13, hf⟩ := oc hf
  obtain ⟨a14, e15, hf⟩ := ob hf
  refine r_getQ hx hb 11 hts (fun w h => List.mem_cons_of_mem _ (mwsX80 w h)) hown hH ek13 (by decide) rfl 3 (by decide) rfl (hts (.fieldLink RX8 26 "Housestyle$Tokens" "kinds" "LHousestyle$Row;") (List.mem_cons_of_mem _ gw_3_1)) (fun _ h9 => h9) dX8_beginToken_17 e15 ?_
  refine lv_iload_n hx hb dX8_beginToken_20 rfl (lv_at hl 2 rfl) ?_
  obtain ⟨ek16, hf⟩ := oc hf
  obtain ⟨r17, e18, hf⟩ := ob hf
  refine r_callVv (As := [.int p2]) ⟨hx, hb, hml, hown, hts⟩ (c_X5_add l D r11 a14 p2 r17 e18) (cwV 1 hts (gwV gw_7_13 gw_7_14 gw_7_15 gw_1_5 gw_7_11) rfl rfl rfl (by decide +kernel) ⟨Nat.le_of_ble_eq_true rfl, Nat.le_of_ble_eq_true rfl⟩) hH hNE 8 ek16 (by decide) rfl rfl rfl hl.1 rfl (Nat.le_of_ble_eq_true rfl) dX8_beginToken_21 ⟨(Nat.le_of_ble_eq_true rfl), (Nat.le_of_ble_eq_true rfl)⟩ (fun H locs hH => ?_)
  refine lv_aload_n hx hb dX8_beginToken_24 rfl (lv_at hl 0 rfl) ?_
  obtain ⟨ek19, hf⟩ := oc hf
  obtain ⟨a20, e21, hf⟩ := ob hf
  refine r_getQ hx hb 11 hts (fun w h => List.mem_cons_of_mem _ (mwsX80 w h)) hown hH ek19 (by decide) rfl 4 (by decide) rfl (hts (.fieldLink RX8 29 "Housestyle$Tokens" "values" "LHousestyle$Row;") (List.mem_cons_of_mem _ gw_6_21)) (fun _ h9 => h9) dX8_beginToken_25 e21 ?_
  refine lv_iconst (v := 0) hx hb dX8_beginToken_28 (by decide) ?_
  obtain ⟨ek22, hf⟩ := oc hf
  obtain ⟨r23, e24, hf⟩ := ob hf
  refine r_callVv (As := [.int 0]) ⟨hx, hb, hml, hown, hts⟩ (c_X5_add l D r17 a20 0 r23 e24) (cwV 1 hts (gwV gw_7_13 gw_7_14 gw_7_15 gw_1_5 gw_7_11) rfl rfl rfl (by decide +kernel) ⟨Nat.le_of_ble_eq_true rfl, Nat.le_of_ble_eq_true rfl⟩) hH hNE 8 ek22 (by decide) rfl rfl rfl hl.1 rfl (Nat.le_of_ble_eq_true rfl) dX8_beginToken_29 ⟨(Nat.le_of_ble_eq_true rfl), (Nat.le_of_ble_eq_true rfl)⟩ (fun H locs hH => ?_)
  refine lv_aload_n hx hb dX8_beginToken_32 rfl (lv_at hl 0 rfl) ?_
  obtain ⟨ek25, hf⟩ := oc hf
  obtain ⟨a26, e27, hf⟩ := ob hf
  refine r_getQ hx hb 11 hts (fun w h => List.mem_cons_of_mem _ (mwsX80 w h)) hown hH ek25 (by decide) rfl 5 (by decide) rfl (hts (.fieldLink RX8 32 "Housestyle$Tokens" "quoted" "LHousestyle$Row;") (List.mem_cons_of_mem _ gw_2_11)) (fun _ h9 => h9) dX8_beginToken_33 e27 ?_
  refine lv_aload_n hx hb dX8_beginToken_36 rfl (lv_at hl 0 rfl) ?_
  refine r_getI hx hb 11 hts (fun w h => List.mem_cons_of_mem _ (mwsX80 w h)) hown hH ek25 (by decide) rfl 8 (by decide) rfl (hts (.fieldLink RX8 41 "Housestyle$Tokens" "isInQuote" "Z") (List.mem_cons_of_mem _ gw_18_11)) (fun _ h9 => h9) dX8_beginToken_37 ?_
  obtain ⟨j29, e57, hf⟩ := ol hf
  have Jj29 : ∀ (x28 : Int32) (H : Heap) (locs : List Loc) (ls : Array Slot), HI D S r23 s H locs → lv_has ls 3 [(0, .ref a0)] → j29 x28 = some r → GV p l e (headSpec wsX8_beginToken rmX8_beginToken).room s m ([.ref a0, .int p1, .int p2] : List Value).toArray below meth c D S r H locs 0 0 0 0 (F0 m 48 ls [.int x28, .ref a26]) := by
    intro x28 H locs ls hH hl hf
    rw [← e57] at hf
    obtain ⟨ek30, hf⟩ := oc hf
    obtain ⟨r31, e32, hf⟩ := ob hf
    refine r_callVv (As := [.int x28]) ⟨hx, hb, hml, hown, hts⟩ (c_X5_add l D r23 a26 x28 r31 e32) (cwV 1 hts (gwV gw_7_13 gw_7_14 gw_7_15 gw_1_5 gw_7_11) rfl rfl rfl (by decide +kernel) ⟨Nat.le_of_ble_eq_true rfl, Nat.le_of_ble_eq_true rfl⟩) hH hNE 8 ek30 (by decide) rfl rfl rfl hl.1 rfl (Nat.le_of_ble_eq_true rfl) dX8_beginToken_48 ⟨(Nat.le_of_ble_eq_true rfl), (Nat.le_of_ble_eq_true rfl)⟩ (fun H locs hH => ?_)
    refine lv_aload_n hx hb dX8_beginToken_51 rfl (lv_at hl 0 rfl) ?_
    obtain ⟨ek33, hf⟩ := oc hf
    obtain ⟨a34, e35, hf⟩ := ob hf
    refine r_getQ hx hb 11 hts (fun w h => List.mem_cons_of_mem _ (mwsX80 w h)) hown hH ek33 (by decide) rfl 6 (by decide) rfl (hts (.fieldLink RX8 35 "Housestyle$Tokens" "first" "LHousestyle$Row;") (List.mem_cons_of_mem _ gw_2_16)) (fun _ h9 => h9) dX8_beginToken_52 e35 ?_
    refine lv_aload_n hx hb dX8_beginToken_55 rfl (lv_at hl 0 rfl) ?_
    refine r_getI hx hb 11 hts (fun w h => List.mem_cons_of_mem _ (mwsX80 w h)) hown hH ek33 (by decide) rfl 9 (by decide) rfl (hts (.fieldLink RX8 45 "Housestyle$Tokens" "isAtBegin" "Z") (List.mem_cons_of_mem _ gw_18_12)) (fun _ h9 => h9) dX8_beginToken_56 ?_
    obtain ⟨j37, e55, hf⟩ := ol hf
    have Jj37 : ∀ (x36 : Int32) (H : Heap) (locs : List Loc) (ls : Array Slot), HI D S r31 s H locs → lv_has ls 3 [(0, .ref a0)] → j37 x36 = some r → GV p l e (headSpec wsX8_beginToken rmX8_beginToken).room s m ([.ref a0, .int p1, .int p2] : List Value).toArray below meth c D S r H locs 0 0 0 0 (F0 m 67 ls [.int x36, .ref a34]) := by
      intro x36 H locs ls hH hl hf
      rw [← e55] at hf
      obtain ⟨ek38, hf⟩ := oc hf
      obtain ⟨r39, e40, hf⟩ := ob hf
      refine r_callVv (As := [.int x36]) ⟨hx, hb, hml, hown, hts⟩ (c_X5_add l D r31 a34 x36 r39 e40) (cwV 1 hts (gwV gw_7_13 gw_7_14 gw_7_15 gw_1_5 gw_7_11) rfl rfl rfl (by decide +kernel) ⟨Nat.le_of_ble_eq_true rfl, Nat.le_of_ble_eq_true rfl⟩) hH hNE 8 ek38 (by decide) rfl rfl rfl hl.1 rfl (Nat.le_of_ble_eq_true rfl) dX8_beginToken_67 ⟨(Nat.le_of_ble_eq_true rfl), (Nat.le_of_ble_eq_true rfl)⟩ (fun H locs hH => ?_)
      refine lv_aload_n hx hb dX8_beginToken_70 rfl (lv_at hl 0 rfl) ?_
      obtain ⟨ek41, hf⟩ := oc hf
      obtain ⟨a42, e43, hf⟩ := ob hf
      refine r_getQ hx hb 11 hts (fun w h => List.mem_cons_of_mem _ (mwsX80 w h)) hown hH ek41 (by decide) rfl 7 (by decide) rfl (hts (.fieldLink RX8 38 "Housestyle$Tokens" "ahead" "LHousestyle$Row;") (List.mem_cons_of_mem _ gw_3_23)) (fun _ h9 => h9) dX8_beginToken_71 e43 ?_
      refine lv_aload_n hx hb dX8_beginToken_74 rfl (lv_at hl 0 rfl) ?_
      refine r_getI hx hb 11 hts (fun w h => List.mem_cons_of_mem _ (mwsX80 w h)) hown hH ek41 (by decide) rfl 10 (by decide) rfl (hts (.fieldLink RX8 48 "Housestyle$Tokens" "last" "I") (List.mem_cons_of_mem _ gw_18_13)) (fun _ h9 => h9) dX8_beginToken_75 ?_
      obtain ⟨ek44, hf⟩ := oc hf
      obtain ⟨r45, e46, hf⟩ := ob hf
      refine r_callVv (As := [.int (kI r39 a0 10)]) ⟨hx, hb, hml, hown, hts⟩ (c_X5_add l D r39 a42 (kI r39 a0 10) r45 e46) (cwV 1 hts (gwV gw_7_13 gw_7_14 gw_7_15 gw_1_5 gw_7_11) rfl rfl rfl (by decide +kernel) ⟨Nat.le_of_ble_eq_true rfl, Nat.le_of_ble_eq_true rfl⟩) hH hNE 8 ek44 (by decide) rfl rfl rfl hl.1 rfl (Nat.le_of_ble_eq_true rfl) dX8_beginToken_78 ⟨(Nat.le_of_ble_eq_true rfl), (Nat.le_of_ble_eq_true rfl)⟩ (fun H locs hH => ?_)
      refine lv_aload_n hx hb dX8_beginToken_81 rfl (lv_at hl 0 rfl) ?_
      refine lv_iconst (v := 0) hx hb dX8_beginToken_82 (by decide) ?_
      obtain ⟨ek47, hf⟩ := oc hf
      refine r_putI hx hb 11 hts (fun w h => List.mem_cons_of_mem _ (mwsX80 w h)) tyX8 tyX8_ok nmX8 hown hH ek47 (by decide) rfl 9 (by decide) rfl (hts (.fieldLink RX8 45 "Housestyle$Tokens" "isAtBegin" "Z") (List.mem_cons_of_mem _ gw_18_12)) (fun _ h9 => h9) (Or.inl rfl) (ty := .boolean) (by decide +kernel) rfl rfl dX8_beginToken_83 (fun H locs hH => ?_)
      obtain ⟨S48, e49, hf⟩ := ol hf
      rw [e49] at hH
      refine lv_aload_n hx hb dX8_beginToken_86 rfl (lv_at hl 0 rfl) ?_
      refine lv_aload_n hx hb dX8_beginToken_87 rfl (lv_at hl 0 rfl) ?_
      obtain ⟨ek50, hf⟩ := oc hf
      obtain ⟨r51, e52, hf⟩ := ob hf
      refine r_callVi (As := []) ⟨hx, hb, hml, hown, hts⟩ (c_X8_count l D S48 a0 r51 e52) (cwV 0 hts (gwV gw_2_20 gw_2_21 gw_2_22 gw_2_23 gw_1_12) rfl rfl rfl (by decide +kernel) ⟨Nat.le_of_ble_eq_true rfl, Nat.le_of_ble_eq_true rfl⟩) hH hNE 11 ek50 (by decide) rfl rfl rfl hl.1 rfl (Nat.le_of_ble_eq_true rfl) dX8_beginToken_88 ⟨(Nat.le_of_ble_eq_true rfl), (Nat.le_of_ble_eq_true rfl)⟩ (fun H locs hH => ?_)
      refine lv_iconst (v := 1) hx hb dX8_beginToken_91 (by decide) ?_
      refine lv_isub hx hb dX8_beginToken_92 ?_
      refine r_putI hx hb 11 hts (fun w h => List.mem_cons_of_mem _ (mwsX80 w h)) tyX8 tyX8_ok nmX8 hown hH ek50 (by decide) rfl 10 (by decide) rfl (hts (.fieldLink RX8 48 "Housestyle$Tokens" "last" "I") (List.mem_cons_of_mem _ gw_18_13)) (fun _ h9 => h9) (Or.inl rfl) (ty := .int) (by decide +kernel) rfl rfl dX8_beginToken_93 (fun H locs hH => ?_)
      obtain ⟨S53, e54, hf⟩ := ol hf
      rw [e54] at hH
      have hr9 := Option.some.inj hf
      subst hr9
      exact e_v hx hb hr hlocks hH dX8_beginToken_96
    refine lv_if_eq (tgt := 66) hx hb dX8_beginToken_59 (by decide) (fun c56 => ?_) (fun c56 => ?_)
    · have hf := ip hf c56
      refine lv_iconst (v := 0) hx hb dX8_beginToken_66 (by decide) ?_
      exact Jj37 0 _ _ ls hH (lv_sub hl [0] rfl) hf
    · have hf := iq hf c56
      refine lv_iconst (v := 1) hx hb dX8_beginToken_62 (by decide) ?_
      refine lv_goto (tgt := 67) hx hb dX8_beginToken_63 (by decide) ?_
      exact Jj37 1 _ _ ls hH (lv_sub hl [0] rfl) hf
  refine lv_if_eq (tgt := 47) hx hb dX8_beginToken_40 (by decide) (fun c58 => ?_) (fun c58 => ?_)
  · have hf := ip hf c58
    refine lv_iconst (v := 0) hx hb dX8_beginToken_47 (by decide) ?_
    exact Jj29 0 _ _ ls hH (lv_sub hl [0] rfl) hf
  · have hf := iq hf c58
    refine lv_iconst (v := 1) hx hb dX8_beginToken_43 (by decide) ?_
    refine lv_goto (tgt := 48) hx hb dX8_beginToken_44 (by decide) ?_
    exact Jj29 1 _ _ ls hH (lv_sub hl [0] rfl) hf
set_option maxRecDepth 100000 in
def f_X8_lengthen (S : PS) (a0 : Nat) (p1 : Int32) : Option (PS) := if kK S a0 = 12 then ((kQ S a0 2).bind fun a2 => if kK S a2 = 9 then ((f_X5_get S a2 (kI S a0 10)).bind fun r5 => (f_X5_set S a2 (kI S a0 10) (r5 + 1)).bind fun r7 => if kK r7 a0 = 12 then ((kQ r7 a0 4).bind fun a10 => if kK r7 a10 = 9 then ((f_X5_get r7 a10 (kI r7 a0 10)).bind fun r13 => lt ((r13 * 10) + (p1 - 48)) fun x15 => (f_X9_isDigit r7 p1).bind fun r17 => lt (fun (x19 : Int32) => (f_X5_set r7 a10 (kI r7 a0 10) x19).bind fun r21 => some r21) fun j20 => if r17 = 0 then (j20 0) else (j20 (if 100 < x15 then 100 else x15))) else none) else none) else none) else none
abbrev rmX8_lengthen : Room := { frames := 1, cells := 0, slots := 0, locals := 24 }
set_option maxHeartbeats 4000000 in
set_option maxRecDepth 100000 in
theorem c_X8_lengthen (l : Launch) (D : va_G × Nat) (S : PS) (a0 : Nat) (p1 : Int32) (r : PS) (hf : f_X8_lengthen S a0 p1 = some r) : MV l D yX8_lengthen wsX8_lengthen rmX8_lengthen S [.ref a0, .int p1] r 0 0 := by
  unfold f_X8_lengthen at hf
  refine Met.ofW (cc := cX8_lengthen) (maxL := 3) (ret := none) (by decide) rfl ?_
  intro p e s m args below meth c s₁ B hml hv
  obtain ⟨rfl, hH0, hNE⟩ := hv
  have hx := B.exec
  have hb := B.bytes
  have hr := B.returns
  have hts := atoms_spec (ws := wsX8_lengthen) B.pre
  have hown : s.vm.findClass RX8 = some m.cls := findClass_of_methodNamed B.named
  have hlocks := B.notSynchronized
  have hH : HI D S S s s.heap [] := HI.start hH0
  have hl := lv_entry ([.ref a0, .int p1]) (n := 3) (Nat.le_of_ble_eq_true rfl)
  rw [lg_entry_eq]
  generalize (lg_sl ([.ref a0, .int p1]) ++ List.replicate (3 - (lg_sl ([.ref a0, .int p1])).length) Slot.unset).toArray = ls at hl ⊢
  have hl : lv_has ls 3 [(0, .ref a0), (1, .int p1)] := hl
  refine lv_aload_n hx hb dX8_lengthen_0 rfl (lv_at hl 0 rfl) ?_
  obtain ⟨ek1, hf⟩ := oc hf
  obtain ⟨a2, e3, hf⟩ := ob hf
  refine r_getQ hx hb 11 hts (fun w h => List.mem_cons_of_mem _ (mwsX80 w h)) hown hH ek1 (by decide) rfl 2 (by decide) rfl (hts (.fieldLink RX8 23 "Housestyle$Tokens" "ends" "LHousestyle$Row;") (List.mem_cons_of_mem _ gw_2_18)) (fun _ h9 => h9) dX8_lengthen_1 e3 ?_
  refine lv_aload_n hx hb dX8_lengthen_4 rfl (lv_at hl 0 rfl) ?_
  refine r_getI hx hb 11 hts (fun w h => List.mem_cons_of_mem _ (mwsX80 w h)) hown hH ek1 (by decide) rfl 10 (by decide) rfl (hts (.fieldLink RX8 48 "Housestyle$Tokens" "last" "I") (List.mem_cons_of_mem _ gw_18_13)) (fun _ h9 => h9) dX8_lengthen_5 ?_
  refine lv_aload_n hx hb dX8_lengthen_8 rfl (lv_at hl 0 rfl) ?_
  refine r_getQ hx hb 11 hts (fun w h => List.mem_cons_of_mem _ (mwsX80 w h)) hown hH ek1 (by decide) rfl 2 (by decide) rfl (hts (.fieldLink RX8 23 "Housestyle$Tokens" "ends" "LHousestyle$Row;") (List.mem_cons_of_mem _ gw_2_18)) (fun _ h9 => h9) dX8_lengthen_9 e3 ?_
  refine lv_aload_n hx hb dX8_lengthen_12 rfl (lv_at hl 0 rfl) ?_
  refine r_getI hx hb 11 hts (fun w h => List.mem_cons_of_mem _ (mwsX80 w h)) hown hH ek1 (by decide) rfl 10 (by decide) rfl (hts (.fieldLink RX8 48 "Housestyle$Tokens" "last" "I") (List.mem_cons_of_mem _ gw_18_13)) (fun _ h9 => h9) dX8_lengthen_13 ?_
  obtain ⟨ek4, hf⟩ := oc hf
  obtain ⟨r5, e6, hf⟩ := ob hf
  refine r_callVi (As := [.int (kI S a0 10)]) ⟨hx, hb, hml, hown, hts⟩ (c_X5_get l D S a2 (kI S a0 10) r5 e6) (cwV 1 hts (gwV gw_2_12 gw_2_13 gw_2_14 gw_1_5 gw_2_9) rfl rfl rfl (by decide +kernel) ⟨Nat.le_of_ble_eq_true rfl, Nat.le_of_ble_eq_true rfl⟩) hH hNE 8 ek4 (by decide) rfl rfl rfl hl.1 rfl (Nat.le_of_ble_eq_true rfl) dX8_lengthen_16 ⟨(Nat.le_of_ble_eq_true rfl), (Nat.le_of_ble_eq_true rfl)⟩ (fun H locs hH => ?_)
  refine lv_iconst (v := 1) hx hb dX8_lengthen_19 (by decide) ?_
  refine lv_iadd hx hb dX8_lengthen_20 ?_
  obtain ⟨r7, e8, hf⟩ := ob hf
  refine r_callVv (As := [.int (kI S a0 10), .int (r5 + 1)]) ⟨hx, hb, hml, hown, hts⟩ (c_X5_set l D S a2 (kI S a0 10) (r5 + 1) r7 e8) (cwV 2 hts (gwV gw_19_2 gw_5_20 gw_5_21 gw_1_5 gw_5_16) rfl rfl rfl (by decide +kernel) ⟨Nat.le_of_ble_eq_true rfl, Nat.le_of_ble_eq_true rfl⟩) hH hNE 8 ek4 (by decide) rfl rfl rfl hl.1 rfl (Nat.le_of_ble_eq_true rfl) dX8_lengthen_21 ⟨(Nat.le_of_ble_eq_true rfl), (Nat.le_of_ble_eq_true rfl)⟩ (fun H locs hH => ?_)
  refine lv_aload_n hx hb dX8_lengthen_24 rfl (lv_at hl 0 rfl) ?_
  obtain ⟨ek9, hf⟩ := oc hf
  obtain ⟨a10, e11, hf⟩ := ob hf
  refine r_getQ hx hb 11 hts (fun w h => List.mem_cons_of_mem _ (mwsX80 w h)) hown hH ek9 (by decide) rfl 4 (by decide) rfl (hts (.fieldLink RX8 29 "Housestyle$Tokens" "values" "LHousestyle$Row;") (List.mem_cons_of_mem _ gw_6_21)) (fun _ h9 => h9) dX8_lengthen_25 e11 ?_
  refine lv_aload_n hx hb dX8_lengthen_28 rfl (lv_at hl 0 rfl) ?_
  refine r_getI hx hb 11 hts (fun w h => List.mem_cons_of_mem _ (mwsX80 w h)) hown hH ek9 (by decide) rfl 10 (by decide) rfl (hts (.fieldLink RX8 48 "Housestyle$Tokens" "last" "I") (List.mem_cons_of_mem _ gw_18_13)) (fun _ h9 => h9) dX8_lengthen_29 ?_
  obtain ⟨ek12, hf⟩ := oc hf
  obtain ⟨r13, e14, hf⟩ := ob hf
  refine r_callVi (As := [.int (kI r7 a0 10)]) ⟨hx, hb, hml, hown, hts⟩ (c_X5_get l D r7 a10 (kI r7 a0 10) r13 e14) (cwV 1 hts (gwV gw_2_12 gw_2_13 gw_2_14 gw_1_5 gw_2_9) rfl rfl rfl (by decide +kernel) ⟨Nat.le_of_ble_eq_true rfl, Nat.le_of_ble_eq_true rfl⟩) hH hNE 8 ek12 (by decide) rfl rfl rfl hl.1 rfl (Nat.le_of_ble_eq_true rfl) dX8_lengthen_32 ⟨(Nat.le_of_ble_eq_true rfl), (Nat.le_of_ble_eq_true rfl)⟩ (fun H locs hH => ?_)
  refine lv_bipush (v := 10) hx hb dX8_lengthen_35 (by decide) ?_
  refine lv_imul hx hb dX8_lengthen_37 ?_
  refine lv_iload_n hx hb dX8_lengthen_38 rfl (lv_at hl 1 rfl) ?_
  refine lv_bipush (v := 48) hx hb dX8_lengthen_39 (by decide) ?_
  refine lv_isub hx hb dX8_lengthen_41 ?_
  refine lv_iadd hx hb dX8_lengthen_42 ?_
  obtain ⟨x15, e16, hf⟩ := ol hf
  refine lv_topE e16 ?_
  refine lv_istore_n (lv' := [(2, .int x15), (0, .ref a0), (1, .int p1)]) hx hb dX8_lengthen_43 rfl hl (by decide) rfl (fun ls hl => ?_)
  refine lv_aload_n hx hb dX8_lengthen_44 rfl (lv_at hl 1 rfl) ?_
  refine r_getQ hx hb 11 hts (fun w h => List.mem_cons_of_mem _ (mwsX80 w h)) hown hH ek9 (by decide) rfl 4 (by decide) rfl (hts (.fieldLink RX8 29 "Housestyle$Tokens" "values" "LHousestyle$Row;") (List.mem_cons_of_mem _ gw_6_21)) (fun _ h9 => h9) dX8_lengthen_45 e11 ?_
  refine lv_aload_n hx hb dX8_lengthen_48 rfl (lv_at hl 1 rfl) ?_
  refine r_getI hx hb 11 hts (fun w h => List.mem_cons_of_mem _ (mwsX80 w h)) hown hH ek9 (by decide) rfl 10 (by decide) rfl (hts (.fieldLink RX8 48 "Housestyle$Tokens" "last" "I") (List.mem_cons_of_mem _ gw_18_13)) (fun _ h9 => h9) dX8_lengthen_49 ?_
  refine lv_iload_n hx hb dX8_lengthen_52 rfl (lv_at hl 2 rfl) ?_
  obtain ⟨r17, e18, hf⟩ := ob hf
  refine r_callSiN (As := [.int p1]) ⟨hx, hb, hml, hown, hts⟩ (c_X9_isDigit l D r7 p1 r17 e18) ⟨va_cnB 1 hts (gwI (gwC gw_17_5)) rfl rfl rfl (nm_4 hNE) (hts (.initialized RX9) (List.mem_cons_of_mem _ gw_14_5)) (by decide +kernel) ⟨Nat.le_of_ble_eq_true rfl, Nat.le_of_ble_eq_true rfl⟩, (hts (.static yX9_isDigit) (List.mem_cons_of_mem _ gw_17_7)), trivial⟩ hH hNE rfl hl.1 rfl (Nat.le_of_ble_eq_true rfl) dX8_lengthen_53 ⟨(Nat.le_of_ble_eq_true rfl), (Nat.le_of_ble_eq_true rfl)⟩ (fun H locs hH => ?_)
  obtain ⟨j20, e23, hf⟩ := ol hf
  have Jj20 : ∀ (x19 : Int32) (H : Heap) (locs : List Loc) (ls : Array Slot), HI D S r7 s H locs → lv_has ls 3 [] → j20 x19 = some r → GV p l e (headSpec wsX8_lengthen rmX8_lengthen).room s m ([.ref a0, .int p1] : List Value).toArray below meth c D S r H locs 0 0 0 0 (F0 m 69 ls [.int x19, .int (kI r7 a0 10), .ref a10]) := by
    intro x19 H locs ls hH hl hf
    rw [← e23] at hf
    obtain ⟨r21, e22, hf⟩ := ob hf
    refine r_callVv (As := [.int (kI r7 a0 10), .int x19]) ⟨hx, hb, hml, hown, hts⟩ (c_X5_set l D r7 a10 (kI r7 a0 10) x19 r21 e22) (cwV 2 hts (gwV gw_19_2 gw_5_20 gw_5_21 gw_1_5 gw_5_16) rfl rfl rfl (by decide +kernel) ⟨Nat.le_of_ble_eq_true rfl, Nat.le_of_ble_eq_true rfl⟩) hH hNE 8 ek12 (by decide) rfl rfl rfl hl.1 rfl (Nat.le_of_ble_eq_true rfl) dX8_lengthen_69 ⟨(Nat.le_of_ble_eq_true rfl), (Nat.le_of_ble_eq_true rfl)⟩ (fun H locs hH => ?_)
    have hr9 := Option.some.inj hf
    subst hr9
    exact e_v hx hb hr hlocks hH dX8_lengthen_72
  refine lv_if_eq (tgt := 68) hx hb dX8_lengthen_56 (by decide) (fun c24 => ?_) (fun c24 => ?_)
  · have hf := ip hf c24
    refine lv_iconst (v := 0) hx hb dX8_lengthen_68 (by decide) ?_
    exact Jj20 0 _ _ ls hH (lv_sub hl [] rfl) hf
  · have hf := iq hf c24
    refine lv_iload_n hx hb dX8_lengthen_59 rfl (lv_at hl 0 rfl) ?_
    refine lv_bipush (v := 100) hx hb dX8_lengthen_60 (by decide) ?_
    refine va_mmin hx hb (hml.trans hl.1.symm) hown (hts (.methodLink RX8 94 Lib.Math.min.name) (List.mem_cons_of_mem _ gw_19_1)) (hts (.static Lib.Math.min.name) (List.mem_cons_of_mem _ gw_15_3)) (hts (.initialized "java/lang/Math") (List.mem_cons_of_mem _ gw_14_18)) (hts (.code Lib.Math.min.name Lib.Math.min.code 2 (some .int)) (List.mem_cons_of_mem _ gw_15_4)) (Nat.le_of_ble_eq_true rfl) (Nat.le_of_ble_eq_true rfl) (Nat.le_of_ble_eq_true rfl) (Nat.le_of_ble_eq_true rfl) dX8_lengthen_62 ?_
    refine lv_goto (tgt := 69) hx hb dX8_lengthen_65 (by decide) ?_
    exact Jj20 (if 100 < x15 then 100 else x15) _ _ ls hH (lv_sub hl [] rfl) hf
set_option maxRecDepth 100000 in
def f_X8_read_b12 (a0 : Nat) (x7 : Int32) (x8 : Int32) (S9 : PS) : Option ((Int32 × Int32 × PS) ⊕ ((PS))) := if kK S9 a0 = 12 then ((kQ S9 a0 0).bind fun a15 => if kK S9 a15 = 9 then ((f_X5_count S9 a15).bind fun r18 => if r18 ≤ x8 then (some (.inr S9)) else ((f_X5_get S9 a15 x8).bind fun r21 => (f_X8_kindOf S9 r21).bind fun r23 => lt (fun (S25 : PS) => lt (x8 + 1) fun x27 => some (.inl (r23, x27, S25))) fun j26 => if r23 = 0 then ((f_X8_passSign S9 a0 r21).bind fun r40 => j26 r40) else (lt (fun (S31 : PS) => if kK S31 a0 = 12 then ((f_X8_lengthen S31 a0 r21).bind fun r34 => j26 r34) else none) fun j32 => if r23 = x7 then (j32 S9) else ((f_X8_beginToken S9 a0 x8 r23).bind fun r38 => j32 r38)))) else none) else none
set_option maxRecDepth 100000 in
def f_X8_read (S : PS) (a0 : Nat) : Option (PS) := if kK S a0 = 12 then ((f_X8_clear S a0).bind fun r2 => if kK r2 a0 = 12 then ((f_X8_beginParagraph r2 a0).bind fun r5 => lt (fun (S10 : PS) => some S10) fun k11 => (iter (fun (v : Int32 × Int32 × PS) => f_X8_read_b12 a0 v.1 v.2.1 v.2.2) kF (0, 0, r5)).bind (fun (v : PS) => k11 v)) else none) else none
abbrev rmX8_read : Room := { frames := 3, cells := 0, slots := 0, locals := 62 }
set_option maxHeartbeats 4000000 in
set_option maxRecDepth 100000 in
theorem c_X8_read (l : Launch) (D : va_G × Nat) (S : PS) (a0 : Nat) (r : PS) (hf : f_X8_read S a0 = some r) : MV l D yX8_read wsX8_read rmX8_read S [.ref a0] r 0 0 := by
  unfold f_X8_read at hf
  refine Met.ofW (cc := cX8_read) (maxL := 5) (ret := none) (by decide) rfl ?_
  intro p e s m args below meth c s₁ B hml hv
  obtain ⟨rfl, hH0, hNE⟩ := hv
  have hx := B.exec
  have hb := B.bytes
  have hr := B.returns
  have hts := atoms_spec (ws := wsX8_read) B.pre
  have hown : s.vm.findClass RX8 = some m.cls := findClass_of_methodNamed B.named
  have hlocks := B.notSynchronized
  have hH : HI D S S s s.heap [] := HI.start hH0
  have hl := lv_entry ([.ref a0]) (n := 5) (Nat.le_of_ble_eq_true rfl)
  rw [lg_entry_eq]
  generalize (lg_sl ([.ref a0]) ++ List.replicate (5 - (lg_sl ([.ref a0])).length) Slot.unset).toArray = ls at hl ⊢
  have hl : lv_has ls 5 [(0, .ref a0)] := hl
  refine lv_aload_n hx hb dX8_read_0 rfl (lv_at hl 0 rfl) ?_
  obtain ⟨ek1, hf⟩ := oc hf
  obtain ⟨r2, e3, hf⟩ := ob hf
  refine r_callVv (As := []) ⟨hx, hb, hml, hown, hts⟩ (c_X8_clear l D S a0 r2 e3) (cwV 0 hts (gwV gw_19_4 gw_19_5 gw_19_6 gw_2_23 gw_18_15) rfl rfl rfl (by decide +kernel) ⟨Nat.le_of_ble_eq_true rfl, Nat.le_of_ble_eq_true rfl⟩) hH hNE 11 ek1 (by decide) rfl rfl rfl hl.1 rfl (Nat.le_of_ble_eq_true rfl) dX8_read_1 ⟨(Nat.le_of_ble_eq_true rfl), (Nat.le_of_ble_eq_true rfl)⟩ (fun H locs hH => ?_)
  refine lv_aload_n hx hb dX8_read_4 rfl (lv_at hl 0 rfl) ?_
  obtain ⟨ek4, hf⟩ := oc hf
  obtain ⟨r5, e6, hf⟩ := ob hf
  refine r_callVv (As := []) ⟨hx, hb, hml, hown, hts⟩ (c_X8_beginParagraph l D r2 a0 r5 e6) (cwV 0 hts (gwV gw_18_20 gw_18_21 gw_18_22 gw_2_23 gw_18_17) rfl rfl rfl (by decide +kernel) ⟨Nat.le_of_ble_eq_true rfl, Nat.le_of_ble_eq_true rfl⟩) hH hNE 11 ek4 (by decide) rfl rfl rfl hl.1 rfl (Nat.le_of_ble_eq_true rfl) dX8_read_5 ⟨(Nat.le_of_ble_eq_true rfl), (Nat.le_of_ble_eq_true rfl)⟩ (fun H locs hH => ?_)
  refine lv_iconst (v := 0) hx hb dX8_read_8 (by decide) ?_
  refine lv_istore_n (lv' := [(1, .int 0), (0, .ref a0)]) hx hb dX8_read_9 rfl hl (by decide) rfl (fun ls hl => ?_)
  refine lv_iconst (v := 0) hx hb dX8_read_10 (by decide) ?_
  refine lv_istore_n (lv' := [(2, .int 0), (1, .int 0), (0, .ref a0)]) hx hb dX8_read_11 rfl hl (by decide) rfl (fun ls hl => ?_)
  obtain ⟨k11, e12, hf⟩ := ol hf
  have Xk11 : ∀ (S10 : PS) (H : Heap) (locs : List Loc) (ls : Array Slot), HI D S S10 s H locs → lv_has ls 5 [] → k11 S10 = some r → GV p l e (headSpec wsX8_read rmX8_read).room s m ([.ref a0] : List Value).toArray below meth c D S r H locs 0 0 0 0 (F0 m 78 ls []) := by
    intro S10 H locs ls hH hl hf
    rw [← e12] at hf
    have hr9 := Option.some.inj hf
    subst hr9
    exact e_v hx hb hr hlocks hH dX8_read_78
  obtain ⟨o13, eo13, hq13f⟩ := ob hf
  have Lo13 : ∀ (n : Nat) (x7 : Int32) (x8 : Int32) (S9 : PS), iter (fun (v : Int32 × Int32 × PS) => f_X8_read_b12 a0 v.1 v.2.1 v.2.2) n (x7, x8, S9) = some o13 → ∀ (H : Heap) (locs : List Loc) (ls : Array Slot), HI D S S9 s H locs → lv_has ls 5 [(0, .ref a0), (1, .int x7), (2, .int x8)] → GV p l e (headSpec wsX8_read rmX8_read).room s m ([.ref a0] : List Value).toArray below meth c D S r H locs 0 0 0 0 (F0 m 12 ls []) := by
    intro n
    induction n with
    | zero => intro x7 x8 S9 hi; cases hi
    | succ n ih13 =>
      intro x7 x8 S9 hi H locs ls hH hl
      obtain ⟨q13_, hf, hq13⟩ := iter_s hi
      have hf : f_X8_read_b12 a0 x7 x8 S9 = some q13_ := hf
      unfold f_X8_read_b12 at hf
      refine lv_iload_n hx hb dX8_read_12 rfl (lv_at hl 2 rfl) ?_
      refine lv_aload_n hx hb dX8_read_13 rfl (lv_at hl 0 rfl) ?_
      obtain ⟨ek14, hf⟩ := oc hf
      obtain ⟨a15, e16, hf⟩ := ob hf
      refine r_getQ hx hb 11 hts (fun w h => List.mem_cons_of_mem _ (mwsX80 w h)) hown hH ek14 (by decide) rfl 0 (by decide) rfl (hts (.fieldLink RX8 9 "Housestyle$Tokens" "signs" "LHousestyle$Row;") (List.mem_cons_of_mem _ gw_2_19)) (fun _ h9 => h9) dX8_read_14 e16 ?_
      obtain ⟨ek17, hf⟩ := oc hf
      obtain ⟨r18, e19, hf⟩ := ob hf
      refine r_callVi (As := []) ⟨hx, hb, hml, hown, hts⟩ (c_X5_count l D S9 a15 r18 e19) (cwV 0 hts (gwV gw_1_14 gw_1_15 gw_1_16 gw_1_5 gw_1_11) rfl rfl rfl (by decide +kernel) ⟨Nat.le_of_ble_eq_true rfl, Nat.le_of_ble_eq_true rfl⟩) hH hNE 8 ek17 (by decide) rfl rfl rfl hl.1 rfl (Nat.le_of_ble_eq_true rfl) dX8_read_17 ⟨(Nat.le_of_ble_eq_true rfl), (Nat.le_of_ble_eq_true rfl)⟩ (fun H locs hH => ?_)
      refine lv_icmp_ge (tgt := 78) hx hb dX8_read_20 (by decide) (fun c20 => ?_) (fun c20 => ?_)
      · have hf := ip hf c20
        cases hf
        have hf9 := itR (K := (fun (v : PS) => k11 v)) hq13 hq13f
        exact Xk11 S9 _ _ ls hH (lv_sub hl [] rfl) hf9
      · have hf := iq hf c20
        refine lv_aload_n hx hb dX8_read_23 rfl (lv_at hl 0 rfl) ?_
        refine r_getQ hx hb 11 hts (fun w h => List.mem_cons_of_mem _ (mwsX80 w h)) hown hH ek14 (by decide) rfl 0 (by decide) rfl (hts (.fieldLink RX8 9 "Housestyle$Tokens" "signs" "LHousestyle$Row;") (List.mem_cons_of_mem _ gw_2_19)) (fun _ h9 => h9) dX8_read_24 e16 ?_
        refine lv_iload_n hx hb dX8_read_27 rfl (lv_at hl 2 rfl) ?_
        obtain ⟨r21, e22, hf⟩ := ob hf
        refine r_callVi (As := [.int x8]) ⟨hx, hb, hml, hown, hts⟩ (c_X5_get l D S9 a15 x8 r21 e22) (cwV 1 hts (gwV gw_2_12 gw_2_13 gw_2_14 gw_1_5 gw_2_9) rfl rfl rfl (by decide +kernel) ⟨Nat.le_of_ble_eq_true rfl, Nat.le_of_ble_eq_true rfl⟩) hH hNE 8 ek17 (by decide) rfl rfl rfl hl.1 rfl (Nat.le_of_ble_eq_true rfl) dX8_read_28 ⟨(Nat.le_of_ble_eq_true rfl), (Nat.le_of_ble_eq_true rfl)⟩ (fun H locs hH => ?_)
        refine lv_istore_n (lv' := [(3, .int r21), (0, .ref a0), (1, .int x7), (2, .int x8)]) hx hb dX8_read_31 rfl hl (by decide) rfl (fun ls hl => ?_)
        refine lv_iload_n hx hb dX8_read_32 rfl (lv_at hl 0 rfl) ?_
        obtain ⟨r23, e24, hf⟩ := ob hf
        refine r_callSi (As := [.int r21]) ⟨hx, hb, hml, hown, hts⟩ (c_X8_kindOf l D S9 r21 r23 e24) (va_cwS 1 hts (gwS gw_19_7 gw_19_8 gw_2_23 gw_18_18) rfl rfl rfl (by decide +kernel) ⟨Nat.le_of_ble_eq_true rfl, Nat.le_of_ble_eq_true rfl⟩) hH hNE rfl hl.1 rfl (Nat.le_of_ble_eq_true rfl) dX8_read_33 ⟨(Nat.le_of_ble_eq_true rfl), (Nat.le_of_ble_eq_true rfl)⟩ (fun H locs hH => ?_)
        refine lv_istore (lv' := [(4, .int r23), (3, .int r21), (0, .ref a0), (1, .int x7), (2, .int x8)]) hx hb dX8_read_36 hl (by decide) rfl (fun ls hl => ?_)
        refine lv_iload hx hb dX8_read_38 (lv_at hl 0 rfl) ?_
        obtain ⟨j26, e29, hf⟩ := ol hf
        have Jj26 : ∀ (S25 : PS) (H : Heap) (locs : List Loc) (ls : Array Slot), HI D S S25 s H locs → lv_has ls 5 [(0, .ref a0), (2, .int x8), (4, .int r23)] → j26 S25 = some q13_ → GV p l e (headSpec wsX8_read rmX8_read).room s m ([.ref a0] : List Value).toArray below meth c D S r H locs 0 0 0 0 (F0 m 69 ls []) := by
          intro S25 H locs ls hH hl hf
          rw [← e29] at hf
          refine lv_iload hx hb dX8_read_69 (lv_at hl 2 rfl) ?_
          refine lv_istore_n (lv' := [(1, .int r23), (0, .ref a0), (2, .int x8), (4, .int r23)]) hx hb dX8_read_71 rfl hl (by decide) rfl (fun ls hl => ?_)
          obtain ⟨x27, e28, hf⟩ := ol hf
          refine lv_iinc (v := x27) (lv' := [(2, .int x27), (1, .int r23), (0, .ref a0), (4, .int r23)]) hx hb dX8_read_72 hl (k := 2) rfl (by rw [← e28]; rfl) (by decide) rfl (fun ls hl => ?_)
          refine lv_goto (tgt := 12) hx hb dX8_read_75 (by decide) ?_
          cases hf
          exact ih13 r23 x27 S25 hq13 _ _ ls hH (lv_sub hl [2, 1, 0] rfl)
        refine lv_if_ne (tgt := 51) hx hb dX8_read_40 (by decide) (fun c30 => ?_) (fun c30 => ?_)
        · have hf := iq hf c30
          refine lv_iload hx hb dX8_read_51 (lv_at hl 0 rfl) ?_
          refine lv_iload_n hx hb dX8_read_53 rfl (lv_at hl 3 rfl) ?_
          obtain ⟨j32, e36, hf⟩ := ol hf
          have Jj32 : ∀ (S31 : PS) (H : Heap) (locs : List Loc) (ls : Array Slot), HI D S S31 s H locs → lv_has ls 5 [(0, .ref a0), (2, .int x8), (3, .int r21), (4, .int r23)] → j32 S31 = some q13_ → GV p l e (headSpec wsX8_read rmX8_read).room s m ([.ref a0] : List Value).toArray below meth c D S r H locs 0 0 0 0 (F0 m 64 ls []) := by
            intro S31 H locs ls hH hl hf
            rw [← e36] at hf
            refine lv_aload_n hx hb dX8_read_64 rfl (lv_at hl 0 rfl) ?_
            refine lv_iload_n hx hb dX8_read_65 rfl (lv_at hl 2 rfl) ?_
            obtain ⟨ek33, hf⟩ := oc hf
            obtain ⟨r34, e35, hf⟩ := ob hf
            refine r_callVv (As := [.int r21]) ⟨hx, hb, hml, hown, hts⟩ (c_X8_lengthen l D S31 a0 r21 r34 e35) (cwV 1 hts (gwV gw_19_15 gw_19_16 gw_19_17 gw_2_23 gw_19_0) rfl rfl rfl (by decide +kernel) ⟨Nat.le_of_ble_eq_true rfl, Nat.le_of_ble_eq_true rfl⟩) hH hNE 11 ek33 (by decide) rfl rfl rfl hl.1 rfl (Nat.le_of_ble_eq_true rfl) dX8_read_66 ⟨(Nat.le_of_ble_eq_true rfl), (Nat.le_of_ble_eq_true rfl)⟩ (fun H locs hH => ?_)
            exact Jj26 r34 _ _ ls hH (lv_sub hl [0, 1, 3] rfl) hf
          refine lv_icmp_eq (tgt := 64) hx hb dX8_read_54 (by decide) (fun c37 => ?_) (fun c37 => ?_)
          · have hf := ip hf c37
            exact Jj32 S9 _ _ ls hH (lv_sub hl [2, 4, 1, 0] rfl) hf
          · have hf := iq hf c37
            refine lv_aload_n hx hb dX8_read_57 rfl (lv_at hl 2 rfl) ?_
            refine lv_iload_n hx hb dX8_read_58 rfl (lv_at hl 4 rfl) ?_
            refine lv_iload hx hb dX8_read_59 (lv_at hl 0 rfl) ?_
            obtain ⟨r38, e39, hf⟩ := ob hf
            refine r_callVv (As := [.int x8, .int r23]) ⟨hx, hb, hml, hown, hts⟩ (c_X8_beginToken l D S9 a0 x8 r23 r38 e39) (cwV 2 hts (gwV gw_19_12 gw_19_13 gw_19_14 gw_2_23 gw_18_23) rfl rfl rfl (by decide +kernel) ⟨Nat.le_of_ble_eq_true rfl, Nat.le_of_ble_eq_true rfl⟩) hH hNE 11 ek14 (by decide) rfl rfl rfl hl.1 rfl (Nat.le_of_ble_eq_true rfl) dX8_read_61 ⟨(Nat.le_of_ble_eq_true rfl), (Nat.le_of_ble_eq_true rfl)⟩ (fun H locs hH => ?_)
            exact Jj32 r38 _ _ ls hH (lv_sub hl [2, 4, 1, 0] rfl) hf
        · have hf := ip hf c30
          refine lv_aload_n hx hb dX8_read_43 rfl (lv_at hl 2 rfl) ?_
          refine lv_iload_n hx hb dX8_read_44 rfl (lv_at hl 1 rfl) ?_
          obtain ⟨r40, e41, hf⟩ := ob hf
          refine r_callVv (As := [.int r21]) ⟨hx, hb, hml, hown, hts⟩ (c_X8_passSign l D S9 a0 r21 r40 e41) (cwV 1 hts (gwV gw_19_9 gw_19_10 gw_19_11 gw_2_23 gw_18_19) rfl rfl rfl (by decide +kernel) ⟨Nat.le_of_ble_eq_true rfl, Nat.le_of_ble_eq_true rfl⟩) hH hNE 11 ek14 (by decide) rfl rfl rfl hl.1 rfl (Nat.le_of_ble_eq_true rfl) dX8_read_45 ⟨(Nat.le_of_ble_eq_true rfl), (Nat.le_of_ble_eq_true rfl)⟩ (fun H locs hH => ?_)
          refine lv_goto (tgt := 69) hx hb dX8_read_48 (by decide) ?_
          exact Jj26 r40 _ _ ls hH (lv_sub hl [2, 4, 0] rfl) hf
  exact Lo13 kF 0 0 r5 eo13 _ _ ls hH (lv_sub hl [2, 1, 0] rfl)
