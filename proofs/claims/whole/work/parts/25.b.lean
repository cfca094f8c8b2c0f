abbrev rmL_type : Room := { frames := 7, cells := 1, slots := 6, locals := 111 }
set_option maxHeartbeats 4000000 in
set_option maxRecDepth 100000 in
theorem w_type (l : Launch) (hst9 : l.stackTraces = false) (D : va_G × Nat) (S : PS) (a0 : Nat) (p1 : Int32) (o : Nat) (ho : kK S o = 0) (ho2 : o < kZ S) (hDo : D.2 ≤ o) (hek : kK S a0 = 13) (r : (PS × Int32) ⊕ (PS × Nat)) (hf : f_X9_type S a0 p1 = some r) (hj : ∀ x, r = .inr x → x.2 = 1 ∨ x.2 = 2) : LM l D yL_type wsL_type rmL_type S [.ref a0, .int p1, .ref o] .long o (wI9 r) (fun k => if k = 1 then 1 else 2) 1 6 := by
  refine vx_ofWH (cc := cL_type) (maxL := 4) (ret := some .int) (by decide) rfl ?_
  intro p e s m args below meth c s₁ B hml hv
  obtain ⟨rfl, hH0, hE, hNE, hCN, w0, hO⟩ := hv
  have hB := hH0.base
  have hx := B.exec
  have hb := B.bytes
  have hr := B.returns
  have hts := atoms_spec (ws := wsL_type) B.pre
  have hown : s.vm.findClass RL = some m.cls := findClass_of_methodNamed B.named
  have hlocks := B.notSynchronized
  have hxt := vx_table (x := yL_type) B (hts _ List.mem_cons_self)
  have hH : HI D S S s s.heap [] := HI.start hH0
  have hl := lv_entry ([.ref a0, .int p1, .ref o]) (n := 4) (Nat.le_of_ble_eq_true rfl)
  rw [lg_entry_eq]
  generalize (lg_sl ([.ref a0, .int p1, .ref o]) ++ List.replicate (4 - (lg_sl ([.ref a0, .int p1, .ref o])).length) Slot.unset).toArray = ls at hl ⊢
  have hl : lv_has ls 4 [(0, .ref a0), (1, .int p1), (2, .ref o)] := hl
  refine lv_aload_n hx hb dL_type_0 rfl (lv_at hl 2 rfl) ?_
  refine lv_iconst (v := 0) hx hb dL_type_1 (by decide) ?_
  refine lv_aload_n hx hb dL_type_2 rfl (lv_at hl 0 rfl) ?_
  refine lv_iload_n hx hb dL_type_3 rfl (lv_at hl 1 rfl) ?_
  cases r with
  | inr x =>
    obtain ⟨xS, xk⟩ := x
    refine r_xVex (As := [.int p1]) ⟨hx, hb, hml, hown, hts⟩ (c_X9_type l hst9 D S a0 p1 (.inr (xS, xk)) hf) (cwV 1 hts (gwV gw_38_22 gw_38_23 gw_39_0 gw_14_5 gw_21_8) rfl rfl rfl (by decide +kernel) ⟨Nat.le_of_ble_eq_true rfl, Nat.le_of_ble_eq_true rfl⟩) hH hE hB hNE 12 hek (by decide) rfl rfl rfl hl.1 rfl (Nat.le_of_ble_eq_true rfl) dL_type_4 ⟨Nat.le_of_ble_eq_true rfl, Nat.le_of_ble_eq_true rfl⟩ (fun z9 ce9 q9 H locs hH hk9 hz9 h91 h92 h93 => ?_)
    have hj9 := hj _ rfl
    simp only at hj9
    rcases hj9 with rfl | rfl
    · refine vx_catch (E := exN 1) hown [] ⟨0, 9, 12, 13⟩ [⟨0, 9, 15, 15⟩] (by rw [hxt]; rfl) (fun _ h => absurd h List.not_mem_nil) rfl (by decide) (hts (.classLink RL 13 "java/lang/IllegalArgumentException") (List.mem_cons_of_mem _ gw_38_20)) (va_Nw.use rfl (hCN.1 1 (by decide) (by decide))) h91 h92 h93 ?_
      refine lv_astore_n (lv' := [(3, .ref q9), (0, .ref a0), (1, .int p1), (2, .ref o)]) hx hb dL_type_12 rfl hl (by decide) rfl (fun ls hl => ?_)
      refine lv_iconst (v := 1) hx hb dL_type_13 (by decide) ?_
      exact e_no rfl hx hb hr hlocks hz9 hH.1 hk9 (hH.oa hO ho ho2) hH.2.1.al dL_type_14
    · refine vx_catch (E := exN 2) hown [⟨0, 9, 12, 13⟩] ⟨0, 9, 15, 15⟩ [] (by rw [hxt]; rfl) (List.forall_mem_cons.mpr ⟨Or.inr ⟨by decide, _, (hts (.classLink RL 13 "java/lang/IllegalArgumentException") (List.mem_cons_of_mem _ gw_38_20)), hCN.2 2 1 (by decide) (by decide) (by decide) (by decide) (by decide)⟩, fun _ h => absurd h List.not_mem_nil⟩) rfl (by decide) (hts (.classLink RL 15 "java/lang/IllegalStateException") (List.mem_cons_of_mem _ gw_38_21)) (va_Nw.use rfl (hCN.1 2 (by decide) (by decide))) h91 h92 h93 ?_
      refine lv_astore_n (lv' := [(3, .ref q9), (0, .ref a0), (1, .int p1), (2, .ref o)]) hx hb dL_type_15 rfl hl (by decide) rfl (fun ls hl => ?_)
      refine lv_iconst (v := 2) hx hb dL_type_16 (by decide) ?_
      exact e_no rfl hx hb hr hlocks hz9 hH.1 hk9 (hH.oa hO ho ho2) hH.2.1.al dL_type_17
  | inl u =>
    refine r_xVok (As := [.int p1]) (S' := u.1) (v := some (.int u.2)) (st1 := [.int u.2, .int 0, .ref o]) ⟨hx, hb, hml, hown, hts⟩ (c_X9_type l hst9 D S a0 p1 (.inl u) hf) (cwV 1 hts (gwV gw_38_22 gw_38_23 gw_39_0 gw_14_5 gw_21_8) rfl rfl rfl (by decide +kernel) ⟨Nat.le_of_ble_eq_true rfl, Nat.le_of_ble_eq_true rfl⟩) hH hE hB hNE 12 hek (by decide) rfl rfl rfl hl.1 rfl (Nat.le_of_ble_eq_true rfl) dL_type_4 ⟨Nat.le_of_ble_eq_true rfl, Nat.le_of_ble_eq_true rfl⟩ rfl (fun H locs hH => ?_)
    refine lv_i2l hx hb dL_type_7 rfl ?_
    refine r_last hx hb (hH.oa hO ho ho2) dL_type_8 (fun H1 k hO1 hz1 oq1 => ?_)
    refine lv_goto (tgt := 18) hx hb dL_type_9 (by decide) ?_
    refine lv_iconst (v := 0) hx hb dL_type_18 (by decide) ?_
    exact e_ok (u := (u.1, .long u.2.toInt64)) hx hb hr hlocks (hH.1.other ((hH.2.2.1.1 o ho2).trans ho) hDo hz1 oq1) hH.2.2.1 hO1 (hH.2.1.al.put hz1 oq1 (Or.inr rfl)) dL_type_19
abbrev rmL_put : Room := { frames := 7, cells := 1, slots := 6, locals := 115 }
set_option maxHeartbeats 4000000 in
set_option maxRecDepth 100000 in
theorem w_put (l : Launch) (hst9 : l.stackTraces = false) (D : va_G × Nat) (S : PS) (a0 : Nat) (p1 : Int32) (p2 : Int32) (p3 : Int32) (o : Nat) (ho : kK S o = 0) (ho2 : o < kZ S) (hDo : D.2 ≤ o) (hek : kK S a0 = 13) (r : (PS × Int32) ⊕ (PS × Nat)) (hf : f_X9_put S a0 p1 p2 p3 = some r) (hj : ∀ x, r = .inr x → x.2 = 3 ∨ x.2 = 1 ∨ x.2 = 2) : LM l D yL_put wsL_put rmL_put S [.ref a0, .int p1, .int p2, .int p3, .ref o] .long o (wI9 r) (fun k => if k = 3 then 1 else if k = 1 then 2 else 3) 1 6 := by
  refine vx_ofWH (cc := cL_put) (maxL := 6) (ret := some .int) (by decide) rfl ?_
  intro p e s m args below meth c s₁ B hml hv
  obtain ⟨rfl, hH0, hE, hNE, hCN, w0, hO⟩ := hv
  have hB := hH0.base
  have hx := B.exec
  have hb := B.bytes
  have hr := B.returns
  have hts := atoms_spec (ws := wsL_put) B.pre
  have hown : s.vm.findClass RL = some m.cls := findClass_of_methodNamed B.named
  have hlocks := B.notSynchronized
  have hxt := vx_table (x := yL_put) B (hts _ List.mem_cons_self)
  have hH : HI D S S s s.heap [] := HI.start hH0
  have hl := lv_entry ([.ref a0, .int p1, .int p2, .int p3, .ref o]) (n := 6) (Nat.le_of_ble_eq_true rfl)
  rw [lg_entry_eq]
  generalize (lg_sl ([.ref a0, .int p1, .int p2, .int p3, .ref o]) ++ List.replicate (6 - (lg_sl ([.ref a0, .int p1, .int p2, .int p3, .ref o])).length) Slot.unset).toArray = ls at hl ⊢
  have hl : lv_has ls 6 [(0, .ref a0), (1, .int p1), (2, .int p2), (3, .int p3), (4, .ref o)] := hl
  refine lv_aload hx hb dL_put_0 (lv_at hl 4 rfl) ?_
  refine lv_iconst (v := 0) hx hb dL_put_2 (by decide) ?_
  refine lv_aload_n hx hb dL_put_3 rfl (lv_at hl 0 rfl) ?_
  refine lv_iload_n hx hb dL_put_4 rfl (lv_at hl 1 rfl) ?_
  refine lv_iload_n hx hb dL_put_5 rfl (lv_at hl 2 rfl) ?_
  refine lv_iload_n hx hb dL_put_6 rfl (lv_at hl 3 rfl) ?_
  cases r with
  | inr x =>
    obtain ⟨xS, xk⟩ := x
    refine r_xVex (As := [.int p1, .int p2, .int p3]) ⟨hx, hb, hml, hown, hts⟩ (c_X9_put l hst9 D S a0 p1 p2 p3 (.inr (xS, xk)) hf) (cwV 3 hts (gwV gw_39_3 gw_39_4 gw_39_5 gw_14_5 gw_22_11) rfl rfl rfl (by decide +kernel) ⟨Nat.le_of_ble_eq_true rfl, Nat.le_of_ble_eq_true rfl⟩) hH hE hB hNE 12 hek (by decide) rfl rfl rfl hl.1 rfl (Nat.le_of_ble_eq_true rfl) dL_put_7 ⟨Nat.le_of_ble_eq_true rfl, Nat.le_of_ble_eq_true rfl⟩ (fun z9 ce9 q9 H locs hH hk9 hz9 h91 h92 h93 => ?_)
    have hj9 := hj _ rfl
    simp only at hj9
    rcases hj9 with rfl | rfl | rfl
    · refine vx_catch (E := exN 3) hown [] ⟨0, 12, 15, 21⟩ [⟨0, 12, 19, 13⟩, ⟨0, 12, 23, 15⟩] (by rw [hxt]; rfl) (fun _ h => absurd h List.not_mem_nil) rfl (by decide) (hts (.classLink RL 21 "java/lang/IndexOutOfBoundsException") (List.mem_cons_of_mem _ gw_39_2)) (va_Nw.use rfl (hCN.1 3 (by decide) (by decide))) h91 h92 h93 ?_
      refine lv_astore (lv' := [(5, .ref q9), (0, .ref a0), (1, .int p1), (2, .int p2), (3, .int p3), (4, .ref o)]) hx hb dL_put_15 hl (by decide) rfl (fun ls hl => ?_)
      refine lv_iconst (v := 1) hx hb dL_put_17 (by decide) ?_
      exact e_no rfl hx hb hr hlocks hz9 hH.1 hk9 (hH.oa hO ho ho2) hH.2.1.al dL_put_18
    · refine vx_catch (E := exN 1) hown [⟨0, 12, 15, 21⟩] ⟨0, 12, 19, 13⟩ [⟨0, 12, 23, 15⟩] (by rw [hxt]; rfl) (List.forall_mem_cons.mpr ⟨Or.inr ⟨by decide, _, (hts (.classLink RL 21 "java/lang/IndexOutOfBoundsException") (List.mem_cons_of_mem _ gw_39_2)), hCN.2 1 3 (by decide) (by decide) (by decide) (by decide) (by decide)⟩, fun _ h => absurd h List.not_mem_nil⟩) rfl (by decide) (hts (.classLink RL 13 "java/lang/IllegalArgumentException") (List.mem_cons_of_mem _ gw_38_20)) (va_Nw.use rfl (hCN.1 1 (by decide) (by decide))) h91 h92 h93 ?_
      refine lv_astore (lv' := [(5, .ref q9), (0, .ref a0), (1, .int p1), (2, .int p2), (3, .int p3), (4, .ref o)]) hx hb dL_put_19 hl (by decide) rfl (fun ls hl => ?_)
      refine lv_iconst (v := 2) hx hb dL_put_21 (by decide) ?_
      exact e_no rfl hx hb hr hlocks hz9 hH.1 hk9 (hH.oa hO ho ho2) hH.2.1.al dL_put_22
    · refine vx_catch (E := exN 2) hown [⟨0, 12, 15, 21⟩, ⟨0, 12, 19, 13⟩] ⟨0, 12, 23, 15⟩ [] (by rw [hxt]; rfl) (List.forall_mem_cons.mpr ⟨Or.inr ⟨by decide, _, (hts (.classLink RL 21 "java/lang/IndexOutOfBoundsException") (List.mem_cons_of_mem _ gw_39_2)), hCN.2 2 3 (by decide) (by decide) (by decide) (by decide) (by decide)⟩, List.forall_mem_cons.mpr ⟨Or.inr ⟨by decide, _, (hts (.classLink RL 13 "java/lang/IllegalArgumentException") (List.mem_cons_of_mem _ gw_38_20)), hCN.2 2 1 (by decide) (by decide) (by decide) (by decide) (by decide)⟩, fun _ h => absurd h List.not_mem_nil⟩⟩) rfl (by decide) (hts (.classLink RL 15 "java/lang/IllegalStateException") (List.mem_cons_of_mem _ gw_38_21)) (va_Nw.use rfl (hCN.1 2 (by decide) (by decide))) h91 h92 h93 ?_
      refine lv_astore (lv' := [(5, .ref q9), (0, .ref a0), (1, .int p1), (2, .int p2), (3, .int p3), (4, .ref o)]) hx hb dL_put_23 hl (by decide) rfl (fun ls hl => ?_)
      refine lv_iconst (v := 3) hx hb dL_put_25 (by decide) ?_
      exact e_no rfl hx hb hr hlocks hz9 hH.1 hk9 (hH.oa hO ho ho2) hH.2.1.al dL_put_26
  | inl u =>
    refine r_xVok (As := [.int p1, .int p2, .int p3]) (S' := u.1) (v := some (.int u.2)) (st1 := [.int u.2, .int 0, .ref o]) ⟨hx, hb, hml, hown, hts⟩ (c_X9_put l hst9 D S a0 p1 p2 p3 (.inl u) hf) (cwV 3 hts (gwV gw_39_3 gw_39_4 gw_39_5 gw_14_5 gw_22_11) rfl rfl rfl (by decide +kernel) ⟨Nat.le_of_ble_eq_true rfl, Nat.le_of_ble_eq_true rfl⟩) hH hE hB hNE 12 hek (by decide) rfl rfl rfl hl.1 rfl (Nat.le_of_ble_eq_true rfl) dL_put_7 ⟨Nat.le_of_ble_eq_true rfl, Nat.le_of_ble_eq_true rfl⟩ rfl (fun H locs hH => ?_)
    refine lv_i2l hx hb dL_put_10 rfl ?_
    refine r_last hx hb (hH.oa hO ho ho2) dL_put_11 (fun H1 k hO1 hz1 oq1 => ?_)
    refine lv_goto (tgt := 27) hx hb dL_put_12 (by decide) ?_
    refine lv_iconst (v := 0) hx hb dL_put_27 (by decide) ?_
    exact e_ok (u := (u.1, .long u.2.toInt64)) hx hb hr hlocks (hH.1.other ((hH.2.2.1.1 o ho2).trans ho) hDo hz1 oq1) hH.2.2.1 hO1 (hH.2.1.al.put hz1 oq1 (Or.inr rfl)) dL_put_28
abbrev rmL_take : Room := { frames := 8, cells := 1, slots := 6, locals := 132 }
set_option maxHeartbeats 4000000 in
set_option maxRecDepth 100000 in
theorem w_take (l : Launch) (hst9 : l.stackTraces = false) (D : va_G × Nat) (S : PS) (a0 : Nat) (p1 : Int32) (o : Nat) (ho : kK S o = 0) (ho2 : o < kZ S) (hDo : D.2 ≤ o) (hek : kK S a0 = 13) (r : (PS × Int32) ⊕ (PS × Nat)) (hf : f_X9_take S a0 p1 = some r) (hj : ∀ x, r = .inr x → x.2 = 3) : LM l D yL_take wsL_take rmL_take S [.ref a0, .int p1, .ref o] .long o (wI9 r) (fun _ => 1) 1 6 := by
  refine vx_ofWH (cc := cL_take) (maxL := 4) (ret := some .int) (by decide) rfl ?_
  intro p e s m args below meth c s₁ B hml hv
  obtain ⟨rfl, hH0, hE, hNE, hCN, w0, hO⟩ := hv
  have hB := hH0.base
  have hx := B.exec
  have hb := B.bytes
  have hr := B.returns
  have hts := atoms_spec (ws := wsL_take) B.pre
  have hown : s.vm.findClass RL = some m.cls := findClass_of_methodNamed B.named
  have hlocks := B.notSynchronized
  have hxt := vx_table (x := yL_take) B (hts _ List.mem_cons_self)
  have hH : HI D S S s s.heap [] := HI.start hH0
  have hl := lv_entry ([.ref a0, .int p1, .ref o]) (n := 4) (Nat.le_of_ble_eq_true rfl)
  rw [lg_entry_eq]
  generalize (lg_sl ([.ref a0, .int p1, .ref o]) ++ List.replicate (4 - (lg_sl ([.ref a0, .int p1, .ref o])).length) Slot.unset).toArray = ls at hl ⊢
  have hl : lv_has ls 4 [(0, .ref a0), (1, .int p1), (2, .ref o)] := hl
  refine lv_aload_n hx hb dL_take_0 rfl (lv_at hl 2 rfl) ?_
  refine lv_iconst (v := 0) hx hb dL_take_1 (by decide) ?_
  refine lv_aload_n hx hb dL_take_2 rfl (lv_at hl 0 rfl) ?_
  refine lv_iload_n hx hb dL_take_3 rfl (lv_at hl 1 rfl) ?_
  cases r with
  | inr x =>
    obtain ⟨xS, xk⟩ := x
    refine r_xVex (As := [.int p1]) ⟨hx, hb, hml, hown, hts⟩ (c_X9_take l hst9 D S a0 p1 (.inr (xS, xk)) hf) (cwV 1 hts (gwV gw_39_7 gw_39_8 gw_39_9 gw_14_5 gw_23_5) rfl rfl rfl (by decide +kernel) ⟨Nat.le_of_ble_eq_true rfl, Nat.le_of_ble_eq_true rfl⟩) hH hE hB hNE 12 hek (by decide) rfl rfl rfl hl.1 rfl (Nat.le_of_ble_eq_true rfl) dL_take_4 ⟨Nat.le_of_ble_eq_true rfl, Nat.le_of_ble_eq_true rfl⟩ (fun z9 ce9 q9 H locs hH hk9 hz9 h91 h92 h93 => ?_)
    have hj9 := hj _ rfl
    simp only at hj9
    subst hj9
    · refine vx_catch (E := exN 3) hown [] ⟨0, 9, 12, 21⟩ [] (by rw [hxt]; rfl) (fun _ h => absurd h List.not_mem_nil) rfl (by decide) (hts (.classLink RL 21 "java/lang/IndexOutOfBoundsException") (List.mem_cons_of_mem _ gw_39_2)) (va_Nw.use rfl (hCN.1 3 (by decide) (by decide))) h91 h92 h93 ?_
      refine lv_astore_n (lv' := [(3, .ref q9), (0, .ref a0), (1, .int p1), (2, .ref o)]) hx hb dL_take_12 rfl hl (by decide) rfl (fun ls hl => ?_)
      refine lv_iconst (v := 1) hx hb dL_take_13 (by decide) ?_
      exact e_no rfl hx hb hr hlocks hz9 hH.1 hk9 (hH.oa hO ho ho2) hH.2.1.al dL_take_14
  | inl u =>
    refine r_xVok (As := [.int p1]) (S' := u.1) (v := some (.int u.2)) (st1 := [.int u.2, .int 0, .ref o]) ⟨hx, hb, hml, hown, hts⟩ (c_X9_take l hst9 D S a0 p1 (.inl u) hf) (cwV 1 hts (gwV gw_39_7 gw_39_8 gw_39_9 gw_14_5 gw_23_5) rfl rfl rfl (by decide +kernel) ⟨Nat.le_of_ble_eq_true rfl, Nat.le_of_ble_eq_true rfl⟩) hH hE hB hNE 12 hek (by decide) rfl rfl rfl hl.1 rfl (Nat.le_of_ble_eq_true rfl) dL_take_4 ⟨Nat.le_of_ble_eq_true rfl, Nat.le_of_ble_eq_true rfl⟩ rfl (fun H locs hH => ?_)
    refine lv_i2l hx hb dL_take_7 rfl ?_
    refine r_last hx hb (hH.oa hO ho ho2) dL_take_8 (fun H1 k hO1 hz1 oq1 => ?_)
    refine lv_goto (tgt := 15) hx hb dL_take_9 (by decide) ?_
    refine lv_iconst (v := 0) hx hb dL_take_15 (by decide) ?_
    exact e_ok (u := (u.1, .long u.2.toInt64)) hx hb hr hlocks (hH.1.other ((hH.2.2.1.1 o ho2).trans ho) hDo hz1 oq1) hH.2.2.1 hO1 (hH.2.1.al.put hz1 oq1 (Or.inr rfl)) dL_take_16
abbrev rmL_at : Room := { frames := 8, cells := 1, slots := 6, locals := 132 }
set_option maxHeartbeats 4000000 in
set_option maxRecDepth 100000 in
theorem w_at (l : Launch) (hst9 : l.stackTraces = false) (D : va_G × Nat) (S : PS) (a0 : Nat) (p1 : Int32) (o : Nat) (ho : kK S o = 0) (ho2 : o < kZ S) (hDo : D.2 ≤ o) (hek : kK S a0 = 13) (r : (PS × Int32) ⊕ (PS × Nat)) (hf : f_X9_at S a0 p1 = some r) (hj : ∀ x, r = .inr x → x.2 = 3) : LM l D yL_at wsL_at rmL_at S [.ref a0, .int p1, .ref o] .long o (wI9 r) (fun _ => 1) 1 6 := by
  refine vx_ofWH (cc := cL_at) (maxL := 4) (ret := some .int) (by decide) rfl ?_
  intro p e s m args below meth c s₁ B hml hv
  obtain ⟨rfl, hH0, hE, hNE, hCN, w0, hO⟩ := hv
  have hB := hH0.base
  have hx := B.exec
  have hb := B.bytes
  have hr := B.returns
  have hts := atoms_spec (ws := wsL_at) B.pre
  have hown : s.vm.findClass RL = some m.cls := findClass_of_methodNamed B.named
  have hlocks := B.notSynchronized
  have hxt := vx_table (x := yL_at) B (hts _ List.mem_cons_self)
  have hH : HI D S S s s.heap [] := HI.start hH0
  have hl := lv_entry ([.ref a0, .int p1, .ref o]) (n := 4) (Nat.le_of_ble_eq_true rfl)
  rw [lg_entry_eq]
  generalize (lg_sl ([.ref a0, .int p1, .ref o]) ++ List.replicate (4 - (lg_sl ([.ref a0, .int p1, .ref o])).length) Slot.unset).toArray = ls at hl ⊢
  have hl : lv_has ls 4 [(0, .ref a0), (1, .int p1), (2, .ref o)] := hl
  refine lv_aload_n hx hb dL_at_0 rfl (lv_at hl 2 rfl) ?_
  refine lv_iconst (v := 0) hx hb dL_at_1 (by decide) ?_
  refine lv_aload_n hx hb dL_at_2 rfl (lv_at hl 0 rfl) ?_
  refine lv_iload_n hx hb dL_at_3 rfl (lv_at hl 1 rfl) ?_
  cases r with
  | inr x =>
    obtain ⟨xS, xk⟩ := x
    refine r_xVex (As := [.int p1]) ⟨hx, hb, hml, hown, hts⟩ (c_X9_at l hst9 D S a0 p1 (.inr (xS, xk)) hf) (cwV 1 hts (gwV gw_39_11 gw_39_12 gw_39_13 gw_14_5 gw_23_12) rfl rfl rfl (by decide +kernel) ⟨Nat.le_of_ble_eq_true rfl, Nat.le_of_ble_eq_true rfl⟩) hH hE hB hNE 12 hek (by decide) rfl rfl rfl hl.1 rfl (Nat.le_of_ble_eq_true rfl) dL_at_4 ⟨Nat.le_of_ble_eq_true rfl, Nat.le_of_ble_eq_true rfl⟩ (fun z9 ce9 q9 H locs hH hk9 hz9 h91 h92 h93 => ?_)
    have hj9 := hj _ rfl
    simp only at hj9
    subst hj9
    · refine vx_catch (E := exN 3) hown [] ⟨0, 9, 12, 21⟩ [] (by rw [hxt]; rfl) (fun _ h => absurd h List.not_mem_nil) rfl (by decide) (hts (.classLink RL 21 "java/lang/IndexOutOfBoundsException") (List.mem_cons_of_mem _ gw_39_2)) (va_Nw.use rfl (hCN.1 3 (by decide) (by decide))) h91 h92 h93 ?_
      refine lv_astore_n (lv' := [(3, .ref q9), (0, .ref a0), (1, .int p1), (2, .ref o)]) hx hb dL_at_12 rfl hl (by decide) rfl (fun ls hl => ?_)
      refine lv_iconst (v := 1) hx hb dL_at_13 (by decide) ?_
      exact e_no rfl hx hb hr hlocks hz9 hH.1 hk9 (hH.oa hO ho ho2) hH.2.1.al dL_at_14
  | inl u =>
    refine r_xVok (As := [.int p1]) (S' := u.1) (v := some (.int u.2)) (st1 := [.int u.2, .int 0, .ref o]) ⟨hx, hb, hml, hown, hts⟩ (c_X9_at l hst9 D S a0 p1 (.inl u) hf) (cwV 1 hts (gwV gw_39_11 gw_39_12 gw_39_13 gw_14_5 gw_23_12) rfl rfl rfl (by decide +kernel) ⟨Nat.le_of_ble_eq_true rfl, Nat.le_of_ble_eq_true rfl⟩) hH hE hB hNE 12 hek (by decide) rfl rfl rfl hl.1 rfl (Nat.le_of_ble_eq_true rfl) dL_at_4 ⟨Nat.le_of_ble_eq_true rfl, Nat.le_of_ble_eq_true rfl⟩ rfl (fun H locs hH => ?_)
    refine lv_i2l hx hb dL_at_7 rfl ?_
    refine r_last hx hb (hH.oa hO ho ho2) dL_at_8 (fun H1 k hO1 hz1 oq1 => ?_)
    refine lv_goto (tgt := 15) hx hb dL_at_9 (by decide) ?_
    refine lv_iconst (v := 0) hx hb dL_at_15 (by decide) ?_
    exact e_ok (u := (u.1, .long u.2.toInt64)) hx hb hr hlocks (hH.1.other ((hH.2.2.1.1 o ho2).trans ho) hDo hz1 oq1) hH.2.2.1 hO1 (hH.2.1.al.put hz1 oq1 (Or.inr rfl)) dL_at_16
abbrev rmL_rule : Room := { frames := 11, cells := 93, slots := 4545, locals := 308 }
set_option maxHeartbeats 4000000 in
set_option maxRecDepth 100000 in
theorem w_rule (l : Launch) (hst9 : l.stackTraces = false) (D : va_G × Nat) (S : PS) (a0 : Nat) (p1 : Int32) (p2 : Int32) (p3 : Int32) (o : Nat) (ho : kK S o = 0) (ho2 : o < kZ S) (hDo : D.2 ≤ o) (hek : kK S a0 = 13) (r : (PS × Int32) ⊕ (PS × Nat)) (hf : f_X9_rule S a0 p1 p2 p3 = some r) (hj : ∀ x, r = .inr x → x.2 = 1 ∨ x.2 = 4 ∨ x.2 = 2) : LM l D yL_rule wsL_rule rmL_rule S [.ref a0, .int p1, .int p2, .int p3, .ref o] .long o (wI9 r) (fun k => if k = 1 then 1 else if k = 4 then 2 else 3) 93 4545 := by
  refine vx_ofWH (cc := cL_rule) (maxL := 6) (ret := some .int) (by decide) rfl ?_
  intro p e s m args below meth c s₁ B hml hv
  obtain ⟨rfl, hH0, hE, hNE, hCN, w0, hO⟩ := hv
  have hB := hH0.base
  have hx := B.exec
  have hb := B.bytes
  have hr := B.returns
  have hts := atoms_spec (ws := wsL_rule) B.pre
  have hown : s.vm.findClass RL = some m.cls := findClass_of_methodNamed B.named
  have hlocks := B.notSynchronized
  have hxt := vx_table (x := yL_rule) B (hts _ List.mem_cons_self)
  have hH : HI D S S s s.heap [] := HI.start hH0
  have hl := lv_entry ([.ref a0, .int p1, .int p2, .int p3, .ref o]) (n := 6) (Nat.le_of_ble_eq_true rfl)
  rw [lg_entry_eq]
  generalize (lg_sl ([.ref a0, .int p1, .int p2, .int p3, .ref o]) ++ List.replicate (6 - (lg_sl ([.ref a0, .int p1, .int p2, .int p3, .ref o])).length) Slot.unset).toArray = ls at hl ⊢
  have hl : lv_has ls 6 [(0, .ref a0), (1, .int p1), (2, .int p2), (3, .int p3), (4, .ref o)] := hl
  refine lv_aload hx hb dL_rule_0 (lv_at hl 4 rfl) ?_
  refine lv_iconst (v := 0) hx hb dL_rule_2 (by decide) ?_
  refine lv_aload_n hx hb dL_rule_3 rfl (lv_at hl 0 rfl) ?_
  refine lv_iload_n hx hb dL_rule_4 rfl (lv_at hl 1 rfl) ?_
  refine lv_iload_n hx hb dL_rule_5 rfl (lv_at hl 2 rfl) ?_
  refine lv_iload_n hx hb dL_rule_6 rfl (lv_at hl 3 rfl) ?_
  cases r with
  | inr x =>
    obtain ⟨xS, xk⟩ := x
    refine r_xVex (As := [.int p1, .int p2, .int p3]) ⟨hx, hb, hml, hown, hts⟩ (c_X9_rule l hst9 D S a0 p1 p2 p3 (.inr (xS, xk)) hf) (cwV 3 hts (gwV gw_39_16 gw_39_17 gw_39_18 gw_14_5 gw_23_18) rfl rfl rfl (by decide +kernel) ⟨Nat.le_of_ble_eq_true rfl, Nat.le_of_ble_eq_true rfl⟩) hH hE hB hNE 12 hek (by decide) rfl rfl rfl hl.1 rfl (Nat.le_of_ble_eq_true rfl) dL_rule_7 ⟨Nat.le_of_ble_eq_true rfl, Nat.le_of_ble_eq_true rfl⟩ (fun z9 ce9 q9 H locs hH hk9 hz9 h91 h92 h93 => ?_)
    have hj9 := hj _ rfl
    simp only at hj9
    rcases hj9 with rfl | rfl | rfl
    · refine vx_catch (E := exN 1) hown [] ⟨0, 12, 15, 13⟩ [⟨0, 12, 19, 34⟩, ⟨0, 12, 23, 15⟩] (by rw [hxt]; rfl) (fun _ h => absurd h List.not_mem_nil) rfl (by decide) (hts (.classLink RL 13 "java/lang/IllegalArgumentException") (List.mem_cons_of_mem _ gw_38_20)) (va_Nw.use rfl (hCN.1 1 (by decide) (by decide))) h91 h92 h93 ?_
      refine lv_astore (lv' := [(5, .ref q9), (0, .ref a0), (1, .int p1), (2, .int p2), (3, .int p3), (4, .ref o)]) hx hb dL_rule_15 hl (by decide) rfl (fun ls hl => ?_)
      refine lv_iconst (v := 1) hx hb dL_rule_17 (by decide) ?_
      exact e_no rfl hx hb hr hlocks hz9 hH.1 hk9 (hH.oa hO ho ho2) hH.2.1.al dL_rule_18
    · refine vx_catch (E := exN 4) hown [⟨0, 12, 15, 13⟩] ⟨0, 12, 19, 34⟩ [⟨0, 12, 23, 15⟩] (by rw [hxt]; rfl) (List.forall_mem_cons.mpr ⟨Or.inr ⟨by decide, _, (hts (.classLink RL 13 "java/lang/IllegalArgumentException") (List.mem_cons_of_mem _ gw_38_20)), hCN.2 4 1 (by decide) (by decide) (by decide) (by decide) (by decide)⟩, fun _ h => absurd h List.not_mem_nil⟩) rfl (by decide) (hts (.classLink RL 34 "java/lang/UnsupportedOperationException") (List.mem_cons_of_mem _ gw_39_15)) (va_Nw.use rfl (hCN.1 4 (by decide) (by decide))) h91 h92 h93 ?_
      refine lv_astore (lv' := [(5, .ref q9), (0, .ref a0), (1, .int p1), (2, .int p2), (3, .int p3), (4, .ref o)]) hx hb dL_rule_19 hl (by decide) rfl (fun ls hl => ?_)
      refine lv_iconst (v := 2) hx hb dL_rule_21 (by decide) ?_
      exact e_no rfl hx hb hr hlocks hz9 hH.1 hk9 (hH.oa hO ho ho2) hH.2.1.al dL_rule_22
    · refine vx_catch (E := exN 2) hown [⟨0, 12, 15, 13⟩, ⟨0, 12, 19, 34⟩] ⟨0, 12, 23, 15⟩ [] (by rw [hxt]; rfl) (List.forall_mem_cons.mpr ⟨Or.inr ⟨by decide, _, (hts (.classLink RL 13 "java/lang/IllegalArgumentException") (List.mem_cons_of_mem _ gw_38_20)), hCN.2 2 1 (by decide) (by decide) (by decide) (by decide) (by decide)⟩, List.forall_mem_cons.mpr ⟨Or.inr ⟨by decide, _, (hts (.classLink RL 34 "java/lang/UnsupportedOperationException") (List.mem_cons_of_mem _ gw_39_15)), hCN.2 2 4 (by decide) (by decide) (by decide) (by decide) (by decide)⟩, fun _ h => absurd h List.not_mem_nil⟩⟩) rfl (by decide) (hts (.classLink RL 15 "java/lang/IllegalStateException") (List.mem_cons_of_mem _ gw_38_21)) (va_Nw.use rfl (hCN.1 2 (by decide) (by decide))) h91 h92 h93 ?_
      refine lv_astore (lv' := [(5, .ref q9), (0, .ref a0), (1, .int p1), (2, .int p2), (3, .int p3), (4, .ref o)]) hx hb dL_rule_23 hl (by decide) rfl (fun ls hl => ?_)
      refine lv_iconst (v := 3) hx hb dL_rule_25 (by decide) ?_
      exact e_no rfl hx hb hr hlocks hz9 hH.1 hk9 (hH.oa hO ho ho2) hH.2.1.al dL_rule_26
  | inl u =>
    refine r_xVok (As := [.int p1, .int p2, .int p3]) (S' := u.1) (v := some (.int u.2)) (st1 := [.int u.2, .int 0, .ref o]) ⟨hx, hb, hml, hown, hts⟩ (c_X9_rule l hst9 D S a0 p1 p2 p3 (.inl u) hf) (cwV 3 hts (gwV gw_39_16 gw_39_17 gw_39_18 gw_14_5 gw_23_18) rfl rfl rfl (by decide +kernel) ⟨Nat.le_of_ble_eq_true rfl, Nat.le_of_ble_eq_true rfl⟩) hH hE hB hNE 12 hek (by decide) rfl rfl rfl hl.1 rfl (Nat.le_of_ble_eq_true rfl) dL_rule_7 ⟨Nat.le_of_ble_eq_true rfl, Nat.le_of_ble_eq_true rfl⟩ rfl (fun H locs hH => ?_)
    refine lv_i2l hx hb dL_rule_10 rfl ?_
    refine r_last hx hb (hH.oa hO ho ho2) dL_rule_11 (fun H1 k hO1 hz1 oq1 => ?_)
    refine lv_goto (tgt := 27) hx hb dL_rule_12 (by decide) ?_
    refine lv_iconst (v := 0) hx hb dL_rule_27 (by decide) ?_
    exact e_ok (u := (u.1, .long u.2.toInt64)) hx hb hr hlocks (hH.1.other ((hH.2.2.1.1 o ho2).trans ho) hDo hz1 oq1) hH.2.2.1 hO1 (hH.2.1.al.put hz1 oq1 (Or.inr rfl)) dL_rule_28
abbrev rmL_except : Room := { frames := 10, cells := 4, slots := 208, locals := 280 }
set_option maxHeartbeats 4000000 in
set_option maxRecDepth 100000 in
theorem w_except (l : Launch) (hst9 : l.stackTraces = false) (D : va_G × Nat) (S : PS) (a0 : Nat) (p1 : Int32) (o : Nat) (ho : kK S o = 0) (ho2 : o < kZ S) (hDo : D.2 ≤ o) (hek : kK S a0 = 13) (r : (PS × Int32) ⊕ (PS × Nat)) (hf : f_X9_except S a0 p1 = some r) (hj : ∀ x, r = .inr x → x.2 = 3 ∨ x.2 = 4 ∨ x.2 = 2) : LM l D yL_except wsL_except rmL_except S [.ref a0, .int p1, .ref o] .long o (wI9 r) (fun k => if k = 3 then 1 else if k = 4 then 2 else 3) 4 208 := by
  refine vx_ofWH (cc := cL_except) (maxL := 4) (ret := some .int) (by decide) rfl ?_
  intro p e s m args below meth c s₁ B hml hv
  obtain ⟨rfl, hH0, hE, hNE, hCN, w0, hO⟩ := hv
  have hB := hH0.base
  have hx := B.exec
  have hb := B.bytes
  have hr := B.returns
  have hts := atoms_spec (ws := wsL_except) B.pre
  have hown : s.vm.findClass RL = some m.cls := findClass_of_methodNamed B.named
  have hlocks := B.notSynchronized
  have hxt := vx_table (x := yL_except) B (hts _ List.mem_cons_self)
  have hH : HI D S S s s.heap [] := HI.start hH0
  have hl := lv_entry ([.ref a0, .int p1, .ref o]) (n := 4) (Nat.le_of_ble_eq_true rfl)
  rw [lg_entry_eq]
  generalize (lg_sl ([.ref a0, .int p1, .ref o]) ++ List.replicate (4 - (lg_sl ([.ref a0, .int p1, .ref o])).length) Slot.unset).toArray = ls at hl ⊢
  have hl : lv_has ls 4 [(0, .ref a0), (1, .int p1), (2, .ref o)] := hl
  refine lv_aload_n hx hb dL_except_0 rfl (lv_at hl 2 rfl) ?_
  refine lv_iconst (v := 0) hx hb dL_except_1 (by decide) ?_
  refine lv_aload_n hx hb dL_except_2 rfl (lv_at hl 0 rfl) ?_
  refine lv_iload_n hx hb dL_except_3 rfl (lv_at hl 1 rfl) ?_
  cases r with
  | inr x =>
    obtain ⟨xS, xk⟩ := x
    refine r_xVex (As := [.int p1]) ⟨hx, hb, hml, hown, hts⟩ (c_X9_except l hst9 D S a0 p1 (.inr (xS, xk)) hf) (cwV 1 hts (gwV gw_39_20 gw_39_21 gw_39_22 gw_14_5 gw_24_8) rfl rfl rfl (by decide +kernel) ⟨Nat.le_of_ble_eq_true rfl, Nat.le_of_ble_eq_true rfl⟩) hH hE hB hNE 12 hek (by decide) rfl rfl rfl hl.1 rfl (Nat.le_of_ble_eq_true rfl) dL_except_4 ⟨Nat.le_of_ble_eq_true rfl, Nat.le_of_ble_eq_true rfl⟩ (fun z9 ce9 q9 H locs hH hk9 hz9 h91 h92 h93 => ?_)
    have hj9 := hj _ rfl
    simp only at hj9
    rcases hj9 with rfl | rfl | rfl
    · refine vx_catch (E := exN 3) hown [] ⟨0, 9, 12, 21⟩ [⟨0, 9, 15, 34⟩, ⟨0, 9, 18, 15⟩] (by rw [hxt]; rfl) (fun _ h => absurd h List.not_mem_nil) rfl (by decide) (hts (.classLink RL 21 "java/lang/IndexOutOfBoundsException") (List.mem_cons_of_mem _ gw_39_2)) (va_Nw.use rfl (hCN.1 3 (by decide) (by decide))) h91 h92 h93 ?_
      refine lv_astore_n (lv' := [(3, .ref q9), (0, .ref a0), (1, .int p1), (2, .ref o)]) hx hb dL_except_12 rfl hl (by decide) rfl (fun ls hl => ?_)
      refine lv_iconst (v := 1) hx hb dL_except_13 (by decide) ?_
      exact e_no rfl hx hb hr hlocks hz9 hH.1 hk9 (hH.oa hO ho ho2) hH.2.1.al dL_except_14
    · refine vx_catch (E := exN 4) hown [⟨0, 9, 12, 21⟩] ⟨0, 9, 15, 34⟩ [⟨0, 9, 18, 15⟩] (by rw [hxt]; rfl) (List.forall_mem_cons.mpr ⟨Or.inr ⟨by decide, _, (hts (.classLink RL 21 "java/lang/IndexOutOfBoundsException") (List.mem_cons_of_mem _ gw_39_2)), hCN.2 4 3 (by decide) (by decide) (by decide) (by decide) (by decide)⟩, fun _ h => absurd h List.not_mem_nil⟩) rfl (by decide) (hts (.classLink RL 34 "java/lang/UnsupportedOperationException") (List.mem_cons_of_mem _ gw_39_15)) (va_Nw.use rfl (hCN.1 4 (by decide) (by decide))) h91 h92 h93 ?_
      refine lv_astore_n (lv' := [(3, .ref q9), (0, .ref a0), (1, .int p1), (2, .ref o)]) hx hb dL_except_15 rfl hl (by decide) rfl (fun ls hl => ?_)
      refine lv_iconst (v := 2) hx hb dL_except_16 (by decide) ?_
      exact e_no rfl hx hb hr hlocks hz9 hH.1 hk9 (hH.oa hO ho ho2) hH.2.1.al dL_except_17
    · refine vx_catch (E := exN 2) hown [⟨0, 9, 12, 21⟩, ⟨0, 9, 15, 34⟩] ⟨0, 9, 18, 15⟩ [] (by rw [hxt]; rfl) (List.forall_mem_cons.mpr ⟨Or.inr ⟨by decide, _, (hts (.classLink RL 21 "java/lang/IndexOutOfBoundsException") (List.mem_cons_of_mem _ gw_39_2)), hCN.2 2 3 (by decide) (by decide) (by decide) (by decide) (by decide)⟩, List.forall_mem_cons.mpr ⟨Or.inr ⟨by decide, _, (hts (.classLink RL 34 "java/lang/UnsupportedOperationException") (List.mem_cons_of_mem _ gw_39_15)), hCN.2 2 4 (by decide) (by decide) (by decide) (by decide) (by decide)⟩, fun _ h => absurd h List.not_mem_nil⟩⟩) rfl (by decide) (hts (.classLink RL 15 "java/lang/IllegalStateException") (List.mem_cons_of_mem _ gw_38_21)) (va_Nw.use rfl (hCN.1 2 (by decide) (by decide))) h91 h92 h93 ?_
      refine lv_astore_n (lv' := [(3, .ref q9), (0, .ref a0), (1, .int p1), (2, .ref o)]) hx hb dL_except_18 rfl hl (by decide) rfl (fun ls hl => ?_)
      refine lv_iconst (v := 3) hx hb dL_except_19 (by decide) ?_
      exact e_no rfl hx hb hr hlocks hz9 hH.1 hk9 (hH.oa hO ho ho2) hH.2.1.al dL_except_20
  | inl u =>
    refine r_xVok (As := [.int p1]) (S' := u.1) (v := some (.int u.2)) (st1 := [.int u.2, .int 0, .ref o]) ⟨hx, hb, hml, hown, hts⟩ (c_X9_except l hst9 D S a0 p1 (.inl u) hf) (cwV 1 hts (gwV gw_39_20 gw_39_21 gw_39_22 gw_14_5 gw_24_8) rfl rfl rfl (by decide +kernel) ⟨Nat.le_of_ble_eq_true rfl, Nat.le_of_ble_eq_true rfl⟩) hH hE hB hNE 12 hek (by decide) rfl rfl rfl hl.1 rfl (Nat.le_of_ble_eq_true rfl) dL_except_4 ⟨Nat.le_of_ble_eq_true rfl, Nat.le_of_ble_eq_true rfl⟩ rfl (fun H locs hH => ?_)
    refine lv_i2l hx hb dL_except_7 rfl ?_
    refine r_last hx hb (hH.oa hO ho ho2) dL_except_8 (fun H1 k hO1 hz1 oq1 => ?_)
    refine lv_goto (tgt := 21) hx hb dL_except_9 (by decide) ?_
    refine lv_iconst (v := 0) hx hb dL_except_21 (by decide) ?_
    exact e_ok (u := (u.1, .long u.2.toInt64)) hx hb hr hlocks (hH.1.other ((hH.2.2.1.1 o ho2).trans ho) hDo hz1 oq1) hH.2.2.1 hO1 (hH.2.1.al.put hz1 oq1 (Or.inr rfl)) dL_except_22
abbrev rmL_suggest : Room := { frames := 10, cells := 4, slots := 208, locals := 280 }
set_option maxHeartbeats 4000000 in
set_option maxRecDepth 100000 in
theorem w_suggest (l : Launch) (hst9 : l.stackTraces = false) (D : va_G × Nat) (S : PS) (a0 : Nat) (p1 : Int32) (o : Nat) (ho : kK S o = 0) (ho2 : o < kZ S) (hDo : D.2 ≤ o) (hek : kK S a0 = 13) (r : (PS × Int32) ⊕ (PS × Nat)) (hf : f_X9_suggest S a0 p1 = some r) (hj : ∀ x, r = .inr x → x.2 = 3 ∨ x.2 = 4 ∨ x.2 = 2) : LM l D yL_suggest wsL_suggest rmL_suggest S [.ref a0, .int p1, .ref o] .long o (wI9 r) (fun k => if k = 3 then 1 else if k = 4 then 2 else 3) 4 208 := by
  refine vx_ofWH (cc := cL_suggest) (maxL := 4) (ret := some .int) (by decide) rfl ?_
  intro p e s m args below meth c s₁ B hml hv
  obtain ⟨rfl, hH0, hE, hNE, hCN, w0, hO⟩ := hv
  have hB := hH0.base
  have hx := B.exec
  have hb := B.bytes
  have hr := B.returns
  have hts := atoms_spec (ws := wsL_suggest) B.pre
  have hown : s.vm.findClass RL = some m.cls := findClass_of_methodNamed B.named
  have hlocks := B.notSynchronized
  have hxt := vx_table (x := yL_suggest) B (hts _ List.mem_cons_self)
  have hH : HI D S S s s.heap [] := HI.start hH0
  have hl := lv_entry ([.ref a0, .int p1, .ref o]) (n := 4) (Nat.le_of_ble_eq_true rfl)
  rw [lg_entry_eq]
  generalize (lg_sl ([.ref a0, .int p1, .ref o]) ++ List.replicate (4 - (lg_sl ([.ref a0, .int p1, .ref o])).length) Slot.unset).toArray = ls at hl ⊢
  have hl : lv_has ls 4 [(0, .ref a0), (1, .int p1), (2, .ref o)] := hl
  refine lv_aload_n hx hb dL_suggest_0 rfl (lv_at hl 2 rfl) ?_
  refine lv_iconst (v := 0) hx hb dL_suggest_1 (by decide) ?_
  refine lv_aload_n hx hb dL_suggest_2 rfl (lv_at hl 0 rfl) ?_
  refine lv_iload_n hx hb dL_suggest_3 rfl (lv_at hl 1 rfl) ?_
  cases r with
  | inr x =>
    obtain ⟨xS, xk⟩ := x
    refine r_xVex (As := [.int p1]) ⟨hx, hb, hml, hown, hts⟩ (c_X9_suggest l hst9 D S a0 p1 (.inr (xS, xk)) hf) (cwV 1 hts (gwV gw_40_0 gw_40_1 gw_40_2 gw_14_5 gw_24_14) rfl rfl rfl (by decide +kernel) ⟨Nat.le_of_ble_eq_true rfl, Nat.le_of_ble_eq_true rfl⟩) hH hE hB hNE 12 hek (by decide) rfl rfl rfl hl.1 rfl (Nat.le_of_ble_eq_true rfl) dL_suggest_4 ⟨Nat.le_of_ble_eq_true rfl, Nat.le_of_ble_eq_true rfl⟩ (fun z9 ce9 q9 H locs hH hk9 hz9 h91 h92 h93 => ?_)
    have hj9 := hj _ rfl
    simp only at hj9
    rcases hj9 with rfl | rfl | rfl
    · refine vx_catch (E := exN 3) hown [] ⟨0, 9, 12, 21⟩ [⟨0, 9, 15, 34⟩, ⟨0, 9, 18, 15⟩] (by rw [hxt]; rfl) (fun _ h => absurd h List.not_mem_nil) rfl (by decide) (hts (.classLink RL 21 "java/lang/IndexOutOfBoundsException") (List.mem_cons_of_mem _ gw_39_2)) (va_Nw.use rfl (hCN.1 3 (by decide) (by decide))) h91 h92 h93 ?_
      refine lv_astore_n (lv' := [(3, .ref q9), (0, .ref a0), (1, .int p1), (2, .ref o)]) hx hb dL_suggest_12 rfl hl (by decide) rfl (fun ls hl => ?_)
      refine lv_iconst (v := 1) hx hb dL_suggest_13 (by decide) ?_
      exact e_no rfl hx hb hr hlocks hz9 hH.1 hk9 (hH.oa hO ho ho2) hH.2.1.al dL_suggest_14
    · refine vx_catch (E := exN 4) hown [⟨0, 9, 12, 21⟩] ⟨0, 9, 15, 34⟩ [⟨0, 9, 18, 15⟩] (by rw [hxt]; rfl) (List.forall_mem_cons.mpr ⟨Or.inr ⟨by decide, _, (hts (.classLink RL 21 "java/lang/IndexOutOfBoundsException") (List.mem_cons_of_mem _ gw_39_2)), hCN.2 4 3 (by decide) (by decide) (by decide) (by decide) (by decide)⟩, fun _ h => absurd h List.not_mem_nil⟩) rfl (by decide) (hts (.classLink RL 34 "java/lang/UnsupportedOperationException") (List.mem_cons_of_mem _ gw_39_15)) (va_Nw.use rfl (hCN.1 4 (by decide) (by decide))) h91 h92 h93 ?_
      refine lv_astore_n (lv' := [(3, .ref q9), (0, .ref a0), (1, .int p1), (2, .ref o)]) hx hb dL_suggest_15 rfl hl (by decide) rfl (fun ls hl => ?_)
      refine lv_iconst (v := 2) hx hb dL_suggest_16 (by decide) ?_
      exact e_no rfl hx hb hr hlocks hz9 hH.1 hk9 (hH.oa hO ho ho2) hH.2.1.al dL_suggest_17
    · refine vx_catch (E := exN 2) hown [⟨0, 9, 12, 21⟩, ⟨0, 9, 15, 34⟩] ⟨0, 9, 18, 15⟩ [] (by rw [hxt]; rfl) (List.forall_mem_cons.mpr ⟨Or.inr ⟨by decide, _, (hts (.classLink RL 21 "java/lang/IndexOutOfBoundsException") (List.mem_cons_of_mem _ gw_39_2)), hCN.2 2 3 (by decide) (by decide) (by decide) (by decide) (by decide)⟩, List.forall_mem_cons.mpr ⟨Or.inr ⟨by decide, _, (hts (.classLink RL 34 "java/lang/UnsupportedOperationException") (List.mem_cons_of_mem _ gw_39_15)), hCN.2 2 4 (by decide) (by decide) (by decide) (by decide) (by decide)⟩, fun _ h => absurd h List.not_mem_nil⟩⟩) rfl (by decide) (hts (.classLink RL 15 "java/lang/IllegalStateException") (List.mem_cons_of_mem _ gw_38_21)) (va_Nw.use rfl (hCN.1 2 (by decide) (by decide))) h91 h92 h93 ?_
      refine lv_astore_n (lv' := [(3, .ref q9), (0, .ref a0), (1, .int p1), (2, .ref o)]) hx hb dL_suggest_18 rfl hl (by decide) rfl (fun ls hl => ?_)
      refine lv_iconst (v := 3) hx hb dL_suggest_19 (by decide) ?_
      exact e_no rfl hx hb hr hlocks hz9 hH.1 hk9 (hH.oa hO ho ho2) hH.2.1.al dL_suggest_20
  | inl u =>
    refine r_xVok (As := [.int p1]) (S' := u.1) (v := some (.int u.2)) (st1 := [.int u.2, .int 0, .ref o]) ⟨hx, hb, hml, hown, hts⟩ (c_X9_suggest l hst9 D S a0 p1 (.inl u) hf) (cwV 1 hts (gwV gw_40_0 gw_40_1 gw_40_2 gw_14_5 gw_24_14) rfl rfl rfl (by decide +kernel) ⟨Nat.le_of_ble_eq_true rfl, Nat.le_of_ble_eq_true rfl⟩) hH hE hB hNE 12 hek (by decide) rfl rfl rfl hl.1 rfl (Nat.le_of_ble_eq_true rfl) dL_suggest_4 ⟨Nat.le_of_ble_eq_true rfl, Nat.le_of_ble_eq_true rfl⟩ rfl (fun H locs hH => ?_)
    refine lv_i2l hx hb dL_suggest_7 rfl ?_
    refine r_last hx hb (hH.oa hO ho ho2) dL_suggest_8 (fun H1 k hO1 hz1 oq1 => ?_)
    refine lv_goto (tgt := 21) hx hb dL_suggest_9 (by decide) ?_
    refine lv_iconst (v := 0) hx hb dL_suggest_21 (by decide) ?_
    exact e_ok (u := (u.1, .long u.2.toInt64)) hx hb hr hlocks (hH.1.other ((hH.2.2.1.1 o ho2).trans ho) hDo hz1 oq1) hH.2.2.1 hO1 (hH.2.1.al.put hz1 oq1 (Or.inr rfl)) dL_suggest_22
abbrev rmL_pair : Room := { frames := 10, cells := 6, slots := 386, locals := 280 }
set_option maxHeartbeats 4000000 in
set_option maxRecDepth 100000 in
theorem w_pair (l : Launch) (hst9 : l.stackTraces = false) (D : va_G × Nat) (S : PS) (a0 : Nat) (o : Nat) (ho : kK S o = 0) (ho2 : o < kZ S) (hDo : D.2 ≤ o) (hek : kK S a0 = 13) (r : (PS × Int32) ⊕ (PS × Nat)) (hf : f_X9_pair S a0  = some r) (hj : ∀ x, r = .inr x → x.2 = 4 ∨ x.2 = 2) : LM l D yL_pair wsL_pair rmL_pair S [.ref a0, .ref o] .long o (wI9 r) (fun k => if k = 4 then 1 else 2) 6 386 := by
  refine vx_ofWH (cc := cL_pair) (maxL := 3) (ret := some .int) (by decide) rfl ?_
  intro p e s m args below meth c s₁ B hml hv
  obtain ⟨rfl, hH0, hE, hNE, hCN, w0, hO⟩ := hv
  have hB := hH0.base
  have hx := B.exec
  have hb := B.bytes
  have hr := B.returns
  have hts := atoms_spec (ws := wsL_pair) B.pre
  have hown : s.vm.findClass RL = some m.cls := findClass_of_methodNamed B.named
  have hlocks := B.notSynchronized
  have hxt := vx_table (x := yL_pair) B (hts _ List.mem_cons_self)
  have hH : HI D S S s s.heap [] := HI.start hH0
  have hl := lv_entry ([.ref a0, .ref o]) (n := 3) (Nat.le_of_ble_eq_true rfl)
  rw [lg_entry_eq]
  generalize (lg_sl ([.ref a0, .ref o]) ++ List.replicate (3 - (lg_sl ([.ref a0, .ref o])).length) Slot.unset).toArray = ls at hl ⊢
  have hl : lv_has ls 3 [(0, .ref a0), (1, .ref o)] := hl
  refine lv_aload_n hx hb dL_pair_0 rfl (lv_at hl 1 rfl) ?_
  refine lv_iconst (v := 0) hx hb dL_pair_1 (by decide) ?_
  refine lv_aload_n hx hb dL_pair_2 rfl (lv_at hl 0 rfl) ?_
  cases r with
  | inr x =>
    obtain ⟨xS, xk⟩ := x
    refine r_xVex (As := []) ⟨hx, hb, hml, hown, hts⟩ (c_X9_pair l hst9 D S a0  (.inr (xS, xk)) hf) (cwV 0 hts (gwV gw_40_4 gw_40_5 gw_40_6 gw_14_5 gw_24_17) rfl rfl rfl (by decide +kernel) ⟨Nat.le_of_ble_eq_true rfl, Nat.le_of_ble_eq_true rfl⟩) hH hE hB hNE 12 hek (by decide) rfl rfl rfl hl.1 rfl (Nat.le_of_ble_eq_true rfl) dL_pair_3 ⟨Nat.le_of_ble_eq_true rfl, Nat.le_of_ble_eq_true rfl⟩ (fun z9 ce9 q9 H locs hH hk9 hz9 h91 h92 h93 => ?_)
    have hj9 := hj _ rfl
    simp only at hj9
    rcases hj9 with rfl | rfl
    · refine vx_catch (E := exN 4) hown [] ⟨0, 8, 11, 34⟩ [⟨0, 8, 14, 15⟩] (by rw [hxt]; rfl) (fun _ h => absurd h List.not_mem_nil) rfl (by decide) (hts (.classLink RL 34 "java/lang/UnsupportedOperationException") (List.mem_cons_of_mem _ gw_39_15)) (va_Nw.use rfl (hCN.1 4 (by decide) (by decide))) h91 h92 h93 ?_
      refine lv_astore_n (lv' := [(2, .ref q9), (0, .ref a0), (1, .ref o)]) hx hb dL_pair_11 rfl hl (by decide) rfl (fun ls hl => ?_)
      refine lv_iconst (v := 1) hx hb dL_pair_12 (by decide) ?_
      exact e_no rfl hx hb hr hlocks hz9 hH.1 hk9 (hH.oa hO ho ho2) hH.2.1.al dL_pair_13
    · refine vx_catch (E := exN 2) hown [⟨0, 8, 11, 34⟩] ⟨0, 8, 14, 15⟩ [] (by rw [hxt]; rfl) (List.forall_mem_cons.mpr ⟨Or.inr ⟨by decide, _, (hts (.classLink RL 34 "java/lang/UnsupportedOperationException") (List.mem_cons_of_mem _ gw_39_15)), hCN.2 2 4 (by decide) (by decide) (by decide) (by decide) (by decide)⟩, fun _ h => absurd h List.not_mem_nil⟩) rfl (by decide) (hts (.classLink RL 15 "java/lang/IllegalStateException") (List.mem_cons_of_mem _ gw_38_21)) (va_Nw.use rfl (hCN.1 2 (by decide) (by decide))) h91 h92 h93 ?_
      refine lv_astore_n (lv' := [(2, .ref q9), (0, .ref a0), (1, .ref o)]) hx hb dL_pair_14 rfl hl (by decide) rfl (fun ls hl => ?_)
      refine lv_iconst (v := 2) hx hb dL_pair_15 (by decide) ?_
      exact e_no rfl hx hb hr hlocks hz9 hH.1 hk9 (hH.oa hO ho ho2) hH.2.1.al dL_pair_16
  | inl u =>
    refine r_xVok (As := []) (S' := u.1) (v := some (.int u.2)) (st1 := [.int u.2, .int 0, .ref o]) ⟨hx, hb, hml, hown, hts⟩ (c_X9_pair l hst9 D S a0  (.inl u) hf) (cwV 0 hts (gwV gw_40_4 gw_40_5 gw_40_6 gw_14_5 gw_24_17) rfl rfl rfl (by decide +kernel) ⟨Nat.le_of_ble_eq_true rfl, Nat.le_of_ble_eq_true rfl⟩) hH hE hB hNE 12 hek (by decide) rfl rfl rfl hl.1 rfl (Nat.le_of_ble_eq_true rfl) dL_pair_3 ⟨Nat.le_of_ble_eq_true rfl, Nat.le_of_ble_eq_true rfl⟩ rfl (fun H locs hH => ?_)
    refine lv_i2l hx hb dL_pair_6 rfl ?_
    refine r_last hx hb (hH.oa hO ho ho2) dL_pair_7 (fun H1 k hO1 hz1 oq1 => ?_)
    refine lv_goto (tgt := 17) hx hb dL_pair_8 (by decide) ?_
    refine lv_iconst (v := 0) hx hb dL_pair_17 (by decide) ?_
    exact e_ok (u := (u.1, .long u.2.toInt64)) hx hb hr hlocks (hH.1.other ((hH.2.2.1.1 o ho2).trans ho) hDo hz1 oq1) hH.2.2.1 hO1 (hH.2.1.al.put hz1 oq1 (Or.inr rfl)) dL_pair_18
abbrev rmL_use : Room := { frames := 8, cells := 2, slots := 12, locals := 136 }
set_option maxHeartbeats 4000000 in
set_option maxRecDepth 100000 in
theorem w_use (l : Launch) (hst9 : l.stackTraces = false) (D : va_G × Nat) (S : PS) (a0 : Nat) (p1 : Int32) (p2 : Int32) (p3 : Int32) (o : Nat) (ho : kK S o = 0) (ho2 : o < kZ S) (hDo : D.2 ≤ o) (hek : kK S a0 = 13) (r : (PS × Int32) ⊕ (PS × Nat)) (hf : f_X9_use S a0 p1 p2 p3 = some r) (hj : ∀ x, r = .inr x → x.2 = 3 ∨ x.2 = 1) (h01 : ∀ u, r = .inl u → u.2 = 0 ∨ u.2 = 1) : LM l D yL_use wsL_use rmL_use S [.ref a0, .int p1, .int p2, .int p3, .ref o] .long o (wI9 r) (fun k => if k = 3 then 1 else 2) 2 12 := by
  refine vx_ofWH (cc := cL_use) (maxL := 6) (ret := some .int) (by decide) rfl ?_
  intro p e s m args below meth c s₁ B hml hv
  obtain ⟨rfl, hH0, hE, hNE, hCN, w0, hO⟩ := hv
  have hB := hH0.base
  have hx := B.exec
  have hb := B.bytes
  have hr := B.returns
  have hts := atoms_spec (ws := wsL_use) B.pre
  have hown : s.vm.findClass RL = some m.cls := findClass_of_methodNamed B.named
  have hlocks := B.notSynchronized
  have hxt := vx_table (x := yL_use) B (hts _ List.mem_cons_self)
  have hH : HI D S S s s.heap [] := HI.start hH0
  have hl := lv_entry ([.ref a0, .int p1, .int p2, .int p3, .ref o]) (n := 6) (Nat.le_of_ble_eq_true rfl)
  rw [lg_entry_eq]
  generalize (lg_sl ([.ref a0, .int p1, .int p2, .int p3, .ref o]) ++ List.replicate (6 - (lg_sl ([.ref a0, .int p1, .int p2, .int p3, .ref o])).length) Slot.unset).toArray = ls at hl ⊢
  have hl : lv_has ls 6 [(0, .ref a0), (1, .int p1), (2, .int p2), (3, .int p3), (4, .ref o)] := hl
  refine lv_aload hx hb dL_use_0 (lv_at hl 4 rfl) ?_
  refine lv_iconst (v := 0) hx hb dL_use_2 (by decide) ?_
  refine lv_aload_n hx hb dL_use_3 rfl (lv_at hl 0 rfl) ?_
  refine lv_iload_n hx hb dL_use_4 rfl (lv_at hl 1 rfl) ?_
  refine lv_iload_n hx hb dL_use_5 rfl (lv_at hl 2 rfl) ?_
  refine lv_iload_n hx hb dL_use_6 rfl (lv_at hl 3 rfl) ?_
  cases r with
  | inr x =>
    obtain ⟨xS, xk⟩ := x
    refine r_xVex (As := [.int p1, .int p2, .int p3]) ⟨hx, hb, hml, hown, hts⟩ (c_X9_use l hst9 D S a0 p1 p2 p3 (.inr (xS, xk)) hf) (cwV 3 hts (gwV gw_40_8 gw_40_9 gw_40_10 gw_14_5 gw_25_6) rfl rfl rfl (by decide +kernel) ⟨Nat.le_of_ble_eq_true rfl, Nat.le_of_ble_eq_true rfl⟩) hH hE hB hNE 12 hek (by decide) rfl rfl rfl hl.1 rfl (Nat.le_of_ble_eq_true rfl) dL_use_7 ⟨Nat.le_of_ble_eq_true rfl, Nat.le_of_ble_eq_true rfl⟩ (fun z9 ce9 q9 H locs hH hk9 hz9 h91 h92 h93 => ?_)
    have hj9 := hj _ rfl
    simp only at hj9
    rcases hj9 with rfl | rfl
    · refine vx_catch (E := exN 3) hown [] ⟨0, 19, 22, 21⟩ [⟨0, 19, 26, 13⟩] (by rw [hxt]; rfl) (fun _ h => absurd h List.not_mem_nil) rfl (by decide) (hts (.classLink RL 21 "java/lang/IndexOutOfBoundsException") (List.mem_cons_of_mem _ gw_39_2)) (va_Nw.use rfl (hCN.1 3 (by decide) (by decide))) h91 h92 h93 ?_
      refine lv_astore (lv' := [(5, .ref q9), (0, .ref a0), (1, .int p1), (2, .int p2), (3, .int p3), (4, .ref o)]) hx hb dL_use_22 hl (by decide) rfl (fun ls hl => ?_)
      refine lv_iconst (v := 1) hx hb dL_use_24 (by decide) ?_
      exact e_no rfl hx hb hr hlocks hz9 hH.1 hk9 (hH.oa hO ho ho2) hH.2.1.al dL_use_25
    · refine vx_catch (E := exN 1) hown [⟨0, 19, 22, 21⟩] ⟨0, 19, 26, 13⟩ [] (by rw [hxt]; rfl) (List.forall_mem_cons.mpr ⟨Or.inr ⟨by decide, _, (hts (.classLink RL 21 "java/lang/IndexOutOfBoundsException") (List.mem_cons_of_mem _ gw_39_2)), hCN.2 1 3 (by decide) (by decide) (by decide) (by decide) (by decide)⟩, fun _ h => absurd h List.not_mem_nil⟩) rfl (by decide) (hts (.classLink RL 13 "java/lang/IllegalArgumentException") (List.mem_cons_of_mem _ gw_38_20)) (va_Nw.use rfl (hCN.1 1 (by decide) (by decide))) h91 h92 h93 ?_
      refine lv_astore (lv' := [(5, .ref q9), (0, .ref a0), (1, .int p1), (2, .int p2), (3, .int p3), (4, .ref o)]) hx hb dL_use_26 hl (by decide) rfl (fun ls hl => ?_)
      refine lv_iconst (v := 2) hx hb dL_use_28 (by decide) ?_
      exact e_no rfl hx hb hr hlocks hz9 hH.1 hk9 (hH.oa hO ho ho2) hH.2.1.al dL_use_29
  | inl u =>
    refine r_xVok (As := [.int p1, .int p2, .int p3]) (S' := u.1) (v := some (.int u.2)) (st1 := [.int u.2, .int 0, .ref o]) ⟨hx, hb, hml, hown, hts⟩ (c_X9_use l hst9 D S a0 p1 p2 p3 (.inl u) hf) (cwV 3 hts (gwV gw_40_8 gw_40_9 gw_40_10 gw_14_5 gw_25_6) rfl rfl rfl (by decide +kernel) ⟨Nat.le_of_ble_eq_true rfl, Nat.le_of_ble_eq_true rfl⟩) hH hE hB hNE 12 hek (by decide) rfl rfl rfl hl.1 rfl (Nat.le_of_ble_eq_true rfl) dL_use_7 ⟨Nat.le_of_ble_eq_true rfl, Nat.le_of_ble_eq_true rfl⟩ rfl (fun H locs hH => ?_)
    refine lv_if_eq (tgt := 17) hx hb dL_use_10 (by decide) (fun h0 => ?_) (fun h0 => ?_)
    · refine lv_lconst (v := 0) hx hb dL_use_17 (by decide) ?_
      refine r_last hx hb (hH.oa hO ho ho2) dL_use_18 (fun H1 k hO1 hz1 oq1 => ?_)
      refine lv_goto (tgt := 30) hx hb dL_use_19 (by decide) ?_
      refine lv_iconst (v := 0) hx hb dL_use_30 (by decide) ?_
      exact e_ok (u := (u.1, .long u.2.toInt64)) hx hb hr hlocks (hH.1.other ((hH.2.2.1.1 o ho2).trans ho) hDo hz1 oq1) hH.2.2.1 (by rw [h0]; exact hO1) (hH.2.1.al.put hz1 oq1 (Or.inr rfl)) dL_use_31
    · refine lv_lconst (v := 1) hx hb dL_use_13 (by decide) ?_
      refine lv_goto (tgt := 18) hx hb dL_use_14 (by decide) ?_
      refine r_last hx hb (hH.oa hO ho ho2) dL_use_18 (fun H1 k hO1 hz1 oq1 => ?_)
      refine lv_goto (tgt := 30) hx hb dL_use_19 (by decide) ?_
      refine lv_iconst (v := 0) hx hb dL_use_30 (by decide) ?_
      exact e_ok (u := (u.1, .long u.2.toInt64)) hx hb hr hlocks (hH.1.other ((hH.2.2.1.1 o ho2).trans ho) hDo hz1 oq1) hH.2.2.1 (by rw [(h01 u rfl).resolve_left h0]; exact hO1) (hH.2.1.al.put hz1 oq1 (Or.inr rfl)) dL_use_31
abbrev rmL_rank : Room := { frames := 8, cells := 3, slots := 18, locals := 136 }
set_option maxHeartbeats 4000000 in
set_option maxRecDepth 100000 in
theorem w_rank (l : Launch) (hst9 : l.stackTraces = false) (D : va_G × Nat) (S : PS) (a0 : Nat) (p1 : Int32) (p2 : Int32) (p3 : Int32) (o : Nat) (ho : kK S o = 0) (ho2 : o < kZ S) (hDo : D.2 ≤ o) (hek : kK S a0 = 13) (r : (PS × Int32) ⊕ (PS × Nat)) (hf : f_X9_rank S a0 p1 p2 p3 = some r) (hj : ∀ x, r = .inr x → x.2 = 3 ∨ x.2 = 1) : LM l D yL_rank wsL_rank rmL_rank S [.ref a0, .int p1, .int p2, .int p3, .ref o] .long o (wI9 r) (fun k => if k = 3 then 1 else 2) 3 18 := by
  refine vx_ofWH (cc := cL_rank) (maxL := 6) (ret := some .int) (by decide) rfl ?_
  intro p e s m args below meth c s₁ B hml hv
  obtain ⟨rfl, hH0, hE, hNE, hCN, w0, hO⟩ := hv
  have hB := hH0.base
  have hx := B.exec
  have hb := B.bytes
  have hr := B.returns
  have hts := atoms_spec (ws := wsL_rank) B.pre
  have hown : s.vm.findClass RL = some m.cls := findClass_of_methodNamed B.named
  have hlocks := B.notSynchronized
  have hxt := vx_table (x := yL_rank) B (hts _ List.mem_cons_self)
  have hH : HI D S S s s.heap [] := HI.start hH0
  have hl := lv_entry ([.ref a0, .int p1, .int p2, .int p3, .ref o]) (n := 6) (Nat.le_of_ble_eq_true rfl)
  rw [lg_entry_eq]
  generalize (lg_sl ([.ref a0, .int p1, .int p2, .int p3, .ref o]) ++ List.replicate (6 - (lg_sl ([.ref a0, .int p1, .int p2, .int p3, .ref o])).length) Slot.unset).toArray = ls at hl ⊢
  have hl : lv_has ls 6 [(0, .ref a0), (1, .int p1), (2, .int p2), (3, .int p3), (4, .ref o)] := hl
  refine lv_aload hx hb dL_rank_0 (lv_at hl 4 rfl) ?_
  refine lv_iconst (v := 0) hx hb dL_rank_2 (by decide) ?_
  refine lv_aload_n hx hb dL_rank_3 rfl (lv_at hl 0 rfl) ?_
  refine lv_iload_n hx hb dL_rank_4 rfl (lv_at hl 1 rfl) ?_
  refine lv_iload_n hx hb dL_rank_5 rfl (lv_at hl 2 rfl) ?_
  refine lv_iload_n hx hb dL_rank_6 rfl (lv_at hl 3 rfl) ?_
  cases r with
  | inr x =>
    obtain ⟨xS, xk⟩ := x
    refine r_xVex (As := [.int p1, .int p2, .int p3]) ⟨hx, hb, hml, hown, hts⟩ (c_X9_rank l hst9 D S a0 p1 p2 p3 (.inr (xS, xk)) hf) (cwV 3 hts (gwV gw_40_12 gw_40_13 gw_40_14 gw_14_5 gw_25_19) rfl rfl rfl (by decide +kernel) ⟨Nat.le_of_ble_eq_true rfl, Nat.le_of_ble_eq_true rfl⟩) hH hE hB hNE 12 hek (by decide) rfl rfl rfl hl.1 rfl (Nat.le_of_ble_eq_true rfl) dL_rank_7 ⟨Nat.le_of_ble_eq_true rfl, Nat.le_of_ble_eq_true rfl⟩ (fun z9 ce9 q9 H locs hH hk9 hz9 h91 h92 h93 => ?_)
    have hj9 := hj _ rfl
    simp only at hj9
    rcases hj9 with rfl | rfl
    · refine vx_catch (E := exN 3) hown [] ⟨0, 12, 15, 21⟩ [⟨0, 12, 19, 13⟩] (by rw [hxt]; rfl) (fun _ h => absurd h List.not_mem_nil) rfl (by decide) (hts (.classLink RL 21 "java/lang/IndexOutOfBoundsException") (List.mem_cons_of_mem _ gw_39_2)) (va_Nw.use rfl (hCN.1 3 (by decide) (by decide))) h91 h92 h93 ?_
      refine lv_astore (lv' := [(5, .ref q9), (0, .ref a0), (1, .int p1), (2, .int p2), (3, .int p3), (4, .ref o)]) hx hb dL_rank_15 hl (by decide) rfl (fun ls hl => ?_)
      refine lv_iconst (v := 1) hx hb dL_rank_17 (by decide) ?_
      exact e_no rfl hx hb hr hlocks hz9 hH.1 hk9 (hH.oa hO ho ho2) hH.2.1.al dL_rank_18
    · refine vx_catch (E := exN 1) hown [⟨0, 12, 15, 21⟩] ⟨0, 12, 19, 13⟩ [] (by rw [hxt]; rfl) (List.forall_mem_cons.mpr ⟨Or.inr ⟨by decide, _, (hts (.classLink RL 21 "java/lang/IndexOutOfBoundsException") (List.mem_cons_of_mem _ gw_39_2)), hCN.2 1 3 (by decide) (by decide) (by decide) (by decide) (by decide)⟩, fun _ h => absurd h List.not_mem_nil⟩) rfl (by decide) (hts (.classLink RL 13 "java/lang/IllegalArgumentException") (List.mem_cons_of_mem _ gw_38_20)) (va_Nw.use rfl (hCN.1 1 (by decide) (by decide))) h91 h92 h93 ?_
      refine lv_astore (lv' := [(5, .ref q9), (0, .ref a0), (1, .int p1), (2, .int p2), (3, .int p3), (4, .ref o)]) hx hb dL_rank_19 hl (by decide) rfl (fun ls hl => ?_)
      refine lv_iconst (v := 2) hx hb dL_rank_21 (by decide) ?_
      exact e_no rfl hx hb hr hlocks hz9 hH.1 hk9 (hH.oa hO ho ho2) hH.2.1.al dL_rank_22
  | inl u =>
    refine r_xVok (As := [.int p1, .int p2, .int p3]) (S' := u.1) (v := some (.int u.2)) (st1 := [.int u.2, .int 0, .ref o]) ⟨hx, hb, hml, hown, hts⟩ (c_X9_rank l hst9 D S a0 p1 p2 p3 (.inl u) hf) (cwV 3 hts (gwV gw_40_12 gw_40_13 gw_40_14 gw_14_5 gw_25_19) rfl rfl rfl (by decide +kernel) ⟨Nat.le_of_ble_eq_true rfl, Nat.le_of_ble_eq_true rfl⟩) hH hE hB hNE 12 hek (by decide) rfl rfl rfl hl.1 rfl (Nat.le_of_ble_eq_true rfl) dL_rank_7 ⟨Nat.le_of_ble_eq_true rfl, Nat.le_of_ble_eq_true rfl⟩ rfl (fun H locs hH => ?_)
    refine lv_i2l hx hb dL_rank_10 rfl ?_
    refine r_last hx hb (hH.oa hO ho ho2) dL_rank_11 (fun H1 k hO1 hz1 oq1 => ?_)
    refine lv_goto (tgt := 23) hx hb dL_rank_12 (by decide) ?_
    refine lv_iconst (v := 0) hx hb dL_rank_23 (by decide) ?_
    exact e_ok (u := (u.1, .long u.2.toInt64)) hx hb hr hlocks (hH.1.other ((hH.2.2.1.1 o ho2).trans ho) hDo hz1 oq1) hH.2.2.1 hO1 (hH.2.1.al.put hz1 oq1 (Or.inr rfl)) dL_rank_24
abbrev rmL_limit : Room := { frames := 8, cells := 2, slots := 12, locals := 135 }
set_option maxHeartbeats 4000000 in
set_option maxRecDepth 100000 in
theorem w_limit (l : Launch) (hst9 : l.stackTraces = false) (D : va_G × Nat) (S : PS) (a0 : Nat) (p1 : Int32) (p2 : Int32) (o : Nat) (ho : kK S o = 0) (ho2 : o < kZ S) (hDo : D.2 ≤ o) (hek : kK S a0 = 13) (r : (PS × Int32) ⊕ (PS × Nat)) (hf : f_X9_limit S a0 p1 p2 = some r) (hj : ∀ x, r = .inr x → x.2 = 1) : LM l D yL_limit wsL_limit rmL_limit S [.ref a0, .int p1, .int p2, .ref o] .long o (wI9 r) (fun _ => 1) 2 12 := by
  refine vx_ofWH (cc := cL_limit) (maxL := 5) (ret := some .int) (by decide) rfl ?_
  intro p e s m args below meth c s₁ B hml hv
  obtain ⟨rfl, hH0, hE, hNE, hCN, w0, hO⟩ := hv
  have hB := hH0.base
  have hx := B.exec
  have hb := B.bytes
  have hr := B.returns
  have hts := atoms_spec (ws := wsL_limit) B.pre
  have hown : s.vm.findClass RL = some m.cls := findClass_of_methodNamed B.named
  have hlocks := B.notSynchronized
  have hxt := vx_table (x := yL_limit) B (hts _ List.mem_cons_self)
  have hH : HI D S S s s.heap [] := HI.start hH0
  have hl := lv_entry ([.ref a0, .int p1, .int p2, .ref o]) (n := 5) (Nat.le_of_ble_eq_true rfl)
  rw [lg_entry_eq]
  generalize (lg_sl ([.ref a0, .int p1, .int p2, .ref o]) ++ List.replicate (5 - (lg_sl ([.ref a0, .int p1, .int p2, .ref o])).length) Slot.unset).toArray = ls at hl ⊢
  have hl : lv_has ls 5 [(0, .ref a0), (1, .int p1), (2, .int p2), (3, .ref o)] := hl
  refine lv_aload_n hx hb dL_limit_0 rfl (lv_at hl 3 rfl) ?_
  refine lv_iconst (v := 0) hx hb dL_limit_1 (by decide) ?_
  refine lv_aload_n hx hb dL_limit_2 rfl (lv_at hl 0 rfl) ?_
  refine lv_iload_n hx hb dL_limit_3 rfl (lv_at hl 1 rfl) ?_
  refine lv_iload_n hx hb dL_limit_4 rfl (lv_at hl 2 rfl) ?_
  cases r with
  | inr x =>
    obtain ⟨xS, xk⟩ := x
    refine r_xVex (As := [.int p1, .int p2]) ⟨hx, hb, hml, hown, hts⟩ (c_X9_limit l hst9 D S a0 p1 p2 (.inr (xS, xk)) hf) (cwV 2 hts (gwV gw_40_16 gw_40_17 gw_40_18 gw_14_5 gw_25_22) rfl rfl rfl (by decide +kernel) ⟨Nat.le_of_ble_eq_true rfl, Nat.le_of_ble_eq_true rfl⟩) hH hE hB hNE 12 hek (by decide) rfl rfl rfl hl.1 rfl (Nat.le_of_ble_eq_true rfl) dL_limit_5 ⟨Nat.le_of_ble_eq_true rfl, Nat.le_of_ble_eq_true rfl⟩ (fun z9 ce9 q9 H locs hH hk9 hz9 h91 h92 h93 => ?_)
    have hj9 := hj _ rfl
    simp only at hj9
    subst hj9
    · refine vx_catch (E := exN 1) hown [] ⟨0, 10, 13, 13⟩ [] (by rw [hxt]; rfl) (fun _ h => absurd h List.not_mem_nil) rfl (by decide) (hts (.classLink RL 13 "java/lang/IllegalArgumentException") (List.mem_cons_of_mem _ gw_38_20)) (va_Nw.use rfl (hCN.1 1 (by decide) (by decide))) h91 h92 h93 ?_
      refine lv_astore (lv' := [(4, .ref q9), (0, .ref a0), (1, .int p1), (2, .int p2), (3, .ref o)]) hx hb dL_limit_13 hl (by decide) rfl (fun ls hl => ?_)
      refine lv_iconst (v := 1) hx hb dL_limit_15 (by decide) ?_
      exact e_no rfl hx hb hr hlocks hz9 hH.1 hk9 (hH.oa hO ho ho2) hH.2.1.al dL_limit_16
  | inl u =>
    refine r_xVok (As := [.int p1, .int p2]) (S' := u.1) (v := some (.int u.2)) (st1 := [.int u.2, .int 0, .ref o]) ⟨hx, hb, hml, hown, hts⟩ (c_X9_limit l hst9 D S a0 p1 p2 (.inl u) hf) (cwV 2 hts (gwV gw_40_16 gw_40_17 gw_40_18 gw_14_5 gw_25_22) rfl rfl rfl (by decide +kernel) ⟨Nat.le_of_ble_eq_true rfl, Nat.le_of_ble_eq_true rfl⟩) hH hE hB hNE 12 hek (by decide) rfl rfl rfl hl.1 rfl (Nat.le_of_ble_eq_true rfl) dL_limit_5 ⟨Nat.le_of_ble_eq_true rfl, Nat.le_of_ble_eq_true rfl⟩ rfl (fun H locs hH => ?_)
    refine lv_i2l hx hb dL_limit_8 rfl ?_
    refine r_last hx hb (hH.oa hO ho ho2) dL_limit_9 (fun H1 k hO1 hz1 oq1 => ?_)
    refine lv_goto (tgt := 17) hx hb dL_limit_10 (by decide) ?_
    refine lv_iconst (v := 0) hx hb dL_limit_17 (by decide) ?_
    exact e_ok (u := (u.1, .long u.2.toInt64)) hx hb hr hlocks (hH.1.other ((hH.2.2.1.1 o ho2).trans ho) hDo hz1 oq1) hH.2.2.1 hO1 (hH.2.1.al.put hz1 oq1 (Or.inr rfl)) dL_limit_18
abbrev rmL_findings : Room := { frames := 9, cells := 1, slots := 6, locals := 199 }
set_option maxHeartbeats 4000000 in
set_option maxRecDepth 100000 in
theorem w_findings (l : Launch) (hst9 : l.stackTraces = false) (D : va_G × Nat) (S : PS) (a0 : Nat) (p1 : Int32) (o : Nat) (ho : kK S o = 0) (ho2 : o < kZ S) (hDo : D.2 ≤ o) (hek : kK S a0 = 13) (r : (PS × Int32) ⊕ (PS × Nat)) (hf : f_X9_findings S a0 p1 = some r) (hj : ∀ x, r = .inr x → x.2 = 1) : LM l D yL_findings wsL_findings rmL_findings S [.ref a0, .int p1, .ref o] .long o (wI9 r) (fun _ => 1) 1 6 := by
  refine vx_ofWH (cc := cL_findings) (maxL := 4) (ret := some .int) (by decide) rfl ?_
  intro p e s m args below meth c s₁ B hml hv
  obtain ⟨rfl, hH0, hE, hNE, hCN, w0, hO⟩ := hv
  have hB := hH0.base
  have hx := B.exec
  have hb := B.bytes
  have hr := B.returns
  have hts := atoms_spec (ws := wsL_findings) B.pre
  have hown : s.vm.findClass RL = some m.cls := findClass_of_methodNamed B.named
  have hlocks := B.notSynchronized
  have hxt := vx_table (x := yL_findings) B (hts _ List.mem_cons_self)
  have hH : HI D S S s s.heap [] := HI.start hH0
  have hl := lv_entry ([.ref a0, .int p1, .ref o]) (n := 4) (Nat.le_of_ble_eq_true rfl)
  rw [lg_entry_eq]
  generalize (lg_sl ([.ref a0, .int p1, .ref o]) ++ List.replicate (4 - (lg_sl ([.ref a0, .int p1, .ref o])).length) Slot.unset).toArray = ls at hl ⊢
  have hl : lv_has ls 4 [(0, .ref a0), (1, .int p1), (2, .ref o)] := hl
  refine lv_aload_n hx hb dL_findings_0 rfl (lv_at hl 2 rfl) ?_
  refine lv_iconst (v := 0) hx hb dL_findings_1 (by decide) ?_
  refine lv_aload_n hx hb dL_findings_2 rfl (lv_at hl 0 rfl) ?_
  refine lv_iload_n hx hb dL_findings_3 rfl (lv_at hl 1 rfl) ?_
  cases r with
  | inr x =>
    obtain ⟨xS, xk⟩ := x
    refine r_xVex (As := [.int p1]) ⟨hx, hb, hml, hown, hts⟩ (c_X9_findings l hst9 D S a0 p1 (.inr (xS, xk)) hf) (cwV 1 hts (gwV gw_40_20 gw_40_21 gw_40_22 gw_14_5 gw_26_9) rfl rfl rfl (by decide +kernel) ⟨Nat.le_of_ble_eq_true rfl, Nat.le_of_ble_eq_true rfl⟩) hH hE hB hNE 12 hek (by decide) rfl rfl rfl hl.1 rfl (Nat.le_of_ble_eq_true rfl) dL_findings_4 ⟨Nat.le_of_ble_eq_true rfl, Nat.le_of_ble_eq_true rfl⟩ (fun z9 ce9 q9 H locs hH hk9 hz9 h91 h92 h93 => ?_)
    have hj9 := hj _ rfl
    simp only at hj9
    subst hj9
    · refine vx_catch (E := exN 1) hown [] ⟨0, 9, 12, 13⟩ [] (by rw [hxt]; rfl) (fun _ h => absurd h List.not_mem_nil) rfl (by decide) (hts (.classLink RL 13 "java/lang/IllegalArgumentException") (List.mem_cons_of_mem _ gw_38_20)) (va_Nw.use rfl (hCN.1 1 (by decide) (by decide))) h91 h92 h93 ?_
      refine lv_astore_n (lv' := [(3, .ref q9), (0, .ref a0), (1, .int p1), (2, .ref o)]) hx hb dL_findings_12 rfl hl (by decide) rfl (fun ls hl => ?_)
      refine lv_iconst (v := 1) hx hb dL_findings_13 (by decide) ?_
      exact e_no rfl hx hb hr hlocks hz9 hH.1 hk9 (hH.oa hO ho ho2) hH.2.1.al dL_findings_14
  | inl u =>
    refine r_xVok (As := [.int p1]) (S' := u.1) (v := some (.int u.2)) (st1 := [.int u.2, .int 0, .ref o]) ⟨hx, hb, hml, hown, hts⟩ (c_X9_findings l hst9 D S a0 p1 (.inl u) hf) (cwV 1 hts (gwV gw_40_20 gw_40_21 gw_40_22 gw_14_5 gw_26_9) rfl rfl rfl (by decide +kernel) ⟨Nat.le_of_ble_eq_true rfl, Nat.le_of_ble_eq_true rfl⟩) hH hE hB hNE 12 hek (by decide) rfl rfl rfl hl.1 rfl (Nat.le_of_ble_eq_true rfl) dL_findings_4 ⟨Nat.le_of_ble_eq_true rfl, Nat.le_of_ble_eq_true rfl⟩ rfl (fun H locs hH => ?_)
    refine lv_i2l hx hb dL_findings_7 rfl ?_
    refine r_last hx hb (hH.oa hO ho ho2) dL_findings_8 (fun H1 k hO1 hz1 oq1 => ?_)
    refine lv_goto (tgt := 15) hx hb dL_findings_9 (by decide) ?_
    refine lv_iconst (v := 0) hx hb dL_findings_15 (by decide) ?_
    exact e_ok (u := (u.1, .long u.2.toInt64)) hx hb hr hlocks (hH.1.other ((hH.2.2.1.1 o ho2).trans ho) hDo hz1 oq1) hH.2.2.1 hO1 (hH.2.1.al.put hz1 oq1 (Or.inr rfl)) dL_findings_16
abbrev rmL_of : Room := { frames := 9, cells := 2, slots := 12, locals := 203 }
set_option maxHeartbeats 4000000 in
set_option maxRecDepth 100000 in
theorem w_of (l : Launch) (hst9 : l.stackTraces = false) (D : va_G × Nat) (S : PS) (a0 : Nat) (p1 : Int32) (p2 : Int32) (p3 : Int32) (o : Nat) (ho : kK S o = 0) (ho2 : o < kZ S) (hDo : D.2 ≤ o) (hek : kK S a0 = 13) (r : (PS × Int32) ⊕ (PS × Nat)) (hf : f_X9_of S a0 p1 p2 p3 = some r) (hj : ∀ x, r = .inr x → x.2 = 1 ∨ x.2 = 5) : LM l D yL_of wsL_of rmL_of S [.ref a0, .int p1, .int p2, .int p3, .ref o] .long o (wI9 r) (fun k => if k = 1 then 1 else 2) 2 12 := by
  refine vx_ofWH (cc := cL_of) (maxL := 6) (ret := some .int) (by decide) rfl ?_
  intro p e s m args below meth c s₁ B hml hv
  obtain ⟨rfl, hH0, hE, hNE, hCN, w0, hO⟩ := hv
  have hB := hH0.base
  have hx := B.exec
  have hb := B.bytes
  have hr := B.returns
  have hts := atoms_spec (ws := wsL_of) B.pre
  have hown : s.vm.findClass RL = some m.cls := findClass_of_methodNamed B.named
  have hlocks := B.notSynchronized
  have hxt := vx_table (x := yL_of) B (hts _ List.mem_cons_self)
  have hH : HI D S S s s.heap [] := HI.start hH0
  have hl := lv_entry ([.ref a0, .int p1, .int p2, .int p3, .ref o]) (n := 6) (Nat.le_of_ble_eq_true rfl)
  rw [lg_entry_eq]
  generalize (lg_sl ([.ref a0, .int p1, .int p2, .int p3, .ref o]) ++ List.replicate (6 - (lg_sl ([.ref a0, .int p1, .int p2, .int p3, .ref o])).length) Slot.unset).toArray = ls at hl ⊢
  have hl : lv_has ls 6 [(0, .ref a0), (1, .int p1), (2, .int p2), (3, .int p3), (4, .ref o)] := hl
  refine lv_aload hx hb dL_of_0 (lv_at hl 4 rfl) ?_
  refine lv_iconst (v := 0) hx hb dL_of_2 (by decide) ?_
  refine lv_aload_n hx hb dL_of_3 rfl (lv_at hl 0 rfl) ?_
  refine lv_iload_n hx hb dL_of_4 rfl (lv_at hl 1 rfl) ?_
  refine lv_iload_n hx hb dL_of_5 rfl (lv_at hl 2 rfl) ?_
  refine lv_iload_n hx hb dL_of_6 rfl (lv_at hl 3 rfl) ?_
  cases r with
  | inr x =>
    obtain ⟨xS, xk⟩ := x
    refine r_xVex (As := [.int p1, .int p2, .int p3]) ⟨hx, hb, hml, hown, hts⟩ (c_X9_of l hst9 D S a0 p1 p2 p3 (.inr (xS, xk)) hf) (cwV 3 hts (gwV gw_41_1 gw_41_2 gw_41_3 gw_14_5 gw_26_17) rfl rfl rfl (by decide +kernel) ⟨Nat.le_of_ble_eq_true rfl, Nat.le_of_ble_eq_true rfl⟩) hH hE hB hNE 12 hek (by decide) rfl rfl rfl hl.1 rfl (Nat.le_of_ble_eq_true rfl) dL_of_7 ⟨Nat.le_of_ble_eq_true rfl, Nat.le_of_ble_eq_true rfl⟩ (fun z9 ce9 q9 H locs hH hk9 hz9 h91 h92 h93 => ?_)
    have hj9 := hj _ rfl
    simp only at hj9
    rcases hj9 with rfl | rfl
    · refine vx_catch (E := exN 1) hown [] ⟨0, 12, 15, 13⟩ [⟨0, 12, 19, 66⟩] (by rw [hxt]; rfl) (fun _ h => absurd h List.not_mem_nil) rfl (by decide) (hts (.classLink RL 13 "java/lang/IllegalArgumentException") (List.mem_cons_of_mem _ gw_38_20)) (va_Nw.use rfl (hCN.1 1 (by decide) (by decide))) h91 h92 h93 ?_
      refine lv_astore (lv' := [(5, .ref q9), (0, .ref a0), (1, .int p1), (2, .int p2), (3, .int p3), (4, .ref o)]) hx hb dL_of_15 hl (by decide) rfl (fun ls hl => ?_)
      refine lv_iconst (v := 1) hx hb dL_of_17 (by decide) ?_
      exact e_no rfl hx hb hr hlocks hz9 hH.1 hk9 (hH.oa hO ho ho2) hH.2.1.al dL_of_18
    · refine vx_catch (E := exN 5) hown [⟨0, 12, 15, 13⟩] ⟨0, 12, 19, 66⟩ [] (by rw [hxt]; rfl) (List.forall_mem_cons.mpr ⟨Or.inr ⟨by decide, _, (hts (.classLink RL 13 "java/lang/IllegalArgumentException") (List.mem_cons_of_mem _ gw_38_20)), hCN.2 5 1 (by decide) (by decide) (by decide) (by decide) (by decide)⟩, fun _ h => absurd h List.not_mem_nil⟩) rfl (by decide) (hts (.classLink RL 66 "java/util/NoSuchElementException") (List.mem_cons_of_mem _ gw_41_0)) (va_Nw.use rfl (hCN.1 5 (by decide) (by decide))) h91 h92 h93 ?_
      refine lv_astore (lv' := [(5, .ref q9), (0, .ref a0), (1, .int p1), (2, .int p2), (3, .int p3), (4, .ref o)]) hx hb dL_of_19 hl (by decide) rfl (fun ls hl => ?_)
      refine lv_iconst (v := 2) hx hb dL_of_21 (by decide) ?_
      exact e_no rfl hx hb hr hlocks hz9 hH.1 hk9 (hH.oa hO ho ho2) hH.2.1.al dL_of_22
  | inl u =>
    refine r_xVok (As := [.int p1, .int p2, .int p3]) (S' := u.1) (v := some (.int u.2)) (st1 := [.int u.2, .int 0, .ref o]) ⟨hx, hb, hml, hown, hts⟩ (c_X9_of l hst9 D S a0 p1 p2 p3 (.inl u) hf) (cwV 3 hts (gwV gw_41_1 gw_41_2 gw_41_3 gw_14_5 gw_26_17) rfl rfl rfl (by decide +kernel) ⟨Nat.le_of_ble_eq_true rfl, Nat.le_of_ble_eq_true rfl⟩) hH hE hB hNE 12 hek (by decide) rfl rfl rfl hl.1 rfl (Nat.le_of_ble_eq_true rfl) dL_of_7 ⟨Nat.le_of_ble_eq_true rfl, Nat.le_of_ble_eq_true rfl⟩ rfl (fun H locs hH => ?_)
    refine lv_i2l hx hb dL_of_10 rfl ?_
    refine r_last hx hb (hH.oa hO ho ho2) dL_of_11 (fun H1 k hO1 hz1 oq1 => ?_)
    refine lv_goto (tgt := 23) hx hb dL_of_12 (by decide) ?_
    refine lv_iconst (v := 0) hx hb dL_of_23 (by decide) ?_
    exact e_ok (u := (u.1, .long u.2.toInt64)) hx hb hr hlocks (hH.1.other ((hH.2.2.1.1 o ho2).trans ho) hDo hz1 oq1) hH.2.2.1 hO1 (hH.2.1.al.put hz1 oq1 (Or.inr rfl)) dL_of_24
abbrev rmL_size : Room := { frames := 9, cells := 3, slots := 18, locals := 201 }
set_option maxHeartbeats 4000000 in
set_option maxRecDepth 100000 in
theorem w_size (l : Launch) (hst9 : l.stackTraces = false) (D : va_G × Nat) (S : PS) (a0 : Nat) (p1 : Int32) (p2 : Int32) (p3 : Int32) (o : Nat) (ho : kK S o = 0) (ho2 : o < kZ S) (hDo : D.2 ≤ o) (hek : kK S a0 = 13) (r : (PS × Int32) ⊕ (PS × Nat)) (hf : f_X9_size S a0 p1 p2 p3 = some r) (hj : ∀ x, r = .inr x → x.2 = 1 ∨ x.2 = 5) : LM l D yL_size wsL_size rmL_size S [.ref a0, .int p1, .int p2, .int p3, .ref o] .long o (wI9 r) (fun k => if k = 1 then 1 else 2) 3 18 := by
  refine vx_ofWH (cc := cL_size) (maxL := 6) (ret := some .int) (by decide) rfl ?_
  intro p e s m args below meth c s₁ B hml hv
  obtain ⟨rfl, hH0, hE, hNE, hCN, w0, hO⟩ := hv
  have hB := hH0.base
  have hx := B.exec
  have hb := B.bytes
  have hr := B.returns
  have hts := atoms_spec (ws := wsL_size) B.pre
  have hown : s.vm.findClass RL = some m.cls := findClass_of_methodNamed B.named
  have hlocks := B.notSynchronized
  have hxt := vx_table (x := yL_size) B (hts _ List.mem_cons_self)
  have hH : HI D S S s s.heap [] := HI.start hH0
  have hl := lv_entry ([.ref a0, .int p1, .int p2, .int p3, .ref o]) (n := 6) (Nat.le_of_ble_eq_true rfl)
  rw [lg_entry_eq]
  generalize (lg_sl ([.ref a0, .int p1, .int p2, .int p3, .ref o]) ++ List.replicate (6 - (lg_sl ([.ref a0, .int p1, .int p2, .int p3, .ref o])).length) Slot.unset).toArray = ls at hl ⊢
  have hl : lv_has ls 6 [(0, .ref a0), (1, .int p1), (2, .int p2), (3, .int p3), (4, .ref o)] := hl
  refine lv_aload hx hb dL_size_0 (lv_at hl 4 rfl) ?_
  refine lv_iconst (v := 0) hx hb dL_size_2 (by decide) ?_
  refine lv_aload_n hx hb dL_size_3 rfl (lv_at hl 0 rfl) ?_
  refine lv_iload_n hx hb dL_size_4 rfl (lv_at hl 1 rfl) ?_
  refine lv_iload_n hx hb dL_size_5 rfl (lv_at hl 2 rfl) ?_
  refine lv_iload_n hx hb dL_size_6 rfl (lv_at hl 3 rfl) ?_
  cases r with
  | inr x =>
    obtain ⟨xS, xk⟩ := x
    refine r_xVex (As := [.int p1, .int p2, .int p3]) ⟨hx, hb, hml, hown, hts⟩ (c_X9_size l hst9 D S a0 p1 p2 p3 (.inr (xS, xk)) hf) (cwV 3 hts (gwV gw_41_5 gw_41_6 gw_41_7 gw_14_5 gw_27_12) rfl rfl rfl (by decide +kernel) ⟨Nat.le_of_ble_eq_true rfl, Nat.le_of_ble_eq_true rfl⟩) hH hE hB hNE 12 hek (by decide) rfl rfl rfl hl.1 rfl (Nat.le_of_ble_eq_true rfl) dL_size_7 ⟨Nat.le_of_ble_eq_true rfl, Nat.le_of_ble_eq_true rfl⟩ (fun z9 ce9 q9 H locs hH hk9 hz9 h91 h92 h93 => ?_)
    have hj9 := hj _ rfl
    simp only at hj9
    rcases hj9 with rfl | rfl
    · refine vx_catch (E := exN 1) hown [] ⟨0, 12, 15, 13⟩ [⟨0, 12, 19, 66⟩] (by rw [hxt]; rfl) (fun _ h => absurd h List.not_mem_nil) rfl (by decide) (hts (.classLink RL 13 "java/lang/IllegalArgumentException") (List.mem_cons_of_mem _ gw_38_20)) (va_Nw.use rfl (hCN.1 1 (by decide) (by decide))) h91 h92 h93 ?_
      refine lv_astore (lv' := [(5, .ref q9), (0, .ref a0), (1, .int p1), (2, .int p2), (3, .int p3), (4, .ref o)]) hx hb dL_size_15 hl (by decide) rfl (fun ls hl => ?_)
      refine lv_iconst (v := 1) hx hb dL_size_17 (by decide) ?_
      exact e_no rfl hx hb hr hlocks hz9 hH.1 hk9 (hH.oa hO ho ho2) hH.2.1.al dL_size_18
    · refine vx_catch (E := exN 5) hown [⟨0, 12, 15, 13⟩] ⟨0, 12, 19, 66⟩ [] (by rw [hxt]; rfl) (List.forall_mem_cons.mpr ⟨Or.inr ⟨by decide, _, (hts (.classLink RL 13 "java/lang/IllegalArgumentException") (List.mem_cons_of_mem _ gw_38_20)), hCN.2 5 1 (by decide) (by decide) (by decide) (by decide) (by decide)⟩, fun _ h => absurd h List.not_mem_nil⟩) rfl (by decide) (hts (.classLink RL 66 "java/util/NoSuchElementException") (List.mem_cons_of_mem _ gw_41_0)) (va_Nw.use rfl (hCN.1 5 (by decide) (by decide))) h91 h92 h93 ?_
      refine lv_astore (lv' := [(5, .ref q9), (0, .ref a0), (1, .int p1), (2, .int p2), (3, .int p3), (4, .ref o)]) hx hb dL_size_19 hl (by decide) rfl (fun ls hl => ?_)
      refine lv_iconst (v := 2) hx hb dL_size_21 (by decide) ?_
      exact e_no rfl hx hb hr hlocks hz9 hH.1 hk9 (hH.oa hO ho ho2) hH.2.1.al dL_size_22
  | inl u =>
    refine r_xVok (As := [.int p1, .int p2, .int p3]) (S' := u.1) (v := some (.int u.2)) (st1 := [.int u.2, .int 0, .ref o]) ⟨hx, hb, hml, hown, hts⟩ (c_X9_size l hst9 D S a0 p1 p2 p3 (.inl u) hf) (cwV 3 hts (gwV gw_41_5 gw_41_6 gw_41_7 gw_14_5 gw_27_12) rfl rfl rfl (by decide +kernel) ⟨Nat.le_of_ble_eq_true rfl, Nat.le_of_ble_eq_true rfl⟩) hH hE hB hNE 12 hek (by decide) rfl rfl rfl hl.1 rfl (Nat.le_of_ble_eq_true rfl) dL_size_7 ⟨Nat.le_of_ble_eq_true rfl, Nat.le_of_ble_eq_true rfl⟩ rfl (fun H locs hH => ?_)
    refine lv_i2l hx hb dL_size_10 rfl ?_
    refine r_last hx hb (hH.oa hO ho ho2) dL_size_11 (fun H1 k hO1 hz1 oq1 => ?_)
    refine lv_goto (tgt := 23) hx hb dL_size_12 (by decide) ?_
    refine lv_iconst (v := 0) hx hb dL_size_23 (by decide) ?_
    exact e_ok (u := (u.1, .long u.2.toInt64)) hx hb hr hlocks (hH.1.other ((hH.2.2.1.1 o ho2).trans ho) hDo hz1 oq1) hH.2.2.1 hO1 (hH.2.1.al.put hz1 oq1 (Or.inr rfl)) dL_size_24
abbrev rmL_sign : Room := { frames := 9, cells := 4, slots := 24, locals := 202 }
set_option maxHeartbeats 4000000 in
set_option maxRecDepth 100000 in
theorem w_sign (l : Launch) (hst9 : l.stackTraces = false) (D : va_G × Nat) (S : PS) (a0 : Nat) (p1 : Int32) (p2 : Int32) (p3 : Int32) (p4 : Int32) (o : Nat) (ho : kK S o = 0) (ho2 : o < kZ S) (hDo : D.2 ≤ o) (hek : kK S a0 = 13) (r : (PS × Int32) ⊕ (PS × Nat)) (hf : f_X9_sign S a0 p1 p2 p3 p4 = some r) (hj : ∀ x, r = .inr x → x.2 = 1 ∨ x.2 = 5) : LM l D yL_sign wsL_sign rmL_sign S [.ref a0, .int p1, .int p2, .int p3, .int p4, .ref o] .long o (wI9 r) (fun k => if k = 1 then 1 else 2) 4 24 := by
  refine vx_ofWH (cc := cL_sign) (maxL := 7) (ret := some .int) (by decide) rfl ?_
  intro p e s m args below meth c s₁ B hml hv
  obtain ⟨rfl, hH0, hE, hNE, hCN, w0, hO⟩ := hv
  have hB := hH0.base
  have hx := B.exec
  have hb := B.bytes
  have hr := B.returns
  have hts := atoms_spec (ws := wsL_sign) B.pre
  have hown : s.vm.findClass RL = some m.cls := findClass_of_methodNamed B.named
  have hlocks := B.notSynchronized
  have hxt := vx_table (x := yL_sign) B (hts _ List.mem_cons_self)
  have hH : HI D S S s s.heap [] := HI.start hH0
  have hl := lv_entry ([.ref a0, .int p1, .int p2, .int p3, .int p4, .ref o]) (n := 7) (Nat.le_of_ble_eq_true rfl)
  rw [lg_entry_eq]
  generalize (lg_sl ([.ref a0, .int p1, .int p2, .int p3, .int p4, .ref o]) ++ List.replicate (7 - (lg_sl ([.ref a0, .int p1, .int p2, .int p3, .int p4, .ref o])).length) Slot.unset).toArray = ls at hl ⊢
  have hl : lv_has ls 7 [(0, .ref a0), (1, .int p1), (2, .int p2), (3, .int p3), (4, .int p4), (5, .ref o)] := hl
  refine lv_aload hx hb dL_sign_0 (lv_at hl 5 rfl) ?_
  refine lv_iconst (v := 0) hx hb dL_sign_2 (by decide) ?_
  refine lv_aload_n hx hb dL_sign_3 rfl (lv_at hl 0 rfl) ?_
  refine lv_iload_n hx hb dL_sign_4 rfl (lv_at hl 1 rfl) ?_
  refine lv_iload_n hx hb dL_sign_5 rfl (lv_at hl 2 rfl) ?_
  refine lv_iload_n hx hb dL_sign_6 rfl (lv_at hl 3 rfl) ?_
  refine lv_iload hx hb dL_sign_7 (lv_at hl 4 rfl) ?_
  cases r with
  | inr x =>
    obtain ⟨xS, xk⟩ := x
    refine r_xVex (As := [.int p1, .int p2, .int p3, .int p4]) ⟨hx, hb, hml, hown, hts⟩ (c_X9_sign l hst9 D S a0 p1 p2 p3 p4 (.inr (xS, xk)) hf) (cwV 4 hts (gwV gw_41_9 gw_41_10 gw_41_11 gw_14_5 gw_27_16) rfl rfl rfl (by decide +kernel) ⟨Nat.le_of_ble_eq_true rfl, Nat.le_of_ble_eq_true rfl⟩) hH hE hB hNE 12 hek (by decide) rfl rfl rfl hl.1 rfl (Nat.le_of_ble_eq_true rfl) dL_sign_9 ⟨Nat.le_of_ble_eq_true rfl, Nat.le_of_ble_eq_true rfl⟩ (fun z9 ce9 q9 H locs hH hk9 hz9 h91 h92 h93 => ?_)
    have hj9 := hj _ rfl
    simp only at hj9
    rcases hj9 with rfl | rfl
    · refine vx_catch (E := exN 1) hown [] ⟨0, 14, 17, 13⟩ [⟨0, 14, 21, 66⟩] (by rw [hxt]; rfl) (fun _ h => absurd h List.not_mem_nil) rfl (by decide) (hts (.classLink RL 13 "java/lang/IllegalArgumentException") (List.mem_cons_of_mem _ gw_38_20)) (va_Nw.use rfl (hCN.1 1 (by decide) (by decide))) h91 h92 h93 ?_
      refine lv_astore (lv' := [(6, .ref q9), (0, .ref a0), (1, .int p1), (2, .int p2), (3, .int p3), (4, .int p4), (5, .ref o)]) hx hb dL_sign_17 hl (by decide) rfl (fun ls hl => ?_)
      refine lv_iconst (v := 1) hx hb dL_sign_19 (by decide) ?_
      exact e_no rfl hx hb hr hlocks hz9 hH.1 hk9 (hH.oa hO ho ho2) hH.2.1.al dL_sign_20
    · refine vx_catch (E := exN 5) hown [⟨0, 14, 17, 13⟩] ⟨0, 14, 21, 66⟩ [] (by rw [hxt]; rfl) (List.forall_mem_cons.mpr ⟨Or.inr ⟨by decide, _, (hts (.classLink RL 13 "java/lang/IllegalArgumentException") (List.mem_cons_of_mem _ gw_38_20)), hCN.2 5 1 (by decide) (by decide) (by decide) (by decide) (by decide)⟩, fun _ h => absurd h List.not_mem_nil⟩) rfl (by decide) (hts (.classLink RL 66 "java/util/NoSuchElementException") (List.mem_cons_of_mem _ gw_41_0)) (va_Nw.use rfl (hCN.1 5 (by decide) (by decide))) h91 h92 h93 ?_
      refine lv_astore (lv' := [(6, .ref q9), (0, .ref a0), (1, .int p1), (2, .int p2), (3, .int p3), (4, .int p4), (5, .ref o)]) hx hb dL_sign_21 hl (by decide) rfl (fun ls hl => ?_)
      refine lv_iconst (v := 2) hx hb dL_sign_23 (by decide) ?_
      exact e_no rfl hx hb hr hlocks hz9 hH.1 hk9 (hH.oa hO ho ho2) hH.2.1.al dL_sign_24
  | inl u =>
    refine r_xVok (As := [.int p1, .int p2, .int p3, .int p4]) (S' := u.1) (v := some (.int u.2)) (st1 := [.int u.2, .int 0, .ref o]) ⟨hx, hb, hml, hown, hts⟩ (c_X9_sign l hst9 D S a0 p1 p2 p3 p4 (.inl u) hf) (cwV 4 hts (gwV gw_41_9 gw_41_10 gw_41_11 gw_14_5 gw_27_16) rfl rfl rfl (by decide +kernel) ⟨Nat.le_of_ble_eq_true rfl, Nat.le_of_ble_eq_true rfl⟩) hH hE hB hNE 12 hek (by decide) rfl rfl rfl hl.1 rfl (Nat.le_of_ble_eq_true rfl) dL_sign_9 ⟨Nat.le_of_ble_eq_true rfl, Nat.le_of_ble_eq_true rfl⟩ rfl (fun H locs hH => ?_)
    refine lv_i2l hx hb dL_sign_12 rfl ?_
    refine r_last hx hb (hH.oa hO ho ho2) dL_sign_13 (fun H1 k hO1 hz1 oq1 => ?_)
    refine lv_goto (tgt := 25) hx hb dL_sign_14 (by decide) ?_
    refine lv_iconst (v := 0) hx hb dL_sign_25 (by decide) ?_
    exact e_ok (u := (u.1, .long u.2.toInt64)) hx hb hr hlocks (hH.1.other ((hH.2.2.1.1 o ho2).trans ho) hDo hz1 oq1) hH.2.2.1 hO1 (hH.2.1.al.put hz1 oq1 (Or.inr rfl)) dL_sign_26
abbrev rmL_apply : Room := { frames := 9, cells := 4, slots := 24, locals := 205 }
set_option maxHeartbeats 4000000 in
set_option maxRecDepth 100000 in
theorem w_apply (l : Launch) (hst9 : l.stackTraces = false) (D : va_G × Nat) (S : PS) (a0 : Nat) (p1 : Int32) (p2 : Int32) (p3 : Int32) (p4 : Int32) (o : Nat) (ho : kK S o = 0) (ho2 : o < kZ S) (hDo : D.2 ≤ o) (hek : kK S a0 = 13) (r : (PS × Int32) ⊕ (PS × Nat)) (hf : f_X9_apply S a0 p1 p2 p3 p4 = some r) (hj : ∀ x, r = .inr x → x.2 = 1 ∨ x.2 = 5 ∨ x.2 = 2) : LM l D yL_apply wsL_apply rmL_apply S [.ref a0, .int p1, .int p2, .int p3, .int p4, .ref o] .long o (wI9 r) (fun k => if k = 1 then 1 else if k = 5 then 2 else 3) 4 24 := by
  refine vx_ofWH (cc := cL_apply) (maxL := 7) (ret := some .int) (by decide) rfl ?_
  intro p e s m args below meth c s₁ B hml hv
  obtain ⟨rfl, hH0, hE, hNE, hCN, w0, hO⟩ := hv
  have hB := hH0.base
  have hx := B.exec
  have hb := B.bytes
  have hr := B.returns
  have hts := atoms_spec (ws := wsL_apply) B.pre
  have hown : s.vm.findClass RL = some m.cls := findClass_of_methodNamed B.named
  have hlocks := B.notSynchronized
  have hxt := vx_table (x := yL_apply) B (hts _ List.mem_cons_self)
  have hH : HI D S S s s.heap [] := HI.start hH0
  have hl := lv_entry ([.ref a0, .int p1, .int p2, .int p3, .int p4, .ref o]) (n := 7) (Nat.le_of_ble_eq_true rfl)
  rw [lg_entry_eq]
  generalize (lg_sl ([.ref a0, .int p1, .int p2, .int p3, .int p4, .ref o]) ++ List.replicate (7 - (lg_sl ([.ref a0, .int p1, .int p2, .int p3, .int p4, .ref o])).length) Slot.unset).toArray = ls at hl ⊢
  have hl : lv_has ls 7 [(0, .ref a0), (1, .int p1), (2, .int p2), (3, .int p3), (4, .int p4), (5, .ref o)] := hl
  refine lv_aload hx hb dL_apply_0 (lv_at hl 5 rfl) ?_
  refine lv_iconst (v := 0) hx hb dL_apply_2 (by decide) ?_
  refine lv_aload_n hx hb dL_apply_3 rfl (lv_at hl 0 rfl) ?_
  refine lv_iload_n hx hb dL_apply_4 rfl (lv_at hl 1 rfl) ?_
  refine lv_iload_n hx hb dL_apply_5 rfl (lv_at hl 2 rfl) ?_
  refine lv_iload_n hx hb dL_apply_6 rfl (lv_at hl 3 rfl) ?_
  refine lv_iload hx hb dL_apply_7 (lv_at hl 4 rfl) ?_
  cases r with
  | inr x =>
    obtain ⟨xS, xk⟩ := x
    refine r_xVex (As := [.int p1, .int p2, .int p3, .int p4]) ⟨hx, hb, hml, hown, hts⟩ (c_X9_apply l hst9 D S a0 p1 p2 p3 p4 (.inr (xS, xk)) hf) (cwV 4 hts (gwV gw_41_13 gw_41_14 gw_41_15 gw_14_5 gw_27_17) rfl rfl rfl (by decide +kernel) ⟨Nat.le_of_ble_eq_true rfl, Nat.le_of_ble_eq_true rfl⟩) hH hE hB hNE 12 hek (by decide) rfl rfl rfl hl.1 rfl (Nat.le_of_ble_eq_true rfl) dL_apply_9 ⟨Nat.le_of_ble_eq_true rfl, Nat.le_of_ble_eq_true rfl⟩ (fun z9 ce9 q9 H locs hH hk9 hz9 h91 h92 h93 => ?_)
    have hj9 := hj _ rfl
    simp only at hj9
    rcases hj9 with rfl | rfl | rfl
    · refine vx_catch (E := exN 1) hown [] ⟨0, 14, 17, 13⟩ [⟨0, 14, 21, 66⟩, ⟨0, 14, 25, 15⟩] (by rw [hxt]; rfl) (fun _ h => absurd h List.not_mem_nil) rfl (by decide) (hts (.classLink RL 13 "java/lang/IllegalArgumentException") (List.mem_cons_of_mem _ gw_38_20)) (va_Nw.use rfl (hCN.1 1 (by decide) (by decide))) h91 h92 h93 ?_
      refine lv_astore (lv' := [(6, .ref q9), (0, .ref a0), (1, .int p1), (2, .int p2), (3, .int p3), (4, .int p4), (5, .ref o)]) hx hb dL_apply_17 hl (by decide) rfl (fun ls hl => ?_)
      refine lv_iconst (v := 1) hx hb dL_apply_19 (by decide) ?_
      exact e_no rfl hx hb hr hlocks hz9 hH.1 hk9 (hH.oa hO ho ho2) hH.2.1.al dL_apply_20
    · refine vx_catch (E := exN 5) hown [⟨0, 14, 17, 13⟩] ⟨0, 14, 21, 66⟩ [⟨0, 14, 25, 15⟩] (by rw [hxt]; rfl) (List.forall_mem_cons.mpr ⟨Or.inr ⟨by decide, _, (hts (.classLink RL 13 "java/lang/IllegalArgumentException") (List.mem_cons_of_mem _ gw_38_20)), hCN.2 5 1 (by decide) (by decide) (by decide) (by decide) (by decide)⟩, fun _ h => absurd h List.not_mem_nil⟩) rfl (by decide) (hts (.classLink RL 66 "java/util/NoSuchElementException") (List.mem_cons_of_mem _ gw_41_0)) (va_Nw.use rfl (hCN.1 5 (by decide) (by decide))) h91 h92 h93 ?_
      refine lv_astore (lv' := [(6, .ref q9), (0, .ref a0), (1, .int p1), (2, .int p2), (3, .int p3), (4, .int p4), (5, .ref o)]) hx hb dL_apply_21 hl (by decide) rfl (fun ls hl => ?_)
      refine lv_iconst (v := 2) hx hb dL_apply_23 (by decide) ?_
      exact e_no rfl hx hb hr hlocks hz9 hH.1 hk9 (hH.oa hO ho ho2) hH.2.1.al dL_apply_24
    · refine vx_catch (E := exN 2) hown [⟨0, 14, 17, 13⟩, ⟨0, 14, 21, 66⟩] ⟨0, 14, 25, 15⟩ [] (by rw [hxt]; rfl) (List.forall_mem_cons.mpr ⟨Or.inr ⟨by decide, _, (hts (.classLink RL 13 "java/lang/IllegalArgumentException") (List.mem_cons_of_mem _ gw_38_20)), hCN.2 2 1 (by decide) (by decide) (by decide) (by decide) (by decide)⟩, List.forall_mem_cons.mpr ⟨Or.inr ⟨by decide, _, (hts (.classLink RL 66 "java/util/NoSuchElementException") (List.mem_cons_of_mem _ gw_41_0)), hCN.2 2 5 (by decide) (by decide) (by decide) (by decide) (by decide)⟩, fun _ h => absurd h List.not_mem_nil⟩⟩) rfl (by decide) (hts (.classLink RL 15 "java/lang/IllegalStateException") (List.mem_cons_of_mem _ gw_38_21)) (va_Nw.use rfl (hCN.1 2 (by decide) (by decide))) h91 h92 h93 ?_
      refine lv_astore (lv' := [(6, .ref q9), (0, .ref a0), (1, .int p1), (2, .int p2), (3, .int p3), (4, .int p4), (5, .ref o)]) hx hb dL_apply_25 hl (by decide) rfl (fun ls hl => ?_)
      refine lv_iconst (v := 3) hx hb dL_apply_27 (by decide) ?_
      exact e_no rfl hx hb hr hlocks hz9 hH.1 hk9 (hH.oa hO ho ho2) hH.2.1.al dL_apply_28
  | inl u =>
    refine r_xVok (As := [.int p1, .int p2, .int p3, .int p4]) (S' := u.1) (v := some (.int u.2)) (st1 := [.int u.2, .int 0, .ref o]) ⟨hx, hb, hml, hown, hts⟩ (c_X9_apply l hst9 D S a0 p1 p2 p3 p4 (.inl u) hf) (cwV 4 hts (gwV gw_41_13 gw_41_14 gw_41_15 gw_14_5 gw_27_17) rfl rfl rfl (by decide +kernel) ⟨Nat.le_of_ble_eq_true rfl, Nat.le_of_ble_eq_true rfl⟩) hH hE hB hNE 12 hek (by decide) rfl rfl rfl hl.1 rfl (Nat.le_of_ble_eq_true rfl) dL_apply_9 ⟨Nat.le_of_ble_eq_true rfl, Nat.le_of_ble_eq_true rfl⟩ rfl (fun H locs hH => ?_)
    refine lv_i2l hx hb dL_apply_12 rfl ?_
    refine r_last hx hb (hH.oa hO ho ho2) dL_apply_13 (fun H1 k hO1 hz1 oq1 => ?_)
    refine lv_goto (tgt := 29) hx hb dL_apply_14 (by decide) ?_
    refine lv_iconst (v := 0) hx hb dL_apply_29 (by decide) ?_
    exact e_ok (u := (u.1, .long u.2.toInt64)) hx hb hr hlocks (hH.1.other ((hH.2.2.1.1 o ho2).trans ho) hDo hz1 oq1) hH.2.2.1 hO1 (hH.2.1.al.put hz1 oq1 (Or.inr rfl)) dL_apply_30
abbrev rmL_ignore : Room := { frames := 9, cells := 3, slots := 18, locals := 201 }
set_option maxHeartbeats 4000000 in
set_option maxRecDepth 100000 in
theorem w_ignore (l : Launch) (hst9 : l.stackTraces = false) (D : va_G × Nat) (S : PS) (a0 : Nat) (p1 : Int32) (p2 : Int32) (o : Nat) (ho : kK S o = 0) (ho2 : o < kZ S) (hDo : D.2 ≤ o) (hek : kK S a0 = 13) (r : (PS × Int32) ⊕ (PS × Nat)) (hf : f_X9_ignore S a0 p1 p2 = some r) (hj : ∀ x, r = .inr x → x.2 = 1 ∨ x.2 = 5 ∨ x.2 = 2) : LM l D yL_ignore wsL_ignore rmL_ignore S [.ref a0, .int p1, .int p2, .ref o] .long o (wI9 r) (fun k => if k = 1 then 1 else if k = 5 then 2 else 3) 3 18 := by
  refine vx_ofWH (cc := cL_ignore) (maxL := 5) (ret := some .int) (by decide) rfl ?_
  intro p e s m args below meth c s₁ B hml hv
  obtain ⟨rfl, hH0, hE, hNE, hCN, w0, hO⟩ := hv
  have hB := hH0.base
  have hx := B.exec
  have hb := B.bytes
  have hr := B.returns
  have hts := atoms_spec (ws := wsL_ignore) B.pre
  have hown : s.vm.findClass RL = some m.cls := findClass_of_methodNamed B.named
  have hlocks := B.notSynchronized
  have hxt := vx_table (x := yL_ignore) B (hts _ List.mem_cons_self)
  have hH : HI D S S s s.heap [] := HI.start hH0
  have hl := lv_entry ([.ref a0, .int p1, .int p2, .ref o]) (n := 5) (Nat.le_of_ble_eq_true rfl)
  rw [lg_entry_eq]
  generalize (lg_sl ([.ref a0, .int p1, .int p2, .ref o]) ++ List.replicate (5 - (lg_sl ([.ref a0, .int p1, .int p2, .ref o])).length) Slot.unset).toArray = ls at hl ⊢
  have hl : lv_has ls 5 [(0, .ref a0), (1, .int p1), (2, .int p2), (3, .ref o)] := hl
  refine lv_aload_n hx hb dL_ignore_0 rfl (lv_at hl 3 rfl) ?_
  refine lv_iconst (v := 0) hx hb dL_ignore_1 (by decide) ?_
  refine lv_aload_n hx hb dL_ignore_2 rfl (lv_at hl 0 rfl) ?_
  refine lv_iload_n hx hb dL_ignore_3 rfl (lv_at hl 1 rfl) ?_
  refine lv_iload_n hx hb dL_ignore_4 rfl (lv_at hl 2 rfl) ?_
  cases r with
  | inr x =>
    obtain ⟨xS, xk⟩ := x
    refine r_xVex (As := [.int p1, .int p2]) ⟨hx, hb, hml, hown, hts⟩ (c_X9_ignore l hst9 D S a0 p1 p2 (.inr (xS, xk)) hf) (cwV 2 hts (gwV gw_41_17 gw_41_18 gw_41_19 gw_14_5 gw_27_18) rfl rfl rfl (by decide +kernel) ⟨Nat.le_of_ble_eq_true rfl, Nat.le_of_ble_eq_true rfl⟩) hH hE hB hNE 12 hek (by decide) rfl rfl rfl hl.1 rfl (Nat.le_of_ble_eq_true rfl) dL_ignore_5 ⟨Nat.le_of_ble_eq_true rfl, Nat.le_of_ble_eq_true rfl⟩ (fun z9 ce9 q9 H locs hH hk9 hz9 h91 h92 h93 => ?_)
    have hj9 := hj _ rfl
    simp only at hj9
    rcases hj9 with rfl | rfl | rfl
    · refine vx_catch (E := exN 1) hown [] ⟨0, 10, 13, 13⟩ [⟨0, 10, 17, 66⟩, ⟨0, 10, 21, 15⟩] (by rw [hxt]; rfl) (fun _ h => absurd h List.not_mem_nil) rfl (by decide) (hts (.classLink RL 13 "java/lang/IllegalArgumentException") (List.mem_cons_of_mem _ gw_38_20)) (va_Nw.use rfl (hCN.1 1 (by decide) (by decide))) h91 h92 h93 ?_
      refine lv_astore (lv' := [(4, .ref q9), (0, .ref a0), (1, .int p1), (2, .int p2), (3, .ref o)]) hx hb dL_ignore_13 hl (by decide) rfl (fun ls hl => ?_)
      refine lv_iconst (v := 1) hx hb dL_ignore_15 (by decide) ?_
      exact e_no rfl hx hb hr hlocks hz9 hH.1 hk9 (hH.oa hO ho ho2) hH.2.1.al dL_ignore_16
    · refine vx_catch (E := exN 5) hown [⟨0, 10, 13, 13⟩] ⟨0, 10, 17, 66⟩ [⟨0, 10, 21, 15⟩] (by rw [hxt]; rfl) (List.forall_mem_cons.mpr ⟨Or.inr ⟨by decide, _, (hts (.classLink RL 13 "java/lang/IllegalArgumentException") (List.mem_cons_of_mem _ gw_38_20)), hCN.2 5 1 (by decide) (by decide) (by decide) (by decide) (by decide)⟩, fun _ h => absurd h List.not_mem_nil⟩) rfl (by decide) (hts (.classLink RL 66 "java/util/NoSuchElementException") (List.mem_cons_of_mem _ gw_41_0)) (va_Nw.use rfl (hCN.1 5 (by decide) (by decide))) h91 h92 h93 ?_
      refine lv_astore (lv' := [(4, .ref q9), (0, .ref a0), (1, .int p1), (2, .int p2), (3, .ref o)]) hx hb dL_ignore_17 hl (by decide) rfl (fun ls hl => ?_)
      refine lv_iconst (v := 2) hx hb dL_ignore_19 (by decide) ?_
      exact e_no rfl hx hb hr hlocks hz9 hH.1 hk9 (hH.oa hO ho ho2) hH.2.1.al dL_ignore_20
    · refine vx_catch (E := exN 2) hown [⟨0, 10, 13, 13⟩, ⟨0, 10, 17, 66⟩] ⟨0, 10, 21, 15⟩ [] (by rw [hxt]; rfl) (List.forall_mem_cons.mpr ⟨Or.inr ⟨by decide, _, (hts (.classLink RL 13 "java/lang/IllegalArgumentException") (List.mem_cons_of_mem _ gw_38_20)), hCN.2 2 1 (by decide) (by decide) (by decide) (by decide) (by decide)⟩, List.forall_mem_cons.mpr ⟨Or.inr ⟨by decide, _, (hts (.classLink RL 66 "java/util/NoSuchElementException") (List.mem_cons_of_mem _ gw_41_0)), hCN.2 2 5 (by decide) (by decide) (by decide) (by decide) (by decide)⟩, fun _ h => absurd h List.not_mem_nil⟩⟩) rfl (by decide) (hts (.classLink RL 15 "java/lang/IllegalStateException") (List.mem_cons_of_mem _ gw_38_21)) (va_Nw.use rfl (hCN.1 2 (by decide) (by decide))) h91 h92 h93 ?_
      refine lv_astore (lv' := [(4, .ref q9), (0, .ref a0), (1, .int p1), (2, .int p2), (3, .ref o)]) hx hb dL_ignore_21 hl (by decide) rfl (fun ls hl => ?_)
      refine lv_iconst (v := 3) hx hb dL_ignore_23 (by decide) ?_
      exact e_no rfl hx hb hr hlocks hz9 hH.1 hk9 (hH.oa hO ho ho2) hH.2.1.al dL_ignore_24
  | inl u =>
    refine r_xVok (As := [.int p1, .int p2]) (S' := u.1) (v := some (.int u.2)) (st1 := [.int u.2, .int 0, .ref o]) ⟨hx, hb, hml, hown, hts⟩ (c_X9_ignore l hst9 D S a0 p1 p2 (.inl u) hf) (cwV 2 hts (gwV gw_41_17 gw_41_18 gw_41_19 gw_14_5 gw_27_18) rfl rfl rfl (by decide +kernel) ⟨Nat.le_of_ble_eq_true rfl, Nat.le_of_ble_eq_true rfl⟩) hH hE hB hNE 12 hek (by decide) rfl rfl rfl hl.1 rfl (Nat.le_of_ble_eq_true rfl) dL_ignore_5 ⟨Nat.le_of_ble_eq_true rfl, Nat.le_of_ble_eq_true rfl⟩ rfl (fun H locs hH => ?_)
    refine lv_i2l hx hb dL_ignore_8 rfl ?_
    refine r_last hx hb (hH.oa hO ho ho2) dL_ignore_9 (fun H1 k hO1 hz1 oq1 => ?_)
    refine lv_goto (tgt := 25) hx hb dL_ignore_10 (by decide) ?_
    refine lv_iconst (v := 0) hx hb dL_ignore_25 (by decide) ?_
    exact e_ok (u := (u.1, .long u.2.toInt64)) hx hb hr hlocks (hH.1.other ((hH.2.2.1.1 o ho2).trans ho) hDo hz1 oq1) hH.2.2.1 hO1 (hH.2.1.al.put hz1 oq1 (Or.inr rfl)) dL_ignore_26
abbrev rmL_ignored : Room := { frames := 8, cells := 1, slots := 6, locals := 132 }
set_option maxHeartbeats 4000000 in
set_option maxRecDepth 100000 in
theorem w_ignored (l : Launch) (hst9 : l.stackTraces = false) (D : va_G × Nat) (S : PS) (a0 : Nat) (p1 : Int32) (o : Nat) (ho : kK S o = 0) (ho2 : o < kZ S) (hDo : D.2 ≤ o) (hek : kK S a0 = 13) (r : (PS × Int32) ⊕ (PS × Nat)) (hf : f_X9_ignored S a0 p1 = some r) (hj : ∀ x, r = .inr x → x.2 = 1) : LM l D yL_ignored wsL_ignored rmL_ignored S [.ref a0, .int p1, .ref o] .long o (wI9 r) (fun _ => 1) 1 6 := by
  refine vx_ofWH (cc := cL_ignored) (maxL := 4) (ret := some .int) (by decide) rfl ?_
  intro p e s m args below meth c s₁ B hml hv
  obtain ⟨rfl, hH0, hE, hNE, hCN, w0, hO⟩ := hv
  have hB := hH0.base
  have hx := B.exec
  have hb := B.bytes
  have hr := B.returns
  have hts := atoms_spec (ws := wsL_ignored) B.pre
  have hown : s.vm.findClass RL = some m.cls := findClass_of_methodNamed B.named
  have hlocks := B.notSynchronized
  have hxt := vx_table (x := yL_ignored) B (hts _ List.mem_cons_self)
  have hH : HI D S S s s.heap [] := HI.start hH0
  have hl := lv_entry ([.ref a0, .int p1, .ref o]) (n := 4) (Nat.le_of_ble_eq_true rfl)
  rw [lg_entry_eq]
  generalize (lg_sl ([.ref a0, .int p1, .ref o]) ++ List.replicate (4 - (lg_sl ([.ref a0, .int p1, .ref o])).length) Slot.unset).toArray = ls at hl ⊢
  have hl : lv_has ls 4 [(0, .ref a0), (1, .int p1), (2, .ref o)] := hl
  refine lv_aload_n hx hb dL_ignored_0 rfl (lv_at hl 2 rfl) ?_
  refine lv_iconst (v := 0) hx hb dL_ignored_1 (by decide) ?_
  refine lv_aload_n hx hb dL_ignored_2 rfl (lv_at hl 0 rfl) ?_
  refine lv_iload_n hx hb dL_ignored_3 rfl (lv_at hl 1 rfl) ?_
  cases r with
  | inr x =>
    obtain ⟨xS, xk⟩ := x
    refine r_xVex (As := [.int p1]) ⟨hx, hb, hml, hown, hts⟩ (c_X9_ignored l hst9 D S a0 p1 (.inr (xS, xk)) hf) (cwV 1 hts (gwV gw_41_21 gw_41_22 gw_41_23 gw_14_5 gw_27_23) rfl rfl rfl (by decide +kernel) ⟨Nat.le_of_ble_eq_true rfl, Nat.le_of_ble_eq_true rfl⟩) hH hE hB hNE 12 hek (by decide) rfl rfl rfl hl.1 rfl (Nat.le_of_ble_eq_true rfl) dL_ignored_4 ⟨Nat.le_of_ble_eq_true rfl, Nat.le_of_ble_eq_true rfl⟩ (fun z9 ce9 q9 H locs hH hk9 hz9 h91 h92 h93 => ?_)
    have hj9 := hj _ rfl
    simp only at hj9
    subst hj9
    · refine vx_catch (E := exN 1) hown [] ⟨0, 9, 12, 13⟩ [] (by rw [hxt]; rfl) (fun _ h => absurd h List.not_mem_nil) rfl (by decide) (hts (.classLink RL 13 "java/lang/IllegalArgumentException") (List.mem_cons_of_mem _ gw_38_20)) (va_Nw.use rfl (hCN.1 1 (by decide) (by decide))) h91 h92 h93 ?_
      refine lv_astore_n (lv' := [(3, .ref q9), (0, .ref a0), (1, .int p1), (2, .ref o)]) hx hb dL_ignored_12 rfl hl (by decide) rfl (fun ls hl => ?_)
      refine lv_iconst (v := 1) hx hb dL_ignored_13 (by decide) ?_
      exact e_no rfl hx hb hr hlocks hz9 hH.1 hk9 (hH.oa hO ho ho2) hH.2.1.al dL_ignored_14
  | inl u =>
    refine r_xVok (As := [.int p1]) (S' := u.1) (v := some (.int u.2)) (st1 := [.int u.2, .int 0, .ref o]) ⟨hx, hb, hml, hown, hts⟩ (c_X9_ignored l hst9 D S a0 p1 (.inl u) hf) (cwV 1 hts (gwV gw_41_21 gw_41_22 gw_41_23 gw_14_5 gw_27_23) rfl rfl rfl (by decide +kernel) ⟨Nat.le_of_ble_eq_true rfl, Nat.le_of_ble_eq_true rfl⟩) hH hE hB hNE 12 hek (by decide) rfl rfl rfl hl.1 rfl (Nat.le_of_ble_eq_true rfl) dL_ignored_4 ⟨Nat.le_of_ble_eq_true rfl, Nat.le_of_ble_eq_true rfl⟩ rfl (fun H locs hH => ?_)
    refine lv_i2l hx hb dL_ignored_7 rfl ?_
    refine r_last hx hb (hH.oa hO ho ho2) dL_ignored_8 (fun H1 k hO1 hz1 oq1 => ?_)
    refine lv_goto (tgt := 15) hx hb dL_ignored_9 (by decide) ?_
    refine lv_iconst (v := 0) hx hb dL_ignored_15 (by decide) ?_
    exact e_ok (u := (u.1, .long u.2.toInt64)) hx hb hr hlocks (hH.1.other ((hH.2.2.1.1 o ho2).trans ho) hDo hz1 oq1) hH.2.2.1 hO1 (hH.2.1.al.put hz1 oq1 (Or.inr rfl)) dL_ignored_16
abbrev rmL_heed : Room := { frames := 8, cells := 1, slots := 6, locals := 134 }
set_option maxHeartbeats 4000000 in
set_option maxRecDepth 100000 in
theorem w_heed (l : Launch) (hst9 : l.stackTraces = false) (D : va_G × Nat) (S : PS) (a0 : Nat) (p1 : Int32) (o : Nat) (ho : kK S o = 0) (ho2 : o < kZ S) (hDo : D.2 ≤ o) (hek : kK S a0 = 13) (r : (PS × Int32) ⊕ (PS × Nat)) (hf : f_X9_heed S a0 p1 = some r) (hj : ∀ x, r = .inr x → x.2 = 1) : LM l D yL_heed wsL_heed rmL_heed S [.ref a0, .int p1, .ref o] .long o (wI9 r) (fun _ => 1) 1 6 := by
  refine vx_ofWH (cc := cL_heed) (maxL := 4) (ret := some .int) (by decide) rfl ?_
  intro p e s m args below meth c s₁ B hml hv
  obtain ⟨rfl, hH0, hE, hNE, hCN, w0, hO⟩ := hv
  have hB := hH0.base
  have hx := B.exec
  have hb := B.bytes
  have hr := B.returns
  have hts := atoms_spec (ws := wsL_heed) B.pre
  have hown : s.vm.findClass RL = some m.cls := findClass_of_methodNamed B.named
  have hlocks := B.notSynchronized
  have hxt := vx_table (x := yL_heed) B (hts _ List.mem_cons_self)
  have hH : HI D S S s s.heap [] := HI.start hH0
  have hl := lv_entry ([.ref a0, .int p1, .ref o]) (n := 4) (Nat.le_of_ble_eq_true rfl)
  rw [lg_entry_eq]
  generalize (lg_sl ([.ref a0, .int p1, .ref o]) ++ List.replicate (4 - (lg_sl ([.ref a0, .int p1, .ref o])).length) Slot.unset).toArray = ls at hl ⊢
  have hl : lv_has ls 4 [(0, .ref a0), (1, .int p1), (2, .ref o)] := hl
  refine lv_aload_n hx hb dL_heed_0 rfl (lv_at hl 2 rfl) ?_
  refine lv_iconst (v := 0) hx hb dL_heed_1 (by decide) ?_
  refine lv_aload_n hx hb dL_heed_2 rfl (lv_at hl 0 rfl) ?_
  refine lv_iload_n hx hb dL_heed_3 rfl (lv_at hl 1 rfl) ?_
  cases r with
  | inr x =>
    obtain ⟨xS, xk⟩ := x
    refine r_xVex (As := [.int p1]) ⟨hx, hb, hml, hown, hts⟩ (c_X9_heed l hst9 D S a0 p1 (.inr (xS, xk)) hf) (cwV 1 hts (gwV gw_42_1 gw_42_2 gw_42_3 gw_14_5 gw_28_0) rfl rfl rfl (by decide +kernel) ⟨Nat.le_of_ble_eq_true rfl, Nat.le_of_ble_eq_true rfl⟩) hH hE hB hNE 12 hek (by decide) rfl rfl rfl hl.1 rfl (Nat.le_of_ble_eq_true rfl) dL_heed_4 ⟨Nat.le_of_ble_eq_true rfl, Nat.le_of_ble_eq_true rfl⟩ (fun z9 ce9 q9 H locs hH hk9 hz9 h91 h92 h93 => ?_)
    have hj9 := hj _ rfl
    simp only at hj9
    subst hj9
    · refine vx_catch (E := exN 1) hown [] ⟨0, 9, 12, 13⟩ [] (by rw [hxt]; rfl) (fun _ h => absurd h List.not_mem_nil) rfl (by decide) (hts (.classLink RL 13 "java/lang/IllegalArgumentException") (List.mem_cons_of_mem _ gw_38_20)) (va_Nw.use rfl (hCN.1 1 (by decide) (by decide))) h91 h92 h93 ?_
      refine lv_astore_n (lv' := [(3, .ref q9), (0, .ref a0), (1, .int p1), (2, .ref o)]) hx hb dL_heed_12 rfl hl (by decide) rfl (fun ls hl => ?_)
      refine lv_iconst (v := 1) hx hb dL_heed_13 (by decide) ?_
      exact e_no rfl hx hb hr hlocks hz9 hH.1 hk9 (hH.oa hO ho ho2) hH.2.1.al dL_heed_14
  | inl u =>
    refine r_xVok (As := [.int p1]) (S' := u.1) (v := some (.int u.2)) (st1 := [.int u.2, .int 0, .ref o]) ⟨hx, hb, hml, hown, hts⟩ (c_X9_heed l hst9 D S a0 p1 (.inl u) hf) (cwV 1 hts (gwV gw_42_1 gw_42_2 gw_42_3 gw_14_5 gw_28_0) rfl rfl rfl (by decide +kernel) ⟨Nat.le_of_ble_eq_true rfl, Nat.le_of_ble_eq_true rfl⟩) hH hE hB hNE 12 hek (by decide) rfl rfl rfl hl.1 rfl (Nat.le_of_ble_eq_true rfl) dL_heed_4 ⟨Nat.le_of_ble_eq_true rfl, Nat.le_of_ble_eq_true rfl⟩ rfl (fun H locs hH => ?_)
    refine lv_i2l hx hb dL_heed_7 rfl ?_
    refine r_last hx hb (hH.oa hO ho ho2) dL_heed_8 (fun H1 k hO1 hz1 oq1 => ?_)
    refine lv_goto (tgt := 15) hx hb dL_heed_9 (by decide) ?_
    refine lv_iconst (v := 0) hx hb dL_heed_15 (by decide) ?_
    exact e_ok (u := (u.1, .long u.2.toInt64)) hx hb hr hlocks (hH.1.other ((hH.2.2.1.1 o ho2).trans ho) hDo hz1 oq1) hH.2.2.1 hO1 (hH.2.1.al.put hz1 oq1 (Or.inr rfl)) dL_heed_16
abbrev rmL_check : Room := { frames := 8, cells := 1, slots := 6, locals := 132 }
set_option maxHeartbeats 4000000 in
set_option maxRecDepth 100000 in
theorem w_check (l : Launch) (hst9 : l.stackTraces = false) (D : va_G × Nat) (S : PS) (a0 : Nat) (p1 : Int32) (o : Nat) (ho : kK S o = 0) (ho2 : o < kZ S) (hDo : D.2 ≤ o) (hek : kK S a0 = 13) (r : (PS × Int32) ⊕ (PS × Nat)) (hf : f_X9_check S a0 p1 = some r) (hj : ∀ x, r = .inr x → x.2 = 1) : LM l D yL_check wsL_check rmL_check S [.ref a0, .int p1, .ref o] .long o (wI9 r) (fun _ => 1) 1 6 := by
  refine vx_ofWH (cc := cL_check) (maxL := 4) (ret := some .int) (by decide) rfl ?_
  intro p e s m args below meth c s₁ B hml hv
  obtain ⟨rfl, hH0, hE, hNE, hCN, w0, hO⟩ := hv
  have hB := hH0.base
  have hx := B.exec
  have hb := B.bytes
  have hr := B.returns
  have hts := atoms_spec (ws := wsL_check) B.pre
  have hown : s.vm.findClass RL = some m.cls := findClass_of_methodNamed B.named
  have hlocks := B.notSynchronized
  have hxt := vx_table (x := yL_check) B (hts _ List.mem_cons_self)
  have hH : HI D S S s s.heap [] := HI.start hH0
  have hl := lv_entry ([.ref a0, .int p1, .ref o]) (n := 4) (Nat.le_of_ble_eq_true rfl)
  rw [lg_entry_eq]
  generalize (lg_sl ([.ref a0, .int p1, .ref o]) ++ List.replicate (4 - (lg_sl ([.ref a0, .int p1, .ref o])).length) Slot.unset).toArray = ls at hl ⊢
  have hl : lv_has ls 4 [(0, .ref a0), (1, .int p1), (2, .ref o)] := hl
  refine lv_aload_n hx hb dL_check_0 rfl (lv_at hl 2 rfl) ?_
  refine lv_iconst (v := 0) hx hb dL_check_1 (by decide) ?_
  refine lv_aload_n hx hb dL_check_2 rfl (lv_at hl 0 rfl) ?_
  refine lv_iload_n hx hb dL_check_3 rfl (lv_at hl 1 rfl) ?_
  cases r with
  | inr x =>
    obtain ⟨xS, xk⟩ := x
    refine r_xVex (As := [.int p1]) ⟨hx, hb, hml, hown, hts⟩ (c_X9_check l hst9 D S a0 p1 (.inr (xS, xk)) hf) (cwV 1 hts (gwV gw_42_5 gw_42_6 gw_42_7 gw_14_5 gw_28_8) rfl rfl rfl (by decide +kernel) ⟨Nat.le_of_ble_eq_true rfl, Nat.le_of_ble_eq_true rfl⟩) hH hE hB hNE 12 hek (by decide) rfl rfl rfl hl.1 rfl (Nat.le_of_ble_eq_true rfl) dL_check_4 ⟨Nat.le_of_ble_eq_true rfl, Nat.le_of_ble_eq_true rfl⟩ (fun z9 ce9 q9 H locs hH hk9 hz9 h91 h92 h93 => ?_)
    have hj9 := hj _ rfl
    simp only at hj9
    subst hj9
    · refine vx_catch (E := exN 1) hown [] ⟨0, 9, 12, 13⟩ [] (by rw [hxt]; rfl) (fun _ h => absurd h List.not_mem_nil) rfl (by decide) (hts (.classLink RL 13 "java/lang/IllegalArgumentException") (List.mem_cons_of_mem _ gw_38_20)) (va_Nw.use rfl (hCN.1 1 (by decide) (by decide))) h91 h92 h93 ?_
      refine lv_astore_n (lv' := [(3, .ref q9), (0, .ref a0), (1, .int p1), (2, .ref o)]) hx hb dL_check_12 rfl hl (by decide) rfl (fun ls hl => ?_)
      refine lv_iconst (v := 1) hx hb dL_check_13 (by decide) ?_
      exact e_no rfl hx hb hr hlocks hz9 hH.1 hk9 (hH.oa hO ho ho2) hH.2.1.al dL_check_14
  | inl u =>
    refine r_xVok (As := [.int p1]) (S' := u.1) (v := some (.int u.2)) (st1 := [.int u.2, .int 0, .ref o]) ⟨hx, hb, hml, hown, hts⟩ (c_X9_check l hst9 D S a0 p1 (.inl u) hf) (cwV 1 hts (gwV gw_42_5 gw_42_6 gw_42_7 gw_14_5 gw_28_8) rfl rfl rfl (by decide +kernel) ⟨Nat.le_of_ble_eq_true rfl, Nat.le_of_ble_eq_true rfl⟩) hH hE hB hNE 12 hek (by decide) rfl rfl rfl hl.1 rfl (Nat.le_of_ble_eq_true rfl) dL_check_4 ⟨Nat.le_of_ble_eq_true rfl, Nat.le_of_ble_eq_true rfl⟩ rfl (fun H locs hH => ?_)
    refine lv_i2l hx hb dL_check_7 rfl ?_
    refine r_last hx hb (hH.oa hO ho ho2) dL_check_8 (fun H1 k hO1 hz1 oq1 => ?_)
    refine lv_goto (tgt := 15) hx hb dL_check_9 (by decide) ?_
    refine lv_iconst (v := 0) hx hb dL_check_15 (by decide) ?_
    exact e_ok (u := (u.1, .long u.2.toInt64)) hx hb hr hlocks (hH.1.other ((hH.2.2.1.1 o ho2).trans ho) hDo hz1 oq1) hH.2.2.1 hO1 (hH.2.1.al.put hz1 oq1 (Or.inr rfl)) dL_check_16
abbrev rmL_byRule : Room := { frames := 9, cells := 2, slots := 12, locals := 202 }
set_option maxHeartbeats 4000000 in
set_option maxRecDepth 100000 in
theorem w_byRule (l : Launch) (hst9 : l.stackTraces = false) (D : va_G × Nat) (S : PS) (a0 : Nat) (p1 : Int32) (p2 : Int32) (o : Nat) (ho : kK S o = 0) (ho2 : o < kZ S) (hDo : D.2 ≤ o) (hek : kK S a0 = 13) (r : (PS × Int32) ⊕ (PS × Nat)) (hf : f_X9_byRule S a0 p1 p2 = some r) (hj : ∀ x, r = .inr x → x.2 = 1) : LM l D yL_byRule wsL_byRule rmL_byRule S [.ref a0, .int p1, .int p2, .ref o] .long o (wI9 r) (fun _ => 1) 2 12 := by
  refine vx_ofWH (cc := cL_byRule) (maxL := 5) (ret := some .int) (by decide) rfl ?_
  intro p e s m args below meth c s₁ B hml hv
  obtain ⟨rfl, hH0, hE, hNE, hCN, w0, hO⟩ := hv
  have hB := hH0.base
  have hx := B.exec
  have hb := B.bytes
  have hr := B.returns
  have hts := atoms_spec (ws := wsL_byRule) B.pre
  have hown : s.vm.findClass RL = some m.cls := findClass_of_methodNamed B.named
  have hlocks := B.notSynchronized
  have hxt := vx_table (x := yL_byRule) B (hts _ List.mem_cons_self)
  have hH : HI D S S s s.heap [] := HI.start hH0
  have hl := lv_entry ([.ref a0, .int p1, .int p2, .ref o]) (n := 5) (Nat.le_of_ble_eq_true rfl)
  rw [lg_entry_eq]
  generalize (lg_sl ([.ref a0, .int p1, .int p2, .ref o]) ++ List.replicate (5 - (lg_sl ([.ref a0, .int p1, .int p2, .ref o])).length) Slot.unset).toArray = ls at hl ⊢
  have hl : lv_has ls 5 [(0, .ref a0), (1, .int p1), (2, .int p2), (3, .ref o)] := hl
  refine lv_aload_n hx hb dL_byRule_0 rfl (lv_at hl 3 rfl) ?_
  refine lv_iconst (v := 0) hx hb dL_byRule_1 (by decide) ?_
  refine lv_aload_n hx hb dL_byRule_2 rfl (lv_at hl 0 rfl) ?_
  refine lv_iload_n hx hb dL_byRule_3 rfl (lv_at hl 1 rfl) ?_
  refine lv_iload_n hx hb dL_byRule_4 rfl (lv_at hl 2 rfl) ?_
  cases r with
  | inr x =>
    obtain ⟨xS, xk⟩ := x
    refine r_xVex (As := [.int p1, .int p2]) ⟨hx, hb, hml, hown, hts⟩ (c_X9_byRule l hst9 D S a0 p1 p2 (.inr (xS, xk)) hf) (cwV 2 hts (gwV gw_42_9 gw_42_10 gw_42_11 gw_14_5 gw_28_12) rfl rfl rfl (by decide +kernel) ⟨Nat.le_of_ble_eq_true rfl, Nat.le_of_ble_eq_true rfl⟩) hH hE hB hNE 12 hek (by decide) rfl rfl rfl hl.1 rfl (Nat.le_of_ble_eq_true rfl) dL_byRule_5 ⟨Nat.le_of_ble_eq_true rfl, Nat.le_of_ble_eq_true rfl⟩ (fun z9 ce9 q9 H locs hH hk9 hz9 h91 h92 h93 => ?_)
    have hj9 := hj _ rfl
    simp only at hj9
    subst hj9
    · refine vx_catch (E := exN 1) hown [] ⟨0, 10, 13, 13⟩ [] (by rw [hxt]; rfl) (fun _ h => absurd h List.not_mem_nil) rfl (by decide) (hts (.classLink RL 13 "java/lang/IllegalArgumentException") (List.mem_cons_of_mem _ gw_38_20)) (va_Nw.use rfl (hCN.1 1 (by decide) (by decide))) h91 h92 h93 ?_
      refine lv_astore (lv' := [(4, .ref q9), (0, .ref a0), (1, .int p1), (2, .int p2), (3, .ref o)]) hx hb dL_byRule_13 hl (by decide) rfl (fun ls hl => ?_)
      refine lv_iconst (v := 1) hx hb dL_byRule_15 (by decide) ?_
      exact e_no rfl hx hb hr hlocks hz9 hH.1 hk9 (hH.oa hO ho ho2) hH.2.1.al dL_byRule_16
  | inl u =>
    refine r_xVok (As := [.int p1, .int p2]) (S' := u.1) (v := some (.int u.2)) (st1 := [.int u.2, .int 0, .ref o]) ⟨hx, hb, hml, hown, hts⟩ (c_X9_byRule l hst9 D S a0 p1 p2 (.inl u) hf) (cwV 2 hts (gwV gw_42_9 gw_42_10 gw_42_11 gw_14_5 gw_28_12) rfl rfl rfl (by decide +kernel) ⟨Nat.le_of_ble_eq_true rfl, Nat.le_of_ble_eq_true rfl⟩) hH hE hB hNE 12 hek (by decide) rfl rfl rfl hl.1 rfl (Nat.le_of_ble_eq_true rfl) dL_byRule_5 ⟨Nat.le_of_ble_eq_true rfl, Nat.le_of_ble_eq_true rfl⟩ rfl (fun H locs hH => ?_)
    refine lv_i2l hx hb dL_byRule_8 rfl ?_
    refine r_last hx hb (hH.oa hO ho ho2) dL_byRule_9 (fun H1 k hO1 hz1 oq1 => ?_)
    refine lv_goto (tgt := 17) hx hb dL_byRule_10 (by decide) ?_
    refine lv_iconst (v := 0) hx hb dL_byRule_17 (by decide) ?_
    exact e_ok (u := (u.1, .long u.2.toInt64)) hx hb hr hlocks (hH.1.other ((hH.2.2.1.1 o ho2).trans ho) hDo hz1 oq1) hH.2.2.1 hO1 (hH.2.1.al.put hz1 oq1 (Or.inr rfl)) dL_byRule_18
abbrev rmL_byWriter : Room := { frames := 9, cells := 2, slots := 12, locals := 202 }
set_option maxHeartbeats 4000000 in
set_option maxRecDepth 100000 in
theorem w_byWriter (l : Launch) (hst9 : l.stackTraces = false) (D : va_G × Nat) (S : PS) (a0 : Nat) (p1 : Int32) (p2 : Int32) (o : Nat) (ho : kK S o = 0) (ho2 : o < kZ S) (hDo : D.2 ≤ o) (hek : kK S a0 = 13) (r : (PS × Int32) ⊕ (PS × Nat)) (hf : f_X9_byWriter S a0 p1 p2 = some r) (hj : ∀ x, r = .inr x → x.2 = 1) : LM l D yL_byWriter wsL_byWriter rmL_byWriter S [.ref a0, .int p1, .int p2, .ref o] .long o (wI9 r) (fun _ => 1) 2 12 := by
  refine vx_ofWH (cc := cL_byWriter) (maxL := 5) (ret := some .int) (by decide) rfl ?_
  intro p e s m args below meth c s₁ B hml hv
  obtain ⟨rfl, hH0, hE, hNE, hCN, w0, hO⟩ := hv
  have hB := hH0.base
  have hx := B.exec
  have hb := B.bytes
  have hr := B.returns
  have hts := atoms_spec (ws := wsL_byWriter) B.pre
  have hown : s.vm.findClass RL = some m.cls := findClass_of_methodNamed B.named
  have hlocks := B.notSynchronized
  have hxt := vx_table (x := yL_byWriter) B (hts _ List.mem_cons_self)
  have hH : HI D S S s s.heap [] := HI.start hH0
  have hl := lv_entry ([.ref a0, .int p1, .int p2, .ref o]) (n := 5) (Nat.le_of_ble_eq_true rfl)
  rw [lg_entry_eq]
  generalize (lg_sl ([.ref a0, .int p1, .int p2, .ref o]) ++ List.replicate (5 - (lg_sl ([.ref a0, .int p1, .int p2, .ref o])).length) Slot.unset).toArray = ls at hl ⊢
  have hl : lv_has ls 5 [(0, .ref a0), (1, .int p1), (2, .int p2), (3, .ref o)] := hl
  refine lv_aload_n hx hb dL_byWriter_0 rfl (lv_at hl 3 rfl) ?_
  refine lv_iconst (v := 0) hx hb dL_byWriter_1 (by decide) ?_
  refine lv_aload_n hx hb dL_byWriter_2 rfl (lv_at hl 0 rfl) ?_
  refine lv_iload_n hx hb dL_byWriter_3 rfl (lv_at hl 1 rfl) ?_
  refine lv_iload_n hx hb dL_byWriter_4 rfl (lv_at hl 2 rfl) ?_
  cases r with
  | inr x =>
    obtain ⟨xS, xk⟩ := x
    refine r_xVex (As := [.int p1, .int p2]) ⟨hx, hb, hml, hown, hts⟩ (c_X9_byWriter l hst9 D S a0 p1 p2 (.inr (xS, xk)) hf) (cwV 2 hts (gwV gw_42_13 gw_42_14 gw_42_15 gw_14_5 gw_28_13) rfl rfl rfl (by decide +kernel) ⟨Nat.le_of_ble_eq_true rfl, Nat.le_of_ble_eq_true rfl⟩) hH hE hB hNE 12 hek (by decide) rfl rfl rfl hl.1 rfl (Nat.le_of_ble_eq_true rfl) dL_byWriter_5 ⟨Nat.le_of_ble_eq_true rfl, Nat.le_of_ble_eq_true rfl⟩ (fun z9 ce9 q9 H locs hH hk9 hz9 h91 h92 h93 => ?_)
    have hj9 := hj _ rfl
    simp only at hj9
    subst hj9
    · refine vx_catch (E := exN 1) hown [] ⟨0, 10, 13, 13⟩ [] (by rw [hxt]; rfl) (fun _ h => absurd h List.not_mem_nil) rfl (by decide) (hts (.classLink RL 13 "java/lang/IllegalArgumentException") (List.mem_cons_of_mem _ gw_38_20)) (va_Nw.use rfl (hCN.1 1 (by decide) (by decide))) h91 h92 h93 ?_
      refine lv_astore (lv' := [(4, .ref q9), (0, .ref a0), (1, .int p1), (2, .int p2), (3, .ref o)]) hx hb dL_byWriter_13 hl (by decide) rfl (fun ls hl => ?_)
      refine lv_iconst (v := 1) hx hb dL_byWriter_15 (by decide) ?_
      exact e_no rfl hx hb hr hlocks hz9 hH.1 hk9 (hH.oa hO ho ho2) hH.2.1.al dL_byWriter_16
  | inl u =>
    refine r_xVok (As := [.int p1, .int p2]) (S' := u.1) (v := some (.int u.2)) (st1 := [.int u.2, .int 0, .ref o]) ⟨hx, hb, hml, hown, hts⟩ (c_X9_byWriter l hst9 D S a0 p1 p2 (.inl u) hf) (cwV 2 hts (gwV gw_42_13 gw_42_14 gw_42_15 gw_14_5 gw_28_13) rfl rfl rfl (by decide +kernel) ⟨Nat.le_of_ble_eq_true rfl, Nat.le_of_ble_eq_true rfl⟩) hH hE hB hNE 12 hek (by decide) rfl rfl rfl hl.1 rfl (Nat.le_of_ble_eq_true rfl) dL_byWriter_5 ⟨Nat.le_of_ble_eq_true rfl, Nat.le_of_ble_eq_true rfl⟩ rfl (fun H locs hH => ?_)
    refine lv_i2l hx hb dL_byWriter_8 rfl ?_
    refine r_last hx hb (hH.oa hO ho ho2) dL_byWriter_9 (fun H1 k hO1 hz1 oq1 => ?_)
    refine lv_goto (tgt := 17) hx hb dL_byWriter_10 (by decide) ?_
    refine lv_iconst (v := 0) hx hb dL_byWriter_17 (by decide) ?_
    exact e_ok (u := (u.1, .long u.2.toInt64)) hx hb hr hlocks (hH.1.other ((hH.2.2.1.1 o ho2).trans ho) hDo hz1 oq1) hH.2.2.1 hO1 (hH.2.1.al.put hz1 oq1 (Or.inr rfl)) dL_byWriter_18
abbrev rmL_foundShare : Room := { frames := 9, cells := 2, slots := 12, locals := 202 }
set_option maxHeartbeats 4000000 in
set_option maxRecDepth 100000 in
theorem w_foundShare (l : Launch) (hst9 : l.stackTraces = false) (D : va_G × Nat) (S : PS) (a0 : Nat) (p1 : Int32) (o : Nat) (ho : kK S o = 0) (ho2 : o < kZ S) (hDo : D.2 ≤ o) (hek : kK S a0 = 13) (r : (PS × UInt32) ⊕ (PS × Nat)) (hf : f_X9_foundShare S a0 p1 = some r) (hj : ∀ x, r = .inr x → x.2 = 1 ∨ x.2 = 6) (hnn : ∀ u, r = .inl u → vf_n64 (FP.f2d u.2)) : LM l D yL_foundShare wsL_foundShare rmL_foundShare S [.ref a0, .int p1, .ref o] .double o (wF9 r) (fun k => if k = 1 then 1 else 2) 2 12 := by
  refine vx_ofWH (cc := cL_foundShare) (maxL := 4) (ret := some .int) (by decide) rfl ?_
  intro p e s m args below meth c s₁ B hml hv
  obtain ⟨rfl, hH0, hE, hNE, hCN, w0, hO⟩ := hv
  have hB := hH0.base
  have hx := B.exec
  have hb := B.bytes
  have hr := B.returns
  have hts := atoms_spec (ws := wsL_foundShare) B.pre
  have hown : s.vm.findClass RL = some m.cls := findClass_of_methodNamed B.named
  have hlocks := B.notSynchronized
  have hxt := vx_table (x := yL_foundShare) B (hts _ List.mem_cons_self)
  have hH : HI D S S s s.heap [] := HI.start hH0
  have hl := lv_entry ([.ref a0, .int p1, .ref o]) (n := 4) (Nat.le_of_ble_eq_true rfl)
  rw [lg_entry_eq]
  generalize (lg_sl ([.ref a0, .int p1, .ref o]) ++ List.replicate (4 - (lg_sl ([.ref a0, .int p1, .ref o])).length) Slot.unset).toArray = ls at hl ⊢
  have hl : lv_has ls 4 [(0, .ref a0), (1, .int p1), (2, .ref o)] := hl
  refine lv_aload_n hx hb dL_foundShare_0 rfl (lv_at hl 2 rfl) ?_
  refine lv_iconst (v := 0) hx hb dL_foundShare_1 (by decide) ?_
  refine lv_aload_n hx hb dL_foundShare_2 rfl (lv_at hl 0 rfl) ?_
  refine lv_iload_n hx hb dL_foundShare_3 rfl (lv_at hl 1 rfl) ?_
  cases r with
  | inr x =>
    obtain ⟨xS, xk⟩ := x
    refine r_xVex (As := [.int p1]) ⟨hx, hb, hml, hown, hts⟩ (c_X9_foundShare l hst9 D S a0 p1 (.inr (xS, xk)) hf) (cwV 1 hts (gwV gw_42_18 gw_42_19 gw_42_20 gw_14_5 gw_28_17) rfl rfl rfl (by decide +kernel) ⟨Nat.le_of_ble_eq_true rfl, Nat.le_of_ble_eq_true rfl⟩) hH hE hB hNE 12 hek (by decide) rfl rfl rfl hl.1 rfl (Nat.le_of_ble_eq_true rfl) dL_foundShare_4 ⟨Nat.le_of_ble_eq_true rfl, Nat.le_of_ble_eq_true rfl⟩ (fun z9 ce9 q9 H locs hH hk9 hz9 h91 h92 h93 => ?_)
    have hj9 := hj _ rfl
    simp only at hj9
    rcases hj9 with rfl | rfl
    · refine vx_catch (E := exN 1) hown [] ⟨0, 9, 12, 13⟩ [⟨0, 9, 15, 101⟩] (by rw [hxt]; rfl) (fun _ h => absurd h List.not_mem_nil) rfl (by decide) (hts (.classLink RL 13 "java/lang/IllegalArgumentException") (List.mem_cons_of_mem _ gw_38_20)) (va_Nw.use rfl (hCN.1 1 (by decide) (by decide))) h91 h92 h93 ?_
      refine lv_astore_n (lv' := [(3, .ref q9), (0, .ref a0), (1, .int p1), (2, .ref o)]) hx hb dL_foundShare_12 rfl hl (by decide) rfl (fun ls hl => ?_)
      refine lv_iconst (v := 1) hx hb dL_foundShare_13 (by decide) ?_
      exact e_no rfl hx hb hr hlocks hz9 hH.1 hk9 (hH.oa hO ho ho2) hH.2.1.al dL_foundShare_14
    · refine vx_catch (E := exN 6) hown [⟨0, 9, 12, 13⟩] ⟨0, 9, 15, 101⟩ [] (by rw [hxt]; rfl) (List.forall_mem_cons.mpr ⟨Or.inr ⟨by decide, _, (hts (.classLink RL 13 "java/lang/IllegalArgumentException") (List.mem_cons_of_mem _ gw_38_20)), hCN.2 6 1 (by decide) (by decide) (by decide) (by decide) (by decide)⟩, fun _ h => absurd h List.not_mem_nil⟩) rfl (by decide) (hts (.classLink RL 101 "java/lang/ArithmeticException") (List.mem_cons_of_mem _ gw_42_17)) (va_Nw.use rfl (hCN.1 6 (by decide) (by decide))) h91 h92 h93 ?_
      refine lv_astore_n (lv' := [(3, .ref q9), (0, .ref a0), (1, .int p1), (2, .ref o)]) hx hb dL_foundShare_15 rfl hl (by decide) rfl (fun ls hl => ?_)
      refine lv_iconst (v := 2) hx hb dL_foundShare_16 (by decide) ?_
      exact e_no rfl hx hb hr hlocks hz9 hH.1 hk9 (hH.oa hO ho ho2) hH.2.1.al dL_foundShare_17
  | inl u =>
    refine r_xVok (As := [.int p1]) (S' := u.1) (v := some (.float u.2)) (st1 := [.float u.2, .int 0, .ref o]) ⟨hx, hb, hml, hown, hts⟩ (c_X9_foundShare l hst9 D S a0 p1 (.inl u) hf) (cwV 1 hts (gwV gw_42_18 gw_42_19 gw_42_20 gw_14_5 gw_28_17) rfl rfl rfl (by decide +kernel) ⟨Nat.le_of_ble_eq_true rfl, Nat.le_of_ble_eq_true rfl⟩) hH hE hB hNE 12 hek (by decide) rfl rfl rfl hl.1 rfl (Nat.le_of_ble_eq_true rfl) dL_foundShare_4 ⟨Nat.le_of_ble_eq_true rfl, Nat.le_of_ble_eq_true rfl⟩ rfl (fun H locs hH => ?_)
    refine lv_f2d hx hb dL_foundShare_7 (hnn u rfl) ?_
    refine r_dast hx hb (hH.oa hO ho ho2) dL_foundShare_8 (fun H1 k hO1 hz1 oq1 => ?_)
    refine lv_goto (tgt := 18) hx hb dL_foundShare_9 (by decide) ?_
    refine lv_iconst (v := 0) hx hb dL_foundShare_18 (by decide) ?_
    exact e_ok (u := (u.1, .double (FP.f2d u.2))) hx hb hr hlocks (hH.1.other ((hH.2.2.1.1 o ho2).trans ho) hDo hz1 oq1) hH.2.2.1 hO1 (hH.2.1.al.put hz1 oq1 (Or.inr rfl)) dL_foundShare_19
abbrev rmL_meanWord : Room := { frames := 7, cells := 1, slots := 6, locals := 113 }
set_option maxHeartbeats 4000000 in
set_option maxRecDepth 100000 in
theorem w_meanWord (l : Launch) (hst9 : l.stackTraces = false) (D : va_G × Nat) (S : PS) (a0 : Nat) (o : Nat) (ho : kK S o = 0) (ho2 : o < kZ S) (hDo : D.2 ≤ o) (hek : kK S a0 = 13) (r : (PS × UInt64) ⊕ (PS × Nat)) (hf : f_X9_meanWord S a0  = some r) (hj : ∀ x, r = .inr x → x.2 = 6) : LM l D yL_meanWord wsL_meanWord rmL_meanWord S [.ref a0, .ref o] .double o (wD9 r) (fun _ => 1) 1 6 := by
  refine vx_ofWH (cc := cL_meanWord) (maxL := 3) (ret := some .int) (by decide) rfl ?_
  intro p e s m args below meth c s₁ B hml hv
  obtain ⟨rfl, hH0, hE, hNE, hCN, w0, hO⟩ := hv
  have hB := hH0.base
  have hx := B.exec
  have hb := B.bytes
  have hr := B.returns
  have hts := atoms_spec (ws := wsL_meanWord) B.pre
  have hown : s.vm.findClass RL = some m.cls := findClass_of_methodNamed B.named
  have hlocks := B.notSynchronized
  have hxt := vx_table (x := yL_meanWord) B (hts _ List.mem_cons_self)
  have hH : HI D S S s s.heap [] := HI.start hH0
  have hl := lv_entry ([.ref a0, .ref o]) (n := 3) (Nat.le_of_ble_eq_true rfl)
  rw [lg_entry_eq]
  generalize (lg_sl ([.ref a0, .ref o]) ++ List.replicate (3 - (lg_sl ([.ref a0, .ref o])).length) Slot.unset).toArray = ls at hl ⊢
  have hl : lv_has ls 3 [(0, .ref a0), (1, .ref o)] := hl
  refine lv_aload_n hx hb dL_meanWord_0 rfl (lv_at hl 1 rfl) ?_
  refine lv_iconst (v := 0) hx hb dL_meanWord_1 (by decide) ?_
  refine lv_aload_n hx hb dL_meanWord_2 rfl (lv_at hl 0 rfl) ?_
  cases r with
  | inr x =>
    obtain ⟨xS, xk⟩ := x
    refine r_xVex (As := []) ⟨hx, hb, hml, hown, hts⟩ (c_X9_meanWord l hst9 D S a0  (.inr (xS, xk)) hf) (cwV 0 hts (gwV gw_42_22 gw_42_23 gw_43_0 gw_14_5 gw_28_20) rfl rfl rfl (by decide +kernel) ⟨Nat.le_of_ble_eq_true rfl, Nat.le_of_ble_eq_true rfl⟩) hH hE hB hNE 12 hek (by decide) rfl rfl rfl hl.1 rfl (Nat.le_of_ble_eq_true rfl) dL_meanWord_3 ⟨Nat.le_of_ble_eq_true rfl, Nat.le_of_ble_eq_true rfl⟩ (fun z9 ce9 q9 H locs hH hk9 hz9 h91 h92 h93 => ?_)
    have hj9 := hj _ rfl
    simp only at hj9
    subst hj9
    · refine vx_catch (E := exN 6) hown [] ⟨0, 7, 10, 101⟩ [] (by rw [hxt]; rfl) (fun _ h => absurd h List.not_mem_nil) rfl (by decide) (hts (.classLink RL 101 "java/lang/ArithmeticException") (List.mem_cons_of_mem _ gw_42_17)) (va_Nw.use rfl (hCN.1 6 (by decide) (by decide))) h91 h92 h93 ?_
      refine lv_astore_n (lv' := [(2, .ref q9), (0, .ref a0), (1, .ref o)]) hx hb dL_meanWord_10 rfl hl (by decide) rfl (fun ls hl => ?_)
      refine lv_iconst (v := 1) hx hb dL_meanWord_11 (by decide) ?_
      exact e_no rfl hx hb hr hlocks hz9 hH.1 hk9 (hH.oa hO ho ho2) hH.2.1.al dL_meanWord_12
  | inl u =>
    refine r_xVok (As := []) (S' := u.1) (v := some (.double u.2)) (st1 := [.double u.2, .int 0, .ref o]) ⟨hx, hb, hml, hown, hts⟩ (c_X9_meanWord l hst9 D S a0  (.inl u) hf) (cwV 0 hts (gwV gw_42_22 gw_42_23 gw_43_0 gw_14_5 gw_28_20) rfl rfl rfl (by decide +kernel) ⟨Nat.le_of_ble_eq_true rfl, Nat.le_of_ble_eq_true rfl⟩) hH hE hB hNE 12 hek (by decide) rfl rfl rfl hl.1 rfl (Nat.le_of_ble_eq_true rfl) dL_meanWord_3 ⟨Nat.le_of_ble_eq_true rfl, Nat.le_of_ble_eq_true rfl⟩ rfl (fun H locs hH => ?_)
    refine r_dast hx hb (hH.oa hO ho ho2) dL_meanWord_6 (fun H1 k hO1 hz1 oq1 => ?_)
    refine lv_goto (tgt := 13) hx hb dL_meanWord_7 (by decide) ?_
    refine lv_iconst (v := 0) hx hb dL_meanWord_13 (by decide) ?_
    exact e_ok (u := (u.1, .double u.2)) hx hb hr hlocks (hH.1.other ((hH.2.2.1.1 o ho2).trans ho) hDo hz1 oq1) hH.2.2.1 hO1 (hH.2.1.al.put hz1 oq1 (Or.inr rfl)) dL_meanWord_14
