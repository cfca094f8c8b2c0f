/-- what a wrapper and then a call of the model leave -/
theorem LH.mid {D : va_G × Nat} {S0 : PS} {s : State} {x o o2 : Nat} {T T2 : St} {P P1 P2 : PS} {H H1 H2 : Heap} {locs locs2 : List Loc} (h : LH D S0 s x o o2 T P H locs) (hk : KD P P1) (hO1 : ∃ w, OA s H1 .long o w) (hq : ∀ q : Nat, q < H.size → ¬ AL P o q → H1[q]? = H[q]?) (hH2 : HI D S0 P2 s H2 locs2) (hk2 : KD P1 P2) (hq2 : ∀ q : Nat, q < H1.size → ¬ pA P1 q → H2[q]? = H1[q]?) (hl : lP P2 x T2) : LH D S0 s x o o2 T2 P2 H2 locs2 := by
  obtain ⟨h1, h2, h3, ⟨w2, h4⟩, h5, h6, h7, h8, h9, h10, h11⟩ := h
  obtain ⟨w1, hO1⟩ := hO1
  have no : ∀ q, kK P q = 0 → q < kZ P → ¬ pA P q := fun q a b z => z.elim (fun z => z.1 a) (fun z => absurd b (Nat.not_lt.mpr z))
  have no1 : ∀ q, kK P q = 0 → q < kZ P → ¬ pA P1 q := fun q a b z => z.elim (fun z => z.1 ((hk.1 q b).trans a)) (fun z => absurd (Nat.lt_of_lt_of_le b hk.2) (Nat.not_lt.mpr z))
  have h4' : OA s H1 .double o2 w2 := h4.heap (hq o2 h4.lt (fun z => z.elim (no o2 h6 h8) (fun e => h11 e.symm)))
  have hk3 := hk.tr hk2
  exact ⟨hH2, hl, ⟨w1, hO1.heap (hq2 o hO1.lt (no1 o h5 h7))⟩, ⟨w2, h4'.heap (hq2 o2 h4'.lt (no1 o2 h6 h8))⟩, (hk3.1 o h7).trans h5, (hk3.1 o2 h8).trans h6, Nat.lt_of_lt_of_le h7 hk3.2, Nat.lt_of_lt_of_le h8 hk3.2, h9, h10, h11⟩
theorem LH.mid2 {D : va_G × Nat} {S0 : PS} {s : State} {x o o2 : Nat} {T T2 : St} {P P1 P2 : PS} {H H1 H2 : Heap} {locs locs2 : List Loc} (h : LH D S0 s x o o2 T P H locs) (hk : KD P P1) (hO1 : ∃ w, OA s H1 .double o2 w) (hq : ∀ q : Nat, q < H.size → ¬ AL P o2 q → H1[q]? = H[q]?) (hH2 : HI D S0 P2 s H2 locs2) (hk2 : KD P1 P2) (hq2 : ∀ q : Nat, q < H1.size → ¬ pA P1 q → H2[q]? = H1[q]?) (hl : lP P2 x T2) : LH D S0 s x o o2 T2 P2 H2 locs2 := by
  obtain ⟨h1, h2, ⟨w2, h4⟩, h3, h5, h6, h7, h8, h9, h10, h11⟩ := h
  obtain ⟨w1, hO1⟩ := hO1
  have no : ∀ q, kK P q = 0 → q < kZ P → ¬ pA P q := fun q a b z => z.elim (fun z => z.1 a) (fun z => absurd b (Nat.not_lt.mpr z))
  have no1 : ∀ q, kK P q = 0 → q < kZ P → ¬ pA P1 q := fun q a b z => z.elim (fun z => z.1 ((hk.1 q b).trans a)) (fun z => absurd (Nat.lt_of_lt_of_le b hk.2) (Nat.not_lt.mpr z))
  have h4' : OA s H1 .long o w2 := h4.heap (hq o h4.lt (fun z => z.elim (no o h5 h7) (fun e => h11 e)))
  have hk3 := hk.tr hk2
  exact ⟨hH2, hl, ⟨w2, h4'.heap (hq2 o h4'.lt (no1 o h5 h7))⟩, ⟨w1, hO1.heap (hq2 o2 hO1.lt (no1 o2 h6 h8))⟩, (hk3.1 o h7).trans h5, (hk3.1 o2 h8).trans h6, Nat.lt_of_lt_of_le h7 hk3.2, Nat.lt_of_lt_of_le h8 hk3.2, h9, h10, h11⟩
theorem KD.no {P P1 : PS} (hk : KD P P1) {q : Nat} (a : kK P q = 0) (b : q < kZ P) : ¬ pA P1 q := fun z => z.elim (fun z => z.1 ((hk.1 q b).trans a)) (fun z => absurd (Nat.lt_of_lt_of_le b hk.2) (Nat.not_lt.mpr z))
theorem KD.z {P P1 : PS} (hk : KD P P1) {z : Nat} (hz : kZ P1 ≤ z) : KD P (zS P1 z) := ⟨hk.1, Nat.le_trans hk.2 hz⟩
theorem lP.lt {P : PS} {x : Nat} {T : St} (h : lP P x T) : x + 79 < kZ P := h.1.1.lt (by rw [h.k10]; decide)
/-- behind a case -/
def LK (p : Program) (l : Launch) (e : Env) (R : Room) (s : State) (m : MethodId) (b : Nat) (below : List Frame) (meth : Method) (c : Code) (cells slots : Nat) (Q : State → Prop) (D : va_G × Nat) (S0 : PS) (x o o2 i : Nat) : Prop := ∀ (H1 : Heap) (locs1 : List Loc) (P1 : PS) (T1 : St) (ls1 : Array Slot), LH D S0 s x o o2 T1 P1 H1 locs1 → lv_has ls1 9 (LB b x o o2 i) → W p l e R s m #[Value.ref b] below meth c H1 locs1 (cells + 93) (slots + 4545) Q (F0 m 1961 ls1 [])
section HLAW4
variable {p : Program} {l : Launch} {e : Env} {s : State} {m : MethodId} {below : List Frame} {meth : Method} {c : Code} {H : Heap} {locs : List Loc} {cells slots : Nat} {Q : State → Prop}
variable {pc b L x o o2 i : Nat} {ls : Array Slot} {D : va_G × Nat} {S0 P : PS} {c0 : Cond} {xs : Nat → Int32} {k v : Int32}
set_option maxHeartbeats 4000000 in
set_option maxRecDepth 100000 in
/-- thrown, then the answers are held together -/
theorem r_tail (C : LC p l s m c b c0 D S0 L xs) (hH : HI D S0 P s H locs) (hek : kK P (x + 79) = 14) (hth : kI P (x + 79) 0 = k) (ho : ¬ pA P o) (hO : k = 0 → OA s H .long o (.long v.toInt64)) (hl : lv_has ls 9 ((7, .int v) :: (6, .int k) :: LB b x o o2 i)) (hc : cells ≤ 603072) (hs : slots ≤ 7211114)
    (d0 : decode cL_law pc = .ok (.aload_n 2, 1)) (d1 : decode cL_law (pc + 1) = .ok (.invokevirtual 117, 3)) (d4 : decode cL_law (pc + 4) = .ok (.iload 6, 2)) (d6 : decode cL_law (pc + 6) = .ok (.if_icmp .eq 5, 3)) (d11 : decode cL_law (pc + 11) = .ok (.iload 6, 2)) (d13 : decode cL_law (pc + 13) = .ok (.ifCond .ne 15, 3)) (d16 : decode cL_law (pc + 16) = .ok (.aload_n 3, 1)) (d17 : decode cL_law (pc + 17) = .ok (.iconst 0, 1)) (d18 : decode cL_law (pc + 18) = .ok (.laload, 1)) (d19 : decode cL_law (pc + 19) = .ok (.iload 7, 2)) (d21 : decode cL_law (pc + 21) = .ok (.i2l, 1)) (d22 : decode cL_law (pc + 22) = .ok (.lcmp, 1)) (d23 : decode cL_law (pc + 23) = .ok (.ifCond .eq 5, 3))
    (kk : ∀ (H1 : Heap) (locs1 : List Loc), HI D S0 P s H1 locs1 → (∀ q : Nat, q < H.size → ¬ pA P q → H1[q]? = H[q]?) → W p l e room_1 s m #[Value.ref b] below meth c H1 locs1 cells slots Q (F0 m (pc + 28) ls [])) : W p l e room_1 s m #[Value.ref b] below meth c H locs cells slots Q (F0 m pc ls []) := by
  obtain ⟨hx, hb, hml, hown, hts, hE, hNE, hCN, hst, hB, hX, hbl, hbA, hL9⟩ := id C
  have hf : f_X10_thrown P (x + 79) = some (kI P (x + 79) 0) := by unfold f_X10_thrown; rw [if_pos hek]
  refine lv_aload_n hx hb d0 rfl (lv_at hl 4 rfl) ?_
  refine r_ki (As := []) ⟨hx, hb, hml, hown, hts⟩ (c_X10_thrown l D P (x + 79) _ hf) (cwV 0 hts (gwV gw_43_17 gw_43_18 gw_43_19 gw_31_10 gw_31_2) rfl rfl rfl (by decide +kernel) ⟨Nat.le_of_ble_eq_true rfl, Nat.le_of_ble_eq_true rfl⟩) hH hNE 13 hek (by decide) rfl rfl rfl hl.1 rfl (Nat.le_of_ble_eq_true rfl) d1 ⟨hc, hs⟩ (fun H1 locs1 hH1 _ hq1 => ?_)
  refine lv_iload hx hb d4 (lv_at hl 1 rfl) ?_
  refine lv_icmp_eq (tgt := pc + 11) hx hb d6 (by omega) (fun _ => ?_) (fun h => absurd hth h)
  refine lv_iload hx hb d11 (lv_at hl 1 rfl) ?_
  refine lv_if_ne (tgt := pc + 28) hx hb d13 (by omega) (fun _ => kk H1 locs1 hH1 hq1) (fun h0 => ?_)
  have hO0 := hO h0
  have hO1 := hO0.heap (hq1 o hO0.lt ho)
  refine lv_aload_n hx hb d16 rfl (lv_at hl 5 rfl) ?_
  refine lv_iconst (v := 0) hx hb d17 (by decide) ?_
  refine r_lald hx hb hO1 d18 ?_
  refine lv_iload hx hb d19 (lv_at hl 0 rfl) ?_
  refine lv_i2l hx hb d21 rfl ?_
  refine W.lcmp hx hb d22 ?_
  refine lv_if_eq (tgt := pc + 28) hx hb d23 (by omega) (fun _ => kk H1 locs1 hH1 hq1) (fun h => absurd (lg_cmp_self _) h)
end HLAW4
