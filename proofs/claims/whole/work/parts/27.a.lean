section HCASE
variable {p : Program} {l : Launch} {e : Env} {s : State} {m : MethodId} {below : List Frame} {meth : Method} {c : Code} {H : Heap} {locs : List Loc} {cells slots : Nat} {Q : State → Prop}
variable {b L x o o2 i : Nat} {ls : Array Slot} {D : va_G × Nat} {S0 P : PS} {T : St} {c0 : Cond} {xs : Nat → Int32}
set_option maxHeartbeats 4000000 in
set_option maxRecDepth 100000 in
theorem case_type (C : LC p l s m c b c0 D S0 L xs) (hi : i + 5 ≤ L) (hL : LH D S0 s x o o2 T P H locs) (hl : lv_has ls 9 (LB b x o o2 i)) (hc : cells + 93 ≤ 603072) (hs : slots + 4545 ≤ 7211114) (K : LK p l e room_1 s m b below meth c cells slots Q D S0 x o o2 i) : W p l e room_1 s m #[Value.ref b] below meth c H locs cells slots Q (F0 m 180 ls []) := by
  obtain ⟨hx, hb, hml, hown, hts, hE, hNE, hCN, hst, hB, hX, hbl, hbA, hL9⟩ := id C
  obtain ⟨hH, hP, ⟨w1, hO⟩, ⟨w2, hO2⟩, ho, ho2, hoz, ho2z, hoA, ho2A, hne⟩ := id hL
  have hek := hL.k9
  obtain ⟨r, hf, htie, hj, hv⟩ := op_type hP (ch (xs (i + 1)))
  refine lv_aload_n hx hb dL_law_180 rfl (lv_at hl 1 rfl) ?_
  refine r_arg 1 C hH (lv_at hl 0 rfl) (lv_at hl 5 rfl) (by decide) hi dL_law_181 dL_law_182 dL_law_184 dL_law_185 dL_law_186 ?_
  refine lv_i2c hx hb dL_law_187 (v := ch (xs (i + 1))) rfl ?_
  refine lv_aload_n hx hb dL_law_188 rfl (lv_at hl 3 rfl) ?_
  refine r_wrap (As := [.ref x, .int (ch (xs (i + 1))), .ref o]) (ty := .long) (o := o) (rest := []) ⟨hx, hb, hml, hown, hts⟩ (w_type l hst D P x (ch (xs (i + 1))) o ho hoz (hB o hoA) hek r hf hj) (vx_cwSW 3 hts (gwS gw_43_11 gw_43_12 gw_43_13 gw_38_19) rfl rfl rfl (by decide +kernel) ⟨Nat.le_of_ble_eq_true rfl, Nat.le_of_ble_eq_true rfl⟩) hH hE hB hNE hCN hO hoA rfl hl.1 rfl (Nat.le_of_ble_eq_true rfl) dL_law_189 ⟨by show _ + _ ≤ 603072; omega, by show _ + _ ≤ 7211114; omega⟩ (fun u H1 locs1 hru hH1 hO1 hk1 hq1 => ?_) (fun u z H1 locs1 hru hz hH1 hO1 hk1 hq1 => ?_)
  · cases r with
    | inr q => cases hru
    | inl q =>
      have hru : u = (q.1, _) := (Sum.inl.inj hru).symm
      subst hru
      obtain ⟨P2, T', hm9, hth, hl2⟩ := htie
      refine lv_istore (lv' := (6, .int 0) :: LB b x o o2 i) hx hb dL_law_192 hl (by decide) rfl (fun ls hl => ?_)
      refine lv_aload_n hx hb dL_law_194 rfl (lv_at hl 3 rfl) ?_
      refine r_arg 1 C hH1 (lv_at hl 1 rfl) (lv_at hl 6 rfl) (by decide) hi dL_law_195 dL_law_196 dL_law_198 dL_law_199 dL_law_200 ?_
      refine lv_i2c hx hb dL_law_201 (v := ch (xs (i + 1))) rfl ?_
      refine r_ki (As := [.int (ch (xs (i + 1)))]) ⟨hx, hb, hml, hown, hts⟩ (c_X10_type l D q.1 (x + 79) (ch (xs (i + 1))) (P2, q.2) hm9) (cwV 1 hts (gwV gw_43_14 gw_43_15 gw_43_16 gw_31_10 gw_31_16) rfl rfl rfl (by decide +kernel) ⟨Nat.le_of_ble_eq_true rfl, Nat.le_of_ble_eq_true rfl⟩) hH1 hNE 13 ((hk1.1 _ hP.lt).trans hP.k10) (by decide) rfl rfl rfl hl.1 rfl (Nat.le_of_ble_eq_true rfl) dL_law_202 ⟨by show _ + _ ≤ 603072; omega, by show _ + _ ≤ 7211114; omega⟩ (fun H2 locs2 hH2 hk2 hq2 => ?_)
      refine lv_istore (lv' := (7, .int q.2) :: (6, .int 0) :: LB b x o o2 i) hx hb dL_law_205 hl (by decide) rfl (fun ls hl => ?_)
      have hL2 := hL.mid hk1 ⟨_, hO1⟩ hq1 hH2 hk2 hq2 hl2
      have hek2 := hl2.k10
      refine r_tail (k := 0) (v := q.2) C hH2 hek2 hth ((hk1.tr hk2).no ho hoz) (fun _ => hO1.heap (hq2 o hO1.lt (hk1.no ho hoz))) hl (by omega) (by omega) dL_law_207 dL_law_208 dL_law_211 dL_law_213 dL_law_218 dL_law_220 dL_law_223 dL_law_224 dL_law_225 dL_law_226 dL_law_228 dL_law_229 dL_law_230 (fun H3 locs3 hH3 hq3 => ?_)
      refine lv_goto (tgt := 1961) hx hb dL_law_235 (by decide) ?_
      refine W.widen (k := cells + 93) (n := slots + 4545) (by omega) (by omega) ?_
      exact K _ _ _ _ _ (hL2.step hH3 KD.rf hq3 hl2) (lv_sub hl [2, 3, 4, 5, 6, 7] rfl)
  · cases r with
    | inl q => cases hru
    | inr q =>
      have hru : u = q := (Sum.inr.inj hru).symm
      subst hru
      obtain ⟨hco, htie⟩ := htie
      obtain ⟨P2, vv, hm9, hth, hl2⟩ := htie z hz
      obtain ⟨kv, hkv⟩ : ∃ kv, kv = (fun k : Nat => if k = 1 then (1 : Int32) else (2 : Int32)) u.2 := ⟨_, rfl⟩
      replace hco : kv ≠ 0 := by rw [hkv]; exact hco
      replace hth : kI P2 (x + 79) 0 = kv := by rw [hkv]; exact hth
      refine lv_topE (y := kv) hkv.symm ?_
      refine lv_istore (lv' := (6, .int kv) :: LB b x o o2 i) hx hb dL_law_192 hl (by decide) rfl (fun ls hl => ?_)
      refine lv_aload_n hx hb dL_law_194 rfl (lv_at hl 3 rfl) ?_
      refine r_arg 1 C hH1 (lv_at hl 1 rfl) (lv_at hl 6 rfl) (by decide) hi dL_law_195 dL_law_196 dL_law_198 dL_law_199 dL_law_200 ?_
      refine lv_i2c hx hb dL_law_201 (v := ch (xs (i + 1))) rfl ?_
      refine r_ki (As := [.int (ch (xs (i + 1)))]) ⟨hx, hb, hml, hown, hts⟩ (c_X10_type l D (zS u.1 z) (x + 79) (ch (xs (i + 1))) (P2, vv) hm9) (cwV 1 hts (gwV gw_43_14 gw_43_15 gw_43_16 gw_31_10 gw_31_16) rfl rfl rfl (by decide +kernel) ⟨Nat.le_of_ble_eq_true rfl, Nat.le_of_ble_eq_true rfl⟩) hH1 hNE 13 (((hk1.z hz).1 _ hP.lt).trans hP.k10) (by decide) rfl rfl rfl hl.1 rfl (Nat.le_of_ble_eq_true rfl) dL_law_202 ⟨by show _ + _ ≤ 603072; omega, by show _ + _ ≤ 7211114; omega⟩ (fun H2 locs2 hH2 hk2 hq2 => ?_)
      refine lv_istore (lv' := (7, .int vv) :: (6, .int kv) :: LB b x o o2 i) hx hb dL_law_205 hl (by decide) rfl (fun ls hl => ?_)
      have hL2 := hL.mid (hk1.z hz) hO1 hq1 hH2 hk2 hq2 hl2
      have hek2 := hl2.k10
      refine r_tail (k := kv) (v := vv) C hH2 hek2 hth (((hk1.z hz).tr hk2).no ho hoz) (fun h => absurd h hco) hl (by omega) (by omega) dL_law_207 dL_law_208 dL_law_211 dL_law_213 dL_law_218 dL_law_220 dL_law_223 dL_law_224 dL_law_225 dL_law_226 dL_law_228 dL_law_229 dL_law_230 (fun H3 locs3 hH3 hq3 => ?_)
      refine lv_goto (tgt := 1961) hx hb dL_law_235 (by decide) ?_
      refine W.widen (k := cells + 93) (n := slots + 4545) (by omega) (by omega) ?_
      exact K _ _ _ _ _ (hL2.step hH3 KD.rf hq3 hl2) (lv_sub hl [2, 3, 4, 5, 6, 7] rfl)
set_option maxHeartbeats 4000000 in
set_option maxRecDepth 100000 in
theorem case_wipe (C : LC p l s m c b c0 D S0 L xs) (hi : i + 5 ≤ L) (hL : LH D S0 s x o o2 T P H locs) (hl : lv_has ls 9 (LB b x o o2 i)) (hc : cells + 93 ≤ 603072) (hs : slots + 4545 ≤ 7211114) (K : LK p l e room_1 s m b below meth c cells slots Q D S0 x o o2 i) : W p l e room_1 s m #[Value.ref b] below meth c H locs cells slots Q (F0 m 238 ls []) := by
  obtain ⟨hx, hb, hml, hown, hts, hE, hNE, hCN, hst, hB, hX, hbl, hbA, hL9⟩ := id C
  obtain ⟨hH, hP, ⟨w1, hO⟩, ⟨w2, hO2⟩, ho, ho2, hoz, ho2z, hoA, ho2A, hne⟩ := id hL
  have hek := hL.k9
  obtain ⟨P1, v, hf, P2, T', hm9, hl2⟩ := op_wipe hP
  refine lv_aload_n hx hb dL_law_238 rfl (lv_at hl 1 rfl) ?_
  refine r_ki (As := []) ⟨hx, hb, hml, hown, hts⟩ (c_X9_wipe l D P x (P1, v) hf) (cwV 0 hts (gwV gw_43_20 gw_43_21 gw_43_22 gw_14_5 gw_21_17) rfl rfl rfl (by decide +kernel) ⟨Nat.le_of_ble_eq_true rfl, Nat.le_of_ble_eq_true rfl⟩) hH hNE 12 hek (by decide) rfl rfl rfl hl.1 rfl (Nat.le_of_ble_eq_true rfl) dL_law_239 ⟨by show _ + _ ≤ 603072; omega, by show _ + _ ≤ 7211114; omega⟩ (fun H1 locs1 hH1 hk1 hq1 => ?_)
  refine lv_aload_n hx hb dL_law_242 rfl (lv_at hl 2 rfl) ?_
  refine r_ki (As := []) ⟨hx, hb, hml, hown, hts⟩ (c_X10_wipe l D P1 (x + 79) (P2, v) hm9) (cwV 0 hts (gwV gw_43_23 gw_44_0 gw_44_1 gw_31_10 gw_31_22) rfl rfl rfl (by decide +kernel) ⟨Nat.le_of_ble_eq_true rfl, Nat.le_of_ble_eq_true rfl⟩) hH1 hNE 13 ((hk1.1 _ hP.lt).trans hP.k10) (by decide) rfl rfl rfl hl.1 rfl (Nat.le_of_ble_eq_true rfl) dL_law_243 ⟨by show _ + _ ≤ 603072; omega, by show _ + _ ≤ 7211114; omega⟩ (fun H2 locs2 hH2 hk2 hq2 => ?_)
  have hL1 := LH.mid hL hk1 ⟨w1, hO.heap (hq1 o hO.lt (KD.rf.no ho hoz))⟩ (fun q a b => hq1 q a (fun z => b (Or.inl z))) hH2 hk2 hq2 hl2
  refine lv_icmp_eq (tgt := 1961) hx hb dL_law_246 (by decide) (fun _ => ?_) (fun h => absurd rfl h)
  refine W.widen (k := cells + 93) (n := slots + 4545) (by omega) (by omega) ?_
  exact K _ _ _ _ _ hL1 hl
set_option maxHeartbeats 4000000 in
set_option maxRecDepth 100000 in
theorem case_put (C : LC p l s m c b c0 D S0 L xs) (hi : i + 5 ≤ L) (hL : LH D S0 s x o o2 T P H locs) (hl : lv_has ls 9 (LB b x o o2 i)) (hc : cells + 93 ≤ 603072) (hs : slots + 4545 ≤ 7211114) (K : LK p l e room_1 s m b below meth c cells slots Q D S0 x o o2 i) : W p l e room_1 s m #[Value.ref b] below meth c H locs cells slots Q (F0 m 251 ls []) := by
  obtain ⟨hx, hb, hml, hown, hts, hE, hNE, hCN, hst, hB, hX, hbl, hbA, hL9⟩ := id C
  obtain ⟨hH, hP, ⟨w1, hO⟩, ⟨w2, hO2⟩, ho, ho2, hoz, ho2z, hoA, ho2A, hne⟩ := id hL
  have hek := hL.k9
  obtain ⟨r, hf, htie, hj, hv⟩ := op_put hP (xs (i + 1)) (ch (xs (i + 2))) (xs (i + 3))
  refine lv_aload_n hx hb dL_law_251 rfl (lv_at hl 1 rfl) ?_
  refine r_arg 1 C hH (lv_at hl 0 rfl) (lv_at hl 5 rfl) (by decide) hi dL_law_252 dL_law_253 dL_law_255 dL_law_256 dL_law_257 ?_
  refine r_arg 2 C hH (lv_at hl 0 rfl) (lv_at hl 5 rfl) (by decide) hi dL_law_258 dL_law_259 dL_law_261 dL_law_262 dL_law_263 ?_
  refine lv_i2c hx hb dL_law_264 (v := ch (xs (i + 2))) rfl ?_
  refine r_arg 3 C hH (lv_at hl 0 rfl) (lv_at hl 5 rfl) (by decide) hi dL_law_265 dL_law_266 dL_law_268 dL_law_269 dL_law_270 ?_
  refine lv_aload_n hx hb dL_law_271 rfl (lv_at hl 3 rfl) ?_
  refine r_wrap (As := [.ref x, .int (xs (i + 1)), .int (ch (xs (i + 2))), .int (xs (i + 3)), .ref o]) (ty := .long) (o := o) (rest := []) ⟨hx, hb, hml, hown, hts⟩ (w_put l hst D P x (xs (i + 1)) (ch (xs (i + 2))) (xs (i + 3)) o ho hoz (hB o hoA) hek r hf hj) (vx_cwSW 5 hts (gwS gw_44_2 gw_44_3 gw_43_13 gw_39_1) rfl rfl rfl (by decide +kernel) ⟨Nat.le_of_ble_eq_true rfl, Nat.le_of_ble_eq_true rfl⟩) hH hE hB hNE hCN hO hoA rfl hl.1 rfl (Nat.le_of_ble_eq_true rfl) dL_law_272 ⟨by show _ + _ ≤ 603072; omega, by show _ + _ ≤ 7211114; omega⟩ (fun u H1 locs1 hru hH1 hO1 hk1 hq1 => ?_) (fun u z H1 locs1 hru hz hH1 hO1 hk1 hq1 => ?_)
  · cases r with
    | inr q => cases hru
    | inl q =>
      have hru : u = (q.1, _) := (Sum.inl.inj hru).symm
      subst hru
      obtain ⟨P2, T', hm9, hth, hl2⟩ := htie
      refine lv_istore (lv' := (6, .int 0) :: LB b x o o2 i) hx hb dL_law_275 hl (by decide) rfl (fun ls hl => ?_)
      refine lv_aload_n hx hb dL_law_277 rfl (lv_at hl 3 rfl) ?_
      refine r_arg 1 C hH1 (lv_at hl 1 rfl) (lv_at hl 6 rfl) (by decide) hi dL_law_278 dL_law_279 dL_law_281 dL_law_282 dL_law_283 ?_
      refine r_arg 2 C hH1 (lv_at hl 1 rfl) (lv_at hl 6 rfl) (by decide) hi dL_law_284 dL_law_285 dL_law_287 dL_law_288 dL_law_289 ?_
      refine lv_i2c hx hb dL_law_290 (v := ch (xs (i + 2))) rfl ?_
      refine r_arg 3 C hH1 (lv_at hl 1 rfl) (lv_at hl 6 rfl) (by decide) hi dL_law_291 dL_law_292 dL_law_294 dL_law_295 dL_law_296 ?_
      refine r_ki (As := [.int (xs (i + 1)), .int (ch (xs (i + 2))), .int (xs (i + 3))]) ⟨hx, hb, hml, hown, hts⟩ (c_X10_put l D q.1 (x + 79) (xs (i + 1)) (ch (xs (i + 2))) (xs (i + 3)) (P2, q.2) hm9) (cwV 3 hts (gwV gw_44_4 gw_44_5 gw_44_6 gw_31_10 gw_32_20) rfl rfl rfl (by decide +kernel) ⟨Nat.le_of_ble_eq_true rfl, Nat.le_of_ble_eq_true rfl⟩) hH1 hNE 13 ((hk1.1 _ hP.lt).trans hP.k10) (by decide) rfl rfl rfl hl.1 rfl (Nat.le_of_ble_eq_true rfl) dL_law_297 ⟨by show _ + _ ≤ 603072; omega, by show _ + _ ≤ 7211114; omega⟩ (fun H2 locs2 hH2 hk2 hq2 => ?_)
      refine lv_istore (lv' := (7, .int q.2) :: (6, .int 0) :: LB b x o o2 i) hx hb dL_law_300 hl (by decide) rfl (fun ls hl => ?_)
      have hL2 := hL.mid hk1 ⟨_, hO1⟩ hq1 hH2 hk2 hq2 hl2
      have hek2 := hl2.k10
      refine r_tail (k := 0) (v := q.2) C hH2 hek2 hth ((hk1.tr hk2).no ho hoz) (fun _ => hO1.heap (hq2 o hO1.lt (hk1.no ho hoz))) hl (by omega) (by omega) dL_law_302 dL_law_303 dL_law_306 dL_law_308 dL_law_313 dL_law_315 dL_law_318 dL_law_319 dL_law_320 dL_law_321 dL_law_323 dL_law_324 dL_law_325 (fun H3 locs3 hH3 hq3 => ?_)
      refine lv_goto (tgt := 1961) hx hb dL_law_330 (by decide) ?_
      refine W.widen (k := cells + 93) (n := slots + 4545) (by omega) (by omega) ?_
      exact K _ _ _ _ _ (hL2.step hH3 KD.rf hq3 hl2) (lv_sub hl [2, 3, 4, 5, 6, 7] rfl)
  · cases r with
    | inl q => cases hru
    | inr q =>
      have hru : u = q := (Sum.inr.inj hru).symm
      subst hru
      obtain ⟨hco, htie⟩ := htie
      obtain ⟨P2, vv, hm9, hth, hl2⟩ := htie z hz
      obtain ⟨kv, hkv⟩ : ∃ kv, kv = (fun k : Nat => if k = 3 then (1 : Int32) else if k = 1 then (2 : Int32) else (3 : Int32)) u.2 := ⟨_, rfl⟩
      replace hco : kv ≠ 0 := by rw [hkv]; exact hco
      replace hth : kI P2 (x + 79) 0 = kv := by rw [hkv]; exact hth
      refine lv_topE (y := kv) hkv.symm ?_
      refine lv_istore (lv' := (6, .int kv) :: LB b x o o2 i) hx hb dL_law_275 hl (by decide) rfl (fun ls hl => ?_)
      refine lv_aload_n hx hb dL_law_277 rfl (lv_at hl 3 rfl) ?_
      refine r_arg 1 C hH1 (lv_at hl 1 rfl) (lv_at hl 6 rfl) (by decide) hi dL_law_278 dL_law_279 dL_law_281 dL_law_282 dL_law_283 ?_
      refine r_arg 2 C hH1 (lv_at hl 1 rfl) (lv_at hl 6 rfl) (by decide) hi dL_law_284 dL_law_285 dL_law_287 dL_law_288 dL_law_289 ?_
      refine lv_i2c hx hb dL_law_290 (v := ch (xs (i + 2))) rfl ?_
      refine r_arg 3 C hH1 (lv_at hl 1 rfl) (lv_at hl 6 rfl) (by decide) hi dL_law_291 dL_law_292 dL_law_294 dL_law_295 dL_law_296 ?_
      refine r_ki (As := [.int (xs (i + 1)), .int (ch (xs (i + 2))), .int (xs (i + 3))]) ⟨hx, hb, hml, hown, hts⟩ (c_X10_put l D (zS u.1 z) (x + 79) (xs (i + 1)) (ch (xs (i + 2))) (xs (i + 3)) (P2, vv) hm9) (cwV 3 hts (gwV gw_44_4 gw_44_5 gw_44_6 gw_31_10 gw_32_20) rfl rfl rfl (by decide +kernel) ⟨Nat.le_of_ble_eq_true rfl, Nat.le_of_ble_eq_true rfl⟩) hH1 hNE 13 (((hk1.z hz).1 _ hP.lt).trans hP.k10) (by decide) rfl rfl rfl hl.1 rfl (Nat.le_of_ble_eq_true rfl) dL_law_297 ⟨by show _ + _ ≤ 603072; omega, by show _ + _ ≤ 7211114; omega⟩ (fun H2 locs2 hH2 hk2 hq2 => ?_)
      refine lv_istore (lv' := (7, .int vv) :: (6, .int kv) :: LB b x o o2 i) hx hb dL_law_300 hl (by decide) rfl (fun ls hl => ?_)
      have hL2 := hL.mid (hk1.z hz) hO1 hq1 hH2 hk2 hq2 hl2
      have hek2 := hl2.k10
      refine r_tail (k := kv) (v := vv) C hH2 hek2 hth (((hk1.z hz).tr hk2).no ho hoz) (fun h => absurd h hco) hl (by omega) (by omega) dL_law_302 dL_law_303 dL_law_306 dL_law_308 dL_law_313 dL_law_315 dL_law_318 dL_law_319 dL_law_320 dL_law_321 dL_law_323 dL_law_324 dL_law_325 (fun H3 locs3 hH3 hq3 => ?_)
      refine lv_goto (tgt := 1961) hx hb dL_law_330 (by decide) ?_
      refine W.widen (k := cells + 93) (n := slots + 4545) (by omega) (by omega) ?_
      exact K _ _ _ _ _ (hL2.step hH3 KD.rf hq3 hl2) (lv_sub hl [2, 3, 4, 5, 6, 7] rfl)
set_option maxHeartbeats 4000000 in
set_option maxRecDepth 100000 in
theorem case_take (C : LC p l s m c b c0 D S0 L xs) (hi : i + 5 ≤ L) (hL : LH D S0 s x o o2 T P H locs) (hl : lv_has ls 9 (LB b x o o2 i)) (hc : cells + 93 ≤ 603072) (hs : slots + 4545 ≤ 7211114) (K : LK p l e room_1 s m b below meth c cells slots Q D S0 x o o2 i) : W p l e room_1 s m #[Value.ref b] below meth c H locs cells slots Q (F0 m 333 ls []) := by
  obtain ⟨hx, hb, hml, hown, hts, hE, hNE, hCN, hst, hB, hX, hbl, hbA, hL9⟩ := id C
  obtain ⟨hH, hP, ⟨w1, hO⟩, ⟨w2, hO2⟩, ho, ho2, hoz, ho2z, hoA, ho2A, hne⟩ := id hL
  have hek := hL.k9
  obtain ⟨r, hf, htie, hj, hv⟩ := op_take hP (xs (i + 1))
  refine lv_aload_n hx hb dL_law_333 rfl (lv_at hl 1 rfl) ?_
  refine r_arg 1 C hH (lv_at hl 0 rfl) (lv_at hl 5 rfl) (by decide) hi dL_law_334 dL_law_335 dL_law_337 dL_law_338 dL_law_339 ?_
  refine lv_aload_n hx hb dL_law_340 rfl (lv_at hl 3 rfl) ?_
  refine r_wrap (As := [.ref x, .int (xs (i + 1)), .ref o]) (ty := .long) (o := o) (rest := []) ⟨hx, hb, hml, hown, hts⟩ (w_take l hst D P x (xs (i + 1)) o ho hoz (hB o hoA) hek r hf hj) (vx_cwSW 3 hts (gwS gw_44_7 gw_44_8 gw_43_13 gw_39_6) rfl rfl rfl (by decide +kernel) ⟨Nat.le_of_ble_eq_true rfl, Nat.le_of_ble_eq_true rfl⟩) hH hE hB hNE hCN hO hoA rfl hl.1 rfl (Nat.le_of_ble_eq_true rfl) dL_law_341 ⟨by show _ + _ ≤ 603072; omega, by show _ + _ ≤ 7211114; omega⟩ (fun u H1 locs1 hru hH1 hO1 hk1 hq1 => ?_) (fun u z H1 locs1 hru hz hH1 hO1 hk1 hq1 => ?_)
  · cases r with
    | inr q => cases hru
    | inl q =>
      have hru : u = (q.1, _) := (Sum.inl.inj hru).symm
      subst hru
      obtain ⟨P2, T', hm9, hth, hl2⟩ := htie
      refine lv_istore (lv' := (6, .int 0) :: LB b x o o2 i) hx hb dL_law_344 hl (by decide) rfl (fun ls hl => ?_)
      refine lv_aload_n hx hb dL_law_346 rfl (lv_at hl 3 rfl) ?_
      refine r_arg 1 C hH1 (lv_at hl 1 rfl) (lv_at hl 6 rfl) (by decide) hi dL_law_347 dL_law_348 dL_law_350 dL_law_351 dL_law_352 ?_
      refine r_ki (As := [.int (xs (i + 1))]) ⟨hx, hb, hml, hown, hts⟩ (c_X10_take l D q.1 (x + 79) (xs (i + 1)) (P2, q.2) hm9) (cwV 1 hts (gwV gw_44_9 gw_44_10 gw_44_11 gw_31_10 gw_33_0) rfl rfl rfl (by decide +kernel) ⟨Nat.le_of_ble_eq_true rfl, Nat.le_of_ble_eq_true rfl⟩) hH1 hNE 13 ((hk1.1 _ hP.lt).trans hP.k10) (by decide) rfl rfl rfl hl.1 rfl (Nat.le_of_ble_eq_true rfl) dL_law_353 ⟨by show _ + _ ≤ 603072; omega, by show _ + _ ≤ 7211114; omega⟩ (fun H2 locs2 hH2 hk2 hq2 => ?_)
      refine lv_istore (lv' := (7, .int q.2) :: (6, .int 0) :: LB b x o o2 i) hx hb dL_law_356 hl (by decide) rfl (fun ls hl => ?_)
      have hL2 := hL.mid hk1 ⟨_, hO1⟩ hq1 hH2 hk2 hq2 hl2
      have hek2 := hl2.k10
      refine r_tail (k := 0) (v := q.2) C hH2 hek2 hth ((hk1.tr hk2).no ho hoz) (fun _ => hO1.heap (hq2 o hO1.lt (hk1.no ho hoz))) hl (by omega) (by omega) dL_law_358 dL_law_359 dL_law_362 dL_law_364 dL_law_369 dL_law_371 dL_law_374 dL_law_375 dL_law_376 dL_law_377 dL_law_379 dL_law_380 dL_law_381 (fun H3 locs3 hH3 hq3 => ?_)
      refine lv_goto (tgt := 1961) hx hb dL_law_386 (by decide) ?_
      refine W.widen (k := cells + 93) (n := slots + 4545) (by omega) (by omega) ?_
      exact K _ _ _ _ _ (hL2.step hH3 KD.rf hq3 hl2) (lv_sub hl [2, 3, 4, 5, 6, 7] rfl)
  · cases r with
    | inl q => cases hru
    | inr q =>
      have hru : u = q := (Sum.inr.inj hru).symm
      subst hru
      obtain ⟨hco, htie⟩ := htie
      obtain ⟨P2, vv, hm9, hth, hl2⟩ := htie z hz
      obtain ⟨kv, hkv⟩ : ∃ kv, kv = (fun _ : Nat => (1 : Int32)) u.2 := ⟨_, rfl⟩
      replace hco : kv ≠ 0 := by rw [hkv]; exact hco
      replace hth : kI P2 (x + 79) 0 = kv := by rw [hkv]; exact hth
      refine lv_topE (y := kv) hkv.symm ?_
      refine lv_istore (lv' := (6, .int kv) :: LB b x o o2 i) hx hb dL_law_344 hl (by decide) rfl (fun ls hl => ?_)
      refine lv_aload_n hx hb dL_law_346 rfl (lv_at hl 3 rfl) ?_
      refine r_arg 1 C hH1 (lv_at hl 1 rfl) (lv_at hl 6 rfl) (by decide) hi dL_law_347 dL_law_348 dL_law_350 dL_law_351 dL_law_352 ?_
      refine r_ki (As := [.int (xs (i + 1))]) ⟨hx, hb, hml, hown, hts⟩ (c_X10_take l D (zS u.1 z) (x + 79) (xs (i + 1)) (P2, vv) hm9) (cwV 1 hts (gwV gw_44_9 gw_44_10 gw_44_11 gw_31_10 gw_33_0) rfl rfl rfl (by decide +kernel) ⟨Nat.le_of_ble_eq_true rfl, Nat.le_of_ble_eq_true rfl⟩) hH1 hNE 13 (((hk1.z hz).1 _ hP.lt).trans hP.k10) (by decide) rfl rfl rfl hl.1 rfl (Nat.le_of_ble_eq_true rfl) dL_law_353 ⟨by show _ + _ ≤ 603072; omega, by show _ + _ ≤ 7211114; omega⟩ (fun H2 locs2 hH2 hk2 hq2 => ?_)
      refine lv_istore (lv' := (7, .int vv) :: (6, .int kv) :: LB b x o o2 i) hx hb dL_law_356 hl (by decide) rfl (fun ls hl => ?_)
      have hL2 := hL.mid (hk1.z hz) hO1 hq1 hH2 hk2 hq2 hl2
      have hek2 := hl2.k10
      refine r_tail (k := kv) (v := vv) C hH2 hek2 hth (((hk1.z hz).tr hk2).no ho hoz) (fun h => absurd h hco) hl (by omega) (by omega) dL_law_358 dL_law_359 dL_law_362 dL_law_364 dL_law_369 dL_law_371 dL_law_374 dL_law_375 dL_law_376 dL_law_377 dL_law_379 dL_law_380 dL_law_381 (fun H3 locs3 hH3 hq3 => ?_)
      refine lv_goto (tgt := 1961) hx hb dL_law_386 (by decide) ?_
      refine W.widen (k := cells + 93) (n := slots + 4545) (by omega) (by omega) ?_
      exact K _ _ _ _ _ (hL2.step hH3 KD.rf hq3 hl2) (lv_sub hl [2, 3, 4, 5, 6, 7] rfl)
set_option maxHeartbeats 4000000 in
set_option maxRecDepth 100000 in
theorem case_at (C : LC p l s m c b c0 D S0 L xs) (hi : i + 5 ≤ L) (hL : LH D S0 s x o o2 T P H locs) (hl : lv_has ls 9 (LB b x o o2 i)) (hc : cells + 93 ≤ 603072) (hs : slots + 4545 ≤ 7211114) (K : LK p l e room_1 s m b below meth c cells slots Q D S0 x o o2 i) : W p l e room_1 s m #[Value.ref b] below meth c H locs cells slots Q (F0 m 389 ls []) := by
  obtain ⟨hx, hb, hml, hown, hts, hE, hNE, hCN, hst, hB, hX, hbl, hbA, hL9⟩ := id C
  obtain ⟨hH, hP, ⟨w1, hO⟩, ⟨w2, hO2⟩, ho, ho2, hoz, ho2z, hoA, ho2A, hne⟩ := id hL
  have hek := hL.k9
  obtain ⟨r, hf, htie, hj, hv⟩ := op_at hP (xs (i + 1))
  refine lv_aload_n hx hb dL_law_389 rfl (lv_at hl 1 rfl) ?_
  refine r_arg 1 C hH (lv_at hl 0 rfl) (lv_at hl 5 rfl) (by decide) hi dL_law_390 dL_law_391 dL_law_393 dL_law_394 dL_law_395 ?_
  refine lv_aload_n hx hb dL_law_396 rfl (lv_at hl 3 rfl) ?_
  refine r_wrap (As := [.ref x, .int (xs (i + 1)), .ref o]) (ty := .long) (o := o) (rest := []) ⟨hx, hb, hml, hown, hts⟩ (w_at l hst D P x (xs (i + 1)) o ho hoz (hB o hoA) hek r hf hj) (vx_cwSW 3 hts (gwS gw_44_12 gw_44_13 gw_43_13 gw_39_10) rfl rfl rfl (by decide +kernel) ⟨Nat.le_of_ble_eq_true rfl, Nat.le_of_ble_eq_true rfl⟩) hH hE hB hNE hCN hO hoA rfl hl.1 rfl (Nat.le_of_ble_eq_true rfl) dL_law_397 ⟨by show _ + _ ≤ 603072; omega, by show _ + _ ≤ 7211114; omega⟩ (fun u H1 locs1 hru hH1 hO1 hk1 hq1 => ?_) (fun u z H1 locs1 hru hz hH1 hO1 hk1 hq1 => ?_)
  · cases r with
    | inr q => cases hru
    | inl q =>
      have hru : u = (q.1, _) := (Sum.inl.inj hru).symm
      subst hru
      obtain ⟨P2, T', hm9, hth, hl2⟩ := htie
      refine lv_istore (lv' := (6, .int 0) :: LB b x o o2 i) hx hb dL_law_400 hl (by decide) rfl (fun ls hl => ?_)
      refine lv_aload_n hx hb dL_law_402 rfl (lv_at hl 3 rfl) ?_
      refine r_arg 1 C hH1 (lv_at hl 1 rfl) (lv_at hl 6 rfl) (by decide) hi dL_law_403 dL_law_404 dL_law_406 dL_law_407 dL_law_408 ?_
      refine r_ki (As := [.int (xs (i + 1))]) ⟨hx, hb, hml, hown, hts⟩ (c_X10_at l D q.1 (x + 79) (xs (i + 1)) (P2, q.2) hm9) (cwV 1 hts (gwV gw_44_14 gw_44_15 gw_44_16 gw_31_10 gw_33_4) rfl rfl rfl (by decide +kernel) ⟨Nat.le_of_ble_eq_true rfl, Nat.le_of_ble_eq_true rfl⟩) hH1 hNE 13 ((hk1.1 _ hP.lt).trans hP.k10) (by decide) rfl rfl rfl hl.1 rfl (Nat.le_of_ble_eq_true rfl) dL_law_409 ⟨by show _ + _ ≤ 603072; omega, by show _ + _ ≤ 7211114; omega⟩ (fun H2 locs2 hH2 hk2 hq2 => ?_)
      refine lv_istore (lv' := (7, .int q.2) :: (6, .int 0) :: LB b x o o2 i) hx hb dL_law_412 hl (by decide) rfl (fun ls hl => ?_)
      have hL2 := hL.mid hk1 ⟨_, hO1⟩ hq1 hH2 hk2 hq2 hl2
      have hek2 := hl2.k10
      refine r_tail (k := 0) (v := q.2) C hH2 hek2 hth ((hk1.tr hk2).no ho hoz) (fun _ => hO1.heap (hq2 o hO1.lt (hk1.no ho hoz))) hl (by omega) (by omega) dL_law_414 dL_law_415 dL_law_418 dL_law_420 dL_law_425 dL_law_427 dL_law_430 dL_law_431 dL_law_432 dL_law_433 dL_law_435 dL_law_436 dL_law_437 (fun H3 locs3 hH3 hq3 => ?_)
      refine lv_goto (tgt := 1961) hx hb dL_law_442 (by decide) ?_
      refine W.widen (k := cells + 93) (n := slots + 4545) (by omega) (by omega) ?_
      exact K _ _ _ _ _ (hL2.step hH3 KD.rf hq3 hl2) (lv_sub hl [2, 3, 4, 5, 6, 7] rfl)
  · cases r with
    | inl q => cases hru
    | inr q =>
      have hru : u = q := (Sum.inr.inj hru).symm
      subst hru
      obtain ⟨hco, htie⟩ := htie
      obtain ⟨P2, vv, hm9, hth, hl2⟩ := htie z hz
      obtain ⟨kv, hkv⟩ : ∃ kv, kv = (fun _ : Nat => (1 : Int32)) u.2 := ⟨_, rfl⟩
      replace hco : kv ≠ 0 := by rw [hkv]; exact hco
      replace hth : kI P2 (x + 79) 0 = kv := by rw [hkv]; exact hth
      refine lv_topE (y := kv) hkv.symm ?_
      refine lv_istore (lv' := (6, .int kv) :: LB b x o o2 i) hx hb dL_law_400 hl (by decide) rfl (fun ls hl => ?_)
      refine lv_aload_n hx hb dL_law_402 rfl (lv_at hl 3 rfl) ?_
      refine r_arg 1 C hH1 (lv_at hl 1 rfl) (lv_at hl 6 rfl) (by decide) hi dL_law_403 dL_law_404 dL_law_406 dL_law_407 dL_law_408 ?_
      refine r_ki (As := [.int (xs (i + 1))]) ⟨hx, hb, hml, hown, hts⟩ (c_X10_at l D (zS u.1 z) (x + 79) (xs (i + 1)) (P2, vv) hm9) (cwV 1 hts (gwV gw_44_14 gw_44_15 gw_44_16 gw_31_10 gw_33_4) rfl rfl rfl (by decide +kernel) ⟨Nat.le_of_ble_eq_true rfl, Nat.le_of_ble_eq_true rfl⟩) hH1 hNE 13 (((hk1.z hz).1 _ hP.lt).trans hP.k10) (by decide) rfl rfl rfl hl.1 rfl (Nat.le_of_ble_eq_true rfl) dL_law_409 ⟨by show _ + _ ≤ 603072; omega, by show _ + _ ≤ 7211114; omega⟩ (fun H2 locs2 hH2 hk2 hq2 => ?_)
      refine lv_istore (lv' := (7, .int vv) :: (6, .int kv) :: LB b x o o2 i) hx hb dL_law_412 hl (by decide) rfl (fun ls hl => ?_)
      have hL2 := hL.mid (hk1.z hz) hO1 hq1 hH2 hk2 hq2 hl2
      have hek2 := hl2.k10
      refine r_tail (k := kv) (v := vv) C hH2 hek2 hth (((hk1.z hz).tr hk2).no ho hoz) (fun h => absurd h hco) hl (by omega) (by omega) dL_law_414 dL_law_415 dL_law_418 dL_law_420 dL_law_425 dL_law_427 dL_law_430 dL_law_431 dL_law_432 dL_law_433 dL_law_435 dL_law_436 dL_law_437 (fun H3 locs3 hH3 hq3 => ?_)
      refine lv_goto (tgt := 1961) hx hb dL_law_442 (by decide) ?_
      refine W.widen (k := cells + 93) (n := slots + 4545) (by omega) (by omega) ?_
      exact K _ _ _ _ _ (hL2.step hH3 KD.rf hq3 hl2) (lv_sub hl [2, 3, 4, 5, 6, 7] rfl)
set_option maxHeartbeats 4000000 in
set_option maxRecDepth 100000 in
theorem case_length (C : LC p l s m c b c0 D S0 L xs) (hi : i + 5 ≤ L) (hL : LH D S0 s x o o2 T P H locs) (hl : lv_has ls 9 (LB b x o o2 i)) (hc : cells + 93 ≤ 603072) (hs : slots + 4545 ≤ 7211114) (K : LK p l e room_1 s m b below meth c cells slots Q D S0 x o o2 i) : W p l e room_1 s m #[Value.ref b] below meth c H locs cells slots Q (F0 m 445 ls []) := by
  obtain ⟨hx, hb, hml, hown, hts, hE, hNE, hCN, hst, hB, hX, hbl, hbA, hL9⟩ := id C
  obtain ⟨hH, hP, ⟨w1, hO⟩, ⟨w2, hO2⟩, ho, ho2, hoz, ho2z, hoA, ho2A, hne⟩ := id hL
  have hek := hL.k9
  obtain ⟨v, hf, P2, hm9, hl2⟩ := op_length hP
  refine lv_aload_n hx hb dL_law_445 rfl (lv_at hl 1 rfl) ?_
  refine r_ki (As := []) ⟨hx, hb, hml, hown, hts⟩ (c_X9_length l D P x v hf) (cwV 0 hts (gwV gw_44_17 gw_44_18 gw_44_19 gw_14_5 gw_23_13) rfl rfl rfl (by decide +kernel) ⟨Nat.le_of_ble_eq_true rfl, Nat.le_of_ble_eq_true rfl⟩) hH hNE 12 hek (by decide) rfl rfl rfl hl.1 rfl (Nat.le_of_ble_eq_true rfl) dL_law_446 ⟨by show _ + _ ≤ 603072; omega, by show _ + _ ≤ 7211114; omega⟩ (fun H1 locs1 hH1 hk1 hq1 => ?_)
  refine lv_aload_n hx hb dL_law_449 rfl (lv_at hl 2 rfl) ?_
  refine r_ki (As := []) ⟨hx, hb, hml, hown, hts⟩ (c_X10_length l D P (x + 79) (P2, v) hm9) (cwV 0 hts (gwV gw_44_20 gw_44_21 gw_44_22 gw_31_10 gw_33_5) rfl rfl rfl (by decide +kernel) ⟨Nat.le_of_ble_eq_true rfl, Nat.le_of_ble_eq_true rfl⟩) hH1 hNE 13 ((hk1.1 _ hP.lt).trans hP.k10) (by decide) rfl rfl rfl hl.1 rfl (Nat.le_of_ble_eq_true rfl) dL_law_450 ⟨by show _ + _ ≤ 603072; omega, by show _ + _ ≤ 7211114; omega⟩ (fun H2 locs2 hH2 hk2 hq2 => ?_)
  have hL1 := LH.mid hL hk1 ⟨w1, hO.heap (hq1 o hO.lt (KD.rf.no ho hoz))⟩ (fun q a b => hq1 q a (fun z => b (Or.inl z))) hH2 hk2 hq2 hl2
  refine lv_icmp_eq (tgt := 1961) hx hb dL_law_453 (by decide) (fun _ => ?_) (fun h => absurd rfl h)
  refine W.widen (k := cells + 93) (n := slots + 4545) (by omega) (by omega) ?_
  exact K _ _ _ _ _ hL1 hl
set_option maxHeartbeats 4000000 in
set_option maxRecDepth 100000 in
theorem case_rule (C : LC p l s m c b c0 D S0 L xs) (hi : i + 5 ≤ L) (hL : LH D S0 s x o o2 T P H locs) (hl : lv_has ls 9 (LB b x o o2 i)) (hc : cells + 93 ≤ 603072) (hs : slots + 4545 ≤ 7211114) (K : LK p l e room_1 s m b below meth c cells slots Q D S0 x o o2 i) : W p l e room_1 s m #[Value.ref b] below meth c H locs cells slots Q (F0 m 458 ls []) := by
  obtain ⟨hx, hb, hml, hown, hts, hE, hNE, hCN, hst, hB, hX, hbl, hbA, hL9⟩ := id C
  obtain ⟨hH, hP, ⟨w1, hO⟩, ⟨w2, hO2⟩, ho, ho2, hoz, ho2z, hoA, ho2A, hne⟩ := id hL
  have hek := hL.k9
  obtain ⟨r, hf, htie, hj, hv⟩ := op_rule hP (ch (xs (i + 1))) (zb (xs (i + 2))) (xs (i + 3)) (zb_01 _)
  refine lv_aload_n hx hb dL_law_458 rfl (lv_at hl 1 rfl) ?_
  refine r_arg 1 C hH (lv_at hl 0 rfl) (lv_at hl 5 rfl) (by decide) hi dL_law_459 dL_law_460 dL_law_462 dL_law_463 dL_law_464 ?_
  refine lv_i2c hx hb dL_law_465 (v := ch (xs (i + 1))) rfl ?_
  refine r_arg 2 C hH (lv_at hl 0 rfl) (lv_at hl 5 rfl) (by decide) hi dL_law_466 dL_law_467 dL_law_469 dL_law_470 dL_law_471 ?_
  refine r_bool hx hb dL_law_472 dL_law_475 dL_law_476 dL_law_479 ?_
  refine r_arg 3 C hH (lv_at hl 0 rfl) (lv_at hl 5 rfl) (by decide) hi dL_law_480 dL_law_481 dL_law_483 dL_law_484 dL_law_485 ?_
  refine lv_aload_n hx hb dL_law_486 rfl (lv_at hl 3 rfl) ?_
  refine r_wrap (As := [.ref x, .int (ch (xs (i + 1))), .int (zb (xs (i + 2))), .int (xs (i + 3)), .ref o]) (ty := .long) (o := o) (rest := []) ⟨hx, hb, hml, hown, hts⟩ (w_rule l hst D P x (ch (xs (i + 1))) (zb (xs (i + 2))) (xs (i + 3)) o ho hoz (hB o hoA) hek r hf hj) (vx_cwSW 5 hts (gwS gw_44_23 gw_45_0 gw_43_13 gw_39_14) rfl rfl rfl (by decide +kernel) ⟨Nat.le_of_ble_eq_true rfl, Nat.le_of_ble_eq_true rfl⟩) hH hE hB hNE hCN hO hoA rfl hl.1 rfl (Nat.le_of_ble_eq_true rfl) dL_law_487 ⟨by show _ + _ ≤ 603072; omega, by show _ + _ ≤ 7211114; omega⟩ (fun u H1 locs1 hru hH1 hO1 hk1 hq1 => ?_) (fun u z H1 locs1 hru hz hH1 hO1 hk1 hq1 => ?_)
  · cases r with
    | inr q => cases hru
    | inl q =>
      have hru : u = (q.1, _) := (Sum.inl.inj hru).symm
      subst hru
      obtain ⟨P2, T', hm9, hth, hl2⟩ := htie
      refine lv_istore (lv' := (6, .int 0) :: LB b x o o2 i) hx hb dL_law_490 hl (by decide) rfl (fun ls hl => ?_)
      refine lv_aload_n hx hb dL_law_492 rfl (lv_at hl 3 rfl) ?_
      refine r_arg 1 C hH1 (lv_at hl 1 rfl) (lv_at hl 6 rfl) (by decide) hi dL_law_493 dL_law_494 dL_law_496 dL_law_497 dL_law_498 ?_
      refine lv_i2c hx hb dL_law_499 (v := ch (xs (i + 1))) rfl ?_
      refine r_arg 2 C hH1 (lv_at hl 1 rfl) (lv_at hl 6 rfl) (by decide) hi dL_law_500 dL_law_501 dL_law_503 dL_law_504 dL_law_505 ?_
      refine r_bool hx hb dL_law_506 dL_law_509 dL_law_510 dL_law_513 ?_
      refine r_arg 3 C hH1 (lv_at hl 1 rfl) (lv_at hl 6 rfl) (by decide) hi dL_law_514 dL_law_515 dL_law_517 dL_law_518 dL_law_519 ?_
      refine r_ki (As := [.int (ch (xs (i + 1))), .int (zb (xs (i + 2))), .int (xs (i + 3))]) ⟨hx, hb, hml, hown, hts⟩ (c_X10_rule l D q.1 (x + 79) (ch (xs (i + 1))) (zb (xs (i + 2))) (xs (i + 3)) (P2, q.2) hm9) (cwV 3 hts (gwV gw_45_1 gw_45_2 gw_45_3 gw_31_10 gw_33_10) rfl rfl rfl (by decide +kernel) ⟨Nat.le_of_ble_eq_true rfl, Nat.le_of_ble_eq_true rfl⟩) hH1 hNE 13 ((hk1.1 _ hP.lt).trans hP.k10) (by decide) rfl rfl rfl hl.1 rfl (Nat.le_of_ble_eq_true rfl) dL_law_520 ⟨by show _ + _ ≤ 603072; omega, by show _ + _ ≤ 7211114; omega⟩ (fun H2 locs2 hH2 hk2 hq2 => ?_)
      refine lv_istore (lv' := (7, .int q.2) :: (6, .int 0) :: LB b x o o2 i) hx hb dL_law_523 hl (by decide) rfl (fun ls hl => ?_)
      have hL2 := hL.mid hk1 ⟨_, hO1⟩ hq1 hH2 hk2 hq2 hl2
      have hek2 := hl2.k10
      refine r_tail (k := 0) (v := q.2) C hH2 hek2 hth ((hk1.tr hk2).no ho hoz) (fun _ => hO1.heap (hq2 o hO1.lt (hk1.no ho hoz))) hl (by omega) (by omega) dL_law_525 dL_law_526 dL_law_529 dL_law_531 dL_law_536 dL_law_538 dL_law_541 dL_law_542 dL_law_543 dL_law_544 dL_law_546 dL_law_547 dL_law_548 (fun H3 locs3 hH3 hq3 => ?_)
      refine lv_goto (tgt := 1961) hx hb dL_law_553 (by decide) ?_
      refine W.widen (k := cells + 93) (n := slots + 4545) (by omega) (by omega) ?_
      exact K _ _ _ _ _ (hL2.step hH3 KD.rf hq3 hl2) (lv_sub hl [2, 3, 4, 5, 6, 7] rfl)
  · cases r with
    | inl q => cases hru
    | inr q =>
      have hru : u = q := (Sum.inr.inj hru).symm
      subst hru
      obtain ⟨hco, htie⟩ := htie
      obtain ⟨P2, vv, hm9, hth, hl2⟩ := htie z hz
      obtain ⟨kv, hkv⟩ : ∃ kv, kv = (fun k : Nat => if k = 1 then (1 : Int32) else if k = 4 then (2 : Int32) else (3 : Int32)) u.2 := ⟨_, rfl⟩
      replace hco : kv ≠ 0 := by rw [hkv]; exact hco
      replace hth : kI P2 (x + 79) 0 = kv := by rw [hkv]; exact hth
      refine lv_topE (y := kv) hkv.symm ?_
      refine lv_istore (lv' := (6, .int kv) :: LB b x o o2 i) hx hb dL_law_490 hl (by decide) rfl (fun ls hl => ?_)
      refine lv_aload_n hx hb dL_law_492 rfl (lv_at hl 3 rfl) ?_
      refine r_arg 1 C hH1 (lv_at hl 1 rfl) (lv_at hl 6 rfl) (by decide) hi dL_law_493 dL_law_494 dL_law_496 dL_law_497 dL_law_498 ?_
      refine lv_i2c hx hb dL_law_499 (v := ch (xs (i + 1))) rfl ?_
      refine r_arg 2 C hH1 (lv_at hl 1 rfl) (lv_at hl 6 rfl) (by decide) hi dL_law_500 dL_law_501 dL_law_503 dL_law_504 dL_law_505 ?_
      refine r_bool hx hb dL_law_506 dL_law_509 dL_law_510 dL_law_513 ?_
      refine r_arg 3 C hH1 (lv_at hl 1 rfl) (lv_at hl 6 rfl) (by decide) hi dL_law_514 dL_law_515 dL_law_517 dL_law_518 dL_law_519 ?_
      refine r_ki (As := [.int (ch (xs (i + 1))), .int (zb (xs (i + 2))), .int (xs (i + 3))]) ⟨hx, hb, hml, hown, hts⟩ (c_X10_rule l D (zS u.1 z) (x + 79) (ch (xs (i + 1))) (zb (xs (i + 2))) (xs (i + 3)) (P2, vv) hm9) (cwV 3 hts (gwV gw_45_1 gw_45_2 gw_45_3 gw_31_10 gw_33_10) rfl rfl rfl (by decide +kernel) ⟨Nat.le_of_ble_eq_true rfl, Nat.le_of_ble_eq_true rfl⟩) hH1 hNE 13 (((hk1.z hz).1 _ hP.lt).trans hP.k10) (by decide) rfl rfl rfl hl.1 rfl (Nat.le_of_ble_eq_true rfl) dL_law_520 ⟨by show _ + _ ≤ 603072; omega, by show _ + _ ≤ 7211114; omega⟩ (fun H2 locs2 hH2 hk2 hq2 => ?_)
      refine lv_istore (lv' := (7, .int vv) :: (6, .int kv) :: LB b x o o2 i) hx hb dL_law_523 hl (by decide) rfl (fun ls hl => ?_)
      have hL2 := hL.mid (hk1.z hz) hO1 hq1 hH2 hk2 hq2 hl2
      have hek2 := hl2.k10
      refine r_tail (k := kv) (v := vv) C hH2 hek2 hth (((hk1.z hz).tr hk2).no ho hoz) (fun h => absurd h hco) hl (by omega) (by omega) dL_law_525 dL_law_526 dL_law_529 dL_law_531 dL_law_536 dL_law_538 dL_law_541 dL_law_542 dL_law_543 dL_law_544 dL_law_546 dL_law_547 dL_law_548 (fun H3 locs3 hH3 hq3 => ?_)
      refine lv_goto (tgt := 1961) hx hb dL_law_553 (by decide) ?_
      refine W.widen (k := cells + 93) (n := slots + 4545) (by omega) (by omega) ?_
      exact K _ _ _ _ _ (hL2.step hH3 KD.rf hq3 hl2) (lv_sub hl [2, 3, 4, 5, 6, 7] rfl)
set_option maxHeartbeats 4000000 in
set_option maxRecDepth 100000 in
theorem case_except (C : LC p l s m c b c0 D S0 L xs) (hi : i + 5 ≤ L) (hL : LH D S0 s x o o2 T P H locs) (hl : lv_has ls 9 (LB b x o o2 i)) (hc : cells + 93 ≤ 603072) (hs : slots + 4545 ≤ 7211114) (K : LK p l e room_1 s m b below meth c cells slots Q D S0 x o o2 i) : W p l e room_1 s m #[Value.ref b] below meth c H locs cells slots Q (F0 m 556 ls []) := by
  obtain ⟨hx, hb, hml, hown, hts, hE, hNE, hCN, hst, hB, hX, hbl, hbA, hL9⟩ := id C
  obtain ⟨hH, hP, ⟨w1, hO⟩, ⟨w2, hO2⟩, ho, ho2, hoz, ho2z, hoA, ho2A, hne⟩ := id hL
  have hek := hL.k9
  obtain ⟨r, hf, htie, hj, hv⟩ := op_except hP (xs (i + 1))
  refine lv_aload_n hx hb dL_law_556 rfl (lv_at hl 1 rfl) ?_
  refine r_arg 1 C hH (lv_at hl 0 rfl) (lv_at hl 5 rfl) (by decide) hi dL_law_557 dL_law_558 dL_law_560 dL_law_561 dL_law_562 ?_
  refine lv_aload_n hx hb dL_law_563 rfl (lv_at hl 3 rfl) ?_
  refine r_wrap (As := [.ref x, .int (xs (i + 1)), .ref o]) (ty := .long) (o := o) (rest := []) ⟨hx, hb, hml, hown, hts⟩ (w_except l hst D P x (xs (i + 1)) o ho hoz (hB o hoA) hek r hf hj) (vx_cwSW 3 hts (gwS gw_45_4 gw_45_5 gw_43_13 gw_39_19) rfl rfl rfl (by decide +kernel) ⟨Nat.le_of_ble_eq_true rfl, Nat.le_of_ble_eq_true rfl⟩) hH hE hB hNE hCN hO hoA rfl hl.1 rfl (Nat.le_of_ble_eq_true rfl) dL_law_564 ⟨by show _ + _ ≤ 603072; omega, by show _ + _ ≤ 7211114; omega⟩ (fun u H1 locs1 hru hH1 hO1 hk1 hq1 => ?_) (fun u z H1 locs1 hru hz hH1 hO1 hk1 hq1 => ?_)
  · cases r with
    | inr q => cases hru
    | inl q =>
      have hru : u = (q.1, _) := (Sum.inl.inj hru).symm
      subst hru
      obtain ⟨P2, T', hm9, hth, hl2⟩ := htie
      refine lv_istore (lv' := (6, .int 0) :: LB b x o o2 i) hx hb dL_law_567 hl (by decide) rfl (fun ls hl => ?_)
      refine lv_aload_n hx hb dL_law_569 rfl (lv_at hl 3 rfl) ?_
      refine r_arg 1 C hH1 (lv_at hl 1 rfl) (lv_at hl 6 rfl) (by decide) hi dL_law_570 dL_law_571 dL_law_573 dL_law_574 dL_law_575 ?_
      refine r_ki (As := [.int (xs (i + 1))]) ⟨hx, hb, hml, hown, hts⟩ (c_X10_except l D q.1 (x + 79) (xs (i + 1)) (P2, q.2) hm9) (cwV 1 hts (gwV gw_45_6 gw_45_7 gw_45_8 gw_31_10 gw_33_17) rfl rfl rfl (by decide +kernel) ⟨Nat.le_of_ble_eq_true rfl, Nat.le_of_ble_eq_true rfl⟩) hH1 hNE 13 ((hk1.1 _ hP.lt).trans hP.k10) (by decide) rfl rfl rfl hl.1 rfl (Nat.le_of_ble_eq_true rfl) dL_law_576 ⟨by show _ + _ ≤ 603072; omega, by show _ + _ ≤ 7211114; omega⟩ (fun H2 locs2 hH2 hk2 hq2 => ?_)
      refine lv_istore (lv' := (7, .int q.2) :: (6, .int 0) :: LB b x o o2 i) hx hb dL_law_579 hl (by decide) rfl (fun ls hl => ?_)
      have hL2 := hL.mid hk1 ⟨_, hO1⟩ hq1 hH2 hk2 hq2 hl2
      have hek2 := hl2.k10
      refine r_tail (k := 0) (v := q.2) C hH2 hek2 hth ((hk1.tr hk2).no ho hoz) (fun _ => hO1.heap (hq2 o hO1.lt (hk1.no ho hoz))) hl (by omega) (by omega) dL_law_581 dL_law_582 dL_law_585 dL_law_587 dL_law_592 dL_law_594 dL_law_597 dL_law_598 dL_law_599 dL_law_600 dL_law_602 dL_law_603 dL_law_604 (fun H3 locs3 hH3 hq3 => ?_)
      refine lv_goto (tgt := 1961) hx hb dL_law_609 (by decide) ?_
      refine W.widen (k := cells + 93) (n := slots + 4545) (by omega) (by omega) ?_
      exact K _ _ _ _ _ (hL2.step hH3 KD.rf hq3 hl2) (lv_sub hl [2, 3, 4, 5, 6, 7] rfl)
  · cases r with
    | inl q => cases hru
    | inr q =>
      have hru : u = q := (Sum.inr.inj hru).symm
      subst hru
      obtain ⟨hco, htie⟩ := htie
      obtain ⟨P2, vv, hm9, hth, hl2⟩ := htie z hz
      obtain ⟨kv, hkv⟩ : ∃ kv, kv = (fun k : Nat => if k = 3 then (1 : Int32) else if k = 4 then (2 : Int32) else (3 : Int32)) u.2 := ⟨_, rfl⟩
      replace hco : kv ≠ 0 := by rw [hkv]; exact hco
      replace hth : kI P2 (x + 79) 0 = kv := by rw [hkv]; exact hth
      refine lv_topE (y := kv) hkv.symm ?_
      refine lv_istore (lv' := (6, .int kv) :: LB b x o o2 i) hx hb dL_law_567 hl (by decide) rfl (fun ls hl => ?_)
      refine lv_aload_n hx hb dL_law_569 rfl (lv_at hl 3 rfl) ?_
      refine r_arg 1 C hH1 (lv_at hl 1 rfl) (lv_at hl 6 rfl) (by decide) hi dL_law_570 dL_law_571 dL_law_573 dL_law_574 dL_law_575 ?_
      refine r_ki (As := [.int (xs (i + 1))]) ⟨hx, hb, hml, hown, hts⟩ (c_X10_except l D (zS u.1 z) (x + 79) (xs (i + 1)) (P2, vv) hm9) (cwV 1 hts (gwV gw_45_6 gw_45_7 gw_45_8 gw_31_10 gw_33_17) rfl rfl rfl (by decide +kernel) ⟨Nat.le_of_ble_eq_true rfl, Nat.le_of_ble_eq_true rfl⟩) hH1 hNE 13 (((hk1.z hz).1 _ hP.lt).trans hP.k10) (by decide) rfl rfl rfl hl.1 rfl (Nat.le_of_ble_eq_true rfl) dL_law_576 ⟨by show _ + _ ≤ 603072; omega, by show _ + _ ≤ 7211114; omega⟩ (fun H2 locs2 hH2 hk2 hq2 => ?_)
      refine lv_istore (lv' := (7, .int vv) :: (6, .int kv) :: LB b x o o2 i) hx hb dL_law_579 hl (by decide) rfl (fun ls hl => ?_)
      have hL2 := hL.mid (hk1.z hz) hO1 hq1 hH2 hk2 hq2 hl2
      have hek2 := hl2.k10
      refine r_tail (k := kv) (v := vv) C hH2 hek2 hth (((hk1.z hz).tr hk2).no ho hoz) (fun h => absurd h hco) hl (by omega) (by omega) dL_law_581 dL_law_582 dL_law_585 dL_law_587 dL_law_592 dL_law_594 dL_law_597 dL_law_598 dL_law_599 dL_law_600 dL_law_602 dL_law_603 dL_law_604 (fun H3 locs3 hH3 hq3 => ?_)
      refine lv_goto (tgt := 1961) hx hb dL_law_609 (by decide) ?_
      refine W.widen (k := cells + 93) (n := slots + 4545) (by omega) (by omega) ?_
      exact K _ _ _ _ _ (hL2.step hH3 KD.rf hq3 hl2) (lv_sub hl [2, 3, 4, 5, 6, 7] rfl)
end HCASE
