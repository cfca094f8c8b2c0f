section HCASE
variable {p : Program} {l : Launch} {e : Env} {s : State} {m : MethodId} {below : List Frame} {meth : Method} {c : Code} {H : Heap} {locs : List Loc} {cells slots : Nat} {Q : State → Prop}
variable {b L x o o2 i : Nat} {ls : Array Slot} {D : va_G × Nat} {S0 P : PS} {T : St} {c0 : Cond} {xs : Nat → Int32}
set_option maxHeartbeats 4000000 in
set_option maxRecDepth 100000 in
theorem case_sign (C : LC p l s m c b c0 D S0 L xs) (hi : i + 5 ≤ L) (hL : LH D S0 s x o o2 T P H locs) (hl : lv_has ls 9 (LB b x o o2 i)) (hc : cells + 93 ≤ 603072) (hs : slots + 4545 ≤ 7211114) (K : LK p l e room_1 s m b below meth c cells slots Q D S0 x o o2 i) : W p l e room_1 s m #[Value.ref b] below meth c H locs cells slots Q (F0 m 1181 ls []) := by
  obtain ⟨hx, hb, hml, hown, hts, hE, hNE, hCN, hst, hB, hX, hbl, hbA, hL9⟩ := id C
  obtain ⟨hH, hP, ⟨w1, hO⟩, ⟨w2, hO2⟩, ho, ho2, hoz, ho2z, hoA, ho2A, hne⟩ := id hL
  have hek := hL.k9
  obtain ⟨r, hf, htie, hj, hv⟩ := op_sign hP (xs (i + 1)) (xs (i + 2)) (xs (i + 3)) (xs (i + 4))
  refine lv_aload_n hx hb dL_law_1181 rfl (lv_at hl 1 rfl) ?_
  refine r_arg 1 C hH (lv_at hl 0 rfl) (lv_at hl 5 rfl) (by decide) hi dL_law_1182 dL_law_1183 dL_law_1185 dL_law_1186 dL_law_1187 ?_
  refine r_arg 2 C hH (lv_at hl 0 rfl) (lv_at hl 5 rfl) (by decide) hi dL_law_1188 dL_law_1189 dL_law_1191 dL_law_1192 dL_law_1193 ?_
  refine r_arg 3 C hH (lv_at hl 0 rfl) (lv_at hl 5 rfl) (by decide) hi dL_law_1194 dL_law_1195 dL_law_1197 dL_law_1198 dL_law_1199 ?_
  refine r_arg 4 C hH (lv_at hl 0 rfl) (lv_at hl 5 rfl) (by decide) hi dL_law_1200 dL_law_1201 dL_law_1203 dL_law_1204 dL_law_1205 ?_
  refine lv_aload_n hx hb dL_law_1206 rfl (lv_at hl 3 rfl) ?_
  refine r_wrap (As := [.ref x, .int (xs (i + 1)), .int (xs (i + 2)), .int (xs (i + 3)), .int (xs (i + 4)), .ref o]) (ty := .long) (o := o) (rest := []) ⟨hx, hb, hml, hown, hts⟩ (w_sign l hst D P x (xs (i + 1)) (xs (i + 2)) (xs (i + 3)) (xs (i + 4)) o ho hoz (hB o hoA) hek r hf hj) (vx_cwSW 6 hts (gwS gw_47_1 gw_47_2 gw_43_13 gw_41_8) rfl rfl rfl (by decide +kernel) ⟨Nat.le_of_ble_eq_true rfl, Nat.le_of_ble_eq_true rfl⟩) hH hE hB hNE hCN hO hoA rfl hl.1 rfl (Nat.le_of_ble_eq_true rfl) dL_law_1207 ⟨by show _ + _ ≤ 603072; omega, by show _ + _ ≤ 7211114; omega⟩ (fun u H1 locs1 hru hH1 hO1 hk1 hq1 => ?_) (fun u z H1 locs1 hru hz hH1 hO1 hk1 hq1 => ?_)
  · cases r with
    | inr q => cases hru
    | inl q =>
      have hru : u = (q.1, _) := (Sum.inl.inj hru).symm
      subst hru
      obtain ⟨P2, T', hm9, hth, hl2⟩ := htie
      refine lv_istore (lv' := (6, .int 0) :: LB b x o o2 i) hx hb dL_law_1210 hl (by decide) rfl (fun ls hl => ?_)
      refine lv_aload_n hx hb dL_law_1212 rfl (lv_at hl 3 rfl) ?_
      refine r_arg 1 C hH1 (lv_at hl 1 rfl) (lv_at hl 6 rfl) (by decide) hi dL_law_1213 dL_law_1214 dL_law_1216 dL_law_1217 dL_law_1218 ?_
      refine r_arg 2 C hH1 (lv_at hl 1 rfl) (lv_at hl 6 rfl) (by decide) hi dL_law_1219 dL_law_1220 dL_law_1222 dL_law_1223 dL_law_1224 ?_
      refine r_arg 3 C hH1 (lv_at hl 1 rfl) (lv_at hl 6 rfl) (by decide) hi dL_law_1225 dL_law_1226 dL_law_1228 dL_law_1229 dL_law_1230 ?_
      refine r_arg 4 C hH1 (lv_at hl 1 rfl) (lv_at hl 6 rfl) (by decide) hi dL_law_1231 dL_law_1232 dL_law_1234 dL_law_1235 dL_law_1236 ?_
      refine r_ki (As := [.int (xs (i + 1)), .int (xs (i + 2)), .int (xs (i + 3)), .int (xs (i + 4))]) ⟨hx, hb, hml, hown, hts⟩ (c_X10_sign l D q.1 (x + 79) (xs (i + 1)) (xs (i + 2)) (xs (i + 3)) (xs (i + 4)) (P2, q.2) hm9) (cwV 4 hts (gwV gw_47_3 gw_47_4 gw_47_5 gw_31_10 gw_38_0) rfl rfl rfl (by decide +kernel) ⟨Nat.le_of_ble_eq_true rfl, Nat.le_of_ble_eq_true rfl⟩) hH1 hNE 13 ((hk1.1 _ hP.lt).trans hP.k10) (by decide) rfl rfl rfl hl.1 rfl (Nat.le_of_ble_eq_true rfl) dL_law_1237 ⟨by show _ + _ ≤ 603072; omega, by show _ + _ ≤ 7211114; omega⟩ (fun H2 locs2 hH2 hk2 hq2 => ?_)
      refine lv_istore (lv' := (7, .int q.2) :: (6, .int 0) :: LB b x o o2 i) hx hb dL_law_1240 hl (by decide) rfl (fun ls hl => ?_)
      have hL2 := hL.mid hk1 ⟨_, hO1⟩ hq1 hH2 hk2 hq2 hl2
      have hek2 := hl2.k10
      refine r_tail (k := 0) (v := q.2) C hH2 hek2 hth ((hk1.tr hk2).no ho hoz) (fun _ => hO1.heap (hq2 o hO1.lt (hk1.no ho hoz))) hl (by omega) (by omega) dL_law_1242 dL_law_1243 dL_law_1246 dL_law_1248 dL_law_1253 dL_law_1255 dL_law_1258 dL_law_1259 dL_law_1260 dL_law_1261 dL_law_1263 dL_law_1264 dL_law_1265 (fun H3 locs3 hH3 hq3 => ?_)
      refine lv_goto (tgt := 1961) hx hb dL_law_1270 (by decide) ?_
      refine W.widen (k := cells + 93) (n := slots + 4545) (by omega) (by omega) ?_
      exact K _ _ _ _ _ (hL2.step hH3 KD.rf hq3 hl2) (lv_sub hl [2, 3, 4, 5, 6, 7] rfl)
  · cases r with
    | inl q => cases hru
    | inr q =>
      have hru : u = q := (Sum.inr.inj hru).symm
      subst hru
      obtain ⟨hco, htie⟩ := htie
      obtain ⟨P2, vv, hm9, hth, hl2⟩ := htie z hz
      obtain ⟨kv, hkv⟩ : ∃ kv, kv = (fun k : Nat => if k = 1 then (1 : Int32) else (2 : Int32)) u.2 := ⟨_, rfl⟩
      replace hco : kv ≠ 0 := by rw [hkv]; exact hco
      replace hth : kI P2 (x + 79) 0 = kv := by rw [hkv]; exact hth
      refine lv_topE (y := kv) hkv.symm ?_
      refine lv_istore (lv' := (6, .int kv) :: LB b x o o2 i) hx hb dL_law_1210 hl (by decide) rfl (fun ls hl => ?_)
      refine lv_aload_n hx hb dL_law_1212 rfl (lv_at hl 3 rfl) ?_
      refine r_arg 1 C hH1 (lv_at hl 1 rfl) (lv_at hl 6 rfl) (by decide) hi dL_law_1213 dL_law_1214 dL_law_1216 dL_law_1217 dL_law_1218 ?_
      refine r_arg 2 C hH1 (lv_at hl 1 rfl) (lv_at hl 6 rfl) (by decide) hi dL_law_1219 dL_law_1220 dL_law_1222 dL_law_1223 dL_law_1224 ?_
      refine r_arg 3 C hH1 (lv_at hl 1 rfl) (lv_at hl 6 rfl) (by decide) hi dL_law_1225 dL_law_1226 dL_law_1228 dL_law_1229 dL_law_1230 ?_
      refine r_arg 4 C hH1 (lv_at hl 1 rfl) (lv_at hl 6 rfl) (by decide) hi dL_law_1231 dL_law_1232 dL_law_1234 dL_law_1235 dL_law_1236 ?_
      refine r_ki (As := [.int (xs (i + 1)), .int (xs (i + 2)), .int (xs (i + 3)), .int (xs (i + 4))]) ⟨hx, hb, hml, hown, hts⟩ (c_X10_sign l D (zS u.1 z) (x + 79) (xs (i + 1)) (xs (i + 2)) (xs (i + 3)) (xs (i + 4)) (P2, vv) hm9) (cwV 4 hts (gwV gw_47_3 gw_47_4 gw_47_5 gw_31_10 gw_38_0) rfl rfl rfl (by decide +kernel) ⟨Nat.le_of_ble_eq_true rfl, Nat.le_of_ble_eq_true rfl⟩) hH1 hNE 13 (((hk1.z hz).1 _ hP.lt).trans hP.k10) (by decide) rfl rfl rfl hl.1 rfl (Nat.le_of_ble_eq_true rfl) dL_law_1237 ⟨by show _ + _ ≤ 603072; omega, by show _ + _ ≤ 7211114; omega⟩ (fun H2 locs2 hH2 hk2 hq2 => ?_)
      refine lv_istore (lv' := (7, .int vv) :: (6, .int kv) :: LB b x o o2 i) hx hb dL_law_1240 hl (by decide) rfl (fun ls hl => ?_)
      have hL2 := hL.mid (hk1.z hz) hO1 hq1 hH2 hk2 hq2 hl2
      have hek2 := hl2.k10
      refine r_tail (k := kv) (v := vv) C hH2 hek2 hth (((hk1.z hz).tr hk2).no ho hoz) (fun h => absurd h hco) hl (by omega) (by omega) dL_law_1242 dL_law_1243 dL_law_1246 dL_law_1248 dL_law_1253 dL_law_1255 dL_law_1258 dL_law_1259 dL_law_1260 dL_law_1261 dL_law_1263 dL_law_1264 dL_law_1265 (fun H3 locs3 hH3 hq3 => ?_)
      refine lv_goto (tgt := 1961) hx hb dL_law_1270 (by decide) ?_
      refine W.widen (k := cells + 93) (n := slots + 4545) (by omega) (by omega) ?_
      exact K _ _ _ _ _ (hL2.step hH3 KD.rf hq3 hl2) (lv_sub hl [2, 3, 4, 5, 6, 7] rfl)
set_option maxHeartbeats 4000000 in
set_option maxRecDepth 100000 in
theorem case_apply (C : LC p l s m c b c0 D S0 L xs) (hi : i + 5 ≤ L) (hL : LH D S0 s x o o2 T P H locs) (hl : lv_has ls 9 (LB b x o o2 i)) (hc : cells + 93 ≤ 603072) (hs : slots + 4545 ≤ 7211114) (K : LK p l e room_1 s m b below meth c cells slots Q D S0 x o o2 i) : W p l e room_1 s m #[Value.ref b] below meth c H locs cells slots Q (F0 m 1273 ls []) := by
  obtain ⟨hx, hb, hml, hown, hts, hE, hNE, hCN, hst, hB, hX, hbl, hbA, hL9⟩ := id C
  obtain ⟨hH, hP, ⟨w1, hO⟩, ⟨w2, hO2⟩, ho, ho2, hoz, ho2z, hoA, ho2A, hne⟩ := id hL
  have hek := hL.k9
  obtain ⟨r, hf, htie, hj, hv⟩ := op_apply hP (xs (i + 1)) (xs (i + 2)) (xs (i + 3)) (xs (i + 4))
  refine lv_aload_n hx hb dL_law_1273 rfl (lv_at hl 1 rfl) ?_
  refine r_arg 1 C hH (lv_at hl 0 rfl) (lv_at hl 5 rfl) (by decide) hi dL_law_1274 dL_law_1275 dL_law_1277 dL_law_1278 dL_law_1279 ?_
  refine r_arg 2 C hH (lv_at hl 0 rfl) (lv_at hl 5 rfl) (by decide) hi dL_law_1280 dL_law_1281 dL_law_1283 dL_law_1284 dL_law_1285 ?_
  refine r_arg 3 C hH (lv_at hl 0 rfl) (lv_at hl 5 rfl) (by decide) hi dL_law_1286 dL_law_1287 dL_law_1289 dL_law_1290 dL_law_1291 ?_
  refine r_arg 4 C hH (lv_at hl 0 rfl) (lv_at hl 5 rfl) (by decide) hi dL_law_1292 dL_law_1293 dL_law_1295 dL_law_1296 dL_law_1297 ?_
  refine lv_aload_n hx hb dL_law_1298 rfl (lv_at hl 3 rfl) ?_
  refine r_wrap (As := [.ref x, .int (xs (i + 1)), .int (xs (i + 2)), .int (xs (i + 3)), .int (xs (i + 4)), .ref o]) (ty := .long) (o := o) (rest := []) ⟨hx, hb, hml, hown, hts⟩ (w_apply l hst D P x (xs (i + 1)) (xs (i + 2)) (xs (i + 3)) (xs (i + 4)) o ho hoz (hB o hoA) hek r hf hj) (vx_cwSW 6 hts (gwS gw_47_6 gw_47_7 gw_43_13 gw_41_12) rfl rfl rfl (by decide +kernel) ⟨Nat.le_of_ble_eq_true rfl, Nat.le_of_ble_eq_true rfl⟩) hH hE hB hNE hCN hO hoA rfl hl.1 rfl (Nat.le_of_ble_eq_true rfl) dL_law_1299 ⟨by show _ + _ ≤ 603072; omega, by show _ + _ ≤ 7211114; omega⟩ (fun u H1 locs1 hru hH1 hO1 hk1 hq1 => ?_) (fun u z H1 locs1 hru hz hH1 hO1 hk1 hq1 => ?_)
  · cases r with
    | inr q => cases hru
    | inl q =>
      have hru : u = (q.1, _) := (Sum.inl.inj hru).symm
      subst hru
      obtain ⟨P2, T', hm9, hth, hl2⟩ := htie
      refine lv_istore (lv' := (6, .int 0) :: LB b x o o2 i) hx hb dL_law_1302 hl (by decide) rfl (fun ls hl => ?_)
      refine lv_aload_n hx hb dL_law_1304 rfl (lv_at hl 3 rfl) ?_
      refine r_arg 1 C hH1 (lv_at hl 1 rfl) (lv_at hl 6 rfl) (by decide) hi dL_law_1305 dL_law_1306 dL_law_1308 dL_law_1309 dL_law_1310 ?_
      refine r_arg 2 C hH1 (lv_at hl 1 rfl) (lv_at hl 6 rfl) (by decide) hi dL_law_1311 dL_law_1312 dL_law_1314 dL_law_1315 dL_law_1316 ?_
      refine r_arg 3 C hH1 (lv_at hl 1 rfl) (lv_at hl 6 rfl) (by decide) hi dL_law_1317 dL_law_1318 dL_law_1320 dL_law_1321 dL_law_1322 ?_
      refine r_arg 4 C hH1 (lv_at hl 1 rfl) (lv_at hl 6 rfl) (by decide) hi dL_law_1323 dL_law_1324 dL_law_1326 dL_law_1327 dL_law_1328 ?_
      refine r_ki (As := [.int (xs (i + 1)), .int (xs (i + 2)), .int (xs (i + 3)), .int (xs (i + 4))]) ⟨hx, hb, hml, hown, hts⟩ (c_X10_apply l D q.1 (x + 79) (xs (i + 1)) (xs (i + 2)) (xs (i + 3)) (xs (i + 4)) (P2, q.2) hm9) (cwV 4 hts (gwV gw_47_8 gw_47_9 gw_47_10 gw_31_10 gw_38_1) rfl rfl rfl (by decide +kernel) ⟨Nat.le_of_ble_eq_true rfl, Nat.le_of_ble_eq_true rfl⟩) hH1 hNE 13 ((hk1.1 _ hP.lt).trans hP.k10) (by decide) rfl rfl rfl hl.1 rfl (Nat.le_of_ble_eq_true rfl) dL_law_1329 ⟨by show _ + _ ≤ 603072; omega, by show _ + _ ≤ 7211114; omega⟩ (fun H2 locs2 hH2 hk2 hq2 => ?_)
      refine lv_istore (lv' := (7, .int q.2) :: (6, .int 0) :: LB b x o o2 i) hx hb dL_law_1332 hl (by decide) rfl (fun ls hl => ?_)
      have hL2 := hL.mid hk1 ⟨_, hO1⟩ hq1 hH2 hk2 hq2 hl2
      have hek2 := hl2.k10
      refine r_tail (k := 0) (v := q.2) C hH2 hek2 hth ((hk1.tr hk2).no ho hoz) (fun _ => hO1.heap (hq2 o hO1.lt (hk1.no ho hoz))) hl (by omega) (by omega) dL_law_1334 dL_law_1335 dL_law_1338 dL_law_1340 dL_law_1345 dL_law_1347 dL_law_1350 dL_law_1351 dL_law_1352 dL_law_1353 dL_law_1355 dL_law_1356 dL_law_1357 (fun H3 locs3 hH3 hq3 => ?_)
      refine lv_goto (tgt := 1961) hx hb dL_law_1362 (by decide) ?_
      refine W.widen (k := cells + 93) (n := slots + 4545) (by omega) (by omega) ?_
      exact K _ _ _ _ _ (hL2.step hH3 KD.rf hq3 hl2) (lv_sub hl [2, 3, 4, 5, 6, 7] rfl)
  · cases r with
    | inl q => cases hru
    | inr q =>
      have hru : u = q := (Sum.inr.inj hru).symm
      subst hru
      obtain ⟨hco, htie⟩ := htie
      obtain ⟨P2, vv, hm9, hth, hl2⟩ := htie z hz
      obtain ⟨kv, hkv⟩ : ∃ kv, kv = (fun k : Nat => if k = 1 then (1 : Int32) else if k = 5 then (2 : Int32) else (3 : Int32)) u.2 := ⟨_, rfl⟩
      replace hco : kv ≠ 0 := by rw [hkv]; exact hco
      replace hth : kI P2 (x + 79) 0 = kv := by rw [hkv]; exact hth
      refine lv_topE (y := kv) hkv.symm ?_
      refine lv_istore (lv' := (6, .int kv) :: LB b x o o2 i) hx hb dL_law_1302 hl (by decide) rfl (fun ls hl => ?_)
      refine lv_aload_n hx hb dL_law_1304 rfl (lv_at hl 3 rfl) ?_
      refine r_arg 1 C hH1 (lv_at hl 1 rfl) (lv_at hl 6 rfl) (by decide) hi dL_law_1305 dL_law_1306 dL_law_1308 dL_law_1309 dL_law_1310 ?_
      refine r_arg 2 C hH1 (lv_at hl 1 rfl) (lv_at hl 6 rfl) (by decide) hi dL_law_1311 dL_law_1312 dL_law_1314 dL_law_1315 dL_law_1316 ?_
      refine r_arg 3 C hH1 (lv_at hl 1 rfl) (lv_at hl 6 rfl) (by decide) hi dL_law_1317 dL_law_1318 dL_law_1320 dL_law_1321 dL_law_1322 ?_
      refine r_arg 4 C hH1 (lv_at hl 1 rfl) (lv_at hl 6 rfl) (by decide) hi dL_law_1323 dL_law_1324 dL_law_1326 dL_law_1327 dL_law_1328 ?_
      refine r_ki (As := [.int (xs (i + 1)), .int (xs (i + 2)), .int (xs (i + 3)), .int (xs (i + 4))]) ⟨hx, hb, hml, hown, hts⟩ (c_X10_apply l D (zS u.1 z) (x + 79) (xs (i + 1)) (xs (i + 2)) (xs (i + 3)) (xs (i + 4)) (P2, vv) hm9) (cwV 4 hts (gwV gw_47_8 gw_47_9 gw_47_10 gw_31_10 gw_38_1) rfl rfl rfl (by decide +kernel) ⟨Nat.le_of_ble_eq_true rfl, Nat.le_of_ble_eq_true rfl⟩) hH1 hNE 13 (((hk1.z hz).1 _ hP.lt).trans hP.k10) (by decide) rfl rfl rfl hl.1 rfl (Nat.le_of_ble_eq_true rfl) dL_law_1329 ⟨by show _ + _ ≤ 603072; omega, by show _ + _ ≤ 7211114; omega⟩ (fun H2 locs2 hH2 hk2 hq2 => ?_)
      refine lv_istore (lv' := (7, .int vv) :: (6, .int kv) :: LB b x o o2 i) hx hb dL_law_1332 hl (by decide) rfl (fun ls hl => ?_)
      have hL2 := hL.mid (hk1.z hz) hO1 hq1 hH2 hk2 hq2 hl2
      have hek2 := hl2.k10
      refine r_tail (k := kv) (v := vv) C hH2 hek2 hth (((hk1.z hz).tr hk2).no ho hoz) (fun h => absurd h hco) hl (by omega) (by omega) dL_law_1334 dL_law_1335 dL_law_1338 dL_law_1340 dL_law_1345 dL_law_1347 dL_law_1350 dL_law_1351 dL_law_1352 dL_law_1353 dL_law_1355 dL_law_1356 dL_law_1357 (fun H3 locs3 hH3 hq3 => ?_)
      refine lv_goto (tgt := 1961) hx hb dL_law_1362 (by decide) ?_
      refine W.widen (k := cells + 93) (n := slots + 4545) (by omega) (by omega) ?_
      exact K _ _ _ _ _ (hL2.step hH3 KD.rf hq3 hl2) (lv_sub hl [2, 3, 4, 5, 6, 7] rfl)
set_option maxHeartbeats 4000000 in
set_option maxRecDepth 100000 in
theorem case_ignore (C : LC p l s m c b c0 D S0 L xs) (hi : i + 5 ≤ L) (hL : LH D S0 s x o o2 T P H locs) (hl : lv_has ls 9 (LB b x o o2 i)) (hc : cells + 93 ≤ 603072) (hs : slots + 4545 ≤ 7211114) (K : LK p l e room_1 s m b below meth c cells slots Q D S0 x o o2 i) : W p l e room_1 s m #[Value.ref b] below meth c H locs cells slots Q (F0 m 1365 ls []) := by
  obtain ⟨hx, hb, hml, hown, hts, hE, hNE, hCN, hst, hB, hX, hbl, hbA, hL9⟩ := id C
  obtain ⟨hH, hP, ⟨w1, hO⟩, ⟨w2, hO2⟩, ho, ho2, hoz, ho2z, hoA, ho2A, hne⟩ := id hL
  have hek := hL.k9
  obtain ⟨r, hf, htie, hj, hv⟩ := op_ignore hP (xs (i + 1)) (xs (i + 2))
  refine lv_aload_n hx hb dL_law_1365 rfl (lv_at hl 1 rfl) ?_
  refine r_arg 1 C hH (lv_at hl 0 rfl) (lv_at hl 5 rfl) (by decide) hi dL_law_1366 dL_law_1367 dL_law_1369 dL_law_1370 dL_law_1371 ?_
  refine r_arg 2 C hH (lv_at hl 0 rfl) (lv_at hl 5 rfl) (by decide) hi dL_law_1372 dL_law_1373 dL_law_1375 dL_law_1376 dL_law_1377 ?_
  refine lv_aload_n hx hb dL_law_1378 rfl (lv_at hl 3 rfl) ?_
  refine r_wrap (As := [.ref x, .int (xs (i + 1)), .int (xs (i + 2)), .ref o]) (ty := .long) (o := o) (rest := []) ⟨hx, hb, hml, hown, hts⟩ (w_ignore l hst D P x (xs (i + 1)) (xs (i + 2)) o ho hoz (hB o hoA) hek r hf hj) (vx_cwSW 4 hts (gwS gw_47_11 gw_47_12 gw_43_13 gw_41_16) rfl rfl rfl (by decide +kernel) ⟨Nat.le_of_ble_eq_true rfl, Nat.le_of_ble_eq_true rfl⟩) hH hE hB hNE hCN hO hoA rfl hl.1 rfl (Nat.le_of_ble_eq_true rfl) dL_law_1379 ⟨by show _ + _ ≤ 603072; omega, by show _ + _ ≤ 7211114; omega⟩ (fun u H1 locs1 hru hH1 hO1 hk1 hq1 => ?_) (fun u z H1 locs1 hru hz hH1 hO1 hk1 hq1 => ?_)
  · cases r with
    | inr q => cases hru
    | inl q =>
      have hru : u = (q.1, _) := (Sum.inl.inj hru).symm
      subst hru
      obtain ⟨P2, T', hm9, hth, hl2⟩ := htie
      refine lv_istore (lv' := (6, .int 0) :: LB b x o o2 i) hx hb dL_law_1382 hl (by decide) rfl (fun ls hl => ?_)
      refine lv_aload_n hx hb dL_law_1384 rfl (lv_at hl 3 rfl) ?_
      refine r_arg 1 C hH1 (lv_at hl 1 rfl) (lv_at hl 6 rfl) (by decide) hi dL_law_1385 dL_law_1386 dL_law_1388 dL_law_1389 dL_law_1390 ?_
      refine r_arg 2 C hH1 (lv_at hl 1 rfl) (lv_at hl 6 rfl) (by decide) hi dL_law_1391 dL_law_1392 dL_law_1394 dL_law_1395 dL_law_1396 ?_
      refine r_ki (As := [.int (xs (i + 1)), .int (xs (i + 2))]) ⟨hx, hb, hml, hown, hts⟩ (c_X10_ignore l D q.1 (x + 79) (xs (i + 1)) (xs (i + 2)) (P2, q.2) hm9) (cwV 2 hts (gwV gw_47_13 gw_47_14 gw_47_15 gw_31_10 gw_38_2) rfl rfl rfl (by decide +kernel) ⟨Nat.le_of_ble_eq_true rfl, Nat.le_of_ble_eq_true rfl⟩) hH1 hNE 13 ((hk1.1 _ hP.lt).trans hP.k10) (by decide) rfl rfl rfl hl.1 rfl (Nat.le_of_ble_eq_true rfl) dL_law_1397 ⟨by show _ + _ ≤ 603072; omega, by show _ + _ ≤ 7211114; omega⟩ (fun H2 locs2 hH2 hk2 hq2 => ?_)
      refine lv_istore (lv' := (7, .int q.2) :: (6, .int 0) :: LB b x o o2 i) hx hb dL_law_1400 hl (by decide) rfl (fun ls hl => ?_)
      have hL2 := hL.mid hk1 ⟨_, hO1⟩ hq1 hH2 hk2 hq2 hl2
      have hek2 := hl2.k10
      refine r_tail (k := 0) (v := q.2) C hH2 hek2 hth ((hk1.tr hk2).no ho hoz) (fun _ => hO1.heap (hq2 o hO1.lt (hk1.no ho hoz))) hl (by omega) (by omega) dL_law_1402 dL_law_1403 dL_law_1406 dL_law_1408 dL_law_1413 dL_law_1415 dL_law_1418 dL_law_1419 dL_law_1420 dL_law_1421 dL_law_1423 dL_law_1424 dL_law_1425 (fun H3 locs3 hH3 hq3 => ?_)
      refine lv_goto (tgt := 1961) hx hb dL_law_1430 (by decide) ?_
      refine W.widen (k := cells + 93) (n := slots + 4545) (by omega) (by omega) ?_
      exact K _ _ _ _ _ (hL2.step hH3 KD.rf hq3 hl2) (lv_sub hl [2, 3, 4, 5, 6, 7] rfl)
  · cases r with
    | inl q => cases hru
    | inr q =>
      have hru : u = q := (Sum.inr.inj hru).symm
      subst hru
      obtain ⟨hco, htie⟩ := htie
      obtain ⟨P2, vv, hm9, hth, hl2⟩ := htie z hz
      obtain ⟨kv, hkv⟩ : ∃ kv, kv = (fun k : Nat => if k = 1 then (1 : Int32) else if k = 5 then (2 : Int32) else (3 : Int32)) u.2 := ⟨_, rfl⟩
      replace hco : kv ≠ 0 := by rw [hkv]; exact hco
      replace hth : kI P2 (x + 79) 0 = kv := by rw [hkv]; exact hth
      refine lv_topE (y := kv) hkv.symm ?_
      refine lv_istore (lv' := (6, .int kv) :: LB b x o o2 i) hx hb dL_law_1382 hl (by decide) rfl (fun ls hl => ?_)
      refine lv_aload_n hx hb dL_law_1384 rfl (lv_at hl 3 rfl) ?_
      refine r_arg 1 C hH1 (lv_at hl 1 rfl) (lv_at hl 6 rfl) (by decide) hi dL_law_1385 dL_law_1386 dL_law_1388 dL_law_1389 dL_law_1390 ?_
      refine r_arg 2 C hH1 (lv_at hl 1 rfl) (lv_at hl 6 rfl) (by decide) hi dL_law_1391 dL_law_1392 dL_law_1394 dL_law_1395 dL_law_1396 ?_
      refine r_ki (As := [.int (xs (i + 1)), .int (xs (i + 2))]) ⟨hx, hb, hml, hown, hts⟩ (c_X10_ignore l D (zS u.1 z) (x + 79) (xs (i + 1)) (xs (i + 2)) (P2, vv) hm9) (cwV 2 hts (gwV gw_47_13 gw_47_14 gw_47_15 gw_31_10 gw_38_2) rfl rfl rfl (by decide +kernel) ⟨Nat.le_of_ble_eq_true rfl, Nat.le_of_ble_eq_true rfl⟩) hH1 hNE 13 (((hk1.z hz).1 _ hP.lt).trans hP.k10) (by decide) rfl rfl rfl hl.1 rfl (Nat.le_of_ble_eq_true rfl) dL_law_1397 ⟨by show _ + _ ≤ 603072; omega, by show _ + _ ≤ 7211114; omega⟩ (fun H2 locs2 hH2 hk2 hq2 => ?_)
      refine lv_istore (lv' := (7, .int vv) :: (6, .int kv) :: LB b x o o2 i) hx hb dL_law_1400 hl (by decide) rfl (fun ls hl => ?_)
      have hL2 := hL.mid (hk1.z hz) hO1 hq1 hH2 hk2 hq2 hl2
      have hek2 := hl2.k10
      refine r_tail (k := kv) (v := vv) C hH2 hek2 hth (((hk1.z hz).tr hk2).no ho hoz) (fun h => absurd h hco) hl (by omega) (by omega) dL_law_1402 dL_law_1403 dL_law_1406 dL_law_1408 dL_law_1413 dL_law_1415 dL_law_1418 dL_law_1419 dL_law_1420 dL_law_1421 dL_law_1423 dL_law_1424 dL_law_1425 (fun H3 locs3 hH3 hq3 => ?_)
      refine lv_goto (tgt := 1961) hx hb dL_law_1430 (by decide) ?_
      refine W.widen (k := cells + 93) (n := slots + 4545) (by omega) (by omega) ?_
      exact K _ _ _ _ _ (hL2.step hH3 KD.rf hq3 hl2) (lv_sub hl [2, 3, 4, 5, 6, 7] rfl)
set_option maxHeartbeats 4000000 in
set_option maxRecDepth 100000 in
theorem case_ignored (C : LC p l s m c b c0 D S0 L xs) (hi : i + 5 ≤ L) (hL : LH D S0 s x o o2 T P H locs) (hl : lv_has ls 9 (LB b x o o2 i)) (hc : cells + 93 ≤ 603072) (hs : slots + 4545 ≤ 7211114) (K : LK p l e room_1 s m b below meth c cells slots Q D S0 x o o2 i) : W p l e room_1 s m #[Value.ref b] below meth c H locs cells slots Q (F0 m 1433 ls []) := by
  obtain ⟨hx, hb, hml, hown, hts, hE, hNE, hCN, hst, hB, hX, hbl, hbA, hL9⟩ := id C
  obtain ⟨hH, hP, ⟨w1, hO⟩, ⟨w2, hO2⟩, ho, ho2, hoz, ho2z, hoA, ho2A, hne⟩ := id hL
  have hek := hL.k9
  obtain ⟨r, hf, htie, hj, hv⟩ := op_ignored hP (xs (i + 1))
  refine lv_aload_n hx hb dL_law_1433 rfl (lv_at hl 1 rfl) ?_
  refine r_arg 1 C hH (lv_at hl 0 rfl) (lv_at hl 5 rfl) (by decide) hi dL_law_1434 dL_law_1435 dL_law_1437 dL_law_1438 dL_law_1439 ?_
  refine lv_aload_n hx hb dL_law_1440 rfl (lv_at hl 3 rfl) ?_
  refine r_wrap (As := [.ref x, .int (xs (i + 1)), .ref o]) (ty := .long) (o := o) (rest := []) ⟨hx, hb, hml, hown, hts⟩ (w_ignored l hst D P x (xs (i + 1)) o ho hoz (hB o hoA) hek r hf hj) (vx_cwSW 3 hts (gwS gw_47_16 gw_47_17 gw_43_13 gw_41_20) rfl rfl rfl (by decide +kernel) ⟨Nat.le_of_ble_eq_true rfl, Nat.le_of_ble_eq_true rfl⟩) hH hE hB hNE hCN hO hoA rfl hl.1 rfl (Nat.le_of_ble_eq_true rfl) dL_law_1441 ⟨by show _ + _ ≤ 603072; omega, by show _ + _ ≤ 7211114; omega⟩ (fun u H1 locs1 hru hH1 hO1 hk1 hq1 => ?_) (fun u z H1 locs1 hru hz hH1 hO1 hk1 hq1 => ?_)
  · cases r with
    | inr q => cases hru
    | inl q =>
      have hru : u = (q.1, _) := (Sum.inl.inj hru).symm
      subst hru
      obtain ⟨P2, T', hm9, hth, hl2⟩ := htie
      refine lv_istore (lv' := (6, .int 0) :: LB b x o o2 i) hx hb dL_law_1444 hl (by decide) rfl (fun ls hl => ?_)
      refine lv_aload_n hx hb dL_law_1446 rfl (lv_at hl 3 rfl) ?_
      refine r_arg 1 C hH1 (lv_at hl 1 rfl) (lv_at hl 6 rfl) (by decide) hi dL_law_1447 dL_law_1448 dL_law_1450 dL_law_1451 dL_law_1452 ?_
      refine r_ki (As := [.int (xs (i + 1))]) ⟨hx, hb, hml, hown, hts⟩ (c_X10_ignored l D q.1 (x + 79) (xs (i + 1)) (P2, q.2) hm9) (cwV 1 hts (gwV gw_47_18 gw_47_19 gw_47_20 gw_31_10 gw_38_3) rfl rfl rfl (by decide +kernel) ⟨Nat.le_of_ble_eq_true rfl, Nat.le_of_ble_eq_true rfl⟩) hH1 hNE 13 ((hk1.1 _ hP.lt).trans hP.k10) (by decide) rfl rfl rfl hl.1 rfl (Nat.le_of_ble_eq_true rfl) dL_law_1453 ⟨by show _ + _ ≤ 603072; omega, by show _ + _ ≤ 7211114; omega⟩ (fun H2 locs2 hH2 hk2 hq2 => ?_)
      refine lv_istore (lv' := (7, .int q.2) :: (6, .int 0) :: LB b x o o2 i) hx hb dL_law_1456 hl (by decide) rfl (fun ls hl => ?_)
      have hL2 := hL.mid hk1 ⟨_, hO1⟩ hq1 hH2 hk2 hq2 hl2
      have hek2 := hl2.k10
      refine r_tail (k := 0) (v := q.2) C hH2 hek2 hth ((hk1.tr hk2).no ho hoz) (fun _ => hO1.heap (hq2 o hO1.lt (hk1.no ho hoz))) hl (by omega) (by omega) dL_law_1458 dL_law_1459 dL_law_1462 dL_law_1464 dL_law_1469 dL_law_1471 dL_law_1474 dL_law_1475 dL_law_1476 dL_law_1477 dL_law_1479 dL_law_1480 dL_law_1481 (fun H3 locs3 hH3 hq3 => ?_)
      refine lv_goto (tgt := 1961) hx hb dL_law_1486 (by decide) ?_
      refine W.widen (k := cells + 93) (n := slots + 4545) (by omega) (by omega) ?_
      exact K _ _ _ _ _ (hL2.step hH3 KD.rf hq3 hl2) (lv_sub hl [2, 3, 4, 5, 6, 7] rfl)
  · cases r with
    | inl q => cases hru
    | inr q =>
      have hru : u = q := (Sum.inr.inj hru).symm
      subst hru
      obtain ⟨hco, htie⟩ := htie
      obtain ⟨P2, vv, hm9, hth, hl2⟩ := htie z hz
      obtain ⟨kv, hkv⟩ : ∃ kv, kv = (fun _ : Nat => (1 : Int32)) u.2 := ⟨_, rfl⟩
      replace hco : kv ≠ 0 := by rw [hkv]; exact hco
      replace hth : kI P2 (x + 79) 0 = kv := by rw [hkv]; exact hth
      refine lv_topE (y := kv) hkv.symm ?_
      refine lv_istore (lv' := (6, .int kv) :: LB b x o o2 i) hx hb dL_law_1444 hl (by decide) rfl (fun ls hl => ?_)
      refine lv_aload_n hx hb dL_law_1446 rfl (lv_at hl 3 rfl) ?_
      refine r_arg 1 C hH1 (lv_at hl 1 rfl) (lv_at hl 6 rfl) (by decide) hi dL_law_1447 dL_law_1448 dL_law_1450 dL_law_1451 dL_law_1452 ?_
      refine r_ki (As := [.int (xs (i + 1))]) ⟨hx, hb, hml, hown, hts⟩ (c_X10_ignored l D (zS u.1 z) (x + 79) (xs (i + 1)) (P2, vv) hm9) (cwV 1 hts (gwV gw_47_18 gw_47_19 gw_47_20 gw_31_10 gw_38_3) rfl rfl rfl (by decide +kernel) ⟨Nat.le_of_ble_eq_true rfl, Nat.le_of_ble_eq_true rfl⟩) hH1 hNE 13 (((hk1.z hz).1 _ hP.lt).trans hP.k10) (by decide) rfl rfl rfl hl.1 rfl (Nat.le_of_ble_eq_true rfl) dL_law_1453 ⟨by show _ + _ ≤ 603072; omega, by show _ + _ ≤ 7211114; omega⟩ (fun H2 locs2 hH2 hk2 hq2 => ?_)
      refine lv_istore (lv' := (7, .int vv) :: (6, .int kv) :: LB b x o o2 i) hx hb dL_law_1456 hl (by decide) rfl (fun ls hl => ?_)
      have hL2 := hL.mid (hk1.z hz) hO1 hq1 hH2 hk2 hq2 hl2
      have hek2 := hl2.k10
      refine r_tail (k := kv) (v := vv) C hH2 hek2 hth (((hk1.z hz).tr hk2).no ho hoz) (fun h => absurd h hco) hl (by omega) (by omega) dL_law_1458 dL_law_1459 dL_law_1462 dL_law_1464 dL_law_1469 dL_law_1471 dL_law_1474 dL_law_1475 dL_law_1476 dL_law_1477 dL_law_1479 dL_law_1480 dL_law_1481 (fun H3 locs3 hH3 hq3 => ?_)
      refine lv_goto (tgt := 1961) hx hb dL_law_1486 (by decide) ?_
      refine W.widen (k := cells + 93) (n := slots + 4545) (by omega) (by omega) ?_
      exact K _ _ _ _ _ (hL2.step hH3 KD.rf hq3 hl2) (lv_sub hl [2, 3, 4, 5, 6, 7] rfl)
set_option maxHeartbeats 4000000 in
set_option maxRecDepth 100000 in
theorem case_heed (C : LC p l s m c b c0 D S0 L xs) (hi : i + 5 ≤ L) (hL : LH D S0 s x o o2 T P H locs) (hl : lv_has ls 9 (LB b x o o2 i)) (hc : cells + 93 ≤ 603072) (hs : slots + 4545 ≤ 7211114) (K : LK p l e room_1 s m b below meth c cells slots Q D S0 x o o2 i) : W p l e room_1 s m #[Value.ref b] below meth c H locs cells slots Q (F0 m 1489 ls []) := by
  obtain ⟨hx, hb, hml, hown, hts, hE, hNE, hCN, hst, hB, hX, hbl, hbA, hL9⟩ := id C
  obtain ⟨hH, hP, ⟨w1, hO⟩, ⟨w2, hO2⟩, ho, ho2, hoz, ho2z, hoA, ho2A, hne⟩ := id hL
  have hek := hL.k9
  obtain ⟨r, hf, htie, hj, hv⟩ := op_heed hP (xs (i + 1))
  refine lv_aload_n hx hb dL_law_1489 rfl (lv_at hl 1 rfl) ?_
  refine r_arg 1 C hH (lv_at hl 0 rfl) (lv_at hl 5 rfl) (by decide) hi dL_law_1490 dL_law_1491 dL_law_1493 dL_law_1494 dL_law_1495 ?_
  refine lv_aload_n hx hb dL_law_1496 rfl (lv_at hl 3 rfl) ?_
  refine r_wrap (As := [.ref x, .int (xs (i + 1)), .ref o]) (ty := .long) (o := o) (rest := []) ⟨hx, hb, hml, hown, hts⟩ (w_heed l hst D P x (xs (i + 1)) o ho hoz (hB o hoA) hek r hf hj) (vx_cwSW 3 hts (gwS gw_47_21 gw_47_22 gw_43_13 gw_42_0) rfl rfl rfl (by decide +kernel) ⟨Nat.le_of_ble_eq_true rfl, Nat.le_of_ble_eq_true rfl⟩) hH hE hB hNE hCN hO hoA rfl hl.1 rfl (Nat.le_of_ble_eq_true rfl) dL_law_1497 ⟨by show _ + _ ≤ 603072; omega, by show _ + _ ≤ 7211114; omega⟩ (fun u H1 locs1 hru hH1 hO1 hk1 hq1 => ?_) (fun u z H1 locs1 hru hz hH1 hO1 hk1 hq1 => ?_)
  · cases r with
    | inr q => cases hru
    | inl q =>
      have hru : u = (q.1, _) := (Sum.inl.inj hru).symm
      subst hru
      obtain ⟨P2, T', hm9, hth, hl2⟩ := htie
      refine lv_istore (lv' := (6, .int 0) :: LB b x o o2 i) hx hb dL_law_1500 hl (by decide) rfl (fun ls hl => ?_)
      refine lv_aload_n hx hb dL_law_1502 rfl (lv_at hl 3 rfl) ?_
      refine r_arg 1 C hH1 (lv_at hl 1 rfl) (lv_at hl 6 rfl) (by decide) hi dL_law_1503 dL_law_1504 dL_law_1506 dL_law_1507 dL_law_1508 ?_
      refine r_ki (As := [.int (xs (i + 1))]) ⟨hx, hb, hml, hown, hts⟩ (c_X10_heed l D q.1 (x + 79) (xs (i + 1)) (P2, q.2) hm9) (cwV 1 hts (gwV gw_47_23 gw_48_0 gw_48_1 gw_31_10 gw_38_4) rfl rfl rfl (by decide +kernel) ⟨Nat.le_of_ble_eq_true rfl, Nat.le_of_ble_eq_true rfl⟩) hH1 hNE 13 ((hk1.1 _ hP.lt).trans hP.k10) (by decide) rfl rfl rfl hl.1 rfl (Nat.le_of_ble_eq_true rfl) dL_law_1509 ⟨by show _ + _ ≤ 603072; omega, by show _ + _ ≤ 7211114; omega⟩ (fun H2 locs2 hH2 hk2 hq2 => ?_)
      refine lv_istore (lv' := (7, .int q.2) :: (6, .int 0) :: LB b x o o2 i) hx hb dL_law_1512 hl (by decide) rfl (fun ls hl => ?_)
      have hL2 := hL.mid hk1 ⟨_, hO1⟩ hq1 hH2 hk2 hq2 hl2
      have hek2 := hl2.k10
      refine r_tail (k := 0) (v := q.2) C hH2 hek2 hth ((hk1.tr hk2).no ho hoz) (fun _ => hO1.heap (hq2 o hO1.lt (hk1.no ho hoz))) hl (by omega) (by omega) dL_law_1514 dL_law_1515 dL_law_1518 dL_law_1520 dL_law_1525 dL_law_1527 dL_law_1530 dL_law_1531 dL_law_1532 dL_law_1533 dL_law_1535 dL_law_1536 dL_law_1537 (fun H3 locs3 hH3 hq3 => ?_)
      refine lv_goto (tgt := 1961) hx hb dL_law_1542 (by decide) ?_
      refine W.widen (k := cells + 93) (n := slots + 4545) (by omega) (by omega) ?_
      exact K _ _ _ _ _ (hL2.step hH3 KD.rf hq3 hl2) (lv_sub hl [2, 3, 4, 5, 6, 7] rfl)
  · cases r with
    | inl q => cases hru
    | inr q =>
      have hru : u = q := (Sum.inr.inj hru).symm
      subst hru
      obtain ⟨hco, htie⟩ := htie
      obtain ⟨P2, vv, hm9, hth, hl2⟩ := htie z hz
      obtain ⟨kv, hkv⟩ : ∃ kv, kv = (fun _ : Nat => (1 : Int32)) u.2 := ⟨_, rfl⟩
      replace hco : kv ≠ 0 := by rw [hkv]; exact hco
      replace hth : kI P2 (x + 79) 0 = kv := by rw [hkv]; exact hth
      refine lv_topE (y := kv) hkv.symm ?_
      refine lv_istore (lv' := (6, .int kv) :: LB b x o o2 i) hx hb dL_law_1500 hl (by decide) rfl (fun ls hl => ?_)
      refine lv_aload_n hx hb dL_law_1502 rfl (lv_at hl 3 rfl) ?_
      refine r_arg 1 C hH1 (lv_at hl 1 rfl) (lv_at hl 6 rfl) (by decide) hi dL_law_1503 dL_law_1504 dL_law_1506 dL_law_1507 dL_law_1508 ?_
      refine r_ki (As := [.int (xs (i + 1))]) ⟨hx, hb, hml, hown, hts⟩ (c_X10_heed l D (zS u.1 z) (x + 79) (xs (i + 1)) (P2, vv) hm9) (cwV 1 hts (gwV gw_47_23 gw_48_0 gw_48_1 gw_31_10 gw_38_4) rfl rfl rfl (by decide +kernel) ⟨Nat.le_of_ble_eq_true rfl, Nat.le_of_ble_eq_true rfl⟩) hH1 hNE 13 (((hk1.z hz).1 _ hP.lt).trans hP.k10) (by decide) rfl rfl rfl hl.1 rfl (Nat.le_of_ble_eq_true rfl) dL_law_1509 ⟨by show _ + _ ≤ 603072; omega, by show _ + _ ≤ 7211114; omega⟩ (fun H2 locs2 hH2 hk2 hq2 => ?_)
      refine lv_istore (lv' := (7, .int vv) :: (6, .int kv) :: LB b x o o2 i) hx hb dL_law_1512 hl (by decide) rfl (fun ls hl => ?_)
      have hL2 := hL.mid (hk1.z hz) hO1 hq1 hH2 hk2 hq2 hl2
      have hek2 := hl2.k10
      refine r_tail (k := kv) (v := vv) C hH2 hek2 hth (((hk1.z hz).tr hk2).no ho hoz) (fun h => absurd h hco) hl (by omega) (by omega) dL_law_1514 dL_law_1515 dL_law_1518 dL_law_1520 dL_law_1525 dL_law_1527 dL_law_1530 dL_law_1531 dL_law_1532 dL_law_1533 dL_law_1535 dL_law_1536 dL_law_1537 (fun H3 locs3 hH3 hq3 => ?_)
      refine lv_goto (tgt := 1961) hx hb dL_law_1542 (by decide) ?_
      refine W.widen (k := cells + 93) (n := slots + 4545) (by omega) (by omega) ?_
      exact K _ _ _ _ _ (hL2.step hH3 KD.rf hq3 hl2) (lv_sub hl [2, 3, 4, 5, 6, 7] rfl)
set_option maxHeartbeats 4000000 in
set_option maxRecDepth 100000 in
theorem case_tokens (C : LC p l s m c b c0 D S0 L xs) (hi : i + 5 ≤ L) (hL : LH D S0 s x o o2 T P H locs) (hl : lv_has ls 9 (LB b x o o2 i)) (hc : cells + 93 ≤ 603072) (hs : slots + 4545 ≤ 7211114) (K : LK p l e room_1 s m b below meth c cells slots Q D S0 x o o2 i) : W p l e room_1 s m #[Value.ref b] below meth c H locs cells slots Q (F0 m 1545 ls []) := by
  obtain ⟨hx, hb, hml, hown, hts, hE, hNE, hCN, hst, hB, hX, hbl, hbA, hL9⟩ := id C
  obtain ⟨hH, hP, ⟨w1, hO⟩, ⟨w2, hO2⟩, ho, ho2, hoz, ho2z, hoA, ho2A, hne⟩ := id hL
  have hek := hL.k9
  obtain ⟨P1, v, hf, P2, T', hm9, hl2⟩ := op_tokens hP (zb (xs (i + 1)))
  refine lv_aload_n hx hb dL_law_1545 rfl (lv_at hl 1 rfl) ?_
  refine r_arg 1 C hH (lv_at hl 0 rfl) (lv_at hl 5 rfl) (by decide) hi dL_law_1546 dL_law_1547 dL_law_1549 dL_law_1550 dL_law_1551 ?_
  refine r_bool hx hb dL_law_1552 dL_law_1555 dL_law_1556 dL_law_1559 ?_
  refine r_ki (As := [.int (zb (xs (i + 1)))]) ⟨hx, hb, hml, hown, hts⟩ (c_X9_tokens l D P x (zb (xs (i + 1))) (P1, v) hf) (cwV 1 hts (gwV gw_48_2 gw_48_3 gw_48_4 gw_14_5 gw_28_4) rfl rfl rfl (by decide +kernel) ⟨Nat.le_of_ble_eq_true rfl, Nat.le_of_ble_eq_true rfl⟩) hH hNE 12 hek (by decide) rfl rfl rfl hl.1 rfl (Nat.le_of_ble_eq_true rfl) dL_law_1560 ⟨by show _ + _ ≤ 603072; omega, by show _ + _ ≤ 7211114; omega⟩ (fun H1 locs1 hH1 hk1 hq1 => ?_)
  refine lv_aload_n hx hb dL_law_1563 rfl (lv_at hl 2 rfl) ?_
  refine r_arg 1 C hH1 (lv_at hl 0 rfl) (lv_at hl 5 rfl) (by decide) hi dL_law_1564 dL_law_1565 dL_law_1567 dL_law_1568 dL_law_1569 ?_
  refine r_bool hx hb dL_law_1570 dL_law_1573 dL_law_1574 dL_law_1577 ?_
  refine r_ki (As := [.int (zb (xs (i + 1)))]) ⟨hx, hb, hml, hown, hts⟩ (c_X10_tokens l D P1 (x + 79) (zb (xs (i + 1))) (P2, v) hm9) (cwV 1 hts (gwV gw_48_5 gw_48_6 gw_48_7 gw_31_10 gw_38_5) rfl rfl rfl (by decide +kernel) ⟨Nat.le_of_ble_eq_true rfl, Nat.le_of_ble_eq_true rfl⟩) hH1 hNE 13 ((hk1.1 _ hP.lt).trans hP.k10) (by decide) rfl rfl rfl hl.1 rfl (Nat.le_of_ble_eq_true rfl) dL_law_1578 ⟨by show _ + _ ≤ 603072; omega, by show _ + _ ≤ 7211114; omega⟩ (fun H2 locs2 hH2 hk2 hq2 => ?_)
  have hL1 := LH.mid hL hk1 ⟨w1, hO.heap (hq1 o hO.lt (KD.rf.no ho hoz))⟩ (fun q a b => hq1 q a (fun z => b (Or.inl z))) hH2 hk2 hq2 hl2
  refine lv_icmp_eq (tgt := 1961) hx hb dL_law_1581 (by decide) (fun _ => ?_) (fun h => absurd rfl h)
  refine W.widen (k := cells + 93) (n := slots + 4545) (by omega) (by omega) ?_
  exact K _ _ _ _ _ hL1 hl
set_option maxHeartbeats 4000000 in
set_option maxRecDepth 100000 in
theorem case_paragraphs (C : LC p l s m c b c0 D S0 L xs) (hi : i + 5 ≤ L) (hL : LH D S0 s x o o2 T P H locs) (hl : lv_has ls 9 (LB b x o o2 i)) (hc : cells + 93 ≤ 603072) (hs : slots + 4545 ≤ 7211114) (K : LK p l e room_1 s m b below meth c cells slots Q D S0 x o o2 i) : W p l e room_1 s m #[Value.ref b] below meth c H locs cells slots Q (F0 m 1586 ls []) := by
  obtain ⟨hx, hb, hml, hown, hts, hE, hNE, hCN, hst, hB, hX, hbl, hbA, hL9⟩ := id C
  obtain ⟨hH, hP, ⟨w1, hO⟩, ⟨w2, hO2⟩, ho, ho2, hoz, ho2z, hoA, ho2A, hne⟩ := id hL
  have hek := hL.k9
  obtain ⟨v, hf, P2, hm9, hl2⟩ := op_paragraphs hP
  refine lv_aload_n hx hb dL_law_1586 rfl (lv_at hl 1 rfl) ?_
  refine r_ki (As := []) ⟨hx, hb, hml, hown, hts⟩ (c_X9_paragraphs l D P x v hf) (cwV 0 hts (gwV gw_48_8 gw_48_9 gw_48_10 gw_14_5 gw_28_7) rfl rfl rfl (by decide +kernel) ⟨Nat.le_of_ble_eq_true rfl, Nat.le_of_ble_eq_true rfl⟩) hH hNE 12 hek (by decide) rfl rfl rfl hl.1 rfl (Nat.le_of_ble_eq_true rfl) dL_law_1587 ⟨by show _ + _ ≤ 603072; omega, by show _ + _ ≤ 7211114; omega⟩ (fun H1 locs1 hH1 hk1 hq1 => ?_)
  refine lv_aload_n hx hb dL_law_1590 rfl (lv_at hl 2 rfl) ?_
  refine r_ki (As := []) ⟨hx, hb, hml, hown, hts⟩ (c_X10_paragraphs l D P (x + 79) (P2, v) hm9) (cwV 0 hts (gwV gw_48_11 gw_48_12 gw_48_13 gw_31_10 gw_38_6) rfl rfl rfl (by decide +kernel) ⟨Nat.le_of_ble_eq_true rfl, Nat.le_of_ble_eq_true rfl⟩) hH1 hNE 13 ((hk1.1 _ hP.lt).trans hP.k10) (by decide) rfl rfl rfl hl.1 rfl (Nat.le_of_ble_eq_true rfl) dL_law_1591 ⟨by show _ + _ ≤ 603072; omega, by show _ + _ ≤ 7211114; omega⟩ (fun H2 locs2 hH2 hk2 hq2 => ?_)
  have hL1 := LH.mid hL hk1 ⟨w1, hO.heap (hq1 o hO.lt (KD.rf.no ho hoz))⟩ (fun q a b => hq1 q a (fun z => b (Or.inl z))) hH2 hk2 hq2 hl2
  refine lv_icmp_eq (tgt := 1961) hx hb dL_law_1594 (by decide) (fun _ => ?_) (fun h => absurd rfl h)
  refine W.widen (k := cells + 93) (n := slots + 4545) (by omega) (by omega) ?_
  exact K _ _ _ _ _ hL1 hl
set_option maxHeartbeats 4000000 in
set_option maxRecDepth 100000 in
theorem case_check (C : LC p l s m c b c0 D S0 L xs) (hi : i + 5 ≤ L) (hL : LH D S0 s x o o2 T P H locs) (hl : lv_has ls 9 (LB b x o o2 i)) (hc : cells + 93 ≤ 603072) (hs : slots + 4545 ≤ 7211114) (K : LK p l e room_1 s m b below meth c cells slots Q D S0 x o o2 i) : W p l e room_1 s m #[Value.ref b] below meth c H locs cells slots Q (F0 m 1599 ls []) := by
  obtain ⟨hx, hb, hml, hown, hts, hE, hNE, hCN, hst, hB, hX, hbl, hbA, hL9⟩ := id C
  obtain ⟨hH, hP, ⟨w1, hO⟩, ⟨w2, hO2⟩, ho, ho2, hoz, ho2z, hoA, ho2A, hne⟩ := id hL
  have hek := hL.k9
  obtain ⟨r, hf, htie, hj, hv⟩ := op_check hP (xs (i + 1))
  refine lv_aload_n hx hb dL_law_1599 rfl (lv_at hl 1 rfl) ?_
  refine r_arg 1 C hH (lv_at hl 0 rfl) (lv_at hl 5 rfl) (by decide) hi dL_law_1600 dL_law_1601 dL_law_1603 dL_law_1604 dL_law_1605 ?_
  refine lv_aload_n hx hb dL_law_1606 rfl (lv_at hl 3 rfl) ?_
  refine r_wrap (As := [.ref x, .int (xs (i + 1)), .ref o]) (ty := .long) (o := o) (rest := []) ⟨hx, hb, hml, hown, hts⟩ (w_check l hst D P x (xs (i + 1)) o ho hoz (hB o hoA) hek r hf hj) (vx_cwSW 3 hts (gwS gw_48_14 gw_48_15 gw_43_13 gw_42_4) rfl rfl rfl (by decide +kernel) ⟨Nat.le_of_ble_eq_true rfl, Nat.le_of_ble_eq_true rfl⟩) hH hE hB hNE hCN hO hoA rfl hl.1 rfl (Nat.le_of_ble_eq_true rfl) dL_law_1607 ⟨by show _ + _ ≤ 603072; omega, by show _ + _ ≤ 7211114; omega⟩ (fun u H1 locs1 hru hH1 hO1 hk1 hq1 => ?_) (fun u z H1 locs1 hru hz hH1 hO1 hk1 hq1 => ?_)
  · cases r with
    | inr q => cases hru
    | inl q =>
      have hru : u = (q.1, _) := (Sum.inl.inj hru).symm
      subst hru
      obtain ⟨P2, T', hm9, hth, hl2⟩ := htie
      refine lv_istore (lv' := (6, .int 0) :: LB b x o o2 i) hx hb dL_law_1610 hl (by decide) rfl (fun ls hl => ?_)
      refine lv_aload_n hx hb dL_law_1612 rfl (lv_at hl 3 rfl) ?_
      refine r_arg 1 C hH1 (lv_at hl 1 rfl) (lv_at hl 6 rfl) (by decide) hi dL_law_1613 dL_law_1614 dL_law_1616 dL_law_1617 dL_law_1618 ?_
      refine r_ki (As := [.int (xs (i + 1))]) ⟨hx, hb, hml, hown, hts⟩ (c_X10_check l D q.1 (x + 79) (xs (i + 1)) (P2, q.2) hm9) (cwV 1 hts (gwV gw_48_16 gw_48_17 gw_48_18 gw_31_10 gw_38_7) rfl rfl rfl (by decide +kernel) ⟨Nat.le_of_ble_eq_true rfl, Nat.le_of_ble_eq_true rfl⟩) hH1 hNE 13 ((hk1.1 _ hP.lt).trans hP.k10) (by decide) rfl rfl rfl hl.1 rfl (Nat.le_of_ble_eq_true rfl) dL_law_1619 ⟨by show _ + _ ≤ 603072; omega, by show _ + _ ≤ 7211114; omega⟩ (fun H2 locs2 hH2 hk2 hq2 => ?_)
      refine lv_istore (lv' := (7, .int q.2) :: (6, .int 0) :: LB b x o o2 i) hx hb dL_law_1622 hl (by decide) rfl (fun ls hl => ?_)
      have hL2 := hL.mid hk1 ⟨_, hO1⟩ hq1 hH2 hk2 hq2 hl2
      have hek2 := hl2.k10
      refine r_tail (k := 0) (v := q.2) C hH2 hek2 hth ((hk1.tr hk2).no ho hoz) (fun _ => hO1.heap (hq2 o hO1.lt (hk1.no ho hoz))) hl (by omega) (by omega) dL_law_1624 dL_law_1625 dL_law_1628 dL_law_1630 dL_law_1635 dL_law_1637 dL_law_1640 dL_law_1641 dL_law_1642 dL_law_1643 dL_law_1645 dL_law_1646 dL_law_1647 (fun H3 locs3 hH3 hq3 => ?_)
      refine lv_goto (tgt := 1961) hx hb dL_law_1652 (by decide) ?_
      refine W.widen (k := cells + 93) (n := slots + 4545) (by omega) (by omega) ?_
      exact K _ _ _ _ _ (hL2.step hH3 KD.rf hq3 hl2) (lv_sub hl [2, 3, 4, 5, 6, 7] rfl)
  · cases r with
    | inl q => cases hru
    | inr q =>
      have hru : u = q := (Sum.inr.inj hru).symm
      subst hru
      obtain ⟨hco, htie⟩ := htie
      obtain ⟨P2, vv, hm9, hth, hl2⟩ := htie z hz
      obtain ⟨kv, hkv⟩ : ∃ kv, kv = (fun _ : Nat => (1 : Int32)) u.2 := ⟨_, rfl⟩
      replace hco : kv ≠ 0 := by rw [hkv]; exact hco
      replace hth : kI P2 (x + 79) 0 = kv := by rw [hkv]; exact hth
      refine lv_topE (y := kv) hkv.symm ?_
      refine lv_istore (lv' := (6, .int kv) :: LB b x o o2 i) hx hb dL_law_1610 hl (by decide) rfl (fun ls hl => ?_)
      refine lv_aload_n hx hb dL_law_1612 rfl (lv_at hl 3 rfl) ?_
      refine r_arg 1 C hH1 (lv_at hl 1 rfl) (lv_at hl 6 rfl) (by decide) hi dL_law_1613 dL_law_1614 dL_law_1616 dL_law_1617 dL_law_1618 ?_
      refine r_ki (As := [.int (xs (i + 1))]) ⟨hx, hb, hml, hown, hts⟩ (c_X10_check l D (zS u.1 z) (x + 79) (xs (i + 1)) (P2, vv) hm9) (cwV 1 hts (gwV gw_48_16 gw_48_17 gw_48_18 gw_31_10 gw_38_7) rfl rfl rfl (by decide +kernel) ⟨Nat.le_of_ble_eq_true rfl, Nat.le_of_ble_eq_true rfl⟩) hH1 hNE 13 (((hk1.z hz).1 _ hP.lt).trans hP.k10) (by decide) rfl rfl rfl hl.1 rfl (Nat.le_of_ble_eq_true rfl) dL_law_1619 ⟨by show _ + _ ≤ 603072; omega, by show _ + _ ≤ 7211114; omega⟩ (fun H2 locs2 hH2 hk2 hq2 => ?_)
      refine lv_istore (lv' := (7, .int vv) :: (6, .int kv) :: LB b x o o2 i) hx hb dL_law_1622 hl (by decide) rfl (fun ls hl => ?_)
      have hL2 := hL.mid (hk1.z hz) hO1 hq1 hH2 hk2 hq2 hl2
      have hek2 := hl2.k10
      refine r_tail (k := kv) (v := vv) C hH2 hek2 hth (((hk1.z hz).tr hk2).no ho hoz) (fun h => absurd h hco) hl (by omega) (by omega) dL_law_1624 dL_law_1625 dL_law_1628 dL_law_1630 dL_law_1635 dL_law_1637 dL_law_1640 dL_law_1641 dL_law_1642 dL_law_1643 dL_law_1645 dL_law_1646 dL_law_1647 (fun H3 locs3 hH3 hq3 => ?_)
      refine lv_goto (tgt := 1961) hx hb dL_law_1652 (by decide) ?_
      refine W.widen (k := cells + 93) (n := slots + 4545) (by omega) (by omega) ?_
      exact K _ _ _ _ _ (hL2.step hH3 KD.rf hq3 hl2) (lv_sub hl [2, 3, 4, 5, 6, 7] rfl)
end HCASE
