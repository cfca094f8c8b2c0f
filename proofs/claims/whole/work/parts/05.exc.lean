/-! methods that throw: what they return or throw is one value -/
def exN (k : Nat) : String := match k with
  | 1 => "java/lang/IllegalArgumentException"
  | 2 => "java/lang/IllegalStateException"
  | 3 => "java/lang/IndexOutOfBoundsException"
  | 4 => "java/lang/UnsupportedOperationException"
  | 5 => "java/util/NoSuchElementException"
  | _ => "java/lang/ArithmeticException"
def zS (S : PS) (z : Nat) : PS := (S.1, S.2.1, S.2.2.1, S.2.2.2.1, z)
/-- the texts that are thrown: the class, the place in its pool, the text -/
def strs : List (String × Nat × String) := [(RX9, 84, "no such sign"), (RX9, 95, "there are 20"), (RX9, 105, "no such place"), (RX9, 115, "no such sign or writer"), (RX9, 117, "the text has 160"), (RX9, 134, "no such condition or rank"), (RX9, 144, "no pattern"), (RX9, 153, "there are 12"), (RX9, 169, "no word"), (RX9, 174, "it has 3"), (RX9, 183, "no suggestion"), (RX9, 188, "it has 2"), (RX9, 193, "not two words"), (RX9, 209, "not two unlike words"), (RX9, 214, "there are 4"), (RX9, 230, "no such rank"), (RX9, 243, "no such limit"), (RX9, 252, "no such thing"), (RX9, 278, "no such writer"), (RX9, 280, "the text would have more than 160"), (RX9, 285, "20 are"), (RX9, 307, "no such rule"), (RX9, 315, "there are none"), (RX9, 341, "no such desk"), (RX9, 343, "no such finding"), (RX9, 345, "no such suggestion")]
/-- the words of the exceptions that are not good ones: casts and declarations -/
def cdw (w : Cond) : Bool := match w with
  | .castable _ _ => true
  | .declares _ => true
  | _ => false
theorem cd_warm {w : Cond} (h : cdw w = true) {s U : State} (hW : s.WarmedH U.vm) (hZ : va_Nw w s) : va_Nw w U := by
  cases w <;> first | exact va_Nw.warmC hW hZ | exact va_Nw.warmD hW hZ | cases h
theorem cd_tab {w : Cond} (h : cdw w = true) : w.onTables = true := by
  cases w <;> first | rfl | cases h
def NX0 : List Cond := (vx_atS RX9 86 "java/lang/IllegalArgumentException" ["java/lang/RuntimeException", "java/lang/Exception"]).filter (fun w => !goodWord w)
def NX1 : List Cond := (vx_atS RX9 97 "java/lang/IllegalStateException" ["java/lang/RuntimeException", "java/lang/Exception"]).filter (fun w => !goodWord w)
def NX2 : List Cond := (vx_atS RX9 107 "java/lang/IndexOutOfBoundsException" ["java/lang/RuntimeException", "java/lang/Exception"]).filter (fun w => !goodWord w)
def NX3 : List Cond := (vx_atS RX9 146 "java/lang/UnsupportedOperationException" ["java/lang/RuntimeException", "java/lang/Exception"]).filter (fun w => !goodWord w)
def NX4 : List Cond := (vx_atSX RX9 277 "java/util/NoSuchElementException" 13 rx13 ["java/lang/RuntimeException", "java/lang/Exception"]).filter (fun w => !goodWord w)
def NX5 : List Cond := (vx_atS RX9 317 "java/lang/ArithmeticException" ["java/lang/RuntimeException", "java/lang/Exception"]).filter (fun w => !goodWord w)
def NXA : List Cond := NX0 ++ (NX1 ++ (NX2 ++ (NX3 ++ (NX4 ++ (NX5)))))
theorem mNX0 : ∀ w ∈ NX0, w ∈ NXA := fun _ h => (List.mem_append_left _ h)
theorem mNX1 : ∀ w ∈ NX1, w ∈ NXA := fun _ h => (List.mem_append_right _ (List.mem_append_left _ h))
theorem mNX2 : ∀ w ∈ NX2, w ∈ NXA := fun _ h => (List.mem_append_right _ (List.mem_append_right _ (List.mem_append_left _ h)))
theorem mNX3 : ∀ w ∈ NX3, w ∈ NXA := fun _ h => (List.mem_append_right _ (List.mem_append_right _ (List.mem_append_right _ (List.mem_append_left _ h))))
theorem mNX4 : ∀ w ∈ NX4, w ∈ NXA := fun _ h => (List.mem_append_right _ (List.mem_append_right _ (List.mem_append_right _ (List.mem_append_right _ (List.mem_append_left _ h)))))
theorem mNX5 : ∀ w ∈ NX5, w ∈ NXA := fun _ h => (List.mem_append_right _ (List.mem_append_right _ (List.mem_append_right _ (List.mem_append_right _ (List.mem_append_right _ h)))))
theorem NXA_cd : ∀ w ∈ NXA, cdw w = true := by decide +kernel
/-- what holds of the machine around the system: two statics of Throwable, the texts -/
def EV (D : va_G × Nat) (U : State) (H : Heap) : Prop := vx_Zq Bundle.tN "UNASSIGNED_STACK" Bundle.steD (fun q => D.2 ≤ q) U H ∧ vx_Zq Bundle.tN "SUPPRESSED_SENTINEL" Bundle.listD (fun q => D.2 ≤ q) U H ∧ (∀ x ∈ strs, ∃ sa : Nat, vk_R x.1 x.2.1 x.2.2 sa U) ∧ ∀ w ∈ NXA, va_Nw w U
def PcX (D : va_G × Nat) (S : PS) (as : List Value) : Array Value → State → Prop := va_Pc as (fun U => HP D S U U.heap ∧ EV D U U.heap ∧ NE U)
abbrev XO : Type := (PS × Option Value) ⊕ (PS × Nat)
def XQ (D : va_G × Nat) (S0 : PS) (o : XO) : Array Value → State → Outcome → State → Prop := fun _ st oc t => (∃ u : PS × Option Value, oc = .returned u.2 ∧ o = .inl u ∧ HP D u.1 t t.heap ∧ KD S0 u.1) ∧ va_F (pA S0) st t
def XC (D : va_G × Nat) (S0 : PS) (o : XO) : String → State → State → Prop := fun E st t => (∃ u : PS × Nat, o = .inr u ∧ E = exN u.2 ∧ KD S0 u.1 ∧ ∃ z, kZ u.1 ≤ z ∧ HP D (zS u.1 z) t t.heap) ∧ va_F (pA S0) st t
def XM (l : Launch) (D : va_G × Nat) (y : MethodName) (ws : List Cond) (rm : Room) (S : PS) (as : List Value) (o : XO) (mc ms : Nat) : Prop := vx_Met l y ws rm (PcX D S as) (XQ D S o) (XC D S o) mc ms (pA S)
def mI (r : (PS × Int32) ⊕ (PS × Nat)) : XO := match r with
  | .inl v => .inl (v.1, some (.int v.2))
  | .inr x => .inr x
def mR (r : (PS × Nat) ⊕ (PS × Nat)) : XO := match r with
  | .inl v => .inl (v.1, some (.ref v.2))
  | .inr x => .inr x
def mV (r : PS ⊕ (PS × Nat)) : XO := match r with
  | .inl v => .inl (v, none)
  | .inr x => .inr x
def mF (r : (PS × UInt32) ⊕ (PS × Nat)) : XO := match r with
  | .inl v => .inl (v.1, some (.float v.2))
  | .inr x => .inr x
def mD (r : (PS × UInt64) ⊕ (PS × Nat)) : XO := match r with
  | .inl v => .inl (v.1, some (.double v.2))
  | .inr x => .inr x
theorem EV.blind {D : va_G × Nat} {U : State} (h : EV D U U.heap) (g : JFrame) (mk : MethodId) (a : Array Value) : EV D (U.calling g mk a) (U.calling g mk a).heap :=
  ⟨vx_Zq.moved (u := U) (U := U.calling g mk a) (Vm.Alike.refl U.vm) h.1, vx_Zq.moved (u := U) (U := U.calling g mk a) (Vm.Alike.refl U.vm) h.2.1, fun x hx => by
    obtain ⟨sa, h1⟩ := h.2.2.1 x hx
    exact ⟨sa, vk_R.same (u := U) rfl h1⟩, fun w hw => va_Nw.same (u := U) (cd_tab (NXA_cd w hw)) rfl (h.2.2.2 w hw)⟩
theorem EV.warm {D : va_G × Nat} {s U : State} {H : Heap} (hW : s.WarmedH U.vm) (hq : ∀ a : Nat, a < s.heap.size → ¬ D.2 ≤ a → H[a]? = s.heap[a]?) (h : EV D s s.heap) : EV D U H :=
  ⟨(h.1.kept hq).moved hW.alike, (h.2.1.kept hq).moved hW.alike, fun x hx => by
    obtain ⟨sa, h1⟩ := h.2.2.1 x hx
    exact ⟨sa, vk_R.warm hW h1⟩, fun w hw => cd_warm (NXA_cd w hw) hW (h.2.2.2 w hw)⟩
theorem PcX.blind (D : va_G × Nat) (S : PS) (as : List Value) : FrameBlind (PcX D S as) := fun a U g mk q => ⟨q.1, HP.moved (u := U) (U := U.calling g mk a) (Vm.Alike.refl U.vm) q.2.1, q.2.2.1.blind g mk a, NE.same (u := U) rfl q.2.2.2⟩
theorem HI.kept {D : va_G × Nat} {S0 S : PS} {s : State} {H : Heap} {locs : List Loc} (h : HI D S0 S s H locs) (hB : ∀ q, pA S0 q → D.2 ≤ q) : ∀ a : Nat, a < s.heap.size → ¬ D.2 ≤ a → H[a]? = s.heap[a]? := fun a h1 h2 => h.2.1.2.1 a h1 (fun h3 => h2 (hB a h3))
theorem HI.preX {D : va_G × Nat} {S0 S : PS} {s : State} {H : Heap} {locs : List Loc} (h : HI D S0 S s H locs) (hE : EV D s s.heap) (hB : ∀ q, pA S0 q → D.2 ≤ q) (hN : NE s) (as : List Value) : ∀ U : State, U.heap = H → s.WarmedH U.vm → PcX D S as as.toArray U := fun U hU hW => ⟨rfl, by
  show HP D S U U.heap ∧ EV D U U.heap ∧ NE U
  rw [hU]
  exact ⟨h.1.moved hW.alike, hE.warm hW (h.kept hB), hN.warm hW⟩⟩
theorem HP.grow {D : va_G × Nat} {S : PS} {U : State} {H H1 : Heap} (h : HP D S U H) (hz : H.size ≤ H1.size) (hq : ∀ q : Nat, q < H.size → H1[q]? = H[q]?) : HP D (zS S H1.size) U H1 := by
  obtain ⟨z0, e0, z1, z2, z3, z4⟩ := h.2.2.2.2.2
  exact ⟨fun a ha => (h.1 a ha).cong (S := S) (S' := zS S H1.size) rfl rfl (fun _ => rfl) (fun _ => rfl) (hq a (h.1 a ha).lt), h.2.1, rfl, h.2.2.2.1, by
    show D.2 ≤ H1.size
    exact Nat.le_trans h.2.2.2.2.1 (by rw [← h.2.2.1]; exact hz), z0, e0, z1, z2, z3, z4.kept (fun q h8 _ => hq q h8)⟩
theorem xf0 : Bundle.fit "java/lang/IllegalArgumentException" = true := by decide +kernel
theorem xg0 : ∀ w ∈ Cond.classLink RX9 82 "java/lang/IllegalArgumentException" :: Cond.initialized "java/lang/IllegalArgumentException" :: vx_atS RX9 86 "java/lang/IllegalArgumentException" ["java/lang/RuntimeException", "java/lang/Exception"], vx_ot w = true := by decide +kernel
theorem xa0 {D : va_G × Nat} {args : Array Value} {s : State} {c0 : Cond} (hts : ∀ w ∈ c0 :: GW, w.before args s = true) (hE : EV D s s.heap) : ∀ w ∈ vx_atS RX9 86 "java/lang/IllegalArgumentException" ["java/lang/RuntimeException", "java/lang/Exception"], w.before args s = true := vx_hat (B := NX0) (fun w h => hts w (List.mem_cons_of_mem _ (mGT0 w h))) (fun _ h => h) (fun w h => va_Nw.use (cd_tab (NXA_cd w (mNX0 w h))) (hE.2.2.2 w (mNX0 w h)))
theorem xf1 : Bundle.fit "java/lang/IllegalStateException" = true := by decide +kernel
theorem xg1 : ∀ w ∈ Cond.classLink RX9 93 "java/lang/IllegalStateException" :: Cond.initialized "java/lang/IllegalStateException" :: vx_atS RX9 97 "java/lang/IllegalStateException" ["java/lang/RuntimeException", "java/lang/Exception"], vx_ot w = true := by decide +kernel
theorem xa1 {D : va_G × Nat} {args : Array Value} {s : State} {c0 : Cond} (hts : ∀ w ∈ c0 :: GW, w.before args s = true) (hE : EV D s s.heap) : ∀ w ∈ vx_atS RX9 97 "java/lang/IllegalStateException" ["java/lang/RuntimeException", "java/lang/Exception"], w.before args s = true := vx_hat (B := NX1) (fun w h => hts w (List.mem_cons_of_mem _ (mGT1 w h))) (fun _ h => h) (fun w h => va_Nw.use (cd_tab (NXA_cd w (mNX1 w h))) (hE.2.2.2 w (mNX1 w h)))
theorem xf2 : Bundle.fit "java/lang/IndexOutOfBoundsException" = true := by decide +kernel
theorem xg2 : ∀ w ∈ Cond.classLink RX9 103 "java/lang/IndexOutOfBoundsException" :: Cond.initialized "java/lang/IndexOutOfBoundsException" :: vx_atS RX9 107 "java/lang/IndexOutOfBoundsException" ["java/lang/RuntimeException", "java/lang/Exception"], vx_ot w = true := by decide +kernel
theorem xa2 {D : va_G × Nat} {args : Array Value} {s : State} {c0 : Cond} (hts : ∀ w ∈ c0 :: GW, w.before args s = true) (hE : EV D s s.heap) : ∀ w ∈ vx_atS RX9 107 "java/lang/IndexOutOfBoundsException" ["java/lang/RuntimeException", "java/lang/Exception"], w.before args s = true := vx_hat (B := NX2) (fun w h => hts w (List.mem_cons_of_mem _ (mGT2 w h))) (fun _ h => h) (fun w h => va_Nw.use (cd_tab (NXA_cd w (mNX2 w h))) (hE.2.2.2 w (mNX2 w h)))
theorem xf3 : Bundle.fit "java/lang/UnsupportedOperationException" = true := by decide +kernel
theorem xg3 : ∀ w ∈ Cond.classLink RX9 142 "java/lang/UnsupportedOperationException" :: Cond.initialized "java/lang/UnsupportedOperationException" :: vx_atS RX9 146 "java/lang/UnsupportedOperationException" ["java/lang/RuntimeException", "java/lang/Exception"], vx_ot w = true := by decide +kernel
theorem xa3 {D : va_G × Nat} {args : Array Value} {s : State} {c0 : Cond} (hts : ∀ w ∈ c0 :: GW, w.before args s = true) (hE : EV D s s.heap) : ∀ w ∈ vx_atS RX9 146 "java/lang/UnsupportedOperationException" ["java/lang/RuntimeException", "java/lang/Exception"], w.before args s = true := vx_hat (B := NX3) (fun w h => hts w (List.mem_cons_of_mem _ (mGT3 w h))) (fun _ h => h) (fun w h => va_Nw.use (cd_tab (NXA_cd w (mNX3 w h))) (hE.2.2.2 w (mNX3 w h)))
theorem xf4 : Bundle.fit "java/util/NoSuchElementException" = true := by decide +kernel
theorem xg4 : ∀ w ∈ Cond.classLink RX9 275 "java/util/NoSuchElementException" :: Cond.initialized "java/util/NoSuchElementException" :: vx_atSX RX9 277 "java/util/NoSuchElementException" 13 rx13 ["java/lang/RuntimeException", "java/lang/Exception"], vx_ot w = true := by decide +kernel
theorem xa4 {D : va_G × Nat} {args : Array Value} {s : State} {c0 : Cond} (hts : ∀ w ∈ c0 :: GW, w.before args s = true) (hE : EV D s s.heap) : ∀ w ∈ vx_atSX RX9 277 "java/util/NoSuchElementException" 13 rx13 ["java/lang/RuntimeException", "java/lang/Exception"], w.before args s = true := vx_hat (B := NX4) (fun w h => hts w (List.mem_cons_of_mem _ (mGT4 w h))) (fun _ h => h) (fun w h => va_Nw.use (cd_tab (NXA_cd w (mNX4 w h))) (hE.2.2.2 w (mNX4 w h)))
theorem xf5 : Bundle.fit "java/lang/ArithmeticException" = true := by decide +kernel
theorem xg5 : ∀ w ∈ Cond.classLink RX9 313 "java/lang/ArithmeticException" :: Cond.initialized "java/lang/ArithmeticException" :: vx_atS RX9 317 "java/lang/ArithmeticException" ["java/lang/RuntimeException", "java/lang/Exception"], vx_ot w = true := by decide +kernel
theorem xa5 {D : va_G × Nat} {args : Array Value} {s : State} {c0 : Cond} (hts : ∀ w ∈ c0 :: GW, w.before args s = true) (hE : EV D s s.heap) : ∀ w ∈ vx_atS RX9 317 "java/lang/ArithmeticException" ["java/lang/RuntimeException", "java/lang/Exception"], w.before args s = true := vx_hat (B := NX5) (fun w h => hts w (List.mem_cons_of_mem _ (mGT5 w h))) (fun _ h => h) (fun w h => va_Nw.use (cd_tab (NXA_cd w (mNX5 w h))) (hE.2.2.2 w (mNX5 w h)))
theorem xn : ∀ n ∈ ["java/lang/RuntimeException", "java/lang/Exception"], Bundle.fit n = true := by decide +kernel
section XROWS
variable {p : Program} {l : Launch} {e : Env} {R : Room} {s : State} {m : MethodId} {args : Array Value} {below : List Frame} {meth : Method} {c : Code} {H : Heap} {locs : List Loc} {cells slots : Nat} {Q : State → Prop}
variable {cc bytes : ByteArray} {pc nL maxL mc ms n index : Nat} {ls : Array Slot} {rest st0 st1 As : List Value} {D : va_G × Nat} {S0 S S' : PS} {b : Nat} {Ts ws : List Cond} {own C : String} {y : MethodName} {rm : Room} {ret : Option FieldType} {v : Option Value} {o : XO} {x : PS × Nat}
theorem x_keep {A1 : Nat → Prop} {st₀ t T' : State} {L : List Loc} (h0 : st₀.heap = H) (e1 : T'.heap = t.heap) (hH : HI D S0 S s H locs) (hL : ∀ q ∈ L, pA S q.base) (hF : va_F (pA S) st₀ t) : va_S (pA S0) s.heap T'.heap (locs ++ L) :=
  (vx_keep h0 e1 hH.2.1 (fun q _ h => pA_mono hH.2.2.1 q h) (fun q h => pA_mono hH.2.2.1 q h) hL hF).2.2
theorem x_ok {g : JFrame} {a : Array Value} (hr : vx_Run p l e R s m args below meth c H locs cells slots mc ms (F0 m pc ls st0) rest (XQ D S (.inl (S', v)) a) (XC D S (.inl (S', v))) (pA S)) (hH : HI D S0 S s H locs) (hst : v.toList ++ rest = st1)
    (kk : ∀ (H1 : Heap) (locs1 : List Loc), HI D S0 S' s H1 locs1 → W p l e R s m args below meth c H1 locs1 (cells + mc) (slots + ms) Q (F0 m (pc + 3) ls st1)) : W p l e R s m args below meth c H locs cells slots Q (F0 m pc ls st0) := by
  subst hst
  intro T hT X
  rcases hr T hT X with ⟨v1, st₀, t, T', L, h0, X', hL, e1, e2, ⟨⟨u, hv, hp, hb1, hk1⟩, hF⟩, st⟩ | ⟨q, st₀, t, T', L, E, ce, h0, X', hL, e1, e2, ⟨⟨u, hp, -⟩, -⟩, -⟩
  · cases hp
    cases hv
    obtain ⟨t2, a1, b1⟩ := kk T'.heap (locs ++ L) ⟨by rw [e1]; exact hb1.moved (by rw [← e2]; exact X'.warmed.alike.symm), x_keep (A1 := pA S) h0 e1 hH hL hF, hH.2.2.1.tr hk1, hH.2.2.2⟩ T' rfl X'
    exact ⟨t2, st t2 a1, b1⟩
  · cases hp
theorem x_ex {a : Array Value} (hr : vx_Run p l e R s m args below meth c H locs cells slots mc ms (F0 m pc ls st0) rest (XQ D S (.inr x) a) (XC D S (.inr x)) (pA S)) (hH : HI D S0 S s H locs)
    (kx : ∀ (z : Nat) (ce : Cell) (q9 : Addr) (H1 : Heap) (locs1 : List Loc), HI D S0 (zS x.1 z) s H1 locs1 → KD S0 x.1 → kZ x.1 ≤ z → H1[q9]? = some ce → ce.vm = .none → s.vm.findClass (exN x.2) = some ce.cls → vx_W p l e R s m args below meth c H1 locs1 (cells + mc) (slots + ms) Q (F0 m pc ls rest) q9) : W p l e R s m args below meth c H locs cells slots Q (F0 m pc ls st0) := by
  intro T hT X
  rcases hr T hT X with ⟨v1, st₀, t, T', L, h0, X', hL, e1, e2, ⟨⟨u, hv, hp, hb1, hk1⟩, hF⟩, st⟩ | ⟨q, st₀, t, T', L, E, ce, h0, X', hL, e1, e2, ⟨⟨u, hp, hE, hk, z, hz, hb⟩, hF⟩, hce, hcv, hcl, st⟩
  · cases hp
  · cases hp
    subst hE
    obtain ⟨t2, a1, b1⟩ := kx z ce q T'.heap (locs ++ L) ⟨by rw [e1]; exact hb.moved (by rw [← e2]; exact X'.warmed.alike.symm), x_keep (A1 := pA S) h0 e1 hH hL hF, ⟨fun q hq => (hH.2.2.1.tr hk).1 q hq, Nat.le_trans (hH.2.2.1.tr hk).2 hz⟩, hH.2.2.2⟩ (hH.2.2.1.tr hk) hz (by rw [e1]; exact hce) hcv hcl T' rfl X'
    exact ⟨t2, st.trans a1, b1⟩
theorem r_xVok (S9 : CallFix p m c cc nL s args Ts own) (hM : XM l D y ws rm S (.ref b :: As) (.inl (S', v)) mc ms) (cw : CallW R s args own C index y bytes maxL ret ws rm mc ms n) (hH : HI D S0 S s H locs) (hE : EV D s s.heap) (hB : ∀ q, pA S0 q → D.2 ≤ q) (hNE : NE s) (ci : Nat) {q : vw_C} (ek : kK S b = ci + 1) (hci : ci + 1 ≤ 100) (hc : vwCl[ci]? = some q) (hC : q.1 = C) (hn : As.length = n) (hsize : ls.size = nL) (hstack : st0 = As.reverse ++ .ref b :: rest) (hW : (rest.map fun v => v.category).sum ≤ 8) (hdg : decode cc pc = .ok (.invokevirtual index, 3)) (hf : cells + mc ≤ R.cells ∧ slots + ms ≤ R.slots) (hst : v.toList ++ rest = st1)
    (kk : ∀ (H1 : Heap) (locs1 : List Loc), HI D S0 S' s H1 locs1 → W p l e R s m args below meth c H1 locs1 (cells + mc) (slots + ms) Q (F0 m (pc + 3) ls st1)) : W p l e R s m args below meth c H locs cells slots Q (F0 m pc ls st0) := by
  subst hC
  exact x_ok (g := F0 m pc ls st0) (vx_runV S9 hM cw ⟨PcX.blind D S _, hH.recv ci ek hci hc, hH.preX hE hB hNE _⟩ rfl hn hsize hstack (lv_room hW) hdg hf) hH hst kk
theorem r_xVex (S9 : CallFix p m c cc nL s args Ts own) (hM : XM l D y ws rm S (.ref b :: As) (.inr x) mc ms) (cw : CallW R s args own C index y bytes maxL ret ws rm mc ms n) (hH : HI D S0 S s H locs) (hE : EV D s s.heap) (hB : ∀ q, pA S0 q → D.2 ≤ q) (hNE : NE s) (ci : Nat) {q : vw_C} (ek : kK S b = ci + 1) (hci : ci + 1 ≤ 100) (hc : vwCl[ci]? = some q) (hC : q.1 = C) (hn : As.length = n) (hsize : ls.size = nL) (hstack : st0 = As.reverse ++ .ref b :: rest) (hW : (rest.map fun v => v.category).sum ≤ 8) (hdg : decode cc pc = .ok (.invokevirtual index, 3)) (hf : cells + mc ≤ R.cells ∧ slots + ms ≤ R.slots)
    (kx : ∀ (z : Nat) (ce : Cell) (q9 : Addr) (H1 : Heap) (locs1 : List Loc), HI D S0 (zS x.1 z) s H1 locs1 → KD S0 x.1 → kZ x.1 ≤ z → H1[q9]? = some ce → ce.vm = .none → s.vm.findClass (exN x.2) = some ce.cls → vx_W p l e R s m args below meth c H1 locs1 (cells + mc) (slots + ms) Q (F0 m pc ls rest) q9) : W p l e R s m args below meth c H locs cells slots Q (F0 m pc ls st0) := by
  subst hC
  exact x_ex (vx_runV S9 hM cw ⟨PcX.blind D S _, hH.recv ci ek hci hc, hH.preX hE hB hNE _⟩ rfl hn hsize hstack (lv_room hW) hdg hf) hH kx
/-- it goes on to the caller -/
theorem x_out {mc' ms' : Nat} (hxt : ∀ x ∈ c.exceptionTable.toList, False) (hlocks : meth.locks = false) {z : Nat} {ce : Cell} {q9 : Addr} (hH : HI D S0 (zS x.1 z) s H locs) (hk : KD S0 x.1) (hz : kZ x.1 ≤ z) (h1 : H[q9]? = some ce) (h2 : ce.vm = .none) (h3 : s.vm.findClass (exN x.2) = some ce.cls) (hc : cells ≤ mc' ∧ slots ≤ ms') : vx_W p l e R s m args below meth c H locs cells slots (vx_MQ below (XQ D S0 (.inr x)) (XC D S0 (.inr x)) args s mc' ms' (pA S0)) (F0 m pc ls rest) q9 :=
  vx_out (fun x hx => (hxt x hx).elim) hlocks h1 h2 h3 (fun t ht hvm => ⟨⟨x, rfl, rfl, hk, z, hz, by rw [ht]; exact hH.1.moved hvm⟩, hH.2.1.F ht⟩) hH.2.1.2.2 hc.1 hc.2
theorem x_q (hH : HI D S0 S s H locs) : ∀ t : State, t.heap = H → s.WarmedH t.vm → XQ D S0 (.inl (S, v)) args s (.returned v) t := fun t ht hW => ⟨⟨(S, v), rfl, rfl, by rw [ht]; exact hH.1.moved hW.alike, hH.2.2.1⟩, hH.2.1.F ht⟩
theorem x_i {r : Int32} {XX : String → State → State → Prop} (hexec : p.tables.exec = Jvm.exec) (hb : c.code = cc) (hr : meth.sig.returnType = some .int) (hlocks : meth.locks = false) (hH : HI D S0 S s H locs) (hdg : decode cc pc = .ok (.ireturn, 1)) : W p l e R s m args below meth c H locs cells slots (vx_MQ below (XQ D S0 (.inl (S, some (.int r)))) XX args s cells slots (pA S0)) (F0 m pc ls [.int r]) :=
  vx_ret (W.iret hexec hb hr (x_q hH) hH.2.1.2.2 hdg)
theorem x_z {r : Int32} {ty : FieldType} {XX : String → State → State → Prop} (hexec : p.tables.exec = Jvm.exec) (hb : c.code = cc) (hr : meth.sig.returnType = some ty) (hlocks : meth.locks = false) (hn : narrow ty (.int r) = .int r) (hH : HI D S0 S s H locs) (hdg : decode cc pc = .ok (.ireturn, 1)) : W p l e R s m args below meth c H locs cells slots (vx_MQ below (XQ D S0 (.inl (S, some (.int r)))) XX args s cells slots (pA S0)) (F0 m pc ls [.int r]) :=
  vx_ret (W.zret hexec hb hr hn (x_q hH) hH.2.1.2.2 hdg)
theorem x_v {XX : String → State → State → Prop} (hexec : p.tables.exec = Jvm.exec) (hb : c.code = cc) (hr : meth.sig.returnType = none) (hlocks : meth.locks = false) (hH : HI D S0 S s H locs) (hdg : decode cc pc = .ok (.return_, 1)) : W p l e R s m args below meth c H locs cells slots (vx_MQ below (XQ D S0 (.inl (S, none))) XX args s cells slots (pA S0)) (F0 m pc ls []) :=
  vx_ret (W.vret hexec hb hr (x_q hH) hH.2.1.2.2 hdg)
theorem x_r {r : Nat} {nm : String} {XX : String → State → State → Prop} (hexec : p.tables.exec = Jvm.exec) (hb : c.code = cc) (hr : meth.sig.returnType = some (.object nm)) (hlocks : meth.locks = false) (hH : HI D S0 S s H locs) (hdg : decode cc pc = .ok (.areturn, 1)) : W p l e R s m args below meth c H locs cells slots (vx_MQ below (XQ D S0 (.inl (S, some (.ref r)))) XX args s cells slots (pA S0)) (F0 m pc ls [.ref r]) :=
  vx_ret (W.aret hexec hb hr (Or.inl ⟨_, rfl⟩) (Or.inr ⟨_, rfl⟩) (x_q hH) hH.2.1.2.2 hdg)
/-- new X(text), thrown -/
theorem r_throw {text cls : String} {names : List String} {ik is ic mc' ms' : Nat} {XX : Array Value → State → Outcome → State → Prop} (k : Nat) (hexec : p.tables.exec = Jvm.exec) (hb : c.code = cc) (hl : l.stackTraces = false) (hown : s.vm.findClass own = some m.cls) (hcls : Bundle.fit cls = true) (hnames : ∀ n ∈ names, Bundle.fit n = true)
    (hk : (Cond.classLink own ik cls).before args s = true) (hini : (Cond.initialized cls).before args s = true) (hstr : (own, is, text) ∈ strs) (hat : ∀ w ∈ vx_atS own ic cls names, w.before args s = true)
    (hgood : ∀ w ∈ Cond.classLink own ik cls :: Cond.initialized cls :: vx_atS own ic cls names, vx_ot w = true)
    (hE : EV D s s.heap) (hB : ∀ q, pA S0 q → D.2 ≤ q) (hH : HI D S0 S s H locs) (hsize : ls.size = c.maxLocals) (hkc : exN k = cls)
    (d0 : decode cc pc = .ok (.new ik, 3)) (d3 : decode cc (pc + 3) = .ok (.dup, 1)) (d4 : decode cc (pc + 4) = .ok (.ldc is, 2)) (d6 : decode cc (pc + 6) = .ok (.invokespecial ic, 3)) (d9 : decode cc (pc + 9) = .ok (.athrow, 1))
    (hxt : ∀ x ∈ c.exceptionTable.toList, False) (hRframes : names.length + 3 < R.frames) (hRlocals : (rest.map fun v => v.category).sum + (13 * (names.length + 1) + 43) ≤ R.locals) (hRcells : cells + 1 ≤ R.cells) (hRslots : slots + 6 ≤ R.slots) (hlocks : meth.locks = false) (hc : cells + 1 ≤ mc' ∧ slots + 6 ≤ ms') :
    W p l e R s m args below meth c H locs cells slots (vx_MQ below XX (XC D S0 (.inr (S, k))) args s mc' ms' (pA S0)) (F0 m pc ls rest) := by
  obtain ⟨sa, hsa⟩ := hE.2.2.1 _ hstr
  refine vx_throwS (A := pA S0) hexec hb hl hown hcls hnames hk hini hsa hat hgood (hE.1.narrow hB) (hE.2.1.narrow hB) hH.2.1 hsize d0 d3 d4 d6 d9 (fun x hx => (hxt x hx).elim) hRframes hRlocals hRcells hRslots hlocks (fun t hvm hz hq => ?_) hH.2.1.2.2 hc.1 hc.2
  subst hkc
  refine ⟨⟨(S, k), rfl, rfl, hH.2.2.1, t.heap.size, ?_, (hH.1.grow hz hq).moved hvm⟩, Nat.le_trans hH.2.1.1 hz, fun q h1 h2 => ?_⟩
  · show kZ S ≤ t.heap.size
    rw [← hH.1.2.2.1]
    exact hz
  · rw [hq q (Nat.lt_of_lt_of_le h1 hH.2.1.1)]
    exact hH.2.1.2.1 q h1 h2
theorem r_throwX {text cls : String} {names : List String} {ik is ic mc' ms' : Nat} {ix : Nat} {rx : ByteArray} (x0 : decode rx 0 = .ok (.aload_n 0, 1)) (x1 : decode rx 1 = .ok (.aload_n 1, 1)) (x2 : decode rx 2 = .ok (.invokespecial ix, 3)) (x5 : decode rx 5 = .ok (.return_, 1)) {XX : Array Value → State → Outcome → State → Prop} (k : Nat) (hexec : p.tables.exec = Jvm.exec) (hb : c.code = cc) (hl : l.stackTraces = false) (hown : s.vm.findClass own = some m.cls) (hcls : Bundle.fit cls = true) (hnames : ∀ n ∈ names, Bundle.fit n = true)
    (hk : (Cond.classLink own ik cls).before args s = true) (hini : (Cond.initialized cls).before args s = true) (hstr : (own, is, text) ∈ strs) (hat : ∀ w ∈ vx_atSX own ic cls ix rx names, w.before args s = true)
    (hgood : ∀ w ∈ Cond.classLink own ik cls :: Cond.initialized cls :: vx_atSX own ic cls ix rx names, vx_ot w = true)
    (hE : EV D s s.heap) (hB : ∀ q, pA S0 q → D.2 ≤ q) (hH : HI D S0 S s H locs) (hsize : ls.size = c.maxLocals) (hkc : exN k = cls)
    (d0 : decode cc pc = .ok (.new ik, 3)) (d3 : decode cc (pc + 3) = .ok (.dup, 1)) (d4 : decode cc (pc + 4) = .ok (.ldc is, 2)) (d6 : decode cc (pc + 6) = .ok (.invokespecial ic, 3)) (d9 : decode cc (pc + 9) = .ok (.athrow, 1))
    (hxt : ∀ x ∈ c.exceptionTable.toList, False) (hRframes : names.length + 3 < R.frames) (hRlocals : (rest.map fun v => v.category).sum + (13 * (names.length + 1) + 43) ≤ R.locals) (hRcells : cells + 1 ≤ R.cells) (hRslots : slots + 6 ≤ R.slots) (hlocks : meth.locks = false) (hc : cells + 1 ≤ mc' ∧ slots + 6 ≤ ms') :
    W p l e R s m args below meth c H locs cells slots (vx_MQ below XX (XC D S0 (.inr (S, k))) args s mc' ms' (pA S0)) (F0 m pc ls rest) := by
  obtain ⟨sa, hsa⟩ := hE.2.2.1 _ hstr
  refine vx_throwSX (x0 := x0) (x1 := x1) (x2 := x2) (x5 := x5) (A := pA S0) hexec hb hl hown hcls hnames hk hini hsa hat hgood (hE.1.narrow hB) (hE.2.1.narrow hB) hH.2.1 hsize d0 d3 d4 d6 d9 (fun x hx => (hxt x hx).elim) hRframes hRlocals hRcells hRslots hlocks (fun t hvm hz hq => ?_) hH.2.1.2.2 hc.1 hc.2
  subst hkc
  refine ⟨⟨(S, k), rfl, rfl, hH.2.2.1, t.heap.size, ?_, (hH.1.grow hz hq).moved hvm⟩, Nat.le_trans hH.2.1.1 hz, fun q h1 h2 => ?_⟩
  · show kZ S ≤ t.heap.size
    rw [← hH.1.2.2.1]
    exact hz
  · rw [hq q (Nat.lt_of_lt_of_le h1 hH.2.1.1)]
    exact hH.2.1.2.1 q h1 h2
theorem r_throwW {text cls : String} {names : List String} {ik is ic mc' ms' : Nat} {XX : Array Value → State → Outcome → State → Prop} (k : Nat) (hexec : p.tables.exec = Jvm.exec) (hb : c.code = cc) (hl : l.stackTraces = false) (hown : s.vm.findClass own = some m.cls) (hcls : Bundle.fit cls = true) (hnames : ∀ n ∈ names, Bundle.fit n = true)
    (hk : (Cond.classLink own ik cls).before args s = true) (hini : (Cond.initialized cls).before args s = true) (hstr : (own, is, text) ∈ strs) (hat : ∀ w ∈ vx_atS own ic cls names, w.before args s = true)
    (hgood : ∀ w ∈ Cond.classLink own ik cls :: Cond.initialized cls :: vx_atS own ic cls names, vx_ot w = true)
    (hE : EV D s s.heap) (hB : ∀ q, pA S0 q → D.2 ≤ q) (hH : HI D S0 S s H locs) (hsize : ls.size = c.maxLocals) (hkc : exN k = cls)
    (d0 : decode cc pc = .ok (.new ik, 3)) (d3 : decode cc (pc + 3) = .ok (.dup, 1)) (d4 : decode cc (pc + 4) = .ok (.ldc_w is, 3)) (d6 : decode cc (pc + 7) = .ok (.invokespecial ic, 3)) (d9 : decode cc (pc + 10) = .ok (.athrow, 1))
    (hxt : ∀ x ∈ c.exceptionTable.toList, False) (hRframes : names.length + 3 < R.frames) (hRlocals : (rest.map fun v => v.category).sum + (13 * (names.length + 1) + 43) ≤ R.locals) (hRcells : cells + 1 ≤ R.cells) (hRslots : slots + 6 ≤ R.slots) (hlocks : meth.locks = false) (hc : cells + 1 ≤ mc' ∧ slots + 6 ≤ ms') :
    W p l e R s m args below meth c H locs cells slots (vx_MQ below XX (XC D S0 (.inr (S, k))) args s mc' ms' (pA S0)) (F0 m pc ls rest) := by
  obtain ⟨sa, hsa⟩ := hE.2.2.1 _ hstr
  refine vx_throwSW (A := pA S0) hexec hb hl hown hcls hnames hk hini hsa hat hgood (hE.1.narrow hB) (hE.2.1.narrow hB) hH.2.1 hsize d0 d3 d4 d6 d9 (fun x hx => (hxt x hx).elim) hRframes hRlocals hRcells hRslots hlocks (fun t hvm hz hq => ?_) hH.2.1.2.2 hc.1 hc.2
  subst hkc
  refine ⟨⟨(S, k), rfl, rfl, hH.2.2.1, t.heap.size, ?_, (hH.1.grow hz hq).moved hvm⟩, Nat.le_trans hH.2.1.1 hz, fun q h1 h2 => ?_⟩
  · show kZ S ≤ t.heap.size
    rw [← hH.1.2.2.1]
    exact hz
  · rw [hq q (Nat.lt_of_lt_of_le h1 hH.2.1.1)]
    exact hH.2.1.2.1 q h1 h2
theorem r_throwWX {text cls : String} {names : List String} {ik is ic mc' ms' : Nat} {ix : Nat} {rx : ByteArray} (x0 : decode rx 0 = .ok (.aload_n 0, 1)) (x1 : decode rx 1 = .ok (.aload_n 1, 1)) (x2 : decode rx 2 = .ok (.invokespecial ix, 3)) (x5 : decode rx 5 = .ok (.return_, 1)) {XX : Array Value → State → Outcome → State → Prop} (k : Nat) (hexec : p.tables.exec = Jvm.exec) (hb : c.code = cc) (hl : l.stackTraces = false) (hown : s.vm.findClass own = some m.cls) (hcls : Bundle.fit cls = true) (hnames : ∀ n ∈ names, Bundle.fit n = true)
    (hk : (Cond.classLink own ik cls).before args s = true) (hini : (Cond.initialized cls).before args s = true) (hstr : (own, is, text) ∈ strs) (hat : ∀ w ∈ vx_atSX own ic cls ix rx names, w.before args s = true)
    (hgood : ∀ w ∈ Cond.classLink own ik cls :: Cond.initialized cls :: vx_atSX own ic cls ix rx names, vx_ot w = true)
    (hE : EV D s s.heap) (hB : ∀ q, pA S0 q → D.2 ≤ q) (hH : HI D S0 S s H locs) (hsize : ls.size = c.maxLocals) (hkc : exN k = cls)
    (d0 : decode cc pc = .ok (.new ik, 3)) (d3 : decode cc (pc + 3) = .ok (.dup, 1)) (d4 : decode cc (pc + 4) = .ok (.ldc_w is, 3)) (d6 : decode cc (pc + 7) = .ok (.invokespecial ic, 3)) (d9 : decode cc (pc + 10) = .ok (.athrow, 1))
    (hxt : ∀ x ∈ c.exceptionTable.toList, False) (hRframes : names.length + 3 < R.frames) (hRlocals : (rest.map fun v => v.category).sum + (13 * (names.length + 1) + 43) ≤ R.locals) (hRcells : cells + 1 ≤ R.cells) (hRslots : slots + 6 ≤ R.slots) (hlocks : meth.locks = false) (hc : cells + 1 ≤ mc' ∧ slots + 6 ≤ ms') :
    W p l e R s m args below meth c H locs cells slots (vx_MQ below XX (XC D S0 (.inr (S, k))) args s mc' ms' (pA S0)) (F0 m pc ls rest) := by
  obtain ⟨sa, hsa⟩ := hE.2.2.1 _ hstr
  refine vx_throwSWX (x0 := x0) (x1 := x1) (x2 := x2) (x5 := x5) (A := pA S0) hexec hb hl hown hcls hnames hk hini hsa hat hgood (hE.1.narrow hB) (hE.2.1.narrow hB) hH.2.1 hsize d0 d3 d4 d6 d9 (fun x hx => (hxt x hx).elim) hRframes hRlocals hRcells hRslots hlocks (fun t hvm hz hq => ?_) hH.2.1.2.2 hc.1 hc.2
  subst hkc
  refine ⟨⟨(S, k), rfl, rfl, hH.2.2.1, t.heap.size, ?_, (hH.1.grow hz hq).moved hvm⟩, Nat.le_trans hH.2.1.1 hz, fun q h1 h2 => ?_⟩
  · show kZ S ≤ t.heap.size
    rw [← hH.1.2.2.1]
    exact hz
  · rw [hq q (Nat.lt_of_lt_of_le h1 hH.2.1.1)]
    exact hH.2.1.2.1 q h1 h2
end XROWS
abbrev GX (p : Program) (l : Launch) (e : Env) (R : Room) (s : State) (m : MethodId) (args : Array Value) (below : List Frame) (meth : Method) (c : Code) (D : va_G × Nat) (S0 : PS) (o : XO) (H : Heap) (locs : List Loc) (cells slots mc ms : Nat) (g : JFrame) : Prop := W p l e R s m args below meth c H locs cells slots (vx_MQ below (XQ D S0 o) (XC D S0 o) args s mc ms (pA S0)) g
/-! calls of what may throw, in functions -/
def bx2 {α β γ ε : Type} (o : Option ((α × β) ⊕ ε)) (f : α → β → Option (γ ⊕ ε)) : Option (γ ⊕ ε) := match o with
  | none => none
  | some (.inl v) => f v.1 v.2
  | some (.inr x) => some (.inr x)
def bx1 {α γ ε : Type} (o : Option (α ⊕ ε)) (f : α → Option (γ ⊕ ε)) : Option (γ ⊕ ε) := match o with
  | none => none
  | some (.inl v) => f v
  | some (.inr x) => some (.inr x)
def bn2 {α β γ ε : Type} (o : Option ((α × β) ⊕ ε)) (f : α → β → Option γ) : Option γ := match o with
  | some (.inl v) => f v.1 v.2
  | _ => none
theorem obx2 {α β γ ε : Type} {o : Option ((α × β) ⊕ ε)} {f : α → β → Option (γ ⊕ ε)} {r : γ ⊕ ε} (h : bx2 o f = some r) : (∃ x, o = some (.inr x) ∧ r = .inr x) ∨ ∃ a b, o = some (.inl (a, b)) ∧ f a b = some r := by
  match o, h with
  | none, h => cases h
  | some (.inl (a, b)), h => exact Or.inr ⟨a, b, rfl, h⟩
  | some (.inr x), h => exact Or.inl ⟨x, rfl, (Option.some.inj h).symm⟩
theorem obx1 {α γ ε : Type} {o : Option (α ⊕ ε)} {f : α → Option (γ ⊕ ε)} {r : γ ⊕ ε} (h : bx1 o f = some r) : (∃ x, o = some (.inr x) ∧ r = .inr x) ∨ ∃ a, o = some (.inl a) ∧ f a = some r := by
  match o, h with
  | none, h => cases h
  | some (.inl a), h => exact Or.inr ⟨a, rfl, h⟩
  | some (.inr x), h => exact Or.inl ⟨x, rfl, (Option.some.inj h).symm⟩
theorem obn2 {α β γ ε : Type} {o : Option ((α × β) ⊕ ε)} {f : α → β → Option γ} {r : γ} (h : bn2 o f = some r) : ∃ a b, o = some (.inl (a, b)) ∧ f a b = some r := by
  match o, h with
  | none, h => cases h
  | some (.inl (a, b)), h => exact ⟨a, b, rfl, h⟩
  | some (.inr x), h => cases h
def oq {α β : Type} (o : Option α) (x : Option β) (f : α → Option β) : Option β := match o with
  | none => x
  | some a => f a
theorem oqn {α β : Type} {x : Option β} {f : α → Option β} {r : β} (h : oq none x f = some r) : x = some r := h
theorem oqs {α β : Type} {a : α} {x : Option β} {f : α → Option β} {r : β} (h : oq (some a) x f = some r) : f a = some r := h
def MIE (l : Launch) (D : va_G × Nat) (y : MethodName) (ws : List Cond) (rm : Room) (S : PS) (as : List Value) (S' : PS) (r : Int32) (mc ms : Nat) : Prop := Met l y ws rm (PcX D S as) (va_Qi (fun (x : Int32) (_ : Unit) => x = r) (fun _ t => HP D S' t t.heap ∧ KD S S') (pA S)) mc ms (pA S)
def MLE (l : Launch) (D : va_G × Nat) (y : MethodName) (ws : List Cond) (rm : Room) (S : PS) (as : List Value) (S' : PS) (r : Int64) (mc ms : Nat) : Prop := Met l y ws rm (PcX D S as) (va_Ql (fun (x : Int64) (_ : Unit) => x = r) (fun _ t => HP D S' t t.heap ∧ KD S S') (pA S)) mc ms (pA S)
