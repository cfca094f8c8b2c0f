/-! the hits of all rules and pairs -/
def pD (t : List Int32) (ts : List Tk) (p : List Int32 × List Int32) : Nat → Option (List Int32)
  | 0 => none
  | k + 1 => if tQ ts k = true then pD t ts p k else match pD t ts p k with
    | some w => some w
    | none => if iT t ts p.1 k = true then some p.2 else if iT t ts p.2 k = true then some p.1 else none
def pF (t : List Int32) (ts : List Tk) (p : List Int32 × List Int32) (j : Nat) : Bool := !tQ ts j && match pD t ts p j with
  | some w => iT t ts w j
  | none => false
def hR (t : List Int32) (ts : List Tk) (ru : List Rv) (j r : Nat) : Bool := match ru[r]? with
  | some v => fR t ts v j
  | none => false
def hP (t : List Int32) (ts : List Tk) (pa : List (List Int32 × List Int32)) (j r : Nat) : Bool := match pa[r]? with
  | some v => pF t ts v j
  | none => false
def hit (t : List Int32) (ts : List Tk) (ru : List Rv) (pa : List (List Int32 × List Int32)) (j r : Nat) : Bool := hR t ts ru j r || (decide (12 ≤ r) && hP t ts pa j (r - 12))
/-- a row of bits -/
def hB (H : List Int32) (n : Nat) (P : Nat → Nat → Bool) : Prop := H.length = n ∧ ∀ j, j < n → ∀ r, r < 32 → tb (la H j) r = P j r
theorem uR_uR (R : Nat → List Int32) (k : Nat) (l l' : List Int32) : uR (uR R k l) k l' = uR R k l' := by
  funext i; unfold uR; split <;> rfl
theorem hB.set {H : List Int32} {n j r : Nat} {P P' : Nat → Nat → Bool} (h : hB H n P) (hj : j < n) (hr : r < 32) (hP : ∀ j' r', j' < n → r' < 32 → P' j' r' = (P j' r' || (decide (j' = j) && decide (r' = r)))) : hB (H.set j (la H j ||| mk r)) n P' := by
  refine ⟨by rw [List.length_set]; exact h.1, fun j' hj' r' hr' => ?_⟩
  rw [la_set, hP j' r' hj' hr']
  by_cases e : j' = j
  · subst e
    rw [if_pos ⟨rfl, by rw [h.1]; exact hj⟩, tb_or hr', tb_mk hr hr', h.2 _ hj r' hr']
    simp
  · rw [if_neg (fun q => e q.1), h.2 j' hj' r' hr']
    simp [e]
section
variable {S : PS} {I : Nat → Nat → Int32} {x : Nat} {R : Nat → List Int32} {F : Nat → Nat → Int32} {ts : List Tk} {t : List Int32}
theorem ct_addHit (hS : cS S x) (hM : cM I x R F) {j r : Nat} (hj : j < 2 ^ 31) : cO S I x (uR R 28 ((R 28).set j (la (R 28) j ||| mk r))) F (f_X0_addHit (sI S I) (x + 25) (nI j) (nI r)) := by
  unfold f_X0_addHit
  simp only [kK_sI, kQ_sI, kN_sI, kZ_sI, kI_sI, wI_sI, if_true, Option.bind_some, lt, cK_25 hS, cQ_25_0 hS, cQ_25_1 hS, cQ_25_2 hS, cR9_28 hS, cm_getn hS hM (k := 28) (by decide) hj]
  obtain ⟨J, e, m, u⟩ := cm_set hS hM (k := 28) (by decide) hj (la (R 28) j ||| mk r)
  refine ⟨J, ?_, m, u⟩
  unfold mk at e
  rw [e]
  rfl
theorem tM.kept {H : List Int32} (hT : tM R ts) : tM (uR R 28 H) ts := hT
theorem ct_lookForPair (hS : cS S x) (hM : cM I x R F) (hT : tM R ts) (hw : wT ts) (h4 : R 4 = t) {r : Nat} (hr : r < 32) {a : Nat} {p : List Int32 × List Int32} (hd : dP S I x a p) {H : List Int32} {P : Nat → Nat → Bool} (hH : R 28 = H) (hb : hB H ts.length P) : ∃ H', cO S I x (uR R 28 H') F (f_X0_lookForPair (sI S I) (x + 25) (x + 10) (nI r) a) ∧ hB H' ts.length (fun j r' => P j r' || (decide (r' = r) && pF t ts p j)) := by
  have hw1 := hw.1
  unfold f_X0_lookForPair
  simp only [lt]
  obtain ⟨z, e1, H', J, rfl, q1, q2, q3⟩ := it_up (b := fun (v : (Option Nat) × Int32 × PS) => f_X0_lookForPair_b6 (x + 25) (x + 10) a (nI r) v.1 v.2.1 v.2.2) ts.length
    (P := fun i s => ∃ H' J q, s = (q, nI i, sI S J) ∧ cM J x (uR R 28 H') F ∧ ou I J x ∧ hB H' ts.length (fun j r' => P j r' || (decide (r' = r) && decide (j < i) && pF t ts p j)) ∧ (match pD t ts p i with | none => q = none | some w => ∃ h, q = some h ∧ dW S J x h w))
    (Q := fun z => ∃ H' J, z = sI S J ∧ cM J x (uR R 28 H') F ∧ ou I J x ∧ hB H' ts.length (fun j r' => P j r' || (decide (r' = r) && pF t ts p j)))
    (fun i s hi ⟨H', J, q, e, m, u, hb', hq⟩ => by
      subst e
      have hi3 : i < 2 ^ 31 := by omega
      have hT' : tM (uR R 28 H') ts := hT.kept
      have h4' : (uR R 28 H') 4 = t := h4
      obtain ⟨k1, k2, ⟨ho, k3, k4⟩, ⟨hx, k5, k6⟩⟩ := hd.kept u
      unfold f_X0_lookForPair_b6
      simp only [kK_sI, kQ_sI, kN_sI, kZ_sI, kI_sI, wI_sI, if_true, Option.bind_some, lt, cK_10 hS, cK_25 hS, ct_count hS m hT', nI_leI (show ts.length < 2 ^ 31 by omega) hi3, if_neg (show ¬ ts.length ≤ i by omega), ct_isQuoted hS m hT' hi3, bi_eq0, k1, k3, k5, ct_isThe hS m hT' hw h4' hi3 k4, ct_isThe hS m hT' hw h4' hi3 k6, nI_1]
      have same : pF t ts p i = false → hB H' ts.length (fun j r' => P j r' || (decide (r' = r) && decide (j < i + 1) && pF t ts p j)) := by
        intro hpf
        refine ⟨hb'.1, fun j hj r' hr' => ?_⟩
        rw [hb'.2 j hj r' hr']
        by_cases e : j = i
        · subst e; simp [hpf]
        · have : decide (j < i + 1) = decide (j < i) := by simp; omega
          simp only [this]
      cases hqt : tQ ts i
      · rw [if_pos rfl]
        cases hpd : pD t ts p i with
        | none =>
          rw [hpd] at hq
          subst hq
          simp only [oq]
          cases h1 : iT t ts p.1 i
          · rw [if_pos rfl]
            cases h2 : iT t ts p.2 i
            · rw [if_pos rfl]
              exact Or.inl ⟨_, rfl, H', J, none, rfl, m, u, same (by unfold pF; rw [hpd]; simp), by simp [pD, hqt, hpd, h1, h2]⟩
            · rw [if_neg (by decide)]
              exact Or.inl ⟨_, rfl, H', J, some ho, rfl, m, u, same (by unfold pF; rw [hpd]; simp), by simp only [pD, hqt, hpd, h1, h2]; exact ⟨ho, rfl, k4⟩⟩
          · rw [if_neg (by decide)]
            exact Or.inl ⟨_, rfl, H', J, some hx, rfl, m, u, same (by unfold pF; rw [hpd]; simp), by simp only [pD, hqt, hpd, h1]; exact ⟨hx, rfl, k6⟩⟩
        | some w =>
          rw [hpd] at hq
          obtain ⟨h, rfl, hdw⟩ := hq
          simp only [oq, ct_isThe hS m hT' hw h4' hi3 hdw, Option.bind_some, bi_eq0]
          cases h1 : iT t ts w i
          · rw [if_pos rfl]
            exact Or.inl ⟨_, rfl, H', J, some h, rfl, m, u, same (by unfold pF; rw [hpd]; simp [h1]), by simp only [pD, hqt, hpd]; exact ⟨h, rfl, hdw⟩⟩
          · rw [if_neg (by decide)]
            obtain ⟨J2, g, m2, u2⟩ := ct_addHit hS m (j := i) (r := r) hi3
            rw [g]
            refine Or.inl ⟨_, rfl, H'.set i (la H' i ||| mk r), J2, some h, rfl, ?_, u.tr u2, hb'.set hi hr (fun j' r' hj' hr' => ?_), by simp only [pD, hqt, hpd]; exact ⟨h, rfl, hdw.kept u2⟩⟩
            · rw [uR_uR, uR_eq] at m2; exact m2
            · by_cases e : j' = i
              · subst e
                have : pF t ts p j' = true := by unfold pF; rw [hpd]; simp [h1, hqt]
                simp [this]
              · have : decide (j' < i + 1) = decide (j' < i) := by simp; omega
                simp [this, e]
      · rw [if_neg (by decide)]
        exact Or.inl ⟨_, rfl, H', J, q, rfl, m, u, same (by unfold pF; rw [hqt]; rfl), by simp only [pD, hqt, if_true]; exact hq⟩)
    (fun s ⟨H', J, q, e, m, u, hb', hq⟩ => by
      subst e
      have hT' : tM (uR R 28 H') ts := hT.kept
      unfold f_X0_lookForPair_b6
      simp only [kK_sI, kQ_sI, kN_sI, kZ_sI, kI_sI, wI_sI, if_true, Option.bind_some, lt, cK_10 hS, ct_count hS m hT', if_pos (show nI ts.length ≤ nI ts.length from (nI_leI (show ts.length < 2 ^ 31 by omega) (by omega)).mpr (Nat.le_refl _))]
      exact ⟨_, rfl, H', J, rfl, m, u, hb'.1, fun j hj r' hr' => by rw [hb'.2 j hj r' hr']; simp [hj]⟩)
    0 (none, 0, sI S I) ⟨H, I, none, by rw [nI_0], by rw [← hH, uR_self]; exact hM, ou.rf, ⟨hb.1, fun j hj r' hr' => by rw [hb.2 j hj r' hr']; simp⟩, rfl⟩ (by omega) kF (kF_big (by omega))
  rw [e1]
  exact ⟨H', ⟨J, rfl, q1, q2⟩, q3⟩
theorem ct_look (hS : cS S x) (hM : cM I x R F) (hT : tM R ts) (hw : wT ts) (h4 : R 4 = t) {ru : List Rv} {pa : List (List Int32 × List Int32)} (hB9 : dB S I x ru pa) (hF1 : F 26 2 = nI ru.length) (hF2 : F 27 2 = nI pa.length) (hru : ru.length ≤ 12) (hpa : pa.length ≤ 4) : ∃ H, cO S I x (uR R 28 H) F (f_X0_look (sI S I) (x + 25) (x + 10)) ∧ hB H ts.length (hit t ts ru pa) := by
  have hw1 := hw.1
  unfold f_X0_look
  simp only [kK_sI, kQ_sI, kN_sI, kZ_sI, kI_sI, wI_sI, if_true, Option.bind_some, lt, cK_25 hS, cQ_25_0 hS, cQ_25_1 hS, cQ_25_2 hS, cR9_28 hS, cK_10 hS, ct_count hS hM hT]
  obtain ⟨I1, e1, m1, u1⟩ := cm_reset hS hM (k := 28) (by decide) (n := ts.length) hw1
  rw [e1]
  simp only [Option.bind_some]
  obtain ⟨⟨ra, l1, l2⟩, ⟨pb, l3, l4⟩⟩ := hB9
  obtain ⟨z, g1, H1, J1, rfl, q1, q2, q3⟩ := it_up (b := fun (v : Int32 × PS) => f_X0_look_b13 (x + 25) (x + 10) v.1 v.2) ru.length
    (P := fun i s => ∃ H' J, s = (nI i, sI S J) ∧ cM J x (uR R 28 H') F ∧ ou I J x ∧ hB H' ts.length (fun j r => decide (r < i) && hR t ts ru j r))
    (Q := fun z => ∃ H' J, z = sI S J ∧ cM J x (uR R 28 H') F ∧ ou I J x ∧ hB H' ts.length (hR t ts ru))
    (fun i s hi ⟨H', J, e, m, u, hb'⟩ => by
      subst e
      have hi3 : i < 2 ^ 31 := by omega
      obtain ⟨v, hv⟩ : ∃ v, ru[i]? = some v := ⟨_, List.getElem?_eq_getElem hi⟩
      have hdr := l2 i v hv
      have hsz : J (x + 26) 2 = nI ru.length := by rw [m.2 26 2 rfl, hF1]
      unfold f_X0_look_b13
      simp only [kK_sI, kQ_sI, kN_sI, kZ_sI, kI_sI, wI_sI, if_true, Option.bind_some, lt, cK_25 hS, cQ_25_0 hS, cQ_25_1 hS, cQ_25_2 hS, cR9_28 hS, cK_26 hS, dl_size l1 hsz, nI_leI (show ru.length < 2 ^ 31 by omega) hi3, if_neg (show ¬ ru.length ≤ i by omega), dl_get l1 hsz hi, hdr.1]
      obtain ⟨z, g1, H1, J1, rfl, q1, q2, q3⟩ := it_up (b := fun (v : Int32 × PS) => f_X0_look_b39 (x + 25) (x + 10) (ra i) (nI i) v.1 v.2) ts.length
        (P := fun k s => ∃ H' J', s = (nI k, sI S J') ∧ cM J' x (uR R 28 H') F ∧ ou I J' x ∧ hB H' ts.length (fun j r => (decide (r < i) && hR t ts ru j r) || (decide (r = i) && decide (j < k) && fR t ts v j)))
        (Q := fun z => ∃ H' J', z = sI S J' ∧ cM J' x (uR R 28 H') F ∧ ou I J' x ∧ hB H' ts.length (fun j r => decide (r < i + 1) && hR t ts ru j r))
        (fun k s hk ⟨H', J', e, m', u', hb'⟩ => by
          subst e
          have hk3 : k < 2 ^ 31 := by omega
          have hT' : tM (uR R 28 H') ts := hT.kept
          have h4' : (uR R 28 H') 4 = t := h4
          unfold f_X0_look_b39
          simp only [kK_sI, kQ_sI, kN_sI, kZ_sI, kI_sI, wI_sI, if_true, Option.bind_some, lt, cK_10 hS, cK_25 hS, ct_count hS m' hT', nI_leI (show ts.length < 2 ^ 31 by omega) hk3, if_neg (show ¬ ts.length ≤ k by omega), hdr.1, (hdr.kept u').found hS m' hT' hw h4' hk, bi_eq0, nI_1]
          cases hf : fR t ts v k
          · rw [if_pos rfl]
            refine Or.inl ⟨_, rfl, H', J', rfl, m', u', hb'.1, fun j hj r hr => ?_⟩
            rw [hb'.2 j hj r hr]
            by_cases e : j = k
            · subst e; simp [hf]
            · have : decide (j < k + 1) = decide (j < k) := by simp; omega
              simp only [this]
          · rw [if_neg (by decide)]
            obtain ⟨J2, g, m2, u2⟩ := ct_addHit hS m' (j := k) (r := i) hk3
            rw [g]
            refine Or.inl ⟨_, rfl, H'.set k (la H' k ||| mk i), J2, rfl, ?_, u'.tr u2, hb'.set hk (show i < 32 by omega) (fun j' r' hj' hr' => ?_)⟩
            · rw [uR_uR, uR_eq] at m2; exact m2
            · by_cases e : j' = k
              · subst e; simp [hf]
              · have : decide (j' < k + 1) = decide (j' < k) := by simp; omega
                simp [this, e])
        (fun s ⟨H', J', e, m', u', hb'⟩ => by
          subst e
          have hT' : tM (uR R 28 H') ts := hT.kept
          unfold f_X0_look_b39
          simp only [kK_sI, kQ_sI, kN_sI, kZ_sI, kI_sI, wI_sI, if_true, Option.bind_some, lt, cK_10 hS, ct_count hS m' hT', if_pos (show nI ts.length ≤ nI ts.length from (nI_leI (show ts.length < 2 ^ 31 by omega) (by omega)).mpr (Nat.le_refl _))]
          refine ⟨_, rfl, H', J', rfl, m', u', hb'.1, fun j hj r hr => ?_⟩
          rw [hb'.2 j hj r hr]
          by_cases e : r = i
          · subst e
            have : hR t ts ru j r = fR t ts v j := by unfold hR; rw [hv]
            simp [hj, this]
          · have : decide (r < i + 1) = decide (r < i) := by simp; omega
            simp [this, e])
        0 (0, sI S J) ⟨H', J, by rw [nI_0], m, u, ⟨hb'.1, fun j hj r hr => by rw [hb'.2 j hj r hr]; simp⟩⟩ (by omega) kF (kF_big (by omega))
      rw [g1]
      exact Or.inl ⟨_, rfl, H1, J1, by rw [nI_1], q1, q2, q3⟩)
    (fun s ⟨H', J, e, m, u, hb'⟩ => by
      subst e
      have hsz : J (x + 26) 2 = nI ru.length := by rw [m.2 26 2 rfl, hF1]
      unfold f_X0_look_b13
      simp only [kK_sI, kQ_sI, kN_sI, kZ_sI, kI_sI, wI_sI, if_true, Option.bind_some, lt, cK_25 hS, cQ_25_0 hS, cQ_25_1 hS, cQ_25_2 hS, cR9_28 hS, cK_26 hS, dl_size l1 hsz, if_pos (show nI ru.length ≤ nI ru.length from (nI_leI (show ru.length < 2 ^ 31 by omega) (by omega)).mpr (Nat.le_refl _))]
      refine ⟨_, rfl, H', J, rfl, m, u, hb'.1, fun j hj r hr => ?_⟩
      rw [hb'.2 j hj r hr]
      by_cases e : r < ru.length
      · simp [e]
      · have : hR t ts ru j r = false := by unfold hR; rw [List.getElem?_eq_none (by omega)]
        simp [e, this])
    0 (0, sI S I1) ⟨_, I1, by rw [nI_0], m1, u1, ⟨by simp, fun j hj r hr => by simp [la, hj, tb_0]⟩⟩ (by omega) kF (kF_big (by omega))
  rw [g1]
  simp only [Option.bind_some]
  obtain ⟨z, g1, H2, J2, rfl, w1, w2, w3⟩ := it_up (b := fun (v : Int32 × PS) => f_X0_look_b79 (x + 25) (x + 10) v.1 v.2) pa.length
    (P := fun i s => ∃ H' J, s = (nI i, sI S J) ∧ cM J x (uR R 28 H') F ∧ ou I J x ∧ hB H' ts.length (fun j r => hR t ts ru j r || (decide (12 ≤ r) && decide (r < 12 + i) && hP t ts pa j (r - 12))))
    (Q := fun z => ∃ H' J, z = sI S J ∧ cM J x (uR R 28 H') F ∧ ou I J x ∧ hB H' ts.length (hit t ts ru pa))
    (fun i s hi ⟨H', J, e, m, u, hb'⟩ => by
      subst e
      have hi3 : i < 2 ^ 31 := by omega
      obtain ⟨v, hv⟩ : ∃ v, pa[i]? = some v := ⟨_, List.getElem?_eq_getElem hi⟩
      have hdp := l4 i v hv
      have hsz : J (x + 27) 2 = nI pa.length := by rw [m.2 27 2 rfl, hF2]
      unfold f_X0_look_b79
      simp only [kK_sI, kQ_sI, kN_sI, kZ_sI, kI_sI, wI_sI, if_true, Option.bind_some, lt, cK_25 hS, cQ_25_0 hS, cQ_25_1 hS, cQ_25_2 hS, cR9_28 hS, cK_27 hS, dl_size l3 hsz, nI_leI (show pa.length < 2 ^ 31 by omega) hi3, if_neg (show ¬ pa.length ≤ i by omega), dl_get l3 hsz hi, hdp.1, show (12 : Int32) + nI i = nI (12 + i) from nI_add 12 i, nI_1]
      obtain ⟨H3, ⟨J3, g3, m3, u3⟩, b3⟩ := ct_lookForPair hS m (hT.kept (H := H')) hw (show (uR R 28 H') 4 = t from h4) (r := 12 + i) (by omega) (hdp.kept u) (H := H') rfl hb'
      rw [g3]
      rw [uR_uR] at m3
      refine Or.inl ⟨_, rfl, H3, J3, rfl, m3, u.tr u3, b3.1, fun j hj r hr => ?_⟩
      rw [b3.2 j hj r hr]
      by_cases e : r = 12 + i
      · subst e
        have : hP t ts pa j i = pF t ts v j := by unfold hP; rw [hv]
        simp [this]
      · have : decide (r < 12 + (i + 1)) = decide (r < 12 + i) := by simp; omega
        simp [this, e])
    (fun s ⟨H', J, e, m, u, hb'⟩ => by
      subst e
      have hsz : J (x + 27) 2 = nI pa.length := by rw [m.2 27 2 rfl, hF2]
      unfold f_X0_look_b79
      simp only [kK_sI, kQ_sI, kN_sI, kZ_sI, kI_sI, wI_sI, if_true, Option.bind_some, lt, cK_25 hS, cQ_25_0 hS, cQ_25_1 hS, cQ_25_2 hS, cR9_28 hS, cK_27 hS, dl_size l3 hsz, if_pos (show nI pa.length ≤ nI pa.length from (nI_leI (show pa.length < 2 ^ 31 by omega) (by omega)).mpr (Nat.le_refl _))]
      refine ⟨_, rfl, H', J, rfl, m, u, hb'.1, fun j hj r hr => ?_⟩
      rw [hb'.2 j hj r hr]
      unfold hit
      by_cases e : r < 12 + pa.length
      · simp [e]
      · have : hP t ts pa j (r - 12) = false := by unfold hP; rw [List.getElem?_eq_none (by omega)]
        simp [e, this])
    0 (0, sI S J1) ⟨H1, J1, by rw [nI_0], q1, q2, ⟨q3.1, fun j hj r hr => by
      rw [q3.2 j hj r hr]
      by_cases e : 12 ≤ r
      · simp [Nat.not_lt.mpr e]
      · simp [e]⟩⟩ (by omega) kF (kF_big (by omega))
  rw [g1]
  exact ⟨H2, ⟨J2, rfl, w1, w2⟩, w3⟩
end
