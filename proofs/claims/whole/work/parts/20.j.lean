/-! desks, ranks, items -/
abbrev Gn : Type := Nat × Nat × Nat
abbrev Dk : Type := List Nat × Int32 × Nat × List Gn
def dM (R : Nat → List Int32) (F : Nat → Nat → Int32) (d : Nat) (k : Dk) : Prop := R (dO d + 1) = k.1.map nI ∧ F (dO d) 5 = k.2.1 ∧ F (dO d) 4 = nI k.2.2.1 ∧ R (dO d + 3) = k.2.2.2.map (fun g => nI g.1) ∧ R (dO d + 5) = k.2.2.2.map (fun g => nI g.2.1) ∧ R (dO d + 7) = k.2.2.2.map (fun g => nI g.2.2)
def wD (k : Dk) : Prop := k.1.length = 12 ∧ (∀ (j v : Nat), k.1[j]? = some v → v ≤ 9) ∧ k.2.2.1 ≤ 20 ∧ k.2.2.2.length ≤ 20 ∧ (∀ (j : Nat) (g : Gn), k.2.2.2[j]? = some g → g.1 ≤ 20 ∧ g.2.1 ≤ 160 ∧ g.2.2 ≤ 160) ∧ ∀ r, 12 ≤ r → r < 32 → tb k.2.1 r = false
/-- the rules are well formed -/
def wR (ru : List Rv) : Prop := ru.length ≤ 12 ∧ ∀ (j : Nat) (v : Rv), ru[j]? = some v → 1 ≤ v.1.length ∧ v.1.length ≤ 3 ∧ 1 ≤ v.2.2.2.1 ∧ v.2.2.2.1 ≤ 9 ∧ v.2.2.2.2.1.length ≤ 3 ∧ v.2.2.2.2.2.length ≤ 2
def la9 (l : List Nat) (j : Nat) : Nat := (l[j]?).getD 0
def mI9 (ru : List Rv) (r : Nat) : Nat := match ru[r]? with
  | some v => v.1.length
  | none => 1
def rk (ru : List Rv) (rs : List Nat) (r : Nat) : Nat := match ru[r]? with
  | some v => if la9 rs r = 0 then v.2.2.2.1 else la9 rs r
  | none => if r = 20 then 1 else 5
theorem wR.m {ru : List Rv} (h : wR ru) (r : Nat) : 1 ≤ mI9 ru r ∧ mI9 ru r ≤ 3 := by
  unfold mI9
  cases e : ru[r]? with
  | none => simp
  | some v => have := h.2 r v e; simp only; omega
theorem la9_nI (l : List Nat) (j : Nat) : la (l.map nI) j = nI (la9 l j) := by
  rw [la_map]; unfold la9
  cases l[j]? with
  | none => exact nI_0.symm
  | some v => rfl
theorem rk_range {ru : List Rv} {k : Dk} (h : wR ru) (hk : wD k) (r : Nat) : 1 ≤ rk ru k.1 r ∧ rk ru k.1 r ≤ 9 := by
  unfold rk
  cases e : ru[r]? with
  | none => simp only; split <;> omega
  | some v =>
    have := h.2 r v e
    simp only
    split
    · omega
    · refine ⟨by omega, ?_⟩
      unfold la9
      cases e2 : k.1[r]? with
      | none => simp
      | some w => exact hk.2.1 r w e2
/-- the bits of what is found at a token for a desk -/
def fd (t : List Int32) (ts : List Tk) (ru : List Rv) (pa : List (List Int32 × List Int32)) (k : Dk) (j r : Nat) : Bool := (hit t ts ru pa j r && !tb k.2.1 r) || (decide (r = 20) && tN ts j && !tQ ts j && decide (tV ts j < k.2.2.1))
section
variable {S : PS} {I : Nat → Nat → Int32} {x : Nat} {R : Nat → List Int32} {F : Nat → Nat → Int32} {ts : List Tk} {t : List Int32} {ru : List Rv} {pa : List (List Int32 × List Int32)} {d : Nat} {k : Dk}
theorem cd_itemsOf (hS : cS S x) (hM : cM I x R F) (hB9 : dB S I x ru pa) (hF1 : F 26 2 = nI ru.length) (hw : wR ru) {r : Nat} (hr : r < 2 ^ 31) : f_X0_itemsOf (sI S I) (x + 25) (nI r) = some (nI (mI9 ru r)) := by
  obtain ⟨⟨ra, l1, l2⟩, -⟩ := hB9
  have hsz : I (x + 26) 2 = nI ru.length := by rw [hM.2 26 2 rfl, hF1]
  have hw1 := hw.1
  unfold f_X0_itemsOf
  rw [if_neg (nI_pos hr)]
  simp only [kK_sI, kQ_sI, kN_sI, kZ_sI, kI_sI, wI_sI, if_true, Option.bind_some, lt, cK_25 hS, cQ_25_0 hS, cQ_25_1 hS, cQ_25_2 hS, cR9_28 hS, cK_26 hS, dl_size l1 hsz, nI_leI (show ru.length < 2 ^ 31 by omega) hr]
  unfold mI9
  by_cases h : ru.length ≤ r
  · rw [if_pos h, List.getElem?_eq_none h]; rfl
  · rw [if_neg h]
    obtain ⟨v, hv⟩ : ∃ v, ru[r]? = some v := ⟨_, List.getElem?_eq_getElem (by omega)⟩
    obtain ⟨d1, d2, d3, d4, d5, ⟨h, d6, as, ⟨d7, d8, d9⟩, d10⟩, -, -⟩ := l2 r v hv
    simp only [dl_get l1 hsz (show r < ru.length by omega), kK_sI, kQ_sI, kN_sI, kZ_sI, kI_sI, wI_sI, if_true, Option.bind_some, lt, d1, d6, d7.1, dl_size d7 d8, hv]
theorem cd_rankAt (hS : cS S x) (hM : cM I x R F) (hB9 : dB S I x ru pa) (hF1 : F 26 2 = nI ru.length) (hw : wR ru) (hd : d < 4) (hk : dM R F d k) (hwk : wD k) {r : Nat} (hr : r < 2 ^ 31) : f_X0_rankAt (sI S I) (x + 25) (x + dO d) (nI r) = some (nI (rk ru k.1 r)) := by
  obtain ⟨⟨ra, l1, l2⟩, -⟩ := hB9
  have hsz : I (x + 26) 2 = nI ru.length := by rw [hM.2 26 2 rfl, hF1]
  have hw1 := hw.1
  unfold f_X0_rankAt
  simp only [kK_sI, kQ_sI, kN_sI, kZ_sI, kI_sI, wI_sI, if_true, Option.bind_some, lt, nI_lt0 hr, if_false, cK_25 hS, cQ_25_0 hS, cQ_25_1 hS, cQ_25_2 hS, cR9_28 hS, cK_26 hS, dl_size l1 hsz, nI_leI (show ru.length < 2 ^ 31 by omega) hr, cK_d hS hd, cQ_d_0 hS hd, cQ_d_1 hS hd, cQ_d_2 hS hd, cQ_d_3 hS hd, cR9_d1 hS hd, cR9_d3 hS hd, cR9_d5 hS hd, cR9_d7 hS hd]
  unfold rk
  by_cases h : ru.length ≤ r
  · rw [if_pos h, List.getElem?_eq_none h]
    by_cases e : r = 20
    · subst e; rfl
    · rw [if_neg (show ¬ nI r = 20 from fun q => e ((nI_eq hr (show 20 < 2 ^ 31 by decide)).mp q))]
      simp only [if_neg e]
      rfl
  · rw [if_neg h]
    obtain ⟨v, hv⟩ : ∃ v, ru[r]? = some v := ⟨_, List.getElem?_eq_getElem (by omega)⟩
    obtain ⟨d1, d2, d3, d4, d5, -, -, -⟩ := l2 r v hv
    have hb : la9 k.1 r < 2 ^ 31 := by
      unfold la9
      cases e2 : k.1[r]? with
      | none => simp
      | some w => have := hwk.2.1 r w e2; simp; omega
    simp only [cm_getn hS hM (k := dO d + 1) (by rw [capT_d1]; decide) hr, hk.1, la9_nI, kK_sI, kQ_sI, kN_sI, kZ_sI, kI_sI, wI_sI, if_true, Option.bind_some, lt, dl_get l1 hsz (show r < ru.length by omega), d1, d5, hv, nI_eq0 hb]
    by_cases e : la9 k.1 r = 0
    · rw [if_pos e, if_pos e]
    · rw [if_neg e, if_neg e]
theorem nI_inj {a b : Nat} (ha : a < 2 ^ 31) (hb : b < 2 ^ 31) (h : nI a = nI b) : a = b := (nI_eq ha hb).mp h
theorem cd_ofRank (hS : cS S x) (hM : cM I x R F) (hB9 : dB S I x ru pa) (hF1 : F 26 2 = nI ru.length) (hw : wR ru) (hd : d < 4) (hk : dM R F d k) (hwk : wD k) {q : Nat} (hq : q < 2 ^ 31) : ∃ v, f_X0_ofRank (sI S I) (x + 25) (x + dO d) (nI q) = some v ∧ ∀ r, r < 32 → tb v r = (decide (r ≤ 20) && decide (rk ru k.1 r = q)) := by
  unfold f_X0_ofRank
  simp only [lt]
  obtain ⟨z, g1, v, rfl, q1⟩ := it_up (b := fun (v : Int32 × Int32) => f_X0_ofRank_b5 (x + 25) (x + dO d) (nI q) (sI S I) v.1 v.2) 21
    (P := fun i s => ∃ v, s = (v, nI i) ∧ ∀ r, r < 32 → tb v r = (decide (r < i) && decide (rk ru k.1 r = q)))
    (Q := fun z => ∃ v, z = v ∧ ∀ r, r < 32 → tb v r = (decide (r ≤ 20) && decide (rk ru k.1 r = q)))
    (fun i s hi ⟨v, e, hv⟩ => by
      subst e
      have hi3 : i < 2 ^ 31 := by omega
      have hrk := rk_range hw hwk i
      unfold f_X0_ofRank_b5
      rw [show (20 : Int32) = nI 20 from rfl]
      simp only [kK_sI, kQ_sI, kN_sI, kZ_sI, kI_sI, wI_sI, if_true, Option.bind_some, lt, cK_25 hS, cd_rankAt hS hM hB9 hF1 hw hd hk hwk hi3, nI_ltI (show 20 < 2 ^ 31 by decide) hi3, if_neg (show ¬ 20 < i by omega), nI_eq (show rk ru k.1 i < 2 ^ 31 by omega) hq, nI_1]
      by_cases e : rk ru k.1 i = q
      · rw [if_pos e]
        refine Or.inl ⟨_, rfl, _, rfl, fun r hr => ?_⟩
        rw [show (1 : Int32) <<< (nI i &&& 31) = mk i from rfl, tb_or hr, tb_mk (by omega) hr, hv r hr]
        by_cases e2 : r = i
        · subst e2; simp [e]
        · have : decide (r < i + 1) = decide (r < i) := by simp; omega
          simp [this, e2]
      · rw [if_neg e]
        refine Or.inl ⟨_, rfl, _, rfl, fun r hr => ?_⟩
        rw [hv r hr]
        by_cases e2 : r = i
        · subst e2; simp [e]
        · have : decide (r < i + 1) = decide (r < i) := by simp; omega
          simp [this])
    (fun s ⟨v, e, hv⟩ => by
      subst e
      unfold f_X0_ofRank_b5
      rw [if_pos (show (20 : Int32) < nI 21 by decide +kernel)]
      refine ⟨_, rfl, v, rfl, fun r hr => ?_⟩
      rw [hv r hr]
      have : decide (r < 21) = decide (r ≤ 20) := by simp; omega
      rw [this])
    0 (0, 0) ⟨0, by rw [nI_0], fun r hr => by simp [tb_0]⟩ (by omega) kF (kF_big (by omega))
  rw [g1]
  exact ⟨z, rfl, q1⟩
theorem cd_foundAt (hS : cS S x) (hM : cM I x R F) (hT : tM R ts) (hw : wT ts) (hd : d < 4) (hk : dM R F d k) (hwk : wD k) {H : List Int32} (hH : R 28 = H) (hb : hB H ts.length (hit t ts ru pa)) {j : Nat} (hj : j < ts.length) : ∃ v, f_X0_foundAt (sI S I) (x + 25) (x + 10) (x + dO d) (nI j) = some v ∧ ∀ r, r < 32 → tb v r = fd t ts ru pa k j r := by
  have hw1 := hw.1
  have hj3 : j < 2 ^ 31 := by omega
  have hv := hw.v j
  have hlim := hwk.2.2.1
  unfold f_X0_foundAt
  simp only [kK_sI, kQ_sI, kN_sI, kZ_sI, kI_sI, wI_sI, if_true, Option.bind_some, lt, cK_25 hS, cQ_25_0 hS, cQ_25_1 hS, cQ_25_2 hS, cR9_28 hS, cm_getn hS hM (k := 28) (by decide) hj3, hH, cK_d hS hd, cK_10 hS, hM.2 (dO d) _ (objT_d d), hk.2.1, hk.2.2.1, ct_isNumber hS hM hT hj3, ct_isQuoted hS hM hT hj3, ct_valueOf hS hM hT hj3, bi_eq0, nI_leI (show k.2.2.1 < 2 ^ 31 by omega) (show tV ts j < 2 ^ 31 by omega), mk_20]
  have key : ∀ r, r < 32 → tb (la H j &&& (k.2.1 ^^^ (-1))) r = (hit t ts ru pa j r && !tb k.2.1 r) := fun r hr => by rw [tb_and hr, tb_not hr, hb.2 j hj r hr]
  unfold fd
  cases tN ts j
  · rw [if_pos rfl]
    exact ⟨_, rfl, fun r hr => by rw [key r hr]; simp⟩
  · rw [if_neg (by decide)]
    cases tQ ts j
    · rw [if_pos rfl]
      by_cases e : k.2.2.1 ≤ tV ts j
      · rw [if_pos e]
        exact ⟨_, rfl, fun r hr => by rw [key r hr]; simp [Nat.not_lt.mpr e]⟩
      · rw [if_neg e]
        refine ⟨_, rfl, fun r hr => ?_⟩
        rw [tb_or hr, tb_mk (by decide) hr, key r hr]
        simp [Nat.not_le.mp e]
    · rw [if_neg (by decide)]
      exact ⟨_, rfl, fun r hr => by rw [key r hr]; simp⟩
/-- what is ignored -/
theorem cd_count (hS : cS S x) (hM : cM I x R F) (hd : d < 4) (hk : dM R F d k) : f_X1_ignoredCount (sI S I) (x + dO d) = some (nI k.2.2.2.length) := by
  unfold f_X1_ignoredCount
  simp only [kK_sI, kQ_sI, kN_sI, kZ_sI, kI_sI, wI_sI, if_true, Option.bind_some, lt, cK_d hS hd, cQ_d_0 hS hd, cQ_d_1 hS hd, cQ_d_2 hS hd, cQ_d_3 hS hd, cR9_d1 hS hd, cR9_d3 hS hd, cR9_d5 hS hd, cR9_d7 hS hd, cm_count hS hM (k := dO d + 3) (by rw [capT_d3]; decide), hk.2.2.2.1, List.length_map]
theorem cd_ignores (hS : cS S x) (hM : cM I x R F) (hd : d < 4) (hk : dM R F d k) (hwk : wD k) {r f n : Nat} (hr : r < 2 ^ 31) (hf : f < 2 ^ 31) (hn : n < 2 ^ 31) : f_X1_ignores (sI S I) (x + dO d) (nI r) (nI f) (nI n) = some (bi (decide ((r, f, n) ∈ k.2.2.2))) := by
  have hl := hwk.2.2.2.1
  unfold f_X1_ignores
  simp only [lt]
  obtain ⟨z, e1, q⟩ := it_up (b := fun (v : Int32) => f_X1_ignores_b3 (x + dO d) (nI r) (nI f) (nI n) (sI S I) v) k.2.2.2.length
    (P := fun i s => s = nI i ∧ ∀ i', i' < i → k.2.2.2[i']? ≠ some (r, f, n))
    (Q := fun z => (z = .inl () ∧ (r, f, n) ∉ k.2.2.2) ∨ (z = .inr () ∧ (r, f, n) ∈ k.2.2.2))
    (fun i s hi ⟨e, hp⟩ => by
      subst e
      have hi3 : i < 2 ^ 31 := by omega
      obtain ⟨g, hg⟩ : ∃ g, k.2.2.2[i]? = some g := ⟨_, List.getElem?_eq_getElem hi⟩
      obtain ⟨b1, b2, b3⟩ := hwk.2.2.2.2.1 i g hg
      unfold f_X1_ignores_b3
      simp only [kK_sI, kQ_sI, kN_sI, kZ_sI, kI_sI, wI_sI, if_true, Option.bind_some, lt, cK_d hS hd, cQ_d_0 hS hd, cQ_d_1 hS hd, cQ_d_2 hS hd, cQ_d_3 hS hd, cR9_d1 hS hd, cR9_d3 hS hd, cR9_d5 hS hd, cR9_d7 hS hd, cd_count hS hM hd hk, nI_leI (show k.2.2.2.length < 2 ^ 31 by omega) hi3, if_neg (show ¬ k.2.2.2.length ≤ i by omega), cm_getn hS hM (k := dO d + 3) (by rw [capT_d3]; decide) hi3, cm_getn hS hM (k := dO d + 5) (by rw [capT_d5]; decide) hi3, cm_getn hS hM (k := dO d + 7) (by rw [capT_d7]; decide) hi3, hk.2.2.2.1, hk.2.2.2.2.1, hk.2.2.2.2.2, la_map, hg, nI_eq (show g.1 < 2 ^ 31 by omega) hr, nI_eq (show g.2.1 < 2 ^ 31 by omega) hf, nI_eq (show g.2.2 < 2 ^ 31 by omega) hn, nI_1]
      have no : ¬ (g.1 = r ∧ g.2.1 = f ∧ g.2.2 = n) → ∀ i', i' < i + 1 → k.2.2.2[i']? ≠ some (r, f, n) := by
        intro hne i' hi'
        by_cases e : i' = i
        · subst e
          rw [hg]
          intro q
          cases q
          exact hne ⟨rfl, rfl, rfl⟩
        · exact hp i' (by omega)
      by_cases a1 : g.1 = r
      · rw [if_pos a1]
        by_cases a2 : g.2.1 = f
        · rw [if_pos a2]
          by_cases a3 : g.2.2 = n
          · rw [if_pos a3]
            refine Or.inr ⟨_, rfl, Or.inr ⟨rfl, ?_⟩⟩
            have : g = (r, f, n) := by rw [← a1, ← a2, ← a3]
            rw [← this]
            exact List.mem_of_getElem? hg
          · rw [if_neg a3]
            exact Or.inl ⟨_, rfl, rfl, no (fun q => a3 q.2.2)⟩
        · rw [if_neg a2]
          exact Or.inl ⟨_, rfl, rfl, no (fun q => a2 q.2.1)⟩
      · rw [if_neg a1]
        exact Or.inl ⟨_, rfl, rfl, no (fun q => a1 q.1)⟩)
    (fun s ⟨e, hp⟩ => by
      subst e
      unfold f_X1_ignores_b3
      simp only [kK_sI, kQ_sI, kN_sI, kZ_sI, kI_sI, wI_sI, if_true, Option.bind_some, lt, cK_d hS hd, cQ_d_0 hS hd, cQ_d_1 hS hd, cQ_d_2 hS hd, cQ_d_3 hS hd, cR9_d1 hS hd, cR9_d3 hS hd, cR9_d5 hS hd, cR9_d7 hS hd, cd_count hS hM hd hk, if_pos (show nI k.2.2.2.length ≤ nI k.2.2.2.length from (nI_leI (show k.2.2.2.length < 2 ^ 31 by omega) (by omega)).mpr (Nat.le_refl _))]
      refine ⟨_, rfl, Or.inl ⟨rfl, fun hm => ?_⟩⟩
      obtain ⟨i', hi', e⟩ := List.getElem_of_mem hm
      exact hp i' hi' (by rw [List.getElem?_eq_getElem hi', e]))
    0 0 ⟨nI_0.symm, fun i' hi' => absurd hi' (Nat.not_lt_zero _)⟩ (by omega) kF (kF_big (by omega))
  rw [e1]
  rcases q with ⟨rfl, q⟩ | ⟨rfl, q⟩
  · rw [decide_eq_false q]; rfl
  · rw [decide_eq_true q]; rfl
theorem cd_lengthAt (hS : cS S x) (hM : cM I x R F) (hT : tM R ts) (hB9 : dB S I x ru pa) (hF1 : F 26 2 = nI ru.length) (hw : wR ru) {r j : Nat} (hr : r < 2 ^ 31) (hj : j < 2 ^ 30) : f_X2_lengthAt (sI S I) (x + 68) (nI r) (nI j) = some (nI (tE ts (j + mI9 ru r - 1)) - nI (tF ts j)) := by
  have hm := hw.m r
  unfold f_X2_lengthAt
  simp only [kK_sI, kQ_sI, kN_sI, kZ_sI, kI_sI, wI_sI, if_true, Option.bind_some, lt, cK_68 hS, cQ_68_0 hS, cQ_68_1 hS, cQ_68_2 hS, cQ_68_3 hS, cQ_68_4 hS, cQ_68_5 hS, cR9_69 hS, cR9_71 hS, cR9_73 hS, cR9_75 hS, cK_25 hS, cK_10 hS, cd_itemsOf hS hM hB9 hF1 hw hr, nI_add, nI_sub1 (show 0 < j + mI9 ru r by omega), ct_endOf hS hM hT (show j + mI9 ru r - 1 < 2 ^ 31 by omega), ct_fromOf hS hM hT (show j < 2 ^ 31 by omega)]
end
