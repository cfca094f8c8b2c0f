/-! what the model's ints say -/
def wA (G : Nat → Nat → Int32) (kL kS i : Nat) (l : List Int32) : Prop := G kS i = nI l.length ∧ ∀ j, j < l.length → G kL (i * 20 + j) = la l j
def sor (v : Iv) : Nat := if v.1 = true then 3 else if v.2.1 = true then (if 0 < v.2.2.length then 1 else 2) else 0
def mRu (G : Nat → Nat → Int32) (r : Nat) (v : Rv) : Prop := G 4 r = nI v.1.length ∧ (∀ (i : Nat) (it : Iv), v.1[i]? = some it → G 7 (r * 3 + i) = nI (sor it) ∧ wA G 5 6 (r * 3 + i) it.2.2) ∧ G 8 r = v.2.1 ∧ G 9 r = bi v.2.2.1 ∧ G 10 r = nI v.2.2.2.1 ∧ G 11 r = nI v.2.2.2.2.1.length ∧ (∀ (i : Nat) (l : List Int32), v.2.2.2.2.1[i]? = some l → wA G 12 13 (r * 3 + i) l) ∧ G 14 r = nI v.2.2.2.2.2.length ∧ ∀ (i : Nat) (l : List Int32), v.2.2.2.2.2[i]? = some l → wA G 15 16 (r * 2 + i) l
def mDk (G : Nat → Nat → Int32) (d : Nat) (k : Dk) : Prop := (∀ r, r < 12 → G 19 (d * 12 + r) = bi (tb k.2.1 r)) ∧ (∀ (r v : Nat), k.1[r]? = some v → G 20 (d * 12 + r) = nI v) ∧ G 21 d = nI k.2.2.1 ∧ G 22 d = nI k.2.2.2.length ∧ ∀ (i : Nat) (g : Gn), k.2.2.2[i]? = some g → G 23 (d * 20 + i) = nI g.1 ∧ G 24 (d * 20 + i) = nI g.2.1 ∧ G 25 (d * 20 + i) = nI (g.2.1 + g.2.2)
def mTx (G : Nat → Nat → Int32) (t w : List Int32) : Prop := G 0 3 = nI t.length ∧ (∀ j, j < t.length → G 1 j = la t j) ∧ ∀ j, j < t.length → G 2 j = la w j
def mTy (G : Nat → Nat → Int32) (ty : List Int32) : Prop := G 0 5 = nI ty.length ∧ ∀ j, j < ty.length → G 3 j = la ty j
def mMk (G : Nat → Nat → Int32) (mk : List Int32) : Prop := ∀ d, d < 4 → ∀ p, p < mk.length → G 26 (d * 161 + p) = bi (tb (la mk p) d)
def mRs (G : Nat → Nat → Int32) (ru : List Rv) : Prop := G 0 6 = nI ru.length ∧ (∀ (r : Nat) (v : Rv), ru[r]? = some v → mRu G r v) ∧ ∀ r, ru.length ≤ r → r < 12 → G 11 r = 0 ∧ G 14 r = 0
def mPs (G : Nat → Nat → Int32) (pa : List (List Int32 × List Int32)) : Prop := G 0 20 = nI pa.length ∧ ∀ (q : Nat) (p : List Int32 × List Int32), pa[q]? = some p → wA G 17 18 (2 * q) p.1 ∧ wA G 17 18 (2 * q + 1) p.2
def mT (G : Nat → Nat → Int32) (T : St) : Prop := mTy G T.1 ∧ mTx G T.2.1 T.2.2.1 ∧ mMk G T.2.2.2.1 ∧ mRs G T.2.2.2.2.1 ∧ mPs G T.2.2.2.2.2.1 ∧ ∀ d, d < 4 → mDk G d (T.2.2.2.2.2.2 d)
/-- the cells k where two states of ints agree -/
def aG (G G' : Nat → Nat → Int32) (ks : List Nat) : Prop := ∀ k ∈ ks, ∀ j, G' k j = G k j
theorem mTy.ext {G G' : Nat → Nat → Int32} {ty : List Int32} (h5 : G' 0 5 = G 0 5) (h3 : ∀ j, j < 20 → G' 3 j = G 3 j) (hn : ty.length ≤ 20) (h : mTy G ty) : mTy G' ty := ⟨h5.trans h.1, fun j hj => (h3 j (by omega)).trans (h.2 j hj)⟩
/-- nothing but thrown, tokens, what is found and made changed -/
def mQ (G G' : Nat → Nat → Int32) : Prop := (∀ k, 1 ≤ k → k ≤ 26 → ∀ j, G' k j = G k j) ∧ G' 0 3 = G 0 3 ∧ G' 0 5 = G 0 5 ∧ G' 0 6 = G 0 6 ∧ G' 0 20 = G 0 20
theorem mQ.rf {G : Nat → Nat → Int32} : mQ G G := ⟨fun _ _ _ _ => rfl, rfl, rfl, rfl, rfl⟩
theorem mQ.tr {G G' G'' : Nat → Nat → Int32} (h : mQ G G') (h' : mQ G' G'') : mQ G G'' := ⟨fun k h1 h2 j => (h'.1 k h1 h2 j).trans (h.1 k h1 h2 j), h'.2.1.trans h.2.1, h'.2.2.1.trans h.2.2.1, h'.2.2.2.1.trans h.2.2.2.1, h'.2.2.2.2.trans h.2.2.2.2⟩
theorem mQ.th (G : Nat → Nat → Int32) (v : Int32) : mQ G (uF G 0 0 v) := ⟨fun k h1 _ j => uF_ne (Or.inl (by omega)), uF_ne (Or.inr (by decide)), uF_ne (Or.inr (by decide)), uF_ne (Or.inr (by decide)), uF_ne (Or.inr (by decide))⟩
theorem wA.ext {G G' : Nat → Nat → Int32} {kL kS i : Nat} {l : List Int32} (h1 : ∀ j, G' kL j = G kL j) (h2 : G' kS i = G kS i) (h : wA G kL kS i l) : wA G' kL kS i l := ⟨h2.trans h.1, fun j hj => (h1 _).trans (h.2 j hj)⟩
theorem mRu.ext {G G' : Nat → Nat → Int32} {r : Nat} {v : Rv} (ha : ∀ k, 4 ≤ k → k ≤ 16 → ∀ j, G' k j = G k j) (h : mRu G r v) : mRu G' r v := by
  obtain ⟨a1, a2, a3, a4, a5, a6, a7, a8, a9⟩ := h
  exact ⟨(ha 4 (by decide) (by decide) _).trans a1, fun i it hi => ⟨(ha 7 (by decide) (by decide) _).trans (a2 i it hi).1, (a2 i it hi).2.ext (ha 5 (by decide) (by decide)) (ha 6 (by decide) (by decide) _)⟩, (ha 8 (by decide) (by decide) _).trans a3, (ha 9 (by decide) (by decide) _).trans a4, (ha 10 (by decide) (by decide) _).trans a5, (ha 11 (by decide) (by decide) _).trans a6, fun i l hi => (a7 i l hi).ext (ha 12 (by decide) (by decide)) (ha 13 (by decide) (by decide) _), (ha 14 (by decide) (by decide) _).trans a8, fun i l hi => (a9 i l hi).ext (ha 15 (by decide) (by decide)) (ha 16 (by decide) (by decide) _)⟩
theorem mRs.ext {G G' : Nat → Nat → Int32} {ru : List Rv} (ha : ∀ k, 4 ≤ k → k ≤ 16 → ∀ j, G' k j = G k j) (h6 : G' 0 6 = G 0 6) (h : mRs G ru) : mRs G' ru := ⟨h6.trans h.1, fun r v hv => (h.2.1 r v hv).ext ha, fun r h1 h2 => ⟨(ha 11 (by decide) (by decide) _).trans (h.2.2 r h1 h2).1, (ha 14 (by decide) (by decide) _).trans (h.2.2 r h1 h2).2⟩⟩
theorem mPs.ext {G G' : Nat → Nat → Int32} {pa : List (List Int32 × List Int32)} (ha : ∀ k, 17 ≤ k → k ≤ 18 → ∀ j, G' k j = G k j) (h6 : G' 0 20 = G 0 20) (h : mPs G pa) : mPs G' pa := ⟨h6.trans h.1, fun q p hp => ⟨(h.2 q p hp).1.ext (ha 17 (by decide) (by decide)) (ha 18 (by decide) (by decide) _), (h.2 q p hp).2.ext (ha 17 (by decide) (by decide)) (ha 18 (by decide) (by decide) _)⟩⟩
theorem mDk.ext {G G' : Nat → Nat → Int32} {d : Nat} {k : Dk} (ha : ∀ k, 19 ≤ k → k ≤ 25 → ∀ j, G' k j = G k j) (h : mDk G d k) : mDk G' d k := by
  obtain ⟨a1, a2, a3, a4, a5⟩ := h
  exact ⟨fun r hr => (ha 19 (by decide) (by decide) _).trans (a1 r hr), fun r v hv => (ha 20 (by decide) (by decide) _).trans (a2 r v hv), (ha 21 (by decide) (by decide) _).trans a3, (ha 22 (by decide) (by decide) _).trans a4, fun i g hg => ⟨(ha 23 (by decide) (by decide) _).trans (a5 i g hg).1, (ha 24 (by decide) (by decide) _).trans (a5 i g hg).2.1, (ha 25 (by decide) (by decide) _).trans (a5 i g hg).2.2⟩⟩
theorem mTx.ext {G G' : Nat → Nat → Int32} {t w : List Int32} (h3 : G' 0 3 = G 0 3) (h1 : ∀ j, G' 1 j = G 1 j) (h2 : ∀ j, G' 2 j = G 2 j) (h : mTx G t w) : mTx G' t w := ⟨h3.trans h.1, fun j hj => (h1 j).trans (h.2.1 j hj), fun j hj => (h2 j).trans (h.2.2 j hj)⟩
theorem mMk.ext {G G' : Nat → Nat → Int32} {l : List Int32} (h1 : ∀ j, G' 26 j = G 26 j) (h : mMk G l) : mMk G' l := fun d hd p hp => (h1 _).trans (h d hd p hp)
theorem mT.q {G G' : Nat → Nat → Int32} {T : St} (hq : mQ G G') (h : mT G T) : mT G' T := by
  obtain ⟨q1, q2, q3, q4, q5⟩ := hq
  obtain ⟨a1, a2, a3, a4, a5, a6⟩ := h
  exact ⟨⟨q3.trans a1.1, fun j hj => (q1 3 (by decide) (by decide) j).trans (a1.2 j hj)⟩, a2.ext q2 (q1 1 (by decide) (by decide)) (q1 2 (by decide) (by decide)), a3.ext (q1 26 (by decide) (by decide)), a4.ext (fun k h1 h2 => q1 k (by omega) (by omega)) q4, a5.ext (fun k h1 h2 => q1 k (by omega) (by omega)) q5, fun d hd => (a6 d hd).ext (fun k h1 h2 => q1 k (by omega) (by omega))⟩
/-- an answer of the model: the same as that of the class, thrown by its number -/
def mZ (S : PS) (I : Nat → Nat → Int32) (m : Nat) (T : St) (co : Nat → Int32) (df : Int32) (o : Option (PS × Int32)) (e : An) : Prop := match e with
  | .inl v => ∃ G', o = some (sI S (mw I m G'), v.2) ∧ G' 0 0 = 0 ∧ mT G' v.1
  | .inr k => ∃ G', o = some (sI S (mw I m G'), df) ∧ G' 0 0 = co k ∧ mT G' T
