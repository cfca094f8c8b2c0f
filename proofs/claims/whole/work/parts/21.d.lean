/-! a list gets one more -/
theorem Xt_wQ {S : PS} {h n a j : Nat} {b : Option Nat} (hc : (a = h ∧ j = 1) ∨ (kQ S h 1 = some a ∧ kK S a = 104 ∧ n ≤ j)) : Xt S (wQ S a j b) h n := ⟨Nat.le_refl _, fun q hq => ⟨rfl, rfl, fun i h1 h2 => by
  rw [kQ_wQ]
  split
  · rename_i z
    rw [z.1, z.2] at h1 h2
    rcases hc with hc | hc
    · exact absurd hc h1
    · exact absurd hc h2
  · rfl⟩⟩
theorem Xn_wN {S : PS} {kd n : Nat} : Xn S (wN S kd n) := ⟨Nat.le_succ _, fun a ha => ⟨by rw [kK_wN, if_neg (by omega)], by rw [kN_wN, if_neg (by omega)], fun j => by rw [kQ_wN, if_neg (by omega)]⟩⟩
theorem wQ_sI (S : PS) (I : Nat → Nat → Int32) (a k : Nat) (v : Option Nat) : wQ (sI S I) a k v = sI (wQ S a k v) I := rfl
/-- the ints when a cell came at z: zeros there -/
def nz (I : Nat → Nat → Int32) (z : Nat) : Nat → Nat → Int32 := fun b j => if b = z then 0 else I b j
theorem wN_sI (S : PS) (I : Nat → Nat → Int32) (kd n : Nat) : wN (sI S I) kd n = sI (wN S kd n) (nz I (kZ S)) := rfl
theorem nz_ne {I : Nat → Nat → Int32} {z b j : Nat} (h : b ≠ z) : nz I z b j = I b j := if_neg h
theorem wC_sI (S : PS) (I : Nat → Nat → Int32) (b a k : Nat) : wC (sI S I) b a k = sI (wC S b a k) I := rfl
theorem gI.add {S : PS} (hg : gI S) {h arr n b : Nat} (hh : kK S h = 3) (harr : kQ S h 1 = some arr) (hk : kK S arr = 104) (hb : kK S b ≠ 0) : gI (wQ S arr n (some b)) := by
  obtain ⟨⟨p1, p2, e0, p3, p4, p5, p6⟩, hL, hR⟩ := hg
  have hP : PF S := ⟨p1, p2, e0, p3, p4, p5, p6⟩
  have h0 : arr ≠ 0 := z0_ne p6 (by rw [hk]; decide) (by rw [hk]; decide)
  refine ⟨⟨p1, fun a j c ha hq => ?_, e0, ?_, p4, p5, p6⟩, fun h1 h2 q a1 a2 a3 a4 a5 => ?_, fun a1 a2 j1 j2 q b1 b2 b3 b4 => ?_⟩
  · rw [kQ_wQ] at hq
    split at hq
    · cases hq; exact hP.lt hb
    · exact p2 a j c ha hq
  · rw [kQ_wQ, if_neg (fun z => h0 z.1.symm)]; exact p3
  · rw [kQ_wQ, if_neg (fun z => by rw [kK_wQ, z.1, hk] at a1; cases a1)] at a3
    rw [kQ_wQ, if_neg (fun z => by rw [kK_wQ, z.1, hk] at a2; cases a2)] at a4
    exact hL h1 h2 q a1 a2 a3 a4 a5
  · rw [kQ_wQ, if_neg (fun z => by rw [kK_wQ, z.1, hk] at b1; cases b1)] at b3
    rw [kQ_wQ, if_neg (fun z => by rw [kK_wQ, z.1, hk] at b2; cases b2)] at b4
    exact hR a1 a2 j1 j2 q b1 b2 b3 b4
/-- a new array for a list -/
theorem gI.grow {S : PS} (hg : gI S) {h n : Nat} (hh : kK S h = 3) : gI (wQ (wN S 104 n) h 1 (some (kZ S))) := by
  obtain ⟨⟨p1, p2, e0, p3, p4, p5, p6⟩, hL, hR⟩ := hg
  have hP : PF S := ⟨p1, p2, e0, p3, p4, p5, p6⟩
  have hlt := hP.lt (show kK S h ≠ 0 by rw [hh]; decide)
  have helt := hP.lt (show kK S e0 ≠ 0 by rw [p4]; decide)
  have h0 : h ≠ 0 := z0_ne p6 (by rw [hh]; decide) (by rw [hh]; decide)
  have hz0 : kZ S ≠ 0 := by omega
  have kq : ∀ a, kK (wQ (wN S 104 n) h 1 (some (kZ S))) a = if a = kZ S then 104 else kK S a := fun a => by rw [kK_wQ, kK_wN]
  have qq : ∀ a j, kQ (wQ (wN S 104 n) h 1 (some (kZ S))) a j = if a = h ∧ j = 1 then some (kZ S) else if a = kZ S then none else kQ S a j := fun a j => by rw [kQ_wQ, kQ_wN]
  refine ⟨⟨fun a ha => ?_, fun a j c ha hq => ?_, e0, ?_, ?_, ?_, ?_⟩, fun h1 h2 q a1 a2 a3 a4 a5 => ?_, fun a1 a2 j1 j2 q b1 b2 b3 b4 => ?_⟩
  · have ha : kZ S + 1 ≤ a := ha
    rw [kq, if_neg (by omega)]; exact p1 a (by omega)
  · rw [qq] at hq
    rw [kq] at ha
    show c < kZ S + 1
    split at hq
    · cases hq; omega
    · split at hq
      · cases hq
      · rename_i z
        rw [if_neg z] at ha
        have := p2 a j c ha hq
        omega
  · rw [qq, if_neg (fun z => h0 z.1.symm), if_neg (Ne.symm hz0)]; exact p3
  · rw [kq, if_neg (by omega)]; exact p4
  · rw [kN_wQ, kN_wN, if_neg (by omega)]; exact p5
  · rw [kq, if_neg (Ne.symm hz0)]; exact p6
  · rw [kq] at a1 a2 a5
    rw [qq] at a3 a4
    have n1 : h1 ≠ kZ S := fun z => by rw [if_pos z] at a1; cases a1
    have n2 : h2 ≠ kZ S := fun z => by rw [if_pos z] at a2; cases a2
    rw [if_neg n1] at a1
    rw [if_neg n2] at a2
    by_cases e1 : h1 = h
    · by_cases e2 : h2 = h
      · rw [e1, e2]
      · rw [if_pos ⟨e1, rfl⟩] at a3
        rw [if_neg (fun z => e2 z.1), if_neg n2] at a4
        cases a3
        have := p2 h2 1 _ (by rw [a2]; decide) a4
        omega
    · rw [if_neg (fun z => e1 z.1), if_neg n1] at a3
      by_cases e2 : h2 = h
      · rw [if_pos ⟨e2, rfl⟩] at a4
        cases a4
        have := p2 h1 1 _ (by rw [a1]; decide) a3
        omega
      · rw [if_neg (fun z => e2 z.1), if_neg n2] at a4
        have := p2 h1 1 _ (by rw [a1]; decide) a3
        rw [if_neg (by omega)] at a5
        exact hL h1 h2 q a1 a2 a3 a4 a5
  · rw [kq] at b1 b2
    rw [qq] at b3 b4
    have n1 : a1 ≠ kZ S := fun z => by rw [if_pos z] at b1; cases b1
    have n2 : a2 ≠ kZ S := fun z => by rw [if_pos z] at b2; cases b2
    rw [if_neg n1] at b1
    rw [if_neg n2] at b2
    rw [if_neg (fun z => by rw [z.1, hh] at b1; cases b1), if_neg n1] at b3
    rw [if_neg (fun z => by rw [z.1, hh] at b2; cases b2), if_neg n2] at b4
    exact hR a1 a2 j1 j2 q b1 b2 b3 b4
/-- .. filled from the old one -/
theorem gI.copy {S : PS} (hg : gI S) {b a k : Nat} (hb : kK S b = 104) (ha : kK S a = 104) : gI (wC S b a k) := by
  obtain ⟨⟨p1, p2, e0, p3, p4, p5, p6⟩, hL, hR⟩ := hg
  have h0 : b ≠ 0 := z0_ne p6 (by rw [hb]; decide) (by rw [hb]; decide)
  refine ⟨⟨p1, fun q j c hq hc => ?_, e0, ?_, p4, p5, p6⟩, fun h1 h2 q a1 a2 a3 a4 a5 => ?_, fun a1 a2 j1 j2 q b1 b2 b3 b4 => ?_⟩
  · rw [kQ_wC] at hc
    split at hc
    · exact p2 a j c (by rw [ha]; decide) hc
    · exact p2 q j c hq hc
  · rw [kQ_wC, if_neg (fun z => h0 z.1.symm)]; exact p3
  · rw [kQ_wC, if_neg (fun z => by rw [kK_wC, z.1, hb] at a1; cases a1)] at a3
    rw [kQ_wC, if_neg (fun z => by rw [kK_wC, z.1, hb] at a2; cases a2)] at a4
    exact hL h1 h2 q a1 a2 a3 a4 a5
  · rw [kQ_wC, if_neg (fun z => by rw [kK_wC, z.1, hb] at b1; cases b1)] at b3
    rw [kQ_wC, if_neg (fun z => by rw [kK_wC, z.1, hb] at b2; cases b2)] at b4
    exact hR a1 a2 j1 j2 q b1 b2 b3 b4
/-- the last step of an add: there is room -/
theorem ls_put {S : PS} {h n arr b : Nat} {as : Nat → Nat} (hg : gI S) (hh : kK S h = 3) (harr : kQ S h 1 = some arr) (hk : kK S arr = 104) (hN : n < kN S arr) (hN2 : kN S arr = 10 ∨ kN S arr = 15) (hel : ∀ j, j < n → kQ S arr j = some (as j)) (hb : kK S b = 5 ∨ kK S b = 7 ∨ kK S b = 8 ∨ kK S b = 9 ∨ kK S b = 10) (hin : ∀ i j, i < n → j < n → as i = as j → kK S (as i) = 10 → i = j) (hbn : kK S b = 10 → ∀ j, j < n → as j ≠ b) : gI (wQ S arr n (some b)) ∧ Xt S (wQ S arr n (some b)) h n ∧ dL (wQ S arr n (some b)) h (n + 1) (fun j => if j < n then as j else b) := by
  refine ⟨hg.add hh harr hk (by rcases hb with z | z | z | z | z <;> rw [z] <;> decide), Xt_wQ (Or.inr ⟨harr, hk, Nat.le_refl _⟩), hh, by omega, arr, ?_, fun j hj => ⟨hk, by rw [kN_wQ]; omega, ?_⟩, Or.inl ⟨hk, by rw [kN_wQ]; omega, hN2⟩, fun i j hi hj h1 h2 => ?_⟩
  · rw [kQ_wQ, if_neg (fun z => by rw [z.1, hk] at hh; cases hh)]; exact harr
  · rw [kQ_wQ]
    by_cases e : j = n
    · subst e; simp
    · rw [if_neg (fun z => e z.2)]
      simp only [if_pos (show j < n by omega)]
      exact hel j (by omega)
  · rw [kK_wQ] at h2
    by_cases e1 : i < n
    · by_cases e2 : j < n
      · simp only [if_pos e1, if_pos e2] at h1 h2
        exact hin i j e1 e2 h1 h2
      · simp only [if_pos e1, if_neg e2] at h1 h2
        exact absurd h1 (hbn (by rw [← h1]; exact h2) i e1)
    · by_cases e2 : j < n
      · simp only [if_neg e1, if_pos e2] at h1 h2
        exact absurd h1.symm (hbn h2 j e2)
      · omega
theorem Xt.tr {S S' S'' : PS} {h n : Nat} (hP : PF S) (hh : kK S h = 3) (h1 : Xt S S' h n) (hq : ∀ a, a < kZ S → kQ S' h 1 = some a → kK S a = 104 → kQ S h 1 = some a) (h2 : Xt S' S'' h n) : Xt S S'' h n := ⟨Nat.le_trans h1.1 h2.1, fun a ha => by
  obtain ⟨a1, a2, a3⟩ := h1.2 a ha
  obtain ⟨b1, b2, b3⟩ := h2.2 a (Nat.lt_of_lt_of_le ha h1.1)
  exact ⟨b1.trans a1, b2.trans a2, fun j c1 c2 => (b3 j c1 (fun z => c2 ⟨hq a ha z.1 (a1 ▸ z.2.1), a1 ▸ z.2.1, z.2.2⟩)).trans (a3 j c1 c2)⟩⟩
theorem ls_add {S : PS} {I : Nat → Nat → Int32} {h n b : Nat} {as : Nat → Nat} (hg : gI S) (hd : dL S h n as) (hsz : I h 2 = nI n) (hn : n < 12) (hr : n = 10 → ∀ j, j < 10 → kK S (as j) = 10) (hb : kK S b = 5 ∨ kK S b = 7 ∨ kK S b = 8 ∨ kK S b = 9 ∨ kK S b = 10) (hbn : kK S b = 10 → ∀ j, j < n → as j ≠ b) : ∃ S' I', f_Jx4a65c_add_9ea2d (sI S I) h b = some (sI S' I', 1) ∧ gI S' ∧ Xt S S' h n ∧ Ix S I I' h ∧ dL S' h (n + 1) (fun j => if j < n then as j else b) ∧ I' h 2 = nI (n + 1) ∧ (∀ q, kQ S' h 1 = some q → kQ S h 1 = some q ∨ kZ S ≤ q) ∧ ∀ q, kZ S ≤ q → kK S' q ≠ 10 := by
  obtain ⟨hh, hn2, arr, harr, hel, hor, hin⟩ := hd
  have hP := hg.1
  have hlt : h < kZ S := hP.lt (by rw [hh]; decide)
  have hblt : b < kZ S := hP.lt (by rcases hb with z | z | z | z | z <;> rw [z] <;> decide)
  have hn3 : n < 2 ^ 31 := by omega
  unfold f_Jx4a65c_add_9ea2d f_Jx4a65c_add_72be8
  simp only [kK_sI, kQ_sI, kN_sI, kZ_sI, kI_sI, wI_sI, if_true, Option.bind_some, lt, hh, harr, show (up I h 0 (I h 0 + 1)) h 2 = nI n by rw [up_ne (Or.inr (by decide))]; exact hsz]
  have hIx : ∀ (z : Nat) (hz : kZ S ≤ z), Ix S I (up (nz (up I h 0 (I h 0 + 1)) z) h 2 (nI (n + 1))) h := fun z hz a j ha hne => by
    rw [up_ne (Or.inl hne), nz_ne (by omega), up_ne (Or.inl hne)]
  rcases hor with ⟨hk, hN, hN2⟩ | ⟨hk, rfl, he⟩
  · rw [if_pos (show 103 < kK S arr by rw [hk]; decide)]
    by_cases hfull : n = kN S arr
    · have h10 : n = 10 := by omega
      subst h10
      rw [if_pos (show nI 10 = nI (kN S arr) by rw [← hfull])]
      unfold f_Jx4a65c_grow_d5877 f_Jx4a65c_grow_92f84
      simp only [kK_sI, kQ_sI, kN_sI, kZ_sI, kI_sI, wI_sI, if_true, Option.bind_some, lt, hh, harr, show (up I h 0 (I h 0 + 1)) h 2 = nI 10 by rw [up_ne (Or.inr (by decide))]; exact hsz, if_pos (show 103 < kK S arr by rw [hk]; decide), ← hfull, show (0 : Int32) < nI 10 by decide +kernel]
      rw [show f_J8_newLength_cabcc (sI S (up I h 0 (I h 0 + 1))) (nI 10) (nI 10 + 1 - nI 10) (nI 10 >>> (1 &&& 31)) = some (nI 15) by
        unfold f_J8_newLength_cabcc
        decide +kernel]
      simp only [Option.bind_some]
      have hz1 : arr < kZ S := hP.lt (by rw [hk]; decide)
      have hra : rulesAt (wN S 104 15) arr 10 = true := by
        unfold rulesAt
        rw [List.all_eq_true]
        intro i hi
        have hi := List.mem_range.mp hi
        rw [kQ_wN, if_neg (by omega), (hel i hi).2.2]
        simp only [beq_iff_eq]
        have hk10 := hr rfl i hi
        rw [kK_wN, if_neg (by have := hP.lt (show kK S (as i) ≠ 0 by rw [hk10]; decide); omega)]
        exact hk10
      have hcp : f_J7_copyOf_1904c (sI S (up I h 0 (I h 0 + 1))) arr (nI 15) = some (sI (wC (wN S 104 15) (kZ S) arr 10) (nz (up I h 0 (I h 0 + 1)) (kZ S)), kZ S) := by
        unfold f_J7_copyOf_1904c
        have k1 : kK (wN S 104 15) arr = 104 := by rw [kK_wN, if_neg (by omega)]; exact hk
        have k2 : kK (wN S 104 15) (kZ S) = 104 := by rw [kK_wN, if_pos rfl]
        have k3 : kN (wN S 104 15) arr = 10 := by rw [kN_wN, if_neg (by omega)]; exact hfull.symm
        have k4 : kN (wN S 104 15) (kZ S) = 15 := by rw [kN_wN, if_pos rfl]
        simp only [kK_sI, kZ_sI, lt, hk, if_true, show ¬ nI 15 < 0 ∧ (nI 15).toNatClampNeg ≤ 20 by decide +kernel, show (nI 15).toNatClampNeg = 15 by decide +kernel, wN_sI, k1, k2, kN_sI, k3, k4, show (if nI 15 < nI 10 then nI 15 else nI 10) = nI 10 by decide +kernel, show (nI 10).toNatClampNeg = 10 by decide +kernel]
        have hra2 : rulesAt (sI (wN S 104 15) (nz (up I h 0 (I h 0 + 1)) (kZ S))) arr 10 = true := hra
        simp only [hra2, show ¬ nI 10 < 0 by decide +kernel, wC_sI, not_false_eq_true, true_and, Nat.le_refl, show 10 ≤ 15 by decide, show 15 ≤ 20 by decide, and_self, if_true]
      rw [hcp]
      simp only [Option.bind_some]
      have kh : kK (wC (wN S 104 15) (kZ S) arr 10) h = 3 := by rw [kK_wC, kK_wN, if_neg (by omega)]; exact hh
      have kb : kK (wC (wN S 104 15) (kZ S) arr 10) b = 5 ∨ kK (wC (wN S 104 15) (kZ S) arr 10) b = 7 ∨ kK (wC (wN S 104 15) (kZ S) arr 10) b = 8 ∨ kK (wC (wN S 104 15) (kZ S) arr 10) b = 9 ∨ kK (wC (wN S 104 15) (kZ S) arr 10) b = 10 := by rw [kK_wC, kK_wN, if_neg (by omega)]; exact hb
      have kz : kK (wC (wN S 104 15) (kZ S) arr 10) (kZ S) = 104 := by rw [kK_wC, kK_wN, if_pos rfl]
      have kn : kN (wC (wN S 104 15) (kZ S) arr 10) (kZ S) = 15 := by rw [kN_wC, kN_wN, if_pos rfl]
      simp only [Option.bind_some, kK_sI, kh, if_true, wQ_sI, kN_sI, wI_sI, kK_wQ, kN_wQ, kz, kn, kb, show (nI 10).toNatClampNeg = 10 by decide +kernel, show ¬ (nI 10 < 0 ∨ 15 ≤ 10) by decide +kernel, not_false_eq_true, nI_1]
      -- the grown heap
      have hg1 : gI (wQ (wC (wN S 104 15) (kZ S) arr 10) h 1 (some (kZ S))) := by
        have e : wQ (wC (wN S 104 15) (kZ S) arr 10) h 1 (some (kZ S)) = wC (wQ (wN S 104 15) h 1 (some (kZ S))) (kZ S) arr 10 := by
          have : ∀ x j, (if x = h ∧ j = 1 then some (kZ S) else (if x = kZ S ∧ j < 10 then (wN S 104 15).2.2.2.1 arr j else (wN S 104 15).2.2.2.1 x j)) = (if x = kZ S ∧ j < 10 then (if arr = h ∧ j = 1 then some (kZ S) else (wN S 104 15).2.2.2.1 arr j) else (if x = h ∧ j = 1 then some (kZ S) else (wN S 104 15).2.2.2.1 x j)) := by
            intro x j
            have hah : arr ≠ h := fun z => by rw [z, hh] at hk; cases hk
            by_cases e1 : x = h ∧ j = 1
            · rw [if_pos e1, if_neg (fun z => by omega), if_pos e1]
            · rw [if_neg e1]
              by_cases e2 : x = kZ S ∧ j < 10
              · rw [if_pos e2, if_pos e2, if_neg (fun z => hah z.1)]
              · rw [if_neg e2, if_neg e2, if_neg e1]
          unfold wQ wC
          simp only [Prod.mk.injEq, true_and, and_true]
          funext x j
          exact this x j
        rw [e]
        refine (hg.grow hh).copy ?_ ?_
        · rw [kK_wQ, kK_wN, if_pos rfl]
        · rw [kK_wQ, kK_wN, if_neg (by omega)]; exact hk
      have kq : ∀ a j, kQ (wQ (wC (wN S 104 15) (kZ S) arr 10) h 1 (some (kZ S))) a j = if a = h ∧ j = 1 then some (kZ S) else if a = kZ S ∧ j < 10 then kQ S arr j else if a = kZ S then none else kQ S a j := fun a j => by
        rw [kQ_wQ, kQ_wC, kQ_wN, kQ_wN, if_neg (show ¬ arr = kZ S by omega)]
      obtain ⟨q3, q4, q5⟩ := ls_put (S := wQ (wC (wN S 104 15) (kZ S) arr 10) h 1 (some (kZ S))) (h := h) (n := 10) (arr := kZ S) (b := b) (as := as) hg1 (by rw [kK_wQ]; exact kh) (by rw [kq, if_pos ⟨rfl, rfl⟩]) (by rw [kK_wQ, kK_wC, kK_wN, if_pos rfl]) (by rw [kN_wQ, kN_wC, kN_wN, if_pos rfl]; decide) (Or.inr (by rw [kN_wQ, kN_wC, kN_wN, if_pos rfl])) (fun j hj => by rw [kq, if_neg (fun z => by omega), if_pos ⟨rfl, hj⟩]; exact (hel j hj).2.2) (by rw [kK_wQ, kK_wC, kK_wN, if_neg (by omega)]; exact hb) (fun i j hi hj h1 h2 => hin i j hi hj h1 (by
        have := hP.2.1 arr i (as i) (by rw [hk]; decide) (hel i hi).2.2
        rw [kK_wQ, kK_wC, kK_wN, if_neg (by omega)] at h2
        exact h2)) (fun h9 => hbn (by rw [kK_wQ, kK_wC, kK_wN, if_neg (by omega)] at h9; exact h9))
      have hX1 : Xt S (wQ (wC (wN S 104 15) (kZ S) arr 10) h 1 (some (kZ S))) h 10 := ⟨Nat.le_succ _, fun a ha => ⟨by rw [kK_wQ, kK_wC, kK_wN, if_neg (by omega)], by rw [kN_wQ, kN_wC, kN_wN, if_neg (by omega)], fun j c1 c2 => by rw [kq, if_neg c1, if_neg (by omega), if_neg (by omega)]⟩⟩
      refine ⟨_, _, rfl, q3, hX1.tr hP hh (fun a ha e1 _ => ?_) q4, hIx _ (Nat.le_refl _), q5, up_eq _ _ _ _, fun q hq => Or.inr ?_, fun q hq => ?_⟩
      · rw [kq, if_pos ⟨rfl, rfl⟩] at e1
        cases e1
        omega
      · rw [kQ_wQ, if_neg (fun z => by omega), kq, if_pos ⟨rfl, rfl⟩] at hq
        cases hq
        exact Nat.le_refl _
      · rw [kK_wQ, kK_wQ, kK_wC, kK_wN]
        split
        · decide
        · rw [hP.1 q hq]; decide
    · rw [if_neg (fun z => hfull (nI_inj hn3 (by omega) z))]
      simp only [Option.bind_some, kK_sI, kN_sI, wQ_sI, wI_sI, kK_wQ, hk, hh, hb, if_true, nI_clamp hn3, show ¬ (nI n < 0 ∨ kN S arr ≤ n) from fun z => z.elim (nI_pos hn3) (by omega), not_false_eq_true, nI_1]
      obtain ⟨q3, q4, q5⟩ := ls_put (b := b) hg hh harr hk (show n < kN S arr by omega) hN2 (fun j hj => (hel j hj).2.2) hb hin hbn
      exact ⟨_, _, rfl, q3, q4, fun a j ha hne => by rw [up_ne (Or.inl hne), up_ne (Or.inl hne)], q5, up_eq _ _ _ _, fun q hq => Or.inl (by rw [kQ_wQ, if_neg (fun z => by rw [z.1, hk] at hh; cases hh)] at hq; exact harr.symm.trans hq), fun q hq => by rw [kK_wQ, hP.1 q hq]; decide⟩
  · have hkN : kN S arr = 0 := by
      obtain ⟨e0, z1, z2, z3, z4⟩ := hP.2.2
      rw [he] at z1
      cases z1
      exact z3
    rw [if_pos (show 103 < kK S arr by rw [hk]; decide), hkN, if_pos rfl]
    unfold f_Jx4a65c_grow_d5877 f_Jx4a65c_grow_92f84
    simp only [kK_sI, kQ_sI, kN_sI, kZ_sI, kI_sI, wI_sI, if_true, Option.bind_some, lt, hh, harr, show (up I h 0 (I h 0 + 1)) h 2 = nI 0 by rw [up_ne (Or.inr (by decide))]; exact hsz, if_pos (show 103 < kK S arr by rw [hk]; decide), hkN, show ¬ (0 : Int32) < nI 0 by decide +kernel, if_false, he, show (if 10 < nI 0 + 1 then nI 0 + 1 else (10 : Int32)) = nI 10 by decide +kernel, show ¬ nI 10 < 0 ∧ (nI 10).toNatClampNeg ≤ 20 by decide +kernel, show (nI 10).toNatClampNeg = 10 by decide +kernel, wN_sI]
    have kh : kK (wN S 104 10) h = 3 := by rw [kK_wN, if_neg (by omega)]; exact hh
    have kb : kK (wN S 104 10) b = 5 ∨ kK (wN S 104 10) b = 7 ∨ kK (wN S 104 10) b = 8 ∨ kK (wN S 104 10) b = 9 ∨ kK (wN S 104 10) b = 10 := by rw [kK_wN, if_neg (by omega)]; exact hb
    have kz : kK (wN S 104 10) (kZ S) = 104 := by rw [kK_wN, if_pos rfl]
    have kn : kN (wN S 104 10) (kZ S) = 10 := by rw [kN_wN, if_pos rfl]
    simp only [true_and, show 10 ≤ 20 by decide, kh, if_true, Option.bind_some, wQ_sI, kK_sI, kN_sI, wI_sI, kK_wQ, kN_wQ, kz, kn, kb, kZ_sI, show (nI 0).toNatClampNeg = 0 by decide +kernel, show ¬ (nI 0 < 0 ∨ 10 ≤ 0) by decide +kernel, not_false_eq_true, nI_1]
    have kq : ∀ a j, kQ (wQ (wN S 104 10) h 1 (some (kZ S))) a j = if a = h ∧ j = 1 then some (kZ S) else if a = kZ S then none else kQ S a j := fun a j => by rw [kQ_wQ, kQ_wN]
    obtain ⟨q3, q4, q5⟩ := ls_put (S := wQ (wN S 104 10) h 1 (some (kZ S))) (h := h) (n := 0) (arr := kZ S) (b := b) (as := as) (hg.grow hh) (by rw [kK_wQ]; exact kh) (by rw [kq, if_pos ⟨rfl, rfl⟩]) (by rw [kK_wQ, kK_wN, if_pos rfl]) (by rw [kN_wQ, kN_wN, if_pos rfl]; decide) (Or.inl (by rw [kN_wQ, kN_wN, if_pos rfl])) (fun j hj => absurd hj (Nat.not_lt_zero _)) (by rw [kK_wQ, kK_wN, if_neg (by omega)]; exact hb) (fun i j hi => absurd hi (Nat.not_lt_zero _)) (fun _ j hj => absurd hj (Nat.not_lt_zero _))
    have hX1 : Xt S (wQ (wN S 104 10) h 1 (some (kZ S))) h 0 := ⟨Nat.le_succ _, fun a ha => ⟨by rw [kK_wQ, kK_wN, if_neg (by omega)], by rw [kN_wQ, kN_wN, if_neg (by omega)], fun j c1 c2 => by rw [kq, if_neg c1, if_neg (by omega)]⟩⟩
    refine ⟨_, _, rfl, q3, hX1.tr hP hh (fun a ha e1 _ => ?_) q4, hIx _ (Nat.le_refl _), q5, up_eq _ _ _ _, fun q hq => Or.inr ?_, fun q hq => ?_⟩
    · rw [kq, if_pos ⟨rfl, rfl⟩] at e1
      cases e1
      omega
    · rw [kQ_wQ, if_neg (fun z => by omega), kq, if_pos ⟨rfl, rfl⟩] at hq
      cases hq
      exact Nat.le_refl _
    · rw [kK_wQ, kK_wQ, kK_wN]
      split
      · decide
      · rw [hP.1 q hq]; decide
