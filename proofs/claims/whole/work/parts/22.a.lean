/-! THE MODEL: its fixed cells, by their places behind its object (m) -/
def xK (k : Nat) : Nat := match k with
  | 0 => 14
  | 1 => 102
  | 2 => 101
  | 3 => 102
  | 4 => 101
  | 5 => 102
  | 6 => 101
  | 7 => 101
  | 8 => 102
  | 9 => 103
  | 10 => 101
  | 11 => 101
  | 12 => 102
  | 13 => 101
  | 14 => 101
  | 15 => 102
  | 16 => 101
  | 17 => 102
  | 18 => 101
  | 19 => 103
  | 20 => 101
  | 21 => 101
  | 22 => 101
  | 23 => 101
  | 24 => 101
  | 25 => 101
  | 26 => 103
  | 27 => 101
  | 28 => 101
  | 29 => 103
  | 30 => 101
  | 31 => 103
  | 32 => 101
  | 33 => 101
  | 34 => 101
  | 35 => 101
  | 36 => 101
  | 37 => 102
  | _ => 0
def xN (k : Nat) : Nat := match k with
  | 1 => 161
  | 2 => 161
  | 3 => 20
  | 4 => 12
  | 5 => 720
  | 6 => 36
  | 7 => 36
  | 8 => 12
  | 9 => 12
  | 10 => 12
  | 11 => 12
  | 12 => 720
  | 13 => 36
  | 14 => 12
  | 15 => 480
  | 16 => 24
  | 17 => 160
  | 18 => 8
  | 19 => 48
  | 20 => 48
  | 21 => 4
  | 22 => 4
  | 23 => 80
  | 24 => 80
  | 25 => 80
  | 26 => 644
  | 27 => 160
  | 28 => 160
  | 29 => 160
  | 30 => 161
  | 31 => 161
  | 32 => 2800
  | 33 => 2800
  | 34 => 2800
  | 35 => 2800
  | 36 => 160
  | 37 => 200
  | _ => 0
def xJ (j : Nat) : Nat := match j with
  | 1 => 1
  | 2 => 2
  | 4 => 3
  | 7 => 4
  | 8 => 5
  | 9 => 6
  | 10 => 7
  | 11 => 8
  | 12 => 9
  | 13 => 10
  | 14 => 11
  | 15 => 12
  | 16 => 13
  | 17 => 14
  | 18 => 15
  | 19 => 16
  | 21 => 17
  | 22 => 18
  | 23 => 19
  | 24 => 20
  | 25 => 21
  | 26 => 22
  | 27 => 23
  | 28 => 24
  | 29 => 25
  | 30 => 26
  | 32 => 27
  | 33 => 28
  | 34 => 29
  | 35 => 30
  | 36 => 31
  | 38 => 32
  | 39 => 33
  | 40 => 34
  | 41 => 35
  | 43 => 36
  | 44 => 37
  | _ => 0
def mS (S : PS) (m : Nat) : Prop := (∀ k, k ≤ 37 → kK S (m + k) = xK k) ∧ (∀ k, 1 ≤ k → k ≤ 37 → kN S (m + k) = xN k) ∧ ∀ j, xJ j ≠ 0 → kQ S m j = some (m + xJ j)
/-- the ints: those of the model are G -/
def mw (I : Nat → Nat → Int32) (m : Nat) (G : Nat → Nat → Int32) : Nat → Nat → Int32 := fun a j => if m ≤ a ∧ a ≤ m + 37 then G (a - m) j else I a j
theorem mw_at (I : Nat → Nat → Int32) (m : Nat) (G : Nat → Nat → Int32) {k : Nat} (hk : k ≤ 37) (j : Nat) : mw I m G (m + k) j = G k j := by
  unfold mw; rw [if_pos (by omega), Nat.add_sub_cancel_left]
theorem mw_up (I : Nat → Nat → Int32) (m : Nat) (G : Nat → Nat → Int32) {k : Nat} (hk : k ≤ 37) (j : Nat) (v : Int32) : up (mw I m G) (m + k) j v = mw I m (uF G k j v) := by
  funext a i
  by_cases h : m ≤ a ∧ a ≤ m + 37
  · show (if a = m + k ∧ i = j then v else if m ≤ a ∧ a ≤ m + 37 then G (a - m) i else I a i) = if m ≤ a ∧ a ≤ m + 37 then (if a - m = k ∧ i = j then v else G (a - m) i) else I a i
    rw [if_pos h, if_pos h]
    by_cases e : a = m + k ∧ i = j
    · rw [if_pos e, if_pos (by omega)]
    · rw [if_neg e, if_neg (by omega)]
  · show (if a = m + k ∧ i = j then v else if m ≤ a ∧ a ≤ m + 37 then G (a - m) i else I a i) = if m ≤ a ∧ a ≤ m + 37 then (if a - m = k ∧ i = j then v else G (a - m) i) else I a i
    rw [if_neg h, if_neg h, if_neg (by omega)]
theorem mw_mw (I : Nat → Nat → Int32) (m : Nat) (G G' : Nat → Nat → Int32) : mw (mw I m G) m G' = mw I m G' := by
  funext a i
  unfold mw
  by_cases h : m ≤ a ∧ a ≤ m + 37
  · rw [if_pos h, if_pos h]
  · rw [if_neg h, if_neg h, if_neg h]
theorem mw_self (I : Nat → Nat → Int32) (m : Nat) : mw I m (fun k j => I (m + k) j) = I := by
  funext a i
  unfold mw
  by_cases h : m ≤ a ∧ a ≤ m + 37
  · rw [if_pos h]; show I (m + (a - m)) i = I a i; rw [show m + (a - m) = a by omega]
  · rw [if_neg h]
theorem mw_0 (I : Nat → Nat → Int32) (m : Nat) (G : Nat → Nat → Int32) (j : Nat) : mw I m G m j = G 0 j := mw_at I m G (Nat.zero_le 37) j
theorem mw_up0 (I : Nat → Nat → Int32) (m : Nat) (G : Nat → Nat → Int32) (j : Nat) (v : Int32) : up (mw I m G) m j v = mw I m (uF G 0 j v) := mw_up I m G (Nat.zero_le 37) j v
section
variable {S : PS} {m : Nat}
theorem xK_0 (h : mS S m) : kK S m = 14 := h.1 0 (by decide)
theorem xK_1 (h : mS S m) : kK S (m + 1) = 102 := h.1 1 (by decide)
theorem xN_1 (h : mS S m) : kN S (m + 1) = 161 := h.2.1 1 (by decide) (by decide)
theorem xQ_1 (h : mS S m) : kQ S m 1 = some (m + 1) := h.2.2 1 (by decide)
theorem mw_1 (I : Nat → Nat → Int32) (G : Nat → Nat → Int32) (j : Nat) : mw I m G (m + 1) j = G 1 j := mw_at I m G (by decide) j
theorem mw_up1 (I : Nat → Nat → Int32) (G : Nat → Nat → Int32) (j : Nat) (v : Int32) : up (mw I m G) (m + 1) j v = mw I m (uF G 1 j v) := mw_up I m G (by decide) j v
theorem xK_2 (h : mS S m) : kK S (m + 2) = 101 := h.1 2 (by decide)
theorem xN_2 (h : mS S m) : kN S (m + 2) = 161 := h.2.1 2 (by decide) (by decide)
theorem xQ_2 (h : mS S m) : kQ S m 2 = some (m + 2) := h.2.2 2 (by decide)
theorem mw_2 (I : Nat → Nat → Int32) (G : Nat → Nat → Int32) (j : Nat) : mw I m G (m + 2) j = G 2 j := mw_at I m G (by decide) j
theorem mw_up2 (I : Nat → Nat → Int32) (G : Nat → Nat → Int32) (j : Nat) (v : Int32) : up (mw I m G) (m + 2) j v = mw I m (uF G 2 j v) := mw_up I m G (by decide) j v
theorem xK_3 (h : mS S m) : kK S (m + 3) = 102 := h.1 3 (by decide)
theorem xN_3 (h : mS S m) : kN S (m + 3) = 20 := h.2.1 3 (by decide) (by decide)
theorem xQ_3 (h : mS S m) : kQ S m 4 = some (m + 3) := h.2.2 4 (by decide)
theorem mw_3 (I : Nat → Nat → Int32) (G : Nat → Nat → Int32) (j : Nat) : mw I m G (m + 3) j = G 3 j := mw_at I m G (by decide) j
theorem mw_up3 (I : Nat → Nat → Int32) (G : Nat → Nat → Int32) (j : Nat) (v : Int32) : up (mw I m G) (m + 3) j v = mw I m (uF G 3 j v) := mw_up I m G (by decide) j v
theorem xK_4 (h : mS S m) : kK S (m + 4) = 101 := h.1 4 (by decide)
theorem xN_4 (h : mS S m) : kN S (m + 4) = 12 := h.2.1 4 (by decide) (by decide)
theorem xQ_4 (h : mS S m) : kQ S m 7 = some (m + 4) := h.2.2 7 (by decide)
theorem mw_4 (I : Nat → Nat → Int32) (G : Nat → Nat → Int32) (j : Nat) : mw I m G (m + 4) j = G 4 j := mw_at I m G (by decide) j
theorem mw_up4 (I : Nat → Nat → Int32) (G : Nat → Nat → Int32) (j : Nat) (v : Int32) : up (mw I m G) (m + 4) j v = mw I m (uF G 4 j v) := mw_up I m G (by decide) j v
theorem xK_5 (h : mS S m) : kK S (m + 5) = 102 := h.1 5 (by decide)
theorem xN_5 (h : mS S m) : kN S (m + 5) = 720 := h.2.1 5 (by decide) (by decide)
theorem xQ_5 (h : mS S m) : kQ S m 8 = some (m + 5) := h.2.2 8 (by decide)
theorem mw_5 (I : Nat → Nat → Int32) (G : Nat → Nat → Int32) (j : Nat) : mw I m G (m + 5) j = G 5 j := mw_at I m G (by decide) j
theorem mw_up5 (I : Nat → Nat → Int32) (G : Nat → Nat → Int32) (j : Nat) (v : Int32) : up (mw I m G) (m + 5) j v = mw I m (uF G 5 j v) := mw_up I m G (by decide) j v
theorem xK_6 (h : mS S m) : kK S (m + 6) = 101 := h.1 6 (by decide)
theorem xN_6 (h : mS S m) : kN S (m + 6) = 36 := h.2.1 6 (by decide) (by decide)
theorem xQ_6 (h : mS S m) : kQ S m 9 = some (m + 6) := h.2.2 9 (by decide)
theorem mw_6 (I : Nat → Nat → Int32) (G : Nat → Nat → Int32) (j : Nat) : mw I m G (m + 6) j = G 6 j := mw_at I m G (by decide) j
theorem mw_up6 (I : Nat → Nat → Int32) (G : Nat → Nat → Int32) (j : Nat) (v : Int32) : up (mw I m G) (m + 6) j v = mw I m (uF G 6 j v) := mw_up I m G (by decide) j v
theorem xK_7 (h : mS S m) : kK S (m + 7) = 101 := h.1 7 (by decide)
theorem xN_7 (h : mS S m) : kN S (m + 7) = 36 := h.2.1 7 (by decide) (by decide)
theorem xQ_7 (h : mS S m) : kQ S m 10 = some (m + 7) := h.2.2 10 (by decide)
theorem mw_7 (I : Nat → Nat → Int32) (G : Nat → Nat → Int32) (j : Nat) : mw I m G (m + 7) j = G 7 j := mw_at I m G (by decide) j
theorem mw_up7 (I : Nat → Nat → Int32) (G : Nat → Nat → Int32) (j : Nat) (v : Int32) : up (mw I m G) (m + 7) j v = mw I m (uF G 7 j v) := mw_up I m G (by decide) j v
theorem xK_8 (h : mS S m) : kK S (m + 8) = 102 := h.1 8 (by decide)
theorem xN_8 (h : mS S m) : kN S (m + 8) = 12 := h.2.1 8 (by decide) (by decide)
theorem xQ_8 (h : mS S m) : kQ S m 11 = some (m + 8) := h.2.2 11 (by decide)
theorem mw_8 (I : Nat → Nat → Int32) (G : Nat → Nat → Int32) (j : Nat) : mw I m G (m + 8) j = G 8 j := mw_at I m G (by decide) j
theorem mw_up8 (I : Nat → Nat → Int32) (G : Nat → Nat → Int32) (j : Nat) (v : Int32) : up (mw I m G) (m + 8) j v = mw I m (uF G 8 j v) := mw_up I m G (by decide) j v
theorem xK_9 (h : mS S m) : kK S (m + 9) = 103 := h.1 9 (by decide)
theorem xN_9 (h : mS S m) : kN S (m + 9) = 12 := h.2.1 9 (by decide) (by decide)
theorem xQ_9 (h : mS S m) : kQ S m 12 = some (m + 9) := h.2.2 12 (by decide)
theorem mw_9 (I : Nat → Nat → Int32) (G : Nat → Nat → Int32) (j : Nat) : mw I m G (m + 9) j = G 9 j := mw_at I m G (by decide) j
theorem mw_up9 (I : Nat → Nat → Int32) (G : Nat → Nat → Int32) (j : Nat) (v : Int32) : up (mw I m G) (m + 9) j v = mw I m (uF G 9 j v) := mw_up I m G (by decide) j v
theorem xK_10 (h : mS S m) : kK S (m + 10) = 101 := h.1 10 (by decide)
theorem xN_10 (h : mS S m) : kN S (m + 10) = 12 := h.2.1 10 (by decide) (by decide)
theorem xQ_10 (h : mS S m) : kQ S m 13 = some (m + 10) := h.2.2 13 (by decide)
theorem mw_10 (I : Nat → Nat → Int32) (G : Nat → Nat → Int32) (j : Nat) : mw I m G (m + 10) j = G 10 j := mw_at I m G (by decide) j
theorem mw_up10 (I : Nat → Nat → Int32) (G : Nat → Nat → Int32) (j : Nat) (v : Int32) : up (mw I m G) (m + 10) j v = mw I m (uF G 10 j v) := mw_up I m G (by decide) j v
theorem xK_11 (h : mS S m) : kK S (m + 11) = 101 := h.1 11 (by decide)
theorem xN_11 (h : mS S m) : kN S (m + 11) = 12 := h.2.1 11 (by decide) (by decide)
theorem xQ_11 (h : mS S m) : kQ S m 14 = some (m + 11) := h.2.2 14 (by decide)
theorem mw_11 (I : Nat → Nat → Int32) (G : Nat → Nat → Int32) (j : Nat) : mw I m G (m + 11) j = G 11 j := mw_at I m G (by decide) j
theorem mw_up11 (I : Nat → Nat → Int32) (G : Nat → Nat → Int32) (j : Nat) (v : Int32) : up (mw I m G) (m + 11) j v = mw I m (uF G 11 j v) := mw_up I m G (by decide) j v
theorem xK_12 (h : mS S m) : kK S (m + 12) = 102 := h.1 12 (by decide)
theorem xN_12 (h : mS S m) : kN S (m + 12) = 720 := h.2.1 12 (by decide) (by decide)
theorem xQ_12 (h : mS S m) : kQ S m 15 = some (m + 12) := h.2.2 15 (by decide)
theorem mw_12 (I : Nat → Nat → Int32) (G : Nat → Nat → Int32) (j : Nat) : mw I m G (m + 12) j = G 12 j := mw_at I m G (by decide) j
theorem mw_up12 (I : Nat → Nat → Int32) (G : Nat → Nat → Int32) (j : Nat) (v : Int32) : up (mw I m G) (m + 12) j v = mw I m (uF G 12 j v) := mw_up I m G (by decide) j v
theorem xK_13 (h : mS S m) : kK S (m + 13) = 101 := h.1 13 (by decide)
theorem xN_13 (h : mS S m) : kN S (m + 13) = 36 := h.2.1 13 (by decide) (by decide)
theorem xQ_13 (h : mS S m) : kQ S m 16 = some (m + 13) := h.2.2 16 (by decide)
theorem mw_13 (I : Nat → Nat → Int32) (G : Nat → Nat → Int32) (j : Nat) : mw I m G (m + 13) j = G 13 j := mw_at I m G (by decide) j
theorem mw_up13 (I : Nat → Nat → Int32) (G : Nat → Nat → Int32) (j : Nat) (v : Int32) : up (mw I m G) (m + 13) j v = mw I m (uF G 13 j v) := mw_up I m G (by decide) j v
theorem xK_14 (h : mS S m) : kK S (m + 14) = 101 := h.1 14 (by decide)
theorem xN_14 (h : mS S m) : kN S (m + 14) = 12 := h.2.1 14 (by decide) (by decide)
theorem xQ_14 (h : mS S m) : kQ S m 17 = some (m + 14) := h.2.2 17 (by decide)
theorem mw_14 (I : Nat → Nat → Int32) (G : Nat → Nat → Int32) (j : Nat) : mw I m G (m + 14) j = G 14 j := mw_at I m G (by decide) j
theorem mw_up14 (I : Nat → Nat → Int32) (G : Nat → Nat → Int32) (j : Nat) (v : Int32) : up (mw I m G) (m + 14) j v = mw I m (uF G 14 j v) := mw_up I m G (by decide) j v
theorem xK_15 (h : mS S m) : kK S (m + 15) = 102 := h.1 15 (by decide)
theorem xN_15 (h : mS S m) : kN S (m + 15) = 480 := h.2.1 15 (by decide) (by decide)
theorem xQ_15 (h : mS S m) : kQ S m 18 = some (m + 15) := h.2.2 18 (by decide)
theorem mw_15 (I : Nat → Nat → Int32) (G : Nat → Nat → Int32) (j : Nat) : mw I m G (m + 15) j = G 15 j := mw_at I m G (by decide) j
theorem mw_up15 (I : Nat → Nat → Int32) (G : Nat → Nat → Int32) (j : Nat) (v : Int32) : up (mw I m G) (m + 15) j v = mw I m (uF G 15 j v) := mw_up I m G (by decide) j v
theorem xK_16 (h : mS S m) : kK S (m + 16) = 101 := h.1 16 (by decide)
theorem xN_16 (h : mS S m) : kN S (m + 16) = 24 := h.2.1 16 (by decide) (by decide)
theorem xQ_16 (h : mS S m) : kQ S m 19 = some (m + 16) := h.2.2 19 (by decide)
theorem mw_16 (I : Nat → Nat → Int32) (G : Nat → Nat → Int32) (j : Nat) : mw I m G (m + 16) j = G 16 j := mw_at I m G (by decide) j
theorem mw_up16 (I : Nat → Nat → Int32) (G : Nat → Nat → Int32) (j : Nat) (v : Int32) : up (mw I m G) (m + 16) j v = mw I m (uF G 16 j v) := mw_up I m G (by decide) j v
theorem xK_17 (h : mS S m) : kK S (m + 17) = 102 := h.1 17 (by decide)
theorem xN_17 (h : mS S m) : kN S (m + 17) = 160 := h.2.1 17 (by decide) (by decide)
theorem xQ_17 (h : mS S m) : kQ S m 21 = some (m + 17) := h.2.2 21 (by decide)
theorem mw_17 (I : Nat → Nat → Int32) (G : Nat → Nat → Int32) (j : Nat) : mw I m G (m + 17) j = G 17 j := mw_at I m G (by decide) j
theorem mw_up17 (I : Nat → Nat → Int32) (G : Nat → Nat → Int32) (j : Nat) (v : Int32) : up (mw I m G) (m + 17) j v = mw I m (uF G 17 j v) := mw_up I m G (by decide) j v
theorem xK_18 (h : mS S m) : kK S (m + 18) = 101 := h.1 18 (by decide)
theorem xN_18 (h : mS S m) : kN S (m + 18) = 8 := h.2.1 18 (by decide) (by decide)
theorem xQ_18 (h : mS S m) : kQ S m 22 = some (m + 18) := h.2.2 22 (by decide)
theorem mw_18 (I : Nat → Nat → Int32) (G : Nat → Nat → Int32) (j : Nat) : mw I m G (m + 18) j = G 18 j := mw_at I m G (by decide) j
theorem mw_up18 (I : Nat → Nat → Int32) (G : Nat → Nat → Int32) (j : Nat) (v : Int32) : up (mw I m G) (m + 18) j v = mw I m (uF G 18 j v) := mw_up I m G (by decide) j v
theorem xK_19 (h : mS S m) : kK S (m + 19) = 103 := h.1 19 (by decide)
theorem xN_19 (h : mS S m) : kN S (m + 19) = 48 := h.2.1 19 (by decide) (by decide)
theorem xQ_19 (h : mS S m) : kQ S m 23 = some (m + 19) := h.2.2 23 (by decide)
theorem mw_19 (I : Nat → Nat → Int32) (G : Nat → Nat → Int32) (j : Nat) : mw I m G (m + 19) j = G 19 j := mw_at I m G (by decide) j
theorem mw_up19 (I : Nat → Nat → Int32) (G : Nat → Nat → Int32) (j : Nat) (v : Int32) : up (mw I m G) (m + 19) j v = mw I m (uF G 19 j v) := mw_up I m G (by decide) j v
theorem xK_20 (h : mS S m) : kK S (m + 20) = 101 := h.1 20 (by decide)
theorem xN_20 (h : mS S m) : kN S (m + 20) = 48 := h.2.1 20 (by decide) (by decide)
theorem xQ_20 (h : mS S m) : kQ S m 24 = some (m + 20) := h.2.2 24 (by decide)
theorem mw_20 (I : Nat → Nat → Int32) (G : Nat → Nat → Int32) (j : Nat) : mw I m G (m + 20) j = G 20 j := mw_at I m G (by decide) j
theorem mw_up20 (I : Nat → Nat → Int32) (G : Nat → Nat → Int32) (j : Nat) (v : Int32) : up (mw I m G) (m + 20) j v = mw I m (uF G 20 j v) := mw_up I m G (by decide) j v
theorem xK_21 (h : mS S m) : kK S (m + 21) = 101 := h.1 21 (by decide)
theorem xN_21 (h : mS S m) : kN S (m + 21) = 4 := h.2.1 21 (by decide) (by decide)
theorem xQ_21 (h : mS S m) : kQ S m 25 = some (m + 21) := h.2.2 25 (by decide)
theorem mw_21 (I : Nat → Nat → Int32) (G : Nat → Nat → Int32) (j : Nat) : mw I m G (m + 21) j = G 21 j := mw_at I m G (by decide) j
theorem mw_up21 (I : Nat → Nat → Int32) (G : Nat → Nat → Int32) (j : Nat) (v : Int32) : up (mw I m G) (m + 21) j v = mw I m (uF G 21 j v) := mw_up I m G (by decide) j v
theorem xK_22 (h : mS S m) : kK S (m + 22) = 101 := h.1 22 (by decide)
theorem xN_22 (h : mS S m) : kN S (m + 22) = 4 := h.2.1 22 (by decide) (by decide)
theorem xQ_22 (h : mS S m) : kQ S m 26 = some (m + 22) := h.2.2 26 (by decide)
theorem mw_22 (I : Nat → Nat → Int32) (G : Nat → Nat → Int32) (j : Nat) : mw I m G (m + 22) j = G 22 j := mw_at I m G (by decide) j
theorem mw_up22 (I : Nat → Nat → Int32) (G : Nat → Nat → Int32) (j : Nat) (v : Int32) : up (mw I m G) (m + 22) j v = mw I m (uF G 22 j v) := mw_up I m G (by decide) j v
theorem xK_23 (h : mS S m) : kK S (m + 23) = 101 := h.1 23 (by decide)
theorem xN_23 (h : mS S m) : kN S (m + 23) = 80 := h.2.1 23 (by decide) (by decide)
theorem xQ_23 (h : mS S m) : kQ S m 27 = some (m + 23) := h.2.2 27 (by decide)
theorem mw_23 (I : Nat → Nat → Int32) (G : Nat → Nat → Int32) (j : Nat) : mw I m G (m + 23) j = G 23 j := mw_at I m G (by decide) j
theorem mw_up23 (I : Nat → Nat → Int32) (G : Nat → Nat → Int32) (j : Nat) (v : Int32) : up (mw I m G) (m + 23) j v = mw I m (uF G 23 j v) := mw_up I m G (by decide) j v
theorem xK_24 (h : mS S m) : kK S (m + 24) = 101 := h.1 24 (by decide)
theorem xN_24 (h : mS S m) : kN S (m + 24) = 80 := h.2.1 24 (by decide) (by decide)
theorem xQ_24 (h : mS S m) : kQ S m 28 = some (m + 24) := h.2.2 28 (by decide)
theorem mw_24 (I : Nat → Nat → Int32) (G : Nat → Nat → Int32) (j : Nat) : mw I m G (m + 24) j = G 24 j := mw_at I m G (by decide) j
theorem mw_up24 (I : Nat → Nat → Int32) (G : Nat → Nat → Int32) (j : Nat) (v : Int32) : up (mw I m G) (m + 24) j v = mw I m (uF G 24 j v) := mw_up I m G (by decide) j v
theorem xK_25 (h : mS S m) : kK S (m + 25) = 101 := h.1 25 (by decide)
theorem xN_25 (h : mS S m) : kN S (m + 25) = 80 := h.2.1 25 (by decide) (by decide)
theorem xQ_25 (h : mS S m) : kQ S m 29 = some (m + 25) := h.2.2 29 (by decide)
theorem mw_25 (I : Nat → Nat → Int32) (G : Nat → Nat → Int32) (j : Nat) : mw I m G (m + 25) j = G 25 j := mw_at I m G (by decide) j
theorem mw_up25 (I : Nat → Nat → Int32) (G : Nat → Nat → Int32) (j : Nat) (v : Int32) : up (mw I m G) (m + 25) j v = mw I m (uF G 25 j v) := mw_up I m G (by decide) j v
theorem xK_26 (h : mS S m) : kK S (m + 26) = 103 := h.1 26 (by decide)
theorem xN_26 (h : mS S m) : kN S (m + 26) = 644 := h.2.1 26 (by decide) (by decide)
theorem xQ_26 (h : mS S m) : kQ S m 30 = some (m + 26) := h.2.2 30 (by decide)
theorem mw_26 (I : Nat → Nat → Int32) (G : Nat → Nat → Int32) (j : Nat) : mw I m G (m + 26) j = G 26 j := mw_at I m G (by decide) j
theorem mw_up26 (I : Nat → Nat → Int32) (G : Nat → Nat → Int32) (j : Nat) (v : Int32) : up (mw I m G) (m + 26) j v = mw I m (uF G 26 j v) := mw_up I m G (by decide) j v
theorem xK_27 (h : mS S m) : kK S (m + 27) = 101 := h.1 27 (by decide)
theorem xN_27 (h : mS S m) : kN S (m + 27) = 160 := h.2.1 27 (by decide) (by decide)
theorem xQ_27 (h : mS S m) : kQ S m 32 = some (m + 27) := h.2.2 32 (by decide)
theorem mw_27 (I : Nat → Nat → Int32) (G : Nat → Nat → Int32) (j : Nat) : mw I m G (m + 27) j = G 27 j := mw_at I m G (by decide) j
theorem mw_up27 (I : Nat → Nat → Int32) (G : Nat → Nat → Int32) (j : Nat) (v : Int32) : up (mw I m G) (m + 27) j v = mw I m (uF G 27 j v) := mw_up I m G (by decide) j v
theorem xK_28 (h : mS S m) : kK S (m + 28) = 101 := h.1 28 (by decide)
theorem xN_28 (h : mS S m) : kN S (m + 28) = 160 := h.2.1 28 (by decide) (by decide)
theorem xQ_28 (h : mS S m) : kQ S m 33 = some (m + 28) := h.2.2 33 (by decide)
theorem mw_28 (I : Nat → Nat → Int32) (G : Nat → Nat → Int32) (j : Nat) : mw I m G (m + 28) j = G 28 j := mw_at I m G (by decide) j
theorem mw_up28 (I : Nat → Nat → Int32) (G : Nat → Nat → Int32) (j : Nat) (v : Int32) : up (mw I m G) (m + 28) j v = mw I m (uF G 28 j v) := mw_up I m G (by decide) j v
theorem xK_29 (h : mS S m) : kK S (m + 29) = 103 := h.1 29 (by decide)
theorem xN_29 (h : mS S m) : kN S (m + 29) = 160 := h.2.1 29 (by decide) (by decide)
theorem xQ_29 (h : mS S m) : kQ S m 34 = some (m + 29) := h.2.2 34 (by decide)
theorem mw_29 (I : Nat → Nat → Int32) (G : Nat → Nat → Int32) (j : Nat) : mw I m G (m + 29) j = G 29 j := mw_at I m G (by decide) j
theorem mw_up29 (I : Nat → Nat → Int32) (G : Nat → Nat → Int32) (j : Nat) (v : Int32) : up (mw I m G) (m + 29) j v = mw I m (uF G 29 j v) := mw_up I m G (by decide) j v
theorem xK_30 (h : mS S m) : kK S (m + 30) = 101 := h.1 30 (by decide)
theorem xN_30 (h : mS S m) : kN S (m + 30) = 161 := h.2.1 30 (by decide) (by decide)
theorem xQ_30 (h : mS S m) : kQ S m 35 = some (m + 30) := h.2.2 35 (by decide)
theorem mw_30 (I : Nat → Nat → Int32) (G : Nat → Nat → Int32) (j : Nat) : mw I m G (m + 30) j = G 30 j := mw_at I m G (by decide) j
theorem mw_up30 (I : Nat → Nat → Int32) (G : Nat → Nat → Int32) (j : Nat) (v : Int32) : up (mw I m G) (m + 30) j v = mw I m (uF G 30 j v) := mw_up I m G (by decide) j v
theorem xK_31 (h : mS S m) : kK S (m + 31) = 103 := h.1 31 (by decide)
theorem xN_31 (h : mS S m) : kN S (m + 31) = 161 := h.2.1 31 (by decide) (by decide)
theorem xQ_31 (h : mS S m) : kQ S m 36 = some (m + 31) := h.2.2 36 (by decide)
theorem mw_31 (I : Nat → Nat → Int32) (G : Nat → Nat → Int32) (j : Nat) : mw I m G (m + 31) j = G 31 j := mw_at I m G (by decide) j
theorem mw_up31 (I : Nat → Nat → Int32) (G : Nat → Nat → Int32) (j : Nat) (v : Int32) : up (mw I m G) (m + 31) j v = mw I m (uF G 31 j v) := mw_up I m G (by decide) j v
theorem xK_32 (h : mS S m) : kK S (m + 32) = 101 := h.1 32 (by decide)
theorem xN_32 (h : mS S m) : kN S (m + 32) = 2800 := h.2.1 32 (by decide) (by decide)
theorem xQ_32 (h : mS S m) : kQ S m 38 = some (m + 32) := h.2.2 38 (by decide)
theorem mw_32 (I : Nat → Nat → Int32) (G : Nat → Nat → Int32) (j : Nat) : mw I m G (m + 32) j = G 32 j := mw_at I m G (by decide) j
theorem mw_up32 (I : Nat → Nat → Int32) (G : Nat → Nat → Int32) (j : Nat) (v : Int32) : up (mw I m G) (m + 32) j v = mw I m (uF G 32 j v) := mw_up I m G (by decide) j v
theorem xK_33 (h : mS S m) : kK S (m + 33) = 101 := h.1 33 (by decide)
theorem xN_33 (h : mS S m) : kN S (m + 33) = 2800 := h.2.1 33 (by decide) (by decide)
theorem xQ_33 (h : mS S m) : kQ S m 39 = some (m + 33) := h.2.2 39 (by decide)
theorem mw_33 (I : Nat → Nat → Int32) (G : Nat → Nat → Int32) (j : Nat) : mw I m G (m + 33) j = G 33 j := mw_at I m G (by decide) j
theorem mw_up33 (I : Nat → Nat → Int32) (G : Nat → Nat → Int32) (j : Nat) (v : Int32) : up (mw I m G) (m + 33) j v = mw I m (uF G 33 j v) := mw_up I m G (by decide) j v
theorem xK_34 (h : mS S m) : kK S (m + 34) = 101 := h.1 34 (by decide)
theorem xN_34 (h : mS S m) : kN S (m + 34) = 2800 := h.2.1 34 (by decide) (by decide)
theorem xQ_34 (h : mS S m) : kQ S m 40 = some (m + 34) := h.2.2 40 (by decide)
theorem mw_34 (I : Nat → Nat → Int32) (G : Nat → Nat → Int32) (j : Nat) : mw I m G (m + 34) j = G 34 j := mw_at I m G (by decide) j
theorem mw_up34 (I : Nat → Nat → Int32) (G : Nat → Nat → Int32) (j : Nat) (v : Int32) : up (mw I m G) (m + 34) j v = mw I m (uF G 34 j v) := mw_up I m G (by decide) j v
theorem xK_35 (h : mS S m) : kK S (m + 35) = 101 := h.1 35 (by decide)
theorem xN_35 (h : mS S m) : kN S (m + 35) = 2800 := h.2.1 35 (by decide) (by decide)
theorem xQ_35 (h : mS S m) : kQ S m 41 = some (m + 35) := h.2.2 41 (by decide)
theorem mw_35 (I : Nat → Nat → Int32) (G : Nat → Nat → Int32) (j : Nat) : mw I m G (m + 35) j = G 35 j := mw_at I m G (by decide) j
theorem mw_up35 (I : Nat → Nat → Int32) (G : Nat → Nat → Int32) (j : Nat) (v : Int32) : up (mw I m G) (m + 35) j v = mw I m (uF G 35 j v) := mw_up I m G (by decide) j v
theorem xK_36 (h : mS S m) : kK S (m + 36) = 101 := h.1 36 (by decide)
theorem xN_36 (h : mS S m) : kN S (m + 36) = 160 := h.2.1 36 (by decide) (by decide)
theorem xQ_36 (h : mS S m) : kQ S m 43 = some (m + 36) := h.2.2 43 (by decide)
theorem mw_36 (I : Nat → Nat → Int32) (G : Nat → Nat → Int32) (j : Nat) : mw I m G (m + 36) j = G 36 j := mw_at I m G (by decide) j
theorem mw_up36 (I : Nat → Nat → Int32) (G : Nat → Nat → Int32) (j : Nat) (v : Int32) : up (mw I m G) (m + 36) j v = mw I m (uF G 36 j v) := mw_up I m G (by decide) j v
theorem xK_37 (h : mS S m) : kK S (m + 37) = 102 := h.1 37 (by decide)
theorem xN_37 (h : mS S m) : kN S (m + 37) = 200 := h.2.1 37 (by decide) (by decide)
theorem xQ_37 (h : mS S m) : kQ S m 44 = some (m + 37) := h.2.2 44 (by decide)
theorem mw_37 (I : Nat → Nat → Int32) (G : Nat → Nat → Int32) (j : Nat) : mw I m G (m + 37) j = G 37 j := mw_at I m G (by decide) j
theorem mw_up37 (I : Nat → Nat → Int32) (G : Nat → Nat → Int32) (j : Nat) (v : Int32) : up (mw I m G) (m + 37) j v = mw I m (uF G 37 j v) := mw_up I m G (by decide) j v
end
/-- an index in its bounds -/
theorem bd {n N : Nat} (h : n < N) (hN : n < 2 ^ 31) : ¬ (nI n < 0 ∨ N ≤ (nI n).toNatClampNeg) := by
  rw [nI_clamp hN]
  exact fun z => z.elim (nI_pos hN) (by omega)
