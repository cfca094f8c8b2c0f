/-! THE CLASS: its fixed cells, by their places behind the first one (x) -/
def kT (k : Nat) : Nat := match k with
  | 0 => 13
  | 3 => 11
  | 10 => 12
  | 25 => 4
  | 26 => 3
  | 27 => 3
  | 30 => 3
  | 31 => 5
  | 40 => 104
  | 41 => 5
  | 50 => 5
  | 59 => 5
  | 68 => 6
  | _ => 0
def qT (k j : Nat) : Nat := match k, j with
  | 0, 0 => 1
  | 0, 1 => 3
  | 0, 2 => 10
  | 0, 3 => 25
  | 0, 4 => 30
  | 0, 5 => 68
  | 0, 6 => 77
  | 3, 0 => 4
  | 3, 1 => 6
  | 3, 2 => 8
  | 10, 0 => 4
  | 10, 1 => 11
  | 10, 2 => 13
  | 10, 3 => 15
  | 10, 4 => 17
  | 10, 5 => 19
  | 10, 6 => 21
  | 10, 7 => 23
  | 25, 0 => 26
  | 25, 1 => 27
  | 25, 2 => 28
  | 30, 1 => 40
  | 31, 0 => 32
  | 31, 1 => 34
  | 31, 2 => 36
  | 31, 3 => 38
  | 40, 0 => 31
  | 40, 1 => 41
  | 40, 2 => 50
  | 40, 3 => 59
  | 41, 0 => 42
  | 41, 1 => 44
  | 41, 2 => 46
  | 41, 3 => 48
  | 50, 0 => 51
  | 50, 1 => 53
  | 50, 2 => 55
  | 50, 3 => 57
  | 59, 0 => 60
  | 59, 1 => 62
  | 59, 2 => 64
  | 59, 3 => 66
  | 68, 0 => 25
  | 68, 1 => 10
  | 68, 2 => 69
  | 68, 3 => 71
  | 68, 4 => 73
  | 68, 5 => 75
  | _, _ => 0
def capT (k : Nat) : Nat := match k with
  | 1 => 20
  | 4 => 160
  | 6 => 160
  | 8 => 161
  | 11 => 160
  | 13 => 160
  | 15 => 160
  | 17 => 160
  | 19 => 160
  | 21 => 160
  | 23 => 160
  | 28 => 160
  | 32 => 12
  | 34 => 20
  | 36 => 20
  | 38 => 20
  | 42 => 12
  | 44 => 20
  | 46 => 20
  | 48 => 20
  | 51 => 12
  | 53 => 20
  | 55 => 20
  | 57 => 20
  | 60 => 12
  | 62 => 20
  | 64 => 20
  | 66 => 20
  | 69 => 160
  | 71 => 160
  | 73 => 160
  | 75 => 160
  | 77 => 180
  | _ => 0
def objT (k : Nat) : Bool := match k with
  | 0 => true
  | 10 => true
  | 26 => true
  | 27 => true
  | 30 => true
  | 31 => true
  | 41 => true
  | 50 => true
  | 59 => true
  | _ => false
def dO (d : Nat) : Nat := match d with
  | 0 => 31
  | 1 => 41
  | 2 => 50
  | _ => 59
def cS (S : PS) (x : Nat) : Prop := (∀ k, kT k ≠ 0 → kK S (x + k) = kT k) ∧ (∀ k j, qT k j ≠ 0 → kQ S (x + k) j = some (x + qT k j)) ∧ (∀ k, capT k ≠ 0 → rS S (x + k) (capT k)) ∧ kN S (x + 40) = 10
section
variable {S : PS} {x : Nat}
theorem cK_0 (h : cS S x) : kK S x = 13 := h.1 0 (by decide)
theorem cK_3 (h : cS S x) : kK S (x + 3) = 11 := h.1 3 (by decide)
theorem cK_10 (h : cS S x) : kK S (x + 10) = 12 := h.1 10 (by decide)
theorem cK_25 (h : cS S x) : kK S (x + 25) = 4 := h.1 25 (by decide)
theorem cK_26 (h : cS S x) : kK S (x + 26) = 3 := h.1 26 (by decide)
theorem cK_27 (h : cS S x) : kK S (x + 27) = 3 := h.1 27 (by decide)
theorem cK_30 (h : cS S x) : kK S (x + 30) = 3 := h.1 30 (by decide)
theorem cK_31 (h : cS S x) : kK S (x + 31) = 5 := h.1 31 (by decide)
theorem cK_40 (h : cS S x) : kK S (x + 40) = 104 := h.1 40 (by decide)
theorem cK_41 (h : cS S x) : kK S (x + 41) = 5 := h.1 41 (by decide)
theorem cK_50 (h : cS S x) : kK S (x + 50) = 5 := h.1 50 (by decide)
theorem cK_59 (h : cS S x) : kK S (x + 59) = 5 := h.1 59 (by decide)
theorem cK_68 (h : cS S x) : kK S (x + 68) = 6 := h.1 68 (by decide)
theorem cQ_0_0 (h : cS S x) : kQ S x 0 = some (x + 1) := h.2.1 0 0 (by decide)
theorem cQ_0_1 (h : cS S x) : kQ S x 1 = some (x + 3) := h.2.1 0 1 (by decide)
theorem cQ_0_2 (h : cS S x) : kQ S x 2 = some (x + 10) := h.2.1 0 2 (by decide)
theorem cQ_0_3 (h : cS S x) : kQ S x 3 = some (x + 25) := h.2.1 0 3 (by decide)
theorem cQ_0_4 (h : cS S x) : kQ S x 4 = some (x + 30) := h.2.1 0 4 (by decide)
theorem cQ_0_5 (h : cS S x) : kQ S x 5 = some (x + 68) := h.2.1 0 5 (by decide)
theorem cQ_0_6 (h : cS S x) : kQ S x 6 = some (x + 77) := h.2.1 0 6 (by decide)
theorem cQ_3_0 (h : cS S x) : kQ S (x + 3) 0 = some (x + 4) := h.2.1 3 0 (by decide)
theorem cQ_3_1 (h : cS S x) : kQ S (x + 3) 1 = some (x + 6) := h.2.1 3 1 (by decide)
theorem cQ_3_2 (h : cS S x) : kQ S (x + 3) 2 = some (x + 8) := h.2.1 3 2 (by decide)
theorem cQ_10_0 (h : cS S x) : kQ S (x + 10) 0 = some (x + 4) := h.2.1 10 0 (by decide)
theorem cQ_10_1 (h : cS S x) : kQ S (x + 10) 1 = some (x + 11) := h.2.1 10 1 (by decide)
theorem cQ_10_2 (h : cS S x) : kQ S (x + 10) 2 = some (x + 13) := h.2.1 10 2 (by decide)
theorem cQ_10_3 (h : cS S x) : kQ S (x + 10) 3 = some (x + 15) := h.2.1 10 3 (by decide)
theorem cQ_10_4 (h : cS S x) : kQ S (x + 10) 4 = some (x + 17) := h.2.1 10 4 (by decide)
theorem cQ_10_5 (h : cS S x) : kQ S (x + 10) 5 = some (x + 19) := h.2.1 10 5 (by decide)
theorem cQ_10_6 (h : cS S x) : kQ S (x + 10) 6 = some (x + 21) := h.2.1 10 6 (by decide)
theorem cQ_10_7 (h : cS S x) : kQ S (x + 10) 7 = some (x + 23) := h.2.1 10 7 (by decide)
theorem cQ_25_0 (h : cS S x) : kQ S (x + 25) 0 = some (x + 26) := h.2.1 25 0 (by decide)
theorem cQ_25_1 (h : cS S x) : kQ S (x + 25) 1 = some (x + 27) := h.2.1 25 1 (by decide)
theorem cQ_25_2 (h : cS S x) : kQ S (x + 25) 2 = some (x + 28) := h.2.1 25 2 (by decide)
theorem cQ_30_1 (h : cS S x) : kQ S (x + 30) 1 = some (x + 40) := h.2.1 30 1 (by decide)
theorem cQ_31_0 (h : cS S x) : kQ S (x + 31) 0 = some (x + 32) := h.2.1 31 0 (by decide)
theorem cQ_31_1 (h : cS S x) : kQ S (x + 31) 1 = some (x + 34) := h.2.1 31 1 (by decide)
theorem cQ_31_2 (h : cS S x) : kQ S (x + 31) 2 = some (x + 36) := h.2.1 31 2 (by decide)
theorem cQ_31_3 (h : cS S x) : kQ S (x + 31) 3 = some (x + 38) := h.2.1 31 3 (by decide)
theorem cQ_40_0 (h : cS S x) : kQ S (x + 40) 0 = some (x + 31) := h.2.1 40 0 (by decide)
theorem cQ_40_1 (h : cS S x) : kQ S (x + 40) 1 = some (x + 41) := h.2.1 40 1 (by decide)
theorem cQ_40_2 (h : cS S x) : kQ S (x + 40) 2 = some (x + 50) := h.2.1 40 2 (by decide)
theorem cQ_40_3 (h : cS S x) : kQ S (x + 40) 3 = some (x + 59) := h.2.1 40 3 (by decide)
theorem cQ_41_0 (h : cS S x) : kQ S (x + 41) 0 = some (x + 42) := h.2.1 41 0 (by decide)
theorem cQ_41_1 (h : cS S x) : kQ S (x + 41) 1 = some (x + 44) := h.2.1 41 1 (by decide)
theorem cQ_41_2 (h : cS S x) : kQ S (x + 41) 2 = some (x + 46) := h.2.1 41 2 (by decide)
theorem cQ_41_3 (h : cS S x) : kQ S (x + 41) 3 = some (x + 48) := h.2.1 41 3 (by decide)
theorem cQ_50_0 (h : cS S x) : kQ S (x + 50) 0 = some (x + 51) := h.2.1 50 0 (by decide)
theorem cQ_50_1 (h : cS S x) : kQ S (x + 50) 1 = some (x + 53) := h.2.1 50 1 (by decide)
theorem cQ_50_2 (h : cS S x) : kQ S (x + 50) 2 = some (x + 55) := h.2.1 50 2 (by decide)
theorem cQ_50_3 (h : cS S x) : kQ S (x + 50) 3 = some (x + 57) := h.2.1 50 3 (by decide)
theorem cQ_59_0 (h : cS S x) : kQ S (x + 59) 0 = some (x + 60) := h.2.1 59 0 (by decide)
theorem cQ_59_1 (h : cS S x) : kQ S (x + 59) 1 = some (x + 62) := h.2.1 59 1 (by decide)
theorem cQ_59_2 (h : cS S x) : kQ S (x + 59) 2 = some (x + 64) := h.2.1 59 2 (by decide)
theorem cQ_59_3 (h : cS S x) : kQ S (x + 59) 3 = some (x + 66) := h.2.1 59 3 (by decide)
theorem cQ_68_0 (h : cS S x) : kQ S (x + 68) 0 = some (x + 25) := h.2.1 68 0 (by decide)
theorem cQ_68_1 (h : cS S x) : kQ S (x + 68) 1 = some (x + 10) := h.2.1 68 1 (by decide)
theorem cQ_68_2 (h : cS S x) : kQ S (x + 68) 2 = some (x + 69) := h.2.1 68 2 (by decide)
theorem cQ_68_3 (h : cS S x) : kQ S (x + 68) 3 = some (x + 71) := h.2.1 68 3 (by decide)
theorem cQ_68_4 (h : cS S x) : kQ S (x + 68) 4 = some (x + 73) := h.2.1 68 4 (by decide)
theorem cQ_68_5 (h : cS S x) : kQ S (x + 68) 5 = some (x + 75) := h.2.1 68 5 (by decide)
theorem cR_1 (h : cS S x) : rS S (x + 1) 20 := h.2.2.1 1 (by decide)
theorem cR9_1 (h : cS S x) : kK S (x + 1) = 9 := (h.2.2.1 1 (by decide)).1
theorem cR_4 (h : cS S x) : rS S (x + 4) 160 := h.2.2.1 4 (by decide)
theorem cR9_4 (h : cS S x) : kK S (x + 4) = 9 := (h.2.2.1 4 (by decide)).1
theorem cR_6 (h : cS S x) : rS S (x + 6) 160 := h.2.2.1 6 (by decide)
theorem cR9_6 (h : cS S x) : kK S (x + 6) = 9 := (h.2.2.1 6 (by decide)).1
theorem cR_8 (h : cS S x) : rS S (x + 8) 161 := h.2.2.1 8 (by decide)
theorem cR9_8 (h : cS S x) : kK S (x + 8) = 9 := (h.2.2.1 8 (by decide)).1
theorem cR_11 (h : cS S x) : rS S (x + 11) 160 := h.2.2.1 11 (by decide)
theorem cR9_11 (h : cS S x) : kK S (x + 11) = 9 := (h.2.2.1 11 (by decide)).1
theorem cR_13 (h : cS S x) : rS S (x + 13) 160 := h.2.2.1 13 (by decide)
theorem cR9_13 (h : cS S x) : kK S (x + 13) = 9 := (h.2.2.1 13 (by decide)).1
theorem cR_15 (h : cS S x) : rS S (x + 15) 160 := h.2.2.1 15 (by decide)
theorem cR9_15 (h : cS S x) : kK S (x + 15) = 9 := (h.2.2.1 15 (by decide)).1
theorem cR_17 (h : cS S x) : rS S (x + 17) 160 := h.2.2.1 17 (by decide)
theorem cR9_17 (h : cS S x) : kK S (x + 17) = 9 := (h.2.2.1 17 (by decide)).1
theorem cR_19 (h : cS S x) : rS S (x + 19) 160 := h.2.2.1 19 (by decide)
theorem cR9_19 (h : cS S x) : kK S (x + 19) = 9 := (h.2.2.1 19 (by decide)).1
theorem cR_21 (h : cS S x) : rS S (x + 21) 160 := h.2.2.1 21 (by decide)
theorem cR9_21 (h : cS S x) : kK S (x + 21) = 9 := (h.2.2.1 21 (by decide)).1
theorem cR_23 (h : cS S x) : rS S (x + 23) 160 := h.2.2.1 23 (by decide)
theorem cR9_23 (h : cS S x) : kK S (x + 23) = 9 := (h.2.2.1 23 (by decide)).1
theorem cR_28 (h : cS S x) : rS S (x + 28) 160 := h.2.2.1 28 (by decide)
theorem cR9_28 (h : cS S x) : kK S (x + 28) = 9 := (h.2.2.1 28 (by decide)).1
theorem cR_32 (h : cS S x) : rS S (x + 32) 12 := h.2.2.1 32 (by decide)
theorem cR9_32 (h : cS S x) : kK S (x + 32) = 9 := (h.2.2.1 32 (by decide)).1
theorem cR_34 (h : cS S x) : rS S (x + 34) 20 := h.2.2.1 34 (by decide)
theorem cR9_34 (h : cS S x) : kK S (x + 34) = 9 := (h.2.2.1 34 (by decide)).1
theorem cR_36 (h : cS S x) : rS S (x + 36) 20 := h.2.2.1 36 (by decide)
theorem cR9_36 (h : cS S x) : kK S (x + 36) = 9 := (h.2.2.1 36 (by decide)).1
theorem cR_38 (h : cS S x) : rS S (x + 38) 20 := h.2.2.1 38 (by decide)
theorem cR9_38 (h : cS S x) : kK S (x + 38) = 9 := (h.2.2.1 38 (by decide)).1
theorem cR_42 (h : cS S x) : rS S (x + 42) 12 := h.2.2.1 42 (by decide)
theorem cR9_42 (h : cS S x) : kK S (x + 42) = 9 := (h.2.2.1 42 (by decide)).1
theorem cR_44 (h : cS S x) : rS S (x + 44) 20 := h.2.2.1 44 (by decide)
theorem cR9_44 (h : cS S x) : kK S (x + 44) = 9 := (h.2.2.1 44 (by decide)).1
theorem cR_46 (h : cS S x) : rS S (x + 46) 20 := h.2.2.1 46 (by decide)
theorem cR9_46 (h : cS S x) : kK S (x + 46) = 9 := (h.2.2.1 46 (by decide)).1
theorem cR_48 (h : cS S x) : rS S (x + 48) 20 := h.2.2.1 48 (by decide)
theorem cR9_48 (h : cS S x) : kK S (x + 48) = 9 := (h.2.2.1 48 (by decide)).1
theorem cR_51 (h : cS S x) : rS S (x + 51) 12 := h.2.2.1 51 (by decide)
theorem cR9_51 (h : cS S x) : kK S (x + 51) = 9 := (h.2.2.1 51 (by decide)).1
theorem cR_53 (h : cS S x) : rS S (x + 53) 20 := h.2.2.1 53 (by decide)
theorem cR9_53 (h : cS S x) : kK S (x + 53) = 9 := (h.2.2.1 53 (by decide)).1
theorem cR_55 (h : cS S x) : rS S (x + 55) 20 := h.2.2.1 55 (by decide)
theorem cR9_55 (h : cS S x) : kK S (x + 55) = 9 := (h.2.2.1 55 (by decide)).1
theorem cR_57 (h : cS S x) : rS S (x + 57) 20 := h.2.2.1 57 (by decide)
theorem cR9_57 (h : cS S x) : kK S (x + 57) = 9 := (h.2.2.1 57 (by decide)).1
theorem cR_60 (h : cS S x) : rS S (x + 60) 12 := h.2.2.1 60 (by decide)
theorem cR9_60 (h : cS S x) : kK S (x + 60) = 9 := (h.2.2.1 60 (by decide)).1
theorem cR_62 (h : cS S x) : rS S (x + 62) 20 := h.2.2.1 62 (by decide)
theorem cR9_62 (h : cS S x) : kK S (x + 62) = 9 := (h.2.2.1 62 (by decide)).1
theorem cR_64 (h : cS S x) : rS S (x + 64) 20 := h.2.2.1 64 (by decide)
theorem cR9_64 (h : cS S x) : kK S (x + 64) = 9 := (h.2.2.1 64 (by decide)).1
theorem cR_66 (h : cS S x) : rS S (x + 66) 20 := h.2.2.1 66 (by decide)
theorem cR9_66 (h : cS S x) : kK S (x + 66) = 9 := (h.2.2.1 66 (by decide)).1
theorem cR_69 (h : cS S x) : rS S (x + 69) 160 := h.2.2.1 69 (by decide)
theorem cR9_69 (h : cS S x) : kK S (x + 69) = 9 := (h.2.2.1 69 (by decide)).1
theorem cR_71 (h : cS S x) : rS S (x + 71) 160 := h.2.2.1 71 (by decide)
theorem cR9_71 (h : cS S x) : kK S (x + 71) = 9 := (h.2.2.1 71 (by decide)).1
theorem cR_73 (h : cS S x) : rS S (x + 73) 160 := h.2.2.1 73 (by decide)
theorem cR9_73 (h : cS S x) : kK S (x + 73) = 9 := (h.2.2.1 73 (by decide)).1
theorem cR_75 (h : cS S x) : rS S (x + 75) 160 := h.2.2.1 75 (by decide)
theorem cR9_75 (h : cS S x) : kK S (x + 75) = 9 := (h.2.2.1 75 (by decide)).1
theorem cR_77 (h : cS S x) : rS S (x + 77) 180 := h.2.2.1 77 (by decide)
theorem cR9_77 (h : cS S x) : kK S (x + 77) = 9 := (h.2.2.1 77 (by decide)).1
theorem cN_40 (h : cS S x) : kN S (x + 40) = 10 := h.2.2.2
theorem dO_cases {d : Nat} (h : d < 4) : d = 0 ∨ d = 1 ∨ d = 2 ∨ d = 3 := by omega
theorem cK_d (h : cS S x) {d : Nat} (hd : d < 4) : kK S (x + dO d) = 5 := by
  rcases dO_cases hd with rfl | rfl | rfl | rfl
  · exact cK_31 h
  · exact cK_41 h
  · exact cK_50 h
  · exact cK_59 h
theorem cQ_d_0 (h : cS S x) {d : Nat} (hd : d < 4) : kQ S (x + dO d) 0 = some (x + (dO d + 1)) := by
  rcases dO_cases hd with rfl | rfl | rfl | rfl
  · exact cQ_31_0 h
  · exact cQ_41_0 h
  · exact cQ_50_0 h
  · exact cQ_59_0 h
theorem cQ_d_1 (h : cS S x) {d : Nat} (hd : d < 4) : kQ S (x + dO d) 1 = some (x + (dO d + 3)) := by
  rcases dO_cases hd with rfl | rfl | rfl | rfl
  · exact cQ_31_1 h
  · exact cQ_41_1 h
  · exact cQ_50_1 h
  · exact cQ_59_1 h
theorem cQ_d_2 (h : cS S x) {d : Nat} (hd : d < 4) : kQ S (x + dO d) 2 = some (x + (dO d + 5)) := by
  rcases dO_cases hd with rfl | rfl | rfl | rfl
  · exact cQ_31_2 h
  · exact cQ_41_2 h
  · exact cQ_50_2 h
  · exact cQ_59_2 h
theorem cQ_d_3 (h : cS S x) {d : Nat} (hd : d < 4) : kQ S (x + dO d) 3 = some (x + (dO d + 7)) := by
  rcases dO_cases hd with rfl | rfl | rfl | rfl
  · exact cQ_31_3 h
  · exact cQ_41_3 h
  · exact cQ_50_3 h
  · exact cQ_59_3 h
theorem cR9_d1 (h : cS S x) {d : Nat} (hd : d < 4) : kK S (x + (dO d + 1)) = 9 := by
  rcases dO_cases hd with rfl | rfl | rfl | rfl
  · exact cR9_32 h
  · exact cR9_42 h
  · exact cR9_51 h
  · exact cR9_60 h
theorem cR9_d3 (h : cS S x) {d : Nat} (hd : d < 4) : kK S (x + (dO d + 3)) = 9 := by
  rcases dO_cases hd with rfl | rfl | rfl | rfl
  · exact cR9_34 h
  · exact cR9_44 h
  · exact cR9_53 h
  · exact cR9_62 h
theorem cR9_d5 (h : cS S x) {d : Nat} (hd : d < 4) : kK S (x + (dO d + 5)) = 9 := by
  rcases dO_cases hd with rfl | rfl | rfl | rfl
  · exact cR9_36 h
  · exact cR9_46 h
  · exact cR9_55 h
  · exact cR9_64 h
theorem cR9_d7 (h : cS S x) {d : Nat} (hd : d < 4) : kK S (x + (dO d + 7)) = 9 := by
  rcases dO_cases hd with rfl | rfl | rfl | rfl
  · exact cR9_38 h
  · exact cR9_48 h
  · exact cR9_57 h
  · exact cR9_66 h
theorem cQ_40_d (h : cS S x) {d : Nat} (hd : d < 4) : kQ S (x + 40) d = some (x + dO d) := by
  rcases dO_cases hd with rfl | rfl | rfl | rfl
  · exact cQ_40_0 h
  · exact cQ_40_1 h
  · exact cQ_40_2 h
  · exact cQ_40_3 h
theorem capT_d1 (d : Nat) : capT (dO d + 1) = 12 := by
  unfold dO; split <;> rfl
theorem capT_d3 (d : Nat) : capT (dO d + 3) = 20 := by
  unfold dO; split <;> rfl
theorem capT_d5 (d : Nat) : capT (dO d + 5) = 20 := by
  unfold dO; split <;> rfl
theorem capT_d7 (d : Nat) : capT (dO d + 7) = 20 := by
  unfold dO; split <;> rfl
theorem objT_d (d : Nat) : objT (dO d) = true := by
  unfold dO; split <;> rfl
end
/-! the class' ints: rows as lists (R), the other objects' ints (F) -/
def cM (I : Nat → Nat → Int32) (x : Nat) (R : Nat → List Int32) (F : Nat → Nat → Int32) : Prop := (∀ k, capT k ≠ 0 → rL I (x + k) (R k) ∧ (R k).length ≤ capT k) ∧ ∀ k j, objT k = true → I (x + k) j = F k j
/-- outside of the fixed cells nothing changed -/
def ou (I I' : Nat → Nat → Int32) (x : Nat) : Prop := ∀ a j, a < x ∨ x + 79 ≤ a → I' a j = I a j
theorem ou.rf {I : Nat → Nat → Int32} {x : Nat} : ou I I x := fun _ _ _ => rfl
theorem ou.tr {I I' I'' : Nat → Nat → Int32} {x : Nat} (h1 : ou I I' x) (h2 : ou I' I'' x) : ou I I'' x := fun a j h => (h2 a j h).trans (h1 a j h)
def uR (R : Nat → List Int32) (k : Nat) (l : List Int32) : Nat → List Int32 := fun i => if i = k then l else R i
def uF (F : Nat → Nat → Int32) (k j : Nat) (v : Int32) : Nat → Nat → Int32 := fun a b => if a = k ∧ b = j then v else F a b
theorem uR_at (R : Nat → List Int32) (k : Nat) (l : List Int32) (i : Nat) : uR R k l i = if i = k then l else R i := rfl
theorem uR_eq (R : Nat → List Int32) (k : Nat) (l : List Int32) : uR R k l k = l := if_pos rfl
theorem uR_ne {R : Nat → List Int32} {k : Nat} {l : List Int32} {i : Nat} (h : i ≠ k) : uR R k l i = R i := if_neg h
theorem uF_at (F : Nat → Nat → Int32) (k j : Nat) (v : Int32) (a b : Nat) : uF F k j v a b = if a = k ∧ b = j then v else F a b := rfl
theorem uF_eq (F : Nat → Nat → Int32) (k j : Nat) (v : Int32) : uF F k j v k j = v := if_pos ⟨rfl, rfl⟩
theorem uF_ne {F : Nat → Nat → Int32} {k j : Nat} {v : Int32} {a b : Nat} (h : a ≠ k ∨ b ≠ j) : uF F k j v a b = F a b := if_neg (fun q => h.elim (fun z => z q.1) (fun z => z q.2))
theorem uR_self (R : Nat → List Int32) (k : Nat) : uR R k (R k) = R := by
  funext i; unfold uR; split
  · rename_i h; rw [h]
  · rfl
theorem capT_lt {k : Nat} (h : capT k ≠ 0) : k < 78 := by
  apply Classical.byContradiction
  intro hn
  apply h
  unfold capT
  split <;> first | omega | rfl
theorem objT_lt {k : Nat} (h : objT k = true) : k < 78 := by
  apply Classical.byContradiction
  intro hn
  unfold objT at h
  split at h <;> first | omega | cases h
theorem capT_next : ∀ k, k < 78 → capT k ≠ 0 → capT (k + 1) = 0 ∧ objT (k + 1) = false ∧ objT k = false := by decide +kernel
theorem cM.row {I I' : Nat → Nat → Int32} {x k : Nat} {R : Nat → List Int32} {F : Nat → Nat → Int32} {l : List Int32} (h : cM I x R F) (hk : capT k ≠ 0) (hf : fr I I' (x + k)) (hl : rL I' (x + k) l) (hc : l.length ≤ capT k) : cM I' x (uR R k l) F ∧ ou I I' x := by
  have h78 := capT_lt hk
  obtain ⟨n1, n2, n3⟩ := capT_next k h78 hk
  refine ⟨⟨fun i hi => ?_, fun i j hi => ?_⟩, fun a j ha => hf a j (by omega) (by omega)⟩
  · by_cases e : i = k
    · subst e; rw [uR_eq]; exact ⟨hl, hc⟩
    · rw [uR_ne e]
      have m1 : i ≠ k + 1 := fun q => hi (by rw [q]; exact n1)
      have m2 : i + 1 ≠ k := fun q => hk (by rw [← q]; exact (capT_next i (capT_lt hi) hi).1)
      exact ⟨(h.1 i hi).1.kept hf (by omega) (by omega) (by omega), (h.1 i hi).2⟩
  · have m1 : i ≠ k + 1 := fun q => by rw [q, n2] at hi; cases hi
    have m2 : i ≠ k := fun q => by rw [q, n3] at hi; cases hi
    rw [hf _ _ (by omega) (by omega)]
    exact h.2 i j hi
theorem cM.fld {I : Nat → Nat → Int32} {x k : Nat} {R : Nat → List Int32} {F : Nat → Nat → Int32} (h : cM I x R F) (hk : objT k = true) (j : Nat) (v : Int32) : cM (up I (x + k) j v) x R (uF F k j v) ∧ ou I (up I (x + k) j v) x := by
  have h78 := objT_lt hk
  refine ⟨⟨fun i hi => ⟨⟨?_, fun q hq => ?_⟩, (h.1 i hi).2⟩, fun i q hi => ?_⟩, fun a q ha => up_ne (Or.inl (by omega))⟩
  · have m : i ≠ k := fun q => by have := (capT_next i (capT_lt hi) hi).2.2; rw [q, hk] at this; cases this
    rw [up_ne (Or.inl (by omega))]; exact (h.1 i hi).1.1
  · have m : i + 1 ≠ k := fun q => by have := (capT_next i (capT_lt hi) hi).2.1; rw [q, hk] at this; cases this
    rw [up_ne (Or.inl (by omega))]; exact (h.1 i hi).1.2 q hq
  · rw [up_at, uF_at]
    by_cases e : i = k
    · subst e; simp only [true_and, h.2 i q hi]
    · rw [if_neg (by omega), if_neg (fun z => e z.1)]; exact h.2 i q hi
/-- what comes of a call that writes ints of the class alone -/
def cO (S : PS) (I : Nat → Nat → Int32) (x : Nat) (R : Nat → List Int32) (F : Nat → Nat → Int32) (o : Option PS) : Prop := ∃ I', o = some (sI S I') ∧ cM I' x R F ∧ ou I I' x
/-- .. and answers -/
def cA {α : Type} (S : PS) (I : Nat → Nat → Int32) (x : Nat) (R : Nat → List Int32) (F : Nat → Nat → Int32) (r : α) (o : Option (PS × α)) : Prop := ∃ I', o = some (sI S I', r) ∧ cM I' x R F ∧ ou I I' x
section
variable {S : PS} {I : Nat → Nat → Int32} {x k : Nat} {R : Nat → List Int32} {F : Nat → Nat → Int32}
theorem cm_count (hS : cS S x) (hM : cM I x R F) (hk : capT k ≠ 0) : f_X5_count (sI S I) (x + k) = some (nI (R k).length) := rw_count (hS.2.2.1 k hk) (hM.1 k hk).1
theorem cm_get (hS : cS S x) (hM : cM I x R F) (hk : capT k ≠ 0) (p : Int32) : f_X5_get (sI S I) (x + k) p = some (li (R k) p) := rw_get (hS.2.2.1 k hk) (hM.1 k hk).1 (hM.1 k hk).2 p
theorem cm_getn (hS : cS S x) (hM : cM I x R F) (hk : capT k ≠ 0) {j : Nat} (hj : j < 2 ^ 31) : f_X5_get (sI S I) (x + k) (nI j) = some (la (R k) j) := rw_getn (hS.2.2.1 k hk) (hM.1 k hk).1 (hM.1 k hk).2 hj
theorem cm_set (hS : cS S x) (hM : cM I x R F) (hk : capT k ≠ 0) {j : Nat} (hj : j < 2 ^ 31) (v : Int32) : cO S I x (uR R k ((R k).set j v)) F (f_X5_set (sI S I) (x + k) (nI j) v) := by
  obtain ⟨I', e, h1, h2⟩ := rw_set (hS.2.2.1 k hk) (hM.1 k hk).1 (hM.1 k hk).2 hj v
  exact ⟨I', e, hM.row hk h2 h1 (by rw [List.length_set]; exact (hM.1 k hk).2)⟩
theorem cm_add (hS : cS S x) (hM : cM I x R F) (hk : capT k ≠ 0) (hc : (R k).length < capT k) (v : Int32) : cO S I x (uR R k (R k ++ [v])) F (f_X5_add (sI S I) (x + k) v) := by
  obtain ⟨I', e, h1, h2⟩ := rw_add (hS.2.2.1 k hk) (hM.1 k hk).1 hc v
  exact ⟨I', e, hM.row hk h2 h1 (by rw [List.length_append]; exact hc)⟩
theorem cm_insert (hS : cS S x) (hM : cM I x R F) (hk : capT k ≠ 0) (hc : (R k).length < capT k) {j : Nat} (hj : j ≤ (R k).length) (v : Int32) : cO S I x (uR R k ((R k).insertIdx j v)) F (f_X5_insert (sI S I) (x + k) (nI j) v) := by
  obtain ⟨I', e, h1, h2⟩ := rw_insert (hS.2.2.1 k hk) (hM.1 k hk).1 hc hj v
  exact ⟨I', e, hM.row hk h2 h1 (by rw [List.length_insertIdx, if_pos hj]; exact hc)⟩
theorem cm_remove (hS : cS S x) (hM : cM I x R F) (hk : capT k ≠ 0) {j : Nat} (hj : j < (R k).length) : cA S I x (uR R k ((R k).eraseIdx j)) F (la (R k) j) (f_X5_remove (sI S I) (x + k) (nI j)) := by
  obtain ⟨I', e, h1, h2⟩ := rw_remove (hS.2.2.1 k hk) (hM.1 k hk).1 (hM.1 k hk).2 hj
  exact ⟨I', e, hM.row hk h2 h1 (by rw [List.length_eraseIdx, if_pos hj]; have := (hM.1 k hk).2; omega)⟩
theorem cm_clear (hS : cS S x) (hM : cM I x R F) (hk : capT k ≠ 0) : cO S I x (uR R k []) F (f_X5_clear (sI S I) (x + k)) := by
  obtain ⟨I', e, h1, h2⟩ := rw_clear (hS.2.2.1 k hk) (hM.1 k hk).1
  exact ⟨I', e, hM.row hk h2 h1 (Nat.zero_le _)⟩
theorem cm_reset (hS : cS S x) (hM : cM I x R F) (hk : capT k ≠ 0) {n : Nat} (hn : n ≤ capT k) : cO S I x (uR R k (List.replicate n 0)) F (f_X5_reset (sI S I) (x + k) (nI n)) := by
  obtain ⟨I', e, h1, h2⟩ := rw_reset (I := I) (hS.2.2.1 k hk) hn
  exact ⟨I', e, hM.row hk h2 h1 (by rw [List.length_replicate]; exact hn)⟩
end
