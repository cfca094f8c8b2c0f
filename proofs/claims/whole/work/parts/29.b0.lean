/-! the words of all methods stand in the table -/
theorem inP {big ws : List Cond} (ps : List Nat) (hp : ws = ps.filterMap (fun i => big[i]?)) : ∀ w ∈ ws, w ∈ big := by
  intro w hw
  rw [hp] at hw
  obtain ⟨i, -, hi⟩ := List.mem_filterMap.mp hw
  exact List.mem_of_getElem? hi
theorem inD {big ws : List Cond} (h : ws.all (fun w => decide (w ∈ big)) = true) : ∀ w ∈ ws, w ∈ big := fun w hw => of_decide_eq_true (List.all_eq_true.mp h w hw)
theorem inGA0 : ∀ w ∈ GA0, w ∈ lw_tbl := inP [198, 199, 99, 100, 195, 204, 196, 197, 67, 192, 200, 202, 193, 194, 68, 105, 106, 114, 107, 108, 186, 187, 188, 189] (by decide +kernel)
theorem inGA1 : ∀ w ∈ GA1, w ∈ lw_tbl := inP [69, 216, 218, 214, 102, 63, 220, 190, 191, 215, 104, 394, 446, 149, 420, 392, 393, 241, 480, 203, 562, 559, 560, 561] (by decide +kernel)
theorem inGA2 : ∀ w ∈ GA2, w ∈ lw_tbl := inP [86, 566, 556, 557, 558, 85, 563, 564, 565, 424, 460, 153, 421, 422, 423, 584, 154, 589, 150, 148, 443, 444, 445, 65] (by decide +kernel)
theorem inGA3 : ∀ w ∈ GA3, w ∈ lw_tbl := inP [599, 151, 603, 607, 611, 595, 959, 962, 960, 596, 597, 598, 600, 601, 602, 604, 605, 606, 608, 609, 610, 612, 621, 155] (by decide +kernel)
theorem inGA4 : ∀ w ∈ GA4, w ∈ lw_tbl := inP [626, 627, 628, 617, 978, 622, 618, 619, 620, 585, 478, 479, 590, 554, 555, 623, 624, 625, 579, 975, 974, 972, 591, 580] (by decide +kernel)
theorem inGA5 : ∀ w ∈ GA5, w ∈ lw_tbl := inP [458, 459, 581, 582, 583, 586, 587, 588, 592, 593, 594, 88, 613, 615, 11, 87, 454, 632, 633, 634, 452, 453, 639, 571] (by decide +kernel)
theorem inGA6 : ∀ w ∈ GA6, w ∈ lw_tbl := inP [640, 641, 629, 631, 12, 66, 570, 575, 635, 572, 239, 240, 573, 574, 576, 577, 578, 636, 638, 13, 664, 152, 659, 665] (by decide +kernel)
theorem inGA7 : ∀ w ∈ GA7, w ∈ lw_tbl := inP [660, 661, 662, 663, 673, 655, 651, 652, 653, 654, 1146, 126, 1178, 442, 124, 125, 1174, 913, 1175, 1176, 1177, 1170, 980, 914] (by decide +kernel)
theorem inGA8 : ∀ w ∈ GA8, w ∈ lw_tbl := inP [1171, 1173, 29, 1179, 1183, 1052, 1055, 1184, 1166, 1167, 1168, 1169, 1180, 1181, 1182, 90, 1185, 1186, 234, 235, 236, 242, 245, 246] (by decide +kernel)
theorem inGA9 : ∀ w ∈ GA9, w ∈ lw_tbl := inP [247, 248, 251, 237, 238, 1079, 1083, 698, 699, 1215, 1216, 398, 1234, 1235, 396, 397, 694, 695, 696, 697, 70, 700, 865, 861] (by decide +kernel)
theorem inGA10 : ∀ w ∈ GA10, w ∈ lw_tbl := inP [862, 863, 864, 856, 857, 858, 860, 20, 893, 749, 336, 337, 340, 341, 338, 342, 343, 344, 345, 339, 714, 715, 1162, 678] (by decide +kernel)
theorem inGA11 : ∀ w ∈ GA11, w ∈ lw_tbl := inP [723, 682, 719, 679, 680, 681, 690, 686, 670, 671, 672, 687, 688, 689, 737, 683, 685, 16, 75, 677, 704, 705, 669, 674] (by decide +kernel)
theorem inGA12 : ∀ w ∈ GA12, w ∈ lw_tbl := inP [676, 15, 691, 692, 693, 701, 703, 17, 645, 646, 647, 648, 649, 650, 656, 657, 658, 666, 668, 14, 706, 707, 731, 732] (by decide +kernel)
theorem inGA13 : ∀ w ∈ GA13, w ∈ lw_tbl := inP [712, 713, 733, 717, 718, 734, 735, 736, 745, 741, 742, 744, 18, 954, 955, 956, 957, 958, 949, 950, 918, 951, 952, 953] (by decide +kernel)
theorem inGA14 : ∀ w ∈ GA14, w ∈ lw_tbl := inP [430, 921, 710, 762, 429, 62, 917, 920, 1050, 1051, 851, 1044, 1066, 291, 288, 284, 285, 286, 72, 287, 289, 290, 71, 320] (by decide +kernel)
theorem inGA15 : ∀ w ∈ GA15, w ∈ lw_tbl := inP [321, 323, 324, 325, 326, 327, 329, 328, 74, 294, 295, 1732, 296, 317, 318, 319, 73, 281, 330, 331, 282, 283, 292, 293] (by decide +kernel)
theorem inGA16 : ∀ w ∈ GA16, w ∈ lw_tbl := inP [277, 278, 280, 2, 273, 274, 276, 1, 269, 205, 206, 270, 272, 0, 942, 943, 944, 591, 946, 976, 945, 947, 948, 971] (by decide +kernel)
