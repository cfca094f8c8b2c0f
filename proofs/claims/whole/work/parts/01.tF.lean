def t_L_law4 : List (Nat × Instr × Nat) := [(883, .iload 7, 2), (885, .i2l, 1), (886, .lcmp, 1), (887, .ifCond .eq 5, 3), (890, .iconst 0, 1), (891, .ireturn, 1), (892, .goto 1069, 3), (895, .aload_n 1, 1), (896, .aload_n 0, 1), (897, .iload 5, 2), (899, .iconst 1, 1), (900, .iadd, 1), (901, .iaload, 1), (902, .aload_n 0, 1), (903, .iload 5, 2), (905, .iconst 2, 1), (906, .iadd, 1), (907, .iaload, 1), (908, .aload_n 3, 1), (909, .invokestatic 161, 3), (912, .istore 6, 2), (914, .aload_n 2, 1), (915, .aload_n 0, 1), (916, .iload 5, 2), (918, .iconst 1, 1), (919, .iadd, 1), (920, .iaload, 1), (921, .aload_n 0, 1), (922, .iload 5, 2), (924, .iconst 2, 1), (925, .iadd, 1), (926, .iaload, 1), (927, .invokevirtual 164, 3), (930, .istore 7, 2), (932, .aload_n 2, 1), (933, .invokevirtual 117, 3), (936, .iload 6, 2), (938, .if_icmp .eq 5, 3), (941, .iconst 0, 1), (942, .ireturn, 1), (943, .iload 6, 2), (945, .ifCond .ne 15, 3), (948, .aload_n 3, 1), (949, .iconst 0, 1), (950, .laload, 1), (951, .iload 7, 2), (953, .i2l, 1), (954, .lcmp, 1), (955, .ifCond .eq 5, 3), (958, .iconst 0, 1), (959, .ireturn, 1), (960, .goto 1001, 3), (963, .aload_n 1, 1), (964, .aload_n 0, 1), (965, .iload 5, 2), (967, .iconst 1, 1), (968, .iadd, 1), (969, .iaload, 1), (970, .aload_n 3, 1), (971, .invokestatic 165, 3), (974, .istore 6, 2), (976, .aload_n 2, 1), (977, .aload_n 0, 1), (978, .iload 5, 2), (980, .iconst 1, 1), (981, .iadd, 1), (982, .iaload, 1), (983, .invokevirtual 167, 3), (986, .istore 7, 2), (988, .aload_n 2, 1), (989, .invokevirtual 117, 3), (992, .iload 6, 2), (994, .if_icmp .eq 5, 3), (997, .iconst 0, 1), (998, .ireturn, 1), (999, .iload 6, 2), (1001, .ifCond .ne 15, 3), (1004, .aload_n 3, 1), (1005, .iconst 0, 1), (1006, .laload, 1), (1007, .iload 7, 2), (1009, .i2l, 1), (1010, .lcmp, 1), (1011, .ifCond .eq 5, 3), (1014, .iconst 0, 1), (1015, .ireturn, 1), (1016, .goto 945, 3), (1019, .aload_n 1, 1), (1020, .aload_n 0, 1), (1021, .iload 5, 2), (1023, .iconst 1, 1), (1024, .iadd, 1), (1025, .iaload, 1), (1026, .aload_n 0, 1), (1027, .iload 5, 2), (1029, .iconst 2, 1), (1030, .iadd, 1), (1031, .iaload, 1), (1032, .aload_n 0, 1), (1033, .iload 5, 2), (1035, .iconst 3, 1), (1036, .iadd, 1), (1037, .iaload, 1), (1038, .i2c, 1), (1039, .aload_n 3, 1), (1040, .invokestatic 168, 3), (1043, .istore 6, 2), (1045, .aload_n 2, 1), (1046, .aload_n 0, 1), (1047, .iload 5, 2), (1049, .iconst 1, 1), (1050, .iadd, 1), (1051, .iaload, 1), (1052, .aload_n 0, 1), (1053, .iload 5, 2), (1055, .iconst 2, 1), (1056, .iadd, 1), (1057, .iaload, 1), (1058, .aload_n 0, 1), (1059, .iload 5, 2)]
theorem t_L_law4_ok : dec_ok cL_law t_L_law4 = true := by decide +kernel
theorem dL_law_883 : decode cL_law 883 = .ok (.iload 7, 2) := dec_of t_L_law4_ok 0 rfl
theorem dL_law_885 : decode cL_law 885 = .ok (.i2l, 1) := dec_of t_L_law4_ok 1 rfl
theorem dL_law_886 : decode cL_law 886 = .ok (.lcmp, 1) := dec_of t_L_law4_ok 2 rfl
theorem dL_law_887 : decode cL_law 887 = .ok (.ifCond .eq 5, 3) := dec_of t_L_law4_ok 3 rfl
theorem dL_law_890 : decode cL_law 890 = .ok (.iconst 0, 1) := dec_of t_L_law4_ok 4 rfl
theorem dL_law_891 : decode cL_law 891 = .ok (.ireturn, 1) := dec_of t_L_law4_ok 5 rfl
theorem dL_law_892 : decode cL_law 892 = .ok (.goto 1069, 3) := dec_of t_L_law4_ok 6 rfl
theorem dL_law_895 : decode cL_law 895 = .ok (.aload_n 1, 1) := dec_of t_L_law4_ok 7 rfl
theorem dL_law_896 : decode cL_law 896 = .ok (.aload_n 0, 1) := dec_of t_L_law4_ok 8 rfl
theorem dL_law_897 : decode cL_law 897 = .ok (.iload 5, 2) := dec_of t_L_law4_ok 9 rfl
theorem dL_law_899 : decode cL_law 899 = .ok (.iconst 1, 1) := dec_of t_L_law4_ok 10 rfl
theorem dL_law_900 : decode cL_law 900 = .ok (.iadd, 1) := dec_of t_L_law4_ok 11 rfl
theorem dL_law_901 : decode cL_law 901 = .ok (.iaload, 1) := dec_of t_L_law4_ok 12 rfl
theorem dL_law_902 : decode cL_law 902 = .ok (.aload_n 0, 1) := dec_of t_L_law4_ok 13 rfl
theorem dL_law_903 : decode cL_law 903 = .ok (.iload 5, 2) := dec_of t_L_law4_ok 14 rfl
theorem dL_law_905 : decode cL_law 905 = .ok (.iconst 2, 1) := dec_of t_L_law4_ok 15 rfl
theorem dL_law_906 : decode cL_law 906 = .ok (.iadd, 1) := dec_of t_L_law4_ok 16 rfl
theorem dL_law_907 : decode cL_law 907 = .ok (.iaload, 1) := dec_of t_L_law4_ok 17 rfl
theorem dL_law_908 : decode cL_law 908 = .ok (.aload_n 3, 1) := dec_of t_L_law4_ok 18 rfl
theorem dL_law_909 : decode cL_law 909 = .ok (.invokestatic 161, 3) := dec_of t_L_law4_ok 19 rfl
theorem dL_law_912 : decode cL_law 912 = .ok (.istore 6, 2) := dec_of t_L_law4_ok 20 rfl
theorem dL_law_914 : decode cL_law 914 = .ok (.aload_n 2, 1) := dec_of t_L_law4_ok 21 rfl
theorem dL_law_915 : decode cL_law 915 = .ok (.aload_n 0, 1) := dec_of t_L_law4_ok 22 rfl
theorem dL_law_916 : decode cL_law 916 = .ok (.iload 5, 2) := dec_of t_L_law4_ok 23 rfl
theorem dL_law_918 : decode cL_law 918 = .ok (.iconst 1, 1) := dec_of t_L_law4_ok 24 rfl
theorem dL_law_919 : decode cL_law 919 = .ok (.iadd, 1) := dec_of t_L_law4_ok 25 rfl
theorem dL_law_920 : decode cL_law 920 = .ok (.iaload, 1) := dec_of t_L_law4_ok 26 rfl
theorem dL_law_921 : decode cL_law 921 = .ok (.aload_n 0, 1) := dec_of t_L_law4_ok 27 rfl
theorem dL_law_922 : decode cL_law 922 = .ok (.iload 5, 2) := dec_of t_L_law4_ok 28 rfl
theorem dL_law_924 : decode cL_law 924 = .ok (.iconst 2, 1) := dec_of t_L_law4_ok 29 rfl
theorem dL_law_925 : decode cL_law 925 = .ok (.iadd, 1) := dec_of t_L_law4_ok 30 rfl
theorem dL_law_926 : decode cL_law 926 = .ok (.iaload, 1) := dec_of t_L_law4_ok 31 rfl
theorem dL_law_927 : decode cL_law 927 = .ok (.invokevirtual 164, 3) := dec_of t_L_law4_ok 32 rfl
theorem dL_law_930 : decode cL_law 930 = .ok (.istore 7, 2) := dec_of t_L_law4_ok 33 rfl
theorem dL_law_932 : decode cL_law 932 = .ok (.aload_n 2, 1) := dec_of t_L_law4_ok 34 rfl
theorem dL_law_933 : decode cL_law 933 = .ok (.invokevirtual 117, 3) := dec_of t_L_law4_ok 35 rfl
theorem dL_law_936 : decode cL_law 936 = .ok (.iload 6, 2) := dec_of t_L_law4_ok 36 rfl
theorem dL_law_938 : decode cL_law 938 = .ok (.if_icmp .eq 5, 3) := dec_of t_L_law4_ok 37 rfl
theorem dL_law_941 : decode cL_law 941 = .ok (.iconst 0, 1) := dec_of t_L_law4_ok 38 rfl
theorem dL_law_942 : decode cL_law 942 = .ok (.ireturn, 1) := dec_of t_L_law4_ok 39 rfl
theorem dL_law_943 : decode cL_law 943 = .ok (.iload 6, 2) := dec_of t_L_law4_ok 40 rfl
theorem dL_law_945 : decode cL_law 945 = .ok (.ifCond .ne 15, 3) := dec_of t_L_law4_ok 41 rfl
theorem dL_law_948 : decode cL_law 948 = .ok (.aload_n 3, 1) := dec_of t_L_law4_ok 42 rfl
theorem dL_law_949 : decode cL_law 949 = .ok (.iconst 0, 1) := dec_of t_L_law4_ok 43 rfl
theorem dL_law_950 : decode cL_law 950 = .ok (.laload, 1) := dec_of t_L_law4_ok 44 rfl
theorem dL_law_951 : decode cL_law 951 = .ok (.iload 7, 2) := dec_of t_L_law4_ok 45 rfl
theorem dL_law_953 : decode cL_law 953 = .ok (.i2l, 1) := dec_of t_L_law4_ok 46 rfl
theorem dL_law_954 : decode cL_law 954 = .ok (.lcmp, 1) := dec_of t_L_law4_ok 47 rfl
theorem dL_law_955 : decode cL_law 955 = .ok (.ifCond .eq 5, 3) := dec_of t_L_law4_ok 48 rfl
theorem dL_law_958 : decode cL_law 958 = .ok (.iconst 0, 1) := dec_of t_L_law4_ok 49 rfl
theorem dL_law_959 : decode cL_law 959 = .ok (.ireturn, 1) := dec_of t_L_law4_ok 50 rfl
theorem dL_law_960 : decode cL_law 960 = .ok (.goto 1001, 3) := dec_of t_L_law4_ok 51 rfl
theorem dL_law_963 : decode cL_law 963 = .ok (.aload_n 1, 1) := dec_of t_L_law4_ok 52 rfl
theorem dL_law_964 : decode cL_law 964 = .ok (.aload_n 0, 1) := dec_of t_L_law4_ok 53 rfl
theorem dL_law_965 : decode cL_law 965 = .ok (.iload 5, 2) := dec_of t_L_law4_ok 54 rfl
theorem dL_law_967 : decode cL_law 967 = .ok (.iconst 1, 1) := dec_of t_L_law4_ok 55 rfl
theorem dL_law_968 : decode cL_law 968 = .ok (.iadd, 1) := dec_of t_L_law4_ok 56 rfl
theorem dL_law_969 : decode cL_law 969 = .ok (.iaload, 1) := dec_of t_L_law4_ok 57 rfl
theorem dL_law_970 : decode cL_law 970 = .ok (.aload_n 3, 1) := dec_of t_L_law4_ok 58 rfl
theorem dL_law_971 : decode cL_law 971 = .ok (.invokestatic 165, 3) := dec_of t_L_law4_ok 59 rfl
theorem dL_law_974 : decode cL_law 974 = .ok (.istore 6, 2) := dec_of t_L_law4_ok 60 rfl
theorem dL_law_976 : decode cL_law 976 = .ok (.aload_n 2, 1) := dec_of t_L_law4_ok 61 rfl
theorem dL_law_977 : decode cL_law 977 = .ok (.aload_n 0, 1) := dec_of t_L_law4_ok 62 rfl
theorem dL_law_978 : decode cL_law 978 = .ok (.iload 5, 2) := dec_of t_L_law4_ok 63 rfl
theorem dL_law_980 : decode cL_law 980 = .ok (.iconst 1, 1) := dec_of t_L_law4_ok 64 rfl
theorem dL_law_981 : decode cL_law 981 = .ok (.iadd, 1) := dec_of t_L_law4_ok 65 rfl
theorem dL_law_982 : decode cL_law 982 = .ok (.iaload, 1) := dec_of t_L_law4_ok 66 rfl
theorem dL_law_983 : decode cL_law 983 = .ok (.invokevirtual 167, 3) := dec_of t_L_law4_ok 67 rfl
theorem dL_law_986 : decode cL_law 986 = .ok (.istore 7, 2) := dec_of t_L_law4_ok 68 rfl
theorem dL_law_988 : decode cL_law 988 = .ok (.aload_n 2, 1) := dec_of t_L_law4_ok 69 rfl
theorem dL_law_989 : decode cL_law 989 = .ok (.invokevirtual 117, 3) := dec_of t_L_law4_ok 70 rfl
theorem dL_law_992 : decode cL_law 992 = .ok (.iload 6, 2) := dec_of t_L_law4_ok 71 rfl
theorem dL_law_994 : decode cL_law 994 = .ok (.if_icmp .eq 5, 3) := dec_of t_L_law4_ok 72 rfl
theorem dL_law_997 : decode cL_law 997 = .ok (.iconst 0, 1) := dec_of t_L_law4_ok 73 rfl
theorem dL_law_998 : decode cL_law 998 = .ok (.ireturn, 1) := dec_of t_L_law4_ok 74 rfl
theorem dL_law_999 : decode cL_law 999 = .ok (.iload 6, 2) := dec_of t_L_law4_ok 75 rfl
theorem dL_law_1001 : decode cL_law 1001 = .ok (.ifCond .ne 15, 3) := dec_of t_L_law4_ok 76 rfl
theorem dL_law_1004 : decode cL_law 1004 = .ok (.aload_n 3, 1) := dec_of t_L_law4_ok 77 rfl
theorem dL_law_1005 : decode cL_law 1005 = .ok (.iconst 0, 1) := dec_of t_L_law4_ok 78 rfl
theorem dL_law_1006 : decode cL_law 1006 = .ok (.laload, 1) := dec_of t_L_law4_ok 79 rfl
theorem dL_law_1007 : decode cL_law 1007 = .ok (.iload 7, 2) := dec_of t_L_law4_ok 80 rfl
theorem dL_law_1009 : decode cL_law 1009 = .ok (.i2l, 1) := dec_of t_L_law4_ok 81 rfl
theorem dL_law_1010 : decode cL_law 1010 = .ok (.lcmp, 1) := dec_of t_L_law4_ok 82 rfl
theorem dL_law_1011 : decode cL_law 1011 = .ok (.ifCond .eq 5, 3) := dec_of t_L_law4_ok 83 rfl
theorem dL_law_1014 : decode cL_law 1014 = .ok (.iconst 0, 1) := dec_of t_L_law4_ok 84 rfl
theorem dL_law_1015 : decode cL_law 1015 = .ok (.ireturn, 1) := dec_of t_L_law4_ok 85 rfl
theorem dL_law_1016 : decode cL_law 1016 = .ok (.goto 945, 3) := dec_of t_L_law4_ok 86 rfl
theorem dL_law_1019 : decode cL_law 1019 = .ok (.aload_n 1, 1) := dec_of t_L_law4_ok 87 rfl
theorem dL_law_1020 : decode cL_law 1020 = .ok (.aload_n 0, 1) := dec_of t_L_law4_ok 88 rfl
theorem dL_law_1021 : decode cL_law 1021 = .ok (.iload 5, 2) := dec_of t_L_law4_ok 89 rfl
theorem dL_law_1023 : decode cL_law 1023 = .ok (.iconst 1, 1) := dec_of t_L_law4_ok 90 rfl
theorem dL_law_1024 : decode cL_law 1024 = .ok (.iadd, 1) := dec_of t_L_law4_ok 91 rfl
theorem dL_law_1025 : decode cL_law 1025 = .ok (.iaload, 1) := dec_of t_L_law4_ok 92 rfl
theorem dL_law_1026 : decode cL_law 1026 = .ok (.aload_n 0, 1) := dec_of t_L_law4_ok 93 rfl
theorem dL_law_1027 : decode cL_law 1027 = .ok (.iload 5, 2) := dec_of t_L_law4_ok 94 rfl
theorem dL_law_1029 : decode cL_law 1029 = .ok (.iconst 2, 1) := dec_of t_L_law4_ok 95 rfl
theorem dL_law_1030 : decode cL_law 1030 = .ok (.iadd, 1) := dec_of t_L_law4_ok 96 rfl
theorem dL_law_1031 : decode cL_law 1031 = .ok (.iaload, 1) := dec_of t_L_law4_ok 97 rfl
theorem dL_law_1032 : decode cL_law 1032 = .ok (.aload_n 0, 1) := dec_of t_L_law4_ok 98 rfl
theorem dL_law_1033 : decode cL_law 1033 = .ok (.iload 5, 2) := dec_of t_L_law4_ok 99 rfl
theorem dL_law_1035 : decode cL_law 1035 = .ok (.iconst 3, 1) := dec_of t_L_law4_ok 100 rfl
theorem dL_law_1036 : decode cL_law 1036 = .ok (.iadd, 1) := dec_of t_L_law4_ok 101 rfl
theorem dL_law_1037 : decode cL_law 1037 = .ok (.iaload, 1) := dec_of t_L_law4_ok 102 rfl
theorem dL_law_1038 : decode cL_law 1038 = .ok (.i2c, 1) := dec_of t_L_law4_ok 103 rfl
theorem dL_law_1039 : decode cL_law 1039 = .ok (.aload_n 3, 1) := dec_of t_L_law4_ok 104 rfl
theorem dL_law_1040 : decode cL_law 1040 = .ok (.invokestatic 168, 3) := dec_of t_L_law4_ok 105 rfl
theorem dL_law_1043 : decode cL_law 1043 = .ok (.istore 6, 2) := dec_of t_L_law4_ok 106 rfl
theorem dL_law_1045 : decode cL_law 1045 = .ok (.aload_n 2, 1) := dec_of t_L_law4_ok 107 rfl
theorem dL_law_1046 : decode cL_law 1046 = .ok (.aload_n 0, 1) := dec_of t_L_law4_ok 108 rfl
theorem dL_law_1047 : decode cL_law 1047 = .ok (.iload 5, 2) := dec_of t_L_law4_ok 109 rfl
theorem dL_law_1049 : decode cL_law 1049 = .ok (.iconst 1, 1) := dec_of t_L_law4_ok 110 rfl
theorem dL_law_1050 : decode cL_law 1050 = .ok (.iadd, 1) := dec_of t_L_law4_ok 111 rfl
theorem dL_law_1051 : decode cL_law 1051 = .ok (.iaload, 1) := dec_of t_L_law4_ok 112 rfl
theorem dL_law_1052 : decode cL_law 1052 = .ok (.aload_n 0, 1) := dec_of t_L_law4_ok 113 rfl
theorem dL_law_1053 : decode cL_law 1053 = .ok (.iload 5, 2) := dec_of t_L_law4_ok 114 rfl
theorem dL_law_1055 : decode cL_law 1055 = .ok (.iconst 2, 1) := dec_of t_L_law4_ok 115 rfl
theorem dL_law_1056 : decode cL_law 1056 = .ok (.iadd, 1) := dec_of t_L_law4_ok 116 rfl
theorem dL_law_1057 : decode cL_law 1057 = .ok (.iaload, 1) := dec_of t_L_law4_ok 117 rfl
theorem dL_law_1058 : decode cL_law 1058 = .ok (.aload_n 0, 1) := dec_of t_L_law4_ok 118 rfl
theorem dL_law_1059 : decode cL_law 1059 = .ok (.iload 5, 2) := dec_of t_L_law4_ok 119 rfl
def t_L_law5 : List (Nat × Instr × Nat) := [(1061, .iconst 3, 1), (1062, .iadd, 1), (1063, .iaload, 1), (1064, .i2c, 1), (1065, .invokevirtual 171, 3), (1068, .istore 7, 2), (1070, .aload_n 2, 1), (1071, .invokevirtual 117, 3), (1074, .iload 6, 2), (1076, .if_icmp .eq 5, 3), (1079, .iconst 0, 1), (1080, .ireturn, 1), (1081, .iload 6, 2), (1083, .ifCond .ne 15, 3), (1086, .aload_n 3, 1), (1087, .iconst 0, 1), (1088, .laload, 1), (1089, .iload 7, 2), (1091, .i2l, 1), (1092, .lcmp, 1), (1093, .ifCond .eq 5, 3), (1096, .iconst 0, 1), (1097, .ireturn, 1), (1098, .goto 863, 3), (1101, .aload_n 1, 1), (1102, .aload_n 0, 1), (1103, .iload 5, 2), (1105, .iconst 1, 1), (1106, .iadd, 1), (1107, .iaload, 1), (1108, .aload_n 0, 1), (1109, .iload 5, 2), (1111, .iconst 2, 1), (1112, .iadd, 1), (1113, .iaload, 1), (1114, .aload_n 0, 1), (1115, .iload 5, 2), (1117, .iconst 3, 1), (1118, .iadd, 1), (1119, .iaload, 1), (1120, .aload_n 3, 1), (1121, .invokestatic 172, 3), (1124, .istore 6, 2), (1126, .aload_n 2, 1), (1127, .aload_n 0, 1), (1128, .iload 5, 2), (1130, .iconst 1, 1), (1131, .iadd, 1), (1132, .iaload, 1), (1133, .aload_n 0, 1), (1134, .iload 5, 2), (1136, .iconst 2, 1), (1137, .iadd, 1), (1138, .iaload, 1), (1139, .aload_n 0, 1), (1140, .iload 5, 2), (1142, .iconst 3, 1), (1143, .iadd, 1), (1144, .iaload, 1), (1145, .invokevirtual 174, 3), (1148, .istore 7, 2), (1150, .aload_n 2, 1), (1151, .invokevirtual 117, 3), (1154, .iload 6, 2), (1156, .if_icmp .eq 5, 3), (1159, .iconst 0, 1), (1160, .ireturn, 1), (1161, .iload 6, 2), (1163, .ifCond .ne 15, 3), (1166, .aload_n 3, 1), (1167, .iconst 0, 1), (1168, .laload, 1), (1169, .iload 7, 2), (1171, .i2l, 1), (1172, .lcmp, 1), (1173, .ifCond .eq 5, 3), (1176, .iconst 0, 1), (1177, .ireturn, 1), (1178, .goto 783, 3), (1181, .aload_n 1, 1), (1182, .aload_n 0, 1), (1183, .iload 5, 2), (1185, .iconst 1, 1), (1186, .iadd, 1), (1187, .iaload, 1), (1188, .aload_n 0, 1), (1189, .iload 5, 2), (1191, .iconst 2, 1), (1192, .iadd, 1), (1193, .iaload, 1), (1194, .aload_n 0, 1), (1195, .iload 5, 2), (1197, .iconst 3, 1), (1198, .iadd, 1), (1199, .iaload, 1), (1200, .aload_n 0, 1), (1201, .iload 5, 2), (1203, .iconst 4, 1), (1204, .iadd, 1), (1205, .iaload, 1), (1206, .aload_n 3, 1), (1207, .invokestatic 175, 3), (1210, .istore 6, 2), (1212, .aload_n 2, 1), (1213, .aload_n 0, 1), (1214, .iload 5, 2), (1216, .iconst 1, 1), (1217, .iadd, 1), (1218, .iaload, 1), (1219, .aload_n 0, 1), (1220, .iload 5, 2), (1222, .iconst 2, 1), (1223, .iadd, 1), (1224, .iaload, 1), (1225, .aload_n 0, 1), (1226, .iload 5, 2), (1228, .iconst 3, 1), (1229, .iadd, 1), (1230, .iaload, 1), (1231, .aload_n 0, 1)]
theorem t_L_law5_ok : dec_ok cL_law t_L_law5 = true := by decide +kernel
theorem dL_law_1061 : decode cL_law 1061 = .ok (.iconst 3, 1) := dec_of t_L_law5_ok 0 rfl
theorem dL_law_1062 : decode cL_law 1062 = .ok (.iadd, 1) := dec_of t_L_law5_ok 1 rfl
theorem dL_law_1063 : decode cL_law 1063 = .ok (.iaload, 1) := dec_of t_L_law5_ok 2 rfl
theorem dL_law_1064 : decode cL_law 1064 = .ok (.i2c, 1) := dec_of t_L_law5_ok 3 rfl
theorem dL_law_1065 : decode cL_law 1065 = .ok (.invokevirtual 171, 3) := dec_of t_L_law5_ok 4 rfl
theorem dL_law_1068 : decode cL_law 1068 = .ok (.istore 7, 2) := dec_of t_L_law5_ok 5 rfl
theorem dL_law_1070 : decode cL_law 1070 = .ok (.aload_n 2, 1) := dec_of t_L_law5_ok 6 rfl
theorem dL_law_1071 : decode cL_law 1071 = .ok (.invokevirtual 117, 3) := dec_of t_L_law5_ok 7 rfl
theorem dL_law_1074 : decode cL_law 1074 = .ok (.iload 6, 2) := dec_of t_L_law5_ok 8 rfl
theorem dL_law_1076 : decode cL_law 1076 = .ok (.if_icmp .eq 5, 3) := dec_of t_L_law5_ok 9 rfl
theorem dL_law_1079 : decode cL_law 1079 = .ok (.iconst 0, 1) := dec_of t_L_law5_ok 10 rfl
theorem dL_law_1080 : decode cL_law 1080 = .ok (.ireturn, 1) := dec_of t_L_law5_ok 11 rfl
theorem dL_law_1081 : decode cL_law 1081 = .ok (.iload 6, 2) := dec_of t_L_law5_ok 12 rfl
theorem dL_law_1083 : decode cL_law 1083 = .ok (.ifCond .ne 15, 3) := dec_of t_L_law5_ok 13 rfl
theorem dL_law_1086 : decode cL_law 1086 = .ok (.aload_n 3, 1) := dec_of t_L_law5_ok 14 rfl
theorem dL_law_1087 : decode cL_law 1087 = .ok (.iconst 0, 1) := dec_of t_L_law5_ok 15 rfl
theorem dL_law_1088 : decode cL_law 1088 = .ok (.laload, 1) := dec_of t_L_law5_ok 16 rfl
theorem dL_law_1089 : decode cL_law 1089 = .ok (.iload 7, 2) := dec_of t_L_law5_ok 17 rfl
theorem dL_law_1091 : decode cL_law 1091 = .ok (.i2l, 1) := dec_of t_L_law5_ok 18 rfl
theorem dL_law_1092 : decode cL_law 1092 = .ok (.lcmp, 1) := dec_of t_L_law5_ok 19 rfl
theorem dL_law_1093 : decode cL_law 1093 = .ok (.ifCond .eq 5, 3) := dec_of t_L_law5_ok 20 rfl
theorem dL_law_1096 : decode cL_law 1096 = .ok (.iconst 0, 1) := dec_of t_L_law5_ok 21 rfl
theorem dL_law_1097 : decode cL_law 1097 = .ok (.ireturn, 1) := dec_of t_L_law5_ok 22 rfl
theorem dL_law_1098 : decode cL_law 1098 = .ok (.goto 863, 3) := dec_of t_L_law5_ok 23 rfl
theorem dL_law_1101 : decode cL_law 1101 = .ok (.aload_n 1, 1) := dec_of t_L_law5_ok 24 rfl
theorem dL_law_1102 : decode cL_law 1102 = .ok (.aload_n 0, 1) := dec_of t_L_law5_ok 25 rfl
theorem dL_law_1103 : decode cL_law 1103 = .ok (.iload 5, 2) := dec_of t_L_law5_ok 26 rfl
theorem dL_law_1105 : decode cL_law 1105 = .ok (.iconst 1, 1) := dec_of t_L_law5_ok 27 rfl
theorem dL_law_1106 : decode cL_law 1106 = .ok (.iadd, 1) := dec_of t_L_law5_ok 28 rfl
theorem dL_law_1107 : decode cL_law 1107 = .ok (.iaload, 1) := dec_of t_L_law5_ok 29 rfl
theorem dL_law_1108 : decode cL_law 1108 = .ok (.aload_n 0, 1) := dec_of t_L_law5_ok 30 rfl
theorem dL_law_1109 : decode cL_law 1109 = .ok (.iload 5, 2) := dec_of t_L_law5_ok 31 rfl
theorem dL_law_1111 : decode cL_law 1111 = .ok (.iconst 2, 1) := dec_of t_L_law5_ok 32 rfl
theorem dL_law_1112 : decode cL_law 1112 = .ok (.iadd, 1) := dec_of t_L_law5_ok 33 rfl
theorem dL_law_1113 : decode cL_law 1113 = .ok (.iaload, 1) := dec_of t_L_law5_ok 34 rfl
theorem dL_law_1114 : decode cL_law 1114 = .ok (.aload_n 0, 1) := dec_of t_L_law5_ok 35 rfl
theorem dL_law_1115 : decode cL_law 1115 = .ok (.iload 5, 2) := dec_of t_L_law5_ok 36 rfl
theorem dL_law_1117 : decode cL_law 1117 = .ok (.iconst 3, 1) := dec_of t_L_law5_ok 37 rfl
theorem dL_law_1118 : decode cL_law 1118 = .ok (.iadd, 1) := dec_of t_L_law5_ok 38 rfl
theorem dL_law_1119 : decode cL_law 1119 = .ok (.iaload, 1) := dec_of t_L_law5_ok 39 rfl
theorem dL_law_1120 : decode cL_law 1120 = .ok (.aload_n 3, 1) := dec_of t_L_law5_ok 40 rfl
theorem dL_law_1121 : decode cL_law 1121 = .ok (.invokestatic 172, 3) := dec_of t_L_law5_ok 41 rfl
theorem dL_law_1124 : decode cL_law 1124 = .ok (.istore 6, 2) := dec_of t_L_law5_ok 42 rfl
theorem dL_law_1126 : decode cL_law 1126 = .ok (.aload_n 2, 1) := dec_of t_L_law5_ok 43 rfl
theorem dL_law_1127 : decode cL_law 1127 = .ok (.aload_n 0, 1) := dec_of t_L_law5_ok 44 rfl
theorem dL_law_1128 : decode cL_law 1128 = .ok (.iload 5, 2) := dec_of t_L_law5_ok 45 rfl
theorem dL_law_1130 : decode cL_law 1130 = .ok (.iconst 1, 1) := dec_of t_L_law5_ok 46 rfl
theorem dL_law_1131 : decode cL_law 1131 = .ok (.iadd, 1) := dec_of t_L_law5_ok 47 rfl
theorem dL_law_1132 : decode cL_law 1132 = .ok (.iaload, 1) := dec_of t_L_law5_ok 48 rfl
theorem dL_law_1133 : decode cL_law 1133 = .ok (.aload_n 0, 1) := dec_of t_L_law5_ok 49 rfl
theorem dL_law_1134 : decode cL_law 1134 = .ok (.iload 5, 2) := dec_of t_L_law5_ok 50 rfl
theorem dL_law_1136 : decode cL_law 1136 = .ok (.iconst 2, 1) := dec_of t_L_law5_ok 51 rfl
theorem dL_law_1137 : decode cL_law 1137 = .ok (.iadd, 1) := dec_of t_L_law5_ok 52 rfl
theorem dL_law_1138 : decode cL_law 1138 = .ok (.iaload, 1) := dec_of t_L_law5_ok 53 rfl
theorem dL_law_1139 : decode cL_law 1139 = .ok (.aload_n 0, 1) := dec_of t_L_law5_ok 54 rfl
theorem dL_law_1140 : decode cL_law 1140 = .ok (.iload 5, 2) := dec_of t_L_law5_ok 55 rfl
theorem dL_law_1142 : decode cL_law 1142 = .ok (.iconst 3, 1) := dec_of t_L_law5_ok 56 rfl
theorem dL_law_1143 : decode cL_law 1143 = .ok (.iadd, 1) := dec_of t_L_law5_ok 57 rfl
theorem dL_law_1144 : decode cL_law 1144 = .ok (.iaload, 1) := dec_of t_L_law5_ok 58 rfl
theorem dL_law_1145 : decode cL_law 1145 = .ok (.invokevirtual 174, 3) := dec_of t_L_law5_ok 59 rfl
theorem dL_law_1148 : decode cL_law 1148 = .ok (.istore 7, 2) := dec_of t_L_law5_ok 60 rfl
theorem dL_law_1150 : decode cL_law 1150 = .ok (.aload_n 2, 1) := dec_of t_L_law5_ok 61 rfl
theorem dL_law_1151 : decode cL_law 1151 = .ok (.invokevirtual 117, 3) := dec_of t_L_law5_ok 62 rfl
theorem dL_law_1154 : decode cL_law 1154 = .ok (.iload 6, 2) := dec_of t_L_law5_ok 63 rfl
theorem dL_law_1156 : decode cL_law 1156 = .ok (.if_icmp .eq 5, 3) := dec_of t_L_law5_ok 64 rfl
theorem dL_law_1159 : decode cL_law 1159 = .ok (.iconst 0, 1) := dec_of t_L_law5_ok 65 rfl
theorem dL_law_1160 : decode cL_law 1160 = .ok (.ireturn, 1) := dec_of t_L_law5_ok 66 rfl
theorem dL_law_1161 : decode cL_law 1161 = .ok (.iload 6, 2) := dec_of t_L_law5_ok 67 rfl
theorem dL_law_1163 : decode cL_law 1163 = .ok (.ifCond .ne 15, 3) := dec_of t_L_law5_ok 68 rfl
theorem dL_law_1166 : decode cL_law 1166 = .ok (.aload_n 3, 1) := dec_of t_L_law5_ok 69 rfl
theorem dL_law_1167 : decode cL_law 1167 = .ok (.iconst 0, 1) := dec_of t_L_law5_ok 70 rfl
theorem dL_law_1168 : decode cL_law 1168 = .ok (.laload, 1) := dec_of t_L_law5_ok 71 rfl
theorem dL_law_1169 : decode cL_law 1169 = .ok (.iload 7, 2) := dec_of t_L_law5_ok 72 rfl
theorem dL_law_1171 : decode cL_law 1171 = .ok (.i2l, 1) := dec_of t_L_law5_ok 73 rfl
theorem dL_law_1172 : decode cL_law 1172 = .ok (.lcmp, 1) := dec_of t_L_law5_ok 74 rfl
theorem dL_law_1173 : decode cL_law 1173 = .ok (.ifCond .eq 5, 3) := dec_of t_L_law5_ok 75 rfl
theorem dL_law_1176 : decode cL_law 1176 = .ok (.iconst 0, 1) := dec_of t_L_law5_ok 76 rfl
theorem dL_law_1177 : decode cL_law 1177 = .ok (.ireturn, 1) := dec_of t_L_law5_ok 77 rfl
theorem dL_law_1178 : decode cL_law 1178 = .ok (.goto 783, 3) := dec_of t_L_law5_ok 78 rfl
theorem dL_law_1181 : decode cL_law 1181 = .ok (.aload_n 1, 1) := dec_of t_L_law5_ok 79 rfl
theorem dL_law_1182 : decode cL_law 1182 = .ok (.aload_n 0, 1) := dec_of t_L_law5_ok 80 rfl
theorem dL_law_1183 : decode cL_law 1183 = .ok (.iload 5, 2) := dec_of t_L_law5_ok 81 rfl
theorem dL_law_1185 : decode cL_law 1185 = .ok (.iconst 1, 1) := dec_of t_L_law5_ok 82 rfl
theorem dL_law_1186 : decode cL_law 1186 = .ok (.iadd, 1) := dec_of t_L_law5_ok 83 rfl
theorem dL_law_1187 : decode cL_law 1187 = .ok (.iaload, 1) := dec_of t_L_law5_ok 84 rfl
theorem dL_law_1188 : decode cL_law 1188 = .ok (.aload_n 0, 1) := dec_of t_L_law5_ok 85 rfl
theorem dL_law_1189 : decode cL_law 1189 = .ok (.iload 5, 2) := dec_of t_L_law5_ok 86 rfl
theorem dL_law_1191 : decode cL_law 1191 = .ok (.iconst 2, 1) := dec_of t_L_law5_ok 87 rfl
theorem dL_law_1192 : decode cL_law 1192 = .ok (.iadd, 1) := dec_of t_L_law5_ok 88 rfl
theorem dL_law_1193 : decode cL_law 1193 = .ok (.iaload, 1) := dec_of t_L_law5_ok 89 rfl
theorem dL_law_1194 : decode cL_law 1194 = .ok (.aload_n 0, 1) := dec_of t_L_law5_ok 90 rfl
theorem dL_law_1195 : decode cL_law 1195 = .ok (.iload 5, 2) := dec_of t_L_law5_ok 91 rfl
theorem dL_law_1197 : decode cL_law 1197 = .ok (.iconst 3, 1) := dec_of t_L_law5_ok 92 rfl
theorem dL_law_1198 : decode cL_law 1198 = .ok (.iadd, 1) := dec_of t_L_law5_ok 93 rfl
theorem dL_law_1199 : decode cL_law 1199 = .ok (.iaload, 1) := dec_of t_L_law5_ok 94 rfl
theorem dL_law_1200 : decode cL_law 1200 = .ok (.aload_n 0, 1) := dec_of t_L_law5_ok 95 rfl
theorem dL_law_1201 : decode cL_law 1201 = .ok (.iload 5, 2) := dec_of t_L_law5_ok 96 rfl
theorem dL_law_1203 : decode cL_law 1203 = .ok (.iconst 4, 1) := dec_of t_L_law5_ok 97 rfl
theorem dL_law_1204 : decode cL_law 1204 = .ok (.iadd, 1) := dec_of t_L_law5_ok 98 rfl
theorem dL_law_1205 : decode cL_law 1205 = .ok (.iaload, 1) := dec_of t_L_law5_ok 99 rfl
theorem dL_law_1206 : decode cL_law 1206 = .ok (.aload_n 3, 1) := dec_of t_L_law5_ok 100 rfl
theorem dL_law_1207 : decode cL_law 1207 = .ok (.invokestatic 175, 3) := dec_of t_L_law5_ok 101 rfl
theorem dL_law_1210 : decode cL_law 1210 = .ok (.istore 6, 2) := dec_of t_L_law5_ok 102 rfl
theorem dL_law_1212 : decode cL_law 1212 = .ok (.aload_n 2, 1) := dec_of t_L_law5_ok 103 rfl
theorem dL_law_1213 : decode cL_law 1213 = .ok (.aload_n 0, 1) := dec_of t_L_law5_ok 104 rfl
theorem dL_law_1214 : decode cL_law 1214 = .ok (.iload 5, 2) := dec_of t_L_law5_ok 105 rfl
theorem dL_law_1216 : decode cL_law 1216 = .ok (.iconst 1, 1) := dec_of t_L_law5_ok 106 rfl
theorem dL_law_1217 : decode cL_law 1217 = .ok (.iadd, 1) := dec_of t_L_law5_ok 107 rfl
theorem dL_law_1218 : decode cL_law 1218 = .ok (.iaload, 1) := dec_of t_L_law5_ok 108 rfl
theorem dL_law_1219 : decode cL_law 1219 = .ok (.aload_n 0, 1) := dec_of t_L_law5_ok 109 rfl
theorem dL_law_1220 : decode cL_law 1220 = .ok (.iload 5, 2) := dec_of t_L_law5_ok 110 rfl
theorem dL_law_1222 : decode cL_law 1222 = .ok (.iconst 2, 1) := dec_of t_L_law5_ok 111 rfl
theorem dL_law_1223 : decode cL_law 1223 = .ok (.iadd, 1) := dec_of t_L_law5_ok 112 rfl
theorem dL_law_1224 : decode cL_law 1224 = .ok (.iaload, 1) := dec_of t_L_law5_ok 113 rfl
theorem dL_law_1225 : decode cL_law 1225 = .ok (.aload_n 0, 1) := dec_of t_L_law5_ok 114 rfl
theorem dL_law_1226 : decode cL_law 1226 = .ok (.iload 5, 2) := dec_of t_L_law5_ok 115 rfl
theorem dL_law_1228 : decode cL_law 1228 = .ok (.iconst 3, 1) := dec_of t_L_law5_ok 116 rfl
theorem dL_law_1229 : decode cL_law 1229 = .ok (.iadd, 1) := dec_of t_L_law5_ok 117 rfl
theorem dL_law_1230 : decode cL_law 1230 = .ok (.iaload, 1) := dec_of t_L_law5_ok 118 rfl
theorem dL_law_1231 : decode cL_law 1231 = .ok (.aload_n 0, 1) := dec_of t_L_law5_ok 119 rfl
def t_L_law6 : List (Nat × Instr × Nat) := [(1232, .iload 5, 2), (1234, .iconst 4, 1), (1235, .iadd, 1), (1236, .iaload, 1), (1237, .invokevirtual 178, 3), (1240, .istore 7, 2), (1242, .aload_n 2, 1), (1243, .invokevirtual 117, 3), (1246, .iload 6, 2), (1248, .if_icmp .eq 5, 3), (1251, .iconst 0, 1), (1252, .ireturn, 1), (1253, .iload 6, 2), (1255, .ifCond .ne 15, 3), (1258, .aload_n 3, 1), (1259, .iconst 0, 1), (1260, .laload, 1), (1261, .iload 7, 2), (1263, .i2l, 1), (1264, .lcmp, 1), (1265, .ifCond .eq 5, 3), (1268, .iconst 0, 1), (1269, .ireturn, 1), (1270, .goto 691, 3), (1273, .aload_n 1, 1), (1274, .aload_n 0, 1), (1275, .iload 5, 2), (1277, .iconst 1, 1), (1278, .iadd, 1), (1279, .iaload, 1), (1280, .aload_n 0, 1), (1281, .iload 5, 2), (1283, .iconst 2, 1), (1284, .iadd, 1), (1285, .iaload, 1), (1286, .aload_n 0, 1), (1287, .iload 5, 2), (1289, .iconst 3, 1), (1290, .iadd, 1), (1291, .iaload, 1), (1292, .aload_n 0, 1), (1293, .iload 5, 2), (1295, .iconst 4, 1), (1296, .iadd, 1), (1297, .iaload, 1), (1298, .aload_n 3, 1), (1299, .invokestatic 179, 3), (1302, .istore 6, 2), (1304, .aload_n 2, 1), (1305, .aload_n 0, 1), (1306, .iload 5, 2), (1308, .iconst 1, 1), (1309, .iadd, 1), (1310, .iaload, 1), (1311, .aload_n 0, 1), (1312, .iload 5, 2), (1314, .iconst 2, 1), (1315, .iadd, 1), (1316, .iaload, 1), (1317, .aload_n 0, 1), (1318, .iload 5, 2), (1320, .iconst 3, 1), (1321, .iadd, 1), (1322, .iaload, 1), (1323, .aload_n 0, 1), (1324, .iload 5, 2), (1326, .iconst 4, 1), (1327, .iadd, 1), (1328, .iaload, 1), (1329, .invokevirtual 181, 3), (1332, .istore 7, 2), (1334, .aload_n 2, 1), (1335, .invokevirtual 117, 3), (1338, .iload 6, 2), (1340, .if_icmp .eq 5, 3), (1343, .iconst 0, 1), (1344, .ireturn, 1), (1345, .iload 6, 2), (1347, .ifCond .ne 15, 3), (1350, .aload_n 3, 1), (1351, .iconst 0, 1), (1352, .laload, 1), (1353, .iload 7, 2), (1355, .i2l, 1), (1356, .lcmp, 1), (1357, .ifCond .eq 5, 3), (1360, .iconst 0, 1), (1361, .ireturn, 1), (1362, .goto 599, 3), (1365, .aload_n 1, 1), (1366, .aload_n 0, 1), (1367, .iload 5, 2), (1369, .iconst 1, 1), (1370, .iadd, 1), (1371, .iaload, 1), (1372, .aload_n 0, 1), (1373, .iload 5, 2), (1375, .iconst 2, 1), (1376, .iadd, 1), (1377, .iaload, 1), (1378, .aload_n 3, 1), (1379, .invokestatic 182, 3), (1382, .istore 6, 2), (1384, .aload_n 2, 1), (1385, .aload_n 0, 1), (1386, .iload 5, 2), (1388, .iconst 1, 1), (1389, .iadd, 1), (1390, .iaload, 1), (1391, .aload_n 0, 1), (1392, .iload 5, 2), (1394, .iconst 2, 1), (1395, .iadd, 1), (1396, .iaload, 1), (1397, .invokevirtual 184, 3), (1400, .istore 7, 2), (1402, .aload_n 2, 1), (1403, .invokevirtual 117, 3), (1406, .iload 6, 2), (1408, .if_icmp .eq 5, 3)]
theorem t_L_law6_ok : dec_ok cL_law t_L_law6 = true := by decide +kernel
theorem dL_law_1232 : decode cL_law 1232 = .ok (.iload 5, 2) := dec_of t_L_law6_ok 0 rfl
theorem dL_law_1234 : decode cL_law 1234 = .ok (.iconst 4, 1) := dec_of t_L_law6_ok 1 rfl
theorem dL_law_1235 : decode cL_law 1235 = .ok (.iadd, 1) := dec_of t_L_law6_ok 2 rfl
theorem dL_law_1236 : decode cL_law 1236 = .ok (.iaload, 1) := dec_of t_L_law6_ok 3 rfl
theorem dL_law_1237 : decode cL_law 1237 = .ok (.invokevirtual 178, 3) := dec_of t_L_law6_ok 4 rfl
theorem dL_law_1240 : decode cL_law 1240 = .ok (.istore 7, 2) := dec_of t_L_law6_ok 5 rfl
theorem dL_law_1242 : decode cL_law 1242 = .ok (.aload_n 2, 1) := dec_of t_L_law6_ok 6 rfl
theorem dL_law_1243 : decode cL_law 1243 = .ok (.invokevirtual 117, 3) := dec_of t_L_law6_ok 7 rfl
theorem dL_law_1246 : decode cL_law 1246 = .ok (.iload 6, 2) := dec_of t_L_law6_ok 8 rfl
theorem dL_law_1248 : decode cL_law 1248 = .ok (.if_icmp .eq 5, 3) := dec_of t_L_law6_ok 9 rfl
theorem dL_law_1251 : decode cL_law 1251 = .ok (.iconst 0, 1) := dec_of t_L_law6_ok 10 rfl
theorem dL_law_1252 : decode cL_law 1252 = .ok (.ireturn, 1) := dec_of t_L_law6_ok 11 rfl
theorem dL_law_1253 : decode cL_law 1253 = .ok (.iload 6, 2) := dec_of t_L_law6_ok 12 rfl
theorem dL_law_1255 : decode cL_law 1255 = .ok (.ifCond .ne 15, 3) := dec_of t_L_law6_ok 13 rfl
theorem dL_law_1258 : decode cL_law 1258 = .ok (.aload_n 3, 1) := dec_of t_L_law6_ok 14 rfl
theorem dL_law_1259 : decode cL_law 1259 = .ok (.iconst 0, 1) := dec_of t_L_law6_ok 15 rfl
theorem dL_law_1260 : decode cL_law 1260 = .ok (.laload, 1) := dec_of t_L_law6_ok 16 rfl
theorem dL_law_1261 : decode cL_law 1261 = .ok (.iload 7, 2) := dec_of t_L_law6_ok 17 rfl
theorem dL_law_1263 : decode cL_law 1263 = .ok (.i2l, 1) := dec_of t_L_law6_ok 18 rfl
theorem dL_law_1264 : decode cL_law 1264 = .ok (.lcmp, 1) := dec_of t_L_law6_ok 19 rfl
theorem dL_law_1265 : decode cL_law 1265 = .ok (.ifCond .eq 5, 3) := dec_of t_L_law6_ok 20 rfl
theorem dL_law_1268 : decode cL_law 1268 = .ok (.iconst 0, 1) := dec_of t_L_law6_ok 21 rfl
theorem dL_law_1269 : decode cL_law 1269 = .ok (.ireturn, 1) := dec_of t_L_law6_ok 22 rfl
theorem dL_law_1270 : decode cL_law 1270 = .ok (.goto 691, 3) := dec_of t_L_law6_ok 23 rfl
theorem dL_law_1273 : decode cL_law 1273 = .ok (.aload_n 1, 1) := dec_of t_L_law6_ok 24 rfl
theorem dL_law_1274 : decode cL_law 1274 = .ok (.aload_n 0, 1) := dec_of t_L_law6_ok 25 rfl
theorem dL_law_1275 : decode cL_law 1275 = .ok (.iload 5, 2) := dec_of t_L_law6_ok 26 rfl
theorem dL_law_1277 : decode cL_law 1277 = .ok (.iconst 1, 1) := dec_of t_L_law6_ok 27 rfl
theorem dL_law_1278 : decode cL_law 1278 = .ok (.iadd, 1) := dec_of t_L_law6_ok 28 rfl
theorem dL_law_1279 : decode cL_law 1279 = .ok (.iaload, 1) := dec_of t_L_law6_ok 29 rfl
theorem dL_law_1280 : decode cL_law 1280 = .ok (.aload_n 0, 1) := dec_of t_L_law6_ok 30 rfl
theorem dL_law_1281 : decode cL_law 1281 = .ok (.iload 5, 2) := dec_of t_L_law6_ok 31 rfl
theorem dL_law_1283 : decode cL_law 1283 = .ok (.iconst 2, 1) := dec_of t_L_law6_ok 32 rfl
theorem dL_law_1284 : decode cL_law 1284 = .ok (.iadd, 1) := dec_of t_L_law6_ok 33 rfl
theorem dL_law_1285 : decode cL_law 1285 = .ok (.iaload, 1) := dec_of t_L_law6_ok 34 rfl
theorem dL_law_1286 : decode cL_law 1286 = .ok (.aload_n 0, 1) := dec_of t_L_law6_ok 35 rfl
theorem dL_law_1287 : decode cL_law 1287 = .ok (.iload 5, 2) := dec_of t_L_law6_ok 36 rfl
theorem dL_law_1289 : decode cL_law 1289 = .ok (.iconst 3, 1) := dec_of t_L_law6_ok 37 rfl
theorem dL_law_1290 : decode cL_law 1290 = .ok (.iadd, 1) := dec_of t_L_law6_ok 38 rfl
theorem dL_law_1291 : decode cL_law 1291 = .ok (.iaload, 1) := dec_of t_L_law6_ok 39 rfl
theorem dL_law_1292 : decode cL_law 1292 = .ok (.aload_n 0, 1) := dec_of t_L_law6_ok 40 rfl
theorem dL_law_1293 : decode cL_law 1293 = .ok (.iload 5, 2) := dec_of t_L_law6_ok 41 rfl
theorem dL_law_1295 : decode cL_law 1295 = .ok (.iconst 4, 1) := dec_of t_L_law6_ok 42 rfl
theorem dL_law_1296 : decode cL_law 1296 = .ok (.iadd, 1) := dec_of t_L_law6_ok 43 rfl
theorem dL_law_1297 : decode cL_law 1297 = .ok (.iaload, 1) := dec_of t_L_law6_ok 44 rfl
theorem dL_law_1298 : decode cL_law 1298 = .ok (.aload_n 3, 1) := dec_of t_L_law6_ok 45 rfl
theorem dL_law_1299 : decode cL_law 1299 = .ok (.invokestatic 179, 3) := dec_of t_L_law6_ok 46 rfl
theorem dL_law_1302 : decode cL_law 1302 = .ok (.istore 6, 2) := dec_of t_L_law6_ok 47 rfl
theorem dL_law_1304 : decode cL_law 1304 = .ok (.aload_n 2, 1) := dec_of t_L_law6_ok 48 rfl
theorem dL_law_1305 : decode cL_law 1305 = .ok (.aload_n 0, 1) := dec_of t_L_law6_ok 49 rfl
theorem dL_law_1306 : decode cL_law 1306 = .ok (.iload 5, 2) := dec_of t_L_law6_ok 50 rfl
theorem dL_law_1308 : decode cL_law 1308 = .ok (.iconst 1, 1) := dec_of t_L_law6_ok 51 rfl
theorem dL_law_1309 : decode cL_law 1309 = .ok (.iadd, 1) := dec_of t_L_law6_ok 52 rfl
theorem dL_law_1310 : decode cL_law 1310 = .ok (.iaload, 1) := dec_of t_L_law6_ok 53 rfl
theorem dL_law_1311 : decode cL_law 1311 = .ok (.aload_n 0, 1) := dec_of t_L_law6_ok 54 rfl
theorem dL_law_1312 : decode cL_law 1312 = .ok (.iload 5, 2) := dec_of t_L_law6_ok 55 rfl
theorem dL_law_1314 : decode cL_law 1314 = .ok (.iconst 2, 1) := dec_of t_L_law6_ok 56 rfl
theorem dL_law_1315 : decode cL_law 1315 = .ok (.iadd, 1) := dec_of t_L_law6_ok 57 rfl
theorem dL_law_1316 : decode cL_law 1316 = .ok (.iaload, 1) := dec_of t_L_law6_ok 58 rfl
theorem dL_law_1317 : decode cL_law 1317 = .ok (.aload_n 0, 1) := dec_of t_L_law6_ok 59 rfl
theorem dL_law_1318 : decode cL_law 1318 = .ok (.iload 5, 2) := dec_of t_L_law6_ok 60 rfl
theorem dL_law_1320 : decode cL_law 1320 = .ok (.iconst 3, 1) := dec_of t_L_law6_ok 61 rfl
theorem dL_law_1321 : decode cL_law 1321 = .ok (.iadd, 1) := dec_of t_L_law6_ok 62 rfl
theorem dL_law_1322 : decode cL_law 1322 = .ok (.iaload, 1) := dec_of t_L_law6_ok 63 rfl
theorem dL_law_1323 : decode cL_law 1323 = .ok (.aload_n 0, 1) := dec_of t_L_law6_ok 64 rfl
theorem dL_law_1324 : decode cL_law 1324 = .ok (.iload 5, 2) := dec_of t_L_law6_ok 65 rfl
theorem dL_law_1326 : decode cL_law 1326 = .ok (.iconst 4, 1) := dec_of t_L_law6_ok 66 rfl
theorem dL_law_1327 : decode cL_law 1327 = .ok (.iadd, 1) := dec_of t_L_law6_ok 67 rfl
theorem dL_law_1328 : decode cL_law 1328 = .ok (.iaload, 1) := dec_of t_L_law6_ok 68 rfl
theorem dL_law_1329 : decode cL_law 1329 = .ok (.invokevirtual 181, 3) := dec_of t_L_law6_ok 69 rfl
theorem dL_law_1332 : decode cL_law 1332 = .ok (.istore 7, 2) := dec_of t_L_law6_ok 70 rfl
theorem dL_law_1334 : decode cL_law 1334 = .ok (.aload_n 2, 1) := dec_of t_L_law6_ok 71 rfl
theorem dL_law_1335 : decode cL_law 1335 = .ok (.invokevirtual 117, 3) := dec_of t_L_law6_ok 72 rfl
theorem dL_law_1338 : decode cL_law 1338 = .ok (.iload 6, 2) := dec_of t_L_law6_ok 73 rfl
theorem dL_law_1340 : decode cL_law 1340 = .ok (.if_icmp .eq 5, 3) := dec_of t_L_law6_ok 74 rfl
theorem dL_law_1343 : decode cL_law 1343 = .ok (.iconst 0, 1) := dec_of t_L_law6_ok 75 rfl
theorem dL_law_1344 : decode cL_law 1344 = .ok (.ireturn, 1) := dec_of t_L_law6_ok 76 rfl
theorem dL_law_1345 : decode cL_law 1345 = .ok (.iload 6, 2) := dec_of t_L_law6_ok 77 rfl
theorem dL_law_1347 : decode cL_law 1347 = .ok (.ifCond .ne 15, 3) := dec_of t_L_law6_ok 78 rfl
theorem dL_law_1350 : decode cL_law 1350 = .ok (.aload_n 3, 1) := dec_of t_L_law6_ok 79 rfl
theorem dL_law_1351 : decode cL_law 1351 = .ok (.iconst 0, 1) := dec_of t_L_law6_ok 80 rfl
theorem dL_law_1352 : decode cL_law 1352 = .ok (.laload, 1) := dec_of t_L_law6_ok 81 rfl
theorem dL_law_1353 : decode cL_law 1353 = .ok (.iload 7, 2) := dec_of t_L_law6_ok 82 rfl
theorem dL_law_1355 : decode cL_law 1355 = .ok (.i2l, 1) := dec_of t_L_law6_ok 83 rfl
theorem dL_law_1356 : decode cL_law 1356 = .ok (.lcmp, 1) := dec_of t_L_law6_ok 84 rfl
theorem dL_law_1357 : decode cL_law 1357 = .ok (.ifCond .eq 5, 3) := dec_of t_L_law6_ok 85 rfl
theorem dL_law_1360 : decode cL_law 1360 = .ok (.iconst 0, 1) := dec_of t_L_law6_ok 86 rfl
theorem dL_law_1361 : decode cL_law 1361 = .ok (.ireturn, 1) := dec_of t_L_law6_ok 87 rfl
theorem dL_law_1362 : decode cL_law 1362 = .ok (.goto 599, 3) := dec_of t_L_law6_ok 88 rfl
theorem dL_law_1365 : decode cL_law 1365 = .ok (.aload_n 1, 1) := dec_of t_L_law6_ok 89 rfl
theorem dL_law_1366 : decode cL_law 1366 = .ok (.aload_n 0, 1) := dec_of t_L_law6_ok 90 rfl
theorem dL_law_1367 : decode cL_law 1367 = .ok (.iload 5, 2) := dec_of t_L_law6_ok 91 rfl
theorem dL_law_1369 : decode cL_law 1369 = .ok (.iconst 1, 1) := dec_of t_L_law6_ok 92 rfl
theorem dL_law_1370 : decode cL_law 1370 = .ok (.iadd, 1) := dec_of t_L_law6_ok 93 rfl
theorem dL_law_1371 : decode cL_law 1371 = .ok (.iaload, 1) := dec_of t_L_law6_ok 94 rfl
theorem dL_law_1372 : decode cL_law 1372 = .ok (.aload_n 0, 1) := dec_of t_L_law6_ok 95 rfl
theorem dL_law_1373 : decode cL_law 1373 = .ok (.iload 5, 2) := dec_of t_L_law6_ok 96 rfl
theorem dL_law_1375 : decode cL_law 1375 = .ok (.iconst 2, 1) := dec_of t_L_law6_ok 97 rfl
theorem dL_law_1376 : decode cL_law 1376 = .ok (.iadd, 1) := dec_of t_L_law6_ok 98 rfl
theorem dL_law_1377 : decode cL_law 1377 = .ok (.iaload, 1) := dec_of t_L_law6_ok 99 rfl
theorem dL_law_1378 : decode cL_law 1378 = .ok (.aload_n 3, 1) := dec_of t_L_law6_ok 100 rfl
theorem dL_law_1379 : decode cL_law 1379 = .ok (.invokestatic 182, 3) := dec_of t_L_law6_ok 101 rfl
theorem dL_law_1382 : decode cL_law 1382 = .ok (.istore 6, 2) := dec_of t_L_law6_ok 102 rfl
theorem dL_law_1384 : decode cL_law 1384 = .ok (.aload_n 2, 1) := dec_of t_L_law6_ok 103 rfl
theorem dL_law_1385 : decode cL_law 1385 = .ok (.aload_n 0, 1) := dec_of t_L_law6_ok 104 rfl
theorem dL_law_1386 : decode cL_law 1386 = .ok (.iload 5, 2) := dec_of t_L_law6_ok 105 rfl
theorem dL_law_1388 : decode cL_law 1388 = .ok (.iconst 1, 1) := dec_of t_L_law6_ok 106 rfl
theorem dL_law_1389 : decode cL_law 1389 = .ok (.iadd, 1) := dec_of t_L_law6_ok 107 rfl
theorem dL_law_1390 : decode cL_law 1390 = .ok (.iaload, 1) := dec_of t_L_law6_ok 108 rfl
theorem dL_law_1391 : decode cL_law 1391 = .ok (.aload_n 0, 1) := dec_of t_L_law6_ok 109 rfl
theorem dL_law_1392 : decode cL_law 1392 = .ok (.iload 5, 2) := dec_of t_L_law6_ok 110 rfl
theorem dL_law_1394 : decode cL_law 1394 = .ok (.iconst 2, 1) := dec_of t_L_law6_ok 111 rfl
theorem dL_law_1395 : decode cL_law 1395 = .ok (.iadd, 1) := dec_of t_L_law6_ok 112 rfl
theorem dL_law_1396 : decode cL_law 1396 = .ok (.iaload, 1) := dec_of t_L_law6_ok 113 rfl
theorem dL_law_1397 : decode cL_law 1397 = .ok (.invokevirtual 184, 3) := dec_of t_L_law6_ok 114 rfl
theorem dL_law_1400 : decode cL_law 1400 = .ok (.istore 7, 2) := dec_of t_L_law6_ok 115 rfl
theorem dL_law_1402 : decode cL_law 1402 = .ok (.aload_n 2, 1) := dec_of t_L_law6_ok 116 rfl
theorem dL_law_1403 : decode cL_law 1403 = .ok (.invokevirtual 117, 3) := dec_of t_L_law6_ok 117 rfl
theorem dL_law_1406 : decode cL_law 1406 = .ok (.iload 6, 2) := dec_of t_L_law6_ok 118 rfl
theorem dL_law_1408 : decode cL_law 1408 = .ok (.if_icmp .eq 5, 3) := dec_of t_L_law6_ok 119 rfl
def t_L_law7 : List (Nat × Instr × Nat) := [(1411, .iconst 0, 1), (1412, .ireturn, 1), (1413, .iload 6, 2), (1415, .ifCond .ne 15, 3), (1418, .aload_n 3, 1), (1419, .iconst 0, 1), (1420, .laload, 1), (1421, .iload 7, 2), (1423, .i2l, 1), (1424, .lcmp, 1), (1425, .ifCond .eq 5, 3), (1428, .iconst 0, 1), (1429, .ireturn, 1), (1430, .goto 531, 3), (1433, .aload_n 1, 1), (1434, .aload_n 0, 1), (1435, .iload 5, 2), (1437, .iconst 1, 1), (1438, .iadd, 1), (1439, .iaload, 1), (1440, .aload_n 3, 1), (1441, .invokestatic 185, 3), (1444, .istore 6, 2), (1446, .aload_n 2, 1), (1447, .aload_n 0, 1), (1448, .iload 5, 2), (1450, .iconst 1, 1), (1451, .iadd, 1), (1452, .iaload, 1), (1453, .invokevirtual 187, 3), (1456, .istore 7, 2), (1458, .aload_n 2, 1), (1459, .invokevirtual 117, 3), (1462, .iload 6, 2), (1464, .if_icmp .eq 5, 3), (1467, .iconst 0, 1), (1468, .ireturn, 1), (1469, .iload 6, 2), (1471, .ifCond .ne 15, 3), (1474, .aload_n 3, 1), (1475, .iconst 0, 1), (1476, .laload, 1), (1477, .iload 7, 2), (1479, .i2l, 1), (1480, .lcmp, 1), (1481, .ifCond .eq 5, 3), (1484, .iconst 0, 1), (1485, .ireturn, 1), (1486, .goto 475, 3), (1489, .aload_n 1, 1), (1490, .aload_n 0, 1), (1491, .iload 5, 2), (1493, .iconst 1, 1), (1494, .iadd, 1), (1495, .iaload, 1), (1496, .aload_n 3, 1), (1497, .invokestatic 188, 3), (1500, .istore 6, 2), (1502, .aload_n 2, 1), (1503, .aload_n 0, 1), (1504, .iload 5, 2), (1506, .iconst 1, 1), (1507, .iadd, 1), (1508, .iaload, 1), (1509, .invokevirtual 190, 3), (1512, .istore 7, 2), (1514, .aload_n 2, 1), (1515, .invokevirtual 117, 3), (1518, .iload 6, 2), (1520, .if_icmp .eq 5, 3), (1523, .iconst 0, 1), (1524, .ireturn, 1), (1525, .iload 6, 2), (1527, .ifCond .ne 15, 3), (1530, .aload_n 3, 1), (1531, .iconst 0, 1), (1532, .laload, 1), (1533, .iload 7, 2), (1535, .i2l, 1), (1536, .lcmp, 1), (1537, .ifCond .eq 5, 3), (1540, .iconst 0, 1), (1541, .ireturn, 1), (1542, .goto 419, 3), (1545, .aload_n 1, 1), (1546, .aload_n 0, 1), (1547, .iload 5, 2), (1549, .iconst 1, 1), (1550, .iadd, 1), (1551, .iaload, 1), (1552, .ifCond .eq 7, 3), (1555, .iconst 1, 1), (1556, .goto 4, 3), (1559, .iconst 0, 1), (1560, .invokevirtual 191, 3), (1563, .aload_n 2, 1), (1564, .aload_n 0, 1), (1565, .iload 5, 2), (1567, .iconst 1, 1), (1568, .iadd, 1), (1569, .iaload, 1), (1570, .ifCond .eq 7, 3), (1573, .iconst 1, 1), (1574, .goto 4, 3), (1577, .iconst 0, 1), (1578, .invokevirtual 195, 3), (1581, .if_icmp .eq 380, 3), (1584, .iconst 0, 1), (1585, .ireturn, 1), (1586, .aload_n 1, 1), (1587, .invokevirtual 196, 3), (1590, .aload_n 2, 1), (1591, .invokevirtual 199, 3), (1594, .if_icmp .eq 367, 3), (1597, .iconst 0, 1), (1598, .ireturn, 1), (1599, .aload_n 1, 1), (1600, .aload_n 0, 1), (1601, .iload 5, 2), (1603, .iconst 1, 1)]
theorem t_L_law7_ok : dec_ok cL_law t_L_law7 = true := by decide +kernel
theorem dL_law_1411 : decode cL_law 1411 = .ok (.iconst 0, 1) := dec_of t_L_law7_ok 0 rfl
theorem dL_law_1412 : decode cL_law 1412 = .ok (.ireturn, 1) := dec_of t_L_law7_ok 1 rfl
theorem dL_law_1413 : decode cL_law 1413 = .ok (.iload 6, 2) := dec_of t_L_law7_ok 2 rfl
theorem dL_law_1415 : decode cL_law 1415 = .ok (.ifCond .ne 15, 3) := dec_of t_L_law7_ok 3 rfl
theorem dL_law_1418 : decode cL_law 1418 = .ok (.aload_n 3, 1) := dec_of t_L_law7_ok 4 rfl
theorem dL_law_1419 : decode cL_law 1419 = .ok (.iconst 0, 1) := dec_of t_L_law7_ok 5 rfl
theorem dL_law_1420 : decode cL_law 1420 = .ok (.laload, 1) := dec_of t_L_law7_ok 6 rfl
theorem dL_law_1421 : decode cL_law 1421 = .ok (.iload 7, 2) := dec_of t_L_law7_ok 7 rfl
theorem dL_law_1423 : decode cL_law 1423 = .ok (.i2l, 1) := dec_of t_L_law7_ok 8 rfl
theorem dL_law_1424 : decode cL_law 1424 = .ok (.lcmp, 1) := dec_of t_L_law7_ok 9 rfl
theorem dL_law_1425 : decode cL_law 1425 = .ok (.ifCond .eq 5, 3) := dec_of t_L_law7_ok 10 rfl
theorem dL_law_1428 : decode cL_law 1428 = .ok (.iconst 0, 1) := dec_of t_L_law7_ok 11 rfl
theorem dL_law_1429 : decode cL_law 1429 = .ok (.ireturn, 1) := dec_of t_L_law7_ok 12 rfl
theorem dL_law_1430 : decode cL_law 1430 = .ok (.goto 531, 3) := dec_of t_L_law7_ok 13 rfl
theorem dL_law_1433 : decode cL_law 1433 = .ok (.aload_n 1, 1) := dec_of t_L_law7_ok 14 rfl
theorem dL_law_1434 : decode cL_law 1434 = .ok (.aload_n 0, 1) := dec_of t_L_law7_ok 15 rfl
theorem dL_law_1435 : decode cL_law 1435 = .ok (.iload 5, 2) := dec_of t_L_law7_ok 16 rfl
theorem dL_law_1437 : decode cL_law 1437 = .ok (.iconst 1, 1) := dec_of t_L_law7_ok 17 rfl
theorem dL_law_1438 : decode cL_law 1438 = .ok (.iadd, 1) := dec_of t_L_law7_ok 18 rfl
theorem dL_law_1439 : decode cL_law 1439 = .ok (.iaload, 1) := dec_of t_L_law7_ok 19 rfl
theorem dL_law_1440 : decode cL_law 1440 = .ok (.aload_n 3, 1) := dec_of t_L_law7_ok 20 rfl
theorem dL_law_1441 : decode cL_law 1441 = .ok (.invokestatic 185, 3) := dec_of t_L_law7_ok 21 rfl
theorem dL_law_1444 : decode cL_law 1444 = .ok (.istore 6, 2) := dec_of t_L_law7_ok 22 rfl
theorem dL_law_1446 : decode cL_law 1446 = .ok (.aload_n 2, 1) := dec_of t_L_law7_ok 23 rfl
theorem dL_law_1447 : decode cL_law 1447 = .ok (.aload_n 0, 1) := dec_of t_L_law7_ok 24 rfl
theorem dL_law_1448 : decode cL_law 1448 = .ok (.iload 5, 2) := dec_of t_L_law7_ok 25 rfl
theorem dL_law_1450 : decode cL_law 1450 = .ok (.iconst 1, 1) := dec_of t_L_law7_ok 26 rfl
theorem dL_law_1451 : decode cL_law 1451 = .ok (.iadd, 1) := dec_of t_L_law7_ok 27 rfl
theorem dL_law_1452 : decode cL_law 1452 = .ok (.iaload, 1) := dec_of t_L_law7_ok 28 rfl
theorem dL_law_1453 : decode cL_law 1453 = .ok (.invokevirtual 187, 3) := dec_of t_L_law7_ok 29 rfl
theorem dL_law_1456 : decode cL_law 1456 = .ok (.istore 7, 2) := dec_of t_L_law7_ok 30 rfl
theorem dL_law_1458 : decode cL_law 1458 = .ok (.aload_n 2, 1) := dec_of t_L_law7_ok 31 rfl
theorem dL_law_1459 : decode cL_law 1459 = .ok (.invokevirtual 117, 3) := dec_of t_L_law7_ok 32 rfl
theorem dL_law_1462 : decode cL_law 1462 = .ok (.iload 6, 2) := dec_of t_L_law7_ok 33 rfl
theorem dL_law_1464 : decode cL_law 1464 = .ok (.if_icmp .eq 5, 3) := dec_of t_L_law7_ok 34 rfl
theorem dL_law_1467 : decode cL_law 1467 = .ok (.iconst 0, 1) := dec_of t_L_law7_ok 35 rfl
theorem dL_law_1468 : decode cL_law 1468 = .ok (.ireturn, 1) := dec_of t_L_law7_ok 36 rfl
theorem dL_law_1469 : decode cL_law 1469 = .ok (.iload 6, 2) := dec_of t_L_law7_ok 37 rfl
theorem dL_law_1471 : decode cL_law 1471 = .ok (.ifCond .ne 15, 3) := dec_of t_L_law7_ok 38 rfl
theorem dL_law_1474 : decode cL_law 1474 = .ok (.aload_n 3, 1) := dec_of t_L_law7_ok 39 rfl
theorem dL_law_1475 : decode cL_law 1475 = .ok (.iconst 0, 1) := dec_of t_L_law7_ok 40 rfl
theorem dL_law_1476 : decode cL_law 1476 = .ok (.laload, 1) := dec_of t_L_law7_ok 41 rfl
theorem dL_law_1477 : decode cL_law 1477 = .ok (.iload 7, 2) := dec_of t_L_law7_ok 42 rfl
theorem dL_law_1479 : decode cL_law 1479 = .ok (.i2l, 1) := dec_of t_L_law7_ok 43 rfl
theorem dL_law_1480 : decode cL_law 1480 = .ok (.lcmp, 1) := dec_of t_L_law7_ok 44 rfl
theorem dL_law_1481 : decode cL_law 1481 = .ok (.ifCond .eq 5, 3) := dec_of t_L_law7_ok 45 rfl
theorem dL_law_1484 : decode cL_law 1484 = .ok (.iconst 0, 1) := dec_of t_L_law7_ok 46 rfl
theorem dL_law_1485 : decode cL_law 1485 = .ok (.ireturn, 1) := dec_of t_L_law7_ok 47 rfl
theorem dL_law_1486 : decode cL_law 1486 = .ok (.goto 475, 3) := dec_of t_L_law7_ok 48 rfl
theorem dL_law_1489 : decode cL_law 1489 = .ok (.aload_n 1, 1) := dec_of t_L_law7_ok 49 rfl
theorem dL_law_1490 : decode cL_law 1490 = .ok (.aload_n 0, 1) := dec_of t_L_law7_ok 50 rfl
theorem dL_law_1491 : decode cL_law 1491 = .ok (.iload 5, 2) := dec_of t_L_law7_ok 51 rfl
theorem dL_law_1493 : decode cL_law 1493 = .ok (.iconst 1, 1) := dec_of t_L_law7_ok 52 rfl
theorem dL_law_1494 : decode cL_law 1494 = .ok (.iadd, 1) := dec_of t_L_law7_ok 53 rfl
theorem dL_law_1495 : decode cL_law 1495 = .ok (.iaload, 1) := dec_of t_L_law7_ok 54 rfl
theorem dL_law_1496 : decode cL_law 1496 = .ok (.aload_n 3, 1) := dec_of t_L_law7_ok 55 rfl
theorem dL_law_1497 : decode cL_law 1497 = .ok (.invokestatic 188, 3) := dec_of t_L_law7_ok 56 rfl
theorem dL_law_1500 : decode cL_law 1500 = .ok (.istore 6, 2) := dec_of t_L_law7_ok 57 rfl
theorem dL_law_1502 : decode cL_law 1502 = .ok (.aload_n 2, 1) := dec_of t_L_law7_ok 58 rfl
theorem dL_law_1503 : decode cL_law 1503 = .ok (.aload_n 0, 1) := dec_of t_L_law7_ok 59 rfl
theorem dL_law_1504 : decode cL_law 1504 = .ok (.iload 5, 2) := dec_of t_L_law7_ok 60 rfl
theorem dL_law_1506 : decode cL_law 1506 = .ok (.iconst 1, 1) := dec_of t_L_law7_ok 61 rfl
theorem dL_law_1507 : decode cL_law 1507 = .ok (.iadd, 1) := dec_of t_L_law7_ok 62 rfl
theorem dL_law_1508 : decode cL_law 1508 = .ok (.iaload, 1) := dec_of t_L_law7_ok 63 rfl
theorem dL_law_1509 : decode cL_law 1509 = .ok (.invokevirtual 190, 3) := dec_of t_L_law7_ok 64 rfl
theorem dL_law_1512 : decode cL_law 1512 = .ok (.istore 7, 2) := dec_of t_L_law7_ok 65 rfl
theorem dL_law_1514 : decode cL_law 1514 = .ok (.aload_n 2, 1) := dec_of t_L_law7_ok 66 rfl
theorem dL_law_1515 : decode cL_law 1515 = .ok (.invokevirtual 117, 3) := dec_of t_L_law7_ok 67 rfl
theorem dL_law_1518 : decode cL_law 1518 = .ok (.iload 6, 2) := dec_of t_L_law7_ok 68 rfl
theorem dL_law_1520 : decode cL_law 1520 = .ok (.if_icmp .eq 5, 3) := dec_of t_L_law7_ok 69 rfl
theorem dL_law_1523 : decode cL_law 1523 = .ok (.iconst 0, 1) := dec_of t_L_law7_ok 70 rfl
theorem dL_law_1524 : decode cL_law 1524 = .ok (.ireturn, 1) := dec_of t_L_law7_ok 71 rfl
theorem dL_law_1525 : decode cL_law 1525 = .ok (.iload 6, 2) := dec_of t_L_law7_ok 72 rfl
theorem dL_law_1527 : decode cL_law 1527 = .ok (.ifCond .ne 15, 3) := dec_of t_L_law7_ok 73 rfl
theorem dL_law_1530 : decode cL_law 1530 = .ok (.aload_n 3, 1) := dec_of t_L_law7_ok 74 rfl
theorem dL_law_1531 : decode cL_law 1531 = .ok (.iconst 0, 1) := dec_of t_L_law7_ok 75 rfl
theorem dL_law_1532 : decode cL_law 1532 = .ok (.laload, 1) := dec_of t_L_law7_ok 76 rfl
theorem dL_law_1533 : decode cL_law 1533 = .ok (.iload 7, 2) := dec_of t_L_law7_ok 77 rfl
theorem dL_law_1535 : decode cL_law 1535 = .ok (.i2l, 1) := dec_of t_L_law7_ok 78 rfl
theorem dL_law_1536 : decode cL_law 1536 = .ok (.lcmp, 1) := dec_of t_L_law7_ok 79 rfl
theorem dL_law_1537 : decode cL_law 1537 = .ok (.ifCond .eq 5, 3) := dec_of t_L_law7_ok 80 rfl
theorem dL_law_1540 : decode cL_law 1540 = .ok (.iconst 0, 1) := dec_of t_L_law7_ok 81 rfl
theorem dL_law_1541 : decode cL_law 1541 = .ok (.ireturn, 1) := dec_of t_L_law7_ok 82 rfl
theorem dL_law_1542 : decode cL_law 1542 = .ok (.goto 419, 3) := dec_of t_L_law7_ok 83 rfl
theorem dL_law_1545 : decode cL_law 1545 = .ok (.aload_n 1, 1) := dec_of t_L_law7_ok 84 rfl
theorem dL_law_1546 : decode cL_law 1546 = .ok (.aload_n 0, 1) := dec_of t_L_law7_ok 85 rfl
theorem dL_law_1547 : decode cL_law 1547 = .ok (.iload 5, 2) := dec_of t_L_law7_ok 86 rfl
theorem dL_law_1549 : decode cL_law 1549 = .ok (.iconst 1, 1) := dec_of t_L_law7_ok 87 rfl
theorem dL_law_1550 : decode cL_law 1550 = .ok (.iadd, 1) := dec_of t_L_law7_ok 88 rfl
theorem dL_law_1551 : decode cL_law 1551 = .ok (.iaload, 1) := dec_of t_L_law7_ok 89 rfl
theorem dL_law_1552 : decode cL_law 1552 = .ok (.ifCond .eq 7, 3) := dec_of t_L_law7_ok 90 rfl
theorem dL_law_1555 : decode cL_law 1555 = .ok (.iconst 1, 1) := dec_of t_L_law7_ok 91 rfl
theorem dL_law_1556 : decode cL_law 1556 = .ok (.goto 4, 3) := dec_of t_L_law7_ok 92 rfl
theorem dL_law_1559 : decode cL_law 1559 = .ok (.iconst 0, 1) := dec_of t_L_law7_ok 93 rfl
theorem dL_law_1560 : decode cL_law 1560 = .ok (.invokevirtual 191, 3) := dec_of t_L_law7_ok 94 rfl
theorem dL_law_1563 : decode cL_law 1563 = .ok (.aload_n 2, 1) := dec_of t_L_law7_ok 95 rfl
theorem dL_law_1564 : decode cL_law 1564 = .ok (.aload_n 0, 1) := dec_of t_L_law7_ok 96 rfl
theorem dL_law_1565 : decode cL_law 1565 = .ok (.iload 5, 2) := dec_of t_L_law7_ok 97 rfl
theorem dL_law_1567 : decode cL_law 1567 = .ok (.iconst 1, 1) := dec_of t_L_law7_ok 98 rfl
theorem dL_law_1568 : decode cL_law 1568 = .ok (.iadd, 1) := dec_of t_L_law7_ok 99 rfl
theorem dL_law_1569 : decode cL_law 1569 = .ok (.iaload, 1) := dec_of t_L_law7_ok 100 rfl
theorem dL_law_1570 : decode cL_law 1570 = .ok (.ifCond .eq 7, 3) := dec_of t_L_law7_ok 101 rfl
theorem dL_law_1573 : decode cL_law 1573 = .ok (.iconst 1, 1) := dec_of t_L_law7_ok 102 rfl
theorem dL_law_1574 : decode cL_law 1574 = .ok (.goto 4, 3) := dec_of t_L_law7_ok 103 rfl
theorem dL_law_1577 : decode cL_law 1577 = .ok (.iconst 0, 1) := dec_of t_L_law7_ok 104 rfl
theorem dL_law_1578 : decode cL_law 1578 = .ok (.invokevirtual 195, 3) := dec_of t_L_law7_ok 105 rfl
theorem dL_law_1581 : decode cL_law 1581 = .ok (.if_icmp .eq 380, 3) := dec_of t_L_law7_ok 106 rfl
theorem dL_law_1584 : decode cL_law 1584 = .ok (.iconst 0, 1) := dec_of t_L_law7_ok 107 rfl
theorem dL_law_1585 : decode cL_law 1585 = .ok (.ireturn, 1) := dec_of t_L_law7_ok 108 rfl
theorem dL_law_1586 : decode cL_law 1586 = .ok (.aload_n 1, 1) := dec_of t_L_law7_ok 109 rfl
theorem dL_law_1587 : decode cL_law 1587 = .ok (.invokevirtual 196, 3) := dec_of t_L_law7_ok 110 rfl
theorem dL_law_1590 : decode cL_law 1590 = .ok (.aload_n 2, 1) := dec_of t_L_law7_ok 111 rfl
theorem dL_law_1591 : decode cL_law 1591 = .ok (.invokevirtual 199, 3) := dec_of t_L_law7_ok 112 rfl
theorem dL_law_1594 : decode cL_law 1594 = .ok (.if_icmp .eq 367, 3) := dec_of t_L_law7_ok 113 rfl
theorem dL_law_1597 : decode cL_law 1597 = .ok (.iconst 0, 1) := dec_of t_L_law7_ok 114 rfl
theorem dL_law_1598 : decode cL_law 1598 = .ok (.ireturn, 1) := dec_of t_L_law7_ok 115 rfl
theorem dL_law_1599 : decode cL_law 1599 = .ok (.aload_n 1, 1) := dec_of t_L_law7_ok 116 rfl
theorem dL_law_1600 : decode cL_law 1600 = .ok (.aload_n 0, 1) := dec_of t_L_law7_ok 117 rfl
theorem dL_law_1601 : decode cL_law 1601 = .ok (.iload 5, 2) := dec_of t_L_law7_ok 118 rfl
theorem dL_law_1603 : decode cL_law 1603 = .ok (.iconst 1, 1) := dec_of t_L_law7_ok 119 rfl
def t_L_law8 : List (Nat × Instr × Nat) := [(1604, .iadd, 1), (1605, .iaload, 1), (1606, .aload_n 3, 1), (1607, .invokestatic 200, 3), (1610, .istore 6, 2), (1612, .aload_n 2, 1), (1613, .aload_n 0, 1), (1614, .iload 5, 2), (1616, .iconst 1, 1), (1617, .iadd, 1), (1618, .iaload, 1), (1619, .invokevirtual 202, 3), (1622, .istore 7, 2), (1624, .aload_n 2, 1), (1625, .invokevirtual 117, 3), (1628, .iload 6, 2), (1630, .if_icmp .eq 5, 3), (1633, .iconst 0, 1), (1634, .ireturn, 1), (1635, .iload 6, 2), (1637, .ifCond .ne 15, 3), (1640, .aload_n 3, 1), (1641, .iconst 0, 1), (1642, .laload, 1), (1643, .iload 7, 2), (1645, .i2l, 1), (1646, .lcmp, 1), (1647, .ifCond .eq 5, 3), (1650, .iconst 0, 1), (1651, .ireturn, 1), (1652, .goto 309, 3), (1655, .aload_n 1, 1), (1656, .aload_n 0, 1), (1657, .iload 5, 2), (1659, .iconst 1, 1), (1660, .iadd, 1), (1661, .iaload, 1), (1662, .aload_n 0, 1), (1663, .iload 5, 2), (1665, .iconst 2, 1), (1666, .iadd, 1), (1667, .iaload, 1), (1668, .aload_n 3, 1), (1669, .invokestatic 203, 3), (1672, .istore 6, 2), (1674, .aload_n 2, 1), (1675, .aload_n 0, 1), (1676, .iload 5, 2), (1678, .iconst 1, 1), (1679, .iadd, 1), (1680, .iaload, 1), (1681, .aload_n 0, 1), (1682, .iload 5, 2), (1684, .iconst 2, 1), (1685, .iadd, 1), (1686, .iaload, 1), (1687, .invokevirtual 205, 3), (1690, .istore 7, 2), (1692, .aload_n 2, 1), (1693, .invokevirtual 117, 3), (1696, .iload 6, 2), (1698, .if_icmp .eq 5, 3), (1701, .iconst 0, 1), (1702, .ireturn, 1), (1703, .iload 6, 2), (1705, .ifCond .ne 15, 3), (1708, .aload_n 3, 1), (1709, .iconst 0, 1), (1710, .laload, 1), (1711, .iload 7, 2), (1713, .i2l, 1), (1714, .lcmp, 1), (1715, .ifCond .eq 5, 3), (1718, .iconst 0, 1), (1719, .ireturn, 1), (1720, .goto 241, 3), (1723, .aload_n 1, 1), (1724, .aload_n 0, 1), (1725, .iload 5, 2), (1727, .iconst 1, 1), (1728, .iadd, 1), (1729, .iaload, 1), (1730, .aload_n 0, 1), (1731, .iload 5, 2), (1733, .iconst 2, 1), (1734, .iadd, 1), (1735, .iaload, 1), (1736, .aload_n 3, 1), (1737, .invokestatic 206, 3), (1740, .istore 6, 2), (1742, .aload_n 2, 1), (1743, .aload_n 0, 1), (1744, .iload 5, 2), (1746, .iconst 1, 1), (1747, .iadd, 1), (1748, .iaload, 1), (1749, .aload_n 0, 1), (1750, .iload 5, 2), (1752, .iconst 2, 1), (1753, .iadd, 1), (1754, .iaload, 1), (1755, .invokevirtual 208, 3), (1758, .istore 7, 2), (1760, .aload_n 2, 1), (1761, .invokevirtual 117, 3), (1764, .iload 6, 2), (1766, .if_icmp .eq 5, 3), (1769, .iconst 0, 1), (1770, .ireturn, 1), (1771, .iload 6, 2), (1773, .ifCond .ne 15, 3), (1776, .aload_n 3, 1), (1777, .iconst 0, 1), (1778, .laload, 1), (1779, .iload 7, 2), (1781, .i2l, 1), (1782, .lcmp, 1), (1783, .ifCond .eq 5, 3), (1786, .iconst 0, 1), (1787, .ireturn, 1)]
theorem t_L_law8_ok : dec_ok cL_law t_L_law8 = true := by decide +kernel
theorem dL_law_1604 : decode cL_law 1604 = .ok (.iadd, 1) := dec_of t_L_law8_ok 0 rfl
theorem dL_law_1605 : decode cL_law 1605 = .ok (.iaload, 1) := dec_of t_L_law8_ok 1 rfl
theorem dL_law_1606 : decode cL_law 1606 = .ok (.aload_n 3, 1) := dec_of t_L_law8_ok 2 rfl
theorem dL_law_1607 : decode cL_law 1607 = .ok (.invokestatic 200, 3) := dec_of t_L_law8_ok 3 rfl
theorem dL_law_1610 : decode cL_law 1610 = .ok (.istore 6, 2) := dec_of t_L_law8_ok 4 rfl
theorem dL_law_1612 : decode cL_law 1612 = .ok (.aload_n 2, 1) := dec_of t_L_law8_ok 5 rfl
theorem dL_law_1613 : decode cL_law 1613 = .ok (.aload_n 0, 1) := dec_of t_L_law8_ok 6 rfl
theorem dL_law_1614 : decode cL_law 1614 = .ok (.iload 5, 2) := dec_of t_L_law8_ok 7 rfl
theorem dL_law_1616 : decode cL_law 1616 = .ok (.iconst 1, 1) := dec_of t_L_law8_ok 8 rfl
theorem dL_law_1617 : decode cL_law 1617 = .ok (.iadd, 1) := dec_of t_L_law8_ok 9 rfl
theorem dL_law_1618 : decode cL_law 1618 = .ok (.iaload, 1) := dec_of t_L_law8_ok 10 rfl
theorem dL_law_1619 : decode cL_law 1619 = .ok (.invokevirtual 202, 3) := dec_of t_L_law8_ok 11 rfl
theorem dL_law_1622 : decode cL_law 1622 = .ok (.istore 7, 2) := dec_of t_L_law8_ok 12 rfl
theorem dL_law_1624 : decode cL_law 1624 = .ok (.aload_n 2, 1) := dec_of t_L_law8_ok 13 rfl
theorem dL_law_1625 : decode cL_law 1625 = .ok (.invokevirtual 117, 3) := dec_of t_L_law8_ok 14 rfl
theorem dL_law_1628 : decode cL_law 1628 = .ok (.iload 6, 2) := dec_of t_L_law8_ok 15 rfl
theorem dL_law_1630 : decode cL_law 1630 = .ok (.if_icmp .eq 5, 3) := dec_of t_L_law8_ok 16 rfl
theorem dL_law_1633 : decode cL_law 1633 = .ok (.iconst 0, 1) := dec_of t_L_law8_ok 17 rfl
theorem dL_law_1634 : decode cL_law 1634 = .ok (.ireturn, 1) := dec_of t_L_law8_ok 18 rfl
theorem dL_law_1635 : decode cL_law 1635 = .ok (.iload 6, 2) := dec_of t_L_law8_ok 19 rfl
theorem dL_law_1637 : decode cL_law 1637 = .ok (.ifCond .ne 15, 3) := dec_of t_L_law8_ok 20 rfl
theorem dL_law_1640 : decode cL_law 1640 = .ok (.aload_n 3, 1) := dec_of t_L_law8_ok 21 rfl
theorem dL_law_1641 : decode cL_law 1641 = .ok (.iconst 0, 1) := dec_of t_L_law8_ok 22 rfl
theorem dL_law_1642 : decode cL_law 1642 = .ok (.laload, 1) := dec_of t_L_law8_ok 23 rfl
theorem dL_law_1643 : decode cL_law 1643 = .ok (.iload 7, 2) := dec_of t_L_law8_ok 24 rfl
theorem dL_law_1645 : decode cL_law 1645 = .ok (.i2l, 1) := dec_of t_L_law8_ok 25 rfl
theorem dL_law_1646 : decode cL_law 1646 = .ok (.lcmp, 1) := dec_of t_L_law8_ok 26 rfl
theorem dL_law_1647 : decode cL_law 1647 = .ok (.ifCond .eq 5, 3) := dec_of t_L_law8_ok 27 rfl
theorem dL_law_1650 : decode cL_law 1650 = .ok (.iconst 0, 1) := dec_of t_L_law8_ok 28 rfl
theorem dL_law_1651 : decode cL_law 1651 = .ok (.ireturn, 1) := dec_of t_L_law8_ok 29 rfl
theorem dL_law_1652 : decode cL_law 1652 = .ok (.goto 309, 3) := dec_of t_L_law8_ok 30 rfl
theorem dL_law_1655 : decode cL_law 1655 = .ok (.aload_n 1, 1) := dec_of t_L_law8_ok 31 rfl
theorem dL_law_1656 : decode cL_law 1656 = .ok (.aload_n 0, 1) := dec_of t_L_law8_ok 32 rfl
theorem dL_law_1657 : decode cL_law 1657 = .ok (.iload 5, 2) := dec_of t_L_law8_ok 33 rfl
theorem dL_law_1659 : decode cL_law 1659 = .ok (.iconst 1, 1) := dec_of t_L_law8_ok 34 rfl
theorem dL_law_1660 : decode cL_law 1660 = .ok (.iadd, 1) := dec_of t_L_law8_ok 35 rfl
theorem dL_law_1661 : decode cL_law 1661 = .ok (.iaload, 1) := dec_of t_L_law8_ok 36 rfl
theorem dL_law_1662 : decode cL_law 1662 = .ok (.aload_n 0, 1) := dec_of t_L_law8_ok 37 rfl
theorem dL_law_1663 : decode cL_law 1663 = .ok (.iload 5, 2) := dec_of t_L_law8_ok 38 rfl
theorem dL_law_1665 : decode cL_law 1665 = .ok (.iconst 2, 1) := dec_of t_L_law8_ok 39 rfl
theorem dL_law_1666 : decode cL_law 1666 = .ok (.iadd, 1) := dec_of t_L_law8_ok 40 rfl
theorem dL_law_1667 : decode cL_law 1667 = .ok (.iaload, 1) := dec_of t_L_law8_ok 41 rfl
theorem dL_law_1668 : decode cL_law 1668 = .ok (.aload_n 3, 1) := dec_of t_L_law8_ok 42 rfl
theorem dL_law_1669 : decode cL_law 1669 = .ok (.invokestatic 203, 3) := dec_of t_L_law8_ok 43 rfl
theorem dL_law_1672 : decode cL_law 1672 = .ok (.istore 6, 2) := dec_of t_L_law8_ok 44 rfl
theorem dL_law_1674 : decode cL_law 1674 = .ok (.aload_n 2, 1) := dec_of t_L_law8_ok 45 rfl
theorem dL_law_1675 : decode cL_law 1675 = .ok (.aload_n 0, 1) := dec_of t_L_law8_ok 46 rfl
theorem dL_law_1676 : decode cL_law 1676 = .ok (.iload 5, 2) := dec_of t_L_law8_ok 47 rfl
theorem dL_law_1678 : decode cL_law 1678 = .ok (.iconst 1, 1) := dec_of t_L_law8_ok 48 rfl
theorem dL_law_1679 : decode cL_law 1679 = .ok (.iadd, 1) := dec_of t_L_law8_ok 49 rfl
theorem dL_law_1680 : decode cL_law 1680 = .ok (.iaload, 1) := dec_of t_L_law8_ok 50 rfl
theorem dL_law_1681 : decode cL_law 1681 = .ok (.aload_n 0, 1) := dec_of t_L_law8_ok 51 rfl
theorem dL_law_1682 : decode cL_law 1682 = .ok (.iload 5, 2) := dec_of t_L_law8_ok 52 rfl
theorem dL_law_1684 : decode cL_law 1684 = .ok (.iconst 2, 1) := dec_of t_L_law8_ok 53 rfl
theorem dL_law_1685 : decode cL_law 1685 = .ok (.iadd, 1) := dec_of t_L_law8_ok 54 rfl
theorem dL_law_1686 : decode cL_law 1686 = .ok (.iaload, 1) := dec_of t_L_law8_ok 55 rfl
theorem dL_law_1687 : decode cL_law 1687 = .ok (.invokevirtual 205, 3) := dec_of t_L_law8_ok 56 rfl
theorem dL_law_1690 : decode cL_law 1690 = .ok (.istore 7, 2) := dec_of t_L_law8_ok 57 rfl
theorem dL_law_1692 : decode cL_law 1692 = .ok (.aload_n 2, 1) := dec_of t_L_law8_ok 58 rfl
theorem dL_law_1693 : decode cL_law 1693 = .ok (.invokevirtual 117, 3) := dec_of t_L_law8_ok 59 rfl
theorem dL_law_1696 : decode cL_law 1696 = .ok (.iload 6, 2) := dec_of t_L_law8_ok 60 rfl
theorem dL_law_1698 : decode cL_law 1698 = .ok (.if_icmp .eq 5, 3) := dec_of t_L_law8_ok 61 rfl
theorem dL_law_1701 : decode cL_law 1701 = .ok (.iconst 0, 1) := dec_of t_L_law8_ok 62 rfl
theorem dL_law_1702 : decode cL_law 1702 = .ok (.ireturn, 1) := dec_of t_L_law8_ok 63 rfl
theorem dL_law_1703 : decode cL_law 1703 = .ok (.iload 6, 2) := dec_of t_L_law8_ok 64 rfl
theorem dL_law_1705 : decode cL_law 1705 = .ok (.ifCond .ne 15, 3) := dec_of t_L_law8_ok 65 rfl
theorem dL_law_1708 : decode cL_law 1708 = .ok (.aload_n 3, 1) := dec_of t_L_law8_ok 66 rfl
theorem dL_law_1709 : decode cL_law 1709 = .ok (.iconst 0, 1) := dec_of t_L_law8_ok 67 rfl
theorem dL_law_1710 : decode cL_law 1710 = .ok (.laload, 1) := dec_of t_L_law8_ok 68 rfl
theorem dL_law_1711 : decode cL_law 1711 = .ok (.iload 7, 2) := dec_of t_L_law8_ok 69 rfl
theorem dL_law_1713 : decode cL_law 1713 = .ok (.i2l, 1) := dec_of t_L_law8_ok 70 rfl
theorem dL_law_1714 : decode cL_law 1714 = .ok (.lcmp, 1) := dec_of t_L_law8_ok 71 rfl
theorem dL_law_1715 : decode cL_law 1715 = .ok (.ifCond .eq 5, 3) := dec_of t_L_law8_ok 72 rfl
theorem dL_law_1718 : decode cL_law 1718 = .ok (.iconst 0, 1) := dec_of t_L_law8_ok 73 rfl
theorem dL_law_1719 : decode cL_law 1719 = .ok (.ireturn, 1) := dec_of t_L_law8_ok 74 rfl
theorem dL_law_1720 : decode cL_law 1720 = .ok (.goto 241, 3) := dec_of t_L_law8_ok 75 rfl
theorem dL_law_1723 : decode cL_law 1723 = .ok (.aload_n 1, 1) := dec_of t_L_law8_ok 76 rfl
theorem dL_law_1724 : decode cL_law 1724 = .ok (.aload_n 0, 1) := dec_of t_L_law8_ok 77 rfl
theorem dL_law_1725 : decode cL_law 1725 = .ok (.iload 5, 2) := dec_of t_L_law8_ok 78 rfl
theorem dL_law_1727 : decode cL_law 1727 = .ok (.iconst 1, 1) := dec_of t_L_law8_ok 79 rfl
theorem dL_law_1728 : decode cL_law 1728 = .ok (.iadd, 1) := dec_of t_L_law8_ok 80 rfl
theorem dL_law_1729 : decode cL_law 1729 = .ok (.iaload, 1) := dec_of t_L_law8_ok 81 rfl
theorem dL_law_1730 : decode cL_law 1730 = .ok (.aload_n 0, 1) := dec_of t_L_law8_ok 82 rfl
theorem dL_law_1731 : decode cL_law 1731 = .ok (.iload 5, 2) := dec_of t_L_law8_ok 83 rfl
theorem dL_law_1733 : decode cL_law 1733 = .ok (.iconst 2, 1) := dec_of t_L_law8_ok 84 rfl
theorem dL_law_1734 : decode cL_law 1734 = .ok (.iadd, 1) := dec_of t_L_law8_ok 85 rfl
theorem dL_law_1735 : decode cL_law 1735 = .ok (.iaload, 1) := dec_of t_L_law8_ok 86 rfl
theorem dL_law_1736 : decode cL_law 1736 = .ok (.aload_n 3, 1) := dec_of t_L_law8_ok 87 rfl
theorem dL_law_1737 : decode cL_law 1737 = .ok (.invokestatic 206, 3) := dec_of t_L_law8_ok 88 rfl
theorem dL_law_1740 : decode cL_law 1740 = .ok (.istore 6, 2) := dec_of t_L_law8_ok 89 rfl
theorem dL_law_1742 : decode cL_law 1742 = .ok (.aload_n 2, 1) := dec_of t_L_law8_ok 90 rfl
theorem dL_law_1743 : decode cL_law 1743 = .ok (.aload_n 0, 1) := dec_of t_L_law8_ok 91 rfl
theorem dL_law_1744 : decode cL_law 1744 = .ok (.iload 5, 2) := dec_of t_L_law8_ok 92 rfl
theorem dL_law_1746 : decode cL_law 1746 = .ok (.iconst 1, 1) := dec_of t_L_law8_ok 93 rfl
theorem dL_law_1747 : decode cL_law 1747 = .ok (.iadd, 1) := dec_of t_L_law8_ok 94 rfl
theorem dL_law_1748 : decode cL_law 1748 = .ok (.iaload, 1) := dec_of t_L_law8_ok 95 rfl
theorem dL_law_1749 : decode cL_law 1749 = .ok (.aload_n 0, 1) := dec_of t_L_law8_ok 96 rfl
theorem dL_law_1750 : decode cL_law 1750 = .ok (.iload 5, 2) := dec_of t_L_law8_ok 97 rfl
theorem dL_law_1752 : decode cL_law 1752 = .ok (.iconst 2, 1) := dec_of t_L_law8_ok 98 rfl
theorem dL_law_1753 : decode cL_law 1753 = .ok (.iadd, 1) := dec_of t_L_law8_ok 99 rfl
theorem dL_law_1754 : decode cL_law 1754 = .ok (.iaload, 1) := dec_of t_L_law8_ok 100 rfl
theorem dL_law_1755 : decode cL_law 1755 = .ok (.invokevirtual 208, 3) := dec_of t_L_law8_ok 101 rfl
theorem dL_law_1758 : decode cL_law 1758 = .ok (.istore 7, 2) := dec_of t_L_law8_ok 102 rfl
theorem dL_law_1760 : decode cL_law 1760 = .ok (.aload_n 2, 1) := dec_of t_L_law8_ok 103 rfl
theorem dL_law_1761 : decode cL_law 1761 = .ok (.invokevirtual 117, 3) := dec_of t_L_law8_ok 104 rfl
theorem dL_law_1764 : decode cL_law 1764 = .ok (.iload 6, 2) := dec_of t_L_law8_ok 105 rfl
theorem dL_law_1766 : decode cL_law 1766 = .ok (.if_icmp .eq 5, 3) := dec_of t_L_law8_ok 106 rfl
theorem dL_law_1769 : decode cL_law 1769 = .ok (.iconst 0, 1) := dec_of t_L_law8_ok 107 rfl
theorem dL_law_1770 : decode cL_law 1770 = .ok (.ireturn, 1) := dec_of t_L_law8_ok 108 rfl
theorem dL_law_1771 : decode cL_law 1771 = .ok (.iload 6, 2) := dec_of t_L_law8_ok 109 rfl
theorem dL_law_1773 : decode cL_law 1773 = .ok (.ifCond .ne 15, 3) := dec_of t_L_law8_ok 110 rfl
theorem dL_law_1776 : decode cL_law 1776 = .ok (.aload_n 3, 1) := dec_of t_L_law8_ok 111 rfl
theorem dL_law_1777 : decode cL_law 1777 = .ok (.iconst 0, 1) := dec_of t_L_law8_ok 112 rfl
theorem dL_law_1778 : decode cL_law 1778 = .ok (.laload, 1) := dec_of t_L_law8_ok 113 rfl
theorem dL_law_1779 : decode cL_law 1779 = .ok (.iload 7, 2) := dec_of t_L_law8_ok 114 rfl
theorem dL_law_1781 : decode cL_law 1781 = .ok (.i2l, 1) := dec_of t_L_law8_ok 115 rfl
theorem dL_law_1782 : decode cL_law 1782 = .ok (.lcmp, 1) := dec_of t_L_law8_ok 116 rfl
theorem dL_law_1783 : decode cL_law 1783 = .ok (.ifCond .eq 5, 3) := dec_of t_L_law8_ok 117 rfl
theorem dL_law_1786 : decode cL_law 1786 = .ok (.iconst 0, 1) := dec_of t_L_law8_ok 118 rfl
theorem dL_law_1787 : decode cL_law 1787 = .ok (.ireturn, 1) := dec_of t_L_law8_ok 119 rfl
def t_L_law9 : List (Nat × Instr × Nat) := [(1788, .goto 173, 3), (1791, .aload_n 1, 1), (1792, .invokevirtual 209, 3), (1795, .aload_n 2, 1), (1796, .invokevirtual 213, 3), (1799, .lcmp, 1), (1800, .ifCond .eq 161, 3), (1803, .iconst 0, 1), (1804, .ireturn, 1), (1805, .aload_n 1, 1), (1806, .aload_n 0, 1), (1807, .iload 5, 2), (1809, .iconst 1, 1), (1810, .iadd, 1), (1811, .iaload, 1), (1812, .aload 4, 2), (1814, .invokestatic 214, 3), (1817, .istore 6, 2), (1819, .aload_n 2, 1), (1820, .aload_n 0, 1), (1821, .iload 5, 2), (1823, .iconst 1, 1), (1824, .iadd, 1), (1825, .iaload, 1), (1826, .invokevirtual 217, 3), (1829, .fstore 7, 2), (1831, .aload_n 2, 1), (1832, .invokevirtual 117, 3), (1835, .iload 6, 2), (1837, .if_icmp .eq 5, 3), (1840, .iconst 0, 1), (1841, .ireturn, 1), (1842, .iload 6, 2), (1844, .ifCond .ne 36, 3), (1847, .aload 4, 2), (1849, .iconst 0, 1), (1850, .daload, 1), (1851, .fload 7, 2), (1853, .f2d, 1), (1854, .dcmp .l, 1), (1855, .ifCond .eq 25, 3), (1858, .aload 4, 2), (1860, .iconst 0, 1), (1861, .daload, 1), (1862, .aload 4, 2), (1864, .iconst 0, 1), (1865, .daload, 1), (1866, .dcmp .l, 1), (1867, .ifCond .eq 11, 3), (1870, .fload 7, 2), (1872, .fload 7, 2), (1874, .fcmp .l, 1), (1875, .ifCond .ne 5, 3), (1878, .iconst 0, 1), (1879, .ireturn, 1), (1880, .goto 81, 3), (1883, .aload_n 1, 1), (1884, .aload 4, 2), (1886, .invokestatic 218, 3), (1889, .istore 6, 2), (1891, .aload_n 2, 1), (1892, .invokevirtual 221, 3), (1895, .dstore 7, 2), (1897, .aload_n 2, 1), (1898, .invokevirtual 117, 3), (1901, .iload 6, 2), (1903, .if_icmp .eq 5, 3), (1906, .iconst 0, 1), (1907, .ireturn, 1), (1908, .iload 6, 2), (1910, .ifCond .ne 35, 3), (1913, .aload 4, 2), (1915, .iconst 0, 1), (1916, .daload, 1), (1917, .dload 7, 2), (1919, .dcmp .l, 1), (1920, .ifCond .eq 25, 3), (1923, .aload 4, 2), (1925, .iconst 0, 1), (1926, .daload, 1), (1927, .aload 4, 2), (1929, .iconst 0, 1), (1930, .daload, 1), (1931, .dcmp .l, 1), (1932, .ifCond .eq 11, 3), (1935, .dload 7, 2), (1937, .dload 7, 2), (1939, .dcmp .l, 1), (1940, .ifCond .ne 5, 3), (1943, .iconst 0, 1), (1944, .ireturn, 1), (1945, .goto 16, 3), (1948, .aload_n 1, 1), (1949, .invokevirtual 222, 3), (1952, .aload_n 2, 1), (1953, .invokevirtual 226, 3), (1956, .if_icmp .eq 5, 3), (1959, .iconst 0, 1), (1960, .ireturn, 1), (1961, .iinc 5 5, 3), (1964, .goto (-1936), 3), (1967, .iconst 1, 1), (1968, .ireturn, 1)]
theorem t_L_law9_ok : dec_ok cL_law t_L_law9 = true := by decide +kernel
theorem dL_law_1788 : decode cL_law 1788 = .ok (.goto 173, 3) := dec_of t_L_law9_ok 0 rfl
theorem dL_law_1791 : decode cL_law 1791 = .ok (.aload_n 1, 1) := dec_of t_L_law9_ok 1 rfl
theorem dL_law_1792 : decode cL_law 1792 = .ok (.invokevirtual 209, 3) := dec_of t_L_law9_ok 2 rfl
theorem dL_law_1795 : decode cL_law 1795 = .ok (.aload_n 2, 1) := dec_of t_L_law9_ok 3 rfl
theorem dL_law_1796 : decode cL_law 1796 = .ok (.invokevirtual 213, 3) := dec_of t_L_law9_ok 4 rfl
theorem dL_law_1799 : decode cL_law 1799 = .ok (.lcmp, 1) := dec_of t_L_law9_ok 5 rfl
theorem dL_law_1800 : decode cL_law 1800 = .ok (.ifCond .eq 161, 3) := dec_of t_L_law9_ok 6 rfl
theorem dL_law_1803 : decode cL_law 1803 = .ok (.iconst 0, 1) := dec_of t_L_law9_ok 7 rfl
theorem dL_law_1804 : decode cL_law 1804 = .ok (.ireturn, 1) := dec_of t_L_law9_ok 8 rfl
theorem dL_law_1805 : decode cL_law 1805 = .ok (.aload_n 1, 1) := dec_of t_L_law9_ok 9 rfl
theorem dL_law_1806 : decode cL_law 1806 = .ok (.aload_n 0, 1) := dec_of t_L_law9_ok 10 rfl
theorem dL_law_1807 : decode cL_law 1807 = .ok (.iload 5, 2) := dec_of t_L_law9_ok 11 rfl
theorem dL_law_1809 : decode cL_law 1809 = .ok (.iconst 1, 1) := dec_of t_L_law9_ok 12 rfl
theorem dL_law_1810 : decode cL_law 1810 = .ok (.iadd, 1) := dec_of t_L_law9_ok 13 rfl
theorem dL_law_1811 : decode cL_law 1811 = .ok (.iaload, 1) := dec_of t_L_law9_ok 14 rfl
theorem dL_law_1812 : decode cL_law 1812 = .ok (.aload 4, 2) := dec_of t_L_law9_ok 15 rfl
theorem dL_law_1814 : decode cL_law 1814 = .ok (.invokestatic 214, 3) := dec_of t_L_law9_ok 16 rfl
theorem dL_law_1817 : decode cL_law 1817 = .ok (.istore 6, 2) := dec_of t_L_law9_ok 17 rfl
theorem dL_law_1819 : decode cL_law 1819 = .ok (.aload_n 2, 1) := dec_of t_L_law9_ok 18 rfl
theorem dL_law_1820 : decode cL_law 1820 = .ok (.aload_n 0, 1) := dec_of t_L_law9_ok 19 rfl
theorem dL_law_1821 : decode cL_law 1821 = .ok (.iload 5, 2) := dec_of t_L_law9_ok 20 rfl
theorem dL_law_1823 : decode cL_law 1823 = .ok (.iconst 1, 1) := dec_of t_L_law9_ok 21 rfl
theorem dL_law_1824 : decode cL_law 1824 = .ok (.iadd, 1) := dec_of t_L_law9_ok 22 rfl
theorem dL_law_1825 : decode cL_law 1825 = .ok (.iaload, 1) := dec_of t_L_law9_ok 23 rfl
theorem dL_law_1826 : decode cL_law 1826 = .ok (.invokevirtual 217, 3) := dec_of t_L_law9_ok 24 rfl
theorem dL_law_1829 : decode cL_law 1829 = .ok (.fstore 7, 2) := dec_of t_L_law9_ok 25 rfl
theorem dL_law_1831 : decode cL_law 1831 = .ok (.aload_n 2, 1) := dec_of t_L_law9_ok 26 rfl
theorem dL_law_1832 : decode cL_law 1832 = .ok (.invokevirtual 117, 3) := dec_of t_L_law9_ok 27 rfl
theorem dL_law_1835 : decode cL_law 1835 = .ok (.iload 6, 2) := dec_of t_L_law9_ok 28 rfl
theorem dL_law_1837 : decode cL_law 1837 = .ok (.if_icmp .eq 5, 3) := dec_of t_L_law9_ok 29 rfl
theorem dL_law_1840 : decode cL_law 1840 = .ok (.iconst 0, 1) := dec_of t_L_law9_ok 30 rfl
theorem dL_law_1841 : decode cL_law 1841 = .ok (.ireturn, 1) := dec_of t_L_law9_ok 31 rfl
theorem dL_law_1842 : decode cL_law 1842 = .ok (.iload 6, 2) := dec_of t_L_law9_ok 32 rfl
theorem dL_law_1844 : decode cL_law 1844 = .ok (.ifCond .ne 36, 3) := dec_of t_L_law9_ok 33 rfl
theorem dL_law_1847 : decode cL_law 1847 = .ok (.aload 4, 2) := dec_of t_L_law9_ok 34 rfl
theorem dL_law_1849 : decode cL_law 1849 = .ok (.iconst 0, 1) := dec_of t_L_law9_ok 35 rfl
theorem dL_law_1850 : decode cL_law 1850 = .ok (.daload, 1) := dec_of t_L_law9_ok 36 rfl
theorem dL_law_1851 : decode cL_law 1851 = .ok (.fload 7, 2) := dec_of t_L_law9_ok 37 rfl
theorem dL_law_1853 : decode cL_law 1853 = .ok (.f2d, 1) := dec_of t_L_law9_ok 38 rfl
theorem dL_law_1854 : decode cL_law 1854 = .ok (.dcmp .l, 1) := dec_of t_L_law9_ok 39 rfl
theorem dL_law_1855 : decode cL_law 1855 = .ok (.ifCond .eq 25, 3) := dec_of t_L_law9_ok 40 rfl
theorem dL_law_1858 : decode cL_law 1858 = .ok (.aload 4, 2) := dec_of t_L_law9_ok 41 rfl
theorem dL_law_1860 : decode cL_law 1860 = .ok (.iconst 0, 1) := dec_of t_L_law9_ok 42 rfl
theorem dL_law_1861 : decode cL_law 1861 = .ok (.daload, 1) := dec_of t_L_law9_ok 43 rfl
theorem dL_law_1862 : decode cL_law 1862 = .ok (.aload 4, 2) := dec_of t_L_law9_ok 44 rfl
theorem dL_law_1864 : decode cL_law 1864 = .ok (.iconst 0, 1) := dec_of t_L_law9_ok 45 rfl
theorem dL_law_1865 : decode cL_law 1865 = .ok (.daload, 1) := dec_of t_L_law9_ok 46 rfl
theorem dL_law_1866 : decode cL_law 1866 = .ok (.dcmp .l, 1) := dec_of t_L_law9_ok 47 rfl
theorem dL_law_1867 : decode cL_law 1867 = .ok (.ifCond .eq 11, 3) := dec_of t_L_law9_ok 48 rfl
theorem dL_law_1870 : decode cL_law 1870 = .ok (.fload 7, 2) := dec_of t_L_law9_ok 49 rfl
theorem dL_law_1872 : decode cL_law 1872 = .ok (.fload 7, 2) := dec_of t_L_law9_ok 50 rfl
theorem dL_law_1874 : decode cL_law 1874 = .ok (.fcmp .l, 1) := dec_of t_L_law9_ok 51 rfl
theorem dL_law_1875 : decode cL_law 1875 = .ok (.ifCond .ne 5, 3) := dec_of t_L_law9_ok 52 rfl
theorem dL_law_1878 : decode cL_law 1878 = .ok (.iconst 0, 1) := dec_of t_L_law9_ok 53 rfl
theorem dL_law_1879 : decode cL_law 1879 = .ok (.ireturn, 1) := dec_of t_L_law9_ok 54 rfl
theorem dL_law_1880 : decode cL_law 1880 = .ok (.goto 81, 3) := dec_of t_L_law9_ok 55 rfl
theorem dL_law_1883 : decode cL_law 1883 = .ok (.aload_n 1, 1) := dec_of t_L_law9_ok 56 rfl
theorem dL_law_1884 : decode cL_law 1884 = .ok (.aload 4, 2) := dec_of t_L_law9_ok 57 rfl
theorem dL_law_1886 : decode cL_law 1886 = .ok (.invokestatic 218, 3) := dec_of t_L_law9_ok 58 rfl
theorem dL_law_1889 : decode cL_law 1889 = .ok (.istore 6, 2) := dec_of t_L_law9_ok 59 rfl
theorem dL_law_1891 : decode cL_law 1891 = .ok (.aload_n 2, 1) := dec_of t_L_law9_ok 60 rfl
theorem dL_law_1892 : decode cL_law 1892 = .ok (.invokevirtual 221, 3) := dec_of t_L_law9_ok 61 rfl
theorem dL_law_1895 : decode cL_law 1895 = .ok (.dstore 7, 2) := dec_of t_L_law9_ok 62 rfl
theorem dL_law_1897 : decode cL_law 1897 = .ok (.aload_n 2, 1) := dec_of t_L_law9_ok 63 rfl
theorem dL_law_1898 : decode cL_law 1898 = .ok (.invokevirtual 117, 3) := dec_of t_L_law9_ok 64 rfl
theorem dL_law_1901 : decode cL_law 1901 = .ok (.iload 6, 2) := dec_of t_L_law9_ok 65 rfl
theorem dL_law_1903 : decode cL_law 1903 = .ok (.if_icmp .eq 5, 3) := dec_of t_L_law9_ok 66 rfl
theorem dL_law_1906 : decode cL_law 1906 = .ok (.iconst 0, 1) := dec_of t_L_law9_ok 67 rfl
theorem dL_law_1907 : decode cL_law 1907 = .ok (.ireturn, 1) := dec_of t_L_law9_ok 68 rfl
theorem dL_law_1908 : decode cL_law 1908 = .ok (.iload 6, 2) := dec_of t_L_law9_ok 69 rfl
theorem dL_law_1910 : decode cL_law 1910 = .ok (.ifCond .ne 35, 3) := dec_of t_L_law9_ok 70 rfl
theorem dL_law_1913 : decode cL_law 1913 = .ok (.aload 4, 2) := dec_of t_L_law9_ok 71 rfl
theorem dL_law_1915 : decode cL_law 1915 = .ok (.iconst 0, 1) := dec_of t_L_law9_ok 72 rfl
theorem dL_law_1916 : decode cL_law 1916 = .ok (.daload, 1) := dec_of t_L_law9_ok 73 rfl
theorem dL_law_1917 : decode cL_law 1917 = .ok (.dload 7, 2) := dec_of t_L_law9_ok 74 rfl
theorem dL_law_1919 : decode cL_law 1919 = .ok (.dcmp .l, 1) := dec_of t_L_law9_ok 75 rfl
theorem dL_law_1920 : decode cL_law 1920 = .ok (.ifCond .eq 25, 3) := dec_of t_L_law9_ok 76 rfl
theorem dL_law_1923 : decode cL_law 1923 = .ok (.aload 4, 2) := dec_of t_L_law9_ok 77 rfl
theorem dL_law_1925 : decode cL_law 1925 = .ok (.iconst 0, 1) := dec_of t_L_law9_ok 78 rfl
theorem dL_law_1926 : decode cL_law 1926 = .ok (.daload, 1) := dec_of t_L_law9_ok 79 rfl
theorem dL_law_1927 : decode cL_law 1927 = .ok (.aload 4, 2) := dec_of t_L_law9_ok 80 rfl
theorem dL_law_1929 : decode cL_law 1929 = .ok (.iconst 0, 1) := dec_of t_L_law9_ok 81 rfl
theorem dL_law_1930 : decode cL_law 1930 = .ok (.daload, 1) := dec_of t_L_law9_ok 82 rfl
theorem dL_law_1931 : decode cL_law 1931 = .ok (.dcmp .l, 1) := dec_of t_L_law9_ok 83 rfl
theorem dL_law_1932 : decode cL_law 1932 = .ok (.ifCond .eq 11, 3) := dec_of t_L_law9_ok 84 rfl
theorem dL_law_1935 : decode cL_law 1935 = .ok (.dload 7, 2) := dec_of t_L_law9_ok 85 rfl
theorem dL_law_1937 : decode cL_law 1937 = .ok (.dload 7, 2) := dec_of t_L_law9_ok 86 rfl
theorem dL_law_1939 : decode cL_law 1939 = .ok (.dcmp .l, 1) := dec_of t_L_law9_ok 87 rfl
theorem dL_law_1940 : decode cL_law 1940 = .ok (.ifCond .ne 5, 3) := dec_of t_L_law9_ok 88 rfl
theorem dL_law_1943 : decode cL_law 1943 = .ok (.iconst 0, 1) := dec_of t_L_law9_ok 89 rfl
theorem dL_law_1944 : decode cL_law 1944 = .ok (.ireturn, 1) := dec_of t_L_law9_ok 90 rfl
theorem dL_law_1945 : decode cL_law 1945 = .ok (.goto 16, 3) := dec_of t_L_law9_ok 91 rfl
theorem dL_law_1948 : decode cL_law 1948 = .ok (.aload_n 1, 1) := dec_of t_L_law9_ok 92 rfl
theorem dL_law_1949 : decode cL_law 1949 = .ok (.invokevirtual 222, 3) := dec_of t_L_law9_ok 93 rfl
theorem dL_law_1952 : decode cL_law 1952 = .ok (.aload_n 2, 1) := dec_of t_L_law9_ok 94 rfl
theorem dL_law_1953 : decode cL_law 1953 = .ok (.invokevirtual 226, 3) := dec_of t_L_law9_ok 95 rfl
theorem dL_law_1956 : decode cL_law 1956 = .ok (.if_icmp .eq 5, 3) := dec_of t_L_law9_ok 96 rfl
theorem dL_law_1959 : decode cL_law 1959 = .ok (.iconst 0, 1) := dec_of t_L_law9_ok 97 rfl
theorem dL_law_1960 : decode cL_law 1960 = .ok (.ireturn, 1) := dec_of t_L_law9_ok 98 rfl
theorem dL_law_1961 : decode cL_law 1961 = .ok (.iinc 5 5, 3) := dec_of t_L_law9_ok 99 rfl
theorem dL_law_1964 : decode cL_law 1964 = .ok (.goto (-1936), 3) := dec_of t_L_law9_ok 100 rfl
theorem dL_law_1967 : decode cL_law 1967 = .ok (.iconst 1, 1) := dec_of t_L_law9_ok 101 rfl
theorem dL_law_1968 : decode cL_law 1968 = .ok (.ireturn, 1) := dec_of t_L_law9_ok 102 rfl
