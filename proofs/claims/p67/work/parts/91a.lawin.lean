/-! THE WORDS of the law, out of the tables -/
/-- members that are private in AbstractStringBuilder, picked for an object of StringBuilder -/
def li_ys : List MethodName := [yJ5_appendNull_278bc, yJ5_ensureCapacityInternal_d00df, yJ5_newCapacity_0f7a4, yJ5_putStringAt_47b60, yJ5_inflateIfNeededFor_a7421, yJ5_inflate_da8c8]
def li_six : List Cond := li_ys.map fun y => Cond.selects RJ4 y y
def li_tbl : List Cond := lw_tbl ++ li_six
theorem li_sel {y z z' : MethodName} {args : Array Value} {s : State} (hy : y.cls ≠ "java/lang/invoke/MethodHandle" ∧ y.cls ≠ "java/lang/invoke/VarHandle") (hz : z'.cls = y.cls) (h : (Cond.selects RJ4 z z').before args s = true) (hpriv : (Cond.privateMethod y).before args s = true) (hinst : (Cond.instanceMethod y).before args s = true) : (Cond.selects RJ4 y y).before args s = true := by
  obtain ⟨mk, methM, hnamed, hmethM, -, -⟩ := Cond.instanceMethod_spec hinst
  have hfound : s.methodFound? y.cls y.name y.desc = some mk := State.methodFound?_of_named hnamed hy
  simp only [Cond.before, Cond.holds, Cond.value] at h ⊢
  cases hc : s.vm.findClass RJ4 with
  | none => simp [hc] at h
  | some c =>
    have hsel : selectMethod {} s.vm c mk = .method mk := selectMethod_private hmethM (Cond.privateMethod_at hpriv mk methM hnamed hmethM)
    cases hf : s.methodFound? z.cls z.name z.desc with
    | none => simp [hc, hf] at h
    | some r =>
      cases hn : s.methodNamed? z' with
      | none => simp [hc, hf, hn] at h
      | some m =>
        simp only [hc, hf, hn] at h
        have hcls : mk.cls = m.cls := by
          have h1 := findClass_of_methodNamed hnamed
          have h2 := findClass_of_methodNamed hn
          rw [hz, h1] at h2
          exact Option.some.inj h2
        have hni : (s.vm.classes[m.cls]?).any (fun k => !k.isInterface) = true := by
          cases hm : selectMethod {} s.vm c r with
          | method m' =>
            simp only [hm] at h
            have h := (by simpa using h : m' = m ∧ _)
            simpa using h.2
          | _ => simp [hm] at h
        simp only [hfound, hnamed, hsel, hcls]
        simpa using hni
theorem li_at (y : MethodName) (i j : Nat) {args : Array Value} {s : State} (hts : ∀ w ∈ lw_tbl, w.before args s = true) (hy : y.cls = RJ5) (hi : lw_tbl[i]? = some (Cond.privateMethod y)) (hj : lw_tbl[j]? = some (Cond.instanceMethod y)) : (Cond.selects RJ4 y y).before args s = true :=
  li_sel (z := yJ5_isLatin1_aae02) (z' := yJ5_isLatin1_aae02) (by rw [hy]; decide) (by rw [hy]; rfl) (hts _ (List.mem_of_getElem? (i := 948) (by decide +kernel))) (hts _ (List.mem_of_getElem? hi)) (hts _ (List.mem_of_getElem? hj))
theorem li_hts {args : Array Value} {s : State} (hts : ∀ w ∈ lw_tbl, w.before args s = true) : ∀ w ∈ li_tbl, w.before args s = true := by
  refine List.forall_mem_append.mpr ⟨hts, ?_⟩
  intro w hw
  obtain ⟨y, hy, rfl⟩ := List.mem_map.mp hw
  simp only [li_ys, List.mem_cons, List.not_mem_nil, or_false] at hy
  rcases hy with rfl | rfl | rfl | rfl | rfl | rfl
  · exact li_at _ 913 914 hts rfl (by decide +kernel) (by decide +kernel)
  · exact li_at _ 917 918 hts rfl (by decide +kernel) (by decide +kernel)
  · exact li_at _ 921 922 hts rfl (by decide +kernel) (by decide +kernel)
  · exact li_at _ 967 968 hts rfl (by decide +kernel) (by decide +kernel)
  · exact li_at _ 971 972 hts rfl (by decide +kernel) (by decide +kernel)
  · exact li_at _ 976 977 hts rfl (by decide +kernel) (by decide +kernel)
theorem li_p (ws : List Cond) (ix : List Nat) (h : ws = ix.filterMap (fun i => li_tbl[i]?)) : ∀ w ∈ ws, w ∈ li_tbl := by
  intro w hw
  rw [h] at hw
  obtain ⟨i, -, hi⟩ := List.mem_filterMap.mp hw
  exact List.mem_of_getElem? hi
theorem li_1 : ∀ w ∈ wsL_law0_r1, w ∈ li_tbl := li_p _ [68, 69, 51, 832, 826, 824, 801, 802, 37, 803, 804, 805, 833, 862, 863, 39, 813, 815, 822, 1033, 181, 827, 829, 817] (by decide +kernel)
theorem li_2 : ∀ w ∈ wsL_law0_r2, w ∈ li_tbl := li_p _ [819, 1048, 722, 43, 723, 820, 823, 831, 806, 807, 808, 809, 74, 75, 810, 864, 865, 866, 867, 868, 38, 869, 870, 871] (by decide +kernel)
theorem li_3 : ∀ w ∈ wsL_law0_r3, w ∈ li_tbl := li_p _ [286, 879, 880, 872, 873, 41, 874, 875, 876, 877, 878, 892, 894, 15, 895, 834, 897, 36, 898, 903, 899, 900, 901, 902] (by decide +kernel)
theorem li_4 : ∀ w ∈ wsL_law0_r4, w ∈ li_tbl := li_p _ [905, 906, 907, 908, 909, 1488, 891, 910, 911, 882, 912, 1489, 1497, 914, 915, 916, 1490, 1498, 918, 919, 920, 1491, 1499, 922] (by decide +kernel)
theorem li_5 : ∀ w ∈ wsL_law0_r5, w ∈ li_tbl := li_p _ [923, 932, 924, 925, 42, 926, 927, 645, 646, 928, 929, 930, 931, 933, 934, 44, 935, 936, 937, 938, 939, 940, 942, 943] (by decide +kernel)
theorem li_6 : ∀ w ∈ wsL_law0_r6, w ∈ li_tbl := li_p _ [944, 612, 611, 45, 945, 947, 948, 946, 949, 950, 951, 952, 479, 953, 954, 955, 472, 473, 474, 956, 957, 40, 958, 461] (by decide +kernel)
theorem li_7 : ∀ w ∈ wsL_law0_r7, w ∈ li_tbl := li_p _ [959, 960, 46, 961, 962, 963, 964, 481, 483, 965, 438, 439, 440, 1099, 441, 442, 443, 444, 445, 1100, 966, 1492, 1500, 968] (by decide +kernel)
theorem li_8 : ∀ w ∈ wsL_law0_r8, w ∈ li_tbl := li_p _ [969, 970, 1493, 1501, 972, 973, 974, 975, 1494, 1502, 977, 978, 979, 980, 47, 981, 982, 983, 984, 985, 986, 987, 988, 989] (by decide +kernel)
theorem li_9 : ∀ w ∈ wsL_law0_r9, w ∈ li_tbl := li_p _ [990, 991, 992, 993, 994, 995, 996, 997, 998, 999, 1000, 1001, 1002, 1003, 1004, 1495, 1005, 1006, 1007, 1008, 49, 1009, 1010, 1011] (by decide +kernel)
theorem li_10 : ∀ w ∈ wsL_law0_r10, w ∈ li_tbl := li_p _ [1012, 1013, 1015, 1017, 1018, 1019, 1020, 1021, 1022, 1023, 1024, 1026, 1028, 16, 1029, 825, 1035, 1036, 1037, 1038, 1039, 1496, 1040, 1041] (by decide +kernel)
theorem li_11 : ∀ w ∈ wsL_law0_r11, w ∈ li_tbl := li_p _ [1042, 1043, 1044, 1045, 1046, 1047, 469, 470, 471, 475, 459, 460, 463, 464, 465, 1053, 1054, 1055, 1056, 1057, 1058, 1059, 1060, 1061] (by decide +kernel)
theorem li_12 : ∀ w ∈ wsL_law0_r12, w ∈ li_tbl := li_p _ [1062, 1063, 1064, 1065, 881, 1066, 1068, 1069, 1067, 1070, 1071, 1073, 1072, 1074, 1075, 1076, 1077, 1072, 1078, 1079, 1080, 1081, 1082, 1083] (by decide +kernel)
theorem li_13 : ∀ w ∈ wsL_law0_r13, w ∈ li_tbl := li_p _ [1084, 1085, 1086, 1087, 1088, 1089, 1090, 1091, 1092, 1093, 1094, 476, 477, 478, 1095, 1096, 1097, 1098, 1110, 1111, 1112, 1113, 1114, 1115] (by decide +kernel)
theorem li_14 : ∀ w ∈ wsL_law0_r14, w ∈ li_tbl := li_p _ [1116, 1117, 1118, 1119, 1120, 1121, 1122, 1123, 1124, 1125, 43, 1126, 1127, 1129, 1128, 50, 1130, 1131, 1133, 1132, 70, 71, 72, 73] (by decide +kernel)
theorem li_15 : ∀ w ∈ wsL_law0_r15, w ∈ li_tbl := li_p _ [76, 77, 52, 347, 348, 349, 202, 350, 184, 185, 53, 351, 203, 204, 54, 352, 213, 214, 55, 353, 232, 233, 56, 354] (by decide +kernel)
theorem li_16 : ∀ w ∈ wsL_law0_r16, w ∈ li_tbl := li_p _ [243, 244, 57, 355, 287, 288, 58, 356, 319, 320, 59, 357, 358, 360, 78, 79, 80, 81, 157, 158, 182, 159, 82, 83] (by decide +kernel)
theorem li_17 : ∀ w ∈ wsL_law0_r17, w ∈ li_tbl := li_p _ [84, 85, 129, 135, 141, 145, 148, 152, 155, 86, 87, 88, 89, 90, 91, 92, 93, 94, 95, 96, 97, 98, 99, 100] (by decide +kernel)
