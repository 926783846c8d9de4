/-! THE START: the words, out of the tables and out of what the statement gives -/
def sw_fl : List Cond := flatC (Cond.and given_1 narrow_1)
def sw_k : List Nat := [68, 74, 77, 80, 83, 86, 89, 92, 95, 98, 101, 104]
def sw_tm (i : Nat) : Term := if i < 12 then .string RX1 (sw_k.getD i 0) else .string RX7 (st_ix.getD (i - 12) 0)
def sw_st (i : Nat) : Term := .static RX1 (st_nm.getD i "") st_cd
def sw_w : List Cond := [.laysStatic Bundle.tN "UNASSIGNED_STACK" Bundle.steD, .laysStatic Bundle.tN "SUPPRESSED_SENTINEL" Bundle.listD, .initialized Bundle.tN, .laysStatic "java/lang/String" "COMPACT_STRINGS" "Z", .initialized "java/lang/String", .laysStatic "jdk/internal/util/Preconditions" "SIOOBE_FORMATTER" "Ljava/util/function/BiFunction;", .initialized "jdk/internal/util/Preconditions", .declares ⟨"java/lang/RuntimeException", "<init>", "()V"⟩, .declares ⟨"java/lang/Exception", "<init>", "()V"⟩, .declares ⟨"java/lang/Throwable", "<init>", "()V"⟩, .castable (mx_n 1) (mx_n 1), .castable (mx_n 2) (mx_n 2), .castable (mx_n 3) (mx_n 3), .laysStatic RX8 "COMMANDS" "[LReliefBuilder$Command;", .initialized RX8, .laysStatic RX0 "$SwitchMap$ReliefBuilder$Command" "[I", .initialized RX0, .initialized RX1, .arrayOver (.object RX5), .arrayOver (.object RX1), .methodLinkNest RX12 36 yX11_init RX12, .methodLinkNest RX12 59 yX10_init RX12, .arrayClass .int, .arrayClass .boolean, .arrayClass .byte, .arrayClass .float, .arrayClass .long, .arrayClass .double]
def sw_w1 : List Cond := (List.range 12).map (fun i => .laysStatic RX1 (st_nm.getD i "") st_cd)
def sw_w2 : List Cond := (List.range 7).map (fun i => .stringRef RX7 (st_ix.getD i 0) (st_tx.getD i ""))
def sw_f : List Cond := [.isRef (.static Bundle.tN "UNASSIGNED_STACK" Bundle.steD), .isRef (.static Bundle.tN "SUPPRESSED_SENTINEL" Bundle.listD), .eq (.static "java/lang/String" "COMPACT_STRINGS" "Z") (.int 1), .isRef (.static "jdk/internal/util/Preconditions" "SIOOBE_FORMATTER" "Ljava/util/function/BiFunction;"), .arrayOf (.static RX8 "COMMANDS" "[LReliefBuilder$Command;") (.object RX1), .eq (.length (.static RX8 "COMMANDS" "[LReliefBuilder$Command;")) (.int 12), .arrayOf (.static RX0 "$SwitchMap$ReliefBuilder$Command" "[I") .int, .eq (.length (.static RX0 "$SwitchMap$ReliefBuilder$Command" "[I")) (.int 12), .not (.castable (mx_n 1) (mx_n 2)), .not (.castable (mx_n 1) (mx_n 3)), .not (.castable (mx_n 2) (mx_n 1)), .not (.castable (mx_n 2) (mx_n 3)), .not (.castable (mx_n 3) (mx_n 1)), .not (.castable (mx_n 3) (mx_n 2))]
def sw_f1 : List Cond := (List.range 19).map (fun i => .exactly (sw_tm i) "java/lang/String")
def sw_f2 : List Cond := (List.range 19).map (fun i => .eq (.field (sw_tm i) "java/lang/String" "coder" "B") (.int 0))
def sw_f3 : List Cond := (List.range 19).map (fun i => .arrayOf (.field (sw_tm i) "java/lang/String" "value" "[B") .byte)
def sw_f4 : List Cond := (List.range 19).map (fun i => .eq (.length (.field (sw_tm i) "java/lang/String" "value" "[B")) (.int (Int32.ofNat (st_len.getD i 0))))
def sw_f5 : List Cond := (List.range 19).flatMap (fun i => (List.range (st_len.getD i 0)).map (fun j => .eq (.elem (.field (sw_tm i) "java/lang/String" "value" "[B") (.int (Int32.ofNat j))) (.int ((st_byt.getD i []).getD j 0))))
def sw_f6 : List Cond := (List.range 12).map (fun i => .exactly (sw_st i) RX1)
def sw_f7 : List Cond := (List.range 12).map (fun i => .eq (.field (sw_st i) "java/lang/Enum" "ordinal" "I") (.int (Int32.ofNat i)))
def sw_f8 : List Cond := (List.range 12).map (fun i => .eq (.field (sw_st i) RX1 "word" "Ljava/lang/String;") (sw_tm i))
def sw_f9 : List Cond := (List.range 12).map (fun i => .eq (.field (sw_st i) RX1 "numbers" "I") (.int (st_num.getD i 0)))
def sw_fa : List Cond := (List.range 12).map (fun i => .eq (.elem (.static RX8 "COMMANDS" "[LReliefBuilder$Command;") (.int (Int32.ofNat i))) (sw_st i))
def sw_fb : List Cond := (List.range 12).map (fun i => .eq (.elem (.static RX0 "$SwitchMap$ReliefBuilder$Command" "[I") (.int (Int32.ofNat i))) (.int (st_sm.getD i 0)))
def sw_pS : List (Nat × Nat) := [(0, 1), (0, 2), (0, 3), (0, 4), (0, 5), (0, 6), (0, 7), (0, 8), (0, 9), (0, 10), (1, 2), (1, 3), (1, 4), (1, 5), (1, 6), (1, 7), (1, 8), (1, 9), (1, 10), (2, 3), (2, 4), (2, 5), (2, 6), (2, 7), (2, 8), (2, 9), (2, 10), (3, 4), (3, 5), (3, 6), (3, 7), (3, 8), (3, 9), (3, 10), (4, 5), (4, 6), (4, 7), (4, 8), (4, 9), (4, 10), (5, 6), (5, 7), (5, 8), (5, 9), (5, 10), (6, 7), (6, 8), (6, 9), (6, 10), (7, 8), (7, 9), (7, 10), (8, 9), (8, 10), (9, 10), (11, 0), (11, 1), (11, 2), (11, 3), (11, 4), (11, 5), (11, 6), (11, 7), (11, 8), (11, 9), (11, 10), (12, 0), (12, 1), (12, 2), (12, 3), (12, 4), (12, 5), (12, 6), (12, 7), (12, 8), (12, 9), (12, 10), (12, 11), (12, 13), (12, 14), (12, 15), (12, 16), (12, 17), (12, 18), (13, 0), (13, 1), (13, 2), (13, 3), (13, 4), (13, 5), (13, 6), (13, 7), (13, 8), (13, 9), (13, 10), (13, 11), (13, 14), (13, 15), (13, 16), (13, 17), (13, 18), (14, 0), (14, 1), (14, 2), (14, 3), (14, 4), (14, 5), (14, 6), (14, 7), (14, 8), (14, 9), (14, 10), (14, 11), (14, 15), (14, 16), (15, 0), (15, 1), (15, 2), (15, 3), (15, 4), (15, 5), (15, 6), (15, 7), (15, 8), (15, 9), (15, 10), (15, 11), (15, 16), (16, 0), (16, 1), (16, 2), (16, 3), (16, 4), (16, 5), (16, 6), (16, 7), (16, 8), (16, 9), (16, 10), (16, 11), (17, 0), (17, 1), (17, 2), (17, 3), (17, 4), (17, 5), (17, 6), (17, 7), (17, 8), (17, 9), (17, 10), (17, 11), (17, 14), (17, 15), (17, 16), (17, 18), (18, 0), (18, 1), (18, 2), (18, 3), (18, 4), (18, 5), (18, 6), (18, 7), (18, 8), (18, 9), (18, 10), (18, 11), (18, 14), (18, 15), (18, 16)]
def sw_pC : List (Nat × Nat) := [(0, 1), (0, 2), (0, 3), (0, 4), (0, 5), (0, 6), (0, 7), (0, 8), (0, 9), (0, 10), (1, 2), (1, 3), (1, 4), (1, 5), (1, 6), (1, 7), (1, 8), (1, 9), (1, 10), (2, 3), (2, 4), (2, 5), (2, 6), (2, 7), (2, 8), (2, 9), (2, 10), (3, 4), (3, 5), (3, 6), (3, 7), (3, 8), (3, 9), (3, 10), (4, 5), (4, 6), (4, 7), (4, 8), (4, 9), (4, 10), (5, 6), (5, 7), (5, 8), (5, 9), (5, 10), (6, 7), (6, 8), (6, 9), (6, 10), (7, 8), (7, 9), (7, 10), (8, 9), (8, 10), (9, 10), (11, 0), (11, 1), (11, 2), (11, 3), (11, 4), (11, 5), (11, 6), (11, 7), (11, 8), (11, 9), (11, 10)]
def sw_fc : List Cond := sw_pS.map (fun p => .not (.eq (sw_tm p.1) (sw_tm p.2)))
def sw_fd : List Cond := sw_pC.map (fun p => .not (.eq (sw_st p.1) (sw_st p.2)))
theorem sw_p (ws : List Cond) (ix : List Nat) (h : ws = ix.filterMap (fun i => sw_fl[i]?)) : ∀ w ∈ ws, w ∈ sw_fl := by
  intro w hw
  rw [h] at hw
  obtain ⟨i, -, hi⟩ := List.mem_filterMap.mp hw
  exact List.mem_of_getElem? hi
theorem sw_w_in : ∀ w ∈ sw_w, w ∈ lw_tbl := li_p _ [833, 835, 132, 957, 137, 973, 139, 809, 811, 813, 808, 887, 1223, 1082, 130, 1125, 144, 143, 274, 418, 297, 337, 272, 294, 378, 273, 2385, 2386] (by decide +kernel)
theorem sw_w1_in : ∀ w ∈ sw_w1, w ∈ lw_tbl := li_p _ [1096, 2393, 2394, 2395, 2396, 2397, 2398, 2399, 2400, 2401, 2402, 1086] (by decide +kernel)
theorem sw_w2_in : ∀ w ∈ sw_w2, w ∈ lw_tbl := li_p _ [943, 1009, 1022, 1027, 1032, 1014, 1021] (by decide +kernel)
theorem sw_f_in : ∀ w ∈ sw_f, w ∈ sw_fl := sw_p _ [4, 5, 6, 7, 13, 14, 38, 39, 180, 193, 167, 194, 169, 182] (by decide +kernel)
theorem sw_f1_in : ∀ w ∈ sw_f1, w ∈ sw_fl := sw_p _ [323, 339, 358, 376, 396, 418, 441, 463, 488, 514, 541, 306, 226, 235, 267, 279, 293, 245, 256] (by decide +kernel)
theorem sw_f2_in : ∀ w ∈ sw_f2, w ∈ sw_fl := sw_p _ [324, 340, 359, 377, 397, 419, 442, 464, 489, 515, 542, 307, 227, 236, 268, 280, 294, 246, 257] (by decide +kernel)
theorem sw_f3_in : ∀ w ∈ sw_f3, w ∈ sw_fl := sw_p _ [325, 341, 360, 378, 398, 420, 443, 465, 490, 516, 543, 308, 228, 237, 269, 281, 295, 247, 258] (by decide +kernel)
theorem sw_f4_in : ∀ w ∈ sw_f4, w ∈ sw_fl := sw_p _ [326, 342, 361, 379, 399, 421, 444, 466, 491, 517, 544, 309, 229, 238, 270, 282, 296, 248, 259] (by decide +kernel)
theorem sw_f5_in : ∀ w ∈ sw_f5, w ∈ sw_fl := sw_p _ [327, 328, 329, 330, 343, 344, 345, 346, 347, 348, 362, 363, 364, 365, 380, 381, 382, 383, 384, 400, 401, 402, 403, 404, 405, 422, 423, 424, 425, 426, 427, 445, 446, 447, 448, 467, 468, 469, 470, 471, 472, 492, 493, 494, 495, 496, 497, 518, 519, 520, 521, 522, 523, 545, 546, 547, 548, 549, 550, 310, 311, 312, 313, 314, 315, 230, 231, 232, 233, 234, 239, 240, 241, 242, 243, 271, 272, 273, 274, 283, 284, 285, 286, 287, 297, 298, 299, 249, 250, 251, 252, 253, 260, 261, 262, 263] (by decide +kernel)
theorem sw_f6_in : ∀ w ∈ sw_f6, w ∈ sw_fl := sw_p _ [32, 52, 58, 65, 73, 82, 92, 103, 115, 128, 142, 28] (by decide +kernel)
theorem sw_f7_in : ∀ w ∈ sw_f7, w ∈ sw_fl := sw_p _ [33, 53, 59, 66, 74, 83, 93, 104, 116, 129, 143, 29] (by decide +kernel)
theorem sw_f8_in : ∀ w ∈ sw_f8, w ∈ sw_fl := sw_p _ [34, 54, 60, 67, 75, 84, 94, 105, 117, 130, 144, 30] (by decide +kernel)
theorem sw_f9_in : ∀ w ∈ sw_f9, w ∈ sw_fl := sw_p _ [35, 55, 61, 68, 76, 85, 95, 106, 118, 131, 145, 31] (by decide +kernel)
theorem sw_fa_in : ∀ w ∈ sw_fa, w ∈ sw_fl := sw_p _ [16, 17, 18, 19, 20, 21, 22, 23, 24, 25, 26, 27] (by decide +kernel)
theorem sw_fb_in : ∀ w ∈ sw_fb, w ∈ sw_fl := sw_p _ [40, 41, 42, 43, 44, 45, 46, 47, 48, 49, 50, 51] (by decide +kernel)
theorem sw_fc_in : ∀ w ∈ sw_fc, w ∈ sw_fl := sw_p _ [357, 374, 393, 414, 436, 457, 481, 506, 532, 559, 375, 394, 415, 437, 458, 482, 507, 533, 560, 395, 416, 438, 459, 483, 508, 534, 561, 417, 439, 460, 484, 509, 535, 562, 440, 461, 485, 510, 536, 563, 462, 486, 511, 537, 564, 487, 512, 538, 565, 513, 539, 566, 540, 567, 568, 338, 356, 373, 392, 413, 435, 456, 480, 505, 531, 558, 331, 349, 366, 385, 406, 428, 449, 473, 498, 524, 551, 316, 244, 275, 288, 300, 254, 264, 332, 350, 367, 386, 407, 429, 450, 474, 499, 525, 552, 317, 276, 289, 301, 255, 265, 335, 353, 370, 389, 410, 432, 453, 477, 502, 528, 555, 320, 292, 304, 336, 354, 371, 390, 411, 433, 454, 478, 503, 529, 556, 321, 305, 337, 355, 372, 391, 412, 434, 455, 479, 504, 530, 557, 322, 333, 351, 368, 387, 408, 430, 451, 475, 500, 526, 553, 318, 277, 290, 302, 266, 334, 352, 369, 388, 409, 431, 452, 476, 501, 527, 554, 319, 278, 291, 303] (by decide +kernel)
theorem sw_fd_in : ∀ w ∈ sw_fd, w ∈ sw_fl := sw_p _ [57, 63, 70, 78, 87, 97, 108, 120, 133, 147, 64, 71, 79, 88, 98, 109, 121, 134, 148, 72, 80, 89, 99, 110, 122, 135, 149, 81, 90, 100, 111, 123, 136, 150, 91, 101, 112, 124, 137, 151, 102, 113, 125, 138, 152, 114, 126, 139, 153, 127, 140, 154, 141, 155, 156, 36, 56, 62, 69, 77, 86, 96, 107, 119, 132, 146] (by decide +kernel)
theorem sw_pS_b : ((List.range 19).all fun i => (List.range 19).all fun j => decide (i = j) || (sw_pS.contains (i, j) || sw_pS.contains (j, i))) = true := by decide +kernel
theorem sw_pS_all (i : Nat) (hi : i < 19) (j : Nat) (hj : j < 19) (hne : i ≠ j) : (i, j) ∈ sw_pS ∨ (j, i) ∈ sw_pS := by
  have h := List.all_eq_true.mp (List.all_eq_true.mp sw_pS_b i (List.mem_range.mpr hi)) j (List.mem_range.mpr hj)
  rw [decide_eq_false hne, Bool.false_or, Bool.or_eq_true] at h
  exact h.imp List.contains_iff_mem.mp List.contains_iff_mem.mp
theorem sw_pC_b : ((List.range 12).all fun i => (List.range 12).all fun j => decide (i = j) || (sw_pC.contains (i, j) || sw_pC.contains (j, i))) = true := by decide +kernel
theorem sw_pC_all (i : Nat) (hi : i < 12) (j : Nat) (hj : j < 12) (hne : i ≠ j) : (i, j) ∈ sw_pC ∨ (j, i) ∈ sw_pC := by
  have h := List.all_eq_true.mp (List.all_eq_true.mp sw_pC_b i (List.mem_range.mpr hi)) j (List.mem_range.mpr hj)
  rw [decide_eq_false hne, Bool.false_or, Bool.or_eq_true] at h
  exact h.imp List.contains_iff_mem.mp List.contains_iff_mem.mp
theorem sw_len : ∀ i, i < 19 → st_len.getD i 0 < 2 ^ 31 := by
  have h : ∀ i, i < 19 → st_len.getD i 0 ≤ 6 := by decide
  intro i hi
  exact Nat.lt_of_le_of_lt (h i hi) (by decide)
section Start
variable {s : State} {b : Nat}
/-- the arrays' classes -/
theorem sa_p {ty : FieldType} (h : (Cond.arrayClass ty).before #[Value.ref b] s = true) (hty : ∀ C, ty ≠ .object C) : ∃ cA : ClassId, ArrOfT s cA ty ∧ va_RA s cA ty := by
  obtain ⟨c, k, comp, h1, h2, h3⟩ := Cond.arrayClass_spec h
  refine ⟨c, fun n z => ⟨fun k h => (by cases h), k, h2, comp, h3⟩, ?_⟩
  cases ty <;> first | exact h1 | exact absurd rfl (hty _)
theorem sa_q {C : String} (h : (Cond.arrayOver (.object C)).before #[Value.ref b] s = true) : ∃ cA : ClassId, ArrOfT s cA (.object C) ∧ va_RA s cA (.object C) := by
  obtain ⟨comp, c, k, h1, h2, h3, h4, h5⟩ := Cond.arrayOver_spec h
  exact ⟨c, fun n z => ⟨fun k h => (by cases h), k, h3, comp, h4⟩, k, comp, h3, h4, h1, h5⟩
theorem sa_kk (hw : ∀ w ∈ sw_w, w.before #[Value.ref b] s = true) : ∃ kA : Nat → ClassId, ∀ (k : Nat) (q : ClassId × FieldType), (kk_T kA)[k]? = some q → ArrOfT s q.1 q.2 ∧ va_RA s q.1 q.2 := by
  obtain ⟨c0, h0⟩ := sa_p (ty := .int) (hw _ (List.mem_of_getElem? (i := 22) rfl)) (fun C h => by cases h)
  obtain ⟨c1, h1⟩ := sa_p (ty := .boolean) (hw _ (List.mem_of_getElem? (i := 23) rfl)) (fun C h => by cases h)
  obtain ⟨c2, h2⟩ := sa_p (ty := .byte) (hw _ (List.mem_of_getElem? (i := 24) rfl)) (fun C h => by cases h)
  obtain ⟨c3, h3⟩ := sa_p (ty := .float) (hw _ (List.mem_of_getElem? (i := 25) rfl)) (fun C h => by cases h)
  obtain ⟨c4, h4⟩ := sa_p (ty := .long) (hw _ (List.mem_of_getElem? (i := 26) rfl)) (fun C h => by cases h)
  obtain ⟨c5, h5⟩ := sa_p (ty := .double) (hw _ (List.mem_of_getElem? (i := 27) rfl)) (fun C h => by cases h)
  obtain ⟨c6, h6⟩ := sa_q (C := "ReliefBuilder$Panel") (hw _ (List.mem_of_getElem? (i := 18) rfl))
  obtain ⟨c7, h7⟩ := sa_q (C := "ReliefBuilder$Command") (hw _ (List.mem_of_getElem? (i := 19) rfl))
  refine ⟨fun k => [c0, c1, c2, c3, c4, c5, c6, c7].getD k 0, fun k q hq => ?_⟩
  match k, hq with
  | 0, hq => cases hq; exact h0
  | 1, hq => cases hq; exact h1
  | 2, hq => cases hq; exact h2
  | 3, hq => cases hq; exact h3
  | 4, hq => cases hq; exact h4
  | 5, hq => cases hq; exact h5
  | 6, hq => cases hq; exact h6
  | 7, hq => cases hq; exact h7
  | k + 8, hq => simp at hq
theorem sa_Y (hw : ∀ w ∈ sw_w, w.before #[Value.ref b] s = true) : st_Y s :=
  ⟨va_AO.of (hw _ (List.mem_of_getElem? (i := 18) rfl)), va_AO.of (hw _ (List.mem_of_getElem? (i := 19) rfl)), va_Nw.of rfl (hw _ (List.mem_of_getElem? (i := 20) rfl)), va_Nw.of rfl (hw _ (List.mem_of_getElem? (i := 21) rfl))⟩
theorem mx_3 : ∀ x : Nat, mx_n x = mx_n 1 ∨ mx_n x = mx_n 2 ∨ mx_n x = mx_n 3 := fun x => match x with
  | 0 => Or.inr (Or.inr rfl)
  | 1 => Or.inl rfl
  | 2 => Or.inr (Or.inl rfl)
  | x + 3 => Or.inr (Or.inr rfl)
theorem sa_T (hw : ∀ w ∈ sw_w, w.before #[Value.ref b] s = true) (hf : ∀ w ∈ sw_f, w.before #[Value.ref b] s = true) : st_T s := by
  refine ⟨⟨va_Nw.of rfl (hw _ (List.mem_of_getElem? (i := 7) rfl)), va_Nw.of rfl (hw _ (List.mem_of_getElem? (i := 8) rfl)), va_Nw.of rfl (hw _ (List.mem_of_getElem? (i := 9) rfl))⟩, fun x => ?_, fun x y hne => ?_⟩
  · rcases mx_3 x with h | h | h <;> rw [h]
    · exact va_Nw.of rfl (hw _ (List.mem_of_getElem? (i := 10) rfl))
    · exact va_Nw.of rfl (hw _ (List.mem_of_getElem? (i := 11) rfl))
    · exact va_Nw.of rfl (hw _ (List.mem_of_getElem? (i := 12) rfl))
  · rcases mx_3 x with h | h | h <;> rcases mx_3 y with h2 | h2 | h2 <;> rw [h, h2] at hne ⊢
    · exact absurd rfl hne
    · exact va_Nc.of (hf _ (List.mem_of_getElem? (i := 8) rfl))
    · exact va_Nc.of (hf _ (List.mem_of_getElem? (i := 9) rfl))
    · exact va_Nc.of (hf _ (List.mem_of_getElem? (i := 10) rfl))
    · exact absurd rfl hne
    · exact va_Nc.of (hf _ (List.mem_of_getElem? (i := 11) rfl))
    · exact va_Nc.of (hf _ (List.mem_of_getElem? (i := 12) rfl))
    · exact va_Nc.of (hf _ (List.mem_of_getElem? (i := 13) rfl))
    · exact absurd rfl hne
theorem sw_rg {α : Type} {P : α → Prop} {n : Nat} {f : Nat → α} (h : ∀ w ∈ (List.range n).map f, P w) {i : Nat} (hi : i < n) : P (f i) := h _ (List.mem_map.mpr ⟨i, List.mem_range.mpr hi, rfl⟩)
theorem sa_S (hts : ∀ w ∈ lw_tbl, w.before #[Value.ref b] s = true) (hg : (Jvm.Cond.and given_1 narrow_1).before #[Value.ref b] s = true) : ∃ zz : Nat → Nat → Nat, mx_S zz (fun q => s.heap.size ≤ q) s s.heap := by
  have hA : ∀ a : Nat, a < s.heap.size → ¬ (fun q => s.heap.size ≤ q) a := fun a h => Nat.not_le.mpr h
  have hfl : ∀ w ∈ sw_fl, w.before #[Value.ref b] s = true := flat_of_before _ hg
  have hw : ∀ w ∈ sw_w, w.before #[Value.ref b] s = true := fun w h => hts w (sw_w_in w h)
  have hf : ∀ w ∈ sw_f, w.before #[Value.ref b] s = true := fun w h => hfl w (sw_f_in w h)
  have r1 : ∀ i, i < 12 → (Cond.laysStatic RX1 (st_nm.getD i "") st_cd).before #[Value.ref b] s = true := fun i hi => sw_rg (fun w h => hts w (sw_w1_in w h)) hi
  have r2 : ∀ i, i < 7 → (Cond.stringRef RX7 (st_ix.getD i 0) (st_tx.getD i "")).before #[Value.ref b] s = true := fun i hi => sw_rg (fun w h => hts w (sw_w2_in w h)) hi
  obtain ⟨adK, adV, hSS, hKe⟩ := vk_Sof (args := #[Value.ref b]) (s := s) (N := 19) (tm := sw_tm) (len := st_len) (byt := st_byt) (A := fun q => s.heap.size ≤ q) sw_len
    (fun i hi => sw_rg (fun w h => hfl w (sw_f1_in w h)) hi) (fun i hi => sw_rg (fun w h => hfl w (sw_f2_in w h)) hi) (fun i hi => sw_rg (fun w h => hfl w (sw_f3_in w h)) hi) (fun i hi => sw_rg (fun w h => hfl w (sw_f4_in w h)) hi)
    (fun i hi j hj => hfl _ (sw_f5_in _ (List.mem_flatMap.mpr ⟨i, List.mem_range.mpr hi, List.mem_map.mpr ⟨j, List.mem_range.mpr hj, rfl⟩⟩)))
    (fun i j hi hj hne => (sw_pS_all i hi j hj hne).elim (fun h => Or.inl (hfl _ (sw_fc_in _ (List.mem_map.mpr ⟨(i, j), h, rfl⟩)))) (fun h => Or.inr (hfl _ (sw_fc_in _ (List.mem_map.mpr ⟨(j, i), h, rfl⟩))))) hA
  have h0 : ∀ i : Nat, ∃ t : Nat, i < 12 → (sw_st i).eval #[Value.ref b] s none [] s = some (.ref t) := by
    intro i
    by_cases hi : i < 12
    · obtain ⟨a, c, cell, k, q1, -⟩ := Cond.exactly_spec (sw_rg (f := fun i => Cond.exactly (sw_st i) RX1) (P := fun w => w.before #[Value.ref b] s = true) (fun w h => hfl w (sw_f6_in w h)) hi)
      exact ⟨a, fun _ => q1⟩
    · exact ⟨0, fun h => absurd h hi⟩
  obtain ⟨ad, had⟩ := Classical.axiomOfChoice h0
  have hini : (Cond.initialized RX1).before #[Value.ref b] s = true := hw _ (List.mem_of_getElem? (i := 17) rfl)
  obtain ⟨tC, hC1, hC2⟩ := va_Tof (args := #[Value.ref b]) (s := s) (tm := .static RX8 "COMMANDS" "[LReliefBuilder$Command;") (ty := .object RX1) (N := 12) (f := fun i => .ref (ad i)) (A := fun q => s.heap.size ≤ q) (by decide) (hf _ (List.mem_of_getElem? (i := 4) rfl)) (va_eqt (hf _ (List.mem_of_getElem? (i := 5) rfl)))
    (fun j hj => va_eqv (sw_rg (f := fun i => Cond.eq (.elem (.static RX8 "COMMANDS" "[LReliefBuilder$Command;") (.int (Int32.ofNat i))) (sw_st i)) (P := fun w => w.before #[Value.ref b] s = true) (fun w h => hfl w (sw_fa_in w h)) hj) (had j hj)) hA
  obtain ⟨tS, hS1, hS2⟩ := va_Tof (args := #[Value.ref b]) (s := s) (tm := .static RX0 "$SwitchMap$ReliefBuilder$Command" "[I") (ty := .int) (N := 12) (f := fun i => .int (st_sm.getD i 0)) (A := fun q => s.heap.size ≤ q) (by decide) (hf _ (List.mem_of_getElem? (i := 6) rfl)) (va_eqt (hf _ (List.mem_of_getElem? (i := 7) rfl)))
    (fun j hj => va_eqt (sw_rg (f := fun i => Cond.eq (.elem (.static RX0 "$SwitchMap$ReliefBuilder$Command" "[I") (.int (Int32.ofNat i))) (.int (st_sm.getD i 0))) (P := fun w => w.before #[Value.ref b] s = true) (fun w h => hfl w (sw_fb_in w h)) hj)) hA
  refine ⟨fun k i => if k = 0 then adK i else if k = 1 then adV i else if k = 2 then ad i else if i = 0 then tC else tS, vx_Zqof (hw _ (List.mem_of_getElem? (i := 0) rfl)) (hw _ (List.mem_of_getElem? (i := 2) rfl)) (hf _ (List.mem_of_getElem? (i := 0) rfl)) hA, vx_Zqof (hw _ (List.mem_of_getElem? (i := 1) rfl)) (hw _ (List.mem_of_getElem? (i := 2) rfl)) (hf _ (List.mem_of_getElem? (i := 1) rfl)) hA,
    ⟨va_Zof (hw _ (List.mem_of_getElem? (i := 3) rfl)) (hw _ (List.mem_of_getElem? (i := 4) rfl)) (va_eqi (hf _ (List.mem_of_getElem? (i := 2) rfl))) hA, va_Zqof (hw _ (List.mem_of_getElem? (i := 5) rfl)) (hw _ (List.mem_of_getElem? (i := 6) rfl)) (hf _ (List.mem_of_getElem? (i := 3) rfl)) hA, sa_T hw hf⟩, hSS, fun i hi => ⟨?_, ?_, ?_, ?_, ?_⟩, fun i j hi hj e => ?_, ⟨?_, hC2⟩, ⟨?_, hS2⟩, fun i hi => ?_⟩
  · exact va_Zof (r1 i hi) hini (had i hi) hA
  · exact va_Oof (sw_rg (f := fun i => Cond.exactly (sw_st i) RX1) (P := fun w => w.before #[Value.ref b] s = true) (fun w h => hfl w (sw_f6_in w h)) hi) (had i hi) hA
  · exact vk_OFof (had i hi) (va_eqt (sw_rg (f := fun i => Cond.eq (.field (sw_st i) "java/lang/Enum" "ordinal" "I") (.int (Int32.ofNat i))) (P := fun w => w.before #[Value.ref b] s = true) (fun w h => hfl w (sw_f7_in w h)) hi)) hA
  · exact vk_OFof (had i hi) (va_eqv (sw_rg (f := fun i => Cond.eq (.field (sw_st i) RX1 "word" "Ljava/lang/String;") (sw_tm i)) (P := fun w => w.before #[Value.ref b] s = true) (fun w h => hfl w (sw_f8_in w h)) hi) (hKe i (by omega))) hA
  · exact vk_OFof (had i hi) (va_eqt (sw_rg (f := fun i => Cond.eq (.field (sw_st i) RX1 "numbers" "I") (.int (st_num.getD i 0))) (P := fun w => w.before #[Value.ref b] s = true) (fun w h => hfl w (sw_f9_in w h)) hi)) hA
  · by_cases hij : i = j
    · exact hij
    · rcases sw_pC_all i hi j hj hij with h | h
      · exact absurd e (va_neR (hfl _ (sw_fd_in _ (List.mem_map.mpr ⟨(i, j), h, rfl⟩))) (had i hi) (had j hj))
      · exact absurd e.symm (va_neR (hfl _ (sw_fd_in _ (List.mem_map.mpr ⟨(j, i), h, rfl⟩))) (had j hj) (had i hi))
  · exact va_Zof (hw _ (List.mem_of_getElem? (i := 13) rfl)) (hw _ (List.mem_of_getElem? (i := 14) rfl)) hC1 hA
  · exact va_Zof (hw _ (List.mem_of_getElem? (i := 15) rfl)) (hw _ (List.mem_of_getElem? (i := 16) rfl)) hS1 hA
  · have e : sw_tm (12 + i) = .string RX7 (st_ix.getD i 0) := by
      unfold sw_tm
      rw [if_neg (by omega), show 12 + i - 12 = i by omega]
    exact vk_R.of (r2 i hi) (by rw [← e]; exact hKe (12 + i) (by omega))
end Start
