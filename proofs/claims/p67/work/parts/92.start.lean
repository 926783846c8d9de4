/-! THE START: the words, out of the tables and out of what the statement gives -/
def sw_fl : List Cond := flatC (Cond.and given_1 narrow_1)
def sw_tm (i : Nat) : Term := if i < 7 then .string RX7 (st_ix.getD i 0) else .string RX13 (st_ix.getD i 0)
def sw_do : Term := .static "java/lang/Integer" "DigitOnes" "[B"
def sw_dt : Term := .static "java/lang/Integer" "DigitTens" "[B"
def sw_w : List Cond := [.laysStatic Bundle.tN "UNASSIGNED_STACK" Bundle.steD, .laysStatic Bundle.tN "SUPPRESSED_SENTINEL" Bundle.listD, .initialized Bundle.tN, .laysStatic "java/lang/String" "COMPACT_STRINGS" "Z", .initialized "java/lang/String", .laysStatic "jdk/internal/util/Preconditions" "SIOOBE_FORMATTER" "Ljava/util/function/BiFunction;", .initialized "jdk/internal/util/Preconditions", .declares ⟨"java/lang/RuntimeException", "<init>", "()V"⟩, .declares ⟨"java/lang/Exception", "<init>", "()V"⟩, .declares ⟨"java/lang/Throwable", "<init>", "()V"⟩, .castable (mx_n 1) (mx_n 1), .castable (mx_n 2) (mx_n 2), .castable (mx_n 3) (mx_n 3), .laysStatic "java/lang/Integer" "DigitOnes" "[B", .laysStatic "java/lang/Integer" "DigitTens" "[B", .initialized "java/lang/Integer", .arrayOver (.object RX5), .arrayOver (.object RX1), .arrayOver (.array .int), .methodLinkNest RX12 36 yX11_init RX12, .methodLinkNest RX12 59 yX10_init RX12, .methodLinkNest RX13 52 yL_pick RL, .castable "[I" "java/lang/Cloneable", .castable "[B" "java/lang/Cloneable", .arrayClass .int, .arrayClass .boolean, .arrayClass .byte, .arrayClass .float]
def sw_w2 : List Cond := (List.range 7).map (fun i => .stringRef RX7 (st_ix.getD i 0) (st_tx.getD i ""))
def sw_w3 : List Cond := (List.range 11).map (fun i => .stringRef RX13 (st_ix.getD (7 + i) 0) (st_tx.getD (7 + i) ""))
def sw_f : List Cond := [.isRef (.static Bundle.tN "UNASSIGNED_STACK" Bundle.steD), .isRef (.static Bundle.tN "SUPPRESSED_SENTINEL" Bundle.listD), .eq (.static "java/lang/String" "COMPACT_STRINGS" "Z") (.int 1), .isRef (.static "jdk/internal/util/Preconditions" "SIOOBE_FORMATTER" "Ljava/util/function/BiFunction;"), .arrayOf sw_do .byte, .eq (.length sw_do) (.int 100), .arrayOf sw_dt .byte, .eq (.length sw_dt) (.int 100)]
def sw_f1 : List Cond := (List.range 18).map (fun i => .exactly (sw_tm i) "java/lang/String")
def sw_f2 : List Cond := (List.range 18).map (fun i => .eq (.field (sw_tm i) "java/lang/String" "coder" "B") (.int 0))
def sw_f3 : List Cond := (List.range 18).map (fun i => .arrayOf (.field (sw_tm i) "java/lang/String" "value" "[B") .byte)
def sw_f4 : List Cond := (List.range 18).map (fun i => .eq (.length (.field (sw_tm i) "java/lang/String" "value" "[B")) (.int (Int32.ofNat (st_len.getD i 0))))
def sw_f5 : List Cond := (List.range 18).flatMap (fun i => (List.range (st_len.getD i 0)).map (fun j => .eq (.elem (.field (sw_tm i) "java/lang/String" "value" "[B") (.int (Int32.ofNat j))) (.int ((st_byt.getD i []).getD j 0))))
def sw_fo : List Cond := (List.range 100).map (fun i => .eq (.elem sw_do (.int (Int32.ofNat i))) (.int (Int32.ofNat (48 + i % 10))))
def sw_ft : List Cond := (List.range 100).map (fun i => .eq (.elem sw_dt (.int (Int32.ofNat i))) (.int (Int32.ofNat (48 + i / 10))))
theorem sw_p (ws : List Cond) (ix : List Nat) (h : ws = ix.filterMap (fun i => sw_fl[i]?)) : ∀ w ∈ ws, w ∈ sw_fl := by
  intro w hw
  rw [h] at hw
  obtain ⟨i, -, hi⟩ := List.mem_filterMap.mp hw
  exact List.mem_of_getElem? hi
theorem sw_w_in : ∀ w ∈ sw_w, w ∈ li_tbl := li_p _ [570, 572, 60, 446, 40, 462, 46, 546, 548, 550, 1150, 545, 1203, 1014, 1016, 49, 183, 326, 811, 205, 245, 896, 1189, 941, 181, 202, 286, 182] (by decide +kernel)
theorem sw_w2_in : ∀ w ∈ sw_w2, w ∈ li_tbl := li_p _ [432, 498, 511, 516, 521, 503, 510] (by decide +kernel)
theorem sw_w3_in : ∀ w ∈ sw_w3, w ∈ li_tbl := li_p _ [812, 904, 1025, 1030, 1031, 1032, 1034, 1049, 1050, 1051, 1052] (by decide +kernel)
theorem sw_f_in : ∀ w ∈ sw_f, w ∈ sw_fl := sw_p _ [9, 10, 4, 5, 12, 13, 115, 116] (by decide +kernel)
theorem sw_f1_in : ∀ w ∈ sw_f1, w ∈ sw_fl := sw_p _ [249, 258, 290, 302, 316, 268, 279, 329, 340, 358, 372, 389, 405, 426, 446, 470, 496, 522] (by decide +kernel)
theorem sw_f2_in : ∀ w ∈ sw_f2, w ∈ sw_fl := sw_p _ [250, 259, 291, 303, 317, 269, 280, 330, 341, 359, 373, 390, 406, 427, 447, 471, 497, 523] (by decide +kernel)
theorem sw_f3_in : ∀ w ∈ sw_f3, w ∈ sw_fl := sw_p _ [251, 260, 292, 304, 318, 270, 281, 331, 342, 360, 374, 391, 407, 428, 448, 472, 498, 524] (by decide +kernel)
theorem sw_f4_in : ∀ w ∈ sw_f4, w ∈ sw_fl := sw_p _ [252, 261, 293, 305, 319, 271, 282, 332, 343, 361, 375, 392, 408, 429, 449, 473, 499, 525] (by decide +kernel)
theorem sw_f5_in : ∀ w ∈ sw_f5, w ∈ sw_fl := sw_p _ [253, 254, 255, 256, 257, 262, 263, 264, 265, 266, 294, 295, 296, 297, 306, 307, 308, 309, 310, 320, 321, 322, 272, 273, 274, 275, 276, 283, 284, 285, 286, 344, 345, 346, 347, 348, 349, 362, 376, 377, 378, 393, 409, 410, 411, 412, 413, 430, 431, 432, 450, 451, 452, 453, 454, 455, 474, 475, 476, 477, 478, 479, 480, 500, 501, 502, 503, 504, 505, 526, 527, 528, 529, 530, 531] (by decide +kernel)
theorem sw_fo_in : ∀ w ∈ sw_fo, w ∈ sw_fl := sw_p _ [14, 15, 16, 17, 18, 19, 20, 21, 22, 23, 24, 25, 26, 27, 28, 29, 30, 31, 32, 33, 34, 35, 36, 37, 38, 39, 40, 41, 42, 43, 44, 45, 46, 47, 48, 49, 50, 51, 52, 53, 54, 55, 56, 57, 58, 59, 60, 61, 62, 63, 64, 65, 66, 67, 68, 69, 70, 71, 72, 73, 74, 75, 76, 77, 78, 79, 80, 81, 82, 83, 84, 85, 86, 87, 88, 89, 90, 91, 92, 93, 94, 95, 96, 97, 98, 99, 100, 101, 102, 103, 104, 105, 106, 107, 108, 109, 110, 111, 112, 113] (by decide +kernel)
theorem sw_ft_in : ∀ w ∈ sw_ft, w ∈ sw_fl := sw_p _ [117, 118, 119, 120, 121, 122, 123, 124, 125, 126, 127, 128, 129, 130, 131, 132, 133, 134, 135, 136, 137, 138, 139, 140, 141, 142, 143, 144, 145, 146, 147, 148, 149, 150, 151, 152, 153, 154, 155, 156, 157, 158, 159, 160, 161, 162, 163, 164, 165, 166, 167, 168, 169, 170, 171, 172, 173, 174, 175, 176, 177, 178, 179, 180, 181, 182, 183, 184, 185, 186, 187, 188, 189, 190, 191, 192, 193, 194, 195, 196, 197, 198, 199, 200, 201, 202, 203, 204, 205, 206, 207, 208, 209, 210, 211, 212, 213, 214, 215, 216] (by decide +kernel)
theorem sw_len : ∀ i, i < 18 → st_len.getD i 0 < 2 ^ 31 := by
  have h : ∀ i, i < 18 → st_len.getD i 0 ≤ 7 := by decide
  intro i hi
  exact Nat.lt_of_le_of_lt (h i hi) (by decide)
/-- the strings of the constants, where no two need be apart -/
theorem vs_Sof {args : Array Value} {s : State} {N : Nat} {tm : Nat → Term} {len : List Nat} {byt : List (List Int32)} {A : Nat → Prop} (hN : ∀ i : Nat, i < N → len.getD i 0 < 2 ^ 31) (hex : ∀ i : Nat, i < N → (Cond.exactly (tm i) "java/lang/String").before args s = true) (hco : ∀ i : Nat, i < N → (Cond.eq (.field (tm i) "java/lang/String" "coder" "B") (.int 0)).before args s = true)
    (har : ∀ i : Nat, i < N → (Cond.arrayOf (.field (tm i) "java/lang/String" "value" "[B") .byte).before args s = true) (hle : ∀ i : Nat, i < N → (Cond.eq (.length (.field (tm i) "java/lang/String" "value" "[B")) (.int (Int32.ofNat (len.getD i 0)))).before args s = true)
    (hel : ∀ i : Nat, i < N → ∀ j : Nat, j < len.getD i 0 → (Cond.eq (.elem (.field (tm i) "java/lang/String" "value" "[B") (.int (Int32.ofNat j))) (.int ((byt.getD i []).getD j 0))).before args s = true)
    (hA : ∀ a : Nat, a < s.heap.size → ¬ A a) :
    ∃ adK adV : Nat → Nat, vs_S N len byt adK adV A s s.heap ∧ ∀ i : Nat, i < N → (tm i).eval args s none [] s = some (.ref (adK i)) := by
  have h1 : ∀ i : Nat, i < N → ∃ q : Nat × Nat, (tm i).eval args s none [] s = some (.ref q.1) ∧ va_O "java/lang/String" q.1 A s s.heap ∧ va_OF "java/lang/String" "coder" "B" (.int 0) q.1 A s s.heap ∧ va_OF "java/lang/String" "value" "[B" (.ref q.2) q.1 A s s.heap ∧ va_T .byte q.2 (len.getD i 0) (fun j => .int ((byt.getD i []).getD j 0)) A s s.heap := fun i hi => by
    obtain ⟨a, -, -, -, q1, -⟩ := Cond.exactly_spec (hex i hi)
    obtain ⟨t, ht, hT⟩ := va_Tof (f := fun j => .int ((byt.getD i []).getD j 0)) (A := A) (hN i hi) (har i hi) (va_eqt (hle i hi)) (fun j hj => va_eqt (hel i hi j hj)) hA
    exact ⟨(a, t), q1, va_Oof (hex i hi) q1 hA, vk_OFof q1 (va_eqt (hco i hi)) hA, vk_OFof q1 ht hA, hT⟩
  have h0 : ∀ i : Nat, ∃ q : Nat × Nat, i < N → (tm i).eval args s none [] s = some (.ref q.1) ∧ va_O "java/lang/String" q.1 A s s.heap ∧ va_OF "java/lang/String" "coder" "B" (.int 0) q.1 A s s.heap ∧ va_OF "java/lang/String" "value" "[B" (.ref q.2) q.1 A s s.heap ∧ va_T .byte q.2 (len.getD i 0) (fun j => .int ((byt.getD i []).getD j 0)) A s s.heap := fun i => by
    by_cases hi : i < N
    · exact (h1 i hi).imp fun q hq _ => hq
    · exact ⟨(0, 0), fun h => absurd h hi⟩
  obtain ⟨ad, had⟩ := Classical.axiomOfChoice h0
  exact ⟨fun i => (ad i).1, fun i => (ad i).2, ⟨fun i hi => (had i hi).2, trivial⟩, fun i hi => (had i hi).1⟩
section Start
variable {s : State} {b : Nat}
/-- the arrays' classes -/
theorem sa_p {ty : FieldType} (h : (Cond.arrayClass ty).before #[Value.ref b] s = true) (hty : ∀ C, ty ≠ .object C) : ∃ cA : ClassId, ArrOfT s cA ty ∧ va_RA s cA ty := by
  obtain ⟨c, k, comp, h1, h2, h3⟩ := Cond.arrayClass_spec h
  refine ⟨c, fun n z => ⟨fun k h => (by cases h), k, h2, comp, h3⟩, ?_⟩
  cases ty <;> first | exact h1 | exact absurd rfl (hty _)
theorem sa_q {C : String} (h : (Cond.arrayOver (.object C)).before #[Value.ref b] s = true) : ∃ cA : ClassId, ArrOfT s cA (.object C) ∧ va_RA s cA (.object C) := by
  obtain ⟨comp, c, k, h1, h2, h3, h4, h5⟩ := Cond.arrayOver_spec h
  exact ⟨c, fun n z => ⟨fun k h => (by cases h), k, h3, comp, h4⟩, k, comp, h3, h4, h1, h5⟩
theorem sa_r {ty : FieldType} (h : (Cond.arrayOver (.array ty)).before #[Value.ref b] s = true) : ∃ cA : ClassId, ArrOfT s cA (.array ty) ∧ va_RA s cA (.array ty) := by
  simp only [Cond.before, Cond.holds, Cond.value, beq_iff_eq] at h
  cases hc : s.vm.findClass (FieldType.array ty).toString with
  | none => simp [hc] at h
  | some comp =>
    simp only [hc, Option.bind_some, Option.bind_eq_some_iff, Option.map_eq_some_iff] at h
    obtain ⟨c, -, k, hk, hb⟩ := h
    cases hkind : k.kind with
    | array component t2 =>
      rw [hkind] at hb
      simp at hb
      exact ⟨c, fun n z => ⟨fun k h => (by cases h), k, hk, component, by rw [hkind, hb.1]⟩, hb.2⟩
    | _ => rw [hkind] at hb; simp at hb
theorem sa_kk (hw : ∀ w ∈ sw_w, w.before #[Value.ref b] s = true) : ∃ kA : Nat → ClassId, ∀ (k : Nat) (q : ClassId × FieldType), (kk_T kA)[k]? = some q → ArrOfT s q.1 q.2 ∧ va_RA s q.1 q.2 := by
  obtain ⟨c0, h0⟩ := sa_p (ty := .int) (hw _ (List.mem_of_getElem? (i := 24) rfl)) (fun C h => by cases h)
  obtain ⟨c1, h1⟩ := sa_p (ty := .boolean) (hw _ (List.mem_of_getElem? (i := 25) rfl)) (fun C h => by cases h)
  obtain ⟨c2, h2⟩ := sa_p (ty := .byte) (hw _ (List.mem_of_getElem? (i := 26) rfl)) (fun C h => by cases h)
  obtain ⟨c3, h3⟩ := sa_p (ty := .float) (hw _ (List.mem_of_getElem? (i := 27) rfl)) (fun C h => by cases h)
  obtain ⟨c4, h4⟩ := sa_r (ty := .int) (hw _ (List.mem_of_getElem? (i := 18) rfl))
  obtain ⟨c6, h6⟩ := sa_q (C := "ReliefBuilder$Panel") (hw _ (List.mem_of_getElem? (i := 16) rfl))
  obtain ⟨c7, h7⟩ := sa_q (C := "ReliefBuilder$Command") (hw _ (List.mem_of_getElem? (i := 17) rfl))
  refine ⟨fun k => [c0, c1, c2, c3, c4, c0, c6, c7].getD k 0, fun k q hq => ?_⟩
  match k, hq with
  | 0, hq => cases hq; exact h0
  | 1, hq => cases hq; exact h1
  | 2, hq => cases hq; exact h2
  | 3, hq => cases hq; exact h3
  | 4, hq => cases hq; exact h4
  | 5, hq => cases hq; exact h0
  | 6, hq => cases hq; exact h6
  | 7, hq => cases hq; exact h7
  | k + 8, hq => simp at hq
theorem mx_3 : ∀ x : Nat, mx_n x = mx_n 1 ∨ mx_n x = mx_n 2 ∨ mx_n x = mx_n 3 := fun x => match x with
  | 0 => Or.inr (Or.inr rfl)
  | 1 => Or.inl rfl
  | 2 => Or.inr (Or.inl rfl)
  | x + 3 => Or.inr (Or.inr rfl)
theorem sa_T (hw : ∀ w ∈ sw_w, w.before #[Value.ref b] s = true) : st_T s := by
  refine ⟨⟨va_Nw.of rfl (hw _ (List.mem_of_getElem? (i := 7) rfl)), va_Nw.of rfl (hw _ (List.mem_of_getElem? (i := 8) rfl)), va_Nw.of rfl (hw _ (List.mem_of_getElem? (i := 9) rfl))⟩, fun x => ?_, trivial⟩
  rcases mx_3 x with h | h | h <;> rw [h]
  · exact va_Nw.of rfl (hw _ (List.mem_of_getElem? (i := 10) rfl))
  · exact va_Nw.of rfl (hw _ (List.mem_of_getElem? (i := 11) rfl))
  · exact va_Nw.of rfl (hw _ (List.mem_of_getElem? (i := 12) rfl))
theorem sa_V (hw : ∀ w ∈ sw_w, w.before #[Value.ref b] s = true) : st_V s :=
  ⟨va_AO.of (hw _ (List.mem_of_getElem? (i := 16) rfl)), va_AO.of (hw _ (List.mem_of_getElem? (i := 17) rfl)), va_Nw.of rfl (hw _ (List.mem_of_getElem? (i := 19) rfl)), va_Nw.of rfl (hw _ (List.mem_of_getElem? (i := 20) rfl)),
    (show (Cond.arrayOver (.array .int)).before #[Value.ref b] s = true from hw _ (List.mem_of_getElem? (i := 18) rfl)), va_Nw.of rfl (hw _ (List.mem_of_getElem? (i := 22) rfl)), va_Nw.of rfl (hw _ (List.mem_of_getElem? (i := 23) rfl)), va_Nw.of rfl (hw _ (List.mem_of_getElem? (i := 21) rfl))⟩
theorem sw_rg {α : Type} {P : α → Prop} {n : Nat} {f : Nat → α} (h : ∀ w ∈ (List.range n).map f, P w) {i : Nat} (hi : i < n) : P (f i) := h _ (List.mem_map.mpr ⟨i, List.mem_range.mpr hi, rfl⟩)
theorem sa_X {L : Nat} {xs : Nat → Int32} {A : Nat → Prop} {f : Nat → Value} (hX : va_X b L xs s s.heap) (hf : ∀ j, j < L → f j = .int (xs j)) (hA : ¬ A b) : va_T .int b L f A s s.heap := by
  obtain ⟨scr, h1, h2, h3, h4, h5⟩ := hX
  exact ⟨scr, h1, h2, h3, Nat.le_of_eq h4.symm, (by rw [h4]), fun j hj => by rw [h5 j hj, hf j hj], hA⟩
theorem sa_S {L : Nat} {xs : Nat → Int32} (hts : ∀ w ∈ li_tbl, w.before #[Value.ref b] s = true) (hg : (Jvm.Cond.and given_1 narrow_1).before #[Value.ref b] s = true) (hX : va_X b L xs s s.heap) (hbl : b < s.heap.size) : ∃ zz : Nat → Nat → Nat, zz 4 0 = b ∧ zz 4 1 = L ∧ mx_S zz (fun q => s.heap.size ≤ q) s s.heap := by
  have hA : ∀ a : Nat, a < s.heap.size → ¬ (fun q => s.heap.size ≤ q) a := fun a h => Nat.not_le.mpr h
  have hfl : ∀ w ∈ sw_fl, w.before #[Value.ref b] s = true := flat_of_before _ hg
  have hw : ∀ w ∈ sw_w, w.before #[Value.ref b] s = true := fun w h => hts w (sw_w_in w h)
  have hf : ∀ w ∈ sw_f, w.before #[Value.ref b] s = true := fun w h => hfl w (sw_f_in w h)
  have r2 : ∀ i, i < 7 → (Cond.stringRef RX7 (st_ix.getD i 0) (st_tx.getD i "")).before #[Value.ref b] s = true := fun i hi => sw_rg (fun w h => hts w (sw_w2_in w h)) hi
  have r3 : ∀ i, i < 11 → (Cond.stringRef RX13 (st_ix.getD (7 + i) 0) (st_tx.getD (7 + i) "")).before #[Value.ref b] s = true := fun i hi => sw_rg (fun w h => hts w (sw_w3_in w h)) hi
  obtain ⟨adK, adV, hSS, hKe⟩ := vs_Sof (args := #[Value.ref b]) (s := s) (N := 18) (tm := sw_tm) (len := st_len) (byt := st_byt) (A := fun q => s.heap.size ≤ q) sw_len
    (fun i hi => sw_rg (fun w h => hfl w (sw_f1_in w h)) hi) (fun i hi => sw_rg (fun w h => hfl w (sw_f2_in w h)) hi) (fun i hi => sw_rg (fun w h => hfl w (sw_f3_in w h)) hi) (fun i hi => sw_rg (fun w h => hfl w (sw_f4_in w h)) hi)
    (fun i hi j hj => hfl _ (sw_f5_in _ (List.mem_flatMap.mpr ⟨i, List.mem_range.mpr hi, List.mem_map.mpr ⟨j, List.mem_range.mpr hj, rfl⟩⟩))) hA
  obtain ⟨tO, hO1, hO2⟩ := va_Tof (args := #[Value.ref b]) (s := s) (tm := sw_do) (ty := .byte) (N := 100) (f := st_dg 0) (A := fun q => s.heap.size ≤ q) (by decide) (hf _ (List.mem_of_getElem? (i := 4) rfl)) (va_eqt (hf _ (List.mem_of_getElem? (i := 5) rfl)))
    (fun j hj => va_eqt (sw_rg (f := fun i => Cond.eq (.elem sw_do (.int (Int32.ofNat i))) (.int (Int32.ofNat (48 + i % 10)))) (P := fun w => w.before #[Value.ref b] s = true) (fun w h => hfl w (sw_fo_in w h)) hj)) hA
  obtain ⟨tT, hT1, hT2⟩ := va_Tof (args := #[Value.ref b]) (s := s) (tm := sw_dt) (ty := .byte) (N := 100) (f := st_dg 1) (A := fun q => s.heap.size ≤ q) (by decide) (hf _ (List.mem_of_getElem? (i := 6) rfl)) (va_eqt (hf _ (List.mem_of_getElem? (i := 7) rfl)))
    (fun j hj => va_eqt (sw_rg (f := fun i => Cond.eq (.elem sw_dt (.int (Int32.ofNat i))) (.int (Int32.ofNat (48 + i / 10)))) (P := fun w => w.before #[Value.ref b] s = true) (fun w h => hfl w (sw_ft_in w h)) hj)) hA
  refine ⟨fun k i => if k = 0 then adK i else if k = 1 then adV i else if k = 3 then (if i = 0 then tO else tT) else if k = 4 then (if i = 0 then b else L) else (xs i).toUInt32.toNat, rfl, rfl, vx_Zqof (hw _ (List.mem_of_getElem? (i := 0) rfl)) (hw _ (List.mem_of_getElem? (i := 2) rfl)) (hf _ (List.mem_of_getElem? (i := 0) rfl)) hA, vx_Zqof (hw _ (List.mem_of_getElem? (i := 1) rfl)) (hw _ (List.mem_of_getElem? (i := 2) rfl)) (hf _ (List.mem_of_getElem? (i := 1) rfl)) hA,
    ⟨va_Zof (hw _ (List.mem_of_getElem? (i := 3) rfl)) (hw _ (List.mem_of_getElem? (i := 4) rfl)) (va_eqi (hf _ (List.mem_of_getElem? (i := 2) rfl))) hA, va_Zqof (hw _ (List.mem_of_getElem? (i := 5) rfl)) (hw _ (List.mem_of_getElem? (i := 6) rfl)) (hf _ (List.mem_of_getElem? (i := 3) rfl)) hA, sa_T hw, sa_V hw⟩, hSS, ⟨?_, hO2⟩, ⟨?_, hT2⟩, fun i hi => ?_, fun i hi => ?_, sa_X hX (fun j _ => ?_) (hA b hbl)⟩
  · exact va_Zof (hw _ (List.mem_of_getElem? (i := 13) rfl)) (hw _ (List.mem_of_getElem? (i := 15) rfl)) hO1 hA
  · exact va_Zof (hw _ (List.mem_of_getElem? (i := 14) rfl)) (hw _ (List.mem_of_getElem? (i := 15) rfl)) hT1 hA
  · have e : sw_tm i = .string RX7 (st_ix.getD i 0) := by
      unfold sw_tm
      rw [if_pos hi]
    exact vk_R.of (r2 i hi) (by rw [← e]; exact hKe i (by omega))
  · have e : sw_tm (7 + i) = .string RX13 (st_ix.getD (7 + i) 0) := by
      unfold sw_tm
      rw [if_neg (by omega)]
    exact vk_R.of (r3 i hi) (by rw [← e]; exact hKe (7 + i) (by omega))
  · show Value.int (Int32.ofNat ((xs j).toUInt32.toNat)) = .int (xs j)
    refine congrArg Value.int ?_
    show (UInt32.ofNat ((xs j).toUInt32.toNat)).toInt32 = xs j
    rw [UInt32.ofNat_toNat]
    rfl
end Start
