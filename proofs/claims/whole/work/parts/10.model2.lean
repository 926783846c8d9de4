def ff_X13_cellMany (N : Nat) (o_this : os_T) : Option Int32 :=
  (if os_in (0 : Int32) 7 then (if os_in (1 : Int32) 7 then some (((os_A o_this 1) (Int32.toNatClampNeg (0 : Int32))) * ((os_A o_this 1) (Int32.toNatClampNeg (1 : Int32)))) else none) else none)
set_option maxHeartbeats 4000000 in
set_option maxRecDepth 100000 in
theorem mm_X13_cellMany (l : Launch) (D : va_G) (kA : Nat → ClassId) (N : Nat) (q_this : Nat → Nat) (o_this : os_T) (out : Int32) (hf : ff_X13_cellMany N o_this = some out) : mc_C l D kA yX13_cellMany wsX13_cellMany ({ frames := 0, cells := 0, slots := 0, locals := 0 } : Room) [.ref (q_this 0)] (ce_X13 kA q_this o_this) (some (.int out)) (ce_X13 kA q_this o_this) := by
  refine mc_of (cc := cX13_cellMany) (maxL := 1) (ret := (some .int)) (by decide) rfl (Nat.le_of_ble_eq_true rfl) ?_
  intro p e s m below meth c A B hD hP hS ls hl
  obtain ⟨hx, hb, hr, hlk, hml, hown, hts, hK, hA, hnm⟩ := B
  have hown : s.vm.findClass RX13 = some m.cls := hown
  have hl : lv_has ls 1 [(0, .ref (q_this 0))] := hl
  have hUX13 : ∀ w ∈ u_ws RX13 TX13 48, w.before [.ref (q_this 0)].toArray s = true := fun w h => hts w (List.mem_cons_of_mem _ (List.mem_append_right _ h))
  unfold ff_X13_cellMany at hf
  refine lv_aload_n hx hb dX13_cellMany_0 rfl (lv_at hl 0 rfl) ?_
  refine va_get (D := D) (ci := 9) (v := .ref (q_this 2)) (C := RX13) (T := TX13) (N := 48) hx hb hUX13 (fun _ h9 => h9) hown hK hP 0 rfl rfl 13 (by decide) (hts (Cond.fieldLink RX13 20 "ReliefBuilderModel" "now" "[I") (List.mem_of_getElem? (i := 1) rfl)) (fun _ h9 => h9) rfl dX13_cellMany_1 ?_
  refine lv_iconst (v := 0) hx hb dX13_cellMany_4 (by decide) ?_
  obtain ⟨hi_1, hf⟩ := os_if hf
  refine va_iald hx hb hK hP 2 0 rfl rfl hi_1 dX13_cellMany_5 ?_
  refine lv_aload_n hx hb dX13_cellMany_6 rfl (lv_at hl 0 rfl) ?_
  refine va_get (D := D) (ci := 9) (v := .ref (q_this 2)) (C := RX13) (T := TX13) (N := 48) hx hb hUX13 (fun _ h9 => h9) hown hK hP 0 rfl rfl 13 (by decide) (hts (Cond.fieldLink RX13 20 "ReliefBuilderModel" "now" "[I") (List.mem_of_getElem? (i := 1) rfl)) (fun _ h9 => h9) rfl dX13_cellMany_7 ?_
  refine lv_iconst (v := 1) hx hb dX13_cellMany_10 (by decide) ?_
  obtain ⟨hi_2, hf⟩ := os_if hf
  refine va_iald hx hb hK hP 2 0 rfl rfl hi_2 dX13_cellMany_11 ?_
  refine lv_imul hx hb dX13_cellMany_12 ?_
  rw [← Option.some.inj hf]
  exact mc_reti hx hb hr hlk hP hK hD hS dX13_cellMany_13
def ff_X13_cellAt (N : Nat) (o_this : os_T) (a1 : Int32) : Option Int32 :=
  (if os_in (0 : Int32) 7 then (if ¬ ((os_A o_this 1) (Int32.toNatClampNeg (0 : Int32))) = 0 then (if os_in (0 : Int32) 7 then (if ¬ ((os_A o_this 1) (Int32.toNatClampNeg (0 : Int32))) = 0 then some (((16 : Int32) * (a1 / ((os_A o_this 1) (Int32.toNatClampNeg (0 : Int32))))) + (a1 - a1 / ((os_A o_this 1) (Int32.toNatClampNeg (0 : Int32))) * ((os_A o_this 1) (Int32.toNatClampNeg (0 : Int32))))) else none) else none) else none) else none)
set_option maxHeartbeats 4000000 in
set_option maxRecDepth 100000 in
theorem mm_X13_cellAt (l : Launch) (D : va_G) (kA : Nat → ClassId) (N : Nat) (q_this : Nat → Nat) (o_this : os_T) (a1 : Int32) (out : Int32) (hf : ff_X13_cellAt N o_this a1 = some out) : mc_C l D kA yX13_cellAt wsX13_cellAt ({ frames := 0, cells := 0, slots := 0, locals := 0 } : Room) [.ref (q_this 0), .int a1] (ce_X13 kA q_this o_this) (some (.int out)) (ce_X13 kA q_this o_this) := by
  refine mc_of (cc := cX13_cellAt) (maxL := 2) (ret := (some .int)) (by decide) rfl (Nat.le_of_ble_eq_true rfl) ?_
  intro p e s m below meth c A B hD hP hS ls hl
  obtain ⟨hx, hb, hr, hlk, hml, hown, hts, hK, hA, hnm⟩ := B
  have hown : s.vm.findClass RX13 = some m.cls := hown
  have hl : lv_has ls 2 [(0, .ref (q_this 0)), (1, .int a1)] := hl
  have hUX13 : ∀ w ∈ u_ws RX13 TX13 48, w.before [.ref (q_this 0), .int a1].toArray s = true := fun w h => hts w (List.mem_cons_of_mem _ (List.mem_append_right _ h))
  unfold ff_X13_cellAt at hf
  refine lv_bipush (v := 16) hx hb dX13_cellAt_0 (by decide) ?_
  refine lv_iload_n hx hb dX13_cellAt_2 rfl (lv_at hl 1 rfl) ?_
  refine lv_aload_n hx hb dX13_cellAt_3 rfl (lv_at hl 0 rfl) ?_
  refine va_get (D := D) (ci := 9) (v := .ref (q_this 2)) (C := RX13) (T := TX13) (N := 48) hx hb hUX13 (fun _ h9 => h9) hown hK hP 0 rfl rfl 13 (by decide) (hts (Cond.fieldLink RX13 20 "ReliefBuilderModel" "now" "[I") (List.mem_of_getElem? (i := 1) rfl)) (fun _ h9 => h9) rfl dX13_cellAt_4 ?_
  refine lv_iconst (v := 0) hx hb dX13_cellAt_7 (by decide) ?_
  obtain ⟨hi_1, hf⟩ := os_if hf
  refine va_iald hx hb hK hP 2 0 rfl rfl hi_1 dX13_cellAt_8 ?_
  obtain ⟨hz_2, hf⟩ := os_if hf
  refine lv_idiv hx hb dX13_cellAt_9 hz_2 ?_
  refine lv_imul hx hb dX13_cellAt_10 ?_
  refine lv_iload_n hx hb dX13_cellAt_11 rfl (lv_at hl 1 rfl) ?_
  refine lv_aload_n hx hb dX13_cellAt_12 rfl (lv_at hl 0 rfl) ?_
  refine va_get (D := D) (ci := 9) (v := .ref (q_this 2)) (C := RX13) (T := TX13) (N := 48) hx hb hUX13 (fun _ h9 => h9) hown hK hP 0 rfl rfl 13 (by decide) (hts (Cond.fieldLink RX13 20 "ReliefBuilderModel" "now" "[I") (List.mem_of_getElem? (i := 1) rfl)) (fun _ h9 => h9) rfl dX13_cellAt_13 ?_
  refine lv_iconst (v := 0) hx hb dX13_cellAt_16 (by decide) ?_
  obtain ⟨hi_3, hf⟩ := os_if hf
  refine va_iald hx hb hK hP 2 0 rfl rfl hi_3 dX13_cellAt_17 ?_
  obtain ⟨hz_4, hf⟩ := os_if hf
  refine lv_irem hx hb dX13_cellAt_18 hz_4 ?_
  refine lv_iadd hx hb dX13_cellAt_19 ?_
  rw [← Option.some.inj hf]
  exact mc_reti hx hb hr hlk hP hK hD hS dX13_cellAt_20
def ff_X13_setting (N : Nat) (o_this : os_T) (a1 : Int32) : Option (Int32 × os_T) :=
  ((ff_X13_isIn N (Int32.toInt64 a1) (0 : Int64) (6 : Int64)).bind fun u_1 => ((ff_X13_goes N o_this u_1).bind fun u_3 => (if u_3.1 = 0 then some ((0 : Int32), u_3.2) else (if os_in a1 7 then some ((os_A u_3.2 1) (Int32.toNatClampNeg a1), u_3.2) else none))))
set_option maxHeartbeats 4000000 in
set_option maxRecDepth 100000 in
theorem mm_X13_setting (l : Launch) (D : va_G) (kA : Nat → ClassId) (N : Nat) (q_this : Nat → Nat) (o_this : os_T) (a1 : Int32) (out : (Int32 × os_T)) (hf : ff_X13_setting N o_this a1 = some out) : mc_C l D kA yX13_setting wsX13_setting ({ frames := 2, cells := 0, slots := 0, locals := 41 } : Room) [.ref (q_this 0), .int a1] (ce_X13 kA q_this o_this) (some (.int out.1)) (ce_X13 kA q_this out.2) := by
  refine mc_of (cc := cX13_setting) (maxL := 2) (ret := (some .int)) (by decide) rfl (Nat.le_of_ble_eq_true rfl) ?_
  intro p e s m below meth c A B hD hP hS ls hl
  obtain ⟨hx, hb, hr, hlk, hml, hown, hts, hK, hA, hnm⟩ := B
  have hown : s.vm.findClass RX13 = some m.cls := hown
  have hl : lv_has ls 2 [(0, .ref (q_this 0)), (1, .int a1)] := hl
  have hUX13 : ∀ w ∈ u_ws RX13 TX13 48, w.before [.ref (q_this 0), .int a1].toArray s = true := fun w h => hts w (List.mem_cons_of_mem _ (List.mem_append_right _ h))
  unfold ff_X13_setting at hf
  refine lv_aload_n hx hb dX13_setting_0 rfl (lv_at hl 0 rfl) ?_
  refine lv_iload_n hx hb dX13_setting_1 rfl (lv_at hl 1 rfl) ?_
  refine lv_i2l hx hb dX13_setting_2 rfl ?_
  refine lv_lconst (v := 0) hx hb dX13_setting_3 (by decide) ?_
  refine lv_ldc2 hx hb hown (hts (Cond.constantLong RX13 249 (6)) (List.mem_of_getElem? (i := 1) rfl)) dX13_setting_4 ?_
  obtain ⟨u_1, he_2, hf⟩ := os_bd hf
  refine mc_callS ⟨hx, hb, hml, hown, hts⟩ (mm_X13_isIn l D kA N (Int32.toInt64 a1) (0 : Int64) (6 : Int64) u_1 he_2) (va_cwS 3 hts gX13_setting_X13_isIn rfl rfl rfl (by decide +kernel) ⟨Nat.le_of_ble_eq_true rfl, Nat.le_of_ble_eq_true rfl⟩) (wc := []) rfl hl.1 (As := [.long (Int32.toInt64 a1), .long (0 : Int64), .long (6 : Int64)]) (rest := [.ref (q_this 0)]) rfl (Nat.le_of_ble_eq_true rfl) dX13_setting_7 ⟨Nat.le_of_ble_eq_true rfl, Nat.le_of_ble_eq_true rfl⟩ hK hP hD hS hA [] [0, 1, 2, 3, 4, 5, 6, 7, 8, 9, 10, 11, 12, 13, 14, 15, 16, 17, 18, 19, 20, 21, 22, 23] [0, 1, 2, 3, 4, 5, 6, 7, 8, 9, 10, 11, 12, 13, 14, 15, 16, 17, 18, 19, 20, 21, 22, 23] rfl (by decide) rfl (by decide) (by decide) rfl (by decide) (wr := (ce_X13 kA q_this o_this)) (w2 := (ce_X13 kA q_this o_this)) (fun H locs hP hD hS => ?_)
  have hP : va_P D vwCl (ce_X13 kA q_this o_this) H := hP
  obtain ⟨u_3, he_4, hf⟩ := os_bd hf
  refine mc_callV ⟨hx, hb, hml, hown, hts⟩ (mm_X13_goes l D kA N q_this o_this u_1 u_3 he_4) (cwV 1 hts gX13_setting_X13_goes rfl rfl rfl (by decide +kernel) ⟨Nat.le_of_ble_eq_true rfl, Nat.le_of_ble_eq_true rfl⟩) (wc := (ce_X13 kA q_this o_this)) (ci := 9) (q0 := 0) rfl rfl rfl hl.1 (As := [.int u_1]) (rest := []) rfl (Nat.le_of_ble_eq_true rfl) dX13_setting_10 ⟨Nat.le_of_ble_eq_true rfl, Nat.le_of_ble_eq_true rfl⟩ hK hP hD hS hA [0, 1, 2, 3, 4, 5, 6, 7, 8, 9, 10, 11, 12, 13, 14, 15, 16, 17, 18, 19, 20, 21, 22, 23] [] [0, 1, 2, 3, 4, 5, 6, 7, 8, 9, 10, 11, 12, 13, 14, 15, 16, 17, 18, 19, 20, 21, 22, 23] rfl (by decide) rfl (by decide) (by decide) rfl (by decide) (wr := []) (w2 := (ce_X13 kA q_this u_3.2)) (fun H locs hP hD hS => ?_)
  have hP : va_P D vwCl (ce_X13 kA q_this u_3.2) H := hP
  refine lv_if_eq (tgt := 25) hx hb dX13_setting_13 (by decide) (fun hc_5 => ?_) (fun hc_5 => ?_)
  · rw [if_pos hc_5] at hf
    refine lv_iconst (v := 0) hx hb dX13_setting_25 (by decide) ?_
    rw [← Option.some.inj hf]
    exact mc_reti hx hb hr hlk hP hK hD hS dX13_setting_26
  · rw [if_neg hc_5] at hf
    refine lv_aload_n hx hb dX13_setting_16 rfl (lv_at hl 0 rfl) ?_
    refine va_get (D := D) (ci := 9) (v := .ref (q_this 2)) (C := RX13) (T := TX13) (N := 48) hx hb hUX13 (fun _ h9 => h9) hown hK hP 0 rfl rfl 13 (by decide) (hts (Cond.fieldLink RX13 20 "ReliefBuilderModel" "now" "[I") (List.mem_of_getElem? (i := 2) rfl)) (fun _ h9 => h9) rfl dX13_setting_17 ?_
    refine lv_iload_n hx hb dX13_setting_20 rfl (lv_at hl 1 rfl) ?_
    obtain ⟨hi_6, hf⟩ := os_if hf
    refine va_iald hx hb hK hP 2 0 rfl rfl hi_6 dX13_setting_21 ?_
    refine lv_goto (tgt := 26) hx hb dX13_setting_22 (by decide) ?_
    rw [← Option.some.inj hf]
    exact mc_reti hx hb hr hlk hP hK hD hS dX13_setting_26
def ff_X13_tone (N : Nat) (o_this : os_T) (a1 : Int32) (a2 : Int32) : Option (Int32 × os_T) :=
  ((ff_X13_isCell N o_this a1 a2).bind fun u_1 => ((ff_X13_goes N o_this u_1).bind fun u_3 => (if u_3.1 = 0 then some ((0 : Int32), u_3.2) else (if os_in (((16 : Int32) * a2) + a1) 192 then some ((os_A u_3.2 3) (Int32.toNatClampNeg (((16 : Int32) * a2) + a1)), u_3.2) else none))))
set_option maxHeartbeats 4000000 in
set_option maxRecDepth 100000 in
theorem mm_X13_tone (l : Launch) (D : va_G) (kA : Nat → ClassId) (N : Nat) (q_this : Nat → Nat) (o_this : os_T) (a1 : Int32) (a2 : Int32) (out : (Int32 × os_T)) (hf : ff_X13_tone N o_this a1 a2 = some out) : mc_C l D kA yX13_tone wsX13_tone ({ frames := 2, cells := 0, slots := 0, locals := 47 } : Room) [.ref (q_this 0), .int a1, .int a2] (ce_X13 kA q_this o_this) (some (.int out.1)) (ce_X13 kA q_this out.2) := by
  refine mc_of (cc := cX13_tone) (maxL := 3) (ret := (some .int)) (by decide) rfl (Nat.le_of_ble_eq_true rfl) ?_
  intro p e s m below meth c A B hD hP hS ls hl
  obtain ⟨hx, hb, hr, hlk, hml, hown, hts, hK, hA, hnm⟩ := B
  have hown : s.vm.findClass RX13 = some m.cls := hown
  have hl : lv_has ls 3 [(0, .ref (q_this 0)), (1, .int a1), (2, .int a2)] := hl
  have hUX13 : ∀ w ∈ u_ws RX13 TX13 48, w.before [.ref (q_this 0), .int a1, .int a2].toArray s = true := fun w h => hts w (List.mem_cons_of_mem _ (List.mem_append_right _ h))
  unfold ff_X13_tone at hf
  refine lv_aload_n hx hb dX13_tone_0 rfl (lv_at hl 0 rfl) ?_
  refine lv_aload_n hx hb dX13_tone_1 rfl (lv_at hl 0 rfl) ?_
  refine lv_iload_n hx hb dX13_tone_2 rfl (lv_at hl 1 rfl) ?_
  refine lv_iload_n hx hb dX13_tone_3 rfl (lv_at hl 2 rfl) ?_
  obtain ⟨u_1, he_2, hf⟩ := os_bd hf
  refine mc_callV ⟨hx, hb, hml, hown, hts⟩ (mm_X13_isCell l D kA N q_this o_this a1 a2 u_1 he_2) (cwV 2 hts gX13_tone_X13_isCell rfl rfl rfl (by decide +kernel) ⟨Nat.le_of_ble_eq_true rfl, Nat.le_of_ble_eq_true rfl⟩) (wc := (ce_X13 kA q_this o_this)) (ci := 9) (q0 := 0) rfl rfl rfl hl.1 (As := [.int a1, .int a2]) (rest := [.ref (q_this 0)]) rfl (Nat.le_of_ble_eq_true rfl) dX13_tone_4 ⟨Nat.le_of_ble_eq_true rfl, Nat.le_of_ble_eq_true rfl⟩ hK hP hD hS hA [0, 1, 2, 3, 4, 5, 6, 7, 8, 9, 10, 11, 12, 13, 14, 15, 16, 17, 18, 19, 20, 21, 22, 23] [] [0, 1, 2, 3, 4, 5, 6, 7, 8, 9, 10, 11, 12, 13, 14, 15, 16, 17, 18, 19, 20, 21, 22, 23] rfl (by decide) rfl (by decide) (by decide) rfl (by decide) (wr := []) (w2 := (ce_X13 kA q_this o_this)) (fun H locs hP hD hS => ?_)
  have hP : va_P D vwCl (ce_X13 kA q_this o_this) H := hP
  obtain ⟨u_3, he_4, hf⟩ := os_bd hf
  refine mc_callV ⟨hx, hb, hml, hown, hts⟩ (mm_X13_goes l D kA N q_this o_this u_1 u_3 he_4) (cwV 1 hts gX13_tone_X13_goes rfl rfl rfl (by decide +kernel) ⟨Nat.le_of_ble_eq_true rfl, Nat.le_of_ble_eq_true rfl⟩) (wc := (ce_X13 kA q_this o_this)) (ci := 9) (q0 := 0) rfl rfl rfl hl.1 (As := [.int u_1]) (rest := []) rfl (Nat.le_of_ble_eq_true rfl) dX13_tone_7 ⟨Nat.le_of_ble_eq_true rfl, Nat.le_of_ble_eq_true rfl⟩ hK hP hD hS hA [0, 1, 2, 3, 4, 5, 6, 7, 8, 9, 10, 11, 12, 13, 14, 15, 16, 17, 18, 19, 20, 21, 22, 23] [] [0, 1, 2, 3, 4, 5, 6, 7, 8, 9, 10, 11, 12, 13, 14, 15, 16, 17, 18, 19, 20, 21, 22, 23] rfl (by decide) rfl (by decide) (by decide) rfl (by decide) (wr := []) (w2 := (ce_X13 kA q_this u_3.2)) (fun H locs hP hD hS => ?_)
  have hP : va_P D vwCl (ce_X13 kA q_this u_3.2) H := hP
  refine lv_if_eq (tgt := 27) hx hb dX13_tone_10 (by decide) (fun hc_5 => ?_) (fun hc_5 => ?_)
  · rw [if_pos hc_5] at hf
    refine lv_iconst (v := 0) hx hb dX13_tone_27 (by decide) ?_
    rw [← Option.some.inj hf]
    exact mc_reti hx hb hr hlk hP hK hD hS dX13_tone_28
  · rw [if_neg hc_5] at hf
    refine lv_aload_n hx hb dX13_tone_13 rfl (lv_at hl 0 rfl) ?_
    refine va_get (D := D) (ci := 9) (v := .ref (q_this 4)) (C := RX13) (T := TX13) (N := 48) hx hb hUX13 (fun _ h9 => h9) hown hK hP 0 rfl rfl 15 (by decide) (hts (Cond.fieldLink RX13 26 "ReliefBuilderModel" "tones" "[I") (List.mem_of_getElem? (i := 1) rfl)) (fun _ h9 => h9) rfl dX13_tone_14 ?_
    refine lv_bipush (v := 16) hx hb dX13_tone_17 (by decide) ?_
    refine lv_iload_n hx hb dX13_tone_19 rfl (lv_at hl 2 rfl) ?_
    refine lv_imul hx hb dX13_tone_20 ?_
    refine lv_iload_n hx hb dX13_tone_21 rfl (lv_at hl 1 rfl) ?_
    refine lv_iadd hx hb dX13_tone_22 ?_
    obtain ⟨hi_6, hf⟩ := os_if hf
    refine va_iald hx hb hK hP 4 0 rfl rfl hi_6 dX13_tone_23 ?_
    refine lv_goto (tgt := 28) hx hb dX13_tone_24 (by decide) ?_
    rw [← Option.some.inj hf]
    exact mc_reti hx hb hr hlk hP hK hD hS dX13_tone_28
def ff_X13_height (N : Nat) (o_this : os_T) (a1 : Int32) (a2 : Int32) : Option (Int32 × os_T) :=
  ((ff_X13_isCell N o_this a1 a2).bind fun u_1 => ((ff_X13_goes N o_this u_1).bind fun u_3 => (if u_3.1 = 0 then some ((0 : Int32), u_3.2) else (if os_in (((16 : Int32) * a2) + a1) 192 then some ((os_A u_3.2 4) (Int32.toNatClampNeg (((16 : Int32) * a2) + a1)), u_3.2) else none))))
set_option maxHeartbeats 4000000 in
set_option maxRecDepth 100000 in
theorem mm_X13_height (l : Launch) (D : va_G) (kA : Nat → ClassId) (N : Nat) (q_this : Nat → Nat) (o_this : os_T) (a1 : Int32) (a2 : Int32) (out : (Int32 × os_T)) (hf : ff_X13_height N o_this a1 a2 = some out) : mc_C l D kA yX13_height wsX13_height ({ frames := 2, cells := 0, slots := 0, locals := 47 } : Room) [.ref (q_this 0), .int a1, .int a2] (ce_X13 kA q_this o_this) (some (.int out.1)) (ce_X13 kA q_this out.2) := by
  refine mc_of (cc := cX13_height) (maxL := 3) (ret := (some .int)) (by decide) rfl (Nat.le_of_ble_eq_true rfl) ?_
  intro p e s m below meth c A B hD hP hS ls hl
  obtain ⟨hx, hb, hr, hlk, hml, hown, hts, hK, hA, hnm⟩ := B
  have hown : s.vm.findClass RX13 = some m.cls := hown
  have hl : lv_has ls 3 [(0, .ref (q_this 0)), (1, .int a1), (2, .int a2)] := hl
  have hUX13 : ∀ w ∈ u_ws RX13 TX13 48, w.before [.ref (q_this 0), .int a1, .int a2].toArray s = true := fun w h => hts w (List.mem_cons_of_mem _ (List.mem_append_right _ h))
  unfold ff_X13_height at hf
  refine lv_aload_n hx hb dX13_height_0 rfl (lv_at hl 0 rfl) ?_
  refine lv_aload_n hx hb dX13_height_1 rfl (lv_at hl 0 rfl) ?_
  refine lv_iload_n hx hb dX13_height_2 rfl (lv_at hl 1 rfl) ?_
  refine lv_iload_n hx hb dX13_height_3 rfl (lv_at hl 2 rfl) ?_
  obtain ⟨u_1, he_2, hf⟩ := os_bd hf
  refine mc_callV ⟨hx, hb, hml, hown, hts⟩ (mm_X13_isCell l D kA N q_this o_this a1 a2 u_1 he_2) (cwV 2 hts gX13_height_X13_isCell rfl rfl rfl (by decide +kernel) ⟨Nat.le_of_ble_eq_true rfl, Nat.le_of_ble_eq_true rfl⟩) (wc := (ce_X13 kA q_this o_this)) (ci := 9) (q0 := 0) rfl rfl rfl hl.1 (As := [.int a1, .int a2]) (rest := [.ref (q_this 0)]) rfl (Nat.le_of_ble_eq_true rfl) dX13_height_4 ⟨Nat.le_of_ble_eq_true rfl, Nat.le_of_ble_eq_true rfl⟩ hK hP hD hS hA [0, 1, 2, 3, 4, 5, 6, 7, 8, 9, 10, 11, 12, 13, 14, 15, 16, 17, 18, 19, 20, 21, 22, 23] [] [0, 1, 2, 3, 4, 5, 6, 7, 8, 9, 10, 11, 12, 13, 14, 15, 16, 17, 18, 19, 20, 21, 22, 23] rfl (by decide) rfl (by decide) (by decide) rfl (by decide) (wr := []) (w2 := (ce_X13 kA q_this o_this)) (fun H locs hP hD hS => ?_)
  have hP : va_P D vwCl (ce_X13 kA q_this o_this) H := hP
  obtain ⟨u_3, he_4, hf⟩ := os_bd hf
  refine mc_callV ⟨hx, hb, hml, hown, hts⟩ (mm_X13_goes l D kA N q_this o_this u_1 u_3 he_4) (cwV 1 hts gX13_height_X13_goes rfl rfl rfl (by decide +kernel) ⟨Nat.le_of_ble_eq_true rfl, Nat.le_of_ble_eq_true rfl⟩) (wc := (ce_X13 kA q_this o_this)) (ci := 9) (q0 := 0) rfl rfl rfl hl.1 (As := [.int u_1]) (rest := []) rfl (Nat.le_of_ble_eq_true rfl) dX13_height_7 ⟨Nat.le_of_ble_eq_true rfl, Nat.le_of_ble_eq_true rfl⟩ hK hP hD hS hA [0, 1, 2, 3, 4, 5, 6, 7, 8, 9, 10, 11, 12, 13, 14, 15, 16, 17, 18, 19, 20, 21, 22, 23] [] [0, 1, 2, 3, 4, 5, 6, 7, 8, 9, 10, 11, 12, 13, 14, 15, 16, 17, 18, 19, 20, 21, 22, 23] rfl (by decide) rfl (by decide) (by decide) rfl (by decide) (wr := []) (w2 := (ce_X13 kA q_this u_3.2)) (fun H locs hP hD hS => ?_)
  have hP : va_P D vwCl (ce_X13 kA q_this u_3.2) H := hP
  refine lv_if_eq (tgt := 27) hx hb dX13_height_10 (by decide) (fun hc_5 => ?_) (fun hc_5 => ?_)
  · rw [if_pos hc_5] at hf
    refine lv_iconst (v := 0) hx hb dX13_height_27 (by decide) ?_
    rw [← Option.some.inj hf]
    exact mc_reti hx hb hr hlk hP hK hD hS dX13_height_28
  · rw [if_neg hc_5] at hf
    refine lv_aload_n hx hb dX13_height_13 rfl (lv_at hl 0 rfl) ?_
    refine va_get (D := D) (ci := 9) (v := .ref (q_this 5)) (C := RX13) (T := TX13) (N := 48) hx hb hUX13 (fun _ h9 => h9) hown hK hP 0 rfl rfl 16 (by decide) (hts (Cond.fieldLink RX13 29 "ReliefBuilderModel" "heights" "[I") (List.mem_of_getElem? (i := 1) rfl)) (fun _ h9 => h9) rfl dX13_height_14 ?_
    refine lv_bipush (v := 16) hx hb dX13_height_17 (by decide) ?_
    refine lv_iload_n hx hb dX13_height_19 rfl (lv_at hl 2 rfl) ?_
    refine lv_imul hx hb dX13_height_20 ?_
    refine lv_iload_n hx hb dX13_height_21 rfl (lv_at hl 1 rfl) ?_
    refine lv_iadd hx hb dX13_height_22 ?_
    obtain ⟨hi_6, hf⟩ := os_if hf
    refine va_iald hx hb hK hP 5 0 rfl rfl hi_6 dX13_height_23 ?_
    refine lv_goto (tgt := 28) hx hb dX13_height_24 (by decide) ?_
    rw [← Option.some.inj hf]
    exact mc_reti hx hb hr hlk hP hK hD hS dX13_height_28
def ff_X13_volumeNow_c4 (N : Nat) (o_this : os_T) (k4 : (Int32 × Int32) → Option Int32) (x1 : Int32) (x2 : Int32) : Option Int32 :=
  ((ff_X13_cellMany N o_this).bind fun u_1 => (if u_1 ≤ x2 then some x1 else ((ff_X13_cellAt N o_this x2).bind fun u_4 => (if os_in u_4 192 then k4 (x1 + ((os_A o_this 4) (Int32.toNatClampNeg u_4)), x2 + 1) else none))))
def ff_X13_volumeNow_l4 (N : Nat) (o_this : os_T) : Nat → (Int32 × Int32) → Option Int32 := os_loop (fun k4 s1 => ff_X13_volumeNow_c4 N o_this k4 s1.1 s1.2)
def ff_X13_volumeNow (N : Nat) (o_this : os_T) : Option Int32 :=
  ff_X13_volumeNow_l4 N o_this N ((0 : Int32), (0 : Int32))
set_option maxHeartbeats 4000000 in
set_option maxRecDepth 100000 in
theorem mm_X13_volumeNow (l : Launch) (D : va_G) (kA : Nat → ClassId) (N : Nat) (q_this : Nat → Nat) (o_this : os_T) (out : Int32) (hf : ff_X13_volumeNow N o_this = some out) : mc_C l D kA yX13_volumeNow wsX13_volumeNow ({ frames := 1, cells := 0, slots := 0, locals := 21 } : Room) [.ref (q_this 0)] (ce_X13 kA q_this o_this) (some (.int out)) (ce_X13 kA q_this o_this) := by
  refine mc_of (cc := cX13_volumeNow) (maxL := 3) (ret := (some .int)) (by decide) rfl (Nat.le_of_ble_eq_true rfl) ?_
  intro p e s m below meth c A B hD hP hS ls hl
  obtain ⟨hx, hb, hr, hlk, hml, hown, hts, hK, hA, hnm⟩ := B
  have hown : s.vm.findClass RX13 = some m.cls := hown
  have hl : lv_has ls 3 [(0, .ref (q_this 0))] := hl
  have hUX13 : ∀ w ∈ u_ws RX13 TX13 48, w.before [.ref (q_this 0)].toArray s = true := fun w h => hts w (List.mem_cons_of_mem _ (List.mem_append_right _ h))
  have hL4 : ∀ (n : Nat) (x1 : Int32) (x2 : Int32) (H : Heap) (locs : List Loc) (ls : Array Slot), va_P D vwCl (ce_X13 kA q_this o_this) H → va_D A (ce_X13 kA q_this o_this) → va_S A s.heap H locs → lv_has ls 3 [(0, .ref (q_this 0)), (1, .int x1), (2, .int x2)] → ff_X13_volumeNow_l4 N o_this n (x1, x2) = some out → W p l e ({ frames := 1, cells := 0, slots := 0, locals := 21 } : Room) s m [.ref (q_this 0)].toArray below meth c H locs 0 0 (MQ below (mc_Q D kA A (some (.int out)) (ce_X13 kA q_this o_this)) [.ref (q_this 0)].toArray s 0 0 A) (F0 m 4 ls []) := by
    intro n
    induction n with
    | zero => intro x1 x2 H locs ls _ _ _ _ hf; cases hf
    | succ n hk4 =>
      intro x1 x2 H locs ls hP hD hS hl hf
      have hf : ff_X13_volumeNow_c4 N o_this (ff_X13_volumeNow_l4 N o_this n) x1 x2 = some out := hf
      generalize hke : ff_X13_volumeNow_l4 N o_this n = k4 at hk4 hf
      unfold ff_X13_volumeNow_c4 at hf
      refine lv_iload_n hx hb dX13_volumeNow_4 rfl (lv_at hl 2 rfl) ?_
      refine lv_aload_n hx hb dX13_volumeNow_5 rfl (lv_at hl 0 rfl) ?_
      obtain ⟨u_1, he_2, hf⟩ := os_bd hf
      refine mc_callV ⟨hx, hb, hml, hown, hts⟩ (mm_X13_cellMany l D kA N q_this o_this u_1 he_2) (cwV 0 hts gX13_volumeNow_X13_cellMany rfl rfl rfl (by decide +kernel) ⟨Nat.le_of_ble_eq_true rfl, Nat.le_of_ble_eq_true rfl⟩) (wc := (ce_X13 kA q_this o_this)) (ci := 9) (q0 := 0) rfl rfl rfl hl.1 (As := []) (rest := [.int x2]) rfl (Nat.le_of_ble_eq_true rfl) dX13_volumeNow_6 ⟨Nat.le_of_ble_eq_true rfl, Nat.le_of_ble_eq_true rfl⟩ hK hP hD hS hA [0, 1, 2, 3, 4, 5, 6, 7, 8, 9, 10, 11, 12, 13, 14, 15, 16, 17, 18, 19, 20, 21, 22, 23] [] [0, 1, 2, 3, 4, 5, 6, 7, 8, 9, 10, 11, 12, 13, 14, 15, 16, 17, 18, 19, 20, 21, 22, 23] rfl (by decide) rfl (by decide) (by decide) rfl (by decide) (wr := []) (w2 := (ce_X13 kA q_this o_this)) (fun H locs hP hD hS => ?_)
      have hP : va_P D vwCl (ce_X13 kA q_this o_this) H := hP
      refine lv_icmp_ge (tgt := 31) hx hb dX13_volumeNow_9 (by decide) (fun hc_3 => ?_) (fun hc_3 => ?_)
      · rw [if_pos hc_3] at hf
        refine lv_iload_n hx hb dX13_volumeNow_31 rfl (lv_at hl 1 rfl) ?_
        rw [← Option.some.inj hf]
        exact mc_reti hx hb hr hlk hP hK hD hS dX13_volumeNow_32
      · rw [if_neg hc_3] at hf
        refine lv_iload_n hx hb dX13_volumeNow_12 rfl (lv_at hl 1 rfl) ?_
        refine lv_aload_n hx hb dX13_volumeNow_13 rfl (lv_at hl 0 rfl) ?_
        refine va_get (D := D) (ci := 9) (v := .ref (q_this 5)) (C := RX13) (T := TX13) (N := 48) hx hb hUX13 (fun _ h9 => h9) hown hK hP 0 rfl rfl 16 (by decide) (hts (Cond.fieldLink RX13 29 "ReliefBuilderModel" "heights" "[I") (List.mem_of_getElem? (i := 1) rfl)) (fun _ h9 => h9) rfl dX13_volumeNow_14 ?_
        refine lv_aload_n hx hb dX13_volumeNow_17 rfl (lv_at hl 0 rfl) ?_
        refine lv_iload_n hx hb dX13_volumeNow_18 rfl (lv_at hl 2 rfl) ?_
        obtain ⟨u_4, he_5, hf⟩ := os_bd hf
        refine mc_callV ⟨hx, hb, hml, hown, hts⟩ (mm_X13_cellAt l D kA N q_this o_this x2 u_4 he_5) (cwV 1 hts gX13_volumeNow_X13_cellAt rfl rfl rfl (by decide +kernel) ⟨Nat.le_of_ble_eq_true rfl, Nat.le_of_ble_eq_true rfl⟩) (wc := (ce_X13 kA q_this o_this)) (ci := 9) (q0 := 0) rfl rfl rfl hl.1 (As := [.int x2]) (rest := [.ref (q_this 5), .int x1]) rfl (Nat.le_of_ble_eq_true rfl) dX13_volumeNow_19 ⟨Nat.le_of_ble_eq_true rfl, Nat.le_of_ble_eq_true rfl⟩ hK hP hD hS hA [0, 1, 2, 3, 4, 5, 6, 7, 8, 9, 10, 11, 12, 13, 14, 15, 16, 17, 18, 19, 20, 21, 22, 23] [] [0, 1, 2, 3, 4, 5, 6, 7, 8, 9, 10, 11, 12, 13, 14, 15, 16, 17, 18, 19, 20, 21, 22, 23] rfl (by decide) rfl (by decide) (by decide) rfl (by decide) (wr := []) (w2 := (ce_X13 kA q_this o_this)) (fun H locs hP hD hS => ?_)
        have hP : va_P D vwCl (ce_X13 kA q_this o_this) H := hP
        obtain ⟨hi_6, hf⟩ := os_if hf
        refine va_iald hx hb hK hP 5 0 rfl rfl hi_6 dX13_volumeNow_22 ?_
        refine lv_iadd hx hb dX13_volumeNow_23 ?_
        refine lv_istore_n (lv' := [(1, .int (x1 + ((os_A o_this 4) (Int32.toNatClampNeg u_4)))), (0, .ref (q_this 0)), (2, .int x2)]) hx hb dX13_volumeNow_24 rfl hl (by decide) rfl (fun ls hl => ?_)
        refine lv_iinc (v := x2 + 1) (lv' := [(2, .int (x2 + 1)), (1, .int (x1 + ((os_A o_this 4) (Int32.toNatClampNeg u_4)))), (0, .ref (q_this 0))]) hx hb dX13_volumeNow_25 hl (k := 2) rfl rfl (by decide) rfl (fun ls hl => ?_)
        refine lv_goto (tgt := 4) hx hb dX13_volumeNow_28 (by decide) ?_
        exact hk4 (x1 + ((os_A o_this 4) (Int32.toNatClampNeg u_4))) (x2 + 1) _ _ _ hP hD hS (lv_sub hl [2, 1, 0] rfl) hf
  unfold ff_X13_volumeNow at hf
  refine lv_iconst (v := 0) hx hb dX13_volumeNow_0 (by decide) ?_
  refine lv_istore_n (lv' := [(1, .int (0 : Int32)), (0, .ref (q_this 0))]) hx hb dX13_volumeNow_1 rfl hl (by decide) rfl (fun ls hl => ?_)
  refine lv_iconst (v := 0) hx hb dX13_volumeNow_2 (by decide) ?_
  refine lv_istore_n (lv' := [(2, .int (0 : Int32)), (1, .int (0 : Int32)), (0, .ref (q_this 0))]) hx hb dX13_volumeNow_3 rfl hl (by decide) rfl (fun ls hl => ?_)
  exact hL4 N (0 : Int32) (0 : Int32) _ _ _ hP hD hS (lv_sub hl [2, 1, 0] rfl) hf
def ff_X13_volume (N : Nat) (o_this : os_T) : Option (Int32 × os_T) :=
  ((ff_X13_volumeNow N (ss_I o_this 0 (0 : Int32))).bind fun u_1 => some (u_1, ss_I o_this 0 (0 : Int32)))
set_option maxHeartbeats 4000000 in
set_option maxRecDepth 100000 in
theorem mm_X13_volume (l : Launch) (D : va_G) (kA : Nat → ClassId) (N : Nat) (q_this : Nat → Nat) (o_this : os_T) (out : (Int32 × os_T)) (hf : ff_X13_volume N o_this = some out) : mc_C l D kA yX13_volume wsX13_volume ({ frames := 2, cells := 0, slots := 0, locals := 43 } : Room) [.ref (q_this 0)] (ce_X13 kA q_this o_this) (some (.int out.1)) (ce_X13 kA q_this out.2) := by
  refine mc_of (cc := cX13_volume) (maxL := 1) (ret := (some .int)) (by decide) rfl (Nat.le_of_ble_eq_true rfl) ?_
  intro p e s m below meth c A B hD hP hS ls hl
  obtain ⟨hx, hb, hr, hlk, hml, hown, hts, hK, hA, hnm⟩ := B
  have hown : s.vm.findClass RX13 = some m.cls := hown
  have hl : lv_has ls 1 [(0, .ref (q_this 0))] := hl
  have hUX13 : ∀ w ∈ u_ws RX13 TX13 48, w.before [.ref (q_this 0)].toArray s = true := fun w h => hts w (List.mem_cons_of_mem _ (List.mem_append_right _ h))
  unfold ff_X13_volume at hf
  refine lv_aload_n hx hb dX13_volume_0 rfl (lv_at hl 0 rfl) ?_
  refine lv_iconst (v := 0) hx hb dX13_volume_1 (by decide) ?_
  refine va_put (D := D) (ci := 9) (v := .int (0 : Int32)) (ty := .int) (C := RX13) (T := TX13) (N := 48) hx hb hUX13 (fun _ h9 => h9) tyX13 tyX13_ok nmX13 hown hK hP hD hS 0 rfl rfl 0 (by decide) (hts (Cond.fieldLink RX13 93 "ReliefBuilderModel" "code" "I") (List.mem_of_getElem? (i := 1) rfl)) (fun _ h9 => h9) rfl (tyX13_ok 0 (by decide)) rfl rfl (Nat.le_of_ble_eq_true rfl) dX13_volume_2 (fun H locs hP hD hS => ?_)
  have hP : va_P D vwCl (ce_X13 kA q_this (ss_I o_this 0 (0 : Int32))) H := hP
  have hD : va_D A (ce_X13 kA q_this (ss_I o_this 0 (0 : Int32))) := hD
  refine lv_aload_n hx hb dX13_volume_5 rfl (lv_at hl 0 rfl) ?_
  obtain ⟨u_1, he_2, hf⟩ := os_bd hf
  refine mc_callV ⟨hx, hb, hml, hown, hts⟩ (mm_X13_volumeNow l D kA N q_this (ss_I o_this 0 (0 : Int32)) u_1 he_2) (cwV 0 hts gX13_volume_X13_volumeNow rfl rfl rfl (by decide +kernel) ⟨Nat.le_of_ble_eq_true rfl, Nat.le_of_ble_eq_true rfl⟩) (wc := (ce_X13 kA q_this (ss_I o_this 0 (0 : Int32)))) (ci := 9) (q0 := 0) rfl rfl rfl hl.1 (As := []) (rest := []) rfl (Nat.le_of_ble_eq_true rfl) dX13_volume_6 ⟨Nat.le_of_ble_eq_true rfl, Nat.le_of_ble_eq_true rfl⟩ hK hP hD hS hA [0, 1, 2, 3, 4, 5, 6, 7, 8, 9, 10, 11, 12, 13, 14, 15, 16, 17, 18, 19, 20, 21, 22, 23] [] [0, 1, 2, 3, 4, 5, 6, 7, 8, 9, 10, 11, 12, 13, 14, 15, 16, 17, 18, 19, 20, 21, 22, 23] rfl (by decide) rfl (by decide) (by decide) rfl (by decide) (wr := []) (w2 := (ce_X13 kA q_this (ss_I o_this 0 (0 : Int32)))) (fun H locs hP hD hS => ?_)
  have hP : va_P D vwCl (ce_X13 kA q_this (ss_I o_this 0 (0 : Int32))) H := hP
  rw [← Option.some.inj hf]
  exact mc_reti hx hb hr hlk hP hK hD hS dX13_volume_9
def ff_X13_cellsOf_b54 (N : Nat) (k26 : (os_T × Int32 × Int32 × Int32) → Option (Int32 × os_T)) (o_this : os_T) (x1 : Int32) (x3 : Int32) (t0 : Int32) (t1 : Int32) : Option (Int32 × os_T) :=
  ((ff_X13_truth N t0).bind fun u_14 => k26 (o_this, x1, t1 + u_14, x3 + 1))
def ff_X13_cellsOf_c26 (N : Nat) (k26 : (os_T × Int32 × Int32 × Int32) → Option (Int32 × os_T)) (o_this : os_T) (x1 : Int32) (x2 : Int32) (x3 : Int32) : Option (Int32 × os_T) :=
  ((ff_X13_cellMany N o_this).bind fun u_7 => (if u_7 ≤ x3 then some (x2, o_this) else ((ff_X13_cellAt N o_this x3).bind fun u_10 => (if os_in u_10 192 then (if ((os_A o_this 4) (Int32.toNatClampNeg u_10)) = x1 then ff_X13_cellsOf_b54 N k26 o_this x1 x3 (1 : Int32) x2 else ff_X13_cellsOf_b54 N k26 o_this x1 x3 (0 : Int32) x2) else none))))
def ff_X13_cellsOf_l26 (N : Nat) : Nat → (os_T × Int32 × Int32 × Int32) → Option (Int32 × os_T) := os_loop (fun k26 s1 => ff_X13_cellsOf_c26 N k26 s1.1 s1.2.1 s1.2.2.1 s1.2.2.2)
def ff_X13_cellsOf (N : Nat) (o_this : os_T) (a1 : Int32) : Option (Int32 × os_T) :=
  (if os_in (2 : Int32) 7 then ((ff_X13_isIn N (Int32.toInt64 a1) (0 : Int64) (Int32.toInt64 ((os_A o_this 1) (Int32.toNatClampNeg (2 : Int32))))).bind fun u_2 => ((ff_X13_goes N o_this u_2).bind fun u_4 => (if u_4.1 = 0 then some ((0 : Int32), u_4.2) else ff_X13_cellsOf_l26 N N (u_4.2, a1, (0 : Int32), (0 : Int32))))) else none)
set_option maxHeartbeats 4000000 in
set_option maxRecDepth 100000 in
theorem mm_X13_cellsOf (l : Launch) (D : va_G) (kA : Nat → ClassId) (N : Nat) (q_this : Nat → Nat) (o_this : os_T) (a1 : Int32) (out : (Int32 × os_T)) (hf : ff_X13_cellsOf N o_this a1 = some out) : mc_C l D kA yX13_cellsOf wsX13_cellsOf ({ frames := 2, cells := 0, slots := 0, locals := 41 } : Room) [.ref (q_this 0), .int a1] (ce_X13 kA q_this o_this) (some (.int out.1)) (ce_X13 kA q_this out.2) := by
  refine mc_of (cc := cX13_cellsOf) (maxL := 4) (ret := (some .int)) (by decide) rfl (Nat.le_of_ble_eq_true rfl) ?_
  intro p e s m below meth c A B hD hP hS ls hl
  obtain ⟨hx, hb, hr, hlk, hml, hown, hts, hK, hA, hnm⟩ := B
  have hown : s.vm.findClass RX13 = some m.cls := hown
  have hl : lv_has ls 4 [(0, .ref (q_this 0)), (1, .int a1)] := hl
  have hUX13 : ∀ w ∈ u_ws RX13 TX13 48, w.before [.ref (q_this 0), .int a1].toArray s = true := fun w h => hts w (List.mem_cons_of_mem _ (List.mem_append_right _ h))
  have hB54 : ∀ (k26 : (os_T × Int32 × Int32 × Int32) → Option (Int32 × os_T)), (∀ (o_this : os_T) (x1 : Int32) (x2 : Int32) (x3 : Int32) (H : Heap) (locs : List Loc) (ls : Array Slot), va_P D vwCl (ce_X13 kA q_this o_this) H → va_D A (ce_X13 kA q_this o_this) → va_S A s.heap H locs → lv_has ls 4 [(0, .ref (q_this 0)), (1, .int x1), (2, .int x2), (3, .int x3)] → k26 (o_this, x1, x2, x3) = some out → W p l e ({ frames := 2, cells := 0, slots := 0, locals := 41 } : Room) s m [.ref (q_this 0), .int a1].toArray below meth c H locs 0 0 (MQ below (mc_Q D kA A (some (.int out.1)) (ce_X13 kA q_this out.2)) [.ref (q_this 0), .int a1].toArray s 0 0 A) (F0 m 26 ls [])) → ∀ (o_this : os_T) (x1 : Int32) (x3 : Int32) (t0 : Int32) (t1 : Int32) (H : Heap) (locs : List Loc) (ls : Array Slot), va_P D vwCl (ce_X13 kA q_this o_this) H → va_D A (ce_X13 kA q_this o_this) → va_S A s.heap H locs → lv_has ls 4 [(0, .ref (q_this 0)), (1, .int x1), (3, .int x3)] → ff_X13_cellsOf_b54 N k26 o_this x1 x3 t0 t1 = some out → W p l e ({ frames := 2, cells := 0, slots := 0, locals := 41 } : Room) s m [.ref (q_this 0), .int a1].toArray below meth c H locs 0 0 (MQ below (mc_Q D kA A (some (.int out.1)) (ce_X13 kA q_this out.2)) [.ref (q_this 0), .int a1].toArray s 0 0 A) (F0 m 54 ls [.int t0, .int t1]) := by
    intro k26 hk26 o_this x1 x3 t0 t1 H locs ls hP hD hS hl hf
    unfold ff_X13_cellsOf_b54 at hf
    obtain ⟨u_14, he_15, hf⟩ := os_bd hf
    refine mc_callS ⟨hx, hb, hml, hown, hts⟩ (mm_X13_truth l D kA N t0 u_14 he_15) (va_cwS 1 hts gX13_cellsOf_X13_truth rfl rfl rfl (by decide +kernel) ⟨Nat.le_of_ble_eq_true rfl, Nat.le_of_ble_eq_true rfl⟩) (wc := []) rfl hl.1 (As := [.int t0]) (rest := [.int t1]) rfl (Nat.le_of_ble_eq_true rfl) dX13_cellsOf_54 ⟨Nat.le_of_ble_eq_true rfl, Nat.le_of_ble_eq_true rfl⟩ hK hP hD hS hA [] [0, 1, 2, 3, 4, 5, 6, 7, 8, 9, 10, 11, 12, 13, 14, 15, 16, 17, 18, 19, 20, 21, 22, 23] [0, 1, 2, 3, 4, 5, 6, 7, 8, 9, 10, 11, 12, 13, 14, 15, 16, 17, 18, 19, 20, 21, 22, 23] rfl (by decide) rfl (by decide) (by decide) rfl (by decide) (wr := (ce_X13 kA q_this o_this)) (w2 := (ce_X13 kA q_this o_this)) (fun H locs hP hD hS => ?_)
    have hP : va_P D vwCl (ce_X13 kA q_this o_this) H := hP
    refine lv_iadd hx hb dX13_cellsOf_57 ?_
    refine lv_istore_n (lv' := [(2, .int (t1 + u_14)), (0, .ref (q_this 0)), (1, .int x1), (3, .int x3)]) hx hb dX13_cellsOf_58 rfl hl (by decide) rfl (fun ls hl => ?_)
    refine lv_iinc (v := x3 + 1) (lv' := [(3, .int (x3 + 1)), (2, .int (t1 + u_14)), (0, .ref (q_this 0)), (1, .int x1)]) hx hb dX13_cellsOf_59 hl (k := 3) rfl rfl (by decide) rfl (fun ls hl => ?_)
    refine lv_goto (tgt := 26) hx hb dX13_cellsOf_62 (by decide) ?_
    exact hk26 o_this x1 (t1 + u_14) (x3 + 1) _ _ _ hP hD hS (lv_sub hl [2, 3, 1, 0] rfl) hf
  have hL26 : ∀ (n : Nat) (o_this : os_T) (x1 : Int32) (x2 : Int32) (x3 : Int32) (H : Heap) (locs : List Loc) (ls : Array Slot), va_P D vwCl (ce_X13 kA q_this o_this) H → va_D A (ce_X13 kA q_this o_this) → va_S A s.heap H locs → lv_has ls 4 [(0, .ref (q_this 0)), (1, .int x1), (2, .int x2), (3, .int x3)] → ff_X13_cellsOf_l26 N n (o_this, x1, x2, x3) = some out → W p l e ({ frames := 2, cells := 0, slots := 0, locals := 41 } : Room) s m [.ref (q_this 0), .int a1].toArray below meth c H locs 0 0 (MQ below (mc_Q D kA A (some (.int out.1)) (ce_X13 kA q_this out.2)) [.ref (q_this 0), .int a1].toArray s 0 0 A) (F0 m 26 ls []) := by
    intro n
    induction n with
    | zero => intro o_this x1 x2 x3 H locs ls _ _ _ _ hf; cases hf
    | succ n hk26 =>
      intro o_this x1 x2 x3 H locs ls hP hD hS hl hf
      have hf : ff_X13_cellsOf_c26 N (ff_X13_cellsOf_l26 N n) o_this x1 x2 x3 = some out := hf
      generalize hke : ff_X13_cellsOf_l26 N n = k26 at hk26 hf
      unfold ff_X13_cellsOf_c26 at hf
      refine lv_iload_n hx hb dX13_cellsOf_26 rfl (lv_at hl 3 rfl) ?_
      refine lv_aload_n hx hb dX13_cellsOf_27 rfl (lv_at hl 0 rfl) ?_
      obtain ⟨u_7, he_8, hf⟩ := os_bd hf
      refine mc_callV ⟨hx, hb, hml, hown, hts⟩ (mm_X13_cellMany l D kA N q_this o_this u_7 he_8) (cwV 0 hts gX13_cellsOf_X13_cellMany rfl rfl rfl (by decide +kernel) ⟨Nat.le_of_ble_eq_true rfl, Nat.le_of_ble_eq_true rfl⟩) (wc := (ce_X13 kA q_this o_this)) (ci := 9) (q0 := 0) rfl rfl rfl hl.1 (As := []) (rest := [.int x3]) rfl (Nat.le_of_ble_eq_true rfl) dX13_cellsOf_28 ⟨Nat.le_of_ble_eq_true rfl, Nat.le_of_ble_eq_true rfl⟩ hK hP hD hS hA [0, 1, 2, 3, 4, 5, 6, 7, 8, 9, 10, 11, 12, 13, 14, 15, 16, 17, 18, 19, 20, 21, 22, 23] [] [0, 1, 2, 3, 4, 5, 6, 7, 8, 9, 10, 11, 12, 13, 14, 15, 16, 17, 18, 19, 20, 21, 22, 23] rfl (by decide) rfl (by decide) (by decide) rfl (by decide) (wr := []) (w2 := (ce_X13 kA q_this o_this)) (fun H locs hP hD hS => ?_)
      have hP : va_P D vwCl (ce_X13 kA q_this o_this) H := hP
      refine lv_icmp_ge (tgt := 65) hx hb dX13_cellsOf_31 (by decide) (fun hc_9 => ?_) (fun hc_9 => ?_)
      · rw [if_pos hc_9] at hf
        refine lv_iload_n hx hb dX13_cellsOf_65 rfl (lv_at hl 2 rfl) ?_
        rw [← Option.some.inj hf]
        exact mc_reti hx hb hr hlk hP hK hD hS dX13_cellsOf_66
      · rw [if_neg hc_9] at hf
        refine lv_iload_n hx hb dX13_cellsOf_34 rfl (lv_at hl 2 rfl) ?_
        refine lv_aload_n hx hb dX13_cellsOf_35 rfl (lv_at hl 0 rfl) ?_
        refine va_get (D := D) (ci := 9) (v := .ref (q_this 5)) (C := RX13) (T := TX13) (N := 48) hx hb hUX13 (fun _ h9 => h9) hown hK hP 0 rfl rfl 16 (by decide) (hts (Cond.fieldLink RX13 29 "ReliefBuilderModel" "heights" "[I") (List.mem_of_getElem? (i := 2) rfl)) (fun _ h9 => h9) rfl dX13_cellsOf_36 ?_
        refine lv_aload_n hx hb dX13_cellsOf_39 rfl (lv_at hl 0 rfl) ?_
        refine lv_iload_n hx hb dX13_cellsOf_40 rfl (lv_at hl 3 rfl) ?_
        obtain ⟨u_10, he_11, hf⟩ := os_bd hf
        refine mc_callV ⟨hx, hb, hml, hown, hts⟩ (mm_X13_cellAt l D kA N q_this o_this x3 u_10 he_11) (cwV 1 hts gX13_cellsOf_X13_cellAt rfl rfl rfl (by decide +kernel) ⟨Nat.le_of_ble_eq_true rfl, Nat.le_of_ble_eq_true rfl⟩) (wc := (ce_X13 kA q_this o_this)) (ci := 9) (q0 := 0) rfl rfl rfl hl.1 (As := [.int x3]) (rest := [.ref (q_this 5), .int x2]) rfl (Nat.le_of_ble_eq_true rfl) dX13_cellsOf_41 ⟨Nat.le_of_ble_eq_true rfl, Nat.le_of_ble_eq_true rfl⟩ hK hP hD hS hA [0, 1, 2, 3, 4, 5, 6, 7, 8, 9, 10, 11, 12, 13, 14, 15, 16, 17, 18, 19, 20, 21, 22, 23] [] [0, 1, 2, 3, 4, 5, 6, 7, 8, 9, 10, 11, 12, 13, 14, 15, 16, 17, 18, 19, 20, 21, 22, 23] rfl (by decide) rfl (by decide) (by decide) rfl (by decide) (wr := []) (w2 := (ce_X13 kA q_this o_this)) (fun H locs hP hD hS => ?_)
        have hP : va_P D vwCl (ce_X13 kA q_this o_this) H := hP
        obtain ⟨hi_12, hf⟩ := os_if hf
        refine va_iald hx hb hK hP 5 0 rfl rfl hi_12 dX13_cellsOf_44 ?_
        refine lv_iload_n hx hb dX13_cellsOf_45 rfl (lv_at hl 1 rfl) ?_
        refine lv_icmp_ne (tgt := 53) hx hb dX13_cellsOf_46 (by decide) (fun hc_13 => ?_) (fun hc_13 => ?_)
        · rw [if_neg hc_13] at hf
          refine lv_iconst (v := 0) hx hb dX13_cellsOf_53 (by decide) ?_
          exact hB54 k26 hk26 o_this x1 x3 (0 : Int32) x2 _ _ _ hP hD hS (lv_sub hl [0, 1, 3] rfl) hf
        · rw [if_pos hc_13] at hf
          refine lv_iconst (v := 1) hx hb dX13_cellsOf_49 (by decide) ?_
          refine lv_goto (tgt := 54) hx hb dX13_cellsOf_50 (by decide) ?_
          exact hB54 k26 hk26 o_this x1 x3 (1 : Int32) x2 _ _ _ hP hD hS (lv_sub hl [0, 1, 3] rfl) hf
  unfold ff_X13_cellsOf at hf
  refine lv_aload_n hx hb dX13_cellsOf_0 rfl (lv_at hl 0 rfl) ?_
  refine lv_iload_n hx hb dX13_cellsOf_1 rfl (lv_at hl 1 rfl) ?_
  refine lv_i2l hx hb dX13_cellsOf_2 rfl ?_
  refine lv_lconst (v := 0) hx hb dX13_cellsOf_3 (by decide) ?_
  refine lv_aload_n hx hb dX13_cellsOf_4 rfl (lv_at hl 0 rfl) ?_
  refine va_get (D := D) (ci := 9) (v := .ref (q_this 2)) (C := RX13) (T := TX13) (N := 48) hx hb hUX13 (fun _ h9 => h9) hown hK hP 0 rfl rfl 13 (by decide) (hts (Cond.fieldLink RX13 20 "ReliefBuilderModel" "now" "[I") (List.mem_of_getElem? (i := 1) rfl)) (fun _ h9 => h9) rfl dX13_cellsOf_5 ?_
  refine lv_iconst (v := 2) hx hb dX13_cellsOf_8 (by decide) ?_
  obtain ⟨hi_1, hf⟩ := os_if hf
  refine va_iald hx hb hK hP 2 0 rfl rfl hi_1 dX13_cellsOf_9 ?_
  refine lv_i2l hx hb dX13_cellsOf_10 rfl ?_
  obtain ⟨u_2, he_3, hf⟩ := os_bd hf
  refine mc_callS ⟨hx, hb, hml, hown, hts⟩ (mm_X13_isIn l D kA N (Int32.toInt64 a1) (0 : Int64) (Int32.toInt64 ((os_A o_this 1) (Int32.toNatClampNeg (2 : Int32)))) u_2 he_3) (va_cwS 3 hts gX13_cellsOf_X13_isIn rfl rfl rfl (by decide +kernel) ⟨Nat.le_of_ble_eq_true rfl, Nat.le_of_ble_eq_true rfl⟩) (wc := []) rfl hl.1 (As := [.long (Int32.toInt64 a1), .long (0 : Int64), .long (Int32.toInt64 ((os_A o_this 1) (Int32.toNatClampNeg (2 : Int32))))]) (rest := [.ref (q_this 0)]) rfl (Nat.le_of_ble_eq_true rfl) dX13_cellsOf_11 ⟨Nat.le_of_ble_eq_true rfl, Nat.le_of_ble_eq_true rfl⟩ hK hP hD hS hA [] [0, 1, 2, 3, 4, 5, 6, 7, 8, 9, 10, 11, 12, 13, 14, 15, 16, 17, 18, 19, 20, 21, 22, 23] [0, 1, 2, 3, 4, 5, 6, 7, 8, 9, 10, 11, 12, 13, 14, 15, 16, 17, 18, 19, 20, 21, 22, 23] rfl (by decide) rfl (by decide) (by decide) rfl (by decide) (wr := (ce_X13 kA q_this o_this)) (w2 := (ce_X13 kA q_this o_this)) (fun H locs hP hD hS => ?_)
  have hP : va_P D vwCl (ce_X13 kA q_this o_this) H := hP
  obtain ⟨u_4, he_5, hf⟩ := os_bd hf
  refine mc_callV ⟨hx, hb, hml, hown, hts⟩ (mm_X13_goes l D kA N q_this o_this u_2 u_4 he_5) (cwV 1 hts gX13_cellsOf_X13_goes rfl rfl rfl (by decide +kernel) ⟨Nat.le_of_ble_eq_true rfl, Nat.le_of_ble_eq_true rfl⟩) (wc := (ce_X13 kA q_this o_this)) (ci := 9) (q0 := 0) rfl rfl rfl hl.1 (As := [.int u_2]) (rest := []) rfl (Nat.le_of_ble_eq_true rfl) dX13_cellsOf_14 ⟨Nat.le_of_ble_eq_true rfl, Nat.le_of_ble_eq_true rfl⟩ hK hP hD hS hA [0, 1, 2, 3, 4, 5, 6, 7, 8, 9, 10, 11, 12, 13, 14, 15, 16, 17, 18, 19, 20, 21, 22, 23] [] [0, 1, 2, 3, 4, 5, 6, 7, 8, 9, 10, 11, 12, 13, 14, 15, 16, 17, 18, 19, 20, 21, 22, 23] rfl (by decide) rfl (by decide) (by decide) rfl (by decide) (wr := []) (w2 := (ce_X13 kA q_this u_4.2)) (fun H locs hP hD hS => ?_)
  have hP : va_P D vwCl (ce_X13 kA q_this u_4.2) H := hP
  refine lv_if_ne (tgt := 22) hx hb dX13_cellsOf_17 (by decide) (fun hc_6 => ?_) (fun hc_6 => ?_)
  · rw [if_neg hc_6] at hf
    refine lv_iconst (v := 0) hx hb dX13_cellsOf_22 (by decide) ?_
    refine lv_istore_n (lv' := [(2, .int (0 : Int32)), (0, .ref (q_this 0)), (1, .int a1)]) hx hb dX13_cellsOf_23 rfl hl (by decide) rfl (fun ls hl => ?_)
    refine lv_iconst (v := 0) hx hb dX13_cellsOf_24 (by decide) ?_
    refine lv_istore_n (lv' := [(3, .int (0 : Int32)), (2, .int (0 : Int32)), (0, .ref (q_this 0)), (1, .int a1)]) hx hb dX13_cellsOf_25 rfl hl (by decide) rfl (fun ls hl => ?_)
    exact hL26 N u_4.2 a1 (0 : Int32) (0 : Int32) _ _ _ hP hD hS (lv_sub hl [2, 3, 1, 0] rfl) hf
  · rw [if_pos hc_6] at hf
    refine lv_iconst (v := 0) hx hb dX13_cellsOf_20 (by decide) ?_
    rw [← Option.some.inj hf]
    exact mc_reti hx hb hr hlk hP hK hD hS dX13_cellsOf_21
def ff_X13_far (N : Nat) (a0 : Int32) : Option Int32 :=
  (if 0 ≤ a0 then some a0 else some (0 - a0))
set_option maxHeartbeats 4000000 in
set_option maxRecDepth 100000 in
theorem mm_X13_far (l : Launch) (D : va_G) (kA : Nat → ClassId) (N : Nat) (a0 : Int32) (out : Int32) (hf : ff_X13_far N a0 = some out) : mc_C l D kA yX13_far wsX13_far ({ frames := 0, cells := 0, slots := 0, locals := 0 } : Room) [.int a0] [] (some (.int out)) [] := by
  refine mc_of (cc := cX13_far) (maxL := 1) (ret := (some .int)) (by decide) rfl (Nat.le_of_ble_eq_true rfl) ?_
  intro p e s m below meth c A B hD hP hS ls hl
  obtain ⟨hx, hb, hr, hlk, hml, hown, hts, hK, hA, hnm⟩ := B
  have hown : s.vm.findClass RX13 = some m.cls := hown
  have hl : lv_has ls 1 [(0, .int a0)] := hl
  unfold ff_X13_far at hf
  refine lv_iload_n hx hb dX13_far_0 rfl (lv_at hl 0 rfl) ?_
  refine lv_if_ge (tgt := 9) hx hb dX13_far_1 (by decide) (fun hc_1 => ?_) (fun hc_1 => ?_)
  · rw [if_pos hc_1] at hf
    refine lv_iload_n hx hb dX13_far_9 rfl (lv_at hl 0 rfl) ?_
    rw [← Option.some.inj hf]
    exact mc_reti hx hb hr hlk hP hK hD hS dX13_far_10
  · rw [if_neg hc_1] at hf
    refine lv_iload_n hx hb dX13_far_4 rfl (lv_at hl 0 rfl) ?_
    refine lv_ineg hx hb dX13_far_5 ?_
    refine lv_goto (tgt := 10) hx hb dX13_far_6 (by decide) ?_
    rw [← Option.some.inj hf]
    exact mc_reti hx hb hr hlk hP hK hD hS dX13_far_10
def ff_X13_steepest_b101 (N : Nat) (k9 : (os_T × Int32 × Int32) → Option (Int32 × os_T)) (k21 : (os_T × Int32 × Int32 × Int32) → Option (Int32 × os_T)) (o_this : os_T) (x1 : Int32) (x2 : Int32) (x3 : Int32) : Option (Int32 × os_T) :=
  k21 (o_this, x1, x2, x3 + 1)
def ff_X13_steepest_b72 (N : Nat) (k9 : (os_T × Int32 × Int32) → Option (Int32 × os_T)) (k21 : (os_T × Int32 × Int32 × Int32) → Option (Int32 × os_T)) (o_this : os_T) (x1 : Int32) (x2 : Int32) (x3 : Int32) (x4 : Int32) : Option (Int32 × os_T) :=
  (if x2 ≤ 0 then ff_X13_steepest_b101 N k9 k21 o_this x1 x2 x3 else (if os_in ((((16 : Int32) * x2) - (16 : Int32)) + x3) 192 then ((ff_X13_far N (x4 - ((os_A o_this 4) (Int32.toNatClampNeg ((((16 : Int32) * x2) - (16 : Int32)) + x3))))).bind fun u_14 => ((ff_X13_more N x1 u_14).bind fun u_16 => ff_X13_steepest_b101 N k9 k21 o_this u_16 x2 x3)) else none))
def ff_X13_steepest_c21 (N : Nat) (k9 : (os_T × Int32 × Int32) → Option (Int32 × os_T)) (k21 : (os_T × Int32 × Int32 × Int32) → Option (Int32 × os_T)) (o_this : os_T) (x1 : Int32) (x2 : Int32) (x3 : Int32) : Option (Int32 × os_T) :=
  (if os_in (0 : Int32) 7 then (if ((os_A o_this 1) (Int32.toNatClampNeg (0 : Int32))) ≤ x3 then k9 (o_this, x1, x2 + 1) else (if os_in (((16 : Int32) * x2) + x3) 192 then (if x3 ≤ 0 then ff_X13_steepest_b72 N k9 k21 o_this x1 x2 x3 ((os_A o_this 4) (Int32.toNatClampNeg (((16 : Int32) * x2) + x3))) else (if os_in ((((16 : Int32) * x2) + x3) - (1 : Int32)) 192 then ((ff_X13_far N (((os_A o_this 4) (Int32.toNatClampNeg (((16 : Int32) * x2) + x3))) - ((os_A o_this 4) (Int32.toNatClampNeg ((((16 : Int32) * x2) + x3) - (1 : Int32)))))).bind fun u_8 => ((ff_X13_more N x1 u_8).bind fun u_10 => ff_X13_steepest_b72 N k9 k21 o_this u_10 x2 x3 ((os_A o_this 4) (Int32.toNatClampNeg (((16 : Int32) * x2) + x3))))) else none)) else none)) else none)
def ff_X13_steepest_l21 (N : Nat) (k9 : (os_T × Int32 × Int32) → Option (Int32 × os_T)) : Nat → (os_T × Int32 × Int32 × Int32) → Option (Int32 × os_T) := os_loop (fun k21 s1 => ff_X13_steepest_c21 N k9 k21 s1.1 s1.2.1 s1.2.2.1 s1.2.2.2)
def ff_X13_steepest_c9 (N : Nat) (k9 : (os_T × Int32 × Int32) → Option (Int32 × os_T)) (o_this : os_T) (x1 : Int32) (x2 : Int32) : Option (Int32 × os_T) :=
  (if os_in (1 : Int32) 7 then (if ((os_A o_this 1) (Int32.toNatClampNeg (1 : Int32))) ≤ x2 then some (x1, o_this) else ff_X13_steepest_l21 N k9 N (o_this, x1, x2, (0 : Int32))) else none)
def ff_X13_steepest_l9 (N : Nat) : Nat → (os_T × Int32 × Int32) → Option (Int32 × os_T) := os_loop (fun k9 s1 => ff_X13_steepest_c9 N k9 s1.1 s1.2.1 s1.2.2)
def ff_X13_steepest (N : Nat) (o_this : os_T) : Option (Int32 × os_T) :=
  ff_X13_steepest_l9 N N (ss_I o_this 0 (0 : Int32), (0 : Int32), (0 : Int32))
set_option maxHeartbeats 4000000 in
set_option maxRecDepth 100000 in
theorem mm_X13_steepest (l : Launch) (D : va_G) (kA : Nat → ClassId) (N : Nat) (q_this : Nat → Nat) (o_this : os_T) (out : (Int32 × os_T)) (hf : ff_X13_steepest N o_this = some out) : mc_C l D kA yX13_steepest wsX13_steepest ({ frames := 1, cells := 0, slots := 0, locals := 21 } : Room) [.ref (q_this 0)] (ce_X13 kA q_this o_this) (some (.int out.1)) (ce_X13 kA q_this out.2) := by
  refine mc_of (cc := cX13_steepest) (maxL := 5) (ret := (some .int)) (by decide) rfl (Nat.le_of_ble_eq_true rfl) ?_
  intro p e s m below meth c A B hD hP hS ls hl
  obtain ⟨hx, hb, hr, hlk, hml, hown, hts, hK, hA, hnm⟩ := B
  have hown : s.vm.findClass RX13 = some m.cls := hown
  have hl : lv_has ls 5 [(0, .ref (q_this 0))] := hl
  have hUX13 : ∀ w ∈ u_ws RX13 TX13 48, w.before [.ref (q_this 0)].toArray s = true := fun w h => hts w (List.mem_cons_of_mem _ (List.mem_append_right _ h))
  have hB101 : ∀ (k9 : (os_T × Int32 × Int32) → Option (Int32 × os_T)), (∀ (o_this : os_T) (x1 : Int32) (x2 : Int32) (H : Heap) (locs : List Loc) (ls : Array Slot), va_P D vwCl (ce_X13 kA q_this o_this) H → va_D A (ce_X13 kA q_this o_this) → va_S A s.heap H locs → lv_has ls 5 [(0, .ref (q_this 0)), (1, .int x1), (2, .int x2)] → k9 (o_this, x1, x2) = some out → W p l e ({ frames := 1, cells := 0, slots := 0, locals := 21 } : Room) s m [.ref (q_this 0)].toArray below meth c H locs 0 0 (MQ below (mc_Q D kA A (some (.int out.1)) (ce_X13 kA q_this out.2)) [.ref (q_this 0)].toArray s 0 0 A) (F0 m 9 ls [])) → ∀ (k21 : (os_T × Int32 × Int32 × Int32) → Option (Int32 × os_T)), (∀ (o_this : os_T) (x1 : Int32) (x2 : Int32) (x3 : Int32) (H : Heap) (locs : List Loc) (ls : Array Slot), va_P D vwCl (ce_X13 kA q_this o_this) H → va_D A (ce_X13 kA q_this o_this) → va_S A s.heap H locs → lv_has ls 5 [(0, .ref (q_this 0)), (1, .int x1), (2, .int x2), (3, .int x3)] → k21 (o_this, x1, x2, x3) = some out → W p l e ({ frames := 1, cells := 0, slots := 0, locals := 21 } : Room) s m [.ref (q_this 0)].toArray below meth c H locs 0 0 (MQ below (mc_Q D kA A (some (.int out.1)) (ce_X13 kA q_this out.2)) [.ref (q_this 0)].toArray s 0 0 A) (F0 m 21 ls [])) → ∀ (o_this : os_T) (x1 : Int32) (x2 : Int32) (x3 : Int32) (H : Heap) (locs : List Loc) (ls : Array Slot), va_P D vwCl (ce_X13 kA q_this o_this) H → va_D A (ce_X13 kA q_this o_this) → va_S A s.heap H locs → lv_has ls 5 [(0, .ref (q_this 0)), (1, .int x1), (2, .int x2), (3, .int x3)] → ff_X13_steepest_b101 N k9 k21 o_this x1 x2 x3 = some out → W p l e ({ frames := 1, cells := 0, slots := 0, locals := 21 } : Room) s m [.ref (q_this 0)].toArray below meth c H locs 0 0 (MQ below (mc_Q D kA A (some (.int out.1)) (ce_X13 kA q_this out.2)) [.ref (q_this 0)].toArray s 0 0 A) (F0 m 101 ls []) := by
    intro k9 hk9 k21 hk21 o_this x1 x2 x3 H locs ls hP hD hS hl hf
    unfold ff_X13_steepest_b101 at hf
    refine lv_iinc (v := x3 + 1) (lv' := [(3, .int (x3 + 1)), (0, .ref (q_this 0)), (1, .int x1), (2, .int x2)]) hx hb dX13_steepest_101 hl (k := 3) rfl rfl (by decide) rfl (fun ls hl => ?_)
    refine lv_goto (tgt := 21) hx hb dX13_steepest_104 (by decide) ?_
    exact hk21 o_this x1 x2 (x3 + 1) _ _ _ hP hD hS (lv_sub hl [1, 2, 3, 0] rfl) hf
  have hB72 : ∀ (k9 : (os_T × Int32 × Int32) → Option (Int32 × os_T)), (∀ (o_this : os_T) (x1 : Int32) (x2 : Int32) (H : Heap) (locs : List Loc) (ls : Array Slot), va_P D vwCl (ce_X13 kA q_this o_this) H → va_D A (ce_X13 kA q_this o_this) → va_S A s.heap H locs → lv_has ls 5 [(0, .ref (q_this 0)), (1, .int x1), (2, .int x2)] → k9 (o_this, x1, x2) = some out → W p l e ({ frames := 1, cells := 0, slots := 0, locals := 21 } : Room) s m [.ref (q_this 0)].toArray below meth c H locs 0 0 (MQ below (mc_Q D kA A (some (.int out.1)) (ce_X13 kA q_this out.2)) [.ref (q_this 0)].toArray s 0 0 A) (F0 m 9 ls [])) → ∀ (k21 : (os_T × Int32 × Int32 × Int32) → Option (Int32 × os_T)), (∀ (o_this : os_T) (x1 : Int32) (x2 : Int32) (x3 : Int32) (H : Heap) (locs : List Loc) (ls : Array Slot), va_P D vwCl (ce_X13 kA q_this o_this) H → va_D A (ce_X13 kA q_this o_this) → va_S A s.heap H locs → lv_has ls 5 [(0, .ref (q_this 0)), (1, .int x1), (2, .int x2), (3, .int x3)] → k21 (o_this, x1, x2, x3) = some out → W p l e ({ frames := 1, cells := 0, slots := 0, locals := 21 } : Room) s m [.ref (q_this 0)].toArray below meth c H locs 0 0 (MQ below (mc_Q D kA A (some (.int out.1)) (ce_X13 kA q_this out.2)) [.ref (q_this 0)].toArray s 0 0 A) (F0 m 21 ls [])) → ∀ (o_this : os_T) (x1 : Int32) (x2 : Int32) (x3 : Int32) (x4 : Int32) (H : Heap) (locs : List Loc) (ls : Array Slot), va_P D vwCl (ce_X13 kA q_this o_this) H → va_D A (ce_X13 kA q_this o_this) → va_S A s.heap H locs → lv_has ls 5 [(0, .ref (q_this 0)), (1, .int x1), (2, .int x2), (3, .int x3), (4, .int x4)] → ff_X13_steepest_b72 N k9 k21 o_this x1 x2 x3 x4 = some out → W p l e ({ frames := 1, cells := 0, slots := 0, locals := 21 } : Room) s m [.ref (q_this 0)].toArray below meth c H locs 0 0 (MQ below (mc_Q D kA A (some (.int out.1)) (ce_X13 kA q_this out.2)) [.ref (q_this 0)].toArray s 0 0 A) (F0 m 72 ls []) := by
    intro k9 hk9 k21 hk21 o_this x1 x2 x3 x4 H locs ls hP hD hS hl hf
    unfold ff_X13_steepest_b72 at hf
    refine lv_iload_n hx hb dX13_steepest_72 rfl (lv_at hl 2 rfl) ?_
    refine lv_if_le (tgt := 101) hx hb dX13_steepest_73 (by decide) (fun hc_12 => ?_) (fun hc_12 => ?_)
    · rw [if_pos hc_12] at hf
      exact hB101 k9 hk9 k21 hk21 o_this x1 x2 x3 _ _ _ hP hD hS (lv_sub hl [0, 1, 2, 3] rfl) hf
    · rw [if_neg hc_12] at hf
      refine lv_iload_n hx hb dX13_steepest_76 rfl (lv_at hl 1 rfl) ?_
      refine lv_iload hx hb dX13_steepest_77 (lv_at hl 4 rfl) ?_
      refine lv_aload_n hx hb dX13_steepest_79 rfl (lv_at hl 0 rfl) ?_
      refine va_get (D := D) (ci := 9) (v := .ref (q_this 5)) (C := RX13) (T := TX13) (N := 48) hx hb hUX13 (fun _ h9 => h9) hown hK hP 0 rfl rfl 16 (by decide) (hts (Cond.fieldLink RX13 29 "ReliefBuilderModel" "heights" "[I") (List.mem_of_getElem? (i := 3) rfl)) (fun _ h9 => h9) rfl dX13_steepest_80 ?_
      refine lv_bipush (v := 16) hx hb dX13_steepest_83 (by decide) ?_
      refine lv_iload_n hx hb dX13_steepest_85 rfl (lv_at hl 2 rfl) ?_
      refine lv_imul hx hb dX13_steepest_86 ?_
      refine lv_bipush (v := 16) hx hb dX13_steepest_87 (by decide) ?_
      refine lv_isub hx hb dX13_steepest_89 ?_
      refine lv_iload_n hx hb dX13_steepest_90 rfl (lv_at hl 3 rfl) ?_
      refine lv_iadd hx hb dX13_steepest_91 ?_
      obtain ⟨hi_13, hf⟩ := os_if hf
      refine va_iald hx hb hK hP 5 0 rfl rfl hi_13 dX13_steepest_92 ?_
      refine lv_isub hx hb dX13_steepest_93 ?_
      obtain ⟨u_14, he_15, hf⟩ := os_bd hf
      refine mc_callS ⟨hx, hb, hml, hown, hts⟩ (mm_X13_far l D kA N (x4 - ((os_A o_this 4) (Int32.toNatClampNeg ((((16 : Int32) * x2) - (16 : Int32)) + x3)))) u_14 he_15) (va_cwS 1 hts gX13_steepest_X13_far rfl rfl rfl (by decide +kernel) ⟨Nat.le_of_ble_eq_true rfl, Nat.le_of_ble_eq_true rfl⟩) (wc := []) rfl hl.1 (As := [.int (x4 - ((os_A o_this 4) (Int32.toNatClampNeg ((((16 : Int32) * x2) - (16 : Int32)) + x3))))]) (rest := [.int x1]) rfl (Nat.le_of_ble_eq_true rfl) dX13_steepest_94 ⟨Nat.le_of_ble_eq_true rfl, Nat.le_of_ble_eq_true rfl⟩ hK hP hD hS hA [] [0, 1, 2, 3, 4, 5, 6, 7, 8, 9, 10, 11, 12, 13, 14, 15, 16, 17, 18, 19, 20, 21, 22, 23] [0, 1, 2, 3, 4, 5, 6, 7, 8, 9, 10, 11, 12, 13, 14, 15, 16, 17, 18, 19, 20, 21, 22, 23] rfl (by decide) rfl (by decide) (by decide) rfl (by decide) (wr := (ce_X13 kA q_this o_this)) (w2 := (ce_X13 kA q_this o_this)) (fun H locs hP hD hS => ?_)
      have hP : va_P D vwCl (ce_X13 kA q_this o_this) H := hP
      obtain ⟨u_16, he_17, hf⟩ := os_bd hf
      refine mc_callS ⟨hx, hb, hml, hown, hts⟩ (mm_X13_more l D kA N x1 u_14 u_16 he_17) (va_cwS 2 hts gX13_steepest_X13_more rfl rfl rfl (by decide +kernel) ⟨Nat.le_of_ble_eq_true rfl, Nat.le_of_ble_eq_true rfl⟩) (wc := []) rfl hl.1 (As := [.int x1, .int u_14]) (rest := []) rfl (Nat.le_of_ble_eq_true rfl) dX13_steepest_97 ⟨Nat.le_of_ble_eq_true rfl, Nat.le_of_ble_eq_true rfl⟩ hK hP hD hS hA [] [0, 1, 2, 3, 4, 5, 6, 7, 8, 9, 10, 11, 12, 13, 14, 15, 16, 17, 18, 19, 20, 21, 22, 23] [0, 1, 2, 3, 4, 5, 6, 7, 8, 9, 10, 11, 12, 13, 14, 15, 16, 17, 18, 19, 20, 21, 22, 23] rfl (by decide) rfl (by decide) (by decide) rfl (by decide) (wr := (ce_X13 kA q_this o_this)) (w2 := (ce_X13 kA q_this o_this)) (fun H locs hP hD hS => ?_)
      have hP : va_P D vwCl (ce_X13 kA q_this o_this) H := hP
      refine lv_istore_n (lv' := [(1, .int u_16), (0, .ref (q_this 0)), (2, .int x2), (3, .int x3), (4, .int x4)]) hx hb dX13_steepest_100 rfl hl (by decide) rfl (fun ls hl => ?_)
      exact hB101 k9 hk9 k21 hk21 o_this u_16 x2 x3 _ _ _ hP hD hS (lv_sub hl [1, 0, 2, 3] rfl) hf
  have hL21 : ∀ (k9 : (os_T × Int32 × Int32) → Option (Int32 × os_T)), (∀ (o_this : os_T) (x1 : Int32) (x2 : Int32) (H : Heap) (locs : List Loc) (ls : Array Slot), va_P D vwCl (ce_X13 kA q_this o_this) H → va_D A (ce_X13 kA q_this o_this) → va_S A s.heap H locs → lv_has ls 5 [(0, .ref (q_this 0)), (1, .int x1), (2, .int x2)] → k9 (o_this, x1, x2) = some out → W p l e ({ frames := 1, cells := 0, slots := 0, locals := 21 } : Room) s m [.ref (q_this 0)].toArray below meth c H locs 0 0 (MQ below (mc_Q D kA A (some (.int out.1)) (ce_X13 kA q_this out.2)) [.ref (q_this 0)].toArray s 0 0 A) (F0 m 9 ls [])) → ∀ (n : Nat) (o_this : os_T) (x1 : Int32) (x2 : Int32) (x3 : Int32) (H : Heap) (locs : List Loc) (ls : Array Slot), va_P D vwCl (ce_X13 kA q_this o_this) H → va_D A (ce_X13 kA q_this o_this) → va_S A s.heap H locs → lv_has ls 5 [(0, .ref (q_this 0)), (1, .int x1), (2, .int x2), (3, .int x3)] → ff_X13_steepest_l21 N k9 n (o_this, x1, x2, x3) = some out → W p l e ({ frames := 1, cells := 0, slots := 0, locals := 21 } : Room) s m [.ref (q_this 0)].toArray below meth c H locs 0 0 (MQ below (mc_Q D kA A (some (.int out.1)) (ce_X13 kA q_this out.2)) [.ref (q_this 0)].toArray s 0 0 A) (F0 m 21 ls []) := by
    intro k9 hk9 n
    induction n with
    | zero => intro o_this x1 x2 x3 H locs ls _ _ _ _ hf; cases hf
    | succ n hk21 =>
      intro o_this x1 x2 x3 H locs ls hP hD hS hl hf
      have hf : ff_X13_steepest_c21 N k9 (ff_X13_steepest_l21 N k9 n) o_this x1 x2 x3 = some out := hf
      generalize hke : ff_X13_steepest_l21 N k9 n = k21 at hk21 hf
      unfold ff_X13_steepest_c21 at hf
      refine lv_iload_n hx hb dX13_steepest_21 rfl (lv_at hl 3 rfl) ?_
      refine lv_aload_n hx hb dX13_steepest_22 rfl (lv_at hl 0 rfl) ?_
      refine va_get (D := D) (ci := 9) (v := .ref (q_this 2)) (C := RX13) (T := TX13) (N := 48) hx hb hUX13 (fun _ h9 => h9) hown hK hP 0 rfl rfl 13 (by decide) (hts (Cond.fieldLink RX13 20 "ReliefBuilderModel" "now" "[I") (List.mem_of_getElem? (i := 2) rfl)) (fun _ h9 => h9) rfl dX13_steepest_23 ?_
      refine lv_iconst (v := 0) hx hb dX13_steepest_26 (by decide) ?_
      obtain ⟨hi_3, hf⟩ := os_if hf
      refine va_iald hx hb hK hP 2 0 rfl rfl hi_3 dX13_steepest_27 ?_
      refine lv_icmp_ge (tgt := 107) hx hb dX13_steepest_28 (by decide) (fun hc_4 => ?_) (fun hc_4 => ?_)
      · rw [if_pos hc_4] at hf
        refine lv_iinc (v := x2 + 1) (lv' := [(2, .int (x2 + 1)), (0, .ref (q_this 0)), (1, .int x1), (3, .int x3)]) hx hb dX13_steepest_107 hl (k := 2) rfl rfl (by decide) rfl (fun ls hl => ?_)
        refine lv_goto (tgt := 9) hx hb dX13_steepest_110 (by decide) ?_
        exact hk9 o_this x1 (x2 + 1) _ _ _ hP hD hS (lv_sub hl [1, 2, 0] rfl) hf
      · rw [if_neg hc_4] at hf
        refine lv_aload_n hx hb dX13_steepest_31 rfl (lv_at hl 0 rfl) ?_
        refine va_get (D := D) (ci := 9) (v := .ref (q_this 5)) (C := RX13) (T := TX13) (N := 48) hx hb hUX13 (fun _ h9 => h9) hown hK hP 0 rfl rfl 16 (by decide) (hts (Cond.fieldLink RX13 29 "ReliefBuilderModel" "heights" "[I") (List.mem_of_getElem? (i := 3) rfl)) (fun _ h9 => h9) rfl dX13_steepest_32 ?_
        refine lv_bipush (v := 16) hx hb dX13_steepest_35 (by decide) ?_
        refine lv_iload_n hx hb dX13_steepest_37 rfl (lv_at hl 2 rfl) ?_
        refine lv_imul hx hb dX13_steepest_38 ?_
        refine lv_iload_n hx hb dX13_steepest_39 rfl (lv_at hl 3 rfl) ?_
        refine lv_iadd hx hb dX13_steepest_40 ?_
        obtain ⟨hi_5, hf⟩ := os_if hf
        refine va_iald hx hb hK hP 5 0 rfl rfl hi_5 dX13_steepest_41 ?_
        refine lv_istore (lv' := [(4, .int ((os_A o_this 4) (Int32.toNatClampNeg (((16 : Int32) * x2) + x3)))), (0, .ref (q_this 0)), (1, .int x1), (2, .int x2), (3, .int x3)]) hx hb dX13_steepest_42 hl (by decide) rfl (fun ls hl => ?_)
        refine lv_iload_n hx hb dX13_steepest_44 rfl (lv_at hl 4 rfl) ?_
        refine lv_if_le (tgt := 72) hx hb dX13_steepest_45 (by decide) (fun hc_6 => ?_) (fun hc_6 => ?_)
        · rw [if_pos hc_6] at hf
          exact hB72 k9 hk9 k21 hk21 o_this x1 x2 x3 ((os_A o_this 4) (Int32.toNatClampNeg (((16 : Int32) * x2) + x3))) _ _ _ hP hD hS (lv_sub hl [1, 2, 3, 4, 0] rfl) hf
        · rw [if_neg hc_6] at hf
          refine lv_iload_n hx hb dX13_steepest_48 rfl (lv_at hl 2 rfl) ?_
          refine lv_iload hx hb dX13_steepest_49 (lv_at hl 0 rfl) ?_
          refine lv_aload_n hx hb dX13_steepest_51 rfl (lv_at hl 1 rfl) ?_
          refine va_get (D := D) (ci := 9) (v := .ref (q_this 5)) (C := RX13) (T := TX13) (N := 48) hx hb hUX13 (fun _ h9 => h9) hown hK hP 0 rfl rfl 16 (by decide) (hts (Cond.fieldLink RX13 29 "ReliefBuilderModel" "heights" "[I") (List.mem_of_getElem? (i := 3) rfl)) (fun _ h9 => h9) rfl dX13_steepest_52 ?_
          refine lv_bipush (v := 16) hx hb dX13_steepest_55 (by decide) ?_
          refine lv_iload_n hx hb dX13_steepest_57 rfl (lv_at hl 3 rfl) ?_
          refine lv_imul hx hb dX13_steepest_58 ?_
          refine lv_iload_n hx hb dX13_steepest_59 rfl (lv_at hl 4 rfl) ?_
          refine lv_iadd hx hb dX13_steepest_60 ?_
          refine lv_iconst (v := 1) hx hb dX13_steepest_61 (by decide) ?_
          refine lv_isub hx hb dX13_steepest_62 ?_
          obtain ⟨hi_7, hf⟩ := os_if hf
          refine va_iald hx hb hK hP 5 0 rfl rfl hi_7 dX13_steepest_63 ?_
          refine lv_isub hx hb dX13_steepest_64 ?_
          obtain ⟨u_8, he_9, hf⟩ := os_bd hf
          refine mc_callS ⟨hx, hb, hml, hown, hts⟩ (mm_X13_far l D kA N (((os_A o_this 4) (Int32.toNatClampNeg (((16 : Int32) * x2) + x3))) - ((os_A o_this 4) (Int32.toNatClampNeg ((((16 : Int32) * x2) + x3) - (1 : Int32))))) u_8 he_9) (va_cwS 1 hts gX13_steepest_X13_far rfl rfl rfl (by decide +kernel) ⟨Nat.le_of_ble_eq_true rfl, Nat.le_of_ble_eq_true rfl⟩) (wc := []) rfl hl.1 (As := [.int (((os_A o_this 4) (Int32.toNatClampNeg (((16 : Int32) * x2) + x3))) - ((os_A o_this 4) (Int32.toNatClampNeg ((((16 : Int32) * x2) + x3) - (1 : Int32)))))]) (rest := [.int x1]) rfl (Nat.le_of_ble_eq_true rfl) dX13_steepest_65 ⟨Nat.le_of_ble_eq_true rfl, Nat.le_of_ble_eq_true rfl⟩ hK hP hD hS hA [] [0, 1, 2, 3, 4, 5, 6, 7, 8, 9, 10, 11, 12, 13, 14, 15, 16, 17, 18, 19, 20, 21, 22, 23] [0, 1, 2, 3, 4, 5, 6, 7, 8, 9, 10, 11, 12, 13, 14, 15, 16, 17, 18, 19, 20, 21, 22, 23] rfl (by decide) rfl (by decide) (by decide) rfl (by decide) (wr := (ce_X13 kA q_this o_this)) (w2 := (ce_X13 kA q_this o_this)) (fun H locs hP hD hS => ?_)
          have hP : va_P D vwCl (ce_X13 kA q_this o_this) H := hP
          obtain ⟨u_10, he_11, hf⟩ := os_bd hf
          refine mc_callS ⟨hx, hb, hml, hown, hts⟩ (mm_X13_more l D kA N x1 u_8 u_10 he_11) (va_cwS 2 hts gX13_steepest_X13_more rfl rfl rfl (by decide +kernel) ⟨Nat.le_of_ble_eq_true rfl, Nat.le_of_ble_eq_true rfl⟩) (wc := []) rfl hl.1 (As := [.int x1, .int u_8]) (rest := []) rfl (Nat.le_of_ble_eq_true rfl) dX13_steepest_68 ⟨Nat.le_of_ble_eq_true rfl, Nat.le_of_ble_eq_true rfl⟩ hK hP hD hS hA [] [0, 1, 2, 3, 4, 5, 6, 7, 8, 9, 10, 11, 12, 13, 14, 15, 16, 17, 18, 19, 20, 21, 22, 23] [0, 1, 2, 3, 4, 5, 6, 7, 8, 9, 10, 11, 12, 13, 14, 15, 16, 17, 18, 19, 20, 21, 22, 23] rfl (by decide) rfl (by decide) (by decide) rfl (by decide) (wr := (ce_X13 kA q_this o_this)) (w2 := (ce_X13 kA q_this o_this)) (fun H locs hP hD hS => ?_)
          have hP : va_P D vwCl (ce_X13 kA q_this o_this) H := hP
          refine lv_istore_n (lv' := [(1, .int u_10), (4, .int ((os_A o_this 4) (Int32.toNatClampNeg (((16 : Int32) * x2) + x3)))), (0, .ref (q_this 0)), (2, .int x2), (3, .int x3)]) hx hb dX13_steepest_71 rfl hl (by decide) rfl (fun ls hl => ?_)
          exact hB72 k9 hk9 k21 hk21 o_this u_10 x2 x3 ((os_A o_this 4) (Int32.toNatClampNeg (((16 : Int32) * x2) + x3))) _ _ _ hP hD hS (lv_sub hl [2, 0, 3, 4, 1] rfl) hf
  have hL9 : ∀ (n : Nat) (o_this : os_T) (x1 : Int32) (x2 : Int32) (H : Heap) (locs : List Loc) (ls : Array Slot), va_P D vwCl (ce_X13 kA q_this o_this) H → va_D A (ce_X13 kA q_this o_this) → va_S A s.heap H locs → lv_has ls 5 [(0, .ref (q_this 0)), (1, .int x1), (2, .int x2)] → ff_X13_steepest_l9 N n (o_this, x1, x2) = some out → W p l e ({ frames := 1, cells := 0, slots := 0, locals := 21 } : Room) s m [.ref (q_this 0)].toArray below meth c H locs 0 0 (MQ below (mc_Q D kA A (some (.int out.1)) (ce_X13 kA q_this out.2)) [.ref (q_this 0)].toArray s 0 0 A) (F0 m 9 ls []) := by
    intro n
    induction n with
    | zero => intro o_this x1 x2 H locs ls _ _ _ _ hf; cases hf
    | succ n hk9 =>
      intro o_this x1 x2 H locs ls hP hD hS hl hf
      have hf : ff_X13_steepest_c9 N (ff_X13_steepest_l9 N n) o_this x1 x2 = some out := hf
      generalize hke : ff_X13_steepest_l9 N n = k9 at hk9 hf
      unfold ff_X13_steepest_c9 at hf
      refine lv_iload_n hx hb dX13_steepest_9 rfl (lv_at hl 2 rfl) ?_
      refine lv_aload_n hx hb dX13_steepest_10 rfl (lv_at hl 0 rfl) ?_
      refine va_get (D := D) (ci := 9) (v := .ref (q_this 2)) (C := RX13) (T := TX13) (N := 48) hx hb hUX13 (fun _ h9 => h9) hown hK hP 0 rfl rfl 13 (by decide) (hts (Cond.fieldLink RX13 20 "ReliefBuilderModel" "now" "[I") (List.mem_of_getElem? (i := 2) rfl)) (fun _ h9 => h9) rfl dX13_steepest_11 ?_
      refine lv_iconst (v := 1) hx hb dX13_steepest_14 (by decide) ?_
      obtain ⟨hi_1, hf⟩ := os_if hf
      refine va_iald hx hb hK hP 2 0 rfl rfl hi_1 dX13_steepest_15 ?_
      refine lv_icmp_ge (tgt := 113) hx hb dX13_steepest_16 (by decide) (fun hc_2 => ?_) (fun hc_2 => ?_)
      · rw [if_pos hc_2] at hf
        refine lv_iload_n hx hb dX13_steepest_113 rfl (lv_at hl 1 rfl) ?_
        rw [← Option.some.inj hf]
        exact mc_reti hx hb hr hlk hP hK hD hS dX13_steepest_114
      · rw [if_neg hc_2] at hf
        refine lv_iconst (v := 0) hx hb dX13_steepest_19 (by decide) ?_
        refine lv_istore_n (lv' := [(3, .int (0 : Int32)), (0, .ref (q_this 0)), (1, .int x1), (2, .int x2)]) hx hb dX13_steepest_20 rfl hl (by decide) rfl (fun ls hl => ?_)
        exact hL21 k9 hk9 N o_this x1 x2 (0 : Int32) _ _ _ hP hD hS (lv_sub hl [1, 2, 3, 0] rfl) hf
  unfold ff_X13_steepest at hf
  refine lv_aload_n hx hb dX13_steepest_0 rfl (lv_at hl 0 rfl) ?_
  refine lv_iconst (v := 0) hx hb dX13_steepest_1 (by decide) ?_
  refine va_put (D := D) (ci := 9) (v := .int (0 : Int32)) (ty := .int) (C := RX13) (T := TX13) (N := 48) hx hb hUX13 (fun _ h9 => h9) tyX13 tyX13_ok nmX13 hown hK hP hD hS 0 rfl rfl 0 (by decide) (hts (Cond.fieldLink RX13 93 "ReliefBuilderModel" "code" "I") (List.mem_of_getElem? (i := 1) rfl)) (fun _ h9 => h9) rfl (tyX13_ok 0 (by decide)) rfl rfl (Nat.le_of_ble_eq_true rfl) dX13_steepest_2 (fun H locs hP hD hS => ?_)
  have hP : va_P D vwCl (ce_X13 kA q_this (ss_I o_this 0 (0 : Int32))) H := hP
  have hD : va_D A (ce_X13 kA q_this (ss_I o_this 0 (0 : Int32))) := hD
  refine lv_iconst (v := 0) hx hb dX13_steepest_5 (by decide) ?_
  refine lv_istore_n (lv' := [(1, .int (0 : Int32)), (0, .ref (q_this 0))]) hx hb dX13_steepest_6 rfl hl (by decide) rfl (fun ls hl => ?_)
  refine lv_iconst (v := 0) hx hb dX13_steepest_7 (by decide) ?_
  refine lv_istore_n (lv' := [(2, .int (0 : Int32)), (1, .int (0 : Int32)), (0, .ref (q_this 0))]) hx hb dX13_steepest_8 rfl hl (by decide) rfl (fun ls hl => ?_)
  exact hL9 N (ss_I o_this 0 (0 : Int32)) (0 : Int32) (0 : Int32) _ _ _ hP hD hS (lv_sub hl [2, 1, 0] rfl) hf
def ff_X13_light (N : Nat) (o_this : os_T) (a1 : Int32) : Option (UInt32 × os_T) :=
  (if os_in (2 : Int32) 7 then ((ff_X13_isIn N (Int32.toInt64 a1) (0 : Int64) (Int32.toInt64 ((os_A o_this 1) (Int32.toNatClampNeg (2 : Int32))))).bind fun u_2 => ((ff_X13_goes N o_this u_2).bind fun u_4 => (if u_4.1 = 0 then some (FP.fconst0, u_4.2) else ((ff_X13_lightOf N u_4.2 a1).bind fun u_7 => some (u_7, u_4.2))))) else none)
set_option maxHeartbeats 4000000 in
set_option maxRecDepth 100000 in
theorem mm_X13_light (l : Launch) (D : va_G) (kA : Nat → ClassId) (N : Nat) (q_this : Nat → Nat) (o_this : os_T) (a1 : Int32) (out : (UInt32 × os_T)) (hf : ff_X13_light N o_this a1 = some out) : mc_C l D kA yX13_light wsX13_light ({ frames := 2, cells := 0, slots := 0, locals := 41 } : Room) [.ref (q_this 0), .int a1] (ce_X13 kA q_this o_this) (some (.float out.1)) (ce_X13 kA q_this out.2) := by
  refine mc_of (cc := cX13_light) (maxL := 2) (ret := (some .float)) (by decide) rfl (Nat.le_of_ble_eq_true rfl) ?_
  intro p e s m below meth c A B hD hP hS ls hl
  obtain ⟨hx, hb, hr, hlk, hml, hown, hts, hK, hA, hnm⟩ := B
  have hown : s.vm.findClass RX13 = some m.cls := hown
  have hl : lv_has ls 2 [(0, .ref (q_this 0)), (1, .int a1)] := hl
  have hUX13 : ∀ w ∈ u_ws RX13 TX13 48, w.before [.ref (q_this 0), .int a1].toArray s = true := fun w h => hts w (List.mem_cons_of_mem _ (List.mem_append_right _ h))
  unfold ff_X13_light at hf
  refine lv_aload_n hx hb dX13_light_0 rfl (lv_at hl 0 rfl) ?_
  refine lv_iload_n hx hb dX13_light_1 rfl (lv_at hl 1 rfl) ?_
  refine lv_i2l hx hb dX13_light_2 rfl ?_
  refine lv_lconst (v := 0) hx hb dX13_light_3 (by decide) ?_
  refine lv_aload_n hx hb dX13_light_4 rfl (lv_at hl 0 rfl) ?_
  refine va_get (D := D) (ci := 9) (v := .ref (q_this 2)) (C := RX13) (T := TX13) (N := 48) hx hb hUX13 (fun _ h9 => h9) hown hK hP 0 rfl rfl 13 (by decide) (hts (Cond.fieldLink RX13 20 "ReliefBuilderModel" "now" "[I") (List.mem_of_getElem? (i := 1) rfl)) (fun _ h9 => h9) rfl dX13_light_5 ?_
  refine lv_iconst (v := 2) hx hb dX13_light_8 (by decide) ?_
  obtain ⟨hi_1, hf⟩ := os_if hf
  refine va_iald hx hb hK hP 2 0 rfl rfl hi_1 dX13_light_9 ?_
  refine lv_i2l hx hb dX13_light_10 rfl ?_
  obtain ⟨u_2, he_3, hf⟩ := os_bd hf
  refine mc_callS ⟨hx, hb, hml, hown, hts⟩ (mm_X13_isIn l D kA N (Int32.toInt64 a1) (0 : Int64) (Int32.toInt64 ((os_A o_this 1) (Int32.toNatClampNeg (2 : Int32)))) u_2 he_3) (va_cwS 3 hts gX13_light_X13_isIn rfl rfl rfl (by decide +kernel) ⟨Nat.le_of_ble_eq_true rfl, Nat.le_of_ble_eq_true rfl⟩) (wc := []) rfl hl.1 (As := [.long (Int32.toInt64 a1), .long (0 : Int64), .long (Int32.toInt64 ((os_A o_this 1) (Int32.toNatClampNeg (2 : Int32))))]) (rest := [.ref (q_this 0)]) rfl (Nat.le_of_ble_eq_true rfl) dX13_light_11 ⟨Nat.le_of_ble_eq_true rfl, Nat.le_of_ble_eq_true rfl⟩ hK hP hD hS hA [] [0, 1, 2, 3, 4, 5, 6, 7, 8, 9, 10, 11, 12, 13, 14, 15, 16, 17, 18, 19, 20, 21, 22, 23] [0, 1, 2, 3, 4, 5, 6, 7, 8, 9, 10, 11, 12, 13, 14, 15, 16, 17, 18, 19, 20, 21, 22, 23] rfl (by decide) rfl (by decide) (by decide) rfl (by decide) (wr := (ce_X13 kA q_this o_this)) (w2 := (ce_X13 kA q_this o_this)) (fun H locs hP hD hS => ?_)
  have hP : va_P D vwCl (ce_X13 kA q_this o_this) H := hP
  obtain ⟨u_4, he_5, hf⟩ := os_bd hf
  refine mc_callV ⟨hx, hb, hml, hown, hts⟩ (mm_X13_goes l D kA N q_this o_this u_2 u_4 he_5) (cwV 1 hts gX13_light_X13_goes rfl rfl rfl (by decide +kernel) ⟨Nat.le_of_ble_eq_true rfl, Nat.le_of_ble_eq_true rfl⟩) (wc := (ce_X13 kA q_this o_this)) (ci := 9) (q0 := 0) rfl rfl rfl hl.1 (As := [.int u_2]) (rest := []) rfl (Nat.le_of_ble_eq_true rfl) dX13_light_14 ⟨Nat.le_of_ble_eq_true rfl, Nat.le_of_ble_eq_true rfl⟩ hK hP hD hS hA [0, 1, 2, 3, 4, 5, 6, 7, 8, 9, 10, 11, 12, 13, 14, 15, 16, 17, 18, 19, 20, 21, 22, 23] [] [0, 1, 2, 3, 4, 5, 6, 7, 8, 9, 10, 11, 12, 13, 14, 15, 16, 17, 18, 19, 20, 21, 22, 23] rfl (by decide) rfl (by decide) (by decide) rfl (by decide) (wr := []) (w2 := (ce_X13 kA q_this u_4.2)) (fun H locs hP hD hS => ?_)
  have hP : va_P D vwCl (ce_X13 kA q_this u_4.2) H := hP
  refine lv_if_eq (tgt := 28) hx hb dX13_light_17 (by decide) (fun hc_6 => ?_) (fun hc_6 => ?_)
  · rw [if_pos hc_6] at hf
    refine lv_fconst0 hx hb dX13_light_28 ?_
    rw [← Option.some.inj hf]
    exact mc_retf hx hb hr hlk hP hK hD hS dX13_light_29
  · rw [if_neg hc_6] at hf
    refine lv_aload_n hx hb dX13_light_20 rfl (lv_at hl 0 rfl) ?_
    refine lv_iload_n hx hb dX13_light_21 rfl (lv_at hl 1 rfl) ?_
    obtain ⟨u_7, he_8, hf⟩ := os_bd hf
    refine mc_callV ⟨hx, hb, hml, hown, hts⟩ (mm_X13_lightOf l D kA N q_this u_4.2 a1 u_7 he_8) (cwV 1 hts gX13_light_X13_lightOf rfl rfl rfl (by decide +kernel) ⟨Nat.le_of_ble_eq_true rfl, Nat.le_of_ble_eq_true rfl⟩) (wc := (ce_X13 kA q_this u_4.2)) (ci := 9) (q0 := 0) rfl rfl rfl hl.1 (As := [.int a1]) (rest := []) rfl (Nat.le_of_ble_eq_true rfl) dX13_light_22 ⟨Nat.le_of_ble_eq_true rfl, Nat.le_of_ble_eq_true rfl⟩ hK hP hD hS hA [0, 1, 2, 3, 4, 5, 6, 7, 8, 9, 10, 11, 12, 13, 14, 15, 16, 17, 18, 19, 20, 21, 22, 23] [] [0, 1, 2, 3, 4, 5, 6, 7, 8, 9, 10, 11, 12, 13, 14, 15, 16, 17, 18, 19, 20, 21, 22, 23] rfl (by decide) rfl (by decide) (by decide) rfl (by decide) (wr := []) (w2 := (ce_X13 kA q_this u_4.2)) (fun H locs hP hD hS => ?_)
    have hP : va_P D vwCl (ce_X13 kA q_this u_4.2) H := hP
    refine lv_goto (tgt := 29) hx hb dX13_light_25 (by decide) ?_
    rw [← Option.some.inj hf]
    exact mc_retf hx hb hr hlk hP hK hD hS dX13_light_29
def ff_X13_heightFor (N : Nat) (o_this : os_T) (a1 : Int32) : Option (Int32 × os_T) :=
  ((ff_X13_isIn N (Int32.toInt64 a1) (0 : Int64) (255 : Int64)).bind fun u_1 => ((ff_X13_goes N o_this u_1).bind fun u_3 => (if u_3.1 = 0 then some ((0 : Int32), u_3.2) else ((ff_X13_wantedBy N a1).bind fun u_6 => ((ff_X13_heightBy N u_3.2 u_6).bind fun u_8 => some (u_8, u_3.2))))))
set_option maxHeartbeats 4000000 in
set_option maxRecDepth 100000 in
theorem mm_X13_heightFor (l : Launch) (D : va_G) (kA : Nat → ClassId) (N : Nat) (q_this : Nat → Nat) (o_this : os_T) (a1 : Int32) (out : (Int32 × os_T)) (hf : ff_X13_heightFor N o_this a1 = some out) : mc_C l D kA yX13_heightFor wsX13_heightFor ({ frames := 2, cells := 0, slots := 0, locals := 49 } : Room) [.ref (q_this 0), .int a1] (ce_X13 kA q_this o_this) (some (.int out.1)) (ce_X13 kA q_this out.2) := by
  refine mc_of (cc := cX13_heightFor) (maxL := 2) (ret := (some .int)) (by decide) rfl (Nat.le_of_ble_eq_true rfl) ?_
  intro p e s m below meth c A B hD hP hS ls hl
  obtain ⟨hx, hb, hr, hlk, hml, hown, hts, hK, hA, hnm⟩ := B
  have hown : s.vm.findClass RX13 = some m.cls := hown
  have hl : lv_has ls 2 [(0, .ref (q_this 0)), (1, .int a1)] := hl
  unfold ff_X13_heightFor at hf
  refine lv_aload_n hx hb dX13_heightFor_0 rfl (lv_at hl 0 rfl) ?_
  refine lv_iload_n hx hb dX13_heightFor_1 rfl (lv_at hl 1 rfl) ?_
  refine lv_i2l hx hb dX13_heightFor_2 rfl ?_
  refine lv_lconst (v := 0) hx hb dX13_heightFor_3 (by decide) ?_
  refine lv_ldc2 hx hb hown (hts (Cond.constantLong RX13 276 (255)) (List.mem_of_getElem? (i := 1) rfl)) dX13_heightFor_4 ?_
  obtain ⟨u_1, he_2, hf⟩ := os_bd hf
  refine mc_callS ⟨hx, hb, hml, hown, hts⟩ (mm_X13_isIn l D kA N (Int32.toInt64 a1) (0 : Int64) (255 : Int64) u_1 he_2) (va_cwS 3 hts gX13_heightFor_X13_isIn rfl rfl rfl (by decide +kernel) ⟨Nat.le_of_ble_eq_true rfl, Nat.le_of_ble_eq_true rfl⟩) (wc := []) rfl hl.1 (As := [.long (Int32.toInt64 a1), .long (0 : Int64), .long (255 : Int64)]) (rest := [.ref (q_this 0)]) rfl (Nat.le_of_ble_eq_true rfl) dX13_heightFor_7 ⟨Nat.le_of_ble_eq_true rfl, Nat.le_of_ble_eq_true rfl⟩ hK hP hD hS hA [] [0, 1, 2, 3, 4, 5, 6, 7, 8, 9, 10, 11, 12, 13, 14, 15, 16, 17, 18, 19, 20, 21, 22, 23] [0, 1, 2, 3, 4, 5, 6, 7, 8, 9, 10, 11, 12, 13, 14, 15, 16, 17, 18, 19, 20, 21, 22, 23] rfl (by decide) rfl (by decide) (by decide) rfl (by decide) (wr := (ce_X13 kA q_this o_this)) (w2 := (ce_X13 kA q_this o_this)) (fun H locs hP hD hS => ?_)
  have hP : va_P D vwCl (ce_X13 kA q_this o_this) H := hP
  obtain ⟨u_3, he_4, hf⟩ := os_bd hf
  refine mc_callV ⟨hx, hb, hml, hown, hts⟩ (mm_X13_goes l D kA N q_this o_this u_1 u_3 he_4) (cwV 1 hts gX13_heightFor_X13_goes rfl rfl rfl (by decide +kernel) ⟨Nat.le_of_ble_eq_true rfl, Nat.le_of_ble_eq_true rfl⟩) (wc := (ce_X13 kA q_this o_this)) (ci := 9) (q0 := 0) rfl rfl rfl hl.1 (As := [.int u_1]) (rest := []) rfl (Nat.le_of_ble_eq_true rfl) dX13_heightFor_10 ⟨Nat.le_of_ble_eq_true rfl, Nat.le_of_ble_eq_true rfl⟩ hK hP hD hS hA [0, 1, 2, 3, 4, 5, 6, 7, 8, 9, 10, 11, 12, 13, 14, 15, 16, 17, 18, 19, 20, 21, 22, 23] [] [0, 1, 2, 3, 4, 5, 6, 7, 8, 9, 10, 11, 12, 13, 14, 15, 16, 17, 18, 19, 20, 21, 22, 23] rfl (by decide) rfl (by decide) (by decide) rfl (by decide) (wr := []) (w2 := (ce_X13 kA q_this u_3.2)) (fun H locs hP hD hS => ?_)
  have hP : va_P D vwCl (ce_X13 kA q_this u_3.2) H := hP
  refine lv_if_eq (tgt := 27) hx hb dX13_heightFor_13 (by decide) (fun hc_5 => ?_) (fun hc_5 => ?_)
  · rw [if_pos hc_5] at hf
    refine lv_iconst (v := 0) hx hb dX13_heightFor_27 (by decide) ?_
    rw [← Option.some.inj hf]
    exact mc_reti hx hb hr hlk hP hK hD hS dX13_heightFor_28
  · rw [if_neg hc_5] at hf
    refine lv_aload_n hx hb dX13_heightFor_16 rfl (lv_at hl 0 rfl) ?_
    refine lv_iload_n hx hb dX13_heightFor_17 rfl (lv_at hl 1 rfl) ?_
    obtain ⟨u_6, he_7, hf⟩ := os_bd hf
    refine mc_callS ⟨hx, hb, hml, hown, hts⟩ (mm_X13_wantedBy l D kA N a1 u_6 he_7) (va_cwS 1 hts gX13_heightFor_X13_wantedBy rfl rfl rfl (by decide +kernel) ⟨Nat.le_of_ble_eq_true rfl, Nat.le_of_ble_eq_true rfl⟩) (wc := []) rfl hl.1 (As := [.int a1]) (rest := [.ref (q_this 0)]) rfl (Nat.le_of_ble_eq_true rfl) dX13_heightFor_18 ⟨Nat.le_of_ble_eq_true rfl, Nat.le_of_ble_eq_true rfl⟩ hK hP hD hS hA [] [0, 1, 2, 3, 4, 5, 6, 7, 8, 9, 10, 11, 12, 13, 14, 15, 16, 17, 18, 19, 20, 21, 22, 23] [0, 1, 2, 3, 4, 5, 6, 7, 8, 9, 10, 11, 12, 13, 14, 15, 16, 17, 18, 19, 20, 21, 22, 23] rfl (by decide) rfl (by decide) (by decide) rfl (by decide) (wr := (ce_X13 kA q_this u_3.2)) (w2 := (ce_X13 kA q_this u_3.2)) (fun H locs hP hD hS => ?_)
    have hP : va_P D vwCl (ce_X13 kA q_this u_3.2) H := hP
    obtain ⟨u_8, he_9, hf⟩ := os_bd hf
    refine mc_callV ⟨hx, hb, hml, hown, hts⟩ (mm_X13_heightBy l D kA N q_this u_3.2 u_6 u_8 he_9) (cwV 1 hts gX13_heightFor_X13_heightBy rfl rfl rfl (by decide +kernel) ⟨Nat.le_of_ble_eq_true rfl, Nat.le_of_ble_eq_true rfl⟩) (wc := (ce_X13 kA q_this u_3.2)) (ci := 9) (q0 := 0) rfl rfl rfl hl.1 (As := [.float u_6]) (rest := []) rfl (Nat.le_of_ble_eq_true rfl) dX13_heightFor_21 ⟨Nat.le_of_ble_eq_true rfl, Nat.le_of_ble_eq_true rfl⟩ hK hP hD hS hA [0, 1, 2, 3, 4, 5, 6, 7, 8, 9, 10, 11, 12, 13, 14, 15, 16, 17, 18, 19, 20, 21, 22, 23] [] [0, 1, 2, 3, 4, 5, 6, 7, 8, 9, 10, 11, 12, 13, 14, 15, 16, 17, 18, 19, 20, 21, 22, 23] rfl (by decide) rfl (by decide) (by decide) rfl (by decide) (wr := []) (w2 := (ce_X13 kA q_this u_3.2)) (fun H locs hP hD hS => ?_)
    have hP : va_P D vwCl (ce_X13 kA q_this u_3.2) H := hP
    refine lv_goto (tgt := 28) hx hb dX13_heightFor_24 (by decide) ?_
    rw [← Option.some.inj hf]
    exact mc_reti hx hb hr hlk hP hK hD hS dX13_heightFor_28
def ff_X13_wanted (N : Nat) (o_this : os_T) (a1 : Int32) (a2 : Int32) : Option (UInt32 × os_T) :=
  ((ff_X13_isCell N o_this a1 a2).bind fun u_1 => ((ff_X13_goes N o_this u_1).bind fun u_3 => (if u_3.1 = 0 then some (FP.fconst0, u_3.2) else (if os_in (((16 : Int32) * a2) + a1) 192 then ((ff_X13_wantedBy N ((os_A u_3.2 3) (Int32.toNatClampNeg (((16 : Int32) * a2) + a1)))).bind fun u_7 => some (u_7, u_3.2)) else none))))
set_option maxHeartbeats 4000000 in
set_option maxRecDepth 100000 in
theorem mm_X13_wanted (l : Launch) (D : va_G) (kA : Nat → ClassId) (N : Nat) (q_this : Nat → Nat) (o_this : os_T) (a1 : Int32) (a2 : Int32) (out : (UInt32 × os_T)) (hf : ff_X13_wanted N o_this a1 a2 = some out) : mc_C l D kA yX13_wanted wsX13_wanted ({ frames := 2, cells := 0, slots := 0, locals := 47 } : Room) [.ref (q_this 0), .int a1, .int a2] (ce_X13 kA q_this o_this) (some (.float out.1)) (ce_X13 kA q_this out.2) := by
  refine mc_of (cc := cX13_wanted) (maxL := 3) (ret := (some .float)) (by decide) rfl (Nat.le_of_ble_eq_true rfl) ?_
  intro p e s m below meth c A B hD hP hS ls hl
  obtain ⟨hx, hb, hr, hlk, hml, hown, hts, hK, hA, hnm⟩ := B
  have hown : s.vm.findClass RX13 = some m.cls := hown
  have hl : lv_has ls 3 [(0, .ref (q_this 0)), (1, .int a1), (2, .int a2)] := hl
  have hUX13 : ∀ w ∈ u_ws RX13 TX13 48, w.before [.ref (q_this 0), .int a1, .int a2].toArray s = true := fun w h => hts w (List.mem_cons_of_mem _ (List.mem_append_right _ h))
  unfold ff_X13_wanted at hf
  refine lv_aload_n hx hb dX13_wanted_0 rfl (lv_at hl 0 rfl) ?_
  refine lv_aload_n hx hb dX13_wanted_1 rfl (lv_at hl 0 rfl) ?_
  refine lv_iload_n hx hb dX13_wanted_2 rfl (lv_at hl 1 rfl) ?_
  refine lv_iload_n hx hb dX13_wanted_3 rfl (lv_at hl 2 rfl) ?_
  obtain ⟨u_1, he_2, hf⟩ := os_bd hf
  refine mc_callV ⟨hx, hb, hml, hown, hts⟩ (mm_X13_isCell l D kA N q_this o_this a1 a2 u_1 he_2) (cwV 2 hts gX13_wanted_X13_isCell rfl rfl rfl (by decide +kernel) ⟨Nat.le_of_ble_eq_true rfl, Nat.le_of_ble_eq_true rfl⟩) (wc := (ce_X13 kA q_this o_this)) (ci := 9) (q0 := 0) rfl rfl rfl hl.1 (As := [.int a1, .int a2]) (rest := [.ref (q_this 0)]) rfl (Nat.le_of_ble_eq_true rfl) dX13_wanted_4 ⟨Nat.le_of_ble_eq_true rfl, Nat.le_of_ble_eq_true rfl⟩ hK hP hD hS hA [0, 1, 2, 3, 4, 5, 6, 7, 8, 9, 10, 11, 12, 13, 14, 15, 16, 17, 18, 19, 20, 21, 22, 23] [] [0, 1, 2, 3, 4, 5, 6, 7, 8, 9, 10, 11, 12, 13, 14, 15, 16, 17, 18, 19, 20, 21, 22, 23] rfl (by decide) rfl (by decide) (by decide) rfl (by decide) (wr := []) (w2 := (ce_X13 kA q_this o_this)) (fun H locs hP hD hS => ?_)
  have hP : va_P D vwCl (ce_X13 kA q_this o_this) H := hP
  obtain ⟨u_3, he_4, hf⟩ := os_bd hf
  refine mc_callV ⟨hx, hb, hml, hown, hts⟩ (mm_X13_goes l D kA N q_this o_this u_1 u_3 he_4) (cwV 1 hts gX13_wanted_X13_goes rfl rfl rfl (by decide +kernel) ⟨Nat.le_of_ble_eq_true rfl, Nat.le_of_ble_eq_true rfl⟩) (wc := (ce_X13 kA q_this o_this)) (ci := 9) (q0 := 0) rfl rfl rfl hl.1 (As := [.int u_1]) (rest := []) rfl (Nat.le_of_ble_eq_true rfl) dX13_wanted_7 ⟨Nat.le_of_ble_eq_true rfl, Nat.le_of_ble_eq_true rfl⟩ hK hP hD hS hA [0, 1, 2, 3, 4, 5, 6, 7, 8, 9, 10, 11, 12, 13, 14, 15, 16, 17, 18, 19, 20, 21, 22, 23] [] [0, 1, 2, 3, 4, 5, 6, 7, 8, 9, 10, 11, 12, 13, 14, 15, 16, 17, 18, 19, 20, 21, 22, 23] rfl (by decide) rfl (by decide) (by decide) rfl (by decide) (wr := []) (w2 := (ce_X13 kA q_this u_3.2)) (fun H locs hP hD hS => ?_)
  have hP : va_P D vwCl (ce_X13 kA q_this u_3.2) H := hP
  refine lv_if_eq (tgt := 30) hx hb dX13_wanted_10 (by decide) (fun hc_5 => ?_) (fun hc_5 => ?_)
  · rw [if_pos hc_5] at hf
    refine lv_fconst0 hx hb dX13_wanted_30 ?_
    rw [← Option.some.inj hf]
    exact mc_retf hx hb hr hlk hP hK hD hS dX13_wanted_31
  · rw [if_neg hc_5] at hf
    refine lv_aload_n hx hb dX13_wanted_13 rfl (lv_at hl 0 rfl) ?_
    refine va_get (D := D) (ci := 9) (v := .ref (q_this 4)) (C := RX13) (T := TX13) (N := 48) hx hb hUX13 (fun _ h9 => h9) hown hK hP 0 rfl rfl 15 (by decide) (hts (Cond.fieldLink RX13 26 "ReliefBuilderModel" "tones" "[I") (List.mem_of_getElem? (i := 1) rfl)) (fun _ h9 => h9) rfl dX13_wanted_14 ?_
    refine lv_bipush (v := 16) hx hb dX13_wanted_17 (by decide) ?_
    refine lv_iload_n hx hb dX13_wanted_19 rfl (lv_at hl 2 rfl) ?_
    refine lv_imul hx hb dX13_wanted_20 ?_
    refine lv_iload_n hx hb dX13_wanted_21 rfl (lv_at hl 1 rfl) ?_
    refine lv_iadd hx hb dX13_wanted_22 ?_
    obtain ⟨hi_6, hf⟩ := os_if hf
    refine va_iald hx hb hK hP 4 0 rfl rfl hi_6 dX13_wanted_23 ?_
    obtain ⟨u_7, he_8, hf⟩ := os_bd hf
    refine mc_callS ⟨hx, hb, hml, hown, hts⟩ (mm_X13_wantedBy l D kA N ((os_A u_3.2 3) (Int32.toNatClampNeg (((16 : Int32) * a2) + a1))) u_7 he_8) (va_cwS 1 hts gX13_wanted_X13_wantedBy rfl rfl rfl (by decide +kernel) ⟨Nat.le_of_ble_eq_true rfl, Nat.le_of_ble_eq_true rfl⟩) (wc := []) rfl hl.1 (As := [.int ((os_A u_3.2 3) (Int32.toNatClampNeg (((16 : Int32) * a2) + a1)))]) (rest := []) rfl (Nat.le_of_ble_eq_true rfl) dX13_wanted_24 ⟨Nat.le_of_ble_eq_true rfl, Nat.le_of_ble_eq_true rfl⟩ hK hP hD hS hA [] [0, 1, 2, 3, 4, 5, 6, 7, 8, 9, 10, 11, 12, 13, 14, 15, 16, 17, 18, 19, 20, 21, 22, 23] [0, 1, 2, 3, 4, 5, 6, 7, 8, 9, 10, 11, 12, 13, 14, 15, 16, 17, 18, 19, 20, 21, 22, 23] rfl (by decide) rfl (by decide) (by decide) rfl (by decide) (wr := (ce_X13 kA q_this u_3.2)) (w2 := (ce_X13 kA q_this u_3.2)) (fun H locs hP hD hS => ?_)
    have hP : va_P D vwCl (ce_X13 kA q_this u_3.2) H := hP
    refine lv_goto (tgt := 31) hx hb dX13_wanted_27 (by decide) ?_
    rw [← Option.some.inj hf]
    exact mc_retf hx hb hr hlk hP hK hD hS dX13_wanted_31
def ff_X13_lightAt (N : Nat) (o_this : os_T) (a1 : Int32) (a2 : Int32) (a3 : UInt32) : Option UInt32 :=
  ((ff_X13_isCell N o_this a1 a2).bind fun u_1 => (if u_1 = 0 then some a3 else (if os_in (((16 : Int32) * a2) + a1) 192 then ((ff_X13_lightOf N o_this ((os_A o_this 4) (Int32.toNatClampNeg (((16 : Int32) * a2) + a1)))).bind fun u_5 => some u_5) else none)))
set_option maxHeartbeats 4000000 in
set_option maxRecDepth 100000 in
theorem mm_X13_lightAt (l : Launch) (D : va_G) (kA : Nat → ClassId) (N : Nat) (q_this : Nat → Nat) (o_this : os_T) (a1 : Int32) (a2 : Int32) (a3 : UInt32) (out : UInt32) (hf : ff_X13_lightAt N o_this a1 a2 a3 = some out) : mc_C l D kA yX13_lightAt wsX13_lightAt ({ frames := 2, cells := 0, slots := 0, locals := 47 } : Room) [.ref (q_this 0), .int a1, .int a2, .float a3] (ce_X13 kA q_this o_this) (some (.float out)) (ce_X13 kA q_this o_this) := by
  refine mc_of (cc := cX13_lightAt) (maxL := 4) (ret := (some .float)) (by decide) rfl (Nat.le_of_ble_eq_true rfl) ?_
  intro p e s m below meth c A B hD hP hS ls hl
  obtain ⟨hx, hb, hr, hlk, hml, hown, hts, hK, hA, hnm⟩ := B
  have hown : s.vm.findClass RX13 = some m.cls := hown
  have hl : lv_has ls 4 [(0, .ref (q_this 0)), (1, .int a1), (2, .int a2), (3, .float a3)] := hl
  have hUX13 : ∀ w ∈ u_ws RX13 TX13 48, w.before [.ref (q_this 0), .int a1, .int a2, .float a3].toArray s = true := fun w h => hts w (List.mem_cons_of_mem _ (List.mem_append_right _ h))
  unfold ff_X13_lightAt at hf
  refine lv_aload_n hx hb dX13_lightAt_0 rfl (lv_at hl 0 rfl) ?_
  refine lv_iload_n hx hb dX13_lightAt_1 rfl (lv_at hl 1 rfl) ?_
  refine lv_iload_n hx hb dX13_lightAt_2 rfl (lv_at hl 2 rfl) ?_
  obtain ⟨u_1, he_2, hf⟩ := os_bd hf
  refine mc_callV ⟨hx, hb, hml, hown, hts⟩ (mm_X13_isCell l D kA N q_this o_this a1 a2 u_1 he_2) (cwV 2 hts gX13_lightAt_X13_isCell rfl rfl rfl (by decide +kernel) ⟨Nat.le_of_ble_eq_true rfl, Nat.le_of_ble_eq_true rfl⟩) (wc := (ce_X13 kA q_this o_this)) (ci := 9) (q0 := 0) rfl rfl rfl hl.1 (As := [.int a1, .int a2]) (rest := []) rfl (Nat.le_of_ble_eq_true rfl) dX13_lightAt_3 ⟨Nat.le_of_ble_eq_true rfl, Nat.le_of_ble_eq_true rfl⟩ hK hP hD hS hA [0, 1, 2, 3, 4, 5, 6, 7, 8, 9, 10, 11, 12, 13, 14, 15, 16, 17, 18, 19, 20, 21, 22, 23] [] [0, 1, 2, 3, 4, 5, 6, 7, 8, 9, 10, 11, 12, 13, 14, 15, 16, 17, 18, 19, 20, 21, 22, 23] rfl (by decide) rfl (by decide) (by decide) rfl (by decide) (wr := []) (w2 := (ce_X13 kA q_this o_this)) (fun H locs hP hD hS => ?_)
  have hP : va_P D vwCl (ce_X13 kA q_this o_this) H := hP
  refine lv_if_eq (tgt := 27) hx hb dX13_lightAt_6 (by decide) (fun hc_3 => ?_) (fun hc_3 => ?_)
  · rw [if_pos hc_3] at hf
    refine lv_fload_n hx hb dX13_lightAt_27 rfl (lv_at hl 3 rfl) ?_
    rw [← Option.some.inj hf]
    exact mc_retf hx hb hr hlk hP hK hD hS dX13_lightAt_28
  · rw [if_neg hc_3] at hf
    refine lv_aload_n hx hb dX13_lightAt_9 rfl (lv_at hl 0 rfl) ?_
    refine lv_aload_n hx hb dX13_lightAt_10 rfl (lv_at hl 0 rfl) ?_
    refine va_get (D := D) (ci := 9) (v := .ref (q_this 5)) (C := RX13) (T := TX13) (N := 48) hx hb hUX13 (fun _ h9 => h9) hown hK hP 0 rfl rfl 16 (by decide) (hts (Cond.fieldLink RX13 29 "ReliefBuilderModel" "heights" "[I") (List.mem_of_getElem? (i := 1) rfl)) (fun _ h9 => h9) rfl dX13_lightAt_11 ?_
    refine lv_bipush (v := 16) hx hb dX13_lightAt_14 (by decide) ?_
    refine lv_iload_n hx hb dX13_lightAt_16 rfl (lv_at hl 2 rfl) ?_
    refine lv_imul hx hb dX13_lightAt_17 ?_
    refine lv_iload_n hx hb dX13_lightAt_18 rfl (lv_at hl 1 rfl) ?_
    refine lv_iadd hx hb dX13_lightAt_19 ?_
    obtain ⟨hi_4, hf⟩ := os_if hf
    refine va_iald hx hb hK hP 5 0 rfl rfl hi_4 dX13_lightAt_20 ?_
    obtain ⟨u_5, he_6, hf⟩ := os_bd hf
    refine mc_callV ⟨hx, hb, hml, hown, hts⟩ (mm_X13_lightOf l D kA N q_this o_this ((os_A o_this 4) (Int32.toNatClampNeg (((16 : Int32) * a2) + a1))) u_5 he_6) (cwV 1 hts gX13_lightAt_X13_lightOf rfl rfl rfl (by decide +kernel) ⟨Nat.le_of_ble_eq_true rfl, Nat.le_of_ble_eq_true rfl⟩) (wc := (ce_X13 kA q_this o_this)) (ci := 9) (q0 := 0) rfl rfl rfl hl.1 (As := [.int ((os_A o_this 4) (Int32.toNatClampNeg (((16 : Int32) * a2) + a1)))]) (rest := []) rfl (Nat.le_of_ble_eq_true rfl) dX13_lightAt_21 ⟨Nat.le_of_ble_eq_true rfl, Nat.le_of_ble_eq_true rfl⟩ hK hP hD hS hA [0, 1, 2, 3, 4, 5, 6, 7, 8, 9, 10, 11, 12, 13, 14, 15, 16, 17, 18, 19, 20, 21, 22, 23] [] [0, 1, 2, 3, 4, 5, 6, 7, 8, 9, 10, 11, 12, 13, 14, 15, 16, 17, 18, 19, 20, 21, 22, 23] rfl (by decide) rfl (by decide) (by decide) rfl (by decide) (wr := []) (w2 := (ce_X13 kA q_this o_this)) (fun H locs hP hD hS => ?_)
    have hP : va_P D vwCl (ce_X13 kA q_this o_this) H := hP
    refine lv_goto (tgt := 28) hx hb dX13_lightAt_24 (by decide) ?_
    rw [← Option.some.inj hf]
    exact mc_retf hx hb hr hlk hP hK hD hS dX13_lightAt_28
def ff_X13_estimateAt (N : Nat) (o_this : os_T) (a1 : Int32) (a2 : Int32) : Option UInt32 :=
  (if os_in (((16 : Int32) * a2) + a1) 192 then ((ff_X13_lightOf N o_this ((os_A o_this 4) (Int32.toNatClampNeg (((16 : Int32) * a2) + a1)))).bind fun u_2 => (if os_nn (FP.fmul u_2 (1082130432 : UInt32)) then ((ff_X13_lightAt N o_this (a1 - (1 : Int32)) a2 u_2).bind fun u_5 => (if os_nn (FP.fadd (FP.fmul u_2 (1082130432 : UInt32)) u_5) then ((ff_X13_lightAt N o_this (a1 + (1 : Int32)) a2 u_2).bind fun u_8 => (if os_nn (FP.fadd (FP.fadd (FP.fmul u_2 (1082130432 : UInt32)) u_5) u_8) then ((ff_X13_lightAt N o_this a1 (a2 - (1 : Int32)) u_2).bind fun u_11 => (if os_nn (FP.fadd (FP.fadd (FP.fadd (FP.fmul u_2 (1082130432 : UInt32)) u_5) u_8) u_11) then ((ff_X13_lightAt N o_this a1 (a2 + (1 : Int32)) u_2).bind fun u_14 => (if os_nn (FP.fadd (FP.fadd (FP.fadd (FP.fadd (FP.fmul u_2 (1082130432 : UInt32)) u_5) u_8) u_11) u_14) then (if os_nn (FP.fdiv (FP.fadd (FP.fadd (FP.fadd (FP.fadd (FP.fmul u_2 (1082130432 : UInt32)) u_5) u_8) u_11) u_14) (1090519040 : UInt32)) then some (FP.fdiv (FP.fadd (FP.fadd (FP.fadd (FP.fadd (FP.fmul u_2 (1082130432 : UInt32)) u_5) u_8) u_11) u_14) (1090519040 : UInt32)) else none) else none)) else none)) else none)) else none)) else none)) else none)
set_option maxHeartbeats 4000000 in
set_option maxRecDepth 100000 in
theorem mm_X13_estimateAt (l : Launch) (D : va_G) (kA : Nat → ClassId) (N : Nat) (q_this : Nat → Nat) (o_this : os_T) (a1 : Int32) (a2 : Int32) (out : UInt32) (hf : ff_X13_estimateAt N o_this a1 a2 = some out) : mc_C l D kA yX13_estimateAt wsX13_estimateAt ({ frames := 3, cells := 0, slots := 0, locals := 70 } : Room) [.ref (q_this 0), .int a1, .int a2] (ce_X13 kA q_this o_this) (some (.float out)) (ce_X13 kA q_this o_this) := by
  refine mc_of (cc := cX13_estimateAt) (maxL := 5) (ret := (some .float)) (by decide) rfl (Nat.le_of_ble_eq_true rfl) ?_
  intro p e s m below meth c A B hD hP hS ls hl
  obtain ⟨hx, hb, hr, hlk, hml, hown, hts, hK, hA, hnm⟩ := B
  have hown : s.vm.findClass RX13 = some m.cls := hown
  have hl : lv_has ls 5 [(0, .ref (q_this 0)), (1, .int a1), (2, .int a2)] := hl
  have hUX13 : ∀ w ∈ u_ws RX13 TX13 48, w.before [.ref (q_this 0), .int a1, .int a2].toArray s = true := fun w h => hts w (List.mem_cons_of_mem _ (List.mem_append_right _ h))
  unfold ff_X13_estimateAt at hf
  refine lv_aload_n hx hb dX13_estimateAt_0 rfl (lv_at hl 0 rfl) ?_
  refine lv_aload_n hx hb dX13_estimateAt_1 rfl (lv_at hl 0 rfl) ?_
  refine va_get (D := D) (ci := 9) (v := .ref (q_this 5)) (C := RX13) (T := TX13) (N := 48) hx hb hUX13 (fun _ h9 => h9) hown hK hP 0 rfl rfl 16 (by decide) (hts (Cond.fieldLink RX13 29 "ReliefBuilderModel" "heights" "[I") (List.mem_of_getElem? (i := 1) rfl)) (fun _ h9 => h9) rfl dX13_estimateAt_2 ?_
  refine lv_bipush (v := 16) hx hb dX13_estimateAt_5 (by decide) ?_
  refine lv_iload_n hx hb dX13_estimateAt_7 rfl (lv_at hl 2 rfl) ?_
  refine lv_imul hx hb dX13_estimateAt_8 ?_
  refine lv_iload_n hx hb dX13_estimateAt_9 rfl (lv_at hl 1 rfl) ?_
  refine lv_iadd hx hb dX13_estimateAt_10 ?_
  obtain ⟨hi_1, hf⟩ := os_if hf
  refine va_iald hx hb hK hP 5 0 rfl rfl hi_1 dX13_estimateAt_11 ?_
  obtain ⟨u_2, he_3, hf⟩ := os_bd hf
  refine mc_callV ⟨hx, hb, hml, hown, hts⟩ (mm_X13_lightOf l D kA N q_this o_this ((os_A o_this 4) (Int32.toNatClampNeg (((16 : Int32) * a2) + a1))) u_2 he_3) (cwV 1 hts gX13_estimateAt_X13_lightOf rfl rfl rfl (by decide +kernel) ⟨Nat.le_of_ble_eq_true rfl, Nat.le_of_ble_eq_true rfl⟩) (wc := (ce_X13 kA q_this o_this)) (ci := 9) (q0 := 0) rfl rfl rfl hl.1 (As := [.int ((os_A o_this 4) (Int32.toNatClampNeg (((16 : Int32) * a2) + a1)))]) (rest := []) rfl (Nat.le_of_ble_eq_true rfl) dX13_estimateAt_12 ⟨Nat.le_of_ble_eq_true rfl, Nat.le_of_ble_eq_true rfl⟩ hK hP hD hS hA [0, 1, 2, 3, 4, 5, 6, 7, 8, 9, 10, 11, 12, 13, 14, 15, 16, 17, 18, 19, 20, 21, 22, 23] [] [0, 1, 2, 3, 4, 5, 6, 7, 8, 9, 10, 11, 12, 13, 14, 15, 16, 17, 18, 19, 20, 21, 22, 23] rfl (by decide) rfl (by decide) (by decide) rfl (by decide) (wr := []) (w2 := (ce_X13 kA q_this o_this)) (fun H locs hP hD hS => ?_)
  have hP : va_P D vwCl (ce_X13 kA q_this o_this) H := hP
  refine lv_fstore_n (lv' := [(3, .float u_2), (0, .ref (q_this 0)), (1, .int a1), (2, .int a2)]) hx hb dX13_estimateAt_15 rfl hl (by decide) rfl (fun ls hl => ?_)
  refine lv_fload_n hx hb dX13_estimateAt_16 rfl (lv_at hl 0 rfl) ?_
  refine lv_ldcwF hx hb hown (hts (Cond.constantFloat RX13 278 (1082130432)) (List.mem_of_getElem? (i := 2) rfl)) dX13_estimateAt_17 ?_
  obtain ⟨hn_4, hf⟩ := os_if hf
  refine lv_fmul hx hb dX13_estimateAt_20 hn_4 ?_
  refine lv_aload_n hx hb dX13_estimateAt_21 rfl (lv_at hl 1 rfl) ?_
  refine lv_iload_n hx hb dX13_estimateAt_22 rfl (lv_at hl 2 rfl) ?_
  refine lv_iconst (v := 1) hx hb dX13_estimateAt_23 (by decide) ?_
  refine lv_isub hx hb dX13_estimateAt_24 ?_
  refine lv_iload_n hx hb dX13_estimateAt_25 rfl (lv_at hl 3 rfl) ?_
  refine lv_fload_n hx hb dX13_estimateAt_26 rfl (lv_at hl 0 rfl) ?_
  obtain ⟨u_5, he_6, hf⟩ := os_bd hf
  refine mc_callV ⟨hx, hb, hml, hown, hts⟩ (mm_X13_lightAt l D kA N q_this o_this (a1 - (1 : Int32)) a2 u_2 u_5 he_6) (cwV 3 hts gX13_estimateAt_X13_lightAt rfl rfl rfl (by decide +kernel) ⟨Nat.le_of_ble_eq_true rfl, Nat.le_of_ble_eq_true rfl⟩) (wc := (ce_X13 kA q_this o_this)) (ci := 9) (q0 := 0) rfl rfl rfl hl.1 (As := [.int (a1 - (1 : Int32)), .int a2, .float u_2]) (rest := [.float (FP.fmul u_2 (1082130432 : UInt32))]) rfl (Nat.le_of_ble_eq_true rfl) dX13_estimateAt_27 ⟨Nat.le_of_ble_eq_true rfl, Nat.le_of_ble_eq_true rfl⟩ hK hP hD hS hA [0, 1, 2, 3, 4, 5, 6, 7, 8, 9, 10, 11, 12, 13, 14, 15, 16, 17, 18, 19, 20, 21, 22, 23] [] [0, 1, 2, 3, 4, 5, 6, 7, 8, 9, 10, 11, 12, 13, 14, 15, 16, 17, 18, 19, 20, 21, 22, 23] rfl (by decide) rfl (by decide) (by decide) rfl (by decide) (wr := []) (w2 := (ce_X13 kA q_this o_this)) (fun H locs hP hD hS => ?_)
  have hP : va_P D vwCl (ce_X13 kA q_this o_this) H := hP
  obtain ⟨hn_7, hf⟩ := os_if hf
  refine lv_fadd hx hb dX13_estimateAt_30 hn_7 ?_
  refine lv_fstore (lv' := [(4, .float (FP.fadd (FP.fmul u_2 (1082130432 : UInt32)) u_5)), (3, .float u_2), (0, .ref (q_this 0)), (1, .int a1), (2, .int a2)]) hx hb dX13_estimateAt_31 hl (by decide) rfl (fun ls hl => ?_)
  refine lv_fload hx hb dX13_estimateAt_33 (lv_at hl 0 rfl) ?_
  refine lv_aload_n hx hb dX13_estimateAt_35 rfl (lv_at hl 2 rfl) ?_
  refine lv_iload_n hx hb dX13_estimateAt_36 rfl (lv_at hl 3 rfl) ?_
  refine lv_iconst (v := 1) hx hb dX13_estimateAt_37 (by decide) ?_
  refine lv_iadd hx hb dX13_estimateAt_38 ?_
  refine lv_iload_n hx hb dX13_estimateAt_39 rfl (lv_at hl 4 rfl) ?_
  refine lv_fload_n hx hb dX13_estimateAt_40 rfl (lv_at hl 1 rfl) ?_
  obtain ⟨u_8, he_9, hf⟩ := os_bd hf
  refine mc_callV ⟨hx, hb, hml, hown, hts⟩ (mm_X13_lightAt l D kA N q_this o_this (a1 + (1 : Int32)) a2 u_2 u_8 he_9) (cwV 3 hts gX13_estimateAt_X13_lightAt rfl rfl rfl (by decide +kernel) ⟨Nat.le_of_ble_eq_true rfl, Nat.le_of_ble_eq_true rfl⟩) (wc := (ce_X13 kA q_this o_this)) (ci := 9) (q0 := 0) rfl rfl rfl hl.1 (As := [.int (a1 + (1 : Int32)), .int a2, .float u_2]) (rest := [.float (FP.fadd (FP.fmul u_2 (1082130432 : UInt32)) u_5)]) rfl (Nat.le_of_ble_eq_true rfl) dX13_estimateAt_41 ⟨Nat.le_of_ble_eq_true rfl, Nat.le_of_ble_eq_true rfl⟩ hK hP hD hS hA [0, 1, 2, 3, 4, 5, 6, 7, 8, 9, 10, 11, 12, 13, 14, 15, 16, 17, 18, 19, 20, 21, 22, 23] [] [0, 1, 2, 3, 4, 5, 6, 7, 8, 9, 10, 11, 12, 13, 14, 15, 16, 17, 18, 19, 20, 21, 22, 23] rfl (by decide) rfl (by decide) (by decide) rfl (by decide) (wr := []) (w2 := (ce_X13 kA q_this o_this)) (fun H locs hP hD hS => ?_)
  have hP : va_P D vwCl (ce_X13 kA q_this o_this) H := hP
  obtain ⟨hn_10, hf⟩ := os_if hf
  refine lv_fadd hx hb dX13_estimateAt_44 hn_10 ?_
  refine lv_fstore (lv' := [(4, .float (FP.fadd (FP.fadd (FP.fmul u_2 (1082130432 : UInt32)) u_5) u_8)), (3, .float u_2), (0, .ref (q_this 0)), (1, .int a1), (2, .int a2)]) hx hb dX13_estimateAt_45 hl (by decide) rfl (fun ls hl => ?_)
  refine lv_fload hx hb dX13_estimateAt_47 (lv_at hl 0 rfl) ?_
  refine lv_aload_n hx hb dX13_estimateAt_49 rfl (lv_at hl 2 rfl) ?_
  refine lv_iload_n hx hb dX13_estimateAt_50 rfl (lv_at hl 3 rfl) ?_
  refine lv_iload_n hx hb dX13_estimateAt_51 rfl (lv_at hl 4 rfl) ?_
  refine lv_iconst (v := 1) hx hb dX13_estimateAt_52 (by decide) ?_
  refine lv_isub hx hb dX13_estimateAt_53 ?_
  refine lv_fload_n hx hb dX13_estimateAt_54 rfl (lv_at hl 1 rfl) ?_
  obtain ⟨u_11, he_12, hf⟩ := os_bd hf
  refine mc_callV ⟨hx, hb, hml, hown, hts⟩ (mm_X13_lightAt l D kA N q_this o_this a1 (a2 - (1 : Int32)) u_2 u_11 he_12) (cwV 3 hts gX13_estimateAt_X13_lightAt rfl rfl rfl (by decide +kernel) ⟨Nat.le_of_ble_eq_true rfl, Nat.le_of_ble_eq_true rfl⟩) (wc := (ce_X13 kA q_this o_this)) (ci := 9) (q0 := 0) rfl rfl rfl hl.1 (As := [.int a1, .int (a2 - (1 : Int32)), .float u_2]) (rest := [.float (FP.fadd (FP.fadd (FP.fmul u_2 (1082130432 : UInt32)) u_5) u_8)]) rfl (Nat.le_of_ble_eq_true rfl) dX13_estimateAt_55 ⟨Nat.le_of_ble_eq_true rfl, Nat.le_of_ble_eq_true rfl⟩ hK hP hD hS hA [0, 1, 2, 3, 4, 5, 6, 7, 8, 9, 10, 11, 12, 13, 14, 15, 16, 17, 18, 19, 20, 21, 22, 23] [] [0, 1, 2, 3, 4, 5, 6, 7, 8, 9, 10, 11, 12, 13, 14, 15, 16, 17, 18, 19, 20, 21, 22, 23] rfl (by decide) rfl (by decide) (by decide) rfl (by decide) (wr := []) (w2 := (ce_X13 kA q_this o_this)) (fun H locs hP hD hS => ?_)
  have hP : va_P D vwCl (ce_X13 kA q_this o_this) H := hP
  obtain ⟨hn_13, hf⟩ := os_if hf
  refine lv_fadd hx hb dX13_estimateAt_58 hn_13 ?_
  refine lv_fstore (lv' := [(4, .float (FP.fadd (FP.fadd (FP.fadd (FP.fmul u_2 (1082130432 : UInt32)) u_5) u_8) u_11)), (3, .float u_2), (0, .ref (q_this 0)), (1, .int a1), (2, .int a2)]) hx hb dX13_estimateAt_59 hl (by decide) rfl (fun ls hl => ?_)
  refine lv_fload hx hb dX13_estimateAt_61 (lv_at hl 0 rfl) ?_
  refine lv_aload_n hx hb dX13_estimateAt_63 rfl (lv_at hl 2 rfl) ?_
  refine lv_iload_n hx hb dX13_estimateAt_64 rfl (lv_at hl 3 rfl) ?_
  refine lv_iload_n hx hb dX13_estimateAt_65 rfl (lv_at hl 4 rfl) ?_
  refine lv_iconst (v := 1) hx hb dX13_estimateAt_66 (by decide) ?_
  refine lv_iadd hx hb dX13_estimateAt_67 ?_
  refine lv_fload_n hx hb dX13_estimateAt_68 rfl (lv_at hl 1 rfl) ?_
  obtain ⟨u_14, he_15, hf⟩ := os_bd hf
  refine mc_callV ⟨hx, hb, hml, hown, hts⟩ (mm_X13_lightAt l D kA N q_this o_this a1 (a2 + (1 : Int32)) u_2 u_14 he_15) (cwV 3 hts gX13_estimateAt_X13_lightAt rfl rfl rfl (by decide +kernel) ⟨Nat.le_of_ble_eq_true rfl, Nat.le_of_ble_eq_true rfl⟩) (wc := (ce_X13 kA q_this o_this)) (ci := 9) (q0 := 0) rfl rfl rfl hl.1 (As := [.int a1, .int (a2 + (1 : Int32)), .float u_2]) (rest := [.float (FP.fadd (FP.fadd (FP.fadd (FP.fmul u_2 (1082130432 : UInt32)) u_5) u_8) u_11)]) rfl (Nat.le_of_ble_eq_true rfl) dX13_estimateAt_69 ⟨Nat.le_of_ble_eq_true rfl, Nat.le_of_ble_eq_true rfl⟩ hK hP hD hS hA [0, 1, 2, 3, 4, 5, 6, 7, 8, 9, 10, 11, 12, 13, 14, 15, 16, 17, 18, 19, 20, 21, 22, 23] [] [0, 1, 2, 3, 4, 5, 6, 7, 8, 9, 10, 11, 12, 13, 14, 15, 16, 17, 18, 19, 20, 21, 22, 23] rfl (by decide) rfl (by decide) (by decide) rfl (by decide) (wr := []) (w2 := (ce_X13 kA q_this o_this)) (fun H locs hP hD hS => ?_)
  have hP : va_P D vwCl (ce_X13 kA q_this o_this) H := hP
  obtain ⟨hn_16, hf⟩ := os_if hf
  refine lv_fadd hx hb dX13_estimateAt_72 hn_16 ?_
  refine lv_fstore (lv' := [(4, .float (FP.fadd (FP.fadd (FP.fadd (FP.fadd (FP.fmul u_2 (1082130432 : UInt32)) u_5) u_8) u_11) u_14)), (3, .float u_2), (0, .ref (q_this 0)), (1, .int a1), (2, .int a2)]) hx hb dX13_estimateAt_73 hl (by decide) rfl (fun ls hl => ?_)
  refine lv_fload hx hb dX13_estimateAt_75 (lv_at hl 0 rfl) ?_
  refine lv_ldcwF hx hb hown (hts (Cond.constantFloat RX13 283 (1090519040)) (List.mem_of_getElem? (i := 3) rfl)) dX13_estimateAt_77 ?_
  obtain ⟨hn_17, hf⟩ := os_if hf
  refine lv_fdiv hx hb dX13_estimateAt_80 hn_17 ?_
  rw [← Option.some.inj hf]
  exact mc_retf hx hb hr hlk hP hK hD hS dX13_estimateAt_81
def ff_X13_errorAt (N : Nat) (o_this : os_T) (a1 : Int32) (a2 : Int32) : Option UInt32 :=
  ((ff_X13_estimateAt N o_this a1 a2).bind fun u_1 => (if os_in (((16 : Int32) * a2) + a1) 192 then ((ff_X13_wantedBy N ((os_A o_this 3) (Int32.toNatClampNeg (((16 : Int32) * a2) + a1)))).bind fun u_4 => (if os_nn (FP.fsub u_1 u_4) then some (FP.fsub u_1 u_4) else none)) else none))
set_option maxHeartbeats 4000000 in
set_option maxRecDepth 100000 in
theorem mm_X13_errorAt (l : Launch) (D : va_G) (kA : Nat → ClassId) (N : Nat) (q_this : Nat → Nat) (o_this : os_T) (a1 : Int32) (a2 : Int32) (out : UInt32) (hf : ff_X13_errorAt N o_this a1 a2 = some out) : mc_C l D kA yX13_errorAt wsX13_errorAt ({ frames := 4, cells := 0, slots := 0, locals := 94 } : Room) [.ref (q_this 0), .int a1, .int a2] (ce_X13 kA q_this o_this) (some (.float out)) (ce_X13 kA q_this o_this) := by
  refine mc_of (cc := cX13_errorAt) (maxL := 3) (ret := (some .float)) (by decide) rfl (Nat.le_of_ble_eq_true rfl) ?_
  intro p e s m below meth c A B hD hP hS ls hl
  obtain ⟨hx, hb, hr, hlk, hml, hown, hts, hK, hA, hnm⟩ := B
  have hown : s.vm.findClass RX13 = some m.cls := hown
  have hl : lv_has ls 3 [(0, .ref (q_this 0)), (1, .int a1), (2, .int a2)] := hl
  have hUX13 : ∀ w ∈ u_ws RX13 TX13 48, w.before [.ref (q_this 0), .int a1, .int a2].toArray s = true := fun w h => hts w (List.mem_cons_of_mem _ (List.mem_append_right _ h))
  unfold ff_X13_errorAt at hf
  refine lv_aload_n hx hb dX13_errorAt_0 rfl (lv_at hl 0 rfl) ?_
  refine lv_iload_n hx hb dX13_errorAt_1 rfl (lv_at hl 1 rfl) ?_
  refine lv_iload_n hx hb dX13_errorAt_2 rfl (lv_at hl 2 rfl) ?_
  obtain ⟨u_1, he_2, hf⟩ := os_bd hf
  refine mc_callV ⟨hx, hb, hml, hown, hts⟩ (mm_X13_estimateAt l D kA N q_this o_this a1 a2 u_1 he_2) (cwV 2 hts gX13_errorAt_X13_estimateAt rfl rfl rfl (by decide +kernel) ⟨Nat.le_of_ble_eq_true rfl, Nat.le_of_ble_eq_true rfl⟩) (wc := (ce_X13 kA q_this o_this)) (ci := 9) (q0 := 0) rfl rfl rfl hl.1 (As := [.int a1, .int a2]) (rest := []) rfl (Nat.le_of_ble_eq_true rfl) dX13_errorAt_3 ⟨Nat.le_of_ble_eq_true rfl, Nat.le_of_ble_eq_true rfl⟩ hK hP hD hS hA [0, 1, 2, 3, 4, 5, 6, 7, 8, 9, 10, 11, 12, 13, 14, 15, 16, 17, 18, 19, 20, 21, 22, 23] [] [0, 1, 2, 3, 4, 5, 6, 7, 8, 9, 10, 11, 12, 13, 14, 15, 16, 17, 18, 19, 20, 21, 22, 23] rfl (by decide) rfl (by decide) (by decide) rfl (by decide) (wr := []) (w2 := (ce_X13 kA q_this o_this)) (fun H locs hP hD hS => ?_)
  have hP : va_P D vwCl (ce_X13 kA q_this o_this) H := hP
  refine lv_aload_n hx hb dX13_errorAt_6 rfl (lv_at hl 0 rfl) ?_
  refine va_get (D := D) (ci := 9) (v := .ref (q_this 4)) (C := RX13) (T := TX13) (N := 48) hx hb hUX13 (fun _ h9 => h9) hown hK hP 0 rfl rfl 15 (by decide) (hts (Cond.fieldLink RX13 26 "ReliefBuilderModel" "tones" "[I") (List.mem_of_getElem? (i := 1) rfl)) (fun _ h9 => h9) rfl dX13_errorAt_7 ?_
  refine lv_bipush (v := 16) hx hb dX13_errorAt_10 (by decide) ?_
  refine lv_iload_n hx hb dX13_errorAt_12 rfl (lv_at hl 2 rfl) ?_
  refine lv_imul hx hb dX13_errorAt_13 ?_
  refine lv_iload_n hx hb dX13_errorAt_14 rfl (lv_at hl 1 rfl) ?_
  refine lv_iadd hx hb dX13_errorAt_15 ?_
  obtain ⟨hi_3, hf⟩ := os_if hf
  refine va_iald hx hb hK hP 4 0 rfl rfl hi_3 dX13_errorAt_16 ?_
  obtain ⟨u_4, he_5, hf⟩ := os_bd hf
  refine mc_callS ⟨hx, hb, hml, hown, hts⟩ (mm_X13_wantedBy l D kA N ((os_A o_this 3) (Int32.toNatClampNeg (((16 : Int32) * a2) + a1))) u_4 he_5) (va_cwS 1 hts gX13_errorAt_X13_wantedBy rfl rfl rfl (by decide +kernel) ⟨Nat.le_of_ble_eq_true rfl, Nat.le_of_ble_eq_true rfl⟩) (wc := []) rfl hl.1 (As := [.int ((os_A o_this 3) (Int32.toNatClampNeg (((16 : Int32) * a2) + a1)))]) (rest := [.float u_1]) rfl (Nat.le_of_ble_eq_true rfl) dX13_errorAt_17 ⟨Nat.le_of_ble_eq_true rfl, Nat.le_of_ble_eq_true rfl⟩ hK hP hD hS hA [] [0, 1, 2, 3, 4, 5, 6, 7, 8, 9, 10, 11, 12, 13, 14, 15, 16, 17, 18, 19, 20, 21, 22, 23] [0, 1, 2, 3, 4, 5, 6, 7, 8, 9, 10, 11, 12, 13, 14, 15, 16, 17, 18, 19, 20, 21, 22, 23] rfl (by decide) rfl (by decide) (by decide) rfl (by decide) (wr := (ce_X13 kA q_this o_this)) (w2 := (ce_X13 kA q_this o_this)) (fun H locs hP hD hS => ?_)
  have hP : va_P D vwCl (ce_X13 kA q_this o_this) H := hP
  obtain ⟨hn_6, hf⟩ := os_if hf
  refine lv_fsub hx hb dX13_errorAt_20 hn_6 ?_
  rw [← Option.some.inj hf]
  exact mc_retf hx hb hr hlk hP hK hD hS dX13_errorAt_21
def ff_X13_estimate (N : Nat) (o_this : os_T) (a1 : Int32) (a2 : Int32) : Option (UInt32 × os_T) :=
  ((ff_X13_isCell N o_this a1 a2).bind fun u_1 => ((ff_X13_goes N o_this u_1).bind fun u_3 => (if u_3.1 = 0 then some (FP.fconst0, u_3.2) else ((ff_X13_estimateAt N u_3.2 a1 a2).bind fun u_6 => some (u_6, u_3.2)))))
set_option maxHeartbeats 4000000 in
set_option maxRecDepth 100000 in
theorem mm_X13_estimate (l : Launch) (D : va_G) (kA : Nat → ClassId) (N : Nat) (q_this : Nat → Nat) (o_this : os_T) (a1 : Int32) (a2 : Int32) (out : (UInt32 × os_T)) (hf : ff_X13_estimate N o_this a1 a2 = some out) : mc_C l D kA yX13_estimate wsX13_estimate ({ frames := 4, cells := 0, slots := 0, locals := 94 } : Room) [.ref (q_this 0), .int a1, .int a2] (ce_X13 kA q_this o_this) (some (.float out.1)) (ce_X13 kA q_this out.2) := by
  refine mc_of (cc := cX13_estimate) (maxL := 3) (ret := (some .float)) (by decide) rfl (Nat.le_of_ble_eq_true rfl) ?_
  intro p e s m below meth c A B hD hP hS ls hl
  obtain ⟨hx, hb, hr, hlk, hml, hown, hts, hK, hA, hnm⟩ := B
  have hown : s.vm.findClass RX13 = some m.cls := hown
  have hl : lv_has ls 3 [(0, .ref (q_this 0)), (1, .int a1), (2, .int a2)] := hl
  unfold ff_X13_estimate at hf
  refine lv_aload_n hx hb dX13_estimate_0 rfl (lv_at hl 0 rfl) ?_
  refine lv_aload_n hx hb dX13_estimate_1 rfl (lv_at hl 0 rfl) ?_
  refine lv_iload_n hx hb dX13_estimate_2 rfl (lv_at hl 1 rfl) ?_
  refine lv_iload_n hx hb dX13_estimate_3 rfl (lv_at hl 2 rfl) ?_
  obtain ⟨u_1, he_2, hf⟩ := os_bd hf
  refine mc_callV ⟨hx, hb, hml, hown, hts⟩ (mm_X13_isCell l D kA N q_this o_this a1 a2 u_1 he_2) (cwV 2 hts gX13_estimate_X13_isCell rfl rfl rfl (by decide +kernel) ⟨Nat.le_of_ble_eq_true rfl, Nat.le_of_ble_eq_true rfl⟩) (wc := (ce_X13 kA q_this o_this)) (ci := 9) (q0 := 0) rfl rfl rfl hl.1 (As := [.int a1, .int a2]) (rest := [.ref (q_this 0)]) rfl (Nat.le_of_ble_eq_true rfl) dX13_estimate_4 ⟨Nat.le_of_ble_eq_true rfl, Nat.le_of_ble_eq_true rfl⟩ hK hP hD hS hA [0, 1, 2, 3, 4, 5, 6, 7, 8, 9, 10, 11, 12, 13, 14, 15, 16, 17, 18, 19, 20, 21, 22, 23] [] [0, 1, 2, 3, 4, 5, 6, 7, 8, 9, 10, 11, 12, 13, 14, 15, 16, 17, 18, 19, 20, 21, 22, 23] rfl (by decide) rfl (by decide) (by decide) rfl (by decide) (wr := []) (w2 := (ce_X13 kA q_this o_this)) (fun H locs hP hD hS => ?_)
  have hP : va_P D vwCl (ce_X13 kA q_this o_this) H := hP
  obtain ⟨u_3, he_4, hf⟩ := os_bd hf
  refine mc_callV ⟨hx, hb, hml, hown, hts⟩ (mm_X13_goes l D kA N q_this o_this u_1 u_3 he_4) (cwV 1 hts gX13_estimate_X13_goes rfl rfl rfl (by decide +kernel) ⟨Nat.le_of_ble_eq_true rfl, Nat.le_of_ble_eq_true rfl⟩) (wc := (ce_X13 kA q_this o_this)) (ci := 9) (q0 := 0) rfl rfl rfl hl.1 (As := [.int u_1]) (rest := []) rfl (Nat.le_of_ble_eq_true rfl) dX13_estimate_7 ⟨Nat.le_of_ble_eq_true rfl, Nat.le_of_ble_eq_true rfl⟩ hK hP hD hS hA [0, 1, 2, 3, 4, 5, 6, 7, 8, 9, 10, 11, 12, 13, 14, 15, 16, 17, 18, 19, 20, 21, 22, 23] [] [0, 1, 2, 3, 4, 5, 6, 7, 8, 9, 10, 11, 12, 13, 14, 15, 16, 17, 18, 19, 20, 21, 22, 23] rfl (by decide) rfl (by decide) (by decide) rfl (by decide) (wr := []) (w2 := (ce_X13 kA q_this u_3.2)) (fun H locs hP hD hS => ?_)
  have hP : va_P D vwCl (ce_X13 kA q_this u_3.2) H := hP
  refine lv_if_eq (tgt := 22) hx hb dX13_estimate_10 (by decide) (fun hc_5 => ?_) (fun hc_5 => ?_)
  · rw [if_pos hc_5] at hf
    refine lv_fconst0 hx hb dX13_estimate_22 ?_
    rw [← Option.some.inj hf]
    exact mc_retf hx hb hr hlk hP hK hD hS dX13_estimate_23
  · rw [if_neg hc_5] at hf
    refine lv_aload_n hx hb dX13_estimate_13 rfl (lv_at hl 0 rfl) ?_
    refine lv_iload_n hx hb dX13_estimate_14 rfl (lv_at hl 1 rfl) ?_
    refine lv_iload_n hx hb dX13_estimate_15 rfl (lv_at hl 2 rfl) ?_
    obtain ⟨u_6, he_7, hf⟩ := os_bd hf
    refine mc_callV ⟨hx, hb, hml, hown, hts⟩ (mm_X13_estimateAt l D kA N q_this u_3.2 a1 a2 u_6 he_7) (cwV 2 hts gX13_estimate_X13_estimateAt rfl rfl rfl (by decide +kernel) ⟨Nat.le_of_ble_eq_true rfl, Nat.le_of_ble_eq_true rfl⟩) (wc := (ce_X13 kA q_this u_3.2)) (ci := 9) (q0 := 0) rfl rfl rfl hl.1 (As := [.int a1, .int a2]) (rest := []) rfl (Nat.le_of_ble_eq_true rfl) dX13_estimate_16 ⟨Nat.le_of_ble_eq_true rfl, Nat.le_of_ble_eq_true rfl⟩ hK hP hD hS hA [0, 1, 2, 3, 4, 5, 6, 7, 8, 9, 10, 11, 12, 13, 14, 15, 16, 17, 18, 19, 20, 21, 22, 23] [] [0, 1, 2, 3, 4, 5, 6, 7, 8, 9, 10, 11, 12, 13, 14, 15, 16, 17, 18, 19, 20, 21, 22, 23] rfl (by decide) rfl (by decide) (by decide) rfl (by decide) (wr := []) (w2 := (ce_X13 kA q_this u_3.2)) (fun H locs hP hD hS => ?_)
    have hP : va_P D vwCl (ce_X13 kA q_this u_3.2) H := hP
    refine lv_goto (tgt := 23) hx hb dX13_estimate_19 (by decide) ?_
    rw [← Option.some.inj hf]
    exact mc_retf hx hb hr hlk hP hK hD hS dX13_estimate_23
def ff_X13_error (N : Nat) (o_this : os_T) (a1 : Int32) (a2 : Int32) : Option (UInt32 × os_T) :=
  ((ff_X13_isCell N o_this a1 a2).bind fun u_1 => ((ff_X13_goes N o_this u_1).bind fun u_3 => (if u_3.1 = 0 then some (FP.fconst0, u_3.2) else ((ff_X13_errorAt N u_3.2 a1 a2).bind fun u_6 => some (u_6, u_3.2)))))
set_option maxHeartbeats 4000000 in
set_option maxRecDepth 100000 in
theorem mm_X13_error (l : Launch) (D : va_G) (kA : Nat → ClassId) (N : Nat) (q_this : Nat → Nat) (o_this : os_T) (a1 : Int32) (a2 : Int32) (out : (UInt32 × os_T)) (hf : ff_X13_error N o_this a1 a2 = some out) : mc_C l D kA yX13_error wsX13_error ({ frames := 5, cells := 0, slots := 0, locals := 116 } : Room) [.ref (q_this 0), .int a1, .int a2] (ce_X13 kA q_this o_this) (some (.float out.1)) (ce_X13 kA q_this out.2) := by
  refine mc_of (cc := cX13_error) (maxL := 3) (ret := (some .float)) (by decide) rfl (Nat.le_of_ble_eq_true rfl) ?_
  intro p e s m below meth c A B hD hP hS ls hl
  obtain ⟨hx, hb, hr, hlk, hml, hown, hts, hK, hA, hnm⟩ := B
  have hown : s.vm.findClass RX13 = some m.cls := hown
  have hl : lv_has ls 3 [(0, .ref (q_this 0)), (1, .int a1), (2, .int a2)] := hl
  unfold ff_X13_error at hf
  refine lv_aload_n hx hb dX13_error_0 rfl (lv_at hl 0 rfl) ?_
  refine lv_aload_n hx hb dX13_error_1 rfl (lv_at hl 0 rfl) ?_
  refine lv_iload_n hx hb dX13_error_2 rfl (lv_at hl 1 rfl) ?_
  refine lv_iload_n hx hb dX13_error_3 rfl (lv_at hl 2 rfl) ?_
  obtain ⟨u_1, he_2, hf⟩ := os_bd hf
  refine mc_callV ⟨hx, hb, hml, hown, hts⟩ (mm_X13_isCell l D kA N q_this o_this a1 a2 u_1 he_2) (cwV 2 hts gX13_error_X13_isCell rfl rfl rfl (by decide +kernel) ⟨Nat.le_of_ble_eq_true rfl, Nat.le_of_ble_eq_true rfl⟩) (wc := (ce_X13 kA q_this o_this)) (ci := 9) (q0 := 0) rfl rfl rfl hl.1 (As := [.int a1, .int a2]) (rest := [.ref (q_this 0)]) rfl (Nat.le_of_ble_eq_true rfl) dX13_error_4 ⟨Nat.le_of_ble_eq_true rfl, Nat.le_of_ble_eq_true rfl⟩ hK hP hD hS hA [0, 1, 2, 3, 4, 5, 6, 7, 8, 9, 10, 11, 12, 13, 14, 15, 16, 17, 18, 19, 20, 21, 22, 23] [] [0, 1, 2, 3, 4, 5, 6, 7, 8, 9, 10, 11, 12, 13, 14, 15, 16, 17, 18, 19, 20, 21, 22, 23] rfl (by decide) rfl (by decide) (by decide) rfl (by decide) (wr := []) (w2 := (ce_X13 kA q_this o_this)) (fun H locs hP hD hS => ?_)
  have hP : va_P D vwCl (ce_X13 kA q_this o_this) H := hP
  obtain ⟨u_3, he_4, hf⟩ := os_bd hf
  refine mc_callV ⟨hx, hb, hml, hown, hts⟩ (mm_X13_goes l D kA N q_this o_this u_1 u_3 he_4) (cwV 1 hts gX13_error_X13_goes rfl rfl rfl (by decide +kernel) ⟨Nat.le_of_ble_eq_true rfl, Nat.le_of_ble_eq_true rfl⟩) (wc := (ce_X13 kA q_this o_this)) (ci := 9) (q0 := 0) rfl rfl rfl hl.1 (As := [.int u_1]) (rest := []) rfl (Nat.le_of_ble_eq_true rfl) dX13_error_7 ⟨Nat.le_of_ble_eq_true rfl, Nat.le_of_ble_eq_true rfl⟩ hK hP hD hS hA [0, 1, 2, 3, 4, 5, 6, 7, 8, 9, 10, 11, 12, 13, 14, 15, 16, 17, 18, 19, 20, 21, 22, 23] [] [0, 1, 2, 3, 4, 5, 6, 7, 8, 9, 10, 11, 12, 13, 14, 15, 16, 17, 18, 19, 20, 21, 22, 23] rfl (by decide) rfl (by decide) (by decide) rfl (by decide) (wr := []) (w2 := (ce_X13 kA q_this u_3.2)) (fun H locs hP hD hS => ?_)
  have hP : va_P D vwCl (ce_X13 kA q_this u_3.2) H := hP
  refine lv_if_eq (tgt := 22) hx hb dX13_error_10 (by decide) (fun hc_5 => ?_) (fun hc_5 => ?_)
  · rw [if_pos hc_5] at hf
    refine lv_fconst0 hx hb dX13_error_22 ?_
    rw [← Option.some.inj hf]
    exact mc_retf hx hb hr hlk hP hK hD hS dX13_error_23
  · rw [if_neg hc_5] at hf
    refine lv_aload_n hx hb dX13_error_13 rfl (lv_at hl 0 rfl) ?_
    refine lv_iload_n hx hb dX13_error_14 rfl (lv_at hl 1 rfl) ?_
    refine lv_iload_n hx hb dX13_error_15 rfl (lv_at hl 2 rfl) ?_
    obtain ⟨u_6, he_7, hf⟩ := os_bd hf
    refine mc_callV ⟨hx, hb, hml, hown, hts⟩ (mm_X13_errorAt l D kA N q_this u_3.2 a1 a2 u_6 he_7) (cwV 2 hts gX13_error_X13_errorAt rfl rfl rfl (by decide +kernel) ⟨Nat.le_of_ble_eq_true rfl, Nat.le_of_ble_eq_true rfl⟩) (wc := (ce_X13 kA q_this u_3.2)) (ci := 9) (q0 := 0) rfl rfl rfl hl.1 (As := [.int a1, .int a2]) (rest := []) rfl (Nat.le_of_ble_eq_true rfl) dX13_error_16 ⟨Nat.le_of_ble_eq_true rfl, Nat.le_of_ble_eq_true rfl⟩ hK hP hD hS hA [0, 1, 2, 3, 4, 5, 6, 7, 8, 9, 10, 11, 12, 13, 14, 15, 16, 17, 18, 19, 20, 21, 22, 23] [] [0, 1, 2, 3, 4, 5, 6, 7, 8, 9, 10, 11, 12, 13, 14, 15, 16, 17, 18, 19, 20, 21, 22, 23] rfl (by decide) rfl (by decide) (by decide) rfl (by decide) (wr := []) (w2 := (ce_X13 kA q_this u_3.2)) (fun H locs hP hD hS => ?_)
    have hP : va_P D vwCl (ce_X13 kA q_this u_3.2) H := hP
    refine lv_goto (tgt := 23) hx hb dX13_error_19 (by decide) ?_
    rw [← Option.some.inj hf]
    exact mc_retf hx hb hr hlk hP hK hD hS dX13_error_23
def ff_X13_meanError_c21 (N : Nat) (k9 : (os_T × UInt32 × Int32) → Option (UInt32 × os_T)) (k21 : (os_T × UInt32 × Int32 × Int32) → Option (UInt32 × os_T)) (o_this : os_T) (x1 : UInt32) (x2 : Int32) (x3 : Int32) : Option (UInt32 × os_T) :=
  (if os_in (0 : Int32) 7 then (if ((os_A o_this 1) (Int32.toNatClampNeg (0 : Int32))) ≤ x3 then k9 (o_this, x1, x2 + 1) else ((ff_X13_errorAt N o_this x3 x2).bind fun u_8 => ((ff_X13_apart N u_8).bind fun u_10 => (if os_nn (FP.fadd x1 u_10) then k21 (o_this, FP.fadd x1 u_10, x2, x3 + 1) else none)))) else none)
def ff_X13_meanError_l21 (N : Nat) (k9 : (os_T × UInt32 × Int32) → Option (UInt32 × os_T)) : Nat → (os_T × UInt32 × Int32 × Int32) → Option (UInt32 × os_T) := os_loop (fun k21 s1 => ff_X13_meanError_c21 N k9 k21 s1.1 s1.2.1 s1.2.2.1 s1.2.2.2)
def ff_X13_meanError_c9 (N : Nat) (k9 : (os_T × UInt32 × Int32) → Option (UInt32 × os_T)) (o_this : os_T) (x1 : UInt32) (x2 : Int32) : Option (UInt32 × os_T) :=
  (if os_in (1 : Int32) 7 then (if ((os_A o_this 1) (Int32.toNatClampNeg (1 : Int32))) ≤ x2 then ((ff_X13_cellMany N o_this).bind fun u_3 => (if os_nn (FP.fdiv x1 (FP.i2f u_3)) then some (FP.fdiv x1 (FP.i2f u_3), o_this) else none)) else ff_X13_meanError_l21 N k9 N (o_this, x1, x2, (0 : Int32))) else none)
def ff_X13_meanError_l9 (N : Nat) : Nat → (os_T × UInt32 × Int32) → Option (UInt32 × os_T) := os_loop (fun k9 s1 => ff_X13_meanError_c9 N k9 s1.1 s1.2.1 s1.2.2)
def ff_X13_meanError (N : Nat) (o_this : os_T) : Option (UInt32 × os_T) :=
  ff_X13_meanError_l9 N N (ss_I o_this 0 (0 : Int32), FP.fconst0, (0 : Int32))
set_option maxHeartbeats 4000000 in
set_option maxRecDepth 100000 in
theorem mm_X13_meanError (l : Launch) (D : va_G) (kA : Nat → ClassId) (N : Nat) (q_this : Nat → Nat) (o_this : os_T) (out : (UInt32 × os_T)) (hf : ff_X13_meanError N o_this = some out) : mc_C l D kA yX13_meanError wsX13_meanError ({ frames := 5, cells := 0, slots := 0, locals := 116 } : Room) [.ref (q_this 0)] (ce_X13 kA q_this o_this) (some (.float out.1)) (ce_X13 kA q_this out.2) := by
  refine mc_of (cc := cX13_meanError) (maxL := 4) (ret := (some .float)) (by decide) rfl (Nat.le_of_ble_eq_true rfl) ?_
  intro p e s m below meth c A B hD hP hS ls hl
  obtain ⟨hx, hb, hr, hlk, hml, hown, hts, hK, hA, hnm⟩ := B
  have hown : s.vm.findClass RX13 = some m.cls := hown
  have hl : lv_has ls 4 [(0, .ref (q_this 0))] := hl
  have hUX13 : ∀ w ∈ u_ws RX13 TX13 48, w.before [.ref (q_this 0)].toArray s = true := fun w h => hts w (List.mem_cons_of_mem _ (List.mem_append_right _ h))
  have hL21 : ∀ (k9 : (os_T × UInt32 × Int32) → Option (UInt32 × os_T)), (∀ (o_this : os_T) (x1 : UInt32) (x2 : Int32) (H : Heap) (locs : List Loc) (ls : Array Slot), va_P D vwCl (ce_X13 kA q_this o_this) H → va_D A (ce_X13 kA q_this o_this) → va_S A s.heap H locs → lv_has ls 4 [(0, .ref (q_this 0)), (1, .float x1), (2, .int x2)] → k9 (o_this, x1, x2) = some out → W p l e ({ frames := 5, cells := 0, slots := 0, locals := 116 } : Room) s m [.ref (q_this 0)].toArray below meth c H locs 0 0 (MQ below (mc_Q D kA A (some (.float out.1)) (ce_X13 kA q_this out.2)) [.ref (q_this 0)].toArray s 0 0 A) (F0 m 9 ls [])) → ∀ (n : Nat) (o_this : os_T) (x1 : UInt32) (x2 : Int32) (x3 : Int32) (H : Heap) (locs : List Loc) (ls : Array Slot), va_P D vwCl (ce_X13 kA q_this o_this) H → va_D A (ce_X13 kA q_this o_this) → va_S A s.heap H locs → lv_has ls 4 [(0, .ref (q_this 0)), (1, .float x1), (2, .int x2), (3, .int x3)] → ff_X13_meanError_l21 N k9 n (o_this, x1, x2, x3) = some out → W p l e ({ frames := 5, cells := 0, slots := 0, locals := 116 } : Room) s m [.ref (q_this 0)].toArray below meth c H locs 0 0 (MQ below (mc_Q D kA A (some (.float out.1)) (ce_X13 kA q_this out.2)) [.ref (q_this 0)].toArray s 0 0 A) (F0 m 21 ls []) := by
    intro k9 hk9 n
    induction n with
    | zero => intro o_this x1 x2 x3 H locs ls _ _ _ _ hf; cases hf
    | succ n hk21 =>
      intro o_this x1 x2 x3 H locs ls hP hD hS hl hf
      have hf : ff_X13_meanError_c21 N k9 (ff_X13_meanError_l21 N k9 n) o_this x1 x2 x3 = some out := hf
      generalize hke : ff_X13_meanError_l21 N k9 n = k21 at hk21 hf
      unfold ff_X13_meanError_c21 at hf
      refine lv_iload_n hx hb dX13_meanError_21 rfl (lv_at hl 3 rfl) ?_
      refine lv_aload_n hx hb dX13_meanError_22 rfl (lv_at hl 0 rfl) ?_
      refine va_get (D := D) (ci := 9) (v := .ref (q_this 2)) (C := RX13) (T := TX13) (N := 48) hx hb hUX13 (fun _ h9 => h9) hown hK hP 0 rfl rfl 13 (by decide) (hts (Cond.fieldLink RX13 20 "ReliefBuilderModel" "now" "[I") (List.mem_of_getElem? (i := 2) rfl)) (fun _ h9 => h9) rfl dX13_meanError_23 ?_
      refine lv_iconst (v := 0) hx hb dX13_meanError_26 (by decide) ?_
      obtain ⟨hi_6, hf⟩ := os_if hf
      refine va_iald hx hb hK hP 2 0 rfl rfl hi_6 dX13_meanError_27 ?_
      refine lv_icmp_ge (tgt := 49) hx hb dX13_meanError_28 (by decide) (fun hc_7 => ?_) (fun hc_7 => ?_)
      · rw [if_pos hc_7] at hf
        refine lv_iinc (v := x2 + 1) (lv' := [(2, .int (x2 + 1)), (0, .ref (q_this 0)), (1, .float x1), (3, .int x3)]) hx hb dX13_meanError_49 hl (k := 2) rfl rfl (by decide) rfl (fun ls hl => ?_)
        refine lv_goto (tgt := 9) hx hb dX13_meanError_52 (by decide) ?_
        exact hk9 o_this x1 (x2 + 1) _ _ _ hP hD hS (lv_sub hl [1, 2, 0] rfl) hf
      · rw [if_neg hc_7] at hf
        refine lv_fload_n hx hb dX13_meanError_31 rfl (lv_at hl 1 rfl) ?_
        refine lv_aload_n hx hb dX13_meanError_32 rfl (lv_at hl 0 rfl) ?_
        refine lv_iload_n hx hb dX13_meanError_33 rfl (lv_at hl 3 rfl) ?_
        refine lv_iload_n hx hb dX13_meanError_34 rfl (lv_at hl 2 rfl) ?_
        obtain ⟨u_8, he_9, hf⟩ := os_bd hf
        refine mc_callV ⟨hx, hb, hml, hown, hts⟩ (mm_X13_errorAt l D kA N q_this o_this x3 x2 u_8 he_9) (cwV 2 hts gX13_meanError_X13_errorAt rfl rfl rfl (by decide +kernel) ⟨Nat.le_of_ble_eq_true rfl, Nat.le_of_ble_eq_true rfl⟩) (wc := (ce_X13 kA q_this o_this)) (ci := 9) (q0 := 0) rfl rfl rfl hl.1 (As := [.int x3, .int x2]) (rest := [.float x1]) rfl (Nat.le_of_ble_eq_true rfl) dX13_meanError_35 ⟨Nat.le_of_ble_eq_true rfl, Nat.le_of_ble_eq_true rfl⟩ hK hP hD hS hA [0, 1, 2, 3, 4, 5, 6, 7, 8, 9, 10, 11, 12, 13, 14, 15, 16, 17, 18, 19, 20, 21, 22, 23] [] [0, 1, 2, 3, 4, 5, 6, 7, 8, 9, 10, 11, 12, 13, 14, 15, 16, 17, 18, 19, 20, 21, 22, 23] rfl (by decide) rfl (by decide) (by decide) rfl (by decide) (wr := []) (w2 := (ce_X13 kA q_this o_this)) (fun H locs hP hD hS => ?_)
        have hP : va_P D vwCl (ce_X13 kA q_this o_this) H := hP
        obtain ⟨u_10, he_11, hf⟩ := os_bd hf
        refine mc_callS ⟨hx, hb, hml, hown, hts⟩ (mm_X13_apart l D kA N u_8 u_10 he_11) (va_cwS 1 hts gX13_meanError_X13_apart rfl rfl rfl (by decide +kernel) ⟨Nat.le_of_ble_eq_true rfl, Nat.le_of_ble_eq_true rfl⟩) (wc := []) rfl hl.1 (As := [.float u_8]) (rest := [.float x1]) rfl (Nat.le_of_ble_eq_true rfl) dX13_meanError_38 ⟨Nat.le_of_ble_eq_true rfl, Nat.le_of_ble_eq_true rfl⟩ hK hP hD hS hA [] [0, 1, 2, 3, 4, 5, 6, 7, 8, 9, 10, 11, 12, 13, 14, 15, 16, 17, 18, 19, 20, 21, 22, 23] [0, 1, 2, 3, 4, 5, 6, 7, 8, 9, 10, 11, 12, 13, 14, 15, 16, 17, 18, 19, 20, 21, 22, 23] rfl (by decide) rfl (by decide) (by decide) rfl (by decide) (wr := (ce_X13 kA q_this o_this)) (w2 := (ce_X13 kA q_this o_this)) (fun H locs hP hD hS => ?_)
        have hP : va_P D vwCl (ce_X13 kA q_this o_this) H := hP
        obtain ⟨hn_12, hf⟩ := os_if hf
        refine lv_fadd hx hb dX13_meanError_41 hn_12 ?_
        refine lv_fstore_n (lv' := [(1, .float (FP.fadd x1 u_10)), (0, .ref (q_this 0)), (2, .int x2), (3, .int x3)]) hx hb dX13_meanError_42 rfl hl (by decide) rfl (fun ls hl => ?_)
        refine lv_iinc (v := x3 + 1) (lv' := [(3, .int (x3 + 1)), (1, .float (FP.fadd x1 u_10)), (0, .ref (q_this 0)), (2, .int x2)]) hx hb dX13_meanError_43 hl (k := 3) rfl rfl (by decide) rfl (fun ls hl => ?_)
        refine lv_goto (tgt := 21) hx hb dX13_meanError_46 (by decide) ?_
        exact hk21 o_this (FP.fadd x1 u_10) x2 (x3 + 1) _ _ _ hP hD hS (lv_sub hl [2, 1, 3, 0] rfl) hf
  have hL9 : ∀ (n : Nat) (o_this : os_T) (x1 : UInt32) (x2 : Int32) (H : Heap) (locs : List Loc) (ls : Array Slot), va_P D vwCl (ce_X13 kA q_this o_this) H → va_D A (ce_X13 kA q_this o_this) → va_S A s.heap H locs → lv_has ls 4 [(0, .ref (q_this 0)), (1, .float x1), (2, .int x2)] → ff_X13_meanError_l9 N n (o_this, x1, x2) = some out → W p l e ({ frames := 5, cells := 0, slots := 0, locals := 116 } : Room) s m [.ref (q_this 0)].toArray below meth c H locs 0 0 (MQ below (mc_Q D kA A (some (.float out.1)) (ce_X13 kA q_this out.2)) [.ref (q_this 0)].toArray s 0 0 A) (F0 m 9 ls []) := by
    intro n
    induction n with
    | zero => intro o_this x1 x2 H locs ls _ _ _ _ hf; cases hf
    | succ n hk9 =>
      intro o_this x1 x2 H locs ls hP hD hS hl hf
      have hf : ff_X13_meanError_c9 N (ff_X13_meanError_l9 N n) o_this x1 x2 = some out := hf
      generalize hke : ff_X13_meanError_l9 N n = k9 at hk9 hf
      unfold ff_X13_meanError_c9 at hf
      refine lv_iload_n hx hb dX13_meanError_9 rfl (lv_at hl 2 rfl) ?_
      refine lv_aload_n hx hb dX13_meanError_10 rfl (lv_at hl 0 rfl) ?_
      refine va_get (D := D) (ci := 9) (v := .ref (q_this 2)) (C := RX13) (T := TX13) (N := 48) hx hb hUX13 (fun _ h9 => h9) hown hK hP 0 rfl rfl 13 (by decide) (hts (Cond.fieldLink RX13 20 "ReliefBuilderModel" "now" "[I") (List.mem_of_getElem? (i := 2) rfl)) (fun _ h9 => h9) rfl dX13_meanError_11 ?_
      refine lv_iconst (v := 1) hx hb dX13_meanError_14 (by decide) ?_
      obtain ⟨hi_1, hf⟩ := os_if hf
      refine va_iald hx hb hK hP 2 0 rfl rfl hi_1 dX13_meanError_15 ?_
      refine lv_icmp_ge (tgt := 55) hx hb dX13_meanError_16 (by decide) (fun hc_2 => ?_) (fun hc_2 => ?_)
      · rw [if_pos hc_2] at hf
        refine lv_fload_n hx hb dX13_meanError_55 rfl (lv_at hl 1 rfl) ?_
        refine lv_aload_n hx hb dX13_meanError_56 rfl (lv_at hl 0 rfl) ?_
        obtain ⟨u_3, he_4, hf⟩ := os_bd hf
        refine mc_callV ⟨hx, hb, hml, hown, hts⟩ (mm_X13_cellMany l D kA N q_this o_this u_3 he_4) (cwV 0 hts gX13_meanError_X13_cellMany rfl rfl rfl (by decide +kernel) ⟨Nat.le_of_ble_eq_true rfl, Nat.le_of_ble_eq_true rfl⟩) (wc := (ce_X13 kA q_this o_this)) (ci := 9) (q0 := 0) rfl rfl rfl hl.1 (As := []) (rest := [.float x1]) rfl (Nat.le_of_ble_eq_true rfl) dX13_meanError_57 ⟨Nat.le_of_ble_eq_true rfl, Nat.le_of_ble_eq_true rfl⟩ hK hP hD hS hA [0, 1, 2, 3, 4, 5, 6, 7, 8, 9, 10, 11, 12, 13, 14, 15, 16, 17, 18, 19, 20, 21, 22, 23] [] [0, 1, 2, 3, 4, 5, 6, 7, 8, 9, 10, 11, 12, 13, 14, 15, 16, 17, 18, 19, 20, 21, 22, 23] rfl (by decide) rfl (by decide) (by decide) rfl (by decide) (wr := []) (w2 := (ce_X13 kA q_this o_this)) (fun H locs hP hD hS => ?_)
        have hP : va_P D vwCl (ce_X13 kA q_this o_this) H := hP
        refine lv_i2f hx hb dX13_meanError_60 ?_
        obtain ⟨hn_5, hf⟩ := os_if hf
        refine lv_fdiv hx hb dX13_meanError_61 hn_5 ?_
        rw [← Option.some.inj hf]
        exact mc_retf hx hb hr hlk hP hK hD hS dX13_meanError_62
      · rw [if_neg hc_2] at hf
        refine lv_iconst (v := 0) hx hb dX13_meanError_19 (by decide) ?_
        refine lv_istore_n (lv' := [(3, .int (0 : Int32)), (0, .ref (q_this 0)), (1, .float x1), (2, .int x2)]) hx hb dX13_meanError_20 rfl hl (by decide) rfl (fun ls hl => ?_)
        exact hL21 k9 hk9 N o_this x1 x2 (0 : Int32) _ _ _ hP hD hS (lv_sub hl [1, 2, 3, 0] rfl) hf
  unfold ff_X13_meanError at hf
  refine lv_aload_n hx hb dX13_meanError_0 rfl (lv_at hl 0 rfl) ?_
  refine lv_iconst (v := 0) hx hb dX13_meanError_1 (by decide) ?_
  refine va_put (D := D) (ci := 9) (v := .int (0 : Int32)) (ty := .int) (C := RX13) (T := TX13) (N := 48) hx hb hUX13 (fun _ h9 => h9) tyX13 tyX13_ok nmX13 hown hK hP hD hS 0 rfl rfl 0 (by decide) (hts (Cond.fieldLink RX13 93 "ReliefBuilderModel" "code" "I") (List.mem_of_getElem? (i := 1) rfl)) (fun _ h9 => h9) rfl (tyX13_ok 0 (by decide)) rfl rfl (Nat.le_of_ble_eq_true rfl) dX13_meanError_2 (fun H locs hP hD hS => ?_)
  have hP : va_P D vwCl (ce_X13 kA q_this (ss_I o_this 0 (0 : Int32))) H := hP
  have hD : va_D A (ce_X13 kA q_this (ss_I o_this 0 (0 : Int32))) := hD
  refine lv_fconst0 hx hb dX13_meanError_5 ?_
  refine lv_fstore_n (lv' := [(1, .float FP.fconst0), (0, .ref (q_this 0))]) hx hb dX13_meanError_6 rfl hl (by decide) rfl (fun ls hl => ?_)
  refine lv_iconst (v := 0) hx hb dX13_meanError_7 (by decide) ?_
  refine lv_istore_n (lv' := [(2, .int (0 : Int32)), (1, .float FP.fconst0), (0, .ref (q_this 0))]) hx hb dX13_meanError_8 rfl hl (by decide) rfl (fun ls hl => ?_)
  exact hL9 N (ss_I o_this 0 (0 : Int32)) FP.fconst0 (0 : Int32) _ _ _ hP hD hS (lv_sub hl [2, 1, 0] rfl) hf
def ff_X13_worstCell_b70 (N : Nat) (k13 : (os_T × Int32 × UInt32 × Int32) → Option (Int32 × os_T)) (k26 : (os_T × Int32 × UInt32 × Int32 × Int32) → Option (Int32 × os_T)) (o_this : os_T) (x1 : Int32) (x2 : UInt32) (x3 : Int32) (x4 : Int32) : Option (Int32 × os_T) :=
  k26 (o_this, x1, x2, x3, x4 + 1)
def ff_X13_worstCell_c26 (N : Nat) (k13 : (os_T × Int32 × UInt32 × Int32) → Option (Int32 × os_T)) (k26 : (os_T × Int32 × UInt32 × Int32 × Int32) → Option (Int32 × os_T)) (o_this : os_T) (x1 : Int32) (x2 : UInt32) (x3 : Int32) (x4 : Int32) : Option (Int32 × os_T) :=
  (if os_in (0 : Int32) 7 then (if ((os_A o_this 1) (Int32.toNatClampNeg (0 : Int32))) ≤ x4 then k13 (o_this, x1, x2, x3 + 1) else ((ff_X13_errorAt N o_this x4 x3).bind fun u_5 => ((ff_X13_apart N u_5).bind fun u_7 => (if 0 < (Op.cmpValue (FP.fcmp u_7 x2) CmpOp.g) then ff_X13_worstCell_b70 N k13 k26 o_this (((16 : Int32) * x3) + x4) u_7 x3 x4 else ff_X13_worstCell_b70 N k13 k26 o_this x1 x2 x3 x4)))) else none)
def ff_X13_worstCell_l26 (N : Nat) (k13 : (os_T × Int32 × UInt32 × Int32) → Option (Int32 × os_T)) : Nat → (os_T × Int32 × UInt32 × Int32 × Int32) → Option (Int32 × os_T) := os_loop (fun k26 s1 => ff_X13_worstCell_c26 N k13 k26 s1.1 s1.2.1 s1.2.2.1 s1.2.2.2.1 s1.2.2.2.2)
def ff_X13_worstCell_c13 (N : Nat) (k13 : (os_T × Int32 × UInt32 × Int32) → Option (Int32 × os_T)) (o_this : os_T) (x1 : Int32) (x2 : UInt32) (x3 : Int32) : Option (Int32 × os_T) :=
  (if os_in (1 : Int32) 7 then (if ((os_A o_this 1) (Int32.toNatClampNeg (1 : Int32))) ≤ x3 then some (x1, o_this) else ff_X13_worstCell_l26 N k13 N (o_this, x1, x2, x3, (0 : Int32))) else none)
def ff_X13_worstCell_l13 (N : Nat) : Nat → (os_T × Int32 × UInt32 × Int32) → Option (Int32 × os_T) := os_loop (fun k13 s1 => ff_X13_worstCell_c13 N k13 s1.1 s1.2.1 s1.2.2.1 s1.2.2.2)
def ff_X13_worstCell (N : Nat) (o_this : os_T) : Option (Int32 × os_T) :=
  ff_X13_worstCell_l13 N N (ss_I o_this 0 (0 : Int32), (0 : Int32), (3212836864 : UInt32), (0 : Int32))
set_option maxHeartbeats 4000000 in
set_option maxRecDepth 100000 in
theorem mm_X13_worstCell (l : Launch) (D : va_G) (kA : Nat → ClassId) (N : Nat) (q_this : Nat → Nat) (o_this : os_T) (out : (Int32 × os_T)) (hf : ff_X13_worstCell N o_this = some out) : mc_C l D kA yX13_worstCell wsX13_worstCell ({ frames := 5, cells := 0, slots := 0, locals := 116 } : Room) [.ref (q_this 0)] (ce_X13 kA q_this o_this) (some (.int out.1)) (ce_X13 kA q_this out.2) := by
  refine mc_of (cc := cX13_worstCell) (maxL := 6) (ret := (some .int)) (by decide) rfl (Nat.le_of_ble_eq_true rfl) ?_
  intro p e s m below meth c A B hD hP hS ls hl
  obtain ⟨hx, hb, hr, hlk, hml, hown, hts, hK, hA, hnm⟩ := B
  have hown : s.vm.findClass RX13 = some m.cls := hown
  have hl : lv_has ls 6 [(0, .ref (q_this 0))] := hl
  have hUX13 : ∀ w ∈ u_ws RX13 TX13 48, w.before [.ref (q_this 0)].toArray s = true := fun w h => hts w (List.mem_cons_of_mem _ (List.mem_append_right _ h))
  have hB70 : ∀ (k13 : (os_T × Int32 × UInt32 × Int32) → Option (Int32 × os_T)), (∀ (o_this : os_T) (x1 : Int32) (x2 : UInt32) (x3 : Int32) (H : Heap) (locs : List Loc) (ls : Array Slot), va_P D vwCl (ce_X13 kA q_this o_this) H → va_D A (ce_X13 kA q_this o_this) → va_S A s.heap H locs → lv_has ls 6 [(0, .ref (q_this 0)), (1, .int x1), (2, .float x2), (3, .int x3)] → k13 (o_this, x1, x2, x3) = some out → W p l e ({ frames := 5, cells := 0, slots := 0, locals := 116 } : Room) s m [.ref (q_this 0)].toArray below meth c H locs 0 0 (MQ below (mc_Q D kA A (some (.int out.1)) (ce_X13 kA q_this out.2)) [.ref (q_this 0)].toArray s 0 0 A) (F0 m 13 ls [])) → ∀ (k26 : (os_T × Int32 × UInt32 × Int32 × Int32) → Option (Int32 × os_T)), (∀ (o_this : os_T) (x1 : Int32) (x2 : UInt32) (x3 : Int32) (x4 : Int32) (H : Heap) (locs : List Loc) (ls : Array Slot), va_P D vwCl (ce_X13 kA q_this o_this) H → va_D A (ce_X13 kA q_this o_this) → va_S A s.heap H locs → lv_has ls 6 [(0, .ref (q_this 0)), (1, .int x1), (2, .float x2), (3, .int x3), (4, .int x4)] → k26 (o_this, x1, x2, x3, x4) = some out → W p l e ({ frames := 5, cells := 0, slots := 0, locals := 116 } : Room) s m [.ref (q_this 0)].toArray below meth c H locs 0 0 (MQ below (mc_Q D kA A (some (.int out.1)) (ce_X13 kA q_this out.2)) [.ref (q_this 0)].toArray s 0 0 A) (F0 m 26 ls [])) → ∀ (o_this : os_T) (x1 : Int32) (x2 : UInt32) (x3 : Int32) (x4 : Int32) (H : Heap) (locs : List Loc) (ls : Array Slot), va_P D vwCl (ce_X13 kA q_this o_this) H → va_D A (ce_X13 kA q_this o_this) → va_S A s.heap H locs → lv_has ls 6 [(0, .ref (q_this 0)), (1, .int x1), (2, .float x2), (3, .int x3), (4, .int x4)] → ff_X13_worstCell_b70 N k13 k26 o_this x1 x2 x3 x4 = some out → W p l e ({ frames := 5, cells := 0, slots := 0, locals := 116 } : Room) s m [.ref (q_this 0)].toArray below meth c H locs 0 0 (MQ below (mc_Q D kA A (some (.int out.1)) (ce_X13 kA q_this out.2)) [.ref (q_this 0)].toArray s 0 0 A) (F0 m 70 ls []) := by
    intro k13 hk13 k26 hk26 o_this x1 x2 x3 x4 H locs ls hP hD hS hl hf
    unfold ff_X13_worstCell_b70 at hf
    refine lv_iinc (v := x4 + 1) (lv' := [(4, .int (x4 + 1)), (0, .ref (q_this 0)), (1, .int x1), (2, .float x2), (3, .int x3)]) hx hb dX13_worstCell_70 hl (k := 4) rfl rfl (by decide) rfl (fun ls hl => ?_)
    refine lv_goto (tgt := 26) hx hb dX13_worstCell_73 (by decide) ?_
    exact hk26 o_this x1 x2 x3 (x4 + 1) _ _ _ hP hD hS (lv_sub hl [1, 2, 3, 4, 0] rfl) hf
  have hL26 : ∀ (k13 : (os_T × Int32 × UInt32 × Int32) → Option (Int32 × os_T)), (∀ (o_this : os_T) (x1 : Int32) (x2 : UInt32) (x3 : Int32) (H : Heap) (locs : List Loc) (ls : Array Slot), va_P D vwCl (ce_X13 kA q_this o_this) H → va_D A (ce_X13 kA q_this o_this) → va_S A s.heap H locs → lv_has ls 6 [(0, .ref (q_this 0)), (1, .int x1), (2, .float x2), (3, .int x3)] → k13 (o_this, x1, x2, x3) = some out → W p l e ({ frames := 5, cells := 0, slots := 0, locals := 116 } : Room) s m [.ref (q_this 0)].toArray below meth c H locs 0 0 (MQ below (mc_Q D kA A (some (.int out.1)) (ce_X13 kA q_this out.2)) [.ref (q_this 0)].toArray s 0 0 A) (F0 m 13 ls [])) → ∀ (n : Nat) (o_this : os_T) (x1 : Int32) (x2 : UInt32) (x3 : Int32) (x4 : Int32) (H : Heap) (locs : List Loc) (ls : Array Slot), va_P D vwCl (ce_X13 kA q_this o_this) H → va_D A (ce_X13 kA q_this o_this) → va_S A s.heap H locs → lv_has ls 6 [(0, .ref (q_this 0)), (1, .int x1), (2, .float x2), (3, .int x3), (4, .int x4)] → ff_X13_worstCell_l26 N k13 n (o_this, x1, x2, x3, x4) = some out → W p l e ({ frames := 5, cells := 0, slots := 0, locals := 116 } : Room) s m [.ref (q_this 0)].toArray below meth c H locs 0 0 (MQ below (mc_Q D kA A (some (.int out.1)) (ce_X13 kA q_this out.2)) [.ref (q_this 0)].toArray s 0 0 A) (F0 m 26 ls []) := by
    intro k13 hk13 n
    induction n with
    | zero => intro o_this x1 x2 x3 x4 H locs ls _ _ _ _ hf; cases hf
    | succ n hk26 =>
      intro o_this x1 x2 x3 x4 H locs ls hP hD hS hl hf
      have hf : ff_X13_worstCell_c26 N k13 (ff_X13_worstCell_l26 N k13 n) o_this x1 x2 x3 x4 = some out := hf
      generalize hke : ff_X13_worstCell_l26 N k13 n = k26 at hk26 hf
      unfold ff_X13_worstCell_c26 at hf
      refine lv_iload hx hb dX13_worstCell_26 (lv_at hl 4 rfl) ?_
      refine lv_aload_n hx hb dX13_worstCell_28 rfl (lv_at hl 0 rfl) ?_
      refine va_get (D := D) (ci := 9) (v := .ref (q_this 2)) (C := RX13) (T := TX13) (N := 48) hx hb hUX13 (fun _ h9 => h9) hown hK hP 0 rfl rfl 13 (by decide) (hts (Cond.fieldLink RX13 20 "ReliefBuilderModel" "now" "[I") (List.mem_of_getElem? (i := 3) rfl)) (fun _ h9 => h9) rfl dX13_worstCell_29 ?_
      refine lv_iconst (v := 0) hx hb dX13_worstCell_32 (by decide) ?_
      obtain ⟨hi_3, hf⟩ := os_if hf
      refine va_iald hx hb hK hP 2 0 rfl rfl hi_3 dX13_worstCell_33 ?_
      refine lv_icmp_ge (tgt := 76) hx hb dX13_worstCell_34 (by decide) (fun hc_4 => ?_) (fun hc_4 => ?_)
      · rw [if_pos hc_4] at hf
        refine lv_iinc (v := x3 + 1) (lv' := [(3, .int (x3 + 1)), (0, .ref (q_this 0)), (1, .int x1), (2, .float x2), (4, .int x4)]) hx hb dX13_worstCell_76 hl (k := 3) rfl rfl (by decide) rfl (fun ls hl => ?_)
        refine lv_goto (tgt := 13) hx hb dX13_worstCell_79 (by decide) ?_
        exact hk13 o_this x1 x2 (x3 + 1) _ _ _ hP hD hS (lv_sub hl [1, 2, 3, 0] rfl) hf
      · rw [if_neg hc_4] at hf
        refine lv_aload_n hx hb dX13_worstCell_37 rfl (lv_at hl 0 rfl) ?_
        refine lv_iload hx hb dX13_worstCell_38 (lv_at hl 4 rfl) ?_
        refine lv_iload_n hx hb dX13_worstCell_40 rfl (lv_at hl 3 rfl) ?_
        obtain ⟨u_5, he_6, hf⟩ := os_bd hf
        refine mc_callV ⟨hx, hb, hml, hown, hts⟩ (mm_X13_errorAt l D kA N q_this o_this x4 x3 u_5 he_6) (cwV 2 hts gX13_worstCell_X13_errorAt rfl rfl rfl (by decide +kernel) ⟨Nat.le_of_ble_eq_true rfl, Nat.le_of_ble_eq_true rfl⟩) (wc := (ce_X13 kA q_this o_this)) (ci := 9) (q0 := 0) rfl rfl rfl hl.1 (As := [.int x4, .int x3]) (rest := []) rfl (Nat.le_of_ble_eq_true rfl) dX13_worstCell_41 ⟨Nat.le_of_ble_eq_true rfl, Nat.le_of_ble_eq_true rfl⟩ hK hP hD hS hA [0, 1, 2, 3, 4, 5, 6, 7, 8, 9, 10, 11, 12, 13, 14, 15, 16, 17, 18, 19, 20, 21, 22, 23] [] [0, 1, 2, 3, 4, 5, 6, 7, 8, 9, 10, 11, 12, 13, 14, 15, 16, 17, 18, 19, 20, 21, 22, 23] rfl (by decide) rfl (by decide) (by decide) rfl (by decide) (wr := []) (w2 := (ce_X13 kA q_this o_this)) (fun H locs hP hD hS => ?_)
        have hP : va_P D vwCl (ce_X13 kA q_this o_this) H := hP
        obtain ⟨u_7, he_8, hf⟩ := os_bd hf
        refine mc_callS ⟨hx, hb, hml, hown, hts⟩ (mm_X13_apart l D kA N u_5 u_7 he_8) (va_cwS 1 hts gX13_worstCell_X13_apart rfl rfl rfl (by decide +kernel) ⟨Nat.le_of_ble_eq_true rfl, Nat.le_of_ble_eq_true rfl⟩) (wc := []) rfl hl.1 (As := [.float u_5]) (rest := []) rfl (Nat.le_of_ble_eq_true rfl) dX13_worstCell_44 ⟨Nat.le_of_ble_eq_true rfl, Nat.le_of_ble_eq_true rfl⟩ hK hP hD hS hA [] [0, 1, 2, 3, 4, 5, 6, 7, 8, 9, 10, 11, 12, 13, 14, 15, 16, 17, 18, 19, 20, 21, 22, 23] [0, 1, 2, 3, 4, 5, 6, 7, 8, 9, 10, 11, 12, 13, 14, 15, 16, 17, 18, 19, 20, 21, 22, 23] rfl (by decide) rfl (by decide) (by decide) rfl (by decide) (wr := (ce_X13 kA q_this o_this)) (w2 := (ce_X13 kA q_this o_this)) (fun H locs hP hD hS => ?_)
        have hP : va_P D vwCl (ce_X13 kA q_this o_this) H := hP
        refine lv_fstore (lv' := [(5, .float u_7), (0, .ref (q_this 0)), (1, .int x1), (2, .float x2), (3, .int x3), (4, .int x4)]) hx hb dX13_worstCell_47 hl (by decide) rfl (fun ls hl => ?_)
        refine lv_fload hx hb dX13_worstCell_49 (lv_at hl 0 rfl) ?_
        refine lv_fload_n hx hb dX13_worstCell_51 rfl (lv_at hl 3 rfl) ?_
        refine lv_fcmp hx hb dX13_worstCell_52 ?_
        refine lv_if_gt (tgt := 59) hx hb dX13_worstCell_53 (by decide) (fun hc_9 => ?_) (fun hc_9 => ?_)
        · rw [if_pos hc_9] at hf
          refine lv_bipush (v := 16) hx hb dX13_worstCell_59 (by decide) ?_
          refine lv_iload_n hx hb dX13_worstCell_61 rfl (lv_at hl 4 rfl) ?_
          refine lv_imul hx hb dX13_worstCell_62 ?_
          refine lv_iload hx hb dX13_worstCell_63 (lv_at hl 5 rfl) ?_
          refine lv_iadd hx hb dX13_worstCell_65 ?_
          refine lv_istore_n (lv' := [(1, .int (((16 : Int32) * x3) + x4)), (5, .float u_7), (0, .ref (q_this 0)), (2, .float x2), (3, .int x3), (4, .int x4)]) hx hb dX13_worstCell_66 rfl hl (by decide) rfl (fun ls hl => ?_)
          refine lv_fload hx hb dX13_worstCell_67 (lv_at hl 1 rfl) ?_
          refine lv_fstore_n (lv' := [(2, .float u_7), (1, .int (((16 : Int32) * x3) + x4)), (5, .float u_7), (0, .ref (q_this 0)), (3, .int x3), (4, .int x4)]) hx hb dX13_worstCell_69 rfl hl (by decide) rfl (fun ls hl => ?_)
          exact hB70 k13 hk13 k26 hk26 o_this (((16 : Int32) * x3) + x4) u_7 x3 x4 _ _ _ hP hD hS (lv_sub hl [3, 1, 0, 4, 5] rfl) hf
        · rw [if_neg hc_9] at hf
          refine lv_goto (tgt := 70) hx hb dX13_worstCell_56 (by decide) ?_
          exact hB70 k13 hk13 k26 hk26 o_this x1 x2 x3 x4 _ _ _ hP hD hS (lv_sub hl [1, 2, 3, 4, 5] rfl) hf
  have hL13 : ∀ (n : Nat) (o_this : os_T) (x1 : Int32) (x2 : UInt32) (x3 : Int32) (H : Heap) (locs : List Loc) (ls : Array Slot), va_P D vwCl (ce_X13 kA q_this o_this) H → va_D A (ce_X13 kA q_this o_this) → va_S A s.heap H locs → lv_has ls 6 [(0, .ref (q_this 0)), (1, .int x1), (2, .float x2), (3, .int x3)] → ff_X13_worstCell_l13 N n (o_this, x1, x2, x3) = some out → W p l e ({ frames := 5, cells := 0, slots := 0, locals := 116 } : Room) s m [.ref (q_this 0)].toArray below meth c H locs 0 0 (MQ below (mc_Q D kA A (some (.int out.1)) (ce_X13 kA q_this out.2)) [.ref (q_this 0)].toArray s 0 0 A) (F0 m 13 ls []) := by
    intro n
    induction n with
    | zero => intro o_this x1 x2 x3 H locs ls _ _ _ _ hf; cases hf
    | succ n hk13 =>
      intro o_this x1 x2 x3 H locs ls hP hD hS hl hf
      have hf : ff_X13_worstCell_c13 N (ff_X13_worstCell_l13 N n) o_this x1 x2 x3 = some out := hf
      generalize hke : ff_X13_worstCell_l13 N n = k13 at hk13 hf
      unfold ff_X13_worstCell_c13 at hf
      refine lv_iload_n hx hb dX13_worstCell_13 rfl (lv_at hl 3 rfl) ?_
      refine lv_aload_n hx hb dX13_worstCell_14 rfl (lv_at hl 0 rfl) ?_
      refine va_get (D := D) (ci := 9) (v := .ref (q_this 2)) (C := RX13) (T := TX13) (N := 48) hx hb hUX13 (fun _ h9 => h9) hown hK hP 0 rfl rfl 13 (by decide) (hts (Cond.fieldLink RX13 20 "ReliefBuilderModel" "now" "[I") (List.mem_of_getElem? (i := 3) rfl)) (fun _ h9 => h9) rfl dX13_worstCell_15 ?_
      refine lv_iconst (v := 1) hx hb dX13_worstCell_18 (by decide) ?_
      obtain ⟨hi_1, hf⟩ := os_if hf
      refine va_iald hx hb hK hP 2 0 rfl rfl hi_1 dX13_worstCell_19 ?_
      refine lv_icmp_ge (tgt := 82) hx hb dX13_worstCell_20 (by decide) (fun hc_2 => ?_) (fun hc_2 => ?_)
      · rw [if_pos hc_2] at hf
        refine lv_iload_n hx hb dX13_worstCell_82 rfl (lv_at hl 1 rfl) ?_
        rw [← Option.some.inj hf]
        exact mc_reti hx hb hr hlk hP hK hD hS dX13_worstCell_83
      · rw [if_neg hc_2] at hf
        refine lv_iconst (v := 0) hx hb dX13_worstCell_23 (by decide) ?_
        refine lv_istore (lv' := [(4, .int (0 : Int32)), (0, .ref (q_this 0)), (1, .int x1), (2, .float x2), (3, .int x3)]) hx hb dX13_worstCell_24 hl (by decide) rfl (fun ls hl => ?_)
        exact hL26 k13 hk13 N o_this x1 x2 x3 (0 : Int32) _ _ _ hP hD hS (lv_sub hl [1, 2, 3, 4, 0] rfl) hf
  unfold ff_X13_worstCell at hf
  refine lv_aload_n hx hb dX13_worstCell_0 rfl (lv_at hl 0 rfl) ?_
  refine lv_iconst (v := 0) hx hb dX13_worstCell_1 (by decide) ?_
  refine va_put (D := D) (ci := 9) (v := .int (0 : Int32)) (ty := .int) (C := RX13) (T := TX13) (N := 48) hx hb hUX13 (fun _ h9 => h9) tyX13 tyX13_ok nmX13 hown hK hP hD hS 0 rfl rfl 0 (by decide) (hts (Cond.fieldLink RX13 93 "ReliefBuilderModel" "code" "I") (List.mem_of_getElem? (i := 1) rfl)) (fun _ h9 => h9) rfl (tyX13_ok 0 (by decide)) rfl rfl (Nat.le_of_ble_eq_true rfl) dX13_worstCell_2 (fun H locs hP hD hS => ?_)
  have hP : va_P D vwCl (ce_X13 kA q_this (ss_I o_this 0 (0 : Int32))) H := hP
  have hD : va_D A (ce_X13 kA q_this (ss_I o_this 0 (0 : Int32))) := hD
  refine lv_iconst (v := 0) hx hb dX13_worstCell_5 (by decide) ?_
  refine lv_istore_n (lv' := [(1, .int (0 : Int32)), (0, .ref (q_this 0))]) hx hb dX13_worstCell_6 rfl hl (by decide) rfl (fun ls hl => ?_)
  refine lv_ldcwF hx hb hown (hts (Cond.constantFloat RX13 291 (3212836864)) (List.mem_of_getElem? (i := 2) rfl)) dX13_worstCell_7 ?_
  refine lv_fstore_n (lv' := [(2, .float (3212836864 : UInt32)), (1, .int (0 : Int32)), (0, .ref (q_this 0))]) hx hb dX13_worstCell_10 rfl hl (by decide) rfl (fun ls hl => ?_)
  refine lv_iconst (v := 0) hx hb dX13_worstCell_11 (by decide) ?_
  refine lv_istore_n (lv' := [(3, .int (0 : Int32)), (2, .float (3212836864 : UInt32)), (1, .int (0 : Int32)), (0, .ref (q_this 0))]) hx hb dX13_worstCell_12 rfl hl (by decide) rfl (fun ls hl => ?_)
  exact hL13 N (ss_I o_this 0 (0 : Int32)) (0 : Int32) (3212836864 : UInt32) (0 : Int32) _ _ _ hP hD hS (lv_sub hl [3, 2, 1, 0] rfl) hf
def ff_Jxf58ca_isNaN_12338 (N : Nat) (a0 : UInt32) : Option Int32 :=
  (if (Op.cmpValue (FP.fcmp a0 a0) CmpOp.l) = 0 then some (0 : Int32) else some (1 : Int32))
set_option maxHeartbeats 4000000 in
set_option maxRecDepth 100000 in
theorem mm_Jxf58ca_isNaN_12338 (l : Launch) (D : va_G) (kA : Nat → ClassId) (N : Nat) (a0 : UInt32) (out : Int32) (hf : ff_Jxf58ca_isNaN_12338 N a0 = some out) : mc_C l D kA yJxf58ca_isNaN_12338 wsJxf58ca_isNaN_12338 ({ frames := 0, cells := 0, slots := 0, locals := 0 } : Room) [.float a0] [] (some (.int out)) [] := by
  refine mc_ofF (cc := cJxf58ca_isNaN_12338) (maxL := 1) (ret := (some .boolean)) (by decide +kernel) rfl (Nat.le_of_ble_eq_true rfl) ?_
  intro p e s m below meth c A B hD hP hS ls hl
  obtain ⟨hx, hb, hr, hlk, hml, hown, hts, hK, hA, hnm⟩ := B
  have hown : s.vm.findClass RJxf58ca = some m.cls := hown
  have hl : lv_has ls 1 [(0, .float a0)] := hl
  unfold ff_Jxf58ca_isNaN_12338 at hf
  refine lv_fload_n hx hb dJxf58ca_isNaN_12338_0 rfl (lv_at hl 0 rfl) ?_
  refine lv_fload_n hx hb dJxf58ca_isNaN_12338_1 rfl (lv_at hl 0 rfl) ?_
  refine lv_fcmp hx hb dJxf58ca_isNaN_12338_2 ?_
  refine lv_if_eq (tgt := 10) hx hb dJxf58ca_isNaN_12338_3 (by decide) (fun hc_1 => ?_) (fun hc_1 => ?_)
  · rw [if_pos hc_1] at hf
    refine lv_iconst (v := 0) hx hb dJxf58ca_isNaN_12338_10 (by decide) ?_
    rw [← Option.some.inj hf]
    exact mc_retz (v := 0) hx hb hr rfl hlk hP hK hD hS dJxf58ca_isNaN_12338_11
  · rw [if_neg hc_1] at hf
    refine lv_iconst (v := 1) hx hb dJxf58ca_isNaN_12338_6 (by decide) ?_
    refine lv_goto (tgt := 11) hx hb dJxf58ca_isNaN_12338_7 (by decide) ?_
    rw [← Option.some.inj hf]
    exact mc_retz (v := 1) hx hb hr rfl hlk hP hK hD hS dJxf58ca_isNaN_12338_11
def ff_Jxf58ca_floatToIntBits_5c35a (N : Nat) (a0 : UInt32) : Option Int32 :=
  ((ff_Jxf58ca_isNaN_12338 N a0).bind fun u_1 => (if u_1 = 0 then some (UInt32.toInt32 a0) else some (2143289344 : Int32)))
set_option maxHeartbeats 4000000 in
set_option maxRecDepth 100000 in
theorem mm_Jxf58ca_floatToIntBits_5c35a (l : Launch) (D : va_G) (kA : Nat → ClassId) (N : Nat) (a0 : UInt32) (out : Int32) (hf : ff_Jxf58ca_floatToIntBits_5c35a N a0 = some out) : mc_C l D kA yJxf58ca_floatToIntBits_5c35a wsJxf58ca_floatToIntBits_5c35a ({ frames := 3, cells := 0, slots := 0, locals := 100 } : Room) [.float a0] [] (some (.int out)) [] := by
  refine mc_ofF (cc := cJxf58ca_floatToIntBits_5c35a) (maxL := 1) (ret := (some .int)) (by decide +kernel) rfl (Nat.le_of_ble_eq_true rfl) ?_
  intro p e s m below meth c A B hD hP hS ls hl
  obtain ⟨hx, hb, hr, hlk, hml, hown, hts, hK, hA, hnm⟩ := B
  have hown : s.vm.findClass RJxf58ca = some m.cls := hown
  have hl : lv_has ls 1 [(0, .float a0)] := hl
  unfold ff_Jxf58ca_floatToIntBits_5c35a at hf
  refine lv_fload_n hx hb dJxf58ca_floatToIntBits_5c35a_0 rfl (lv_at hl 0 rfl) ?_
  obtain ⟨u_1, he_2, hf⟩ := os_bd hf
  refine mc_callS ⟨hx, hb, hml, hown, hts⟩ (mm_Jxf58ca_isNaN_12338 l D kA N a0 u_1 he_2) (va_cwS 1 hts gJxf58ca_floatToIntBits_5c35a_Jxf58ca_isNaN_12338 rfl rfl rfl (by decide +kernel) ⟨Nat.le_of_ble_eq_true rfl, Nat.le_of_ble_eq_true rfl⟩) (wc := []) rfl hl.1 (As := [.float a0]) (rest := []) rfl (Nat.le_of_ble_eq_true rfl) dJxf58ca_floatToIntBits_5c35a_1 ⟨Nat.le_of_ble_eq_true rfl, Nat.le_of_ble_eq_true rfl⟩ hK hP hD hS hA [] [] [] rfl (by decide) rfl (by decide) (by decide) rfl (by decide) (wr := []) (w2 := []) (fun H locs hP hD hS => ?_)
  have hP : va_P D vwCl [] H := hP
  refine lv_if_ne (tgt := 12) hx hb dJxf58ca_floatToIntBits_5c35a_4 (by decide) (fun hc_3 => ?_) (fun hc_3 => ?_)
  · rw [if_neg hc_3] at hf
    refine lv_ldc hx hb hown (hts (Cond.constant RJxf58ca 77 (2143289344)) (List.mem_of_getElem? (i := 5) rfl)) dJxf58ca_floatToIntBits_5c35a_12 ?_
    rw [← Option.some.inj hf]
    exact mc_reti hx hb hr hlk hP hK hD hS dJxf58ca_floatToIntBits_5c35a_14
  · rw [if_pos hc_3] at hf
    refine lv_fload_n hx hb dJxf58ca_floatToIntBits_5c35a_7 rfl (lv_at hl 0 rfl) ?_
    refine vn_f2i hx hb (hml.trans hl.1.symm) hown (hts (Cond.methodLink RJxf58ca 74 ⟨"java/lang/Float", "floatToRawIntBits", "(F)I"⟩) (List.mem_of_getElem? (i := 1) rfl)) (hts (Cond.native ⟨"java/lang/Float", "floatToRawIntBits", "(F)I"⟩) (List.mem_of_getElem? (i := 2) rfl)) (hts (Cond.static ⟨"java/lang/Float", "floatToRawIntBits", "(F)I"⟩) (List.mem_of_getElem? (i := 3) rfl)) (hts (Cond.initialized "java/lang/Float") (List.mem_of_getElem? (i := 4) rfl)) (Nat.le_of_ble_eq_true rfl) (Nat.le_of_ble_eq_true rfl) dJxf58ca_floatToIntBits_5c35a_8 ?_
    rw [← Option.some.inj hf]
    exact mc_reti hx hb hr hlk hP hK hD hS dJxf58ca_floatToIntBits_5c35a_11
def ff_X13_fingerprint_c22 (N : Nat) (k10 : (os_T × Int32 × Int32) → Option (Int32 × os_T)) (k22 : (os_T × Int32 × Int32 × Int32) → Option (Int32 × os_T)) (o_this : os_T) (x1 : Int32) (x2 : Int32) (x3 : Int32) : Option (Int32 × os_T) :=
  (if os_in (0 : Int32) 7 then (if ((os_A o_this 1) (Int32.toNatClampNeg (0 : Int32))) ≤ x3 then k10 (o_this, x1, x2 + 1) else ((ff_X13_estimateAt N o_this x3 x2).bind fun u_5 => ((ff_Jxf58ca_floatToIntBits_5c35a N u_5).bind fun u_7 => k22 (o_this, ((31 : Int32) * x1) + u_7, x2, x3 + 1)))) else none)
def ff_X13_fingerprint_l22 (N : Nat) (k10 : (os_T × Int32 × Int32) → Option (Int32 × os_T)) : Nat → (os_T × Int32 × Int32 × Int32) → Option (Int32 × os_T) := os_loop (fun k22 s1 => ff_X13_fingerprint_c22 N k10 k22 s1.1 s1.2.1 s1.2.2.1 s1.2.2.2)
def ff_X13_fingerprint_c10 (N : Nat) (k10 : (os_T × Int32 × Int32) → Option (Int32 × os_T)) (o_this : os_T) (x1 : Int32) (x2 : Int32) : Option (Int32 × os_T) :=
  (if os_in (1 : Int32) 7 then (if ((os_A o_this 1) (Int32.toNatClampNeg (1 : Int32))) ≤ x2 then some (x1, o_this) else ff_X13_fingerprint_l22 N k10 N (o_this, x1, x2, (0 : Int32))) else none)
def ff_X13_fingerprint_l10 (N : Nat) : Nat → (os_T × Int32 × Int32) → Option (Int32 × os_T) := os_loop (fun k10 s1 => ff_X13_fingerprint_c10 N k10 s1.1 s1.2.1 s1.2.2)
def ff_X13_fingerprint (N : Nat) (o_this : os_T) : Option (Int32 × os_T) :=
  ff_X13_fingerprint_l10 N N (ss_I o_this 0 (0 : Int32), (17 : Int32), (0 : Int32))
set_option maxHeartbeats 4000000 in
set_option maxRecDepth 100000 in
theorem mm_X13_fingerprint (l : Launch) (D : va_G) (kA : Nat → ClassId) (N : Nat) (q_this : Nat → Nat) (o_this : os_T) (out : (Int32 × os_T)) (hf : ff_X13_fingerprint N o_this = some out) : mc_C l D kA yX13_fingerprint wsX13_fingerprint ({ frames := 4, cells := 0, slots := 0, locals := 120 } : Room) [.ref (q_this 0)] (ce_X13 kA q_this o_this) (some (.int out.1)) (ce_X13 kA q_this out.2) := by
  refine mc_of (cc := cX13_fingerprint) (maxL := 4) (ret := (some .int)) (by decide) rfl (Nat.le_of_ble_eq_true rfl) ?_
  intro p e s m below meth c A B hD hP hS ls hl
  obtain ⟨hx, hb, hr, hlk, hml, hown, hts, hK, hA, hnm⟩ := B
  have hown : s.vm.findClass RX13 = some m.cls := hown
  have hl : lv_has ls 4 [(0, .ref (q_this 0))] := hl
  have hUX13 : ∀ w ∈ u_ws RX13 TX13 48, w.before [.ref (q_this 0)].toArray s = true := fun w h => hts w (List.mem_cons_of_mem _ (List.mem_append_right _ h))
  have hL22 : ∀ (k10 : (os_T × Int32 × Int32) → Option (Int32 × os_T)), (∀ (o_this : os_T) (x1 : Int32) (x2 : Int32) (H : Heap) (locs : List Loc) (ls : Array Slot), va_P D vwCl (ce_X13 kA q_this o_this) H → va_D A (ce_X13 kA q_this o_this) → va_S A s.heap H locs → lv_has ls 4 [(0, .ref (q_this 0)), (1, .int x1), (2, .int x2)] → k10 (o_this, x1, x2) = some out → W p l e ({ frames := 4, cells := 0, slots := 0, locals := 120 } : Room) s m [.ref (q_this 0)].toArray below meth c H locs 0 0 (MQ below (mc_Q D kA A (some (.int out.1)) (ce_X13 kA q_this out.2)) [.ref (q_this 0)].toArray s 0 0 A) (F0 m 10 ls [])) → ∀ (n : Nat) (o_this : os_T) (x1 : Int32) (x2 : Int32) (x3 : Int32) (H : Heap) (locs : List Loc) (ls : Array Slot), va_P D vwCl (ce_X13 kA q_this o_this) H → va_D A (ce_X13 kA q_this o_this) → va_S A s.heap H locs → lv_has ls 4 [(0, .ref (q_this 0)), (1, .int x1), (2, .int x2), (3, .int x3)] → ff_X13_fingerprint_l22 N k10 n (o_this, x1, x2, x3) = some out → W p l e ({ frames := 4, cells := 0, slots := 0, locals := 120 } : Room) s m [.ref (q_this 0)].toArray below meth c H locs 0 0 (MQ below (mc_Q D kA A (some (.int out.1)) (ce_X13 kA q_this out.2)) [.ref (q_this 0)].toArray s 0 0 A) (F0 m 22 ls []) := by
    intro k10 hk10 n
    induction n with
    | zero => intro o_this x1 x2 x3 H locs ls _ _ _ _ hf; cases hf
    | succ n hk22 =>
      intro o_this x1 x2 x3 H locs ls hP hD hS hl hf
      have hf : ff_X13_fingerprint_c22 N k10 (ff_X13_fingerprint_l22 N k10 n) o_this x1 x2 x3 = some out := hf
      generalize hke : ff_X13_fingerprint_l22 N k10 n = k22 at hk22 hf
      unfold ff_X13_fingerprint_c22 at hf
      refine lv_iload_n hx hb dX13_fingerprint_22 rfl (lv_at hl 3 rfl) ?_
      refine lv_aload_n hx hb dX13_fingerprint_23 rfl (lv_at hl 0 rfl) ?_
      refine va_get (D := D) (ci := 9) (v := .ref (q_this 2)) (C := RX13) (T := TX13) (N := 48) hx hb hUX13 (fun _ h9 => h9) hown hK hP 0 rfl rfl 13 (by decide) (hts (Cond.fieldLink RX13 20 "ReliefBuilderModel" "now" "[I") (List.mem_of_getElem? (i := 2) rfl)) (fun _ h9 => h9) rfl dX13_fingerprint_24 ?_
      refine lv_iconst (v := 0) hx hb dX13_fingerprint_27 (by decide) ?_
      obtain ⟨hi_3, hf⟩ := os_if hf
      refine va_iald hx hb hK hP 2 0 rfl rfl hi_3 dX13_fingerprint_28 ?_
      refine lv_icmp_ge (tgt := 53) hx hb dX13_fingerprint_29 (by decide) (fun hc_4 => ?_) (fun hc_4 => ?_)
      · rw [if_pos hc_4] at hf
        refine lv_iinc (v := x2 + 1) (lv' := [(2, .int (x2 + 1)), (0, .ref (q_this 0)), (1, .int x1), (3, .int x3)]) hx hb dX13_fingerprint_53 hl (k := 2) rfl rfl (by decide) rfl (fun ls hl => ?_)
        refine lv_goto (tgt := 10) hx hb dX13_fingerprint_56 (by decide) ?_
        exact hk10 o_this x1 (x2 + 1) _ _ _ hP hD hS (lv_sub hl [1, 2, 0] rfl) hf
      · rw [if_neg hc_4] at hf
        refine lv_bipush (v := 31) hx hb dX13_fingerprint_32 (by decide) ?_
        refine lv_iload_n hx hb dX13_fingerprint_34 rfl (lv_at hl 1 rfl) ?_
        refine lv_imul hx hb dX13_fingerprint_35 ?_
        refine lv_aload_n hx hb dX13_fingerprint_36 rfl (lv_at hl 0 rfl) ?_
        refine lv_iload_n hx hb dX13_fingerprint_37 rfl (lv_at hl 3 rfl) ?_
        refine lv_iload_n hx hb dX13_fingerprint_38 rfl (lv_at hl 2 rfl) ?_
        obtain ⟨u_5, he_6, hf⟩ := os_bd hf
        refine mc_callV ⟨hx, hb, hml, hown, hts⟩ (mm_X13_estimateAt l D kA N q_this o_this x3 x2 u_5 he_6) (cwV 2 hts gX13_fingerprint_X13_estimateAt rfl rfl rfl (by decide +kernel) ⟨Nat.le_of_ble_eq_true rfl, Nat.le_of_ble_eq_true rfl⟩) (wc := (ce_X13 kA q_this o_this)) (ci := 9) (q0 := 0) rfl rfl rfl hl.1 (As := [.int x3, .int x2]) (rest := [.int ((31 : Int32) * x1)]) rfl (Nat.le_of_ble_eq_true rfl) dX13_fingerprint_39 ⟨Nat.le_of_ble_eq_true rfl, Nat.le_of_ble_eq_true rfl⟩ hK hP hD hS hA [0, 1, 2, 3, 4, 5, 6, 7, 8, 9, 10, 11, 12, 13, 14, 15, 16, 17, 18, 19, 20, 21, 22, 23] [] [0, 1, 2, 3, 4, 5, 6, 7, 8, 9, 10, 11, 12, 13, 14, 15, 16, 17, 18, 19, 20, 21, 22, 23] rfl (by decide) rfl (by decide) (by decide) rfl (by decide) (wr := []) (w2 := (ce_X13 kA q_this o_this)) (fun H locs hP hD hS => ?_)
        have hP : va_P D vwCl (ce_X13 kA q_this o_this) H := hP
        obtain ⟨u_7, he_8, hf⟩ := os_bd hf
        refine mc_callS ⟨hx, hb, hml, hown, hts⟩ (mm_Jxf58ca_floatToIntBits_5c35a l D kA N u_5 u_7 he_8) (va_cwS 1 hts gX13_fingerprint_Jxf58ca_floatToIntBits_5c35a rfl rfl rfl (by decide +kernel) ⟨Nat.le_of_ble_eq_true rfl, Nat.le_of_ble_eq_true rfl⟩) (wc := []) rfl hl.1 (As := [.float u_5]) (rest := [.int ((31 : Int32) * x1)]) rfl (Nat.le_of_ble_eq_true rfl) dX13_fingerprint_42 ⟨Nat.le_of_ble_eq_true rfl, Nat.le_of_ble_eq_true rfl⟩ hK hP hD hS hA [] [0, 1, 2, 3, 4, 5, 6, 7, 8, 9, 10, 11, 12, 13, 14, 15, 16, 17, 18, 19, 20, 21, 22, 23] [0, 1, 2, 3, 4, 5, 6, 7, 8, 9, 10, 11, 12, 13, 14, 15, 16, 17, 18, 19, 20, 21, 22, 23] rfl (by decide) rfl (by decide) (by decide) rfl (by decide) (wr := (ce_X13 kA q_this o_this)) (w2 := (ce_X13 kA q_this o_this)) (fun H locs hP hD hS => ?_)
        have hP : va_P D vwCl (ce_X13 kA q_this o_this) H := hP
        refine lv_iadd hx hb dX13_fingerprint_45 ?_
        refine lv_istore_n (lv' := [(1, .int (((31 : Int32) * x1) + u_7)), (0, .ref (q_this 0)), (2, .int x2), (3, .int x3)]) hx hb dX13_fingerprint_46 rfl hl (by decide) rfl (fun ls hl => ?_)
        refine lv_iinc (v := x3 + 1) (lv' := [(3, .int (x3 + 1)), (1, .int (((31 : Int32) * x1) + u_7)), (0, .ref (q_this 0)), (2, .int x2)]) hx hb dX13_fingerprint_47 hl (k := 3) rfl rfl (by decide) rfl (fun ls hl => ?_)
        refine lv_goto (tgt := 22) hx hb dX13_fingerprint_50 (by decide) ?_
        exact hk22 o_this (((31 : Int32) * x1) + u_7) x2 (x3 + 1) _ _ _ hP hD hS (lv_sub hl [2, 1, 3, 0] rfl) hf
  have hL10 : ∀ (n : Nat) (o_this : os_T) (x1 : Int32) (x2 : Int32) (H : Heap) (locs : List Loc) (ls : Array Slot), va_P D vwCl (ce_X13 kA q_this o_this) H → va_D A (ce_X13 kA q_this o_this) → va_S A s.heap H locs → lv_has ls 4 [(0, .ref (q_this 0)), (1, .int x1), (2, .int x2)] → ff_X13_fingerprint_l10 N n (o_this, x1, x2) = some out → W p l e ({ frames := 4, cells := 0, slots := 0, locals := 120 } : Room) s m [.ref (q_this 0)].toArray below meth c H locs 0 0 (MQ below (mc_Q D kA A (some (.int out.1)) (ce_X13 kA q_this out.2)) [.ref (q_this 0)].toArray s 0 0 A) (F0 m 10 ls []) := by
    intro n
    induction n with
    | zero => intro o_this x1 x2 H locs ls _ _ _ _ hf; cases hf
    | succ n hk10 =>
      intro o_this x1 x2 H locs ls hP hD hS hl hf
      have hf : ff_X13_fingerprint_c10 N (ff_X13_fingerprint_l10 N n) o_this x1 x2 = some out := hf
      generalize hke : ff_X13_fingerprint_l10 N n = k10 at hk10 hf
      unfold ff_X13_fingerprint_c10 at hf
      refine lv_iload_n hx hb dX13_fingerprint_10 rfl (lv_at hl 2 rfl) ?_
      refine lv_aload_n hx hb dX13_fingerprint_11 rfl (lv_at hl 0 rfl) ?_
      refine va_get (D := D) (ci := 9) (v := .ref (q_this 2)) (C := RX13) (T := TX13) (N := 48) hx hb hUX13 (fun _ h9 => h9) hown hK hP 0 rfl rfl 13 (by decide) (hts (Cond.fieldLink RX13 20 "ReliefBuilderModel" "now" "[I") (List.mem_of_getElem? (i := 2) rfl)) (fun _ h9 => h9) rfl dX13_fingerprint_12 ?_
      refine lv_iconst (v := 1) hx hb dX13_fingerprint_15 (by decide) ?_
      obtain ⟨hi_1, hf⟩ := os_if hf
      refine va_iald hx hb hK hP 2 0 rfl rfl hi_1 dX13_fingerprint_16 ?_
      refine lv_icmp_ge (tgt := 59) hx hb dX13_fingerprint_17 (by decide) (fun hc_2 => ?_) (fun hc_2 => ?_)
      · rw [if_pos hc_2] at hf
        refine lv_iload_n hx hb dX13_fingerprint_59 rfl (lv_at hl 1 rfl) ?_
        rw [← Option.some.inj hf]
        exact mc_reti hx hb hr hlk hP hK hD hS dX13_fingerprint_60
      · rw [if_neg hc_2] at hf
        refine lv_iconst (v := 0) hx hb dX13_fingerprint_20 (by decide) ?_
        refine lv_istore_n (lv' := [(3, .int (0 : Int32)), (0, .ref (q_this 0)), (1, .int x1), (2, .int x2)]) hx hb dX13_fingerprint_21 rfl hl (by decide) rfl (fun ls hl => ?_)
        exact hL22 k10 hk10 N o_this x1 x2 (0 : Int32) _ _ _ hP hD hS (lv_sub hl [1, 2, 3, 0] rfl) hf
  unfold ff_X13_fingerprint at hf
  refine lv_aload_n hx hb dX13_fingerprint_0 rfl (lv_at hl 0 rfl) ?_
  refine lv_iconst (v := 0) hx hb dX13_fingerprint_1 (by decide) ?_
  refine va_put (D := D) (ci := 9) (v := .int (0 : Int32)) (ty := .int) (C := RX13) (T := TX13) (N := 48) hx hb hUX13 (fun _ h9 => h9) tyX13 tyX13_ok nmX13 hown hK hP hD hS 0 rfl rfl 0 (by decide) (hts (Cond.fieldLink RX13 93 "ReliefBuilderModel" "code" "I") (List.mem_of_getElem? (i := 1) rfl)) (fun _ h9 => h9) rfl (tyX13_ok 0 (by decide)) rfl rfl (Nat.le_of_ble_eq_true rfl) dX13_fingerprint_2 (fun H locs hP hD hS => ?_)
  have hP : va_P D vwCl (ce_X13 kA q_this (ss_I o_this 0 (0 : Int32))) H := hP
  have hD : va_D A (ce_X13 kA q_this (ss_I o_this 0 (0 : Int32))) := hD
  refine lv_bipush (v := 17) hx hb dX13_fingerprint_5 (by decide) ?_
  refine lv_istore_n (lv' := [(1, .int (17 : Int32)), (0, .ref (q_this 0))]) hx hb dX13_fingerprint_7 rfl hl (by decide) rfl (fun ls hl => ?_)
  refine lv_iconst (v := 0) hx hb dX13_fingerprint_8 (by decide) ?_
  refine lv_istore_n (lv' := [(2, .int (0 : Int32)), (1, .int (17 : Int32)), (0, .ref (q_this 0))]) hx hb dX13_fingerprint_9 rfl hl (by decide) rfl (fun ls hl => ?_)
  exact hL10 N (ss_I o_this 0 (0 : Int32)) (17 : Int32) (0 : Int32) _ _ _ hP hD hS (lv_sub hl [2, 1, 0] rfl) hf
def ff_X13_brightestCell_b48 (N : Nat) (o_this : os_T) (k4 : (Int32 × Int32) → Option Int32) (x1 : Int32) (x2 : Int32) : Option Int32 :=
  k4 (x1, x2 + 1)
def ff_X13_brightestCell_c4 (N : Nat) (o_this : os_T) (k4 : (Int32 × Int32) → Option Int32) (x1 : Int32) (x2 : Int32) : Option Int32 :=
  ((ff_X13_cellMany N o_this).bind fun u_1 => (if u_1 ≤ x2 then some x1 else ((ff_X13_cellAt N o_this x2).bind fun u_4 => ((ff_X13_estimateAt N o_this (u_4 - u_4 / (16 : Int32) * (16 : Int32)) (u_4 / (16 : Int32))).bind fun u_6 => ((ff_X13_estimateAt N o_this (x1 - x1 / (16 : Int32) * (16 : Int32)) (x1 / (16 : Int32))).bind fun u_8 => (if (Op.cmpValue (FP.fcmp u_6 u_8) CmpOp.l) ≤ 0 then ff_X13_brightestCell_b48 N o_this k4 x1 x2 else ff_X13_brightestCell_b48 N o_this k4 u_4 x2))))))
def ff_X13_brightestCell_l4 (N : Nat) (o_this : os_T) : Nat → (Int32 × Int32) → Option Int32 := os_loop (fun k4 s1 => ff_X13_brightestCell_c4 N o_this k4 s1.1 s1.2)
def ff_X13_brightestCell (N : Nat) (o_this : os_T) : Option Int32 :=
  ff_X13_brightestCell_l4 N o_this N ((0 : Int32), (1 : Int32))
set_option maxHeartbeats 4000000 in
set_option maxRecDepth 100000 in
theorem mm_X13_brightestCell (l : Launch) (D : va_G) (kA : Nat → ClassId) (N : Nat) (q_this : Nat → Nat) (o_this : os_T) (out : Int32) (hf : ff_X13_brightestCell N o_this = some out) : mc_C l D kA yX13_brightestCell wsX13_brightestCell ({ frames := 4, cells := 0, slots := 0, locals := 94 } : Room) [.ref (q_this 0)] (ce_X13 kA q_this o_this) (some (.int out)) (ce_X13 kA q_this o_this) := by
  refine mc_of (cc := cX13_brightestCell) (maxL := 4) (ret := (some .int)) (by decide) rfl (Nat.le_of_ble_eq_true rfl) ?_
  intro p e s m below meth c A B hD hP hS ls hl
  obtain ⟨hx, hb, hr, hlk, hml, hown, hts, hK, hA, hnm⟩ := B
  have hown : s.vm.findClass RX13 = some m.cls := hown
  have hl : lv_has ls 4 [(0, .ref (q_this 0))] := hl
  have hB48 : ∀ (k4 : (Int32 × Int32) → Option Int32), (∀ (x1 : Int32) (x2 : Int32) (H : Heap) (locs : List Loc) (ls : Array Slot), va_P D vwCl (ce_X13 kA q_this o_this) H → va_D A (ce_X13 kA q_this o_this) → va_S A s.heap H locs → lv_has ls 4 [(0, .ref (q_this 0)), (1, .int x1), (2, .int x2)] → k4 (x1, x2) = some out → W p l e ({ frames := 4, cells := 0, slots := 0, locals := 94 } : Room) s m [.ref (q_this 0)].toArray below meth c H locs 0 0 (MQ below (mc_Q D kA A (some (.int out)) (ce_X13 kA q_this o_this)) [.ref (q_this 0)].toArray s 0 0 A) (F0 m 4 ls [])) → ∀ (x1 : Int32) (x2 : Int32) (H : Heap) (locs : List Loc) (ls : Array Slot), va_P D vwCl (ce_X13 kA q_this o_this) H → va_D A (ce_X13 kA q_this o_this) → va_S A s.heap H locs → lv_has ls 4 [(0, .ref (q_this 0)), (1, .int x1), (2, .int x2)] → ff_X13_brightestCell_b48 N o_this k4 x1 x2 = some out → W p l e ({ frames := 4, cells := 0, slots := 0, locals := 94 } : Room) s m [.ref (q_this 0)].toArray below meth c H locs 0 0 (MQ below (mc_Q D kA A (some (.int out)) (ce_X13 kA q_this o_this)) [.ref (q_this 0)].toArray s 0 0 A) (F0 m 48 ls []) := by
    intro k4 hk4 x1 x2 H locs ls hP hD hS hl hf
    unfold ff_X13_brightestCell_b48 at hf
    refine lv_iinc (v := x2 + 1) (lv' := [(2, .int (x2 + 1)), (0, .ref (q_this 0)), (1, .int x1)]) hx hb dX13_brightestCell_48 hl (k := 2) rfl rfl (by decide) rfl (fun ls hl => ?_)
    refine lv_goto (tgt := 4) hx hb dX13_brightestCell_51 (by decide) ?_
    exact hk4 x1 (x2 + 1) _ _ _ hP hD hS (lv_sub hl [1, 2, 0] rfl) hf
  have hL4 : ∀ (n : Nat) (x1 : Int32) (x2 : Int32) (H : Heap) (locs : List Loc) (ls : Array Slot), va_P D vwCl (ce_X13 kA q_this o_this) H → va_D A (ce_X13 kA q_this o_this) → va_S A s.heap H locs → lv_has ls 4 [(0, .ref (q_this 0)), (1, .int x1), (2, .int x2)] → ff_X13_brightestCell_l4 N o_this n (x1, x2) = some out → W p l e ({ frames := 4, cells := 0, slots := 0, locals := 94 } : Room) s m [.ref (q_this 0)].toArray below meth c H locs 0 0 (MQ below (mc_Q D kA A (some (.int out)) (ce_X13 kA q_this o_this)) [.ref (q_this 0)].toArray s 0 0 A) (F0 m 4 ls []) := by
    intro n
    induction n with
    | zero => intro x1 x2 H locs ls _ _ _ _ hf; cases hf
    | succ n hk4 =>
      intro x1 x2 H locs ls hP hD hS hl hf
      have hf : ff_X13_brightestCell_c4 N o_this (ff_X13_brightestCell_l4 N o_this n) x1 x2 = some out := hf
      generalize hke : ff_X13_brightestCell_l4 N o_this n = k4 at hk4 hf
      unfold ff_X13_brightestCell_c4 at hf
      refine lv_iload_n hx hb dX13_brightestCell_4 rfl (lv_at hl 2 rfl) ?_
      refine lv_aload_n hx hb dX13_brightestCell_5 rfl (lv_at hl 0 rfl) ?_
      obtain ⟨u_1, he_2, hf⟩ := os_bd hf
      refine mc_callV ⟨hx, hb, hml, hown, hts⟩ (mm_X13_cellMany l D kA N q_this o_this u_1 he_2) (cwV 0 hts gX13_brightestCell_X13_cellMany rfl rfl rfl (by decide +kernel) ⟨Nat.le_of_ble_eq_true rfl, Nat.le_of_ble_eq_true rfl⟩) (wc := (ce_X13 kA q_this o_this)) (ci := 9) (q0 := 0) rfl rfl rfl hl.1 (As := []) (rest := [.int x2]) rfl (Nat.le_of_ble_eq_true rfl) dX13_brightestCell_6 ⟨Nat.le_of_ble_eq_true rfl, Nat.le_of_ble_eq_true rfl⟩ hK hP hD hS hA [0, 1, 2, 3, 4, 5, 6, 7, 8, 9, 10, 11, 12, 13, 14, 15, 16, 17, 18, 19, 20, 21, 22, 23] [] [0, 1, 2, 3, 4, 5, 6, 7, 8, 9, 10, 11, 12, 13, 14, 15, 16, 17, 18, 19, 20, 21, 22, 23] rfl (by decide) rfl (by decide) (by decide) rfl (by decide) (wr := []) (w2 := (ce_X13 kA q_this o_this)) (fun H locs hP hD hS => ?_)
      have hP : va_P D vwCl (ce_X13 kA q_this o_this) H := hP
      refine lv_icmp_ge (tgt := 54) hx hb dX13_brightestCell_9 (by decide) (fun hc_3 => ?_) (fun hc_3 => ?_)
      · rw [if_pos hc_3] at hf
        refine lv_iload_n hx hb dX13_brightestCell_54 rfl (lv_at hl 1 rfl) ?_
        rw [← Option.some.inj hf]
        exact mc_reti hx hb hr hlk hP hK hD hS dX13_brightestCell_55
      · rw [if_neg hc_3] at hf
        refine lv_aload_n hx hb dX13_brightestCell_12 rfl (lv_at hl 0 rfl) ?_
        refine lv_iload_n hx hb dX13_brightestCell_13 rfl (lv_at hl 2 rfl) ?_
        obtain ⟨u_4, he_5, hf⟩ := os_bd hf
        refine mc_callV ⟨hx, hb, hml, hown, hts⟩ (mm_X13_cellAt l D kA N q_this o_this x2 u_4 he_5) (cwV 1 hts gX13_brightestCell_X13_cellAt rfl rfl rfl (by decide +kernel) ⟨Nat.le_of_ble_eq_true rfl, Nat.le_of_ble_eq_true rfl⟩) (wc := (ce_X13 kA q_this o_this)) (ci := 9) (q0 := 0) rfl rfl rfl hl.1 (As := [.int x2]) (rest := []) rfl (Nat.le_of_ble_eq_true rfl) dX13_brightestCell_14 ⟨Nat.le_of_ble_eq_true rfl, Nat.le_of_ble_eq_true rfl⟩ hK hP hD hS hA [0, 1, 2, 3, 4, 5, 6, 7, 8, 9, 10, 11, 12, 13, 14, 15, 16, 17, 18, 19, 20, 21, 22, 23] [] [0, 1, 2, 3, 4, 5, 6, 7, 8, 9, 10, 11, 12, 13, 14, 15, 16, 17, 18, 19, 20, 21, 22, 23] rfl (by decide) rfl (by decide) (by decide) rfl (by decide) (wr := []) (w2 := (ce_X13 kA q_this o_this)) (fun H locs hP hD hS => ?_)
        have hP : va_P D vwCl (ce_X13 kA q_this o_this) H := hP
        refine lv_istore_n (lv' := [(3, .int u_4), (0, .ref (q_this 0)), (1, .int x1), (2, .int x2)]) hx hb dX13_brightestCell_17 rfl hl (by decide) rfl (fun ls hl => ?_)
        refine lv_aload_n hx hb dX13_brightestCell_18 rfl (lv_at hl 1 rfl) ?_
        refine lv_iload_n hx hb dX13_brightestCell_19 rfl (lv_at hl 0 rfl) ?_
        refine lv_bipush (v := 16) hx hb dX13_brightestCell_20 (by decide) ?_
        refine lv_irem hx hb dX13_brightestCell_22 (by decide) ?_
        refine lv_iload_n hx hb dX13_brightestCell_23 rfl (lv_at hl 0 rfl) ?_
        refine lv_bipush (v := 16) hx hb dX13_brightestCell_24 (by decide) ?_
        refine lv_idiv hx hb dX13_brightestCell_26 (by decide) ?_
        obtain ⟨u_6, he_7, hf⟩ := os_bd hf
        refine mc_callV ⟨hx, hb, hml, hown, hts⟩ (mm_X13_estimateAt l D kA N q_this o_this (u_4 - u_4 / (16 : Int32) * (16 : Int32)) (u_4 / (16 : Int32)) u_6 he_7) (cwV 2 hts gX13_brightestCell_X13_estimateAt rfl rfl rfl (by decide +kernel) ⟨Nat.le_of_ble_eq_true rfl, Nat.le_of_ble_eq_true rfl⟩) (wc := (ce_X13 kA q_this o_this)) (ci := 9) (q0 := 0) rfl rfl rfl hl.1 (As := [.int (u_4 - u_4 / (16 : Int32) * (16 : Int32)), .int (u_4 / (16 : Int32))]) (rest := []) rfl (Nat.le_of_ble_eq_true rfl) dX13_brightestCell_27 ⟨Nat.le_of_ble_eq_true rfl, Nat.le_of_ble_eq_true rfl⟩ hK hP hD hS hA [0, 1, 2, 3, 4, 5, 6, 7, 8, 9, 10, 11, 12, 13, 14, 15, 16, 17, 18, 19, 20, 21, 22, 23] [] [0, 1, 2, 3, 4, 5, 6, 7, 8, 9, 10, 11, 12, 13, 14, 15, 16, 17, 18, 19, 20, 21, 22, 23] rfl (by decide) rfl (by decide) (by decide) rfl (by decide) (wr := []) (w2 := (ce_X13 kA q_this o_this)) (fun H locs hP hD hS => ?_)
        have hP : va_P D vwCl (ce_X13 kA q_this o_this) H := hP
        refine lv_aload_n hx hb dX13_brightestCell_30 rfl (lv_at hl 1 rfl) ?_
        refine lv_iload_n hx hb dX13_brightestCell_31 rfl (lv_at hl 2 rfl) ?_
        refine lv_bipush (v := 16) hx hb dX13_brightestCell_32 (by decide) ?_
        refine lv_irem hx hb dX13_brightestCell_34 (by decide) ?_
        refine lv_iload_n hx hb dX13_brightestCell_35 rfl (lv_at hl 2 rfl) ?_
        refine lv_bipush (v := 16) hx hb dX13_brightestCell_36 (by decide) ?_
        refine lv_idiv hx hb dX13_brightestCell_38 (by decide) ?_
        obtain ⟨u_8, he_9, hf⟩ := os_bd hf
        refine mc_callV ⟨hx, hb, hml, hown, hts⟩ (mm_X13_estimateAt l D kA N q_this o_this (x1 - x1 / (16 : Int32) * (16 : Int32)) (x1 / (16 : Int32)) u_8 he_9) (cwV 2 hts gX13_brightestCell_X13_estimateAt rfl rfl rfl (by decide +kernel) ⟨Nat.le_of_ble_eq_true rfl, Nat.le_of_ble_eq_true rfl⟩) (wc := (ce_X13 kA q_this o_this)) (ci := 9) (q0 := 0) rfl rfl rfl hl.1 (As := [.int (x1 - x1 / (16 : Int32) * (16 : Int32)), .int (x1 / (16 : Int32))]) (rest := [.float u_6]) rfl (Nat.le_of_ble_eq_true rfl) dX13_brightestCell_39 ⟨Nat.le_of_ble_eq_true rfl, Nat.le_of_ble_eq_true rfl⟩ hK hP hD hS hA [0, 1, 2, 3, 4, 5, 6, 7, 8, 9, 10, 11, 12, 13, 14, 15, 16, 17, 18, 19, 20, 21, 22, 23] [] [0, 1, 2, 3, 4, 5, 6, 7, 8, 9, 10, 11, 12, 13, 14, 15, 16, 17, 18, 19, 20, 21, 22, 23] rfl (by decide) rfl (by decide) (by decide) rfl (by decide) (wr := []) (w2 := (ce_X13 kA q_this o_this)) (fun H locs hP hD hS => ?_)
        have hP : va_P D vwCl (ce_X13 kA q_this o_this) H := hP
        refine lv_fcmp hx hb dX13_brightestCell_42 ?_
        refine lv_if_le (tgt := 48) hx hb dX13_brightestCell_43 (by decide) (fun hc_10 => ?_) (fun hc_10 => ?_)
        · rw [if_pos hc_10] at hf
          exact hB48 k4 hk4 x1 x2 _ _ _ hP hD hS (lv_sub hl [1, 2, 3] rfl) hf
        · rw [if_neg hc_10] at hf
          refine lv_iload_n hx hb dX13_brightestCell_46 rfl (lv_at hl 0 rfl) ?_
          refine lv_istore_n (lv' := [(1, .int u_4), (3, .int u_4), (0, .ref (q_this 0)), (2, .int x2)]) hx hb dX13_brightestCell_47 rfl hl (by decide) rfl (fun ls hl => ?_)
          exact hB48 k4 hk4 u_4 x2 _ _ _ hP hD hS (lv_sub hl [2, 0, 3] rfl) hf
  unfold ff_X13_brightestCell at hf
  refine lv_iconst (v := 0) hx hb dX13_brightestCell_0 (by decide) ?_
  refine lv_istore_n (lv' := [(1, .int (0 : Int32)), (0, .ref (q_this 0))]) hx hb dX13_brightestCell_1 rfl hl (by decide) rfl (fun ls hl => ?_)
  refine lv_iconst (v := 1) hx hb dX13_brightestCell_2 (by decide) ?_
  refine lv_istore_n (lv' := [(2, .int (1 : Int32)), (1, .int (0 : Int32)), (0, .ref (q_this 0))]) hx hb dX13_brightestCell_3 rfl hl (by decide) rfl (fun ls hl => ?_)
  exact hL4 N (0 : Int32) (1 : Int32) _ _ _ hP hD hS (lv_sub hl [2, 1, 0] rfl) hf
def ff_X13_brightest (N : Nat) (o_this : os_T) : Option (Int32 × os_T) :=
  ((ff_X13_brightestCell N (ss_I o_this 0 (0 : Int32))).bind fun u_1 => some (u_1, ss_I o_this 0 (0 : Int32)))
set_option maxHeartbeats 4000000 in
set_option maxRecDepth 100000 in
theorem mm_X13_brightest (l : Launch) (D : va_G) (kA : Nat → ClassId) (N : Nat) (q_this : Nat → Nat) (o_this : os_T) (out : (Int32 × os_T)) (hf : ff_X13_brightest N o_this = some out) : mc_C l D kA yX13_brightest wsX13_brightest ({ frames := 5, cells := 0, slots := 0, locals := 117 } : Room) [.ref (q_this 0)] (ce_X13 kA q_this o_this) (some (.int out.1)) (ce_X13 kA q_this out.2) := by
  refine mc_of (cc := cX13_brightest) (maxL := 1) (ret := (some .int)) (by decide) rfl (Nat.le_of_ble_eq_true rfl) ?_
  intro p e s m below meth c A B hD hP hS ls hl
  obtain ⟨hx, hb, hr, hlk, hml, hown, hts, hK, hA, hnm⟩ := B
  have hown : s.vm.findClass RX13 = some m.cls := hown
  have hl : lv_has ls 1 [(0, .ref (q_this 0))] := hl
  have hUX13 : ∀ w ∈ u_ws RX13 TX13 48, w.before [.ref (q_this 0)].toArray s = true := fun w h => hts w (List.mem_cons_of_mem _ (List.mem_append_right _ h))
  unfold ff_X13_brightest at hf
  refine lv_aload_n hx hb dX13_brightest_0 rfl (lv_at hl 0 rfl) ?_
  refine lv_iconst (v := 0) hx hb dX13_brightest_1 (by decide) ?_
  refine va_put (D := D) (ci := 9) (v := .int (0 : Int32)) (ty := .int) (C := RX13) (T := TX13) (N := 48) hx hb hUX13 (fun _ h9 => h9) tyX13 tyX13_ok nmX13 hown hK hP hD hS 0 rfl rfl 0 (by decide) (hts (Cond.fieldLink RX13 93 "ReliefBuilderModel" "code" "I") (List.mem_of_getElem? (i := 1) rfl)) (fun _ h9 => h9) rfl (tyX13_ok 0 (by decide)) rfl rfl (Nat.le_of_ble_eq_true rfl) dX13_brightest_2 (fun H locs hP hD hS => ?_)
  have hP : va_P D vwCl (ce_X13 kA q_this (ss_I o_this 0 (0 : Int32))) H := hP
  have hD : va_D A (ce_X13 kA q_this (ss_I o_this 0 (0 : Int32))) := hD
  refine lv_aload_n hx hb dX13_brightest_5 rfl (lv_at hl 0 rfl) ?_
  obtain ⟨u_1, he_2, hf⟩ := os_bd hf
  refine mc_callV ⟨hx, hb, hml, hown, hts⟩ (mm_X13_brightestCell l D kA N q_this (ss_I o_this 0 (0 : Int32)) u_1 he_2) (cwV 0 hts gX13_brightest_X13_brightestCell rfl rfl rfl (by decide +kernel) ⟨Nat.le_of_ble_eq_true rfl, Nat.le_of_ble_eq_true rfl⟩) (wc := (ce_X13 kA q_this (ss_I o_this 0 (0 : Int32)))) (ci := 9) (q0 := 0) rfl rfl rfl hl.1 (As := []) (rest := []) rfl (Nat.le_of_ble_eq_true rfl) dX13_brightest_6 ⟨Nat.le_of_ble_eq_true rfl, Nat.le_of_ble_eq_true rfl⟩ hK hP hD hS hA [0, 1, 2, 3, 4, 5, 6, 7, 8, 9, 10, 11, 12, 13, 14, 15, 16, 17, 18, 19, 20, 21, 22, 23] [] [0, 1, 2, 3, 4, 5, 6, 7, 8, 9, 10, 11, 12, 13, 14, 15, 16, 17, 18, 19, 20, 21, 22, 23] rfl (by decide) rfl (by decide) (by decide) rfl (by decide) (wr := []) (w2 := (ce_X13 kA q_this (ss_I o_this 0 (0 : Int32)))) (fun H locs hP hD hS => ?_)
  have hP : va_P D vwCl (ce_X13 kA q_this (ss_I o_this 0 (0 : Int32))) H := hP
  rw [← Option.some.inj hf]
  exact mc_reti hx hb hr hlk hP hK hD hS dX13_brightest_9
def ff_X13_darkestRow_b90 (N : Nat) (k11 : (os_T × Int32 × UInt32 × Int32) → Option (Int32 × os_T)) (o_this : os_T) (x1 : Int32) (x3 : Int32) (t0 : UInt32) : Option (Int32 × os_T) :=
  k11 (o_this, x1, t0, x3 + 1)
def ff_X13_darkestRow_b88 (N : Nat) (k11 : (os_T × Int32 × UInt32 × Int32) → Option (Int32 × os_T)) (o_this : os_T) (x1 : Int32) (x3 : Int32) (x4 : UInt32) : Option (Int32 × os_T) :=
  ff_X13_darkestRow_b90 N k11 o_this x1 x3 x4
def ff_X13_darkestRow_b72 (N : Nat) (k11 : (os_T × Int32 × UInt32 × Int32) → Option (Int32 × os_T)) (o_this : os_T) (x2 : UInt32) (x3 : Int32) (x4 : UInt32) (t0 : Int32) : Option (Int32 × os_T) :=
  (if x3 ≤ 0 then ff_X13_darkestRow_b88 N k11 o_this t0 x3 x4 else (if (Op.cmpValue (FP.fcmp x4 x2) CmpOp.l) < 0 then ff_X13_darkestRow_b88 N k11 o_this t0 x3 x4 else ff_X13_darkestRow_b90 N k11 o_this t0 x3 x2))
def ff_X13_darkestRow_b71 (N : Nat) (k11 : (os_T × Int32 × UInt32 × Int32) → Option (Int32 × os_T)) (o_this : os_T) (x2 : UInt32) (x3 : Int32) (x4 : UInt32) : Option (Int32 × os_T) :=
  ff_X13_darkestRow_b72 N k11 o_this x2 x3 x4 x3
def ff_X13_darkestRow_c27 (N : Nat) (k11 : (os_T × Int32 × UInt32 × Int32) → Option (Int32 × os_T)) (k27 : (os_T × Int32 × UInt32 × Int32 × UInt32 × Int32) → Option (Int32 × os_T)) (o_this : os_T) (x1 : Int32) (x2 : UInt32) (x3 : Int32) (x4 : UInt32) (x5 : Int32) : Option (Int32 × os_T) :=
  (if os_in (0 : Int32) 7 then (if ((os_A o_this 1) (Int32.toNatClampNeg (0 : Int32))) ≤ x5 then (if x3 ≤ 0 then ff_X13_darkestRow_b71 N k11 o_this x2 x3 x4 else (if (Op.cmpValue (FP.fcmp x4 x2) CmpOp.l) < 0 then ff_X13_darkestRow_b71 N k11 o_this x2 x3 x4 else ff_X13_darkestRow_b72 N k11 o_this x2 x3 x4 x1)) else ((ff_X13_estimateAt N o_this x5 x3).bind fun u_7 => (if os_nn (FP.fadd x4 u_7) then k27 (o_this, x1, x2, x3, FP.fadd x4 u_7, x5 + 1) else none))) else none)
def ff_X13_darkestRow_l27 (N : Nat) (k11 : (os_T × Int32 × UInt32 × Int32) → Option (Int32 × os_T)) : Nat → (os_T × Int32 × UInt32 × Int32 × UInt32 × Int32) → Option (Int32 × os_T) := os_loop (fun k27 s1 => ff_X13_darkestRow_c27 N k11 k27 s1.1 s1.2.1 s1.2.2.1 s1.2.2.2.1 s1.2.2.2.2.1 s1.2.2.2.2.2)
def ff_X13_darkestRow_c11 (N : Nat) (k11 : (os_T × Int32 × UInt32 × Int32) → Option (Int32 × os_T)) (o_this : os_T) (x1 : Int32) (x2 : UInt32) (x3 : Int32) : Option (Int32 × os_T) :=
  (if os_in (1 : Int32) 7 then (if ((os_A o_this 1) (Int32.toNatClampNeg (1 : Int32))) ≤ x3 then some (x1, o_this) else ff_X13_darkestRow_l27 N k11 N (o_this, x1, x2, x3, FP.fconst0, (0 : Int32))) else none)
def ff_X13_darkestRow_l11 (N : Nat) : Nat → (os_T × Int32 × UInt32 × Int32) → Option (Int32 × os_T) := os_loop (fun k11 s1 => ff_X13_darkestRow_c11 N k11 s1.1 s1.2.1 s1.2.2.1 s1.2.2.2)
def ff_X13_darkestRow (N : Nat) (o_this : os_T) : Option (Int32 × os_T) :=
  ff_X13_darkestRow_l11 N N (ss_I o_this 0 (0 : Int32), (0 : Int32), FP.fconst0, (0 : Int32))
set_option maxHeartbeats 4000000 in
set_option maxRecDepth 100000 in
theorem mm_X13_darkestRow (l : Launch) (D : va_G) (kA : Nat → ClassId) (N : Nat) (q_this : Nat → Nat) (o_this : os_T) (out : (Int32 × os_T)) (hf : ff_X13_darkestRow N o_this = some out) : mc_C l D kA yX13_darkestRow wsX13_darkestRow ({ frames := 4, cells := 0, slots := 0, locals := 94 } : Room) [.ref (q_this 0)] (ce_X13 kA q_this o_this) (some (.int out.1)) (ce_X13 kA q_this out.2) := by
  refine mc_of (cc := cX13_darkestRow) (maxL := 6) (ret := (some .int)) (by decide) rfl (Nat.le_of_ble_eq_true rfl) ?_
  intro p e s m below meth c A B hD hP hS ls hl
  obtain ⟨hx, hb, hr, hlk, hml, hown, hts, hK, hA, hnm⟩ := B
  have hown : s.vm.findClass RX13 = some m.cls := hown
  have hl : lv_has ls 6 [(0, .ref (q_this 0))] := hl
  have hUX13 : ∀ w ∈ u_ws RX13 TX13 48, w.before [.ref (q_this 0)].toArray s = true := fun w h => hts w (List.mem_cons_of_mem _ (List.mem_append_right _ h))
  have hB90 : ∀ (k11 : (os_T × Int32 × UInt32 × Int32) → Option (Int32 × os_T)), (∀ (o_this : os_T) (x1 : Int32) (x2 : UInt32) (x3 : Int32) (H : Heap) (locs : List Loc) (ls : Array Slot), va_P D vwCl (ce_X13 kA q_this o_this) H → va_D A (ce_X13 kA q_this o_this) → va_S A s.heap H locs → lv_has ls 6 [(0, .ref (q_this 0)), (1, .int x1), (2, .float x2), (3, .int x3)] → k11 (o_this, x1, x2, x3) = some out → W p l e ({ frames := 4, cells := 0, slots := 0, locals := 94 } : Room) s m [.ref (q_this 0)].toArray below meth c H locs 0 0 (MQ below (mc_Q D kA A (some (.int out.1)) (ce_X13 kA q_this out.2)) [.ref (q_this 0)].toArray s 0 0 A) (F0 m 11 ls [])) → ∀ (o_this : os_T) (x1 : Int32) (x3 : Int32) (t0 : UInt32) (H : Heap) (locs : List Loc) (ls : Array Slot), va_P D vwCl (ce_X13 kA q_this o_this) H → va_D A (ce_X13 kA q_this o_this) → va_S A s.heap H locs → lv_has ls 6 [(0, .ref (q_this 0)), (1, .int x1), (3, .int x3)] → ff_X13_darkestRow_b90 N k11 o_this x1 x3 t0 = some out → W p l e ({ frames := 4, cells := 0, slots := 0, locals := 94 } : Room) s m [.ref (q_this 0)].toArray below meth c H locs 0 0 (MQ below (mc_Q D kA A (some (.int out.1)) (ce_X13 kA q_this out.2)) [.ref (q_this 0)].toArray s 0 0 A) (F0 m 90 ls [.float t0]) := by
    intro k11 hk11 o_this x1 x3 t0 H locs ls hP hD hS hl hf
    unfold ff_X13_darkestRow_b90 at hf
    refine lv_fstore_n (lv' := [(2, .float t0), (0, .ref (q_this 0)), (1, .int x1), (3, .int x3)]) hx hb dX13_darkestRow_90 rfl hl (by decide) rfl (fun ls hl => ?_)
    refine lv_iinc (v := x3 + 1) (lv' := [(3, .int (x3 + 1)), (2, .float t0), (0, .ref (q_this 0)), (1, .int x1)]) hx hb dX13_darkestRow_91 hl (k := 3) rfl rfl (by decide) rfl (fun ls hl => ?_)
    refine lv_goto (tgt := 11) hx hb dX13_darkestRow_94 (by decide) ?_
    exact hk11 o_this x1 t0 (x3 + 1) _ _ _ hP hD hS (lv_sub hl [2, 3, 1, 0] rfl) hf
  have hB88 : ∀ (k11 : (os_T × Int32 × UInt32 × Int32) → Option (Int32 × os_T)), (∀ (o_this : os_T) (x1 : Int32) (x2 : UInt32) (x3 : Int32) (H : Heap) (locs : List Loc) (ls : Array Slot), va_P D vwCl (ce_X13 kA q_this o_this) H → va_D A (ce_X13 kA q_this o_this) → va_S A s.heap H locs → lv_has ls 6 [(0, .ref (q_this 0)), (1, .int x1), (2, .float x2), (3, .int x3)] → k11 (o_this, x1, x2, x3) = some out → W p l e ({ frames := 4, cells := 0, slots := 0, locals := 94 } : Room) s m [.ref (q_this 0)].toArray below meth c H locs 0 0 (MQ below (mc_Q D kA A (some (.int out.1)) (ce_X13 kA q_this out.2)) [.ref (q_this 0)].toArray s 0 0 A) (F0 m 11 ls [])) → ∀ (o_this : os_T) (x1 : Int32) (x3 : Int32) (x4 : UInt32) (H : Heap) (locs : List Loc) (ls : Array Slot), va_P D vwCl (ce_X13 kA q_this o_this) H → va_D A (ce_X13 kA q_this o_this) → va_S A s.heap H locs → lv_has ls 6 [(0, .ref (q_this 0)), (1, .int x1), (3, .int x3), (4, .float x4)] → ff_X13_darkestRow_b88 N k11 o_this x1 x3 x4 = some out → W p l e ({ frames := 4, cells := 0, slots := 0, locals := 94 } : Room) s m [.ref (q_this 0)].toArray below meth c H locs 0 0 (MQ below (mc_Q D kA A (some (.int out.1)) (ce_X13 kA q_this out.2)) [.ref (q_this 0)].toArray s 0 0 A) (F0 m 88 ls []) := by
    intro k11 hk11 o_this x1 x3 x4 H locs ls hP hD hS hl hf
    unfold ff_X13_darkestRow_b88 at hf
    refine lv_fload hx hb dX13_darkestRow_88 (lv_at hl 3 rfl) ?_
    exact hB90 k11 hk11 o_this x1 x3 x4 _ _ _ hP hD hS (lv_sub hl [0, 1, 2] rfl) hf
  have hB72 : ∀ (k11 : (os_T × Int32 × UInt32 × Int32) → Option (Int32 × os_T)), (∀ (o_this : os_T) (x1 : Int32) (x2 : UInt32) (x3 : Int32) (H : Heap) (locs : List Loc) (ls : Array Slot), va_P D vwCl (ce_X13 kA q_this o_this) H → va_D A (ce_X13 kA q_this o_this) → va_S A s.heap H locs → lv_has ls 6 [(0, .ref (q_this 0)), (1, .int x1), (2, .float x2), (3, .int x3)] → k11 (o_this, x1, x2, x3) = some out → W p l e ({ frames := 4, cells := 0, slots := 0, locals := 94 } : Room) s m [.ref (q_this 0)].toArray below meth c H locs 0 0 (MQ below (mc_Q D kA A (some (.int out.1)) (ce_X13 kA q_this out.2)) [.ref (q_this 0)].toArray s 0 0 A) (F0 m 11 ls [])) → ∀ (o_this : os_T) (x2 : UInt32) (x3 : Int32) (x4 : UInt32) (t0 : Int32) (H : Heap) (locs : List Loc) (ls : Array Slot), va_P D vwCl (ce_X13 kA q_this o_this) H → va_D A (ce_X13 kA q_this o_this) → va_S A s.heap H locs → lv_has ls 6 [(0, .ref (q_this 0)), (2, .float x2), (3, .int x3), (4, .float x4)] → ff_X13_darkestRow_b72 N k11 o_this x2 x3 x4 t0 = some out → W p l e ({ frames := 4, cells := 0, slots := 0, locals := 94 } : Room) s m [.ref (q_this 0)].toArray below meth c H locs 0 0 (MQ below (mc_Q D kA A (some (.int out.1)) (ce_X13 kA q_this out.2)) [.ref (q_this 0)].toArray s 0 0 A) (F0 m 72 ls [.int t0]) := by
    intro k11 hk11 o_this x2 x3 x4 t0 H locs ls hP hD hS hl hf
    unfold ff_X13_darkestRow_b72 at hf
    refine lv_istore_n (lv' := [(1, .int t0), (0, .ref (q_this 0)), (2, .float x2), (3, .int x3), (4, .float x4)]) hx hb dX13_darkestRow_72 rfl hl (by decide) rfl (fun ls hl => ?_)
    refine lv_iload_n hx hb dX13_darkestRow_73 rfl (lv_at hl 3 rfl) ?_
    refine lv_if_le (tgt := 88) hx hb dX13_darkestRow_74 (by decide) (fun hc_10 => ?_) (fun hc_10 => ?_)
    · rw [if_pos hc_10] at hf
      exact hB88 k11 hk11 o_this t0 x3 x4 _ _ _ hP hD hS (lv_sub hl [1, 0, 3, 4] rfl) hf
    · rw [if_neg hc_10] at hf
      refine lv_fload hx hb dX13_darkestRow_77 (lv_at hl 4 rfl) ?_
      refine lv_fload_n hx hb dX13_darkestRow_79 rfl (lv_at hl 2 rfl) ?_
      refine lv_fcmp hx hb dX13_darkestRow_80 ?_
      refine lv_if_lt (tgt := 88) hx hb dX13_darkestRow_81 (by decide) (fun hc_11 => ?_) (fun hc_11 => ?_)
      · rw [if_pos hc_11] at hf
        exact hB88 k11 hk11 o_this t0 x3 x4 _ _ _ hP hD hS (lv_sub hl [1, 0, 3, 4] rfl) hf
      · rw [if_neg hc_11] at hf
        refine lv_fload_n hx hb dX13_darkestRow_84 rfl (lv_at hl 2 rfl) ?_
        refine lv_goto (tgt := 90) hx hb dX13_darkestRow_85 (by decide) ?_
        exact hB90 k11 hk11 o_this t0 x3 x2 _ _ _ hP hD hS (lv_sub hl [1, 0, 3] rfl) hf
  have hB71 : ∀ (k11 : (os_T × Int32 × UInt32 × Int32) → Option (Int32 × os_T)), (∀ (o_this : os_T) (x1 : Int32) (x2 : UInt32) (x3 : Int32) (H : Heap) (locs : List Loc) (ls : Array Slot), va_P D vwCl (ce_X13 kA q_this o_this) H → va_D A (ce_X13 kA q_this o_this) → va_S A s.heap H locs → lv_has ls 6 [(0, .ref (q_this 0)), (1, .int x1), (2, .float x2), (3, .int x3)] → k11 (o_this, x1, x2, x3) = some out → W p l e ({ frames := 4, cells := 0, slots := 0, locals := 94 } : Room) s m [.ref (q_this 0)].toArray below meth c H locs 0 0 (MQ below (mc_Q D kA A (some (.int out.1)) (ce_X13 kA q_this out.2)) [.ref (q_this 0)].toArray s 0 0 A) (F0 m 11 ls [])) → ∀ (o_this : os_T) (x2 : UInt32) (x3 : Int32) (x4 : UInt32) (H : Heap) (locs : List Loc) (ls : Array Slot), va_P D vwCl (ce_X13 kA q_this o_this) H → va_D A (ce_X13 kA q_this o_this) → va_S A s.heap H locs → lv_has ls 6 [(0, .ref (q_this 0)), (2, .float x2), (3, .int x3), (4, .float x4)] → ff_X13_darkestRow_b71 N k11 o_this x2 x3 x4 = some out → W p l e ({ frames := 4, cells := 0, slots := 0, locals := 94 } : Room) s m [.ref (q_this 0)].toArray below meth c H locs 0 0 (MQ below (mc_Q D kA A (some (.int out.1)) (ce_X13 kA q_this out.2)) [.ref (q_this 0)].toArray s 0 0 A) (F0 m 71 ls []) := by
    intro k11 hk11 o_this x2 x3 x4 H locs ls hP hD hS hl hf
    unfold ff_X13_darkestRow_b71 at hf
    refine lv_iload_n hx hb dX13_darkestRow_71 rfl (lv_at hl 2 rfl) ?_
    exact hB72 k11 hk11 o_this x2 x3 x4 x3 _ _ _ hP hD hS (lv_sub hl [0, 1, 2, 3] rfl) hf
  have hL27 : ∀ (k11 : (os_T × Int32 × UInt32 × Int32) → Option (Int32 × os_T)), (∀ (o_this : os_T) (x1 : Int32) (x2 : UInt32) (x3 : Int32) (H : Heap) (locs : List Loc) (ls : Array Slot), va_P D vwCl (ce_X13 kA q_this o_this) H → va_D A (ce_X13 kA q_this o_this) → va_S A s.heap H locs → lv_has ls 6 [(0, .ref (q_this 0)), (1, .int x1), (2, .float x2), (3, .int x3)] → k11 (o_this, x1, x2, x3) = some out → W p l e ({ frames := 4, cells := 0, slots := 0, locals := 94 } : Room) s m [.ref (q_this 0)].toArray below meth c H locs 0 0 (MQ below (mc_Q D kA A (some (.int out.1)) (ce_X13 kA q_this out.2)) [.ref (q_this 0)].toArray s 0 0 A) (F0 m 11 ls [])) → ∀ (n : Nat) (o_this : os_T) (x1 : Int32) (x2 : UInt32) (x3 : Int32) (x4 : UInt32) (x5 : Int32) (H : Heap) (locs : List Loc) (ls : Array Slot), va_P D vwCl (ce_X13 kA q_this o_this) H → va_D A (ce_X13 kA q_this o_this) → va_S A s.heap H locs → lv_has ls 6 [(0, .ref (q_this 0)), (1, .int x1), (2, .float x2), (3, .int x3), (4, .float x4), (5, .int x5)] → ff_X13_darkestRow_l27 N k11 n (o_this, x1, x2, x3, x4, x5) = some out → W p l e ({ frames := 4, cells := 0, slots := 0, locals := 94 } : Room) s m [.ref (q_this 0)].toArray below meth c H locs 0 0 (MQ below (mc_Q D kA A (some (.int out.1)) (ce_X13 kA q_this out.2)) [.ref (q_this 0)].toArray s 0 0 A) (F0 m 27 ls []) := by
    intro k11 hk11 n
    induction n with
    | zero => intro o_this x1 x2 x3 x4 x5 H locs ls _ _ _ _ hf; cases hf
    | succ n hk27 =>
      intro o_this x1 x2 x3 x4 x5 H locs ls hP hD hS hl hf
      have hf : ff_X13_darkestRow_c27 N k11 (ff_X13_darkestRow_l27 N k11 n) o_this x1 x2 x3 x4 x5 = some out := hf
      generalize hke : ff_X13_darkestRow_l27 N k11 n = k27 at hk27 hf
      unfold ff_X13_darkestRow_c27 at hf
      refine lv_iload hx hb dX13_darkestRow_27 (lv_at hl 5 rfl) ?_
      refine lv_aload_n hx hb dX13_darkestRow_29 rfl (lv_at hl 0 rfl) ?_
      refine va_get (D := D) (ci := 9) (v := .ref (q_this 2)) (C := RX13) (T := TX13) (N := 48) hx hb hUX13 (fun _ h9 => h9) hown hK hP 0 rfl rfl 13 (by decide) (hts (Cond.fieldLink RX13 20 "ReliefBuilderModel" "now" "[I") (List.mem_of_getElem? (i := 2) rfl)) (fun _ h9 => h9) rfl dX13_darkestRow_30 ?_
      refine lv_iconst (v := 0) hx hb dX13_darkestRow_33 (by decide) ?_
      obtain ⟨hi_3, hf⟩ := os_if hf
      refine va_iald hx hb hK hP 2 0 rfl rfl hi_3 dX13_darkestRow_34 ?_
      refine lv_icmp_ge (tgt := 56) hx hb dX13_darkestRow_35 (by decide) (fun hc_4 => ?_) (fun hc_4 => ?_)
      · rw [if_pos hc_4] at hf
        refine lv_iload_n hx hb dX13_darkestRow_56 rfl (lv_at hl 3 rfl) ?_
        refine lv_if_le (tgt := 71) hx hb dX13_darkestRow_57 (by decide) (fun hc_5 => ?_) (fun hc_5 => ?_)
        · rw [if_pos hc_5] at hf
          exact hB71 k11 hk11 o_this x2 x3 x4 _ _ _ hP hD hS (lv_sub hl [0, 2, 3, 4] rfl) hf
        · rw [if_neg hc_5] at hf
          refine lv_fload hx hb dX13_darkestRow_60 (lv_at hl 4 rfl) ?_
          refine lv_fload_n hx hb dX13_darkestRow_62 rfl (lv_at hl 2 rfl) ?_
          refine lv_fcmp hx hb dX13_darkestRow_63 ?_
          refine lv_if_lt (tgt := 71) hx hb dX13_darkestRow_64 (by decide) (fun hc_6 => ?_) (fun hc_6 => ?_)
          · rw [if_pos hc_6] at hf
            exact hB71 k11 hk11 o_this x2 x3 x4 _ _ _ hP hD hS (lv_sub hl [0, 2, 3, 4] rfl) hf
          · rw [if_neg hc_6] at hf
            refine lv_iload_n hx hb dX13_darkestRow_67 rfl (lv_at hl 1 rfl) ?_
            refine lv_goto (tgt := 72) hx hb dX13_darkestRow_68 (by decide) ?_
            exact hB72 k11 hk11 o_this x2 x3 x4 x1 _ _ _ hP hD hS (lv_sub hl [0, 2, 3, 4] rfl) hf
      · rw [if_neg hc_4] at hf
        refine lv_fload hx hb dX13_darkestRow_38 (lv_at hl 4 rfl) ?_
        refine lv_aload_n hx hb dX13_darkestRow_40 rfl (lv_at hl 0 rfl) ?_
        refine lv_iload hx hb dX13_darkestRow_41 (lv_at hl 5 rfl) ?_
        refine lv_iload_n hx hb dX13_darkestRow_43 rfl (lv_at hl 3 rfl) ?_
        obtain ⟨u_7, he_8, hf⟩ := os_bd hf
        refine mc_callV ⟨hx, hb, hml, hown, hts⟩ (mm_X13_estimateAt l D kA N q_this o_this x5 x3 u_7 he_8) (cwV 2 hts gX13_darkestRow_X13_estimateAt rfl rfl rfl (by decide +kernel) ⟨Nat.le_of_ble_eq_true rfl, Nat.le_of_ble_eq_true rfl⟩) (wc := (ce_X13 kA q_this o_this)) (ci := 9) (q0 := 0) rfl rfl rfl hl.1 (As := [.int x5, .int x3]) (rest := [.float x4]) rfl (Nat.le_of_ble_eq_true rfl) dX13_darkestRow_44 ⟨Nat.le_of_ble_eq_true rfl, Nat.le_of_ble_eq_true rfl⟩ hK hP hD hS hA [0, 1, 2, 3, 4, 5, 6, 7, 8, 9, 10, 11, 12, 13, 14, 15, 16, 17, 18, 19, 20, 21, 22, 23] [] [0, 1, 2, 3, 4, 5, 6, 7, 8, 9, 10, 11, 12, 13, 14, 15, 16, 17, 18, 19, 20, 21, 22, 23] rfl (by decide) rfl (by decide) (by decide) rfl (by decide) (wr := []) (w2 := (ce_X13 kA q_this o_this)) (fun H locs hP hD hS => ?_)
        have hP : va_P D vwCl (ce_X13 kA q_this o_this) H := hP
        obtain ⟨hn_9, hf⟩ := os_if hf
        refine lv_fadd hx hb dX13_darkestRow_47 hn_9 ?_
        refine lv_fstore (lv' := [(4, .float (FP.fadd x4 u_7)), (0, .ref (q_this 0)), (1, .int x1), (2, .float x2), (3, .int x3), (5, .int x5)]) hx hb dX13_darkestRow_48 hl (by decide) rfl (fun ls hl => ?_)
        refine lv_iinc (v := x5 + 1) (lv' := [(5, .int (x5 + 1)), (4, .float (FP.fadd x4 u_7)), (0, .ref (q_this 0)), (1, .int x1), (2, .float x2), (3, .int x3)]) hx hb dX13_darkestRow_50 hl (k := 5) rfl rfl (by decide) rfl (fun ls hl => ?_)
        refine lv_goto (tgt := 27) hx hb dX13_darkestRow_53 (by decide) ?_
        exact hk27 o_this x1 x2 x3 (FP.fadd x4 u_7) (x5 + 1) _ _ _ hP hD hS (lv_sub hl [2, 3, 4, 5, 1, 0] rfl) hf
  have hL11 : ∀ (n : Nat) (o_this : os_T) (x1 : Int32) (x2 : UInt32) (x3 : Int32) (H : Heap) (locs : List Loc) (ls : Array Slot), va_P D vwCl (ce_X13 kA q_this o_this) H → va_D A (ce_X13 kA q_this o_this) → va_S A s.heap H locs → lv_has ls 6 [(0, .ref (q_this 0)), (1, .int x1), (2, .float x2), (3, .int x3)] → ff_X13_darkestRow_l11 N n (o_this, x1, x2, x3) = some out → W p l e ({ frames := 4, cells := 0, slots := 0, locals := 94 } : Room) s m [.ref (q_this 0)].toArray below meth c H locs 0 0 (MQ below (mc_Q D kA A (some (.int out.1)) (ce_X13 kA q_this out.2)) [.ref (q_this 0)].toArray s 0 0 A) (F0 m 11 ls []) := by
    intro n
    induction n with
    | zero => intro o_this x1 x2 x3 H locs ls _ _ _ _ hf; cases hf
    | succ n hk11 =>
      intro o_this x1 x2 x3 H locs ls hP hD hS hl hf
      have hf : ff_X13_darkestRow_c11 N (ff_X13_darkestRow_l11 N n) o_this x1 x2 x3 = some out := hf
      generalize hke : ff_X13_darkestRow_l11 N n = k11 at hk11 hf
      unfold ff_X13_darkestRow_c11 at hf
      refine lv_iload_n hx hb dX13_darkestRow_11 rfl (lv_at hl 3 rfl) ?_
      refine lv_aload_n hx hb dX13_darkestRow_12 rfl (lv_at hl 0 rfl) ?_
      refine va_get (D := D) (ci := 9) (v := .ref (q_this 2)) (C := RX13) (T := TX13) (N := 48) hx hb hUX13 (fun _ h9 => h9) hown hK hP 0 rfl rfl 13 (by decide) (hts (Cond.fieldLink RX13 20 "ReliefBuilderModel" "now" "[I") (List.mem_of_getElem? (i := 2) rfl)) (fun _ h9 => h9) rfl dX13_darkestRow_13 ?_
      refine lv_iconst (v := 1) hx hb dX13_darkestRow_16 (by decide) ?_
      obtain ⟨hi_1, hf⟩ := os_if hf
      refine va_iald hx hb hK hP 2 0 rfl rfl hi_1 dX13_darkestRow_17 ?_
      refine lv_icmp_ge (tgt := 97) hx hb dX13_darkestRow_18 (by decide) (fun hc_2 => ?_) (fun hc_2 => ?_)
      · rw [if_pos hc_2] at hf
        refine lv_iload_n hx hb dX13_darkestRow_97 rfl (lv_at hl 1 rfl) ?_
        rw [← Option.some.inj hf]
        exact mc_reti hx hb hr hlk hP hK hD hS dX13_darkestRow_98
      · rw [if_neg hc_2] at hf
        refine lv_fconst0 hx hb dX13_darkestRow_21 ?_
        refine lv_fstore (lv' := [(4, .float FP.fconst0), (0, .ref (q_this 0)), (1, .int x1), (2, .float x2), (3, .int x3)]) hx hb dX13_darkestRow_22 hl (by decide) rfl (fun ls hl => ?_)
        refine lv_iconst (v := 0) hx hb dX13_darkestRow_24 (by decide) ?_
        refine lv_istore (lv' := [(5, .int (0 : Int32)), (4, .float FP.fconst0), (0, .ref (q_this 0)), (1, .int x1), (2, .float x2), (3, .int x3)]) hx hb dX13_darkestRow_25 hl (by decide) rfl (fun ls hl => ?_)
        exact hL27 k11 hk11 N o_this x1 x2 x3 FP.fconst0 (0 : Int32) _ _ _ hP hD hS (lv_sub hl [2, 3, 4, 5, 1, 0] rfl) hf
  unfold ff_X13_darkestRow at hf
  refine lv_aload_n hx hb dX13_darkestRow_0 rfl (lv_at hl 0 rfl) ?_
  refine lv_iconst (v := 0) hx hb dX13_darkestRow_1 (by decide) ?_
  refine va_put (D := D) (ci := 9) (v := .int (0 : Int32)) (ty := .int) (C := RX13) (T := TX13) (N := 48) hx hb hUX13 (fun _ h9 => h9) tyX13 tyX13_ok nmX13 hown hK hP hD hS 0 rfl rfl 0 (by decide) (hts (Cond.fieldLink RX13 93 "ReliefBuilderModel" "code" "I") (List.mem_of_getElem? (i := 1) rfl)) (fun _ h9 => h9) rfl (tyX13_ok 0 (by decide)) rfl rfl (Nat.le_of_ble_eq_true rfl) dX13_darkestRow_2 (fun H locs hP hD hS => ?_)
  have hP : va_P D vwCl (ce_X13 kA q_this (ss_I o_this 0 (0 : Int32))) H := hP
  have hD : va_D A (ce_X13 kA q_this (ss_I o_this 0 (0 : Int32))) := hD
  refine lv_iconst (v := 0) hx hb dX13_darkestRow_5 (by decide) ?_
  refine lv_istore_n (lv' := [(1, .int (0 : Int32)), (0, .ref (q_this 0))]) hx hb dX13_darkestRow_6 rfl hl (by decide) rfl (fun ls hl => ?_)
  refine lv_fconst0 hx hb dX13_darkestRow_7 ?_
  refine lv_fstore_n (lv' := [(2, .float FP.fconst0), (1, .int (0 : Int32)), (0, .ref (q_this 0))]) hx hb dX13_darkestRow_8 rfl hl (by decide) rfl (fun ls hl => ?_)
  refine lv_iconst (v := 0) hx hb dX13_darkestRow_9 (by decide) ?_
  refine lv_istore_n (lv' := [(3, .int (0 : Int32)), (2, .float FP.fconst0), (1, .int (0 : Int32)), (0, .ref (q_this 0))]) hx hb dX13_darkestRow_10 rfl hl (by decide) rfl (fun ls hl => ?_)
  exact hL11 N (ss_I o_this 0 (0 : Int32)) (0 : Int32) FP.fconst0 (0 : Int32) _ _ _ hP hD hS (lv_sub hl [3, 2, 1, 0] rfl) hf
def ff_X13_contrast_b74 (N : Nat) (k16 : (os_T × UInt32 × UInt32 × Int32) → Option (UInt32 × os_T)) (o_this : os_T) (x1 : UInt32) (x3 : Int32) (t0 : UInt32) : Option (UInt32 × os_T) :=
  k16 (o_this, x1, t0, x3 + 1)
def ff_X13_contrast_b60 (N : Nat) (k16 : (os_T × UInt32 × UInt32 × Int32) → Option (UInt32 × os_T)) (o_this : os_T) (x2 : UInt32) (x3 : Int32) (x5 : UInt32) (t0 : UInt32) : Option (UInt32 × os_T) :=
  (if 0 ≤ (Op.cmpValue (FP.fcmp x5 x2) CmpOp.g) then ff_X13_contrast_b74 N k16 o_this t0 x3 x2 else ff_X13_contrast_b74 N k16 o_this t0 x3 x5)
def ff_X13_contrast_c16 (N : Nat) (k16 : (os_T × UInt32 × UInt32 × Int32) → Option (UInt32 × os_T)) (o_this : os_T) (x1 : UInt32) (x2 : UInt32) (x3 : Int32) : Option (UInt32 × os_T) :=
  ((ff_X13_cellMany N o_this).bind fun u_3 => (if u_3 ≤ x3 then (if os_nn (FP.fsub x1 x2) then some (FP.fsub x1 x2, o_this) else none) else ((ff_X13_cellAt N o_this x3).bind fun u_7 => ((ff_X13_estimateAt N o_this (u_7 - u_7 / (16 : Int32) * (16 : Int32)) (u_7 / (16 : Int32))).bind fun u_9 => (if (Op.cmpValue (FP.fcmp u_9 x1) CmpOp.l) ≤ 0 then ff_X13_contrast_b60 N k16 o_this x2 x3 u_9 x1 else ff_X13_contrast_b60 N k16 o_this x2 x3 u_9 u_9)))))
def ff_X13_contrast_l16 (N : Nat) : Nat → (os_T × UInt32 × UInt32 × Int32) → Option (UInt32 × os_T) := os_loop (fun k16 s1 => ff_X13_contrast_c16 N k16 s1.1 s1.2.1 s1.2.2.1 s1.2.2.2)
def ff_X13_contrast (N : Nat) (o_this : os_T) : Option (UInt32 × os_T) :=
  ((ff_X13_estimateAt N (ss_I o_this 0 (0 : Int32)) (0 : Int32) (0 : Int32)).bind fun u_1 => ff_X13_contrast_l16 N N (ss_I o_this 0 (0 : Int32), u_1, u_1, (1 : Int32)))
set_option maxHeartbeats 4000000 in
set_option maxRecDepth 100000 in
theorem mm_X13_contrast (l : Launch) (D : va_G) (kA : Nat → ClassId) (N : Nat) (q_this : Nat → Nat) (o_this : os_T) (out : (UInt32 × os_T)) (hf : ff_X13_contrast N o_this = some out) : mc_C l D kA yX13_contrast wsX13_contrast ({ frames := 4, cells := 0, slots := 0, locals := 94 } : Room) [.ref (q_this 0)] (ce_X13 kA q_this o_this) (some (.float out.1)) (ce_X13 kA q_this out.2) := by
  refine mc_of (cc := cX13_contrast) (maxL := 6) (ret := (some .float)) (by decide) rfl (Nat.le_of_ble_eq_true rfl) ?_
  intro p e s m below meth c A B hD hP hS ls hl
  obtain ⟨hx, hb, hr, hlk, hml, hown, hts, hK, hA, hnm⟩ := B
  have hown : s.vm.findClass RX13 = some m.cls := hown
  have hl : lv_has ls 6 [(0, .ref (q_this 0))] := hl
  have hUX13 : ∀ w ∈ u_ws RX13 TX13 48, w.before [.ref (q_this 0)].toArray s = true := fun w h => hts w (List.mem_cons_of_mem _ (List.mem_append_right _ h))
  have hB74 : ∀ (k16 : (os_T × UInt32 × UInt32 × Int32) → Option (UInt32 × os_T)), (∀ (o_this : os_T) (x1 : UInt32) (x2 : UInt32) (x3 : Int32) (H : Heap) (locs : List Loc) (ls : Array Slot), va_P D vwCl (ce_X13 kA q_this o_this) H → va_D A (ce_X13 kA q_this o_this) → va_S A s.heap H locs → lv_has ls 6 [(0, .ref (q_this 0)), (1, .float x1), (2, .float x2), (3, .int x3)] → k16 (o_this, x1, x2, x3) = some out → W p l e ({ frames := 4, cells := 0, slots := 0, locals := 94 } : Room) s m [.ref (q_this 0)].toArray below meth c H locs 0 0 (MQ below (mc_Q D kA A (some (.float out.1)) (ce_X13 kA q_this out.2)) [.ref (q_this 0)].toArray s 0 0 A) (F0 m 16 ls [])) → ∀ (o_this : os_T) (x1 : UInt32) (x3 : Int32) (t0 : UInt32) (H : Heap) (locs : List Loc) (ls : Array Slot), va_P D vwCl (ce_X13 kA q_this o_this) H → va_D A (ce_X13 kA q_this o_this) → va_S A s.heap H locs → lv_has ls 6 [(0, .ref (q_this 0)), (1, .float x1), (3, .int x3)] → ff_X13_contrast_b74 N k16 o_this x1 x3 t0 = some out → W p l e ({ frames := 4, cells := 0, slots := 0, locals := 94 } : Room) s m [.ref (q_this 0)].toArray below meth c H locs 0 0 (MQ below (mc_Q D kA A (some (.float out.1)) (ce_X13 kA q_this out.2)) [.ref (q_this 0)].toArray s 0 0 A) (F0 m 74 ls [.float t0]) := by
    intro k16 hk16 o_this x1 x3 t0 H locs ls hP hD hS hl hf
    unfold ff_X13_contrast_b74 at hf
    refine lv_fstore_n (lv' := [(2, .float t0), (0, .ref (q_this 0)), (1, .float x1), (3, .int x3)]) hx hb dX13_contrast_74 rfl hl (by decide) rfl (fun ls hl => ?_)
    refine lv_iinc (v := x3 + 1) (lv' := [(3, .int (x3 + 1)), (2, .float t0), (0, .ref (q_this 0)), (1, .float x1)]) hx hb dX13_contrast_75 hl (k := 3) rfl rfl (by decide) rfl (fun ls hl => ?_)
    refine lv_goto (tgt := 16) hx hb dX13_contrast_78 (by decide) ?_
    exact hk16 o_this x1 t0 (x3 + 1) _ _ _ hP hD hS (lv_sub hl [2, 3, 1, 0] rfl) hf
  have hB60 : ∀ (k16 : (os_T × UInt32 × UInt32 × Int32) → Option (UInt32 × os_T)), (∀ (o_this : os_T) (x1 : UInt32) (x2 : UInt32) (x3 : Int32) (H : Heap) (locs : List Loc) (ls : Array Slot), va_P D vwCl (ce_X13 kA q_this o_this) H → va_D A (ce_X13 kA q_this o_this) → va_S A s.heap H locs → lv_has ls 6 [(0, .ref (q_this 0)), (1, .float x1), (2, .float x2), (3, .int x3)] → k16 (o_this, x1, x2, x3) = some out → W p l e ({ frames := 4, cells := 0, slots := 0, locals := 94 } : Room) s m [.ref (q_this 0)].toArray below meth c H locs 0 0 (MQ below (mc_Q D kA A (some (.float out.1)) (ce_X13 kA q_this out.2)) [.ref (q_this 0)].toArray s 0 0 A) (F0 m 16 ls [])) → ∀ (o_this : os_T) (x2 : UInt32) (x3 : Int32) (x5 : UInt32) (t0 : UInt32) (H : Heap) (locs : List Loc) (ls : Array Slot), va_P D vwCl (ce_X13 kA q_this o_this) H → va_D A (ce_X13 kA q_this o_this) → va_S A s.heap H locs → lv_has ls 6 [(0, .ref (q_this 0)), (2, .float x2), (3, .int x3), (5, .float x5)] → ff_X13_contrast_b60 N k16 o_this x2 x3 x5 t0 = some out → W p l e ({ frames := 4, cells := 0, slots := 0, locals := 94 } : Room) s m [.ref (q_this 0)].toArray below meth c H locs 0 0 (MQ below (mc_Q D kA A (some (.float out.1)) (ce_X13 kA q_this out.2)) [.ref (q_this 0)].toArray s 0 0 A) (F0 m 60 ls [.float t0]) := by
    intro k16 hk16 o_this x2 x3 x5 t0 H locs ls hP hD hS hl hf
    unfold ff_X13_contrast_b60 at hf
    refine lv_fstore_n (lv' := [(1, .float t0), (0, .ref (q_this 0)), (2, .float x2), (3, .int x3), (5, .float x5)]) hx hb dX13_contrast_60 rfl hl (by decide) rfl (fun ls hl => ?_)
    refine lv_fload hx hb dX13_contrast_61 (lv_at hl 4 rfl) ?_
    refine lv_fload_n hx hb dX13_contrast_63 rfl (lv_at hl 2 rfl) ?_
    refine lv_fcmp hx hb dX13_contrast_64 ?_
    refine lv_if_ge (tgt := 73) hx hb dX13_contrast_65 (by decide) (fun hc_12 => ?_) (fun hc_12 => ?_)
    · rw [if_pos hc_12] at hf
      refine lv_fload_n hx hb dX13_contrast_73 rfl (lv_at hl 2 rfl) ?_
      exact hB74 k16 hk16 o_this t0 x3 x2 _ _ _ hP hD hS (lv_sub hl [1, 0, 3] rfl) hf
    · rw [if_neg hc_12] at hf
      refine lv_fload hx hb dX13_contrast_68 (lv_at hl 4 rfl) ?_
      refine lv_goto (tgt := 74) hx hb dX13_contrast_70 (by decide) ?_
      exact hB74 k16 hk16 o_this t0 x3 x5 _ _ _ hP hD hS (lv_sub hl [1, 0, 3] rfl) hf
  have hL16 : ∀ (n : Nat) (o_this : os_T) (x1 : UInt32) (x2 : UInt32) (x3 : Int32) (H : Heap) (locs : List Loc) (ls : Array Slot), va_P D vwCl (ce_X13 kA q_this o_this) H → va_D A (ce_X13 kA q_this o_this) → va_S A s.heap H locs → lv_has ls 6 [(0, .ref (q_this 0)), (1, .float x1), (2, .float x2), (3, .int x3)] → ff_X13_contrast_l16 N n (o_this, x1, x2, x3) = some out → W p l e ({ frames := 4, cells := 0, slots := 0, locals := 94 } : Room) s m [.ref (q_this 0)].toArray below meth c H locs 0 0 (MQ below (mc_Q D kA A (some (.float out.1)) (ce_X13 kA q_this out.2)) [.ref (q_this 0)].toArray s 0 0 A) (F0 m 16 ls []) := by
    intro n
    induction n with
    | zero => intro o_this x1 x2 x3 H locs ls _ _ _ _ hf; cases hf
    | succ n hk16 =>
      intro o_this x1 x2 x3 H locs ls hP hD hS hl hf
      have hf : ff_X13_contrast_c16 N (ff_X13_contrast_l16 N n) o_this x1 x2 x3 = some out := hf
      generalize hke : ff_X13_contrast_l16 N n = k16 at hk16 hf
      unfold ff_X13_contrast_c16 at hf
      refine lv_iload_n hx hb dX13_contrast_16 rfl (lv_at hl 3 rfl) ?_
      refine lv_aload_n hx hb dX13_contrast_17 rfl (lv_at hl 0 rfl) ?_
      obtain ⟨u_3, he_4, hf⟩ := os_bd hf
      refine mc_callV ⟨hx, hb, hml, hown, hts⟩ (mm_X13_cellMany l D kA N q_this o_this u_3 he_4) (cwV 0 hts gX13_contrast_X13_cellMany rfl rfl rfl (by decide +kernel) ⟨Nat.le_of_ble_eq_true rfl, Nat.le_of_ble_eq_true rfl⟩) (wc := (ce_X13 kA q_this o_this)) (ci := 9) (q0 := 0) rfl rfl rfl hl.1 (As := []) (rest := [.int x3]) rfl (Nat.le_of_ble_eq_true rfl) dX13_contrast_18 ⟨Nat.le_of_ble_eq_true rfl, Nat.le_of_ble_eq_true rfl⟩ hK hP hD hS hA [0, 1, 2, 3, 4, 5, 6, 7, 8, 9, 10, 11, 12, 13, 14, 15, 16, 17, 18, 19, 20, 21, 22, 23] [] [0, 1, 2, 3, 4, 5, 6, 7, 8, 9, 10, 11, 12, 13, 14, 15, 16, 17, 18, 19, 20, 21, 22, 23] rfl (by decide) rfl (by decide) (by decide) rfl (by decide) (wr := []) (w2 := (ce_X13 kA q_this o_this)) (fun H locs hP hD hS => ?_)
      have hP : va_P D vwCl (ce_X13 kA q_this o_this) H := hP
      refine lv_icmp_ge (tgt := 81) hx hb dX13_contrast_21 (by decide) (fun hc_5 => ?_) (fun hc_5 => ?_)
      · rw [if_pos hc_5] at hf
        refine lv_fload_n hx hb dX13_contrast_81 rfl (lv_at hl 1 rfl) ?_
        refine lv_fload_n hx hb dX13_contrast_82 rfl (lv_at hl 2 rfl) ?_
        obtain ⟨hn_6, hf⟩ := os_if hf
        refine lv_fsub hx hb dX13_contrast_83 hn_6 ?_
        rw [← Option.some.inj hf]
        exact mc_retf hx hb hr hlk hP hK hD hS dX13_contrast_84
      · rw [if_neg hc_5] at hf
        refine lv_aload_n hx hb dX13_contrast_24 rfl (lv_at hl 0 rfl) ?_
        refine lv_iload_n hx hb dX13_contrast_25 rfl (lv_at hl 3 rfl) ?_
        obtain ⟨u_7, he_8, hf⟩ := os_bd hf
        refine mc_callV ⟨hx, hb, hml, hown, hts⟩ (mm_X13_cellAt l D kA N q_this o_this x3 u_7 he_8) (cwV 1 hts gX13_contrast_X13_cellAt rfl rfl rfl (by decide +kernel) ⟨Nat.le_of_ble_eq_true rfl, Nat.le_of_ble_eq_true rfl⟩) (wc := (ce_X13 kA q_this o_this)) (ci := 9) (q0 := 0) rfl rfl rfl hl.1 (As := [.int x3]) (rest := []) rfl (Nat.le_of_ble_eq_true rfl) dX13_contrast_26 ⟨Nat.le_of_ble_eq_true rfl, Nat.le_of_ble_eq_true rfl⟩ hK hP hD hS hA [0, 1, 2, 3, 4, 5, 6, 7, 8, 9, 10, 11, 12, 13, 14, 15, 16, 17, 18, 19, 20, 21, 22, 23] [] [0, 1, 2, 3, 4, 5, 6, 7, 8, 9, 10, 11, 12, 13, 14, 15, 16, 17, 18, 19, 20, 21, 22, 23] rfl (by decide) rfl (by decide) (by decide) rfl (by decide) (wr := []) (w2 := (ce_X13 kA q_this o_this)) (fun H locs hP hD hS => ?_)
        have hP : va_P D vwCl (ce_X13 kA q_this o_this) H := hP
        refine lv_istore (lv' := [(4, .int u_7), (0, .ref (q_this 0)), (1, .float x1), (2, .float x2), (3, .int x3)]) hx hb dX13_contrast_29 hl (by decide) rfl (fun ls hl => ?_)
        refine lv_aload_n hx hb dX13_contrast_31 rfl (lv_at hl 1 rfl) ?_
        refine lv_iload hx hb dX13_contrast_32 (lv_at hl 0 rfl) ?_
        refine lv_bipush (v := 16) hx hb dX13_contrast_34 (by decide) ?_
        refine lv_irem hx hb dX13_contrast_36 (by decide) ?_
        refine lv_iload hx hb dX13_contrast_37 (lv_at hl 0 rfl) ?_
        refine lv_bipush (v := 16) hx hb dX13_contrast_39 (by decide) ?_
        refine lv_idiv hx hb dX13_contrast_41 (by decide) ?_
        obtain ⟨u_9, he_10, hf⟩ := os_bd hf
        refine mc_callV ⟨hx, hb, hml, hown, hts⟩ (mm_X13_estimateAt l D kA N q_this o_this (u_7 - u_7 / (16 : Int32) * (16 : Int32)) (u_7 / (16 : Int32)) u_9 he_10) (cwV 2 hts gX13_contrast_X13_estimateAt rfl rfl rfl (by decide +kernel) ⟨Nat.le_of_ble_eq_true rfl, Nat.le_of_ble_eq_true rfl⟩) (wc := (ce_X13 kA q_this o_this)) (ci := 9) (q0 := 0) rfl rfl rfl hl.1 (As := [.int (u_7 - u_7 / (16 : Int32) * (16 : Int32)), .int (u_7 / (16 : Int32))]) (rest := []) rfl (Nat.le_of_ble_eq_true rfl) dX13_contrast_42 ⟨Nat.le_of_ble_eq_true rfl, Nat.le_of_ble_eq_true rfl⟩ hK hP hD hS hA [0, 1, 2, 3, 4, 5, 6, 7, 8, 9, 10, 11, 12, 13, 14, 15, 16, 17, 18, 19, 20, 21, 22, 23] [] [0, 1, 2, 3, 4, 5, 6, 7, 8, 9, 10, 11, 12, 13, 14, 15, 16, 17, 18, 19, 20, 21, 22, 23] rfl (by decide) rfl (by decide) (by decide) rfl (by decide) (wr := []) (w2 := (ce_X13 kA q_this o_this)) (fun H locs hP hD hS => ?_)
        have hP : va_P D vwCl (ce_X13 kA q_this o_this) H := hP
        refine lv_fstore (lv' := [(5, .float u_9), (4, .int u_7), (0, .ref (q_this 0)), (1, .float x1), (2, .float x2), (3, .int x3)]) hx hb dX13_contrast_45 hl (by decide) rfl (fun ls hl => ?_)
        refine lv_fload hx hb dX13_contrast_47 (lv_at hl 0 rfl) ?_
        refine lv_fload_n hx hb dX13_contrast_49 rfl (lv_at hl 3 rfl) ?_
        refine lv_fcmp hx hb dX13_contrast_50 ?_
        refine lv_if_le (tgt := 59) hx hb dX13_contrast_51 (by decide) (fun hc_11 => ?_) (fun hc_11 => ?_)
        · rw [if_pos hc_11] at hf
          refine lv_fload_n hx hb dX13_contrast_59 rfl (lv_at hl 3 rfl) ?_
          exact hB60 k16 hk16 o_this x2 x3 u_9 x1 _ _ _ hP hD hS (lv_sub hl [2, 4, 5, 0] rfl) hf
        · rw [if_neg hc_11] at hf
          refine lv_fload hx hb dX13_contrast_54 (lv_at hl 0 rfl) ?_
          refine lv_goto (tgt := 60) hx hb dX13_contrast_56 (by decide) ?_
          exact hB60 k16 hk16 o_this x2 x3 u_9 u_9 _ _ _ hP hD hS (lv_sub hl [2, 4, 5, 0] rfl) hf
  unfold ff_X13_contrast at hf
  refine lv_aload_n hx hb dX13_contrast_0 rfl (lv_at hl 0 rfl) ?_
  refine lv_iconst (v := 0) hx hb dX13_contrast_1 (by decide) ?_
  refine va_put (D := D) (ci := 9) (v := .int (0 : Int32)) (ty := .int) (C := RX13) (T := TX13) (N := 48) hx hb hUX13 (fun _ h9 => h9) tyX13 tyX13_ok nmX13 hown hK hP hD hS 0 rfl rfl 0 (by decide) (hts (Cond.fieldLink RX13 93 "ReliefBuilderModel" "code" "I") (List.mem_of_getElem? (i := 1) rfl)) (fun _ h9 => h9) rfl (tyX13_ok 0 (by decide)) rfl rfl (Nat.le_of_ble_eq_true rfl) dX13_contrast_2 (fun H locs hP hD hS => ?_)
  have hP : va_P D vwCl (ce_X13 kA q_this (ss_I o_this 0 (0 : Int32))) H := hP
  have hD : va_D A (ce_X13 kA q_this (ss_I o_this 0 (0 : Int32))) := hD
  refine lv_aload_n hx hb dX13_contrast_5 rfl (lv_at hl 0 rfl) ?_
  refine lv_iconst (v := 0) hx hb dX13_contrast_6 (by decide) ?_
  refine lv_iconst (v := 0) hx hb dX13_contrast_7 (by decide) ?_
  obtain ⟨u_1, he_2, hf⟩ := os_bd hf
  refine mc_callV ⟨hx, hb, hml, hown, hts⟩ (mm_X13_estimateAt l D kA N q_this (ss_I o_this 0 (0 : Int32)) (0 : Int32) (0 : Int32) u_1 he_2) (cwV 2 hts gX13_contrast_X13_estimateAt rfl rfl rfl (by decide +kernel) ⟨Nat.le_of_ble_eq_true rfl, Nat.le_of_ble_eq_true rfl⟩) (wc := (ce_X13 kA q_this (ss_I o_this 0 (0 : Int32)))) (ci := 9) (q0 := 0) rfl rfl rfl hl.1 (As := [.int (0 : Int32), .int (0 : Int32)]) (rest := []) rfl (Nat.le_of_ble_eq_true rfl) dX13_contrast_8 ⟨Nat.le_of_ble_eq_true rfl, Nat.le_of_ble_eq_true rfl⟩ hK hP hD hS hA [0, 1, 2, 3, 4, 5, 6, 7, 8, 9, 10, 11, 12, 13, 14, 15, 16, 17, 18, 19, 20, 21, 22, 23] [] [0, 1, 2, 3, 4, 5, 6, 7, 8, 9, 10, 11, 12, 13, 14, 15, 16, 17, 18, 19, 20, 21, 22, 23] rfl (by decide) rfl (by decide) (by decide) rfl (by decide) (wr := []) (w2 := (ce_X13 kA q_this (ss_I o_this 0 (0 : Int32)))) (fun H locs hP hD hS => ?_)
  have hP : va_P D vwCl (ce_X13 kA q_this (ss_I o_this 0 (0 : Int32))) H := hP
  refine lv_fstore_n (lv' := [(1, .float u_1), (0, .ref (q_this 0))]) hx hb dX13_contrast_11 rfl hl (by decide) rfl (fun ls hl => ?_)
  refine lv_fload_n hx hb dX13_contrast_12 rfl (lv_at hl 0 rfl) ?_
  refine lv_fstore_n (lv' := [(2, .float u_1), (1, .float u_1), (0, .ref (q_this 0))]) hx hb dX13_contrast_13 rfl hl (by decide) rfl (fun ls hl => ?_)
  refine lv_iconst (v := 1) hx hb dX13_contrast_14 (by decide) ?_
  refine lv_istore_n (lv' := [(3, .int (1 : Int32)), (2, .float u_1), (1, .float u_1), (0, .ref (q_this 0))]) hx hb dX13_contrast_15 rfl hl (by decide) rfl (fun ls hl => ?_)
  exact hL16 N (ss_I o_this 0 (0 : Int32)) u_1 u_1 (1 : Int32) _ _ _ hP hD hS (lv_sub hl [3, 2, 1, 0] rfl) hf
def ff_X13_isAsHigh (N : Nat) (o_this : os_T) (a1 : Int32) (a2 : Int32) (a3 : Int32) : Option Int32 :=
  ((ff_X13_isCell N o_this a1 a2).bind fun u_1 => (if u_1 = 0 then some (0 : Int32) else (if os_in (((16 : Int32) * a2) + a1) 192 then (if ((os_A o_this 4) (Int32.toNatClampNeg (((16 : Int32) * a2) + a1))) < a3 then some (0 : Int32) else some (1 : Int32)) else none)))
set_option maxHeartbeats 4000000 in
set_option maxRecDepth 100000 in
theorem mm_X13_isAsHigh (l : Launch) (D : va_G) (kA : Nat → ClassId) (N : Nat) (q_this : Nat → Nat) (o_this : os_T) (a1 : Int32) (a2 : Int32) (a3 : Int32) (out : Int32) (hf : ff_X13_isAsHigh N o_this a1 a2 a3 = some out) : mc_C l D kA yX13_isAsHigh wsX13_isAsHigh ({ frames := 2, cells := 0, slots := 0, locals := 47 } : Room) [.ref (q_this 0), .int a1, .int a2, .int a3] (ce_X13 kA q_this o_this) (some (.int out)) (ce_X13 kA q_this o_this) := by
  refine mc_of (cc := cX13_isAsHigh) (maxL := 4) (ret := (some .boolean)) (by decide) rfl (Nat.le_of_ble_eq_true rfl) ?_
  intro p e s m below meth c A B hD hP hS ls hl
  obtain ⟨hx, hb, hr, hlk, hml, hown, hts, hK, hA, hnm⟩ := B
  have hown : s.vm.findClass RX13 = some m.cls := hown
  have hl : lv_has ls 4 [(0, .ref (q_this 0)), (1, .int a1), (2, .int a2), (3, .int a3)] := hl
  have hUX13 : ∀ w ∈ u_ws RX13 TX13 48, w.before [.ref (q_this 0), .int a1, .int a2, .int a3].toArray s = true := fun w h => hts w (List.mem_cons_of_mem _ (List.mem_append_right _ h))
  unfold ff_X13_isAsHigh at hf
  refine lv_aload_n hx hb dX13_isAsHigh_0 rfl (lv_at hl 0 rfl) ?_
  refine lv_iload_n hx hb dX13_isAsHigh_1 rfl (lv_at hl 1 rfl) ?_
  refine lv_iload_n hx hb dX13_isAsHigh_2 rfl (lv_at hl 2 rfl) ?_
  obtain ⟨u_1, he_2, hf⟩ := os_bd hf
  refine mc_callV ⟨hx, hb, hml, hown, hts⟩ (mm_X13_isCell l D kA N q_this o_this a1 a2 u_1 he_2) (cwV 2 hts gX13_isAsHigh_X13_isCell rfl rfl rfl (by decide +kernel) ⟨Nat.le_of_ble_eq_true rfl, Nat.le_of_ble_eq_true rfl⟩) (wc := (ce_X13 kA q_this o_this)) (ci := 9) (q0 := 0) rfl rfl rfl hl.1 (As := [.int a1, .int a2]) (rest := []) rfl (Nat.le_of_ble_eq_true rfl) dX13_isAsHigh_3 ⟨Nat.le_of_ble_eq_true rfl, Nat.le_of_ble_eq_true rfl⟩ hK hP hD hS hA [0, 1, 2, 3, 4, 5, 6, 7, 8, 9, 10, 11, 12, 13, 14, 15, 16, 17, 18, 19, 20, 21, 22, 23] [] [0, 1, 2, 3, 4, 5, 6, 7, 8, 9, 10, 11, 12, 13, 14, 15, 16, 17, 18, 19, 20, 21, 22, 23] rfl (by decide) rfl (by decide) (by decide) rfl (by decide) (wr := []) (w2 := (ce_X13 kA q_this o_this)) (fun H locs hP hD hS => ?_)
  have hP : va_P D vwCl (ce_X13 kA q_this o_this) H := hP
  refine lv_if_eq (tgt := 28) hx hb dX13_isAsHigh_6 (by decide) (fun hc_3 => ?_) (fun hc_3 => ?_)
  · rw [if_pos hc_3] at hf
    refine lv_iconst (v := 0) hx hb dX13_isAsHigh_28 (by decide) ?_
    rw [← Option.some.inj hf]
    exact mc_retz (v := 0) hx hb hr rfl hlk hP hK hD hS dX13_isAsHigh_29
  · rw [if_neg hc_3] at hf
    refine lv_aload_n hx hb dX13_isAsHigh_9 rfl (lv_at hl 0 rfl) ?_
    refine va_get (D := D) (ci := 9) (v := .ref (q_this 5)) (C := RX13) (T := TX13) (N := 48) hx hb hUX13 (fun _ h9 => h9) hown hK hP 0 rfl rfl 16 (by decide) (hts (Cond.fieldLink RX13 29 "ReliefBuilderModel" "heights" "[I") (List.mem_of_getElem? (i := 1) rfl)) (fun _ h9 => h9) rfl dX13_isAsHigh_10 ?_
    refine lv_bipush (v := 16) hx hb dX13_isAsHigh_13 (by decide) ?_
    refine lv_iload_n hx hb dX13_isAsHigh_15 rfl (lv_at hl 2 rfl) ?_
    refine lv_imul hx hb dX13_isAsHigh_16 ?_
    refine lv_iload_n hx hb dX13_isAsHigh_17 rfl (lv_at hl 1 rfl) ?_
    refine lv_iadd hx hb dX13_isAsHigh_18 ?_
    obtain ⟨hi_4, hf⟩ := os_if hf
    refine va_iald hx hb hK hP 5 0 rfl rfl hi_4 dX13_isAsHigh_19 ?_
    refine lv_iload_n hx hb dX13_isAsHigh_20 rfl (lv_at hl 3 rfl) ?_
    refine lv_icmp_lt (tgt := 28) hx hb dX13_isAsHigh_21 (by decide) (fun hc_5 => ?_) (fun hc_5 => ?_)
    · rw [if_pos hc_5] at hf
      refine lv_iconst (v := 0) hx hb dX13_isAsHigh_28 (by decide) ?_
      rw [← Option.some.inj hf]
      exact mc_retz (v := 0) hx hb hr rfl hlk hP hK hD hS dX13_isAsHigh_29
    · rw [if_neg hc_5] at hf
      refine lv_iconst (v := 1) hx hb dX13_isAsHigh_24 (by decide) ?_
      refine lv_goto (tgt := 29) hx hb dX13_isAsHigh_25 (by decide) ?_
      rw [← Option.some.inj hf]
      exact mc_retz (v := 1) hx hb hr rfl hlk hP hK hD hS dX13_isAsHigh_29
def ff_X13_runOf_c53 (N : Nat) (o_this : os_T) (k53 : (Int32 × Int32 × Int32 × Int32 × Int32 × Int32 × Int32) → Option Int32) (x1 : Int32) (x2 : Int32) (x3 : Int32) (x4 : Int32) (x5 : Int32) (x6 : Int32) (x7 : Int32) : Option Int32 :=
  ((ff_X13_isAsHigh N o_this (x1 - (x7 * x3)) (x2 - (x7 * x4)) x5).bind fun u_5 => (if u_5 = 0 then some x6 else k53 (x1, x2, x3, x4, x5, x6 + 1, x7 + 1)))
def ff_X13_runOf_l53 (N : Nat) (o_this : os_T) : Nat → (Int32 × Int32 × Int32 × Int32 × Int32 × Int32 × Int32) → Option Int32 := os_loop (fun k53 s1 => ff_X13_runOf_c53 N o_this k53 s1.1 s1.2.1 s1.2.2.1 s1.2.2.2.1 s1.2.2.2.2.1 s1.2.2.2.2.2.1 s1.2.2.2.2.2.2)
def ff_X13_runOf_c19 (N : Nat) (o_this : os_T) (k19 : (Int32 × Int32 × Int32 × Int32 × Int32 × Int32 × Int32) → Option Int32) (x1 : Int32) (x2 : Int32) (x3 : Int32) (x4 : Int32) (x5 : Int32) (x6 : Int32) (x7 : Int32) : Option Int32 :=
  ((ff_X13_isAsHigh N o_this (x1 + (x7 * x3)) (x2 + (x7 * x4)) x5).bind fun u_2 => (if u_2 = 0 then ff_X13_runOf_l53 N o_this N (x1, x2, x3, x4, x5, x6, (1 : Int32)) else k19 (x1, x2, x3, x4, x5, x6 + 1, x7 + 1)))
def ff_X13_runOf_l19 (N : Nat) (o_this : os_T) : Nat → (Int32 × Int32 × Int32 × Int32 × Int32 × Int32 × Int32) → Option Int32 := os_loop (fun k19 s1 => ff_X13_runOf_c19 N o_this k19 s1.1 s1.2.1 s1.2.2.1 s1.2.2.2.1 s1.2.2.2.2.1 s1.2.2.2.2.2.1 s1.2.2.2.2.2.2)
def ff_X13_runOf (N : Nat) (o_this : os_T) (a1 : Int32) (a2 : Int32) (a3 : Int32) (a4 : Int32) : Option Int32 :=
  (if os_in (((16 : Int32) * a2) + a1) 192 then ff_X13_runOf_l19 N o_this N (a1, a2, a3, a4, (os_A o_this 4) (Int32.toNatClampNeg (((16 : Int32) * a2) + a1)), (1 : Int32), (1 : Int32)) else none)
set_option maxHeartbeats 4000000 in
set_option maxRecDepth 100000 in
theorem mm_X13_runOf (l : Launch) (D : va_G) (kA : Nat → ClassId) (N : Nat) (q_this : Nat → Nat) (o_this : os_T) (a1 : Int32) (a2 : Int32) (a3 : Int32) (a4 : Int32) (out : Int32) (hf : ff_X13_runOf N o_this a1 a2 a3 a4 = some out) : mc_C l D kA yX13_runOf wsX13_runOf ({ frames := 3, cells := 0, slots := 0, locals := 70 } : Room) [.ref (q_this 0), .int a1, .int a2, .int a3, .int a4] (ce_X13 kA q_this o_this) (some (.int out)) (ce_X13 kA q_this o_this) := by
  refine mc_of (cc := cX13_runOf) (maxL := 8) (ret := (some .int)) (by decide) rfl (Nat.le_of_ble_eq_true rfl) ?_
  intro p e s m below meth c A B hD hP hS ls hl
  obtain ⟨hx, hb, hr, hlk, hml, hown, hts, hK, hA, hnm⟩ := B
  have hown : s.vm.findClass RX13 = some m.cls := hown
  have hl : lv_has ls 8 [(0, .ref (q_this 0)), (1, .int a1), (2, .int a2), (3, .int a3), (4, .int a4)] := hl
  have hUX13 : ∀ w ∈ u_ws RX13 TX13 48, w.before [.ref (q_this 0), .int a1, .int a2, .int a3, .int a4].toArray s = true := fun w h => hts w (List.mem_cons_of_mem _ (List.mem_append_right _ h))
  have hL53 : ∀ (n : Nat) (x1 : Int32) (x2 : Int32) (x3 : Int32) (x4 : Int32) (x5 : Int32) (x6 : Int32) (x7 : Int32) (H : Heap) (locs : List Loc) (ls : Array Slot), va_P D vwCl (ce_X13 kA q_this o_this) H → va_D A (ce_X13 kA q_this o_this) → va_S A s.heap H locs → lv_has ls 8 [(0, .ref (q_this 0)), (1, .int x1), (2, .int x2), (3, .int x3), (4, .int x4), (5, .int x5), (6, .int x6), (7, .int x7)] → ff_X13_runOf_l53 N o_this n (x1, x2, x3, x4, x5, x6, x7) = some out → W p l e ({ frames := 3, cells := 0, slots := 0, locals := 70 } : Room) s m [.ref (q_this 0), .int a1, .int a2, .int a3, .int a4].toArray below meth c H locs 0 0 (MQ below (mc_Q D kA A (some (.int out)) (ce_X13 kA q_this o_this)) [.ref (q_this 0), .int a1, .int a2, .int a3, .int a4].toArray s 0 0 A) (F0 m 53 ls []) := by
    intro n
    induction n with
    | zero => intro x1 x2 x3 x4 x5 x6 x7 H locs ls _ _ _ _ hf; cases hf
    | succ n hk53 =>
      intro x1 x2 x3 x4 x5 x6 x7 H locs ls hP hD hS hl hf
      have hf : ff_X13_runOf_c53 N o_this (ff_X13_runOf_l53 N o_this n) x1 x2 x3 x4 x5 x6 x7 = some out := hf
      generalize hke : ff_X13_runOf_l53 N o_this n = k53 at hk53 hf
      unfold ff_X13_runOf_c53 at hf
      refine lv_aload_n hx hb dX13_runOf_53 rfl (lv_at hl 0 rfl) ?_
      refine lv_iload_n hx hb dX13_runOf_54 rfl (lv_at hl 1 rfl) ?_
      refine lv_iload hx hb dX13_runOf_55 (lv_at hl 7 rfl) ?_
      refine lv_iload_n hx hb dX13_runOf_57 rfl (lv_at hl 3 rfl) ?_
      refine lv_imul hx hb dX13_runOf_58 ?_
      refine lv_isub hx hb dX13_runOf_59 ?_
      refine lv_iload_n hx hb dX13_runOf_60 rfl (lv_at hl 2 rfl) ?_
      refine lv_iload hx hb dX13_runOf_61 (lv_at hl 7 rfl) ?_
      refine lv_iload hx hb dX13_runOf_63 (lv_at hl 4 rfl) ?_
      refine lv_imul hx hb dX13_runOf_65 ?_
      refine lv_isub hx hb dX13_runOf_66 ?_
      refine lv_iload hx hb dX13_runOf_67 (lv_at hl 5 rfl) ?_
      obtain ⟨u_5, he_6, hf⟩ := os_bd hf
      refine mc_callV ⟨hx, hb, hml, hown, hts⟩ (mm_X13_isAsHigh l D kA N q_this o_this (x1 - (x7 * x3)) (x2 - (x7 * x4)) x5 u_5 he_6) (cwV 3 hts gX13_runOf_X13_isAsHigh rfl rfl rfl (by decide +kernel) ⟨Nat.le_of_ble_eq_true rfl, Nat.le_of_ble_eq_true rfl⟩) (wc := (ce_X13 kA q_this o_this)) (ci := 9) (q0 := 0) rfl rfl rfl hl.1 (As := [.int (x1 - (x7 * x3)), .int (x2 - (x7 * x4)), .int x5]) (rest := []) rfl (Nat.le_of_ble_eq_true rfl) dX13_runOf_69 ⟨Nat.le_of_ble_eq_true rfl, Nat.le_of_ble_eq_true rfl⟩ hK hP hD hS hA [0, 1, 2, 3, 4, 5, 6, 7, 8, 9, 10, 11, 12, 13, 14, 15, 16, 17, 18, 19, 20, 21, 22, 23] [] [0, 1, 2, 3, 4, 5, 6, 7, 8, 9, 10, 11, 12, 13, 14, 15, 16, 17, 18, 19, 20, 21, 22, 23] rfl (by decide) rfl (by decide) (by decide) rfl (by decide) (wr := []) (w2 := (ce_X13 kA q_this o_this)) (fun H locs hP hD hS => ?_)
      have hP : va_P D vwCl (ce_X13 kA q_this o_this) H := hP
      refine lv_if_eq (tgt := 84) hx hb dX13_runOf_72 (by decide) (fun hc_7 => ?_) (fun hc_7 => ?_)
      · rw [if_pos hc_7] at hf
        refine lv_iload hx hb dX13_runOf_84 (lv_at hl 6 rfl) ?_
        rw [← Option.some.inj hf]
        exact mc_reti hx hb hr hlk hP hK hD hS dX13_runOf_86
      · rw [if_neg hc_7] at hf
        refine lv_iinc (v := x6 + 1) (lv' := [(6, .int (x6 + 1)), (0, .ref (q_this 0)), (1, .int x1), (2, .int x2), (3, .int x3), (4, .int x4), (5, .int x5), (7, .int x7)]) hx hb dX13_runOf_75 hl (k := 6) rfl rfl (by decide) rfl (fun ls hl => ?_)
        refine lv_iinc (v := x7 + 1) (lv' := [(7, .int (x7 + 1)), (6, .int (x6 + 1)), (0, .ref (q_this 0)), (1, .int x1), (2, .int x2), (3, .int x3), (4, .int x4), (5, .int x5)]) hx hb dX13_runOf_78 hl (k := 7) rfl rfl (by decide) rfl (fun ls hl => ?_)
        refine lv_goto (tgt := 53) hx hb dX13_runOf_81 (by decide) ?_
        exact hk53 x1 x2 x3 x4 x5 (x6 + 1) (x7 + 1) _ _ _ hP hD hS (lv_sub hl [2, 3, 4, 5, 6, 7, 1, 0] rfl) hf
  have hL19 : ∀ (n : Nat) (x1 : Int32) (x2 : Int32) (x3 : Int32) (x4 : Int32) (x5 : Int32) (x6 : Int32) (x7 : Int32) (H : Heap) (locs : List Loc) (ls : Array Slot), va_P D vwCl (ce_X13 kA q_this o_this) H → va_D A (ce_X13 kA q_this o_this) → va_S A s.heap H locs → lv_has ls 8 [(0, .ref (q_this 0)), (1, .int x1), (2, .int x2), (3, .int x3), (4, .int x4), (5, .int x5), (6, .int x6), (7, .int x7)] → ff_X13_runOf_l19 N o_this n (x1, x2, x3, x4, x5, x6, x7) = some out → W p l e ({ frames := 3, cells := 0, slots := 0, locals := 70 } : Room) s m [.ref (q_this 0), .int a1, .int a2, .int a3, .int a4].toArray below meth c H locs 0 0 (MQ below (mc_Q D kA A (some (.int out)) (ce_X13 kA q_this o_this)) [.ref (q_this 0), .int a1, .int a2, .int a3, .int a4].toArray s 0 0 A) (F0 m 19 ls []) := by
    intro n
    induction n with
    | zero => intro x1 x2 x3 x4 x5 x6 x7 H locs ls _ _ _ _ hf; cases hf
    | succ n hk19 =>
      intro x1 x2 x3 x4 x5 x6 x7 H locs ls hP hD hS hl hf
      have hf : ff_X13_runOf_c19 N o_this (ff_X13_runOf_l19 N o_this n) x1 x2 x3 x4 x5 x6 x7 = some out := hf
      generalize hke : ff_X13_runOf_l19 N o_this n = k19 at hk19 hf
      unfold ff_X13_runOf_c19 at hf
      refine lv_aload_n hx hb dX13_runOf_19 rfl (lv_at hl 0 rfl) ?_
      refine lv_iload_n hx hb dX13_runOf_20 rfl (lv_at hl 1 rfl) ?_
      refine lv_iload hx hb dX13_runOf_21 (lv_at hl 7 rfl) ?_
      refine lv_iload_n hx hb dX13_runOf_23 rfl (lv_at hl 3 rfl) ?_
      refine lv_imul hx hb dX13_runOf_24 ?_
      refine lv_iadd hx hb dX13_runOf_25 ?_
      refine lv_iload_n hx hb dX13_runOf_26 rfl (lv_at hl 2 rfl) ?_
      refine lv_iload hx hb dX13_runOf_27 (lv_at hl 7 rfl) ?_
      refine lv_iload hx hb dX13_runOf_29 (lv_at hl 4 rfl) ?_
      refine lv_imul hx hb dX13_runOf_31 ?_
      refine lv_iadd hx hb dX13_runOf_32 ?_
      refine lv_iload hx hb dX13_runOf_33 (lv_at hl 5 rfl) ?_
      obtain ⟨u_2, he_3, hf⟩ := os_bd hf
      refine mc_callV ⟨hx, hb, hml, hown, hts⟩ (mm_X13_isAsHigh l D kA N q_this o_this (x1 + (x7 * x3)) (x2 + (x7 * x4)) x5 u_2 he_3) (cwV 3 hts gX13_runOf_X13_isAsHigh rfl rfl rfl (by decide +kernel) ⟨Nat.le_of_ble_eq_true rfl, Nat.le_of_ble_eq_true rfl⟩) (wc := (ce_X13 kA q_this o_this)) (ci := 9) (q0 := 0) rfl rfl rfl hl.1 (As := [.int (x1 + (x7 * x3)), .int (x2 + (x7 * x4)), .int x5]) (rest := []) rfl (Nat.le_of_ble_eq_true rfl) dX13_runOf_35 ⟨Nat.le_of_ble_eq_true rfl, Nat.le_of_ble_eq_true rfl⟩ hK hP hD hS hA [0, 1, 2, 3, 4, 5, 6, 7, 8, 9, 10, 11, 12, 13, 14, 15, 16, 17, 18, 19, 20, 21, 22, 23] [] [0, 1, 2, 3, 4, 5, 6, 7, 8, 9, 10, 11, 12, 13, 14, 15, 16, 17, 18, 19, 20, 21, 22, 23] rfl (by decide) rfl (by decide) (by decide) rfl (by decide) (wr := []) (w2 := (ce_X13 kA q_this o_this)) (fun H locs hP hD hS => ?_)
      have hP : va_P D vwCl (ce_X13 kA q_this o_this) H := hP
      refine lv_if_eq (tgt := 50) hx hb dX13_runOf_38 (by decide) (fun hc_4 => ?_) (fun hc_4 => ?_)
      · rw [if_pos hc_4] at hf
        refine lv_iconst (v := 1) hx hb dX13_runOf_50 (by decide) ?_
        refine lv_istore (lv' := [(7, .int (1 : Int32)), (0, .ref (q_this 0)), (1, .int x1), (2, .int x2), (3, .int x3), (4, .int x4), (5, .int x5), (6, .int x6)]) hx hb dX13_runOf_51 hl (by decide) rfl (fun ls hl => ?_)
        exact hL53 N x1 x2 x3 x4 x5 x6 (1 : Int32) _ _ _ hP hD hS (lv_sub hl [1, 2, 3, 4, 5, 6, 7, 0] rfl) hf
      · rw [if_neg hc_4] at hf
        refine lv_iinc (v := x6 + 1) (lv' := [(6, .int (x6 + 1)), (0, .ref (q_this 0)), (1, .int x1), (2, .int x2), (3, .int x3), (4, .int x4), (5, .int x5), (7, .int x7)]) hx hb dX13_runOf_41 hl (k := 6) rfl rfl (by decide) rfl (fun ls hl => ?_)
        refine lv_iinc (v := x7 + 1) (lv' := [(7, .int (x7 + 1)), (6, .int (x6 + 1)), (0, .ref (q_this 0)), (1, .int x1), (2, .int x2), (3, .int x3), (4, .int x4), (5, .int x5)]) hx hb dX13_runOf_44 hl (k := 7) rfl rfl (by decide) rfl (fun ls hl => ?_)
        refine lv_goto (tgt := 19) hx hb dX13_runOf_47 (by decide) ?_
        exact hk19 x1 x2 x3 x4 x5 (x6 + 1) (x7 + 1) _ _ _ hP hD hS (lv_sub hl [2, 3, 4, 5, 6, 7, 1, 0] rfl) hf
  unfold ff_X13_runOf at hf
  refine lv_aload_n hx hb dX13_runOf_0 rfl (lv_at hl 0 rfl) ?_
  refine va_get (D := D) (ci := 9) (v := .ref (q_this 5)) (C := RX13) (T := TX13) (N := 48) hx hb hUX13 (fun _ h9 => h9) hown hK hP 0 rfl rfl 16 (by decide) (hts (Cond.fieldLink RX13 29 "ReliefBuilderModel" "heights" "[I") (List.mem_of_getElem? (i := 1) rfl)) (fun _ h9 => h9) rfl dX13_runOf_1 ?_
  refine lv_bipush (v := 16) hx hb dX13_runOf_4 (by decide) ?_
  refine lv_iload_n hx hb dX13_runOf_6 rfl (lv_at hl 2 rfl) ?_
  refine lv_imul hx hb dX13_runOf_7 ?_
  refine lv_iload_n hx hb dX13_runOf_8 rfl (lv_at hl 1 rfl) ?_
  refine lv_iadd hx hb dX13_runOf_9 ?_
  obtain ⟨hi_1, hf⟩ := os_if hf
  refine va_iald hx hb hK hP 5 0 rfl rfl hi_1 dX13_runOf_10 ?_
  refine lv_istore (lv' := [(5, .int ((os_A o_this 4) (Int32.toNatClampNeg (((16 : Int32) * a2) + a1)))), (0, .ref (q_this 0)), (1, .int a1), (2, .int a2), (3, .int a3), (4, .int a4)]) hx hb dX13_runOf_11 hl (by decide) rfl (fun ls hl => ?_)
  refine lv_iconst (v := 1) hx hb dX13_runOf_13 (by decide) ?_
  refine lv_istore (lv' := [(6, .int (1 : Int32)), (5, .int ((os_A o_this 4) (Int32.toNatClampNeg (((16 : Int32) * a2) + a1)))), (0, .ref (q_this 0)), (1, .int a1), (2, .int a2), (3, .int a3), (4, .int a4)]) hx hb dX13_runOf_14 hl (by decide) rfl (fun ls hl => ?_)
  refine lv_iconst (v := 1) hx hb dX13_runOf_16 (by decide) ?_
  refine lv_istore (lv' := [(7, .int (1 : Int32)), (6, .int (1 : Int32)), (5, .int ((os_A o_this 4) (Int32.toNatClampNeg (((16 : Int32) * a2) + a1)))), (0, .ref (q_this 0)), (1, .int a1), (2, .int a2), (3, .int a3), (4, .int a4)]) hx hb dX13_runOf_17 hl (by decide) rfl (fun ls hl => ?_)
  exact hL19 N a1 a2 a3 a4 ((os_A o_this 4) (Int32.toNatClampNeg (((16 : Int32) * a2) + a1))) (1 : Int32) (1 : Int32) _ _ _ hP hD hS (lv_sub hl [3, 4, 5, 6, 7, 2, 1, 0] rfl) hf
def ff_X13_thin (N : Nat) (o_this : os_T) (a1 : Int32) (a2 : Int32) : Option Int32 :=
  (if os_in (((16 : Int32) * a2) + a1) 192 then (if os_in (4 : Int32) 7 then (if ((os_A o_this 4) (Int32.toNatClampNeg (((16 : Int32) * a2) + a1))) ≤ ((os_A o_this 1) (Int32.toNatClampNeg (4 : Int32))) then some (0 : Int32) else ((ff_X13_runOf N o_this a1 a2 (1 : Int32) (0 : Int32)).bind fun u_4 => (if os_in (5 : Int32) 7 then (if ((os_A o_this 1) (Int32.toNatClampNeg (5 : Int32))) ≤ u_4 then some (0 : Int32) else ((ff_X13_runOf N o_this a1 a2 (0 : Int32) (1 : Int32)).bind fun u_8 => (if os_in (5 : Int32) 7 then (if ((os_A o_this 1) (Int32.toNatClampNeg (5 : Int32))) ≤ u_8 then some (0 : Int32) else some (1 : Int32)) else none))) else none))) else none) else none)
set_option maxHeartbeats 4000000 in
set_option maxRecDepth 100000 in
theorem mm_X13_thin (l : Launch) (D : va_G) (kA : Nat → ClassId) (N : Nat) (q_this : Nat → Nat) (o_this : os_T) (a1 : Int32) (a2 : Int32) (out : Int32) (hf : ff_X13_thin N o_this a1 a2 = some out) : mc_C l D kA yX13_thin wsX13_thin ({ frames := 4, cells := 0, slots := 0, locals := 97 } : Room) [.ref (q_this 0), .int a1, .int a2] (ce_X13 kA q_this o_this) (some (.int out)) (ce_X13 kA q_this o_this) := by
  refine mc_of (cc := cX13_thin) (maxL := 3) (ret := (some .boolean)) (by decide) rfl (Nat.le_of_ble_eq_true rfl) ?_
  intro p e s m below meth c A B hD hP hS ls hl
  obtain ⟨hx, hb, hr, hlk, hml, hown, hts, hK, hA, hnm⟩ := B
  have hown : s.vm.findClass RX13 = some m.cls := hown
  have hl : lv_has ls 3 [(0, .ref (q_this 0)), (1, .int a1), (2, .int a2)] := hl
  have hUX13 : ∀ w ∈ u_ws RX13 TX13 48, w.before [.ref (q_this 0), .int a1, .int a2].toArray s = true := fun w h => hts w (List.mem_cons_of_mem _ (List.mem_append_right _ h))
  unfold ff_X13_thin at hf
  refine lv_aload_n hx hb dX13_thin_0 rfl (lv_at hl 0 rfl) ?_
  refine va_get (D := D) (ci := 9) (v := .ref (q_this 5)) (C := RX13) (T := TX13) (N := 48) hx hb hUX13 (fun _ h9 => h9) hown hK hP 0 rfl rfl 16 (by decide) (hts (Cond.fieldLink RX13 29 "ReliefBuilderModel" "heights" "[I") (List.mem_of_getElem? (i := 1) rfl)) (fun _ h9 => h9) rfl dX13_thin_1 ?_
  refine lv_bipush (v := 16) hx hb dX13_thin_4 (by decide) ?_
  refine lv_iload_n hx hb dX13_thin_6 rfl (lv_at hl 2 rfl) ?_
  refine lv_imul hx hb dX13_thin_7 ?_
  refine lv_iload_n hx hb dX13_thin_8 rfl (lv_at hl 1 rfl) ?_
  refine lv_iadd hx hb dX13_thin_9 ?_
  obtain ⟨hi_1, hf⟩ := os_if hf
  refine va_iald hx hb hK hP 5 0 rfl rfl hi_1 dX13_thin_10 ?_
  refine lv_aload_n hx hb dX13_thin_11 rfl (lv_at hl 0 rfl) ?_
  refine va_get (D := D) (ci := 9) (v := .ref (q_this 2)) (C := RX13) (T := TX13) (N := 48) hx hb hUX13 (fun _ h9 => h9) hown hK hP 0 rfl rfl 13 (by decide) (hts (Cond.fieldLink RX13 20 "ReliefBuilderModel" "now" "[I") (List.mem_of_getElem? (i := 2) rfl)) (fun _ h9 => h9) rfl dX13_thin_12 ?_
  refine lv_iconst (v := 4) hx hb dX13_thin_15 (by decide) ?_
  obtain ⟨hi_2, hf⟩ := os_if hf
  refine va_iald hx hb hK hP 2 0 rfl rfl hi_2 dX13_thin_16 ?_
  refine lv_icmp_le (tgt := 58) hx hb dX13_thin_17 (by decide) (fun hc_3 => ?_) (fun hc_3 => ?_)
  · rw [if_pos hc_3] at hf
    refine lv_iconst (v := 0) hx hb dX13_thin_58 (by decide) ?_
    rw [← Option.some.inj hf]
    exact mc_retz (v := 0) hx hb hr rfl hlk hP hK hD hS dX13_thin_59
  · rw [if_neg hc_3] at hf
    refine lv_aload_n hx hb dX13_thin_20 rfl (lv_at hl 0 rfl) ?_
    refine lv_iload_n hx hb dX13_thin_21 rfl (lv_at hl 1 rfl) ?_
    refine lv_iload_n hx hb dX13_thin_22 rfl (lv_at hl 2 rfl) ?_
    refine lv_iconst (v := 1) hx hb dX13_thin_23 (by decide) ?_
    refine lv_iconst (v := 0) hx hb dX13_thin_24 (by decide) ?_
    obtain ⟨u_4, he_5, hf⟩ := os_bd hf
    refine mc_callV ⟨hx, hb, hml, hown, hts⟩ (mm_X13_runOf l D kA N q_this o_this a1 a2 (1 : Int32) (0 : Int32) u_4 he_5) (cwV 4 hts gX13_thin_X13_runOf rfl rfl rfl (by decide +kernel) ⟨Nat.le_of_ble_eq_true rfl, Nat.le_of_ble_eq_true rfl⟩) (wc := (ce_X13 kA q_this o_this)) (ci := 9) (q0 := 0) rfl rfl rfl hl.1 (As := [.int a1, .int a2, .int (1 : Int32), .int (0 : Int32)]) (rest := []) rfl (Nat.le_of_ble_eq_true rfl) dX13_thin_25 ⟨Nat.le_of_ble_eq_true rfl, Nat.le_of_ble_eq_true rfl⟩ hK hP hD hS hA [0, 1, 2, 3, 4, 5, 6, 7, 8, 9, 10, 11, 12, 13, 14, 15, 16, 17, 18, 19, 20, 21, 22, 23] [] [0, 1, 2, 3, 4, 5, 6, 7, 8, 9, 10, 11, 12, 13, 14, 15, 16, 17, 18, 19, 20, 21, 22, 23] rfl (by decide) rfl (by decide) (by decide) rfl (by decide) (wr := []) (w2 := (ce_X13 kA q_this o_this)) (fun H locs hP hD hS => ?_)
    have hP : va_P D vwCl (ce_X13 kA q_this o_this) H := hP
    refine lv_aload_n hx hb dX13_thin_28 rfl (lv_at hl 0 rfl) ?_
    refine va_get (D := D) (ci := 9) (v := .ref (q_this 2)) (C := RX13) (T := TX13) (N := 48) hx hb hUX13 (fun _ h9 => h9) hown hK hP 0 rfl rfl 13 (by decide) (hts (Cond.fieldLink RX13 20 "ReliefBuilderModel" "now" "[I") (List.mem_of_getElem? (i := 2) rfl)) (fun _ h9 => h9) rfl dX13_thin_29 ?_
    refine lv_iconst (v := 5) hx hb dX13_thin_32 (by decide) ?_
    obtain ⟨hi_6, hf⟩ := os_if hf
    refine va_iald hx hb hK hP 2 0 rfl rfl hi_6 dX13_thin_33 ?_
    refine lv_icmp_ge (tgt := 58) hx hb dX13_thin_34 (by decide) (fun hc_7 => ?_) (fun hc_7 => ?_)
    · rw [if_pos hc_7] at hf
      refine lv_iconst (v := 0) hx hb dX13_thin_58 (by decide) ?_
      rw [← Option.some.inj hf]
      exact mc_retz (v := 0) hx hb hr rfl hlk hP hK hD hS dX13_thin_59
    · rw [if_neg hc_7] at hf
      refine lv_aload_n hx hb dX13_thin_37 rfl (lv_at hl 0 rfl) ?_
      refine lv_iload_n hx hb dX13_thin_38 rfl (lv_at hl 1 rfl) ?_
      refine lv_iload_n hx hb dX13_thin_39 rfl (lv_at hl 2 rfl) ?_
      refine lv_iconst (v := 0) hx hb dX13_thin_40 (by decide) ?_
      refine lv_iconst (v := 1) hx hb dX13_thin_41 (by decide) ?_
      obtain ⟨u_8, he_9, hf⟩ := os_bd hf
      refine mc_callV ⟨hx, hb, hml, hown, hts⟩ (mm_X13_runOf l D kA N q_this o_this a1 a2 (0 : Int32) (1 : Int32) u_8 he_9) (cwV 4 hts gX13_thin_X13_runOf rfl rfl rfl (by decide +kernel) ⟨Nat.le_of_ble_eq_true rfl, Nat.le_of_ble_eq_true rfl⟩) (wc := (ce_X13 kA q_this o_this)) (ci := 9) (q0 := 0) rfl rfl rfl hl.1 (As := [.int a1, .int a2, .int (0 : Int32), .int (1 : Int32)]) (rest := []) rfl (Nat.le_of_ble_eq_true rfl) dX13_thin_42 ⟨Nat.le_of_ble_eq_true rfl, Nat.le_of_ble_eq_true rfl⟩ hK hP hD hS hA [0, 1, 2, 3, 4, 5, 6, 7, 8, 9, 10, 11, 12, 13, 14, 15, 16, 17, 18, 19, 20, 21, 22, 23] [] [0, 1, 2, 3, 4, 5, 6, 7, 8, 9, 10, 11, 12, 13, 14, 15, 16, 17, 18, 19, 20, 21, 22, 23] rfl (by decide) rfl (by decide) (by decide) rfl (by decide) (wr := []) (w2 := (ce_X13 kA q_this o_this)) (fun H locs hP hD hS => ?_)
      have hP : va_P D vwCl (ce_X13 kA q_this o_this) H := hP
      refine lv_aload_n hx hb dX13_thin_45 rfl (lv_at hl 0 rfl) ?_
      refine va_get (D := D) (ci := 9) (v := .ref (q_this 2)) (C := RX13) (T := TX13) (N := 48) hx hb hUX13 (fun _ h9 => h9) hown hK hP 0 rfl rfl 13 (by decide) (hts (Cond.fieldLink RX13 20 "ReliefBuilderModel" "now" "[I") (List.mem_of_getElem? (i := 2) rfl)) (fun _ h9 => h9) rfl dX13_thin_46 ?_
      refine lv_iconst (v := 5) hx hb dX13_thin_49 (by decide) ?_
      obtain ⟨hi_10, hf⟩ := os_if hf
      refine va_iald hx hb hK hP 2 0 rfl rfl hi_10 dX13_thin_50 ?_
      refine lv_icmp_ge (tgt := 58) hx hb dX13_thin_51 (by decide) (fun hc_11 => ?_) (fun hc_11 => ?_)
      · rw [if_pos hc_11] at hf
        refine lv_iconst (v := 0) hx hb dX13_thin_58 (by decide) ?_
        rw [← Option.some.inj hf]
        exact mc_retz (v := 0) hx hb hr rfl hlk hP hK hD hS dX13_thin_59
      · rw [if_neg hc_11] at hf
        refine lv_iconst (v := 1) hx hb dX13_thin_54 (by decide) ?_
        refine lv_goto (tgt := 59) hx hb dX13_thin_55 (by decide) ?_
        rw [← Option.some.inj hf]
        exact mc_retz (v := 1) hx hb hr rfl hlk hP hK hD hS dX13_thin_59
def ff_X13_isThin (N : Nat) (o_this : os_T) (a1 : Int32) (a2 : Int32) : Option (Int32 × os_T) :=
  ((ff_X13_isCell N o_this a1 a2).bind fun u_1 => ((ff_X13_goes N o_this u_1).bind fun u_3 => (if u_3.1 = 0 then some ((0 : Int32), u_3.2) else ((ff_X13_thin N u_3.2 a1 a2).bind fun u_6 => (if u_6 = 0 then some ((0 : Int32), u_3.2) else some ((1 : Int32), u_3.2))))))
set_option maxHeartbeats 4000000 in
set_option maxRecDepth 100000 in
theorem mm_X13_isThin (l : Launch) (D : va_G) (kA : Nat → ClassId) (N : Nat) (q_this : Nat → Nat) (o_this : os_T) (a1 : Int32) (a2 : Int32) (out : (Int32 × os_T)) (hf : ff_X13_isThin N o_this a1 a2 = some out) : mc_C l D kA yX13_isThin wsX13_isThin ({ frames := 5, cells := 0, slots := 0, locals := 119 } : Room) [.ref (q_this 0), .int a1, .int a2] (ce_X13 kA q_this o_this) (some (.int out.1)) (ce_X13 kA q_this out.2) := by
  refine mc_of (cc := cX13_isThin) (maxL := 3) (ret := (some .boolean)) (by decide) rfl (Nat.le_of_ble_eq_true rfl) ?_
  intro p e s m below meth c A B hD hP hS ls hl
  obtain ⟨hx, hb, hr, hlk, hml, hown, hts, hK, hA, hnm⟩ := B
  have hown : s.vm.findClass RX13 = some m.cls := hown
  have hl : lv_has ls 3 [(0, .ref (q_this 0)), (1, .int a1), (2, .int a2)] := hl
  unfold ff_X13_isThin at hf
  refine lv_aload_n hx hb dX13_isThin_0 rfl (lv_at hl 0 rfl) ?_
  refine lv_aload_n hx hb dX13_isThin_1 rfl (lv_at hl 0 rfl) ?_
  refine lv_iload_n hx hb dX13_isThin_2 rfl (lv_at hl 1 rfl) ?_
  refine lv_iload_n hx hb dX13_isThin_3 rfl (lv_at hl 2 rfl) ?_
  obtain ⟨u_1, he_2, hf⟩ := os_bd hf
  refine mc_callV ⟨hx, hb, hml, hown, hts⟩ (mm_X13_isCell l D kA N q_this o_this a1 a2 u_1 he_2) (cwV 2 hts gX13_isThin_X13_isCell rfl rfl rfl (by decide +kernel) ⟨Nat.le_of_ble_eq_true rfl, Nat.le_of_ble_eq_true rfl⟩) (wc := (ce_X13 kA q_this o_this)) (ci := 9) (q0 := 0) rfl rfl rfl hl.1 (As := [.int a1, .int a2]) (rest := [.ref (q_this 0)]) rfl (Nat.le_of_ble_eq_true rfl) dX13_isThin_4 ⟨Nat.le_of_ble_eq_true rfl, Nat.le_of_ble_eq_true rfl⟩ hK hP hD hS hA [0, 1, 2, 3, 4, 5, 6, 7, 8, 9, 10, 11, 12, 13, 14, 15, 16, 17, 18, 19, 20, 21, 22, 23] [] [0, 1, 2, 3, 4, 5, 6, 7, 8, 9, 10, 11, 12, 13, 14, 15, 16, 17, 18, 19, 20, 21, 22, 23] rfl (by decide) rfl (by decide) (by decide) rfl (by decide) (wr := []) (w2 := (ce_X13 kA q_this o_this)) (fun H locs hP hD hS => ?_)
  have hP : va_P D vwCl (ce_X13 kA q_this o_this) H := hP
  obtain ⟨u_3, he_4, hf⟩ := os_bd hf
  refine mc_callV ⟨hx, hb, hml, hown, hts⟩ (mm_X13_goes l D kA N q_this o_this u_1 u_3 he_4) (cwV 1 hts gX13_isThin_X13_goes rfl rfl rfl (by decide +kernel) ⟨Nat.le_of_ble_eq_true rfl, Nat.le_of_ble_eq_true rfl⟩) (wc := (ce_X13 kA q_this o_this)) (ci := 9) (q0 := 0) rfl rfl rfl hl.1 (As := [.int u_1]) (rest := []) rfl (Nat.le_of_ble_eq_true rfl) dX13_isThin_7 ⟨Nat.le_of_ble_eq_true rfl, Nat.le_of_ble_eq_true rfl⟩ hK hP hD hS hA [0, 1, 2, 3, 4, 5, 6, 7, 8, 9, 10, 11, 12, 13, 14, 15, 16, 17, 18, 19, 20, 21, 22, 23] [] [0, 1, 2, 3, 4, 5, 6, 7, 8, 9, 10, 11, 12, 13, 14, 15, 16, 17, 18, 19, 20, 21, 22, 23] rfl (by decide) rfl (by decide) (by decide) rfl (by decide) (wr := []) (w2 := (ce_X13 kA q_this u_3.2)) (fun H locs hP hD hS => ?_)
  have hP : va_P D vwCl (ce_X13 kA q_this u_3.2) H := hP
  refine lv_if_eq (tgt := 26) hx hb dX13_isThin_10 (by decide) (fun hc_5 => ?_) (fun hc_5 => ?_)
  · rw [if_pos hc_5] at hf
    refine lv_iconst (v := 0) hx hb dX13_isThin_26 (by decide) ?_
    rw [← Option.some.inj hf]
    exact mc_retz (v := 0) hx hb hr rfl hlk hP hK hD hS dX13_isThin_27
  · rw [if_neg hc_5] at hf
    refine lv_aload_n hx hb dX13_isThin_13 rfl (lv_at hl 0 rfl) ?_
    refine lv_iload_n hx hb dX13_isThin_14 rfl (lv_at hl 1 rfl) ?_
    refine lv_iload_n hx hb dX13_isThin_15 rfl (lv_at hl 2 rfl) ?_
    obtain ⟨u_6, he_7, hf⟩ := os_bd hf
    refine mc_callV ⟨hx, hb, hml, hown, hts⟩ (mm_X13_thin l D kA N q_this u_3.2 a1 a2 u_6 he_7) (cwV 2 hts gX13_isThin_X13_thin rfl rfl rfl (by decide +kernel) ⟨Nat.le_of_ble_eq_true rfl, Nat.le_of_ble_eq_true rfl⟩) (wc := (ce_X13 kA q_this u_3.2)) (ci := 9) (q0 := 0) rfl rfl rfl hl.1 (As := [.int a1, .int a2]) (rest := []) rfl (Nat.le_of_ble_eq_true rfl) dX13_isThin_16 ⟨Nat.le_of_ble_eq_true rfl, Nat.le_of_ble_eq_true rfl⟩ hK hP hD hS hA [0, 1, 2, 3, 4, 5, 6, 7, 8, 9, 10, 11, 12, 13, 14, 15, 16, 17, 18, 19, 20, 21, 22, 23] [] [0, 1, 2, 3, 4, 5, 6, 7, 8, 9, 10, 11, 12, 13, 14, 15, 16, 17, 18, 19, 20, 21, 22, 23] rfl (by decide) rfl (by decide) (by decide) rfl (by decide) (wr := []) (w2 := (ce_X13 kA q_this u_3.2)) (fun H locs hP hD hS => ?_)
    have hP : va_P D vwCl (ce_X13 kA q_this u_3.2) H := hP
    refine lv_if_eq (tgt := 26) hx hb dX13_isThin_19 (by decide) (fun hc_8 => ?_) (fun hc_8 => ?_)
    · rw [if_pos hc_8] at hf
      refine lv_iconst (v := 0) hx hb dX13_isThin_26 (by decide) ?_
      rw [← Option.some.inj hf]
      exact mc_retz (v := 0) hx hb hr rfl hlk hP hK hD hS dX13_isThin_27
    · rw [if_neg hc_8] at hf
      refine lv_iconst (v := 1) hx hb dX13_isThin_22 (by decide) ?_
      refine lv_goto (tgt := 27) hx hb dX13_isThin_23 (by decide) ?_
      rw [← Option.some.inj hf]
      exact mc_retz (v := 1) hx hb hr rfl hlk hP hK hD hS dX13_isThin_27
def ff_X13_marksThin_c4 (N : Nat) (k4 : (os_T × Int32 × Int32) → Option (Int32 × os_T)) (o_this : os_T) (x1 : Int32) (x2 : Int32) : Option (Int32 × os_T) :=
  ((ff_X13_cellMany N o_this).bind fun u_1 => (if u_1 ≤ x2 then some (x1, o_this) else ((ff_X13_cellAt N o_this x2).bind fun u_4 => ((ff_X13_thin N o_this (u_4 - u_4 / (16 : Int32) * (16 : Int32)) (u_4 / (16 : Int32))).bind fun u_6 => (if os_in u_4 192 then (if os_in u_4 192 then ((ff_X13_truth N ((upd (os_A o_this 6) (Int32.toNatClampNeg u_4) (vp_nar .boolean u_6)) (Int32.toNatClampNeg u_4))).bind fun u_10 => k4 (ss_A o_this 6 (upd (os_A o_this 6) (Int32.toNatClampNeg u_4) (vp_nar .boolean u_6)), x1 + u_10, x2 + 1)) else none) else none)))))
def ff_X13_marksThin_l4 (N : Nat) : Nat → (os_T × Int32 × Int32) → Option (Int32 × os_T) := os_loop (fun k4 s1 => ff_X13_marksThin_c4 N k4 s1.1 s1.2.1 s1.2.2)
def ff_X13_marksThin (N : Nat) (o_this : os_T) : Option (Int32 × os_T) :=
  ff_X13_marksThin_l4 N N (o_this, (0 : Int32), (0 : Int32))
set_option maxHeartbeats 4000000 in
set_option maxRecDepth 100000 in
theorem mm_X13_marksThin (l : Launch) (D : va_G) (kA : Nat → ClassId) (N : Nat) (q_this : Nat → Nat) (o_this : os_T) (out : (Int32 × os_T)) (hf : ff_X13_marksThin N o_this = some out) : mc_C l D kA yX13_marksThin wsX13_marksThin ({ frames := 5, cells := 0, slots := 0, locals := 119 } : Room) [.ref (q_this 0)] (ce_X13 kA q_this o_this) (some (.int out.1)) (ce_X13 kA q_this out.2) := by
  refine mc_of (cc := cX13_marksThin) (maxL := 4) (ret := (some .int)) (by decide) rfl (Nat.le_of_ble_eq_true rfl) ?_
  intro p e s m below meth c A B hD hP hS ls hl
  obtain ⟨hx, hb, hr, hlk, hml, hown, hts, hK, hA, hnm⟩ := B
  have hown : s.vm.findClass RX13 = some m.cls := hown
  have hl : lv_has ls 4 [(0, .ref (q_this 0))] := hl
  have hUX13 : ∀ w ∈ u_ws RX13 TX13 48, w.before [.ref (q_this 0)].toArray s = true := fun w h => hts w (List.mem_cons_of_mem _ (List.mem_append_right _ h))
  have hL4 : ∀ (n : Nat) (o_this : os_T) (x1 : Int32) (x2 : Int32) (H : Heap) (locs : List Loc) (ls : Array Slot), va_P D vwCl (ce_X13 kA q_this o_this) H → va_D A (ce_X13 kA q_this o_this) → va_S A s.heap H locs → lv_has ls 4 [(0, .ref (q_this 0)), (1, .int x1), (2, .int x2)] → ff_X13_marksThin_l4 N n (o_this, x1, x2) = some out → W p l e ({ frames := 5, cells := 0, slots := 0, locals := 119 } : Room) s m [.ref (q_this 0)].toArray below meth c H locs 0 0 (MQ below (mc_Q D kA A (some (.int out.1)) (ce_X13 kA q_this out.2)) [.ref (q_this 0)].toArray s 0 0 A) (F0 m 4 ls []) := by
    intro n
    induction n with
    | zero => intro o_this x1 x2 H locs ls _ _ _ _ hf; cases hf
    | succ n hk4 =>
      intro o_this x1 x2 H locs ls hP hD hS hl hf
      have hf : ff_X13_marksThin_c4 N (ff_X13_marksThin_l4 N n) o_this x1 x2 = some out := hf
      generalize hke : ff_X13_marksThin_l4 N n = k4 at hk4 hf
      unfold ff_X13_marksThin_c4 at hf
      refine lv_iload_n hx hb dX13_marksThin_4 rfl (lv_at hl 2 rfl) ?_
      refine lv_aload_n hx hb dX13_marksThin_5 rfl (lv_at hl 0 rfl) ?_
      obtain ⟨u_1, he_2, hf⟩ := os_bd hf
      refine mc_callV ⟨hx, hb, hml, hown, hts⟩ (mm_X13_cellMany l D kA N q_this o_this u_1 he_2) (cwV 0 hts gX13_marksThin_X13_cellMany rfl rfl rfl (by decide +kernel) ⟨Nat.le_of_ble_eq_true rfl, Nat.le_of_ble_eq_true rfl⟩) (wc := (ce_X13 kA q_this o_this)) (ci := 9) (q0 := 0) rfl rfl rfl hl.1 (As := []) (rest := [.int x2]) rfl (Nat.le_of_ble_eq_true rfl) dX13_marksThin_6 ⟨Nat.le_of_ble_eq_true rfl, Nat.le_of_ble_eq_true rfl⟩ hK hP hD hS hA [0, 1, 2, 3, 4, 5, 6, 7, 8, 9, 10, 11, 12, 13, 14, 15, 16, 17, 18, 19, 20, 21, 22, 23] [] [0, 1, 2, 3, 4, 5, 6, 7, 8, 9, 10, 11, 12, 13, 14, 15, 16, 17, 18, 19, 20, 21, 22, 23] rfl (by decide) rfl (by decide) (by decide) rfl (by decide) (wr := []) (w2 := (ce_X13 kA q_this o_this)) (fun H locs hP hD hS => ?_)
      have hP : va_P D vwCl (ce_X13 kA q_this o_this) H := hP
      refine lv_icmp_ge (tgt := 54) hx hb dX13_marksThin_9 (by decide) (fun hc_3 => ?_) (fun hc_3 => ?_)
      · rw [if_pos hc_3] at hf
        refine lv_iload_n hx hb dX13_marksThin_54 rfl (lv_at hl 1 rfl) ?_
        rw [← Option.some.inj hf]
        exact mc_reti hx hb hr hlk hP hK hD hS dX13_marksThin_55
      · rw [if_neg hc_3] at hf
        refine lv_aload_n hx hb dX13_marksThin_12 rfl (lv_at hl 0 rfl) ?_
        refine lv_iload_n hx hb dX13_marksThin_13 rfl (lv_at hl 2 rfl) ?_
        obtain ⟨u_4, he_5, hf⟩ := os_bd hf
        refine mc_callV ⟨hx, hb, hml, hown, hts⟩ (mm_X13_cellAt l D kA N q_this o_this x2 u_4 he_5) (cwV 1 hts gX13_marksThin_X13_cellAt rfl rfl rfl (by decide +kernel) ⟨Nat.le_of_ble_eq_true rfl, Nat.le_of_ble_eq_true rfl⟩) (wc := (ce_X13 kA q_this o_this)) (ci := 9) (q0 := 0) rfl rfl rfl hl.1 (As := [.int x2]) (rest := []) rfl (Nat.le_of_ble_eq_true rfl) dX13_marksThin_14 ⟨Nat.le_of_ble_eq_true rfl, Nat.le_of_ble_eq_true rfl⟩ hK hP hD hS hA [0, 1, 2, 3, 4, 5, 6, 7, 8, 9, 10, 11, 12, 13, 14, 15, 16, 17, 18, 19, 20, 21, 22, 23] [] [0, 1, 2, 3, 4, 5, 6, 7, 8, 9, 10, 11, 12, 13, 14, 15, 16, 17, 18, 19, 20, 21, 22, 23] rfl (by decide) rfl (by decide) (by decide) rfl (by decide) (wr := []) (w2 := (ce_X13 kA q_this o_this)) (fun H locs hP hD hS => ?_)
        have hP : va_P D vwCl (ce_X13 kA q_this o_this) H := hP
        refine lv_istore_n (lv' := [(3, .int u_4), (0, .ref (q_this 0)), (1, .int x1), (2, .int x2)]) hx hb dX13_marksThin_17 rfl hl (by decide) rfl (fun ls hl => ?_)
        refine lv_aload_n hx hb dX13_marksThin_18 rfl (lv_at hl 1 rfl) ?_
        refine va_get (D := D) (ci := 9) (v := .ref (q_this 7)) (C := RX13) (T := TX13) (N := 48) hx hb hUX13 (fun _ h9 => h9) hown hK hP 0 rfl rfl 24 (by decide) (hts (Cond.fieldLink RX13 35 "ReliefBuilderModel" "marks" "[Z") (List.mem_of_getElem? (i := 1) rfl)) (fun _ h9 => h9) rfl dX13_marksThin_19 ?_
        refine lv_iload_n hx hb dX13_marksThin_22 rfl (lv_at hl 0 rfl) ?_
        refine lv_aload_n hx hb dX13_marksThin_23 rfl (lv_at hl 1 rfl) ?_
        refine lv_iload_n hx hb dX13_marksThin_24 rfl (lv_at hl 0 rfl) ?_
        refine lv_bipush (v := 16) hx hb dX13_marksThin_25 (by decide) ?_
        refine lv_irem hx hb dX13_marksThin_27 (by decide) ?_
        refine lv_iload_n hx hb dX13_marksThin_28 rfl (lv_at hl 0 rfl) ?_
        refine lv_bipush (v := 16) hx hb dX13_marksThin_29 (by decide) ?_
        refine lv_idiv hx hb dX13_marksThin_31 (by decide) ?_
        obtain ⟨u_6, he_7, hf⟩ := os_bd hf
        refine mc_callV ⟨hx, hb, hml, hown, hts⟩ (mm_X13_thin l D kA N q_this o_this (u_4 - u_4 / (16 : Int32) * (16 : Int32)) (u_4 / (16 : Int32)) u_6 he_7) (cwV 2 hts gX13_marksThin_X13_thin rfl rfl rfl (by decide +kernel) ⟨Nat.le_of_ble_eq_true rfl, Nat.le_of_ble_eq_true rfl⟩) (wc := (ce_X13 kA q_this o_this)) (ci := 9) (q0 := 0) rfl rfl rfl hl.1 (As := [.int (u_4 - u_4 / (16 : Int32) * (16 : Int32)), .int (u_4 / (16 : Int32))]) (rest := [.int u_4, .ref (q_this 7)]) rfl (Nat.le_of_ble_eq_true rfl) dX13_marksThin_32 ⟨Nat.le_of_ble_eq_true rfl, Nat.le_of_ble_eq_true rfl⟩ hK hP hD hS hA [0, 1, 2, 3, 4, 5, 6, 7, 8, 9, 10, 11, 12, 13, 14, 15, 16, 17, 18, 19, 20, 21, 22, 23] [] [0, 1, 2, 3, 4, 5, 6, 7, 8, 9, 10, 11, 12, 13, 14, 15, 16, 17, 18, 19, 20, 21, 22, 23] rfl (by decide) rfl (by decide) (by decide) rfl (by decide) (wr := []) (w2 := (ce_X13 kA q_this o_this)) (fun H locs hP hD hS => ?_)
        have hP : va_P D vwCl (ce_X13 kA q_this o_this) H := hP
        obtain ⟨hi_8, hf⟩ := os_if hf
        refine va_zast hx hb hK hP hD hS 7 1 rfl rfl hi_8 dX13_marksThin_35 (fun H locs hP hD hS => ?_)
        have hP : va_P D vwCl (ce_X13 kA q_this (ss_A o_this 6 (upd (os_A o_this 6) (Int32.toNatClampNeg u_4) (vp_nar .boolean u_6)))) H := hP
        have hD : va_D A (ce_X13 kA q_this (ss_A o_this 6 (upd (os_A o_this 6) (Int32.toNatClampNeg u_4) (vp_nar .boolean u_6)))) := hD
        refine lv_iload_n hx hb dX13_marksThin_36 rfl (lv_at hl 2 rfl) ?_
        refine lv_aload_n hx hb dX13_marksThin_37 rfl (lv_at hl 1 rfl) ?_
        refine va_get (D := D) (ci := 9) (v := .ref (q_this 7)) (C := RX13) (T := TX13) (N := 48) hx hb hUX13 (fun _ h9 => h9) hown hK hP 0 rfl rfl 24 (by decide) (hts (Cond.fieldLink RX13 35 "ReliefBuilderModel" "marks" "[Z") (List.mem_of_getElem? (i := 1) rfl)) (fun _ h9 => h9) rfl dX13_marksThin_38 ?_
        refine lv_iload_n hx hb dX13_marksThin_41 rfl (lv_at hl 0 rfl) ?_
        obtain ⟨hi_9, hf⟩ := os_if hf
        refine va_zald hx hb hK hP 7 1 rfl rfl hi_9 dX13_marksThin_42 ?_
        obtain ⟨u_10, he_11, hf⟩ := os_bd hf
        refine mc_callS ⟨hx, hb, hml, hown, hts⟩ (mm_X13_truth l D kA N ((upd (os_A o_this 6) (Int32.toNatClampNeg u_4) (vp_nar .boolean u_6)) (Int32.toNatClampNeg u_4)) u_10 he_11) (va_cwS 1 hts gX13_marksThin_X13_truth rfl rfl rfl (by decide +kernel) ⟨Nat.le_of_ble_eq_true rfl, Nat.le_of_ble_eq_true rfl⟩) (wc := []) rfl hl.1 (As := [.int ((upd (os_A o_this 6) (Int32.toNatClampNeg u_4) (vp_nar .boolean u_6)) (Int32.toNatClampNeg u_4))]) (rest := [.int x1]) rfl (Nat.le_of_ble_eq_true rfl) dX13_marksThin_43 ⟨Nat.le_of_ble_eq_true rfl, Nat.le_of_ble_eq_true rfl⟩ hK hP hD hS hA [] [0, 1, 2, 3, 4, 5, 6, 7, 8, 9, 10, 11, 12, 13, 14, 15, 16, 17, 18, 19, 20, 21, 22, 23] [0, 1, 2, 3, 4, 5, 6, 7, 8, 9, 10, 11, 12, 13, 14, 15, 16, 17, 18, 19, 20, 21, 22, 23] rfl (by decide) rfl (by decide) (by decide) rfl (by decide) (wr := (ce_X13 kA q_this (ss_A o_this 6 (upd (os_A o_this 6) (Int32.toNatClampNeg u_4) (vp_nar .boolean u_6))))) (w2 := (ce_X13 kA q_this (ss_A o_this 6 (upd (os_A o_this 6) (Int32.toNatClampNeg u_4) (vp_nar .boolean u_6))))) (fun H locs hP hD hS => ?_)
        have hP : va_P D vwCl (ce_X13 kA q_this (ss_A o_this 6 (upd (os_A o_this 6) (Int32.toNatClampNeg u_4) (vp_nar .boolean u_6)))) H := hP
        refine lv_iadd hx hb dX13_marksThin_46 ?_
        refine lv_istore_n (lv' := [(1, .int (x1 + u_10)), (3, .int u_4), (0, .ref (q_this 0)), (2, .int x2)]) hx hb dX13_marksThin_47 rfl hl (by decide) rfl (fun ls hl => ?_)
        refine lv_iinc (v := x2 + 1) (lv' := [(2, .int (x2 + 1)), (1, .int (x1 + u_10)), (3, .int u_4), (0, .ref (q_this 0))]) hx hb dX13_marksThin_48 hl (k := 3) rfl rfl (by decide) rfl (fun ls hl => ?_)
        refine lv_goto (tgt := 4) hx hb dX13_marksThin_51 (by decide) ?_
        exact hk4 (ss_A o_this 6 (upd (os_A o_this 6) (Int32.toNatClampNeg u_4) (vp_nar .boolean u_6))) (x1 + u_10) (x2 + 1) _ _ _ hP hD hS (lv_sub hl [3, 1, 0] rfl) hf
  unfold ff_X13_marksThin at hf
  refine lv_iconst (v := 0) hx hb dX13_marksThin_0 (by decide) ?_
  refine lv_istore_n (lv' := [(1, .int (0 : Int32)), (0, .ref (q_this 0))]) hx hb dX13_marksThin_1 rfl hl (by decide) rfl (fun ls hl => ?_)
  refine lv_iconst (v := 0) hx hb dX13_marksThin_2 (by decide) ?_
  refine lv_istore_n (lv' := [(2, .int (0 : Int32)), (1, .int (0 : Int32)), (0, .ref (q_this 0))]) hx hb dX13_marksThin_3 rfl hl (by decide) rfl (fun ls hl => ?_)
  exact hL4 N o_this (0 : Int32) (0 : Int32) _ _ _ hP hD hS (lv_sub hl [2, 1, 0] rfl) hf
def ff_X13_thinCells (N : Nat) (o_this : os_T) : Option (Int32 × os_T) :=
  ((ff_X13_marksThin N (ss_I o_this 0 (0 : Int32))).bind fun u_1 => some (u_1.1, u_1.2))
set_option maxHeartbeats 4000000 in
set_option maxRecDepth 100000 in
theorem mm_X13_thinCells (l : Launch) (D : va_G) (kA : Nat → ClassId) (N : Nat) (q_this : Nat → Nat) (o_this : os_T) (out : (Int32 × os_T)) (hf : ff_X13_thinCells N o_this = some out) : mc_C l D kA yX13_thinCells wsX13_thinCells ({ frames := 6, cells := 0, slots := 0, locals := 142 } : Room) [.ref (q_this 0)] (ce_X13 kA q_this o_this) (some (.int out.1)) (ce_X13 kA q_this out.2) := by
  refine mc_of (cc := cX13_thinCells) (maxL := 1) (ret := (some .int)) (by decide) rfl (Nat.le_of_ble_eq_true rfl) ?_
  intro p e s m below meth c A B hD hP hS ls hl
  obtain ⟨hx, hb, hr, hlk, hml, hown, hts, hK, hA, hnm⟩ := B
  have hown : s.vm.findClass RX13 = some m.cls := hown
  have hl : lv_has ls 1 [(0, .ref (q_this 0))] := hl
  have hUX13 : ∀ w ∈ u_ws RX13 TX13 48, w.before [.ref (q_this 0)].toArray s = true := fun w h => hts w (List.mem_cons_of_mem _ (List.mem_append_right _ h))
  unfold ff_X13_thinCells at hf
  refine lv_aload_n hx hb dX13_thinCells_0 rfl (lv_at hl 0 rfl) ?_
  refine lv_iconst (v := 0) hx hb dX13_thinCells_1 (by decide) ?_
  refine va_put (D := D) (ci := 9) (v := .int (0 : Int32)) (ty := .int) (C := RX13) (T := TX13) (N := 48) hx hb hUX13 (fun _ h9 => h9) tyX13 tyX13_ok nmX13 hown hK hP hD hS 0 rfl rfl 0 (by decide) (hts (Cond.fieldLink RX13 93 "ReliefBuilderModel" "code" "I") (List.mem_of_getElem? (i := 1) rfl)) (fun _ h9 => h9) rfl (tyX13_ok 0 (by decide)) rfl rfl (Nat.le_of_ble_eq_true rfl) dX13_thinCells_2 (fun H locs hP hD hS => ?_)
  have hP : va_P D vwCl (ce_X13 kA q_this (ss_I o_this 0 (0 : Int32))) H := hP
  have hD : va_D A (ce_X13 kA q_this (ss_I o_this 0 (0 : Int32))) := hD
  refine lv_aload_n hx hb dX13_thinCells_5 rfl (lv_at hl 0 rfl) ?_
  obtain ⟨u_1, he_2, hf⟩ := os_bd hf
  refine mc_callV ⟨hx, hb, hml, hown, hts⟩ (mm_X13_marksThin l D kA N q_this (ss_I o_this 0 (0 : Int32)) u_1 he_2) (cwV 0 hts gX13_thinCells_X13_marksThin rfl rfl rfl (by decide +kernel) ⟨Nat.le_of_ble_eq_true rfl, Nat.le_of_ble_eq_true rfl⟩) (wc := (ce_X13 kA q_this (ss_I o_this 0 (0 : Int32)))) (ci := 9) (q0 := 0) rfl rfl rfl hl.1 (As := []) (rest := []) rfl (Nat.le_of_ble_eq_true rfl) dX13_thinCells_6 ⟨Nat.le_of_ble_eq_true rfl, Nat.le_of_ble_eq_true rfl⟩ hK hP hD hS hA [0, 1, 2, 3, 4, 5, 6, 7, 8, 9, 10, 11, 12, 13, 14, 15, 16, 17, 18, 19, 20, 21, 22, 23] [] [0, 1, 2, 3, 4, 5, 6, 7, 8, 9, 10, 11, 12, 13, 14, 15, 16, 17, 18, 19, 20, 21, 22, 23] rfl (by decide) rfl (by decide) (by decide) rfl (by decide) (wr := []) (w2 := (ce_X13 kA q_this u_1.2)) (fun H locs hP hD hS => ?_)
  have hP : va_P D vwCl (ce_X13 kA q_this u_1.2) H := hP
  rw [← Option.some.inj hf]
  exact mc_reti hx hb hr hlk hP hK hD hS dX13_thinCells_9
def ff_X13_repairs_c11 (N : Nat) (k2 : (os_T × Int32) → Option (Int32 × os_T)) (k11 : (os_T × Int32 × Int32) → Option (Int32 × os_T)) (o_this : os_T) (x1 : Int32) (x2 : Int32) : Option (Int32 × os_T) :=
  ((ff_X13_cellMany N o_this).bind fun u_4 => (if u_4 ≤ x2 then k2 (o_this, x1 + 1) else ((ff_X13_cellAt N o_this x2).bind fun u_7 => (if os_in u_7 192 then ((ff_X13_cellAt N o_this x2).bind fun u_10 => (if os_in u_10 192 then ((ff_X13_truth N ((os_A o_this 6) (Int32.toNatClampNeg u_10))).bind fun u_13 => (if os_in u_7 192 then k11 (ss_A o_this 4 (upd (os_A o_this 4) (Int32.toNatClampNeg u_7) (((os_A o_this 4) (Int32.toNatClampNeg u_7)) - u_13)), x1, x2 + 1) else none)) else none)) else none))))
def ff_X13_repairs_l11 (N : Nat) (k2 : (os_T × Int32) → Option (Int32 × os_T)) : Nat → (os_T × Int32 × Int32) → Option (Int32 × os_T) := os_loop (fun k11 s1 => ff_X13_repairs_c11 N k2 k11 s1.1 s1.2.1 s1.2.2)
def ff_X13_repairs_c2 (N : Nat) (k2 : (os_T × Int32) → Option (Int32 × os_T)) (o_this : os_T) (x1 : Int32) : Option (Int32 × os_T) :=
  ((ff_X13_marksThin N o_this).bind fun u_1 => (if u_1.1 ≤ 0 then some (x1, u_1.2) else ff_X13_repairs_l11 N k2 N (u_1.2, x1, (0 : Int32))))
def ff_X13_repairs_l2 (N : Nat) : Nat → (os_T × Int32) → Option (Int32 × os_T) := os_loop (fun k2 s1 => ff_X13_repairs_c2 N k2 s1.1 s1.2)
def ff_X13_repairs (N : Nat) (o_this : os_T) : Option (Int32 × os_T) :=
  ff_X13_repairs_l2 N N (o_this, (0 : Int32))
set_option maxHeartbeats 4000000 in
set_option maxRecDepth 100000 in
theorem mm_X13_repairs (l : Launch) (D : va_G) (kA : Nat → ClassId) (N : Nat) (q_this : Nat → Nat) (o_this : os_T) (out : (Int32 × os_T)) (hf : ff_X13_repairs N o_this = some out) : mc_C l D kA yX13_repairs wsX13_repairs ({ frames := 6, cells := 0, slots := 0, locals := 142 } : Room) [.ref (q_this 0)] (ce_X13 kA q_this o_this) (some (.int out.1)) (ce_X13 kA q_this out.2) := by
  refine mc_of (cc := cX13_repairs) (maxL := 3) (ret := (some .int)) (by decide) rfl (Nat.le_of_ble_eq_true rfl) ?_
  intro p e s m below meth c A B hD hP hS ls hl
  obtain ⟨hx, hb, hr, hlk, hml, hown, hts, hK, hA, hnm⟩ := B
  have hown : s.vm.findClass RX13 = some m.cls := hown
  have hl : lv_has ls 3 [(0, .ref (q_this 0))] := hl
  have hUX13 : ∀ w ∈ u_ws RX13 TX13 48, w.before [.ref (q_this 0)].toArray s = true := fun w h => hts w (List.mem_cons_of_mem _ (List.mem_append_right _ h))
  have hL11 : ∀ (k2 : (os_T × Int32) → Option (Int32 × os_T)), (∀ (o_this : os_T) (x1 : Int32) (H : Heap) (locs : List Loc) (ls : Array Slot), va_P D vwCl (ce_X13 kA q_this o_this) H → va_D A (ce_X13 kA q_this o_this) → va_S A s.heap H locs → lv_has ls 3 [(0, .ref (q_this 0)), (1, .int x1)] → k2 (o_this, x1) = some out → W p l e ({ frames := 6, cells := 0, slots := 0, locals := 142 } : Room) s m [.ref (q_this 0)].toArray below meth c H locs 0 0 (MQ below (mc_Q D kA A (some (.int out.1)) (ce_X13 kA q_this out.2)) [.ref (q_this 0)].toArray s 0 0 A) (F0 m 2 ls [])) → ∀ (n : Nat) (o_this : os_T) (x1 : Int32) (x2 : Int32) (H : Heap) (locs : List Loc) (ls : Array Slot), va_P D vwCl (ce_X13 kA q_this o_this) H → va_D A (ce_X13 kA q_this o_this) → va_S A s.heap H locs → lv_has ls 3 [(0, .ref (q_this 0)), (1, .int x1), (2, .int x2)] → ff_X13_repairs_l11 N k2 n (o_this, x1, x2) = some out → W p l e ({ frames := 6, cells := 0, slots := 0, locals := 142 } : Room) s m [.ref (q_this 0)].toArray below meth c H locs 0 0 (MQ below (mc_Q D kA A (some (.int out.1)) (ce_X13 kA q_this out.2)) [.ref (q_this 0)].toArray s 0 0 A) (F0 m 11 ls []) := by
    intro k2 hk2 n
    induction n with
    | zero => intro o_this x1 x2 H locs ls _ _ _ _ hf; cases hf
    | succ n hk11 =>
      intro o_this x1 x2 H locs ls hP hD hS hl hf
      have hf : ff_X13_repairs_c11 N k2 (ff_X13_repairs_l11 N k2 n) o_this x1 x2 = some out := hf
      generalize hke : ff_X13_repairs_l11 N k2 n = k11 at hk11 hf
      unfold ff_X13_repairs_c11 at hf
      refine lv_iload_n hx hb dX13_repairs_11 rfl (lv_at hl 2 rfl) ?_
      refine lv_aload_n hx hb dX13_repairs_12 rfl (lv_at hl 0 rfl) ?_
      obtain ⟨u_4, he_5, hf⟩ := os_bd hf
      refine mc_callV ⟨hx, hb, hml, hown, hts⟩ (mm_X13_cellMany l D kA N q_this o_this u_4 he_5) (cwV 0 hts gX13_repairs_X13_cellMany rfl rfl rfl (by decide +kernel) ⟨Nat.le_of_ble_eq_true rfl, Nat.le_of_ble_eq_true rfl⟩) (wc := (ce_X13 kA q_this o_this)) (ci := 9) (q0 := 0) rfl rfl rfl hl.1 (As := []) (rest := [.int x2]) rfl (Nat.le_of_ble_eq_true rfl) dX13_repairs_13 ⟨Nat.le_of_ble_eq_true rfl, Nat.le_of_ble_eq_true rfl⟩ hK hP hD hS hA [0, 1, 2, 3, 4, 5, 6, 7, 8, 9, 10, 11, 12, 13, 14, 15, 16, 17, 18, 19, 20, 21, 22, 23] [] [0, 1, 2, 3, 4, 5, 6, 7, 8, 9, 10, 11, 12, 13, 14, 15, 16, 17, 18, 19, 20, 21, 22, 23] rfl (by decide) rfl (by decide) (by decide) rfl (by decide) (wr := []) (w2 := (ce_X13 kA q_this o_this)) (fun H locs hP hD hS => ?_)
      have hP : va_P D vwCl (ce_X13 kA q_this o_this) H := hP
      refine lv_icmp_ge (tgt := 51) hx hb dX13_repairs_16 (by decide) (fun hc_6 => ?_) (fun hc_6 => ?_)
      · rw [if_pos hc_6] at hf
        refine lv_iinc (v := x1 + 1) (lv' := [(1, .int (x1 + 1)), (0, .ref (q_this 0)), (2, .int x2)]) hx hb dX13_repairs_51 hl (k := 1) rfl rfl (by decide) rfl (fun ls hl => ?_)
        refine lv_goto (tgt := 2) hx hb dX13_repairs_54 (by decide) ?_
        exact hk2 o_this (x1 + 1) _ _ _ hP hD hS (lv_sub hl [1, 0] rfl) hf
      · rw [if_neg hc_6] at hf
        refine lv_aload_n hx hb dX13_repairs_19 rfl (lv_at hl 0 rfl) ?_
        refine va_get (D := D) (ci := 9) (v := .ref (q_this 5)) (C := RX13) (T := TX13) (N := 48) hx hb hUX13 (fun _ h9 => h9) hown hK hP 0 rfl rfl 16 (by decide) (hts (Cond.fieldLink RX13 29 "ReliefBuilderModel" "heights" "[I") (List.mem_of_getElem? (i := 1) rfl)) (fun _ h9 => h9) rfl dX13_repairs_20 ?_
        refine lv_aload_n hx hb dX13_repairs_23 rfl (lv_at hl 0 rfl) ?_
        refine lv_iload_n hx hb dX13_repairs_24 rfl (lv_at hl 2 rfl) ?_
        obtain ⟨u_7, he_8, hf⟩ := os_bd hf
        refine mc_callV ⟨hx, hb, hml, hown, hts⟩ (mm_X13_cellAt l D kA N q_this o_this x2 u_7 he_8) (cwV 1 hts gX13_repairs_X13_cellAt rfl rfl rfl (by decide +kernel) ⟨Nat.le_of_ble_eq_true rfl, Nat.le_of_ble_eq_true rfl⟩) (wc := (ce_X13 kA q_this o_this)) (ci := 9) (q0 := 0) rfl rfl rfl hl.1 (As := [.int x2]) (rest := [.ref (q_this 5)]) rfl (Nat.le_of_ble_eq_true rfl) dX13_repairs_25 ⟨Nat.le_of_ble_eq_true rfl, Nat.le_of_ble_eq_true rfl⟩ hK hP hD hS hA [0, 1, 2, 3, 4, 5, 6, 7, 8, 9, 10, 11, 12, 13, 14, 15, 16, 17, 18, 19, 20, 21, 22, 23] [] [0, 1, 2, 3, 4, 5, 6, 7, 8, 9, 10, 11, 12, 13, 14, 15, 16, 17, 18, 19, 20, 21, 22, 23] rfl (by decide) rfl (by decide) (by decide) rfl (by decide) (wr := []) (w2 := (ce_X13 kA q_this o_this)) (fun H locs hP hD hS => ?_)
        have hP : va_P D vwCl (ce_X13 kA q_this o_this) H := hP
        refine lv_dup2_11 hx hb dX13_repairs_28 rfl rfl ?_
        obtain ⟨hi_9, hf⟩ := os_if hf
        refine va_iald hx hb hK hP 5 0 rfl rfl hi_9 dX13_repairs_29 ?_
        refine lv_aload_n hx hb dX13_repairs_30 rfl (lv_at hl 0 rfl) ?_
        refine va_get (D := D) (ci := 9) (v := .ref (q_this 7)) (C := RX13) (T := TX13) (N := 48) hx hb hUX13 (fun _ h9 => h9) hown hK hP 0 rfl rfl 24 (by decide) (hts (Cond.fieldLink RX13 35 "ReliefBuilderModel" "marks" "[Z") (List.mem_of_getElem? (i := 2) rfl)) (fun _ h9 => h9) rfl dX13_repairs_31 ?_
        refine lv_aload_n hx hb dX13_repairs_34 rfl (lv_at hl 0 rfl) ?_
        refine lv_iload_n hx hb dX13_repairs_35 rfl (lv_at hl 2 rfl) ?_
        obtain ⟨u_10, he_11, hf⟩ := os_bd hf
        refine mc_callV ⟨hx, hb, hml, hown, hts⟩ (mm_X13_cellAt l D kA N q_this o_this x2 u_10 he_11) (cwV 1 hts gX13_repairs_X13_cellAt rfl rfl rfl (by decide +kernel) ⟨Nat.le_of_ble_eq_true rfl, Nat.le_of_ble_eq_true rfl⟩) (wc := (ce_X13 kA q_this o_this)) (ci := 9) (q0 := 0) rfl rfl rfl hl.1 (As := [.int x2]) (rest := [.ref (q_this 7), .int ((os_A o_this 4) (Int32.toNatClampNeg u_7)), .int u_7, .ref (q_this 5)]) rfl (Nat.le_of_ble_eq_true rfl) dX13_repairs_36 ⟨Nat.le_of_ble_eq_true rfl, Nat.le_of_ble_eq_true rfl⟩ hK hP hD hS hA [0, 1, 2, 3, 4, 5, 6, 7, 8, 9, 10, 11, 12, 13, 14, 15, 16, 17, 18, 19, 20, 21, 22, 23] [] [0, 1, 2, 3, 4, 5, 6, 7, 8, 9, 10, 11, 12, 13, 14, 15, 16, 17, 18, 19, 20, 21, 22, 23] rfl (by decide) rfl (by decide) (by decide) rfl (by decide) (wr := []) (w2 := (ce_X13 kA q_this o_this)) (fun H locs hP hD hS => ?_)
        have hP : va_P D vwCl (ce_X13 kA q_this o_this) H := hP
        obtain ⟨hi_12, hf⟩ := os_if hf
        refine va_zald hx hb hK hP 7 1 rfl rfl hi_12 dX13_repairs_39 ?_
        obtain ⟨u_13, he_14, hf⟩ := os_bd hf
        refine mc_callS ⟨hx, hb, hml, hown, hts⟩ (mm_X13_truth l D kA N ((os_A o_this 6) (Int32.toNatClampNeg u_10)) u_13 he_14) (va_cwS 1 hts gX13_repairs_X13_truth rfl rfl rfl (by decide +kernel) ⟨Nat.le_of_ble_eq_true rfl, Nat.le_of_ble_eq_true rfl⟩) (wc := []) rfl hl.1 (As := [.int ((os_A o_this 6) (Int32.toNatClampNeg u_10))]) (rest := [.int ((os_A o_this 4) (Int32.toNatClampNeg u_7)), .int u_7, .ref (q_this 5)]) rfl (Nat.le_of_ble_eq_true rfl) dX13_repairs_40 ⟨Nat.le_of_ble_eq_true rfl, Nat.le_of_ble_eq_true rfl⟩ hK hP hD hS hA [] [0, 1, 2, 3, 4, 5, 6, 7, 8, 9, 10, 11, 12, 13, 14, 15, 16, 17, 18, 19, 20, 21, 22, 23] [0, 1, 2, 3, 4, 5, 6, 7, 8, 9, 10, 11, 12, 13, 14, 15, 16, 17, 18, 19, 20, 21, 22, 23] rfl (by decide) rfl (by decide) (by decide) rfl (by decide) (wr := (ce_X13 kA q_this o_this)) (w2 := (ce_X13 kA q_this o_this)) (fun H locs hP hD hS => ?_)
        have hP : va_P D vwCl (ce_X13 kA q_this o_this) H := hP
        refine lv_isub hx hb dX13_repairs_43 ?_
        obtain ⟨hi_15, hf⟩ := os_if hf
        refine va_iast hx hb hK hP hD hS 5 0 rfl rfl hi_15 dX13_repairs_44 (fun H locs hP hD hS => ?_)
        have hP : va_P D vwCl (ce_X13 kA q_this (ss_A o_this 4 (upd (os_A o_this 4) (Int32.toNatClampNeg u_7) (((os_A o_this 4) (Int32.toNatClampNeg u_7)) - u_13)))) H := hP
        have hD : va_D A (ce_X13 kA q_this (ss_A o_this 4 (upd (os_A o_this 4) (Int32.toNatClampNeg u_7) (((os_A o_this 4) (Int32.toNatClampNeg u_7)) - u_13)))) := hD
        refine lv_iinc (v := x2 + 1) (lv' := [(2, .int (x2 + 1)), (0, .ref (q_this 0)), (1, .int x1)]) hx hb dX13_repairs_45 hl (k := 2) rfl rfl (by decide) rfl (fun ls hl => ?_)
        refine lv_goto (tgt := 11) hx hb dX13_repairs_48 (by decide) ?_
        exact hk11 (ss_A o_this 4 (upd (os_A o_this 4) (Int32.toNatClampNeg u_7) (((os_A o_this 4) (Int32.toNatClampNeg u_7)) - u_13))) x1 (x2 + 1) _ _ _ hP hD hS (lv_sub hl [1, 2, 0] rfl) hf
  have hL2 : ∀ (n : Nat) (o_this : os_T) (x1 : Int32) (H : Heap) (locs : List Loc) (ls : Array Slot), va_P D vwCl (ce_X13 kA q_this o_this) H → va_D A (ce_X13 kA q_this o_this) → va_S A s.heap H locs → lv_has ls 3 [(0, .ref (q_this 0)), (1, .int x1)] → ff_X13_repairs_l2 N n (o_this, x1) = some out → W p l e ({ frames := 6, cells := 0, slots := 0, locals := 142 } : Room) s m [.ref (q_this 0)].toArray below meth c H locs 0 0 (MQ below (mc_Q D kA A (some (.int out.1)) (ce_X13 kA q_this out.2)) [.ref (q_this 0)].toArray s 0 0 A) (F0 m 2 ls []) := by
    intro n
    induction n with
    | zero => intro o_this x1 H locs ls _ _ _ _ hf; cases hf
    | succ n hk2 =>
      intro o_this x1 H locs ls hP hD hS hl hf
      have hf : ff_X13_repairs_c2 N (ff_X13_repairs_l2 N n) o_this x1 = some out := hf
      generalize hke : ff_X13_repairs_l2 N n = k2 at hk2 hf
      unfold ff_X13_repairs_c2 at hf
      refine lv_aload_n hx hb dX13_repairs_2 rfl (lv_at hl 0 rfl) ?_
      obtain ⟨u_1, he_2, hf⟩ := os_bd hf
      refine mc_callV ⟨hx, hb, hml, hown, hts⟩ (mm_X13_marksThin l D kA N q_this o_this u_1 he_2) (cwV 0 hts gX13_repairs_X13_marksThin rfl rfl rfl (by decide +kernel) ⟨Nat.le_of_ble_eq_true rfl, Nat.le_of_ble_eq_true rfl⟩) (wc := (ce_X13 kA q_this o_this)) (ci := 9) (q0 := 0) rfl rfl rfl hl.1 (As := []) (rest := []) rfl (Nat.le_of_ble_eq_true rfl) dX13_repairs_3 ⟨Nat.le_of_ble_eq_true rfl, Nat.le_of_ble_eq_true rfl⟩ hK hP hD hS hA [0, 1, 2, 3, 4, 5, 6, 7, 8, 9, 10, 11, 12, 13, 14, 15, 16, 17, 18, 19, 20, 21, 22, 23] [] [0, 1, 2, 3, 4, 5, 6, 7, 8, 9, 10, 11, 12, 13, 14, 15, 16, 17, 18, 19, 20, 21, 22, 23] rfl (by decide) rfl (by decide) (by decide) rfl (by decide) (wr := []) (w2 := (ce_X13 kA q_this u_1.2)) (fun H locs hP hD hS => ?_)
      have hP : va_P D vwCl (ce_X13 kA q_this u_1.2) H := hP
      refine lv_if_le (tgt := 57) hx hb dX13_repairs_6 (by decide) (fun hc_3 => ?_) (fun hc_3 => ?_)
      · rw [if_pos hc_3] at hf
        refine lv_iload_n hx hb dX13_repairs_57 rfl (lv_at hl 1 rfl) ?_
        rw [← Option.some.inj hf]
        exact mc_reti hx hb hr hlk hP hK hD hS dX13_repairs_58
      · rw [if_neg hc_3] at hf
        refine lv_iconst (v := 0) hx hb dX13_repairs_9 (by decide) ?_
        refine lv_istore_n (lv' := [(2, .int (0 : Int32)), (0, .ref (q_this 0)), (1, .int x1)]) hx hb dX13_repairs_10 rfl hl (by decide) rfl (fun ls hl => ?_)
        exact hL11 k2 hk2 N u_1.2 x1 (0 : Int32) _ _ _ hP hD hS (lv_sub hl [1, 2, 0] rfl) hf
  unfold ff_X13_repairs at hf
  refine lv_iconst (v := 0) hx hb dX13_repairs_0 (by decide) ?_
  refine lv_istore_n (lv' := [(1, .int (0 : Int32)), (0, .ref (q_this 0))]) hx hb dX13_repairs_1 rfl hl (by decide) rfl (fun ls hl => ?_)
  exact hL2 N o_this (0 : Int32) _ _ _ hP hD hS (lv_sub hl [1, 0] rfl) hf
def ff_X13_laysAside_c2 (N : Nat) (k2 : (os_T × Int32) → Option os_T) (o_this : os_T) (x1 : Int32) : Option os_T :=
  (if (192 : Int32) ≤ x1 then some o_this else (if os_in x1 192 then (if os_in x1 192 then (if os_in x1 192 then (if os_in x1 192 then k2 (ss_A (ss_A o_this 7 (upd (os_A o_this 7) (Int32.toNatClampNeg x1) ((os_A o_this 4) (Int32.toNatClampNeg x1)))) 8 (upd (os_A o_this 8) (Int32.toNatClampNeg x1) ((os_A o_this 3) (Int32.toNatClampNeg x1))), x1 + 1) else none) else none) else none) else none))
def ff_X13_laysAside_l2 (N : Nat) : Nat → (os_T × Int32) → Option os_T := os_loop (fun k2 s1 => ff_X13_laysAside_c2 N k2 s1.1 s1.2)
def ff_X13_laysAside (N : Nat) (o_this : os_T) : Option os_T :=
  ff_X13_laysAside_l2 N N (o_this, (0 : Int32))
set_option maxHeartbeats 4000000 in
set_option maxRecDepth 100000 in
theorem mm_X13_laysAside (l : Launch) (D : va_G) (kA : Nat → ClassId) (N : Nat) (q_this : Nat → Nat) (o_this : os_T) (out : os_T) (hf : ff_X13_laysAside N o_this = some out) : mc_C l D kA yX13_laysAside wsX13_laysAside ({ frames := 0, cells := 0, slots := 0, locals := 0 } : Room) [.ref (q_this 0)] (ce_X13 kA q_this o_this) none (ce_X13 kA q_this out) := by
  refine mc_of (cc := cX13_laysAside) (maxL := 2) (ret := none) (by decide) rfl (Nat.le_of_ble_eq_true rfl) ?_
  intro p e s m below meth c A B hD hP hS ls hl
  obtain ⟨hx, hb, hr, hlk, hml, hown, hts, hK, hA, hnm⟩ := B
  have hown : s.vm.findClass RX13 = some m.cls := hown
  have hl : lv_has ls 2 [(0, .ref (q_this 0))] := hl
  have hUX13 : ∀ w ∈ u_ws RX13 TX13 48, w.before [.ref (q_this 0)].toArray s = true := fun w h => hts w (List.mem_cons_of_mem _ (List.mem_append_right _ h))
  have hL2 : ∀ (n : Nat) (o_this : os_T) (x1 : Int32) (H : Heap) (locs : List Loc) (ls : Array Slot), va_P D vwCl (ce_X13 kA q_this o_this) H → va_D A (ce_X13 kA q_this o_this) → va_S A s.heap H locs → lv_has ls 2 [(0, .ref (q_this 0)), (1, .int x1)] → ff_X13_laysAside_l2 N n (o_this, x1) = some out → W p l e ({ frames := 0, cells := 0, slots := 0, locals := 0 } : Room) s m [.ref (q_this 0)].toArray below meth c H locs 0 0 (MQ below (mc_Q D kA A none (ce_X13 kA q_this out)) [.ref (q_this 0)].toArray s 0 0 A) (F0 m 2 ls []) := by
    intro n
    induction n with
    | zero => intro o_this x1 H locs ls _ _ _ _ hf; cases hf
    | succ n hk2 =>
      intro o_this x1 H locs ls hP hD hS hl hf
      have hf : ff_X13_laysAside_c2 N (ff_X13_laysAside_l2 N n) o_this x1 = some out := hf
      generalize hke : ff_X13_laysAside_l2 N n = k2 at hk2 hf
      unfold ff_X13_laysAside_c2 at hf
      refine lv_iload_n hx hb dX13_laysAside_2 rfl (lv_at hl 1 rfl) ?_
      refine lv_sipush (v := 192) hx hb dX13_laysAside_3 (by decide) ?_
      refine lv_icmp_ge (tgt := 39) hx hb dX13_laysAside_6 (by decide) (fun hc_1 => ?_) (fun hc_1 => ?_)
      · rw [if_pos hc_1] at hf
        rw [← Option.some.inj hf]
        exact mc_retv hx hb hr hlk hP hK hD hS dX13_laysAside_39
      · rw [if_neg hc_1] at hf
        refine lv_aload_n hx hb dX13_laysAside_9 rfl (lv_at hl 0 rfl) ?_
        refine va_get (D := D) (ci := 9) (v := .ref (q_this 8)) (C := RX13) (T := TX13) (N := 48) hx hb hUX13 (fun _ h9 => h9) hown hK hP 0 rfl rfl 25 (by decide) (hts (Cond.fieldLink RX13 39 "ReliefBuilderModel" "aside" "[I") (List.mem_of_getElem? (i := 1) rfl)) (fun _ h9 => h9) rfl dX13_laysAside_10 ?_
        refine lv_iload_n hx hb dX13_laysAside_13 rfl (lv_at hl 1 rfl) ?_
        refine lv_aload_n hx hb dX13_laysAside_14 rfl (lv_at hl 0 rfl) ?_
        refine va_get (D := D) (ci := 9) (v := .ref (q_this 5)) (C := RX13) (T := TX13) (N := 48) hx hb hUX13 (fun _ h9 => h9) hown hK hP 0 rfl rfl 16 (by decide) (hts (Cond.fieldLink RX13 29 "ReliefBuilderModel" "heights" "[I") (List.mem_of_getElem? (i := 2) rfl)) (fun _ h9 => h9) rfl dX13_laysAside_15 ?_
        refine lv_iload_n hx hb dX13_laysAside_18 rfl (lv_at hl 1 rfl) ?_
        obtain ⟨hi_2, hf⟩ := os_if hf
        refine va_iald hx hb hK hP 5 0 rfl rfl hi_2 dX13_laysAside_19 ?_
        obtain ⟨hi_3, hf⟩ := os_if hf
        refine va_iast hx hb hK hP hD hS 8 0 rfl rfl hi_3 dX13_laysAside_20 (fun H locs hP hD hS => ?_)
        have hP : va_P D vwCl (ce_X13 kA q_this (ss_A o_this 7 (upd (os_A o_this 7) (Int32.toNatClampNeg x1) ((os_A o_this 4) (Int32.toNatClampNeg x1))))) H := hP
        have hD : va_D A (ce_X13 kA q_this (ss_A o_this 7 (upd (os_A o_this 7) (Int32.toNatClampNeg x1) ((os_A o_this 4) (Int32.toNatClampNeg x1))))) := hD
        refine lv_aload_n hx hb dX13_laysAside_21 rfl (lv_at hl 0 rfl) ?_
        refine va_get (D := D) (ci := 9) (v := .ref (q_this 9)) (C := RX13) (T := TX13) (N := 48) hx hb hUX13 (fun _ h9 => h9) hown hK hP 0 rfl rfl 26 (by decide) (hts (Cond.fieldLink RX13 42 "ReliefBuilderModel" "asideTones" "[I") (List.mem_of_getElem? (i := 3) rfl)) (fun _ h9 => h9) rfl dX13_laysAside_22 ?_
        refine lv_iload_n hx hb dX13_laysAside_25 rfl (lv_at hl 1 rfl) ?_
        refine lv_aload_n hx hb dX13_laysAside_26 rfl (lv_at hl 0 rfl) ?_
        refine va_get (D := D) (ci := 9) (v := .ref (q_this 4)) (C := RX13) (T := TX13) (N := 48) hx hb hUX13 (fun _ h9 => h9) hown hK hP 0 rfl rfl 15 (by decide) (hts (Cond.fieldLink RX13 26 "ReliefBuilderModel" "tones" "[I") (List.mem_of_getElem? (i := 4) rfl)) (fun _ h9 => h9) rfl dX13_laysAside_27 ?_
        refine lv_iload_n hx hb dX13_laysAside_30 rfl (lv_at hl 1 rfl) ?_
        obtain ⟨hi_4, hf⟩ := os_if hf
        refine va_iald hx hb hK hP 4 0 rfl rfl hi_4 dX13_laysAside_31 ?_
        obtain ⟨hi_5, hf⟩ := os_if hf
        refine va_iast hx hb hK hP hD hS 9 0 rfl rfl hi_5 dX13_laysAside_32 (fun H locs hP hD hS => ?_)
        have hE9 : ∀ (y0 : Nat → Int32) (z9 : Nat → Int32), ((ce_X13 kA q_this (ss_A o_this 7 y0)) : va_W).set 9 (q_this 9, .inl (kA 0, 192, .inl z9)) = (ce_X13 kA q_this (ss_A (ss_A o_this 7 y0) 8 z9)) := fun _ _ => rfl
        have hP : va_P D vwCl (ce_X13 kA q_this (ss_A (ss_A o_this 7 (upd (os_A o_this 7) (Int32.toNatClampNeg x1) ((os_A o_this 4) (Int32.toNatClampNeg x1)))) 8 (upd (os_A o_this 8) (Int32.toNatClampNeg x1) ((os_A o_this 3) (Int32.toNatClampNeg x1))))) H := Eq.mp (congrArg (fun w9 => va_P D vwCl w9 H) (hE9 (upd (os_A o_this 7) (Int32.toNatClampNeg x1) ((os_A o_this 4) (Int32.toNatClampNeg x1))) _)) hP
        have hD : va_D A (ce_X13 kA q_this (ss_A (ss_A o_this 7 (upd (os_A o_this 7) (Int32.toNatClampNeg x1) ((os_A o_this 4) (Int32.toNatClampNeg x1)))) 8 (upd (os_A o_this 8) (Int32.toNatClampNeg x1) ((os_A o_this 3) (Int32.toNatClampNeg x1))))) := Eq.mp (congrArg (fun w9 => va_D A w9) (hE9 (upd (os_A o_this 7) (Int32.toNatClampNeg x1) ((os_A o_this 4) (Int32.toNatClampNeg x1))) _)) hD
        refine lv_iinc (v := x1 + 1) (lv' := [(1, .int (x1 + 1)), (0, .ref (q_this 0))]) hx hb dX13_laysAside_33 hl (k := 1) rfl rfl (by decide) rfl (fun ls hl => ?_)
        refine lv_goto (tgt := 2) hx hb dX13_laysAside_36 (by decide) ?_
        exact hk2 (ss_A (ss_A o_this 7 (upd (os_A o_this 7) (Int32.toNatClampNeg x1) ((os_A o_this 4) (Int32.toNatClampNeg x1)))) 8 (upd (os_A o_this 8) (Int32.toNatClampNeg x1) ((os_A o_this 3) (Int32.toNatClampNeg x1)))) (x1 + 1) _ _ _ hP hD hS (lv_sub hl [1, 0] rfl) hf
  unfold ff_X13_laysAside at hf
  refine lv_iconst (v := 0) hx hb dX13_laysAside_0 (by decide) ?_
  refine lv_istore_n (lv' := [(1, .int (0 : Int32)), (0, .ref (q_this 0))]) hx hb dX13_laysAside_1 rfl hl (by decide) rfl (fun ls hl => ?_)
  exact hL2 N o_this (0 : Int32) _ _ _ hP hD hS (lv_sub hl [1, 0] rfl) hf
