def ff_X5_clear (N : Nat) (o_this : os_T) : Option os_T :=
  some (ss_I (ss_I (ss_I (ss_I (ss_I (ss_I (ss_I (ss_A o_this 0 (os_fill 192 (255 : Int32) (os_A o_this 0))) 0 (4 : Int32)) 1 (4 : Int32)) 2 (8 : Int32)) 3 (80 : Int32)) 4 (1 : Int32)) 5 (2 : Int32)) 6 (1 : Int32))
set_option maxHeartbeats 4000000 in
set_option maxRecDepth 100000 in
theorem mm_X5_clear (l : Launch) (D : va_G) (kA : Nat → ClassId) (N : Nat) (q_this : Nat → Nat) (o_this : os_T) (out : os_T) (hf : ff_X5_clear N o_this = some out) : mc_C l D kA yX5_clear wsX5_clear ({ frames := 1, cells := 0, slots := 0, locals := 23 } : Room) [.ref (q_this 0)] (ce_X5 kA q_this o_this) none (ce_X5 kA q_this out) := by
  refine mc_of (cc := cX5_clear) (maxL := 1) (ret := none) (by decide) rfl (Nat.le_of_ble_eq_true rfl) ?_
  intro p e s m below meth c A B hD hP hS ls hl
  obtain ⟨hx, hb, hr, hlk, hml, hown, hts, hK, hA, hnm⟩ := B
  have hown : s.vm.findClass RX5 = some m.cls := hown
  have hl : lv_has ls 1 [(0, .ref (q_this 0))] := hl
  have hUX5 : ∀ w ∈ u_ws RX5 TX5 10, w.before [.ref (q_this 0)].toArray s = true := fun w h => hts w (List.mem_cons_of_mem _ (List.mem_append_right _ h))
  unfold ff_X5_clear at hf
  refine lv_aload_n hx hb dX5_clear_0 rfl (lv_at hl 0 rfl) ?_
  refine lv_iconst (v := 4) hx hb dX5_clear_1 (by decide) ?_
  refine va_put (D := D) (ci := 4) (v := .int (4 : Int32)) (ty := .int) (C := RX5) (T := TX5) (N := 10) hx hb hUX5 (fun _ h9 => h9) tyX5 tyX5_ok nmX5 hown hK hP hD hS 0 rfl rfl 0 (by decide) (hts (Cond.fieldLink RX5 28 "ReliefBuilder$Panel" "width" "I") (List.mem_of_getElem? (i := 1) rfl)) (fun _ h9 => h9) rfl (tyX5_ok 0 (by decide)) rfl rfl (Nat.le_of_ble_eq_true rfl) dX5_clear_2 (fun H locs hP hD hS => ?_)
  have hP : va_P D vwCl (ce_X5 kA q_this (ss_I o_this 0 (4 : Int32))) H := hP
  have hD : va_D A (ce_X5 kA q_this (ss_I o_this 0 (4 : Int32))) := hD
  refine lv_aload_n hx hb dX5_clear_5 rfl (lv_at hl 0 rfl) ?_
  refine lv_iconst (v := 4) hx hb dX5_clear_6 (by decide) ?_
  refine va_put (D := D) (ci := 4) (v := .int (4 : Int32)) (ty := .int) (C := RX5) (T := TX5) (N := 10) hx hb hUX5 (fun _ h9 => h9) tyX5 tyX5_ok nmX5 hown hK hP hD hS 0 rfl rfl 1 (by decide) (hts (Cond.fieldLink RX5 32 "ReliefBuilder$Panel" "rows" "I") (List.mem_of_getElem? (i := 2) rfl)) (fun _ h9 => h9) rfl (tyX5_ok 1 (by decide)) rfl rfl (Nat.le_of_ble_eq_true rfl) dX5_clear_7 (fun H locs hP hD hS => ?_)
  have hP : va_P D vwCl (ce_X5 kA q_this (ss_I (ss_I o_this 0 (4 : Int32)) 1 (4 : Int32))) H := hP
  have hD : va_D A (ce_X5 kA q_this (ss_I (ss_I o_this 0 (4 : Int32)) 1 (4 : Int32))) := hD
  refine lv_aload_n hx hb dX5_clear_10 rfl (lv_at hl 0 rfl) ?_
  refine lv_bipush (v := 8) hx hb dX5_clear_11 (by decide) ?_
  refine va_put (D := D) (ci := 4) (v := .int (8 : Int32)) (ty := .int) (C := RX5) (T := TX5) (N := 10) hx hb hUX5 (fun _ h9 => h9) tyX5 tyX5_ok nmX5 hown hK hP hD hS 0 rfl rfl 2 (by decide) (hts (Cond.fieldLink RX5 35 "ReliefBuilder$Panel" "greatest" "I") (List.mem_of_getElem? (i := 3) rfl)) (fun _ h9 => h9) rfl (tyX5_ok 2 (by decide)) rfl rfl (Nat.le_of_ble_eq_true rfl) dX5_clear_13 (fun H locs hP hD hS => ?_)
  have hP : va_P D vwCl (ce_X5 kA q_this (ss_I (ss_I (ss_I o_this 0 (4 : Int32)) 1 (4 : Int32)) 2 (8 : Int32))) H := hP
  have hD : va_D A (ce_X5 kA q_this (ss_I (ss_I (ss_I o_this 0 (4 : Int32)) 1 (4 : Int32)) 2 (8 : Int32))) := hD
  refine lv_aload_n hx hb dX5_clear_16 rfl (lv_at hl 0 rfl) ?_
  refine lv_bipush (v := 80) hx hb dX5_clear_17 (by decide) ?_
  refine va_put (D := D) (ci := 4) (v := .int (80 : Int32)) (ty := .int) (C := RX5) (T := TX5) (N := 10) hx hb hUX5 (fun _ h9 => h9) tyX5 tyX5_ok nmX5 hown hK hP hD hS 0 rfl rfl 3 (by decide) (hts (Cond.fieldLink RX5 38 "ReliefBuilder$Panel" "glass" "I") (List.mem_of_getElem? (i := 4) rfl)) (fun _ h9 => h9) rfl (tyX5_ok 3 (by decide)) rfl rfl (Nat.le_of_ble_eq_true rfl) dX5_clear_19 (fun H locs hP hD hS => ?_)
  have hP : va_P D vwCl (ce_X5 kA q_this (ss_I (ss_I (ss_I (ss_I o_this 0 (4 : Int32)) 1 (4 : Int32)) 2 (8 : Int32)) 3 (80 : Int32))) H := hP
  have hD : va_D A (ce_X5 kA q_this (ss_I (ss_I (ss_I (ss_I o_this 0 (4 : Int32)) 1 (4 : Int32)) 2 (8 : Int32)) 3 (80 : Int32))) := hD
  refine lv_aload_n hx hb dX5_clear_22 rfl (lv_at hl 0 rfl) ?_
  refine lv_iconst (v := 1) hx hb dX5_clear_23 (by decide) ?_
  refine va_put (D := D) (ci := 4) (v := .int (1 : Int32)) (ty := .int) (C := RX5) (T := TX5) (N := 10) hx hb hUX5 (fun _ h9 => h9) tyX5 tyX5_ok nmX5 hown hK hP hD hS 0 rfl rfl 4 (by decide) (hts (Cond.fieldLink RX5 41 "ReliefBuilder$Panel" "base" "I") (List.mem_of_getElem? (i := 5) rfl)) (fun _ h9 => h9) rfl (tyX5_ok 4 (by decide)) rfl rfl (Nat.le_of_ble_eq_true rfl) dX5_clear_24 (fun H locs hP hD hS => ?_)
  have hP : va_P D vwCl (ce_X5 kA q_this (ss_I (ss_I (ss_I (ss_I (ss_I o_this 0 (4 : Int32)) 1 (4 : Int32)) 2 (8 : Int32)) 3 (80 : Int32)) 4 (1 : Int32))) H := hP
  have hD : va_D A (ce_X5 kA q_this (ss_I (ss_I (ss_I (ss_I (ss_I o_this 0 (4 : Int32)) 1 (4 : Int32)) 2 (8 : Int32)) 3 (80 : Int32)) 4 (1 : Int32))) := hD
  refine lv_aload_n hx hb dX5_clear_27 rfl (lv_at hl 0 rfl) ?_
  refine lv_iconst (v := 2) hx hb dX5_clear_28 (by decide) ?_
  refine va_put (D := D) (ci := 4) (v := .int (2 : Int32)) (ty := .int) (C := RX5) (T := TX5) (N := 10) hx hb hUX5 (fun _ h9 => h9) tyX5 tyX5_ok nmX5 hown hK hP hD hS 0 rfl rfl 5 (by decide) (hts (Cond.fieldLink RX5 44 "ReliefBuilder$Panel" "wall" "I") (List.mem_of_getElem? (i := 6) rfl)) (fun _ h9 => h9) rfl (tyX5_ok 5 (by decide)) rfl rfl (Nat.le_of_ble_eq_true rfl) dX5_clear_29 (fun H locs hP hD hS => ?_)
  have hP : va_P D vwCl (ce_X5 kA q_this (ss_I (ss_I (ss_I (ss_I (ss_I (ss_I o_this 0 (4 : Int32)) 1 (4 : Int32)) 2 (8 : Int32)) 3 (80 : Int32)) 4 (1 : Int32)) 5 (2 : Int32))) H := hP
  have hD : va_D A (ce_X5 kA q_this (ss_I (ss_I (ss_I (ss_I (ss_I (ss_I o_this 0 (4 : Int32)) 1 (4 : Int32)) 2 (8 : Int32)) 3 (80 : Int32)) 4 (1 : Int32)) 5 (2 : Int32))) := hD
  refine lv_aload_n hx hb dX5_clear_32 rfl (lv_at hl 0 rfl) ?_
  refine lv_iconst (v := 1) hx hb dX5_clear_33 (by decide) ?_
  refine va_put (D := D) (ci := 4) (v := .int (1 : Int32)) (ty := .int) (C := RX5) (T := TX5) (N := 10) hx hb hUX5 (fun _ h9 => h9) tyX5 tyX5_ok nmX5 hown hK hP hD hS 0 rfl rfl 6 (by decide) (hts (Cond.fieldLink RX5 47 "ReliefBuilder$Panel" "slope" "I") (List.mem_of_getElem? (i := 7) rfl)) (fun _ h9 => h9) rfl (tyX5_ok 6 (by decide)) rfl rfl (Nat.le_of_ble_eq_true rfl) dX5_clear_34 (fun H locs hP hD hS => ?_)
  have hP : va_P D vwCl (ce_X5 kA q_this (ss_I (ss_I (ss_I (ss_I (ss_I (ss_I (ss_I o_this 0 (4 : Int32)) 1 (4 : Int32)) 2 (8 : Int32)) 3 (80 : Int32)) 4 (1 : Int32)) 5 (2 : Int32)) 6 (1 : Int32))) H := hP
  have hD : va_D A (ce_X5 kA q_this (ss_I (ss_I (ss_I (ss_I (ss_I (ss_I (ss_I o_this 0 (4 : Int32)) 1 (4 : Int32)) 2 (8 : Int32)) 3 (80 : Int32)) 4 (1 : Int32)) 5 (2 : Int32)) 6 (1 : Int32))) := hD
  refine lv_aload_n hx hb dX5_clear_37 rfl (lv_at hl 0 rfl) ?_
  refine va_get (D := D) (ci := 4) (v := .ref (q_this 1)) (C := RX5) (T := TX5) (N := 10) hx hb hUX5 (fun _ h9 => h9) hown hK hP 0 rfl rfl 7 (by decide) (hts (Cond.fieldLink RX5 9 "ReliefBuilder$Panel" "tones" "[I") (List.mem_of_getElem? (i := 8) rfl)) (fun _ h9 => h9) rfl dX5_clear_38 ?_
  refine lv_sipush (v := 255) hx hb dX5_clear_41 (by decide) ?_
  refine mc_callS ⟨hx, hb, hml, hown, hts⟩ (mm_fill l D kA (q_this 1) 192 (os_A o_this 0) (255 : Int32) (by decide)) (va_cwS 2 hts gX5_clear_J7_fill_53178 rfl rfl rfl (by decide +kernel) ⟨Nat.le_of_ble_eq_true rfl, Nat.le_of_ble_eq_true rfl⟩) rfl hl.1 (As := [.ref (q_this 1), .int (255 : Int32)]) (rest := []) rfl (Nat.le_of_ble_eq_true rfl) dX5_clear_44 ⟨Nat.le_of_ble_eq_true rfl, Nat.le_of_ble_eq_true rfl⟩ hK hP hD hS hA [1] [0, 2, 3] [0, 3, 1, 2] rfl (by decide) rfl (by decide) (by decide) rfl (by decide) (wr := ([0, 2, 3] : List Nat).filterMap (fun i => ((ce_X5 kA q_this (ss_I (ss_I (ss_I (ss_I (ss_I (ss_I (ss_I o_this 0 (4 : Int32)) 1 (4 : Int32)) 2 (8 : Int32)) 3 (80 : Int32)) 4 (1 : Int32)) 5 (2 : Int32)) 6 (1 : Int32))))[i]?)) (w2 := (ce_X5 kA q_this (ss_I (ss_I (ss_I (ss_I (ss_I (ss_I (ss_I (ss_A o_this 0 (os_fill 192 (255 : Int32) (os_A o_this 0))) 0 (4 : Int32)) 1 (4 : Int32)) 2 (8 : Int32)) 3 (80 : Int32)) 4 (1 : Int32)) 5 (2 : Int32)) 6 (1 : Int32)))) (fun H locs hP hD hS => ?_)
  have hP : va_P D vwCl (ce_X5 kA q_this (ss_I (ss_I (ss_I (ss_I (ss_I (ss_I (ss_I (ss_A o_this 0 (os_fill 192 (255 : Int32) (os_A o_this 0))) 0 (4 : Int32)) 1 (4 : Int32)) 2 (8 : Int32)) 3 (80 : Int32)) 4 (1 : Int32)) 5 (2 : Int32)) 6 (1 : Int32))) H := hP
  rw [← Option.some.inj hf]
  exact mc_retv hx hb hr hlk hP hK hD hS dX5_clear_47
def ff_X5_has (N : Nat) (o_this : os_T) (a1 : Int32) (a2 : Int32) : Option Int32 :=
  (if a1 < 0 then some (0 : Int32) else (if (os_I o_this 0) ≤ a1 then some (0 : Int32) else (if a2 < 0 then some (0 : Int32) else (if (os_I o_this 1) ≤ a2 then some (0 : Int32) else some (1 : Int32)))))
set_option maxHeartbeats 4000000 in
set_option maxRecDepth 100000 in
theorem mm_X5_has (l : Launch) (D : va_G) (kA : Nat → ClassId) (N : Nat) (q_this : Nat → Nat) (o_this : os_T) (a1 : Int32) (a2 : Int32) (out : Int32) (hf : ff_X5_has N o_this a1 a2 = some out) : mc_C l D kA yX5_has wsX5_has ({ frames := 0, cells := 0, slots := 0, locals := 0 } : Room) [.ref (q_this 0), .int a1, .int a2] (ce_X5 kA q_this o_this) (some (.int out)) (ce_X5 kA q_this o_this) := by
  refine mc_of (cc := cX5_has) (maxL := 3) (ret := (some .boolean)) (by decide) rfl (Nat.le_of_ble_eq_true rfl) ?_
  intro p e s m below meth c A B hD hP hS ls hl
  obtain ⟨hx, hb, hr, hlk, hml, hown, hts, hK, hA, hnm⟩ := B
  have hown : s.vm.findClass RX5 = some m.cls := hown
  have hl : lv_has ls 3 [(0, .ref (q_this 0)), (1, .int a1), (2, .int a2)] := hl
  have hUX5 : ∀ w ∈ u_ws RX5 TX5 10, w.before [.ref (q_this 0), .int a1, .int a2].toArray s = true := fun w h => hts w (List.mem_cons_of_mem _ (List.mem_append_right _ h))
  unfold ff_X5_has at hf
  refine lv_iload_n hx hb dX5_has_0 rfl (lv_at hl 1 rfl) ?_
  refine lv_if_lt (tgt := 28) hx hb dX5_has_1 (by decide) (fun hc_1 => ?_) (fun hc_1 => ?_)
  · rw [if_pos hc_1] at hf
    refine lv_iconst (v := 0) hx hb dX5_has_28 (by decide) ?_
    rw [← Option.some.inj hf]
    exact mc_retz (v := 0) hx hb hr rfl hlk hP hK hD hS dX5_has_29
  · rw [if_neg hc_1] at hf
    refine lv_iload_n hx hb dX5_has_4 rfl (lv_at hl 1 rfl) ?_
    refine lv_aload_n hx hb dX5_has_5 rfl (lv_at hl 0 rfl) ?_
    refine va_get (D := D) (ci := 4) (v := .int (os_I o_this 0)) (C := RX5) (T := TX5) (N := 10) hx hb hUX5 (fun _ h9 => h9) hown hK hP 0 rfl rfl 0 (by decide) (hts (Cond.fieldLink RX5 28 "ReliefBuilder$Panel" "width" "I") (List.mem_of_getElem? (i := 1) rfl)) (fun _ h9 => h9) rfl dX5_has_6 ?_
    refine lv_icmp_ge (tgt := 28) hx hb dX5_has_9 (by decide) (fun hc_2 => ?_) (fun hc_2 => ?_)
    · rw [if_pos hc_2] at hf
      refine lv_iconst (v := 0) hx hb dX5_has_28 (by decide) ?_
      rw [← Option.some.inj hf]
      exact mc_retz (v := 0) hx hb hr rfl hlk hP hK hD hS dX5_has_29
    · rw [if_neg hc_2] at hf
      refine lv_iload_n hx hb dX5_has_12 rfl (lv_at hl 2 rfl) ?_
      refine lv_if_lt (tgt := 28) hx hb dX5_has_13 (by decide) (fun hc_3 => ?_) (fun hc_3 => ?_)
      · rw [if_pos hc_3] at hf
        refine lv_iconst (v := 0) hx hb dX5_has_28 (by decide) ?_
        rw [← Option.some.inj hf]
        exact mc_retz (v := 0) hx hb hr rfl hlk hP hK hD hS dX5_has_29
      · rw [if_neg hc_3] at hf
        refine lv_iload_n hx hb dX5_has_16 rfl (lv_at hl 2 rfl) ?_
        refine lv_aload_n hx hb dX5_has_17 rfl (lv_at hl 0 rfl) ?_
        refine va_get (D := D) (ci := 4) (v := .int (os_I o_this 1)) (C := RX5) (T := TX5) (N := 10) hx hb hUX5 (fun _ h9 => h9) hown hK hP 0 rfl rfl 1 (by decide) (hts (Cond.fieldLink RX5 32 "ReliefBuilder$Panel" "rows" "I") (List.mem_of_getElem? (i := 2) rfl)) (fun _ h9 => h9) rfl dX5_has_18 ?_
        refine lv_icmp_ge (tgt := 28) hx hb dX5_has_21 (by decide) (fun hc_4 => ?_) (fun hc_4 => ?_)
        · rw [if_pos hc_4] at hf
          refine lv_iconst (v := 0) hx hb dX5_has_28 (by decide) ?_
          rw [← Option.some.inj hf]
          exact mc_retz (v := 0) hx hb hr rfl hlk hP hK hD hS dX5_has_29
        · rw [if_neg hc_4] at hf
          refine lv_iconst (v := 1) hx hb dX5_has_24 (by decide) ?_
          refine lv_goto (tgt := 29) hx hb dX5_has_25 (by decide) ?_
          rw [← Option.some.inj hf]
          exact mc_retz (v := 1) hx hb hr rfl hlk hP hK hD hS dX5_has_29
def ff_X5_build (N : Nat) (o_this : os_T) (a1 : Int32) (a2 : Int32) (a3 : Int32) : Option (Int32 × os_T) :=
  ((ff_X5_has N o_this a1 a2).bind fun u_1 => (if u_1 = 0 then some ((0 : Int32), o_this) else (if os_in ((a2 * (16 : Int32)) + a1) 192 then (if ((os_A o_this 1) (Int32.toNatClampNeg ((a2 * (16 : Int32)) + a1))) = a3 then some ((0 : Int32), o_this) else (if os_in ((a2 * (16 : Int32)) + a1) 192 then some ((1 : Int32), ss_A o_this 1 (upd (os_A o_this 1) (Int32.toNatClampNeg ((a2 * (16 : Int32)) + a1)) a3)) else none)) else none)))
set_option maxHeartbeats 4000000 in
set_option maxRecDepth 100000 in
theorem mm_X5_build (l : Launch) (D : va_G) (kA : Nat → ClassId) (N : Nat) (q_this : Nat → Nat) (o_this : os_T) (a1 : Int32) (a2 : Int32) (a3 : Int32) (out : (Int32 × os_T)) (hf : ff_X5_build N o_this a1 a2 a3 = some out) : mc_C l D kA yX5_build wsX5_build ({ frames := 1, cells := 0, slots := 0, locals := 22 } : Room) [.ref (q_this 0), .int a1, .int a2, .int a3] (ce_X5 kA q_this o_this) (some (.int out.1)) (ce_X5 kA q_this out.2) := by
  refine mc_of (cc := cX5_build) (maxL := 4) (ret := (some .int)) (by decide) rfl (Nat.le_of_ble_eq_true rfl) ?_
  intro p e s m below meth c A B hD hP hS ls hl
  obtain ⟨hx, hb, hr, hlk, hml, hown, hts, hK, hA, hnm⟩ := B
  have hown : s.vm.findClass RX5 = some m.cls := hown
  have hl : lv_has ls 4 [(0, .ref (q_this 0)), (1, .int a1), (2, .int a2), (3, .int a3)] := hl
  have hUX5 : ∀ w ∈ u_ws RX5 TX5 10, w.before [.ref (q_this 0), .int a1, .int a2, .int a3].toArray s = true := fun w h => hts w (List.mem_cons_of_mem _ (List.mem_append_right _ h))
  unfold ff_X5_build at hf
  refine lv_aload_n hx hb dX5_build_0 rfl (lv_at hl 0 rfl) ?_
  refine lv_iload_n hx hb dX5_build_1 rfl (lv_at hl 1 rfl) ?_
  refine lv_iload_n hx hb dX5_build_2 rfl (lv_at hl 2 rfl) ?_
  obtain ⟨u_1, he_2, hf⟩ := os_bd hf
  refine mc_callV ⟨hx, hb, hml, hown, hts⟩ (mm_X5_has l D kA N q_this o_this a1 a2 u_1 he_2) (cwV 2 hts gX5_build_X5_has rfl rfl rfl (by decide +kernel) ⟨Nat.le_of_ble_eq_true rfl, Nat.le_of_ble_eq_true rfl⟩) (wc := (ce_X5 kA q_this o_this)) (ci := 4) (q0 := 0) rfl rfl rfl hl.1 (As := [.int a1, .int a2]) (rest := []) rfl (Nat.le_of_ble_eq_true rfl) dX5_build_3 ⟨Nat.le_of_ble_eq_true rfl, Nat.le_of_ble_eq_true rfl⟩ hK hP hD hS hA [0, 1, 2, 3] [] [0, 1, 2, 3] rfl (by decide) rfl (by decide) (by decide) rfl (by decide) (wr := []) (w2 := (ce_X5 kA q_this o_this)) (fun H locs hP hD hS => ?_)
  have hP : va_P D vwCl (ce_X5 kA q_this o_this) H := hP
  refine lv_if_eq (tgt := 24) hx hb dX5_build_6 (by decide) (fun hc_3 => ?_) (fun hc_3 => ?_)
  · rw [if_pos hc_3] at hf
    refine lv_iconst (v := 0) hx hb dX5_build_24 (by decide) ?_
    rw [← Option.some.inj hf]
    exact mc_reti hx hb hr hlk hP hK hD hS dX5_build_25
  · rw [if_neg hc_3] at hf
    refine lv_aload_n hx hb dX5_build_9 rfl (lv_at hl 0 rfl) ?_
    refine va_get (D := D) (ci := 4) (v := .ref (q_this 2)) (C := RX5) (T := TX5) (N := 10) hx hb hUX5 (fun _ h9 => h9) hown hK hP 0 rfl rfl 8 (by decide) (hts (Cond.fieldLink RX5 15 "ReliefBuilder$Panel" "heights" "[I") (List.mem_of_getElem? (i := 1) rfl)) (fun _ h9 => h9) rfl dX5_build_10 ?_
    refine lv_iload_n hx hb dX5_build_13 rfl (lv_at hl 2 rfl) ?_
    refine lv_bipush (v := 16) hx hb dX5_build_14 (by decide) ?_
    refine lv_imul hx hb dX5_build_16 ?_
    refine lv_iload_n hx hb dX5_build_17 rfl (lv_at hl 1 rfl) ?_
    refine lv_iadd hx hb dX5_build_18 ?_
    obtain ⟨hi_4, hf⟩ := os_if hf
    refine va_iald hx hb hK hP 2 0 rfl rfl hi_4 dX5_build_19 ?_
    refine lv_iload_n hx hb dX5_build_20 rfl (lv_at hl 3 rfl) ?_
    refine lv_icmp_ne (tgt := 26) hx hb dX5_build_21 (by decide) (fun hc_5 => ?_) (fun hc_5 => ?_)
    · rw [if_neg hc_5] at hf
      refine lv_aload_n hx hb dX5_build_26 rfl (lv_at hl 0 rfl) ?_
      refine va_get (D := D) (ci := 4) (v := .ref (q_this 2)) (C := RX5) (T := TX5) (N := 10) hx hb hUX5 (fun _ h9 => h9) hown hK hP 0 rfl rfl 8 (by decide) (hts (Cond.fieldLink RX5 15 "ReliefBuilder$Panel" "heights" "[I") (List.mem_of_getElem? (i := 1) rfl)) (fun _ h9 => h9) rfl dX5_build_27 ?_
      refine lv_iload_n hx hb dX5_build_30 rfl (lv_at hl 2 rfl) ?_
      refine lv_bipush (v := 16) hx hb dX5_build_31 (by decide) ?_
      refine lv_imul hx hb dX5_build_33 ?_
      refine lv_iload_n hx hb dX5_build_34 rfl (lv_at hl 1 rfl) ?_
      refine lv_iadd hx hb dX5_build_35 ?_
      refine lv_iload_n hx hb dX5_build_36 rfl (lv_at hl 3 rfl) ?_
      obtain ⟨hi_6, hf⟩ := os_if hf
      refine va_iast hx hb hK hP hD hS 2 0 rfl rfl hi_6 dX5_build_37 (fun H locs hP hD hS => ?_)
      have hP : va_P D vwCl (ce_X5 kA q_this (ss_A o_this 1 (upd (os_A o_this 1) (Int32.toNatClampNeg ((a2 * (16 : Int32)) + a1)) a3))) H := hP
      have hD : va_D A (ce_X5 kA q_this (ss_A o_this 1 (upd (os_A o_this 1) (Int32.toNatClampNeg ((a2 * (16 : Int32)) + a1)) a3))) := hD
      refine lv_iconst (v := 1) hx hb dX5_build_38 (by decide) ?_
      rw [← Option.some.inj hf]
      exact mc_reti hx hb hr hlk hP hK hD hS dX5_build_39
    · rw [if_pos hc_5] at hf
      refine lv_iconst (v := 0) hx hb dX5_build_24 (by decide) ?_
      rw [← Option.some.inj hf]
      exact mc_reti hx hb hr hlk hP hK hD hS dX5_build_25
def ff_X5_distance (N : Nat) (a0 : UInt32) (a1 : UInt32) : Option UInt32 :=
  (if 0 ≤ (Op.cmpValue (FP.fcmp a0 a1) CmpOp.g) then (if os_nn (FP.fsub a0 a1) then some (FP.fsub a0 a1) else none) else (if os_nn (FP.fsub a1 a0) then some (FP.fsub a1 a0) else none))
set_option maxHeartbeats 4000000 in
set_option maxRecDepth 100000 in
theorem mm_X5_distance (l : Launch) (D : va_G) (kA : Nat → ClassId) (N : Nat) (a0 : UInt32) (a1 : UInt32) (out : UInt32) (hf : ff_X5_distance N a0 a1 = some out) : mc_C l D kA yX5_distance wsX5_distance ({ frames := 0, cells := 0, slots := 0, locals := 0 } : Room) [.float a0, .float a1] [] (some (.float out)) [] := by
  refine mc_of (cc := cX5_distance) (maxL := 2) (ret := (some .float)) (by decide) rfl (Nat.le_of_ble_eq_true rfl) ?_
  intro p e s m below meth c A B hD hP hS ls hl
  obtain ⟨hx, hb, hr, hlk, hml, hown, hts, hK, hA, hnm⟩ := B
  have hown : s.vm.findClass RX5 = some m.cls := hown
  have hl : lv_has ls 2 [(0, .float a0), (1, .float a1)] := hl
  unfold ff_X5_distance at hf
  refine lv_fload_n hx hb dX5_distance_0 rfl (lv_at hl 0 rfl) ?_
  refine lv_fload_n hx hb dX5_distance_1 rfl (lv_at hl 1 rfl) ?_
  refine lv_fcmp hx hb dX5_distance_2 ?_
  refine lv_if_ge (tgt := 12) hx hb dX5_distance_3 (by decide) (fun hc_1 => ?_) (fun hc_1 => ?_)
  · rw [if_pos hc_1] at hf
    refine lv_fload_n hx hb dX5_distance_12 rfl (lv_at hl 0 rfl) ?_
    refine lv_fload_n hx hb dX5_distance_13 rfl (lv_at hl 1 rfl) ?_
    obtain ⟨hn_2, hf⟩ := os_if hf
    refine lv_fsub hx hb dX5_distance_14 hn_2 ?_
    rw [← Option.some.inj hf]
    exact mc_retf hx hb hr hlk hP hK hD hS dX5_distance_15
  · rw [if_neg hc_1] at hf
    refine lv_fload_n hx hb dX5_distance_6 rfl (lv_at hl 1 rfl) ?_
    refine lv_fload_n hx hb dX5_distance_7 rfl (lv_at hl 0 rfl) ?_
    obtain ⟨hn_3, hf⟩ := os_if hf
    refine lv_fsub hx hb dX5_distance_8 hn_3 ?_
    refine lv_goto (tgt := 15) hx hb dX5_distance_9 (by decide) ?_
    rw [← Option.some.inj hf]
    exact mc_retf hx hb hr hlk hP hK hD hS dX5_distance_15
def ff_X5_lightOf (N : Nat) (o_this : os_T) (a1 : Int32) : Option UInt32 :=
  (if a1 < 0 then some FP.fconst0 else (if (21 : Int32) ≤ a1 then some FP.fconst0 else (if os_in a1 21 then some ((os_F o_this 0) (Int32.toNatClampNeg a1)) else none)))
set_option maxHeartbeats 4000000 in
set_option maxRecDepth 100000 in
theorem mm_X5_lightOf (l : Launch) (D : va_G) (kA : Nat → ClassId) (N : Nat) (q_this : Nat → Nat) (o_this : os_T) (a1 : Int32) (out : UInt32) (hf : ff_X5_lightOf N o_this a1 = some out) : mc_C l D kA yX5_lightOf wsX5_lightOf ({ frames := 0, cells := 0, slots := 0, locals := 0 } : Room) [.ref (q_this 0), .int a1] (ce_X5 kA q_this o_this) (some (.float out)) (ce_X5 kA q_this o_this) := by
  refine mc_of (cc := cX5_lightOf) (maxL := 2) (ret := (some .float)) (by decide) rfl (Nat.le_of_ble_eq_true rfl) ?_
  intro p e s m below meth c A B hD hP hS ls hl
  obtain ⟨hx, hb, hr, hlk, hml, hown, hts, hK, hA, hnm⟩ := B
  have hown : s.vm.findClass RX5 = some m.cls := hown
  have hl : lv_has ls 2 [(0, .ref (q_this 0)), (1, .int a1)] := hl
  have hUX5 : ∀ w ∈ u_ws RX5 TX5 10, w.before [.ref (q_this 0), .int a1].toArray s = true := fun w h => hts w (List.mem_cons_of_mem _ (List.mem_append_right _ h))
  unfold ff_X5_lightOf at hf
  refine lv_iload_n hx hb dX5_lightOf_0 rfl (lv_at hl 1 rfl) ?_
  refine lv_if_lt (tgt := 22) hx hb dX5_lightOf_1 (by decide) (fun hc_1 => ?_) (fun hc_1 => ?_)
  · rw [if_pos hc_1] at hf
    refine lv_fconst0 hx hb dX5_lightOf_22 ?_
    rw [← Option.some.inj hf]
    exact mc_retf hx hb hr hlk hP hK hD hS dX5_lightOf_23
  · rw [if_neg hc_1] at hf
    refine lv_iload_n hx hb dX5_lightOf_4 rfl (lv_at hl 1 rfl) ?_
    refine lv_aload_n hx hb dX5_lightOf_5 rfl (lv_at hl 0 rfl) ?_
    refine va_get (D := D) (ci := 4) (v := .ref (q_this 3)) (C := RX5) (T := TX5) (N := 10) hx hb hUX5 (fun _ h9 => h9) hown hK hP 0 rfl rfl 9 (by decide) (hts (Cond.fieldLink RX5 18 "ReliefBuilder$Panel" "lights" "[F") (List.mem_of_getElem? (i := 1) rfl)) (fun _ h9 => h9) rfl dX5_lightOf_6 ?_
    refine va_alen (v := 21) hx hb hK hP 3 3 rfl rfl rfl dX5_lightOf_9 ?_
    refine lv_icmp_ge (tgt := 22) hx hb dX5_lightOf_10 (by decide) (fun hc_2 => ?_) (fun hc_2 => ?_)
    · rw [if_pos hc_2] at hf
      refine lv_fconst0 hx hb dX5_lightOf_22 ?_
      rw [← Option.some.inj hf]
      exact mc_retf hx hb hr hlk hP hK hD hS dX5_lightOf_23
    · rw [if_neg hc_2] at hf
      refine lv_aload_n hx hb dX5_lightOf_13 rfl (lv_at hl 0 rfl) ?_
      refine va_get (D := D) (ci := 4) (v := .ref (q_this 3)) (C := RX5) (T := TX5) (N := 10) hx hb hUX5 (fun _ h9 => h9) hown hK hP 0 rfl rfl 9 (by decide) (hts (Cond.fieldLink RX5 18 "ReliefBuilder$Panel" "lights" "[F") (List.mem_of_getElem? (i := 1) rfl)) (fun _ h9 => h9) rfl dX5_lightOf_14 ?_
      refine lv_iload_n hx hb dX5_lightOf_17 rfl (lv_at hl 1 rfl) ?_
      obtain ⟨hi_3, hf⟩ := os_if hf
      refine va_fald hx hb hK hP 3 3 rfl rfl hi_3 dX5_lightOf_18 ?_
      refine lv_goto (tgt := 23) hx hb dX5_lightOf_19 (by decide) ?_
      rw [← Option.some.inj hf]
      exact mc_retf hx hb hr hlk hP hK hD hS dX5_lightOf_23
def ff_X5_stepFor_b60 (N : Nat) (o_this : os_T) (k26 : (UInt32 × Int32 × UInt32 × Int32) → Option Int32) (x1 : UInt32) (x2 : Int32) (x3 : UInt32) (x4 : Int32) : Option Int32 :=
  k26 (x1, x2, x3, x4 + 1)
def ff_X5_stepFor_c26 (N : Nat) (o_this : os_T) (k26 : (UInt32 × Int32 × UInt32 × Int32) → Option Int32) (x1 : UInt32) (x2 : Int32) (x3 : UInt32) (x4 : Int32) : Option Int32 :=
  (if (os_I o_this 2) < x4 then some x2 else ((ff_X5_lightOf N o_this x4).bind fun u_6 => ((ff_X5_distance N u_6 x1).bind fun u_8 => (if 0 ≤ (Op.cmpValue (FP.fcmp u_8 x3) CmpOp.g) then ff_X5_stepFor_b60 N o_this k26 x1 x2 x3 x4 else ff_X5_stepFor_b60 N o_this k26 x1 x4 u_8 x4))))
def ff_X5_stepFor_l26 (N : Nat) (o_this : os_T) : Nat → (UInt32 × Int32 × UInt32 × Int32) → Option Int32 := os_loop (fun k26 s1 => ff_X5_stepFor_c26 N o_this k26 s1.1 s1.2.1 s1.2.2.1 s1.2.2.2)
def ff_X5_stepFor (N : Nat) (o_this : os_T) (a1 : UInt32) : Option Int32 :=
  ((ff_X5_lightOf N o_this (os_I o_this 4)).bind fun u_1 => ((ff_X5_distance N u_1 a1).bind fun u_3 => ff_X5_stepFor_l26 N o_this N (a1, os_I o_this 4, u_3, (os_I o_this 4) + (1 : Int32))))
set_option maxHeartbeats 4000000 in
set_option maxRecDepth 100000 in
theorem mm_X5_stepFor (l : Launch) (D : va_G) (kA : Nat → ClassId) (N : Nat) (q_this : Nat → Nat) (o_this : os_T) (a1 : UInt32) (out : Int32) (hf : ff_X5_stepFor N o_this a1 = some out) : mc_C l D kA yX5_stepFor wsX5_stepFor ({ frames := 1, cells := 0, slots := 0, locals := 21 } : Room) [.ref (q_this 0), .float a1] (ce_X5 kA q_this o_this) (some (.int out)) (ce_X5 kA q_this o_this) := by
  refine mc_of (cc := cX5_stepFor) (maxL := 6) (ret := (some .int)) (by decide) rfl (Nat.le_of_ble_eq_true rfl) ?_
  intro p e s m below meth c A B hD hP hS ls hl
  obtain ⟨hx, hb, hr, hlk, hml, hown, hts, hK, hA, hnm⟩ := B
  have hown : s.vm.findClass RX5 = some m.cls := hown
  have hl : lv_has ls 6 [(0, .ref (q_this 0)), (1, .float a1)] := hl
  have hUX5 : ∀ w ∈ u_ws RX5 TX5 10, w.before [.ref (q_this 0), .float a1].toArray s = true := fun w h => hts w (List.mem_cons_of_mem _ (List.mem_append_right _ h))
  have hB60 : ∀ (k26 : (UInt32 × Int32 × UInt32 × Int32) → Option Int32), (∀ (x1 : UInt32) (x2 : Int32) (x3 : UInt32) (x4 : Int32) (H : Heap) (locs : List Loc) (ls : Array Slot), va_P D vwCl (ce_X5 kA q_this o_this) H → va_D A (ce_X5 kA q_this o_this) → va_S A s.heap H locs → lv_has ls 6 [(0, .ref (q_this 0)), (1, .float x1), (2, .int x2), (3, .float x3), (4, .int x4)] → k26 (x1, x2, x3, x4) = some out → W p l e ({ frames := 1, cells := 0, slots := 0, locals := 21 } : Room) s m [.ref (q_this 0), .float a1].toArray below meth c H locs 0 0 (MQ below (mc_Q D kA A (some (.int out)) (ce_X5 kA q_this o_this)) [.ref (q_this 0), .float a1].toArray s 0 0 A) (F0 m 26 ls [])) → ∀ (x1 : UInt32) (x2 : Int32) (x3 : UInt32) (x4 : Int32) (H : Heap) (locs : List Loc) (ls : Array Slot), va_P D vwCl (ce_X5 kA q_this o_this) H → va_D A (ce_X5 kA q_this o_this) → va_S A s.heap H locs → lv_has ls 6 [(0, .ref (q_this 0)), (1, .float x1), (2, .int x2), (3, .float x3), (4, .int x4)] → ff_X5_stepFor_b60 N o_this k26 x1 x2 x3 x4 = some out → W p l e ({ frames := 1, cells := 0, slots := 0, locals := 21 } : Room) s m [.ref (q_this 0), .float a1].toArray below meth c H locs 0 0 (MQ below (mc_Q D kA A (some (.int out)) (ce_X5 kA q_this o_this)) [.ref (q_this 0), .float a1].toArray s 0 0 A) (F0 m 60 ls []) := by
    intro k26 hk26 x1 x2 x3 x4 H locs ls hP hD hS hl hf
    unfold ff_X5_stepFor_b60 at hf
    refine lv_iinc (v := x4 + 1) (lv' := [(4, .int (x4 + 1)), (0, .ref (q_this 0)), (1, .float x1), (2, .int x2), (3, .float x3)]) hx hb dX5_stepFor_60 hl (k := 4) rfl rfl (by decide) rfl (fun ls hl => ?_)
    refine lv_goto (tgt := 26) hx hb dX5_stepFor_63 (by decide) ?_
    exact hk26 x1 x2 x3 (x4 + 1) _ _ _ hP hD hS (lv_sub hl [1, 2, 3, 4, 0] rfl) hf
  have hL26 : ∀ (n : Nat) (x1 : UInt32) (x2 : Int32) (x3 : UInt32) (x4 : Int32) (H : Heap) (locs : List Loc) (ls : Array Slot), va_P D vwCl (ce_X5 kA q_this o_this) H → va_D A (ce_X5 kA q_this o_this) → va_S A s.heap H locs → lv_has ls 6 [(0, .ref (q_this 0)), (1, .float x1), (2, .int x2), (3, .float x3), (4, .int x4)] → ff_X5_stepFor_l26 N o_this n (x1, x2, x3, x4) = some out → W p l e ({ frames := 1, cells := 0, slots := 0, locals := 21 } : Room) s m [.ref (q_this 0), .float a1].toArray below meth c H locs 0 0 (MQ below (mc_Q D kA A (some (.int out)) (ce_X5 kA q_this o_this)) [.ref (q_this 0), .float a1].toArray s 0 0 A) (F0 m 26 ls []) := by
    intro n
    induction n with
    | zero => intro x1 x2 x3 x4 H locs ls _ _ _ _ hf; cases hf
    | succ n hk26 =>
      intro x1 x2 x3 x4 H locs ls hP hD hS hl hf
      have hf : ff_X5_stepFor_c26 N o_this (ff_X5_stepFor_l26 N o_this n) x1 x2 x3 x4 = some out := hf
      generalize hke : ff_X5_stepFor_l26 N o_this n = k26 at hk26 hf
      unfold ff_X5_stepFor_c26 at hf
      refine lv_iload hx hb dX5_stepFor_26 (lv_at hl 4 rfl) ?_
      refine lv_aload_n hx hb dX5_stepFor_28 rfl (lv_at hl 0 rfl) ?_
      refine va_get (D := D) (ci := 4) (v := .int (os_I o_this 2)) (C := RX5) (T := TX5) (N := 10) hx hb hUX5 (fun _ h9 => h9) hown hK hP 0 rfl rfl 2 (by decide) (hts (Cond.fieldLink RX5 35 "ReliefBuilder$Panel" "greatest" "I") (List.mem_of_getElem? (i := 2) rfl)) (fun _ h9 => h9) rfl dX5_stepFor_29 ?_
      refine lv_icmp_gt (tgt := 66) hx hb dX5_stepFor_32 (by decide) (fun hc_5 => ?_) (fun hc_5 => ?_)
      · rw [if_pos hc_5] at hf
        refine lv_iload_n hx hb dX5_stepFor_66 rfl (lv_at hl 2 rfl) ?_
        rw [← Option.some.inj hf]
        exact mc_reti hx hb hr hlk hP hK hD hS dX5_stepFor_67
      · rw [if_neg hc_5] at hf
        refine lv_aload_n hx hb dX5_stepFor_35 rfl (lv_at hl 0 rfl) ?_
        refine lv_iload hx hb dX5_stepFor_36 (lv_at hl 4 rfl) ?_
        obtain ⟨u_6, he_7, hf⟩ := os_bd hf
        refine mc_callV ⟨hx, hb, hml, hown, hts⟩ (mm_X5_lightOf l D kA N q_this o_this x4 u_6 he_7) (cwV 1 hts gX5_stepFor_X5_lightOf rfl rfl rfl (by decide +kernel) ⟨Nat.le_of_ble_eq_true rfl, Nat.le_of_ble_eq_true rfl⟩) (wc := (ce_X5 kA q_this o_this)) (ci := 4) (q0 := 0) rfl rfl rfl hl.1 (As := [.int x4]) (rest := []) rfl (Nat.le_of_ble_eq_true rfl) dX5_stepFor_38 ⟨Nat.le_of_ble_eq_true rfl, Nat.le_of_ble_eq_true rfl⟩ hK hP hD hS hA [0, 1, 2, 3] [] [0, 1, 2, 3] rfl (by decide) rfl (by decide) (by decide) rfl (by decide) (wr := []) (w2 := (ce_X5 kA q_this o_this)) (fun H locs hP hD hS => ?_)
        have hP : va_P D vwCl (ce_X5 kA q_this o_this) H := hP
        refine lv_fload_n hx hb dX5_stepFor_41 rfl (lv_at hl 1 rfl) ?_
        obtain ⟨u_8, he_9, hf⟩ := os_bd hf
        refine mc_callS ⟨hx, hb, hml, hown, hts⟩ (mm_X5_distance l D kA N u_6 x1 u_8 he_9) (va_cwS 2 hts gX5_stepFor_X5_distance rfl rfl rfl (by decide +kernel) ⟨Nat.le_of_ble_eq_true rfl, Nat.le_of_ble_eq_true rfl⟩) (wc := []) rfl hl.1 (As := [.float u_6, .float x1]) (rest := []) rfl (Nat.le_of_ble_eq_true rfl) dX5_stepFor_42 ⟨Nat.le_of_ble_eq_true rfl, Nat.le_of_ble_eq_true rfl⟩ hK hP hD hS hA [] [0, 1, 2, 3] [0, 1, 2, 3] rfl (by decide) rfl (by decide) (by decide) rfl (by decide) (wr := (ce_X5 kA q_this o_this)) (w2 := (ce_X5 kA q_this o_this)) (fun H locs hP hD hS => ?_)
        have hP : va_P D vwCl (ce_X5 kA q_this o_this) H := hP
        refine lv_fstore (lv' := [(5, .float u_8), (0, .ref (q_this 0)), (1, .float x1), (2, .int x2), (3, .float x3), (4, .int x4)]) hx hb dX5_stepFor_45 hl (by decide) rfl (fun ls hl => ?_)
        refine lv_fload hx hb dX5_stepFor_47 (lv_at hl 0 rfl) ?_
        refine lv_fload_n hx hb dX5_stepFor_49 rfl (lv_at hl 4 rfl) ?_
        refine lv_fcmp hx hb dX5_stepFor_50 ?_
        refine lv_if_ge (tgt := 60) hx hb dX5_stepFor_51 (by decide) (fun hc_10 => ?_) (fun hc_10 => ?_)
        · rw [if_pos hc_10] at hf
          exact hB60 k26 hk26 x1 x2 x3 x4 _ _ _ hP hD hS (lv_sub hl [1, 2, 3, 4, 5] rfl) hf
        · rw [if_neg hc_10] at hf
          refine lv_fload hx hb dX5_stepFor_54 (lv_at hl 0 rfl) ?_
          refine lv_fstore_n (lv' := [(3, .float u_8), (5, .float u_8), (0, .ref (q_this 0)), (1, .float x1), (2, .int x2), (4, .int x4)]) hx hb dX5_stepFor_56 rfl hl (by decide) rfl (fun ls hl => ?_)
          refine lv_iload hx hb dX5_stepFor_57 (lv_at hl 5 rfl) ?_
          refine lv_istore_n (lv' := [(2, .int x4), (3, .float u_8), (5, .float u_8), (0, .ref (q_this 0)), (1, .float x1), (4, .int x4)]) hx hb dX5_stepFor_59 rfl hl (by decide) rfl (fun ls hl => ?_)
          exact hB60 k26 hk26 x1 x4 u_8 x4 _ _ _ hP hD hS (lv_sub hl [3, 4, 0, 1, 5] rfl) hf
  unfold ff_X5_stepFor at hf
  refine lv_aload_n hx hb dX5_stepFor_0 rfl (lv_at hl 0 rfl) ?_
  refine va_get (D := D) (ci := 4) (v := .int (os_I o_this 4)) (C := RX5) (T := TX5) (N := 10) hx hb hUX5 (fun _ h9 => h9) hown hK hP 0 rfl rfl 4 (by decide) (hts (Cond.fieldLink RX5 41 "ReliefBuilder$Panel" "base" "I") (List.mem_of_getElem? (i := 1) rfl)) (fun _ h9 => h9) rfl dX5_stepFor_1 ?_
  refine lv_istore_n (lv' := [(2, .int (os_I o_this 4)), (0, .ref (q_this 0)), (1, .float a1)]) hx hb dX5_stepFor_4 rfl hl (by decide) rfl (fun ls hl => ?_)
  refine lv_aload_n hx hb dX5_stepFor_5 rfl (lv_at hl 1 rfl) ?_
  refine lv_aload_n hx hb dX5_stepFor_6 rfl (lv_at hl 1 rfl) ?_
  refine va_get (D := D) (ci := 4) (v := .int (os_I o_this 4)) (C := RX5) (T := TX5) (N := 10) hx hb hUX5 (fun _ h9 => h9) hown hK hP 0 rfl rfl 4 (by decide) (hts (Cond.fieldLink RX5 41 "ReliefBuilder$Panel" "base" "I") (List.mem_of_getElem? (i := 1) rfl)) (fun _ h9 => h9) rfl dX5_stepFor_7 ?_
  obtain ⟨u_1, he_2, hf⟩ := os_bd hf
  refine mc_callV ⟨hx, hb, hml, hown, hts⟩ (mm_X5_lightOf l D kA N q_this o_this (os_I o_this 4) u_1 he_2) (cwV 1 hts gX5_stepFor_X5_lightOf rfl rfl rfl (by decide +kernel) ⟨Nat.le_of_ble_eq_true rfl, Nat.le_of_ble_eq_true rfl⟩) (wc := (ce_X5 kA q_this o_this)) (ci := 4) (q0 := 0) rfl rfl rfl hl.1 (As := [.int (os_I o_this 4)]) (rest := []) rfl (Nat.le_of_ble_eq_true rfl) dX5_stepFor_10 ⟨Nat.le_of_ble_eq_true rfl, Nat.le_of_ble_eq_true rfl⟩ hK hP hD hS hA [0, 1, 2, 3] [] [0, 1, 2, 3] rfl (by decide) rfl (by decide) (by decide) rfl (by decide) (wr := []) (w2 := (ce_X5 kA q_this o_this)) (fun H locs hP hD hS => ?_)
  have hP : va_P D vwCl (ce_X5 kA q_this o_this) H := hP
  refine lv_fload_n hx hb dX5_stepFor_13 rfl (lv_at hl 2 rfl) ?_
  obtain ⟨u_3, he_4, hf⟩ := os_bd hf
  refine mc_callS ⟨hx, hb, hml, hown, hts⟩ (mm_X5_distance l D kA N u_1 a1 u_3 he_4) (va_cwS 2 hts gX5_stepFor_X5_distance rfl rfl rfl (by decide +kernel) ⟨Nat.le_of_ble_eq_true rfl, Nat.le_of_ble_eq_true rfl⟩) (wc := []) rfl hl.1 (As := [.float u_1, .float a1]) (rest := []) rfl (Nat.le_of_ble_eq_true rfl) dX5_stepFor_14 ⟨Nat.le_of_ble_eq_true rfl, Nat.le_of_ble_eq_true rfl⟩ hK hP hD hS hA [] [0, 1, 2, 3] [0, 1, 2, 3] rfl (by decide) rfl (by decide) (by decide) rfl (by decide) (wr := (ce_X5 kA q_this o_this)) (w2 := (ce_X5 kA q_this o_this)) (fun H locs hP hD hS => ?_)
  have hP : va_P D vwCl (ce_X5 kA q_this o_this) H := hP
  refine lv_fstore_n (lv' := [(3, .float u_3), (2, .int (os_I o_this 4)), (0, .ref (q_this 0)), (1, .float a1)]) hx hb dX5_stepFor_17 rfl hl (by decide) rfl (fun ls hl => ?_)
  refine lv_aload_n hx hb dX5_stepFor_18 rfl (lv_at hl 2 rfl) ?_
  refine va_get (D := D) (ci := 4) (v := .int (os_I o_this 4)) (C := RX5) (T := TX5) (N := 10) hx hb hUX5 (fun _ h9 => h9) hown hK hP 0 rfl rfl 4 (by decide) (hts (Cond.fieldLink RX5 41 "ReliefBuilder$Panel" "base" "I") (List.mem_of_getElem? (i := 1) rfl)) (fun _ h9 => h9) rfl dX5_stepFor_19 ?_
  refine lv_iconst (v := 1) hx hb dX5_stepFor_22 (by decide) ?_
  refine lv_iadd hx hb dX5_stepFor_23 ?_
  refine lv_istore (lv' := [(4, .int ((os_I o_this 4) + (1 : Int32))), (3, .float u_3), (2, .int (os_I o_this 4)), (0, .ref (q_this 0)), (1, .float a1)]) hx hb dX5_stepFor_24 hl (by decide) rfl (fun ls hl => ?_)
  exact hL26 N a1 (os_I o_this 4) u_3 ((os_I o_this 4) + (1 : Int32)) _ _ _ hP hD hS (lv_sub hl [3, 4, 2, 1, 0] rfl) hf
def ff_X5_toneAt_b38 (N : Nat) (o_this : os_T) : Option Int32 :=
  some (255 : Int32)
def ff_X5_toneAt (N : Nat) (o_this : os_T) (a1 : Int32) (a2 : Int32) : Option Int32 :=
  (if a1 < 0 then ff_X5_toneAt_b38 N o_this else (if (os_I o_this 0) ≤ a1 then ff_X5_toneAt_b38 N o_this else (if a2 < 0 then ff_X5_toneAt_b38 N o_this else (if (os_I o_this 1) ≤ a2 then ff_X5_toneAt_b38 N o_this else (if os_in ((a2 * (16 : Int32)) + a1) 192 then some ((os_A o_this 0) (Int32.toNatClampNeg ((a2 * (16 : Int32)) + a1))) else none)))))
set_option maxHeartbeats 4000000 in
set_option maxRecDepth 100000 in
theorem mm_X5_toneAt (l : Launch) (D : va_G) (kA : Nat → ClassId) (N : Nat) (q_this : Nat → Nat) (o_this : os_T) (a1 : Int32) (a2 : Int32) (out : Int32) (hf : ff_X5_toneAt N o_this a1 a2 = some out) : mc_C l D kA yX5_toneAt wsX5_toneAt ({ frames := 0, cells := 0, slots := 0, locals := 0 } : Room) [.ref (q_this 0), .int a1, .int a2] (ce_X5 kA q_this o_this) (some (.int out)) (ce_X5 kA q_this o_this) := by
  refine mc_of (cc := cX5_toneAt) (maxL := 3) (ret := (some .int)) (by decide) rfl (Nat.le_of_ble_eq_true rfl) ?_
  intro p e s m below meth c A B hD hP hS ls hl
  obtain ⟨hx, hb, hr, hlk, hml, hown, hts, hK, hA, hnm⟩ := B
  have hown : s.vm.findClass RX5 = some m.cls := hown
  have hl : lv_has ls 3 [(0, .ref (q_this 0)), (1, .int a1), (2, .int a2)] := hl
  have hUX5 : ∀ w ∈ u_ws RX5 TX5 10, w.before [.ref (q_this 0), .int a1, .int a2].toArray s = true := fun w h => hts w (List.mem_cons_of_mem _ (List.mem_append_right _ h))
  have hB38 : ∀ (H : Heap) (locs : List Loc) (ls : Array Slot), va_P D vwCl (ce_X5 kA q_this o_this) H → va_D A (ce_X5 kA q_this o_this) → va_S A s.heap H locs → lv_has ls 3 [] → ff_X5_toneAt_b38 N o_this = some out → W p l e ({ frames := 0, cells := 0, slots := 0, locals := 0 } : Room) s m [.ref (q_this 0), .int a1, .int a2].toArray below meth c H locs 0 0 (MQ below (mc_Q D kA A (some (.int out)) (ce_X5 kA q_this o_this)) [.ref (q_this 0), .int a1, .int a2].toArray s 0 0 A) (F0 m 38 ls []) := by
    intro H locs ls hP hD hS hl hf
    unfold ff_X5_toneAt_b38 at hf
    refine lv_sipush (v := 255) hx hb dX5_toneAt_38 (by decide) ?_
    rw [← Option.some.inj hf]
    exact mc_reti hx hb hr hlk hP hK hD hS dX5_toneAt_41
  unfold ff_X5_toneAt at hf
  refine lv_iload_n hx hb dX5_toneAt_0 rfl (lv_at hl 1 rfl) ?_
  refine lv_if_lt (tgt := 38) hx hb dX5_toneAt_1 (by decide) (fun hc_1 => ?_) (fun hc_1 => ?_)
  · rw [if_pos hc_1] at hf
    exact hB38 _ _ _ hP hD hS (lv_sub hl [] rfl) hf
  · rw [if_neg hc_1] at hf
    refine lv_iload_n hx hb dX5_toneAt_4 rfl (lv_at hl 1 rfl) ?_
    refine lv_aload_n hx hb dX5_toneAt_5 rfl (lv_at hl 0 rfl) ?_
    refine va_get (D := D) (ci := 4) (v := .int (os_I o_this 0)) (C := RX5) (T := TX5) (N := 10) hx hb hUX5 (fun _ h9 => h9) hown hK hP 0 rfl rfl 0 (by decide) (hts (Cond.fieldLink RX5 28 "ReliefBuilder$Panel" "width" "I") (List.mem_of_getElem? (i := 1) rfl)) (fun _ h9 => h9) rfl dX5_toneAt_6 ?_
    refine lv_icmp_ge (tgt := 38) hx hb dX5_toneAt_9 (by decide) (fun hc_2 => ?_) (fun hc_2 => ?_)
    · rw [if_pos hc_2] at hf
      exact hB38 _ _ _ hP hD hS (lv_sub hl [] rfl) hf
    · rw [if_neg hc_2] at hf
      refine lv_iload_n hx hb dX5_toneAt_12 rfl (lv_at hl 2 rfl) ?_
      refine lv_if_lt (tgt := 38) hx hb dX5_toneAt_13 (by decide) (fun hc_3 => ?_) (fun hc_3 => ?_)
      · rw [if_pos hc_3] at hf
        exact hB38 _ _ _ hP hD hS (lv_sub hl [] rfl) hf
      · rw [if_neg hc_3] at hf
        refine lv_iload_n hx hb dX5_toneAt_16 rfl (lv_at hl 2 rfl) ?_
        refine lv_aload_n hx hb dX5_toneAt_17 rfl (lv_at hl 0 rfl) ?_
        refine va_get (D := D) (ci := 4) (v := .int (os_I o_this 1)) (C := RX5) (T := TX5) (N := 10) hx hb hUX5 (fun _ h9 => h9) hown hK hP 0 rfl rfl 1 (by decide) (hts (Cond.fieldLink RX5 32 "ReliefBuilder$Panel" "rows" "I") (List.mem_of_getElem? (i := 2) rfl)) (fun _ h9 => h9) rfl dX5_toneAt_18 ?_
        refine lv_icmp_ge (tgt := 38) hx hb dX5_toneAt_21 (by decide) (fun hc_4 => ?_) (fun hc_4 => ?_)
        · rw [if_pos hc_4] at hf
          exact hB38 _ _ _ hP hD hS (lv_sub hl [] rfl) hf
        · rw [if_neg hc_4] at hf
          refine lv_aload_n hx hb dX5_toneAt_24 rfl (lv_at hl 0 rfl) ?_
          refine va_get (D := D) (ci := 4) (v := .ref (q_this 1)) (C := RX5) (T := TX5) (N := 10) hx hb hUX5 (fun _ h9 => h9) hown hK hP 0 rfl rfl 7 (by decide) (hts (Cond.fieldLink RX5 9 "ReliefBuilder$Panel" "tones" "[I") (List.mem_of_getElem? (i := 3) rfl)) (fun _ h9 => h9) rfl dX5_toneAt_25 ?_
          refine lv_iload_n hx hb dX5_toneAt_28 rfl (lv_at hl 2 rfl) ?_
          refine lv_bipush (v := 16) hx hb dX5_toneAt_29 (by decide) ?_
          refine lv_imul hx hb dX5_toneAt_31 ?_
          refine lv_iload_n hx hb dX5_toneAt_32 rfl (lv_at hl 1 rfl) ?_
          refine lv_iadd hx hb dX5_toneAt_33 ?_
          obtain ⟨hi_5, hf⟩ := os_if hf
          refine va_iald hx hb hK hP 1 0 rfl rfl hi_5 dX5_toneAt_34 ?_
          refine lv_goto (tgt := 41) hx hb dX5_toneAt_35 (by decide) ?_
          rw [← Option.some.inj hf]
          exact mc_reti hx hb hr hlk hP hK hD hS dX5_toneAt_41
def ff_X5_wish (N : Nat) (a0 : Int32) : Option UInt32 :=
  (if os_nn (FP.fdiv (FP.i2f a0) (1132396544 : UInt32)) then some (FP.fdiv (FP.i2f a0) (1132396544 : UInt32)) else none)
set_option maxHeartbeats 4000000 in
set_option maxRecDepth 100000 in
theorem mm_X5_wish (l : Launch) (D : va_G) (kA : Nat → ClassId) (N : Nat) (a0 : Int32) (out : UInt32) (hf : ff_X5_wish N a0 = some out) : mc_C l D kA yX5_wish wsX5_wish ({ frames := 0, cells := 0, slots := 0, locals := 0 } : Room) [.int a0] [] (some (.float out)) [] := by
  refine mc_of (cc := cX5_wish) (maxL := 1) (ret := (some .float)) (by decide) rfl (Nat.le_of_ble_eq_true rfl) ?_
  intro p e s m below meth c A B hD hP hS ls hl
  obtain ⟨hx, hb, hr, hlk, hml, hown, hts, hK, hA, hnm⟩ := B
  have hown : s.vm.findClass RX5 = some m.cls := hown
  have hl : lv_has ls 1 [(0, .int a0)] := hl
  unfold ff_X5_wish at hf
  refine lv_iload_n hx hb dX5_wish_0 rfl (lv_at hl 0 rfl) ?_
  refine lv_i2f hx hb dX5_wish_1 ?_
  refine lv_ldcf hx hb hown (hts (Cond.constantFloat RX5 75 (1132396544)) (List.mem_of_getElem? (i := 1) rfl)) dX5_wish_2 ?_
  obtain ⟨hn_1, hf⟩ := os_if hf
  refine lv_fdiv hx hb dX5_wish_4 hn_1 ?_
  rw [← Option.some.inj hf]
  exact mc_retf hx hb hr hlk hP hK hD hS dX5_wish_5
def ff_X5_wishAt (N : Nat) (o_this : os_T) (a1 : Int32) (a2 : Int32) : Option UInt32 :=
  ((ff_X5_toneAt N o_this a1 a2).bind fun u_1 => ((ff_X5_wish N u_1).bind fun u_3 => some u_3))
set_option maxHeartbeats 4000000 in
set_option maxRecDepth 100000 in
theorem mm_X5_wishAt (l : Launch) (D : va_G) (kA : Nat → ClassId) (N : Nat) (q_this : Nat → Nat) (o_this : os_T) (a1 : Int32) (a2 : Int32) (out : UInt32) (hf : ff_X5_wishAt N o_this a1 a2 = some out) : mc_C l D kA yX5_wishAt wsX5_wishAt ({ frames := 1, cells := 0, slots := 0, locals := 22 } : Room) [.ref (q_this 0), .int a1, .int a2] (ce_X5 kA q_this o_this) (some (.float out)) (ce_X5 kA q_this o_this) := by
  refine mc_of (cc := cX5_wishAt) (maxL := 3) (ret := (some .float)) (by decide) rfl (Nat.le_of_ble_eq_true rfl) ?_
  intro p e s m below meth c A B hD hP hS ls hl
  obtain ⟨hx, hb, hr, hlk, hml, hown, hts, hK, hA, hnm⟩ := B
  have hown : s.vm.findClass RX5 = some m.cls := hown
  have hl : lv_has ls 3 [(0, .ref (q_this 0)), (1, .int a1), (2, .int a2)] := hl
  unfold ff_X5_wishAt at hf
  refine lv_aload_n hx hb dX5_wishAt_0 rfl (lv_at hl 0 rfl) ?_
  refine lv_iload_n hx hb dX5_wishAt_1 rfl (lv_at hl 1 rfl) ?_
  refine lv_iload_n hx hb dX5_wishAt_2 rfl (lv_at hl 2 rfl) ?_
  obtain ⟨u_1, he_2, hf⟩ := os_bd hf
  refine mc_callV ⟨hx, hb, hml, hown, hts⟩ (mm_X5_toneAt l D kA N q_this o_this a1 a2 u_1 he_2) (cwV 2 hts gX5_wishAt_X5_toneAt rfl rfl rfl (by decide +kernel) ⟨Nat.le_of_ble_eq_true rfl, Nat.le_of_ble_eq_true rfl⟩) (wc := (ce_X5 kA q_this o_this)) (ci := 4) (q0 := 0) rfl rfl rfl hl.1 (As := [.int a1, .int a2]) (rest := []) rfl (Nat.le_of_ble_eq_true rfl) dX5_wishAt_3 ⟨Nat.le_of_ble_eq_true rfl, Nat.le_of_ble_eq_true rfl⟩ hK hP hD hS hA [0, 1, 2, 3] [] [0, 1, 2, 3] rfl (by decide) rfl (by decide) (by decide) rfl (by decide) (wr := []) (w2 := (ce_X5 kA q_this o_this)) (fun H locs hP hD hS => ?_)
  have hP : va_P D vwCl (ce_X5 kA q_this o_this) H := hP
  obtain ⟨u_3, he_4, hf⟩ := os_bd hf
  refine mc_callS ⟨hx, hb, hml, hown, hts⟩ (mm_X5_wish l D kA N u_1 u_3 he_4) (va_cwS 1 hts gX5_wishAt_X5_wish rfl rfl rfl (by decide +kernel) ⟨Nat.le_of_ble_eq_true rfl, Nat.le_of_ble_eq_true rfl⟩) (wc := []) rfl hl.1 (As := [.int u_1]) (rest := []) rfl (Nat.le_of_ble_eq_true rfl) dX5_wishAt_6 ⟨Nat.le_of_ble_eq_true rfl, Nat.le_of_ble_eq_true rfl⟩ hK hP hD hS hA [] [0, 1, 2, 3] [0, 1, 2, 3] rfl (by decide) rfl (by decide) (by decide) rfl (by decide) (wr := (ce_X5 kA q_this o_this)) (w2 := (ce_X5 kA q_this o_this)) (fun H locs hP hD hS => ?_)
  have hP : va_P D vwCl (ce_X5 kA q_this o_this) H := hP
  rw [← Option.some.inj hf]
  exact mc_retf hx hb hr hlk hP hK hD hS dX5_wishAt_9
def ff_X5_followTones_c14 (N : Nat) (k4 : (os_T × Int32 × Int32) → Option (Int32 × os_T)) (k14 : (os_T × Int32 × Int32 × Int32) → Option (Int32 × os_T)) (o_this : os_T) (x1 : Int32) (x2 : Int32) (x3 : Int32) : Option (Int32 × os_T) :=
  (if (os_I o_this 0) ≤ x3 then k4 (o_this, x1, x2 + 1) else ((ff_X5_wishAt N o_this x3 x2).bind fun u_3 => ((ff_X5_stepFor N o_this u_3).bind fun u_5 => ((ff_X5_build N o_this x3 x2 u_5).bind fun u_7 => k14 (u_7.2, x1 + u_7.1, x2, x3 + 1)))))
def ff_X5_followTones_l14 (N : Nat) (k4 : (os_T × Int32 × Int32) → Option (Int32 × os_T)) : Nat → (os_T × Int32 × Int32 × Int32) → Option (Int32 × os_T) := os_loop (fun k14 s1 => ff_X5_followTones_c14 N k4 k14 s1.1 s1.2.1 s1.2.2.1 s1.2.2.2)
def ff_X5_followTones_c4 (N : Nat) (k4 : (os_T × Int32 × Int32) → Option (Int32 × os_T)) (o_this : os_T) (x1 : Int32) (x2 : Int32) : Option (Int32 × os_T) :=
  (if (os_I o_this 1) ≤ x2 then some (x1, o_this) else ff_X5_followTones_l14 N k4 N (o_this, x1, x2, (0 : Int32)))
def ff_X5_followTones_l4 (N : Nat) : Nat → (os_T × Int32 × Int32) → Option (Int32 × os_T) := os_loop (fun k4 s1 => ff_X5_followTones_c4 N k4 s1.1 s1.2.1 s1.2.2)
def ff_X5_followTones (N : Nat) (o_this : os_T) : Option (Int32 × os_T) :=
  ff_X5_followTones_l4 N N (o_this, (0 : Int32), (0 : Int32))
set_option maxHeartbeats 4000000 in
set_option maxRecDepth 100000 in
theorem mm_X5_followTones (l : Launch) (D : va_G) (kA : Nat → ClassId) (N : Nat) (q_this : Nat → Nat) (o_this : os_T) (out : (Int32 × os_T)) (hf : ff_X5_followTones N o_this = some out) : mc_C l D kA yX5_followTones wsX5_followTones ({ frames := 2, cells := 0, slots := 0, locals := 46 } : Room) [.ref (q_this 0)] (ce_X5 kA q_this o_this) (some (.int out.1)) (ce_X5 kA q_this out.2) := by
  refine mc_of (cc := cX5_followTones) (maxL := 4) (ret := (some .int)) (by decide) rfl (Nat.le_of_ble_eq_true rfl) ?_
  intro p e s m below meth c A B hD hP hS ls hl
  obtain ⟨hx, hb, hr, hlk, hml, hown, hts, hK, hA, hnm⟩ := B
  have hown : s.vm.findClass RX5 = some m.cls := hown
  have hl : lv_has ls 4 [(0, .ref (q_this 0))] := hl
  have hUX5 : ∀ w ∈ u_ws RX5 TX5 10, w.before [.ref (q_this 0)].toArray s = true := fun w h => hts w (List.mem_cons_of_mem _ (List.mem_append_right _ h))
  have hL14 : ∀ (k4 : (os_T × Int32 × Int32) → Option (Int32 × os_T)), (∀ (o_this : os_T) (x1 : Int32) (x2 : Int32) (H : Heap) (locs : List Loc) (ls : Array Slot), va_P D vwCl (ce_X5 kA q_this o_this) H → va_D A (ce_X5 kA q_this o_this) → va_S A s.heap H locs → lv_has ls 4 [(0, .ref (q_this 0)), (1, .int x1), (2, .int x2)] → k4 (o_this, x1, x2) = some out → W p l e ({ frames := 2, cells := 0, slots := 0, locals := 46 } : Room) s m [.ref (q_this 0)].toArray below meth c H locs 0 0 (MQ below (mc_Q D kA A (some (.int out.1)) (ce_X5 kA q_this out.2)) [.ref (q_this 0)].toArray s 0 0 A) (F0 m 4 ls [])) → ∀ (n : Nat) (o_this : os_T) (x1 : Int32) (x2 : Int32) (x3 : Int32) (H : Heap) (locs : List Loc) (ls : Array Slot), va_P D vwCl (ce_X5 kA q_this o_this) H → va_D A (ce_X5 kA q_this o_this) → va_S A s.heap H locs → lv_has ls 4 [(0, .ref (q_this 0)), (1, .int x1), (2, .int x2), (3, .int x3)] → ff_X5_followTones_l14 N k4 n (o_this, x1, x2, x3) = some out → W p l e ({ frames := 2, cells := 0, slots := 0, locals := 46 } : Room) s m [.ref (q_this 0)].toArray below meth c H locs 0 0 (MQ below (mc_Q D kA A (some (.int out.1)) (ce_X5 kA q_this out.2)) [.ref (q_this 0)].toArray s 0 0 A) (F0 m 14 ls []) := by
    intro k4 hk4 n
    induction n with
    | zero => intro o_this x1 x2 x3 H locs ls _ _ _ _ hf; cases hf
    | succ n hk14 =>
      intro o_this x1 x2 x3 H locs ls hP hD hS hl hf
      have hf : ff_X5_followTones_c14 N k4 (ff_X5_followTones_l14 N k4 n) o_this x1 x2 x3 = some out := hf
      generalize hke : ff_X5_followTones_l14 N k4 n = k14 at hk14 hf
      unfold ff_X5_followTones_c14 at hf
      refine lv_iload_n hx hb dX5_followTones_14 rfl (lv_at hl 3 rfl) ?_
      refine lv_aload_n hx hb dX5_followTones_15 rfl (lv_at hl 0 rfl) ?_
      refine va_get (D := D) (ci := 4) (v := .int (os_I o_this 0)) (C := RX5) (T := TX5) (N := 10) hx hb hUX5 (fun _ h9 => h9) hown hK hP 0 rfl rfl 0 (by decide) (hts (Cond.fieldLink RX5 28 "ReliefBuilder$Panel" "width" "I") (List.mem_of_getElem? (i := 2) rfl)) (fun _ h9 => h9) rfl dX5_followTones_16 ?_
      refine lv_icmp_ge (tgt := 47) hx hb dX5_followTones_19 (by decide) (fun hc_2 => ?_) (fun hc_2 => ?_)
      · rw [if_pos hc_2] at hf
        refine lv_iinc (v := x2 + 1) (lv' := [(2, .int (x2 + 1)), (0, .ref (q_this 0)), (1, .int x1), (3, .int x3)]) hx hb dX5_followTones_47 hl (k := 2) rfl rfl (by decide) rfl (fun ls hl => ?_)
        refine lv_goto (tgt := 4) hx hb dX5_followTones_50 (by decide) ?_
        exact hk4 o_this x1 (x2 + 1) _ _ _ hP hD hS (lv_sub hl [1, 2, 0] rfl) hf
      · rw [if_neg hc_2] at hf
        refine lv_iload_n hx hb dX5_followTones_22 rfl (lv_at hl 1 rfl) ?_
        refine lv_aload_n hx hb dX5_followTones_23 rfl (lv_at hl 0 rfl) ?_
        refine lv_iload_n hx hb dX5_followTones_24 rfl (lv_at hl 3 rfl) ?_
        refine lv_iload_n hx hb dX5_followTones_25 rfl (lv_at hl 2 rfl) ?_
        refine lv_aload_n hx hb dX5_followTones_26 rfl (lv_at hl 0 rfl) ?_
        refine lv_aload_n hx hb dX5_followTones_27 rfl (lv_at hl 0 rfl) ?_
        refine lv_iload_n hx hb dX5_followTones_28 rfl (lv_at hl 3 rfl) ?_
        refine lv_iload_n hx hb dX5_followTones_29 rfl (lv_at hl 2 rfl) ?_
        obtain ⟨u_3, he_4, hf⟩ := os_bd hf
        refine mc_callV ⟨hx, hb, hml, hown, hts⟩ (mm_X5_wishAt l D kA N q_this o_this x3 x2 u_3 he_4) (cwV 2 hts gX5_followTones_X5_wishAt rfl rfl rfl (by decide +kernel) ⟨Nat.le_of_ble_eq_true rfl, Nat.le_of_ble_eq_true rfl⟩) (wc := (ce_X5 kA q_this o_this)) (ci := 4) (q0 := 0) rfl rfl rfl hl.1 (As := [.int x3, .int x2]) (rest := [.ref (q_this 0), .int x2, .int x3, .ref (q_this 0), .int x1]) rfl (Nat.le_of_ble_eq_true rfl) dX5_followTones_30 ⟨Nat.le_of_ble_eq_true rfl, Nat.le_of_ble_eq_true rfl⟩ hK hP hD hS hA [0, 1, 2, 3] [] [0, 1, 2, 3] rfl (by decide) rfl (by decide) (by decide) rfl (by decide) (wr := []) (w2 := (ce_X5 kA q_this o_this)) (fun H locs hP hD hS => ?_)
        have hP : va_P D vwCl (ce_X5 kA q_this o_this) H := hP
        obtain ⟨u_5, he_6, hf⟩ := os_bd hf
        refine mc_callV ⟨hx, hb, hml, hown, hts⟩ (mm_X5_stepFor l D kA N q_this o_this u_3 u_5 he_6) (cwV 1 hts gX5_followTones_X5_stepFor rfl rfl rfl (by decide +kernel) ⟨Nat.le_of_ble_eq_true rfl, Nat.le_of_ble_eq_true rfl⟩) (wc := (ce_X5 kA q_this o_this)) (ci := 4) (q0 := 0) rfl rfl rfl hl.1 (As := [.float u_3]) (rest := [.int x2, .int x3, .ref (q_this 0), .int x1]) rfl (Nat.le_of_ble_eq_true rfl) dX5_followTones_33 ⟨Nat.le_of_ble_eq_true rfl, Nat.le_of_ble_eq_true rfl⟩ hK hP hD hS hA [0, 1, 2, 3] [] [0, 1, 2, 3] rfl (by decide) rfl (by decide) (by decide) rfl (by decide) (wr := []) (w2 := (ce_X5 kA q_this o_this)) (fun H locs hP hD hS => ?_)
        have hP : va_P D vwCl (ce_X5 kA q_this o_this) H := hP
        obtain ⟨u_7, he_8, hf⟩ := os_bd hf
        refine mc_callV ⟨hx, hb, hml, hown, hts⟩ (mm_X5_build l D kA N q_this o_this x3 x2 u_5 u_7 he_8) (cwV 3 hts gX5_followTones_X5_build rfl rfl rfl (by decide +kernel) ⟨Nat.le_of_ble_eq_true rfl, Nat.le_of_ble_eq_true rfl⟩) (wc := (ce_X5 kA q_this o_this)) (ci := 4) (q0 := 0) rfl rfl rfl hl.1 (As := [.int x3, .int x2, .int u_5]) (rest := [.int x1]) rfl (Nat.le_of_ble_eq_true rfl) dX5_followTones_36 ⟨Nat.le_of_ble_eq_true rfl, Nat.le_of_ble_eq_true rfl⟩ hK hP hD hS hA [0, 1, 2, 3] [] [0, 1, 2, 3] rfl (by decide) rfl (by decide) (by decide) rfl (by decide) (wr := []) (w2 := (ce_X5 kA q_this u_7.2)) (fun H locs hP hD hS => ?_)
        have hP : va_P D vwCl (ce_X5 kA q_this u_7.2) H := hP
        refine lv_iadd hx hb dX5_followTones_39 ?_
        refine lv_istore_n (lv' := [(1, .int (x1 + u_7.1)), (0, .ref (q_this 0)), (2, .int x2), (3, .int x3)]) hx hb dX5_followTones_40 rfl hl (by decide) rfl (fun ls hl => ?_)
        refine lv_iinc (v := x3 + 1) (lv' := [(3, .int (x3 + 1)), (1, .int (x1 + u_7.1)), (0, .ref (q_this 0)), (2, .int x2)]) hx hb dX5_followTones_41 hl (k := 3) rfl rfl (by decide) rfl (fun ls hl => ?_)
        refine lv_goto (tgt := 14) hx hb dX5_followTones_44 (by decide) ?_
        exact hk14 u_7.2 (x1 + u_7.1) x2 (x3 + 1) _ _ _ hP hD hS (lv_sub hl [2, 1, 3, 0] rfl) hf
  have hL4 : ∀ (n : Nat) (o_this : os_T) (x1 : Int32) (x2 : Int32) (H : Heap) (locs : List Loc) (ls : Array Slot), va_P D vwCl (ce_X5 kA q_this o_this) H → va_D A (ce_X5 kA q_this o_this) → va_S A s.heap H locs → lv_has ls 4 [(0, .ref (q_this 0)), (1, .int x1), (2, .int x2)] → ff_X5_followTones_l4 N n (o_this, x1, x2) = some out → W p l e ({ frames := 2, cells := 0, slots := 0, locals := 46 } : Room) s m [.ref (q_this 0)].toArray below meth c H locs 0 0 (MQ below (mc_Q D kA A (some (.int out.1)) (ce_X5 kA q_this out.2)) [.ref (q_this 0)].toArray s 0 0 A) (F0 m 4 ls []) := by
    intro n
    induction n with
    | zero => intro o_this x1 x2 H locs ls _ _ _ _ hf; cases hf
    | succ n hk4 =>
      intro o_this x1 x2 H locs ls hP hD hS hl hf
      have hf : ff_X5_followTones_c4 N (ff_X5_followTones_l4 N n) o_this x1 x2 = some out := hf
      generalize hke : ff_X5_followTones_l4 N n = k4 at hk4 hf
      unfold ff_X5_followTones_c4 at hf
      refine lv_iload_n hx hb dX5_followTones_4 rfl (lv_at hl 2 rfl) ?_
      refine lv_aload_n hx hb dX5_followTones_5 rfl (lv_at hl 0 rfl) ?_
      refine va_get (D := D) (ci := 4) (v := .int (os_I o_this 1)) (C := RX5) (T := TX5) (N := 10) hx hb hUX5 (fun _ h9 => h9) hown hK hP 0 rfl rfl 1 (by decide) (hts (Cond.fieldLink RX5 32 "ReliefBuilder$Panel" "rows" "I") (List.mem_of_getElem? (i := 1) rfl)) (fun _ h9 => h9) rfl dX5_followTones_6 ?_
      refine lv_icmp_ge (tgt := 53) hx hb dX5_followTones_9 (by decide) (fun hc_1 => ?_) (fun hc_1 => ?_)
      · rw [if_pos hc_1] at hf
        refine lv_iload_n hx hb dX5_followTones_53 rfl (lv_at hl 1 rfl) ?_
        rw [← Option.some.inj hf]
        exact mc_reti hx hb hr hlk hP hK hD hS dX5_followTones_54
      · rw [if_neg hc_1] at hf
        refine lv_iconst (v := 0) hx hb dX5_followTones_12 (by decide) ?_
        refine lv_istore_n (lv' := [(3, .int (0 : Int32)), (0, .ref (q_this 0)), (1, .int x1), (2, .int x2)]) hx hb dX5_followTones_13 rfl hl (by decide) rfl (fun ls hl => ?_)
        exact hL14 k4 hk4 N o_this x1 x2 (0 : Int32) _ _ _ hP hD hS (lv_sub hl [1, 2, 3, 0] rfl) hf
  unfold ff_X5_followTones at hf
  refine lv_iconst (v := 0) hx hb dX5_followTones_0 (by decide) ?_
  refine lv_istore_n (lv' := [(1, .int (0 : Int32)), (0, .ref (q_this 0))]) hx hb dX5_followTones_1 rfl hl (by decide) rfl (fun ls hl => ?_)
  refine lv_iconst (v := 0) hx hb dX5_followTones_2 (by decide) ?_
  refine lv_istore_n (lv' := [(2, .int (0 : Int32)), (1, .int (0 : Int32)), (0, .ref (q_this 0))]) hx hb dX5_followTones_3 rfl hl (by decide) rfl (fun ls hl => ?_)
  exact hL4 N o_this (0 : Int32) (0 : Int32) _ _ _ hP hD hS (lv_sub hl [2, 1, 0] rfl) hf
def ff_X5_develop_c13 (N : Nat) (k13 : (os_T × UInt32 × UInt32 × Int32) → Option os_T) (o_this : os_T) (x1 : UInt32) (x2 : UInt32) (x3 : Int32) : Option os_T :=
  (if (21 : Int32) ≤ x3 then ((ff_X5_followTones N o_this).bind fun u_3 => some u_3.2) else (if os_in x3 21 then (if os_nn (FP.fmul x2 x1) then k13 (ss_F o_this 0 (vf_upd (os_F o_this 0) (Int32.toNatClampNeg x3) x2), x1, FP.fmul x2 x1, x3 + 1) else none) else none))
def ff_X5_develop_l13 (N : Nat) : Nat → (os_T × UInt32 × UInt32 × Int32) → Option os_T := os_loop (fun k13 s1 => ff_X5_develop_c13 N k13 s1.1 s1.2.1 s1.2.2.1 s1.2.2.2)
def ff_X5_develop (N : Nat) (o_this : os_T) : Option os_T :=
  (if os_nn (FP.fdiv (FP.i2f (os_I o_this 3)) (1120403456 : UInt32)) then ff_X5_develop_l13 N N (o_this, FP.fdiv (FP.i2f (os_I o_this 3)) (1120403456 : UInt32), FP.fconst1, (0 : Int32)) else none)
set_option maxHeartbeats 4000000 in
set_option maxRecDepth 100000 in
theorem mm_X5_develop (l : Launch) (D : va_G) (kA : Nat → ClassId) (N : Nat) (q_this : Nat → Nat) (o_this : os_T) (out : os_T) (hf : ff_X5_develop N o_this = some out) : mc_C l D kA yX5_develop wsX5_develop ({ frames := 3, cells := 0, slots := 0, locals := 69 } : Room) [.ref (q_this 0)] (ce_X5 kA q_this o_this) none (ce_X5 kA q_this out) := by
  refine mc_of (cc := cX5_develop) (maxL := 4) (ret := none) (by decide) rfl (Nat.le_of_ble_eq_true rfl) ?_
  intro p e s m below meth c A B hD hP hS ls hl
  obtain ⟨hx, hb, hr, hlk, hml, hown, hts, hK, hA, hnm⟩ := B
  have hown : s.vm.findClass RX5 = some m.cls := hown
  have hl : lv_has ls 4 [(0, .ref (q_this 0))] := hl
  have hUX5 : ∀ w ∈ u_ws RX5 TX5 10, w.before [.ref (q_this 0)].toArray s = true := fun w h => hts w (List.mem_cons_of_mem _ (List.mem_append_right _ h))
  have hL13 : ∀ (n : Nat) (o_this : os_T) (x1 : UInt32) (x2 : UInt32) (x3 : Int32) (H : Heap) (locs : List Loc) (ls : Array Slot), va_P D vwCl (ce_X5 kA q_this o_this) H → va_D A (ce_X5 kA q_this o_this) → va_S A s.heap H locs → lv_has ls 4 [(0, .ref (q_this 0)), (1, .float x1), (2, .float x2), (3, .int x3)] → ff_X5_develop_l13 N n (o_this, x1, x2, x3) = some out → W p l e ({ frames := 3, cells := 0, slots := 0, locals := 69 } : Room) s m [.ref (q_this 0)].toArray below meth c H locs 0 0 (MQ below (mc_Q D kA A none (ce_X5 kA q_this out)) [.ref (q_this 0)].toArray s 0 0 A) (F0 m 13 ls []) := by
    intro n
    induction n with
    | zero => intro o_this x1 x2 x3 H locs ls _ _ _ _ hf; cases hf
    | succ n hk13 =>
      intro o_this x1 x2 x3 H locs ls hP hD hS hl hf
      have hf : ff_X5_develop_c13 N (ff_X5_develop_l13 N n) o_this x1 x2 x3 = some out := hf
      generalize hke : ff_X5_develop_l13 N n = k13 at hk13 hf
      unfold ff_X5_develop_c13 at hf
      refine lv_iload_n hx hb dX5_develop_13 rfl (lv_at hl 3 rfl) ?_
      refine lv_aload_n hx hb dX5_develop_14 rfl (lv_at hl 0 rfl) ?_
      refine va_get (D := D) (ci := 4) (v := .ref (q_this 3)) (C := RX5) (T := TX5) (N := 10) hx hb hUX5 (fun _ h9 => h9) hown hK hP 0 rfl rfl 9 (by decide) (hts (Cond.fieldLink RX5 18 "ReliefBuilder$Panel" "lights" "[F") (List.mem_of_getElem? (i := 3) rfl)) (fun _ h9 => h9) rfl dX5_develop_15 ?_
      refine va_alen (v := 21) hx hb hK hP 3 3 rfl rfl rfl dX5_develop_18 ?_
      refine lv_icmp_ge (tgt := 39) hx hb dX5_develop_19 (by decide) (fun hc_2 => ?_) (fun hc_2 => ?_)
      · rw [if_pos hc_2] at hf
        refine lv_aload_n hx hb dX5_develop_39 rfl (lv_at hl 0 rfl) ?_
        obtain ⟨u_3, he_4, hf⟩ := os_bd hf
        refine mc_callV ⟨hx, hb, hml, hown, hts⟩ (mm_X5_followTones l D kA N q_this o_this u_3 he_4) (cwV 0 hts gX5_develop_X5_followTones rfl rfl rfl (by decide +kernel) ⟨Nat.le_of_ble_eq_true rfl, Nat.le_of_ble_eq_true rfl⟩) (wc := (ce_X5 kA q_this o_this)) (ci := 4) (q0 := 0) rfl rfl rfl hl.1 (As := []) (rest := []) rfl (Nat.le_of_ble_eq_true rfl) dX5_develop_40 ⟨Nat.le_of_ble_eq_true rfl, Nat.le_of_ble_eq_true rfl⟩ hK hP hD hS hA [0, 1, 2, 3] [] [0, 1, 2, 3] rfl (by decide) rfl (by decide) (by decide) rfl (by decide) (wr := []) (w2 := (ce_X5 kA q_this u_3.2)) (fun H locs hP hD hS => ?_)
        have hP : va_P D vwCl (ce_X5 kA q_this u_3.2) H := hP
        refine lv_pop hx hb dX5_develop_43 rfl ?_
        rw [← Option.some.inj hf]
        exact mc_retv hx hb hr hlk hP hK hD hS dX5_develop_44
      · rw [if_neg hc_2] at hf
        refine lv_aload_n hx hb dX5_develop_22 rfl (lv_at hl 0 rfl) ?_
        refine va_get (D := D) (ci := 4) (v := .ref (q_this 3)) (C := RX5) (T := TX5) (N := 10) hx hb hUX5 (fun _ h9 => h9) hown hK hP 0 rfl rfl 9 (by decide) (hts (Cond.fieldLink RX5 18 "ReliefBuilder$Panel" "lights" "[F") (List.mem_of_getElem? (i := 3) rfl)) (fun _ h9 => h9) rfl dX5_develop_23 ?_
        refine lv_iload_n hx hb dX5_develop_26 rfl (lv_at hl 3 rfl) ?_
        refine lv_fload_n hx hb dX5_develop_27 rfl (lv_at hl 2 rfl) ?_
        obtain ⟨hi_5, hf⟩ := os_if hf
        refine va_fast hx hb hK hP hD hS 3 3 rfl rfl hi_5 dX5_develop_28 (fun H locs hP hD hS => ?_)
        have hP : va_P D vwCl (ce_X5 kA q_this (ss_F o_this 0 (vf_upd (os_F o_this 0) (Int32.toNatClampNeg x3) x2))) H := hP
        have hD : va_D A (ce_X5 kA q_this (ss_F o_this 0 (vf_upd (os_F o_this 0) (Int32.toNatClampNeg x3) x2))) := hD
        refine lv_fload_n hx hb dX5_develop_29 rfl (lv_at hl 2 rfl) ?_
        refine lv_fload_n hx hb dX5_develop_30 rfl (lv_at hl 1 rfl) ?_
        obtain ⟨hn_6, hf⟩ := os_if hf
        refine lv_fmul hx hb dX5_develop_31 hn_6 ?_
        refine lv_fstore_n (lv' := [(2, .float (FP.fmul x2 x1)), (0, .ref (q_this 0)), (1, .float x1), (3, .int x3)]) hx hb dX5_develop_32 rfl hl (by decide) rfl (fun ls hl => ?_)
        refine lv_iinc (v := x3 + 1) (lv' := [(3, .int (x3 + 1)), (2, .float (FP.fmul x2 x1)), (0, .ref (q_this 0)), (1, .float x1)]) hx hb dX5_develop_33 hl (k := 3) rfl rfl (by decide) rfl (fun ls hl => ?_)
        refine lv_goto (tgt := 13) hx hb dX5_develop_36 (by decide) ?_
        exact hk13 (ss_F o_this 0 (vf_upd (os_F o_this 0) (Int32.toNatClampNeg x3) x2)) x1 (FP.fmul x2 x1) (x3 + 1) _ _ _ hP hD hS (lv_sub hl [2, 3, 1, 0] rfl) hf
  unfold ff_X5_develop at hf
  refine lv_aload_n hx hb dX5_develop_0 rfl (lv_at hl 0 rfl) ?_
  refine va_get (D := D) (ci := 4) (v := .int (os_I o_this 3)) (C := RX5) (T := TX5) (N := 10) hx hb hUX5 (fun _ h9 => h9) hown hK hP 0 rfl rfl 3 (by decide) (hts (Cond.fieldLink RX5 38 "ReliefBuilder$Panel" "glass" "I") (List.mem_of_getElem? (i := 1) rfl)) (fun _ h9 => h9) rfl dX5_develop_1 ?_
  refine lv_i2f hx hb dX5_develop_4 ?_
  refine lv_ldcf hx hb hown (hts (Cond.constantFloat RX5 56 (1120403456)) (List.mem_of_getElem? (i := 2) rfl)) dX5_develop_5 ?_
  obtain ⟨hn_1, hf⟩ := os_if hf
  refine lv_fdiv hx hb dX5_develop_7 hn_1 ?_
  refine lv_fstore_n (lv' := [(1, .float (FP.fdiv (FP.i2f (os_I o_this 3)) (1120403456 : UInt32))), (0, .ref (q_this 0))]) hx hb dX5_develop_8 rfl hl (by decide) rfl (fun ls hl => ?_)
  refine lv_fconst1 hx hb dX5_develop_9 ?_
  refine lv_fstore_n (lv' := [(2, .float FP.fconst1), (1, .float (FP.fdiv (FP.i2f (os_I o_this 3)) (1120403456 : UInt32))), (0, .ref (q_this 0))]) hx hb dX5_develop_10 rfl hl (by decide) rfl (fun ls hl => ?_)
  refine lv_iconst (v := 0) hx hb dX5_develop_11 (by decide) ?_
  refine lv_istore_n (lv' := [(3, .int (0 : Int32)), (2, .float FP.fconst1), (1, .float (FP.fdiv (FP.i2f (os_I o_this 3)) (1120403456 : UInt32))), (0, .ref (q_this 0))]) hx hb dX5_develop_12 rfl hl (by decide) rfl (fun ls hl => ?_)
  exact hL13 N o_this (FP.fdiv (FP.i2f (os_I o_this 3)) (1120403456 : UInt32)) FP.fconst1 (0 : Int32) _ _ _ hP hD hS (lv_sub hl [3, 2, 1, 0] rfl) hf
def ff_X5_copyHeightsFrom (N : Nat) (o_this : os_T) (o_p1 : os_T) : Option os_T :=
  some (ss_A o_this 1 (va_cpy (os_A o_p1 1) (os_A o_this 1) 0 0 192))
set_option maxHeartbeats 4000000 in
set_option maxRecDepth 100000 in
theorem mm_X5_copyHeightsFrom (l : Launch) (D : va_G) (kA : Nat → ClassId) (N : Nat) (q_this : Nat → Nat) (q_p1 : Nat → Nat) (o_this : os_T) (o_p1 : os_T) (out : os_T) (hf : ff_X5_copyHeightsFrom N o_this o_p1 = some out) : mc_C l D kA yX5_copyHeightsFrom wsX5_copyHeightsFrom ({ frames := 1, cells := 0, slots := 0, locals := 60 } : Room) [.ref (q_this 0), .ref (q_p1 0)] (ce_X5 kA q_this o_this ++ (ce_X5 kA q_p1 o_p1)) none (ce_X5 kA q_this out ++ (ce_X5 kA q_p1 o_p1)) := by
  refine mc_of (cc := cX5_copyHeightsFrom) (maxL := 2) (ret := none) (by decide) rfl (Nat.le_of_ble_eq_true rfl) ?_
  intro p e s m below meth c A B hD hP hS ls hl
  obtain ⟨hx, hb, hr, hlk, hml, hown, hts, hK, hA, hnm⟩ := B
  have hown : s.vm.findClass RX5 = some m.cls := hown
  have hl : lv_has ls 2 [(0, .ref (q_this 0)), (1, .ref (q_p1 0))] := hl
  have hUX5 : ∀ w ∈ u_ws RX5 TX5 10, w.before [.ref (q_this 0), .ref (q_p1 0)].toArray s = true := fun w h => hts w (List.mem_cons_of_mem _ (List.mem_append_right _ h))
  unfold ff_X5_copyHeightsFrom at hf
  refine lv_aload_n hx hb dX5_copyHeightsFrom_0 rfl (lv_at hl 1 rfl) ?_
  refine va_get (D := D) (ci := 4) (v := .ref (q_p1 2)) (C := RX5) (T := TX5) (N := 10) hx hb hUX5 (fun _ h9 => h9) hown hK hP 4 rfl rfl 8 (by decide) (hts (Cond.fieldLink RX5 15 "ReliefBuilder$Panel" "heights" "[I") (List.mem_of_getElem? (i := 1) rfl)) (fun _ h9 => h9) rfl dX5_copyHeightsFrom_1 ?_
  refine lv_iconst (v := 0) hx hb dX5_copyHeightsFrom_4 (by decide) ?_
  refine lv_aload_n hx hb dX5_copyHeightsFrom_5 rfl (lv_at hl 0 rfl) ?_
  refine va_get (D := D) (ci := 4) (v := .ref (q_this 2)) (C := RX5) (T := TX5) (N := 10) hx hb hUX5 (fun _ h9 => h9) hown hK hP 0 rfl rfl 8 (by decide) (hts (Cond.fieldLink RX5 15 "ReliefBuilder$Panel" "heights" "[I") (List.mem_of_getElem? (i := 1) rfl)) (fun _ h9 => h9) rfl dX5_copyHeightsFrom_6 ?_
  refine lv_iconst (v := 0) hx hb dX5_copyHeightsFrom_9 (by decide) ?_
  refine lv_sipush (v := 192) hx hb dX5_copyHeightsFrom_10 (by decide) ?_
  refine va_copyi (sp := 0) (dp := 0) (n := 192) hx hb (hml.trans hl.1.symm) hown (hts (Cond.methodLink RX5 61 arraycopyName) (List.mem_of_getElem? (i := 2) rfl)) (hts (Cond.native arraycopyName) (List.mem_of_getElem? (i := 3) rfl)) (hts (Cond.static arraycopyName) (List.mem_of_getElem? (i := 4) rfl)) (hts (Cond.initialized "java/lang/System") (List.mem_of_getElem? (i := 5) rfl)) hK hP hD hS 6 2 0 0 rfl rfl rfl rfl rfl (by decide) (by decide) (by decide) (Nat.le_of_ble_eq_true rfl) (Nat.le_of_ble_eq_true rfl) (fun _ _ => rfl) (Nat.le_of_ble_eq_true rfl) (Nat.le_of_ble_eq_true rfl) dX5_copyHeightsFrom_13 (fun H locs hP hD hS => ?_)
  have hP : va_P D vwCl (ce_X5 kA q_this (ss_A o_this 1 (va_cpy (os_A o_p1 1) (os_A o_this 1) 0 0 192)) ++ (ce_X5 kA q_p1 o_p1)) H := hP
  have hD : va_D A (ce_X5 kA q_this (ss_A o_this 1 (va_cpy (os_A o_p1 1) (os_A o_this 1) 0 0 192)) ++ (ce_X5 kA q_p1 o_p1)) := hD
  rw [← Option.some.inj hf]
  exact mc_retv hx hb hr hlk hP hK hD hS dX5_copyHeightsFrom_16
def ff_X5_copyFrom (N : Nat) (o_this : os_T) (o_p1 : os_T) : Option os_T :=
  ((ff_X5_copyHeightsFrom N (ss_I (ss_I (ss_I (ss_I (ss_I (ss_I (ss_I (ss_F (ss_A o_this 0 (va_cpy (os_A o_p1 0) (os_A o_this 0) 0 0 192)) 0 (va_cpy (os_F o_p1 0) (os_F o_this 0) 0 0 21)) 0 (os_I o_p1 0)) 1 (os_I o_p1 1)) 2 (os_I o_p1 2)) 3 (os_I o_p1 3)) 4 (os_I o_p1 4)) 5 (os_I o_p1 5)) 6 (os_I o_p1 6)) o_p1).bind fun u_1 => some u_1)
set_option maxHeartbeats 4000000 in
set_option maxRecDepth 100000 in
theorem mm_X5_copyFrom (l : Launch) (D : va_G) (kA : Nat → ClassId) (N : Nat) (q_this : Nat → Nat) (q_p1 : Nat → Nat) (o_this : os_T) (o_p1 : os_T) (out : os_T) (hf : ff_X5_copyFrom N o_this o_p1 = some out) : mc_C l D kA yX5_copyFrom wsX5_copyFrom ({ frames := 2, cells := 0, slots := 0, locals := 81 } : Room) [.ref (q_this 0), .ref (q_p1 0)] (ce_X5 kA q_this o_this ++ (ce_X5 kA q_p1 o_p1)) none (ce_X5 kA q_this out ++ (ce_X5 kA q_p1 o_p1)) := by
  refine mc_of (cc := cX5_copyFrom) (maxL := 2) (ret := none) (by decide) rfl (Nat.le_of_ble_eq_true rfl) ?_
  intro p e s m below meth c A B hD hP hS ls hl
  obtain ⟨hx, hb, hr, hlk, hml, hown, hts, hK, hA, hnm⟩ := B
  have hown : s.vm.findClass RX5 = some m.cls := hown
  have hl : lv_has ls 2 [(0, .ref (q_this 0)), (1, .ref (q_p1 0))] := hl
  have hUX5 : ∀ w ∈ u_ws RX5 TX5 10, w.before [.ref (q_this 0), .ref (q_p1 0)].toArray s = true := fun w h => hts w (List.mem_cons_of_mem _ (List.mem_append_right _ h))
  unfold ff_X5_copyFrom at hf
  refine lv_aload_n hx hb dX5_copyFrom_0 rfl (lv_at hl 0 rfl) ?_
  refine lv_aload_n hx hb dX5_copyFrom_1 rfl (lv_at hl 1 rfl) ?_
  refine va_get (D := D) (ci := 4) (v := .int (os_I o_p1 0)) (C := RX5) (T := TX5) (N := 10) hx hb hUX5 (fun _ h9 => h9) hown hK hP 4 rfl rfl 0 (by decide) (hts (Cond.fieldLink RX5 28 "ReliefBuilder$Panel" "width" "I") (List.mem_of_getElem? (i := 1) rfl)) (fun _ h9 => h9) rfl dX5_copyFrom_2 ?_
  refine va_put (D := D) (ci := 4) (v := .int (os_I o_p1 0)) (ty := .int) (C := RX5) (T := TX5) (N := 10) hx hb hUX5 (fun _ h9 => h9) tyX5 tyX5_ok nmX5 hown hK hP hD hS 0 rfl rfl 0 (by decide) (hts (Cond.fieldLink RX5 28 "ReliefBuilder$Panel" "width" "I") (List.mem_of_getElem? (i := 1) rfl)) (fun _ h9 => h9) rfl (tyX5_ok 0 (by decide)) rfl rfl (Nat.le_of_ble_eq_true rfl) dX5_copyFrom_5 (fun H locs hP hD hS => ?_)
  have hP : va_P D vwCl (ce_X5 kA q_this (ss_I o_this 0 (os_I o_p1 0)) ++ (ce_X5 kA q_p1 o_p1)) H := hP
  have hD : va_D A (ce_X5 kA q_this (ss_I o_this 0 (os_I o_p1 0)) ++ (ce_X5 kA q_p1 o_p1)) := hD
  refine lv_aload_n hx hb dX5_copyFrom_8 rfl (lv_at hl 0 rfl) ?_
  refine lv_aload_n hx hb dX5_copyFrom_9 rfl (lv_at hl 1 rfl) ?_
  refine va_get (D := D) (ci := 4) (v := .int (os_I o_p1 1)) (C := RX5) (T := TX5) (N := 10) hx hb hUX5 (fun _ h9 => h9) hown hK hP 4 rfl rfl 1 (by decide) (hts (Cond.fieldLink RX5 32 "ReliefBuilder$Panel" "rows" "I") (List.mem_of_getElem? (i := 2) rfl)) (fun _ h9 => h9) rfl dX5_copyFrom_10 ?_
  refine va_put (D := D) (ci := 4) (v := .int (os_I o_p1 1)) (ty := .int) (C := RX5) (T := TX5) (N := 10) hx hb hUX5 (fun _ h9 => h9) tyX5 tyX5_ok nmX5 hown hK hP hD hS 0 rfl rfl 1 (by decide) (hts (Cond.fieldLink RX5 32 "ReliefBuilder$Panel" "rows" "I") (List.mem_of_getElem? (i := 2) rfl)) (fun _ h9 => h9) rfl (tyX5_ok 1 (by decide)) rfl rfl (Nat.le_of_ble_eq_true rfl) dX5_copyFrom_13 (fun H locs hP hD hS => ?_)
  have hP : va_P D vwCl (ce_X5 kA q_this (ss_I (ss_I o_this 0 (os_I o_p1 0)) 1 (os_I o_p1 1)) ++ (ce_X5 kA q_p1 o_p1)) H := hP
  have hD : va_D A (ce_X5 kA q_this (ss_I (ss_I o_this 0 (os_I o_p1 0)) 1 (os_I o_p1 1)) ++ (ce_X5 kA q_p1 o_p1)) := hD
  refine lv_aload_n hx hb dX5_copyFrom_16 rfl (lv_at hl 0 rfl) ?_
  refine lv_aload_n hx hb dX5_copyFrom_17 rfl (lv_at hl 1 rfl) ?_
  refine va_get (D := D) (ci := 4) (v := .int (os_I o_p1 2)) (C := RX5) (T := TX5) (N := 10) hx hb hUX5 (fun _ h9 => h9) hown hK hP 4 rfl rfl 2 (by decide) (hts (Cond.fieldLink RX5 35 "ReliefBuilder$Panel" "greatest" "I") (List.mem_of_getElem? (i := 3) rfl)) (fun _ h9 => h9) rfl dX5_copyFrom_18 ?_
  refine va_put (D := D) (ci := 4) (v := .int (os_I o_p1 2)) (ty := .int) (C := RX5) (T := TX5) (N := 10) hx hb hUX5 (fun _ h9 => h9) tyX5 tyX5_ok nmX5 hown hK hP hD hS 0 rfl rfl 2 (by decide) (hts (Cond.fieldLink RX5 35 "ReliefBuilder$Panel" "greatest" "I") (List.mem_of_getElem? (i := 3) rfl)) (fun _ h9 => h9) rfl (tyX5_ok 2 (by decide)) rfl rfl (Nat.le_of_ble_eq_true rfl) dX5_copyFrom_21 (fun H locs hP hD hS => ?_)
  have hP : va_P D vwCl (ce_X5 kA q_this (ss_I (ss_I (ss_I o_this 0 (os_I o_p1 0)) 1 (os_I o_p1 1)) 2 (os_I o_p1 2)) ++ (ce_X5 kA q_p1 o_p1)) H := hP
  have hD : va_D A (ce_X5 kA q_this (ss_I (ss_I (ss_I o_this 0 (os_I o_p1 0)) 1 (os_I o_p1 1)) 2 (os_I o_p1 2)) ++ (ce_X5 kA q_p1 o_p1)) := hD
  refine lv_aload_n hx hb dX5_copyFrom_24 rfl (lv_at hl 0 rfl) ?_
  refine lv_aload_n hx hb dX5_copyFrom_25 rfl (lv_at hl 1 rfl) ?_
  refine va_get (D := D) (ci := 4) (v := .int (os_I o_p1 3)) (C := RX5) (T := TX5) (N := 10) hx hb hUX5 (fun _ h9 => h9) hown hK hP 4 rfl rfl 3 (by decide) (hts (Cond.fieldLink RX5 38 "ReliefBuilder$Panel" "glass" "I") (List.mem_of_getElem? (i := 4) rfl)) (fun _ h9 => h9) rfl dX5_copyFrom_26 ?_
  refine va_put (D := D) (ci := 4) (v := .int (os_I o_p1 3)) (ty := .int) (C := RX5) (T := TX5) (N := 10) hx hb hUX5 (fun _ h9 => h9) tyX5 tyX5_ok nmX5 hown hK hP hD hS 0 rfl rfl 3 (by decide) (hts (Cond.fieldLink RX5 38 "ReliefBuilder$Panel" "glass" "I") (List.mem_of_getElem? (i := 4) rfl)) (fun _ h9 => h9) rfl (tyX5_ok 3 (by decide)) rfl rfl (Nat.le_of_ble_eq_true rfl) dX5_copyFrom_29 (fun H locs hP hD hS => ?_)
  have hP : va_P D vwCl (ce_X5 kA q_this (ss_I (ss_I (ss_I (ss_I o_this 0 (os_I o_p1 0)) 1 (os_I o_p1 1)) 2 (os_I o_p1 2)) 3 (os_I o_p1 3)) ++ (ce_X5 kA q_p1 o_p1)) H := hP
  have hD : va_D A (ce_X5 kA q_this (ss_I (ss_I (ss_I (ss_I o_this 0 (os_I o_p1 0)) 1 (os_I o_p1 1)) 2 (os_I o_p1 2)) 3 (os_I o_p1 3)) ++ (ce_X5 kA q_p1 o_p1)) := hD
  refine lv_aload_n hx hb dX5_copyFrom_32 rfl (lv_at hl 0 rfl) ?_
  refine lv_aload_n hx hb dX5_copyFrom_33 rfl (lv_at hl 1 rfl) ?_
  refine va_get (D := D) (ci := 4) (v := .int (os_I o_p1 4)) (C := RX5) (T := TX5) (N := 10) hx hb hUX5 (fun _ h9 => h9) hown hK hP 4 rfl rfl 4 (by decide) (hts (Cond.fieldLink RX5 41 "ReliefBuilder$Panel" "base" "I") (List.mem_of_getElem? (i := 5) rfl)) (fun _ h9 => h9) rfl dX5_copyFrom_34 ?_
  refine va_put (D := D) (ci := 4) (v := .int (os_I o_p1 4)) (ty := .int) (C := RX5) (T := TX5) (N := 10) hx hb hUX5 (fun _ h9 => h9) tyX5 tyX5_ok nmX5 hown hK hP hD hS 0 rfl rfl 4 (by decide) (hts (Cond.fieldLink RX5 41 "ReliefBuilder$Panel" "base" "I") (List.mem_of_getElem? (i := 5) rfl)) (fun _ h9 => h9) rfl (tyX5_ok 4 (by decide)) rfl rfl (Nat.le_of_ble_eq_true rfl) dX5_copyFrom_37 (fun H locs hP hD hS => ?_)
  have hP : va_P D vwCl (ce_X5 kA q_this (ss_I (ss_I (ss_I (ss_I (ss_I o_this 0 (os_I o_p1 0)) 1 (os_I o_p1 1)) 2 (os_I o_p1 2)) 3 (os_I o_p1 3)) 4 (os_I o_p1 4)) ++ (ce_X5 kA q_p1 o_p1)) H := hP
  have hD : va_D A (ce_X5 kA q_this (ss_I (ss_I (ss_I (ss_I (ss_I o_this 0 (os_I o_p1 0)) 1 (os_I o_p1 1)) 2 (os_I o_p1 2)) 3 (os_I o_p1 3)) 4 (os_I o_p1 4)) ++ (ce_X5 kA q_p1 o_p1)) := hD
  refine lv_aload_n hx hb dX5_copyFrom_40 rfl (lv_at hl 0 rfl) ?_
  refine lv_aload_n hx hb dX5_copyFrom_41 rfl (lv_at hl 1 rfl) ?_
  refine va_get (D := D) (ci := 4) (v := .int (os_I o_p1 5)) (C := RX5) (T := TX5) (N := 10) hx hb hUX5 (fun _ h9 => h9) hown hK hP 4 rfl rfl 5 (by decide) (hts (Cond.fieldLink RX5 44 "ReliefBuilder$Panel" "wall" "I") (List.mem_of_getElem? (i := 6) rfl)) (fun _ h9 => h9) rfl dX5_copyFrom_42 ?_
  refine va_put (D := D) (ci := 4) (v := .int (os_I o_p1 5)) (ty := .int) (C := RX5) (T := TX5) (N := 10) hx hb hUX5 (fun _ h9 => h9) tyX5 tyX5_ok nmX5 hown hK hP hD hS 0 rfl rfl 5 (by decide) (hts (Cond.fieldLink RX5 44 "ReliefBuilder$Panel" "wall" "I") (List.mem_of_getElem? (i := 6) rfl)) (fun _ h9 => h9) rfl (tyX5_ok 5 (by decide)) rfl rfl (Nat.le_of_ble_eq_true rfl) dX5_copyFrom_45 (fun H locs hP hD hS => ?_)
  have hP : va_P D vwCl (ce_X5 kA q_this (ss_I (ss_I (ss_I (ss_I (ss_I (ss_I o_this 0 (os_I o_p1 0)) 1 (os_I o_p1 1)) 2 (os_I o_p1 2)) 3 (os_I o_p1 3)) 4 (os_I o_p1 4)) 5 (os_I o_p1 5)) ++ (ce_X5 kA q_p1 o_p1)) H := hP
  have hD : va_D A (ce_X5 kA q_this (ss_I (ss_I (ss_I (ss_I (ss_I (ss_I o_this 0 (os_I o_p1 0)) 1 (os_I o_p1 1)) 2 (os_I o_p1 2)) 3 (os_I o_p1 3)) 4 (os_I o_p1 4)) 5 (os_I o_p1 5)) ++ (ce_X5 kA q_p1 o_p1)) := hD
  refine lv_aload_n hx hb dX5_copyFrom_48 rfl (lv_at hl 0 rfl) ?_
  refine lv_aload_n hx hb dX5_copyFrom_49 rfl (lv_at hl 1 rfl) ?_
  refine va_get (D := D) (ci := 4) (v := .int (os_I o_p1 6)) (C := RX5) (T := TX5) (N := 10) hx hb hUX5 (fun _ h9 => h9) hown hK hP 4 rfl rfl 6 (by decide) (hts (Cond.fieldLink RX5 47 "ReliefBuilder$Panel" "slope" "I") (List.mem_of_getElem? (i := 7) rfl)) (fun _ h9 => h9) rfl dX5_copyFrom_50 ?_
  refine va_put (D := D) (ci := 4) (v := .int (os_I o_p1 6)) (ty := .int) (C := RX5) (T := TX5) (N := 10) hx hb hUX5 (fun _ h9 => h9) tyX5 tyX5_ok nmX5 hown hK hP hD hS 0 rfl rfl 6 (by decide) (hts (Cond.fieldLink RX5 47 "ReliefBuilder$Panel" "slope" "I") (List.mem_of_getElem? (i := 7) rfl)) (fun _ h9 => h9) rfl (tyX5_ok 6 (by decide)) rfl rfl (Nat.le_of_ble_eq_true rfl) dX5_copyFrom_53 (fun H locs hP hD hS => ?_)
  have hP : va_P D vwCl (ce_X5 kA q_this (ss_I (ss_I (ss_I (ss_I (ss_I (ss_I (ss_I o_this 0 (os_I o_p1 0)) 1 (os_I o_p1 1)) 2 (os_I o_p1 2)) 3 (os_I o_p1 3)) 4 (os_I o_p1 4)) 5 (os_I o_p1 5)) 6 (os_I o_p1 6)) ++ (ce_X5 kA q_p1 o_p1)) H := hP
  have hD : va_D A (ce_X5 kA q_this (ss_I (ss_I (ss_I (ss_I (ss_I (ss_I (ss_I o_this 0 (os_I o_p1 0)) 1 (os_I o_p1 1)) 2 (os_I o_p1 2)) 3 (os_I o_p1 3)) 4 (os_I o_p1 4)) 5 (os_I o_p1 5)) 6 (os_I o_p1 6)) ++ (ce_X5 kA q_p1 o_p1)) := hD
  refine lv_aload_n hx hb dX5_copyFrom_56 rfl (lv_at hl 1 rfl) ?_
  refine va_get (D := D) (ci := 4) (v := .ref (q_p1 1)) (C := RX5) (T := TX5) (N := 10) hx hb hUX5 (fun _ h9 => h9) hown hK hP 4 rfl rfl 7 (by decide) (hts (Cond.fieldLink RX5 9 "ReliefBuilder$Panel" "tones" "[I") (List.mem_of_getElem? (i := 8) rfl)) (fun _ h9 => h9) rfl dX5_copyFrom_57 ?_
  refine lv_iconst (v := 0) hx hb dX5_copyFrom_60 (by decide) ?_
  refine lv_aload_n hx hb dX5_copyFrom_61 rfl (lv_at hl 0 rfl) ?_
  refine va_get (D := D) (ci := 4) (v := .ref (q_this 1)) (C := RX5) (T := TX5) (N := 10) hx hb hUX5 (fun _ h9 => h9) hown hK hP 0 rfl rfl 7 (by decide) (hts (Cond.fieldLink RX5 9 "ReliefBuilder$Panel" "tones" "[I") (List.mem_of_getElem? (i := 8) rfl)) (fun _ h9 => h9) rfl dX5_copyFrom_62 ?_
  refine lv_iconst (v := 0) hx hb dX5_copyFrom_65 (by decide) ?_
  refine lv_sipush (v := 192) hx hb dX5_copyFrom_66 (by decide) ?_
  refine va_copyi (sp := 0) (dp := 0) (n := 192) hx hb (hml.trans hl.1.symm) hown (hts (Cond.methodLink RX5 61 arraycopyName) (List.mem_of_getElem? (i := 9) rfl)) (hts (Cond.native arraycopyName) (List.mem_of_getElem? (i := 10) rfl)) (hts (Cond.static arraycopyName) (List.mem_of_getElem? (i := 11) rfl)) (hts (Cond.initialized "java/lang/System") (List.mem_of_getElem? (i := 12) rfl)) hK hP hD hS 5 1 0 0 rfl rfl rfl rfl rfl (by decide) (by decide) (by decide) (Nat.le_of_ble_eq_true rfl) (Nat.le_of_ble_eq_true rfl) (fun _ _ => rfl) (Nat.le_of_ble_eq_true rfl) (Nat.le_of_ble_eq_true rfl) dX5_copyFrom_69 (fun H locs hP hD hS => ?_)
  have hP : va_P D vwCl (ce_X5 kA q_this (ss_I (ss_I (ss_I (ss_I (ss_I (ss_I (ss_I (ss_A o_this 0 (va_cpy (os_A o_p1 0) (os_A o_this 0) 0 0 192)) 0 (os_I o_p1 0)) 1 (os_I o_p1 1)) 2 (os_I o_p1 2)) 3 (os_I o_p1 3)) 4 (os_I o_p1 4)) 5 (os_I o_p1 5)) 6 (os_I o_p1 6)) ++ (ce_X5 kA q_p1 o_p1)) H := hP
  have hD : va_D A (ce_X5 kA q_this (ss_I (ss_I (ss_I (ss_I (ss_I (ss_I (ss_I (ss_A o_this 0 (va_cpy (os_A o_p1 0) (os_A o_this 0) 0 0 192)) 0 (os_I o_p1 0)) 1 (os_I o_p1 1)) 2 (os_I o_p1 2)) 3 (os_I o_p1 3)) 4 (os_I o_p1 4)) 5 (os_I o_p1 5)) 6 (os_I o_p1 6)) ++ (ce_X5 kA q_p1 o_p1)) := hD
  refine lv_aload_n hx hb dX5_copyFrom_72 rfl (lv_at hl 1 rfl) ?_
  refine va_get (D := D) (ci := 4) (v := .ref (q_p1 3)) (C := RX5) (T := TX5) (N := 10) hx hb hUX5 (fun _ h9 => h9) hown hK hP 4 rfl rfl 9 (by decide) (hts (Cond.fieldLink RX5 18 "ReliefBuilder$Panel" "lights" "[F") (List.mem_of_getElem? (i := 13) rfl)) (fun _ h9 => h9) rfl dX5_copyFrom_73 ?_
  refine lv_iconst (v := 0) hx hb dX5_copyFrom_76 (by decide) ?_
  refine lv_aload_n hx hb dX5_copyFrom_77 rfl (lv_at hl 0 rfl) ?_
  refine va_get (D := D) (ci := 4) (v := .ref (q_this 3)) (C := RX5) (T := TX5) (N := 10) hx hb hUX5 (fun _ h9 => h9) hown hK hP 0 rfl rfl 9 (by decide) (hts (Cond.fieldLink RX5 18 "ReliefBuilder$Panel" "lights" "[F") (List.mem_of_getElem? (i := 13) rfl)) (fun _ h9 => h9) rfl dX5_copyFrom_78 ?_
  refine lv_iconst (v := 0) hx hb dX5_copyFrom_81 (by decide) ?_
  refine lv_bipush (v := 21) hx hb dX5_copyFrom_82 (by decide) ?_
  refine va_copyf (sp := 0) (dp := 0) (n := 21) hx hb (hml.trans hl.1.symm) hown (hts (Cond.methodLink RX5 61 arraycopyName) (List.mem_of_getElem? (i := 9) rfl)) (hts (Cond.native arraycopyName) (List.mem_of_getElem? (i := 10) rfl)) (hts (Cond.static arraycopyName) (List.mem_of_getElem? (i := 11) rfl)) (hts (Cond.initialized "java/lang/System") (List.mem_of_getElem? (i := 12) rfl)) hK hP hD hS 7 3 3 3 rfl rfl rfl rfl rfl (by decide) (by decide) (by decide) (Nat.le_of_ble_eq_true rfl) (Nat.le_of_ble_eq_true rfl) (fun _ _ => rfl) (Nat.le_of_ble_eq_true rfl) (Nat.le_of_ble_eq_true rfl) dX5_copyFrom_84 (fun H locs hP hD hS => ?_)
  have hP : va_P D vwCl (ce_X5 kA q_this (ss_I (ss_I (ss_I (ss_I (ss_I (ss_I (ss_I (ss_F (ss_A o_this 0 (va_cpy (os_A o_p1 0) (os_A o_this 0) 0 0 192)) 0 (va_cpy (os_F o_p1 0) (os_F o_this 0) 0 0 21)) 0 (os_I o_p1 0)) 1 (os_I o_p1 1)) 2 (os_I o_p1 2)) 3 (os_I o_p1 3)) 4 (os_I o_p1 4)) 5 (os_I o_p1 5)) 6 (os_I o_p1 6)) ++ (ce_X5 kA q_p1 o_p1)) H := hP
  have hD : va_D A (ce_X5 kA q_this (ss_I (ss_I (ss_I (ss_I (ss_I (ss_I (ss_I (ss_F (ss_A o_this 0 (va_cpy (os_A o_p1 0) (os_A o_this 0) 0 0 192)) 0 (va_cpy (os_F o_p1 0) (os_F o_this 0) 0 0 21)) 0 (os_I o_p1 0)) 1 (os_I o_p1 1)) 2 (os_I o_p1 2)) 3 (os_I o_p1 3)) 4 (os_I o_p1 4)) 5 (os_I o_p1 5)) 6 (os_I o_p1 6)) ++ (ce_X5 kA q_p1 o_p1)) := hD
  refine lv_aload_n hx hb dX5_copyFrom_87 rfl (lv_at hl 0 rfl) ?_
  refine lv_aload_n hx hb dX5_copyFrom_88 rfl (lv_at hl 1 rfl) ?_
  obtain ⟨u_1, he_2, hf⟩ := os_bd hf
  refine mc_callV ⟨hx, hb, hml, hown, hts⟩ (mm_X5_copyHeightsFrom l D kA N q_this q_p1 (ss_I (ss_I (ss_I (ss_I (ss_I (ss_I (ss_I (ss_F (ss_A o_this 0 (va_cpy (os_A o_p1 0) (os_A o_this 0) 0 0 192)) 0 (va_cpy (os_F o_p1 0) (os_F o_this 0) 0 0 21)) 0 (os_I o_p1 0)) 1 (os_I o_p1 1)) 2 (os_I o_p1 2)) 3 (os_I o_p1 3)) 4 (os_I o_p1 4)) 5 (os_I o_p1 5)) 6 (os_I o_p1 6)) o_p1 u_1 he_2) (cwV 1 hts gX5_copyFrom_X5_copyHeightsFrom rfl rfl rfl (by decide +kernel) ⟨Nat.le_of_ble_eq_true rfl, Nat.le_of_ble_eq_true rfl⟩) (wc := (ce_X5 kA q_this (ss_I (ss_I (ss_I (ss_I (ss_I (ss_I (ss_I (ss_F (ss_A o_this 0 (va_cpy (os_A o_p1 0) (os_A o_this 0) 0 0 192)) 0 (va_cpy (os_F o_p1 0) (os_F o_this 0) 0 0 21)) 0 (os_I o_p1 0)) 1 (os_I o_p1 1)) 2 (os_I o_p1 2)) 3 (os_I o_p1 3)) 4 (os_I o_p1 4)) 5 (os_I o_p1 5)) 6 (os_I o_p1 6)) ++ (ce_X5 kA q_p1 o_p1))) (ci := 4) (q0 := 0) rfl rfl rfl hl.1 (As := [.ref (q_p1 0)]) (rest := []) rfl (Nat.le_of_ble_eq_true rfl) dX5_copyFrom_89 ⟨Nat.le_of_ble_eq_true rfl, Nat.le_of_ble_eq_true rfl⟩ hK hP hD hS hA [0, 1, 2, 3, 4, 5, 6, 7] [] [0, 1, 2, 3, 4, 5, 6, 7] rfl (by decide) rfl (by decide) (by decide) rfl (by decide) (wr := []) (w2 := (ce_X5 kA q_this u_1 ++ (ce_X5 kA q_p1 o_p1))) (fun H locs hP hD hS => ?_)
  have hP : va_P D vwCl (ce_X5 kA q_this u_1 ++ (ce_X5 kA q_p1 o_p1)) H := hP
  rw [← Option.some.inj hf]
  exact mc_retv hx hb hr hlk hP hK hD hS dX5_copyFrom_92
def ff_X5_fits (N : Nat) (o_this : os_T) (a1 : Int32) (a2 : Int32) (a3 : Int32) (a4 : Int32) : Option Int32 :=
  (if a3 < (1 : Int32) then some (0 : Int32) else (if ((os_I o_this 0) - a1) < a3 then some (0 : Int32) else (if a4 < (1 : Int32) then some (0 : Int32) else (if ((os_I o_this 1) - a2) < a4 then some (0 : Int32) else some (1 : Int32)))))
set_option maxHeartbeats 4000000 in
set_option maxRecDepth 100000 in
theorem mm_X5_fits (l : Launch) (D : va_G) (kA : Nat → ClassId) (N : Nat) (q_this : Nat → Nat) (o_this : os_T) (a1 : Int32) (a2 : Int32) (a3 : Int32) (a4 : Int32) (out : Int32) (hf : ff_X5_fits N o_this a1 a2 a3 a4 = some out) : mc_C l D kA yX5_fits wsX5_fits ({ frames := 0, cells := 0, slots := 0, locals := 0 } : Room) [.ref (q_this 0), .int a1, .int a2, .int a3, .int a4] (ce_X5 kA q_this o_this) (some (.int out)) (ce_X5 kA q_this o_this) := by
  refine mc_of (cc := cX5_fits) (maxL := 5) (ret := (some .boolean)) (by decide) rfl (Nat.le_of_ble_eq_true rfl) ?_
  intro p e s m below meth c A B hD hP hS ls hl
  obtain ⟨hx, hb, hr, hlk, hml, hown, hts, hK, hA, hnm⟩ := B
  have hown : s.vm.findClass RX5 = some m.cls := hown
  have hl : lv_has ls 5 [(0, .ref (q_this 0)), (1, .int a1), (2, .int a2), (3, .int a3), (4, .int a4)] := hl
  have hUX5 : ∀ w ∈ u_ws RX5 TX5 10, w.before [.ref (q_this 0), .int a1, .int a2, .int a3, .int a4].toArray s = true := fun w h => hts w (List.mem_cons_of_mem _ (List.mem_append_right _ h))
  unfold ff_X5_fits at hf
  refine lv_iload_n hx hb dX5_fits_0 rfl (lv_at hl 3 rfl) ?_
  refine lv_iconst (v := 1) hx hb dX5_fits_1 (by decide) ?_
  refine lv_icmp_lt (tgt := 36) hx hb dX5_fits_2 (by decide) (fun hc_1 => ?_) (fun hc_1 => ?_)
  · rw [if_pos hc_1] at hf
    refine lv_iconst (v := 0) hx hb dX5_fits_36 (by decide) ?_
    rw [← Option.some.inj hf]
    exact mc_retz (v := 0) hx hb hr rfl hlk hP hK hD hS dX5_fits_37
  · rw [if_neg hc_1] at hf
    refine lv_iload_n hx hb dX5_fits_5 rfl (lv_at hl 3 rfl) ?_
    refine lv_aload_n hx hb dX5_fits_6 rfl (lv_at hl 0 rfl) ?_
    refine va_get (D := D) (ci := 4) (v := .int (os_I o_this 0)) (C := RX5) (T := TX5) (N := 10) hx hb hUX5 (fun _ h9 => h9) hown hK hP 0 rfl rfl 0 (by decide) (hts (Cond.fieldLink RX5 28 "ReliefBuilder$Panel" "width" "I") (List.mem_of_getElem? (i := 1) rfl)) (fun _ h9 => h9) rfl dX5_fits_7 ?_
    refine lv_iload_n hx hb dX5_fits_10 rfl (lv_at hl 1 rfl) ?_
    refine lv_isub hx hb dX5_fits_11 ?_
    refine lv_icmp_gt (tgt := 36) hx hb dX5_fits_12 (by decide) (fun hc_2 => ?_) (fun hc_2 => ?_)
    · rw [if_pos hc_2] at hf
      refine lv_iconst (v := 0) hx hb dX5_fits_36 (by decide) ?_
      rw [← Option.some.inj hf]
      exact mc_retz (v := 0) hx hb hr rfl hlk hP hK hD hS dX5_fits_37
    · rw [if_neg hc_2] at hf
      refine lv_iload hx hb dX5_fits_15 (lv_at hl 4 rfl) ?_
      refine lv_iconst (v := 1) hx hb dX5_fits_17 (by decide) ?_
      refine lv_icmp_lt (tgt := 36) hx hb dX5_fits_18 (by decide) (fun hc_3 => ?_) (fun hc_3 => ?_)
      · rw [if_pos hc_3] at hf
        refine lv_iconst (v := 0) hx hb dX5_fits_36 (by decide) ?_
        rw [← Option.some.inj hf]
        exact mc_retz (v := 0) hx hb hr rfl hlk hP hK hD hS dX5_fits_37
      · rw [if_neg hc_3] at hf
        refine lv_iload hx hb dX5_fits_21 (lv_at hl 4 rfl) ?_
        refine lv_aload_n hx hb dX5_fits_23 rfl (lv_at hl 0 rfl) ?_
        refine va_get (D := D) (ci := 4) (v := .int (os_I o_this 1)) (C := RX5) (T := TX5) (N := 10) hx hb hUX5 (fun _ h9 => h9) hown hK hP 0 rfl rfl 1 (by decide) (hts (Cond.fieldLink RX5 32 "ReliefBuilder$Panel" "rows" "I") (List.mem_of_getElem? (i := 2) rfl)) (fun _ h9 => h9) rfl dX5_fits_24 ?_
        refine lv_iload_n hx hb dX5_fits_27 rfl (lv_at hl 2 rfl) ?_
        refine lv_isub hx hb dX5_fits_28 ?_
        refine lv_icmp_gt (tgt := 36) hx hb dX5_fits_29 (by decide) (fun hc_4 => ?_) (fun hc_4 => ?_)
        · rw [if_pos hc_4] at hf
          refine lv_iconst (v := 0) hx hb dX5_fits_36 (by decide) ?_
          rw [← Option.some.inj hf]
          exact mc_retz (v := 0) hx hb hr rfl hlk hP hK hD hS dX5_fits_37
        · rw [if_neg hc_4] at hf
          refine lv_iconst (v := 1) hx hb dX5_fits_32 (by decide) ?_
          refine lv_goto (tgt := 37) hx hb dX5_fits_33 (by decide) ?_
          rw [← Option.some.inj hf]
          exact mc_retz (v := 1) hx hb hr rfl hlk hP hK hD hS dX5_fits_37
def ff_X5_allows (N : Nat) (o_this : os_T) (a1 : Int32) : Option Int32 :=
  (if a1 < (os_I o_this 4) then some (0 : Int32) else (if (os_I o_this 2) < a1 then some (0 : Int32) else some (1 : Int32)))
set_option maxHeartbeats 4000000 in
set_option maxRecDepth 100000 in
theorem mm_X5_allows (l : Launch) (D : va_G) (kA : Nat → ClassId) (N : Nat) (q_this : Nat → Nat) (o_this : os_T) (a1 : Int32) (out : Int32) (hf : ff_X5_allows N o_this a1 = some out) : mc_C l D kA yX5_allows wsX5_allows ({ frames := 0, cells := 0, slots := 0, locals := 0 } : Room) [.ref (q_this 0), .int a1] (ce_X5 kA q_this o_this) (some (.int out)) (ce_X5 kA q_this o_this) := by
  refine mc_of (cc := cX5_allows) (maxL := 2) (ret := (some .boolean)) (by decide) rfl (Nat.le_of_ble_eq_true rfl) ?_
  intro p e s m below meth c A B hD hP hS ls hl
  obtain ⟨hx, hb, hr, hlk, hml, hown, hts, hK, hA, hnm⟩ := B
  have hown : s.vm.findClass RX5 = some m.cls := hown
  have hl : lv_has ls 2 [(0, .ref (q_this 0)), (1, .int a1)] := hl
  have hUX5 : ∀ w ∈ u_ws RX5 TX5 10, w.before [.ref (q_this 0), .int a1].toArray s = true := fun w h => hts w (List.mem_cons_of_mem _ (List.mem_append_right _ h))
  unfold ff_X5_allows at hf
  refine lv_iload_n hx hb dX5_allows_0 rfl (lv_at hl 1 rfl) ?_
  refine lv_aload_n hx hb dX5_allows_1 rfl (lv_at hl 0 rfl) ?_
  refine va_get (D := D) (ci := 4) (v := .int (os_I o_this 4)) (C := RX5) (T := TX5) (N := 10) hx hb hUX5 (fun _ h9 => h9) hown hK hP 0 rfl rfl 4 (by decide) (hts (Cond.fieldLink RX5 41 "ReliefBuilder$Panel" "base" "I") (List.mem_of_getElem? (i := 1) rfl)) (fun _ h9 => h9) rfl dX5_allows_2 ?_
  refine lv_icmp_lt (tgt := 20) hx hb dX5_allows_5 (by decide) (fun hc_1 => ?_) (fun hc_1 => ?_)
  · rw [if_pos hc_1] at hf
    refine lv_iconst (v := 0) hx hb dX5_allows_20 (by decide) ?_
    rw [← Option.some.inj hf]
    exact mc_retz (v := 0) hx hb hr rfl hlk hP hK hD hS dX5_allows_21
  · rw [if_neg hc_1] at hf
    refine lv_iload_n hx hb dX5_allows_8 rfl (lv_at hl 1 rfl) ?_
    refine lv_aload_n hx hb dX5_allows_9 rfl (lv_at hl 0 rfl) ?_
    refine va_get (D := D) (ci := 4) (v := .int (os_I o_this 2)) (C := RX5) (T := TX5) (N := 10) hx hb hUX5 (fun _ h9 => h9) hown hK hP 0 rfl rfl 2 (by decide) (hts (Cond.fieldLink RX5 35 "ReliefBuilder$Panel" "greatest" "I") (List.mem_of_getElem? (i := 2) rfl)) (fun _ h9 => h9) rfl dX5_allows_10 ?_
    refine lv_icmp_gt (tgt := 20) hx hb dX5_allows_13 (by decide) (fun hc_2 => ?_) (fun hc_2 => ?_)
    · rw [if_pos hc_2] at hf
      refine lv_iconst (v := 0) hx hb dX5_allows_20 (by decide) ?_
      rw [← Option.some.inj hf]
      exact mc_retz (v := 0) hx hb hr rfl hlk hP hK hD hS dX5_allows_21
    · rw [if_neg hc_2] at hf
      refine lv_iconst (v := 1) hx hb dX5_allows_16 (by decide) ?_
      refine lv_goto (tgt := 21) hx hb dX5_allows_17 (by decide) ?_
      rw [← Option.some.inj hf]
      exact mc_retz (v := 1) hx hb hr rfl hlk hP hK hD hS dX5_allows_21
def ff_X5_isTone (N : Nat) (a0 : Int32) : Option Int32 :=
  (if a0 < 0 then some (0 : Int32) else (if (255 : Int32) < a0 then some (0 : Int32) else some (1 : Int32)))
set_option maxHeartbeats 4000000 in
set_option maxRecDepth 100000 in
theorem mm_X5_isTone (l : Launch) (D : va_G) (kA : Nat → ClassId) (N : Nat) (a0 : Int32) (out : Int32) (hf : ff_X5_isTone N a0 = some out) : mc_C l D kA yX5_isTone wsX5_isTone ({ frames := 0, cells := 0, slots := 0, locals := 0 } : Room) [.int a0] [] (some (.int out)) [] := by
  refine mc_of (cc := cX5_isTone) (maxL := 1) (ret := (some .boolean)) (by decide) rfl (Nat.le_of_ble_eq_true rfl) ?_
  intro p e s m below meth c A B hD hP hS ls hl
  obtain ⟨hx, hb, hr, hlk, hml, hown, hts, hK, hA, hnm⟩ := B
  have hown : s.vm.findClass RX5 = some m.cls := hown
  have hl : lv_has ls 1 [(0, .int a0)] := hl
  unfold ff_X5_isTone at hf
  refine lv_iload_n hx hb dX5_isTone_0 rfl (lv_at hl 0 rfl) ?_
  refine lv_if_lt (tgt := 15) hx hb dX5_isTone_1 (by decide) (fun hc_1 => ?_) (fun hc_1 => ?_)
  · rw [if_pos hc_1] at hf
    refine lv_iconst (v := 0) hx hb dX5_isTone_15 (by decide) ?_
    rw [← Option.some.inj hf]
    exact mc_retz (v := 0) hx hb hr rfl hlk hP hK hD hS dX5_isTone_16
  · rw [if_neg hc_1] at hf
    refine lv_iload_n hx hb dX5_isTone_4 rfl (lv_at hl 0 rfl) ?_
    refine lv_sipush (v := 255) hx hb dX5_isTone_5 (by decide) ?_
    refine lv_icmp_gt (tgt := 15) hx hb dX5_isTone_8 (by decide) (fun hc_2 => ?_) (fun hc_2 => ?_)
    · rw [if_pos hc_2] at hf
      refine lv_iconst (v := 0) hx hb dX5_isTone_15 (by decide) ?_
      rw [← Option.some.inj hf]
      exact mc_retz (v := 0) hx hb hr rfl hlk hP hK hD hS dX5_isTone_16
    · rw [if_neg hc_2] at hf
      refine lv_iconst (v := 1) hx hb dX5_isTone_11 (by decide) ?_
      refine lv_goto (tgt := 16) hx hb dX5_isTone_12 (by decide) ?_
      rw [← Option.some.inj hf]
      exact mc_retz (v := 1) hx hb hr rfl hlk hP hK hD hS dX5_isTone_16
def ff_X5_heightAt (N : Nat) (o_this : os_T) (a1 : Int32) (a2 : Int32) : Option Int32 :=
  (if a1 < 0 then some (-1 : Int32) else (if (os_I o_this 0) ≤ a1 then some (-1 : Int32) else (if a2 < 0 then some (-1 : Int32) else (if (os_I o_this 1) ≤ a2 then some (-1 : Int32) else (if os_in ((a2 * (16 : Int32)) + a1) 192 then some ((os_A o_this 1) (Int32.toNatClampNeg ((a2 * (16 : Int32)) + a1))) else none)))))
set_option maxHeartbeats 4000000 in
set_option maxRecDepth 100000 in
theorem mm_X5_heightAt (l : Launch) (D : va_G) (kA : Nat → ClassId) (N : Nat) (q_this : Nat → Nat) (o_this : os_T) (a1 : Int32) (a2 : Int32) (out : Int32) (hf : ff_X5_heightAt N o_this a1 a2 = some out) : mc_C l D kA yX5_heightAt wsX5_heightAt ({ frames := 0, cells := 0, slots := 0, locals := 0 } : Room) [.ref (q_this 0), .int a1, .int a2] (ce_X5 kA q_this o_this) (some (.int out)) (ce_X5 kA q_this o_this) := by
  refine mc_of (cc := cX5_heightAt) (maxL := 3) (ret := (some .int)) (by decide) rfl (Nat.le_of_ble_eq_true rfl) ?_
  intro p e s m below meth c A B hD hP hS ls hl
  obtain ⟨hx, hb, hr, hlk, hml, hown, hts, hK, hA, hnm⟩ := B
  have hown : s.vm.findClass RX5 = some m.cls := hown
  have hl : lv_has ls 3 [(0, .ref (q_this 0)), (1, .int a1), (2, .int a2)] := hl
  have hUX5 : ∀ w ∈ u_ws RX5 TX5 10, w.before [.ref (q_this 0), .int a1, .int a2].toArray s = true := fun w h => hts w (List.mem_cons_of_mem _ (List.mem_append_right _ h))
  unfold ff_X5_heightAt at hf
  refine lv_iload_n hx hb dX5_heightAt_0 rfl (lv_at hl 1 rfl) ?_
  refine lv_if_lt (tgt := 38) hx hb dX5_heightAt_1 (by decide) (fun hc_1 => ?_) (fun hc_1 => ?_)
  · rw [if_pos hc_1] at hf
    refine lv_iconst (v := (-1)) hx hb dX5_heightAt_38 (by decide) ?_
    rw [← Option.some.inj hf]
    exact mc_reti hx hb hr hlk hP hK hD hS dX5_heightAt_39
  · rw [if_neg hc_1] at hf
    refine lv_iload_n hx hb dX5_heightAt_4 rfl (lv_at hl 1 rfl) ?_
    refine lv_aload_n hx hb dX5_heightAt_5 rfl (lv_at hl 0 rfl) ?_
    refine va_get (D := D) (ci := 4) (v := .int (os_I o_this 0)) (C := RX5) (T := TX5) (N := 10) hx hb hUX5 (fun _ h9 => h9) hown hK hP 0 rfl rfl 0 (by decide) (hts (Cond.fieldLink RX5 28 "ReliefBuilder$Panel" "width" "I") (List.mem_of_getElem? (i := 1) rfl)) (fun _ h9 => h9) rfl dX5_heightAt_6 ?_
    refine lv_icmp_ge (tgt := 38) hx hb dX5_heightAt_9 (by decide) (fun hc_2 => ?_) (fun hc_2 => ?_)
    · rw [if_pos hc_2] at hf
      refine lv_iconst (v := (-1)) hx hb dX5_heightAt_38 (by decide) ?_
      rw [← Option.some.inj hf]
      exact mc_reti hx hb hr hlk hP hK hD hS dX5_heightAt_39
    · rw [if_neg hc_2] at hf
      refine lv_iload_n hx hb dX5_heightAt_12 rfl (lv_at hl 2 rfl) ?_
      refine lv_if_lt (tgt := 38) hx hb dX5_heightAt_13 (by decide) (fun hc_3 => ?_) (fun hc_3 => ?_)
      · rw [if_pos hc_3] at hf
        refine lv_iconst (v := (-1)) hx hb dX5_heightAt_38 (by decide) ?_
        rw [← Option.some.inj hf]
        exact mc_reti hx hb hr hlk hP hK hD hS dX5_heightAt_39
      · rw [if_neg hc_3] at hf
        refine lv_iload_n hx hb dX5_heightAt_16 rfl (lv_at hl 2 rfl) ?_
        refine lv_aload_n hx hb dX5_heightAt_17 rfl (lv_at hl 0 rfl) ?_
        refine va_get (D := D) (ci := 4) (v := .int (os_I o_this 1)) (C := RX5) (T := TX5) (N := 10) hx hb hUX5 (fun _ h9 => h9) hown hK hP 0 rfl rfl 1 (by decide) (hts (Cond.fieldLink RX5 32 "ReliefBuilder$Panel" "rows" "I") (List.mem_of_getElem? (i := 2) rfl)) (fun _ h9 => h9) rfl dX5_heightAt_18 ?_
        refine lv_icmp_ge (tgt := 38) hx hb dX5_heightAt_21 (by decide) (fun hc_4 => ?_) (fun hc_4 => ?_)
        · rw [if_pos hc_4] at hf
          refine lv_iconst (v := (-1)) hx hb dX5_heightAt_38 (by decide) ?_
          rw [← Option.some.inj hf]
          exact mc_reti hx hb hr hlk hP hK hD hS dX5_heightAt_39
        · rw [if_neg hc_4] at hf
          refine lv_aload_n hx hb dX5_heightAt_24 rfl (lv_at hl 0 rfl) ?_
          refine va_get (D := D) (ci := 4) (v := .ref (q_this 2)) (C := RX5) (T := TX5) (N := 10) hx hb hUX5 (fun _ h9 => h9) hown hK hP 0 rfl rfl 8 (by decide) (hts (Cond.fieldLink RX5 15 "ReliefBuilder$Panel" "heights" "[I") (List.mem_of_getElem? (i := 3) rfl)) (fun _ h9 => h9) rfl dX5_heightAt_25 ?_
          refine lv_iload_n hx hb dX5_heightAt_28 rfl (lv_at hl 2 rfl) ?_
          refine lv_bipush (v := 16) hx hb dX5_heightAt_29 (by decide) ?_
          refine lv_imul hx hb dX5_heightAt_31 ?_
          refine lv_iload_n hx hb dX5_heightAt_32 rfl (lv_at hl 1 rfl) ?_
          refine lv_iadd hx hb dX5_heightAt_33 ?_
          obtain ⟨hi_5, hf⟩ := os_if hf
          refine va_iald hx hb hK hP 2 0 rfl rfl hi_5 dX5_heightAt_34 ?_
          refine lv_goto (tgt := 39) hx hb dX5_heightAt_35 (by decide) ?_
          rw [← Option.some.inj hf]
          exact mc_reti hx hb hr hlk hP hK hD hS dX5_heightAt_39
def ff_X5_reaches (N : Nat) (o_this : os_T) (a1 : Int32) (a2 : Int32) (a3 : Int32) : Option Int32 :=
  (if a1 < 0 then some (0 : Int32) else (if (os_I o_this 0) ≤ a1 then some (0 : Int32) else (if a2 < 0 then some (0 : Int32) else (if (os_I o_this 1) ≤ a2 then some (0 : Int32) else (if os_in ((a2 * (16 : Int32)) + a1) 192 then (if ((os_A o_this 1) (Int32.toNatClampNeg ((a2 * (16 : Int32)) + a1))) < a3 then some (0 : Int32) else some (1 : Int32)) else none)))))
set_option maxHeartbeats 4000000 in
set_option maxRecDepth 100000 in
theorem mm_X5_reaches (l : Launch) (D : va_G) (kA : Nat → ClassId) (N : Nat) (q_this : Nat → Nat) (o_this : os_T) (a1 : Int32) (a2 : Int32) (a3 : Int32) (out : Int32) (hf : ff_X5_reaches N o_this a1 a2 a3 = some out) : mc_C l D kA yX5_reaches wsX5_reaches ({ frames := 0, cells := 0, slots := 0, locals := 0 } : Room) [.ref (q_this 0), .int a1, .int a2, .int a3] (ce_X5 kA q_this o_this) (some (.int out)) (ce_X5 kA q_this o_this) := by
  refine mc_of (cc := cX5_reaches) (maxL := 4) (ret := (some .boolean)) (by decide) rfl (Nat.le_of_ble_eq_true rfl) ?_
  intro p e s m below meth c A B hD hP hS ls hl
  obtain ⟨hx, hb, hr, hlk, hml, hown, hts, hK, hA, hnm⟩ := B
  have hown : s.vm.findClass RX5 = some m.cls := hown
  have hl : lv_has ls 4 [(0, .ref (q_this 0)), (1, .int a1), (2, .int a2), (3, .int a3)] := hl
  have hUX5 : ∀ w ∈ u_ws RX5 TX5 10, w.before [.ref (q_this 0), .int a1, .int a2, .int a3].toArray s = true := fun w h => hts w (List.mem_cons_of_mem _ (List.mem_append_right _ h))
  unfold ff_X5_reaches at hf
  refine lv_iload_n hx hb dX5_reaches_0 rfl (lv_at hl 1 rfl) ?_
  refine lv_if_lt (tgt := 43) hx hb dX5_reaches_1 (by decide) (fun hc_1 => ?_) (fun hc_1 => ?_)
  · rw [if_pos hc_1] at hf
    refine lv_iconst (v := 0) hx hb dX5_reaches_43 (by decide) ?_
    rw [← Option.some.inj hf]
    exact mc_retz (v := 0) hx hb hr rfl hlk hP hK hD hS dX5_reaches_44
  · rw [if_neg hc_1] at hf
    refine lv_iload_n hx hb dX5_reaches_4 rfl (lv_at hl 1 rfl) ?_
    refine lv_aload_n hx hb dX5_reaches_5 rfl (lv_at hl 0 rfl) ?_
    refine va_get (D := D) (ci := 4) (v := .int (os_I o_this 0)) (C := RX5) (T := TX5) (N := 10) hx hb hUX5 (fun _ h9 => h9) hown hK hP 0 rfl rfl 0 (by decide) (hts (Cond.fieldLink RX5 28 "ReliefBuilder$Panel" "width" "I") (List.mem_of_getElem? (i := 1) rfl)) (fun _ h9 => h9) rfl dX5_reaches_6 ?_
    refine lv_icmp_ge (tgt := 43) hx hb dX5_reaches_9 (by decide) (fun hc_2 => ?_) (fun hc_2 => ?_)
    · rw [if_pos hc_2] at hf
      refine lv_iconst (v := 0) hx hb dX5_reaches_43 (by decide) ?_
      rw [← Option.some.inj hf]
      exact mc_retz (v := 0) hx hb hr rfl hlk hP hK hD hS dX5_reaches_44
    · rw [if_neg hc_2] at hf
      refine lv_iload_n hx hb dX5_reaches_12 rfl (lv_at hl 2 rfl) ?_
      refine lv_if_lt (tgt := 43) hx hb dX5_reaches_13 (by decide) (fun hc_3 => ?_) (fun hc_3 => ?_)
      · rw [if_pos hc_3] at hf
        refine lv_iconst (v := 0) hx hb dX5_reaches_43 (by decide) ?_
        rw [← Option.some.inj hf]
        exact mc_retz (v := 0) hx hb hr rfl hlk hP hK hD hS dX5_reaches_44
      · rw [if_neg hc_3] at hf
        refine lv_iload_n hx hb dX5_reaches_16 rfl (lv_at hl 2 rfl) ?_
        refine lv_aload_n hx hb dX5_reaches_17 rfl (lv_at hl 0 rfl) ?_
        refine va_get (D := D) (ci := 4) (v := .int (os_I o_this 1)) (C := RX5) (T := TX5) (N := 10) hx hb hUX5 (fun _ h9 => h9) hown hK hP 0 rfl rfl 1 (by decide) (hts (Cond.fieldLink RX5 32 "ReliefBuilder$Panel" "rows" "I") (List.mem_of_getElem? (i := 2) rfl)) (fun _ h9 => h9) rfl dX5_reaches_18 ?_
        refine lv_icmp_ge (tgt := 43) hx hb dX5_reaches_21 (by decide) (fun hc_4 => ?_) (fun hc_4 => ?_)
        · rw [if_pos hc_4] at hf
          refine lv_iconst (v := 0) hx hb dX5_reaches_43 (by decide) ?_
          rw [← Option.some.inj hf]
          exact mc_retz (v := 0) hx hb hr rfl hlk hP hK hD hS dX5_reaches_44
        · rw [if_neg hc_4] at hf
          refine lv_aload_n hx hb dX5_reaches_24 rfl (lv_at hl 0 rfl) ?_
          refine va_get (D := D) (ci := 4) (v := .ref (q_this 2)) (C := RX5) (T := TX5) (N := 10) hx hb hUX5 (fun _ h9 => h9) hown hK hP 0 rfl rfl 8 (by decide) (hts (Cond.fieldLink RX5 15 "ReliefBuilder$Panel" "heights" "[I") (List.mem_of_getElem? (i := 3) rfl)) (fun _ h9 => h9) rfl dX5_reaches_25 ?_
          refine lv_iload_n hx hb dX5_reaches_28 rfl (lv_at hl 2 rfl) ?_
          refine lv_bipush (v := 16) hx hb dX5_reaches_29 (by decide) ?_
          refine lv_imul hx hb dX5_reaches_31 ?_
          refine lv_iload_n hx hb dX5_reaches_32 rfl (lv_at hl 1 rfl) ?_
          refine lv_iadd hx hb dX5_reaches_33 ?_
          obtain ⟨hi_5, hf⟩ := os_if hf
          refine va_iald hx hb hK hP 2 0 rfl rfl hi_5 dX5_reaches_34 ?_
          refine lv_iload_n hx hb dX5_reaches_35 rfl (lv_at hl 3 rfl) ?_
          refine lv_icmp_lt (tgt := 43) hx hb dX5_reaches_36 (by decide) (fun hc_6 => ?_) (fun hc_6 => ?_)
          · rw [if_pos hc_6] at hf
            refine lv_iconst (v := 0) hx hb dX5_reaches_43 (by decide) ?_
            rw [← Option.some.inj hf]
            exact mc_retz (v := 0) hx hb hr rfl hlk hP hK hD hS dX5_reaches_44
          · rw [if_neg hc_6] at hf
            refine lv_iconst (v := 1) hx hb dX5_reaches_39 (by decide) ?_
            refine lv_goto (tgt := 44) hx hb dX5_reaches_40 (by decide) ?_
            rw [← Option.some.inj hf]
            exact mc_retz (v := 1) hx hb hr rfl hlk hP hK hD hS dX5_reaches_44
def ff_X5_lightAt (N : Nat) (o_this : os_T) (a1 : Int32) (a2 : Int32) (a3 : UInt32) : Option UInt32 :=
  (if a1 < 0 then some a3 else (if (os_I o_this 0) ≤ a1 then some a3 else (if a2 < 0 then some a3 else (if a2 < (os_I o_this 1) then (if os_in ((a2 * (16 : Int32)) + a1) 192 then (if ((os_A o_this 1) (Int32.toNatClampNeg ((a2 * (16 : Int32)) + a1))) < 0 then some a3 else (if (21 : Int32) ≤ ((os_A o_this 1) (Int32.toNatClampNeg ((a2 * (16 : Int32)) + a1))) then some a3 else (if os_in ((os_A o_this 1) (Int32.toNatClampNeg ((a2 * (16 : Int32)) + a1))) 21 then some ((os_F o_this 0) (Int32.toNatClampNeg ((os_A o_this 1) (Int32.toNatClampNeg ((a2 * (16 : Int32)) + a1))))) else none))) else none) else some a3))))
set_option maxHeartbeats 4000000 in
set_option maxRecDepth 100000 in
theorem mm_X5_lightAt (l : Launch) (D : va_G) (kA : Nat → ClassId) (N : Nat) (q_this : Nat → Nat) (o_this : os_T) (a1 : Int32) (a2 : Int32) (a3 : UInt32) (out : UInt32) (hf : ff_X5_lightAt N o_this a1 a2 a3 = some out) : mc_C l D kA yX5_lightAt wsX5_lightAt ({ frames := 0, cells := 0, slots := 0, locals := 0 } : Room) [.ref (q_this 0), .int a1, .int a2, .float a3] (ce_X5 kA q_this o_this) (some (.float out)) (ce_X5 kA q_this o_this) := by
  refine mc_of (cc := cX5_lightAt) (maxL := 5) (ret := (some .float)) (by decide) rfl (Nat.le_of_ble_eq_true rfl) ?_
  intro p e s m below meth c A B hD hP hS ls hl
  obtain ⟨hx, hb, hr, hlk, hml, hown, hts, hK, hA, hnm⟩ := B
  have hown : s.vm.findClass RX5 = some m.cls := hown
  have hl : lv_has ls 5 [(0, .ref (q_this 0)), (1, .int a1), (2, .int a2), (3, .float a3)] := hl
  have hUX5 : ∀ w ∈ u_ws RX5 TX5 10, w.before [.ref (q_this 0), .int a1, .int a2, .float a3].toArray s = true := fun w h => hts w (List.mem_cons_of_mem _ (List.mem_append_right _ h))
  unfold ff_X5_lightAt at hf
  refine lv_iload_n hx hb dX5_lightAt_0 rfl (lv_at hl 1 rfl) ?_
  refine lv_if_lt (tgt := 24) hx hb dX5_lightAt_1 (by decide) (fun hc_1 => ?_) (fun hc_1 => ?_)
  · rw [if_pos hc_1] at hf
    refine lv_fload_n hx hb dX5_lightAt_24 rfl (lv_at hl 3 rfl) ?_
    rw [← Option.some.inj hf]
    exact mc_retf hx hb hr hlk hP hK hD hS dX5_lightAt_25
  · rw [if_neg hc_1] at hf
    refine lv_iload_n hx hb dX5_lightAt_4 rfl (lv_at hl 1 rfl) ?_
    refine lv_aload_n hx hb dX5_lightAt_5 rfl (lv_at hl 0 rfl) ?_
    refine va_get (D := D) (ci := 4) (v := .int (os_I o_this 0)) (C := RX5) (T := TX5) (N := 10) hx hb hUX5 (fun _ h9 => h9) hown hK hP 0 rfl rfl 0 (by decide) (hts (Cond.fieldLink RX5 28 "ReliefBuilder$Panel" "width" "I") (List.mem_of_getElem? (i := 1) rfl)) (fun _ h9 => h9) rfl dX5_lightAt_6 ?_
    refine lv_icmp_ge (tgt := 24) hx hb dX5_lightAt_9 (by decide) (fun hc_2 => ?_) (fun hc_2 => ?_)
    · rw [if_pos hc_2] at hf
      refine lv_fload_n hx hb dX5_lightAt_24 rfl (lv_at hl 3 rfl) ?_
      rw [← Option.some.inj hf]
      exact mc_retf hx hb hr hlk hP hK hD hS dX5_lightAt_25
    · rw [if_neg hc_2] at hf
      refine lv_iload_n hx hb dX5_lightAt_12 rfl (lv_at hl 2 rfl) ?_
      refine lv_if_lt (tgt := 24) hx hb dX5_lightAt_13 (by decide) (fun hc_3 => ?_) (fun hc_3 => ?_)
      · rw [if_pos hc_3] at hf
        refine lv_fload_n hx hb dX5_lightAt_24 rfl (lv_at hl 3 rfl) ?_
        rw [← Option.some.inj hf]
        exact mc_retf hx hb hr hlk hP hK hD hS dX5_lightAt_25
      · rw [if_neg hc_3] at hf
        refine lv_iload_n hx hb dX5_lightAt_16 rfl (lv_at hl 2 rfl) ?_
        refine lv_aload_n hx hb dX5_lightAt_17 rfl (lv_at hl 0 rfl) ?_
        refine va_get (D := D) (ci := 4) (v := .int (os_I o_this 1)) (C := RX5) (T := TX5) (N := 10) hx hb hUX5 (fun _ h9 => h9) hown hK hP 0 rfl rfl 1 (by decide) (hts (Cond.fieldLink RX5 32 "ReliefBuilder$Panel" "rows" "I") (List.mem_of_getElem? (i := 2) rfl)) (fun _ h9 => h9) rfl dX5_lightAt_18 ?_
        refine lv_icmp_lt (tgt := 26) hx hb dX5_lightAt_21 (by decide) (fun hc_4 => ?_) (fun hc_4 => ?_)
        · rw [if_pos hc_4] at hf
          refine lv_aload_n hx hb dX5_lightAt_26 rfl (lv_at hl 0 rfl) ?_
          refine va_get (D := D) (ci := 4) (v := .ref (q_this 2)) (C := RX5) (T := TX5) (N := 10) hx hb hUX5 (fun _ h9 => h9) hown hK hP 0 rfl rfl 8 (by decide) (hts (Cond.fieldLink RX5 15 "ReliefBuilder$Panel" "heights" "[I") (List.mem_of_getElem? (i := 3) rfl)) (fun _ h9 => h9) rfl dX5_lightAt_27 ?_
          refine lv_iload_n hx hb dX5_lightAt_30 rfl (lv_at hl 2 rfl) ?_
          refine lv_bipush (v := 16) hx hb dX5_lightAt_31 (by decide) ?_
          refine lv_imul hx hb dX5_lightAt_33 ?_
          refine lv_iload_n hx hb dX5_lightAt_34 rfl (lv_at hl 1 rfl) ?_
          refine lv_iadd hx hb dX5_lightAt_35 ?_
          obtain ⟨hi_5, hf⟩ := os_if hf
          refine va_iald hx hb hK hP 2 0 rfl rfl hi_5 dX5_lightAt_36 ?_
          refine lv_istore (lv' := [(4, .int ((os_A o_this 1) (Int32.toNatClampNeg ((a2 * (16 : Int32)) + a1)))), (0, .ref (q_this 0)), (1, .int a1), (2, .int a2), (3, .float a3)]) hx hb dX5_lightAt_37 hl (by decide) rfl (fun ls hl => ?_)
          refine lv_iload hx hb dX5_lightAt_39 (lv_at hl 0 rfl) ?_
          refine lv_if_lt (tgt := 64) hx hb dX5_lightAt_41 (by decide) (fun hc_6 => ?_) (fun hc_6 => ?_)
          · rw [if_pos hc_6] at hf
            refine lv_fload_n hx hb dX5_lightAt_64 rfl (lv_at hl 4 rfl) ?_
            rw [← Option.some.inj hf]
            exact mc_retf hx hb hr hlk hP hK hD hS dX5_lightAt_65
          · rw [if_neg hc_6] at hf
            refine lv_iload hx hb dX5_lightAt_44 (lv_at hl 0 rfl) ?_
            refine lv_aload_n hx hb dX5_lightAt_46 rfl (lv_at hl 1 rfl) ?_
            refine va_get (D := D) (ci := 4) (v := .ref (q_this 3)) (C := RX5) (T := TX5) (N := 10) hx hb hUX5 (fun _ h9 => h9) hown hK hP 0 rfl rfl 9 (by decide) (hts (Cond.fieldLink RX5 18 "ReliefBuilder$Panel" "lights" "[F") (List.mem_of_getElem? (i := 4) rfl)) (fun _ h9 => h9) rfl dX5_lightAt_47 ?_
            refine va_alen (v := 21) hx hb hK hP 3 3 rfl rfl rfl dX5_lightAt_50 ?_
            refine lv_icmp_ge (tgt := 64) hx hb dX5_lightAt_51 (by decide) (fun hc_7 => ?_) (fun hc_7 => ?_)
            · rw [if_pos hc_7] at hf
              refine lv_fload_n hx hb dX5_lightAt_64 rfl (lv_at hl 4 rfl) ?_
              rw [← Option.some.inj hf]
              exact mc_retf hx hb hr hlk hP hK hD hS dX5_lightAt_65
            · rw [if_neg hc_7] at hf
              refine lv_aload_n hx hb dX5_lightAt_54 rfl (lv_at hl 1 rfl) ?_
              refine va_get (D := D) (ci := 4) (v := .ref (q_this 3)) (C := RX5) (T := TX5) (N := 10) hx hb hUX5 (fun _ h9 => h9) hown hK hP 0 rfl rfl 9 (by decide) (hts (Cond.fieldLink RX5 18 "ReliefBuilder$Panel" "lights" "[F") (List.mem_of_getElem? (i := 4) rfl)) (fun _ h9 => h9) rfl dX5_lightAt_55 ?_
              refine lv_iload hx hb dX5_lightAt_58 (lv_at hl 0 rfl) ?_
              obtain ⟨hi_8, hf⟩ := os_if hf
              refine va_fald hx hb hK hP 3 3 rfl rfl hi_8 dX5_lightAt_60 ?_
              refine lv_goto (tgt := 65) hx hb dX5_lightAt_61 (by decide) ?_
              rw [← Option.some.inj hf]
              exact mc_retf hx hb hr hlk hP hK hD hS dX5_lightAt_65
        · rw [if_neg hc_4] at hf
          refine lv_fload_n hx hb dX5_lightAt_24 rfl (lv_at hl 3 rfl) ?_
          rw [← Option.some.inj hf]
          exact mc_retf hx hb hr hlk hP hK hD hS dX5_lightAt_25
def ff_X5_dye (N : Nat) (o_this : os_T) (a1 : Int32) (a2 : Int32) (a3 : Int32) : Option os_T :=
  ((ff_X5_has N o_this a1 a2).bind fun u_1 => (if u_1 = 0 then some o_this else (if os_in ((a2 * (16 : Int32)) + a1) 192 then some (ss_A o_this 0 (upd (os_A o_this 0) (Int32.toNatClampNeg ((a2 * (16 : Int32)) + a1)) a3)) else none)))
set_option maxHeartbeats 4000000 in
set_option maxRecDepth 100000 in
theorem mm_X5_dye (l : Launch) (D : va_G) (kA : Nat → ClassId) (N : Nat) (q_this : Nat → Nat) (o_this : os_T) (a1 : Int32) (a2 : Int32) (a3 : Int32) (out : os_T) (hf : ff_X5_dye N o_this a1 a2 a3 = some out) : mc_C l D kA yX5_dye wsX5_dye ({ frames := 1, cells := 0, slots := 0, locals := 22 } : Room) [.ref (q_this 0), .int a1, .int a2, .int a3] (ce_X5 kA q_this o_this) none (ce_X5 kA q_this out) := by
  refine mc_of (cc := cX5_dye) (maxL := 4) (ret := none) (by decide) rfl (Nat.le_of_ble_eq_true rfl) ?_
  intro p e s m below meth c A B hD hP hS ls hl
  obtain ⟨hx, hb, hr, hlk, hml, hown, hts, hK, hA, hnm⟩ := B
  have hown : s.vm.findClass RX5 = some m.cls := hown
  have hl : lv_has ls 4 [(0, .ref (q_this 0)), (1, .int a1), (2, .int a2), (3, .int a3)] := hl
  have hUX5 : ∀ w ∈ u_ws RX5 TX5 10, w.before [.ref (q_this 0), .int a1, .int a2, .int a3].toArray s = true := fun w h => hts w (List.mem_cons_of_mem _ (List.mem_append_right _ h))
  unfold ff_X5_dye at hf
  refine lv_aload_n hx hb dX5_dye_0 rfl (lv_at hl 0 rfl) ?_
  refine lv_iload_n hx hb dX5_dye_1 rfl (lv_at hl 1 rfl) ?_
  refine lv_iload_n hx hb dX5_dye_2 rfl (lv_at hl 2 rfl) ?_
  obtain ⟨u_1, he_2, hf⟩ := os_bd hf
  refine mc_callV ⟨hx, hb, hml, hown, hts⟩ (mm_X5_has l D kA N q_this o_this a1 a2 u_1 he_2) (cwV 2 hts gX5_dye_X5_has rfl rfl rfl (by decide +kernel) ⟨Nat.le_of_ble_eq_true rfl, Nat.le_of_ble_eq_true rfl⟩) (wc := (ce_X5 kA q_this o_this)) (ci := 4) (q0 := 0) rfl rfl rfl hl.1 (As := [.int a1, .int a2]) (rest := []) rfl (Nat.le_of_ble_eq_true rfl) dX5_dye_3 ⟨Nat.le_of_ble_eq_true rfl, Nat.le_of_ble_eq_true rfl⟩ hK hP hD hS hA [0, 1, 2, 3] [] [0, 1, 2, 3] rfl (by decide) rfl (by decide) (by decide) rfl (by decide) (wr := []) (w2 := (ce_X5 kA q_this o_this)) (fun H locs hP hD hS => ?_)
  have hP : va_P D vwCl (ce_X5 kA q_this o_this) H := hP
  refine lv_if_eq (tgt := 21) hx hb dX5_dye_6 (by decide) (fun hc_3 => ?_) (fun hc_3 => ?_)
  · rw [if_pos hc_3] at hf
    rw [← Option.some.inj hf]
    exact mc_retv hx hb hr hlk hP hK hD hS dX5_dye_21
  · rw [if_neg hc_3] at hf
    refine lv_aload_n hx hb dX5_dye_9 rfl (lv_at hl 0 rfl) ?_
    refine va_get (D := D) (ci := 4) (v := .ref (q_this 1)) (C := RX5) (T := TX5) (N := 10) hx hb hUX5 (fun _ h9 => h9) hown hK hP 0 rfl rfl 7 (by decide) (hts (Cond.fieldLink RX5 9 "ReliefBuilder$Panel" "tones" "[I") (List.mem_of_getElem? (i := 1) rfl)) (fun _ h9 => h9) rfl dX5_dye_10 ?_
    refine lv_iload_n hx hb dX5_dye_13 rfl (lv_at hl 2 rfl) ?_
    refine lv_bipush (v := 16) hx hb dX5_dye_14 (by decide) ?_
    refine lv_imul hx hb dX5_dye_16 ?_
    refine lv_iload_n hx hb dX5_dye_17 rfl (lv_at hl 1 rfl) ?_
    refine lv_iadd hx hb dX5_dye_18 ?_
    refine lv_iload_n hx hb dX5_dye_19 rfl (lv_at hl 3 rfl) ?_
    obtain ⟨hi_4, hf⟩ := os_if hf
    refine va_iast hx hb hK hP hD hS 1 0 rfl rfl hi_4 dX5_dye_20 (fun H locs hP hD hS => ?_)
    have hP : va_P D vwCl (ce_X5 kA q_this (ss_A o_this 0 (upd (os_A o_this 0) (Int32.toNatClampNeg ((a2 * (16 : Int32)) + a1)) a3))) H := hP
    have hD : va_D A (ce_X5 kA q_this (ss_A o_this 0 (upd (os_A o_this 0) (Int32.toNatClampNeg ((a2 * (16 : Int32)) + a1)) a3))) := hD
    rw [← Option.some.inj hf]
    exact mc_retv hx hb hr hlk hP hK hD hS dX5_dye_21
def ff_X5_paint (N : Nat) (o_this : os_T) (a1 : Int32) (a2 : Int32) (a3 : Int32) : Option os_T :=
  ((ff_X5_dye N o_this a1 a2 a3).bind fun u_1 => ((ff_X5_wish N a3).bind fun u_3 => ((ff_X5_stepFor N u_1 u_3).bind fun u_5 => ((ff_X5_build N u_1 a1 a2 u_5).bind fun u_7 => some u_7.2))))
set_option maxHeartbeats 4000000 in
set_option maxRecDepth 100000 in
theorem mm_X5_paint (l : Launch) (D : va_G) (kA : Nat → ClassId) (N : Nat) (q_this : Nat → Nat) (o_this : os_T) (a1 : Int32) (a2 : Int32) (a3 : Int32) (out : os_T) (hf : ff_X5_paint N o_this a1 a2 a3 = some out) : mc_C l D kA yX5_paint wsX5_paint ({ frames := 2, cells := 0, slots := 0, locals := 46 } : Room) [.ref (q_this 0), .int a1, .int a2, .int a3] (ce_X5 kA q_this o_this) none (ce_X5 kA q_this out) := by
  refine mc_of (cc := cX5_paint) (maxL := 4) (ret := none) (by decide) rfl (Nat.le_of_ble_eq_true rfl) ?_
  intro p e s m below meth c A B hD hP hS ls hl
  obtain ⟨hx, hb, hr, hlk, hml, hown, hts, hK, hA, hnm⟩ := B
  have hown : s.vm.findClass RX5 = some m.cls := hown
  have hl : lv_has ls 4 [(0, .ref (q_this 0)), (1, .int a1), (2, .int a2), (3, .int a3)] := hl
  unfold ff_X5_paint at hf
  refine lv_aload_n hx hb dX5_paint_0 rfl (lv_at hl 0 rfl) ?_
  refine lv_iload_n hx hb dX5_paint_1 rfl (lv_at hl 1 rfl) ?_
  refine lv_iload_n hx hb dX5_paint_2 rfl (lv_at hl 2 rfl) ?_
  refine lv_iload_n hx hb dX5_paint_3 rfl (lv_at hl 3 rfl) ?_
  obtain ⟨u_1, he_2, hf⟩ := os_bd hf
  refine mc_callV ⟨hx, hb, hml, hown, hts⟩ (mm_X5_dye l D kA N q_this o_this a1 a2 a3 u_1 he_2) (cwV 3 hts gX5_paint_X5_dye rfl rfl rfl (by decide +kernel) ⟨Nat.le_of_ble_eq_true rfl, Nat.le_of_ble_eq_true rfl⟩) (wc := (ce_X5 kA q_this o_this)) (ci := 4) (q0 := 0) rfl rfl rfl hl.1 (As := [.int a1, .int a2, .int a3]) (rest := []) rfl (Nat.le_of_ble_eq_true rfl) dX5_paint_4 ⟨Nat.le_of_ble_eq_true rfl, Nat.le_of_ble_eq_true rfl⟩ hK hP hD hS hA [0, 1, 2, 3] [] [0, 1, 2, 3] rfl (by decide) rfl (by decide) (by decide) rfl (by decide) (wr := []) (w2 := (ce_X5 kA q_this u_1)) (fun H locs hP hD hS => ?_)
  have hP : va_P D vwCl (ce_X5 kA q_this u_1) H := hP
  refine lv_aload_n hx hb dX5_paint_7 rfl (lv_at hl 0 rfl) ?_
  refine lv_iload_n hx hb dX5_paint_8 rfl (lv_at hl 1 rfl) ?_
  refine lv_iload_n hx hb dX5_paint_9 rfl (lv_at hl 2 rfl) ?_
  refine lv_aload_n hx hb dX5_paint_10 rfl (lv_at hl 0 rfl) ?_
  refine lv_iload_n hx hb dX5_paint_11 rfl (lv_at hl 3 rfl) ?_
  obtain ⟨u_3, he_4, hf⟩ := os_bd hf
  refine mc_callS ⟨hx, hb, hml, hown, hts⟩ (mm_X5_wish l D kA N a3 u_3 he_4) (va_cwS 1 hts gX5_paint_X5_wish rfl rfl rfl (by decide +kernel) ⟨Nat.le_of_ble_eq_true rfl, Nat.le_of_ble_eq_true rfl⟩) (wc := []) rfl hl.1 (As := [.int a3]) (rest := [.ref (q_this 0), .int a2, .int a1, .ref (q_this 0)]) rfl (Nat.le_of_ble_eq_true rfl) dX5_paint_12 ⟨Nat.le_of_ble_eq_true rfl, Nat.le_of_ble_eq_true rfl⟩ hK hP hD hS hA [] [0, 1, 2, 3] [0, 1, 2, 3] rfl (by decide) rfl (by decide) (by decide) rfl (by decide) (wr := (ce_X5 kA q_this u_1)) (w2 := (ce_X5 kA q_this u_1)) (fun H locs hP hD hS => ?_)
  have hP : va_P D vwCl (ce_X5 kA q_this u_1) H := hP
  obtain ⟨u_5, he_6, hf⟩ := os_bd hf
  refine mc_callV ⟨hx, hb, hml, hown, hts⟩ (mm_X5_stepFor l D kA N q_this u_1 u_3 u_5 he_6) (cwV 1 hts gX5_paint_X5_stepFor rfl rfl rfl (by decide +kernel) ⟨Nat.le_of_ble_eq_true rfl, Nat.le_of_ble_eq_true rfl⟩) (wc := (ce_X5 kA q_this u_1)) (ci := 4) (q0 := 0) rfl rfl rfl hl.1 (As := [.float u_3]) (rest := [.int a2, .int a1, .ref (q_this 0)]) rfl (Nat.le_of_ble_eq_true rfl) dX5_paint_15 ⟨Nat.le_of_ble_eq_true rfl, Nat.le_of_ble_eq_true rfl⟩ hK hP hD hS hA [0, 1, 2, 3] [] [0, 1, 2, 3] rfl (by decide) rfl (by decide) (by decide) rfl (by decide) (wr := []) (w2 := (ce_X5 kA q_this u_1)) (fun H locs hP hD hS => ?_)
  have hP : va_P D vwCl (ce_X5 kA q_this u_1) H := hP
  obtain ⟨u_7, he_8, hf⟩ := os_bd hf
  refine mc_callV ⟨hx, hb, hml, hown, hts⟩ (mm_X5_build l D kA N q_this u_1 a1 a2 u_5 u_7 he_8) (cwV 3 hts gX5_paint_X5_build rfl rfl rfl (by decide +kernel) ⟨Nat.le_of_ble_eq_true rfl, Nat.le_of_ble_eq_true rfl⟩) (wc := (ce_X5 kA q_this u_1)) (ci := 4) (q0 := 0) rfl rfl rfl hl.1 (As := [.int a1, .int a2, .int u_5]) (rest := []) rfl (Nat.le_of_ble_eq_true rfl) dX5_paint_18 ⟨Nat.le_of_ble_eq_true rfl, Nat.le_of_ble_eq_true rfl⟩ hK hP hD hS hA [0, 1, 2, 3] [] [0, 1, 2, 3] rfl (by decide) rfl (by decide) (by decide) rfl (by decide) (wr := []) (w2 := (ce_X5 kA q_this u_7.2)) (fun H locs hP hD hS => ?_)
  have hP : va_P D vwCl (ce_X5 kA q_this u_7.2) H := hP
  refine lv_pop hx hb dX5_paint_21 rfl ?_
  rw [← Option.some.inj hf]
  exact mc_retv hx hb hr hlk hP hK hD hS dX5_paint_22
def ff_X5_cover_c16 (N : Nat) (k6 : (os_T × Int32 × Int32 × Int32 × Int32 × Int32 × Int32 × Int32) → Option (Int32 × os_T)) (k16 : (os_T × Int32 × Int32 × Int32 × Int32 × Int32 × Int32 × Int32 × Int32) → Option (Int32 × os_T)) (o_this : os_T) (x1 : Int32) (x2 : Int32) (x3 : Int32) (x4 : Int32) (x5 : Int32) (x6 : Int32) (x7 : Int32) (x8 : Int32) : Option (Int32 × os_T) :=
  (if x3 ≤ x8 then k6 (o_this, x1, x2, x3, x4, x5, x6, x7 + 1) else ((ff_X5_build N o_this (x1 + x8) (x2 + x7) x5).bind fun u_3 => k16 (u_3.2, x1, x2, x3, x4, x5, x6 + u_3.1, x7, x8 + 1)))
def ff_X5_cover_l16 (N : Nat) (k6 : (os_T × Int32 × Int32 × Int32 × Int32 × Int32 × Int32 × Int32) → Option (Int32 × os_T)) : Nat → (os_T × Int32 × Int32 × Int32 × Int32 × Int32 × Int32 × Int32 × Int32) → Option (Int32 × os_T) := os_loop (fun k16 s1 => ff_X5_cover_c16 N k6 k16 s1.1 s1.2.1 s1.2.2.1 s1.2.2.2.1 s1.2.2.2.2.1 s1.2.2.2.2.2.1 s1.2.2.2.2.2.2.1 s1.2.2.2.2.2.2.2.1 s1.2.2.2.2.2.2.2.2)
def ff_X5_cover_c6 (N : Nat) (k6 : (os_T × Int32 × Int32 × Int32 × Int32 × Int32 × Int32 × Int32) → Option (Int32 × os_T)) (o_this : os_T) (x1 : Int32) (x2 : Int32) (x3 : Int32) (x4 : Int32) (x5 : Int32) (x6 : Int32) (x7 : Int32) : Option (Int32 × os_T) :=
  (if x4 ≤ x7 then some (x6, o_this) else ff_X5_cover_l16 N k6 N (o_this, x1, x2, x3, x4, x5, x6, x7, (0 : Int32)))
def ff_X5_cover_l6 (N : Nat) : Nat → (os_T × Int32 × Int32 × Int32 × Int32 × Int32 × Int32 × Int32) → Option (Int32 × os_T) := os_loop (fun k6 s1 => ff_X5_cover_c6 N k6 s1.1 s1.2.1 s1.2.2.1 s1.2.2.2.1 s1.2.2.2.2.1 s1.2.2.2.2.2.1 s1.2.2.2.2.2.2.1 s1.2.2.2.2.2.2.2)
def ff_X5_cover (N : Nat) (o_this : os_T) (a1 : Int32) (a2 : Int32) (a3 : Int32) (a4 : Int32) (a5 : Int32) : Option (Int32 × os_T) :=
  ff_X5_cover_l6 N N (o_this, a1, a2, a3, a4, a5, (0 : Int32), (0 : Int32))
set_option maxHeartbeats 4000000 in
set_option maxRecDepth 100000 in
theorem mm_X5_cover (l : Launch) (D : va_G) (kA : Nat → ClassId) (N : Nat) (q_this : Nat → Nat) (o_this : os_T) (a1 : Int32) (a2 : Int32) (a3 : Int32) (a4 : Int32) (a5 : Int32) (out : (Int32 × os_T)) (hf : ff_X5_cover N o_this a1 a2 a3 a4 a5 = some out) : mc_C l D kA yX5_cover wsX5_cover ({ frames := 2, cells := 0, slots := 0, locals := 45 } : Room) [.ref (q_this 0), .int a1, .int a2, .int a3, .int a4, .int a5] (ce_X5 kA q_this o_this) (some (.int out.1)) (ce_X5 kA q_this out.2) := by
  refine mc_of (cc := cX5_cover) (maxL := 9) (ret := (some .int)) (by decide) rfl (Nat.le_of_ble_eq_true rfl) ?_
  intro p e s m below meth c A B hD hP hS ls hl
  obtain ⟨hx, hb, hr, hlk, hml, hown, hts, hK, hA, hnm⟩ := B
  have hown : s.vm.findClass RX5 = some m.cls := hown
  have hl : lv_has ls 9 [(0, .ref (q_this 0)), (1, .int a1), (2, .int a2), (3, .int a3), (4, .int a4), (5, .int a5)] := hl
  have hL16 : ∀ (k6 : (os_T × Int32 × Int32 × Int32 × Int32 × Int32 × Int32 × Int32) → Option (Int32 × os_T)), (∀ (o_this : os_T) (x1 : Int32) (x2 : Int32) (x3 : Int32) (x4 : Int32) (x5 : Int32) (x6 : Int32) (x7 : Int32) (H : Heap) (locs : List Loc) (ls : Array Slot), va_P D vwCl (ce_X5 kA q_this o_this) H → va_D A (ce_X5 kA q_this o_this) → va_S A s.heap H locs → lv_has ls 9 [(0, .ref (q_this 0)), (1, .int x1), (2, .int x2), (3, .int x3), (4, .int x4), (5, .int x5), (6, .int x6), (7, .int x7)] → k6 (o_this, x1, x2, x3, x4, x5, x6, x7) = some out → W p l e ({ frames := 2, cells := 0, slots := 0, locals := 45 } : Room) s m [.ref (q_this 0), .int a1, .int a2, .int a3, .int a4, .int a5].toArray below meth c H locs 0 0 (MQ below (mc_Q D kA A (some (.int out.1)) (ce_X5 kA q_this out.2)) [.ref (q_this 0), .int a1, .int a2, .int a3, .int a4, .int a5].toArray s 0 0 A) (F0 m 6 ls [])) → ∀ (n : Nat) (o_this : os_T) (x1 : Int32) (x2 : Int32) (x3 : Int32) (x4 : Int32) (x5 : Int32) (x6 : Int32) (x7 : Int32) (x8 : Int32) (H : Heap) (locs : List Loc) (ls : Array Slot), va_P D vwCl (ce_X5 kA q_this o_this) H → va_D A (ce_X5 kA q_this o_this) → va_S A s.heap H locs → lv_has ls 9 [(0, .ref (q_this 0)), (1, .int x1), (2, .int x2), (3, .int x3), (4, .int x4), (5, .int x5), (6, .int x6), (7, .int x7), (8, .int x8)] → ff_X5_cover_l16 N k6 n (o_this, x1, x2, x3, x4, x5, x6, x7, x8) = some out → W p l e ({ frames := 2, cells := 0, slots := 0, locals := 45 } : Room) s m [.ref (q_this 0), .int a1, .int a2, .int a3, .int a4, .int a5].toArray below meth c H locs 0 0 (MQ below (mc_Q D kA A (some (.int out.1)) (ce_X5 kA q_this out.2)) [.ref (q_this 0), .int a1, .int a2, .int a3, .int a4, .int a5].toArray s 0 0 A) (F0 m 16 ls []) := by
    intro k6 hk6 n
    induction n with
    | zero => intro o_this x1 x2 x3 x4 x5 x6 x7 x8 H locs ls _ _ _ _ hf; cases hf
    | succ n hk16 =>
      intro o_this x1 x2 x3 x4 x5 x6 x7 x8 H locs ls hP hD hS hl hf
      have hf : ff_X5_cover_c16 N k6 (ff_X5_cover_l16 N k6 n) o_this x1 x2 x3 x4 x5 x6 x7 x8 = some out := hf
      generalize hke : ff_X5_cover_l16 N k6 n = k16 at hk16 hf
      unfold ff_X5_cover_c16 at hf
      refine lv_iload hx hb dX5_cover_16 (lv_at hl 8 rfl) ?_
      refine lv_iload_n hx hb dX5_cover_18 rfl (lv_at hl 3 rfl) ?_
      refine lv_icmp_ge (tgt := 47) hx hb dX5_cover_19 (by decide) (fun hc_2 => ?_) (fun hc_2 => ?_)
      · rw [if_pos hc_2] at hf
        refine lv_iinc (v := x7 + 1) (lv' := [(7, .int (x7 + 1)), (0, .ref (q_this 0)), (1, .int x1), (2, .int x2), (3, .int x3), (4, .int x4), (5, .int x5), (6, .int x6), (8, .int x8)]) hx hb dX5_cover_47 hl (k := 7) rfl rfl (by decide) rfl (fun ls hl => ?_)
        refine lv_goto (tgt := 6) hx hb dX5_cover_50 (by decide) ?_
        exact hk6 o_this x1 x2 x3 x4 x5 x6 (x7 + 1) _ _ _ hP hD hS (lv_sub hl [1, 2, 3, 4, 5, 6, 7, 0] rfl) hf
      · rw [if_neg hc_2] at hf
        refine lv_iload hx hb dX5_cover_22 (lv_at hl 6 rfl) ?_
        refine lv_aload_n hx hb dX5_cover_24 rfl (lv_at hl 0 rfl) ?_
        refine lv_iload_n hx hb dX5_cover_25 rfl (lv_at hl 1 rfl) ?_
        refine lv_iload hx hb dX5_cover_26 (lv_at hl 8 rfl) ?_
        refine lv_iadd hx hb dX5_cover_28 ?_
        refine lv_iload_n hx hb dX5_cover_29 rfl (lv_at hl 2 rfl) ?_
        refine lv_iload hx hb dX5_cover_30 (lv_at hl 7 rfl) ?_
        refine lv_iadd hx hb dX5_cover_32 ?_
        refine lv_iload hx hb dX5_cover_33 (lv_at hl 5 rfl) ?_
        obtain ⟨u_3, he_4, hf⟩ := os_bd hf
        refine mc_callV ⟨hx, hb, hml, hown, hts⟩ (mm_X5_build l D kA N q_this o_this (x1 + x8) (x2 + x7) x5 u_3 he_4) (cwV 3 hts gX5_cover_X5_build rfl rfl rfl (by decide +kernel) ⟨Nat.le_of_ble_eq_true rfl, Nat.le_of_ble_eq_true rfl⟩) (wc := (ce_X5 kA q_this o_this)) (ci := 4) (q0 := 0) rfl rfl rfl hl.1 (As := [.int (x1 + x8), .int (x2 + x7), .int x5]) (rest := [.int x6]) rfl (Nat.le_of_ble_eq_true rfl) dX5_cover_35 ⟨Nat.le_of_ble_eq_true rfl, Nat.le_of_ble_eq_true rfl⟩ hK hP hD hS hA [0, 1, 2, 3] [] [0, 1, 2, 3] rfl (by decide) rfl (by decide) (by decide) rfl (by decide) (wr := []) (w2 := (ce_X5 kA q_this u_3.2)) (fun H locs hP hD hS => ?_)
        have hP : va_P D vwCl (ce_X5 kA q_this u_3.2) H := hP
        refine lv_iadd hx hb dX5_cover_38 ?_
        refine lv_istore (lv' := [(6, .int (x6 + u_3.1)), (0, .ref (q_this 0)), (1, .int x1), (2, .int x2), (3, .int x3), (4, .int x4), (5, .int x5), (7, .int x7), (8, .int x8)]) hx hb dX5_cover_39 hl (by decide) rfl (fun ls hl => ?_)
        refine lv_iinc (v := x8 + 1) (lv' := [(8, .int (x8 + 1)), (6, .int (x6 + u_3.1)), (0, .ref (q_this 0)), (1, .int x1), (2, .int x2), (3, .int x3), (4, .int x4), (5, .int x5), (7, .int x7)]) hx hb dX5_cover_41 hl (k := 8) rfl rfl (by decide) rfl (fun ls hl => ?_)
        refine lv_goto (tgt := 16) hx hb dX5_cover_44 (by decide) ?_
        exact hk16 u_3.2 x1 x2 x3 x4 x5 (x6 + u_3.1) x7 (x8 + 1) _ _ _ hP hD hS (lv_sub hl [2, 3, 4, 5, 6, 7, 1, 8, 0] rfl) hf
  have hL6 : ∀ (n : Nat) (o_this : os_T) (x1 : Int32) (x2 : Int32) (x3 : Int32) (x4 : Int32) (x5 : Int32) (x6 : Int32) (x7 : Int32) (H : Heap) (locs : List Loc) (ls : Array Slot), va_P D vwCl (ce_X5 kA q_this o_this) H → va_D A (ce_X5 kA q_this o_this) → va_S A s.heap H locs → lv_has ls 9 [(0, .ref (q_this 0)), (1, .int x1), (2, .int x2), (3, .int x3), (4, .int x4), (5, .int x5), (6, .int x6), (7, .int x7)] → ff_X5_cover_l6 N n (o_this, x1, x2, x3, x4, x5, x6, x7) = some out → W p l e ({ frames := 2, cells := 0, slots := 0, locals := 45 } : Room) s m [.ref (q_this 0), .int a1, .int a2, .int a3, .int a4, .int a5].toArray below meth c H locs 0 0 (MQ below (mc_Q D kA A (some (.int out.1)) (ce_X5 kA q_this out.2)) [.ref (q_this 0), .int a1, .int a2, .int a3, .int a4, .int a5].toArray s 0 0 A) (F0 m 6 ls []) := by
    intro n
    induction n with
    | zero => intro o_this x1 x2 x3 x4 x5 x6 x7 H locs ls _ _ _ _ hf; cases hf
    | succ n hk6 =>
      intro o_this x1 x2 x3 x4 x5 x6 x7 H locs ls hP hD hS hl hf
      have hf : ff_X5_cover_c6 N (ff_X5_cover_l6 N n) o_this x1 x2 x3 x4 x5 x6 x7 = some out := hf
      generalize hke : ff_X5_cover_l6 N n = k6 at hk6 hf
      unfold ff_X5_cover_c6 at hf
      refine lv_iload hx hb dX5_cover_6 (lv_at hl 7 rfl) ?_
      refine lv_iload hx hb dX5_cover_8 (lv_at hl 4 rfl) ?_
      refine lv_icmp_ge (tgt := 53) hx hb dX5_cover_10 (by decide) (fun hc_1 => ?_) (fun hc_1 => ?_)
      · rw [if_pos hc_1] at hf
        refine lv_iload hx hb dX5_cover_53 (lv_at hl 6 rfl) ?_
        rw [← Option.some.inj hf]
        exact mc_reti hx hb hr hlk hP hK hD hS dX5_cover_55
      · rw [if_neg hc_1] at hf
        refine lv_iconst (v := 0) hx hb dX5_cover_13 (by decide) ?_
        refine lv_istore (lv' := [(8, .int (0 : Int32)), (0, .ref (q_this 0)), (1, .int x1), (2, .int x2), (3, .int x3), (4, .int x4), (5, .int x5), (6, .int x6), (7, .int x7)]) hx hb dX5_cover_14 hl (by decide) rfl (fun ls hl => ?_)
        exact hL16 k6 hk6 N o_this x1 x2 x3 x4 x5 x6 x7 (0 : Int32) _ _ _ hP hD hS (lv_sub hl [1, 2, 3, 4, 5, 6, 7, 8, 0] rfl) hf
  unfold ff_X5_cover at hf
  refine lv_iconst (v := 0) hx hb dX5_cover_0 (by decide) ?_
  refine lv_istore (lv' := [(6, .int (0 : Int32)), (0, .ref (q_this 0)), (1, .int a1), (2, .int a2), (3, .int a3), (4, .int a4), (5, .int a5)]) hx hb dX5_cover_1 hl (by decide) rfl (fun ls hl => ?_)
  refine lv_iconst (v := 0) hx hb dX5_cover_3 (by decide) ?_
  refine lv_istore (lv' := [(7, .int (0 : Int32)), (6, .int (0 : Int32)), (0, .ref (q_this 0)), (1, .int a1), (2, .int a2), (3, .int a3), (4, .int a4), (5, .int a5)]) hx hb dX5_cover_4 hl (by decide) rfl (fun ls hl => ?_)
  exact hL6 N o_this a1 a2 a3 a4 a5 (0 : Int32) (0 : Int32) _ _ _ hP hD hS (lv_sub hl [2, 3, 4, 5, 6, 7, 1, 0] rfl) hf
def ff_X5_negate_c12 (N : Nat) (k2 : (os_T × Int32) → Option (Int32 × os_T)) (k12 : (os_T × Int32 × Int32) → Option (Int32 × os_T)) (o_this : os_T) (x1 : Int32) (x2 : Int32) : Option (Int32 × os_T) :=
  (if (os_I o_this 0) ≤ x2 then k2 (o_this, x1 + 1) else ((ff_X5_toneAt N o_this x2 x1).bind fun u_5 => ((ff_X5_dye N o_this x2 x1 ((255 : Int32) - u_5)).bind fun u_7 => k12 (u_7, x1, x2 + 1))))
def ff_X5_negate_l12 (N : Nat) (k2 : (os_T × Int32) → Option (Int32 × os_T)) : Nat → (os_T × Int32 × Int32) → Option (Int32 × os_T) := os_loop (fun k12 s1 => ff_X5_negate_c12 N k2 k12 s1.1 s1.2.1 s1.2.2)
def ff_X5_negate_c2 (N : Nat) (k2 : (os_T × Int32) → Option (Int32 × os_T)) (o_this : os_T) (x1 : Int32) : Option (Int32 × os_T) :=
  (if (os_I o_this 1) ≤ x1 then ((ff_X5_followTones N o_this).bind fun u_2 => some (u_2.1, u_2.2)) else ff_X5_negate_l12 N k2 N (o_this, x1, (0 : Int32)))
def ff_X5_negate_l2 (N : Nat) : Nat → (os_T × Int32) → Option (Int32 × os_T) := os_loop (fun k2 s1 => ff_X5_negate_c2 N k2 s1.1 s1.2)
def ff_X5_negate (N : Nat) (o_this : os_T) : Option (Int32 × os_T) :=
  ff_X5_negate_l2 N N (o_this, (0 : Int32))
set_option maxHeartbeats 4000000 in
set_option maxRecDepth 100000 in
theorem mm_X5_negate (l : Launch) (D : va_G) (kA : Nat → ClassId) (N : Nat) (q_this : Nat → Nat) (o_this : os_T) (out : (Int32 × os_T)) (hf : ff_X5_negate N o_this = some out) : mc_C l D kA yX5_negate wsX5_negate ({ frames := 3, cells := 0, slots := 0, locals := 69 } : Room) [.ref (q_this 0)] (ce_X5 kA q_this o_this) (some (.int out.1)) (ce_X5 kA q_this out.2) := by
  refine mc_of (cc := cX5_negate) (maxL := 3) (ret := (some .int)) (by decide) rfl (Nat.le_of_ble_eq_true rfl) ?_
  intro p e s m below meth c A B hD hP hS ls hl
  obtain ⟨hx, hb, hr, hlk, hml, hown, hts, hK, hA, hnm⟩ := B
  have hown : s.vm.findClass RX5 = some m.cls := hown
  have hl : lv_has ls 3 [(0, .ref (q_this 0))] := hl
  have hUX5 : ∀ w ∈ u_ws RX5 TX5 10, w.before [.ref (q_this 0)].toArray s = true := fun w h => hts w (List.mem_cons_of_mem _ (List.mem_append_right _ h))
  have hL12 : ∀ (k2 : (os_T × Int32) → Option (Int32 × os_T)), (∀ (o_this : os_T) (x1 : Int32) (H : Heap) (locs : List Loc) (ls : Array Slot), va_P D vwCl (ce_X5 kA q_this o_this) H → va_D A (ce_X5 kA q_this o_this) → va_S A s.heap H locs → lv_has ls 3 [(0, .ref (q_this 0)), (1, .int x1)] → k2 (o_this, x1) = some out → W p l e ({ frames := 3, cells := 0, slots := 0, locals := 69 } : Room) s m [.ref (q_this 0)].toArray below meth c H locs 0 0 (MQ below (mc_Q D kA A (some (.int out.1)) (ce_X5 kA q_this out.2)) [.ref (q_this 0)].toArray s 0 0 A) (F0 m 2 ls [])) → ∀ (n : Nat) (o_this : os_T) (x1 : Int32) (x2 : Int32) (H : Heap) (locs : List Loc) (ls : Array Slot), va_P D vwCl (ce_X5 kA q_this o_this) H → va_D A (ce_X5 kA q_this o_this) → va_S A s.heap H locs → lv_has ls 3 [(0, .ref (q_this 0)), (1, .int x1), (2, .int x2)] → ff_X5_negate_l12 N k2 n (o_this, x1, x2) = some out → W p l e ({ frames := 3, cells := 0, slots := 0, locals := 69 } : Room) s m [.ref (q_this 0)].toArray below meth c H locs 0 0 (MQ below (mc_Q D kA A (some (.int out.1)) (ce_X5 kA q_this out.2)) [.ref (q_this 0)].toArray s 0 0 A) (F0 m 12 ls []) := by
    intro k2 hk2 n
    induction n with
    | zero => intro o_this x1 x2 H locs ls _ _ _ _ hf; cases hf
    | succ n hk12 =>
      intro o_this x1 x2 H locs ls hP hD hS hl hf
      have hf : ff_X5_negate_c12 N k2 (ff_X5_negate_l12 N k2 n) o_this x1 x2 = some out := hf
      generalize hke : ff_X5_negate_l12 N k2 n = k12 at hk12 hf
      unfold ff_X5_negate_c12 at hf
      refine lv_iload_n hx hb dX5_negate_12 rfl (lv_at hl 2 rfl) ?_
      refine lv_aload_n hx hb dX5_negate_13 rfl (lv_at hl 0 rfl) ?_
      refine va_get (D := D) (ci := 4) (v := .int (os_I o_this 0)) (C := RX5) (T := TX5) (N := 10) hx hb hUX5 (fun _ h9 => h9) hown hK hP 0 rfl rfl 0 (by decide) (hts (Cond.fieldLink RX5 28 "ReliefBuilder$Panel" "width" "I") (List.mem_of_getElem? (i := 2) rfl)) (fun _ h9 => h9) rfl dX5_negate_14 ?_
      refine lv_icmp_ge (tgt := 42) hx hb dX5_negate_17 (by decide) (fun hc_4 => ?_) (fun hc_4 => ?_)
      · rw [if_pos hc_4] at hf
        refine lv_iinc (v := x1 + 1) (lv' := [(1, .int (x1 + 1)), (0, .ref (q_this 0)), (2, .int x2)]) hx hb dX5_negate_42 hl (k := 1) rfl rfl (by decide) rfl (fun ls hl => ?_)
        refine lv_goto (tgt := 2) hx hb dX5_negate_45 (by decide) ?_
        exact hk2 o_this (x1 + 1) _ _ _ hP hD hS (lv_sub hl [1, 0] rfl) hf
      · rw [if_neg hc_4] at hf
        refine lv_aload_n hx hb dX5_negate_20 rfl (lv_at hl 0 rfl) ?_
        refine lv_iload_n hx hb dX5_negate_21 rfl (lv_at hl 2 rfl) ?_
        refine lv_iload_n hx hb dX5_negate_22 rfl (lv_at hl 1 rfl) ?_
        refine lv_sipush (v := 255) hx hb dX5_negate_23 (by decide) ?_
        refine lv_aload_n hx hb dX5_negate_26 rfl (lv_at hl 0 rfl) ?_
        refine lv_iload_n hx hb dX5_negate_27 rfl (lv_at hl 2 rfl) ?_
        refine lv_iload_n hx hb dX5_negate_28 rfl (lv_at hl 1 rfl) ?_
        obtain ⟨u_5, he_6, hf⟩ := os_bd hf
        refine mc_callV ⟨hx, hb, hml, hown, hts⟩ (mm_X5_toneAt l D kA N q_this o_this x2 x1 u_5 he_6) (cwV 2 hts gX5_negate_X5_toneAt rfl rfl rfl (by decide +kernel) ⟨Nat.le_of_ble_eq_true rfl, Nat.le_of_ble_eq_true rfl⟩) (wc := (ce_X5 kA q_this o_this)) (ci := 4) (q0 := 0) rfl rfl rfl hl.1 (As := [.int x2, .int x1]) (rest := [.int (255 : Int32), .int x1, .int x2, .ref (q_this 0)]) rfl (Nat.le_of_ble_eq_true rfl) dX5_negate_29 ⟨Nat.le_of_ble_eq_true rfl, Nat.le_of_ble_eq_true rfl⟩ hK hP hD hS hA [0, 1, 2, 3] [] [0, 1, 2, 3] rfl (by decide) rfl (by decide) (by decide) rfl (by decide) (wr := []) (w2 := (ce_X5 kA q_this o_this)) (fun H locs hP hD hS => ?_)
        have hP : va_P D vwCl (ce_X5 kA q_this o_this) H := hP
        refine lv_isub hx hb dX5_negate_32 ?_
        obtain ⟨u_7, he_8, hf⟩ := os_bd hf
        refine mc_callV ⟨hx, hb, hml, hown, hts⟩ (mm_X5_dye l D kA N q_this o_this x2 x1 ((255 : Int32) - u_5) u_7 he_8) (cwV 3 hts gX5_negate_X5_dye rfl rfl rfl (by decide +kernel) ⟨Nat.le_of_ble_eq_true rfl, Nat.le_of_ble_eq_true rfl⟩) (wc := (ce_X5 kA q_this o_this)) (ci := 4) (q0 := 0) rfl rfl rfl hl.1 (As := [.int x2, .int x1, .int ((255 : Int32) - u_5)]) (rest := []) rfl (Nat.le_of_ble_eq_true rfl) dX5_negate_33 ⟨Nat.le_of_ble_eq_true rfl, Nat.le_of_ble_eq_true rfl⟩ hK hP hD hS hA [0, 1, 2, 3] [] [0, 1, 2, 3] rfl (by decide) rfl (by decide) (by decide) rfl (by decide) (wr := []) (w2 := (ce_X5 kA q_this u_7)) (fun H locs hP hD hS => ?_)
        have hP : va_P D vwCl (ce_X5 kA q_this u_7) H := hP
        refine lv_iinc (v := x2 + 1) (lv' := [(2, .int (x2 + 1)), (0, .ref (q_this 0)), (1, .int x1)]) hx hb dX5_negate_36 hl (k := 2) rfl rfl (by decide) rfl (fun ls hl => ?_)
        refine lv_goto (tgt := 12) hx hb dX5_negate_39 (by decide) ?_
        exact hk12 u_7 x1 (x2 + 1) _ _ _ hP hD hS (lv_sub hl [1, 2, 0] rfl) hf
  have hL2 : ∀ (n : Nat) (o_this : os_T) (x1 : Int32) (H : Heap) (locs : List Loc) (ls : Array Slot), va_P D vwCl (ce_X5 kA q_this o_this) H → va_D A (ce_X5 kA q_this o_this) → va_S A s.heap H locs → lv_has ls 3 [(0, .ref (q_this 0)), (1, .int x1)] → ff_X5_negate_l2 N n (o_this, x1) = some out → W p l e ({ frames := 3, cells := 0, slots := 0, locals := 69 } : Room) s m [.ref (q_this 0)].toArray below meth c H locs 0 0 (MQ below (mc_Q D kA A (some (.int out.1)) (ce_X5 kA q_this out.2)) [.ref (q_this 0)].toArray s 0 0 A) (F0 m 2 ls []) := by
    intro n
    induction n with
    | zero => intro o_this x1 H locs ls _ _ _ _ hf; cases hf
    | succ n hk2 =>
      intro o_this x1 H locs ls hP hD hS hl hf
      have hf : ff_X5_negate_c2 N (ff_X5_negate_l2 N n) o_this x1 = some out := hf
      generalize hke : ff_X5_negate_l2 N n = k2 at hk2 hf
      unfold ff_X5_negate_c2 at hf
      refine lv_iload_n hx hb dX5_negate_2 rfl (lv_at hl 1 rfl) ?_
      refine lv_aload_n hx hb dX5_negate_3 rfl (lv_at hl 0 rfl) ?_
      refine va_get (D := D) (ci := 4) (v := .int (os_I o_this 1)) (C := RX5) (T := TX5) (N := 10) hx hb hUX5 (fun _ h9 => h9) hown hK hP 0 rfl rfl 1 (by decide) (hts (Cond.fieldLink RX5 32 "ReliefBuilder$Panel" "rows" "I") (List.mem_of_getElem? (i := 1) rfl)) (fun _ h9 => h9) rfl dX5_negate_4 ?_
      refine lv_icmp_ge (tgt := 48) hx hb dX5_negate_7 (by decide) (fun hc_1 => ?_) (fun hc_1 => ?_)
      · rw [if_pos hc_1] at hf
        refine lv_aload_n hx hb dX5_negate_48 rfl (lv_at hl 0 rfl) ?_
        obtain ⟨u_2, he_3, hf⟩ := os_bd hf
        refine mc_callV ⟨hx, hb, hml, hown, hts⟩ (mm_X5_followTones l D kA N q_this o_this u_2 he_3) (cwV 0 hts gX5_negate_X5_followTones rfl rfl rfl (by decide +kernel) ⟨Nat.le_of_ble_eq_true rfl, Nat.le_of_ble_eq_true rfl⟩) (wc := (ce_X5 kA q_this o_this)) (ci := 4) (q0 := 0) rfl rfl rfl hl.1 (As := []) (rest := []) rfl (Nat.le_of_ble_eq_true rfl) dX5_negate_49 ⟨Nat.le_of_ble_eq_true rfl, Nat.le_of_ble_eq_true rfl⟩ hK hP hD hS hA [0, 1, 2, 3] [] [0, 1, 2, 3] rfl (by decide) rfl (by decide) (by decide) rfl (by decide) (wr := []) (w2 := (ce_X5 kA q_this u_2.2)) (fun H locs hP hD hS => ?_)
        have hP : va_P D vwCl (ce_X5 kA q_this u_2.2) H := hP
        rw [← Option.some.inj hf]
        exact mc_reti hx hb hr hlk hP hK hD hS dX5_negate_52
      · rw [if_neg hc_1] at hf
        refine lv_iconst (v := 0) hx hb dX5_negate_10 (by decide) ?_
        refine lv_istore_n (lv' := [(2, .int (0 : Int32)), (0, .ref (q_this 0)), (1, .int x1)]) hx hb dX5_negate_11 rfl hl (by decide) rfl (fun ls hl => ?_)
        exact hL12 k2 hk2 N o_this x1 (0 : Int32) _ _ _ hP hD hS (lv_sub hl [1, 2, 0] rfl) hf
  unfold ff_X5_negate at hf
  refine lv_iconst (v := 0) hx hb dX5_negate_0 (by decide) ?_
  refine lv_istore_n (lv' := [(1, .int (0 : Int32)), (0, .ref (q_this 0))]) hx hb dX5_negate_1 rfl hl (by decide) rfl (fun ls hl => ?_)
  exact hL2 N o_this (0 : Int32) _ _ _ hP hD hS (lv_sub hl [1, 0] rfl) hf
def ff_X5_brighten_c12 (N : Nat) (k2 : (os_T × Int32 × Int32) → Option (Int32 × os_T)) (k12 : (os_T × Int32 × Int32 × Int32) → Option (Int32 × os_T)) (o_this : os_T) (x1 : Int32) (x2 : Int32) (x3 : Int32) : Option (Int32 × os_T) :=
  (if (os_I o_this 0) ≤ x3 then k2 (o_this, x1, x2 + 1) else ((ff_X5_toneAt N o_this x3 x2).bind fun u_5 => ((ff_X5_dye N o_this x3 x2 (if (0 : Int32) < (if (u_5 + x1) < (255 : Int32) then (u_5 + x1) else (255 : Int32)) then (if (u_5 + x1) < (255 : Int32) then (u_5 + x1) else (255 : Int32)) else (0 : Int32))).bind fun u_7 => k12 (u_7, x1, x2, x3 + 1))))
def ff_X5_brighten_l12 (N : Nat) (k2 : (os_T × Int32 × Int32) → Option (Int32 × os_T)) : Nat → (os_T × Int32 × Int32 × Int32) → Option (Int32 × os_T) := os_loop (fun k12 s1 => ff_X5_brighten_c12 N k2 k12 s1.1 s1.2.1 s1.2.2.1 s1.2.2.2)
def ff_X5_brighten_c2 (N : Nat) (k2 : (os_T × Int32 × Int32) → Option (Int32 × os_T)) (o_this : os_T) (x1 : Int32) (x2 : Int32) : Option (Int32 × os_T) :=
  (if (os_I o_this 1) ≤ x2 then ((ff_X5_followTones N o_this).bind fun u_2 => some (u_2.1, u_2.2)) else ff_X5_brighten_l12 N k2 N (o_this, x1, x2, (0 : Int32)))
def ff_X5_brighten_l2 (N : Nat) : Nat → (os_T × Int32 × Int32) → Option (Int32 × os_T) := os_loop (fun k2 s1 => ff_X5_brighten_c2 N k2 s1.1 s1.2.1 s1.2.2)
def ff_X5_brighten (N : Nat) (o_this : os_T) (a1 : Int32) : Option (Int32 × os_T) :=
  ff_X5_brighten_l2 N N (o_this, a1, (0 : Int32))
set_option maxHeartbeats 4000000 in
set_option maxRecDepth 100000 in
theorem mm_X5_brighten (l : Launch) (D : va_G) (kA : Nat → ClassId) (N : Nat) (q_this : Nat → Nat) (o_this : os_T) (a1 : Int32) (out : (Int32 × os_T)) (hf : ff_X5_brighten N o_this a1 = some out) : mc_C l D kA yX5_brighten wsX5_brighten ({ frames := 3, cells := 0, slots := 0, locals := 69 } : Room) [.ref (q_this 0), .int a1] (ce_X5 kA q_this o_this) (some (.int out.1)) (ce_X5 kA q_this out.2) := by
  refine mc_of (cc := cX5_brighten) (maxL := 4) (ret := (some .int)) (by decide) rfl (Nat.le_of_ble_eq_true rfl) ?_
  intro p e s m below meth c A B hD hP hS ls hl
  obtain ⟨hx, hb, hr, hlk, hml, hown, hts, hK, hA, hnm⟩ := B
  have hown : s.vm.findClass RX5 = some m.cls := hown
  have hl : lv_has ls 4 [(0, .ref (q_this 0)), (1, .int a1)] := hl
  have hUX5 : ∀ w ∈ u_ws RX5 TX5 10, w.before [.ref (q_this 0), .int a1].toArray s = true := fun w h => hts w (List.mem_cons_of_mem _ (List.mem_append_right _ h))
  have hL12 : ∀ (k2 : (os_T × Int32 × Int32) → Option (Int32 × os_T)), (∀ (o_this : os_T) (x1 : Int32) (x2 : Int32) (H : Heap) (locs : List Loc) (ls : Array Slot), va_P D vwCl (ce_X5 kA q_this o_this) H → va_D A (ce_X5 kA q_this o_this) → va_S A s.heap H locs → lv_has ls 4 [(0, .ref (q_this 0)), (1, .int x1), (2, .int x2)] → k2 (o_this, x1, x2) = some out → W p l e ({ frames := 3, cells := 0, slots := 0, locals := 69 } : Room) s m [.ref (q_this 0), .int a1].toArray below meth c H locs 0 0 (MQ below (mc_Q D kA A (some (.int out.1)) (ce_X5 kA q_this out.2)) [.ref (q_this 0), .int a1].toArray s 0 0 A) (F0 m 2 ls [])) → ∀ (n : Nat) (o_this : os_T) (x1 : Int32) (x2 : Int32) (x3 : Int32) (H : Heap) (locs : List Loc) (ls : Array Slot), va_P D vwCl (ce_X5 kA q_this o_this) H → va_D A (ce_X5 kA q_this o_this) → va_S A s.heap H locs → lv_has ls 4 [(0, .ref (q_this 0)), (1, .int x1), (2, .int x2), (3, .int x3)] → ff_X5_brighten_l12 N k2 n (o_this, x1, x2, x3) = some out → W p l e ({ frames := 3, cells := 0, slots := 0, locals := 69 } : Room) s m [.ref (q_this 0), .int a1].toArray below meth c H locs 0 0 (MQ below (mc_Q D kA A (some (.int out.1)) (ce_X5 kA q_this out.2)) [.ref (q_this 0), .int a1].toArray s 0 0 A) (F0 m 12 ls []) := by
    intro k2 hk2 n
    induction n with
    | zero => intro o_this x1 x2 x3 H locs ls _ _ _ _ hf; cases hf
    | succ n hk12 =>
      intro o_this x1 x2 x3 H locs ls hP hD hS hl hf
      have hf : ff_X5_brighten_c12 N k2 (ff_X5_brighten_l12 N k2 n) o_this x1 x2 x3 = some out := hf
      generalize hke : ff_X5_brighten_l12 N k2 n = k12 at hk12 hf
      unfold ff_X5_brighten_c12 at hf
      refine lv_iload_n hx hb dX5_brighten_12 rfl (lv_at hl 3 rfl) ?_
      refine lv_aload_n hx hb dX5_brighten_13 rfl (lv_at hl 0 rfl) ?_
      refine va_get (D := D) (ci := 4) (v := .int (os_I o_this 0)) (C := RX5) (T := TX5) (N := 10) hx hb hUX5 (fun _ h9 => h9) hown hK hP 0 rfl rfl 0 (by decide) (hts (Cond.fieldLink RX5 28 "ReliefBuilder$Panel" "width" "I") (List.mem_of_getElem? (i := 2) rfl)) (fun _ h9 => h9) rfl dX5_brighten_14 ?_
      refine lv_icmp_ge (tgt := 50) hx hb dX5_brighten_17 (by decide) (fun hc_4 => ?_) (fun hc_4 => ?_)
      · rw [if_pos hc_4] at hf
        refine lv_iinc (v := x2 + 1) (lv' := [(2, .int (x2 + 1)), (0, .ref (q_this 0)), (1, .int x1), (3, .int x3)]) hx hb dX5_brighten_50 hl (k := 2) rfl rfl (by decide) rfl (fun ls hl => ?_)
        refine lv_goto (tgt := 2) hx hb dX5_brighten_53 (by decide) ?_
        exact hk2 o_this x1 (x2 + 1) _ _ _ hP hD hS (lv_sub hl [1, 2, 0] rfl) hf
      · rw [if_neg hc_4] at hf
        refine lv_aload_n hx hb dX5_brighten_20 rfl (lv_at hl 0 rfl) ?_
        refine lv_iload_n hx hb dX5_brighten_21 rfl (lv_at hl 3 rfl) ?_
        refine lv_iload_n hx hb dX5_brighten_22 rfl (lv_at hl 2 rfl) ?_
        refine lv_iconst (v := 0) hx hb dX5_brighten_23 (by decide) ?_
        refine lv_sipush (v := 255) hx hb dX5_brighten_24 (by decide) ?_
        refine lv_aload_n hx hb dX5_brighten_27 rfl (lv_at hl 0 rfl) ?_
        refine lv_iload_n hx hb dX5_brighten_28 rfl (lv_at hl 3 rfl) ?_
        refine lv_iload_n hx hb dX5_brighten_29 rfl (lv_at hl 2 rfl) ?_
        obtain ⟨u_5, he_6, hf⟩ := os_bd hf
        refine mc_callV ⟨hx, hb, hml, hown, hts⟩ (mm_X5_toneAt l D kA N q_this o_this x3 x2 u_5 he_6) (cwV 2 hts gX5_brighten_X5_toneAt rfl rfl rfl (by decide +kernel) ⟨Nat.le_of_ble_eq_true rfl, Nat.le_of_ble_eq_true rfl⟩) (wc := (ce_X5 kA q_this o_this)) (ci := 4) (q0 := 0) rfl rfl rfl hl.1 (As := [.int x3, .int x2]) (rest := [.int (255 : Int32), .int (0 : Int32), .int x2, .int x3, .ref (q_this 0)]) rfl (Nat.le_of_ble_eq_true rfl) dX5_brighten_30 ⟨Nat.le_of_ble_eq_true rfl, Nat.le_of_ble_eq_true rfl⟩ hK hP hD hS hA [0, 1, 2, 3] [] [0, 1, 2, 3] rfl (by decide) rfl (by decide) (by decide) rfl (by decide) (wr := []) (w2 := (ce_X5 kA q_this o_this)) (fun H locs hP hD hS => ?_)
        have hP : va_P D vwCl (ce_X5 kA q_this o_this) H := hP
        refine lv_iload_n hx hb dX5_brighten_33 rfl (lv_at hl 1 rfl) ?_
        refine lv_iadd hx hb dX5_brighten_34 ?_
        refine va_mmin hx hb (hml.trans hl.1.symm) hown (hts (Cond.methodLink RX5 107 Lib.Math.min.name) (List.mem_of_getElem? (i := 3) rfl)) (hts (Cond.static Lib.Math.min.name) (List.mem_of_getElem? (i := 4) rfl)) (hts (Cond.initialized "java/lang/Math") (List.mem_of_getElem? (i := 5) rfl)) (hts (Cond.code Lib.Math.min.name Lib.Math.min.code 2 (some .int)) (List.mem_of_getElem? (i := 6) rfl)) (Nat.le_of_ble_eq_true rfl) (Nat.le_of_ble_eq_true rfl) (Nat.le_of_ble_eq_true rfl) (Nat.le_of_ble_eq_true rfl) dX5_brighten_35 ?_
        refine va_mmax hx hb (hml.trans hl.1.symm) hown (hts (Cond.methodLink RX5 112 Lib.Math.max.name) (List.mem_of_getElem? (i := 7) rfl)) (hts (Cond.static Lib.Math.max.name) (List.mem_of_getElem? (i := 8) rfl)) (hts (Cond.initialized "java/lang/Math") (List.mem_of_getElem? (i := 5) rfl)) (hts (Cond.code Lib.Math.max.name Lib.Math.max.code 2 (some .int)) (List.mem_of_getElem? (i := 9) rfl)) (Nat.le_of_ble_eq_true rfl) (Nat.le_of_ble_eq_true rfl) (Nat.le_of_ble_eq_true rfl) (Nat.le_of_ble_eq_true rfl) dX5_brighten_38 ?_
        obtain ⟨u_7, he_8, hf⟩ := os_bd hf
        refine mc_callV ⟨hx, hb, hml, hown, hts⟩ (mm_X5_dye l D kA N q_this o_this x3 x2 (if (0 : Int32) < (if (u_5 + x1) < (255 : Int32) then (u_5 + x1) else (255 : Int32)) then (if (u_5 + x1) < (255 : Int32) then (u_5 + x1) else (255 : Int32)) else (0 : Int32)) u_7 he_8) (cwV 3 hts gX5_brighten_X5_dye rfl rfl rfl (by decide +kernel) ⟨Nat.le_of_ble_eq_true rfl, Nat.le_of_ble_eq_true rfl⟩) (wc := (ce_X5 kA q_this o_this)) (ci := 4) (q0 := 0) rfl rfl rfl hl.1 (As := [.int x3, .int x2, .int (if (0 : Int32) < (if (u_5 + x1) < (255 : Int32) then (u_5 + x1) else (255 : Int32)) then (if (u_5 + x1) < (255 : Int32) then (u_5 + x1) else (255 : Int32)) else (0 : Int32))]) (rest := []) rfl (Nat.le_of_ble_eq_true rfl) dX5_brighten_41 ⟨Nat.le_of_ble_eq_true rfl, Nat.le_of_ble_eq_true rfl⟩ hK hP hD hS hA [0, 1, 2, 3] [] [0, 1, 2, 3] rfl (by decide) rfl (by decide) (by decide) rfl (by decide) (wr := []) (w2 := (ce_X5 kA q_this u_7)) (fun H locs hP hD hS => ?_)
        have hP : va_P D vwCl (ce_X5 kA q_this u_7) H := hP
        refine lv_iinc (v := x3 + 1) (lv' := [(3, .int (x3 + 1)), (0, .ref (q_this 0)), (1, .int x1), (2, .int x2)]) hx hb dX5_brighten_44 hl (k := 3) rfl rfl (by decide) rfl (fun ls hl => ?_)
        refine lv_goto (tgt := 12) hx hb dX5_brighten_47 (by decide) ?_
        exact hk12 u_7 x1 x2 (x3 + 1) _ _ _ hP hD hS (lv_sub hl [1, 2, 3, 0] rfl) hf
  have hL2 : ∀ (n : Nat) (o_this : os_T) (x1 : Int32) (x2 : Int32) (H : Heap) (locs : List Loc) (ls : Array Slot), va_P D vwCl (ce_X5 kA q_this o_this) H → va_D A (ce_X5 kA q_this o_this) → va_S A s.heap H locs → lv_has ls 4 [(0, .ref (q_this 0)), (1, .int x1), (2, .int x2)] → ff_X5_brighten_l2 N n (o_this, x1, x2) = some out → W p l e ({ frames := 3, cells := 0, slots := 0, locals := 69 } : Room) s m [.ref (q_this 0), .int a1].toArray below meth c H locs 0 0 (MQ below (mc_Q D kA A (some (.int out.1)) (ce_X5 kA q_this out.2)) [.ref (q_this 0), .int a1].toArray s 0 0 A) (F0 m 2 ls []) := by
    intro n
    induction n with
    | zero => intro o_this x1 x2 H locs ls _ _ _ _ hf; cases hf
    | succ n hk2 =>
      intro o_this x1 x2 H locs ls hP hD hS hl hf
      have hf : ff_X5_brighten_c2 N (ff_X5_brighten_l2 N n) o_this x1 x2 = some out := hf
      generalize hke : ff_X5_brighten_l2 N n = k2 at hk2 hf
      unfold ff_X5_brighten_c2 at hf
      refine lv_iload_n hx hb dX5_brighten_2 rfl (lv_at hl 2 rfl) ?_
      refine lv_aload_n hx hb dX5_brighten_3 rfl (lv_at hl 0 rfl) ?_
      refine va_get (D := D) (ci := 4) (v := .int (os_I o_this 1)) (C := RX5) (T := TX5) (N := 10) hx hb hUX5 (fun _ h9 => h9) hown hK hP 0 rfl rfl 1 (by decide) (hts (Cond.fieldLink RX5 32 "ReliefBuilder$Panel" "rows" "I") (List.mem_of_getElem? (i := 1) rfl)) (fun _ h9 => h9) rfl dX5_brighten_4 ?_
      refine lv_icmp_ge (tgt := 56) hx hb dX5_brighten_7 (by decide) (fun hc_1 => ?_) (fun hc_1 => ?_)
      · rw [if_pos hc_1] at hf
        refine lv_aload_n hx hb dX5_brighten_56 rfl (lv_at hl 0 rfl) ?_
        obtain ⟨u_2, he_3, hf⟩ := os_bd hf
        refine mc_callV ⟨hx, hb, hml, hown, hts⟩ (mm_X5_followTones l D kA N q_this o_this u_2 he_3) (cwV 0 hts gX5_brighten_X5_followTones rfl rfl rfl (by decide +kernel) ⟨Nat.le_of_ble_eq_true rfl, Nat.le_of_ble_eq_true rfl⟩) (wc := (ce_X5 kA q_this o_this)) (ci := 4) (q0 := 0) rfl rfl rfl hl.1 (As := []) (rest := []) rfl (Nat.le_of_ble_eq_true rfl) dX5_brighten_57 ⟨Nat.le_of_ble_eq_true rfl, Nat.le_of_ble_eq_true rfl⟩ hK hP hD hS hA [0, 1, 2, 3] [] [0, 1, 2, 3] rfl (by decide) rfl (by decide) (by decide) rfl (by decide) (wr := []) (w2 := (ce_X5 kA q_this u_2.2)) (fun H locs hP hD hS => ?_)
        have hP : va_P D vwCl (ce_X5 kA q_this u_2.2) H := hP
        rw [← Option.some.inj hf]
        exact mc_reti hx hb hr hlk hP hK hD hS dX5_brighten_60
      · rw [if_neg hc_1] at hf
        refine lv_iconst (v := 0) hx hb dX5_brighten_10 (by decide) ?_
        refine lv_istore_n (lv' := [(3, .int (0 : Int32)), (0, .ref (q_this 0)), (1, .int x1), (2, .int x2)]) hx hb dX5_brighten_11 rfl hl (by decide) rfl (fun ls hl => ?_)
        exact hL12 k2 hk2 N o_this x1 x2 (0 : Int32) _ _ _ hP hD hS (lv_sub hl [1, 2, 3, 0] rfl) hf
  unfold ff_X5_brighten at hf
  refine lv_iconst (v := 0) hx hb dX5_brighten_0 (by decide) ?_
  refine lv_istore_n (lv' := [(2, .int (0 : Int32)), (0, .ref (q_this 0)), (1, .int a1)]) hx hb dX5_brighten_1 rfl hl (by decide) rfl (fun ls hl => ?_)
  exact hL2 N o_this a1 (0 : Int32) _ _ _ hP hD hS (lv_sub hl [1, 2, 0] rfl) hf
def ff_X5_exchange (N : Nat) (o_this : os_T) (a1 : Int32) (a2 : Int32) (a3 : Int32) : Option (Int32 × os_T) :=
  ((ff_X5_toneAt N o_this a1 a3).bind fun u_1 => ((ff_X5_heightAt N o_this a1 a3).bind fun u_3 => ((ff_X5_toneAt N o_this a2 a3).bind fun u_5 => ((ff_X5_dye N o_this a1 a3 u_5).bind fun u_7 => ((ff_X5_dye N u_7 a2 a3 u_1).bind fun u_9 => ((ff_X5_heightAt N u_9 a2 a3).bind fun u_11 => ((ff_X5_build N u_9 a1 a3 u_11).bind fun u_13 => ((ff_X5_build N u_13.2 a2 a3 u_3).bind fun u_15 => some (u_13.1 + u_15.1, u_15.2)))))))))
set_option maxHeartbeats 4000000 in
set_option maxRecDepth 100000 in
theorem mm_X5_exchange (l : Launch) (D : va_G) (kA : Nat → ClassId) (N : Nat) (q_this : Nat → Nat) (o_this : os_T) (a1 : Int32) (a2 : Int32) (a3 : Int32) (out : (Int32 × os_T)) (hf : ff_X5_exchange N o_this a1 a2 a3 = some out) : mc_C l D kA yX5_exchange wsX5_exchange ({ frames := 2, cells := 0, slots := 0, locals := 45 } : Room) [.ref (q_this 0), .int a1, .int a2, .int a3] (ce_X5 kA q_this o_this) (some (.int out.1)) (ce_X5 kA q_this out.2) := by
  refine mc_of (cc := cX5_exchange) (maxL := 6) (ret := (some .int)) (by decide) rfl (Nat.le_of_ble_eq_true rfl) ?_
  intro p e s m below meth c A B hD hP hS ls hl
  obtain ⟨hx, hb, hr, hlk, hml, hown, hts, hK, hA, hnm⟩ := B
  have hown : s.vm.findClass RX5 = some m.cls := hown
  have hl : lv_has ls 6 [(0, .ref (q_this 0)), (1, .int a1), (2, .int a2), (3, .int a3)] := hl
  unfold ff_X5_exchange at hf
  refine lv_aload_n hx hb dX5_exchange_0 rfl (lv_at hl 0 rfl) ?_
  refine lv_iload_n hx hb dX5_exchange_1 rfl (lv_at hl 1 rfl) ?_
  refine lv_iload_n hx hb dX5_exchange_2 rfl (lv_at hl 3 rfl) ?_
  obtain ⟨u_1, he_2, hf⟩ := os_bd hf
  refine mc_callV ⟨hx, hb, hml, hown, hts⟩ (mm_X5_toneAt l D kA N q_this o_this a1 a3 u_1 he_2) (cwV 2 hts gX5_exchange_X5_toneAt rfl rfl rfl (by decide +kernel) ⟨Nat.le_of_ble_eq_true rfl, Nat.le_of_ble_eq_true rfl⟩) (wc := (ce_X5 kA q_this o_this)) (ci := 4) (q0 := 0) rfl rfl rfl hl.1 (As := [.int a1, .int a3]) (rest := []) rfl (Nat.le_of_ble_eq_true rfl) dX5_exchange_3 ⟨Nat.le_of_ble_eq_true rfl, Nat.le_of_ble_eq_true rfl⟩ hK hP hD hS hA [0, 1, 2, 3] [] [0, 1, 2, 3] rfl (by decide) rfl (by decide) (by decide) rfl (by decide) (wr := []) (w2 := (ce_X5 kA q_this o_this)) (fun H locs hP hD hS => ?_)
  have hP : va_P D vwCl (ce_X5 kA q_this o_this) H := hP
  refine lv_istore (lv' := [(4, .int u_1), (0, .ref (q_this 0)), (1, .int a1), (2, .int a2), (3, .int a3)]) hx hb dX5_exchange_6 hl (by decide) rfl (fun ls hl => ?_)
  refine lv_aload_n hx hb dX5_exchange_8 rfl (lv_at hl 1 rfl) ?_
  refine lv_iload_n hx hb dX5_exchange_9 rfl (lv_at hl 2 rfl) ?_
  refine lv_iload_n hx hb dX5_exchange_10 rfl (lv_at hl 4 rfl) ?_
  obtain ⟨u_3, he_4, hf⟩ := os_bd hf
  refine mc_callV ⟨hx, hb, hml, hown, hts⟩ (mm_X5_heightAt l D kA N q_this o_this a1 a3 u_3 he_4) (cwV 2 hts gX5_exchange_X5_heightAt rfl rfl rfl (by decide +kernel) ⟨Nat.le_of_ble_eq_true rfl, Nat.le_of_ble_eq_true rfl⟩) (wc := (ce_X5 kA q_this o_this)) (ci := 4) (q0 := 0) rfl rfl rfl hl.1 (As := [.int a1, .int a3]) (rest := []) rfl (Nat.le_of_ble_eq_true rfl) dX5_exchange_11 ⟨Nat.le_of_ble_eq_true rfl, Nat.le_of_ble_eq_true rfl⟩ hK hP hD hS hA [0, 1, 2, 3] [] [0, 1, 2, 3] rfl (by decide) rfl (by decide) (by decide) rfl (by decide) (wr := []) (w2 := (ce_X5 kA q_this o_this)) (fun H locs hP hD hS => ?_)
  have hP : va_P D vwCl (ce_X5 kA q_this o_this) H := hP
  refine lv_istore (lv' := [(5, .int u_3), (4, .int u_1), (0, .ref (q_this 0)), (1, .int a1), (2, .int a2), (3, .int a3)]) hx hb dX5_exchange_14 hl (by decide) rfl (fun ls hl => ?_)
  refine lv_aload_n hx hb dX5_exchange_16 rfl (lv_at hl 2 rfl) ?_
  refine lv_iload_n hx hb dX5_exchange_17 rfl (lv_at hl 3 rfl) ?_
  refine lv_iload_n hx hb dX5_exchange_18 rfl (lv_at hl 5 rfl) ?_
  refine lv_aload_n hx hb dX5_exchange_19 rfl (lv_at hl 2 rfl) ?_
  refine lv_iload_n hx hb dX5_exchange_20 rfl (lv_at hl 4 rfl) ?_
  refine lv_iload_n hx hb dX5_exchange_21 rfl (lv_at hl 5 rfl) ?_
  obtain ⟨u_5, he_6, hf⟩ := os_bd hf
  refine mc_callV ⟨hx, hb, hml, hown, hts⟩ (mm_X5_toneAt l D kA N q_this o_this a2 a3 u_5 he_6) (cwV 2 hts gX5_exchange_X5_toneAt rfl rfl rfl (by decide +kernel) ⟨Nat.le_of_ble_eq_true rfl, Nat.le_of_ble_eq_true rfl⟩) (wc := (ce_X5 kA q_this o_this)) (ci := 4) (q0 := 0) rfl rfl rfl hl.1 (As := [.int a2, .int a3]) (rest := [.int a3, .int a1, .ref (q_this 0)]) rfl (Nat.le_of_ble_eq_true rfl) dX5_exchange_22 ⟨Nat.le_of_ble_eq_true rfl, Nat.le_of_ble_eq_true rfl⟩ hK hP hD hS hA [0, 1, 2, 3] [] [0, 1, 2, 3] rfl (by decide) rfl (by decide) (by decide) rfl (by decide) (wr := []) (w2 := (ce_X5 kA q_this o_this)) (fun H locs hP hD hS => ?_)
  have hP : va_P D vwCl (ce_X5 kA q_this o_this) H := hP
  obtain ⟨u_7, he_8, hf⟩ := os_bd hf
  refine mc_callV ⟨hx, hb, hml, hown, hts⟩ (mm_X5_dye l D kA N q_this o_this a1 a3 u_5 u_7 he_8) (cwV 3 hts gX5_exchange_X5_dye rfl rfl rfl (by decide +kernel) ⟨Nat.le_of_ble_eq_true rfl, Nat.le_of_ble_eq_true rfl⟩) (wc := (ce_X5 kA q_this o_this)) (ci := 4) (q0 := 0) rfl rfl rfl hl.1 (As := [.int a1, .int a3, .int u_5]) (rest := []) rfl (Nat.le_of_ble_eq_true rfl) dX5_exchange_25 ⟨Nat.le_of_ble_eq_true rfl, Nat.le_of_ble_eq_true rfl⟩ hK hP hD hS hA [0, 1, 2, 3] [] [0, 1, 2, 3] rfl (by decide) rfl (by decide) (by decide) rfl (by decide) (wr := []) (w2 := (ce_X5 kA q_this u_7)) (fun H locs hP hD hS => ?_)
  have hP : va_P D vwCl (ce_X5 kA q_this u_7) H := hP
  refine lv_aload_n hx hb dX5_exchange_28 rfl (lv_at hl 2 rfl) ?_
  refine lv_iload_n hx hb dX5_exchange_29 rfl (lv_at hl 4 rfl) ?_
  refine lv_iload_n hx hb dX5_exchange_30 rfl (lv_at hl 5 rfl) ?_
  refine lv_iload hx hb dX5_exchange_31 (lv_at hl 1 rfl) ?_
  obtain ⟨u_9, he_10, hf⟩ := os_bd hf
  refine mc_callV ⟨hx, hb, hml, hown, hts⟩ (mm_X5_dye l D kA N q_this u_7 a2 a3 u_1 u_9 he_10) (cwV 3 hts gX5_exchange_X5_dye rfl rfl rfl (by decide +kernel) ⟨Nat.le_of_ble_eq_true rfl, Nat.le_of_ble_eq_true rfl⟩) (wc := (ce_X5 kA q_this u_7)) (ci := 4) (q0 := 0) rfl rfl rfl hl.1 (As := [.int a2, .int a3, .int u_1]) (rest := []) rfl (Nat.le_of_ble_eq_true rfl) dX5_exchange_33 ⟨Nat.le_of_ble_eq_true rfl, Nat.le_of_ble_eq_true rfl⟩ hK hP hD hS hA [0, 1, 2, 3] [] [0, 1, 2, 3] rfl (by decide) rfl (by decide) (by decide) rfl (by decide) (wr := []) (w2 := (ce_X5 kA q_this u_9)) (fun H locs hP hD hS => ?_)
  have hP : va_P D vwCl (ce_X5 kA q_this u_9) H := hP
  refine lv_aload_n hx hb dX5_exchange_36 rfl (lv_at hl 2 rfl) ?_
  refine lv_iload_n hx hb dX5_exchange_37 rfl (lv_at hl 3 rfl) ?_
  refine lv_iload_n hx hb dX5_exchange_38 rfl (lv_at hl 5 rfl) ?_
  refine lv_aload_n hx hb dX5_exchange_39 rfl (lv_at hl 2 rfl) ?_
  refine lv_iload_n hx hb dX5_exchange_40 rfl (lv_at hl 4 rfl) ?_
  refine lv_iload_n hx hb dX5_exchange_41 rfl (lv_at hl 5 rfl) ?_
  obtain ⟨u_11, he_12, hf⟩ := os_bd hf
  refine mc_callV ⟨hx, hb, hml, hown, hts⟩ (mm_X5_heightAt l D kA N q_this u_9 a2 a3 u_11 he_12) (cwV 2 hts gX5_exchange_X5_heightAt rfl rfl rfl (by decide +kernel) ⟨Nat.le_of_ble_eq_true rfl, Nat.le_of_ble_eq_true rfl⟩) (wc := (ce_X5 kA q_this u_9)) (ci := 4) (q0 := 0) rfl rfl rfl hl.1 (As := [.int a2, .int a3]) (rest := [.int a3, .int a1, .ref (q_this 0)]) rfl (Nat.le_of_ble_eq_true rfl) dX5_exchange_42 ⟨Nat.le_of_ble_eq_true rfl, Nat.le_of_ble_eq_true rfl⟩ hK hP hD hS hA [0, 1, 2, 3] [] [0, 1, 2, 3] rfl (by decide) rfl (by decide) (by decide) rfl (by decide) (wr := []) (w2 := (ce_X5 kA q_this u_9)) (fun H locs hP hD hS => ?_)
  have hP : va_P D vwCl (ce_X5 kA q_this u_9) H := hP
  obtain ⟨u_13, he_14, hf⟩ := os_bd hf
  refine mc_callV ⟨hx, hb, hml, hown, hts⟩ (mm_X5_build l D kA N q_this u_9 a1 a3 u_11 u_13 he_14) (cwV 3 hts gX5_exchange_X5_build rfl rfl rfl (by decide +kernel) ⟨Nat.le_of_ble_eq_true rfl, Nat.le_of_ble_eq_true rfl⟩) (wc := (ce_X5 kA q_this u_9)) (ci := 4) (q0 := 0) rfl rfl rfl hl.1 (As := [.int a1, .int a3, .int u_11]) (rest := []) rfl (Nat.le_of_ble_eq_true rfl) dX5_exchange_45 ⟨Nat.le_of_ble_eq_true rfl, Nat.le_of_ble_eq_true rfl⟩ hK hP hD hS hA [0, 1, 2, 3] [] [0, 1, 2, 3] rfl (by decide) rfl (by decide) (by decide) rfl (by decide) (wr := []) (w2 := (ce_X5 kA q_this u_13.2)) (fun H locs hP hD hS => ?_)
  have hP : va_P D vwCl (ce_X5 kA q_this u_13.2) H := hP
  refine lv_aload_n hx hb dX5_exchange_48 rfl (lv_at hl 2 rfl) ?_
  refine lv_iload_n hx hb dX5_exchange_49 rfl (lv_at hl 4 rfl) ?_
  refine lv_iload_n hx hb dX5_exchange_50 rfl (lv_at hl 5 rfl) ?_
  refine lv_iload hx hb dX5_exchange_51 (lv_at hl 0 rfl) ?_
  obtain ⟨u_15, he_16, hf⟩ := os_bd hf
  refine mc_callV ⟨hx, hb, hml, hown, hts⟩ (mm_X5_build l D kA N q_this u_13.2 a2 a3 u_3 u_15 he_16) (cwV 3 hts gX5_exchange_X5_build rfl rfl rfl (by decide +kernel) ⟨Nat.le_of_ble_eq_true rfl, Nat.le_of_ble_eq_true rfl⟩) (wc := (ce_X5 kA q_this u_13.2)) (ci := 4) (q0 := 0) rfl rfl rfl hl.1 (As := [.int a2, .int a3, .int u_3]) (rest := [.int u_13.1]) rfl (Nat.le_of_ble_eq_true rfl) dX5_exchange_53 ⟨Nat.le_of_ble_eq_true rfl, Nat.le_of_ble_eq_true rfl⟩ hK hP hD hS hA [0, 1, 2, 3] [] [0, 1, 2, 3] rfl (by decide) rfl (by decide) (by decide) rfl (by decide) (wr := []) (w2 := (ce_X5 kA q_this u_15.2)) (fun H locs hP hD hS => ?_)
  have hP : va_P D vwCl (ce_X5 kA q_this u_15.2) H := hP
  refine lv_iadd hx hb dX5_exchange_56 ?_
  rw [← Option.some.inj hf]
  exact mc_reti hx hb hr hlk hP hK hD hS dX5_exchange_57
def ff_X5_turn_c14 (N : Nat) (k4 : (os_T × Int32 × Int32) → Option (Int32 × os_T)) (k14 : (os_T × Int32 × Int32 × Int32) → Option (Int32 × os_T)) (o_this : os_T) (x1 : Int32) (x2 : Int32) (x3 : Int32) : Option (Int32 × os_T) :=
  (if ((os_I o_this 0) / (2 : Int32)) ≤ x3 then k4 (o_this, x1, x2 + 1) else ((ff_X5_exchange N o_this x3 (((os_I o_this 0) - (1 : Int32)) - x3) x2).bind fun u_3 => k14 (u_3.2, x1 + u_3.1, x2, x3 + 1)))
def ff_X5_turn_l14 (N : Nat) (k4 : (os_T × Int32 × Int32) → Option (Int32 × os_T)) : Nat → (os_T × Int32 × Int32 × Int32) → Option (Int32 × os_T) := os_loop (fun k14 s1 => ff_X5_turn_c14 N k4 k14 s1.1 s1.2.1 s1.2.2.1 s1.2.2.2)
def ff_X5_turn_c4 (N : Nat) (k4 : (os_T × Int32 × Int32) → Option (Int32 × os_T)) (o_this : os_T) (x1 : Int32) (x2 : Int32) : Option (Int32 × os_T) :=
  (if (os_I o_this 1) ≤ x2 then some (x1, o_this) else ff_X5_turn_l14 N k4 N (o_this, x1, x2, (0 : Int32)))
def ff_X5_turn_l4 (N : Nat) : Nat → (os_T × Int32 × Int32) → Option (Int32 × os_T) := os_loop (fun k4 s1 => ff_X5_turn_c4 N k4 s1.1 s1.2.1 s1.2.2)
def ff_X5_turn (N : Nat) (o_this : os_T) : Option (Int32 × os_T) :=
  ff_X5_turn_l4 N N (o_this, (0 : Int32), (0 : Int32))
set_option maxHeartbeats 4000000 in
set_option maxRecDepth 100000 in
theorem mm_X5_turn (l : Launch) (D : va_G) (kA : Nat → ClassId) (N : Nat) (q_this : Nat → Nat) (o_this : os_T) (out : (Int32 × os_T)) (hf : ff_X5_turn N o_this = some out) : mc_C l D kA yX5_turn wsX5_turn ({ frames := 3, cells := 0, slots := 0, locals := 70 } : Room) [.ref (q_this 0)] (ce_X5 kA q_this o_this) (some (.int out.1)) (ce_X5 kA q_this out.2) := by
  refine mc_of (cc := cX5_turn) (maxL := 4) (ret := (some .int)) (by decide) rfl (Nat.le_of_ble_eq_true rfl) ?_
  intro p e s m below meth c A B hD hP hS ls hl
  obtain ⟨hx, hb, hr, hlk, hml, hown, hts, hK, hA, hnm⟩ := B
  have hown : s.vm.findClass RX5 = some m.cls := hown
  have hl : lv_has ls 4 [(0, .ref (q_this 0))] := hl
  have hUX5 : ∀ w ∈ u_ws RX5 TX5 10, w.before [.ref (q_this 0)].toArray s = true := fun w h => hts w (List.mem_cons_of_mem _ (List.mem_append_right _ h))
  have hL14 : ∀ (k4 : (os_T × Int32 × Int32) → Option (Int32 × os_T)), (∀ (o_this : os_T) (x1 : Int32) (x2 : Int32) (H : Heap) (locs : List Loc) (ls : Array Slot), va_P D vwCl (ce_X5 kA q_this o_this) H → va_D A (ce_X5 kA q_this o_this) → va_S A s.heap H locs → lv_has ls 4 [(0, .ref (q_this 0)), (1, .int x1), (2, .int x2)] → k4 (o_this, x1, x2) = some out → W p l e ({ frames := 3, cells := 0, slots := 0, locals := 70 } : Room) s m [.ref (q_this 0)].toArray below meth c H locs 0 0 (MQ below (mc_Q D kA A (some (.int out.1)) (ce_X5 kA q_this out.2)) [.ref (q_this 0)].toArray s 0 0 A) (F0 m 4 ls [])) → ∀ (n : Nat) (o_this : os_T) (x1 : Int32) (x2 : Int32) (x3 : Int32) (H : Heap) (locs : List Loc) (ls : Array Slot), va_P D vwCl (ce_X5 kA q_this o_this) H → va_D A (ce_X5 kA q_this o_this) → va_S A s.heap H locs → lv_has ls 4 [(0, .ref (q_this 0)), (1, .int x1), (2, .int x2), (3, .int x3)] → ff_X5_turn_l14 N k4 n (o_this, x1, x2, x3) = some out → W p l e ({ frames := 3, cells := 0, slots := 0, locals := 70 } : Room) s m [.ref (q_this 0)].toArray below meth c H locs 0 0 (MQ below (mc_Q D kA A (some (.int out.1)) (ce_X5 kA q_this out.2)) [.ref (q_this 0)].toArray s 0 0 A) (F0 m 14 ls []) := by
    intro k4 hk4 n
    induction n with
    | zero => intro o_this x1 x2 x3 H locs ls _ _ _ _ hf; cases hf
    | succ n hk14 =>
      intro o_this x1 x2 x3 H locs ls hP hD hS hl hf
      have hf : ff_X5_turn_c14 N k4 (ff_X5_turn_l14 N k4 n) o_this x1 x2 x3 = some out := hf
      generalize hke : ff_X5_turn_l14 N k4 n = k14 at hk14 hf
      unfold ff_X5_turn_c14 at hf
      refine lv_iload_n hx hb dX5_turn_14 rfl (lv_at hl 3 rfl) ?_
      refine lv_aload_n hx hb dX5_turn_15 rfl (lv_at hl 0 rfl) ?_
      refine va_get (D := D) (ci := 4) (v := .int (os_I o_this 0)) (C := RX5) (T := TX5) (N := 10) hx hb hUX5 (fun _ h9 => h9) hown hK hP 0 rfl rfl 0 (by decide) (hts (Cond.fieldLink RX5 28 "ReliefBuilder$Panel" "width" "I") (List.mem_of_getElem? (i := 2) rfl)) (fun _ h9 => h9) rfl dX5_turn_16 ?_
      refine lv_iconst (v := 2) hx hb dX5_turn_19 (by decide) ?_
      refine lv_idiv hx hb dX5_turn_20 (by decide) ?_
      refine lv_icmp_ge (tgt := 47) hx hb dX5_turn_21 (by decide) (fun hc_2 => ?_) (fun hc_2 => ?_)
      · rw [if_pos hc_2] at hf
        refine lv_iinc (v := x2 + 1) (lv' := [(2, .int (x2 + 1)), (0, .ref (q_this 0)), (1, .int x1), (3, .int x3)]) hx hb dX5_turn_47 hl (k := 2) rfl rfl (by decide) rfl (fun ls hl => ?_)
        refine lv_goto (tgt := 4) hx hb dX5_turn_50 (by decide) ?_
        exact hk4 o_this x1 (x2 + 1) _ _ _ hP hD hS (lv_sub hl [1, 2, 0] rfl) hf
      · rw [if_neg hc_2] at hf
        refine lv_iload_n hx hb dX5_turn_24 rfl (lv_at hl 1 rfl) ?_
        refine lv_aload_n hx hb dX5_turn_25 rfl (lv_at hl 0 rfl) ?_
        refine lv_iload_n hx hb dX5_turn_26 rfl (lv_at hl 3 rfl) ?_
        refine lv_aload_n hx hb dX5_turn_27 rfl (lv_at hl 0 rfl) ?_
        refine va_get (D := D) (ci := 4) (v := .int (os_I o_this 0)) (C := RX5) (T := TX5) (N := 10) hx hb hUX5 (fun _ h9 => h9) hown hK hP 0 rfl rfl 0 (by decide) (hts (Cond.fieldLink RX5 28 "ReliefBuilder$Panel" "width" "I") (List.mem_of_getElem? (i := 2) rfl)) (fun _ h9 => h9) rfl dX5_turn_28 ?_
        refine lv_iconst (v := 1) hx hb dX5_turn_31 (by decide) ?_
        refine lv_isub hx hb dX5_turn_32 ?_
        refine lv_iload_n hx hb dX5_turn_33 rfl (lv_at hl 3 rfl) ?_
        refine lv_isub hx hb dX5_turn_34 ?_
        refine lv_iload_n hx hb dX5_turn_35 rfl (lv_at hl 2 rfl) ?_
        obtain ⟨u_3, he_4, hf⟩ := os_bd hf
        refine mc_callV ⟨hx, hb, hml, hown, hts⟩ (mm_X5_exchange l D kA N q_this o_this x3 (((os_I o_this 0) - (1 : Int32)) - x3) x2 u_3 he_4) (cwV 3 hts gX5_turn_X5_exchange rfl rfl rfl (by decide +kernel) ⟨Nat.le_of_ble_eq_true rfl, Nat.le_of_ble_eq_true rfl⟩) (wc := (ce_X5 kA q_this o_this)) (ci := 4) (q0 := 0) rfl rfl rfl hl.1 (As := [.int x3, .int (((os_I o_this 0) - (1 : Int32)) - x3), .int x2]) (rest := [.int x1]) rfl (Nat.le_of_ble_eq_true rfl) dX5_turn_36 ⟨Nat.le_of_ble_eq_true rfl, Nat.le_of_ble_eq_true rfl⟩ hK hP hD hS hA [0, 1, 2, 3] [] [0, 1, 2, 3] rfl (by decide) rfl (by decide) (by decide) rfl (by decide) (wr := []) (w2 := (ce_X5 kA q_this u_3.2)) (fun H locs hP hD hS => ?_)
        have hP : va_P D vwCl (ce_X5 kA q_this u_3.2) H := hP
        refine lv_iadd hx hb dX5_turn_39 ?_
        refine lv_istore_n (lv' := [(1, .int (x1 + u_3.1)), (0, .ref (q_this 0)), (2, .int x2), (3, .int x3)]) hx hb dX5_turn_40 rfl hl (by decide) rfl (fun ls hl => ?_)
        refine lv_iinc (v := x3 + 1) (lv' := [(3, .int (x3 + 1)), (1, .int (x1 + u_3.1)), (0, .ref (q_this 0)), (2, .int x2)]) hx hb dX5_turn_41 hl (k := 3) rfl rfl (by decide) rfl (fun ls hl => ?_)
        refine lv_goto (tgt := 14) hx hb dX5_turn_44 (by decide) ?_
        exact hk14 u_3.2 (x1 + u_3.1) x2 (x3 + 1) _ _ _ hP hD hS (lv_sub hl [2, 1, 3, 0] rfl) hf
  have hL4 : ∀ (n : Nat) (o_this : os_T) (x1 : Int32) (x2 : Int32) (H : Heap) (locs : List Loc) (ls : Array Slot), va_P D vwCl (ce_X5 kA q_this o_this) H → va_D A (ce_X5 kA q_this o_this) → va_S A s.heap H locs → lv_has ls 4 [(0, .ref (q_this 0)), (1, .int x1), (2, .int x2)] → ff_X5_turn_l4 N n (o_this, x1, x2) = some out → W p l e ({ frames := 3, cells := 0, slots := 0, locals := 70 } : Room) s m [.ref (q_this 0)].toArray below meth c H locs 0 0 (MQ below (mc_Q D kA A (some (.int out.1)) (ce_X5 kA q_this out.2)) [.ref (q_this 0)].toArray s 0 0 A) (F0 m 4 ls []) := by
    intro n
    induction n with
    | zero => intro o_this x1 x2 H locs ls _ _ _ _ hf; cases hf
    | succ n hk4 =>
      intro o_this x1 x2 H locs ls hP hD hS hl hf
      have hf : ff_X5_turn_c4 N (ff_X5_turn_l4 N n) o_this x1 x2 = some out := hf
      generalize hke : ff_X5_turn_l4 N n = k4 at hk4 hf
      unfold ff_X5_turn_c4 at hf
      refine lv_iload_n hx hb dX5_turn_4 rfl (lv_at hl 2 rfl) ?_
      refine lv_aload_n hx hb dX5_turn_5 rfl (lv_at hl 0 rfl) ?_
      refine va_get (D := D) (ci := 4) (v := .int (os_I o_this 1)) (C := RX5) (T := TX5) (N := 10) hx hb hUX5 (fun _ h9 => h9) hown hK hP 0 rfl rfl 1 (by decide) (hts (Cond.fieldLink RX5 32 "ReliefBuilder$Panel" "rows" "I") (List.mem_of_getElem? (i := 1) rfl)) (fun _ h9 => h9) rfl dX5_turn_6 ?_
      refine lv_icmp_ge (tgt := 53) hx hb dX5_turn_9 (by decide) (fun hc_1 => ?_) (fun hc_1 => ?_)
      · rw [if_pos hc_1] at hf
        refine lv_iload_n hx hb dX5_turn_53 rfl (lv_at hl 1 rfl) ?_
        rw [← Option.some.inj hf]
        exact mc_reti hx hb hr hlk hP hK hD hS dX5_turn_54
      · rw [if_neg hc_1] at hf
        refine lv_iconst (v := 0) hx hb dX5_turn_12 (by decide) ?_
        refine lv_istore_n (lv' := [(3, .int (0 : Int32)), (0, .ref (q_this 0)), (1, .int x1), (2, .int x2)]) hx hb dX5_turn_13 rfl hl (by decide) rfl (fun ls hl => ?_)
        exact hL14 k4 hk4 N o_this x1 x2 (0 : Int32) _ _ _ hP hD hS (lv_sub hl [1, 2, 3, 0] rfl) hf
  unfold ff_X5_turn at hf
  refine lv_iconst (v := 0) hx hb dX5_turn_0 (by decide) ?_
  refine lv_istore_n (lv' := [(1, .int (0 : Int32)), (0, .ref (q_this 0))]) hx hb dX5_turn_1 rfl hl (by decide) rfl (fun ls hl => ?_)
  refine lv_iconst (v := 0) hx hb dX5_turn_2 (by decide) ?_
  refine lv_istore_n (lv' := [(2, .int (0 : Int32)), (1, .int (0 : Int32)), (0, .ref (q_this 0))]) hx hb dX5_turn_3 rfl hl (by decide) rfl (fun ls hl => ?_)
  exact hL4 N o_this (0 : Int32) (0 : Int32) _ _ _ hP hD hS (lv_sub hl [2, 1, 0] rfl) hf
def ff_X5_sumOfHeights_c14 (N : Nat) (o_this : os_T) (k4 : (Int32 × Int32) → Option Int32) (k14 : (Int32 × Int32 × Int32) → Option Int32) (x1 : Int32) (x2 : Int32) (x3 : Int32) : Option Int32 :=
  (if (os_I o_this 0) ≤ x3 then k4 (x1, x2 + 1) else ((ff_X5_heightAt N o_this x3 x2).bind fun u_3 => k14 (x1 + u_3, x2, x3 + 1)))
def ff_X5_sumOfHeights_l14 (N : Nat) (o_this : os_T) (k4 : (Int32 × Int32) → Option Int32) : Nat → (Int32 × Int32 × Int32) → Option Int32 := os_loop (fun k14 s1 => ff_X5_sumOfHeights_c14 N o_this k4 k14 s1.1 s1.2.1 s1.2.2)
def ff_X5_sumOfHeights_c4 (N : Nat) (o_this : os_T) (k4 : (Int32 × Int32) → Option Int32) (x1 : Int32) (x2 : Int32) : Option Int32 :=
  (if (os_I o_this 1) ≤ x2 then some x1 else ff_X5_sumOfHeights_l14 N o_this k4 N (x1, x2, (0 : Int32)))
def ff_X5_sumOfHeights_l4 (N : Nat) (o_this : os_T) : Nat → (Int32 × Int32) → Option Int32 := os_loop (fun k4 s1 => ff_X5_sumOfHeights_c4 N o_this k4 s1.1 s1.2)
def ff_X5_sumOfHeights (N : Nat) (o_this : os_T) : Option Int32 :=
  ff_X5_sumOfHeights_l4 N o_this N ((0 : Int32), (0 : Int32))
set_option maxHeartbeats 4000000 in
set_option maxRecDepth 100000 in
theorem mm_X5_sumOfHeights (l : Launch) (D : va_G) (kA : Nat → ClassId) (N : Nat) (q_this : Nat → Nat) (o_this : os_T) (out : Int32) (hf : ff_X5_sumOfHeights N o_this = some out) : mc_C l D kA yX5_sumOfHeights wsX5_sumOfHeights ({ frames := 1, cells := 0, slots := 0, locals := 22 } : Room) [.ref (q_this 0)] (ce_X5 kA q_this o_this) (some (.int out)) (ce_X5 kA q_this o_this) := by
  refine mc_of (cc := cX5_sumOfHeights) (maxL := 4) (ret := (some .int)) (by decide) rfl (Nat.le_of_ble_eq_true rfl) ?_
  intro p e s m below meth c A B hD hP hS ls hl
  obtain ⟨hx, hb, hr, hlk, hml, hown, hts, hK, hA, hnm⟩ := B
  have hown : s.vm.findClass RX5 = some m.cls := hown
  have hl : lv_has ls 4 [(0, .ref (q_this 0))] := hl
  have hUX5 : ∀ w ∈ u_ws RX5 TX5 10, w.before [.ref (q_this 0)].toArray s = true := fun w h => hts w (List.mem_cons_of_mem _ (List.mem_append_right _ h))
  have hL14 : ∀ (k4 : (Int32 × Int32) → Option Int32), (∀ (x1 : Int32) (x2 : Int32) (H : Heap) (locs : List Loc) (ls : Array Slot), va_P D vwCl (ce_X5 kA q_this o_this) H → va_D A (ce_X5 kA q_this o_this) → va_S A s.heap H locs → lv_has ls 4 [(0, .ref (q_this 0)), (1, .int x1), (2, .int x2)] → k4 (x1, x2) = some out → W p l e ({ frames := 1, cells := 0, slots := 0, locals := 22 } : Room) s m [.ref (q_this 0)].toArray below meth c H locs 0 0 (MQ below (mc_Q D kA A (some (.int out)) (ce_X5 kA q_this o_this)) [.ref (q_this 0)].toArray s 0 0 A) (F0 m 4 ls [])) → ∀ (n : Nat) (x1 : Int32) (x2 : Int32) (x3 : Int32) (H : Heap) (locs : List Loc) (ls : Array Slot), va_P D vwCl (ce_X5 kA q_this o_this) H → va_D A (ce_X5 kA q_this o_this) → va_S A s.heap H locs → lv_has ls 4 [(0, .ref (q_this 0)), (1, .int x1), (2, .int x2), (3, .int x3)] → ff_X5_sumOfHeights_l14 N o_this k4 n (x1, x2, x3) = some out → W p l e ({ frames := 1, cells := 0, slots := 0, locals := 22 } : Room) s m [.ref (q_this 0)].toArray below meth c H locs 0 0 (MQ below (mc_Q D kA A (some (.int out)) (ce_X5 kA q_this o_this)) [.ref (q_this 0)].toArray s 0 0 A) (F0 m 14 ls []) := by
    intro k4 hk4 n
    induction n with
    | zero => intro x1 x2 x3 H locs ls _ _ _ _ hf; cases hf
    | succ n hk14 =>
      intro x1 x2 x3 H locs ls hP hD hS hl hf
      have hf : ff_X5_sumOfHeights_c14 N o_this k4 (ff_X5_sumOfHeights_l14 N o_this k4 n) x1 x2 x3 = some out := hf
      generalize hke : ff_X5_sumOfHeights_l14 N o_this k4 n = k14 at hk14 hf
      unfold ff_X5_sumOfHeights_c14 at hf
      refine lv_iload_n hx hb dX5_sumOfHeights_14 rfl (lv_at hl 3 rfl) ?_
      refine lv_aload_n hx hb dX5_sumOfHeights_15 rfl (lv_at hl 0 rfl) ?_
      refine va_get (D := D) (ci := 4) (v := .int (os_I o_this 0)) (C := RX5) (T := TX5) (N := 10) hx hb hUX5 (fun _ h9 => h9) hown hK hP 0 rfl rfl 0 (by decide) (hts (Cond.fieldLink RX5 28 "ReliefBuilder$Panel" "width" "I") (List.mem_of_getElem? (i := 2) rfl)) (fun _ h9 => h9) rfl dX5_sumOfHeights_16 ?_
      refine lv_icmp_ge (tgt := 37) hx hb dX5_sumOfHeights_19 (by decide) (fun hc_2 => ?_) (fun hc_2 => ?_)
      · rw [if_pos hc_2] at hf
        refine lv_iinc (v := x2 + 1) (lv' := [(2, .int (x2 + 1)), (0, .ref (q_this 0)), (1, .int x1), (3, .int x3)]) hx hb dX5_sumOfHeights_37 hl (k := 2) rfl rfl (by decide) rfl (fun ls hl => ?_)
        refine lv_goto (tgt := 4) hx hb dX5_sumOfHeights_40 (by decide) ?_
        exact hk4 x1 (x2 + 1) _ _ _ hP hD hS (lv_sub hl [1, 2, 0] rfl) hf
      · rw [if_neg hc_2] at hf
        refine lv_iload_n hx hb dX5_sumOfHeights_22 rfl (lv_at hl 1 rfl) ?_
        refine lv_aload_n hx hb dX5_sumOfHeights_23 rfl (lv_at hl 0 rfl) ?_
        refine lv_iload_n hx hb dX5_sumOfHeights_24 rfl (lv_at hl 3 rfl) ?_
        refine lv_iload_n hx hb dX5_sumOfHeights_25 rfl (lv_at hl 2 rfl) ?_
        obtain ⟨u_3, he_4, hf⟩ := os_bd hf
        refine mc_callV ⟨hx, hb, hml, hown, hts⟩ (mm_X5_heightAt l D kA N q_this o_this x3 x2 u_3 he_4) (cwV 2 hts gX5_sumOfHeights_X5_heightAt rfl rfl rfl (by decide +kernel) ⟨Nat.le_of_ble_eq_true rfl, Nat.le_of_ble_eq_true rfl⟩) (wc := (ce_X5 kA q_this o_this)) (ci := 4) (q0 := 0) rfl rfl rfl hl.1 (As := [.int x3, .int x2]) (rest := [.int x1]) rfl (Nat.le_of_ble_eq_true rfl) dX5_sumOfHeights_26 ⟨Nat.le_of_ble_eq_true rfl, Nat.le_of_ble_eq_true rfl⟩ hK hP hD hS hA [0, 1, 2, 3] [] [0, 1, 2, 3] rfl (by decide) rfl (by decide) (by decide) rfl (by decide) (wr := []) (w2 := (ce_X5 kA q_this o_this)) (fun H locs hP hD hS => ?_)
        have hP : va_P D vwCl (ce_X5 kA q_this o_this) H := hP
        refine lv_iadd hx hb dX5_sumOfHeights_29 ?_
        refine lv_istore_n (lv' := [(1, .int (x1 + u_3)), (0, .ref (q_this 0)), (2, .int x2), (3, .int x3)]) hx hb dX5_sumOfHeights_30 rfl hl (by decide) rfl (fun ls hl => ?_)
        refine lv_iinc (v := x3 + 1) (lv' := [(3, .int (x3 + 1)), (1, .int (x1 + u_3)), (0, .ref (q_this 0)), (2, .int x2)]) hx hb dX5_sumOfHeights_31 hl (k := 3) rfl rfl (by decide) rfl (fun ls hl => ?_)
        refine lv_goto (tgt := 14) hx hb dX5_sumOfHeights_34 (by decide) ?_
        exact hk14 (x1 + u_3) x2 (x3 + 1) _ _ _ hP hD hS (lv_sub hl [2, 1, 3, 0] rfl) hf
  have hL4 : ∀ (n : Nat) (x1 : Int32) (x2 : Int32) (H : Heap) (locs : List Loc) (ls : Array Slot), va_P D vwCl (ce_X5 kA q_this o_this) H → va_D A (ce_X5 kA q_this o_this) → va_S A s.heap H locs → lv_has ls 4 [(0, .ref (q_this 0)), (1, .int x1), (2, .int x2)] → ff_X5_sumOfHeights_l4 N o_this n (x1, x2) = some out → W p l e ({ frames := 1, cells := 0, slots := 0, locals := 22 } : Room) s m [.ref (q_this 0)].toArray below meth c H locs 0 0 (MQ below (mc_Q D kA A (some (.int out)) (ce_X5 kA q_this o_this)) [.ref (q_this 0)].toArray s 0 0 A) (F0 m 4 ls []) := by
    intro n
    induction n with
    | zero => intro x1 x2 H locs ls _ _ _ _ hf; cases hf
    | succ n hk4 =>
      intro x1 x2 H locs ls hP hD hS hl hf
      have hf : ff_X5_sumOfHeights_c4 N o_this (ff_X5_sumOfHeights_l4 N o_this n) x1 x2 = some out := hf
      generalize hke : ff_X5_sumOfHeights_l4 N o_this n = k4 at hk4 hf
      unfold ff_X5_sumOfHeights_c4 at hf
      refine lv_iload_n hx hb dX5_sumOfHeights_4 rfl (lv_at hl 2 rfl) ?_
      refine lv_aload_n hx hb dX5_sumOfHeights_5 rfl (lv_at hl 0 rfl) ?_
      refine va_get (D := D) (ci := 4) (v := .int (os_I o_this 1)) (C := RX5) (T := TX5) (N := 10) hx hb hUX5 (fun _ h9 => h9) hown hK hP 0 rfl rfl 1 (by decide) (hts (Cond.fieldLink RX5 32 "ReliefBuilder$Panel" "rows" "I") (List.mem_of_getElem? (i := 1) rfl)) (fun _ h9 => h9) rfl dX5_sumOfHeights_6 ?_
      refine lv_icmp_ge (tgt := 43) hx hb dX5_sumOfHeights_9 (by decide) (fun hc_1 => ?_) (fun hc_1 => ?_)
      · rw [if_pos hc_1] at hf
        refine lv_iload_n hx hb dX5_sumOfHeights_43 rfl (lv_at hl 1 rfl) ?_
        rw [← Option.some.inj hf]
        exact mc_reti hx hb hr hlk hP hK hD hS dX5_sumOfHeights_44
      · rw [if_neg hc_1] at hf
        refine lv_iconst (v := 0) hx hb dX5_sumOfHeights_12 (by decide) ?_
        refine lv_istore_n (lv' := [(3, .int (0 : Int32)), (0, .ref (q_this 0)), (1, .int x1), (2, .int x2)]) hx hb dX5_sumOfHeights_13 rfl hl (by decide) rfl (fun ls hl => ?_)
        exact hL14 k4 hk4 N x1 x2 (0 : Int32) _ _ _ hP hD hS (lv_sub hl [1, 2, 3, 0] rfl) hf
  unfold ff_X5_sumOfHeights at hf
  refine lv_iconst (v := 0) hx hb dX5_sumOfHeights_0 (by decide) ?_
  refine lv_istore_n (lv' := [(1, .int (0 : Int32)), (0, .ref (q_this 0))]) hx hb dX5_sumOfHeights_1 rfl hl (by decide) rfl (fun ls hl => ?_)
  refine lv_iconst (v := 0) hx hb dX5_sumOfHeights_2 (by decide) ?_
  refine lv_istore_n (lv' := [(2, .int (0 : Int32)), (1, .int (0 : Int32)), (0, .ref (q_this 0))]) hx hb dX5_sumOfHeights_3 rfl hl (by decide) rfl (fun ls hl => ?_)
  exact hL4 N (0 : Int32) (0 : Int32) _ _ _ hP hD hS (lv_sub hl [2, 1, 0] rfl) hf
def ff_X5_countOf_b38 (N : Nat) (o_this : os_T) (k4 : (Int32 × Int32 × Int32) → Option Int32) (k15 : (Int32 × Int32 × Int32 × Int32) → Option Int32) (x1 : Int32) (x2 : Int32) (x3 : Int32) (x4 : Int32) : Option Int32 :=
  k15 (x1, x2, x3, x4 + 1)
def ff_X5_countOf_c15 (N : Nat) (o_this : os_T) (k4 : (Int32 × Int32 × Int32) → Option Int32) (k15 : (Int32 × Int32 × Int32 × Int32) → Option Int32) (x1 : Int32) (x2 : Int32) (x3 : Int32) (x4 : Int32) : Option Int32 :=
  (if (os_I o_this 0) ≤ x4 then k4 (x1, x2, x3 + 1) else ((ff_X5_heightAt N o_this x4 x3).bind fun u_3 => (if u_3 = x1 then ff_X5_countOf_b38 N o_this k4 k15 x1 (x2 + 1) x3 x4 else ff_X5_countOf_b38 N o_this k4 k15 x1 x2 x3 x4)))
def ff_X5_countOf_l15 (N : Nat) (o_this : os_T) (k4 : (Int32 × Int32 × Int32) → Option Int32) : Nat → (Int32 × Int32 × Int32 × Int32) → Option Int32 := os_loop (fun k15 s1 => ff_X5_countOf_c15 N o_this k4 k15 s1.1 s1.2.1 s1.2.2.1 s1.2.2.2)
def ff_X5_countOf_c4 (N : Nat) (o_this : os_T) (k4 : (Int32 × Int32 × Int32) → Option Int32) (x1 : Int32) (x2 : Int32) (x3 : Int32) : Option Int32 :=
  (if (os_I o_this 1) ≤ x3 then some x2 else ff_X5_countOf_l15 N o_this k4 N (x1, x2, x3, (0 : Int32)))
def ff_X5_countOf_l4 (N : Nat) (o_this : os_T) : Nat → (Int32 × Int32 × Int32) → Option Int32 := os_loop (fun k4 s1 => ff_X5_countOf_c4 N o_this k4 s1.1 s1.2.1 s1.2.2)
def ff_X5_countOf (N : Nat) (o_this : os_T) (a1 : Int32) : Option Int32 :=
  ff_X5_countOf_l4 N o_this N (a1, (0 : Int32), (0 : Int32))
set_option maxHeartbeats 4000000 in
set_option maxRecDepth 100000 in
theorem mm_X5_countOf (l : Launch) (D : va_G) (kA : Nat → ClassId) (N : Nat) (q_this : Nat → Nat) (o_this : os_T) (a1 : Int32) (out : Int32) (hf : ff_X5_countOf N o_this a1 = some out) : mc_C l D kA yX5_countOf wsX5_countOf ({ frames := 1, cells := 0, slots := 0, locals := 22 } : Room) [.ref (q_this 0), .int a1] (ce_X5 kA q_this o_this) (some (.int out)) (ce_X5 kA q_this o_this) := by
  refine mc_of (cc := cX5_countOf) (maxL := 5) (ret := (some .int)) (by decide) rfl (Nat.le_of_ble_eq_true rfl) ?_
  intro p e s m below meth c A B hD hP hS ls hl
  obtain ⟨hx, hb, hr, hlk, hml, hown, hts, hK, hA, hnm⟩ := B
  have hown : s.vm.findClass RX5 = some m.cls := hown
  have hl : lv_has ls 5 [(0, .ref (q_this 0)), (1, .int a1)] := hl
  have hUX5 : ∀ w ∈ u_ws RX5 TX5 10, w.before [.ref (q_this 0), .int a1].toArray s = true := fun w h => hts w (List.mem_cons_of_mem _ (List.mem_append_right _ h))
  have hB38 : ∀ (k4 : (Int32 × Int32 × Int32) → Option Int32), (∀ (x1 : Int32) (x2 : Int32) (x3 : Int32) (H : Heap) (locs : List Loc) (ls : Array Slot), va_P D vwCl (ce_X5 kA q_this o_this) H → va_D A (ce_X5 kA q_this o_this) → va_S A s.heap H locs → lv_has ls 5 [(0, .ref (q_this 0)), (1, .int x1), (2, .int x2), (3, .int x3)] → k4 (x1, x2, x3) = some out → W p l e ({ frames := 1, cells := 0, slots := 0, locals := 22 } : Room) s m [.ref (q_this 0), .int a1].toArray below meth c H locs 0 0 (MQ below (mc_Q D kA A (some (.int out)) (ce_X5 kA q_this o_this)) [.ref (q_this 0), .int a1].toArray s 0 0 A) (F0 m 4 ls [])) → ∀ (k15 : (Int32 × Int32 × Int32 × Int32) → Option Int32), (∀ (x1 : Int32) (x2 : Int32) (x3 : Int32) (x4 : Int32) (H : Heap) (locs : List Loc) (ls : Array Slot), va_P D vwCl (ce_X5 kA q_this o_this) H → va_D A (ce_X5 kA q_this o_this) → va_S A s.heap H locs → lv_has ls 5 [(0, .ref (q_this 0)), (1, .int x1), (2, .int x2), (3, .int x3), (4, .int x4)] → k15 (x1, x2, x3, x4) = some out → W p l e ({ frames := 1, cells := 0, slots := 0, locals := 22 } : Room) s m [.ref (q_this 0), .int a1].toArray below meth c H locs 0 0 (MQ below (mc_Q D kA A (some (.int out)) (ce_X5 kA q_this o_this)) [.ref (q_this 0), .int a1].toArray s 0 0 A) (F0 m 15 ls [])) → ∀ (x1 : Int32) (x2 : Int32) (x3 : Int32) (x4 : Int32) (H : Heap) (locs : List Loc) (ls : Array Slot), va_P D vwCl (ce_X5 kA q_this o_this) H → va_D A (ce_X5 kA q_this o_this) → va_S A s.heap H locs → lv_has ls 5 [(0, .ref (q_this 0)), (1, .int x1), (2, .int x2), (3, .int x3), (4, .int x4)] → ff_X5_countOf_b38 N o_this k4 k15 x1 x2 x3 x4 = some out → W p l e ({ frames := 1, cells := 0, slots := 0, locals := 22 } : Room) s m [.ref (q_this 0), .int a1].toArray below meth c H locs 0 0 (MQ below (mc_Q D kA A (some (.int out)) (ce_X5 kA q_this o_this)) [.ref (q_this 0), .int a1].toArray s 0 0 A) (F0 m 38 ls []) := by
    intro k4 hk4 k15 hk15 x1 x2 x3 x4 H locs ls hP hD hS hl hf
    unfold ff_X5_countOf_b38 at hf
    refine lv_iinc (v := x4 + 1) (lv' := [(4, .int (x4 + 1)), (0, .ref (q_this 0)), (1, .int x1), (2, .int x2), (3, .int x3)]) hx hb dX5_countOf_38 hl (k := 4) rfl rfl (by decide) rfl (fun ls hl => ?_)
    refine lv_goto (tgt := 15) hx hb dX5_countOf_41 (by decide) ?_
    exact hk15 x1 x2 x3 (x4 + 1) _ _ _ hP hD hS (lv_sub hl [1, 2, 3, 4, 0] rfl) hf
  have hL15 : ∀ (k4 : (Int32 × Int32 × Int32) → Option Int32), (∀ (x1 : Int32) (x2 : Int32) (x3 : Int32) (H : Heap) (locs : List Loc) (ls : Array Slot), va_P D vwCl (ce_X5 kA q_this o_this) H → va_D A (ce_X5 kA q_this o_this) → va_S A s.heap H locs → lv_has ls 5 [(0, .ref (q_this 0)), (1, .int x1), (2, .int x2), (3, .int x3)] → k4 (x1, x2, x3) = some out → W p l e ({ frames := 1, cells := 0, slots := 0, locals := 22 } : Room) s m [.ref (q_this 0), .int a1].toArray below meth c H locs 0 0 (MQ below (mc_Q D kA A (some (.int out)) (ce_X5 kA q_this o_this)) [.ref (q_this 0), .int a1].toArray s 0 0 A) (F0 m 4 ls [])) → ∀ (n : Nat) (x1 : Int32) (x2 : Int32) (x3 : Int32) (x4 : Int32) (H : Heap) (locs : List Loc) (ls : Array Slot), va_P D vwCl (ce_X5 kA q_this o_this) H → va_D A (ce_X5 kA q_this o_this) → va_S A s.heap H locs → lv_has ls 5 [(0, .ref (q_this 0)), (1, .int x1), (2, .int x2), (3, .int x3), (4, .int x4)] → ff_X5_countOf_l15 N o_this k4 n (x1, x2, x3, x4) = some out → W p l e ({ frames := 1, cells := 0, slots := 0, locals := 22 } : Room) s m [.ref (q_this 0), .int a1].toArray below meth c H locs 0 0 (MQ below (mc_Q D kA A (some (.int out)) (ce_X5 kA q_this o_this)) [.ref (q_this 0), .int a1].toArray s 0 0 A) (F0 m 15 ls []) := by
    intro k4 hk4 n
    induction n with
    | zero => intro x1 x2 x3 x4 H locs ls _ _ _ _ hf; cases hf
    | succ n hk15 =>
      intro x1 x2 x3 x4 H locs ls hP hD hS hl hf
      have hf : ff_X5_countOf_c15 N o_this k4 (ff_X5_countOf_l15 N o_this k4 n) x1 x2 x3 x4 = some out := hf
      generalize hke : ff_X5_countOf_l15 N o_this k4 n = k15 at hk15 hf
      unfold ff_X5_countOf_c15 at hf
      refine lv_iload hx hb dX5_countOf_15 (lv_at hl 4 rfl) ?_
      refine lv_aload_n hx hb dX5_countOf_17 rfl (lv_at hl 0 rfl) ?_
      refine va_get (D := D) (ci := 4) (v := .int (os_I o_this 0)) (C := RX5) (T := TX5) (N := 10) hx hb hUX5 (fun _ h9 => h9) hown hK hP 0 rfl rfl 0 (by decide) (hts (Cond.fieldLink RX5 28 "ReliefBuilder$Panel" "width" "I") (List.mem_of_getElem? (i := 2) rfl)) (fun _ h9 => h9) rfl dX5_countOf_18 ?_
      refine lv_icmp_ge (tgt := 44) hx hb dX5_countOf_21 (by decide) (fun hc_2 => ?_) (fun hc_2 => ?_)
      · rw [if_pos hc_2] at hf
        refine lv_iinc (v := x3 + 1) (lv' := [(3, .int (x3 + 1)), (0, .ref (q_this 0)), (1, .int x1), (2, .int x2), (4, .int x4)]) hx hb dX5_countOf_44 hl (k := 3) rfl rfl (by decide) rfl (fun ls hl => ?_)
        refine lv_goto (tgt := 4) hx hb dX5_countOf_47 (by decide) ?_
        exact hk4 x1 x2 (x3 + 1) _ _ _ hP hD hS (lv_sub hl [1, 2, 3, 0] rfl) hf
      · rw [if_neg hc_2] at hf
        refine lv_aload_n hx hb dX5_countOf_24 rfl (lv_at hl 0 rfl) ?_
        refine lv_iload hx hb dX5_countOf_25 (lv_at hl 4 rfl) ?_
        refine lv_iload_n hx hb dX5_countOf_27 rfl (lv_at hl 3 rfl) ?_
        obtain ⟨u_3, he_4, hf⟩ := os_bd hf
        refine mc_callV ⟨hx, hb, hml, hown, hts⟩ (mm_X5_heightAt l D kA N q_this o_this x4 x3 u_3 he_4) (cwV 2 hts gX5_countOf_X5_heightAt rfl rfl rfl (by decide +kernel) ⟨Nat.le_of_ble_eq_true rfl, Nat.le_of_ble_eq_true rfl⟩) (wc := (ce_X5 kA q_this o_this)) (ci := 4) (q0 := 0) rfl rfl rfl hl.1 (As := [.int x4, .int x3]) (rest := []) rfl (Nat.le_of_ble_eq_true rfl) dX5_countOf_28 ⟨Nat.le_of_ble_eq_true rfl, Nat.le_of_ble_eq_true rfl⟩ hK hP hD hS hA [0, 1, 2, 3] [] [0, 1, 2, 3] rfl (by decide) rfl (by decide) (by decide) rfl (by decide) (wr := []) (w2 := (ce_X5 kA q_this o_this)) (fun H locs hP hD hS => ?_)
        have hP : va_P D vwCl (ce_X5 kA q_this o_this) H := hP
        refine lv_iload_n hx hb dX5_countOf_31 rfl (lv_at hl 1 rfl) ?_
        refine lv_icmp_ne (tgt := 38) hx hb dX5_countOf_32 (by decide) (fun hc_5 => ?_) (fun hc_5 => ?_)
        · rw [if_neg hc_5] at hf
          exact hB38 k4 hk4 k15 hk15 x1 x2 x3 x4 _ _ _ hP hD hS (lv_sub hl [0, 1, 2, 3, 4] rfl) hf
        · rw [if_pos hc_5] at hf
          refine lv_iinc (v := x2 + 1) (lv' := [(2, .int (x2 + 1)), (0, .ref (q_this 0)), (1, .int x1), (3, .int x3), (4, .int x4)]) hx hb dX5_countOf_35 hl (k := 2) rfl rfl (by decide) rfl (fun ls hl => ?_)
          exact hB38 k4 hk4 k15 hk15 x1 (x2 + 1) x3 x4 _ _ _ hP hD hS (lv_sub hl [1, 2, 0, 3, 4] rfl) hf
  have hL4 : ∀ (n : Nat) (x1 : Int32) (x2 : Int32) (x3 : Int32) (H : Heap) (locs : List Loc) (ls : Array Slot), va_P D vwCl (ce_X5 kA q_this o_this) H → va_D A (ce_X5 kA q_this o_this) → va_S A s.heap H locs → lv_has ls 5 [(0, .ref (q_this 0)), (1, .int x1), (2, .int x2), (3, .int x3)] → ff_X5_countOf_l4 N o_this n (x1, x2, x3) = some out → W p l e ({ frames := 1, cells := 0, slots := 0, locals := 22 } : Room) s m [.ref (q_this 0), .int a1].toArray below meth c H locs 0 0 (MQ below (mc_Q D kA A (some (.int out)) (ce_X5 kA q_this o_this)) [.ref (q_this 0), .int a1].toArray s 0 0 A) (F0 m 4 ls []) := by
    intro n
    induction n with
    | zero => intro x1 x2 x3 H locs ls _ _ _ _ hf; cases hf
    | succ n hk4 =>
      intro x1 x2 x3 H locs ls hP hD hS hl hf
      have hf : ff_X5_countOf_c4 N o_this (ff_X5_countOf_l4 N o_this n) x1 x2 x3 = some out := hf
      generalize hke : ff_X5_countOf_l4 N o_this n = k4 at hk4 hf
      unfold ff_X5_countOf_c4 at hf
      refine lv_iload_n hx hb dX5_countOf_4 rfl (lv_at hl 3 rfl) ?_
      refine lv_aload_n hx hb dX5_countOf_5 rfl (lv_at hl 0 rfl) ?_
      refine va_get (D := D) (ci := 4) (v := .int (os_I o_this 1)) (C := RX5) (T := TX5) (N := 10) hx hb hUX5 (fun _ h9 => h9) hown hK hP 0 rfl rfl 1 (by decide) (hts (Cond.fieldLink RX5 32 "ReliefBuilder$Panel" "rows" "I") (List.mem_of_getElem? (i := 1) rfl)) (fun _ h9 => h9) rfl dX5_countOf_6 ?_
      refine lv_icmp_ge (tgt := 50) hx hb dX5_countOf_9 (by decide) (fun hc_1 => ?_) (fun hc_1 => ?_)
      · rw [if_pos hc_1] at hf
        refine lv_iload_n hx hb dX5_countOf_50 rfl (lv_at hl 2 rfl) ?_
        rw [← Option.some.inj hf]
        exact mc_reti hx hb hr hlk hP hK hD hS dX5_countOf_51
      · rw [if_neg hc_1] at hf
        refine lv_iconst (v := 0) hx hb dX5_countOf_12 (by decide) ?_
        refine lv_istore (lv' := [(4, .int (0 : Int32)), (0, .ref (q_this 0)), (1, .int x1), (2, .int x2), (3, .int x3)]) hx hb dX5_countOf_13 hl (by decide) rfl (fun ls hl => ?_)
        exact hL15 k4 hk4 N x1 x2 x3 (0 : Int32) _ _ _ hP hD hS (lv_sub hl [1, 2, 3, 4, 0] rfl) hf
  unfold ff_X5_countOf at hf
  refine lv_iconst (v := 0) hx hb dX5_countOf_0 (by decide) ?_
  refine lv_istore_n (lv' := [(2, .int (0 : Int32)), (0, .ref (q_this 0)), (1, .int a1)]) hx hb dX5_countOf_1 rfl hl (by decide) rfl (fun ls hl => ?_)
  refine lv_iconst (v := 0) hx hb dX5_countOf_2 (by decide) ?_
  refine lv_istore_n (lv' := [(3, .int (0 : Int32)), (2, .int (0 : Int32)), (0, .ref (q_this 0)), (1, .int a1)]) hx hb dX5_countOf_3 rfl hl (by decide) rfl (fun ls hl => ?_)
  exact hL4 N a1 (0 : Int32) (0 : Int32) _ _ _ hP hD hS (lv_sub hl [2, 3, 1, 0] rfl) hf
def ff_X5_greatestStep_b90 (N : Nat) (o_this : os_T) (k4 : (Int32 × Int32) → Option Int32) (k14 : (Int32 × Int32 × Int32) → Option Int32) (x1 : Int32) (x2 : Int32) (x3 : Int32) (x4 : Int32) (t0 : Int32) : Option Int32 :=
  k14 ((if x1 < (if x4 < t0 then t0 else x4) then (if x4 < t0 then t0 else x4) else x1), x2, x3 + 1)
def ff_X5_greatestStep_b55 (N : Nat) (o_this : os_T) (k4 : (Int32 × Int32) → Option Int32) (k14 : (Int32 × Int32 × Int32) → Option Int32) (x1 : Int32) (x2 : Int32) (x3 : Int32) (t0 : Int32) : Option Int32 :=
  ((ff_X5_has N o_this x3 (x2 + (1 : Int32))).bind fun u_10 => (if u_10 = 0 then ff_X5_greatestStep_b90 N o_this k4 k14 x1 x2 x3 t0 (0 : Int32) else ((ff_X5_heightAt N o_this x3 x2).bind fun u_13 => ((ff_X5_heightAt N o_this x3 (x2 + (1 : Int32))).bind fun u_15 => ff_X5_greatestStep_b90 N o_this k4 k14 x1 x2 x3 t0 (if 0 ≤ (u_13 - u_15) then (u_13 - u_15) else 0 - (u_13 - u_15))))))
def ff_X5_greatestStep_c14 (N : Nat) (o_this : os_T) (k4 : (Int32 × Int32) → Option Int32) (k14 : (Int32 × Int32 × Int32) → Option Int32) (x1 : Int32) (x2 : Int32) (x3 : Int32) : Option Int32 :=
  (if (os_I o_this 0) ≤ x3 then k4 (x1, x2 + 1) else ((ff_X5_has N o_this (x3 + (1 : Int32)) x2).bind fun u_3 => (if u_3 = 0 then ff_X5_greatestStep_b55 N o_this k4 k14 x1 x2 x3 (0 : Int32) else ((ff_X5_heightAt N o_this x3 x2).bind fun u_6 => ((ff_X5_heightAt N o_this (x3 + (1 : Int32)) x2).bind fun u_8 => ff_X5_greatestStep_b55 N o_this k4 k14 x1 x2 x3 (if 0 ≤ (u_6 - u_8) then (u_6 - u_8) else 0 - (u_6 - u_8)))))))
def ff_X5_greatestStep_l14 (N : Nat) (o_this : os_T) (k4 : (Int32 × Int32) → Option Int32) : Nat → (Int32 × Int32 × Int32) → Option Int32 := os_loop (fun k14 s1 => ff_X5_greatestStep_c14 N o_this k4 k14 s1.1 s1.2.1 s1.2.2)
def ff_X5_greatestStep_c4 (N : Nat) (o_this : os_T) (k4 : (Int32 × Int32) → Option Int32) (x1 : Int32) (x2 : Int32) : Option Int32 :=
  (if (os_I o_this 1) ≤ x2 then some x1 else ff_X5_greatestStep_l14 N o_this k4 N (x1, x2, (0 : Int32)))
def ff_X5_greatestStep_l4 (N : Nat) (o_this : os_T) : Nat → (Int32 × Int32) → Option Int32 := os_loop (fun k4 s1 => ff_X5_greatestStep_c4 N o_this k4 s1.1 s1.2)
def ff_X5_greatestStep (N : Nat) (o_this : os_T) : Option Int32 :=
  ff_X5_greatestStep_l4 N o_this N ((0 : Int32), (0 : Int32))
set_option maxHeartbeats 4000000 in
set_option maxRecDepth 100000 in
theorem mm_X5_greatestStep (l : Launch) (D : va_G) (kA : Nat → ClassId) (N : Nat) (q_this : Nat → Nat) (o_this : os_T) (out : Int32) (hf : ff_X5_greatestStep N o_this = some out) : mc_C l D kA yX5_greatestStep wsX5_greatestStep ({ frames := 1, cells := 0, slots := 0, locals := 22 } : Room) [.ref (q_this 0)] (ce_X5 kA q_this o_this) (some (.int out)) (ce_X5 kA q_this o_this) := by
  refine mc_of (cc := cX5_greatestStep) (maxL := 6) (ret := (some .int)) (by decide) rfl (Nat.le_of_ble_eq_true rfl) ?_
  intro p e s m below meth c A B hD hP hS ls hl
  obtain ⟨hx, hb, hr, hlk, hml, hown, hts, hK, hA, hnm⟩ := B
  have hown : s.vm.findClass RX5 = some m.cls := hown
  have hl : lv_has ls 6 [(0, .ref (q_this 0))] := hl
  have hUX5 : ∀ w ∈ u_ws RX5 TX5 10, w.before [.ref (q_this 0)].toArray s = true := fun w h => hts w (List.mem_cons_of_mem _ (List.mem_append_right _ h))
  have hB90 : ∀ (k4 : (Int32 × Int32) → Option Int32), (∀ (x1 : Int32) (x2 : Int32) (H : Heap) (locs : List Loc) (ls : Array Slot), va_P D vwCl (ce_X5 kA q_this o_this) H → va_D A (ce_X5 kA q_this o_this) → va_S A s.heap H locs → lv_has ls 6 [(0, .ref (q_this 0)), (1, .int x1), (2, .int x2)] → k4 (x1, x2) = some out → W p l e ({ frames := 1, cells := 0, slots := 0, locals := 22 } : Room) s m [.ref (q_this 0)].toArray below meth c H locs 0 0 (MQ below (mc_Q D kA A (some (.int out)) (ce_X5 kA q_this o_this)) [.ref (q_this 0)].toArray s 0 0 A) (F0 m 4 ls [])) → ∀ (k14 : (Int32 × Int32 × Int32) → Option Int32), (∀ (x1 : Int32) (x2 : Int32) (x3 : Int32) (H : Heap) (locs : List Loc) (ls : Array Slot), va_P D vwCl (ce_X5 kA q_this o_this) H → va_D A (ce_X5 kA q_this o_this) → va_S A s.heap H locs → lv_has ls 6 [(0, .ref (q_this 0)), (1, .int x1), (2, .int x2), (3, .int x3)] → k14 (x1, x2, x3) = some out → W p l e ({ frames := 1, cells := 0, slots := 0, locals := 22 } : Room) s m [.ref (q_this 0)].toArray below meth c H locs 0 0 (MQ below (mc_Q D kA A (some (.int out)) (ce_X5 kA q_this o_this)) [.ref (q_this 0)].toArray s 0 0 A) (F0 m 14 ls [])) → ∀ (x1 : Int32) (x2 : Int32) (x3 : Int32) (x4 : Int32) (t0 : Int32) (H : Heap) (locs : List Loc) (ls : Array Slot), va_P D vwCl (ce_X5 kA q_this o_this) H → va_D A (ce_X5 kA q_this o_this) → va_S A s.heap H locs → lv_has ls 6 [(0, .ref (q_this 0)), (1, .int x1), (2, .int x2), (3, .int x3), (4, .int x4)] → ff_X5_greatestStep_b90 N o_this k4 k14 x1 x2 x3 x4 t0 = some out → W p l e ({ frames := 1, cells := 0, slots := 0, locals := 22 } : Room) s m [.ref (q_this 0)].toArray below meth c H locs 0 0 (MQ below (mc_Q D kA A (some (.int out)) (ce_X5 kA q_this o_this)) [.ref (q_this 0)].toArray s 0 0 A) (F0 m 90 ls [.int t0]) := by
    intro k4 hk4 k14 hk14 x1 x2 x3 x4 t0 H locs ls hP hD hS hl hf
    unfold ff_X5_greatestStep_b90 at hf
    refine lv_istore (lv' := [(5, .int t0), (0, .ref (q_this 0)), (1, .int x1), (2, .int x2), (3, .int x3), (4, .int x4)]) hx hb dX5_greatestStep_90 hl (by decide) rfl (fun ls hl => ?_)
    refine lv_iload_n hx hb dX5_greatestStep_92 rfl (lv_at hl 2 rfl) ?_
    refine lv_iload hx hb dX5_greatestStep_93 (lv_at hl 5 rfl) ?_
    refine lv_iload hx hb dX5_greatestStep_95 (lv_at hl 0 rfl) ?_
    refine va_mmax hx hb (hml.trans hl.1.symm) hown (hts (Cond.methodLink RX5 112 Lib.Math.max.name) (List.mem_of_getElem? (i := 7) rfl)) (hts (Cond.static Lib.Math.max.name) (List.mem_of_getElem? (i := 8) rfl)) (hts (Cond.initialized "java/lang/Math") (List.mem_of_getElem? (i := 5) rfl)) (hts (Cond.code Lib.Math.max.name Lib.Math.max.code 2 (some .int)) (List.mem_of_getElem? (i := 9) rfl)) (Nat.le_of_ble_eq_true rfl) (Nat.le_of_ble_eq_true rfl) (Nat.le_of_ble_eq_true rfl) (Nat.le_of_ble_eq_true rfl) dX5_greatestStep_97 ?_
    refine va_mmax hx hb (hml.trans hl.1.symm) hown (hts (Cond.methodLink RX5 112 Lib.Math.max.name) (List.mem_of_getElem? (i := 7) rfl)) (hts (Cond.static Lib.Math.max.name) (List.mem_of_getElem? (i := 8) rfl)) (hts (Cond.initialized "java/lang/Math") (List.mem_of_getElem? (i := 5) rfl)) (hts (Cond.code Lib.Math.max.name Lib.Math.max.code 2 (some .int)) (List.mem_of_getElem? (i := 9) rfl)) (Nat.le_of_ble_eq_true rfl) (Nat.le_of_ble_eq_true rfl) (Nat.le_of_ble_eq_true rfl) (Nat.le_of_ble_eq_true rfl) dX5_greatestStep_100 ?_
    refine lv_istore_n (lv' := [(1, .int (if x1 < (if x4 < t0 then t0 else x4) then (if x4 < t0 then t0 else x4) else x1)), (5, .int t0), (0, .ref (q_this 0)), (2, .int x2), (3, .int x3), (4, .int x4)]) hx hb dX5_greatestStep_103 rfl hl (by decide) rfl (fun ls hl => ?_)
    refine lv_iinc (v := x3 + 1) (lv' := [(3, .int (x3 + 1)), (1, .int (if x1 < (if x4 < t0 then t0 else x4) then (if x4 < t0 then t0 else x4) else x1)), (5, .int t0), (0, .ref (q_this 0)), (2, .int x2), (4, .int x4)]) hx hb dX5_greatestStep_104 hl (k := 4) rfl rfl (by decide) rfl (fun ls hl => ?_)
    refine lv_goto (tgt := 14) hx hb dX5_greatestStep_107 (by decide) ?_
    exact hk14 (if x1 < (if x4 < t0 then t0 else x4) then (if x4 < t0 then t0 else x4) else x1) x2 (x3 + 1) _ _ _ hP hD hS (lv_sub hl [3, 1, 4, 0] rfl) hf
  have hB55 : ∀ (k4 : (Int32 × Int32) → Option Int32), (∀ (x1 : Int32) (x2 : Int32) (H : Heap) (locs : List Loc) (ls : Array Slot), va_P D vwCl (ce_X5 kA q_this o_this) H → va_D A (ce_X5 kA q_this o_this) → va_S A s.heap H locs → lv_has ls 6 [(0, .ref (q_this 0)), (1, .int x1), (2, .int x2)] → k4 (x1, x2) = some out → W p l e ({ frames := 1, cells := 0, slots := 0, locals := 22 } : Room) s m [.ref (q_this 0)].toArray below meth c H locs 0 0 (MQ below (mc_Q D kA A (some (.int out)) (ce_X5 kA q_this o_this)) [.ref (q_this 0)].toArray s 0 0 A) (F0 m 4 ls [])) → ∀ (k14 : (Int32 × Int32 × Int32) → Option Int32), (∀ (x1 : Int32) (x2 : Int32) (x3 : Int32) (H : Heap) (locs : List Loc) (ls : Array Slot), va_P D vwCl (ce_X5 kA q_this o_this) H → va_D A (ce_X5 kA q_this o_this) → va_S A s.heap H locs → lv_has ls 6 [(0, .ref (q_this 0)), (1, .int x1), (2, .int x2), (3, .int x3)] → k14 (x1, x2, x3) = some out → W p l e ({ frames := 1, cells := 0, slots := 0, locals := 22 } : Room) s m [.ref (q_this 0)].toArray below meth c H locs 0 0 (MQ below (mc_Q D kA A (some (.int out)) (ce_X5 kA q_this o_this)) [.ref (q_this 0)].toArray s 0 0 A) (F0 m 14 ls [])) → ∀ (x1 : Int32) (x2 : Int32) (x3 : Int32) (t0 : Int32) (H : Heap) (locs : List Loc) (ls : Array Slot), va_P D vwCl (ce_X5 kA q_this o_this) H → va_D A (ce_X5 kA q_this o_this) → va_S A s.heap H locs → lv_has ls 6 [(0, .ref (q_this 0)), (1, .int x1), (2, .int x2), (3, .int x3)] → ff_X5_greatestStep_b55 N o_this k4 k14 x1 x2 x3 t0 = some out → W p l e ({ frames := 1, cells := 0, slots := 0, locals := 22 } : Room) s m [.ref (q_this 0)].toArray below meth c H locs 0 0 (MQ below (mc_Q D kA A (some (.int out)) (ce_X5 kA q_this o_this)) [.ref (q_this 0)].toArray s 0 0 A) (F0 m 55 ls [.int t0]) := by
    intro k4 hk4 k14 hk14 x1 x2 x3 t0 H locs ls hP hD hS hl hf
    unfold ff_X5_greatestStep_b55 at hf
    refine lv_istore (lv' := [(4, .int t0), (0, .ref (q_this 0)), (1, .int x1), (2, .int x2), (3, .int x3)]) hx hb dX5_greatestStep_55 hl (by decide) rfl (fun ls hl => ?_)
    refine lv_aload_n hx hb dX5_greatestStep_57 rfl (lv_at hl 1 rfl) ?_
    refine lv_iload_n hx hb dX5_greatestStep_58 rfl (lv_at hl 4 rfl) ?_
    refine lv_iload_n hx hb dX5_greatestStep_59 rfl (lv_at hl 3 rfl) ?_
    refine lv_iconst (v := 1) hx hb dX5_greatestStep_60 (by decide) ?_
    refine lv_iadd hx hb dX5_greatestStep_61 ?_
    obtain ⟨u_10, he_11, hf⟩ := os_bd hf
    refine mc_callV ⟨hx, hb, hml, hown, hts⟩ (mm_X5_has l D kA N q_this o_this x3 (x2 + (1 : Int32)) u_10 he_11) (cwV 2 hts gX5_greatestStep_X5_has rfl rfl rfl (by decide +kernel) ⟨Nat.le_of_ble_eq_true rfl, Nat.le_of_ble_eq_true rfl⟩) (wc := (ce_X5 kA q_this o_this)) (ci := 4) (q0 := 0) rfl rfl rfl hl.1 (As := [.int x3, .int (x2 + (1 : Int32))]) (rest := []) rfl (Nat.le_of_ble_eq_true rfl) dX5_greatestStep_62 ⟨Nat.le_of_ble_eq_true rfl, Nat.le_of_ble_eq_true rfl⟩ hK hP hD hS hA [0, 1, 2, 3] [] [0, 1, 2, 3] rfl (by decide) rfl (by decide) (by decide) rfl (by decide) (wr := []) (w2 := (ce_X5 kA q_this o_this)) (fun H locs hP hD hS => ?_)
    have hP : va_P D vwCl (ce_X5 kA q_this o_this) H := hP
    refine lv_if_eq (tgt := 89) hx hb dX5_greatestStep_65 (by decide) (fun hc_12 => ?_) (fun hc_12 => ?_)
    · rw [if_pos hc_12] at hf
      refine lv_iconst (v := 0) hx hb dX5_greatestStep_89 (by decide) ?_
      exact hB90 k4 hk4 k14 hk14 x1 x2 x3 t0 (0 : Int32) _ _ _ hP hD hS (lv_sub hl [1, 2, 3, 4, 0] rfl) hf
    · rw [if_neg hc_12] at hf
      refine lv_aload_n hx hb dX5_greatestStep_68 rfl (lv_at hl 1 rfl) ?_
      refine lv_iload_n hx hb dX5_greatestStep_69 rfl (lv_at hl 4 rfl) ?_
      refine lv_iload_n hx hb dX5_greatestStep_70 rfl (lv_at hl 3 rfl) ?_
      obtain ⟨u_13, he_14, hf⟩ := os_bd hf
      refine mc_callV ⟨hx, hb, hml, hown, hts⟩ (mm_X5_heightAt l D kA N q_this o_this x3 x2 u_13 he_14) (cwV 2 hts gX5_greatestStep_X5_heightAt rfl rfl rfl (by decide +kernel) ⟨Nat.le_of_ble_eq_true rfl, Nat.le_of_ble_eq_true rfl⟩) (wc := (ce_X5 kA q_this o_this)) (ci := 4) (q0 := 0) rfl rfl rfl hl.1 (As := [.int x3, .int x2]) (rest := []) rfl (Nat.le_of_ble_eq_true rfl) dX5_greatestStep_71 ⟨Nat.le_of_ble_eq_true rfl, Nat.le_of_ble_eq_true rfl⟩ hK hP hD hS hA [0, 1, 2, 3] [] [0, 1, 2, 3] rfl (by decide) rfl (by decide) (by decide) rfl (by decide) (wr := []) (w2 := (ce_X5 kA q_this o_this)) (fun H locs hP hD hS => ?_)
      have hP : va_P D vwCl (ce_X5 kA q_this o_this) H := hP
      refine lv_aload_n hx hb dX5_greatestStep_74 rfl (lv_at hl 1 rfl) ?_
      refine lv_iload_n hx hb dX5_greatestStep_75 rfl (lv_at hl 4 rfl) ?_
      refine lv_iload_n hx hb dX5_greatestStep_76 rfl (lv_at hl 3 rfl) ?_
      refine lv_iconst (v := 1) hx hb dX5_greatestStep_77 (by decide) ?_
      refine lv_iadd hx hb dX5_greatestStep_78 ?_
      obtain ⟨u_15, he_16, hf⟩ := os_bd hf
      refine mc_callV ⟨hx, hb, hml, hown, hts⟩ (mm_X5_heightAt l D kA N q_this o_this x3 (x2 + (1 : Int32)) u_15 he_16) (cwV 2 hts gX5_greatestStep_X5_heightAt rfl rfl rfl (by decide +kernel) ⟨Nat.le_of_ble_eq_true rfl, Nat.le_of_ble_eq_true rfl⟩) (wc := (ce_X5 kA q_this o_this)) (ci := 4) (q0 := 0) rfl rfl rfl hl.1 (As := [.int x3, .int (x2 + (1 : Int32))]) (rest := [.int u_13]) rfl (Nat.le_of_ble_eq_true rfl) dX5_greatestStep_79 ⟨Nat.le_of_ble_eq_true rfl, Nat.le_of_ble_eq_true rfl⟩ hK hP hD hS hA [0, 1, 2, 3] [] [0, 1, 2, 3] rfl (by decide) rfl (by decide) (by decide) rfl (by decide) (wr := []) (w2 := (ce_X5 kA q_this o_this)) (fun H locs hP hD hS => ?_)
      have hP : va_P D vwCl (ce_X5 kA q_this o_this) H := hP
      refine lv_isub hx hb dX5_greatestStep_82 ?_
      refine va_mabs hx hb (hml.trans hl.1.symm) hown (hts (Cond.methodLink RX5 121 Lib.Math.abs.name) (List.mem_of_getElem? (i := 3) rfl)) (hts (Cond.static Lib.Math.abs.name) (List.mem_of_getElem? (i := 4) rfl)) (hts (Cond.initialized "java/lang/Math") (List.mem_of_getElem? (i := 5) rfl)) (hts (Cond.code Lib.Math.abs.name Lib.Math.abs.code 1 (some .int)) (List.mem_of_getElem? (i := 6) rfl)) (Nat.le_of_ble_eq_true rfl) (Nat.le_of_ble_eq_true rfl) (Nat.le_of_ble_eq_true rfl) (Nat.le_of_ble_eq_true rfl) dX5_greatestStep_83 ?_
      refine lv_goto (tgt := 90) hx hb dX5_greatestStep_86 (by decide) ?_
      exact hB90 k4 hk4 k14 hk14 x1 x2 x3 t0 (if 0 ≤ (u_13 - u_15) then (u_13 - u_15) else 0 - (u_13 - u_15)) _ _ _ hP hD hS (lv_sub hl [1, 2, 3, 4, 0] rfl) hf
  have hL14 : ∀ (k4 : (Int32 × Int32) → Option Int32), (∀ (x1 : Int32) (x2 : Int32) (H : Heap) (locs : List Loc) (ls : Array Slot), va_P D vwCl (ce_X5 kA q_this o_this) H → va_D A (ce_X5 kA q_this o_this) → va_S A s.heap H locs → lv_has ls 6 [(0, .ref (q_this 0)), (1, .int x1), (2, .int x2)] → k4 (x1, x2) = some out → W p l e ({ frames := 1, cells := 0, slots := 0, locals := 22 } : Room) s m [.ref (q_this 0)].toArray below meth c H locs 0 0 (MQ below (mc_Q D kA A (some (.int out)) (ce_X5 kA q_this o_this)) [.ref (q_this 0)].toArray s 0 0 A) (F0 m 4 ls [])) → ∀ (n : Nat) (x1 : Int32) (x2 : Int32) (x3 : Int32) (H : Heap) (locs : List Loc) (ls : Array Slot), va_P D vwCl (ce_X5 kA q_this o_this) H → va_D A (ce_X5 kA q_this o_this) → va_S A s.heap H locs → lv_has ls 6 [(0, .ref (q_this 0)), (1, .int x1), (2, .int x2), (3, .int x3)] → ff_X5_greatestStep_l14 N o_this k4 n (x1, x2, x3) = some out → W p l e ({ frames := 1, cells := 0, slots := 0, locals := 22 } : Room) s m [.ref (q_this 0)].toArray below meth c H locs 0 0 (MQ below (mc_Q D kA A (some (.int out)) (ce_X5 kA q_this o_this)) [.ref (q_this 0)].toArray s 0 0 A) (F0 m 14 ls []) := by
    intro k4 hk4 n
    induction n with
    | zero => intro x1 x2 x3 H locs ls _ _ _ _ hf; cases hf
    | succ n hk14 =>
      intro x1 x2 x3 H locs ls hP hD hS hl hf
      have hf : ff_X5_greatestStep_c14 N o_this k4 (ff_X5_greatestStep_l14 N o_this k4 n) x1 x2 x3 = some out := hf
      generalize hke : ff_X5_greatestStep_l14 N o_this k4 n = k14 at hk14 hf
      unfold ff_X5_greatestStep_c14 at hf
      refine lv_iload_n hx hb dX5_greatestStep_14 rfl (lv_at hl 3 rfl) ?_
      refine lv_aload_n hx hb dX5_greatestStep_15 rfl (lv_at hl 0 rfl) ?_
      refine va_get (D := D) (ci := 4) (v := .int (os_I o_this 0)) (C := RX5) (T := TX5) (N := 10) hx hb hUX5 (fun _ h9 => h9) hown hK hP 0 rfl rfl 0 (by decide) (hts (Cond.fieldLink RX5 28 "ReliefBuilder$Panel" "width" "I") (List.mem_of_getElem? (i := 2) rfl)) (fun _ h9 => h9) rfl dX5_greatestStep_16 ?_
      refine lv_icmp_ge (tgt := 110) hx hb dX5_greatestStep_19 (by decide) (fun hc_2 => ?_) (fun hc_2 => ?_)
      · rw [if_pos hc_2] at hf
        refine lv_iinc (v := x2 + 1) (lv' := [(2, .int (x2 + 1)), (0, .ref (q_this 0)), (1, .int x1), (3, .int x3)]) hx hb dX5_greatestStep_110 hl (k := 2) rfl rfl (by decide) rfl (fun ls hl => ?_)
        refine lv_goto (tgt := 4) hx hb dX5_greatestStep_113 (by decide) ?_
        exact hk4 x1 (x2 + 1) _ _ _ hP hD hS (lv_sub hl [1, 2, 0] rfl) hf
      · rw [if_neg hc_2] at hf
        refine lv_aload_n hx hb dX5_greatestStep_22 rfl (lv_at hl 0 rfl) ?_
        refine lv_iload_n hx hb dX5_greatestStep_23 rfl (lv_at hl 3 rfl) ?_
        refine lv_iconst (v := 1) hx hb dX5_greatestStep_24 (by decide) ?_
        refine lv_iadd hx hb dX5_greatestStep_25 ?_
        refine lv_iload_n hx hb dX5_greatestStep_26 rfl (lv_at hl 2 rfl) ?_
        obtain ⟨u_3, he_4, hf⟩ := os_bd hf
        refine mc_callV ⟨hx, hb, hml, hown, hts⟩ (mm_X5_has l D kA N q_this o_this (x3 + (1 : Int32)) x2 u_3 he_4) (cwV 2 hts gX5_greatestStep_X5_has rfl rfl rfl (by decide +kernel) ⟨Nat.le_of_ble_eq_true rfl, Nat.le_of_ble_eq_true rfl⟩) (wc := (ce_X5 kA q_this o_this)) (ci := 4) (q0 := 0) rfl rfl rfl hl.1 (As := [.int (x3 + (1 : Int32)), .int x2]) (rest := []) rfl (Nat.le_of_ble_eq_true rfl) dX5_greatestStep_27 ⟨Nat.le_of_ble_eq_true rfl, Nat.le_of_ble_eq_true rfl⟩ hK hP hD hS hA [0, 1, 2, 3] [] [0, 1, 2, 3] rfl (by decide) rfl (by decide) (by decide) rfl (by decide) (wr := []) (w2 := (ce_X5 kA q_this o_this)) (fun H locs hP hD hS => ?_)
        have hP : va_P D vwCl (ce_X5 kA q_this o_this) H := hP
        refine lv_if_eq (tgt := 54) hx hb dX5_greatestStep_30 (by decide) (fun hc_5 => ?_) (fun hc_5 => ?_)
        · rw [if_pos hc_5] at hf
          refine lv_iconst (v := 0) hx hb dX5_greatestStep_54 (by decide) ?_
          exact hB55 k4 hk4 k14 hk14 x1 x2 x3 (0 : Int32) _ _ _ hP hD hS (lv_sub hl [0, 1, 2, 3] rfl) hf
        · rw [if_neg hc_5] at hf
          refine lv_aload_n hx hb dX5_greatestStep_33 rfl (lv_at hl 0 rfl) ?_
          refine lv_iload_n hx hb dX5_greatestStep_34 rfl (lv_at hl 3 rfl) ?_
          refine lv_iload_n hx hb dX5_greatestStep_35 rfl (lv_at hl 2 rfl) ?_
          obtain ⟨u_6, he_7, hf⟩ := os_bd hf
          refine mc_callV ⟨hx, hb, hml, hown, hts⟩ (mm_X5_heightAt l D kA N q_this o_this x3 x2 u_6 he_7) (cwV 2 hts gX5_greatestStep_X5_heightAt rfl rfl rfl (by decide +kernel) ⟨Nat.le_of_ble_eq_true rfl, Nat.le_of_ble_eq_true rfl⟩) (wc := (ce_X5 kA q_this o_this)) (ci := 4) (q0 := 0) rfl rfl rfl hl.1 (As := [.int x3, .int x2]) (rest := []) rfl (Nat.le_of_ble_eq_true rfl) dX5_greatestStep_36 ⟨Nat.le_of_ble_eq_true rfl, Nat.le_of_ble_eq_true rfl⟩ hK hP hD hS hA [0, 1, 2, 3] [] [0, 1, 2, 3] rfl (by decide) rfl (by decide) (by decide) rfl (by decide) (wr := []) (w2 := (ce_X5 kA q_this o_this)) (fun H locs hP hD hS => ?_)
          have hP : va_P D vwCl (ce_X5 kA q_this o_this) H := hP
          refine lv_aload_n hx hb dX5_greatestStep_39 rfl (lv_at hl 0 rfl) ?_
          refine lv_iload_n hx hb dX5_greatestStep_40 rfl (lv_at hl 3 rfl) ?_
          refine lv_iconst (v := 1) hx hb dX5_greatestStep_41 (by decide) ?_
          refine lv_iadd hx hb dX5_greatestStep_42 ?_
          refine lv_iload_n hx hb dX5_greatestStep_43 rfl (lv_at hl 2 rfl) ?_
          obtain ⟨u_8, he_9, hf⟩ := os_bd hf
          refine mc_callV ⟨hx, hb, hml, hown, hts⟩ (mm_X5_heightAt l D kA N q_this o_this (x3 + (1 : Int32)) x2 u_8 he_9) (cwV 2 hts gX5_greatestStep_X5_heightAt rfl rfl rfl (by decide +kernel) ⟨Nat.le_of_ble_eq_true rfl, Nat.le_of_ble_eq_true rfl⟩) (wc := (ce_X5 kA q_this o_this)) (ci := 4) (q0 := 0) rfl rfl rfl hl.1 (As := [.int (x3 + (1 : Int32)), .int x2]) (rest := [.int u_6]) rfl (Nat.le_of_ble_eq_true rfl) dX5_greatestStep_44 ⟨Nat.le_of_ble_eq_true rfl, Nat.le_of_ble_eq_true rfl⟩ hK hP hD hS hA [0, 1, 2, 3] [] [0, 1, 2, 3] rfl (by decide) rfl (by decide) (by decide) rfl (by decide) (wr := []) (w2 := (ce_X5 kA q_this o_this)) (fun H locs hP hD hS => ?_)
          have hP : va_P D vwCl (ce_X5 kA q_this o_this) H := hP
          refine lv_isub hx hb dX5_greatestStep_47 ?_
          refine va_mabs hx hb (hml.trans hl.1.symm) hown (hts (Cond.methodLink RX5 121 Lib.Math.abs.name) (List.mem_of_getElem? (i := 3) rfl)) (hts (Cond.static Lib.Math.abs.name) (List.mem_of_getElem? (i := 4) rfl)) (hts (Cond.initialized "java/lang/Math") (List.mem_of_getElem? (i := 5) rfl)) (hts (Cond.code Lib.Math.abs.name Lib.Math.abs.code 1 (some .int)) (List.mem_of_getElem? (i := 6) rfl)) (Nat.le_of_ble_eq_true rfl) (Nat.le_of_ble_eq_true rfl) (Nat.le_of_ble_eq_true rfl) (Nat.le_of_ble_eq_true rfl) dX5_greatestStep_48 ?_
          refine lv_goto (tgt := 55) hx hb dX5_greatestStep_51 (by decide) ?_
          exact hB55 k4 hk4 k14 hk14 x1 x2 x3 (if 0 ≤ (u_6 - u_8) then (u_6 - u_8) else 0 - (u_6 - u_8)) _ _ _ hP hD hS (lv_sub hl [0, 1, 2, 3] rfl) hf
  have hL4 : ∀ (n : Nat) (x1 : Int32) (x2 : Int32) (H : Heap) (locs : List Loc) (ls : Array Slot), va_P D vwCl (ce_X5 kA q_this o_this) H → va_D A (ce_X5 kA q_this o_this) → va_S A s.heap H locs → lv_has ls 6 [(0, .ref (q_this 0)), (1, .int x1), (2, .int x2)] → ff_X5_greatestStep_l4 N o_this n (x1, x2) = some out → W p l e ({ frames := 1, cells := 0, slots := 0, locals := 22 } : Room) s m [.ref (q_this 0)].toArray below meth c H locs 0 0 (MQ below (mc_Q D kA A (some (.int out)) (ce_X5 kA q_this o_this)) [.ref (q_this 0)].toArray s 0 0 A) (F0 m 4 ls []) := by
    intro n
    induction n with
    | zero => intro x1 x2 H locs ls _ _ _ _ hf; cases hf
    | succ n hk4 =>
      intro x1 x2 H locs ls hP hD hS hl hf
      have hf : ff_X5_greatestStep_c4 N o_this (ff_X5_greatestStep_l4 N o_this n) x1 x2 = some out := hf
      generalize hke : ff_X5_greatestStep_l4 N o_this n = k4 at hk4 hf
      unfold ff_X5_greatestStep_c4 at hf
      refine lv_iload_n hx hb dX5_greatestStep_4 rfl (lv_at hl 2 rfl) ?_
      refine lv_aload_n hx hb dX5_greatestStep_5 rfl (lv_at hl 0 rfl) ?_
      refine va_get (D := D) (ci := 4) (v := .int (os_I o_this 1)) (C := RX5) (T := TX5) (N := 10) hx hb hUX5 (fun _ h9 => h9) hown hK hP 0 rfl rfl 1 (by decide) (hts (Cond.fieldLink RX5 32 "ReliefBuilder$Panel" "rows" "I") (List.mem_of_getElem? (i := 1) rfl)) (fun _ h9 => h9) rfl dX5_greatestStep_6 ?_
      refine lv_icmp_ge (tgt := 116) hx hb dX5_greatestStep_9 (by decide) (fun hc_1 => ?_) (fun hc_1 => ?_)
      · rw [if_pos hc_1] at hf
        refine lv_iload_n hx hb dX5_greatestStep_116 rfl (lv_at hl 1 rfl) ?_
        rw [← Option.some.inj hf]
        exact mc_reti hx hb hr hlk hP hK hD hS dX5_greatestStep_117
      · rw [if_neg hc_1] at hf
        refine lv_iconst (v := 0) hx hb dX5_greatestStep_12 (by decide) ?_
        refine lv_istore_n (lv' := [(3, .int (0 : Int32)), (0, .ref (q_this 0)), (1, .int x1), (2, .int x2)]) hx hb dX5_greatestStep_13 rfl hl (by decide) rfl (fun ls hl => ?_)
        exact hL14 k4 hk4 N x1 x2 (0 : Int32) _ _ _ hP hD hS (lv_sub hl [1, 2, 3, 0] rfl) hf
  unfold ff_X5_greatestStep at hf
  refine lv_iconst (v := 0) hx hb dX5_greatestStep_0 (by decide) ?_
  refine lv_istore_n (lv' := [(1, .int (0 : Int32)), (0, .ref (q_this 0))]) hx hb dX5_greatestStep_1 rfl hl (by decide) rfl (fun ls hl => ?_)
  refine lv_iconst (v := 0) hx hb dX5_greatestStep_2 (by decide) ?_
  refine lv_istore_n (lv' := [(2, .int (0 : Int32)), (1, .int (0 : Int32)), (0, .ref (q_this 0))]) hx hb dX5_greatestStep_3 rfl hl (by decide) rfl (fun ls hl => ?_)
  exact hL4 N (0 : Int32) (0 : Int32) _ _ _ hP hD hS (lv_sub hl [2, 1, 0] rfl) hf
def ff_X5_differencesTo_b44 (N : Nat) (o_this : os_T) (o_p1 : os_T) (k4 : (Int32 × Int32) → Option Int32) (k15 : (Int32 × Int32 × Int32) → Option Int32) (x2 : Int32) (x3 : Int32) (x4 : Int32) : Option Int32 :=
  k15 (x2, x3, x4 + 1)
def ff_X5_differencesTo_c15 (N : Nat) (o_this : os_T) (o_p1 : os_T) (k4 : (Int32 × Int32) → Option Int32) (k15 : (Int32 × Int32 × Int32) → Option Int32) (x2 : Int32) (x3 : Int32) (x4 : Int32) : Option Int32 :=
  (if (os_I o_this 0) ≤ x4 then k4 (x2, x3 + 1) else ((ff_X5_heightAt N o_this x4 x3).bind fun u_3 => ((ff_X5_heightAt N o_p1 x4 x3).bind fun u_5 => (if u_3 = u_5 then ff_X5_differencesTo_b44 N o_this o_p1 k4 k15 x2 x3 x4 else ff_X5_differencesTo_b44 N o_this o_p1 k4 k15 (x2 + 1) x3 x4))))
def ff_X5_differencesTo_l15 (N : Nat) (o_this : os_T) (o_p1 : os_T) (k4 : (Int32 × Int32) → Option Int32) : Nat → (Int32 × Int32 × Int32) → Option Int32 := os_loop (fun k15 s1 => ff_X5_differencesTo_c15 N o_this o_p1 k4 k15 s1.1 s1.2.1 s1.2.2)
def ff_X5_differencesTo_c4 (N : Nat) (o_this : os_T) (o_p1 : os_T) (k4 : (Int32 × Int32) → Option Int32) (x2 : Int32) (x3 : Int32) : Option Int32 :=
  (if (os_I o_this 1) ≤ x3 then some x2 else ff_X5_differencesTo_l15 N o_this o_p1 k4 N (x2, x3, (0 : Int32)))
def ff_X5_differencesTo_l4 (N : Nat) (o_this : os_T) (o_p1 : os_T) : Nat → (Int32 × Int32) → Option Int32 := os_loop (fun k4 s1 => ff_X5_differencesTo_c4 N o_this o_p1 k4 s1.1 s1.2)
def ff_X5_differencesTo (N : Nat) (o_this : os_T) (o_p1 : os_T) : Option Int32 :=
  ff_X5_differencesTo_l4 N o_this o_p1 N ((0 : Int32), (0 : Int32))
set_option maxHeartbeats 4000000 in
set_option maxRecDepth 100000 in
theorem mm_X5_differencesTo (l : Launch) (D : va_G) (kA : Nat → ClassId) (N : Nat) (q_this : Nat → Nat) (q_p1 : Nat → Nat) (o_this : os_T) (o_p1 : os_T) (out : Int32) (hf : ff_X5_differencesTo N o_this o_p1 = some out) : mc_C l D kA yX5_differencesTo wsX5_differencesTo ({ frames := 1, cells := 0, slots := 0, locals := 22 } : Room) [.ref (q_this 0), .ref (q_p1 0)] (ce_X5 kA q_this o_this ++ (ce_X5 kA q_p1 o_p1)) (some (.int out)) (ce_X5 kA q_this o_this ++ (ce_X5 kA q_p1 o_p1)) := by
  refine mc_of (cc := cX5_differencesTo) (maxL := 5) (ret := (some .int)) (by decide) rfl (Nat.le_of_ble_eq_true rfl) ?_
  intro p e s m below meth c A B hD hP hS ls hl
  obtain ⟨hx, hb, hr, hlk, hml, hown, hts, hK, hA, hnm⟩ := B
  have hown : s.vm.findClass RX5 = some m.cls := hown
  have hl : lv_has ls 5 [(0, .ref (q_this 0)), (1, .ref (q_p1 0))] := hl
  have hUX5 : ∀ w ∈ u_ws RX5 TX5 10, w.before [.ref (q_this 0), .ref (q_p1 0)].toArray s = true := fun w h => hts w (List.mem_cons_of_mem _ (List.mem_append_right _ h))
  have hB44 : ∀ (k4 : (Int32 × Int32) → Option Int32), (∀ (x2 : Int32) (x3 : Int32) (H : Heap) (locs : List Loc) (ls : Array Slot), va_P D vwCl (ce_X5 kA q_this o_this ++ (ce_X5 kA q_p1 o_p1)) H → va_D A (ce_X5 kA q_this o_this ++ (ce_X5 kA q_p1 o_p1)) → va_S A s.heap H locs → lv_has ls 5 [(0, .ref (q_this 0)), (1, .ref (q_p1 0)), (2, .int x2), (3, .int x3)] → k4 (x2, x3) = some out → W p l e ({ frames := 1, cells := 0, slots := 0, locals := 22 } : Room) s m [.ref (q_this 0), .ref (q_p1 0)].toArray below meth c H locs 0 0 (MQ below (mc_Q D kA A (some (.int out)) (ce_X5 kA q_this o_this ++ (ce_X5 kA q_p1 o_p1))) [.ref (q_this 0), .ref (q_p1 0)].toArray s 0 0 A) (F0 m 4 ls [])) → ∀ (k15 : (Int32 × Int32 × Int32) → Option Int32), (∀ (x2 : Int32) (x3 : Int32) (x4 : Int32) (H : Heap) (locs : List Loc) (ls : Array Slot), va_P D vwCl (ce_X5 kA q_this o_this ++ (ce_X5 kA q_p1 o_p1)) H → va_D A (ce_X5 kA q_this o_this ++ (ce_X5 kA q_p1 o_p1)) → va_S A s.heap H locs → lv_has ls 5 [(0, .ref (q_this 0)), (1, .ref (q_p1 0)), (2, .int x2), (3, .int x3), (4, .int x4)] → k15 (x2, x3, x4) = some out → W p l e ({ frames := 1, cells := 0, slots := 0, locals := 22 } : Room) s m [.ref (q_this 0), .ref (q_p1 0)].toArray below meth c H locs 0 0 (MQ below (mc_Q D kA A (some (.int out)) (ce_X5 kA q_this o_this ++ (ce_X5 kA q_p1 o_p1))) [.ref (q_this 0), .ref (q_p1 0)].toArray s 0 0 A) (F0 m 15 ls [])) → ∀ (x2 : Int32) (x3 : Int32) (x4 : Int32) (H : Heap) (locs : List Loc) (ls : Array Slot), va_P D vwCl (ce_X5 kA q_this o_this ++ (ce_X5 kA q_p1 o_p1)) H → va_D A (ce_X5 kA q_this o_this ++ (ce_X5 kA q_p1 o_p1)) → va_S A s.heap H locs → lv_has ls 5 [(0, .ref (q_this 0)), (1, .ref (q_p1 0)), (2, .int x2), (3, .int x3), (4, .int x4)] → ff_X5_differencesTo_b44 N o_this o_p1 k4 k15 x2 x3 x4 = some out → W p l e ({ frames := 1, cells := 0, slots := 0, locals := 22 } : Room) s m [.ref (q_this 0), .ref (q_p1 0)].toArray below meth c H locs 0 0 (MQ below (mc_Q D kA A (some (.int out)) (ce_X5 kA q_this o_this ++ (ce_X5 kA q_p1 o_p1))) [.ref (q_this 0), .ref (q_p1 0)].toArray s 0 0 A) (F0 m 44 ls []) := by
    intro k4 hk4 k15 hk15 x2 x3 x4 H locs ls hP hD hS hl hf
    unfold ff_X5_differencesTo_b44 at hf
    refine lv_iinc (v := x4 + 1) (lv' := [(4, .int (x4 + 1)), (0, .ref (q_this 0)), (1, .ref (q_p1 0)), (2, .int x2), (3, .int x3)]) hx hb dX5_differencesTo_44 hl (k := 4) rfl rfl (by decide) rfl (fun ls hl => ?_)
    refine lv_goto (tgt := 15) hx hb dX5_differencesTo_47 (by decide) ?_
    exact hk15 x2 x3 (x4 + 1) _ _ _ hP hD hS (lv_sub hl [1, 2, 3, 4, 0] rfl) hf
  have hL15 : ∀ (k4 : (Int32 × Int32) → Option Int32), (∀ (x2 : Int32) (x3 : Int32) (H : Heap) (locs : List Loc) (ls : Array Slot), va_P D vwCl (ce_X5 kA q_this o_this ++ (ce_X5 kA q_p1 o_p1)) H → va_D A (ce_X5 kA q_this o_this ++ (ce_X5 kA q_p1 o_p1)) → va_S A s.heap H locs → lv_has ls 5 [(0, .ref (q_this 0)), (1, .ref (q_p1 0)), (2, .int x2), (3, .int x3)] → k4 (x2, x3) = some out → W p l e ({ frames := 1, cells := 0, slots := 0, locals := 22 } : Room) s m [.ref (q_this 0), .ref (q_p1 0)].toArray below meth c H locs 0 0 (MQ below (mc_Q D kA A (some (.int out)) (ce_X5 kA q_this o_this ++ (ce_X5 kA q_p1 o_p1))) [.ref (q_this 0), .ref (q_p1 0)].toArray s 0 0 A) (F0 m 4 ls [])) → ∀ (n : Nat) (x2 : Int32) (x3 : Int32) (x4 : Int32) (H : Heap) (locs : List Loc) (ls : Array Slot), va_P D vwCl (ce_X5 kA q_this o_this ++ (ce_X5 kA q_p1 o_p1)) H → va_D A (ce_X5 kA q_this o_this ++ (ce_X5 kA q_p1 o_p1)) → va_S A s.heap H locs → lv_has ls 5 [(0, .ref (q_this 0)), (1, .ref (q_p1 0)), (2, .int x2), (3, .int x3), (4, .int x4)] → ff_X5_differencesTo_l15 N o_this o_p1 k4 n (x2, x3, x4) = some out → W p l e ({ frames := 1, cells := 0, slots := 0, locals := 22 } : Room) s m [.ref (q_this 0), .ref (q_p1 0)].toArray below meth c H locs 0 0 (MQ below (mc_Q D kA A (some (.int out)) (ce_X5 kA q_this o_this ++ (ce_X5 kA q_p1 o_p1))) [.ref (q_this 0), .ref (q_p1 0)].toArray s 0 0 A) (F0 m 15 ls []) := by
    intro k4 hk4 n
    induction n with
    | zero => intro x2 x3 x4 H locs ls _ _ _ _ hf; cases hf
    | succ n hk15 =>
      intro x2 x3 x4 H locs ls hP hD hS hl hf
      have hf : ff_X5_differencesTo_c15 N o_this o_p1 k4 (ff_X5_differencesTo_l15 N o_this o_p1 k4 n) x2 x3 x4 = some out := hf
      generalize hke : ff_X5_differencesTo_l15 N o_this o_p1 k4 n = k15 at hk15 hf
      unfold ff_X5_differencesTo_c15 at hf
      refine lv_iload hx hb dX5_differencesTo_15 (lv_at hl 4 rfl) ?_
      refine lv_aload_n hx hb dX5_differencesTo_17 rfl (lv_at hl 0 rfl) ?_
      refine va_get (D := D) (ci := 4) (v := .int (os_I o_this 0)) (C := RX5) (T := TX5) (N := 10) hx hb hUX5 (fun _ h9 => h9) hown hK hP 0 rfl rfl 0 (by decide) (hts (Cond.fieldLink RX5 28 "ReliefBuilder$Panel" "width" "I") (List.mem_of_getElem? (i := 2) rfl)) (fun _ h9 => h9) rfl dX5_differencesTo_18 ?_
      refine lv_icmp_ge (tgt := 50) hx hb dX5_differencesTo_21 (by decide) (fun hc_2 => ?_) (fun hc_2 => ?_)
      · rw [if_pos hc_2] at hf
        refine lv_iinc (v := x3 + 1) (lv' := [(3, .int (x3 + 1)), (0, .ref (q_this 0)), (1, .ref (q_p1 0)), (2, .int x2), (4, .int x4)]) hx hb dX5_differencesTo_50 hl (k := 3) rfl rfl (by decide) rfl (fun ls hl => ?_)
        refine lv_goto (tgt := 4) hx hb dX5_differencesTo_53 (by decide) ?_
        exact hk4 x2 (x3 + 1) _ _ _ hP hD hS (lv_sub hl [1, 2, 3, 0] rfl) hf
      · rw [if_neg hc_2] at hf
        refine lv_aload_n hx hb dX5_differencesTo_24 rfl (lv_at hl 0 rfl) ?_
        refine lv_iload hx hb dX5_differencesTo_25 (lv_at hl 4 rfl) ?_
        refine lv_iload_n hx hb dX5_differencesTo_27 rfl (lv_at hl 3 rfl) ?_
        obtain ⟨u_3, he_4, hf⟩ := os_bd hf
        refine mc_callV ⟨hx, hb, hml, hown, hts⟩ (mm_X5_heightAt l D kA N q_this o_this x4 x3 u_3 he_4) (cwV 2 hts gX5_differencesTo_X5_heightAt rfl rfl rfl (by decide +kernel) ⟨Nat.le_of_ble_eq_true rfl, Nat.le_of_ble_eq_true rfl⟩) (wc := (ce_X5 kA q_this o_this)) (ci := 4) (q0 := 0) rfl rfl rfl hl.1 (As := [.int x4, .int x3]) (rest := []) rfl (Nat.le_of_ble_eq_true rfl) dX5_differencesTo_28 ⟨Nat.le_of_ble_eq_true rfl, Nat.le_of_ble_eq_true rfl⟩ hK hP hD hS hA [0, 1, 2, 3] [4, 5, 6, 7] [4, 5, 6, 7, 0, 1, 2, 3] rfl (by decide) rfl (by decide) (by decide) rfl (by decide) (wr := (ce_X5 kA q_p1 o_p1)) (w2 := (ce_X5 kA q_this o_this ++ (ce_X5 kA q_p1 o_p1))) (fun H locs hP hD hS => ?_)
        have hP : va_P D vwCl (ce_X5 kA q_this o_this ++ (ce_X5 kA q_p1 o_p1)) H := hP
        refine lv_aload_n hx hb dX5_differencesTo_31 rfl (lv_at hl 1 rfl) ?_
        refine lv_iload hx hb dX5_differencesTo_32 (lv_at hl 4 rfl) ?_
        refine lv_iload_n hx hb dX5_differencesTo_34 rfl (lv_at hl 3 rfl) ?_
        obtain ⟨u_5, he_6, hf⟩ := os_bd hf
        refine mc_callV ⟨hx, hb, hml, hown, hts⟩ (mm_X5_heightAt l D kA N q_p1 o_p1 x4 x3 u_5 he_6) (cwV 2 hts gX5_differencesTo_X5_heightAt rfl rfl rfl (by decide +kernel) ⟨Nat.le_of_ble_eq_true rfl, Nat.le_of_ble_eq_true rfl⟩) (wc := (ce_X5 kA q_p1 o_p1)) (ci := 4) (q0 := 0) rfl rfl rfl hl.1 (As := [.int x4, .int x3]) (rest := [.int u_3]) rfl (Nat.le_of_ble_eq_true rfl) dX5_differencesTo_35 ⟨Nat.le_of_ble_eq_true rfl, Nat.le_of_ble_eq_true rfl⟩ hK hP hD hS hA [4, 5, 6, 7] [0, 1, 2, 3] [0, 1, 2, 3, 4, 5, 6, 7] rfl (by decide) rfl (by decide) (by decide) rfl (by decide) (wr := (ce_X5 kA q_this o_this)) (w2 := (ce_X5 kA q_this o_this ++ (ce_X5 kA q_p1 o_p1))) (fun H locs hP hD hS => ?_)
        have hP : va_P D vwCl (ce_X5 kA q_this o_this ++ (ce_X5 kA q_p1 o_p1)) H := hP
        refine lv_icmp_eq (tgt := 44) hx hb dX5_differencesTo_38 (by decide) (fun hc_7 => ?_) (fun hc_7 => ?_)
        · rw [if_pos hc_7] at hf
          exact hB44 k4 hk4 k15 hk15 x2 x3 x4 _ _ _ hP hD hS (lv_sub hl [0, 1, 2, 3, 4] rfl) hf
        · rw [if_neg hc_7] at hf
          refine lv_iinc (v := x2 + 1) (lv' := [(2, .int (x2 + 1)), (0, .ref (q_this 0)), (1, .ref (q_p1 0)), (3, .int x3), (4, .int x4)]) hx hb dX5_differencesTo_41 hl (k := 2) rfl rfl (by decide) rfl (fun ls hl => ?_)
          exact hB44 k4 hk4 k15 hk15 (x2 + 1) x3 x4 _ _ _ hP hD hS (lv_sub hl [1, 2, 0, 3, 4] rfl) hf
  have hL4 : ∀ (n : Nat) (x2 : Int32) (x3 : Int32) (H : Heap) (locs : List Loc) (ls : Array Slot), va_P D vwCl (ce_X5 kA q_this o_this ++ (ce_X5 kA q_p1 o_p1)) H → va_D A (ce_X5 kA q_this o_this ++ (ce_X5 kA q_p1 o_p1)) → va_S A s.heap H locs → lv_has ls 5 [(0, .ref (q_this 0)), (1, .ref (q_p1 0)), (2, .int x2), (3, .int x3)] → ff_X5_differencesTo_l4 N o_this o_p1 n (x2, x3) = some out → W p l e ({ frames := 1, cells := 0, slots := 0, locals := 22 } : Room) s m [.ref (q_this 0), .ref (q_p1 0)].toArray below meth c H locs 0 0 (MQ below (mc_Q D kA A (some (.int out)) (ce_X5 kA q_this o_this ++ (ce_X5 kA q_p1 o_p1))) [.ref (q_this 0), .ref (q_p1 0)].toArray s 0 0 A) (F0 m 4 ls []) := by
    intro n
    induction n with
    | zero => intro x2 x3 H locs ls _ _ _ _ hf; cases hf
    | succ n hk4 =>
      intro x2 x3 H locs ls hP hD hS hl hf
      have hf : ff_X5_differencesTo_c4 N o_this o_p1 (ff_X5_differencesTo_l4 N o_this o_p1 n) x2 x3 = some out := hf
      generalize hke : ff_X5_differencesTo_l4 N o_this o_p1 n = k4 at hk4 hf
      unfold ff_X5_differencesTo_c4 at hf
      refine lv_iload_n hx hb dX5_differencesTo_4 rfl (lv_at hl 3 rfl) ?_
      refine lv_aload_n hx hb dX5_differencesTo_5 rfl (lv_at hl 0 rfl) ?_
      refine va_get (D := D) (ci := 4) (v := .int (os_I o_this 1)) (C := RX5) (T := TX5) (N := 10) hx hb hUX5 (fun _ h9 => h9) hown hK hP 0 rfl rfl 1 (by decide) (hts (Cond.fieldLink RX5 32 "ReliefBuilder$Panel" "rows" "I") (List.mem_of_getElem? (i := 1) rfl)) (fun _ h9 => h9) rfl dX5_differencesTo_6 ?_
      refine lv_icmp_ge (tgt := 56) hx hb dX5_differencesTo_9 (by decide) (fun hc_1 => ?_) (fun hc_1 => ?_)
      · rw [if_pos hc_1] at hf
        refine lv_iload_n hx hb dX5_differencesTo_56 rfl (lv_at hl 2 rfl) ?_
        rw [← Option.some.inj hf]
        exact mc_reti hx hb hr hlk hP hK hD hS dX5_differencesTo_57
      · rw [if_neg hc_1] at hf
        refine lv_iconst (v := 0) hx hb dX5_differencesTo_12 (by decide) ?_
        refine lv_istore (lv' := [(4, .int (0 : Int32)), (0, .ref (q_this 0)), (1, .ref (q_p1 0)), (2, .int x2), (3, .int x3)]) hx hb dX5_differencesTo_13 hl (by decide) rfl (fun ls hl => ?_)
        exact hL15 k4 hk4 N x2 x3 (0 : Int32) _ _ _ hP hD hS (lv_sub hl [1, 2, 3, 4, 0] rfl) hf
  unfold ff_X5_differencesTo at hf
  refine lv_iconst (v := 0) hx hb dX5_differencesTo_0 (by decide) ?_
  refine lv_istore_n (lv' := [(2, .int (0 : Int32)), (0, .ref (q_this 0)), (1, .ref (q_p1 0))]) hx hb dX5_differencesTo_1 rfl hl (by decide) rfl (fun ls hl => ?_)
  refine lv_iconst (v := 0) hx hb dX5_differencesTo_2 (by decide) ?_
  refine lv_istore_n (lv' := [(3, .int (0 : Int32)), (2, .int (0 : Int32)), (0, .ref (q_this 0)), (1, .ref (q_p1 0))]) hx hb dX5_differencesTo_3 rfl hl (by decide) rfl (fun ls hl => ?_)
  exact hL4 N (0 : Int32) (0 : Int32) _ _ _ hP hD hS (lv_sub hl [2, 3, 1, 0] rfl) hf
def ff_X5_looksLike_c12 (N : Nat) (o_this : os_T) (o_p1 : os_T) (k2 : Int32 → Option Int32) (k12 : (Int32 × Int32) → Option Int32) (x2 : Int32) (x3 : Int32) : Option Int32 :=
  (if (os_I o_this 0) ≤ x3 then k2 (x2 + 1) else ((ff_X5_heightAt N o_this x3 x2).bind fun u_3 => ((ff_X5_heightAt N o_p1 x3 x2).bind fun u_5 => (if u_3 = u_5 then ((ff_X5_toneAt N o_this x3 x2).bind fun u_8 => ((ff_X5_toneAt N o_p1 x3 x2).bind fun u_10 => (if u_8 = u_10 then k12 (x2, x3 + 1) else some (0 : Int32)))) else some (0 : Int32)))))
def ff_X5_looksLike_l12 (N : Nat) (o_this : os_T) (o_p1 : os_T) (k2 : Int32 → Option Int32) : Nat → (Int32 × Int32) → Option Int32 := os_loop (fun k12 s1 => ff_X5_looksLike_c12 N o_this o_p1 k2 k12 s1.1 s1.2)
def ff_X5_looksLike_c2 (N : Nat) (o_this : os_T) (o_p1 : os_T) (k2 : Int32 → Option Int32) (x2 : Int32) : Option Int32 :=
  (if (os_I o_this 1) ≤ x2 then some (1 : Int32) else ff_X5_looksLike_l12 N o_this o_p1 k2 N (x2, (0 : Int32)))
def ff_X5_looksLike_l2 (N : Nat) (o_this : os_T) (o_p1 : os_T) : Nat → Int32 → Option Int32 := os_loop (fun k2 s1 => ff_X5_looksLike_c2 N o_this o_p1 k2 s1)
def ff_X5_looksLike (N : Nat) (o_this : os_T) (o_p1 : os_T) : Option Int32 :=
  ff_X5_looksLike_l2 N o_this o_p1 N (0 : Int32)
set_option maxHeartbeats 4000000 in
set_option maxRecDepth 100000 in
theorem mm_X5_looksLike (l : Launch) (D : va_G) (kA : Nat → ClassId) (N : Nat) (q_this : Nat → Nat) (q_p1 : Nat → Nat) (o_this : os_T) (o_p1 : os_T) (out : Int32) (hf : ff_X5_looksLike N o_this o_p1 = some out) : mc_C l D kA yX5_looksLike wsX5_looksLike ({ frames := 1, cells := 0, slots := 0, locals := 22 } : Room) [.ref (q_this 0), .ref (q_p1 0)] (ce_X5 kA q_this o_this ++ (ce_X5 kA q_p1 o_p1)) (some (.int out)) (ce_X5 kA q_this o_this ++ (ce_X5 kA q_p1 o_p1)) := by
  refine mc_of (cc := cX5_looksLike) (maxL := 4) (ret := (some .boolean)) (by decide) rfl (Nat.le_of_ble_eq_true rfl) ?_
  intro p e s m below meth c A B hD hP hS ls hl
  obtain ⟨hx, hb, hr, hlk, hml, hown, hts, hK, hA, hnm⟩ := B
  have hown : s.vm.findClass RX5 = some m.cls := hown
  have hl : lv_has ls 4 [(0, .ref (q_this 0)), (1, .ref (q_p1 0))] := hl
  have hUX5 : ∀ w ∈ u_ws RX5 TX5 10, w.before [.ref (q_this 0), .ref (q_p1 0)].toArray s = true := fun w h => hts w (List.mem_cons_of_mem _ (List.mem_append_right _ h))
  have hL12 : ∀ (k2 : Int32 → Option Int32), (∀ (x2 : Int32) (H : Heap) (locs : List Loc) (ls : Array Slot), va_P D vwCl (ce_X5 kA q_this o_this ++ (ce_X5 kA q_p1 o_p1)) H → va_D A (ce_X5 kA q_this o_this ++ (ce_X5 kA q_p1 o_p1)) → va_S A s.heap H locs → lv_has ls 4 [(0, .ref (q_this 0)), (1, .ref (q_p1 0)), (2, .int x2)] → k2 x2 = some out → W p l e ({ frames := 1, cells := 0, slots := 0, locals := 22 } : Room) s m [.ref (q_this 0), .ref (q_p1 0)].toArray below meth c H locs 0 0 (MQ below (mc_Q D kA A (some (.int out)) (ce_X5 kA q_this o_this ++ (ce_X5 kA q_p1 o_p1))) [.ref (q_this 0), .ref (q_p1 0)].toArray s 0 0 A) (F0 m 2 ls [])) → ∀ (n : Nat) (x2 : Int32) (x3 : Int32) (H : Heap) (locs : List Loc) (ls : Array Slot), va_P D vwCl (ce_X5 kA q_this o_this ++ (ce_X5 kA q_p1 o_p1)) H → va_D A (ce_X5 kA q_this o_this ++ (ce_X5 kA q_p1 o_p1)) → va_S A s.heap H locs → lv_has ls 4 [(0, .ref (q_this 0)), (1, .ref (q_p1 0)), (2, .int x2), (3, .int x3)] → ff_X5_looksLike_l12 N o_this o_p1 k2 n (x2, x3) = some out → W p l e ({ frames := 1, cells := 0, slots := 0, locals := 22 } : Room) s m [.ref (q_this 0), .ref (q_p1 0)].toArray below meth c H locs 0 0 (MQ below (mc_Q D kA A (some (.int out)) (ce_X5 kA q_this o_this ++ (ce_X5 kA q_p1 o_p1))) [.ref (q_this 0), .ref (q_p1 0)].toArray s 0 0 A) (F0 m 12 ls []) := by
    intro k2 hk2 n
    induction n with
    | zero => intro x2 x3 H locs ls _ _ _ _ hf; cases hf
    | succ n hk12 =>
      intro x2 x3 H locs ls hP hD hS hl hf
      have hf : ff_X5_looksLike_c12 N o_this o_p1 k2 (ff_X5_looksLike_l12 N o_this o_p1 k2 n) x2 x3 = some out := hf
      generalize hke : ff_X5_looksLike_l12 N o_this o_p1 k2 n = k12 at hk12 hf
      unfold ff_X5_looksLike_c12 at hf
      refine lv_iload_n hx hb dX5_looksLike_12 rfl (lv_at hl 3 rfl) ?_
      refine lv_aload_n hx hb dX5_looksLike_13 rfl (lv_at hl 0 rfl) ?_
      refine va_get (D := D) (ci := 4) (v := .int (os_I o_this 0)) (C := RX5) (T := TX5) (N := 10) hx hb hUX5 (fun _ h9 => h9) hown hK hP 0 rfl rfl 0 (by decide) (hts (Cond.fieldLink RX5 28 "ReliefBuilder$Panel" "width" "I") (List.mem_of_getElem? (i := 2) rfl)) (fun _ h9 => h9) rfl dX5_looksLike_14 ?_
      refine lv_icmp_ge (tgt := 58) hx hb dX5_looksLike_17 (by decide) (fun hc_2 => ?_) (fun hc_2 => ?_)
      · rw [if_pos hc_2] at hf
        refine lv_iinc (v := x2 + 1) (lv' := [(2, .int (x2 + 1)), (0, .ref (q_this 0)), (1, .ref (q_p1 0)), (3, .int x3)]) hx hb dX5_looksLike_58 hl (k := 2) rfl rfl (by decide) rfl (fun ls hl => ?_)
        refine lv_goto (tgt := 2) hx hb dX5_looksLike_61 (by decide) ?_
        exact hk2 (x2 + 1) _ _ _ hP hD hS (lv_sub hl [1, 2, 0] rfl) hf
      · rw [if_neg hc_2] at hf
        refine lv_aload_n hx hb dX5_looksLike_20 rfl (lv_at hl 0 rfl) ?_
        refine lv_iload_n hx hb dX5_looksLike_21 rfl (lv_at hl 3 rfl) ?_
        refine lv_iload_n hx hb dX5_looksLike_22 rfl (lv_at hl 2 rfl) ?_
        obtain ⟨u_3, he_4, hf⟩ := os_bd hf
        refine mc_callV ⟨hx, hb, hml, hown, hts⟩ (mm_X5_heightAt l D kA N q_this o_this x3 x2 u_3 he_4) (cwV 2 hts gX5_looksLike_X5_heightAt rfl rfl rfl (by decide +kernel) ⟨Nat.le_of_ble_eq_true rfl, Nat.le_of_ble_eq_true rfl⟩) (wc := (ce_X5 kA q_this o_this)) (ci := 4) (q0 := 0) rfl rfl rfl hl.1 (As := [.int x3, .int x2]) (rest := []) rfl (Nat.le_of_ble_eq_true rfl) dX5_looksLike_23 ⟨Nat.le_of_ble_eq_true rfl, Nat.le_of_ble_eq_true rfl⟩ hK hP hD hS hA [0, 1, 2, 3] [4, 5, 6, 7] [4, 5, 6, 7, 0, 1, 2, 3] rfl (by decide) rfl (by decide) (by decide) rfl (by decide) (wr := (ce_X5 kA q_p1 o_p1)) (w2 := (ce_X5 kA q_this o_this ++ (ce_X5 kA q_p1 o_p1))) (fun H locs hP hD hS => ?_)
        have hP : va_P D vwCl (ce_X5 kA q_this o_this ++ (ce_X5 kA q_p1 o_p1)) H := hP
        refine lv_aload_n hx hb dX5_looksLike_26 rfl (lv_at hl 1 rfl) ?_
        refine lv_iload_n hx hb dX5_looksLike_27 rfl (lv_at hl 3 rfl) ?_
        refine lv_iload_n hx hb dX5_looksLike_28 rfl (lv_at hl 2 rfl) ?_
        obtain ⟨u_5, he_6, hf⟩ := os_bd hf
        refine mc_callV ⟨hx, hb, hml, hown, hts⟩ (mm_X5_heightAt l D kA N q_p1 o_p1 x3 x2 u_5 he_6) (cwV 2 hts gX5_looksLike_X5_heightAt rfl rfl rfl (by decide +kernel) ⟨Nat.le_of_ble_eq_true rfl, Nat.le_of_ble_eq_true rfl⟩) (wc := (ce_X5 kA q_p1 o_p1)) (ci := 4) (q0 := 0) rfl rfl rfl hl.1 (As := [.int x3, .int x2]) (rest := [.int u_3]) rfl (Nat.le_of_ble_eq_true rfl) dX5_looksLike_29 ⟨Nat.le_of_ble_eq_true rfl, Nat.le_of_ble_eq_true rfl⟩ hK hP hD hS hA [4, 5, 6, 7] [0, 1, 2, 3] [0, 1, 2, 3, 4, 5, 6, 7] rfl (by decide) rfl (by decide) (by decide) rfl (by decide) (wr := (ce_X5 kA q_this o_this)) (w2 := (ce_X5 kA q_this o_this ++ (ce_X5 kA q_p1 o_p1))) (fun H locs hP hD hS => ?_)
        have hP : va_P D vwCl (ce_X5 kA q_this o_this ++ (ce_X5 kA q_p1 o_p1)) H := hP
        refine lv_icmp_ne (tgt := 50) hx hb dX5_looksLike_32 (by decide) (fun hc_7 => ?_) (fun hc_7 => ?_)
        · rw [if_neg hc_7] at hf
          refine lv_iconst (v := 0) hx hb dX5_looksLike_50 (by decide) ?_
          rw [← Option.some.inj hf]
          exact mc_retz (v := 0) hx hb hr rfl hlk hP hK hD hS dX5_looksLike_51
        · rw [if_pos hc_7] at hf
          refine lv_aload_n hx hb dX5_looksLike_35 rfl (lv_at hl 0 rfl) ?_
          refine lv_iload_n hx hb dX5_looksLike_36 rfl (lv_at hl 3 rfl) ?_
          refine lv_iload_n hx hb dX5_looksLike_37 rfl (lv_at hl 2 rfl) ?_
          obtain ⟨u_8, he_9, hf⟩ := os_bd hf
          refine mc_callV ⟨hx, hb, hml, hown, hts⟩ (mm_X5_toneAt l D kA N q_this o_this x3 x2 u_8 he_9) (cwV 2 hts gX5_looksLike_X5_toneAt rfl rfl rfl (by decide +kernel) ⟨Nat.le_of_ble_eq_true rfl, Nat.le_of_ble_eq_true rfl⟩) (wc := (ce_X5 kA q_this o_this)) (ci := 4) (q0 := 0) rfl rfl rfl hl.1 (As := [.int x3, .int x2]) (rest := []) rfl (Nat.le_of_ble_eq_true rfl) dX5_looksLike_38 ⟨Nat.le_of_ble_eq_true rfl, Nat.le_of_ble_eq_true rfl⟩ hK hP hD hS hA [0, 1, 2, 3] [4, 5, 6, 7] [4, 5, 6, 7, 0, 1, 2, 3] rfl (by decide) rfl (by decide) (by decide) rfl (by decide) (wr := (ce_X5 kA q_p1 o_p1)) (w2 := (ce_X5 kA q_this o_this ++ (ce_X5 kA q_p1 o_p1))) (fun H locs hP hD hS => ?_)
          have hP : va_P D vwCl (ce_X5 kA q_this o_this ++ (ce_X5 kA q_p1 o_p1)) H := hP
          refine lv_aload_n hx hb dX5_looksLike_41 rfl (lv_at hl 1 rfl) ?_
          refine lv_iload_n hx hb dX5_looksLike_42 rfl (lv_at hl 3 rfl) ?_
          refine lv_iload_n hx hb dX5_looksLike_43 rfl (lv_at hl 2 rfl) ?_
          obtain ⟨u_10, he_11, hf⟩ := os_bd hf
          refine mc_callV ⟨hx, hb, hml, hown, hts⟩ (mm_X5_toneAt l D kA N q_p1 o_p1 x3 x2 u_10 he_11) (cwV 2 hts gX5_looksLike_X5_toneAt rfl rfl rfl (by decide +kernel) ⟨Nat.le_of_ble_eq_true rfl, Nat.le_of_ble_eq_true rfl⟩) (wc := (ce_X5 kA q_p1 o_p1)) (ci := 4) (q0 := 0) rfl rfl rfl hl.1 (As := [.int x3, .int x2]) (rest := [.int u_8]) rfl (Nat.le_of_ble_eq_true rfl) dX5_looksLike_44 ⟨Nat.le_of_ble_eq_true rfl, Nat.le_of_ble_eq_true rfl⟩ hK hP hD hS hA [4, 5, 6, 7] [0, 1, 2, 3] [0, 1, 2, 3, 4, 5, 6, 7] rfl (by decide) rfl (by decide) (by decide) rfl (by decide) (wr := (ce_X5 kA q_this o_this)) (w2 := (ce_X5 kA q_this o_this ++ (ce_X5 kA q_p1 o_p1))) (fun H locs hP hD hS => ?_)
          have hP : va_P D vwCl (ce_X5 kA q_this o_this ++ (ce_X5 kA q_p1 o_p1)) H := hP
          refine lv_icmp_eq (tgt := 52) hx hb dX5_looksLike_47 (by decide) (fun hc_12 => ?_) (fun hc_12 => ?_)
          · rw [if_pos hc_12] at hf
            refine lv_iinc (v := x3 + 1) (lv' := [(3, .int (x3 + 1)), (0, .ref (q_this 0)), (1, .ref (q_p1 0)), (2, .int x2)]) hx hb dX5_looksLike_52 hl (k := 3) rfl rfl (by decide) rfl (fun ls hl => ?_)
            refine lv_goto (tgt := 12) hx hb dX5_looksLike_55 (by decide) ?_
            exact hk12 x2 (x3 + 1) _ _ _ hP hD hS (lv_sub hl [1, 2, 3, 0] rfl) hf
          · rw [if_neg hc_12] at hf
            refine lv_iconst (v := 0) hx hb dX5_looksLike_50 (by decide) ?_
            rw [← Option.some.inj hf]
            exact mc_retz (v := 0) hx hb hr rfl hlk hP hK hD hS dX5_looksLike_51
  have hL2 : ∀ (n : Nat) (x2 : Int32) (H : Heap) (locs : List Loc) (ls : Array Slot), va_P D vwCl (ce_X5 kA q_this o_this ++ (ce_X5 kA q_p1 o_p1)) H → va_D A (ce_X5 kA q_this o_this ++ (ce_X5 kA q_p1 o_p1)) → va_S A s.heap H locs → lv_has ls 4 [(0, .ref (q_this 0)), (1, .ref (q_p1 0)), (2, .int x2)] → ff_X5_looksLike_l2 N o_this o_p1 n x2 = some out → W p l e ({ frames := 1, cells := 0, slots := 0, locals := 22 } : Room) s m [.ref (q_this 0), .ref (q_p1 0)].toArray below meth c H locs 0 0 (MQ below (mc_Q D kA A (some (.int out)) (ce_X5 kA q_this o_this ++ (ce_X5 kA q_p1 o_p1))) [.ref (q_this 0), .ref (q_p1 0)].toArray s 0 0 A) (F0 m 2 ls []) := by
    intro n
    induction n with
    | zero => intro x2 H locs ls _ _ _ _ hf; cases hf
    | succ n hk2 =>
      intro x2 H locs ls hP hD hS hl hf
      have hf : ff_X5_looksLike_c2 N o_this o_p1 (ff_X5_looksLike_l2 N o_this o_p1 n) x2 = some out := hf
      generalize hke : ff_X5_looksLike_l2 N o_this o_p1 n = k2 at hk2 hf
      unfold ff_X5_looksLike_c2 at hf
      refine lv_iload_n hx hb dX5_looksLike_2 rfl (lv_at hl 2 rfl) ?_
      refine lv_aload_n hx hb dX5_looksLike_3 rfl (lv_at hl 0 rfl) ?_
      refine va_get (D := D) (ci := 4) (v := .int (os_I o_this 1)) (C := RX5) (T := TX5) (N := 10) hx hb hUX5 (fun _ h9 => h9) hown hK hP 0 rfl rfl 1 (by decide) (hts (Cond.fieldLink RX5 32 "ReliefBuilder$Panel" "rows" "I") (List.mem_of_getElem? (i := 1) rfl)) (fun _ h9 => h9) rfl dX5_looksLike_4 ?_
      refine lv_icmp_ge (tgt := 64) hx hb dX5_looksLike_7 (by decide) (fun hc_1 => ?_) (fun hc_1 => ?_)
      · rw [if_pos hc_1] at hf
        refine lv_iconst (v := 1) hx hb dX5_looksLike_64 (by decide) ?_
        rw [← Option.some.inj hf]
        exact mc_retz (v := 1) hx hb hr rfl hlk hP hK hD hS dX5_looksLike_65
      · rw [if_neg hc_1] at hf
        refine lv_iconst (v := 0) hx hb dX5_looksLike_10 (by decide) ?_
        refine lv_istore_n (lv' := [(3, .int (0 : Int32)), (0, .ref (q_this 0)), (1, .ref (q_p1 0)), (2, .int x2)]) hx hb dX5_looksLike_11 rfl hl (by decide) rfl (fun ls hl => ?_)
        exact hL12 k2 hk2 N x2 (0 : Int32) _ _ _ hP hD hS (lv_sub hl [1, 2, 3, 0] rfl) hf
  unfold ff_X5_looksLike at hf
  refine lv_iconst (v := 0) hx hb dX5_looksLike_0 (by decide) ?_
  refine lv_istore_n (lv' := [(2, .int (0 : Int32)), (0, .ref (q_this 0)), (1, .ref (q_p1 0))]) hx hb dX5_looksLike_1 rfl hl (by decide) rfl (fun ls hl => ?_)
  exact hL2 N (0 : Int32) _ _ _ hP hD hS (lv_sub hl [1, 2, 0] rfl) hf
