def ff_X13_repairLoss_c29 (N : Nat) (k29 : (os_T × Int32 × Int32 × Int32) → Option (Int32 × os_T)) (o_this : os_T) (x2 : Int32) (x3 : Int32) (x4 : Int32) : Option (Int32 × os_T) :=
  (if (192 : Int32) ≤ x4 then (if x2 ≤ 0 then some ((0 : Int32), o_this) else some (x3, o_this)) else (if os_in x4 192 then (if os_in x4 192 then k29 (ss_A o_this 4 (upd (os_A o_this 4) (Int32.toNatClampNeg x4) ((os_A o_this 7) (Int32.toNatClampNeg x4))), x2, x3, x4 + 1) else none) else none))
def ff_X13_repairLoss_l29 (N : Nat) : Nat → (os_T × Int32 × Int32 × Int32) → Option (Int32 × os_T) := os_loop (fun k29 s1 => ff_X13_repairLoss_c29 N k29 s1.1 s1.2.1 s1.2.2.1 s1.2.2.2)
def ff_X13_repairLoss (N : Nat) (o_this : os_T) : Option (Int32 × os_T) :=
  ((ff_X13_laysAside N (ss_I o_this 0 (0 : Int32))).bind fun u_1 => ((ff_X13_volumeNow N u_1).bind fun u_3 => ((ff_X13_repairs N u_1).bind fun u_5 => ((ff_X13_volumeNow N u_5.2).bind fun u_7 => ff_X13_repairLoss_l29 N N (u_5.2, u_5.1, u_3 - u_7, (0 : Int32))))))
set_option maxHeartbeats 4000000 in
set_option maxRecDepth 100000 in
theorem mm_X13_repairLoss (l : Launch) (D : va_G) (kA : Nat → ClassId) (N : Nat) (q_this : Nat → Nat) (o_this : os_T) (out : (Int32 × os_T)) (hf : ff_X13_repairLoss N o_this = some out) : mc_C l D kA yX13_repairLoss wsX13_repairLoss ({ frames := 7, cells := 0, slots := 0, locals := 164 } : Room) [.ref (q_this 0)] (ce_X13 kA q_this o_this) (some (.int out.1)) (ce_X13 kA q_this out.2) := by
  refine mc_of (cc := cX13_repairLoss) (maxL := 5) (ret := (some .int)) (by decide) rfl (Nat.le_of_ble_eq_true rfl) ?_
  intro p e s m below meth c A B hD hP hS ls hl
  obtain ⟨hx, hb, hr, hlk, hml, hown, hts, hK, hA, hnm⟩ := B
  have hown : s.vm.findClass RX13 = some m.cls := hown
  have hl : lv_has ls 5 [(0, .ref (q_this 0))] := hl
  have hUX13 : ∀ w ∈ u_ws RX13 TX13 48, w.before [.ref (q_this 0)].toArray s = true := fun w h => hts w (List.mem_cons_of_mem _ (List.mem_append_right _ h))
  have hL29 : ∀ (n : Nat) (o_this : os_T) (x2 : Int32) (x3 : Int32) (x4 : Int32) (H : Heap) (locs : List Loc) (ls : Array Slot), va_P D vwCl (ce_X13 kA q_this o_this) H → va_D A (ce_X13 kA q_this o_this) → va_S A s.heap H locs → lv_has ls 5 [(0, .ref (q_this 0)), (2, .int x2), (3, .int x3), (4, .int x4)] → ff_X13_repairLoss_l29 N n (o_this, x2, x3, x4) = some out → W p l e ({ frames := 7, cells := 0, slots := 0, locals := 164 } : Room) s m [.ref (q_this 0)].toArray below meth c H locs 0 0 (MQ below (mc_Q D kA A (some (.int out.1)) (ce_X13 kA q_this out.2)) [.ref (q_this 0)].toArray s 0 0 A) (F0 m 29 ls []) := by
    intro n
    induction n with
    | zero => intro o_this x2 x3 x4 H locs ls _ _ _ _ hf; cases hf
    | succ n hk29 =>
      intro o_this x2 x3 x4 H locs ls hP hD hS hl hf
      have hf : ff_X13_repairLoss_c29 N (ff_X13_repairLoss_l29 N n) o_this x2 x3 x4 = some out := hf
      generalize hke : ff_X13_repairLoss_l29 N n = k29 at hk29 hf
      unfold ff_X13_repairLoss_c29 at hf
      refine lv_iload hx hb dX13_repairLoss_29 (lv_at hl 3 rfl) ?_
      refine lv_sipush (v := 192) hx hb dX13_repairLoss_31 (by decide) ?_
      refine lv_icmp_ge (tgt := 57) hx hb dX13_repairLoss_34 (by decide) (fun hc_9 => ?_) (fun hc_9 => ?_)
      · rw [if_pos hc_9] at hf
        refine lv_iload_n hx hb dX13_repairLoss_57 rfl (lv_at hl 1 rfl) ?_
        refine lv_if_le (tgt := 65) hx hb dX13_repairLoss_58 (by decide) (fun hc_10 => ?_) (fun hc_10 => ?_)
        · rw [if_pos hc_10] at hf
          refine lv_iconst (v := 0) hx hb dX13_repairLoss_65 (by decide) ?_
          rw [← Option.some.inj hf]
          exact mc_reti hx hb hr hlk hP hK hD hS dX13_repairLoss_66
        · rw [if_neg hc_10] at hf
          refine lv_iload_n hx hb dX13_repairLoss_61 rfl (lv_at hl 2 rfl) ?_
          refine lv_goto (tgt := 66) hx hb dX13_repairLoss_62 (by decide) ?_
          rw [← Option.some.inj hf]
          exact mc_reti hx hb hr hlk hP hK hD hS dX13_repairLoss_66
      · rw [if_neg hc_9] at hf
        refine lv_aload_n hx hb dX13_repairLoss_37 rfl (lv_at hl 0 rfl) ?_
        refine va_get (D := D) (ci := 9) (v := .ref (q_this 5)) (C := RX13) (T := TX13) (N := 48) hx hb hUX13 (fun _ h9 => h9) hown hK hP 0 rfl rfl 16 (by decide) (hts (Cond.fieldLink RX13 29 "ReliefBuilderModel" "heights" "[I") (List.mem_of_getElem? (i := 2) rfl)) (fun _ h9 => h9) rfl dX13_repairLoss_38 ?_
        refine lv_iload hx hb dX13_repairLoss_41 (lv_at hl 3 rfl) ?_
        refine lv_aload_n hx hb dX13_repairLoss_43 rfl (lv_at hl 0 rfl) ?_
        refine va_get (D := D) (ci := 9) (v := .ref (q_this 8)) (C := RX13) (T := TX13) (N := 48) hx hb hUX13 (fun _ h9 => h9) hown hK hP 0 rfl rfl 25 (by decide) (hts (Cond.fieldLink RX13 39 "ReliefBuilderModel" "aside" "[I") (List.mem_of_getElem? (i := 3) rfl)) (fun _ h9 => h9) rfl dX13_repairLoss_44 ?_
        refine lv_iload hx hb dX13_repairLoss_47 (lv_at hl 3 rfl) ?_
        obtain ⟨hi_11, hf⟩ := os_if hf
        refine va_iald hx hb hK hP 8 0 rfl rfl hi_11 dX13_repairLoss_49 ?_
        obtain ⟨hi_12, hf⟩ := os_if hf
        refine va_iast hx hb hK hP hD hS 5 0 rfl rfl hi_12 dX13_repairLoss_50 (fun H locs hP hD hS => ?_)
        have hP : va_P D vwCl (ce_X13 kA q_this (ss_A o_this 4 (upd (os_A o_this 4) (Int32.toNatClampNeg x4) ((os_A o_this 7) (Int32.toNatClampNeg x4))))) H := hP
        have hD : va_D A (ce_X13 kA q_this (ss_A o_this 4 (upd (os_A o_this 4) (Int32.toNatClampNeg x4) ((os_A o_this 7) (Int32.toNatClampNeg x4))))) := hD
        refine lv_iinc (v := x4 + 1) (lv' := [(4, .int (x4 + 1)), (0, .ref (q_this 0)), (2, .int x2), (3, .int x3)]) hx hb dX13_repairLoss_51 hl (k := 3) rfl rfl (by decide) rfl (fun ls hl => ?_)
        refine lv_goto (tgt := 29) hx hb dX13_repairLoss_54 (by decide) ?_
        exact hk29 (ss_A o_this 4 (upd (os_A o_this 4) (Int32.toNatClampNeg x4) ((os_A o_this 7) (Int32.toNatClampNeg x4)))) x2 x3 (x4 + 1) _ _ _ hP hD hS (lv_sub hl [1, 2, 3, 0] rfl) hf
  unfold ff_X13_repairLoss at hf
  refine lv_aload_n hx hb dX13_repairLoss_0 rfl (lv_at hl 0 rfl) ?_
  refine lv_iconst (v := 0) hx hb dX13_repairLoss_1 (by decide) ?_
  refine va_put (D := D) (ci := 9) (v := .int (0 : Int32)) (ty := .int) (C := RX13) (T := TX13) (N := 48) hx hb hUX13 (fun _ h9 => h9) tyX13 tyX13_ok nmX13 hown hK hP hD hS 0 rfl rfl 0 (by decide) (hts (Cond.fieldLink RX13 93 "ReliefBuilderModel" "code" "I") (List.mem_of_getElem? (i := 1) rfl)) (fun _ h9 => h9) rfl (tyX13_ok 0 (by decide)) rfl rfl (Nat.le_of_ble_eq_true rfl) dX13_repairLoss_2 (fun H locs hP hD hS => ?_)
  have hP : va_P D vwCl (ce_X13 kA q_this (ss_I o_this 0 (0 : Int32))) H := hP
  have hD : va_D A (ce_X13 kA q_this (ss_I o_this 0 (0 : Int32))) := hD
  refine lv_aload_n hx hb dX13_repairLoss_5 rfl (lv_at hl 0 rfl) ?_
  obtain ⟨u_1, he_2, hf⟩ := os_bd hf
  refine mc_callV ⟨hx, hb, hml, hown, hts⟩ (mm_X13_laysAside l D kA N q_this (ss_I o_this 0 (0 : Int32)) u_1 he_2) (cwV 0 hts gX13_repairLoss_X13_laysAside rfl rfl rfl (by decide +kernel) ⟨Nat.le_of_ble_eq_true rfl, Nat.le_of_ble_eq_true rfl⟩) (wc := (ce_X13 kA q_this (ss_I o_this 0 (0 : Int32)))) (ci := 9) (q0 := 0) rfl rfl rfl hl.1 (As := []) (rest := []) rfl (Nat.le_of_ble_eq_true rfl) dX13_repairLoss_6 ⟨Nat.le_of_ble_eq_true rfl, Nat.le_of_ble_eq_true rfl⟩ hK hP hD hS hA [0, 1, 2, 3, 4, 5, 6, 7, 8, 9, 10, 11, 12, 13, 14, 15, 16, 17, 18, 19, 20, 21, 22, 23] [] [0, 1, 2, 3, 4, 5, 6, 7, 8, 9, 10, 11, 12, 13, 14, 15, 16, 17, 18, 19, 20, 21, 22, 23] rfl (by decide) rfl (by decide) (by decide) rfl (by decide) (wr := []) (w2 := (ce_X13 kA q_this u_1)) (fun H locs hP hD hS => ?_)
  have hP : va_P D vwCl (ce_X13 kA q_this u_1) H := hP
  refine lv_aload_n hx hb dX13_repairLoss_9 rfl (lv_at hl 0 rfl) ?_
  obtain ⟨u_3, he_4, hf⟩ := os_bd hf
  refine mc_callV ⟨hx, hb, hml, hown, hts⟩ (mm_X13_volumeNow l D kA N q_this u_1 u_3 he_4) (cwV 0 hts gX13_repairLoss_X13_volumeNow rfl rfl rfl (by decide +kernel) ⟨Nat.le_of_ble_eq_true rfl, Nat.le_of_ble_eq_true rfl⟩) (wc := (ce_X13 kA q_this u_1)) (ci := 9) (q0 := 0) rfl rfl rfl hl.1 (As := []) (rest := []) rfl (Nat.le_of_ble_eq_true rfl) dX13_repairLoss_10 ⟨Nat.le_of_ble_eq_true rfl, Nat.le_of_ble_eq_true rfl⟩ hK hP hD hS hA [0, 1, 2, 3, 4, 5, 6, 7, 8, 9, 10, 11, 12, 13, 14, 15, 16, 17, 18, 19, 20, 21, 22, 23] [] [0, 1, 2, 3, 4, 5, 6, 7, 8, 9, 10, 11, 12, 13, 14, 15, 16, 17, 18, 19, 20, 21, 22, 23] rfl (by decide) rfl (by decide) (by decide) rfl (by decide) (wr := []) (w2 := (ce_X13 kA q_this u_1)) (fun H locs hP hD hS => ?_)
  have hP : va_P D vwCl (ce_X13 kA q_this u_1) H := hP
  refine lv_istore_n (lv' := [(1, .int u_3), (0, .ref (q_this 0))]) hx hb dX13_repairLoss_13 rfl hl (by decide) rfl (fun ls hl => ?_)
  refine lv_aload_n hx hb dX13_repairLoss_14 rfl (lv_at hl 1 rfl) ?_
  obtain ⟨u_5, he_6, hf⟩ := os_bd hf
  refine mc_callV ⟨hx, hb, hml, hown, hts⟩ (mm_X13_repairs l D kA N q_this u_1 u_5 he_6) (cwV 0 hts gX13_repairLoss_X13_repairs rfl rfl rfl (by decide +kernel) ⟨Nat.le_of_ble_eq_true rfl, Nat.le_of_ble_eq_true rfl⟩) (wc := (ce_X13 kA q_this u_1)) (ci := 9) (q0 := 0) rfl rfl rfl hl.1 (As := []) (rest := []) rfl (Nat.le_of_ble_eq_true rfl) dX13_repairLoss_15 ⟨Nat.le_of_ble_eq_true rfl, Nat.le_of_ble_eq_true rfl⟩ hK hP hD hS hA [0, 1, 2, 3, 4, 5, 6, 7, 8, 9, 10, 11, 12, 13, 14, 15, 16, 17, 18, 19, 20, 21, 22, 23] [] [0, 1, 2, 3, 4, 5, 6, 7, 8, 9, 10, 11, 12, 13, 14, 15, 16, 17, 18, 19, 20, 21, 22, 23] rfl (by decide) rfl (by decide) (by decide) rfl (by decide) (wr := []) (w2 := (ce_X13 kA q_this u_5.2)) (fun H locs hP hD hS => ?_)
  have hP : va_P D vwCl (ce_X13 kA q_this u_5.2) H := hP
  refine lv_istore_n (lv' := [(2, .int u_5.1), (1, .int u_3), (0, .ref (q_this 0))]) hx hb dX13_repairLoss_18 rfl hl (by decide) rfl (fun ls hl => ?_)
  refine lv_iload_n hx hb dX13_repairLoss_19 rfl (lv_at hl 1 rfl) ?_
  refine lv_aload_n hx hb dX13_repairLoss_20 rfl (lv_at hl 2 rfl) ?_
  obtain ⟨u_7, he_8, hf⟩ := os_bd hf
  refine mc_callV ⟨hx, hb, hml, hown, hts⟩ (mm_X13_volumeNow l D kA N q_this u_5.2 u_7 he_8) (cwV 0 hts gX13_repairLoss_X13_volumeNow rfl rfl rfl (by decide +kernel) ⟨Nat.le_of_ble_eq_true rfl, Nat.le_of_ble_eq_true rfl⟩) (wc := (ce_X13 kA q_this u_5.2)) (ci := 9) (q0 := 0) rfl rfl rfl hl.1 (As := []) (rest := [.int u_3]) rfl (Nat.le_of_ble_eq_true rfl) dX13_repairLoss_21 ⟨Nat.le_of_ble_eq_true rfl, Nat.le_of_ble_eq_true rfl⟩ hK hP hD hS hA [0, 1, 2, 3, 4, 5, 6, 7, 8, 9, 10, 11, 12, 13, 14, 15, 16, 17, 18, 19, 20, 21, 22, 23] [] [0, 1, 2, 3, 4, 5, 6, 7, 8, 9, 10, 11, 12, 13, 14, 15, 16, 17, 18, 19, 20, 21, 22, 23] rfl (by decide) rfl (by decide) (by decide) rfl (by decide) (wr := []) (w2 := (ce_X13 kA q_this u_5.2)) (fun H locs hP hD hS => ?_)
  have hP : va_P D vwCl (ce_X13 kA q_this u_5.2) H := hP
  refine lv_isub hx hb dX13_repairLoss_24 ?_
  refine lv_istore_n (lv' := [(3, .int (u_3 - u_7)), (2, .int u_5.1), (1, .int u_3), (0, .ref (q_this 0))]) hx hb dX13_repairLoss_25 rfl hl (by decide) rfl (fun ls hl => ?_)
  refine lv_iconst (v := 0) hx hb dX13_repairLoss_26 (by decide) ?_
  refine lv_istore (lv' := [(4, .int (0 : Int32)), (3, .int (u_3 - u_7)), (2, .int u_5.1), (1, .int u_3), (0, .ref (q_this 0))]) hx hb dX13_repairLoss_27 hl (by decide) rfl (fun ls hl => ?_)
  exact hL29 N u_5.2 u_5.1 (u_3 - u_7) (0 : Int32) _ _ _ hP hD hS (lv_sub hl [4, 2, 1, 0] rfl) hf
def ff_X13_standsOut (N : Nat) (o_this : os_T) (a1 : Int32) (a2 : Int32) : Option Int32 :=
  (if a2 = 0 then some (0 : Int32) else (if os_in (((16 : Int32) * a2) + a1) 192 then (if os_in ((((16 : Int32) * a2) - (16 : Int32)) + a1) 192 then (if os_in (6 : Int32) 7 then ((ff_X13_more N (0 : Int32) ((((os_A o_this 4) (Int32.toNatClampNeg (((16 : Int32) * a2) + a1))) - ((os_A o_this 4) (Int32.toNatClampNeg ((((16 : Int32) * a2) - (16 : Int32)) + a1)))) - ((os_A o_this 1) (Int32.toNatClampNeg (6 : Int32))))).bind fun u_5 => some u_5) else none) else none) else none))
set_option maxHeartbeats 4000000 in
set_option maxRecDepth 100000 in
theorem mm_X13_standsOut (l : Launch) (D : va_G) (kA : Nat → ClassId) (N : Nat) (q_this : Nat → Nat) (o_this : os_T) (a1 : Int32) (a2 : Int32) (out : Int32) (hf : ff_X13_standsOut N o_this a1 a2 = some out) : mc_C l D kA yX13_standsOut wsX13_standsOut ({ frames := 1, cells := 0, slots := 0, locals := 21 } : Room) [.ref (q_this 0), .int a1, .int a2] (ce_X13 kA q_this o_this) (some (.int out)) (ce_X13 kA q_this o_this) := by
  refine mc_of (cc := cX13_standsOut) (maxL := 3) (ret := (some .int)) (by decide) rfl (Nat.le_of_ble_eq_true rfl) ?_
  intro p e s m below meth c A B hD hP hS ls hl
  obtain ⟨hx, hb, hr, hlk, hml, hown, hts, hK, hA, hnm⟩ := B
  have hown : s.vm.findClass RX13 = some m.cls := hown
  have hl : lv_has ls 3 [(0, .ref (q_this 0)), (1, .int a1), (2, .int a2)] := hl
  have hUX13 : ∀ w ∈ u_ws RX13 TX13 48, w.before [.ref (q_this 0), .int a1, .int a2].toArray s = true := fun w h => hts w (List.mem_cons_of_mem _ (List.mem_append_right _ h))
  unfold ff_X13_standsOut at hf
  refine lv_iload_n hx hb dX13_standsOut_0 rfl (lv_at hl 2 rfl) ?_
  refine lv_if_ne (tgt := 8) hx hb dX13_standsOut_1 (by decide) (fun hc_1 => ?_) (fun hc_1 => ?_)
  · rw [if_neg hc_1] at hf
    refine lv_iconst (v := 0) hx hb dX13_standsOut_8 (by decide) ?_
    refine lv_aload_n hx hb dX13_standsOut_9 rfl (lv_at hl 0 rfl) ?_
    refine va_get (D := D) (ci := 9) (v := .ref (q_this 5)) (C := RX13) (T := TX13) (N := 48) hx hb hUX13 (fun _ h9 => h9) hown hK hP 0 rfl rfl 16 (by decide) (hts (Cond.fieldLink RX13 29 "ReliefBuilderModel" "heights" "[I") (List.mem_of_getElem? (i := 1) rfl)) (fun _ h9 => h9) rfl dX13_standsOut_10 ?_
    refine lv_bipush (v := 16) hx hb dX13_standsOut_13 (by decide) ?_
    refine lv_iload_n hx hb dX13_standsOut_15 rfl (lv_at hl 2 rfl) ?_
    refine lv_imul hx hb dX13_standsOut_16 ?_
    refine lv_iload_n hx hb dX13_standsOut_17 rfl (lv_at hl 1 rfl) ?_
    refine lv_iadd hx hb dX13_standsOut_18 ?_
    obtain ⟨hi_2, hf⟩ := os_if hf
    refine va_iald hx hb hK hP 5 0 rfl rfl hi_2 dX13_standsOut_19 ?_
    refine lv_aload_n hx hb dX13_standsOut_20 rfl (lv_at hl 0 rfl) ?_
    refine va_get (D := D) (ci := 9) (v := .ref (q_this 5)) (C := RX13) (T := TX13) (N := 48) hx hb hUX13 (fun _ h9 => h9) hown hK hP 0 rfl rfl 16 (by decide) (hts (Cond.fieldLink RX13 29 "ReliefBuilderModel" "heights" "[I") (List.mem_of_getElem? (i := 1) rfl)) (fun _ h9 => h9) rfl dX13_standsOut_21 ?_
    refine lv_bipush (v := 16) hx hb dX13_standsOut_24 (by decide) ?_
    refine lv_iload_n hx hb dX13_standsOut_26 rfl (lv_at hl 2 rfl) ?_
    refine lv_imul hx hb dX13_standsOut_27 ?_
    refine lv_bipush (v := 16) hx hb dX13_standsOut_28 (by decide) ?_
    refine lv_isub hx hb dX13_standsOut_30 ?_
    refine lv_iload_n hx hb dX13_standsOut_31 rfl (lv_at hl 1 rfl) ?_
    refine lv_iadd hx hb dX13_standsOut_32 ?_
    obtain ⟨hi_3, hf⟩ := os_if hf
    refine va_iald hx hb hK hP 5 0 rfl rfl hi_3 dX13_standsOut_33 ?_
    refine lv_isub hx hb dX13_standsOut_34 ?_
    refine lv_aload_n hx hb dX13_standsOut_35 rfl (lv_at hl 0 rfl) ?_
    refine va_get (D := D) (ci := 9) (v := .ref (q_this 2)) (C := RX13) (T := TX13) (N := 48) hx hb hUX13 (fun _ h9 => h9) hown hK hP 0 rfl rfl 13 (by decide) (hts (Cond.fieldLink RX13 20 "ReliefBuilderModel" "now" "[I") (List.mem_of_getElem? (i := 2) rfl)) (fun _ h9 => h9) rfl dX13_standsOut_36 ?_
    refine lv_bipush (v := 6) hx hb dX13_standsOut_39 (by decide) ?_
    obtain ⟨hi_4, hf⟩ := os_if hf
    refine va_iald hx hb hK hP 2 0 rfl rfl hi_4 dX13_standsOut_41 ?_
    refine lv_isub hx hb dX13_standsOut_42 ?_
    obtain ⟨u_5, he_6, hf⟩ := os_bd hf
    refine mc_callS ⟨hx, hb, hml, hown, hts⟩ (mm_X13_more l D kA N (0 : Int32) ((((os_A o_this 4) (Int32.toNatClampNeg (((16 : Int32) * a2) + a1))) - ((os_A o_this 4) (Int32.toNatClampNeg ((((16 : Int32) * a2) - (16 : Int32)) + a1)))) - ((os_A o_this 1) (Int32.toNatClampNeg (6 : Int32)))) u_5 he_6) (va_cwS 2 hts gX13_standsOut_X13_more rfl rfl rfl (by decide +kernel) ⟨Nat.le_of_ble_eq_true rfl, Nat.le_of_ble_eq_true rfl⟩) (wc := []) rfl hl.1 (As := [.int (0 : Int32), .int ((((os_A o_this 4) (Int32.toNatClampNeg (((16 : Int32) * a2) + a1))) - ((os_A o_this 4) (Int32.toNatClampNeg ((((16 : Int32) * a2) - (16 : Int32)) + a1)))) - ((os_A o_this 1) (Int32.toNatClampNeg (6 : Int32))))]) (rest := []) rfl (Nat.le_of_ble_eq_true rfl) dX13_standsOut_43 ⟨Nat.le_of_ble_eq_true rfl, Nat.le_of_ble_eq_true rfl⟩ hK hP hD hS hA [] [0, 1, 2, 3, 4, 5, 6, 7, 8, 9, 10, 11, 12, 13, 14, 15, 16, 17, 18, 19, 20, 21, 22, 23] [0, 1, 2, 3, 4, 5, 6, 7, 8, 9, 10, 11, 12, 13, 14, 15, 16, 17, 18, 19, 20, 21, 22, 23] rfl (by decide) rfl (by decide) (by decide) rfl (by decide) (wr := (ce_X13 kA q_this o_this)) (w2 := (ce_X13 kA q_this o_this)) (fun H locs hP hD hS => ?_)
    have hP : va_P D vwCl (ce_X13 kA q_this o_this) H := hP
    rw [← Option.some.inj hf]
    exact mc_reti hx hb hr hlk hP hK hD hS dX13_standsOut_46
  · rw [if_pos hc_1] at hf
    refine lv_iconst (v := 0) hx hb dX13_standsOut_4 (by decide) ?_
    refine lv_goto (tgt := 46) hx hb dX13_standsOut_5 (by decide) ?_
    rw [← Option.some.inj hf]
    exact mc_reti hx hb hr hlk hP hK hD hS dX13_standsOut_46
def ff_X13_overhang (N : Nat) (o_this : os_T) (a1 : Int32) (a2 : Int32) : Option (Int32 × os_T) :=
  ((ff_X13_isCell N o_this a1 a2).bind fun u_1 => ((ff_X13_goes N o_this u_1).bind fun u_3 => (if u_3.1 = 0 then some ((0 : Int32), u_3.2) else ((ff_X13_standsOut N u_3.2 a1 a2).bind fun u_6 => some (u_6, u_3.2)))))
set_option maxHeartbeats 4000000 in
set_option maxRecDepth 100000 in
theorem mm_X13_overhang (l : Launch) (D : va_G) (kA : Nat → ClassId) (N : Nat) (q_this : Nat → Nat) (o_this : os_T) (a1 : Int32) (a2 : Int32) (out : (Int32 × os_T)) (hf : ff_X13_overhang N o_this a1 a2 = some out) : mc_C l D kA yX13_overhang wsX13_overhang ({ frames := 2, cells := 0, slots := 0, locals := 47 } : Room) [.ref (q_this 0), .int a1, .int a2] (ce_X13 kA q_this o_this) (some (.int out.1)) (ce_X13 kA q_this out.2) := by
  refine mc_of (cc := cX13_overhang) (maxL := 3) (ret := (some .int)) (by decide) rfl (Nat.le_of_ble_eq_true rfl) ?_
  intro p e s m below meth c A B hD hP hS ls hl
  obtain ⟨hx, hb, hr, hlk, hml, hown, hts, hK, hA, hnm⟩ := B
  have hown : s.vm.findClass RX13 = some m.cls := hown
  have hl : lv_has ls 3 [(0, .ref (q_this 0)), (1, .int a1), (2, .int a2)] := hl
  unfold ff_X13_overhang at hf
  refine lv_aload_n hx hb dX13_overhang_0 rfl (lv_at hl 0 rfl) ?_
  refine lv_aload_n hx hb dX13_overhang_1 rfl (lv_at hl 0 rfl) ?_
  refine lv_iload_n hx hb dX13_overhang_2 rfl (lv_at hl 1 rfl) ?_
  refine lv_iload_n hx hb dX13_overhang_3 rfl (lv_at hl 2 rfl) ?_
  obtain ⟨u_1, he_2, hf⟩ := os_bd hf
  refine mc_callV ⟨hx, hb, hml, hown, hts⟩ (mm_X13_isCell l D kA N q_this o_this a1 a2 u_1 he_2) (cwV 2 hts gX13_overhang_X13_isCell rfl rfl rfl (by decide +kernel) ⟨Nat.le_of_ble_eq_true rfl, Nat.le_of_ble_eq_true rfl⟩) (wc := (ce_X13 kA q_this o_this)) (ci := 9) (q0 := 0) rfl rfl rfl hl.1 (As := [.int a1, .int a2]) (rest := [.ref (q_this 0)]) rfl (Nat.le_of_ble_eq_true rfl) dX13_overhang_4 ⟨Nat.le_of_ble_eq_true rfl, Nat.le_of_ble_eq_true rfl⟩ hK hP hD hS hA [0, 1, 2, 3, 4, 5, 6, 7, 8, 9, 10, 11, 12, 13, 14, 15, 16, 17, 18, 19, 20, 21, 22, 23] [] [0, 1, 2, 3, 4, 5, 6, 7, 8, 9, 10, 11, 12, 13, 14, 15, 16, 17, 18, 19, 20, 21, 22, 23] rfl (by decide) rfl (by decide) (by decide) rfl (by decide) (wr := []) (w2 := (ce_X13 kA q_this o_this)) (fun H locs hP hD hS => ?_)
  have hP : va_P D vwCl (ce_X13 kA q_this o_this) H := hP
  obtain ⟨u_3, he_4, hf⟩ := os_bd hf
  refine mc_callV ⟨hx, hb, hml, hown, hts⟩ (mm_X13_goes l D kA N q_this o_this u_1 u_3 he_4) (cwV 1 hts gX13_overhang_X13_goes rfl rfl rfl (by decide +kernel) ⟨Nat.le_of_ble_eq_true rfl, Nat.le_of_ble_eq_true rfl⟩) (wc := (ce_X13 kA q_this o_this)) (ci := 9) (q0 := 0) rfl rfl rfl hl.1 (As := [.int u_1]) (rest := []) rfl (Nat.le_of_ble_eq_true rfl) dX13_overhang_7 ⟨Nat.le_of_ble_eq_true rfl, Nat.le_of_ble_eq_true rfl⟩ hK hP hD hS hA [0, 1, 2, 3, 4, 5, 6, 7, 8, 9, 10, 11, 12, 13, 14, 15, 16, 17, 18, 19, 20, 21, 22, 23] [] [0, 1, 2, 3, 4, 5, 6, 7, 8, 9, 10, 11, 12, 13, 14, 15, 16, 17, 18, 19, 20, 21, 22, 23] rfl (by decide) rfl (by decide) (by decide) rfl (by decide) (wr := []) (w2 := (ce_X13 kA q_this u_3.2)) (fun H locs hP hD hS => ?_)
  have hP : va_P D vwCl (ce_X13 kA q_this u_3.2) H := hP
  refine lv_if_eq (tgt := 22) hx hb dX13_overhang_10 (by decide) (fun hc_5 => ?_) (fun hc_5 => ?_)
  · rw [if_pos hc_5] at hf
    refine lv_iconst (v := 0) hx hb dX13_overhang_22 (by decide) ?_
    rw [← Option.some.inj hf]
    exact mc_reti hx hb hr hlk hP hK hD hS dX13_overhang_23
  · rw [if_neg hc_5] at hf
    refine lv_aload_n hx hb dX13_overhang_13 rfl (lv_at hl 0 rfl) ?_
    refine lv_iload_n hx hb dX13_overhang_14 rfl (lv_at hl 1 rfl) ?_
    refine lv_iload_n hx hb dX13_overhang_15 rfl (lv_at hl 2 rfl) ?_
    obtain ⟨u_6, he_7, hf⟩ := os_bd hf
    refine mc_callV ⟨hx, hb, hml, hown, hts⟩ (mm_X13_standsOut l D kA N q_this u_3.2 a1 a2 u_6 he_7) (cwV 2 hts gX13_overhang_X13_standsOut rfl rfl rfl (by decide +kernel) ⟨Nat.le_of_ble_eq_true rfl, Nat.le_of_ble_eq_true rfl⟩) (wc := (ce_X13 kA q_this u_3.2)) (ci := 9) (q0 := 0) rfl rfl rfl hl.1 (As := [.int a1, .int a2]) (rest := []) rfl (Nat.le_of_ble_eq_true rfl) dX13_overhang_16 ⟨Nat.le_of_ble_eq_true rfl, Nat.le_of_ble_eq_true rfl⟩ hK hP hD hS hA [0, 1, 2, 3, 4, 5, 6, 7, 8, 9, 10, 11, 12, 13, 14, 15, 16, 17, 18, 19, 20, 21, 22, 23] [] [0, 1, 2, 3, 4, 5, 6, 7, 8, 9, 10, 11, 12, 13, 14, 15, 16, 17, 18, 19, 20, 21, 22, 23] rfl (by decide) rfl (by decide) (by decide) rfl (by decide) (wr := []) (w2 := (ce_X13 kA q_this u_3.2)) (fun H locs hP hD hS => ?_)
    have hP : va_P D vwCl (ce_X13 kA q_this u_3.2) H := hP
    refine lv_goto (tgt := 23) hx hb dX13_overhang_19 (by decide) ?_
    rw [← Option.some.inj hf]
    exact mc_reti hx hb hr hlk hP hK hD hS dX13_overhang_23
def ff_X13_supportLength_c32 (N : Nat) (o_this : os_T) (k32 : (Int32 × Int32 × Int32 × Int32) → Option Int32) (x1 : Int32) (x3 : Int32) (x4 : Int32) (x5 : Int32) : Option Int32 :=
  (if x5 < 0 then some x4 else (if os_in (((16 : Int32) * x5) + x1) 192 then (if x3 ≤ ((os_A o_this 4) (Int32.toNatClampNeg (((16 : Int32) * x5) + x1))) then some x4 else k32 (x1, x3, x4 + 1, x5 + (-1))) else none))
def ff_X13_supportLength_l32 (N : Nat) (o_this : os_T) : Nat → (Int32 × Int32 × Int32 × Int32) → Option Int32 := os_loop (fun k32 s1 => ff_X13_supportLength_c32 N o_this k32 s1.1 s1.2.1 s1.2.2.1 s1.2.2.2)
def ff_X13_supportLength (N : Nat) (o_this : os_T) (a1 : Int32) (a2 : Int32) (a3 : Int32) : Option Int32 :=
  (if os_in (((16 : Int32) * a2) + a1) 192 then ((ff_X13_standsOut N o_this a1 a2).bind fun u_2 => (if (((os_A o_this 4) (Int32.toNatClampNeg (((16 : Int32) * a2) + a1))) - u_2) < a3 then ff_X13_supportLength_l32 N o_this N (a1, a3, (0 : Int32), a2 - (1 : Int32)) else some (0 : Int32))) else none)
set_option maxHeartbeats 4000000 in
set_option maxRecDepth 100000 in
theorem mm_X13_supportLength (l : Launch) (D : va_G) (kA : Nat → ClassId) (N : Nat) (q_this : Nat → Nat) (o_this : os_T) (a1 : Int32) (a2 : Int32) (a3 : Int32) (out : Int32) (hf : ff_X13_supportLength N o_this a1 a2 a3 = some out) : mc_C l D kA yX13_supportLength wsX13_supportLength ({ frames := 2, cells := 0, slots := 0, locals := 43 } : Room) [.ref (q_this 0), .int a1, .int a2, .int a3] (ce_X13 kA q_this o_this) (some (.int out)) (ce_X13 kA q_this o_this) := by
  refine mc_of (cc := cX13_supportLength) (maxL := 6) (ret := (some .int)) (by decide) rfl (Nat.le_of_ble_eq_true rfl) ?_
  intro p e s m below meth c A B hD hP hS ls hl
  obtain ⟨hx, hb, hr, hlk, hml, hown, hts, hK, hA, hnm⟩ := B
  have hown : s.vm.findClass RX13 = some m.cls := hown
  have hl : lv_has ls 6 [(0, .ref (q_this 0)), (1, .int a1), (2, .int a2), (3, .int a3)] := hl
  have hUX13 : ∀ w ∈ u_ws RX13 TX13 48, w.before [.ref (q_this 0), .int a1, .int a2, .int a3].toArray s = true := fun w h => hts w (List.mem_cons_of_mem _ (List.mem_append_right _ h))
  have hL32 : ∀ (n : Nat) (x1 : Int32) (x3 : Int32) (x4 : Int32) (x5 : Int32) (H : Heap) (locs : List Loc) (ls : Array Slot), va_P D vwCl (ce_X13 kA q_this o_this) H → va_D A (ce_X13 kA q_this o_this) → va_S A s.heap H locs → lv_has ls 6 [(0, .ref (q_this 0)), (1, .int x1), (3, .int x3), (4, .int x4), (5, .int x5)] → ff_X13_supportLength_l32 N o_this n (x1, x3, x4, x5) = some out → W p l e ({ frames := 2, cells := 0, slots := 0, locals := 43 } : Room) s m [.ref (q_this 0), .int a1, .int a2, .int a3].toArray below meth c H locs 0 0 (MQ below (mc_Q D kA A (some (.int out)) (ce_X13 kA q_this o_this)) [.ref (q_this 0), .int a1, .int a2, .int a3].toArray s 0 0 A) (F0 m 32 ls []) := by
    intro n
    induction n with
    | zero => intro x1 x3 x4 x5 H locs ls _ _ _ _ hf; cases hf
    | succ n hk32 =>
      intro x1 x3 x4 x5 H locs ls hP hD hS hl hf
      have hf : ff_X13_supportLength_c32 N o_this (ff_X13_supportLength_l32 N o_this n) x1 x3 x4 x5 = some out := hf
      generalize hke : ff_X13_supportLength_l32 N o_this n = k32 at hk32 hf
      unfold ff_X13_supportLength_c32 at hf
      refine lv_iload hx hb dX13_supportLength_32 (lv_at hl 4 rfl) ?_
      refine lv_if_lt (tgt := 62) hx hb dX13_supportLength_34 (by decide) (fun hc_5 => ?_) (fun hc_5 => ?_)
      · rw [if_pos hc_5] at hf
        refine lv_iload hx hb dX13_supportLength_62 (lv_at hl 3 rfl) ?_
        rw [← Option.some.inj hf]
        exact mc_reti hx hb hr hlk hP hK hD hS dX13_supportLength_64
      · rw [if_neg hc_5] at hf
        refine lv_aload_n hx hb dX13_supportLength_37 rfl (lv_at hl 0 rfl) ?_
        refine va_get (D := D) (ci := 9) (v := .ref (q_this 5)) (C := RX13) (T := TX13) (N := 48) hx hb hUX13 (fun _ h9 => h9) hown hK hP 0 rfl rfl 16 (by decide) (hts (Cond.fieldLink RX13 29 "ReliefBuilderModel" "heights" "[I") (List.mem_of_getElem? (i := 1) rfl)) (fun _ h9 => h9) rfl dX13_supportLength_38 ?_
        refine lv_bipush (v := 16) hx hb dX13_supportLength_41 (by decide) ?_
        refine lv_iload hx hb dX13_supportLength_43 (lv_at hl 4 rfl) ?_
        refine lv_imul hx hb dX13_supportLength_45 ?_
        refine lv_iload_n hx hb dX13_supportLength_46 rfl (lv_at hl 1 rfl) ?_
        refine lv_iadd hx hb dX13_supportLength_47 ?_
        obtain ⟨hi_6, hf⟩ := os_if hf
        refine va_iald hx hb hK hP 5 0 rfl rfl hi_6 dX13_supportLength_48 ?_
        refine lv_iload_n hx hb dX13_supportLength_49 rfl (lv_at hl 2 rfl) ?_
        refine lv_icmp_ge (tgt := 62) hx hb dX13_supportLength_50 (by decide) (fun hc_7 => ?_) (fun hc_7 => ?_)
        · rw [if_pos hc_7] at hf
          refine lv_iload hx hb dX13_supportLength_62 (lv_at hl 3 rfl) ?_
          rw [← Option.some.inj hf]
          exact mc_reti hx hb hr hlk hP hK hD hS dX13_supportLength_64
        · rw [if_neg hc_7] at hf
          refine lv_iinc (v := x4 + 1) (lv' := [(4, .int (x4 + 1)), (0, .ref (q_this 0)), (1, .int x1), (3, .int x3), (5, .int x5)]) hx hb dX13_supportLength_53 hl (k := 3) rfl rfl (by decide) rfl (fun ls hl => ?_)
          refine lv_iinc (v := x5 + (-1)) (lv' := [(5, .int (x5 + (-1))), (4, .int (x4 + 1)), (0, .ref (q_this 0)), (1, .int x1), (3, .int x3)]) hx hb dX13_supportLength_56 hl (k := 4) rfl rfl (by decide) rfl (fun ls hl => ?_)
          refine lv_goto (tgt := 32) hx hb dX13_supportLength_59 (by decide) ?_
          exact hk32 x1 x3 (x4 + 1) (x5 + (-1)) _ _ _ hP hD hS (lv_sub hl [2, 3, 4, 1, 0] rfl) hf
  unfold ff_X13_supportLength at hf
  refine lv_iload_n hx hb dX13_supportLength_0 rfl (lv_at hl 3 rfl) ?_
  refine lv_aload_n hx hb dX13_supportLength_1 rfl (lv_at hl 0 rfl) ?_
  refine va_get (D := D) (ci := 9) (v := .ref (q_this 5)) (C := RX13) (T := TX13) (N := 48) hx hb hUX13 (fun _ h9 => h9) hown hK hP 0 rfl rfl 16 (by decide) (hts (Cond.fieldLink RX13 29 "ReliefBuilderModel" "heights" "[I") (List.mem_of_getElem? (i := 1) rfl)) (fun _ h9 => h9) rfl dX13_supportLength_2 ?_
  refine lv_bipush (v := 16) hx hb dX13_supportLength_5 (by decide) ?_
  refine lv_iload_n hx hb dX13_supportLength_7 rfl (lv_at hl 2 rfl) ?_
  refine lv_imul hx hb dX13_supportLength_8 ?_
  refine lv_iload_n hx hb dX13_supportLength_9 rfl (lv_at hl 1 rfl) ?_
  refine lv_iadd hx hb dX13_supportLength_10 ?_
  obtain ⟨hi_1, hf⟩ := os_if hf
  refine va_iald hx hb hK hP 5 0 rfl rfl hi_1 dX13_supportLength_11 ?_
  refine lv_aload_n hx hb dX13_supportLength_12 rfl (lv_at hl 0 rfl) ?_
  refine lv_iload_n hx hb dX13_supportLength_13 rfl (lv_at hl 1 rfl) ?_
  refine lv_iload_n hx hb dX13_supportLength_14 rfl (lv_at hl 2 rfl) ?_
  obtain ⟨u_2, he_3, hf⟩ := os_bd hf
  refine mc_callV ⟨hx, hb, hml, hown, hts⟩ (mm_X13_standsOut l D kA N q_this o_this a1 a2 u_2 he_3) (cwV 2 hts gX13_supportLength_X13_standsOut rfl rfl rfl (by decide +kernel) ⟨Nat.le_of_ble_eq_true rfl, Nat.le_of_ble_eq_true rfl⟩) (wc := (ce_X13 kA q_this o_this)) (ci := 9) (q0 := 0) rfl rfl rfl hl.1 (As := [.int a1, .int a2]) (rest := [.int ((os_A o_this 4) (Int32.toNatClampNeg (((16 : Int32) * a2) + a1))), .int a3]) rfl (Nat.le_of_ble_eq_true rfl) dX13_supportLength_15 ⟨Nat.le_of_ble_eq_true rfl, Nat.le_of_ble_eq_true rfl⟩ hK hP hD hS hA [0, 1, 2, 3, 4, 5, 6, 7, 8, 9, 10, 11, 12, 13, 14, 15, 16, 17, 18, 19, 20, 21, 22, 23] [] [0, 1, 2, 3, 4, 5, 6, 7, 8, 9, 10, 11, 12, 13, 14, 15, 16, 17, 18, 19, 20, 21, 22, 23] rfl (by decide) rfl (by decide) (by decide) rfl (by decide) (wr := []) (w2 := (ce_X13 kA q_this o_this)) (fun H locs hP hD hS => ?_)
  have hP : va_P D vwCl (ce_X13 kA q_this o_this) H := hP
  refine lv_isub hx hb dX13_supportLength_18 ?_
  refine lv_icmp_gt (tgt := 24) hx hb dX13_supportLength_19 (by decide) (fun hc_4 => ?_) (fun hc_4 => ?_)
  · rw [if_pos hc_4] at hf
    refine lv_iconst (v := 0) hx hb dX13_supportLength_24 (by decide) ?_
    refine lv_istore (lv' := [(4, .int (0 : Int32)), (0, .ref (q_this 0)), (1, .int a1), (2, .int a2), (3, .int a3)]) hx hb dX13_supportLength_25 hl (by decide) rfl (fun ls hl => ?_)
    refine lv_iload_n hx hb dX13_supportLength_27 rfl (lv_at hl 3 rfl) ?_
    refine lv_iconst (v := 1) hx hb dX13_supportLength_28 (by decide) ?_
    refine lv_isub hx hb dX13_supportLength_29 ?_
    refine lv_istore (lv' := [(5, .int (a2 - (1 : Int32))), (4, .int (0 : Int32)), (0, .ref (q_this 0)), (1, .int a1), (2, .int a2), (3, .int a3)]) hx hb dX13_supportLength_30 hl (by decide) rfl (fun ls hl => ?_)
    exact hL32 N a1 a3 (0 : Int32) (a2 - (1 : Int32)) _ _ _ hP hD hS (lv_sub hl [2, 3, 5, 1, 0] rfl) hf
  · rw [if_neg hc_4] at hf
    refine lv_iconst (v := 0) hx hb dX13_supportLength_22 (by decide) ?_
    rw [← Option.some.inj hf]
    exact mc_reti hx hb hr hlk hP hK hD hS dX13_supportLength_23
def ff_X13_supportOf_b49 (N : Nat) (o_this : os_T) (x1 : Int32) (x2 : Int32) (x3 : Int32) (t0 : Int32) : Option (Int32 × os_T) :=
  (if t0 ≤ 0 then ((ff_X13_supportLength N (ss_I o_this 0 t0) x1 x2 x3).bind fun u_11 => some (u_11, ss_I o_this 0 t0)) else some ((0 : Int32), ss_I o_this 0 t0))
def ff_X13_supportOf_b44 (N : Nat) (o_this : os_T) (x1 : Int32) (x2 : Int32) (x3 : Int32) (t0 : Int32) : Option (Int32 × os_T) :=
  ((ff_X13_truth N t0).bind fun u_8 => ff_X13_supportOf_b49 N o_this x1 x2 x3 (u_8 * (2 : Int32)))
def ff_X13_supportOf (N : Nat) (o_this : os_T) (a1 : Int32) (a2 : Int32) (a3 : Int32) : Option (Int32 × os_T) :=
  ((ff_X13_isCell N o_this a1 a2).bind fun u_1 => (if u_1 = 0 then ff_X13_supportOf_b49 N o_this a1 a2 a3 (1 : Int32) else (if os_in (((16 : Int32) * a2) + a1) 192 then ((ff_X13_isIn N (Int32.toInt64 a3) (1 : Int64) (Int32.toInt64 ((os_A o_this 4) (Int32.toNatClampNeg (((16 : Int32) * a2) + a1))))).bind fun u_5 => (if u_5 = 0 then ff_X13_supportOf_b44 N o_this a1 a2 a3 (1 : Int32) else ff_X13_supportOf_b44 N o_this a1 a2 a3 (0 : Int32))) else none)))
set_option maxHeartbeats 4000000 in
set_option maxRecDepth 100000 in
theorem mm_X13_supportOf (l : Launch) (D : va_G) (kA : Nat → ClassId) (N : Nat) (q_this : Nat → Nat) (o_this : os_T) (a1 : Int32) (a2 : Int32) (a3 : Int32) (out : (Int32 × os_T)) (hf : ff_X13_supportOf N o_this a1 a2 a3 = some out) : mc_C l D kA yX13_supportOf wsX13_supportOf ({ frames := 3, cells := 0, slots := 0, locals := 68 } : Room) [.ref (q_this 0), .int a1, .int a2, .int a3] (ce_X13 kA q_this o_this) (some (.int out.1)) (ce_X13 kA q_this out.2) := by
  refine mc_of (cc := cX13_supportOf) (maxL := 5) (ret := (some .int)) (by decide) rfl (Nat.le_of_ble_eq_true rfl) ?_
  intro p e s m below meth c A B hD hP hS ls hl
  obtain ⟨hx, hb, hr, hlk, hml, hown, hts, hK, hA, hnm⟩ := B
  have hown : s.vm.findClass RX13 = some m.cls := hown
  have hl : lv_has ls 5 [(0, .ref (q_this 0)), (1, .int a1), (2, .int a2), (3, .int a3)] := hl
  have hUX13 : ∀ w ∈ u_ws RX13 TX13 48, w.before [.ref (q_this 0), .int a1, .int a2, .int a3].toArray s = true := fun w h => hts w (List.mem_cons_of_mem _ (List.mem_append_right _ h))
  have hB49 : ∀ (o_this : os_T) (x1 : Int32) (x2 : Int32) (x3 : Int32) (t0 : Int32) (H : Heap) (locs : List Loc) (ls : Array Slot), va_P D vwCl (ce_X13 kA q_this o_this) H → va_D A (ce_X13 kA q_this o_this) → va_S A s.heap H locs → lv_has ls 5 [(0, .ref (q_this 0)), (1, .int x1), (2, .int x2), (3, .int x3)] → ff_X13_supportOf_b49 N o_this x1 x2 x3 t0 = some out → W p l e ({ frames := 3, cells := 0, slots := 0, locals := 68 } : Room) s m [.ref (q_this 0), .int a1, .int a2, .int a3].toArray below meth c H locs 0 0 (MQ below (mc_Q D kA A (some (.int out.1)) (ce_X13 kA q_this out.2)) [.ref (q_this 0), .int a1, .int a2, .int a3].toArray s 0 0 A) (F0 m 49 ls [.int t0, .ref (q_this 0)]) := by
    intro o_this x1 x2 x3 t0 H locs ls hP hD hS hl hf
    unfold ff_X13_supportOf_b49 at hf
    refine va_put (D := D) (ci := 9) (v := .int t0) (ty := .int) (C := RX13) (T := TX13) (N := 48) hx hb hUX13 (fun _ h9 => h9) tyX13 tyX13_ok nmX13 hown hK hP hD hS 0 rfl rfl 0 (by decide) (hts (Cond.fieldLink RX13 93 "ReliefBuilderModel" "code" "I") (List.mem_of_getElem? (i := 2) rfl)) (fun _ h9 => h9) rfl (tyX13_ok 0 (by decide)) rfl rfl (Nat.le_of_ble_eq_true rfl) dX13_supportOf_49 (fun H locs hP hD hS => ?_)
    have hP : va_P D vwCl (ce_X13 kA q_this (ss_I o_this 0 t0)) H := hP
    have hD : va_D A (ce_X13 kA q_this (ss_I o_this 0 t0)) := hD
    refine lv_aload_n hx hb dX13_supportOf_52 rfl (lv_at hl 0 rfl) ?_
    refine va_get (D := D) (ci := 9) (v := .int t0) (C := RX13) (T := TX13) (N := 48) hx hb hUX13 (fun _ h9 => h9) hown hK hP 0 rfl rfl 0 (by decide) (hts (Cond.fieldLink RX13 93 "ReliefBuilderModel" "code" "I") (List.mem_of_getElem? (i := 2) rfl)) (fun _ h9 => h9) rfl dX13_supportOf_53 ?_
    refine lv_if_le (tgt := 63) hx hb dX13_supportOf_56 (by decide) (fun hc_10 => ?_) (fun hc_10 => ?_)
    · rw [if_pos hc_10] at hf
      refine lv_aload_n hx hb dX13_supportOf_63 rfl (lv_at hl 0 rfl) ?_
      refine lv_iload_n hx hb dX13_supportOf_64 rfl (lv_at hl 1 rfl) ?_
      refine lv_iload_n hx hb dX13_supportOf_65 rfl (lv_at hl 2 rfl) ?_
      refine lv_iload_n hx hb dX13_supportOf_66 rfl (lv_at hl 3 rfl) ?_
      obtain ⟨u_11, he_12, hf⟩ := os_bd hf
      refine mc_callV ⟨hx, hb, hml, hown, hts⟩ (mm_X13_supportLength l D kA N q_this (ss_I o_this 0 t0) x1 x2 x3 u_11 he_12) (cwV 3 hts gX13_supportOf_X13_supportLength rfl rfl rfl (by decide +kernel) ⟨Nat.le_of_ble_eq_true rfl, Nat.le_of_ble_eq_true rfl⟩) (wc := (ce_X13 kA q_this (ss_I o_this 0 t0))) (ci := 9) (q0 := 0) rfl rfl rfl hl.1 (As := [.int x1, .int x2, .int x3]) (rest := []) rfl (Nat.le_of_ble_eq_true rfl) dX13_supportOf_67 ⟨Nat.le_of_ble_eq_true rfl, Nat.le_of_ble_eq_true rfl⟩ hK hP hD hS hA [0, 1, 2, 3, 4, 5, 6, 7, 8, 9, 10, 11, 12, 13, 14, 15, 16, 17, 18, 19, 20, 21, 22, 23] [] [0, 1, 2, 3, 4, 5, 6, 7, 8, 9, 10, 11, 12, 13, 14, 15, 16, 17, 18, 19, 20, 21, 22, 23] rfl (by decide) rfl (by decide) (by decide) rfl (by decide) (wr := []) (w2 := (ce_X13 kA q_this (ss_I o_this 0 t0))) (fun H locs hP hD hS => ?_)
      have hP : va_P D vwCl (ce_X13 kA q_this (ss_I o_this 0 t0)) H := hP
      rw [← Option.some.inj hf]
      exact mc_reti hx hb hr hlk hP hK hD hS dX13_supportOf_70
    · rw [if_neg hc_10] at hf
      refine lv_iconst (v := 0) hx hb dX13_supportOf_59 (by decide) ?_
      refine lv_goto (tgt := 70) hx hb dX13_supportOf_60 (by decide) ?_
      rw [← Option.some.inj hf]
      exact mc_reti hx hb hr hlk hP hK hD hS dX13_supportOf_70
  have hB44 : ∀ (o_this : os_T) (x1 : Int32) (x2 : Int32) (x3 : Int32) (t0 : Int32) (H : Heap) (locs : List Loc) (ls : Array Slot), va_P D vwCl (ce_X13 kA q_this o_this) H → va_D A (ce_X13 kA q_this o_this) → va_S A s.heap H locs → lv_has ls 5 [(0, .ref (q_this 0)), (1, .int x1), (2, .int x2), (3, .int x3)] → ff_X13_supportOf_b44 N o_this x1 x2 x3 t0 = some out → W p l e ({ frames := 3, cells := 0, slots := 0, locals := 68 } : Room) s m [.ref (q_this 0), .int a1, .int a2, .int a3].toArray below meth c H locs 0 0 (MQ below (mc_Q D kA A (some (.int out.1)) (ce_X13 kA q_this out.2)) [.ref (q_this 0), .int a1, .int a2, .int a3].toArray s 0 0 A) (F0 m 44 ls [.int t0, .ref (q_this 0)]) := by
    intro o_this x1 x2 x3 t0 H locs ls hP hD hS hl hf
    unfold ff_X13_supportOf_b44 at hf
    obtain ⟨u_8, he_9, hf⟩ := os_bd hf
    refine mc_callS ⟨hx, hb, hml, hown, hts⟩ (mm_X13_truth l D kA N t0 u_8 he_9) (va_cwS 1 hts gX13_supportOf_X13_truth rfl rfl rfl (by decide +kernel) ⟨Nat.le_of_ble_eq_true rfl, Nat.le_of_ble_eq_true rfl⟩) (wc := []) rfl hl.1 (As := [.int t0]) (rest := [.ref (q_this 0)]) rfl (Nat.le_of_ble_eq_true rfl) dX13_supportOf_44 ⟨Nat.le_of_ble_eq_true rfl, Nat.le_of_ble_eq_true rfl⟩ hK hP hD hS hA [] [0, 1, 2, 3, 4, 5, 6, 7, 8, 9, 10, 11, 12, 13, 14, 15, 16, 17, 18, 19, 20, 21, 22, 23] [0, 1, 2, 3, 4, 5, 6, 7, 8, 9, 10, 11, 12, 13, 14, 15, 16, 17, 18, 19, 20, 21, 22, 23] rfl (by decide) rfl (by decide) (by decide) rfl (by decide) (wr := (ce_X13 kA q_this o_this)) (w2 := (ce_X13 kA q_this o_this)) (fun H locs hP hD hS => ?_)
    have hP : va_P D vwCl (ce_X13 kA q_this o_this) H := hP
    refine lv_iconst (v := 2) hx hb dX13_supportOf_47 (by decide) ?_
    refine lv_imul hx hb dX13_supportOf_48 ?_
    exact hB49 o_this x1 x2 x3 (u_8 * (2 : Int32)) _ _ _ hP hD hS (lv_sub hl [0, 1, 2, 3] rfl) hf
  unfold ff_X13_supportOf at hf
  refine lv_aload_n hx hb dX13_supportOf_0 rfl (lv_at hl 0 rfl) ?_
  refine lv_iload_n hx hb dX13_supportOf_1 rfl (lv_at hl 1 rfl) ?_
  refine lv_iload_n hx hb dX13_supportOf_2 rfl (lv_at hl 2 rfl) ?_
  obtain ⟨u_1, he_2, hf⟩ := os_bd hf
  refine mc_callV ⟨hx, hb, hml, hown, hts⟩ (mm_X13_isCell l D kA N q_this o_this a1 a2 u_1 he_2) (cwV 2 hts gX13_supportOf_X13_isCell rfl rfl rfl (by decide +kernel) ⟨Nat.le_of_ble_eq_true rfl, Nat.le_of_ble_eq_true rfl⟩) (wc := (ce_X13 kA q_this o_this)) (ci := 9) (q0 := 0) rfl rfl rfl hl.1 (As := [.int a1, .int a2]) (rest := []) rfl (Nat.le_of_ble_eq_true rfl) dX13_supportOf_3 ⟨Nat.le_of_ble_eq_true rfl, Nat.le_of_ble_eq_true rfl⟩ hK hP hD hS hA [0, 1, 2, 3, 4, 5, 6, 7, 8, 9, 10, 11, 12, 13, 14, 15, 16, 17, 18, 19, 20, 21, 22, 23] [] [0, 1, 2, 3, 4, 5, 6, 7, 8, 9, 10, 11, 12, 13, 14, 15, 16, 17, 18, 19, 20, 21, 22, 23] rfl (by decide) rfl (by decide) (by decide) rfl (by decide) (wr := []) (w2 := (ce_X13 kA q_this o_this)) (fun H locs hP hD hS => ?_)
  have hP : va_P D vwCl (ce_X13 kA q_this o_this) H := hP
  refine lv_istore (lv' := [(4, .int u_1), (0, .ref (q_this 0)), (1, .int a1), (2, .int a2), (3, .int a3)]) hx hb dX13_supportOf_6 hl (by decide) rfl (fun ls hl => ?_)
  refine lv_aload_n hx hb dX13_supportOf_8 rfl (lv_at hl 1 rfl) ?_
  refine lv_iload hx hb dX13_supportOf_9 (lv_at hl 0 rfl) ?_
  refine lv_if_ne (tgt := 18) hx hb dX13_supportOf_11 (by decide) (fun hc_3 => ?_) (fun hc_3 => ?_)
  · rw [if_neg hc_3] at hf
    refine lv_iload_n hx hb dX13_supportOf_18 rfl (lv_at hl 4 rfl) ?_
    refine lv_i2l hx hb dX13_supportOf_19 rfl ?_
    refine lv_lconst (v := 1) hx hb dX13_supportOf_20 (by decide) ?_
    refine lv_aload_n hx hb dX13_supportOf_21 rfl (lv_at hl 1 rfl) ?_
    refine va_get (D := D) (ci := 9) (v := .ref (q_this 5)) (C := RX13) (T := TX13) (N := 48) hx hb hUX13 (fun _ h9 => h9) hown hK hP 0 rfl rfl 16 (by decide) (hts (Cond.fieldLink RX13 29 "ReliefBuilderModel" "heights" "[I") (List.mem_of_getElem? (i := 1) rfl)) (fun _ h9 => h9) rfl dX13_supportOf_22 ?_
    refine lv_bipush (v := 16) hx hb dX13_supportOf_25 (by decide) ?_
    refine lv_iload_n hx hb dX13_supportOf_27 rfl (lv_at hl 3 rfl) ?_
    refine lv_imul hx hb dX13_supportOf_28 ?_
    refine lv_iload_n hx hb dX13_supportOf_29 rfl (lv_at hl 2 rfl) ?_
    refine lv_iadd hx hb dX13_supportOf_30 ?_
    obtain ⟨hi_4, hf⟩ := os_if hf
    refine va_iald hx hb hK hP 5 0 rfl rfl hi_4 dX13_supportOf_31 ?_
    refine lv_i2l hx hb dX13_supportOf_32 rfl ?_
    obtain ⟨u_5, he_6, hf⟩ := os_bd hf
    refine mc_callS ⟨hx, hb, hml, hown, hts⟩ (mm_X13_isIn l D kA N (Int32.toInt64 a3) (1 : Int64) (Int32.toInt64 ((os_A o_this 4) (Int32.toNatClampNeg (((16 : Int32) * a2) + a1)))) u_5 he_6) (va_cwS 3 hts gX13_supportOf_X13_isIn rfl rfl rfl (by decide +kernel) ⟨Nat.le_of_ble_eq_true rfl, Nat.le_of_ble_eq_true rfl⟩) (wc := []) rfl hl.1 (As := [.long (Int32.toInt64 a3), .long (1 : Int64), .long (Int32.toInt64 ((os_A o_this 4) (Int32.toNatClampNeg (((16 : Int32) * a2) + a1))))]) (rest := [.ref (q_this 0)]) rfl (Nat.le_of_ble_eq_true rfl) dX13_supportOf_33 ⟨Nat.le_of_ble_eq_true rfl, Nat.le_of_ble_eq_true rfl⟩ hK hP hD hS hA [] [0, 1, 2, 3, 4, 5, 6, 7, 8, 9, 10, 11, 12, 13, 14, 15, 16, 17, 18, 19, 20, 21, 22, 23] [0, 1, 2, 3, 4, 5, 6, 7, 8, 9, 10, 11, 12, 13, 14, 15, 16, 17, 18, 19, 20, 21, 22, 23] rfl (by decide) rfl (by decide) (by decide) rfl (by decide) (wr := (ce_X13 kA q_this o_this)) (w2 := (ce_X13 kA q_this o_this)) (fun H locs hP hD hS => ?_)
    have hP : va_P D vwCl (ce_X13 kA q_this o_this) H := hP
    refine lv_if_ne (tgt := 43) hx hb dX13_supportOf_36 (by decide) (fun hc_7 => ?_) (fun hc_7 => ?_)
    · rw [if_neg hc_7] at hf
      refine lv_iconst (v := 0) hx hb dX13_supportOf_43 (by decide) ?_
      exact hB44 o_this a1 a2 a3 (0 : Int32) _ _ _ hP hD hS (lv_sub hl [1, 2, 3, 4] rfl) hf
    · rw [if_pos hc_7] at hf
      refine lv_iconst (v := 1) hx hb dX13_supportOf_39 (by decide) ?_
      refine lv_goto (tgt := 44) hx hb dX13_supportOf_40 (by decide) ?_
      exact hB44 o_this a1 a2 a3 (1 : Int32) _ _ _ hP hD hS (lv_sub hl [1, 2, 3, 4] rfl) hf
  · rw [if_pos hc_3] at hf
    refine lv_iconst (v := 1) hx hb dX13_supportOf_14 (by decide) ?_
    refine lv_goto (tgt := 49) hx hb dX13_supportOf_15 (by decide) ?_
    exact hB49 o_this a1 a2 a3 (1 : Int32) _ _ _ hP hD hS (lv_sub hl [1, 2, 3, 4] rfl) hf
def ff_X13_supportedCells_b46 (N : Nat) (k9 : (os_T × Int32 × Int32) → Option (Int32 × os_T)) (o_this : os_T) (x2 : Int32) (t0 : Int32) (t1 : Int32) : Option (Int32 × os_T) :=
  ((ff_X13_truth N t0).bind fun u_11 => k9 (o_this, t1 + u_11, x2 + 1))
def ff_X13_supportedCells_c9 (N : Nat) (k9 : (os_T × Int32 × Int32) → Option (Int32 × os_T)) (o_this : os_T) (x1 : Int32) (x2 : Int32) : Option (Int32 × os_T) :=
  ((ff_X13_cellMany N o_this).bind fun u_1 => (if u_1 ≤ x2 then some (x1, o_this) else (if os_in (0 : Int32) 7 then (if ¬ ((os_A o_this 1) (Int32.toNatClampNeg (0 : Int32))) = 0 then (if os_in (0 : Int32) 7 then (if ¬ ((os_A o_this 1) (Int32.toNatClampNeg (0 : Int32))) = 0 then ((ff_X13_standsOut N o_this (x2 - x2 / ((os_A o_this 1) (Int32.toNatClampNeg (0 : Int32))) * ((os_A o_this 1) (Int32.toNatClampNeg (0 : Int32)))) (x2 / ((os_A o_this 1) (Int32.toNatClampNeg (0 : Int32))))).bind fun u_8 => (if u_8 ≤ 0 then ff_X13_supportedCells_b46 N k9 o_this x2 (0 : Int32) x1 else ff_X13_supportedCells_b46 N k9 o_this x2 (1 : Int32) x1)) else none) else none) else none) else none)))
def ff_X13_supportedCells_l9 (N : Nat) : Nat → (os_T × Int32 × Int32) → Option (Int32 × os_T) := os_loop (fun k9 s1 => ff_X13_supportedCells_c9 N k9 s1.1 s1.2.1 s1.2.2)
def ff_X13_supportedCells (N : Nat) (o_this : os_T) : Option (Int32 × os_T) :=
  ff_X13_supportedCells_l9 N N (ss_I o_this 0 (0 : Int32), (0 : Int32), (0 : Int32))
set_option maxHeartbeats 4000000 in
set_option maxRecDepth 100000 in
theorem mm_X13_supportedCells (l : Launch) (D : va_G) (kA : Nat → ClassId) (N : Nat) (q_this : Nat → Nat) (o_this : os_T) (out : (Int32 × os_T)) (hf : ff_X13_supportedCells N o_this = some out) : mc_C l D kA yX13_supportedCells wsX13_supportedCells ({ frames := 2, cells := 0, slots := 0, locals := 43 } : Room) [.ref (q_this 0)] (ce_X13 kA q_this o_this) (some (.int out.1)) (ce_X13 kA q_this out.2) := by
  refine mc_of (cc := cX13_supportedCells) (maxL := 3) (ret := (some .int)) (by decide) rfl (Nat.le_of_ble_eq_true rfl) ?_
  intro p e s m below meth c A B hD hP hS ls hl
  obtain ⟨hx, hb, hr, hlk, hml, hown, hts, hK, hA, hnm⟩ := B
  have hown : s.vm.findClass RX13 = some m.cls := hown
  have hl : lv_has ls 3 [(0, .ref (q_this 0))] := hl
  have hUX13 : ∀ w ∈ u_ws RX13 TX13 48, w.before [.ref (q_this 0)].toArray s = true := fun w h => hts w (List.mem_cons_of_mem _ (List.mem_append_right _ h))
  have hB46 : ∀ (k9 : (os_T × Int32 × Int32) → Option (Int32 × os_T)), (∀ (o_this : os_T) (x1 : Int32) (x2 : Int32) (H : Heap) (locs : List Loc) (ls : Array Slot), va_P D vwCl (ce_X13 kA q_this o_this) H → va_D A (ce_X13 kA q_this o_this) → va_S A s.heap H locs → lv_has ls 3 [(0, .ref (q_this 0)), (1, .int x1), (2, .int x2)] → k9 (o_this, x1, x2) = some out → W p l e ({ frames := 2, cells := 0, slots := 0, locals := 43 } : Room) s m [.ref (q_this 0)].toArray below meth c H locs 0 0 (MQ below (mc_Q D kA A (some (.int out.1)) (ce_X13 kA q_this out.2)) [.ref (q_this 0)].toArray s 0 0 A) (F0 m 9 ls [])) → ∀ (o_this : os_T) (x2 : Int32) (t0 : Int32) (t1 : Int32) (H : Heap) (locs : List Loc) (ls : Array Slot), va_P D vwCl (ce_X13 kA q_this o_this) H → va_D A (ce_X13 kA q_this o_this) → va_S A s.heap H locs → lv_has ls 3 [(0, .ref (q_this 0)), (2, .int x2)] → ff_X13_supportedCells_b46 N k9 o_this x2 t0 t1 = some out → W p l e ({ frames := 2, cells := 0, slots := 0, locals := 43 } : Room) s m [.ref (q_this 0)].toArray below meth c H locs 0 0 (MQ below (mc_Q D kA A (some (.int out.1)) (ce_X13 kA q_this out.2)) [.ref (q_this 0)].toArray s 0 0 A) (F0 m 46 ls [.int t0, .int t1]) := by
    intro k9 hk9 o_this x2 t0 t1 H locs ls hP hD hS hl hf
    unfold ff_X13_supportedCells_b46 at hf
    obtain ⟨u_11, he_12, hf⟩ := os_bd hf
    refine mc_callS ⟨hx, hb, hml, hown, hts⟩ (mm_X13_truth l D kA N t0 u_11 he_12) (va_cwS 1 hts gX13_supportedCells_X13_truth rfl rfl rfl (by decide +kernel) ⟨Nat.le_of_ble_eq_true rfl, Nat.le_of_ble_eq_true rfl⟩) (wc := []) rfl hl.1 (As := [.int t0]) (rest := [.int t1]) rfl (Nat.le_of_ble_eq_true rfl) dX13_supportedCells_46 ⟨Nat.le_of_ble_eq_true rfl, Nat.le_of_ble_eq_true rfl⟩ hK hP hD hS hA [] [0, 1, 2, 3, 4, 5, 6, 7, 8, 9, 10, 11, 12, 13, 14, 15, 16, 17, 18, 19, 20, 21, 22, 23] [0, 1, 2, 3, 4, 5, 6, 7, 8, 9, 10, 11, 12, 13, 14, 15, 16, 17, 18, 19, 20, 21, 22, 23] rfl (by decide) rfl (by decide) (by decide) rfl (by decide) (wr := (ce_X13 kA q_this o_this)) (w2 := (ce_X13 kA q_this o_this)) (fun H locs hP hD hS => ?_)
    have hP : va_P D vwCl (ce_X13 kA q_this o_this) H := hP
    refine lv_iadd hx hb dX13_supportedCells_49 ?_
    refine lv_istore_n (lv' := [(1, .int (t1 + u_11)), (0, .ref (q_this 0)), (2, .int x2)]) hx hb dX13_supportedCells_50 rfl hl (by decide) rfl (fun ls hl => ?_)
    refine lv_iinc (v := x2 + 1) (lv' := [(2, .int (x2 + 1)), (1, .int (t1 + u_11)), (0, .ref (q_this 0))]) hx hb dX13_supportedCells_51 hl (k := 2) rfl rfl (by decide) rfl (fun ls hl => ?_)
    refine lv_goto (tgt := 9) hx hb dX13_supportedCells_54 (by decide) ?_
    exact hk9 o_this (t1 + u_11) (x2 + 1) _ _ _ hP hD hS (lv_sub hl [2, 1, 0] rfl) hf
  have hL9 : ∀ (n : Nat) (o_this : os_T) (x1 : Int32) (x2 : Int32) (H : Heap) (locs : List Loc) (ls : Array Slot), va_P D vwCl (ce_X13 kA q_this o_this) H → va_D A (ce_X13 kA q_this o_this) → va_S A s.heap H locs → lv_has ls 3 [(0, .ref (q_this 0)), (1, .int x1), (2, .int x2)] → ff_X13_supportedCells_l9 N n (o_this, x1, x2) = some out → W p l e ({ frames := 2, cells := 0, slots := 0, locals := 43 } : Room) s m [.ref (q_this 0)].toArray below meth c H locs 0 0 (MQ below (mc_Q D kA A (some (.int out.1)) (ce_X13 kA q_this out.2)) [.ref (q_this 0)].toArray s 0 0 A) (F0 m 9 ls []) := by
    intro n
    induction n with
    | zero => intro o_this x1 x2 H locs ls _ _ _ _ hf; cases hf
    | succ n hk9 =>
      intro o_this x1 x2 H locs ls hP hD hS hl hf
      have hf : ff_X13_supportedCells_c9 N (ff_X13_supportedCells_l9 N n) o_this x1 x2 = some out := hf
      generalize hke : ff_X13_supportedCells_l9 N n = k9 at hk9 hf
      unfold ff_X13_supportedCells_c9 at hf
      refine lv_iload_n hx hb dX13_supportedCells_9 rfl (lv_at hl 2 rfl) ?_
      refine lv_aload_n hx hb dX13_supportedCells_10 rfl (lv_at hl 0 rfl) ?_
      obtain ⟨u_1, he_2, hf⟩ := os_bd hf
      refine mc_callV ⟨hx, hb, hml, hown, hts⟩ (mm_X13_cellMany l D kA N q_this o_this u_1 he_2) (cwV 0 hts gX13_supportedCells_X13_cellMany rfl rfl rfl (by decide +kernel) ⟨Nat.le_of_ble_eq_true rfl, Nat.le_of_ble_eq_true rfl⟩) (wc := (ce_X13 kA q_this o_this)) (ci := 9) (q0 := 0) rfl rfl rfl hl.1 (As := []) (rest := [.int x2]) rfl (Nat.le_of_ble_eq_true rfl) dX13_supportedCells_11 ⟨Nat.le_of_ble_eq_true rfl, Nat.le_of_ble_eq_true rfl⟩ hK hP hD hS hA [0, 1, 2, 3, 4, 5, 6, 7, 8, 9, 10, 11, 12, 13, 14, 15, 16, 17, 18, 19, 20, 21, 22, 23] [] [0, 1, 2, 3, 4, 5, 6, 7, 8, 9, 10, 11, 12, 13, 14, 15, 16, 17, 18, 19, 20, 21, 22, 23] rfl (by decide) rfl (by decide) (by decide) rfl (by decide) (wr := []) (w2 := (ce_X13 kA q_this o_this)) (fun H locs hP hD hS => ?_)
      have hP : va_P D vwCl (ce_X13 kA q_this o_this) H := hP
      refine lv_icmp_ge (tgt := 57) hx hb dX13_supportedCells_14 (by decide) (fun hc_3 => ?_) (fun hc_3 => ?_)
      · rw [if_pos hc_3] at hf
        refine lv_iload_n hx hb dX13_supportedCells_57 rfl (lv_at hl 1 rfl) ?_
        rw [← Option.some.inj hf]
        exact mc_reti hx hb hr hlk hP hK hD hS dX13_supportedCells_58
      · rw [if_neg hc_3] at hf
        refine lv_iload_n hx hb dX13_supportedCells_17 rfl (lv_at hl 1 rfl) ?_
        refine lv_aload_n hx hb dX13_supportedCells_18 rfl (lv_at hl 0 rfl) ?_
        refine lv_iload_n hx hb dX13_supportedCells_19 rfl (lv_at hl 2 rfl) ?_
        refine lv_aload_n hx hb dX13_supportedCells_20 rfl (lv_at hl 0 rfl) ?_
        refine va_get (D := D) (ci := 9) (v := .ref (q_this 2)) (C := RX13) (T := TX13) (N := 48) hx hb hUX13 (fun _ h9 => h9) hown hK hP 0 rfl rfl 13 (by decide) (hts (Cond.fieldLink RX13 20 "ReliefBuilderModel" "now" "[I") (List.mem_of_getElem? (i := 2) rfl)) (fun _ h9 => h9) rfl dX13_supportedCells_21 ?_
        refine lv_iconst (v := 0) hx hb dX13_supportedCells_24 (by decide) ?_
        obtain ⟨hi_4, hf⟩ := os_if hf
        refine va_iald hx hb hK hP 2 0 rfl rfl hi_4 dX13_supportedCells_25 ?_
        obtain ⟨hz_5, hf⟩ := os_if hf
        refine lv_irem hx hb dX13_supportedCells_26 hz_5 ?_
        refine lv_iload_n hx hb dX13_supportedCells_27 rfl (lv_at hl 2 rfl) ?_
        refine lv_aload_n hx hb dX13_supportedCells_28 rfl (lv_at hl 0 rfl) ?_
        refine va_get (D := D) (ci := 9) (v := .ref (q_this 2)) (C := RX13) (T := TX13) (N := 48) hx hb hUX13 (fun _ h9 => h9) hown hK hP 0 rfl rfl 13 (by decide) (hts (Cond.fieldLink RX13 20 "ReliefBuilderModel" "now" "[I") (List.mem_of_getElem? (i := 2) rfl)) (fun _ h9 => h9) rfl dX13_supportedCells_29 ?_
        refine lv_iconst (v := 0) hx hb dX13_supportedCells_32 (by decide) ?_
        obtain ⟨hi_6, hf⟩ := os_if hf
        refine va_iald hx hb hK hP 2 0 rfl rfl hi_6 dX13_supportedCells_33 ?_
        obtain ⟨hz_7, hf⟩ := os_if hf
        refine lv_idiv hx hb dX13_supportedCells_34 hz_7 ?_
        obtain ⟨u_8, he_9, hf⟩ := os_bd hf
        refine mc_callV ⟨hx, hb, hml, hown, hts⟩ (mm_X13_standsOut l D kA N q_this o_this (x2 - x2 / ((os_A o_this 1) (Int32.toNatClampNeg (0 : Int32))) * ((os_A o_this 1) (Int32.toNatClampNeg (0 : Int32)))) (x2 / ((os_A o_this 1) (Int32.toNatClampNeg (0 : Int32)))) u_8 he_9) (cwV 2 hts gX13_supportedCells_X13_standsOut rfl rfl rfl (by decide +kernel) ⟨Nat.le_of_ble_eq_true rfl, Nat.le_of_ble_eq_true rfl⟩) (wc := (ce_X13 kA q_this o_this)) (ci := 9) (q0 := 0) rfl rfl rfl hl.1 (As := [.int (x2 - x2 / ((os_A o_this 1) (Int32.toNatClampNeg (0 : Int32))) * ((os_A o_this 1) (Int32.toNatClampNeg (0 : Int32)))), .int (x2 / ((os_A o_this 1) (Int32.toNatClampNeg (0 : Int32))))]) (rest := [.int x1]) rfl (Nat.le_of_ble_eq_true rfl) dX13_supportedCells_35 ⟨Nat.le_of_ble_eq_true rfl, Nat.le_of_ble_eq_true rfl⟩ hK hP hD hS hA [0, 1, 2, 3, 4, 5, 6, 7, 8, 9, 10, 11, 12, 13, 14, 15, 16, 17, 18, 19, 20, 21, 22, 23] [] [0, 1, 2, 3, 4, 5, 6, 7, 8, 9, 10, 11, 12, 13, 14, 15, 16, 17, 18, 19, 20, 21, 22, 23] rfl (by decide) rfl (by decide) (by decide) rfl (by decide) (wr := []) (w2 := (ce_X13 kA q_this o_this)) (fun H locs hP hD hS => ?_)
        have hP : va_P D vwCl (ce_X13 kA q_this o_this) H := hP
        refine lv_if_le (tgt := 45) hx hb dX13_supportedCells_38 (by decide) (fun hc_10 => ?_) (fun hc_10 => ?_)
        · rw [if_pos hc_10] at hf
          refine lv_iconst (v := 0) hx hb dX13_supportedCells_45 (by decide) ?_
          exact hB46 k9 hk9 o_this x2 (0 : Int32) x1 _ _ _ hP hD hS (lv_sub hl [0, 2] rfl) hf
        · rw [if_neg hc_10] at hf
          refine lv_iconst (v := 1) hx hb dX13_supportedCells_41 (by decide) ?_
          refine lv_goto (tgt := 46) hx hb dX13_supportedCells_42 (by decide) ?_
          exact hB46 k9 hk9 o_this x2 (1 : Int32) x1 _ _ _ hP hD hS (lv_sub hl [0, 2] rfl) hf
  unfold ff_X13_supportedCells at hf
  refine lv_aload_n hx hb dX13_supportedCells_0 rfl (lv_at hl 0 rfl) ?_
  refine lv_iconst (v := 0) hx hb dX13_supportedCells_1 (by decide) ?_
  refine va_put (D := D) (ci := 9) (v := .int (0 : Int32)) (ty := .int) (C := RX13) (T := TX13) (N := 48) hx hb hUX13 (fun _ h9 => h9) tyX13 tyX13_ok nmX13 hown hK hP hD hS 0 rfl rfl 0 (by decide) (hts (Cond.fieldLink RX13 93 "ReliefBuilderModel" "code" "I") (List.mem_of_getElem? (i := 1) rfl)) (fun _ h9 => h9) rfl (tyX13_ok 0 (by decide)) rfl rfl (Nat.le_of_ble_eq_true rfl) dX13_supportedCells_2 (fun H locs hP hD hS => ?_)
  have hP : va_P D vwCl (ce_X13 kA q_this (ss_I o_this 0 (0 : Int32))) H := hP
  have hD : va_D A (ce_X13 kA q_this (ss_I o_this 0 (0 : Int32))) := hD
  refine lv_iconst (v := 0) hx hb dX13_supportedCells_5 (by decide) ?_
  refine lv_istore_n (lv' := [(1, .int (0 : Int32)), (0, .ref (q_this 0))]) hx hb dX13_supportedCells_6 rfl hl (by decide) rfl (fun ls hl => ?_)
  refine lv_iconst (v := 0) hx hb dX13_supportedCells_7 (by decide) ?_
  refine lv_istore_n (lv' := [(2, .int (0 : Int32)), (1, .int (0 : Int32)), (0, .ref (q_this 0))]) hx hb dX13_supportedCells_8 rfl hl (by decide) rfl (fun ls hl => ?_)
  exact hL9 N (ss_I o_this 0 (0 : Int32)) (0 : Int32) (0 : Int32) _ _ _ hP hD hS (lv_sub hl [2, 1, 0] rfl) hf
def ff_X13_supportVolume_c34 (N : Nat) (k9 : (os_T × Int32 × Int32) → Option (Int32 × os_T)) (k21 : (os_T × Int32 × Int32 × Int32) → Option (Int32 × os_T)) (k34 : (os_T × Int32 × Int32 × Int32 × Int32) → Option (Int32 × os_T)) (o_this : os_T) (x1 : Int32) (x2 : Int32) (x3 : Int32) (x4 : Int32) : Option (Int32 × os_T) :=
  (if os_in (((16 : Int32) * x2) + x3) 192 then (if ((os_A o_this 4) (Int32.toNatClampNeg (((16 : Int32) * x2) + x3))) < x4 then k21 (o_this, x1, x2, x3 + 1) else ((ff_X13_supportLength N o_this x3 x2 x4).bind fun u_7 => k34 (o_this, x1 + u_7, x2, x3, x4 + 1))) else none)
def ff_X13_supportVolume_l34 (N : Nat) (k9 : (os_T × Int32 × Int32) → Option (Int32 × os_T)) (k21 : (os_T × Int32 × Int32 × Int32) → Option (Int32 × os_T)) : Nat → (os_T × Int32 × Int32 × Int32 × Int32) → Option (Int32 × os_T) := os_loop (fun k34 s1 => ff_X13_supportVolume_c34 N k9 k21 k34 s1.1 s1.2.1 s1.2.2.1 s1.2.2.2.1 s1.2.2.2.2)
def ff_X13_supportVolume_c21 (N : Nat) (k9 : (os_T × Int32 × Int32) → Option (Int32 × os_T)) (k21 : (os_T × Int32 × Int32 × Int32) → Option (Int32 × os_T)) (o_this : os_T) (x1 : Int32) (x2 : Int32) (x3 : Int32) : Option (Int32 × os_T) :=
  (if os_in (0 : Int32) 7 then (if ((os_A o_this 1) (Int32.toNatClampNeg (0 : Int32))) ≤ x3 then k9 (o_this, x1, x2 + 1) else ff_X13_supportVolume_l34 N k9 k21 N (o_this, x1, x2, x3, (1 : Int32))) else none)
def ff_X13_supportVolume_l21 (N : Nat) (k9 : (os_T × Int32 × Int32) → Option (Int32 × os_T)) : Nat → (os_T × Int32 × Int32 × Int32) → Option (Int32 × os_T) := os_loop (fun k21 s1 => ff_X13_supportVolume_c21 N k9 k21 s1.1 s1.2.1 s1.2.2.1 s1.2.2.2)
def ff_X13_supportVolume_c9 (N : Nat) (k9 : (os_T × Int32 × Int32) → Option (Int32 × os_T)) (o_this : os_T) (x1 : Int32) (x2 : Int32) : Option (Int32 × os_T) :=
  (if os_in (1 : Int32) 7 then (if ((os_A o_this 1) (Int32.toNatClampNeg (1 : Int32))) ≤ x2 then some (x1, o_this) else ff_X13_supportVolume_l21 N k9 N (o_this, x1, x2, (0 : Int32))) else none)
def ff_X13_supportVolume_l9 (N : Nat) : Nat → (os_T × Int32 × Int32) → Option (Int32 × os_T) := os_loop (fun k9 s1 => ff_X13_supportVolume_c9 N k9 s1.1 s1.2.1 s1.2.2)
def ff_X13_supportVolume (N : Nat) (o_this : os_T) : Option (Int32 × os_T) :=
  ff_X13_supportVolume_l9 N N (ss_I o_this 0 (0 : Int32), (0 : Int32), (1 : Int32))
set_option maxHeartbeats 4000000 in
set_option maxRecDepth 100000 in
theorem mm_X13_supportVolume (l : Launch) (D : va_G) (kA : Nat → ClassId) (N : Nat) (q_this : Nat → Nat) (o_this : os_T) (out : (Int32 × os_T)) (hf : ff_X13_supportVolume N o_this = some out) : mc_C l D kA yX13_supportVolume wsX13_supportVolume ({ frames := 3, cells := 0, slots := 0, locals := 68 } : Room) [.ref (q_this 0)] (ce_X13 kA q_this o_this) (some (.int out.1)) (ce_X13 kA q_this out.2) := by
  refine mc_of (cc := cX13_supportVolume) (maxL := 5) (ret := (some .int)) (by decide) rfl (Nat.le_of_ble_eq_true rfl) ?_
  intro p e s m below meth c A B hD hP hS ls hl
  obtain ⟨hx, hb, hr, hlk, hml, hown, hts, hK, hA, hnm⟩ := B
  have hown : s.vm.findClass RX13 = some m.cls := hown
  have hl : lv_has ls 5 [(0, .ref (q_this 0))] := hl
  have hUX13 : ∀ w ∈ u_ws RX13 TX13 48, w.before [.ref (q_this 0)].toArray s = true := fun w h => hts w (List.mem_cons_of_mem _ (List.mem_append_right _ h))
  have hL34 : ∀ (k9 : (os_T × Int32 × Int32) → Option (Int32 × os_T)), (∀ (o_this : os_T) (x1 : Int32) (x2 : Int32) (H : Heap) (locs : List Loc) (ls : Array Slot), va_P D vwCl (ce_X13 kA q_this o_this) H → va_D A (ce_X13 kA q_this o_this) → va_S A s.heap H locs → lv_has ls 5 [(0, .ref (q_this 0)), (1, .int x1), (2, .int x2)] → k9 (o_this, x1, x2) = some out → W p l e ({ frames := 3, cells := 0, slots := 0, locals := 68 } : Room) s m [.ref (q_this 0)].toArray below meth c H locs 0 0 (MQ below (mc_Q D kA A (some (.int out.1)) (ce_X13 kA q_this out.2)) [.ref (q_this 0)].toArray s 0 0 A) (F0 m 9 ls [])) → ∀ (k21 : (os_T × Int32 × Int32 × Int32) → Option (Int32 × os_T)), (∀ (o_this : os_T) (x1 : Int32) (x2 : Int32) (x3 : Int32) (H : Heap) (locs : List Loc) (ls : Array Slot), va_P D vwCl (ce_X13 kA q_this o_this) H → va_D A (ce_X13 kA q_this o_this) → va_S A s.heap H locs → lv_has ls 5 [(0, .ref (q_this 0)), (1, .int x1), (2, .int x2), (3, .int x3)] → k21 (o_this, x1, x2, x3) = some out → W p l e ({ frames := 3, cells := 0, slots := 0, locals := 68 } : Room) s m [.ref (q_this 0)].toArray below meth c H locs 0 0 (MQ below (mc_Q D kA A (some (.int out.1)) (ce_X13 kA q_this out.2)) [.ref (q_this 0)].toArray s 0 0 A) (F0 m 21 ls [])) → ∀ (n : Nat) (o_this : os_T) (x1 : Int32) (x2 : Int32) (x3 : Int32) (x4 : Int32) (H : Heap) (locs : List Loc) (ls : Array Slot), va_P D vwCl (ce_X13 kA q_this o_this) H → va_D A (ce_X13 kA q_this o_this) → va_S A s.heap H locs → lv_has ls 5 [(0, .ref (q_this 0)), (1, .int x1), (2, .int x2), (3, .int x3), (4, .int x4)] → ff_X13_supportVolume_l34 N k9 k21 n (o_this, x1, x2, x3, x4) = some out → W p l e ({ frames := 3, cells := 0, slots := 0, locals := 68 } : Room) s m [.ref (q_this 0)].toArray below meth c H locs 0 0 (MQ below (mc_Q D kA A (some (.int out.1)) (ce_X13 kA q_this out.2)) [.ref (q_this 0)].toArray s 0 0 A) (F0 m 34 ls []) := by
    intro k9 hk9 k21 hk21 n
    induction n with
    | zero => intro o_this x1 x2 x3 x4 H locs ls _ _ _ _ hf; cases hf
    | succ n hk34 =>
      intro o_this x1 x2 x3 x4 H locs ls hP hD hS hl hf
      have hf : ff_X13_supportVolume_c34 N k9 k21 (ff_X13_supportVolume_l34 N k9 k21 n) o_this x1 x2 x3 x4 = some out := hf
      generalize hke : ff_X13_supportVolume_l34 N k9 k21 n = k34 at hk34 hf
      unfold ff_X13_supportVolume_c34 at hf
      refine lv_iload hx hb dX13_supportVolume_34 (lv_at hl 4 rfl) ?_
      refine lv_aload_n hx hb dX13_supportVolume_36 rfl (lv_at hl 0 rfl) ?_
      refine va_get (D := D) (ci := 9) (v := .ref (q_this 5)) (C := RX13) (T := TX13) (N := 48) hx hb hUX13 (fun _ h9 => h9) hown hK hP 0 rfl rfl 16 (by decide) (hts (Cond.fieldLink RX13 29 "ReliefBuilderModel" "heights" "[I") (List.mem_of_getElem? (i := 3) rfl)) (fun _ h9 => h9) rfl dX13_supportVolume_37 ?_
      refine lv_bipush (v := 16) hx hb dX13_supportVolume_40 (by decide) ?_
      refine lv_iload_n hx hb dX13_supportVolume_42 rfl (lv_at hl 2 rfl) ?_
      refine lv_imul hx hb dX13_supportVolume_43 ?_
      refine lv_iload_n hx hb dX13_supportVolume_44 rfl (lv_at hl 3 rfl) ?_
      refine lv_iadd hx hb dX13_supportVolume_45 ?_
      obtain ⟨hi_5, hf⟩ := os_if hf
      refine va_iald hx hb hK hP 5 0 rfl rfl hi_5 dX13_supportVolume_46 ?_
      refine lv_icmp_gt (tgt := 67) hx hb dX13_supportVolume_47 (by decide) (fun hc_6 => ?_) (fun hc_6 => ?_)
      · rw [if_pos hc_6] at hf
        refine lv_iinc (v := x3 + 1) (lv' := [(3, .int (x3 + 1)), (0, .ref (q_this 0)), (1, .int x1), (2, .int x2), (4, .int x4)]) hx hb dX13_supportVolume_67 hl (k := 3) rfl rfl (by decide) rfl (fun ls hl => ?_)
        refine lv_goto (tgt := 21) hx hb dX13_supportVolume_70 (by decide) ?_
        exact hk21 o_this x1 x2 (x3 + 1) _ _ _ hP hD hS (lv_sub hl [1, 2, 3, 0] rfl) hf
      · rw [if_neg hc_6] at hf
        refine lv_iload_n hx hb dX13_supportVolume_50 rfl (lv_at hl 1 rfl) ?_
        refine lv_aload_n hx hb dX13_supportVolume_51 rfl (lv_at hl 0 rfl) ?_
        refine lv_iload_n hx hb dX13_supportVolume_52 rfl (lv_at hl 3 rfl) ?_
        refine lv_iload_n hx hb dX13_supportVolume_53 rfl (lv_at hl 2 rfl) ?_
        refine lv_iload hx hb dX13_supportVolume_54 (lv_at hl 4 rfl) ?_
        obtain ⟨u_7, he_8, hf⟩ := os_bd hf
        refine mc_callV ⟨hx, hb, hml, hown, hts⟩ (mm_X13_supportLength l D kA N q_this o_this x3 x2 x4 u_7 he_8) (cwV 3 hts gX13_supportVolume_X13_supportLength rfl rfl rfl (by decide +kernel) ⟨Nat.le_of_ble_eq_true rfl, Nat.le_of_ble_eq_true rfl⟩) (wc := (ce_X13 kA q_this o_this)) (ci := 9) (q0 := 0) rfl rfl rfl hl.1 (As := [.int x3, .int x2, .int x4]) (rest := [.int x1]) rfl (Nat.le_of_ble_eq_true rfl) dX13_supportVolume_56 ⟨Nat.le_of_ble_eq_true rfl, Nat.le_of_ble_eq_true rfl⟩ hK hP hD hS hA [0, 1, 2, 3, 4, 5, 6, 7, 8, 9, 10, 11, 12, 13, 14, 15, 16, 17, 18, 19, 20, 21, 22, 23] [] [0, 1, 2, 3, 4, 5, 6, 7, 8, 9, 10, 11, 12, 13, 14, 15, 16, 17, 18, 19, 20, 21, 22, 23] rfl (by decide) rfl (by decide) (by decide) rfl (by decide) (wr := []) (w2 := (ce_X13 kA q_this o_this)) (fun H locs hP hD hS => ?_)
        have hP : va_P D vwCl (ce_X13 kA q_this o_this) H := hP
        refine lv_iadd hx hb dX13_supportVolume_59 ?_
        refine lv_istore_n (lv' := [(1, .int (x1 + u_7)), (0, .ref (q_this 0)), (2, .int x2), (3, .int x3), (4, .int x4)]) hx hb dX13_supportVolume_60 rfl hl (by decide) rfl (fun ls hl => ?_)
        refine lv_iinc (v := x4 + 1) (lv' := [(4, .int (x4 + 1)), (1, .int (x1 + u_7)), (0, .ref (q_this 0)), (2, .int x2), (3, .int x3)]) hx hb dX13_supportVolume_61 hl (k := 4) rfl rfl (by decide) rfl (fun ls hl => ?_)
        refine lv_goto (tgt := 34) hx hb dX13_supportVolume_64 (by decide) ?_
        exact hk34 o_this (x1 + u_7) x2 x3 (x4 + 1) _ _ _ hP hD hS (lv_sub hl [2, 1, 3, 4, 0] rfl) hf
  have hL21 : ∀ (k9 : (os_T × Int32 × Int32) → Option (Int32 × os_T)), (∀ (o_this : os_T) (x1 : Int32) (x2 : Int32) (H : Heap) (locs : List Loc) (ls : Array Slot), va_P D vwCl (ce_X13 kA q_this o_this) H → va_D A (ce_X13 kA q_this o_this) → va_S A s.heap H locs → lv_has ls 5 [(0, .ref (q_this 0)), (1, .int x1), (2, .int x2)] → k9 (o_this, x1, x2) = some out → W p l e ({ frames := 3, cells := 0, slots := 0, locals := 68 } : Room) s m [.ref (q_this 0)].toArray below meth c H locs 0 0 (MQ below (mc_Q D kA A (some (.int out.1)) (ce_X13 kA q_this out.2)) [.ref (q_this 0)].toArray s 0 0 A) (F0 m 9 ls [])) → ∀ (n : Nat) (o_this : os_T) (x1 : Int32) (x2 : Int32) (x3 : Int32) (H : Heap) (locs : List Loc) (ls : Array Slot), va_P D vwCl (ce_X13 kA q_this o_this) H → va_D A (ce_X13 kA q_this o_this) → va_S A s.heap H locs → lv_has ls 5 [(0, .ref (q_this 0)), (1, .int x1), (2, .int x2), (3, .int x3)] → ff_X13_supportVolume_l21 N k9 n (o_this, x1, x2, x3) = some out → W p l e ({ frames := 3, cells := 0, slots := 0, locals := 68 } : Room) s m [.ref (q_this 0)].toArray below meth c H locs 0 0 (MQ below (mc_Q D kA A (some (.int out.1)) (ce_X13 kA q_this out.2)) [.ref (q_this 0)].toArray s 0 0 A) (F0 m 21 ls []) := by
    intro k9 hk9 n
    induction n with
    | zero => intro o_this x1 x2 x3 H locs ls _ _ _ _ hf; cases hf
    | succ n hk21 =>
      intro o_this x1 x2 x3 H locs ls hP hD hS hl hf
      have hf : ff_X13_supportVolume_c21 N k9 (ff_X13_supportVolume_l21 N k9 n) o_this x1 x2 x3 = some out := hf
      generalize hke : ff_X13_supportVolume_l21 N k9 n = k21 at hk21 hf
      unfold ff_X13_supportVolume_c21 at hf
      refine lv_iload_n hx hb dX13_supportVolume_21 rfl (lv_at hl 3 rfl) ?_
      refine lv_aload_n hx hb dX13_supportVolume_22 rfl (lv_at hl 0 rfl) ?_
      refine va_get (D := D) (ci := 9) (v := .ref (q_this 2)) (C := RX13) (T := TX13) (N := 48) hx hb hUX13 (fun _ h9 => h9) hown hK hP 0 rfl rfl 13 (by decide) (hts (Cond.fieldLink RX13 20 "ReliefBuilderModel" "now" "[I") (List.mem_of_getElem? (i := 2) rfl)) (fun _ h9 => h9) rfl dX13_supportVolume_23 ?_
      refine lv_iconst (v := 0) hx hb dX13_supportVolume_26 (by decide) ?_
      obtain ⟨hi_3, hf⟩ := os_if hf
      refine va_iald hx hb hK hP 2 0 rfl rfl hi_3 dX13_supportVolume_27 ?_
      refine lv_icmp_ge (tgt := 73) hx hb dX13_supportVolume_28 (by decide) (fun hc_4 => ?_) (fun hc_4 => ?_)
      · rw [if_pos hc_4] at hf
        refine lv_iinc (v := x2 + 1) (lv' := [(2, .int (x2 + 1)), (0, .ref (q_this 0)), (1, .int x1), (3, .int x3)]) hx hb dX13_supportVolume_73 hl (k := 2) rfl rfl (by decide) rfl (fun ls hl => ?_)
        refine lv_goto (tgt := 9) hx hb dX13_supportVolume_76 (by decide) ?_
        exact hk9 o_this x1 (x2 + 1) _ _ _ hP hD hS (lv_sub hl [1, 2, 0] rfl) hf
      · rw [if_neg hc_4] at hf
        refine lv_iconst (v := 1) hx hb dX13_supportVolume_31 (by decide) ?_
        refine lv_istore (lv' := [(4, .int (1 : Int32)), (0, .ref (q_this 0)), (1, .int x1), (2, .int x2), (3, .int x3)]) hx hb dX13_supportVolume_32 hl (by decide) rfl (fun ls hl => ?_)
        exact hL34 k9 hk9 k21 hk21 N o_this x1 x2 x3 (1 : Int32) _ _ _ hP hD hS (lv_sub hl [1, 2, 3, 4, 0] rfl) hf
  have hL9 : ∀ (n : Nat) (o_this : os_T) (x1 : Int32) (x2 : Int32) (H : Heap) (locs : List Loc) (ls : Array Slot), va_P D vwCl (ce_X13 kA q_this o_this) H → va_D A (ce_X13 kA q_this o_this) → va_S A s.heap H locs → lv_has ls 5 [(0, .ref (q_this 0)), (1, .int x1), (2, .int x2)] → ff_X13_supportVolume_l9 N n (o_this, x1, x2) = some out → W p l e ({ frames := 3, cells := 0, slots := 0, locals := 68 } : Room) s m [.ref (q_this 0)].toArray below meth c H locs 0 0 (MQ below (mc_Q D kA A (some (.int out.1)) (ce_X13 kA q_this out.2)) [.ref (q_this 0)].toArray s 0 0 A) (F0 m 9 ls []) := by
    intro n
    induction n with
    | zero => intro o_this x1 x2 H locs ls _ _ _ _ hf; cases hf
    | succ n hk9 =>
      intro o_this x1 x2 H locs ls hP hD hS hl hf
      have hf : ff_X13_supportVolume_c9 N (ff_X13_supportVolume_l9 N n) o_this x1 x2 = some out := hf
      generalize hke : ff_X13_supportVolume_l9 N n = k9 at hk9 hf
      unfold ff_X13_supportVolume_c9 at hf
      refine lv_iload_n hx hb dX13_supportVolume_9 rfl (lv_at hl 2 rfl) ?_
      refine lv_aload_n hx hb dX13_supportVolume_10 rfl (lv_at hl 0 rfl) ?_
      refine va_get (D := D) (ci := 9) (v := .ref (q_this 2)) (C := RX13) (T := TX13) (N := 48) hx hb hUX13 (fun _ h9 => h9) hown hK hP 0 rfl rfl 13 (by decide) (hts (Cond.fieldLink RX13 20 "ReliefBuilderModel" "now" "[I") (List.mem_of_getElem? (i := 2) rfl)) (fun _ h9 => h9) rfl dX13_supportVolume_11 ?_
      refine lv_iconst (v := 1) hx hb dX13_supportVolume_14 (by decide) ?_
      obtain ⟨hi_1, hf⟩ := os_if hf
      refine va_iald hx hb hK hP 2 0 rfl rfl hi_1 dX13_supportVolume_15 ?_
      refine lv_icmp_ge (tgt := 79) hx hb dX13_supportVolume_16 (by decide) (fun hc_2 => ?_) (fun hc_2 => ?_)
      · rw [if_pos hc_2] at hf
        refine lv_iload_n hx hb dX13_supportVolume_79 rfl (lv_at hl 1 rfl) ?_
        rw [← Option.some.inj hf]
        exact mc_reti hx hb hr hlk hP hK hD hS dX13_supportVolume_80
      · rw [if_neg hc_2] at hf
        refine lv_iconst (v := 0) hx hb dX13_supportVolume_19 (by decide) ?_
        refine lv_istore_n (lv' := [(3, .int (0 : Int32)), (0, .ref (q_this 0)), (1, .int x1), (2, .int x2)]) hx hb dX13_supportVolume_20 rfl hl (by decide) rfl (fun ls hl => ?_)
        exact hL21 k9 hk9 N o_this x1 x2 (0 : Int32) _ _ _ hP hD hS (lv_sub hl [1, 2, 3, 0] rfl) hf
  unfold ff_X13_supportVolume at hf
  refine lv_aload_n hx hb dX13_supportVolume_0 rfl (lv_at hl 0 rfl) ?_
  refine lv_iconst (v := 0) hx hb dX13_supportVolume_1 (by decide) ?_
  refine va_put (D := D) (ci := 9) (v := .int (0 : Int32)) (ty := .int) (C := RX13) (T := TX13) (N := 48) hx hb hUX13 (fun _ h9 => h9) tyX13 tyX13_ok nmX13 hown hK hP hD hS 0 rfl rfl 0 (by decide) (hts (Cond.fieldLink RX13 93 "ReliefBuilderModel" "code" "I") (List.mem_of_getElem? (i := 1) rfl)) (fun _ h9 => h9) rfl (tyX13_ok 0 (by decide)) rfl rfl (Nat.le_of_ble_eq_true rfl) dX13_supportVolume_2 (fun H locs hP hD hS => ?_)
  have hP : va_P D vwCl (ce_X13 kA q_this (ss_I o_this 0 (0 : Int32))) H := hP
  have hD : va_D A (ce_X13 kA q_this (ss_I o_this 0 (0 : Int32))) := hD
  refine lv_iconst (v := 0) hx hb dX13_supportVolume_5 (by decide) ?_
  refine lv_istore_n (lv' := [(1, .int (0 : Int32)), (0, .ref (q_this 0))]) hx hb dX13_supportVolume_6 rfl hl (by decide) rfl (fun ls hl => ?_)
  refine lv_iconst (v := 1) hx hb dX13_supportVolume_7 (by decide) ?_
  refine lv_istore_n (lv' := [(2, .int (1 : Int32)), (1, .int (0 : Int32)), (0, .ref (q_this 0))]) hx hb dX13_supportVolume_8 rfl hl (by decide) rfl (fun ls hl => ?_)
  exact hL9 N (ss_I o_this 0 (0 : Int32)) (0 : Int32) (1 : Int32) _ _ _ hP hD hS (lv_sub hl [2, 1, 0] rfl) hf
def ff_X13_safeSlope_c21 (N : Nat) (k9 : (os_T × Int32 × Int32) → Option (Int32 × os_T)) (k21 : (os_T × Int32 × Int32 × Int32) → Option (Int32 × os_T)) (o_this : os_T) (x1 : Int32) (x2 : Int32) (x3 : Int32) : Option (Int32 × os_T) :=
  (if os_in (0 : Int32) 7 then (if ((os_A o_this 1) (Int32.toNatClampNeg (0 : Int32))) ≤ x3 then k9 (o_this, x1, x2 + 1) else (if os_in (((16 : Int32) * x2) + x3) 192 then (if os_in ((((16 : Int32) * x2) - (16 : Int32)) + x3) 192 then ((ff_X13_more N x1 (((os_A o_this 4) (Int32.toNatClampNeg (((16 : Int32) * x2) + x3))) - ((os_A o_this 4) (Int32.toNatClampNeg ((((16 : Int32) * x2) - (16 : Int32)) + x3))))).bind fun u_7 => k21 (o_this, u_7, x2, x3 + 1)) else none) else none)) else none)
def ff_X13_safeSlope_l21 (N : Nat) (k9 : (os_T × Int32 × Int32) → Option (Int32 × os_T)) : Nat → (os_T × Int32 × Int32 × Int32) → Option (Int32 × os_T) := os_loop (fun k21 s1 => ff_X13_safeSlope_c21 N k9 k21 s1.1 s1.2.1 s1.2.2.1 s1.2.2.2)
def ff_X13_safeSlope_c9 (N : Nat) (k9 : (os_T × Int32 × Int32) → Option (Int32 × os_T)) (o_this : os_T) (x1 : Int32) (x2 : Int32) : Option (Int32 × os_T) :=
  (if os_in (1 : Int32) 7 then (if ((os_A o_this 1) (Int32.toNatClampNeg (1 : Int32))) ≤ x2 then some (x1, o_this) else ff_X13_safeSlope_l21 N k9 N (o_this, x1, x2, (0 : Int32))) else none)
def ff_X13_safeSlope_l9 (N : Nat) : Nat → (os_T × Int32 × Int32) → Option (Int32 × os_T) := os_loop (fun k9 s1 => ff_X13_safeSlope_c9 N k9 s1.1 s1.2.1 s1.2.2)
def ff_X13_safeSlope (N : Nat) (o_this : os_T) : Option (Int32 × os_T) :=
  ff_X13_safeSlope_l9 N N (ss_I o_this 0 (0 : Int32), (0 : Int32), (1 : Int32))
set_option maxHeartbeats 4000000 in
set_option maxRecDepth 100000 in
theorem mm_X13_safeSlope (l : Launch) (D : va_G) (kA : Nat → ClassId) (N : Nat) (q_this : Nat → Nat) (o_this : os_T) (out : (Int32 × os_T)) (hf : ff_X13_safeSlope N o_this = some out) : mc_C l D kA yX13_safeSlope wsX13_safeSlope ({ frames := 1, cells := 0, slots := 0, locals := 21 } : Room) [.ref (q_this 0)] (ce_X13 kA q_this o_this) (some (.int out.1)) (ce_X13 kA q_this out.2) := by
  refine mc_of (cc := cX13_safeSlope) (maxL := 4) (ret := (some .int)) (by decide) rfl (Nat.le_of_ble_eq_true rfl) ?_
  intro p e s m below meth c A B hD hP hS ls hl
  obtain ⟨hx, hb, hr, hlk, hml, hown, hts, hK, hA, hnm⟩ := B
  have hown : s.vm.findClass RX13 = some m.cls := hown
  have hl : lv_has ls 4 [(0, .ref (q_this 0))] := hl
  have hUX13 : ∀ w ∈ u_ws RX13 TX13 48, w.before [.ref (q_this 0)].toArray s = true := fun w h => hts w (List.mem_cons_of_mem _ (List.mem_append_right _ h))
  have hL21 : ∀ (k9 : (os_T × Int32 × Int32) → Option (Int32 × os_T)), (∀ (o_this : os_T) (x1 : Int32) (x2 : Int32) (H : Heap) (locs : List Loc) (ls : Array Slot), va_P D vwCl (ce_X13 kA q_this o_this) H → va_D A (ce_X13 kA q_this o_this) → va_S A s.heap H locs → lv_has ls 4 [(0, .ref (q_this 0)), (1, .int x1), (2, .int x2)] → k9 (o_this, x1, x2) = some out → W p l e ({ frames := 1, cells := 0, slots := 0, locals := 21 } : Room) s m [.ref (q_this 0)].toArray below meth c H locs 0 0 (MQ below (mc_Q D kA A (some (.int out.1)) (ce_X13 kA q_this out.2)) [.ref (q_this 0)].toArray s 0 0 A) (F0 m 9 ls [])) → ∀ (n : Nat) (o_this : os_T) (x1 : Int32) (x2 : Int32) (x3 : Int32) (H : Heap) (locs : List Loc) (ls : Array Slot), va_P D vwCl (ce_X13 kA q_this o_this) H → va_D A (ce_X13 kA q_this o_this) → va_S A s.heap H locs → lv_has ls 4 [(0, .ref (q_this 0)), (1, .int x1), (2, .int x2), (3, .int x3)] → ff_X13_safeSlope_l21 N k9 n (o_this, x1, x2, x3) = some out → W p l e ({ frames := 1, cells := 0, slots := 0, locals := 21 } : Room) s m [.ref (q_this 0)].toArray below meth c H locs 0 0 (MQ below (mc_Q D kA A (some (.int out.1)) (ce_X13 kA q_this out.2)) [.ref (q_this 0)].toArray s 0 0 A) (F0 m 21 ls []) := by
    intro k9 hk9 n
    induction n with
    | zero => intro o_this x1 x2 x3 H locs ls _ _ _ _ hf; cases hf
    | succ n hk21 =>
      intro o_this x1 x2 x3 H locs ls hP hD hS hl hf
      have hf : ff_X13_safeSlope_c21 N k9 (ff_X13_safeSlope_l21 N k9 n) o_this x1 x2 x3 = some out := hf
      generalize hke : ff_X13_safeSlope_l21 N k9 n = k21 at hk21 hf
      unfold ff_X13_safeSlope_c21 at hf
      refine lv_iload_n hx hb dX13_safeSlope_21 rfl (lv_at hl 3 rfl) ?_
      refine lv_aload_n hx hb dX13_safeSlope_22 rfl (lv_at hl 0 rfl) ?_
      refine va_get (D := D) (ci := 9) (v := .ref (q_this 2)) (C := RX13) (T := TX13) (N := 48) hx hb hUX13 (fun _ h9 => h9) hown hK hP 0 rfl rfl 13 (by decide) (hts (Cond.fieldLink RX13 20 "ReliefBuilderModel" "now" "[I") (List.mem_of_getElem? (i := 2) rfl)) (fun _ h9 => h9) rfl dX13_safeSlope_23 ?_
      refine lv_iconst (v := 0) hx hb dX13_safeSlope_26 (by decide) ?_
      obtain ⟨hi_3, hf⟩ := os_if hf
      refine va_iald hx hb hK hP 2 0 rfl rfl hi_3 dX13_safeSlope_27 ?_
      refine lv_icmp_ge (tgt := 68) hx hb dX13_safeSlope_28 (by decide) (fun hc_4 => ?_) (fun hc_4 => ?_)
      · rw [if_pos hc_4] at hf
        refine lv_iinc (v := x2 + 1) (lv' := [(2, .int (x2 + 1)), (0, .ref (q_this 0)), (1, .int x1), (3, .int x3)]) hx hb dX13_safeSlope_68 hl (k := 2) rfl rfl (by decide) rfl (fun ls hl => ?_)
        refine lv_goto (tgt := 9) hx hb dX13_safeSlope_71 (by decide) ?_
        exact hk9 o_this x1 (x2 + 1) _ _ _ hP hD hS (lv_sub hl [1, 2, 0] rfl) hf
      · rw [if_neg hc_4] at hf
        refine lv_iload_n hx hb dX13_safeSlope_31 rfl (lv_at hl 1 rfl) ?_
        refine lv_aload_n hx hb dX13_safeSlope_32 rfl (lv_at hl 0 rfl) ?_
        refine va_get (D := D) (ci := 9) (v := .ref (q_this 5)) (C := RX13) (T := TX13) (N := 48) hx hb hUX13 (fun _ h9 => h9) hown hK hP 0 rfl rfl 16 (by decide) (hts (Cond.fieldLink RX13 29 "ReliefBuilderModel" "heights" "[I") (List.mem_of_getElem? (i := 3) rfl)) (fun _ h9 => h9) rfl dX13_safeSlope_33 ?_
        refine lv_bipush (v := 16) hx hb dX13_safeSlope_36 (by decide) ?_
        refine lv_iload_n hx hb dX13_safeSlope_38 rfl (lv_at hl 2 rfl) ?_
        refine lv_imul hx hb dX13_safeSlope_39 ?_
        refine lv_iload_n hx hb dX13_safeSlope_40 rfl (lv_at hl 3 rfl) ?_
        refine lv_iadd hx hb dX13_safeSlope_41 ?_
        obtain ⟨hi_5, hf⟩ := os_if hf
        refine va_iald hx hb hK hP 5 0 rfl rfl hi_5 dX13_safeSlope_42 ?_
        refine lv_aload_n hx hb dX13_safeSlope_43 rfl (lv_at hl 0 rfl) ?_
        refine va_get (D := D) (ci := 9) (v := .ref (q_this 5)) (C := RX13) (T := TX13) (N := 48) hx hb hUX13 (fun _ h9 => h9) hown hK hP 0 rfl rfl 16 (by decide) (hts (Cond.fieldLink RX13 29 "ReliefBuilderModel" "heights" "[I") (List.mem_of_getElem? (i := 3) rfl)) (fun _ h9 => h9) rfl dX13_safeSlope_44 ?_
        refine lv_bipush (v := 16) hx hb dX13_safeSlope_47 (by decide) ?_
        refine lv_iload_n hx hb dX13_safeSlope_49 rfl (lv_at hl 2 rfl) ?_
        refine lv_imul hx hb dX13_safeSlope_50 ?_
        refine lv_bipush (v := 16) hx hb dX13_safeSlope_51 (by decide) ?_
        refine lv_isub hx hb dX13_safeSlope_53 ?_
        refine lv_iload_n hx hb dX13_safeSlope_54 rfl (lv_at hl 3 rfl) ?_
        refine lv_iadd hx hb dX13_safeSlope_55 ?_
        obtain ⟨hi_6, hf⟩ := os_if hf
        refine va_iald hx hb hK hP 5 0 rfl rfl hi_6 dX13_safeSlope_56 ?_
        refine lv_isub hx hb dX13_safeSlope_57 ?_
        obtain ⟨u_7, he_8, hf⟩ := os_bd hf
        refine mc_callS ⟨hx, hb, hml, hown, hts⟩ (mm_X13_more l D kA N x1 (((os_A o_this 4) (Int32.toNatClampNeg (((16 : Int32) * x2) + x3))) - ((os_A o_this 4) (Int32.toNatClampNeg ((((16 : Int32) * x2) - (16 : Int32)) + x3)))) u_7 he_8) (va_cwS 2 hts gX13_safeSlope_X13_more rfl rfl rfl (by decide +kernel) ⟨Nat.le_of_ble_eq_true rfl, Nat.le_of_ble_eq_true rfl⟩) (wc := []) rfl hl.1 (As := [.int x1, .int (((os_A o_this 4) (Int32.toNatClampNeg (((16 : Int32) * x2) + x3))) - ((os_A o_this 4) (Int32.toNatClampNeg ((((16 : Int32) * x2) - (16 : Int32)) + x3))))]) (rest := []) rfl (Nat.le_of_ble_eq_true rfl) dX13_safeSlope_58 ⟨Nat.le_of_ble_eq_true rfl, Nat.le_of_ble_eq_true rfl⟩ hK hP hD hS hA [] [0, 1, 2, 3, 4, 5, 6, 7, 8, 9, 10, 11, 12, 13, 14, 15, 16, 17, 18, 19, 20, 21, 22, 23] [0, 1, 2, 3, 4, 5, 6, 7, 8, 9, 10, 11, 12, 13, 14, 15, 16, 17, 18, 19, 20, 21, 22, 23] rfl (by decide) rfl (by decide) (by decide) rfl (by decide) (wr := (ce_X13 kA q_this o_this)) (w2 := (ce_X13 kA q_this o_this)) (fun H locs hP hD hS => ?_)
        have hP : va_P D vwCl (ce_X13 kA q_this o_this) H := hP
        refine lv_istore_n (lv' := [(1, .int u_7), (0, .ref (q_this 0)), (2, .int x2), (3, .int x3)]) hx hb dX13_safeSlope_61 rfl hl (by decide) rfl (fun ls hl => ?_)
        refine lv_iinc (v := x3 + 1) (lv' := [(3, .int (x3 + 1)), (1, .int u_7), (0, .ref (q_this 0)), (2, .int x2)]) hx hb dX13_safeSlope_62 hl (k := 3) rfl rfl (by decide) rfl (fun ls hl => ?_)
        refine lv_goto (tgt := 21) hx hb dX13_safeSlope_65 (by decide) ?_
        exact hk21 o_this u_7 x2 (x3 + 1) _ _ _ hP hD hS (lv_sub hl [2, 1, 3, 0] rfl) hf
  have hL9 : ∀ (n : Nat) (o_this : os_T) (x1 : Int32) (x2 : Int32) (H : Heap) (locs : List Loc) (ls : Array Slot), va_P D vwCl (ce_X13 kA q_this o_this) H → va_D A (ce_X13 kA q_this o_this) → va_S A s.heap H locs → lv_has ls 4 [(0, .ref (q_this 0)), (1, .int x1), (2, .int x2)] → ff_X13_safeSlope_l9 N n (o_this, x1, x2) = some out → W p l e ({ frames := 1, cells := 0, slots := 0, locals := 21 } : Room) s m [.ref (q_this 0)].toArray below meth c H locs 0 0 (MQ below (mc_Q D kA A (some (.int out.1)) (ce_X13 kA q_this out.2)) [.ref (q_this 0)].toArray s 0 0 A) (F0 m 9 ls []) := by
    intro n
    induction n with
    | zero => intro o_this x1 x2 H locs ls _ _ _ _ hf; cases hf
    | succ n hk9 =>
      intro o_this x1 x2 H locs ls hP hD hS hl hf
      have hf : ff_X13_safeSlope_c9 N (ff_X13_safeSlope_l9 N n) o_this x1 x2 = some out := hf
      generalize hke : ff_X13_safeSlope_l9 N n = k9 at hk9 hf
      unfold ff_X13_safeSlope_c9 at hf
      refine lv_iload_n hx hb dX13_safeSlope_9 rfl (lv_at hl 2 rfl) ?_
      refine lv_aload_n hx hb dX13_safeSlope_10 rfl (lv_at hl 0 rfl) ?_
      refine va_get (D := D) (ci := 9) (v := .ref (q_this 2)) (C := RX13) (T := TX13) (N := 48) hx hb hUX13 (fun _ h9 => h9) hown hK hP 0 rfl rfl 13 (by decide) (hts (Cond.fieldLink RX13 20 "ReliefBuilderModel" "now" "[I") (List.mem_of_getElem? (i := 2) rfl)) (fun _ h9 => h9) rfl dX13_safeSlope_11 ?_
      refine lv_iconst (v := 1) hx hb dX13_safeSlope_14 (by decide) ?_
      obtain ⟨hi_1, hf⟩ := os_if hf
      refine va_iald hx hb hK hP 2 0 rfl rfl hi_1 dX13_safeSlope_15 ?_
      refine lv_icmp_ge (tgt := 74) hx hb dX13_safeSlope_16 (by decide) (fun hc_2 => ?_) (fun hc_2 => ?_)
      · rw [if_pos hc_2] at hf
        refine lv_iload_n hx hb dX13_safeSlope_74 rfl (lv_at hl 1 rfl) ?_
        rw [← Option.some.inj hf]
        exact mc_reti hx hb hr hlk hP hK hD hS dX13_safeSlope_75
      · rw [if_neg hc_2] at hf
        refine lv_iconst (v := 0) hx hb dX13_safeSlope_19 (by decide) ?_
        refine lv_istore_n (lv' := [(3, .int (0 : Int32)), (0, .ref (q_this 0)), (1, .int x1), (2, .int x2)]) hx hb dX13_safeSlope_20 rfl hl (by decide) rfl (fun ls hl => ?_)
        exact hL21 k9 hk9 N o_this x1 x2 (0 : Int32) _ _ _ hP hD hS (lv_sub hl [1, 2, 3, 0] rfl) hf
  unfold ff_X13_safeSlope at hf
  refine lv_aload_n hx hb dX13_safeSlope_0 rfl (lv_at hl 0 rfl) ?_
  refine lv_iconst (v := 0) hx hb dX13_safeSlope_1 (by decide) ?_
  refine va_put (D := D) (ci := 9) (v := .int (0 : Int32)) (ty := .int) (C := RX13) (T := TX13) (N := 48) hx hb hUX13 (fun _ h9 => h9) tyX13 tyX13_ok nmX13 hown hK hP hD hS 0 rfl rfl 0 (by decide) (hts (Cond.fieldLink RX13 93 "ReliefBuilderModel" "code" "I") (List.mem_of_getElem? (i := 1) rfl)) (fun _ h9 => h9) rfl (tyX13_ok 0 (by decide)) rfl rfl (Nat.le_of_ble_eq_true rfl) dX13_safeSlope_2 (fun H locs hP hD hS => ?_)
  have hP : va_P D vwCl (ce_X13 kA q_this (ss_I o_this 0 (0 : Int32))) H := hP
  have hD : va_D A (ce_X13 kA q_this (ss_I o_this 0 (0 : Int32))) := hD
  refine lv_iconst (v := 0) hx hb dX13_safeSlope_5 (by decide) ?_
  refine lv_istore_n (lv' := [(1, .int (0 : Int32)), (0, .ref (q_this 0))]) hx hb dX13_safeSlope_6 rfl hl (by decide) rfl (fun ls hl => ?_)
  refine lv_iconst (v := 1) hx hb dX13_safeSlope_7 (by decide) ?_
  refine lv_istore_n (lv' := [(2, .int (1 : Int32)), (1, .int (0 : Int32)), (0, .ref (q_this 0))]) hx hb dX13_safeSlope_8 rfl hl (by decide) rfl (fun ls hl => ?_)
  exact hL9 N (ss_I o_this 0 (0 : Int32)) (0 : Int32) (1 : Int32) _ _ _ hP hD hS (lv_sub hl [2, 1, 0] rfl) hf
def ff_X13_isLayer (N : Nat) (o_this : os_T) (a1 : Int32) : Option Int32 :=
  (if os_in (2 : Int32) 7 then ((ff_X13_isIn N (Int32.toInt64 a1) (1 : Int64) (Int32.toInt64 ((os_A o_this 1) (Int32.toNatClampNeg (2 : Int32))))).bind fun u_2 => (if os_z u_2 then some u_2 else none)) else none)
set_option maxHeartbeats 4000000 in
set_option maxRecDepth 100000 in
theorem mm_X13_isLayer (l : Launch) (D : va_G) (kA : Nat → ClassId) (N : Nat) (q_this : Nat → Nat) (o_this : os_T) (a1 : Int32) (out : Int32) (hf : ff_X13_isLayer N o_this a1 = some out) : mc_C l D kA yX13_isLayer wsX13_isLayer ({ frames := 1, cells := 0, slots := 0, locals := 25 } : Room) [.ref (q_this 0), .int a1] (ce_X13 kA q_this o_this) (some (.int out)) (ce_X13 kA q_this o_this) := by
  refine mc_of (cc := cX13_isLayer) (maxL := 2) (ret := (some .boolean)) (by decide) rfl (Nat.le_of_ble_eq_true rfl) ?_
  intro p e s m below meth c A B hD hP hS ls hl
  obtain ⟨hx, hb, hr, hlk, hml, hown, hts, hK, hA, hnm⟩ := B
  have hown : s.vm.findClass RX13 = some m.cls := hown
  have hl : lv_has ls 2 [(0, .ref (q_this 0)), (1, .int a1)] := hl
  have hUX13 : ∀ w ∈ u_ws RX13 TX13 48, w.before [.ref (q_this 0), .int a1].toArray s = true := fun w h => hts w (List.mem_cons_of_mem _ (List.mem_append_right _ h))
  unfold ff_X13_isLayer at hf
  refine lv_iload_n hx hb dX13_isLayer_0 rfl (lv_at hl 1 rfl) ?_
  refine lv_i2l hx hb dX13_isLayer_1 rfl ?_
  refine lv_lconst (v := 1) hx hb dX13_isLayer_2 (by decide) ?_
  refine lv_aload_n hx hb dX13_isLayer_3 rfl (lv_at hl 0 rfl) ?_
  refine va_get (D := D) (ci := 9) (v := .ref (q_this 2)) (C := RX13) (T := TX13) (N := 48) hx hb hUX13 (fun _ h9 => h9) hown hK hP 0 rfl rfl 13 (by decide) (hts (Cond.fieldLink RX13 20 "ReliefBuilderModel" "now" "[I") (List.mem_of_getElem? (i := 1) rfl)) (fun _ h9 => h9) rfl dX13_isLayer_4 ?_
  refine lv_iconst (v := 2) hx hb dX13_isLayer_7 (by decide) ?_
  obtain ⟨hi_1, hf⟩ := os_if hf
  refine va_iald hx hb hK hP 2 0 rfl rfl hi_1 dX13_isLayer_8 ?_
  refine lv_i2l hx hb dX13_isLayer_9 rfl ?_
  obtain ⟨u_2, he_3, hf⟩ := os_bd hf
  refine mc_callS ⟨hx, hb, hml, hown, hts⟩ (mm_X13_isIn l D kA N (Int32.toInt64 a1) (1 : Int64) (Int32.toInt64 ((os_A o_this 1) (Int32.toNatClampNeg (2 : Int32)))) u_2 he_3) (va_cwS 3 hts gX13_isLayer_X13_isIn rfl rfl rfl (by decide +kernel) ⟨Nat.le_of_ble_eq_true rfl, Nat.le_of_ble_eq_true rfl⟩) (wc := []) rfl hl.1 (As := [.long (Int32.toInt64 a1), .long (1 : Int64), .long (Int32.toInt64 ((os_A o_this 1) (Int32.toNatClampNeg (2 : Int32))))]) (rest := []) rfl (Nat.le_of_ble_eq_true rfl) dX13_isLayer_10 ⟨Nat.le_of_ble_eq_true rfl, Nat.le_of_ble_eq_true rfl⟩ hK hP hD hS hA [] [0, 1, 2, 3, 4, 5, 6, 7, 8, 9, 10, 11, 12, 13, 14, 15, 16, 17, 18, 19, 20, 21, 22, 23] [0, 1, 2, 3, 4, 5, 6, 7, 8, 9, 10, 11, 12, 13, 14, 15, 16, 17, 18, 19, 20, 21, 22, 23] rfl (by decide) rfl (by decide) (by decide) rfl (by decide) (wr := (ce_X13 kA q_this o_this)) (w2 := (ce_X13 kA q_this o_this)) (fun H locs hP hD hS => ?_)
  have hP : va_P D vwCl (ce_X13 kA q_this o_this) H := hP
  obtain ⟨hz_4, hf⟩ := os_if hf
  rw [← Option.some.inj hf]
  exact mc_retz hx hb hr (os_z_n hz_4) hlk hP hK hD hS dX13_isLayer_13
def ff_X13_isOf (N : Nat) (o_this : os_T) (a1 : Int32) (a2 : Int32) (a3 : Int32) : Option Int32 :=
  ((ff_X13_isCell N o_this a2 a3).bind fun u_1 => (if u_1 = 0 then some (0 : Int32) else (if os_in (((16 : Int32) * a3) + a2) 192 then (if ((os_A o_this 4) (Int32.toNatClampNeg (((16 : Int32) * a3) + a2))) < a1 then some (0 : Int32) else some (1 : Int32)) else none)))
set_option maxHeartbeats 4000000 in
set_option maxRecDepth 100000 in
theorem mm_X13_isOf (l : Launch) (D : va_G) (kA : Nat → ClassId) (N : Nat) (q_this : Nat → Nat) (o_this : os_T) (a1 : Int32) (a2 : Int32) (a3 : Int32) (out : Int32) (hf : ff_X13_isOf N o_this a1 a2 a3 = some out) : mc_C l D kA yX13_isOf wsX13_isOf ({ frames := 2, cells := 0, slots := 0, locals := 47 } : Room) [.ref (q_this 0), .int a1, .int a2, .int a3] (ce_X13 kA q_this o_this) (some (.int out)) (ce_X13 kA q_this o_this) := by
  refine mc_of (cc := cX13_isOf) (maxL := 4) (ret := (some .boolean)) (by decide) rfl (Nat.le_of_ble_eq_true rfl) ?_
  intro p e s m below meth c A B hD hP hS ls hl
  obtain ⟨hx, hb, hr, hlk, hml, hown, hts, hK, hA, hnm⟩ := B
  have hown : s.vm.findClass RX13 = some m.cls := hown
  have hl : lv_has ls 4 [(0, .ref (q_this 0)), (1, .int a1), (2, .int a2), (3, .int a3)] := hl
  have hUX13 : ∀ w ∈ u_ws RX13 TX13 48, w.before [.ref (q_this 0), .int a1, .int a2, .int a3].toArray s = true := fun w h => hts w (List.mem_cons_of_mem _ (List.mem_append_right _ h))
  unfold ff_X13_isOf at hf
  refine lv_aload_n hx hb dX13_isOf_0 rfl (lv_at hl 0 rfl) ?_
  refine lv_iload_n hx hb dX13_isOf_1 rfl (lv_at hl 2 rfl) ?_
  refine lv_iload_n hx hb dX13_isOf_2 rfl (lv_at hl 3 rfl) ?_
  obtain ⟨u_1, he_2, hf⟩ := os_bd hf
  refine mc_callV ⟨hx, hb, hml, hown, hts⟩ (mm_X13_isCell l D kA N q_this o_this a2 a3 u_1 he_2) (cwV 2 hts gX13_isOf_X13_isCell rfl rfl rfl (by decide +kernel) ⟨Nat.le_of_ble_eq_true rfl, Nat.le_of_ble_eq_true rfl⟩) (wc := (ce_X13 kA q_this o_this)) (ci := 9) (q0 := 0) rfl rfl rfl hl.1 (As := [.int a2, .int a3]) (rest := []) rfl (Nat.le_of_ble_eq_true rfl) dX13_isOf_3 ⟨Nat.le_of_ble_eq_true rfl, Nat.le_of_ble_eq_true rfl⟩ hK hP hD hS hA [0, 1, 2, 3, 4, 5, 6, 7, 8, 9, 10, 11, 12, 13, 14, 15, 16, 17, 18, 19, 20, 21, 22, 23] [] [0, 1, 2, 3, 4, 5, 6, 7, 8, 9, 10, 11, 12, 13, 14, 15, 16, 17, 18, 19, 20, 21, 22, 23] rfl (by decide) rfl (by decide) (by decide) rfl (by decide) (wr := []) (w2 := (ce_X13 kA q_this o_this)) (fun H locs hP hD hS => ?_)
  have hP : va_P D vwCl (ce_X13 kA q_this o_this) H := hP
  refine lv_if_eq (tgt := 28) hx hb dX13_isOf_6 (by decide) (fun hc_3 => ?_) (fun hc_3 => ?_)
  · rw [if_pos hc_3] at hf
    refine lv_iconst (v := 0) hx hb dX13_isOf_28 (by decide) ?_
    rw [← Option.some.inj hf]
    exact mc_retz (v := 0) hx hb hr rfl hlk hP hK hD hS dX13_isOf_29
  · rw [if_neg hc_3] at hf
    refine lv_aload_n hx hb dX13_isOf_9 rfl (lv_at hl 0 rfl) ?_
    refine va_get (D := D) (ci := 9) (v := .ref (q_this 5)) (C := RX13) (T := TX13) (N := 48) hx hb hUX13 (fun _ h9 => h9) hown hK hP 0 rfl rfl 16 (by decide) (hts (Cond.fieldLink RX13 29 "ReliefBuilderModel" "heights" "[I") (List.mem_of_getElem? (i := 1) rfl)) (fun _ h9 => h9) rfl dX13_isOf_10 ?_
    refine lv_bipush (v := 16) hx hb dX13_isOf_13 (by decide) ?_
    refine lv_iload_n hx hb dX13_isOf_15 rfl (lv_at hl 3 rfl) ?_
    refine lv_imul hx hb dX13_isOf_16 ?_
    refine lv_iload_n hx hb dX13_isOf_17 rfl (lv_at hl 2 rfl) ?_
    refine lv_iadd hx hb dX13_isOf_18 ?_
    obtain ⟨hi_4, hf⟩ := os_if hf
    refine va_iald hx hb hK hP 5 0 rfl rfl hi_4 dX13_isOf_19 ?_
    refine lv_iload_n hx hb dX13_isOf_20 rfl (lv_at hl 1 rfl) ?_
    refine lv_icmp_lt (tgt := 28) hx hb dX13_isOf_21 (by decide) (fun hc_5 => ?_) (fun hc_5 => ?_)
    · rw [if_pos hc_5] at hf
      refine lv_iconst (v := 0) hx hb dX13_isOf_28 (by decide) ?_
      rw [← Option.some.inj hf]
      exact mc_retz (v := 0) hx hb hr rfl hlk hP hK hD hS dX13_isOf_29
    · rw [if_neg hc_5] at hf
      refine lv_iconst (v := 1) hx hb dX13_isOf_24 (by decide) ?_
      refine lv_goto (tgt := 29) hx hb dX13_isOf_25 (by decide) ?_
      rw [← Option.some.inj hf]
      exact mc_retz (v := 1) hx hb hr rfl hlk hP hK hD hS dX13_isOf_29
def ff_X13_layerCells_b46 (N : Nat) (k18 : (os_T × Int32 × Int32 × Int32) → Option (Int32 × os_T)) (o_this : os_T) (x1 : Int32) (x3 : Int32) (t0 : Int32) (t1 : Int32) : Option (Int32 × os_T) :=
  ((ff_X13_truth N t0).bind fun u_13 => k18 (o_this, x1, t1 + u_13, x3 + 1))
def ff_X13_layerCells_c18 (N : Nat) (k18 : (os_T × Int32 × Int32 × Int32) → Option (Int32 × os_T)) (o_this : os_T) (x1 : Int32) (x2 : Int32) (x3 : Int32) : Option (Int32 × os_T) :=
  ((ff_X13_cellMany N o_this).bind fun u_6 => (if u_6 ≤ x3 then some (x2, o_this) else ((ff_X13_cellAt N o_this x3).bind fun u_9 => (if os_in u_9 192 then (if ((os_A o_this 4) (Int32.toNatClampNeg u_9)) < x1 then ff_X13_layerCells_b46 N k18 o_this x1 x3 (0 : Int32) x2 else ff_X13_layerCells_b46 N k18 o_this x1 x3 (1 : Int32) x2) else none))))
def ff_X13_layerCells_l18 (N : Nat) : Nat → (os_T × Int32 × Int32 × Int32) → Option (Int32 × os_T) := os_loop (fun k18 s1 => ff_X13_layerCells_c18 N k18 s1.1 s1.2.1 s1.2.2.1 s1.2.2.2)
def ff_X13_layerCells (N : Nat) (o_this : os_T) (a1 : Int32) : Option (Int32 × os_T) :=
  ((ff_X13_isLayer N o_this a1).bind fun u_1 => ((ff_X13_goes N o_this u_1).bind fun u_3 => (if u_3.1 = 0 then some ((0 : Int32), u_3.2) else ff_X13_layerCells_l18 N N (u_3.2, a1, (0 : Int32), (0 : Int32)))))
set_option maxHeartbeats 4000000 in
set_option maxRecDepth 100000 in
theorem mm_X13_layerCells (l : Launch) (D : va_G) (kA : Nat → ClassId) (N : Nat) (q_this : Nat → Nat) (o_this : os_T) (a1 : Int32) (out : (Int32 × os_T)) (hf : ff_X13_layerCells N o_this a1 = some out) : mc_C l D kA yX13_layerCells wsX13_layerCells ({ frames := 2, cells := 0, slots := 0, locals := 46 } : Room) [.ref (q_this 0), .int a1] (ce_X13 kA q_this o_this) (some (.int out.1)) (ce_X13 kA q_this out.2) := by
  refine mc_of (cc := cX13_layerCells) (maxL := 4) (ret := (some .int)) (by decide) rfl (Nat.le_of_ble_eq_true rfl) ?_
  intro p e s m below meth c A B hD hP hS ls hl
  obtain ⟨hx, hb, hr, hlk, hml, hown, hts, hK, hA, hnm⟩ := B
  have hown : s.vm.findClass RX13 = some m.cls := hown
  have hl : lv_has ls 4 [(0, .ref (q_this 0)), (1, .int a1)] := hl
  have hUX13 : ∀ w ∈ u_ws RX13 TX13 48, w.before [.ref (q_this 0), .int a1].toArray s = true := fun w h => hts w (List.mem_cons_of_mem _ (List.mem_append_right _ h))
  have hB46 : ∀ (k18 : (os_T × Int32 × Int32 × Int32) → Option (Int32 × os_T)), (∀ (o_this : os_T) (x1 : Int32) (x2 : Int32) (x3 : Int32) (H : Heap) (locs : List Loc) (ls : Array Slot), va_P D vwCl (ce_X13 kA q_this o_this) H → va_D A (ce_X13 kA q_this o_this) → va_S A s.heap H locs → lv_has ls 4 [(0, .ref (q_this 0)), (1, .int x1), (2, .int x2), (3, .int x3)] → k18 (o_this, x1, x2, x3) = some out → W p l e ({ frames := 2, cells := 0, slots := 0, locals := 46 } : Room) s m [.ref (q_this 0), .int a1].toArray below meth c H locs 0 0 (MQ below (mc_Q D kA A (some (.int out.1)) (ce_X13 kA q_this out.2)) [.ref (q_this 0), .int a1].toArray s 0 0 A) (F0 m 18 ls [])) → ∀ (o_this : os_T) (x1 : Int32) (x3 : Int32) (t0 : Int32) (t1 : Int32) (H : Heap) (locs : List Loc) (ls : Array Slot), va_P D vwCl (ce_X13 kA q_this o_this) H → va_D A (ce_X13 kA q_this o_this) → va_S A s.heap H locs → lv_has ls 4 [(0, .ref (q_this 0)), (1, .int x1), (3, .int x3)] → ff_X13_layerCells_b46 N k18 o_this x1 x3 t0 t1 = some out → W p l e ({ frames := 2, cells := 0, slots := 0, locals := 46 } : Room) s m [.ref (q_this 0), .int a1].toArray below meth c H locs 0 0 (MQ below (mc_Q D kA A (some (.int out.1)) (ce_X13 kA q_this out.2)) [.ref (q_this 0), .int a1].toArray s 0 0 A) (F0 m 46 ls [.int t0, .int t1]) := by
    intro k18 hk18 o_this x1 x3 t0 t1 H locs ls hP hD hS hl hf
    unfold ff_X13_layerCells_b46 at hf
    obtain ⟨u_13, he_14, hf⟩ := os_bd hf
    refine mc_callS ⟨hx, hb, hml, hown, hts⟩ (mm_X13_truth l D kA N t0 u_13 he_14) (va_cwS 1 hts gX13_layerCells_X13_truth rfl rfl rfl (by decide +kernel) ⟨Nat.le_of_ble_eq_true rfl, Nat.le_of_ble_eq_true rfl⟩) (wc := []) rfl hl.1 (As := [.int t0]) (rest := [.int t1]) rfl (Nat.le_of_ble_eq_true rfl) dX13_layerCells_46 ⟨Nat.le_of_ble_eq_true rfl, Nat.le_of_ble_eq_true rfl⟩ hK hP hD hS hA [] [0, 1, 2, 3, 4, 5, 6, 7, 8, 9, 10, 11, 12, 13, 14, 15, 16, 17, 18, 19, 20, 21, 22, 23] [0, 1, 2, 3, 4, 5, 6, 7, 8, 9, 10, 11, 12, 13, 14, 15, 16, 17, 18, 19, 20, 21, 22, 23] rfl (by decide) rfl (by decide) (by decide) rfl (by decide) (wr := (ce_X13 kA q_this o_this)) (w2 := (ce_X13 kA q_this o_this)) (fun H locs hP hD hS => ?_)
    have hP : va_P D vwCl (ce_X13 kA q_this o_this) H := hP
    refine lv_iadd hx hb dX13_layerCells_49 ?_
    refine lv_istore_n (lv' := [(2, .int (t1 + u_13)), (0, .ref (q_this 0)), (1, .int x1), (3, .int x3)]) hx hb dX13_layerCells_50 rfl hl (by decide) rfl (fun ls hl => ?_)
    refine lv_iinc (v := x3 + 1) (lv' := [(3, .int (x3 + 1)), (2, .int (t1 + u_13)), (0, .ref (q_this 0)), (1, .int x1)]) hx hb dX13_layerCells_51 hl (k := 3) rfl rfl (by decide) rfl (fun ls hl => ?_)
    refine lv_goto (tgt := 18) hx hb dX13_layerCells_54 (by decide) ?_
    exact hk18 o_this x1 (t1 + u_13) (x3 + 1) _ _ _ hP hD hS (lv_sub hl [2, 3, 1, 0] rfl) hf
  have hL18 : ∀ (n : Nat) (o_this : os_T) (x1 : Int32) (x2 : Int32) (x3 : Int32) (H : Heap) (locs : List Loc) (ls : Array Slot), va_P D vwCl (ce_X13 kA q_this o_this) H → va_D A (ce_X13 kA q_this o_this) → va_S A s.heap H locs → lv_has ls 4 [(0, .ref (q_this 0)), (1, .int x1), (2, .int x2), (3, .int x3)] → ff_X13_layerCells_l18 N n (o_this, x1, x2, x3) = some out → W p l e ({ frames := 2, cells := 0, slots := 0, locals := 46 } : Room) s m [.ref (q_this 0), .int a1].toArray below meth c H locs 0 0 (MQ below (mc_Q D kA A (some (.int out.1)) (ce_X13 kA q_this out.2)) [.ref (q_this 0), .int a1].toArray s 0 0 A) (F0 m 18 ls []) := by
    intro n
    induction n with
    | zero => intro o_this x1 x2 x3 H locs ls _ _ _ _ hf; cases hf
    | succ n hk18 =>
      intro o_this x1 x2 x3 H locs ls hP hD hS hl hf
      have hf : ff_X13_layerCells_c18 N (ff_X13_layerCells_l18 N n) o_this x1 x2 x3 = some out := hf
      generalize hke : ff_X13_layerCells_l18 N n = k18 at hk18 hf
      unfold ff_X13_layerCells_c18 at hf
      refine lv_iload_n hx hb dX13_layerCells_18 rfl (lv_at hl 3 rfl) ?_
      refine lv_aload_n hx hb dX13_layerCells_19 rfl (lv_at hl 0 rfl) ?_
      obtain ⟨u_6, he_7, hf⟩ := os_bd hf
      refine mc_callV ⟨hx, hb, hml, hown, hts⟩ (mm_X13_cellMany l D kA N q_this o_this u_6 he_7) (cwV 0 hts gX13_layerCells_X13_cellMany rfl rfl rfl (by decide +kernel) ⟨Nat.le_of_ble_eq_true rfl, Nat.le_of_ble_eq_true rfl⟩) (wc := (ce_X13 kA q_this o_this)) (ci := 9) (q0 := 0) rfl rfl rfl hl.1 (As := []) (rest := [.int x3]) rfl (Nat.le_of_ble_eq_true rfl) dX13_layerCells_20 ⟨Nat.le_of_ble_eq_true rfl, Nat.le_of_ble_eq_true rfl⟩ hK hP hD hS hA [0, 1, 2, 3, 4, 5, 6, 7, 8, 9, 10, 11, 12, 13, 14, 15, 16, 17, 18, 19, 20, 21, 22, 23] [] [0, 1, 2, 3, 4, 5, 6, 7, 8, 9, 10, 11, 12, 13, 14, 15, 16, 17, 18, 19, 20, 21, 22, 23] rfl (by decide) rfl (by decide) (by decide) rfl (by decide) (wr := []) (w2 := (ce_X13 kA q_this o_this)) (fun H locs hP hD hS => ?_)
      have hP : va_P D vwCl (ce_X13 kA q_this o_this) H := hP
      refine lv_icmp_ge (tgt := 57) hx hb dX13_layerCells_23 (by decide) (fun hc_8 => ?_) (fun hc_8 => ?_)
      · rw [if_pos hc_8] at hf
        refine lv_iload_n hx hb dX13_layerCells_57 rfl (lv_at hl 2 rfl) ?_
        rw [← Option.some.inj hf]
        exact mc_reti hx hb hr hlk hP hK hD hS dX13_layerCells_58
      · rw [if_neg hc_8] at hf
        refine lv_iload_n hx hb dX13_layerCells_26 rfl (lv_at hl 2 rfl) ?_
        refine lv_aload_n hx hb dX13_layerCells_27 rfl (lv_at hl 0 rfl) ?_
        refine va_get (D := D) (ci := 9) (v := .ref (q_this 5)) (C := RX13) (T := TX13) (N := 48) hx hb hUX13 (fun _ h9 => h9) hown hK hP 0 rfl rfl 16 (by decide) (hts (Cond.fieldLink RX13 29 "ReliefBuilderModel" "heights" "[I") (List.mem_of_getElem? (i := 1) rfl)) (fun _ h9 => h9) rfl dX13_layerCells_28 ?_
        refine lv_aload_n hx hb dX13_layerCells_31 rfl (lv_at hl 0 rfl) ?_
        refine lv_iload_n hx hb dX13_layerCells_32 rfl (lv_at hl 3 rfl) ?_
        obtain ⟨u_9, he_10, hf⟩ := os_bd hf
        refine mc_callV ⟨hx, hb, hml, hown, hts⟩ (mm_X13_cellAt l D kA N q_this o_this x3 u_9 he_10) (cwV 1 hts gX13_layerCells_X13_cellAt rfl rfl rfl (by decide +kernel) ⟨Nat.le_of_ble_eq_true rfl, Nat.le_of_ble_eq_true rfl⟩) (wc := (ce_X13 kA q_this o_this)) (ci := 9) (q0 := 0) rfl rfl rfl hl.1 (As := [.int x3]) (rest := [.ref (q_this 5), .int x2]) rfl (Nat.le_of_ble_eq_true rfl) dX13_layerCells_33 ⟨Nat.le_of_ble_eq_true rfl, Nat.le_of_ble_eq_true rfl⟩ hK hP hD hS hA [0, 1, 2, 3, 4, 5, 6, 7, 8, 9, 10, 11, 12, 13, 14, 15, 16, 17, 18, 19, 20, 21, 22, 23] [] [0, 1, 2, 3, 4, 5, 6, 7, 8, 9, 10, 11, 12, 13, 14, 15, 16, 17, 18, 19, 20, 21, 22, 23] rfl (by decide) rfl (by decide) (by decide) rfl (by decide) (wr := []) (w2 := (ce_X13 kA q_this o_this)) (fun H locs hP hD hS => ?_)
        have hP : va_P D vwCl (ce_X13 kA q_this o_this) H := hP
        obtain ⟨hi_11, hf⟩ := os_if hf
        refine va_iald hx hb hK hP 5 0 rfl rfl hi_11 dX13_layerCells_36 ?_
        refine lv_iload_n hx hb dX13_layerCells_37 rfl (lv_at hl 1 rfl) ?_
        refine lv_icmp_lt (tgt := 45) hx hb dX13_layerCells_38 (by decide) (fun hc_12 => ?_) (fun hc_12 => ?_)
        · rw [if_pos hc_12] at hf
          refine lv_iconst (v := 0) hx hb dX13_layerCells_45 (by decide) ?_
          exact hB46 k18 hk18 o_this x1 x3 (0 : Int32) x2 _ _ _ hP hD hS (lv_sub hl [0, 1, 3] rfl) hf
        · rw [if_neg hc_12] at hf
          refine lv_iconst (v := 1) hx hb dX13_layerCells_41 (by decide) ?_
          refine lv_goto (tgt := 46) hx hb dX13_layerCells_42 (by decide) ?_
          exact hB46 k18 hk18 o_this x1 x3 (1 : Int32) x2 _ _ _ hP hD hS (lv_sub hl [0, 1, 3] rfl) hf
  unfold ff_X13_layerCells at hf
  refine lv_aload_n hx hb dX13_layerCells_0 rfl (lv_at hl 0 rfl) ?_
  refine lv_aload_n hx hb dX13_layerCells_1 rfl (lv_at hl 0 rfl) ?_
  refine lv_iload_n hx hb dX13_layerCells_2 rfl (lv_at hl 1 rfl) ?_
  obtain ⟨u_1, he_2, hf⟩ := os_bd hf
  refine mc_callV ⟨hx, hb, hml, hown, hts⟩ (mm_X13_isLayer l D kA N q_this o_this a1 u_1 he_2) (cwV 1 hts gX13_layerCells_X13_isLayer rfl rfl rfl (by decide +kernel) ⟨Nat.le_of_ble_eq_true rfl, Nat.le_of_ble_eq_true rfl⟩) (wc := (ce_X13 kA q_this o_this)) (ci := 9) (q0 := 0) rfl rfl rfl hl.1 (As := [.int a1]) (rest := [.ref (q_this 0)]) rfl (Nat.le_of_ble_eq_true rfl) dX13_layerCells_3 ⟨Nat.le_of_ble_eq_true rfl, Nat.le_of_ble_eq_true rfl⟩ hK hP hD hS hA [0, 1, 2, 3, 4, 5, 6, 7, 8, 9, 10, 11, 12, 13, 14, 15, 16, 17, 18, 19, 20, 21, 22, 23] [] [0, 1, 2, 3, 4, 5, 6, 7, 8, 9, 10, 11, 12, 13, 14, 15, 16, 17, 18, 19, 20, 21, 22, 23] rfl (by decide) rfl (by decide) (by decide) rfl (by decide) (wr := []) (w2 := (ce_X13 kA q_this o_this)) (fun H locs hP hD hS => ?_)
  have hP : va_P D vwCl (ce_X13 kA q_this o_this) H := hP
  obtain ⟨u_3, he_4, hf⟩ := os_bd hf
  refine mc_callV ⟨hx, hb, hml, hown, hts⟩ (mm_X13_goes l D kA N q_this o_this u_1 u_3 he_4) (cwV 1 hts gX13_layerCells_X13_goes rfl rfl rfl (by decide +kernel) ⟨Nat.le_of_ble_eq_true rfl, Nat.le_of_ble_eq_true rfl⟩) (wc := (ce_X13 kA q_this o_this)) (ci := 9) (q0 := 0) rfl rfl rfl hl.1 (As := [.int u_1]) (rest := []) rfl (Nat.le_of_ble_eq_true rfl) dX13_layerCells_6 ⟨Nat.le_of_ble_eq_true rfl, Nat.le_of_ble_eq_true rfl⟩ hK hP hD hS hA [0, 1, 2, 3, 4, 5, 6, 7, 8, 9, 10, 11, 12, 13, 14, 15, 16, 17, 18, 19, 20, 21, 22, 23] [] [0, 1, 2, 3, 4, 5, 6, 7, 8, 9, 10, 11, 12, 13, 14, 15, 16, 17, 18, 19, 20, 21, 22, 23] rfl (by decide) rfl (by decide) (by decide) rfl (by decide) (wr := []) (w2 := (ce_X13 kA q_this u_3.2)) (fun H locs hP hD hS => ?_)
  have hP : va_P D vwCl (ce_X13 kA q_this u_3.2) H := hP
  refine lv_if_ne (tgt := 14) hx hb dX13_layerCells_9 (by decide) (fun hc_5 => ?_) (fun hc_5 => ?_)
  · rw [if_neg hc_5] at hf
    refine lv_iconst (v := 0) hx hb dX13_layerCells_14 (by decide) ?_
    refine lv_istore_n (lv' := [(2, .int (0 : Int32)), (0, .ref (q_this 0)), (1, .int a1)]) hx hb dX13_layerCells_15 rfl hl (by decide) rfl (fun ls hl => ?_)
    refine lv_iconst (v := 0) hx hb dX13_layerCells_16 (by decide) ?_
    refine lv_istore_n (lv' := [(3, .int (0 : Int32)), (2, .int (0 : Int32)), (0, .ref (q_this 0)), (1, .int a1)]) hx hb dX13_layerCells_17 rfl hl (by decide) rfl (fun ls hl => ?_)
    exact hL18 N u_3.2 a1 (0 : Int32) (0 : Int32) _ _ _ hP hD hS (lv_sub hl [2, 3, 1, 0] rfl) hf
  · rw [if_pos hc_5] at hf
    refine lv_iconst (v := 0) hx hb dX13_layerCells_12 (by decide) ?_
    rw [← Option.some.inj hf]
    exact mc_reti hx hb hr hlk hP hK hD hS dX13_layerCells_13
def ff_X13_beginsRun (N : Nat) (o_this : os_T) (a1 : Int32) (a2 : Int32) (a3 : Int32) : Option Int32 :=
  ((ff_X13_isOf N o_this a1 a2 a3).bind fun u_1 => (if u_1 = 0 then some (0 : Int32) else ((ff_X13_isOf N o_this a1 (a2 - (1 : Int32)) a3).bind fun u_4 => (if u_4 = 0 then some (1 : Int32) else some (0 : Int32)))))
set_option maxHeartbeats 4000000 in
set_option maxRecDepth 100000 in
theorem mm_X13_beginsRun (l : Launch) (D : va_G) (kA : Nat → ClassId) (N : Nat) (q_this : Nat → Nat) (o_this : os_T) (a1 : Int32) (a2 : Int32) (a3 : Int32) (out : Int32) (hf : ff_X13_beginsRun N o_this a1 a2 a3 = some out) : mc_C l D kA yX13_beginsRun wsX13_beginsRun ({ frames := 3, cells := 0, slots := 0, locals := 70 } : Room) [.ref (q_this 0), .int a1, .int a2, .int a3] (ce_X13 kA q_this o_this) (some (.int out)) (ce_X13 kA q_this o_this) := by
  refine mc_of (cc := cX13_beginsRun) (maxL := 4) (ret := (some .boolean)) (by decide) rfl (Nat.le_of_ble_eq_true rfl) ?_
  intro p e s m below meth c A B hD hP hS ls hl
  obtain ⟨hx, hb, hr, hlk, hml, hown, hts, hK, hA, hnm⟩ := B
  have hown : s.vm.findClass RX13 = some m.cls := hown
  have hl : lv_has ls 4 [(0, .ref (q_this 0)), (1, .int a1), (2, .int a2), (3, .int a3)] := hl
  unfold ff_X13_beginsRun at hf
  refine lv_aload_n hx hb dX13_beginsRun_0 rfl (lv_at hl 0 rfl) ?_
  refine lv_iload_n hx hb dX13_beginsRun_1 rfl (lv_at hl 1 rfl) ?_
  refine lv_iload_n hx hb dX13_beginsRun_2 rfl (lv_at hl 2 rfl) ?_
  refine lv_iload_n hx hb dX13_beginsRun_3 rfl (lv_at hl 3 rfl) ?_
  obtain ⟨u_1, he_2, hf⟩ := os_bd hf
  refine mc_callV ⟨hx, hb, hml, hown, hts⟩ (mm_X13_isOf l D kA N q_this o_this a1 a2 a3 u_1 he_2) (cwV 3 hts gX13_beginsRun_X13_isOf rfl rfl rfl (by decide +kernel) ⟨Nat.le_of_ble_eq_true rfl, Nat.le_of_ble_eq_true rfl⟩) (wc := (ce_X13 kA q_this o_this)) (ci := 9) (q0 := 0) rfl rfl rfl hl.1 (As := [.int a1, .int a2, .int a3]) (rest := []) rfl (Nat.le_of_ble_eq_true rfl) dX13_beginsRun_4 ⟨Nat.le_of_ble_eq_true rfl, Nat.le_of_ble_eq_true rfl⟩ hK hP hD hS hA [0, 1, 2, 3, 4, 5, 6, 7, 8, 9, 10, 11, 12, 13, 14, 15, 16, 17, 18, 19, 20, 21, 22, 23] [] [0, 1, 2, 3, 4, 5, 6, 7, 8, 9, 10, 11, 12, 13, 14, 15, 16, 17, 18, 19, 20, 21, 22, 23] rfl (by decide) rfl (by decide) (by decide) rfl (by decide) (wr := []) (w2 := (ce_X13 kA q_this o_this)) (fun H locs hP hD hS => ?_)
  have hP : va_P D vwCl (ce_X13 kA q_this o_this) H := hP
  refine lv_if_eq (tgt := 26) hx hb dX13_beginsRun_7 (by decide) (fun hc_3 => ?_) (fun hc_3 => ?_)
  · rw [if_pos hc_3] at hf
    refine lv_iconst (v := 0) hx hb dX13_beginsRun_26 (by decide) ?_
    rw [← Option.some.inj hf]
    exact mc_retz (v := 0) hx hb hr rfl hlk hP hK hD hS dX13_beginsRun_27
  · rw [if_neg hc_3] at hf
    refine lv_aload_n hx hb dX13_beginsRun_10 rfl (lv_at hl 0 rfl) ?_
    refine lv_iload_n hx hb dX13_beginsRun_11 rfl (lv_at hl 1 rfl) ?_
    refine lv_iload_n hx hb dX13_beginsRun_12 rfl (lv_at hl 2 rfl) ?_
    refine lv_iconst (v := 1) hx hb dX13_beginsRun_13 (by decide) ?_
    refine lv_isub hx hb dX13_beginsRun_14 ?_
    refine lv_iload_n hx hb dX13_beginsRun_15 rfl (lv_at hl 3 rfl) ?_
    obtain ⟨u_4, he_5, hf⟩ := os_bd hf
    refine mc_callV ⟨hx, hb, hml, hown, hts⟩ (mm_X13_isOf l D kA N q_this o_this a1 (a2 - (1 : Int32)) a3 u_4 he_5) (cwV 3 hts gX13_beginsRun_X13_isOf rfl rfl rfl (by decide +kernel) ⟨Nat.le_of_ble_eq_true rfl, Nat.le_of_ble_eq_true rfl⟩) (wc := (ce_X13 kA q_this o_this)) (ci := 9) (q0 := 0) rfl rfl rfl hl.1 (As := [.int a1, .int (a2 - (1 : Int32)), .int a3]) (rest := []) rfl (Nat.le_of_ble_eq_true rfl) dX13_beginsRun_16 ⟨Nat.le_of_ble_eq_true rfl, Nat.le_of_ble_eq_true rfl⟩ hK hP hD hS hA [0, 1, 2, 3, 4, 5, 6, 7, 8, 9, 10, 11, 12, 13, 14, 15, 16, 17, 18, 19, 20, 21, 22, 23] [] [0, 1, 2, 3, 4, 5, 6, 7, 8, 9, 10, 11, 12, 13, 14, 15, 16, 17, 18, 19, 20, 21, 22, 23] rfl (by decide) rfl (by decide) (by decide) rfl (by decide) (wr := []) (w2 := (ce_X13 kA q_this o_this)) (fun H locs hP hD hS => ?_)
    have hP : va_P D vwCl (ce_X13 kA q_this o_this) H := hP
    refine lv_if_ne (tgt := 26) hx hb dX13_beginsRun_19 (by decide) (fun hc_6 => ?_) (fun hc_6 => ?_)
    · rw [if_neg hc_6] at hf
      refine lv_iconst (v := 0) hx hb dX13_beginsRun_26 (by decide) ?_
      rw [← Option.some.inj hf]
      exact mc_retz (v := 0) hx hb hr rfl hlk hP hK hD hS dX13_beginsRun_27
    · rw [if_pos hc_6] at hf
      refine lv_iconst (v := 1) hx hb dX13_beginsRun_22 (by decide) ?_
      refine lv_goto (tgt := 27) hx hb dX13_beginsRun_23 (by decide) ?_
      rw [← Option.some.inj hf]
      exact mc_retz (v := 1) hx hb hr rfl hlk hP hK hD hS dX13_beginsRun_27
def ff_X13_runLength_c3 (N : Nat) (o_this : os_T) (k3 : (Int32 × Int32 × Int32 × Int32) → Option Int32) (x1 : Int32) (x2 : Int32) (x3 : Int32) (x4 : Int32) : Option Int32 :=
  ((ff_X13_isOf N o_this x1 (x2 + x4) x3).bind fun u_1 => (if u_1 = 0 then some x4 else k3 (x1, x2, x3, x4 + 1)))
def ff_X13_runLength_l3 (N : Nat) (o_this : os_T) : Nat → (Int32 × Int32 × Int32 × Int32) → Option Int32 := os_loop (fun k3 s1 => ff_X13_runLength_c3 N o_this k3 s1.1 s1.2.1 s1.2.2.1 s1.2.2.2)
def ff_X13_runLength (N : Nat) (o_this : os_T) (a1 : Int32) (a2 : Int32) (a3 : Int32) : Option Int32 :=
  ff_X13_runLength_l3 N o_this N (a1, a2, a3, (0 : Int32))
set_option maxHeartbeats 4000000 in
set_option maxRecDepth 100000 in
theorem mm_X13_runLength (l : Launch) (D : va_G) (kA : Nat → ClassId) (N : Nat) (q_this : Nat → Nat) (o_this : os_T) (a1 : Int32) (a2 : Int32) (a3 : Int32) (out : Int32) (hf : ff_X13_runLength N o_this a1 a2 a3 = some out) : mc_C l D kA yX13_runLength wsX13_runLength ({ frames := 3, cells := 0, slots := 0, locals := 70 } : Room) [.ref (q_this 0), .int a1, .int a2, .int a3] (ce_X13 kA q_this o_this) (some (.int out)) (ce_X13 kA q_this o_this) := by
  refine mc_of (cc := cX13_runLength) (maxL := 5) (ret := (some .int)) (by decide) rfl (Nat.le_of_ble_eq_true rfl) ?_
  intro p e s m below meth c A B hD hP hS ls hl
  obtain ⟨hx, hb, hr, hlk, hml, hown, hts, hK, hA, hnm⟩ := B
  have hown : s.vm.findClass RX13 = some m.cls := hown
  have hl : lv_has ls 5 [(0, .ref (q_this 0)), (1, .int a1), (2, .int a2), (3, .int a3)] := hl
  have hL3 : ∀ (n : Nat) (x1 : Int32) (x2 : Int32) (x3 : Int32) (x4 : Int32) (H : Heap) (locs : List Loc) (ls : Array Slot), va_P D vwCl (ce_X13 kA q_this o_this) H → va_D A (ce_X13 kA q_this o_this) → va_S A s.heap H locs → lv_has ls 5 [(0, .ref (q_this 0)), (1, .int x1), (2, .int x2), (3, .int x3), (4, .int x4)] → ff_X13_runLength_l3 N o_this n (x1, x2, x3, x4) = some out → W p l e ({ frames := 3, cells := 0, slots := 0, locals := 70 } : Room) s m [.ref (q_this 0), .int a1, .int a2, .int a3].toArray below meth c H locs 0 0 (MQ below (mc_Q D kA A (some (.int out)) (ce_X13 kA q_this o_this)) [.ref (q_this 0), .int a1, .int a2, .int a3].toArray s 0 0 A) (F0 m 3 ls []) := by
    intro n
    induction n with
    | zero => intro x1 x2 x3 x4 H locs ls _ _ _ _ hf; cases hf
    | succ n hk3 =>
      intro x1 x2 x3 x4 H locs ls hP hD hS hl hf
      have hf : ff_X13_runLength_c3 N o_this (ff_X13_runLength_l3 N o_this n) x1 x2 x3 x4 = some out := hf
      generalize hke : ff_X13_runLength_l3 N o_this n = k3 at hk3 hf
      unfold ff_X13_runLength_c3 at hf
      refine lv_aload_n hx hb dX13_runLength_3 rfl (lv_at hl 0 rfl) ?_
      refine lv_iload_n hx hb dX13_runLength_4 rfl (lv_at hl 1 rfl) ?_
      refine lv_iload_n hx hb dX13_runLength_5 rfl (lv_at hl 2 rfl) ?_
      refine lv_iload hx hb dX13_runLength_6 (lv_at hl 4 rfl) ?_
      refine lv_iadd hx hb dX13_runLength_8 ?_
      refine lv_iload_n hx hb dX13_runLength_9 rfl (lv_at hl 3 rfl) ?_
      obtain ⟨u_1, he_2, hf⟩ := os_bd hf
      refine mc_callV ⟨hx, hb, hml, hown, hts⟩ (mm_X13_isOf l D kA N q_this o_this x1 (x2 + x4) x3 u_1 he_2) (cwV 3 hts gX13_runLength_X13_isOf rfl rfl rfl (by decide +kernel) ⟨Nat.le_of_ble_eq_true rfl, Nat.le_of_ble_eq_true rfl⟩) (wc := (ce_X13 kA q_this o_this)) (ci := 9) (q0 := 0) rfl rfl rfl hl.1 (As := [.int x1, .int (x2 + x4), .int x3]) (rest := []) rfl (Nat.le_of_ble_eq_true rfl) dX13_runLength_10 ⟨Nat.le_of_ble_eq_true rfl, Nat.le_of_ble_eq_true rfl⟩ hK hP hD hS hA [0, 1, 2, 3, 4, 5, 6, 7, 8, 9, 10, 11, 12, 13, 14, 15, 16, 17, 18, 19, 20, 21, 22, 23] [] [0, 1, 2, 3, 4, 5, 6, 7, 8, 9, 10, 11, 12, 13, 14, 15, 16, 17, 18, 19, 20, 21, 22, 23] rfl (by decide) rfl (by decide) (by decide) rfl (by decide) (wr := []) (w2 := (ce_X13 kA q_this o_this)) (fun H locs hP hD hS => ?_)
      have hP : va_P D vwCl (ce_X13 kA q_this o_this) H := hP
      refine lv_if_eq (tgt := 22) hx hb dX13_runLength_13 (by decide) (fun hc_3 => ?_) (fun hc_3 => ?_)
      · rw [if_pos hc_3] at hf
        refine lv_iload hx hb dX13_runLength_22 (lv_at hl 4 rfl) ?_
        rw [← Option.some.inj hf]
        exact mc_reti hx hb hr hlk hP hK hD hS dX13_runLength_24
      · rw [if_neg hc_3] at hf
        refine lv_iinc (v := x4 + 1) (lv' := [(4, .int (x4 + 1)), (0, .ref (q_this 0)), (1, .int x1), (2, .int x2), (3, .int x3)]) hx hb dX13_runLength_16 hl (k := 4) rfl rfl (by decide) rfl (fun ls hl => ?_)
        refine lv_goto (tgt := 3) hx hb dX13_runLength_19 (by decide) ?_
        exact hk3 x1 x2 x3 (x4 + 1) _ _ _ hP hD hS (lv_sub hl [1, 2, 3, 4, 0] rfl) hf
  unfold ff_X13_runLength at hf
  refine lv_iconst (v := 0) hx hb dX13_runLength_0 (by decide) ?_
  refine lv_istore (lv' := [(4, .int (0 : Int32)), (0, .ref (q_this 0)), (1, .int a1), (2, .int a2), (3, .int a3)]) hx hb dX13_runLength_1 hl (by decide) rfl (fun ls hl => ?_)
  exact hL3 N a1 a2 a3 (0 : Int32) _ _ _ hP hD hS (lv_sub hl [1, 2, 3, 4, 0] rfl) hf
def ff_X13_runs_c18 (N : Nat) (k18 : (os_T × Int32 × Int32 × Int32) → Option (Int32 × os_T)) (o_this : os_T) (x1 : Int32) (x2 : Int32) (x3 : Int32) : Option (Int32 × os_T) :=
  ((ff_X13_cellMany N o_this).bind fun u_6 => (if u_6 ≤ x3 then some (x2, o_this) else (if os_in (0 : Int32) 7 then (if ¬ ((os_A o_this 1) (Int32.toNatClampNeg (0 : Int32))) = 0 then (if os_in (0 : Int32) 7 then (if ¬ ((os_A o_this 1) (Int32.toNatClampNeg (0 : Int32))) = 0 then ((ff_X13_beginsRun N o_this x1 (x3 - x3 / ((os_A o_this 1) (Int32.toNatClampNeg (0 : Int32))) * ((os_A o_this 1) (Int32.toNatClampNeg (0 : Int32)))) (x3 / ((os_A o_this 1) (Int32.toNatClampNeg (0 : Int32))))).bind fun u_13 => ((ff_X13_truth N u_13).bind fun u_15 => k18 (o_this, x1, x2 + u_15, x3 + 1))) else none) else none) else none) else none)))
def ff_X13_runs_l18 (N : Nat) : Nat → (os_T × Int32 × Int32 × Int32) → Option (Int32 × os_T) := os_loop (fun k18 s1 => ff_X13_runs_c18 N k18 s1.1 s1.2.1 s1.2.2.1 s1.2.2.2)
def ff_X13_runs (N : Nat) (o_this : os_T) (a1 : Int32) : Option (Int32 × os_T) :=
  ((ff_X13_isLayer N o_this a1).bind fun u_1 => ((ff_X13_goes N o_this u_1).bind fun u_3 => (if u_3.1 = 0 then some ((0 : Int32), u_3.2) else ff_X13_runs_l18 N N (u_3.2, a1, (0 : Int32), (0 : Int32)))))
set_option maxHeartbeats 4000000 in
set_option maxRecDepth 100000 in
theorem mm_X13_runs (l : Launch) (D : va_G) (kA : Nat → ClassId) (N : Nat) (q_this : Nat → Nat) (o_this : os_T) (a1 : Int32) (out : (Int32 × os_T)) (hf : ff_X13_runs N o_this a1 = some out) : mc_C l D kA yX13_runs wsX13_runs ({ frames := 4, cells := 0, slots := 0, locals := 93 } : Room) [.ref (q_this 0), .int a1] (ce_X13 kA q_this o_this) (some (.int out.1)) (ce_X13 kA q_this out.2) := by
  refine mc_of (cc := cX13_runs) (maxL := 4) (ret := (some .int)) (by decide) rfl (Nat.le_of_ble_eq_true rfl) ?_
  intro p e s m below meth c A B hD hP hS ls hl
  obtain ⟨hx, hb, hr, hlk, hml, hown, hts, hK, hA, hnm⟩ := B
  have hown : s.vm.findClass RX13 = some m.cls := hown
  have hl : lv_has ls 4 [(0, .ref (q_this 0)), (1, .int a1)] := hl
  have hUX13 : ∀ w ∈ u_ws RX13 TX13 48, w.before [.ref (q_this 0), .int a1].toArray s = true := fun w h => hts w (List.mem_cons_of_mem _ (List.mem_append_right _ h))
  have hL18 : ∀ (n : Nat) (o_this : os_T) (x1 : Int32) (x2 : Int32) (x3 : Int32) (H : Heap) (locs : List Loc) (ls : Array Slot), va_P D vwCl (ce_X13 kA q_this o_this) H → va_D A (ce_X13 kA q_this o_this) → va_S A s.heap H locs → lv_has ls 4 [(0, .ref (q_this 0)), (1, .int x1), (2, .int x2), (3, .int x3)] → ff_X13_runs_l18 N n (o_this, x1, x2, x3) = some out → W p l e ({ frames := 4, cells := 0, slots := 0, locals := 93 } : Room) s m [.ref (q_this 0), .int a1].toArray below meth c H locs 0 0 (MQ below (mc_Q D kA A (some (.int out.1)) (ce_X13 kA q_this out.2)) [.ref (q_this 0), .int a1].toArray s 0 0 A) (F0 m 18 ls []) := by
    intro n
    induction n with
    | zero => intro o_this x1 x2 x3 H locs ls _ _ _ _ hf; cases hf
    | succ n hk18 =>
      intro o_this x1 x2 x3 H locs ls hP hD hS hl hf
      have hf : ff_X13_runs_c18 N (ff_X13_runs_l18 N n) o_this x1 x2 x3 = some out := hf
      generalize hke : ff_X13_runs_l18 N n = k18 at hk18 hf
      unfold ff_X13_runs_c18 at hf
      refine lv_iload_n hx hb dX13_runs_18 rfl (lv_at hl 3 rfl) ?_
      refine lv_aload_n hx hb dX13_runs_19 rfl (lv_at hl 0 rfl) ?_
      obtain ⟨u_6, he_7, hf⟩ := os_bd hf
      refine mc_callV ⟨hx, hb, hml, hown, hts⟩ (mm_X13_cellMany l D kA N q_this o_this u_6 he_7) (cwV 0 hts gX13_runs_X13_cellMany rfl rfl rfl (by decide +kernel) ⟨Nat.le_of_ble_eq_true rfl, Nat.le_of_ble_eq_true rfl⟩) (wc := (ce_X13 kA q_this o_this)) (ci := 9) (q0 := 0) rfl rfl rfl hl.1 (As := []) (rest := [.int x3]) rfl (Nat.le_of_ble_eq_true rfl) dX13_runs_20 ⟨Nat.le_of_ble_eq_true rfl, Nat.le_of_ble_eq_true rfl⟩ hK hP hD hS hA [0, 1, 2, 3, 4, 5, 6, 7, 8, 9, 10, 11, 12, 13, 14, 15, 16, 17, 18, 19, 20, 21, 22, 23] [] [0, 1, 2, 3, 4, 5, 6, 7, 8, 9, 10, 11, 12, 13, 14, 15, 16, 17, 18, 19, 20, 21, 22, 23] rfl (by decide) rfl (by decide) (by decide) rfl (by decide) (wr := []) (w2 := (ce_X13 kA q_this o_this)) (fun H locs hP hD hS => ?_)
      have hP : va_P D vwCl (ce_X13 kA q_this o_this) H := hP
      refine lv_icmp_ge (tgt := 59) hx hb dX13_runs_23 (by decide) (fun hc_8 => ?_) (fun hc_8 => ?_)
      · rw [if_pos hc_8] at hf
        refine lv_iload_n hx hb dX13_runs_59 rfl (lv_at hl 2 rfl) ?_
        rw [← Option.some.inj hf]
        exact mc_reti hx hb hr hlk hP hK hD hS dX13_runs_60
      · rw [if_neg hc_8] at hf
        refine lv_iload_n hx hb dX13_runs_26 rfl (lv_at hl 2 rfl) ?_
        refine lv_aload_n hx hb dX13_runs_27 rfl (lv_at hl 0 rfl) ?_
        refine lv_iload_n hx hb dX13_runs_28 rfl (lv_at hl 1 rfl) ?_
        refine lv_iload_n hx hb dX13_runs_29 rfl (lv_at hl 3 rfl) ?_
        refine lv_aload_n hx hb dX13_runs_30 rfl (lv_at hl 0 rfl) ?_
        refine va_get (D := D) (ci := 9) (v := .ref (q_this 2)) (C := RX13) (T := TX13) (N := 48) hx hb hUX13 (fun _ h9 => h9) hown hK hP 0 rfl rfl 13 (by decide) (hts (Cond.fieldLink RX13 20 "ReliefBuilderModel" "now" "[I") (List.mem_of_getElem? (i := 1) rfl)) (fun _ h9 => h9) rfl dX13_runs_31 ?_
        refine lv_iconst (v := 0) hx hb dX13_runs_34 (by decide) ?_
        obtain ⟨hi_9, hf⟩ := os_if hf
        refine va_iald hx hb hK hP 2 0 rfl rfl hi_9 dX13_runs_35 ?_
        obtain ⟨hz_10, hf⟩ := os_if hf
        refine lv_irem hx hb dX13_runs_36 hz_10 ?_
        refine lv_iload_n hx hb dX13_runs_37 rfl (lv_at hl 3 rfl) ?_
        refine lv_aload_n hx hb dX13_runs_38 rfl (lv_at hl 0 rfl) ?_
        refine va_get (D := D) (ci := 9) (v := .ref (q_this 2)) (C := RX13) (T := TX13) (N := 48) hx hb hUX13 (fun _ h9 => h9) hown hK hP 0 rfl rfl 13 (by decide) (hts (Cond.fieldLink RX13 20 "ReliefBuilderModel" "now" "[I") (List.mem_of_getElem? (i := 1) rfl)) (fun _ h9 => h9) rfl dX13_runs_39 ?_
        refine lv_iconst (v := 0) hx hb dX13_runs_42 (by decide) ?_
        obtain ⟨hi_11, hf⟩ := os_if hf
        refine va_iald hx hb hK hP 2 0 rfl rfl hi_11 dX13_runs_43 ?_
        obtain ⟨hz_12, hf⟩ := os_if hf
        refine lv_idiv hx hb dX13_runs_44 hz_12 ?_
        obtain ⟨u_13, he_14, hf⟩ := os_bd hf
        refine mc_callV ⟨hx, hb, hml, hown, hts⟩ (mm_X13_beginsRun l D kA N q_this o_this x1 (x3 - x3 / ((os_A o_this 1) (Int32.toNatClampNeg (0 : Int32))) * ((os_A o_this 1) (Int32.toNatClampNeg (0 : Int32)))) (x3 / ((os_A o_this 1) (Int32.toNatClampNeg (0 : Int32)))) u_13 he_14) (cwV 3 hts gX13_runs_X13_beginsRun rfl rfl rfl (by decide +kernel) ⟨Nat.le_of_ble_eq_true rfl, Nat.le_of_ble_eq_true rfl⟩) (wc := (ce_X13 kA q_this o_this)) (ci := 9) (q0 := 0) rfl rfl rfl hl.1 (As := [.int x1, .int (x3 - x3 / ((os_A o_this 1) (Int32.toNatClampNeg (0 : Int32))) * ((os_A o_this 1) (Int32.toNatClampNeg (0 : Int32)))), .int (x3 / ((os_A o_this 1) (Int32.toNatClampNeg (0 : Int32))))]) (rest := [.int x2]) rfl (Nat.le_of_ble_eq_true rfl) dX13_runs_45 ⟨Nat.le_of_ble_eq_true rfl, Nat.le_of_ble_eq_true rfl⟩ hK hP hD hS hA [0, 1, 2, 3, 4, 5, 6, 7, 8, 9, 10, 11, 12, 13, 14, 15, 16, 17, 18, 19, 20, 21, 22, 23] [] [0, 1, 2, 3, 4, 5, 6, 7, 8, 9, 10, 11, 12, 13, 14, 15, 16, 17, 18, 19, 20, 21, 22, 23] rfl (by decide) rfl (by decide) (by decide) rfl (by decide) (wr := []) (w2 := (ce_X13 kA q_this o_this)) (fun H locs hP hD hS => ?_)
        have hP : va_P D vwCl (ce_X13 kA q_this o_this) H := hP
        obtain ⟨u_15, he_16, hf⟩ := os_bd hf
        refine mc_callS ⟨hx, hb, hml, hown, hts⟩ (mm_X13_truth l D kA N u_13 u_15 he_16) (va_cwS 1 hts gX13_runs_X13_truth rfl rfl rfl (by decide +kernel) ⟨Nat.le_of_ble_eq_true rfl, Nat.le_of_ble_eq_true rfl⟩) (wc := []) rfl hl.1 (As := [.int u_13]) (rest := [.int x2]) rfl (Nat.le_of_ble_eq_true rfl) dX13_runs_48 ⟨Nat.le_of_ble_eq_true rfl, Nat.le_of_ble_eq_true rfl⟩ hK hP hD hS hA [] [0, 1, 2, 3, 4, 5, 6, 7, 8, 9, 10, 11, 12, 13, 14, 15, 16, 17, 18, 19, 20, 21, 22, 23] [0, 1, 2, 3, 4, 5, 6, 7, 8, 9, 10, 11, 12, 13, 14, 15, 16, 17, 18, 19, 20, 21, 22, 23] rfl (by decide) rfl (by decide) (by decide) rfl (by decide) (wr := (ce_X13 kA q_this o_this)) (w2 := (ce_X13 kA q_this o_this)) (fun H locs hP hD hS => ?_)
        have hP : va_P D vwCl (ce_X13 kA q_this o_this) H := hP
        refine lv_iadd hx hb dX13_runs_51 ?_
        refine lv_istore_n (lv' := [(2, .int (x2 + u_15)), (0, .ref (q_this 0)), (1, .int x1), (3, .int x3)]) hx hb dX13_runs_52 rfl hl (by decide) rfl (fun ls hl => ?_)
        refine lv_iinc (v := x3 + 1) (lv' := [(3, .int (x3 + 1)), (2, .int (x2 + u_15)), (0, .ref (q_this 0)), (1, .int x1)]) hx hb dX13_runs_53 hl (k := 3) rfl rfl (by decide) rfl (fun ls hl => ?_)
        refine lv_goto (tgt := 18) hx hb dX13_runs_56 (by decide) ?_
        exact hk18 o_this x1 (x2 + u_15) (x3 + 1) _ _ _ hP hD hS (lv_sub hl [2, 3, 1, 0] rfl) hf
  unfold ff_X13_runs at hf
  refine lv_aload_n hx hb dX13_runs_0 rfl (lv_at hl 0 rfl) ?_
  refine lv_aload_n hx hb dX13_runs_1 rfl (lv_at hl 0 rfl) ?_
  refine lv_iload_n hx hb dX13_runs_2 rfl (lv_at hl 1 rfl) ?_
  obtain ⟨u_1, he_2, hf⟩ := os_bd hf
  refine mc_callV ⟨hx, hb, hml, hown, hts⟩ (mm_X13_isLayer l D kA N q_this o_this a1 u_1 he_2) (cwV 1 hts gX13_runs_X13_isLayer rfl rfl rfl (by decide +kernel) ⟨Nat.le_of_ble_eq_true rfl, Nat.le_of_ble_eq_true rfl⟩) (wc := (ce_X13 kA q_this o_this)) (ci := 9) (q0 := 0) rfl rfl rfl hl.1 (As := [.int a1]) (rest := [.ref (q_this 0)]) rfl (Nat.le_of_ble_eq_true rfl) dX13_runs_3 ⟨Nat.le_of_ble_eq_true rfl, Nat.le_of_ble_eq_true rfl⟩ hK hP hD hS hA [0, 1, 2, 3, 4, 5, 6, 7, 8, 9, 10, 11, 12, 13, 14, 15, 16, 17, 18, 19, 20, 21, 22, 23] [] [0, 1, 2, 3, 4, 5, 6, 7, 8, 9, 10, 11, 12, 13, 14, 15, 16, 17, 18, 19, 20, 21, 22, 23] rfl (by decide) rfl (by decide) (by decide) rfl (by decide) (wr := []) (w2 := (ce_X13 kA q_this o_this)) (fun H locs hP hD hS => ?_)
  have hP : va_P D vwCl (ce_X13 kA q_this o_this) H := hP
  obtain ⟨u_3, he_4, hf⟩ := os_bd hf
  refine mc_callV ⟨hx, hb, hml, hown, hts⟩ (mm_X13_goes l D kA N q_this o_this u_1 u_3 he_4) (cwV 1 hts gX13_runs_X13_goes rfl rfl rfl (by decide +kernel) ⟨Nat.le_of_ble_eq_true rfl, Nat.le_of_ble_eq_true rfl⟩) (wc := (ce_X13 kA q_this o_this)) (ci := 9) (q0 := 0) rfl rfl rfl hl.1 (As := [.int u_1]) (rest := []) rfl (Nat.le_of_ble_eq_true rfl) dX13_runs_6 ⟨Nat.le_of_ble_eq_true rfl, Nat.le_of_ble_eq_true rfl⟩ hK hP hD hS hA [0, 1, 2, 3, 4, 5, 6, 7, 8, 9, 10, 11, 12, 13, 14, 15, 16, 17, 18, 19, 20, 21, 22, 23] [] [0, 1, 2, 3, 4, 5, 6, 7, 8, 9, 10, 11, 12, 13, 14, 15, 16, 17, 18, 19, 20, 21, 22, 23] rfl (by decide) rfl (by decide) (by decide) rfl (by decide) (wr := []) (w2 := (ce_X13 kA q_this u_3.2)) (fun H locs hP hD hS => ?_)
  have hP : va_P D vwCl (ce_X13 kA q_this u_3.2) H := hP
  refine lv_if_ne (tgt := 14) hx hb dX13_runs_9 (by decide) (fun hc_5 => ?_) (fun hc_5 => ?_)
  · rw [if_neg hc_5] at hf
    refine lv_iconst (v := 0) hx hb dX13_runs_14 (by decide) ?_
    refine lv_istore_n (lv' := [(2, .int (0 : Int32)), (0, .ref (q_this 0)), (1, .int a1)]) hx hb dX13_runs_15 rfl hl (by decide) rfl (fun ls hl => ?_)
    refine lv_iconst (v := 0) hx hb dX13_runs_16 (by decide) ?_
    refine lv_istore_n (lv' := [(3, .int (0 : Int32)), (2, .int (0 : Int32)), (0, .ref (q_this 0)), (1, .int a1)]) hx hb dX13_runs_17 rfl hl (by decide) rfl (fun ls hl => ?_)
    exact hL18 N u_3.2 a1 (0 : Int32) (0 : Int32) _ _ _ hP hD hS (lv_sub hl [2, 3, 1, 0] rfl) hf
  · rw [if_pos hc_5] at hf
    refine lv_iconst (v := 0) hx hb dX13_runs_12 (by decide) ?_
    rw [← Option.some.inj hf]
    exact mc_reti hx hb hr hlk hP hK hD hS dX13_runs_13
def ff_X13_hasTwin (N : Nat) (o_this : os_T) (a1 : Int32) (a2 : Int32) (a3 : Int32) (a4 : Int32) : Option Int32 :=
  ((ff_X13_beginsRun N o_this a1 a2 a4).bind fun u_1 => (if u_1 = 0 then some (0 : Int32) else ((ff_X13_runLength N o_this a1 a2 a4).bind fun u_4 => ((ff_X13_runLength N o_this a1 a2 a3).bind fun u_6 => (if u_4 = u_6 then some (1 : Int32) else some (0 : Int32))))))
set_option maxHeartbeats 4000000 in
set_option maxRecDepth 100000 in
theorem mm_X13_hasTwin (l : Launch) (D : va_G) (kA : Nat → ClassId) (N : Nat) (q_this : Nat → Nat) (o_this : os_T) (a1 : Int32) (a2 : Int32) (a3 : Int32) (a4 : Int32) (out : Int32) (hf : ff_X13_hasTwin N o_this a1 a2 a3 a4 = some out) : mc_C l D kA yX13_hasTwin wsX13_hasTwin ({ frames := 4, cells := 0, slots := 0, locals := 94 } : Room) [.ref (q_this 0), .int a1, .int a2, .int a3, .int a4] (ce_X13 kA q_this o_this) (some (.int out)) (ce_X13 kA q_this o_this) := by
  refine mc_of (cc := cX13_hasTwin) (maxL := 5) (ret := (some .boolean)) (by decide) rfl (Nat.le_of_ble_eq_true rfl) ?_
  intro p e s m below meth c A B hD hP hS ls hl
  obtain ⟨hx, hb, hr, hlk, hml, hown, hts, hK, hA, hnm⟩ := B
  have hown : s.vm.findClass RX13 = some m.cls := hown
  have hl : lv_has ls 5 [(0, .ref (q_this 0)), (1, .int a1), (2, .int a2), (3, .int a3), (4, .int a4)] := hl
  unfold ff_X13_hasTwin at hf
  refine lv_aload_n hx hb dX13_hasTwin_0 rfl (lv_at hl 0 rfl) ?_
  refine lv_iload_n hx hb dX13_hasTwin_1 rfl (lv_at hl 1 rfl) ?_
  refine lv_iload_n hx hb dX13_hasTwin_2 rfl (lv_at hl 2 rfl) ?_
  refine lv_iload hx hb dX13_hasTwin_3 (lv_at hl 4 rfl) ?_
  obtain ⟨u_1, he_2, hf⟩ := os_bd hf
  refine mc_callV ⟨hx, hb, hml, hown, hts⟩ (mm_X13_beginsRun l D kA N q_this o_this a1 a2 a4 u_1 he_2) (cwV 3 hts gX13_hasTwin_X13_beginsRun rfl rfl rfl (by decide +kernel) ⟨Nat.le_of_ble_eq_true rfl, Nat.le_of_ble_eq_true rfl⟩) (wc := (ce_X13 kA q_this o_this)) (ci := 9) (q0 := 0) rfl rfl rfl hl.1 (As := [.int a1, .int a2, .int a4]) (rest := []) rfl (Nat.le_of_ble_eq_true rfl) dX13_hasTwin_5 ⟨Nat.le_of_ble_eq_true rfl, Nat.le_of_ble_eq_true rfl⟩ hK hP hD hS hA [0, 1, 2, 3, 4, 5, 6, 7, 8, 9, 10, 11, 12, 13, 14, 15, 16, 17, 18, 19, 20, 21, 22, 23] [] [0, 1, 2, 3, 4, 5, 6, 7, 8, 9, 10, 11, 12, 13, 14, 15, 16, 17, 18, 19, 20, 21, 22, 23] rfl (by decide) rfl (by decide) (by decide) rfl (by decide) (wr := []) (w2 := (ce_X13 kA q_this o_this)) (fun H locs hP hD hS => ?_)
  have hP : va_P D vwCl (ce_X13 kA q_this o_this) H := hP
  refine lv_if_eq (tgt := 33) hx hb dX13_hasTwin_8 (by decide) (fun hc_3 => ?_) (fun hc_3 => ?_)
  · rw [if_pos hc_3] at hf
    refine lv_iconst (v := 0) hx hb dX13_hasTwin_33 (by decide) ?_
    rw [← Option.some.inj hf]
    exact mc_retz (v := 0) hx hb hr rfl hlk hP hK hD hS dX13_hasTwin_34
  · rw [if_neg hc_3] at hf
    refine lv_aload_n hx hb dX13_hasTwin_11 rfl (lv_at hl 0 rfl) ?_
    refine lv_iload_n hx hb dX13_hasTwin_12 rfl (lv_at hl 1 rfl) ?_
    refine lv_iload_n hx hb dX13_hasTwin_13 rfl (lv_at hl 2 rfl) ?_
    refine lv_iload hx hb dX13_hasTwin_14 (lv_at hl 4 rfl) ?_
    obtain ⟨u_4, he_5, hf⟩ := os_bd hf
    refine mc_callV ⟨hx, hb, hml, hown, hts⟩ (mm_X13_runLength l D kA N q_this o_this a1 a2 a4 u_4 he_5) (cwV 3 hts gX13_hasTwin_X13_runLength rfl rfl rfl (by decide +kernel) ⟨Nat.le_of_ble_eq_true rfl, Nat.le_of_ble_eq_true rfl⟩) (wc := (ce_X13 kA q_this o_this)) (ci := 9) (q0 := 0) rfl rfl rfl hl.1 (As := [.int a1, .int a2, .int a4]) (rest := []) rfl (Nat.le_of_ble_eq_true rfl) dX13_hasTwin_16 ⟨Nat.le_of_ble_eq_true rfl, Nat.le_of_ble_eq_true rfl⟩ hK hP hD hS hA [0, 1, 2, 3, 4, 5, 6, 7, 8, 9, 10, 11, 12, 13, 14, 15, 16, 17, 18, 19, 20, 21, 22, 23] [] [0, 1, 2, 3, 4, 5, 6, 7, 8, 9, 10, 11, 12, 13, 14, 15, 16, 17, 18, 19, 20, 21, 22, 23] rfl (by decide) rfl (by decide) (by decide) rfl (by decide) (wr := []) (w2 := (ce_X13 kA q_this o_this)) (fun H locs hP hD hS => ?_)
    have hP : va_P D vwCl (ce_X13 kA q_this o_this) H := hP
    refine lv_aload_n hx hb dX13_hasTwin_19 rfl (lv_at hl 0 rfl) ?_
    refine lv_iload_n hx hb dX13_hasTwin_20 rfl (lv_at hl 1 rfl) ?_
    refine lv_iload_n hx hb dX13_hasTwin_21 rfl (lv_at hl 2 rfl) ?_
    refine lv_iload_n hx hb dX13_hasTwin_22 rfl (lv_at hl 3 rfl) ?_
    obtain ⟨u_6, he_7, hf⟩ := os_bd hf
    refine mc_callV ⟨hx, hb, hml, hown, hts⟩ (mm_X13_runLength l D kA N q_this o_this a1 a2 a3 u_6 he_7) (cwV 3 hts gX13_hasTwin_X13_runLength rfl rfl rfl (by decide +kernel) ⟨Nat.le_of_ble_eq_true rfl, Nat.le_of_ble_eq_true rfl⟩) (wc := (ce_X13 kA q_this o_this)) (ci := 9) (q0 := 0) rfl rfl rfl hl.1 (As := [.int a1, .int a2, .int a3]) (rest := [.int u_4]) rfl (Nat.le_of_ble_eq_true rfl) dX13_hasTwin_23 ⟨Nat.le_of_ble_eq_true rfl, Nat.le_of_ble_eq_true rfl⟩ hK hP hD hS hA [0, 1, 2, 3, 4, 5, 6, 7, 8, 9, 10, 11, 12, 13, 14, 15, 16, 17, 18, 19, 20, 21, 22, 23] [] [0, 1, 2, 3, 4, 5, 6, 7, 8, 9, 10, 11, 12, 13, 14, 15, 16, 17, 18, 19, 20, 21, 22, 23] rfl (by decide) rfl (by decide) (by decide) rfl (by decide) (wr := []) (w2 := (ce_X13 kA q_this o_this)) (fun H locs hP hD hS => ?_)
    have hP : va_P D vwCl (ce_X13 kA q_this o_this) H := hP
    refine lv_icmp_ne (tgt := 33) hx hb dX13_hasTwin_26 (by decide) (fun hc_8 => ?_) (fun hc_8 => ?_)
    · rw [if_neg hc_8] at hf
      refine lv_iconst (v := 0) hx hb dX13_hasTwin_33 (by decide) ?_
      rw [← Option.some.inj hf]
      exact mc_retz (v := 0) hx hb hr rfl hlk hP hK hD hS dX13_hasTwin_34
    · rw [if_pos hc_8] at hf
      refine lv_iconst (v := 1) hx hb dX13_hasTwin_29 (by decide) ?_
      refine lv_goto (tgt := 34) hx hb dX13_hasTwin_30 (by decide) ?_
      rw [← Option.some.inj hf]
      exact mc_retz (v := 1) hx hb hr rfl hlk hP hK hD hS dX13_hasTwin_34
def ff_X13_beginsRectangle (N : Nat) (o_this : os_T) (a1 : Int32) (a2 : Int32) (a3 : Int32) : Option Int32 :=
  ((ff_X13_beginsRun N o_this a1 a2 a3).bind fun u_1 => (if u_1 = 0 then some (0 : Int32) else ((ff_X13_hasTwin N o_this a1 a2 a3 (a3 - (1 : Int32))).bind fun u_4 => (if u_4 = 0 then some (1 : Int32) else some (0 : Int32)))))
set_option maxHeartbeats 4000000 in
set_option maxRecDepth 100000 in
theorem mm_X13_beginsRectangle (l : Launch) (D : va_G) (kA : Nat → ClassId) (N : Nat) (q_this : Nat → Nat) (o_this : os_T) (a1 : Int32) (a2 : Int32) (a3 : Int32) (out : Int32) (hf : ff_X13_beginsRectangle N o_this a1 a2 a3 = some out) : mc_C l D kA yX13_beginsRectangle wsX13_beginsRectangle ({ frames := 5, cells := 0, slots := 0, locals := 118 } : Room) [.ref (q_this 0), .int a1, .int a2, .int a3] (ce_X13 kA q_this o_this) (some (.int out)) (ce_X13 kA q_this o_this) := by
  refine mc_of (cc := cX13_beginsRectangle) (maxL := 4) (ret := (some .boolean)) (by decide) rfl (Nat.le_of_ble_eq_true rfl) ?_
  intro p e s m below meth c A B hD hP hS ls hl
  obtain ⟨hx, hb, hr, hlk, hml, hown, hts, hK, hA, hnm⟩ := B
  have hown : s.vm.findClass RX13 = some m.cls := hown
  have hl : lv_has ls 4 [(0, .ref (q_this 0)), (1, .int a1), (2, .int a2), (3, .int a3)] := hl
  unfold ff_X13_beginsRectangle at hf
  refine lv_aload_n hx hb dX13_beginsRectangle_0 rfl (lv_at hl 0 rfl) ?_
  refine lv_iload_n hx hb dX13_beginsRectangle_1 rfl (lv_at hl 1 rfl) ?_
  refine lv_iload_n hx hb dX13_beginsRectangle_2 rfl (lv_at hl 2 rfl) ?_
  refine lv_iload_n hx hb dX13_beginsRectangle_3 rfl (lv_at hl 3 rfl) ?_
  obtain ⟨u_1, he_2, hf⟩ := os_bd hf
  refine mc_callV ⟨hx, hb, hml, hown, hts⟩ (mm_X13_beginsRun l D kA N q_this o_this a1 a2 a3 u_1 he_2) (cwV 3 hts gX13_beginsRectangle_X13_beginsRun rfl rfl rfl (by decide +kernel) ⟨Nat.le_of_ble_eq_true rfl, Nat.le_of_ble_eq_true rfl⟩) (wc := (ce_X13 kA q_this o_this)) (ci := 9) (q0 := 0) rfl rfl rfl hl.1 (As := [.int a1, .int a2, .int a3]) (rest := []) rfl (Nat.le_of_ble_eq_true rfl) dX13_beginsRectangle_4 ⟨Nat.le_of_ble_eq_true rfl, Nat.le_of_ble_eq_true rfl⟩ hK hP hD hS hA [0, 1, 2, 3, 4, 5, 6, 7, 8, 9, 10, 11, 12, 13, 14, 15, 16, 17, 18, 19, 20, 21, 22, 23] [] [0, 1, 2, 3, 4, 5, 6, 7, 8, 9, 10, 11, 12, 13, 14, 15, 16, 17, 18, 19, 20, 21, 22, 23] rfl (by decide) rfl (by decide) (by decide) rfl (by decide) (wr := []) (w2 := (ce_X13 kA q_this o_this)) (fun H locs hP hD hS => ?_)
  have hP : va_P D vwCl (ce_X13 kA q_this o_this) H := hP
  refine lv_if_eq (tgt := 27) hx hb dX13_beginsRectangle_7 (by decide) (fun hc_3 => ?_) (fun hc_3 => ?_)
  · rw [if_pos hc_3] at hf
    refine lv_iconst (v := 0) hx hb dX13_beginsRectangle_27 (by decide) ?_
    rw [← Option.some.inj hf]
    exact mc_retz (v := 0) hx hb hr rfl hlk hP hK hD hS dX13_beginsRectangle_28
  · rw [if_neg hc_3] at hf
    refine lv_aload_n hx hb dX13_beginsRectangle_10 rfl (lv_at hl 0 rfl) ?_
    refine lv_iload_n hx hb dX13_beginsRectangle_11 rfl (lv_at hl 1 rfl) ?_
    refine lv_iload_n hx hb dX13_beginsRectangle_12 rfl (lv_at hl 2 rfl) ?_
    refine lv_iload_n hx hb dX13_beginsRectangle_13 rfl (lv_at hl 3 rfl) ?_
    refine lv_iload_n hx hb dX13_beginsRectangle_14 rfl (lv_at hl 3 rfl) ?_
    refine lv_iconst (v := 1) hx hb dX13_beginsRectangle_15 (by decide) ?_
    refine lv_isub hx hb dX13_beginsRectangle_16 ?_
    obtain ⟨u_4, he_5, hf⟩ := os_bd hf
    refine mc_callV ⟨hx, hb, hml, hown, hts⟩ (mm_X13_hasTwin l D kA N q_this o_this a1 a2 a3 (a3 - (1 : Int32)) u_4 he_5) (cwV 4 hts gX13_beginsRectangle_X13_hasTwin rfl rfl rfl (by decide +kernel) ⟨Nat.le_of_ble_eq_true rfl, Nat.le_of_ble_eq_true rfl⟩) (wc := (ce_X13 kA q_this o_this)) (ci := 9) (q0 := 0) rfl rfl rfl hl.1 (As := [.int a1, .int a2, .int a3, .int (a3 - (1 : Int32))]) (rest := []) rfl (Nat.le_of_ble_eq_true rfl) dX13_beginsRectangle_17 ⟨Nat.le_of_ble_eq_true rfl, Nat.le_of_ble_eq_true rfl⟩ hK hP hD hS hA [0, 1, 2, 3, 4, 5, 6, 7, 8, 9, 10, 11, 12, 13, 14, 15, 16, 17, 18, 19, 20, 21, 22, 23] [] [0, 1, 2, 3, 4, 5, 6, 7, 8, 9, 10, 11, 12, 13, 14, 15, 16, 17, 18, 19, 20, 21, 22, 23] rfl (by decide) rfl (by decide) (by decide) rfl (by decide) (wr := []) (w2 := (ce_X13 kA q_this o_this)) (fun H locs hP hD hS => ?_)
    have hP : va_P D vwCl (ce_X13 kA q_this o_this) H := hP
    refine lv_if_ne (tgt := 27) hx hb dX13_beginsRectangle_20 (by decide) (fun hc_6 => ?_) (fun hc_6 => ?_)
    · rw [if_neg hc_6] at hf
      refine lv_iconst (v := 0) hx hb dX13_beginsRectangle_27 (by decide) ?_
      rw [← Option.some.inj hf]
      exact mc_retz (v := 0) hx hb hr rfl hlk hP hK hD hS dX13_beginsRectangle_28
    · rw [if_pos hc_6] at hf
      refine lv_iconst (v := 1) hx hb dX13_beginsRectangle_23 (by decide) ?_
      refine lv_goto (tgt := 28) hx hb dX13_beginsRectangle_24 (by decide) ?_
      rw [← Option.some.inj hf]
      exact mc_retz (v := 1) hx hb hr rfl hlk hP hK hD hS dX13_beginsRectangle_28
def ff_X13_rectanglesOf_c4 (N : Nat) (o_this : os_T) (k4 : (Int32 × Int32 × Int32) → Option Int32) (x1 : Int32) (x2 : Int32) (x3 : Int32) : Option Int32 :=
  ((ff_X13_cellMany N o_this).bind fun u_1 => (if u_1 ≤ x3 then some x2 else (if os_in (0 : Int32) 7 then (if ¬ ((os_A o_this 1) (Int32.toNatClampNeg (0 : Int32))) = 0 then (if os_in (0 : Int32) 7 then (if ¬ ((os_A o_this 1) (Int32.toNatClampNeg (0 : Int32))) = 0 then ((ff_X13_beginsRectangle N o_this x1 (x3 - x3 / ((os_A o_this 1) (Int32.toNatClampNeg (0 : Int32))) * ((os_A o_this 1) (Int32.toNatClampNeg (0 : Int32)))) (x3 / ((os_A o_this 1) (Int32.toNatClampNeg (0 : Int32))))).bind fun u_8 => ((ff_X13_truth N u_8).bind fun u_10 => k4 (x1, x2 + u_10, x3 + 1))) else none) else none) else none) else none)))
def ff_X13_rectanglesOf_l4 (N : Nat) (o_this : os_T) : Nat → (Int32 × Int32 × Int32) → Option Int32 := os_loop (fun k4 s1 => ff_X13_rectanglesOf_c4 N o_this k4 s1.1 s1.2.1 s1.2.2)
def ff_X13_rectanglesOf (N : Nat) (o_this : os_T) (a1 : Int32) : Option Int32 :=
  ff_X13_rectanglesOf_l4 N o_this N (a1, (0 : Int32), (0 : Int32))
set_option maxHeartbeats 4000000 in
set_option maxRecDepth 100000 in
theorem mm_X13_rectanglesOf (l : Launch) (D : va_G) (kA : Nat → ClassId) (N : Nat) (q_this : Nat → Nat) (o_this : os_T) (a1 : Int32) (out : Int32) (hf : ff_X13_rectanglesOf N o_this a1 = some out) : mc_C l D kA yX13_rectanglesOf wsX13_rectanglesOf ({ frames := 6, cells := 0, slots := 0, locals := 141 } : Room) [.ref (q_this 0), .int a1] (ce_X13 kA q_this o_this) (some (.int out)) (ce_X13 kA q_this o_this) := by
  refine mc_of (cc := cX13_rectanglesOf) (maxL := 4) (ret := (some .int)) (by decide) rfl (Nat.le_of_ble_eq_true rfl) ?_
  intro p e s m below meth c A B hD hP hS ls hl
  obtain ⟨hx, hb, hr, hlk, hml, hown, hts, hK, hA, hnm⟩ := B
  have hown : s.vm.findClass RX13 = some m.cls := hown
  have hl : lv_has ls 4 [(0, .ref (q_this 0)), (1, .int a1)] := hl
  have hUX13 : ∀ w ∈ u_ws RX13 TX13 48, w.before [.ref (q_this 0), .int a1].toArray s = true := fun w h => hts w (List.mem_cons_of_mem _ (List.mem_append_right _ h))
  have hL4 : ∀ (n : Nat) (x1 : Int32) (x2 : Int32) (x3 : Int32) (H : Heap) (locs : List Loc) (ls : Array Slot), va_P D vwCl (ce_X13 kA q_this o_this) H → va_D A (ce_X13 kA q_this o_this) → va_S A s.heap H locs → lv_has ls 4 [(0, .ref (q_this 0)), (1, .int x1), (2, .int x2), (3, .int x3)] → ff_X13_rectanglesOf_l4 N o_this n (x1, x2, x3) = some out → W p l e ({ frames := 6, cells := 0, slots := 0, locals := 141 } : Room) s m [.ref (q_this 0), .int a1].toArray below meth c H locs 0 0 (MQ below (mc_Q D kA A (some (.int out)) (ce_X13 kA q_this o_this)) [.ref (q_this 0), .int a1].toArray s 0 0 A) (F0 m 4 ls []) := by
    intro n
    induction n with
    | zero => intro x1 x2 x3 H locs ls _ _ _ _ hf; cases hf
    | succ n hk4 =>
      intro x1 x2 x3 H locs ls hP hD hS hl hf
      have hf : ff_X13_rectanglesOf_c4 N o_this (ff_X13_rectanglesOf_l4 N o_this n) x1 x2 x3 = some out := hf
      generalize hke : ff_X13_rectanglesOf_l4 N o_this n = k4 at hk4 hf
      unfold ff_X13_rectanglesOf_c4 at hf
      refine lv_iload_n hx hb dX13_rectanglesOf_4 rfl (lv_at hl 3 rfl) ?_
      refine lv_aload_n hx hb dX13_rectanglesOf_5 rfl (lv_at hl 0 rfl) ?_
      obtain ⟨u_1, he_2, hf⟩ := os_bd hf
      refine mc_callV ⟨hx, hb, hml, hown, hts⟩ (mm_X13_cellMany l D kA N q_this o_this u_1 he_2) (cwV 0 hts gX13_rectanglesOf_X13_cellMany rfl rfl rfl (by decide +kernel) ⟨Nat.le_of_ble_eq_true rfl, Nat.le_of_ble_eq_true rfl⟩) (wc := (ce_X13 kA q_this o_this)) (ci := 9) (q0 := 0) rfl rfl rfl hl.1 (As := []) (rest := [.int x3]) rfl (Nat.le_of_ble_eq_true rfl) dX13_rectanglesOf_6 ⟨Nat.le_of_ble_eq_true rfl, Nat.le_of_ble_eq_true rfl⟩ hK hP hD hS hA [0, 1, 2, 3, 4, 5, 6, 7, 8, 9, 10, 11, 12, 13, 14, 15, 16, 17, 18, 19, 20, 21, 22, 23] [] [0, 1, 2, 3, 4, 5, 6, 7, 8, 9, 10, 11, 12, 13, 14, 15, 16, 17, 18, 19, 20, 21, 22, 23] rfl (by decide) rfl (by decide) (by decide) rfl (by decide) (wr := []) (w2 := (ce_X13 kA q_this o_this)) (fun H locs hP hD hS => ?_)
      have hP : va_P D vwCl (ce_X13 kA q_this o_this) H := hP
      refine lv_icmp_ge (tgt := 45) hx hb dX13_rectanglesOf_9 (by decide) (fun hc_3 => ?_) (fun hc_3 => ?_)
      · rw [if_pos hc_3] at hf
        refine lv_iload_n hx hb dX13_rectanglesOf_45 rfl (lv_at hl 2 rfl) ?_
        rw [← Option.some.inj hf]
        exact mc_reti hx hb hr hlk hP hK hD hS dX13_rectanglesOf_46
      · rw [if_neg hc_3] at hf
        refine lv_iload_n hx hb dX13_rectanglesOf_12 rfl (lv_at hl 2 rfl) ?_
        refine lv_aload_n hx hb dX13_rectanglesOf_13 rfl (lv_at hl 0 rfl) ?_
        refine lv_iload_n hx hb dX13_rectanglesOf_14 rfl (lv_at hl 1 rfl) ?_
        refine lv_iload_n hx hb dX13_rectanglesOf_15 rfl (lv_at hl 3 rfl) ?_
        refine lv_aload_n hx hb dX13_rectanglesOf_16 rfl (lv_at hl 0 rfl) ?_
        refine va_get (D := D) (ci := 9) (v := .ref (q_this 2)) (C := RX13) (T := TX13) (N := 48) hx hb hUX13 (fun _ h9 => h9) hown hK hP 0 rfl rfl 13 (by decide) (hts (Cond.fieldLink RX13 20 "ReliefBuilderModel" "now" "[I") (List.mem_of_getElem? (i := 1) rfl)) (fun _ h9 => h9) rfl dX13_rectanglesOf_17 ?_
        refine lv_iconst (v := 0) hx hb dX13_rectanglesOf_20 (by decide) ?_
        obtain ⟨hi_4, hf⟩ := os_if hf
        refine va_iald hx hb hK hP 2 0 rfl rfl hi_4 dX13_rectanglesOf_21 ?_
        obtain ⟨hz_5, hf⟩ := os_if hf
        refine lv_irem hx hb dX13_rectanglesOf_22 hz_5 ?_
        refine lv_iload_n hx hb dX13_rectanglesOf_23 rfl (lv_at hl 3 rfl) ?_
        refine lv_aload_n hx hb dX13_rectanglesOf_24 rfl (lv_at hl 0 rfl) ?_
        refine va_get (D := D) (ci := 9) (v := .ref (q_this 2)) (C := RX13) (T := TX13) (N := 48) hx hb hUX13 (fun _ h9 => h9) hown hK hP 0 rfl rfl 13 (by decide) (hts (Cond.fieldLink RX13 20 "ReliefBuilderModel" "now" "[I") (List.mem_of_getElem? (i := 1) rfl)) (fun _ h9 => h9) rfl dX13_rectanglesOf_25 ?_
        refine lv_iconst (v := 0) hx hb dX13_rectanglesOf_28 (by decide) ?_
        obtain ⟨hi_6, hf⟩ := os_if hf
        refine va_iald hx hb hK hP 2 0 rfl rfl hi_6 dX13_rectanglesOf_29 ?_
        obtain ⟨hz_7, hf⟩ := os_if hf
        refine lv_idiv hx hb dX13_rectanglesOf_30 hz_7 ?_
        obtain ⟨u_8, he_9, hf⟩ := os_bd hf
        refine mc_callV ⟨hx, hb, hml, hown, hts⟩ (mm_X13_beginsRectangle l D kA N q_this o_this x1 (x3 - x3 / ((os_A o_this 1) (Int32.toNatClampNeg (0 : Int32))) * ((os_A o_this 1) (Int32.toNatClampNeg (0 : Int32)))) (x3 / ((os_A o_this 1) (Int32.toNatClampNeg (0 : Int32)))) u_8 he_9) (cwV 3 hts gX13_rectanglesOf_X13_beginsRectangle rfl rfl rfl (by decide +kernel) ⟨Nat.le_of_ble_eq_true rfl, Nat.le_of_ble_eq_true rfl⟩) (wc := (ce_X13 kA q_this o_this)) (ci := 9) (q0 := 0) rfl rfl rfl hl.1 (As := [.int x1, .int (x3 - x3 / ((os_A o_this 1) (Int32.toNatClampNeg (0 : Int32))) * ((os_A o_this 1) (Int32.toNatClampNeg (0 : Int32)))), .int (x3 / ((os_A o_this 1) (Int32.toNatClampNeg (0 : Int32))))]) (rest := [.int x2]) rfl (Nat.le_of_ble_eq_true rfl) dX13_rectanglesOf_31 ⟨Nat.le_of_ble_eq_true rfl, Nat.le_of_ble_eq_true rfl⟩ hK hP hD hS hA [0, 1, 2, 3, 4, 5, 6, 7, 8, 9, 10, 11, 12, 13, 14, 15, 16, 17, 18, 19, 20, 21, 22, 23] [] [0, 1, 2, 3, 4, 5, 6, 7, 8, 9, 10, 11, 12, 13, 14, 15, 16, 17, 18, 19, 20, 21, 22, 23] rfl (by decide) rfl (by decide) (by decide) rfl (by decide) (wr := []) (w2 := (ce_X13 kA q_this o_this)) (fun H locs hP hD hS => ?_)
        have hP : va_P D vwCl (ce_X13 kA q_this o_this) H := hP
        obtain ⟨u_10, he_11, hf⟩ := os_bd hf
        refine mc_callS ⟨hx, hb, hml, hown, hts⟩ (mm_X13_truth l D kA N u_8 u_10 he_11) (va_cwS 1 hts gX13_rectanglesOf_X13_truth rfl rfl rfl (by decide +kernel) ⟨Nat.le_of_ble_eq_true rfl, Nat.le_of_ble_eq_true rfl⟩) (wc := []) rfl hl.1 (As := [.int u_8]) (rest := [.int x2]) rfl (Nat.le_of_ble_eq_true rfl) dX13_rectanglesOf_34 ⟨Nat.le_of_ble_eq_true rfl, Nat.le_of_ble_eq_true rfl⟩ hK hP hD hS hA [] [0, 1, 2, 3, 4, 5, 6, 7, 8, 9, 10, 11, 12, 13, 14, 15, 16, 17, 18, 19, 20, 21, 22, 23] [0, 1, 2, 3, 4, 5, 6, 7, 8, 9, 10, 11, 12, 13, 14, 15, 16, 17, 18, 19, 20, 21, 22, 23] rfl (by decide) rfl (by decide) (by decide) rfl (by decide) (wr := (ce_X13 kA q_this o_this)) (w2 := (ce_X13 kA q_this o_this)) (fun H locs hP hD hS => ?_)
        have hP : va_P D vwCl (ce_X13 kA q_this o_this) H := hP
        refine lv_iadd hx hb dX13_rectanglesOf_37 ?_
        refine lv_istore_n (lv' := [(2, .int (x2 + u_10)), (0, .ref (q_this 0)), (1, .int x1), (3, .int x3)]) hx hb dX13_rectanglesOf_38 rfl hl (by decide) rfl (fun ls hl => ?_)
        refine lv_iinc (v := x3 + 1) (lv' := [(3, .int (x3 + 1)), (2, .int (x2 + u_10)), (0, .ref (q_this 0)), (1, .int x1)]) hx hb dX13_rectanglesOf_39 hl (k := 3) rfl rfl (by decide) rfl (fun ls hl => ?_)
        refine lv_goto (tgt := 4) hx hb dX13_rectanglesOf_42 (by decide) ?_
        exact hk4 x1 (x2 + u_10) (x3 + 1) _ _ _ hP hD hS (lv_sub hl [2, 3, 1, 0] rfl) hf
  unfold ff_X13_rectanglesOf at hf
  refine lv_iconst (v := 0) hx hb dX13_rectanglesOf_0 (by decide) ?_
  refine lv_istore_n (lv' := [(2, .int (0 : Int32)), (0, .ref (q_this 0)), (1, .int a1)]) hx hb dX13_rectanglesOf_1 rfl hl (by decide) rfl (fun ls hl => ?_)
  refine lv_iconst (v := 0) hx hb dX13_rectanglesOf_2 (by decide) ?_
  refine lv_istore_n (lv' := [(3, .int (0 : Int32)), (2, .int (0 : Int32)), (0, .ref (q_this 0)), (1, .int a1)]) hx hb dX13_rectanglesOf_3 rfl hl (by decide) rfl (fun ls hl => ?_)
  exact hL4 N a1 (0 : Int32) (0 : Int32) _ _ _ hP hD hS (lv_sub hl [2, 3, 1, 0] rfl) hf
def ff_X13_rectangles (N : Nat) (o_this : os_T) (a1 : Int32) : Option (Int32 × os_T) :=
  ((ff_X13_isLayer N o_this a1).bind fun u_1 => ((ff_X13_goes N o_this u_1).bind fun u_3 => (if u_3.1 = 0 then some ((0 : Int32), u_3.2) else ((ff_X13_rectanglesOf N u_3.2 a1).bind fun u_6 => some (u_6, u_3.2)))))
set_option maxHeartbeats 4000000 in
set_option maxRecDepth 100000 in
theorem mm_X13_rectangles (l : Launch) (D : va_G) (kA : Nat → ClassId) (N : Nat) (q_this : Nat → Nat) (o_this : os_T) (a1 : Int32) (out : (Int32 × os_T)) (hf : ff_X13_rectangles N o_this a1 = some out) : mc_C l D kA yX13_rectangles wsX13_rectangles ({ frames := 7, cells := 0, slots := 0, locals := 164 } : Room) [.ref (q_this 0), .int a1] (ce_X13 kA q_this o_this) (some (.int out.1)) (ce_X13 kA q_this out.2) := by
  refine mc_of (cc := cX13_rectangles) (maxL := 2) (ret := (some .int)) (by decide) rfl (Nat.le_of_ble_eq_true rfl) ?_
  intro p e s m below meth c A B hD hP hS ls hl
  obtain ⟨hx, hb, hr, hlk, hml, hown, hts, hK, hA, hnm⟩ := B
  have hown : s.vm.findClass RX13 = some m.cls := hown
  have hl : lv_has ls 2 [(0, .ref (q_this 0)), (1, .int a1)] := hl
  unfold ff_X13_rectangles at hf
  refine lv_aload_n hx hb dX13_rectangles_0 rfl (lv_at hl 0 rfl) ?_
  refine lv_aload_n hx hb dX13_rectangles_1 rfl (lv_at hl 0 rfl) ?_
  refine lv_iload_n hx hb dX13_rectangles_2 rfl (lv_at hl 1 rfl) ?_
  obtain ⟨u_1, he_2, hf⟩ := os_bd hf
  refine mc_callV ⟨hx, hb, hml, hown, hts⟩ (mm_X13_isLayer l D kA N q_this o_this a1 u_1 he_2) (cwV 1 hts gX13_rectangles_X13_isLayer rfl rfl rfl (by decide +kernel) ⟨Nat.le_of_ble_eq_true rfl, Nat.le_of_ble_eq_true rfl⟩) (wc := (ce_X13 kA q_this o_this)) (ci := 9) (q0 := 0) rfl rfl rfl hl.1 (As := [.int a1]) (rest := [.ref (q_this 0)]) rfl (Nat.le_of_ble_eq_true rfl) dX13_rectangles_3 ⟨Nat.le_of_ble_eq_true rfl, Nat.le_of_ble_eq_true rfl⟩ hK hP hD hS hA [0, 1, 2, 3, 4, 5, 6, 7, 8, 9, 10, 11, 12, 13, 14, 15, 16, 17, 18, 19, 20, 21, 22, 23] [] [0, 1, 2, 3, 4, 5, 6, 7, 8, 9, 10, 11, 12, 13, 14, 15, 16, 17, 18, 19, 20, 21, 22, 23] rfl (by decide) rfl (by decide) (by decide) rfl (by decide) (wr := []) (w2 := (ce_X13 kA q_this o_this)) (fun H locs hP hD hS => ?_)
  have hP : va_P D vwCl (ce_X13 kA q_this o_this) H := hP
  obtain ⟨u_3, he_4, hf⟩ := os_bd hf
  refine mc_callV ⟨hx, hb, hml, hown, hts⟩ (mm_X13_goes l D kA N q_this o_this u_1 u_3 he_4) (cwV 1 hts gX13_rectangles_X13_goes rfl rfl rfl (by decide +kernel) ⟨Nat.le_of_ble_eq_true rfl, Nat.le_of_ble_eq_true rfl⟩) (wc := (ce_X13 kA q_this o_this)) (ci := 9) (q0 := 0) rfl rfl rfl hl.1 (As := [.int u_1]) (rest := []) rfl (Nat.le_of_ble_eq_true rfl) dX13_rectangles_6 ⟨Nat.le_of_ble_eq_true rfl, Nat.le_of_ble_eq_true rfl⟩ hK hP hD hS hA [0, 1, 2, 3, 4, 5, 6, 7, 8, 9, 10, 11, 12, 13, 14, 15, 16, 17, 18, 19, 20, 21, 22, 23] [] [0, 1, 2, 3, 4, 5, 6, 7, 8, 9, 10, 11, 12, 13, 14, 15, 16, 17, 18, 19, 20, 21, 22, 23] rfl (by decide) rfl (by decide) (by decide) rfl (by decide) (wr := []) (w2 := (ce_X13 kA q_this u_3.2)) (fun H locs hP hD hS => ?_)
  have hP : va_P D vwCl (ce_X13 kA q_this u_3.2) H := hP
  refine lv_if_eq (tgt := 20) hx hb dX13_rectangles_9 (by decide) (fun hc_5 => ?_) (fun hc_5 => ?_)
  · rw [if_pos hc_5] at hf
    refine lv_iconst (v := 0) hx hb dX13_rectangles_20 (by decide) ?_
    rw [← Option.some.inj hf]
    exact mc_reti hx hb hr hlk hP hK hD hS dX13_rectangles_21
  · rw [if_neg hc_5] at hf
    refine lv_aload_n hx hb dX13_rectangles_12 rfl (lv_at hl 0 rfl) ?_
    refine lv_iload_n hx hb dX13_rectangles_13 rfl (lv_at hl 1 rfl) ?_
    obtain ⟨u_6, he_7, hf⟩ := os_bd hf
    refine mc_callV ⟨hx, hb, hml, hown, hts⟩ (mm_X13_rectanglesOf l D kA N q_this u_3.2 a1 u_6 he_7) (cwV 1 hts gX13_rectangles_X13_rectanglesOf rfl rfl rfl (by decide +kernel) ⟨Nat.le_of_ble_eq_true rfl, Nat.le_of_ble_eq_true rfl⟩) (wc := (ce_X13 kA q_this u_3.2)) (ci := 9) (q0 := 0) rfl rfl rfl hl.1 (As := [.int a1]) (rest := []) rfl (Nat.le_of_ble_eq_true rfl) dX13_rectangles_14 ⟨Nat.le_of_ble_eq_true rfl, Nat.le_of_ble_eq_true rfl⟩ hK hP hD hS hA [0, 1, 2, 3, 4, 5, 6, 7, 8, 9, 10, 11, 12, 13, 14, 15, 16, 17, 18, 19, 20, 21, 22, 23] [] [0, 1, 2, 3, 4, 5, 6, 7, 8, 9, 10, 11, 12, 13, 14, 15, 16, 17, 18, 19, 20, 21, 22, 23] rfl (by decide) rfl (by decide) (by decide) rfl (by decide) (wr := []) (w2 := (ce_X13 kA q_this u_3.2)) (fun H locs hP hD hS => ?_)
    have hP : va_P D vwCl (ce_X13 kA q_this u_3.2) H := hP
    refine lv_goto (tgt := 21) hx hb dX13_rectangles_17 (by decide) ?_
    rw [← Option.some.inj hf]
    exact mc_reti hx hb hr hlk hP hK hD hS dX13_rectangles_21
def ff_X13_rowsOf_c3 (N : Nat) (o_this : os_T) (k3 : (Int32 × Int32 × Int32 × Int32) → Option Int32) (x1 : Int32) (x2 : Int32) (x3 : Int32) (x4 : Int32) : Option Int32 :=
  ((ff_X13_hasTwin N o_this x1 x2 x3 (x3 + x4)).bind fun u_1 => (if u_1 = 0 then some x4 else k3 (x1, x2, x3, x4 + 1)))
def ff_X13_rowsOf_l3 (N : Nat) (o_this : os_T) : Nat → (Int32 × Int32 × Int32 × Int32) → Option Int32 := os_loop (fun k3 s1 => ff_X13_rowsOf_c3 N o_this k3 s1.1 s1.2.1 s1.2.2.1 s1.2.2.2)
def ff_X13_rowsOf (N : Nat) (o_this : os_T) (a1 : Int32) (a2 : Int32) (a3 : Int32) : Option Int32 :=
  ff_X13_rowsOf_l3 N o_this N (a1, a2, a3, (1 : Int32))
set_option maxHeartbeats 4000000 in
set_option maxRecDepth 100000 in
theorem mm_X13_rowsOf (l : Launch) (D : va_G) (kA : Nat → ClassId) (N : Nat) (q_this : Nat → Nat) (o_this : os_T) (a1 : Int32) (a2 : Int32) (a3 : Int32) (out : Int32) (hf : ff_X13_rowsOf N o_this a1 a2 a3 = some out) : mc_C l D kA yX13_rowsOf wsX13_rowsOf ({ frames := 5, cells := 0, slots := 0, locals := 118 } : Room) [.ref (q_this 0), .int a1, .int a2, .int a3] (ce_X13 kA q_this o_this) (some (.int out)) (ce_X13 kA q_this o_this) := by
  refine mc_of (cc := cX13_rowsOf) (maxL := 5) (ret := (some .int)) (by decide) rfl (Nat.le_of_ble_eq_true rfl) ?_
  intro p e s m below meth c A B hD hP hS ls hl
  obtain ⟨hx, hb, hr, hlk, hml, hown, hts, hK, hA, hnm⟩ := B
  have hown : s.vm.findClass RX13 = some m.cls := hown
  have hl : lv_has ls 5 [(0, .ref (q_this 0)), (1, .int a1), (2, .int a2), (3, .int a3)] := hl
  have hL3 : ∀ (n : Nat) (x1 : Int32) (x2 : Int32) (x3 : Int32) (x4 : Int32) (H : Heap) (locs : List Loc) (ls : Array Slot), va_P D vwCl (ce_X13 kA q_this o_this) H → va_D A (ce_X13 kA q_this o_this) → va_S A s.heap H locs → lv_has ls 5 [(0, .ref (q_this 0)), (1, .int x1), (2, .int x2), (3, .int x3), (4, .int x4)] → ff_X13_rowsOf_l3 N o_this n (x1, x2, x3, x4) = some out → W p l e ({ frames := 5, cells := 0, slots := 0, locals := 118 } : Room) s m [.ref (q_this 0), .int a1, .int a2, .int a3].toArray below meth c H locs 0 0 (MQ below (mc_Q D kA A (some (.int out)) (ce_X13 kA q_this o_this)) [.ref (q_this 0), .int a1, .int a2, .int a3].toArray s 0 0 A) (F0 m 3 ls []) := by
    intro n
    induction n with
    | zero => intro x1 x2 x3 x4 H locs ls _ _ _ _ hf; cases hf
    | succ n hk3 =>
      intro x1 x2 x3 x4 H locs ls hP hD hS hl hf
      have hf : ff_X13_rowsOf_c3 N o_this (ff_X13_rowsOf_l3 N o_this n) x1 x2 x3 x4 = some out := hf
      generalize hke : ff_X13_rowsOf_l3 N o_this n = k3 at hk3 hf
      unfold ff_X13_rowsOf_c3 at hf
      refine lv_aload_n hx hb dX13_rowsOf_3 rfl (lv_at hl 0 rfl) ?_
      refine lv_iload_n hx hb dX13_rowsOf_4 rfl (lv_at hl 1 rfl) ?_
      refine lv_iload_n hx hb dX13_rowsOf_5 rfl (lv_at hl 2 rfl) ?_
      refine lv_iload_n hx hb dX13_rowsOf_6 rfl (lv_at hl 3 rfl) ?_
      refine lv_iload_n hx hb dX13_rowsOf_7 rfl (lv_at hl 3 rfl) ?_
      refine lv_iload hx hb dX13_rowsOf_8 (lv_at hl 4 rfl) ?_
      refine lv_iadd hx hb dX13_rowsOf_10 ?_
      obtain ⟨u_1, he_2, hf⟩ := os_bd hf
      refine mc_callV ⟨hx, hb, hml, hown, hts⟩ (mm_X13_hasTwin l D kA N q_this o_this x1 x2 x3 (x3 + x4) u_1 he_2) (cwV 4 hts gX13_rowsOf_X13_hasTwin rfl rfl rfl (by decide +kernel) ⟨Nat.le_of_ble_eq_true rfl, Nat.le_of_ble_eq_true rfl⟩) (wc := (ce_X13 kA q_this o_this)) (ci := 9) (q0 := 0) rfl rfl rfl hl.1 (As := [.int x1, .int x2, .int x3, .int (x3 + x4)]) (rest := []) rfl (Nat.le_of_ble_eq_true rfl) dX13_rowsOf_11 ⟨Nat.le_of_ble_eq_true rfl, Nat.le_of_ble_eq_true rfl⟩ hK hP hD hS hA [0, 1, 2, 3, 4, 5, 6, 7, 8, 9, 10, 11, 12, 13, 14, 15, 16, 17, 18, 19, 20, 21, 22, 23] [] [0, 1, 2, 3, 4, 5, 6, 7, 8, 9, 10, 11, 12, 13, 14, 15, 16, 17, 18, 19, 20, 21, 22, 23] rfl (by decide) rfl (by decide) (by decide) rfl (by decide) (wr := []) (w2 := (ce_X13 kA q_this o_this)) (fun H locs hP hD hS => ?_)
      have hP : va_P D vwCl (ce_X13 kA q_this o_this) H := hP
      refine lv_if_eq (tgt := 23) hx hb dX13_rowsOf_14 (by decide) (fun hc_3 => ?_) (fun hc_3 => ?_)
      · rw [if_pos hc_3] at hf
        refine lv_iload hx hb dX13_rowsOf_23 (lv_at hl 4 rfl) ?_
        rw [← Option.some.inj hf]
        exact mc_reti hx hb hr hlk hP hK hD hS dX13_rowsOf_25
      · rw [if_neg hc_3] at hf
        refine lv_iinc (v := x4 + 1) (lv' := [(4, .int (x4 + 1)), (0, .ref (q_this 0)), (1, .int x1), (2, .int x2), (3, .int x3)]) hx hb dX13_rowsOf_17 hl (k := 4) rfl rfl (by decide) rfl (fun ls hl => ?_)
        refine lv_goto (tgt := 3) hx hb dX13_rowsOf_20 (by decide) ?_
        exact hk3 x1 x2 x3 (x4 + 1) _ _ _ hP hD hS (lv_sub hl [1, 2, 3, 4, 0] rfl) hf
  unfold ff_X13_rowsOf at hf
  refine lv_iconst (v := 1) hx hb dX13_rowsOf_0 (by decide) ?_
  refine lv_istore (lv' := [(4, .int (1 : Int32)), (0, .ref (q_this 0)), (1, .int a1), (2, .int a2), (3, .int a3)]) hx hb dX13_rowsOf_1 hl (by decide) rfl (fun ls hl => ?_)
  exact hL3 N a1 a2 a3 (1 : Int32) _ _ _ hP hD hS (lv_sub hl [1, 2, 3, 4, 0] rfl) hf
def ff_X13_rectangle_b101 (N : Nat) (k70 : (os_T × Int32 × Int32 × Int32 × Int32) → Option (Int32 × os_T)) (o_this : os_T) (x1 : Int32) (x3 : Int32) (x4 : Int32) (x5 : Int32) : Option (Int32 × os_T) :=
  (if os_in (0 : Int32) 7 then (if ¬ ((os_A o_this 1) (Int32.toNatClampNeg (0 : Int32))) = 0 then (if os_in (0 : Int32) 7 then (if ¬ ((os_A o_this 1) (Int32.toNatClampNeg (0 : Int32))) = 0 then ((ff_X13_beginsRectangle N o_this x1 (x4 - x4 / ((os_A o_this 1) (Int32.toNatClampNeg (0 : Int32))) * ((os_A o_this 1) (Int32.toNatClampNeg (0 : Int32)))) (x4 / ((os_A o_this 1) (Int32.toNatClampNeg (0 : Int32))))).bind fun u_38 => ((ff_X13_truth N u_38).bind fun u_40 => k70 (o_this, x1, x3, x4 + 1, x5 - u_40))) else none) else none) else none) else none)
def ff_X13_rectangle_c70 (N : Nat) (k70 : (os_T × Int32 × Int32 × Int32 × Int32) → Option (Int32 × os_T)) (o_this : os_T) (x1 : Int32) (x3 : Int32) (x4 : Int32) (x5 : Int32) : Option (Int32 × os_T) :=
  (if 0 < x5 then ff_X13_rectangle_b101 N k70 o_this x1 x3 x4 x5 else (if os_in (0 : Int32) 7 then (if ¬ ((os_A o_this 1) (Int32.toNatClampNeg (0 : Int32))) = 0 then (if os_in (0 : Int32) 7 then (if ¬ ((os_A o_this 1) (Int32.toNatClampNeg (0 : Int32))) = 0 then ((ff_X13_beginsRectangle N o_this x1 (x4 - x4 / ((os_A o_this 1) (Int32.toNatClampNeg (0 : Int32))) * ((os_A o_this 1) (Int32.toNatClampNeg (0 : Int32)))) (x4 / ((os_A o_this 1) (Int32.toNatClampNeg (0 : Int32))))).bind fun u_20 => (if u_20 = 0 then ff_X13_rectangle_b101 N k70 o_this x1 x3 x4 x5 else (if os_in (0 : Int32) 7 then (if ¬ ((os_A o_this 1) (Int32.toNatClampNeg (0 : Int32))) = 0 then (if os_in (0 : Int32) 7 then (if ¬ ((os_A o_this 1) (Int32.toNatClampNeg (0 : Int32))) = 0 then (if (2 : Int32) ≤ x3 then (if x3 = (2 : Int32) then ((ff_X13_runLength N o_this x1 (x4 - x4 / ((os_A o_this 1) (Int32.toNatClampNeg (0 : Int32))) * ((os_A o_this 1) (Int32.toNatClampNeg (0 : Int32)))) (x4 / ((os_A o_this 1) (Int32.toNatClampNeg (0 : Int32))))).bind fun u_31 => some (u_31, o_this)) else ((ff_X13_rowsOf N o_this x1 (x4 - x4 / ((os_A o_this 1) (Int32.toNatClampNeg (0 : Int32))) * ((os_A o_this 1) (Int32.toNatClampNeg (0 : Int32)))) (x4 / ((os_A o_this 1) (Int32.toNatClampNeg (0 : Int32))))).bind fun u_29 => some (u_29, o_this))) else (if x3 = 0 then some (x4 - x4 / ((os_A o_this 1) (Int32.toNatClampNeg (0 : Int32))) * ((os_A o_this 1) (Int32.toNatClampNeg (0 : Int32))), o_this) else some (x4 / ((os_A o_this 1) (Int32.toNatClampNeg (0 : Int32))), o_this))) else none) else none) else none) else none))) else none) else none) else none) else none))
def ff_X13_rectangle_l70 (N : Nat) : Nat → (os_T × Int32 × Int32 × Int32 × Int32) → Option (Int32 × os_T) := os_loop (fun k70 s1 => ff_X13_rectangle_c70 N k70 s1.1 s1.2.1 s1.2.2.1 s1.2.2.2.1 s1.2.2.2.2)
def ff_X13_rectangle_b52 (N : Nat) (o_this : os_T) (x1 : Int32) (x2 : Int32) (x3 : Int32) (t0 : Int32) : Option (Int32 × os_T) :=
  (if t0 ≤ 0 then ff_X13_rectangle_l70 N N (ss_I o_this 0 t0, x1, x3, (0 : Int32), x2) else some ((0 : Int32), ss_I o_this 0 t0))
def ff_X13_rectangle_b21 (N : Nat) (o_this : os_T) (x1 : Int32) (x2 : Int32) (x3 : Int32) : Option (Int32 × os_T) :=
  ff_X13_rectangle_b52 N o_this x1 x2 x3 (1 : Int32)
def ff_X13_rectangle_b47 (N : Nat) (o_this : os_T) (x1 : Int32) (x2 : Int32) (x3 : Int32) (t0 : Int32) : Option (Int32 × os_T) :=
  ((ff_X13_truth N t0).bind fun u_12 => ff_X13_rectangle_b52 N o_this x1 x2 x3 (u_12 * (2 : Int32)))
def ff_X13_rectangle (N : Nat) (o_this : os_T) (a1 : Int32) (a2 : Int32) (a3 : Int32) : Option (Int32 × os_T) :=
  ((ff_X13_isLayer N o_this a1).bind fun u_1 => (if u_1 = 0 then ff_X13_rectangle_b21 N o_this a1 a2 a3 else ((ff_X13_isIn N (Int32.toInt64 a3) (0 : Int64) (3 : Int64)).bind fun u_4 => (if u_4 = 0 then ff_X13_rectangle_b21 N o_this a1 a2 a3 else ((ff_X13_rectanglesOf N o_this a1).bind fun u_7 => ((ff_X13_isIn N (Int32.toInt64 a2) (0 : Int64) (Int32.toInt64 (u_7 - (1 : Int32)))).bind fun u_9 => (if u_9 = 0 then ff_X13_rectangle_b47 N o_this a1 a2 a3 (1 : Int32) else ff_X13_rectangle_b47 N o_this a1 a2 a3 (0 : Int32))))))))
set_option maxHeartbeats 4000000 in
set_option maxRecDepth 100000 in
theorem mm_X13_rectangle (l : Launch) (D : va_G) (kA : Nat → ClassId) (N : Nat) (q_this : Nat → Nat) (o_this : os_T) (a1 : Int32) (a2 : Int32) (a3 : Int32) (out : (Int32 × os_T)) (hf : ff_X13_rectangle N o_this a1 a2 a3 = some out) : mc_C l D kA yX13_rectangle wsX13_rectangle ({ frames := 7, cells := 0, slots := 0, locals := 164 } : Room) [.ref (q_this 0), .int a1, .int a2, .int a3] (ce_X13 kA q_this o_this) (some (.int out.1)) (ce_X13 kA q_this out.2) := by
  refine mc_of (cc := cX13_rectangle) (maxL := 8) (ret := (some .int)) (by decide) rfl (Nat.le_of_ble_eq_true rfl) ?_
  intro p e s m below meth c A B hD hP hS ls hl
  obtain ⟨hx, hb, hr, hlk, hml, hown, hts, hK, hA, hnm⟩ := B
  have hown : s.vm.findClass RX13 = some m.cls := hown
  have hl : lv_has ls 8 [(0, .ref (q_this 0)), (1, .int a1), (2, .int a2), (3, .int a3)] := hl
  have hUX13 : ∀ w ∈ u_ws RX13 TX13 48, w.before [.ref (q_this 0), .int a1, .int a2, .int a3].toArray s = true := fun w h => hts w (List.mem_cons_of_mem _ (List.mem_append_right _ h))
  have hB101 : ∀ (k70 : (os_T × Int32 × Int32 × Int32 × Int32) → Option (Int32 × os_T)), (∀ (o_this : os_T) (x1 : Int32) (x3 : Int32) (x4 : Int32) (x5 : Int32) (H : Heap) (locs : List Loc) (ls : Array Slot), va_P D vwCl (ce_X13 kA q_this o_this) H → va_D A (ce_X13 kA q_this o_this) → va_S A s.heap H locs → lv_has ls 8 [(0, .ref (q_this 0)), (1, .int x1), (3, .int x3), (4, .int x4), (5, .int x5)] → k70 (o_this, x1, x3, x4, x5) = some out → W p l e ({ frames := 7, cells := 0, slots := 0, locals := 164 } : Room) s m [.ref (q_this 0), .int a1, .int a2, .int a3].toArray below meth c H locs 0 0 (MQ below (mc_Q D kA A (some (.int out.1)) (ce_X13 kA q_this out.2)) [.ref (q_this 0), .int a1, .int a2, .int a3].toArray s 0 0 A) (F0 m 70 ls [])) → ∀ (o_this : os_T) (x1 : Int32) (x3 : Int32) (x4 : Int32) (x5 : Int32) (H : Heap) (locs : List Loc) (ls : Array Slot), va_P D vwCl (ce_X13 kA q_this o_this) H → va_D A (ce_X13 kA q_this o_this) → va_S A s.heap H locs → lv_has ls 8 [(0, .ref (q_this 0)), (1, .int x1), (3, .int x3), (4, .int x4), (5, .int x5)] → ff_X13_rectangle_b101 N k70 o_this x1 x3 x4 x5 = some out → W p l e ({ frames := 7, cells := 0, slots := 0, locals := 164 } : Room) s m [.ref (q_this 0), .int a1, .int a2, .int a3].toArray below meth c H locs 0 0 (MQ below (mc_Q D kA A (some (.int out.1)) (ce_X13 kA q_this out.2)) [.ref (q_this 0), .int a1, .int a2, .int a3].toArray s 0 0 A) (F0 m 101 ls []) := by
    intro k70 hk70 o_this x1 x3 x4 x5 H locs ls hP hD hS hl hf
    unfold ff_X13_rectangle_b101 at hf
    refine lv_iload hx hb dX13_rectangle_101 (lv_at hl 4 rfl) ?_
    refine lv_aload_n hx hb dX13_rectangle_103 rfl (lv_at hl 0 rfl) ?_
    refine lv_iload_n hx hb dX13_rectangle_104 rfl (lv_at hl 1 rfl) ?_
    refine lv_iload hx hb dX13_rectangle_105 (lv_at hl 3 rfl) ?_
    refine lv_aload_n hx hb dX13_rectangle_107 rfl (lv_at hl 0 rfl) ?_
    refine va_get (D := D) (ci := 9) (v := .ref (q_this 2)) (C := RX13) (T := TX13) (N := 48) hx hb hUX13 (fun _ h9 => h9) hown hK hP 0 rfl rfl 13 (by decide) (hts (Cond.fieldLink RX13 20 "ReliefBuilderModel" "now" "[I") (List.mem_of_getElem? (i := 3) rfl)) (fun _ h9 => h9) rfl dX13_rectangle_108 ?_
    refine lv_iconst (v := 0) hx hb dX13_rectangle_111 (by decide) ?_
    obtain ⟨hi_34, hf⟩ := os_if hf
    refine va_iald hx hb hK hP 2 0 rfl rfl hi_34 dX13_rectangle_112 ?_
    obtain ⟨hz_35, hf⟩ := os_if hf
    refine lv_irem hx hb dX13_rectangle_113 hz_35 ?_
    refine lv_iload hx hb dX13_rectangle_114 (lv_at hl 3 rfl) ?_
    refine lv_aload_n hx hb dX13_rectangle_116 rfl (lv_at hl 0 rfl) ?_
    refine va_get (D := D) (ci := 9) (v := .ref (q_this 2)) (C := RX13) (T := TX13) (N := 48) hx hb hUX13 (fun _ h9 => h9) hown hK hP 0 rfl rfl 13 (by decide) (hts (Cond.fieldLink RX13 20 "ReliefBuilderModel" "now" "[I") (List.mem_of_getElem? (i := 3) rfl)) (fun _ h9 => h9) rfl dX13_rectangle_117 ?_
    refine lv_iconst (v := 0) hx hb dX13_rectangle_120 (by decide) ?_
    obtain ⟨hi_36, hf⟩ := os_if hf
    refine va_iald hx hb hK hP 2 0 rfl rfl hi_36 dX13_rectangle_121 ?_
    obtain ⟨hz_37, hf⟩ := os_if hf
    refine lv_idiv hx hb dX13_rectangle_122 hz_37 ?_
    obtain ⟨u_38, he_39, hf⟩ := os_bd hf
    refine mc_callV ⟨hx, hb, hml, hown, hts⟩ (mm_X13_beginsRectangle l D kA N q_this o_this x1 (x4 - x4 / ((os_A o_this 1) (Int32.toNatClampNeg (0 : Int32))) * ((os_A o_this 1) (Int32.toNatClampNeg (0 : Int32)))) (x4 / ((os_A o_this 1) (Int32.toNatClampNeg (0 : Int32)))) u_38 he_39) (cwV 3 hts gX13_rectangle_X13_beginsRectangle rfl rfl rfl (by decide +kernel) ⟨Nat.le_of_ble_eq_true rfl, Nat.le_of_ble_eq_true rfl⟩) (wc := (ce_X13 kA q_this o_this)) (ci := 9) (q0 := 0) rfl rfl rfl hl.1 (As := [.int x1, .int (x4 - x4 / ((os_A o_this 1) (Int32.toNatClampNeg (0 : Int32))) * ((os_A o_this 1) (Int32.toNatClampNeg (0 : Int32)))), .int (x4 / ((os_A o_this 1) (Int32.toNatClampNeg (0 : Int32))))]) (rest := [.int x5]) rfl (Nat.le_of_ble_eq_true rfl) dX13_rectangle_123 ⟨Nat.le_of_ble_eq_true rfl, Nat.le_of_ble_eq_true rfl⟩ hK hP hD hS hA [0, 1, 2, 3, 4, 5, 6, 7, 8, 9, 10, 11, 12, 13, 14, 15, 16, 17, 18, 19, 20, 21, 22, 23] [] [0, 1, 2, 3, 4, 5, 6, 7, 8, 9, 10, 11, 12, 13, 14, 15, 16, 17, 18, 19, 20, 21, 22, 23] rfl (by decide) rfl (by decide) (by decide) rfl (by decide) (wr := []) (w2 := (ce_X13 kA q_this o_this)) (fun H locs hP hD hS => ?_)
    have hP : va_P D vwCl (ce_X13 kA q_this o_this) H := hP
    obtain ⟨u_40, he_41, hf⟩ := os_bd hf
    refine mc_callS ⟨hx, hb, hml, hown, hts⟩ (mm_X13_truth l D kA N u_38 u_40 he_41) (va_cwS 1 hts gX13_rectangle_X13_truth rfl rfl rfl (by decide +kernel) ⟨Nat.le_of_ble_eq_true rfl, Nat.le_of_ble_eq_true rfl⟩) (wc := []) rfl hl.1 (As := [.int u_38]) (rest := [.int x5]) rfl (Nat.le_of_ble_eq_true rfl) dX13_rectangle_126 ⟨Nat.le_of_ble_eq_true rfl, Nat.le_of_ble_eq_true rfl⟩ hK hP hD hS hA [] [0, 1, 2, 3, 4, 5, 6, 7, 8, 9, 10, 11, 12, 13, 14, 15, 16, 17, 18, 19, 20, 21, 22, 23] [0, 1, 2, 3, 4, 5, 6, 7, 8, 9, 10, 11, 12, 13, 14, 15, 16, 17, 18, 19, 20, 21, 22, 23] rfl (by decide) rfl (by decide) (by decide) rfl (by decide) (wr := (ce_X13 kA q_this o_this)) (w2 := (ce_X13 kA q_this o_this)) (fun H locs hP hD hS => ?_)
    have hP : va_P D vwCl (ce_X13 kA q_this o_this) H := hP
    refine lv_isub hx hb dX13_rectangle_129 ?_
    refine lv_istore (lv' := [(5, .int (x5 - u_40)), (0, .ref (q_this 0)), (1, .int x1), (3, .int x3), (4, .int x4)]) hx hb dX13_rectangle_130 hl (by decide) rfl (fun ls hl => ?_)
    refine lv_iinc (v := x4 + 1) (lv' := [(4, .int (x4 + 1)), (5, .int (x5 - u_40)), (0, .ref (q_this 0)), (1, .int x1), (3, .int x3)]) hx hb dX13_rectangle_132 hl (k := 4) rfl rfl (by decide) rfl (fun ls hl => ?_)
    refine lv_goto (tgt := 70) hx hb dX13_rectangle_135 (by decide) ?_
    exact hk70 o_this x1 x3 (x4 + 1) (x5 - u_40) _ _ _ hP hD hS (lv_sub hl [2, 3, 4, 0, 1] rfl) hf
  have hL70 : ∀ (n : Nat) (o_this : os_T) (x1 : Int32) (x3 : Int32) (x4 : Int32) (x5 : Int32) (H : Heap) (locs : List Loc) (ls : Array Slot), va_P D vwCl (ce_X13 kA q_this o_this) H → va_D A (ce_X13 kA q_this o_this) → va_S A s.heap H locs → lv_has ls 8 [(0, .ref (q_this 0)), (1, .int x1), (3, .int x3), (4, .int x4), (5, .int x5)] → ff_X13_rectangle_l70 N n (o_this, x1, x3, x4, x5) = some out → W p l e ({ frames := 7, cells := 0, slots := 0, locals := 164 } : Room) s m [.ref (q_this 0), .int a1, .int a2, .int a3].toArray below meth c H locs 0 0 (MQ below (mc_Q D kA A (some (.int out.1)) (ce_X13 kA q_this out.2)) [.ref (q_this 0), .int a1, .int a2, .int a3].toArray s 0 0 A) (F0 m 70 ls []) := by
    intro n
    induction n with
    | zero => intro o_this x1 x3 x4 x5 H locs ls _ _ _ _ hf; cases hf
    | succ n hk70 =>
      intro o_this x1 x3 x4 x5 H locs ls hP hD hS hl hf
      have hf : ff_X13_rectangle_c70 N (ff_X13_rectangle_l70 N n) o_this x1 x3 x4 x5 = some out := hf
      generalize hke : ff_X13_rectangle_l70 N n = k70 at hk70 hf
      unfold ff_X13_rectangle_c70 at hf
      refine lv_iload hx hb dX13_rectangle_70 (lv_at hl 4 rfl) ?_
      refine lv_if_gt (tgt := 101) hx hb dX13_rectangle_72 (by decide) (fun hc_15 => ?_) (fun hc_15 => ?_)
      · rw [if_pos hc_15] at hf
        exact hB101 k70 hk70 o_this x1 x3 x4 x5 _ _ _ hP hD hS (lv_sub hl [0, 1, 2, 3, 4] rfl) hf
      · rw [if_neg hc_15] at hf
        refine lv_aload_n hx hb dX13_rectangle_75 rfl (lv_at hl 0 rfl) ?_
        refine lv_iload_n hx hb dX13_rectangle_76 rfl (lv_at hl 1 rfl) ?_
        refine lv_iload hx hb dX13_rectangle_77 (lv_at hl 3 rfl) ?_
        refine lv_aload_n hx hb dX13_rectangle_79 rfl (lv_at hl 0 rfl) ?_
        refine va_get (D := D) (ci := 9) (v := .ref (q_this 2)) (C := RX13) (T := TX13) (N := 48) hx hb hUX13 (fun _ h9 => h9) hown hK hP 0 rfl rfl 13 (by decide) (hts (Cond.fieldLink RX13 20 "ReliefBuilderModel" "now" "[I") (List.mem_of_getElem? (i := 3) rfl)) (fun _ h9 => h9) rfl dX13_rectangle_80 ?_
        refine lv_iconst (v := 0) hx hb dX13_rectangle_83 (by decide) ?_
        obtain ⟨hi_16, hf⟩ := os_if hf
        refine va_iald hx hb hK hP 2 0 rfl rfl hi_16 dX13_rectangle_84 ?_
        obtain ⟨hz_17, hf⟩ := os_if hf
        refine lv_irem hx hb dX13_rectangle_85 hz_17 ?_
        refine lv_iload hx hb dX13_rectangle_86 (lv_at hl 3 rfl) ?_
        refine lv_aload_n hx hb dX13_rectangle_88 rfl (lv_at hl 0 rfl) ?_
        refine va_get (D := D) (ci := 9) (v := .ref (q_this 2)) (C := RX13) (T := TX13) (N := 48) hx hb hUX13 (fun _ h9 => h9) hown hK hP 0 rfl rfl 13 (by decide) (hts (Cond.fieldLink RX13 20 "ReliefBuilderModel" "now" "[I") (List.mem_of_getElem? (i := 3) rfl)) (fun _ h9 => h9) rfl dX13_rectangle_89 ?_
        refine lv_iconst (v := 0) hx hb dX13_rectangle_92 (by decide) ?_
        obtain ⟨hi_18, hf⟩ := os_if hf
        refine va_iald hx hb hK hP 2 0 rfl rfl hi_18 dX13_rectangle_93 ?_
        obtain ⟨hz_19, hf⟩ := os_if hf
        refine lv_idiv hx hb dX13_rectangle_94 hz_19 ?_
        obtain ⟨u_20, he_21, hf⟩ := os_bd hf
        refine mc_callV ⟨hx, hb, hml, hown, hts⟩ (mm_X13_beginsRectangle l D kA N q_this o_this x1 (x4 - x4 / ((os_A o_this 1) (Int32.toNatClampNeg (0 : Int32))) * ((os_A o_this 1) (Int32.toNatClampNeg (0 : Int32)))) (x4 / ((os_A o_this 1) (Int32.toNatClampNeg (0 : Int32)))) u_20 he_21) (cwV 3 hts gX13_rectangle_X13_beginsRectangle rfl rfl rfl (by decide +kernel) ⟨Nat.le_of_ble_eq_true rfl, Nat.le_of_ble_eq_true rfl⟩) (wc := (ce_X13 kA q_this o_this)) (ci := 9) (q0 := 0) rfl rfl rfl hl.1 (As := [.int x1, .int (x4 - x4 / ((os_A o_this 1) (Int32.toNatClampNeg (0 : Int32))) * ((os_A o_this 1) (Int32.toNatClampNeg (0 : Int32)))), .int (x4 / ((os_A o_this 1) (Int32.toNatClampNeg (0 : Int32))))]) (rest := []) rfl (Nat.le_of_ble_eq_true rfl) dX13_rectangle_95 ⟨Nat.le_of_ble_eq_true rfl, Nat.le_of_ble_eq_true rfl⟩ hK hP hD hS hA [0, 1, 2, 3, 4, 5, 6, 7, 8, 9, 10, 11, 12, 13, 14, 15, 16, 17, 18, 19, 20, 21, 22, 23] [] [0, 1, 2, 3, 4, 5, 6, 7, 8, 9, 10, 11, 12, 13, 14, 15, 16, 17, 18, 19, 20, 21, 22, 23] rfl (by decide) rfl (by decide) (by decide) rfl (by decide) (wr := []) (w2 := (ce_X13 kA q_this o_this)) (fun H locs hP hD hS => ?_)
        have hP : va_P D vwCl (ce_X13 kA q_this o_this) H := hP
        refine lv_if_ne (tgt := 138) hx hb dX13_rectangle_98 (by decide) (fun hc_22 => ?_) (fun hc_22 => ?_)
        · rw [if_neg hc_22] at hf
          refine lv_iload hx hb dX13_rectangle_138 (lv_at hl 3 rfl) ?_
          refine lv_aload_n hx hb dX13_rectangle_140 rfl (lv_at hl 0 rfl) ?_
          refine va_get (D := D) (ci := 9) (v := .ref (q_this 2)) (C := RX13) (T := TX13) (N := 48) hx hb hUX13 (fun _ h9 => h9) hown hK hP 0 rfl rfl 13 (by decide) (hts (Cond.fieldLink RX13 20 "ReliefBuilderModel" "now" "[I") (List.mem_of_getElem? (i := 3) rfl)) (fun _ h9 => h9) rfl dX13_rectangle_141 ?_
          refine lv_iconst (v := 0) hx hb dX13_rectangle_144 (by decide) ?_
          obtain ⟨hi_23, hf⟩ := os_if hf
          refine va_iald hx hb hK hP 2 0 rfl rfl hi_23 dX13_rectangle_145 ?_
          obtain ⟨hz_24, hf⟩ := os_if hf
          refine lv_irem hx hb dX13_rectangle_146 hz_24 ?_
          refine lv_istore (lv' := [(6, .int (x4 - x4 / ((os_A o_this 1) (Int32.toNatClampNeg (0 : Int32))) * ((os_A o_this 1) (Int32.toNatClampNeg (0 : Int32))))), (0, .ref (q_this 0)), (1, .int x1), (3, .int x3), (4, .int x4), (5, .int x5)]) hx hb dX13_rectangle_147 hl (by decide) rfl (fun ls hl => ?_)
          refine lv_iload hx hb dX13_rectangle_149 (lv_at hl 4 rfl) ?_
          refine lv_aload_n hx hb dX13_rectangle_151 rfl (lv_at hl 1 rfl) ?_
          refine va_get (D := D) (ci := 9) (v := .ref (q_this 2)) (C := RX13) (T := TX13) (N := 48) hx hb hUX13 (fun _ h9 => h9) hown hK hP 0 rfl rfl 13 (by decide) (hts (Cond.fieldLink RX13 20 "ReliefBuilderModel" "now" "[I") (List.mem_of_getElem? (i := 3) rfl)) (fun _ h9 => h9) rfl dX13_rectangle_152 ?_
          refine lv_iconst (v := 0) hx hb dX13_rectangle_155 (by decide) ?_
          obtain ⟨hi_25, hf⟩ := os_if hf
          refine va_iald hx hb hK hP 2 0 rfl rfl hi_25 dX13_rectangle_156 ?_
          obtain ⟨hz_26, hf⟩ := os_if hf
          refine lv_idiv hx hb dX13_rectangle_157 hz_26 ?_
          refine lv_istore (lv' := [(7, .int (x4 / ((os_A o_this 1) (Int32.toNatClampNeg (0 : Int32))))), (6, .int (x4 - x4 / ((os_A o_this 1) (Int32.toNatClampNeg (0 : Int32))) * ((os_A o_this 1) (Int32.toNatClampNeg (0 : Int32))))), (0, .ref (q_this 0)), (1, .int x1), (3, .int x3), (4, .int x4), (5, .int x5)]) hx hb dX13_rectangle_158 hl (by decide) rfl (fun ls hl => ?_)
          refine lv_iload_n hx hb dX13_rectangle_160 rfl (lv_at hl 4 rfl) ?_
          refine lv_iconst (v := 2) hx hb dX13_rectangle_161 (by decide) ?_
          refine lv_icmp_ge (tgt := 177) hx hb dX13_rectangle_162 (by decide) (fun hc_27 => ?_) (fun hc_27 => ?_)
          · rw [if_pos hc_27] at hf
            refine lv_iload_n hx hb dX13_rectangle_177 rfl (lv_at hl 4 rfl) ?_
            refine lv_iconst (v := 2) hx hb dX13_rectangle_178 (by decide) ?_
            refine lv_icmp_ne (tgt := 192) hx hb dX13_rectangle_179 (by decide) (fun hc_28 => ?_) (fun hc_28 => ?_)
            · rw [if_neg hc_28] at hf
              refine lv_aload_n hx hb dX13_rectangle_192 rfl (lv_at hl 2 rfl) ?_
              refine lv_iload_n hx hb dX13_rectangle_193 rfl (lv_at hl 3 rfl) ?_
              refine lv_iload hx hb dX13_rectangle_194 (lv_at hl 1 rfl) ?_
              refine lv_iload hx hb dX13_rectangle_196 (lv_at hl 0 rfl) ?_
              obtain ⟨u_29, he_30, hf⟩ := os_bd hf
              refine mc_callV ⟨hx, hb, hml, hown, hts⟩ (mm_X13_rowsOf l D kA N q_this o_this x1 (x4 - x4 / ((os_A o_this 1) (Int32.toNatClampNeg (0 : Int32))) * ((os_A o_this 1) (Int32.toNatClampNeg (0 : Int32)))) (x4 / ((os_A o_this 1) (Int32.toNatClampNeg (0 : Int32)))) u_29 he_30) (cwV 3 hts gX13_rectangle_X13_rowsOf rfl rfl rfl (by decide +kernel) ⟨Nat.le_of_ble_eq_true rfl, Nat.le_of_ble_eq_true rfl⟩) (wc := (ce_X13 kA q_this o_this)) (ci := 9) (q0 := 0) rfl rfl rfl hl.1 (As := [.int x1, .int (x4 - x4 / ((os_A o_this 1) (Int32.toNatClampNeg (0 : Int32))) * ((os_A o_this 1) (Int32.toNatClampNeg (0 : Int32)))), .int (x4 / ((os_A o_this 1) (Int32.toNatClampNeg (0 : Int32))))]) (rest := []) rfl (Nat.le_of_ble_eq_true rfl) dX13_rectangle_198 ⟨Nat.le_of_ble_eq_true rfl, Nat.le_of_ble_eq_true rfl⟩ hK hP hD hS hA [0, 1, 2, 3, 4, 5, 6, 7, 8, 9, 10, 11, 12, 13, 14, 15, 16, 17, 18, 19, 20, 21, 22, 23] [] [0, 1, 2, 3, 4, 5, 6, 7, 8, 9, 10, 11, 12, 13, 14, 15, 16, 17, 18, 19, 20, 21, 22, 23] rfl (by decide) rfl (by decide) (by decide) rfl (by decide) (wr := []) (w2 := (ce_X13 kA q_this o_this)) (fun H locs hP hD hS => ?_)
              have hP : va_P D vwCl (ce_X13 kA q_this o_this) H := hP
              rw [← Option.some.inj hf]
              exact mc_reti hx hb hr hlk hP hK hD hS dX13_rectangle_201
            · rw [if_pos hc_28] at hf
              refine lv_aload_n hx hb dX13_rectangle_182 rfl (lv_at hl 2 rfl) ?_
              refine lv_iload_n hx hb dX13_rectangle_183 rfl (lv_at hl 3 rfl) ?_
              refine lv_iload hx hb dX13_rectangle_184 (lv_at hl 1 rfl) ?_
              refine lv_iload hx hb dX13_rectangle_186 (lv_at hl 0 rfl) ?_
              obtain ⟨u_31, he_32, hf⟩ := os_bd hf
              refine mc_callV ⟨hx, hb, hml, hown, hts⟩ (mm_X13_runLength l D kA N q_this o_this x1 (x4 - x4 / ((os_A o_this 1) (Int32.toNatClampNeg (0 : Int32))) * ((os_A o_this 1) (Int32.toNatClampNeg (0 : Int32)))) (x4 / ((os_A o_this 1) (Int32.toNatClampNeg (0 : Int32)))) u_31 he_32) (cwV 3 hts gX13_rectangle_X13_runLength rfl rfl rfl (by decide +kernel) ⟨Nat.le_of_ble_eq_true rfl, Nat.le_of_ble_eq_true rfl⟩) (wc := (ce_X13 kA q_this o_this)) (ci := 9) (q0 := 0) rfl rfl rfl hl.1 (As := [.int x1, .int (x4 - x4 / ((os_A o_this 1) (Int32.toNatClampNeg (0 : Int32))) * ((os_A o_this 1) (Int32.toNatClampNeg (0 : Int32)))), .int (x4 / ((os_A o_this 1) (Int32.toNatClampNeg (0 : Int32))))]) (rest := []) rfl (Nat.le_of_ble_eq_true rfl) dX13_rectangle_188 ⟨Nat.le_of_ble_eq_true rfl, Nat.le_of_ble_eq_true rfl⟩ hK hP hD hS hA [0, 1, 2, 3, 4, 5, 6, 7, 8, 9, 10, 11, 12, 13, 14, 15, 16, 17, 18, 19, 20, 21, 22, 23] [] [0, 1, 2, 3, 4, 5, 6, 7, 8, 9, 10, 11, 12, 13, 14, 15, 16, 17, 18, 19, 20, 21, 22, 23] rfl (by decide) rfl (by decide) (by decide) rfl (by decide) (wr := []) (w2 := (ce_X13 kA q_this o_this)) (fun H locs hP hD hS => ?_)
              have hP : va_P D vwCl (ce_X13 kA q_this o_this) H := hP
              rw [← Option.some.inj hf]
              exact mc_reti hx hb hr hlk hP hK hD hS dX13_rectangle_191
          · rw [if_neg hc_27] at hf
            refine lv_iload_n hx hb dX13_rectangle_165 rfl (lv_at hl 4 rfl) ?_
            refine lv_if_ne (tgt := 174) hx hb dX13_rectangle_166 (by decide) (fun hc_33 => ?_) (fun hc_33 => ?_)
            · rw [if_neg hc_33] at hf
              refine lv_iload hx hb dX13_rectangle_174 (lv_at hl 0 rfl) ?_
              rw [← Option.some.inj hf]
              exact mc_reti hx hb hr hlk hP hK hD hS dX13_rectangle_176
            · rw [if_pos hc_33] at hf
              refine lv_iload hx hb dX13_rectangle_169 (lv_at hl 1 rfl) ?_
              refine lv_goto (tgt := 176) hx hb dX13_rectangle_171 (by decide) ?_
              rw [← Option.some.inj hf]
              exact mc_reti hx hb hr hlk hP hK hD hS dX13_rectangle_176
        · rw [if_pos hc_22] at hf
          exact hB101 k70 hk70 o_this x1 x3 x4 x5 _ _ _ hP hD hS (lv_sub hl [0, 1, 2, 3, 4] rfl) hf
  have hB52 : ∀ (o_this : os_T) (x1 : Int32) (x2 : Int32) (x3 : Int32) (t0 : Int32) (H : Heap) (locs : List Loc) (ls : Array Slot), va_P D vwCl (ce_X13 kA q_this o_this) H → va_D A (ce_X13 kA q_this o_this) → va_S A s.heap H locs → lv_has ls 8 [(0, .ref (q_this 0)), (1, .int x1), (2, .int x2), (3, .int x3)] → ff_X13_rectangle_b52 N o_this x1 x2 x3 t0 = some out → W p l e ({ frames := 7, cells := 0, slots := 0, locals := 164 } : Room) s m [.ref (q_this 0), .int a1, .int a2, .int a3].toArray below meth c H locs 0 0 (MQ below (mc_Q D kA A (some (.int out.1)) (ce_X13 kA q_this out.2)) [.ref (q_this 0), .int a1, .int a2, .int a3].toArray s 0 0 A) (F0 m 52 ls [.int t0, .ref (q_this 0)]) := by
    intro o_this x1 x2 x3 t0 H locs ls hP hD hS hl hf
    unfold ff_X13_rectangle_b52 at hf
    refine va_put (D := D) (ci := 9) (v := .int t0) (ty := .int) (C := RX13) (T := TX13) (N := 48) hx hb hUX13 (fun _ h9 => h9) tyX13 tyX13_ok nmX13 hown hK hP hD hS 0 rfl rfl 0 (by decide) (hts (Cond.fieldLink RX13 93 "ReliefBuilderModel" "code" "I") (List.mem_of_getElem? (i := 2) rfl)) (fun _ h9 => h9) rfl (tyX13_ok 0 (by decide)) rfl rfl (Nat.le_of_ble_eq_true rfl) dX13_rectangle_52 (fun H locs hP hD hS => ?_)
    have hP : va_P D vwCl (ce_X13 kA q_this (ss_I o_this 0 t0)) H := hP
    have hD : va_D A (ce_X13 kA q_this (ss_I o_this 0 t0)) := hD
    refine lv_aload_n hx hb dX13_rectangle_55 rfl (lv_at hl 0 rfl) ?_
    refine va_get (D := D) (ci := 9) (v := .int t0) (C := RX13) (T := TX13) (N := 48) hx hb hUX13 (fun _ h9 => h9) hown hK hP 0 rfl rfl 0 (by decide) (hts (Cond.fieldLink RX13 93 "ReliefBuilderModel" "code" "I") (List.mem_of_getElem? (i := 2) rfl)) (fun _ h9 => h9) rfl dX13_rectangle_56 ?_
    refine lv_if_le (tgt := 64) hx hb dX13_rectangle_59 (by decide) (fun hc_14 => ?_) (fun hc_14 => ?_)
    · rw [if_pos hc_14] at hf
      refine lv_iconst (v := 0) hx hb dX13_rectangle_64 (by decide) ?_
      refine lv_istore (lv' := [(4, .int (0 : Int32)), (0, .ref (q_this 0)), (1, .int x1), (2, .int x2), (3, .int x3)]) hx hb dX13_rectangle_65 hl (by decide) rfl (fun ls hl => ?_)
      refine lv_iload_n hx hb dX13_rectangle_67 rfl (lv_at hl 3 rfl) ?_
      refine lv_istore (lv' := [(5, .int x2), (4, .int (0 : Int32)), (0, .ref (q_this 0)), (1, .int x1), (2, .int x2), (3, .int x3)]) hx hb dX13_rectangle_68 hl (by decide) rfl (fun ls hl => ?_)
      exact hL70 N (ss_I o_this 0 t0) x1 x3 (0 : Int32) x2 _ _ _ hP hD hS (lv_sub hl [2, 3, 5, 1, 0] rfl) hf
    · rw [if_neg hc_14] at hf
      refine lv_iconst (v := 0) hx hb dX13_rectangle_62 (by decide) ?_
      rw [← Option.some.inj hf]
      exact mc_reti hx hb hr hlk hP hK hD hS dX13_rectangle_63
  have hB21 : ∀ (o_this : os_T) (x1 : Int32) (x2 : Int32) (x3 : Int32) (H : Heap) (locs : List Loc) (ls : Array Slot), va_P D vwCl (ce_X13 kA q_this o_this) H → va_D A (ce_X13 kA q_this o_this) → va_S A s.heap H locs → lv_has ls 8 [(0, .ref (q_this 0)), (1, .int x1), (2, .int x2), (3, .int x3)] → ff_X13_rectangle_b21 N o_this x1 x2 x3 = some out → W p l e ({ frames := 7, cells := 0, slots := 0, locals := 164 } : Room) s m [.ref (q_this 0), .int a1, .int a2, .int a3].toArray below meth c H locs 0 0 (MQ below (mc_Q D kA A (some (.int out.1)) (ce_X13 kA q_this out.2)) [.ref (q_this 0), .int a1, .int a2, .int a3].toArray s 0 0 A) (F0 m 21 ls [.ref (q_this 0)]) := by
    intro o_this x1 x2 x3 H locs ls hP hD hS hl hf
    unfold ff_X13_rectangle_b21 at hf
    refine lv_iconst (v := 1) hx hb dX13_rectangle_21 (by decide) ?_
    refine lv_goto (tgt := 52) hx hb dX13_rectangle_22 (by decide) ?_
    exact hB52 o_this x1 x2 x3 (1 : Int32) _ _ _ hP hD hS (lv_sub hl [0, 1, 2, 3] rfl) hf
  have hB47 : ∀ (o_this : os_T) (x1 : Int32) (x2 : Int32) (x3 : Int32) (t0 : Int32) (H : Heap) (locs : List Loc) (ls : Array Slot), va_P D vwCl (ce_X13 kA q_this o_this) H → va_D A (ce_X13 kA q_this o_this) → va_S A s.heap H locs → lv_has ls 8 [(0, .ref (q_this 0)), (1, .int x1), (2, .int x2), (3, .int x3)] → ff_X13_rectangle_b47 N o_this x1 x2 x3 t0 = some out → W p l e ({ frames := 7, cells := 0, slots := 0, locals := 164 } : Room) s m [.ref (q_this 0), .int a1, .int a2, .int a3].toArray below meth c H locs 0 0 (MQ below (mc_Q D kA A (some (.int out.1)) (ce_X13 kA q_this out.2)) [.ref (q_this 0), .int a1, .int a2, .int a3].toArray s 0 0 A) (F0 m 47 ls [.int t0, .ref (q_this 0)]) := by
    intro o_this x1 x2 x3 t0 H locs ls hP hD hS hl hf
    unfold ff_X13_rectangle_b47 at hf
    obtain ⟨u_12, he_13, hf⟩ := os_bd hf
    refine mc_callS ⟨hx, hb, hml, hown, hts⟩ (mm_X13_truth l D kA N t0 u_12 he_13) (va_cwS 1 hts gX13_rectangle_X13_truth rfl rfl rfl (by decide +kernel) ⟨Nat.le_of_ble_eq_true rfl, Nat.le_of_ble_eq_true rfl⟩) (wc := []) rfl hl.1 (As := [.int t0]) (rest := [.ref (q_this 0)]) rfl (Nat.le_of_ble_eq_true rfl) dX13_rectangle_47 ⟨Nat.le_of_ble_eq_true rfl, Nat.le_of_ble_eq_true rfl⟩ hK hP hD hS hA [] [0, 1, 2, 3, 4, 5, 6, 7, 8, 9, 10, 11, 12, 13, 14, 15, 16, 17, 18, 19, 20, 21, 22, 23] [0, 1, 2, 3, 4, 5, 6, 7, 8, 9, 10, 11, 12, 13, 14, 15, 16, 17, 18, 19, 20, 21, 22, 23] rfl (by decide) rfl (by decide) (by decide) rfl (by decide) (wr := (ce_X13 kA q_this o_this)) (w2 := (ce_X13 kA q_this o_this)) (fun H locs hP hD hS => ?_)
    have hP : va_P D vwCl (ce_X13 kA q_this o_this) H := hP
    refine lv_iconst (v := 2) hx hb dX13_rectangle_50 (by decide) ?_
    refine lv_imul hx hb dX13_rectangle_51 ?_
    exact hB52 o_this x1 x2 x3 (u_12 * (2 : Int32)) _ _ _ hP hD hS (lv_sub hl [0, 1, 2, 3] rfl) hf
  unfold ff_X13_rectangle at hf
  refine lv_aload_n hx hb dX13_rectangle_0 rfl (lv_at hl 0 rfl) ?_
  refine lv_aload_n hx hb dX13_rectangle_1 rfl (lv_at hl 0 rfl) ?_
  refine lv_iload_n hx hb dX13_rectangle_2 rfl (lv_at hl 1 rfl) ?_
  obtain ⟨u_1, he_2, hf⟩ := os_bd hf
  refine mc_callV ⟨hx, hb, hml, hown, hts⟩ (mm_X13_isLayer l D kA N q_this o_this a1 u_1 he_2) (cwV 1 hts gX13_rectangle_X13_isLayer rfl rfl rfl (by decide +kernel) ⟨Nat.le_of_ble_eq_true rfl, Nat.le_of_ble_eq_true rfl⟩) (wc := (ce_X13 kA q_this o_this)) (ci := 9) (q0 := 0) rfl rfl rfl hl.1 (As := [.int a1]) (rest := [.ref (q_this 0)]) rfl (Nat.le_of_ble_eq_true rfl) dX13_rectangle_3 ⟨Nat.le_of_ble_eq_true rfl, Nat.le_of_ble_eq_true rfl⟩ hK hP hD hS hA [0, 1, 2, 3, 4, 5, 6, 7, 8, 9, 10, 11, 12, 13, 14, 15, 16, 17, 18, 19, 20, 21, 22, 23] [] [0, 1, 2, 3, 4, 5, 6, 7, 8, 9, 10, 11, 12, 13, 14, 15, 16, 17, 18, 19, 20, 21, 22, 23] rfl (by decide) rfl (by decide) (by decide) rfl (by decide) (wr := []) (w2 := (ce_X13 kA q_this o_this)) (fun H locs hP hD hS => ?_)
  have hP : va_P D vwCl (ce_X13 kA q_this o_this) H := hP
  refine lv_if_eq (tgt := 21) hx hb dX13_rectangle_6 (by decide) (fun hc_3 => ?_) (fun hc_3 => ?_)
  · rw [if_pos hc_3] at hf
    exact hB21 o_this a1 a2 a3 _ _ _ hP hD hS (lv_sub hl [0, 1, 2, 3] rfl) hf
  · rw [if_neg hc_3] at hf
    refine lv_iload_n hx hb dX13_rectangle_9 rfl (lv_at hl 3 rfl) ?_
    refine lv_i2l hx hb dX13_rectangle_10 rfl ?_
    refine lv_lconst (v := 0) hx hb dX13_rectangle_11 (by decide) ?_
    refine lv_ldc2 hx hb hown (hts (Cond.constantLong RX13 349 (3)) (List.mem_of_getElem? (i := 1) rfl)) dX13_rectangle_12 ?_
    obtain ⟨u_4, he_5, hf⟩ := os_bd hf
    refine mc_callS ⟨hx, hb, hml, hown, hts⟩ (mm_X13_isIn l D kA N (Int32.toInt64 a3) (0 : Int64) (3 : Int64) u_4 he_5) (va_cwS 3 hts gX13_rectangle_X13_isIn rfl rfl rfl (by decide +kernel) ⟨Nat.le_of_ble_eq_true rfl, Nat.le_of_ble_eq_true rfl⟩) (wc := []) rfl hl.1 (As := [.long (Int32.toInt64 a3), .long (0 : Int64), .long (3 : Int64)]) (rest := [.ref (q_this 0)]) rfl (Nat.le_of_ble_eq_true rfl) dX13_rectangle_15 ⟨Nat.le_of_ble_eq_true rfl, Nat.le_of_ble_eq_true rfl⟩ hK hP hD hS hA [] [0, 1, 2, 3, 4, 5, 6, 7, 8, 9, 10, 11, 12, 13, 14, 15, 16, 17, 18, 19, 20, 21, 22, 23] [0, 1, 2, 3, 4, 5, 6, 7, 8, 9, 10, 11, 12, 13, 14, 15, 16, 17, 18, 19, 20, 21, 22, 23] rfl (by decide) rfl (by decide) (by decide) rfl (by decide) (wr := (ce_X13 kA q_this o_this)) (w2 := (ce_X13 kA q_this o_this)) (fun H locs hP hD hS => ?_)
    have hP : va_P D vwCl (ce_X13 kA q_this o_this) H := hP
    refine lv_if_ne (tgt := 25) hx hb dX13_rectangle_18 (by decide) (fun hc_6 => ?_) (fun hc_6 => ?_)
    · rw [if_neg hc_6] at hf
      refine lv_iload_n hx hb dX13_rectangle_25 rfl (lv_at hl 2 rfl) ?_
      refine lv_i2l hx hb dX13_rectangle_26 rfl ?_
      refine lv_lconst (v := 0) hx hb dX13_rectangle_27 (by decide) ?_
      refine lv_aload_n hx hb dX13_rectangle_28 rfl (lv_at hl 0 rfl) ?_
      refine lv_iload_n hx hb dX13_rectangle_29 rfl (lv_at hl 1 rfl) ?_
      obtain ⟨u_7, he_8, hf⟩ := os_bd hf
      refine mc_callV ⟨hx, hb, hml, hown, hts⟩ (mm_X13_rectanglesOf l D kA N q_this o_this a1 u_7 he_8) (cwV 1 hts gX13_rectangle_X13_rectanglesOf rfl rfl rfl (by decide +kernel) ⟨Nat.le_of_ble_eq_true rfl, Nat.le_of_ble_eq_true rfl⟩) (wc := (ce_X13 kA q_this o_this)) (ci := 9) (q0 := 0) rfl rfl rfl hl.1 (As := [.int a1]) (rest := [.long (0 : Int64), .long (Int32.toInt64 a2), .ref (q_this 0)]) rfl (Nat.le_of_ble_eq_true rfl) dX13_rectangle_30 ⟨Nat.le_of_ble_eq_true rfl, Nat.le_of_ble_eq_true rfl⟩ hK hP hD hS hA [0, 1, 2, 3, 4, 5, 6, 7, 8, 9, 10, 11, 12, 13, 14, 15, 16, 17, 18, 19, 20, 21, 22, 23] [] [0, 1, 2, 3, 4, 5, 6, 7, 8, 9, 10, 11, 12, 13, 14, 15, 16, 17, 18, 19, 20, 21, 22, 23] rfl (by decide) rfl (by decide) (by decide) rfl (by decide) (wr := []) (w2 := (ce_X13 kA q_this o_this)) (fun H locs hP hD hS => ?_)
      have hP : va_P D vwCl (ce_X13 kA q_this o_this) H := hP
      refine lv_iconst (v := 1) hx hb dX13_rectangle_33 (by decide) ?_
      refine lv_isub hx hb dX13_rectangle_34 ?_
      refine lv_i2l hx hb dX13_rectangle_35 rfl ?_
      obtain ⟨u_9, he_10, hf⟩ := os_bd hf
      refine mc_callS ⟨hx, hb, hml, hown, hts⟩ (mm_X13_isIn l D kA N (Int32.toInt64 a2) (0 : Int64) (Int32.toInt64 (u_7 - (1 : Int32))) u_9 he_10) (va_cwS 3 hts gX13_rectangle_X13_isIn rfl rfl rfl (by decide +kernel) ⟨Nat.le_of_ble_eq_true rfl, Nat.le_of_ble_eq_true rfl⟩) (wc := []) rfl hl.1 (As := [.long (Int32.toInt64 a2), .long (0 : Int64), .long (Int32.toInt64 (u_7 - (1 : Int32)))]) (rest := [.ref (q_this 0)]) rfl (Nat.le_of_ble_eq_true rfl) dX13_rectangle_36 ⟨Nat.le_of_ble_eq_true rfl, Nat.le_of_ble_eq_true rfl⟩ hK hP hD hS hA [] [0, 1, 2, 3, 4, 5, 6, 7, 8, 9, 10, 11, 12, 13, 14, 15, 16, 17, 18, 19, 20, 21, 22, 23] [0, 1, 2, 3, 4, 5, 6, 7, 8, 9, 10, 11, 12, 13, 14, 15, 16, 17, 18, 19, 20, 21, 22, 23] rfl (by decide) rfl (by decide) (by decide) rfl (by decide) (wr := (ce_X13 kA q_this o_this)) (w2 := (ce_X13 kA q_this o_this)) (fun H locs hP hD hS => ?_)
      have hP : va_P D vwCl (ce_X13 kA q_this o_this) H := hP
      refine lv_if_ne (tgt := 46) hx hb dX13_rectangle_39 (by decide) (fun hc_11 => ?_) (fun hc_11 => ?_)
      · rw [if_neg hc_11] at hf
        refine lv_iconst (v := 0) hx hb dX13_rectangle_46 (by decide) ?_
        exact hB47 o_this a1 a2 a3 (0 : Int32) _ _ _ hP hD hS (lv_sub hl [0, 1, 2, 3] rfl) hf
      · rw [if_pos hc_11] at hf
        refine lv_iconst (v := 1) hx hb dX13_rectangle_42 (by decide) ?_
        refine lv_goto (tgt := 47) hx hb dX13_rectangle_43 (by decide) ?_
        exact hB47 o_this a1 a2 a3 (1 : Int32) _ _ _ hP hD hS (lv_sub hl [0, 1, 2, 3] rfl) hf
    · rw [if_pos hc_6] at hf
      exact hB21 o_this a1 a2 a3 _ _ _ hP hD hS (lv_sub hl [0, 1, 2, 3] rfl) hf
def ff_X13_rectangleAt_c103 (N : Nat) (k103 : (os_T × Int32 × Int32 × Int32 × Int32 × Int32) → Option (Int32 × os_T)) (o_this : os_T) (x1 : Int32) (x4 : Int32) (x5 : Int32) (x6 : Int32) (x7 : Int32) : Option (Int32 × os_T) :=
  (if os_in (0 : Int32) 7 then (if ((((os_A o_this 1) (Int32.toNatClampNeg (0 : Int32))) * x5) + x4) ≤ x7 then some (x6, o_this) else (if os_in (0 : Int32) 7 then (if ¬ ((os_A o_this 1) (Int32.toNatClampNeg (0 : Int32))) = 0 then (if os_in (0 : Int32) 7 then (if ¬ ((os_A o_this 1) (Int32.toNatClampNeg (0 : Int32))) = 0 then ((ff_X13_beginsRectangle N o_this x1 (x7 - x7 / ((os_A o_this 1) (Int32.toNatClampNeg (0 : Int32))) * ((os_A o_this 1) (Int32.toNatClampNeg (0 : Int32)))) (x7 / ((os_A o_this 1) (Int32.toNatClampNeg (0 : Int32))))).bind fun u_25 => ((ff_X13_truth N u_25).bind fun u_27 => k103 (o_this, x1, x4, x5, x6 + u_27, x7 + 1))) else none) else none) else none) else none)) else none)
def ff_X13_rectangleAt_l103 (N : Nat) : Nat → (os_T × Int32 × Int32 × Int32 × Int32 × Int32) → Option (Int32 × os_T) := os_loop (fun k103 s1 => ff_X13_rectangleAt_c103 N k103 s1.1 s1.2.1 s1.2.2.1 s1.2.2.2.1 s1.2.2.2.2.1 s1.2.2.2.2.2)
def ff_X13_rectangleAt_c79 (N : Nat) (k79 : (os_T × Int32 × Int32 × Int32) → Option (Int32 × os_T)) (o_this : os_T) (x1 : Int32) (x4 : Int32) (x5 : Int32) : Option (Int32 × os_T) :=
  ((ff_X13_beginsRectangle N o_this x1 x4 x5).bind fun u_16 => (if u_16 = 0 then k79 (o_this, x1, x4, x5 + (-1)) else ff_X13_rectangleAt_l103 N N (o_this, x1, x4, x5, (0 : Int32), (0 : Int32))))
def ff_X13_rectangleAt_l79 (N : Nat) : Nat → (os_T × Int32 × Int32 × Int32) → Option (Int32 × os_T) := os_loop (fun k79 s1 => ff_X13_rectangleAt_c79 N k79 s1.1 s1.2.1 s1.2.2.1 s1.2.2.2)
def ff_X13_rectangleAt_c59 (N : Nat) (k59 : (os_T × Int32 × Int32 × Int32) → Option (Int32 × os_T)) (o_this : os_T) (x1 : Int32) (x3 : Int32) (x4 : Int32) : Option (Int32 × os_T) :=
  ((ff_X13_beginsRun N o_this x1 x4 x3).bind fun u_13 => (if u_13 = 0 then k59 (o_this, x1, x3, x4 + (-1)) else ff_X13_rectangleAt_l79 N N (o_this, x1, x4, x3)))
def ff_X13_rectangleAt_l59 (N : Nat) : Nat → (os_T × Int32 × Int32 × Int32) → Option (Int32 × os_T) := os_loop (fun k59 s1 => ff_X13_rectangleAt_c59 N k59 s1.1 s1.2.1 s1.2.2.1 s1.2.2.2)
def ff_X13_rectangleAt_b32 (N : Nat) (o_this : os_T) (x1 : Int32) (x2 : Int32) (x3 : Int32) (t0 : Int32) : Option (Int32 × os_T) :=
  (if t0 ≤ 0 then ((ff_X13_isOf N (ss_I o_this 0 t0) x1 x2 x3).bind fun u_10 => (if u_10 = 0 then some ((-1 : Int32), ss_I o_this 0 t0) else ff_X13_rectangleAt_l59 N N (ss_I o_this 0 t0, x1, x3, x2))) else some ((0 : Int32), ss_I o_this 0 t0))
def ff_X13_rectangleAt_b27 (N : Nat) (o_this : os_T) (x1 : Int32) (x2 : Int32) (x3 : Int32) (t0 : Int32) : Option (Int32 × os_T) :=
  ((ff_X13_truth N t0).bind fun u_7 => ff_X13_rectangleAt_b32 N o_this x1 x2 x3 (u_7 * (2 : Int32)))
def ff_X13_rectangleAt (N : Nat) (o_this : os_T) (a1 : Int32) (a2 : Int32) (a3 : Int32) : Option (Int32 × os_T) :=
  ((ff_X13_isCell N o_this a2 a3).bind fun u_1 => (if u_1 = 0 then ff_X13_rectangleAt_b32 N o_this a1 a2 a3 (1 : Int32) else ((ff_X13_isLayer N o_this a1).bind fun u_4 => (if u_4 = 0 then ff_X13_rectangleAt_b27 N o_this a1 a2 a3 (1 : Int32) else ff_X13_rectangleAt_b27 N o_this a1 a2 a3 (0 : Int32)))))
set_option maxHeartbeats 4000000 in
set_option maxRecDepth 100000 in
theorem mm_X13_rectangleAt (l : Launch) (D : va_G) (kA : Nat → ClassId) (N : Nat) (q_this : Nat → Nat) (o_this : os_T) (a1 : Int32) (a2 : Int32) (a3 : Int32) (out : (Int32 × os_T)) (hf : ff_X13_rectangleAt N o_this a1 a2 a3 = some out) : mc_C l D kA yX13_rectangleAt wsX13_rectangleAt ({ frames := 6, cells := 0, slots := 0, locals := 141 } : Room) [.ref (q_this 0), .int a1, .int a2, .int a3] (ce_X13 kA q_this o_this) (some (.int out.1)) (ce_X13 kA q_this out.2) := by
  refine mc_of (cc := cX13_rectangleAt) (maxL := 8) (ret := (some .int)) (by decide) rfl (Nat.le_of_ble_eq_true rfl) ?_
  intro p e s m below meth c A B hD hP hS ls hl
  obtain ⟨hx, hb, hr, hlk, hml, hown, hts, hK, hA, hnm⟩ := B
  have hown : s.vm.findClass RX13 = some m.cls := hown
  have hl : lv_has ls 8 [(0, .ref (q_this 0)), (1, .int a1), (2, .int a2), (3, .int a3)] := hl
  have hUX13 : ∀ w ∈ u_ws RX13 TX13 48, w.before [.ref (q_this 0), .int a1, .int a2, .int a3].toArray s = true := fun w h => hts w (List.mem_cons_of_mem _ (List.mem_append_right _ h))
  have hL103 : ∀ (n : Nat) (o_this : os_T) (x1 : Int32) (x4 : Int32) (x5 : Int32) (x6 : Int32) (x7 : Int32) (H : Heap) (locs : List Loc) (ls : Array Slot), va_P D vwCl (ce_X13 kA q_this o_this) H → va_D A (ce_X13 kA q_this o_this) → va_S A s.heap H locs → lv_has ls 8 [(0, .ref (q_this 0)), (1, .int x1), (4, .int x4), (5, .int x5), (6, .int x6), (7, .int x7)] → ff_X13_rectangleAt_l103 N n (o_this, x1, x4, x5, x6, x7) = some out → W p l e ({ frames := 6, cells := 0, slots := 0, locals := 141 } : Room) s m [.ref (q_this 0), .int a1, .int a2, .int a3].toArray below meth c H locs 0 0 (MQ below (mc_Q D kA A (some (.int out.1)) (ce_X13 kA q_this out.2)) [.ref (q_this 0), .int a1, .int a2, .int a3].toArray s 0 0 A) (F0 m 103 ls []) := by
    intro n
    induction n with
    | zero => intro o_this x1 x4 x5 x6 x7 H locs ls _ _ _ _ hf; cases hf
    | succ n hk103 =>
      intro o_this x1 x4 x5 x6 x7 H locs ls hP hD hS hl hf
      have hf : ff_X13_rectangleAt_c103 N (ff_X13_rectangleAt_l103 N n) o_this x1 x4 x5 x6 x7 = some out := hf
      generalize hke : ff_X13_rectangleAt_l103 N n = k103 at hk103 hf
      unfold ff_X13_rectangleAt_c103 at hf
      refine lv_iload hx hb dX13_rectangleAt_103 (lv_at hl 5 rfl) ?_
      refine lv_aload_n hx hb dX13_rectangleAt_105 rfl (lv_at hl 0 rfl) ?_
      refine va_get (D := D) (ci := 9) (v := .ref (q_this 2)) (C := RX13) (T := TX13) (N := 48) hx hb hUX13 (fun _ h9 => h9) hown hK hP 0 rfl rfl 13 (by decide) (hts (Cond.fieldLink RX13 20 "ReliefBuilderModel" "now" "[I") (List.mem_of_getElem? (i := 2) rfl)) (fun _ h9 => h9) rfl dX13_rectangleAt_106 ?_
      refine lv_iconst (v := 0) hx hb dX13_rectangleAt_109 (by decide) ?_
      obtain ⟨hi_19, hf⟩ := os_if hf
      refine va_iald hx hb hK hP 2 0 rfl rfl hi_19 dX13_rectangleAt_110 ?_
      refine lv_iload hx hb dX13_rectangleAt_111 (lv_at hl 3 rfl) ?_
      refine lv_imul hx hb dX13_rectangleAt_113 ?_
      refine lv_iload hx hb dX13_rectangleAt_114 (lv_at hl 2 rfl) ?_
      refine lv_iadd hx hb dX13_rectangleAt_116 ?_
      refine lv_icmp_ge (tgt := 157) hx hb dX13_rectangleAt_117 (by decide) (fun hc_20 => ?_) (fun hc_20 => ?_)
      · rw [if_pos hc_20] at hf
        refine lv_iload hx hb dX13_rectangleAt_157 (lv_at hl 4 rfl) ?_
        rw [← Option.some.inj hf]
        exact mc_reti hx hb hr hlk hP hK hD hS dX13_rectangleAt_159
      · rw [if_neg hc_20] at hf
        refine lv_iload hx hb dX13_rectangleAt_120 (lv_at hl 4 rfl) ?_
        refine lv_aload_n hx hb dX13_rectangleAt_122 rfl (lv_at hl 0 rfl) ?_
        refine lv_iload_n hx hb dX13_rectangleAt_123 rfl (lv_at hl 1 rfl) ?_
        refine lv_iload hx hb dX13_rectangleAt_124 (lv_at hl 5 rfl) ?_
        refine lv_aload_n hx hb dX13_rectangleAt_126 rfl (lv_at hl 0 rfl) ?_
        refine va_get (D := D) (ci := 9) (v := .ref (q_this 2)) (C := RX13) (T := TX13) (N := 48) hx hb hUX13 (fun _ h9 => h9) hown hK hP 0 rfl rfl 13 (by decide) (hts (Cond.fieldLink RX13 20 "ReliefBuilderModel" "now" "[I") (List.mem_of_getElem? (i := 2) rfl)) (fun _ h9 => h9) rfl dX13_rectangleAt_127 ?_
        refine lv_iconst (v := 0) hx hb dX13_rectangleAt_130 (by decide) ?_
        obtain ⟨hi_21, hf⟩ := os_if hf
        refine va_iald hx hb hK hP 2 0 rfl rfl hi_21 dX13_rectangleAt_131 ?_
        obtain ⟨hz_22, hf⟩ := os_if hf
        refine lv_irem hx hb dX13_rectangleAt_132 hz_22 ?_
        refine lv_iload hx hb dX13_rectangleAt_133 (lv_at hl 5 rfl) ?_
        refine lv_aload_n hx hb dX13_rectangleAt_135 rfl (lv_at hl 0 rfl) ?_
        refine va_get (D := D) (ci := 9) (v := .ref (q_this 2)) (C := RX13) (T := TX13) (N := 48) hx hb hUX13 (fun _ h9 => h9) hown hK hP 0 rfl rfl 13 (by decide) (hts (Cond.fieldLink RX13 20 "ReliefBuilderModel" "now" "[I") (List.mem_of_getElem? (i := 2) rfl)) (fun _ h9 => h9) rfl dX13_rectangleAt_136 ?_
        refine lv_iconst (v := 0) hx hb dX13_rectangleAt_139 (by decide) ?_
        obtain ⟨hi_23, hf⟩ := os_if hf
        refine va_iald hx hb hK hP 2 0 rfl rfl hi_23 dX13_rectangleAt_140 ?_
        obtain ⟨hz_24, hf⟩ := os_if hf
        refine lv_idiv hx hb dX13_rectangleAt_141 hz_24 ?_
        obtain ⟨u_25, he_26, hf⟩ := os_bd hf
        refine mc_callV ⟨hx, hb, hml, hown, hts⟩ (mm_X13_beginsRectangle l D kA N q_this o_this x1 (x7 - x7 / ((os_A o_this 1) (Int32.toNatClampNeg (0 : Int32))) * ((os_A o_this 1) (Int32.toNatClampNeg (0 : Int32)))) (x7 / ((os_A o_this 1) (Int32.toNatClampNeg (0 : Int32)))) u_25 he_26) (cwV 3 hts gX13_rectangleAt_X13_beginsRectangle rfl rfl rfl (by decide +kernel) ⟨Nat.le_of_ble_eq_true rfl, Nat.le_of_ble_eq_true rfl⟩) (wc := (ce_X13 kA q_this o_this)) (ci := 9) (q0 := 0) rfl rfl rfl hl.1 (As := [.int x1, .int (x7 - x7 / ((os_A o_this 1) (Int32.toNatClampNeg (0 : Int32))) * ((os_A o_this 1) (Int32.toNatClampNeg (0 : Int32)))), .int (x7 / ((os_A o_this 1) (Int32.toNatClampNeg (0 : Int32))))]) (rest := [.int x6]) rfl (Nat.le_of_ble_eq_true rfl) dX13_rectangleAt_142 ⟨Nat.le_of_ble_eq_true rfl, Nat.le_of_ble_eq_true rfl⟩ hK hP hD hS hA [0, 1, 2, 3, 4, 5, 6, 7, 8, 9, 10, 11, 12, 13, 14, 15, 16, 17, 18, 19, 20, 21, 22, 23] [] [0, 1, 2, 3, 4, 5, 6, 7, 8, 9, 10, 11, 12, 13, 14, 15, 16, 17, 18, 19, 20, 21, 22, 23] rfl (by decide) rfl (by decide) (by decide) rfl (by decide) (wr := []) (w2 := (ce_X13 kA q_this o_this)) (fun H locs hP hD hS => ?_)
        have hP : va_P D vwCl (ce_X13 kA q_this o_this) H := hP
        obtain ⟨u_27, he_28, hf⟩ := os_bd hf
        refine mc_callS ⟨hx, hb, hml, hown, hts⟩ (mm_X13_truth l D kA N u_25 u_27 he_28) (va_cwS 1 hts gX13_rectangleAt_X13_truth rfl rfl rfl (by decide +kernel) ⟨Nat.le_of_ble_eq_true rfl, Nat.le_of_ble_eq_true rfl⟩) (wc := []) rfl hl.1 (As := [.int u_25]) (rest := [.int x6]) rfl (Nat.le_of_ble_eq_true rfl) dX13_rectangleAt_145 ⟨Nat.le_of_ble_eq_true rfl, Nat.le_of_ble_eq_true rfl⟩ hK hP hD hS hA [] [0, 1, 2, 3, 4, 5, 6, 7, 8, 9, 10, 11, 12, 13, 14, 15, 16, 17, 18, 19, 20, 21, 22, 23] [0, 1, 2, 3, 4, 5, 6, 7, 8, 9, 10, 11, 12, 13, 14, 15, 16, 17, 18, 19, 20, 21, 22, 23] rfl (by decide) rfl (by decide) (by decide) rfl (by decide) (wr := (ce_X13 kA q_this o_this)) (w2 := (ce_X13 kA q_this o_this)) (fun H locs hP hD hS => ?_)
        have hP : va_P D vwCl (ce_X13 kA q_this o_this) H := hP
        refine lv_iadd hx hb dX13_rectangleAt_148 ?_
        refine lv_istore (lv' := [(6, .int (x6 + u_27)), (0, .ref (q_this 0)), (1, .int x1), (4, .int x4), (5, .int x5), (7, .int x7)]) hx hb dX13_rectangleAt_149 hl (by decide) rfl (fun ls hl => ?_)
        refine lv_iinc (v := x7 + 1) (lv' := [(7, .int (x7 + 1)), (6, .int (x6 + u_27)), (0, .ref (q_this 0)), (1, .int x1), (4, .int x4), (5, .int x5)]) hx hb dX13_rectangleAt_151 hl (k := 5) rfl rfl (by decide) rfl (fun ls hl => ?_)
        refine lv_goto (tgt := 103) hx hb dX13_rectangleAt_154 (by decide) ?_
        exact hk103 o_this x1 x4 x5 (x6 + u_27) (x7 + 1) _ _ _ hP hD hS (lv_sub hl [2, 3, 4, 5, 1, 0] rfl) hf
  have hL79 : ∀ (n : Nat) (o_this : os_T) (x1 : Int32) (x4 : Int32) (x5 : Int32) (H : Heap) (locs : List Loc) (ls : Array Slot), va_P D vwCl (ce_X13 kA q_this o_this) H → va_D A (ce_X13 kA q_this o_this) → va_S A s.heap H locs → lv_has ls 8 [(0, .ref (q_this 0)), (1, .int x1), (4, .int x4), (5, .int x5)] → ff_X13_rectangleAt_l79 N n (o_this, x1, x4, x5) = some out → W p l e ({ frames := 6, cells := 0, slots := 0, locals := 141 } : Room) s m [.ref (q_this 0), .int a1, .int a2, .int a3].toArray below meth c H locs 0 0 (MQ below (mc_Q D kA A (some (.int out.1)) (ce_X13 kA q_this out.2)) [.ref (q_this 0), .int a1, .int a2, .int a3].toArray s 0 0 A) (F0 m 79 ls []) := by
    intro n
    induction n with
    | zero => intro o_this x1 x4 x5 H locs ls _ _ _ _ hf; cases hf
    | succ n hk79 =>
      intro o_this x1 x4 x5 H locs ls hP hD hS hl hf
      have hf : ff_X13_rectangleAt_c79 N (ff_X13_rectangleAt_l79 N n) o_this x1 x4 x5 = some out := hf
      generalize hke : ff_X13_rectangleAt_l79 N n = k79 at hk79 hf
      unfold ff_X13_rectangleAt_c79 at hf
      refine lv_aload_n hx hb dX13_rectangleAt_79 rfl (lv_at hl 0 rfl) ?_
      refine lv_iload_n hx hb dX13_rectangleAt_80 rfl (lv_at hl 1 rfl) ?_
      refine lv_iload hx hb dX13_rectangleAt_81 (lv_at hl 2 rfl) ?_
      refine lv_iload hx hb dX13_rectangleAt_83 (lv_at hl 3 rfl) ?_
      obtain ⟨u_16, he_17, hf⟩ := os_bd hf
      refine mc_callV ⟨hx, hb, hml, hown, hts⟩ (mm_X13_beginsRectangle l D kA N q_this o_this x1 x4 x5 u_16 he_17) (cwV 3 hts gX13_rectangleAt_X13_beginsRectangle rfl rfl rfl (by decide +kernel) ⟨Nat.le_of_ble_eq_true rfl, Nat.le_of_ble_eq_true rfl⟩) (wc := (ce_X13 kA q_this o_this)) (ci := 9) (q0 := 0) rfl rfl rfl hl.1 (As := [.int x1, .int x4, .int x5]) (rest := []) rfl (Nat.le_of_ble_eq_true rfl) dX13_rectangleAt_85 ⟨Nat.le_of_ble_eq_true rfl, Nat.le_of_ble_eq_true rfl⟩ hK hP hD hS hA [0, 1, 2, 3, 4, 5, 6, 7, 8, 9, 10, 11, 12, 13, 14, 15, 16, 17, 18, 19, 20, 21, 22, 23] [] [0, 1, 2, 3, 4, 5, 6, 7, 8, 9, 10, 11, 12, 13, 14, 15, 16, 17, 18, 19, 20, 21, 22, 23] rfl (by decide) rfl (by decide) (by decide) rfl (by decide) (wr := []) (w2 := (ce_X13 kA q_this o_this)) (fun H locs hP hD hS => ?_)
      have hP : va_P D vwCl (ce_X13 kA q_this o_this) H := hP
      refine lv_if_ne (tgt := 97) hx hb dX13_rectangleAt_88 (by decide) (fun hc_18 => ?_) (fun hc_18 => ?_)
      · rw [if_neg hc_18] at hf
        refine lv_iconst (v := 0) hx hb dX13_rectangleAt_97 (by decide) ?_
        refine lv_istore (lv' := [(6, .int (0 : Int32)), (0, .ref (q_this 0)), (1, .int x1), (4, .int x4), (5, .int x5)]) hx hb dX13_rectangleAt_98 hl (by decide) rfl (fun ls hl => ?_)
        refine lv_iconst (v := 0) hx hb dX13_rectangleAt_100 (by decide) ?_
        refine lv_istore (lv' := [(7, .int (0 : Int32)), (6, .int (0 : Int32)), (0, .ref (q_this 0)), (1, .int x1), (4, .int x4), (5, .int x5)]) hx hb dX13_rectangleAt_101 hl (by decide) rfl (fun ls hl => ?_)
        exact hL103 N o_this x1 x4 x5 (0 : Int32) (0 : Int32) _ _ _ hP hD hS (lv_sub hl [2, 3, 4, 5, 1, 0] rfl) hf
      · rw [if_pos hc_18] at hf
        refine lv_iinc (v := x5 + (-1)) (lv' := [(5, .int (x5 + (-1))), (0, .ref (q_this 0)), (1, .int x1), (4, .int x4)]) hx hb dX13_rectangleAt_91 hl (k := 3) rfl rfl (by decide) rfl (fun ls hl => ?_)
        refine lv_goto (tgt := 79) hx hb dX13_rectangleAt_94 (by decide) ?_
        exact hk79 o_this x1 x4 (x5 + (-1)) _ _ _ hP hD hS (lv_sub hl [1, 2, 3, 0] rfl) hf
  have hL59 : ∀ (n : Nat) (o_this : os_T) (x1 : Int32) (x3 : Int32) (x4 : Int32) (H : Heap) (locs : List Loc) (ls : Array Slot), va_P D vwCl (ce_X13 kA q_this o_this) H → va_D A (ce_X13 kA q_this o_this) → va_S A s.heap H locs → lv_has ls 8 [(0, .ref (q_this 0)), (1, .int x1), (3, .int x3), (4, .int x4)] → ff_X13_rectangleAt_l59 N n (o_this, x1, x3, x4) = some out → W p l e ({ frames := 6, cells := 0, slots := 0, locals := 141 } : Room) s m [.ref (q_this 0), .int a1, .int a2, .int a3].toArray below meth c H locs 0 0 (MQ below (mc_Q D kA A (some (.int out.1)) (ce_X13 kA q_this out.2)) [.ref (q_this 0), .int a1, .int a2, .int a3].toArray s 0 0 A) (F0 m 59 ls []) := by
    intro n
    induction n with
    | zero => intro o_this x1 x3 x4 H locs ls _ _ _ _ hf; cases hf
    | succ n hk59 =>
      intro o_this x1 x3 x4 H locs ls hP hD hS hl hf
      have hf : ff_X13_rectangleAt_c59 N (ff_X13_rectangleAt_l59 N n) o_this x1 x3 x4 = some out := hf
      generalize hke : ff_X13_rectangleAt_l59 N n = k59 at hk59 hf
      unfold ff_X13_rectangleAt_c59 at hf
      refine lv_aload_n hx hb dX13_rectangleAt_59 rfl (lv_at hl 0 rfl) ?_
      refine lv_iload_n hx hb dX13_rectangleAt_60 rfl (lv_at hl 1 rfl) ?_
      refine lv_iload hx hb dX13_rectangleAt_61 (lv_at hl 3 rfl) ?_
      refine lv_iload_n hx hb dX13_rectangleAt_63 rfl (lv_at hl 2 rfl) ?_
      obtain ⟨u_13, he_14, hf⟩ := os_bd hf
      refine mc_callV ⟨hx, hb, hml, hown, hts⟩ (mm_X13_beginsRun l D kA N q_this o_this x1 x4 x3 u_13 he_14) (cwV 3 hts gX13_rectangleAt_X13_beginsRun rfl rfl rfl (by decide +kernel) ⟨Nat.le_of_ble_eq_true rfl, Nat.le_of_ble_eq_true rfl⟩) (wc := (ce_X13 kA q_this o_this)) (ci := 9) (q0 := 0) rfl rfl rfl hl.1 (As := [.int x1, .int x4, .int x3]) (rest := []) rfl (Nat.le_of_ble_eq_true rfl) dX13_rectangleAt_64 ⟨Nat.le_of_ble_eq_true rfl, Nat.le_of_ble_eq_true rfl⟩ hK hP hD hS hA [0, 1, 2, 3, 4, 5, 6, 7, 8, 9, 10, 11, 12, 13, 14, 15, 16, 17, 18, 19, 20, 21, 22, 23] [] [0, 1, 2, 3, 4, 5, 6, 7, 8, 9, 10, 11, 12, 13, 14, 15, 16, 17, 18, 19, 20, 21, 22, 23] rfl (by decide) rfl (by decide) (by decide) rfl (by decide) (wr := []) (w2 := (ce_X13 kA q_this o_this)) (fun H locs hP hD hS => ?_)
      have hP : va_P D vwCl (ce_X13 kA q_this o_this) H := hP
      refine lv_if_ne (tgt := 76) hx hb dX13_rectangleAt_67 (by decide) (fun hc_15 => ?_) (fun hc_15 => ?_)
      · rw [if_neg hc_15] at hf
        refine lv_iload_n hx hb dX13_rectangleAt_76 rfl (lv_at hl 2 rfl) ?_
        refine lv_istore (lv' := [(5, .int x3), (0, .ref (q_this 0)), (1, .int x1), (3, .int x3), (4, .int x4)]) hx hb dX13_rectangleAt_77 hl (by decide) rfl (fun ls hl => ?_)
        exact hL79 N o_this x1 x4 x3 _ _ _ hP hD hS (lv_sub hl [1, 2, 4, 0] rfl) hf
      · rw [if_pos hc_15] at hf
        refine lv_iinc (v := x4 + (-1)) (lv' := [(4, .int (x4 + (-1))), (0, .ref (q_this 0)), (1, .int x1), (3, .int x3)]) hx hb dX13_rectangleAt_70 hl (k := 3) rfl rfl (by decide) rfl (fun ls hl => ?_)
        refine lv_goto (tgt := 59) hx hb dX13_rectangleAt_73 (by decide) ?_
        exact hk59 o_this x1 x3 (x4 + (-1)) _ _ _ hP hD hS (lv_sub hl [1, 2, 3, 0] rfl) hf
  have hB32 : ∀ (o_this : os_T) (x1 : Int32) (x2 : Int32) (x3 : Int32) (t0 : Int32) (H : Heap) (locs : List Loc) (ls : Array Slot), va_P D vwCl (ce_X13 kA q_this o_this) H → va_D A (ce_X13 kA q_this o_this) → va_S A s.heap H locs → lv_has ls 8 [(0, .ref (q_this 0)), (1, .int x1), (2, .int x2), (3, .int x3)] → ff_X13_rectangleAt_b32 N o_this x1 x2 x3 t0 = some out → W p l e ({ frames := 6, cells := 0, slots := 0, locals := 141 } : Room) s m [.ref (q_this 0), .int a1, .int a2, .int a3].toArray below meth c H locs 0 0 (MQ below (mc_Q D kA A (some (.int out.1)) (ce_X13 kA q_this out.2)) [.ref (q_this 0), .int a1, .int a2, .int a3].toArray s 0 0 A) (F0 m 32 ls [.int t0, .ref (q_this 0)]) := by
    intro o_this x1 x2 x3 t0 H locs ls hP hD hS hl hf
    unfold ff_X13_rectangleAt_b32 at hf
    refine va_put (D := D) (ci := 9) (v := .int t0) (ty := .int) (C := RX13) (T := TX13) (N := 48) hx hb hUX13 (fun _ h9 => h9) tyX13 tyX13_ok nmX13 hown hK hP hD hS 0 rfl rfl 0 (by decide) (hts (Cond.fieldLink RX13 93 "ReliefBuilderModel" "code" "I") (List.mem_of_getElem? (i := 1) rfl)) (fun _ h9 => h9) rfl (tyX13_ok 0 (by decide)) rfl rfl (Nat.le_of_ble_eq_true rfl) dX13_rectangleAt_32 (fun H locs hP hD hS => ?_)
    have hP : va_P D vwCl (ce_X13 kA q_this (ss_I o_this 0 t0)) H := hP
    have hD : va_D A (ce_X13 kA q_this (ss_I o_this 0 t0)) := hD
    refine lv_aload_n hx hb dX13_rectangleAt_35 rfl (lv_at hl 0 rfl) ?_
    refine va_get (D := D) (ci := 9) (v := .int t0) (C := RX13) (T := TX13) (N := 48) hx hb hUX13 (fun _ h9 => h9) hown hK hP 0 rfl rfl 0 (by decide) (hts (Cond.fieldLink RX13 93 "ReliefBuilderModel" "code" "I") (List.mem_of_getElem? (i := 1) rfl)) (fun _ h9 => h9) rfl dX13_rectangleAt_36 ?_
    refine lv_if_le (tgt := 44) hx hb dX13_rectangleAt_39 (by decide) (fun hc_9 => ?_) (fun hc_9 => ?_)
    · rw [if_pos hc_9] at hf
      refine lv_aload_n hx hb dX13_rectangleAt_44 rfl (lv_at hl 0 rfl) ?_
      refine lv_iload_n hx hb dX13_rectangleAt_45 rfl (lv_at hl 1 rfl) ?_
      refine lv_iload_n hx hb dX13_rectangleAt_46 rfl (lv_at hl 2 rfl) ?_
      refine lv_iload_n hx hb dX13_rectangleAt_47 rfl (lv_at hl 3 rfl) ?_
      obtain ⟨u_10, he_11, hf⟩ := os_bd hf
      refine mc_callV ⟨hx, hb, hml, hown, hts⟩ (mm_X13_isOf l D kA N q_this (ss_I o_this 0 t0) x1 x2 x3 u_10 he_11) (cwV 3 hts gX13_rectangleAt_X13_isOf rfl rfl rfl (by decide +kernel) ⟨Nat.le_of_ble_eq_true rfl, Nat.le_of_ble_eq_true rfl⟩) (wc := (ce_X13 kA q_this (ss_I o_this 0 t0))) (ci := 9) (q0 := 0) rfl rfl rfl hl.1 (As := [.int x1, .int x2, .int x3]) (rest := []) rfl (Nat.le_of_ble_eq_true rfl) dX13_rectangleAt_48 ⟨Nat.le_of_ble_eq_true rfl, Nat.le_of_ble_eq_true rfl⟩ hK hP hD hS hA [0, 1, 2, 3, 4, 5, 6, 7, 8, 9, 10, 11, 12, 13, 14, 15, 16, 17, 18, 19, 20, 21, 22, 23] [] [0, 1, 2, 3, 4, 5, 6, 7, 8, 9, 10, 11, 12, 13, 14, 15, 16, 17, 18, 19, 20, 21, 22, 23] rfl (by decide) rfl (by decide) (by decide) rfl (by decide) (wr := []) (w2 := (ce_X13 kA q_this (ss_I o_this 0 t0))) (fun H locs hP hD hS => ?_)
      have hP : va_P D vwCl (ce_X13 kA q_this (ss_I o_this 0 t0)) H := hP
      refine lv_if_ne (tgt := 56) hx hb dX13_rectangleAt_51 (by decide) (fun hc_12 => ?_) (fun hc_12 => ?_)
      · rw [if_neg hc_12] at hf
        refine lv_iload_n hx hb dX13_rectangleAt_56 rfl (lv_at hl 2 rfl) ?_
        refine lv_istore (lv' := [(4, .int x2), (0, .ref (q_this 0)), (1, .int x1), (2, .int x2), (3, .int x3)]) hx hb dX13_rectangleAt_57 hl (by decide) rfl (fun ls hl => ?_)
        exact hL59 N (ss_I o_this 0 t0) x1 x3 x2 _ _ _ hP hD hS (lv_sub hl [1, 2, 4, 0] rfl) hf
      · rw [if_pos hc_12] at hf
        refine lv_iconst (v := (-1)) hx hb dX13_rectangleAt_54 (by decide) ?_
        rw [← Option.some.inj hf]
        exact mc_reti hx hb hr hlk hP hK hD hS dX13_rectangleAt_55
    · rw [if_neg hc_9] at hf
      refine lv_iconst (v := 0) hx hb dX13_rectangleAt_42 (by decide) ?_
      rw [← Option.some.inj hf]
      exact mc_reti hx hb hr hlk hP hK hD hS dX13_rectangleAt_43
  have hB27 : ∀ (o_this : os_T) (x1 : Int32) (x2 : Int32) (x3 : Int32) (t0 : Int32) (H : Heap) (locs : List Loc) (ls : Array Slot), va_P D vwCl (ce_X13 kA q_this o_this) H → va_D A (ce_X13 kA q_this o_this) → va_S A s.heap H locs → lv_has ls 8 [(0, .ref (q_this 0)), (1, .int x1), (2, .int x2), (3, .int x3)] → ff_X13_rectangleAt_b27 N o_this x1 x2 x3 t0 = some out → W p l e ({ frames := 6, cells := 0, slots := 0, locals := 141 } : Room) s m [.ref (q_this 0), .int a1, .int a2, .int a3].toArray below meth c H locs 0 0 (MQ below (mc_Q D kA A (some (.int out.1)) (ce_X13 kA q_this out.2)) [.ref (q_this 0), .int a1, .int a2, .int a3].toArray s 0 0 A) (F0 m 27 ls [.int t0, .ref (q_this 0)]) := by
    intro o_this x1 x2 x3 t0 H locs ls hP hD hS hl hf
    unfold ff_X13_rectangleAt_b27 at hf
    obtain ⟨u_7, he_8, hf⟩ := os_bd hf
    refine mc_callS ⟨hx, hb, hml, hown, hts⟩ (mm_X13_truth l D kA N t0 u_7 he_8) (va_cwS 1 hts gX13_rectangleAt_X13_truth rfl rfl rfl (by decide +kernel) ⟨Nat.le_of_ble_eq_true rfl, Nat.le_of_ble_eq_true rfl⟩) (wc := []) rfl hl.1 (As := [.int t0]) (rest := [.ref (q_this 0)]) rfl (Nat.le_of_ble_eq_true rfl) dX13_rectangleAt_27 ⟨Nat.le_of_ble_eq_true rfl, Nat.le_of_ble_eq_true rfl⟩ hK hP hD hS hA [] [0, 1, 2, 3, 4, 5, 6, 7, 8, 9, 10, 11, 12, 13, 14, 15, 16, 17, 18, 19, 20, 21, 22, 23] [0, 1, 2, 3, 4, 5, 6, 7, 8, 9, 10, 11, 12, 13, 14, 15, 16, 17, 18, 19, 20, 21, 22, 23] rfl (by decide) rfl (by decide) (by decide) rfl (by decide) (wr := (ce_X13 kA q_this o_this)) (w2 := (ce_X13 kA q_this o_this)) (fun H locs hP hD hS => ?_)
    have hP : va_P D vwCl (ce_X13 kA q_this o_this) H := hP
    refine lv_iconst (v := 2) hx hb dX13_rectangleAt_30 (by decide) ?_
    refine lv_imul hx hb dX13_rectangleAt_31 ?_
    exact hB32 o_this x1 x2 x3 (u_7 * (2 : Int32)) _ _ _ hP hD hS (lv_sub hl [0, 1, 2, 3] rfl) hf
  unfold ff_X13_rectangleAt at hf
  refine lv_aload_n hx hb dX13_rectangleAt_0 rfl (lv_at hl 0 rfl) ?_
  refine lv_aload_n hx hb dX13_rectangleAt_1 rfl (lv_at hl 0 rfl) ?_
  refine lv_iload_n hx hb dX13_rectangleAt_2 rfl (lv_at hl 2 rfl) ?_
  refine lv_iload_n hx hb dX13_rectangleAt_3 rfl (lv_at hl 3 rfl) ?_
  obtain ⟨u_1, he_2, hf⟩ := os_bd hf
  refine mc_callV ⟨hx, hb, hml, hown, hts⟩ (mm_X13_isCell l D kA N q_this o_this a2 a3 u_1 he_2) (cwV 2 hts gX13_rectangleAt_X13_isCell rfl rfl rfl (by decide +kernel) ⟨Nat.le_of_ble_eq_true rfl, Nat.le_of_ble_eq_true rfl⟩) (wc := (ce_X13 kA q_this o_this)) (ci := 9) (q0 := 0) rfl rfl rfl hl.1 (As := [.int a2, .int a3]) (rest := [.ref (q_this 0)]) rfl (Nat.le_of_ble_eq_true rfl) dX13_rectangleAt_4 ⟨Nat.le_of_ble_eq_true rfl, Nat.le_of_ble_eq_true rfl⟩ hK hP hD hS hA [0, 1, 2, 3, 4, 5, 6, 7, 8, 9, 10, 11, 12, 13, 14, 15, 16, 17, 18, 19, 20, 21, 22, 23] [] [0, 1, 2, 3, 4, 5, 6, 7, 8, 9, 10, 11, 12, 13, 14, 15, 16, 17, 18, 19, 20, 21, 22, 23] rfl (by decide) rfl (by decide) (by decide) rfl (by decide) (wr := []) (w2 := (ce_X13 kA q_this o_this)) (fun H locs hP hD hS => ?_)
  have hP : va_P D vwCl (ce_X13 kA q_this o_this) H := hP
  refine lv_if_ne (tgt := 14) hx hb dX13_rectangleAt_7 (by decide) (fun hc_3 => ?_) (fun hc_3 => ?_)
  · rw [if_neg hc_3] at hf
    refine lv_aload_n hx hb dX13_rectangleAt_14 rfl (lv_at hl 0 rfl) ?_
    refine lv_iload_n hx hb dX13_rectangleAt_15 rfl (lv_at hl 1 rfl) ?_
    obtain ⟨u_4, he_5, hf⟩ := os_bd hf
    refine mc_callV ⟨hx, hb, hml, hown, hts⟩ (mm_X13_isLayer l D kA N q_this o_this a1 u_4 he_5) (cwV 1 hts gX13_rectangleAt_X13_isLayer rfl rfl rfl (by decide +kernel) ⟨Nat.le_of_ble_eq_true rfl, Nat.le_of_ble_eq_true rfl⟩) (wc := (ce_X13 kA q_this o_this)) (ci := 9) (q0 := 0) rfl rfl rfl hl.1 (As := [.int a1]) (rest := [.ref (q_this 0)]) rfl (Nat.le_of_ble_eq_true rfl) dX13_rectangleAt_16 ⟨Nat.le_of_ble_eq_true rfl, Nat.le_of_ble_eq_true rfl⟩ hK hP hD hS hA [0, 1, 2, 3, 4, 5, 6, 7, 8, 9, 10, 11, 12, 13, 14, 15, 16, 17, 18, 19, 20, 21, 22, 23] [] [0, 1, 2, 3, 4, 5, 6, 7, 8, 9, 10, 11, 12, 13, 14, 15, 16, 17, 18, 19, 20, 21, 22, 23] rfl (by decide) rfl (by decide) (by decide) rfl (by decide) (wr := []) (w2 := (ce_X13 kA q_this o_this)) (fun H locs hP hD hS => ?_)
    have hP : va_P D vwCl (ce_X13 kA q_this o_this) H := hP
    refine lv_if_ne (tgt := 26) hx hb dX13_rectangleAt_19 (by decide) (fun hc_6 => ?_) (fun hc_6 => ?_)
    · rw [if_neg hc_6] at hf
      refine lv_iconst (v := 0) hx hb dX13_rectangleAt_26 (by decide) ?_
      exact hB27 o_this a1 a2 a3 (0 : Int32) _ _ _ hP hD hS (lv_sub hl [0, 1, 2, 3] rfl) hf
    · rw [if_pos hc_6] at hf
      refine lv_iconst (v := 1) hx hb dX13_rectangleAt_22 (by decide) ?_
      refine lv_goto (tgt := 27) hx hb dX13_rectangleAt_23 (by decide) ?_
      exact hB27 o_this a1 a2 a3 (1 : Int32) _ _ _ hP hD hS (lv_sub hl [0, 1, 2, 3] rfl) hf
  · rw [if_pos hc_3] at hf
    refine lv_iconst (v := 1) hx hb dX13_rectangleAt_10 (by decide) ?_
    refine lv_goto (tgt := 32) hx hb dX13_rectangleAt_11 (by decide) ?_
    exact hB32 o_this a1 a2 a3 (1 : Int32) _ _ _ hP hD hS (lv_sub hl [0, 1, 2, 3] rfl) hf
def ff_X13_largest_b114 (N : Nat) (k24 : (os_T × Int32 × Int32 × Int32 × Int32 × Int32) → Option (Int32 × os_T)) (o_this : os_T) (x1 : Int32) (x2 : Int32) (x3 : Int32) (x4 : Int32) (x5 : Int32) : Option (Int32 × os_T) :=
  k24 (o_this, x1, x2, x3, x4, x5 + 1)
def ff_X13_largest_b103 (N : Nat) (k24 : (os_T × Int32 × Int32 × Int32 × Int32 × Int32) → Option (Int32 × os_T)) (o_this : os_T) (x1 : Int32) (x3 : Int32) (x4 : Int32) (x5 : Int32) (x8 : Int32) (t0 : Int32) : Option (Int32 × os_T) :=
  ((ff_X13_more N x3 x8).bind fun u_21 => ff_X13_largest_b114 N k24 o_this x1 t0 u_21 (x4 + 1) x5)
def ff_X13_largest_c24 (N : Nat) (k24 : (os_T × Int32 × Int32 × Int32 × Int32 × Int32) → Option (Int32 × os_T)) (o_this : os_T) (x1 : Int32) (x2 : Int32) (x3 : Int32) (x4 : Int32) (x5 : Int32) : Option (Int32 × os_T) :=
  ((ff_X13_cellMany N o_this).bind fun u_6 => (if u_6 ≤ x5 then some (x2, o_this) else (if os_in (0 : Int32) 7 then (if ¬ ((os_A o_this 1) (Int32.toNatClampNeg (0 : Int32))) = 0 then (if os_in (0 : Int32) 7 then (if ¬ ((os_A o_this 1) (Int32.toNatClampNeg (0 : Int32))) = 0 then ((ff_X13_beginsRectangle N o_this x1 (x5 - x5 / ((os_A o_this 1) (Int32.toNatClampNeg (0 : Int32))) * ((os_A o_this 1) (Int32.toNatClampNeg (0 : Int32)))) (x5 / ((os_A o_this 1) (Int32.toNatClampNeg (0 : Int32))))).bind fun u_13 => (if u_13 = 0 then ff_X13_largest_b114 N k24 o_this x1 x2 x3 x4 x5 else ((ff_X13_runLength N o_this x1 (x5 - x5 / ((os_A o_this 1) (Int32.toNatClampNeg (0 : Int32))) * ((os_A o_this 1) (Int32.toNatClampNeg (0 : Int32)))) (x5 / ((os_A o_this 1) (Int32.toNatClampNeg (0 : Int32))))).bind fun u_16 => ((ff_X13_rowsOf N o_this x1 (x5 - x5 / ((os_A o_this 1) (Int32.toNatClampNeg (0 : Int32))) * ((os_A o_this 1) (Int32.toNatClampNeg (0 : Int32)))) (x5 / ((os_A o_this 1) (Int32.toNatClampNeg (0 : Int32))))).bind fun u_18 => (if (u_16 * u_18) ≤ x3 then ff_X13_largest_b103 N k24 o_this x1 x3 x4 x5 (u_16 * u_18) x2 else ff_X13_largest_b103 N k24 o_this x1 x3 x4 x5 (u_16 * u_18) x4))))) else none) else none) else none) else none)))
def ff_X13_largest_l24 (N : Nat) : Nat → (os_T × Int32 × Int32 × Int32 × Int32 × Int32) → Option (Int32 × os_T) := os_loop (fun k24 s1 => ff_X13_largest_c24 N k24 s1.1 s1.2.1 s1.2.2.1 s1.2.2.2.1 s1.2.2.2.2.1 s1.2.2.2.2.2)
def ff_X13_largest (N : Nat) (o_this : os_T) (a1 : Int32) : Option (Int32 × os_T) :=
  ((ff_X13_isLayer N o_this a1).bind fun u_1 => ((ff_X13_goes N o_this u_1).bind fun u_3 => (if u_3.1 = 0 then some ((0 : Int32), u_3.2) else ff_X13_largest_l24 N N (u_3.2, a1, (-1 : Int32), (0 : Int32), (0 : Int32), (0 : Int32)))))
set_option maxHeartbeats 4000000 in
set_option maxRecDepth 100000 in
theorem mm_X13_largest (l : Launch) (D : va_G) (kA : Nat → ClassId) (N : Nat) (q_this : Nat → Nat) (o_this : os_T) (a1 : Int32) (out : (Int32 × os_T)) (hf : ff_X13_largest N o_this a1 = some out) : mc_C l D kA yX13_largest wsX13_largest ({ frames := 6, cells := 0, slots := 0, locals := 142 } : Room) [.ref (q_this 0), .int a1] (ce_X13 kA q_this o_this) (some (.int out.1)) (ce_X13 kA q_this out.2) := by
  refine mc_of (cc := cX13_largest) (maxL := 9) (ret := (some .int)) (by decide) rfl (Nat.le_of_ble_eq_true rfl) ?_
  intro p e s m below meth c A B hD hP hS ls hl
  obtain ⟨hx, hb, hr, hlk, hml, hown, hts, hK, hA, hnm⟩ := B
  have hown : s.vm.findClass RX13 = some m.cls := hown
  have hl : lv_has ls 9 [(0, .ref (q_this 0)), (1, .int a1)] := hl
  have hUX13 : ∀ w ∈ u_ws RX13 TX13 48, w.before [.ref (q_this 0), .int a1].toArray s = true := fun w h => hts w (List.mem_cons_of_mem _ (List.mem_append_right _ h))
  have hB114 : ∀ (k24 : (os_T × Int32 × Int32 × Int32 × Int32 × Int32) → Option (Int32 × os_T)), (∀ (o_this : os_T) (x1 : Int32) (x2 : Int32) (x3 : Int32) (x4 : Int32) (x5 : Int32) (H : Heap) (locs : List Loc) (ls : Array Slot), va_P D vwCl (ce_X13 kA q_this o_this) H → va_D A (ce_X13 kA q_this o_this) → va_S A s.heap H locs → lv_has ls 9 [(0, .ref (q_this 0)), (1, .int x1), (2, .int x2), (3, .int x3), (4, .int x4), (5, .int x5)] → k24 (o_this, x1, x2, x3, x4, x5) = some out → W p l e ({ frames := 6, cells := 0, slots := 0, locals := 142 } : Room) s m [.ref (q_this 0), .int a1].toArray below meth c H locs 0 0 (MQ below (mc_Q D kA A (some (.int out.1)) (ce_X13 kA q_this out.2)) [.ref (q_this 0), .int a1].toArray s 0 0 A) (F0 m 24 ls [])) → ∀ (o_this : os_T) (x1 : Int32) (x2 : Int32) (x3 : Int32) (x4 : Int32) (x5 : Int32) (H : Heap) (locs : List Loc) (ls : Array Slot), va_P D vwCl (ce_X13 kA q_this o_this) H → va_D A (ce_X13 kA q_this o_this) → va_S A s.heap H locs → lv_has ls 9 [(0, .ref (q_this 0)), (1, .int x1), (2, .int x2), (3, .int x3), (4, .int x4), (5, .int x5)] → ff_X13_largest_b114 N k24 o_this x1 x2 x3 x4 x5 = some out → W p l e ({ frames := 6, cells := 0, slots := 0, locals := 142 } : Room) s m [.ref (q_this 0), .int a1].toArray below meth c H locs 0 0 (MQ below (mc_Q D kA A (some (.int out.1)) (ce_X13 kA q_this out.2)) [.ref (q_this 0), .int a1].toArray s 0 0 A) (F0 m 114 ls []) := by
    intro k24 hk24 o_this x1 x2 x3 x4 x5 H locs ls hP hD hS hl hf
    unfold ff_X13_largest_b114 at hf
    refine lv_iinc (v := x5 + 1) (lv' := [(5, .int (x5 + 1)), (0, .ref (q_this 0)), (1, .int x1), (2, .int x2), (3, .int x3), (4, .int x4)]) hx hb dX13_largest_114 hl (k := 5) rfl rfl (by decide) rfl (fun ls hl => ?_)
    refine lv_goto (tgt := 24) hx hb dX13_largest_117 (by decide) ?_
    exact hk24 o_this x1 x2 x3 x4 (x5 + 1) _ _ _ hP hD hS (lv_sub hl [1, 2, 3, 4, 5, 0] rfl) hf
  have hB103 : ∀ (k24 : (os_T × Int32 × Int32 × Int32 × Int32 × Int32) → Option (Int32 × os_T)), (∀ (o_this : os_T) (x1 : Int32) (x2 : Int32) (x3 : Int32) (x4 : Int32) (x5 : Int32) (H : Heap) (locs : List Loc) (ls : Array Slot), va_P D vwCl (ce_X13 kA q_this o_this) H → va_D A (ce_X13 kA q_this o_this) → va_S A s.heap H locs → lv_has ls 9 [(0, .ref (q_this 0)), (1, .int x1), (2, .int x2), (3, .int x3), (4, .int x4), (5, .int x5)] → k24 (o_this, x1, x2, x3, x4, x5) = some out → W p l e ({ frames := 6, cells := 0, slots := 0, locals := 142 } : Room) s m [.ref (q_this 0), .int a1].toArray below meth c H locs 0 0 (MQ below (mc_Q D kA A (some (.int out.1)) (ce_X13 kA q_this out.2)) [.ref (q_this 0), .int a1].toArray s 0 0 A) (F0 m 24 ls [])) → ∀ (o_this : os_T) (x1 : Int32) (x3 : Int32) (x4 : Int32) (x5 : Int32) (x8 : Int32) (t0 : Int32) (H : Heap) (locs : List Loc) (ls : Array Slot), va_P D vwCl (ce_X13 kA q_this o_this) H → va_D A (ce_X13 kA q_this o_this) → va_S A s.heap H locs → lv_has ls 9 [(0, .ref (q_this 0)), (1, .int x1), (3, .int x3), (4, .int x4), (5, .int x5), (8, .int x8)] → ff_X13_largest_b103 N k24 o_this x1 x3 x4 x5 x8 t0 = some out → W p l e ({ frames := 6, cells := 0, slots := 0, locals := 142 } : Room) s m [.ref (q_this 0), .int a1].toArray below meth c H locs 0 0 (MQ below (mc_Q D kA A (some (.int out.1)) (ce_X13 kA q_this out.2)) [.ref (q_this 0), .int a1].toArray s 0 0 A) (F0 m 103 ls [.int t0]) := by
    intro k24 hk24 o_this x1 x3 x4 x5 x8 t0 H locs ls hP hD hS hl hf
    unfold ff_X13_largest_b103 at hf
    refine lv_istore_n (lv' := [(2, .int t0), (0, .ref (q_this 0)), (1, .int x1), (3, .int x3), (4, .int x4), (5, .int x5), (8, .int x8)]) hx hb dX13_largest_103 rfl hl (by decide) rfl (fun ls hl => ?_)
    refine lv_iload_n hx hb dX13_largest_104 rfl (lv_at hl 3 rfl) ?_
    refine lv_iload hx hb dX13_largest_105 (lv_at hl 6 rfl) ?_
    obtain ⟨u_21, he_22, hf⟩ := os_bd hf
    refine mc_callS ⟨hx, hb, hml, hown, hts⟩ (mm_X13_more l D kA N x3 x8 u_21 he_22) (va_cwS 2 hts gX13_largest_X13_more rfl rfl rfl (by decide +kernel) ⟨Nat.le_of_ble_eq_true rfl, Nat.le_of_ble_eq_true rfl⟩) (wc := []) rfl hl.1 (As := [.int x3, .int x8]) (rest := []) rfl (Nat.le_of_ble_eq_true rfl) dX13_largest_107 ⟨Nat.le_of_ble_eq_true rfl, Nat.le_of_ble_eq_true rfl⟩ hK hP hD hS hA [] [0, 1, 2, 3, 4, 5, 6, 7, 8, 9, 10, 11, 12, 13, 14, 15, 16, 17, 18, 19, 20, 21, 22, 23] [0, 1, 2, 3, 4, 5, 6, 7, 8, 9, 10, 11, 12, 13, 14, 15, 16, 17, 18, 19, 20, 21, 22, 23] rfl (by decide) rfl (by decide) (by decide) rfl (by decide) (wr := (ce_X13 kA q_this o_this)) (w2 := (ce_X13 kA q_this o_this)) (fun H locs hP hD hS => ?_)
    have hP : va_P D vwCl (ce_X13 kA q_this o_this) H := hP
    refine lv_istore_n (lv' := [(3, .int u_21), (2, .int t0), (0, .ref (q_this 0)), (1, .int x1), (4, .int x4), (5, .int x5), (8, .int x8)]) hx hb dX13_largest_110 rfl hl (by decide) rfl (fun ls hl => ?_)
    refine lv_iinc (v := x4 + 1) (lv' := [(4, .int (x4 + 1)), (3, .int u_21), (2, .int t0), (0, .ref (q_this 0)), (1, .int x1), (5, .int x5), (8, .int x8)]) hx hb dX13_largest_111 hl (k := 4) rfl rfl (by decide) rfl (fun ls hl => ?_)
    exact hB114 k24 hk24 o_this x1 t0 u_21 (x4 + 1) x5 _ _ _ hP hD hS (lv_sub hl [3, 4, 2, 1, 0, 5] rfl) hf
  have hL24 : ∀ (n : Nat) (o_this : os_T) (x1 : Int32) (x2 : Int32) (x3 : Int32) (x4 : Int32) (x5 : Int32) (H : Heap) (locs : List Loc) (ls : Array Slot), va_P D vwCl (ce_X13 kA q_this o_this) H → va_D A (ce_X13 kA q_this o_this) → va_S A s.heap H locs → lv_has ls 9 [(0, .ref (q_this 0)), (1, .int x1), (2, .int x2), (3, .int x3), (4, .int x4), (5, .int x5)] → ff_X13_largest_l24 N n (o_this, x1, x2, x3, x4, x5) = some out → W p l e ({ frames := 6, cells := 0, slots := 0, locals := 142 } : Room) s m [.ref (q_this 0), .int a1].toArray below meth c H locs 0 0 (MQ below (mc_Q D kA A (some (.int out.1)) (ce_X13 kA q_this out.2)) [.ref (q_this 0), .int a1].toArray s 0 0 A) (F0 m 24 ls []) := by
    intro n
    induction n with
    | zero => intro o_this x1 x2 x3 x4 x5 H locs ls _ _ _ _ hf; cases hf
    | succ n hk24 =>
      intro o_this x1 x2 x3 x4 x5 H locs ls hP hD hS hl hf
      have hf : ff_X13_largest_c24 N (ff_X13_largest_l24 N n) o_this x1 x2 x3 x4 x5 = some out := hf
      generalize hke : ff_X13_largest_l24 N n = k24 at hk24 hf
      unfold ff_X13_largest_c24 at hf
      refine lv_iload hx hb dX13_largest_24 (lv_at hl 5 rfl) ?_
      refine lv_aload_n hx hb dX13_largest_26 rfl (lv_at hl 0 rfl) ?_
      obtain ⟨u_6, he_7, hf⟩ := os_bd hf
      refine mc_callV ⟨hx, hb, hml, hown, hts⟩ (mm_X13_cellMany l D kA N q_this o_this u_6 he_7) (cwV 0 hts gX13_largest_X13_cellMany rfl rfl rfl (by decide +kernel) ⟨Nat.le_of_ble_eq_true rfl, Nat.le_of_ble_eq_true rfl⟩) (wc := (ce_X13 kA q_this o_this)) (ci := 9) (q0 := 0) rfl rfl rfl hl.1 (As := []) (rest := [.int x5]) rfl (Nat.le_of_ble_eq_true rfl) dX13_largest_27 ⟨Nat.le_of_ble_eq_true rfl, Nat.le_of_ble_eq_true rfl⟩ hK hP hD hS hA [0, 1, 2, 3, 4, 5, 6, 7, 8, 9, 10, 11, 12, 13, 14, 15, 16, 17, 18, 19, 20, 21, 22, 23] [] [0, 1, 2, 3, 4, 5, 6, 7, 8, 9, 10, 11, 12, 13, 14, 15, 16, 17, 18, 19, 20, 21, 22, 23] rfl (by decide) rfl (by decide) (by decide) rfl (by decide) (wr := []) (w2 := (ce_X13 kA q_this o_this)) (fun H locs hP hD hS => ?_)
      have hP : va_P D vwCl (ce_X13 kA q_this o_this) H := hP
      refine lv_icmp_ge (tgt := 120) hx hb dX13_largest_30 (by decide) (fun hc_8 => ?_) (fun hc_8 => ?_)
      · rw [if_pos hc_8] at hf
        refine lv_iload_n hx hb dX13_largest_120 rfl (lv_at hl 2 rfl) ?_
        rw [← Option.some.inj hf]
        exact mc_reti hx hb hr hlk hP hK hD hS dX13_largest_121
      · rw [if_neg hc_8] at hf
        refine lv_iload hx hb dX13_largest_33 (lv_at hl 5 rfl) ?_
        refine lv_aload_n hx hb dX13_largest_35 rfl (lv_at hl 0 rfl) ?_
        refine va_get (D := D) (ci := 9) (v := .ref (q_this 2)) (C := RX13) (T := TX13) (N := 48) hx hb hUX13 (fun _ h9 => h9) hown hK hP 0 rfl rfl 13 (by decide) (hts (Cond.fieldLink RX13 20 "ReliefBuilderModel" "now" "[I") (List.mem_of_getElem? (i := 1) rfl)) (fun _ h9 => h9) rfl dX13_largest_36 ?_
        refine lv_iconst (v := 0) hx hb dX13_largest_39 (by decide) ?_
        obtain ⟨hi_9, hf⟩ := os_if hf
        refine va_iald hx hb hK hP 2 0 rfl rfl hi_9 dX13_largest_40 ?_
        obtain ⟨hz_10, hf⟩ := os_if hf
        refine lv_irem hx hb dX13_largest_41 hz_10 ?_
        refine lv_istore (lv' := [(6, .int (x5 - x5 / ((os_A o_this 1) (Int32.toNatClampNeg (0 : Int32))) * ((os_A o_this 1) (Int32.toNatClampNeg (0 : Int32))))), (0, .ref (q_this 0)), (1, .int x1), (2, .int x2), (3, .int x3), (4, .int x4), (5, .int x5)]) hx hb dX13_largest_42 hl (by decide) rfl (fun ls hl => ?_)
        refine lv_iload hx hb dX13_largest_44 (lv_at hl 6 rfl) ?_
        refine lv_aload_n hx hb dX13_largest_46 rfl (lv_at hl 1 rfl) ?_
        refine va_get (D := D) (ci := 9) (v := .ref (q_this 2)) (C := RX13) (T := TX13) (N := 48) hx hb hUX13 (fun _ h9 => h9) hown hK hP 0 rfl rfl 13 (by decide) (hts (Cond.fieldLink RX13 20 "ReliefBuilderModel" "now" "[I") (List.mem_of_getElem? (i := 1) rfl)) (fun _ h9 => h9) rfl dX13_largest_47 ?_
        refine lv_iconst (v := 0) hx hb dX13_largest_50 (by decide) ?_
        obtain ⟨hi_11, hf⟩ := os_if hf
        refine va_iald hx hb hK hP 2 0 rfl rfl hi_11 dX13_largest_51 ?_
        obtain ⟨hz_12, hf⟩ := os_if hf
        refine lv_idiv hx hb dX13_largest_52 hz_12 ?_
        refine lv_istore (lv' := [(7, .int (x5 / ((os_A o_this 1) (Int32.toNatClampNeg (0 : Int32))))), (6, .int (x5 - x5 / ((os_A o_this 1) (Int32.toNatClampNeg (0 : Int32))) * ((os_A o_this 1) (Int32.toNatClampNeg (0 : Int32))))), (0, .ref (q_this 0)), (1, .int x1), (2, .int x2), (3, .int x3), (4, .int x4), (5, .int x5)]) hx hb dX13_largest_53 hl (by decide) rfl (fun ls hl => ?_)
        refine lv_aload_n hx hb dX13_largest_55 rfl (lv_at hl 2 rfl) ?_
        refine lv_iload_n hx hb dX13_largest_56 rfl (lv_at hl 3 rfl) ?_
        refine lv_iload hx hb dX13_largest_57 (lv_at hl 1 rfl) ?_
        refine lv_iload hx hb dX13_largest_59 (lv_at hl 0 rfl) ?_
        obtain ⟨u_13, he_14, hf⟩ := os_bd hf
        refine mc_callV ⟨hx, hb, hml, hown, hts⟩ (mm_X13_beginsRectangle l D kA N q_this o_this x1 (x5 - x5 / ((os_A o_this 1) (Int32.toNatClampNeg (0 : Int32))) * ((os_A o_this 1) (Int32.toNatClampNeg (0 : Int32)))) (x5 / ((os_A o_this 1) (Int32.toNatClampNeg (0 : Int32)))) u_13 he_14) (cwV 3 hts gX13_largest_X13_beginsRectangle rfl rfl rfl (by decide +kernel) ⟨Nat.le_of_ble_eq_true rfl, Nat.le_of_ble_eq_true rfl⟩) (wc := (ce_X13 kA q_this o_this)) (ci := 9) (q0 := 0) rfl rfl rfl hl.1 (As := [.int x1, .int (x5 - x5 / ((os_A o_this 1) (Int32.toNatClampNeg (0 : Int32))) * ((os_A o_this 1) (Int32.toNatClampNeg (0 : Int32)))), .int (x5 / ((os_A o_this 1) (Int32.toNatClampNeg (0 : Int32))))]) (rest := []) rfl (Nat.le_of_ble_eq_true rfl) dX13_largest_61 ⟨Nat.le_of_ble_eq_true rfl, Nat.le_of_ble_eq_true rfl⟩ hK hP hD hS hA [0, 1, 2, 3, 4, 5, 6, 7, 8, 9, 10, 11, 12, 13, 14, 15, 16, 17, 18, 19, 20, 21, 22, 23] [] [0, 1, 2, 3, 4, 5, 6, 7, 8, 9, 10, 11, 12, 13, 14, 15, 16, 17, 18, 19, 20, 21, 22, 23] rfl (by decide) rfl (by decide) (by decide) rfl (by decide) (wr := []) (w2 := (ce_X13 kA q_this o_this)) (fun H locs hP hD hS => ?_)
        have hP : va_P D vwCl (ce_X13 kA q_this o_this) H := hP
        refine lv_if_ne (tgt := 70) hx hb dX13_largest_64 (by decide) (fun hc_15 => ?_) (fun hc_15 => ?_)
        · rw [if_neg hc_15] at hf
          refine lv_aload_n hx hb dX13_largest_70 rfl (lv_at hl 2 rfl) ?_
          refine lv_iload_n hx hb dX13_largest_71 rfl (lv_at hl 3 rfl) ?_
          refine lv_iload hx hb dX13_largest_72 (lv_at hl 1 rfl) ?_
          refine lv_iload hx hb dX13_largest_74 (lv_at hl 0 rfl) ?_
          obtain ⟨u_16, he_17, hf⟩ := os_bd hf
          refine mc_callV ⟨hx, hb, hml, hown, hts⟩ (mm_X13_runLength l D kA N q_this o_this x1 (x5 - x5 / ((os_A o_this 1) (Int32.toNatClampNeg (0 : Int32))) * ((os_A o_this 1) (Int32.toNatClampNeg (0 : Int32)))) (x5 / ((os_A o_this 1) (Int32.toNatClampNeg (0 : Int32)))) u_16 he_17) (cwV 3 hts gX13_largest_X13_runLength rfl rfl rfl (by decide +kernel) ⟨Nat.le_of_ble_eq_true rfl, Nat.le_of_ble_eq_true rfl⟩) (wc := (ce_X13 kA q_this o_this)) (ci := 9) (q0 := 0) rfl rfl rfl hl.1 (As := [.int x1, .int (x5 - x5 / ((os_A o_this 1) (Int32.toNatClampNeg (0 : Int32))) * ((os_A o_this 1) (Int32.toNatClampNeg (0 : Int32)))), .int (x5 / ((os_A o_this 1) (Int32.toNatClampNeg (0 : Int32))))]) (rest := []) rfl (Nat.le_of_ble_eq_true rfl) dX13_largest_76 ⟨Nat.le_of_ble_eq_true rfl, Nat.le_of_ble_eq_true rfl⟩ hK hP hD hS hA [0, 1, 2, 3, 4, 5, 6, 7, 8, 9, 10, 11, 12, 13, 14, 15, 16, 17, 18, 19, 20, 21, 22, 23] [] [0, 1, 2, 3, 4, 5, 6, 7, 8, 9, 10, 11, 12, 13, 14, 15, 16, 17, 18, 19, 20, 21, 22, 23] rfl (by decide) rfl (by decide) (by decide) rfl (by decide) (wr := []) (w2 := (ce_X13 kA q_this o_this)) (fun H locs hP hD hS => ?_)
          have hP : va_P D vwCl (ce_X13 kA q_this o_this) H := hP
          refine lv_aload_n hx hb dX13_largest_79 rfl (lv_at hl 2 rfl) ?_
          refine lv_iload_n hx hb dX13_largest_80 rfl (lv_at hl 3 rfl) ?_
          refine lv_iload hx hb dX13_largest_81 (lv_at hl 1 rfl) ?_
          refine lv_iload hx hb dX13_largest_83 (lv_at hl 0 rfl) ?_
          obtain ⟨u_18, he_19, hf⟩ := os_bd hf
          refine mc_callV ⟨hx, hb, hml, hown, hts⟩ (mm_X13_rowsOf l D kA N q_this o_this x1 (x5 - x5 / ((os_A o_this 1) (Int32.toNatClampNeg (0 : Int32))) * ((os_A o_this 1) (Int32.toNatClampNeg (0 : Int32)))) (x5 / ((os_A o_this 1) (Int32.toNatClampNeg (0 : Int32)))) u_18 he_19) (cwV 3 hts gX13_largest_X13_rowsOf rfl rfl rfl (by decide +kernel) ⟨Nat.le_of_ble_eq_true rfl, Nat.le_of_ble_eq_true rfl⟩) (wc := (ce_X13 kA q_this o_this)) (ci := 9) (q0 := 0) rfl rfl rfl hl.1 (As := [.int x1, .int (x5 - x5 / ((os_A o_this 1) (Int32.toNatClampNeg (0 : Int32))) * ((os_A o_this 1) (Int32.toNatClampNeg (0 : Int32)))), .int (x5 / ((os_A o_this 1) (Int32.toNatClampNeg (0 : Int32))))]) (rest := [.int u_16]) rfl (Nat.le_of_ble_eq_true rfl) dX13_largest_85 ⟨Nat.le_of_ble_eq_true rfl, Nat.le_of_ble_eq_true rfl⟩ hK hP hD hS hA [0, 1, 2, 3, 4, 5, 6, 7, 8, 9, 10, 11, 12, 13, 14, 15, 16, 17, 18, 19, 20, 21, 22, 23] [] [0, 1, 2, 3, 4, 5, 6, 7, 8, 9, 10, 11, 12, 13, 14, 15, 16, 17, 18, 19, 20, 21, 22, 23] rfl (by decide) rfl (by decide) (by decide) rfl (by decide) (wr := []) (w2 := (ce_X13 kA q_this o_this)) (fun H locs hP hD hS => ?_)
          have hP : va_P D vwCl (ce_X13 kA q_this o_this) H := hP
          refine lv_imul hx hb dX13_largest_88 ?_
          refine lv_istore (lv' := [(8, .int (u_16 * u_18)), (7, .int (x5 / ((os_A o_this 1) (Int32.toNatClampNeg (0 : Int32))))), (6, .int (x5 - x5 / ((os_A o_this 1) (Int32.toNatClampNeg (0 : Int32))) * ((os_A o_this 1) (Int32.toNatClampNeg (0 : Int32))))), (0, .ref (q_this 0)), (1, .int x1), (2, .int x2), (3, .int x3), (4, .int x4), (5, .int x5)]) hx hb dX13_largest_89 hl (by decide) rfl (fun ls hl => ?_)
          refine lv_iload hx hb dX13_largest_91 (lv_at hl 0 rfl) ?_
          refine lv_iload_n hx hb dX13_largest_93 rfl (lv_at hl 6 rfl) ?_
          refine lv_icmp_le (tgt := 102) hx hb dX13_largest_94 (by decide) (fun hc_20 => ?_) (fun hc_20 => ?_)
          · rw [if_pos hc_20] at hf
            refine lv_iload_n hx hb dX13_largest_102 rfl (lv_at hl 5 rfl) ?_
            exact hB103 k24 hk24 o_this x1 x3 x4 x5 (u_16 * u_18) x2 _ _ _ hP hD hS (lv_sub hl [3, 4, 6, 7, 8, 0] rfl) hf
          · rw [if_neg hc_20] at hf
            refine lv_iload hx hb dX13_largest_97 (lv_at hl 7 rfl) ?_
            refine lv_goto (tgt := 103) hx hb dX13_largest_99 (by decide) ?_
            exact hB103 k24 hk24 o_this x1 x3 x4 x5 (u_16 * u_18) x4 _ _ _ hP hD hS (lv_sub hl [3, 4, 6, 7, 8, 0] rfl) hf
        · rw [if_pos hc_15] at hf
          refine lv_goto (tgt := 114) hx hb dX13_largest_67 (by decide) ?_
          exact hB114 k24 hk24 o_this x1 x2 x3 x4 x5 _ _ _ hP hD hS (lv_sub hl [2, 3, 4, 5, 6, 7] rfl) hf
  unfold ff_X13_largest at hf
  refine lv_aload_n hx hb dX13_largest_0 rfl (lv_at hl 0 rfl) ?_
  refine lv_aload_n hx hb dX13_largest_1 rfl (lv_at hl 0 rfl) ?_
  refine lv_iload_n hx hb dX13_largest_2 rfl (lv_at hl 1 rfl) ?_
  obtain ⟨u_1, he_2, hf⟩ := os_bd hf
  refine mc_callV ⟨hx, hb, hml, hown, hts⟩ (mm_X13_isLayer l D kA N q_this o_this a1 u_1 he_2) (cwV 1 hts gX13_largest_X13_isLayer rfl rfl rfl (by decide +kernel) ⟨Nat.le_of_ble_eq_true rfl, Nat.le_of_ble_eq_true rfl⟩) (wc := (ce_X13 kA q_this o_this)) (ci := 9) (q0 := 0) rfl rfl rfl hl.1 (As := [.int a1]) (rest := [.ref (q_this 0)]) rfl (Nat.le_of_ble_eq_true rfl) dX13_largest_3 ⟨Nat.le_of_ble_eq_true rfl, Nat.le_of_ble_eq_true rfl⟩ hK hP hD hS hA [0, 1, 2, 3, 4, 5, 6, 7, 8, 9, 10, 11, 12, 13, 14, 15, 16, 17, 18, 19, 20, 21, 22, 23] [] [0, 1, 2, 3, 4, 5, 6, 7, 8, 9, 10, 11, 12, 13, 14, 15, 16, 17, 18, 19, 20, 21, 22, 23] rfl (by decide) rfl (by decide) (by decide) rfl (by decide) (wr := []) (w2 := (ce_X13 kA q_this o_this)) (fun H locs hP hD hS => ?_)
  have hP : va_P D vwCl (ce_X13 kA q_this o_this) H := hP
  obtain ⟨u_3, he_4, hf⟩ := os_bd hf
  refine mc_callV ⟨hx, hb, hml, hown, hts⟩ (mm_X13_goes l D kA N q_this o_this u_1 u_3 he_4) (cwV 1 hts gX13_largest_X13_goes rfl rfl rfl (by decide +kernel) ⟨Nat.le_of_ble_eq_true rfl, Nat.le_of_ble_eq_true rfl⟩) (wc := (ce_X13 kA q_this o_this)) (ci := 9) (q0 := 0) rfl rfl rfl hl.1 (As := [.int u_1]) (rest := []) rfl (Nat.le_of_ble_eq_true rfl) dX13_largest_6 ⟨Nat.le_of_ble_eq_true rfl, Nat.le_of_ble_eq_true rfl⟩ hK hP hD hS hA [0, 1, 2, 3, 4, 5, 6, 7, 8, 9, 10, 11, 12, 13, 14, 15, 16, 17, 18, 19, 20, 21, 22, 23] [] [0, 1, 2, 3, 4, 5, 6, 7, 8, 9, 10, 11, 12, 13, 14, 15, 16, 17, 18, 19, 20, 21, 22, 23] rfl (by decide) rfl (by decide) (by decide) rfl (by decide) (wr := []) (w2 := (ce_X13 kA q_this u_3.2)) (fun H locs hP hD hS => ?_)
  have hP : va_P D vwCl (ce_X13 kA q_this u_3.2) H := hP
  refine lv_if_ne (tgt := 14) hx hb dX13_largest_9 (by decide) (fun hc_5 => ?_) (fun hc_5 => ?_)
  · rw [if_neg hc_5] at hf
    refine lv_iconst (v := (-1)) hx hb dX13_largest_14 (by decide) ?_
    refine lv_istore_n (lv' := [(2, .int (-1 : Int32)), (0, .ref (q_this 0)), (1, .int a1)]) hx hb dX13_largest_15 rfl hl (by decide) rfl (fun ls hl => ?_)
    refine lv_iconst (v := 0) hx hb dX13_largest_16 (by decide) ?_
    refine lv_istore_n (lv' := [(3, .int (0 : Int32)), (2, .int (-1 : Int32)), (0, .ref (q_this 0)), (1, .int a1)]) hx hb dX13_largest_17 rfl hl (by decide) rfl (fun ls hl => ?_)
    refine lv_iconst (v := 0) hx hb dX13_largest_18 (by decide) ?_
    refine lv_istore (lv' := [(4, .int (0 : Int32)), (3, .int (0 : Int32)), (2, .int (-1 : Int32)), (0, .ref (q_this 0)), (1, .int a1)]) hx hb dX13_largest_19 hl (by decide) rfl (fun ls hl => ?_)
    refine lv_iconst (v := 0) hx hb dX13_largest_21 (by decide) ?_
    refine lv_istore (lv' := [(5, .int (0 : Int32)), (4, .int (0 : Int32)), (3, .int (0 : Int32)), (2, .int (-1 : Int32)), (0, .ref (q_this 0)), (1, .int a1)]) hx hb dX13_largest_22 hl (by decide) rfl (fun ls hl => ?_)
    exact hL24 N u_3.2 a1 (-1 : Int32) (0 : Int32) (0 : Int32) (0 : Int32) _ _ _ hP hD hS (lv_sub hl [4, 5, 3, 2, 1, 0] rfl) hf
  · rw [if_pos hc_5] at hf
    refine lv_iconst (v := 0) hx hb dX13_largest_12 (by decide) ?_
    rw [← Option.some.inj hf]
    exact mc_reti hx hb hr hlk hP hK hD hS dX13_largest_13
def ff_X13_shortest_b95 (N : Nat) (k18 : (os_T × Int32 × Int32 × Int32) → Option (Int32 × os_T)) (o_this : os_T) (x1 : Int32) (x2 : Int32) (x3 : Int32) : Option (Int32 × os_T) :=
  k18 (o_this, x1, x2, x3 + 1)
def ff_X13_shortest_b92 (N : Nat) (k18 : (os_T × Int32 × Int32 × Int32) → Option (Int32 × os_T)) (o_this : os_T) (x1 : Int32) (x3 : Int32) (x4 : Int32) : Option (Int32 × os_T) :=
  ff_X13_shortest_b95 N k18 o_this x1 x4 x3
def ff_X13_shortest_b75 (N : Nat) (k18 : (os_T × Int32 × Int32 × Int32) → Option (Int32 × os_T)) (o_this : os_T) (x1 : Int32) (x2 : Int32) (x3 : Int32) (t0 : Int32) : Option (Int32 × os_T) :=
  (if t0 ≤ 0 then ff_X13_shortest_b95 N k18 o_this x1 x2 x3 else (if x2 = 0 then ff_X13_shortest_b92 N k18 o_this x1 x3 t0 else (if x2 ≤ t0 then ff_X13_shortest_b95 N k18 o_this x1 x2 x3 else ff_X13_shortest_b92 N k18 o_this x1 x3 t0)))
def ff_X13_shortest_c18 (N : Nat) (k18 : (os_T × Int32 × Int32 × Int32) → Option (Int32 × os_T)) (o_this : os_T) (x1 : Int32) (x2 : Int32) (x3 : Int32) : Option (Int32 × os_T) :=
  ((ff_X13_cellMany N o_this).bind fun u_6 => (if u_6 ≤ x3 then some (x2, o_this) else (if os_in (0 : Int32) 7 then (if ¬ ((os_A o_this 1) (Int32.toNatClampNeg (0 : Int32))) = 0 then (if os_in (0 : Int32) 7 then (if ¬ ((os_A o_this 1) (Int32.toNatClampNeg (0 : Int32))) = 0 then ((ff_X13_beginsRun N o_this x1 (x3 - x3 / ((os_A o_this 1) (Int32.toNatClampNeg (0 : Int32))) * ((os_A o_this 1) (Int32.toNatClampNeg (0 : Int32)))) (x3 / ((os_A o_this 1) (Int32.toNatClampNeg (0 : Int32))))).bind fun u_13 => (if u_13 = 0 then ff_X13_shortest_b75 N k18 o_this x1 x2 x3 (0 : Int32) else (if os_in (0 : Int32) 7 then (if ¬ ((os_A o_this 1) (Int32.toNatClampNeg (0 : Int32))) = 0 then (if os_in (0 : Int32) 7 then (if ¬ ((os_A o_this 1) (Int32.toNatClampNeg (0 : Int32))) = 0 then ((ff_X13_runLength N o_this x1 (x3 - x3 / ((os_A o_this 1) (Int32.toNatClampNeg (0 : Int32))) * ((os_A o_this 1) (Int32.toNatClampNeg (0 : Int32)))) (x3 / ((os_A o_this 1) (Int32.toNatClampNeg (0 : Int32))))).bind fun u_20 => ff_X13_shortest_b75 N k18 o_this x1 x2 x3 u_20) else none) else none) else none) else none))) else none) else none) else none) else none)))
def ff_X13_shortest_l18 (N : Nat) : Nat → (os_T × Int32 × Int32 × Int32) → Option (Int32 × os_T) := os_loop (fun k18 s1 => ff_X13_shortest_c18 N k18 s1.1 s1.2.1 s1.2.2.1 s1.2.2.2)
def ff_X13_shortest (N : Nat) (o_this : os_T) (a1 : Int32) : Option (Int32 × os_T) :=
  ((ff_X13_isLayer N o_this a1).bind fun u_1 => ((ff_X13_goes N o_this u_1).bind fun u_3 => (if u_3.1 = 0 then some ((0 : Int32), u_3.2) else ff_X13_shortest_l18 N N (u_3.2, a1, (0 : Int32), (0 : Int32)))))
set_option maxHeartbeats 4000000 in
set_option maxRecDepth 100000 in
theorem mm_X13_shortest (l : Launch) (D : va_G) (kA : Nat → ClassId) (N : Nat) (q_this : Nat → Nat) (o_this : os_T) (a1 : Int32) (out : (Int32 × os_T)) (hf : ff_X13_shortest N o_this a1 = some out) : mc_C l D kA yX13_shortest wsX13_shortest ({ frames := 4, cells := 0, slots := 0, locals := 94 } : Room) [.ref (q_this 0), .int a1] (ce_X13 kA q_this o_this) (some (.int out.1)) (ce_X13 kA q_this out.2) := by
  refine mc_of (cc := cX13_shortest) (maxL := 5) (ret := (some .int)) (by decide) rfl (Nat.le_of_ble_eq_true rfl) ?_
  intro p e s m below meth c A B hD hP hS ls hl
  obtain ⟨hx, hb, hr, hlk, hml, hown, hts, hK, hA, hnm⟩ := B
  have hown : s.vm.findClass RX13 = some m.cls := hown
  have hl : lv_has ls 5 [(0, .ref (q_this 0)), (1, .int a1)] := hl
  have hUX13 : ∀ w ∈ u_ws RX13 TX13 48, w.before [.ref (q_this 0), .int a1].toArray s = true := fun w h => hts w (List.mem_cons_of_mem _ (List.mem_append_right _ h))
  have hB95 : ∀ (k18 : (os_T × Int32 × Int32 × Int32) → Option (Int32 × os_T)), (∀ (o_this : os_T) (x1 : Int32) (x2 : Int32) (x3 : Int32) (H : Heap) (locs : List Loc) (ls : Array Slot), va_P D vwCl (ce_X13 kA q_this o_this) H → va_D A (ce_X13 kA q_this o_this) → va_S A s.heap H locs → lv_has ls 5 [(0, .ref (q_this 0)), (1, .int x1), (2, .int x2), (3, .int x3)] → k18 (o_this, x1, x2, x3) = some out → W p l e ({ frames := 4, cells := 0, slots := 0, locals := 94 } : Room) s m [.ref (q_this 0), .int a1].toArray below meth c H locs 0 0 (MQ below (mc_Q D kA A (some (.int out.1)) (ce_X13 kA q_this out.2)) [.ref (q_this 0), .int a1].toArray s 0 0 A) (F0 m 18 ls [])) → ∀ (o_this : os_T) (x1 : Int32) (x2 : Int32) (x3 : Int32) (H : Heap) (locs : List Loc) (ls : Array Slot), va_P D vwCl (ce_X13 kA q_this o_this) H → va_D A (ce_X13 kA q_this o_this) → va_S A s.heap H locs → lv_has ls 5 [(0, .ref (q_this 0)), (1, .int x1), (2, .int x2), (3, .int x3)] → ff_X13_shortest_b95 N k18 o_this x1 x2 x3 = some out → W p l e ({ frames := 4, cells := 0, slots := 0, locals := 94 } : Room) s m [.ref (q_this 0), .int a1].toArray below meth c H locs 0 0 (MQ below (mc_Q D kA A (some (.int out.1)) (ce_X13 kA q_this out.2)) [.ref (q_this 0), .int a1].toArray s 0 0 A) (F0 m 95 ls []) := by
    intro k18 hk18 o_this x1 x2 x3 H locs ls hP hD hS hl hf
    unfold ff_X13_shortest_b95 at hf
    refine lv_iinc (v := x3 + 1) (lv' := [(3, .int (x3 + 1)), (0, .ref (q_this 0)), (1, .int x1), (2, .int x2)]) hx hb dX13_shortest_95 hl (k := 3) rfl rfl (by decide) rfl (fun ls hl => ?_)
    refine lv_goto (tgt := 18) hx hb dX13_shortest_98 (by decide) ?_
    exact hk18 o_this x1 x2 (x3 + 1) _ _ _ hP hD hS (lv_sub hl [1, 2, 3, 0] rfl) hf
  have hB92 : ∀ (k18 : (os_T × Int32 × Int32 × Int32) → Option (Int32 × os_T)), (∀ (o_this : os_T) (x1 : Int32) (x2 : Int32) (x3 : Int32) (H : Heap) (locs : List Loc) (ls : Array Slot), va_P D vwCl (ce_X13 kA q_this o_this) H → va_D A (ce_X13 kA q_this o_this) → va_S A s.heap H locs → lv_has ls 5 [(0, .ref (q_this 0)), (1, .int x1), (2, .int x2), (3, .int x3)] → k18 (o_this, x1, x2, x3) = some out → W p l e ({ frames := 4, cells := 0, slots := 0, locals := 94 } : Room) s m [.ref (q_this 0), .int a1].toArray below meth c H locs 0 0 (MQ below (mc_Q D kA A (some (.int out.1)) (ce_X13 kA q_this out.2)) [.ref (q_this 0), .int a1].toArray s 0 0 A) (F0 m 18 ls [])) → ∀ (o_this : os_T) (x1 : Int32) (x3 : Int32) (x4 : Int32) (H : Heap) (locs : List Loc) (ls : Array Slot), va_P D vwCl (ce_X13 kA q_this o_this) H → va_D A (ce_X13 kA q_this o_this) → va_S A s.heap H locs → lv_has ls 5 [(0, .ref (q_this 0)), (1, .int x1), (3, .int x3), (4, .int x4)] → ff_X13_shortest_b92 N k18 o_this x1 x3 x4 = some out → W p l e ({ frames := 4, cells := 0, slots := 0, locals := 94 } : Room) s m [.ref (q_this 0), .int a1].toArray below meth c H locs 0 0 (MQ below (mc_Q D kA A (some (.int out.1)) (ce_X13 kA q_this out.2)) [.ref (q_this 0), .int a1].toArray s 0 0 A) (F0 m 92 ls []) := by
    intro k18 hk18 o_this x1 x3 x4 H locs ls hP hD hS hl hf
    unfold ff_X13_shortest_b92 at hf
    refine lv_iload hx hb dX13_shortest_92 (lv_at hl 3 rfl) ?_
    refine lv_istore_n (lv' := [(2, .int x4), (0, .ref (q_this 0)), (1, .int x1), (3, .int x3), (4, .int x4)]) hx hb dX13_shortest_94 rfl hl (by decide) rfl (fun ls hl => ?_)
    exact hB95 k18 hk18 o_this x1 x4 x3 _ _ _ hP hD hS (lv_sub hl [1, 2, 0, 3] rfl) hf
  have hB75 : ∀ (k18 : (os_T × Int32 × Int32 × Int32) → Option (Int32 × os_T)), (∀ (o_this : os_T) (x1 : Int32) (x2 : Int32) (x3 : Int32) (H : Heap) (locs : List Loc) (ls : Array Slot), va_P D vwCl (ce_X13 kA q_this o_this) H → va_D A (ce_X13 kA q_this o_this) → va_S A s.heap H locs → lv_has ls 5 [(0, .ref (q_this 0)), (1, .int x1), (2, .int x2), (3, .int x3)] → k18 (o_this, x1, x2, x3) = some out → W p l e ({ frames := 4, cells := 0, slots := 0, locals := 94 } : Room) s m [.ref (q_this 0), .int a1].toArray below meth c H locs 0 0 (MQ below (mc_Q D kA A (some (.int out.1)) (ce_X13 kA q_this out.2)) [.ref (q_this 0), .int a1].toArray s 0 0 A) (F0 m 18 ls [])) → ∀ (o_this : os_T) (x1 : Int32) (x2 : Int32) (x3 : Int32) (t0 : Int32) (H : Heap) (locs : List Loc) (ls : Array Slot), va_P D vwCl (ce_X13 kA q_this o_this) H → va_D A (ce_X13 kA q_this o_this) → va_S A s.heap H locs → lv_has ls 5 [(0, .ref (q_this 0)), (1, .int x1), (2, .int x2), (3, .int x3)] → ff_X13_shortest_b75 N k18 o_this x1 x2 x3 t0 = some out → W p l e ({ frames := 4, cells := 0, slots := 0, locals := 94 } : Room) s m [.ref (q_this 0), .int a1].toArray below meth c H locs 0 0 (MQ below (mc_Q D kA A (some (.int out.1)) (ce_X13 kA q_this out.2)) [.ref (q_this 0), .int a1].toArray s 0 0 A) (F0 m 75 ls [.int t0]) := by
    intro k18 hk18 o_this x1 x2 x3 t0 H locs ls hP hD hS hl hf
    unfold ff_X13_shortest_b75 at hf
    refine lv_istore (lv' := [(4, .int t0), (0, .ref (q_this 0)), (1, .int x1), (2, .int x2), (3, .int x3)]) hx hb dX13_shortest_75 hl (by decide) rfl (fun ls hl => ?_)
    refine lv_iload hx hb dX13_shortest_77 (lv_at hl 0 rfl) ?_
    refine lv_if_le (tgt := 95) hx hb dX13_shortest_79 (by decide) (fun hc_22 => ?_) (fun hc_22 => ?_)
    · rw [if_pos hc_22] at hf
      exact hB95 k18 hk18 o_this x1 x2 x3 _ _ _ hP hD hS (lv_sub hl [1, 2, 3, 4] rfl) hf
    · rw [if_neg hc_22] at hf
      refine lv_iload_n hx hb dX13_shortest_82 rfl (lv_at hl 3 rfl) ?_
      refine lv_if_eq (tgt := 92) hx hb dX13_shortest_83 (by decide) (fun hc_23 => ?_) (fun hc_23 => ?_)
      · rw [if_pos hc_23] at hf
        exact hB92 k18 hk18 o_this x1 x3 t0 _ _ _ hP hD hS (lv_sub hl [1, 2, 4, 0] rfl) hf
      · rw [if_neg hc_23] at hf
        refine lv_iload hx hb dX13_shortest_86 (lv_at hl 0 rfl) ?_
        refine lv_iload_n hx hb dX13_shortest_88 rfl (lv_at hl 3 rfl) ?_
        refine lv_icmp_ge (tgt := 95) hx hb dX13_shortest_89 (by decide) (fun hc_24 => ?_) (fun hc_24 => ?_)
        · rw [if_pos hc_24] at hf
          exact hB95 k18 hk18 o_this x1 x2 x3 _ _ _ hP hD hS (lv_sub hl [1, 2, 3, 4] rfl) hf
        · rw [if_neg hc_24] at hf
          exact hB92 k18 hk18 o_this x1 x3 t0 _ _ _ hP hD hS (lv_sub hl [1, 2, 4, 0] rfl) hf
  have hL18 : ∀ (n : Nat) (o_this : os_T) (x1 : Int32) (x2 : Int32) (x3 : Int32) (H : Heap) (locs : List Loc) (ls : Array Slot), va_P D vwCl (ce_X13 kA q_this o_this) H → va_D A (ce_X13 kA q_this o_this) → va_S A s.heap H locs → lv_has ls 5 [(0, .ref (q_this 0)), (1, .int x1), (2, .int x2), (3, .int x3)] → ff_X13_shortest_l18 N n (o_this, x1, x2, x3) = some out → W p l e ({ frames := 4, cells := 0, slots := 0, locals := 94 } : Room) s m [.ref (q_this 0), .int a1].toArray below meth c H locs 0 0 (MQ below (mc_Q D kA A (some (.int out.1)) (ce_X13 kA q_this out.2)) [.ref (q_this 0), .int a1].toArray s 0 0 A) (F0 m 18 ls []) := by
    intro n
    induction n with
    | zero => intro o_this x1 x2 x3 H locs ls _ _ _ _ hf; cases hf
    | succ n hk18 =>
      intro o_this x1 x2 x3 H locs ls hP hD hS hl hf
      have hf : ff_X13_shortest_c18 N (ff_X13_shortest_l18 N n) o_this x1 x2 x3 = some out := hf
      generalize hke : ff_X13_shortest_l18 N n = k18 at hk18 hf
      unfold ff_X13_shortest_c18 at hf
      refine lv_iload_n hx hb dX13_shortest_18 rfl (lv_at hl 3 rfl) ?_
      refine lv_aload_n hx hb dX13_shortest_19 rfl (lv_at hl 0 rfl) ?_
      obtain ⟨u_6, he_7, hf⟩ := os_bd hf
      refine mc_callV ⟨hx, hb, hml, hown, hts⟩ (mm_X13_cellMany l D kA N q_this o_this u_6 he_7) (cwV 0 hts gX13_shortest_X13_cellMany rfl rfl rfl (by decide +kernel) ⟨Nat.le_of_ble_eq_true rfl, Nat.le_of_ble_eq_true rfl⟩) (wc := (ce_X13 kA q_this o_this)) (ci := 9) (q0 := 0) rfl rfl rfl hl.1 (As := []) (rest := [.int x3]) rfl (Nat.le_of_ble_eq_true rfl) dX13_shortest_20 ⟨Nat.le_of_ble_eq_true rfl, Nat.le_of_ble_eq_true rfl⟩ hK hP hD hS hA [0, 1, 2, 3, 4, 5, 6, 7, 8, 9, 10, 11, 12, 13, 14, 15, 16, 17, 18, 19, 20, 21, 22, 23] [] [0, 1, 2, 3, 4, 5, 6, 7, 8, 9, 10, 11, 12, 13, 14, 15, 16, 17, 18, 19, 20, 21, 22, 23] rfl (by decide) rfl (by decide) (by decide) rfl (by decide) (wr := []) (w2 := (ce_X13 kA q_this o_this)) (fun H locs hP hD hS => ?_)
      have hP : va_P D vwCl (ce_X13 kA q_this o_this) H := hP
      refine lv_icmp_ge (tgt := 101) hx hb dX13_shortest_23 (by decide) (fun hc_8 => ?_) (fun hc_8 => ?_)
      · rw [if_pos hc_8] at hf
        refine lv_iload_n hx hb dX13_shortest_101 rfl (lv_at hl 2 rfl) ?_
        rw [← Option.some.inj hf]
        exact mc_reti hx hb hr hlk hP hK hD hS dX13_shortest_102
      · rw [if_neg hc_8] at hf
        refine lv_aload_n hx hb dX13_shortest_26 rfl (lv_at hl 0 rfl) ?_
        refine lv_iload_n hx hb dX13_shortest_27 rfl (lv_at hl 1 rfl) ?_
        refine lv_iload_n hx hb dX13_shortest_28 rfl (lv_at hl 3 rfl) ?_
        refine lv_aload_n hx hb dX13_shortest_29 rfl (lv_at hl 0 rfl) ?_
        refine va_get (D := D) (ci := 9) (v := .ref (q_this 2)) (C := RX13) (T := TX13) (N := 48) hx hb hUX13 (fun _ h9 => h9) hown hK hP 0 rfl rfl 13 (by decide) (hts (Cond.fieldLink RX13 20 "ReliefBuilderModel" "now" "[I") (List.mem_of_getElem? (i := 1) rfl)) (fun _ h9 => h9) rfl dX13_shortest_30 ?_
        refine lv_iconst (v := 0) hx hb dX13_shortest_33 (by decide) ?_
        obtain ⟨hi_9, hf⟩ := os_if hf
        refine va_iald hx hb hK hP 2 0 rfl rfl hi_9 dX13_shortest_34 ?_
        obtain ⟨hz_10, hf⟩ := os_if hf
        refine lv_irem hx hb dX13_shortest_35 hz_10 ?_
        refine lv_iload_n hx hb dX13_shortest_36 rfl (lv_at hl 3 rfl) ?_
        refine lv_aload_n hx hb dX13_shortest_37 rfl (lv_at hl 0 rfl) ?_
        refine va_get (D := D) (ci := 9) (v := .ref (q_this 2)) (C := RX13) (T := TX13) (N := 48) hx hb hUX13 (fun _ h9 => h9) hown hK hP 0 rfl rfl 13 (by decide) (hts (Cond.fieldLink RX13 20 "ReliefBuilderModel" "now" "[I") (List.mem_of_getElem? (i := 1) rfl)) (fun _ h9 => h9) rfl dX13_shortest_38 ?_
        refine lv_iconst (v := 0) hx hb dX13_shortest_41 (by decide) ?_
        obtain ⟨hi_11, hf⟩ := os_if hf
        refine va_iald hx hb hK hP 2 0 rfl rfl hi_11 dX13_shortest_42 ?_
        obtain ⟨hz_12, hf⟩ := os_if hf
        refine lv_idiv hx hb dX13_shortest_43 hz_12 ?_
        obtain ⟨u_13, he_14, hf⟩ := os_bd hf
        refine mc_callV ⟨hx, hb, hml, hown, hts⟩ (mm_X13_beginsRun l D kA N q_this o_this x1 (x3 - x3 / ((os_A o_this 1) (Int32.toNatClampNeg (0 : Int32))) * ((os_A o_this 1) (Int32.toNatClampNeg (0 : Int32)))) (x3 / ((os_A o_this 1) (Int32.toNatClampNeg (0 : Int32)))) u_13 he_14) (cwV 3 hts gX13_shortest_X13_beginsRun rfl rfl rfl (by decide +kernel) ⟨Nat.le_of_ble_eq_true rfl, Nat.le_of_ble_eq_true rfl⟩) (wc := (ce_X13 kA q_this o_this)) (ci := 9) (q0 := 0) rfl rfl rfl hl.1 (As := [.int x1, .int (x3 - x3 / ((os_A o_this 1) (Int32.toNatClampNeg (0 : Int32))) * ((os_A o_this 1) (Int32.toNatClampNeg (0 : Int32)))), .int (x3 / ((os_A o_this 1) (Int32.toNatClampNeg (0 : Int32))))]) (rest := []) rfl (Nat.le_of_ble_eq_true rfl) dX13_shortest_44 ⟨Nat.le_of_ble_eq_true rfl, Nat.le_of_ble_eq_true rfl⟩ hK hP hD hS hA [0, 1, 2, 3, 4, 5, 6, 7, 8, 9, 10, 11, 12, 13, 14, 15, 16, 17, 18, 19, 20, 21, 22, 23] [] [0, 1, 2, 3, 4, 5, 6, 7, 8, 9, 10, 11, 12, 13, 14, 15, 16, 17, 18, 19, 20, 21, 22, 23] rfl (by decide) rfl (by decide) (by decide) rfl (by decide) (wr := []) (w2 := (ce_X13 kA q_this o_this)) (fun H locs hP hD hS => ?_)
        have hP : va_P D vwCl (ce_X13 kA q_this o_this) H := hP
        refine lv_if_eq (tgt := 74) hx hb dX13_shortest_47 (by decide) (fun hc_15 => ?_) (fun hc_15 => ?_)
        · rw [if_pos hc_15] at hf
          refine lv_iconst (v := 0) hx hb dX13_shortest_74 (by decide) ?_
          exact hB75 k18 hk18 o_this x1 x2 x3 (0 : Int32) _ _ _ hP hD hS (lv_sub hl [0, 1, 2, 3] rfl) hf
        · rw [if_neg hc_15] at hf
          refine lv_aload_n hx hb dX13_shortest_50 rfl (lv_at hl 0 rfl) ?_
          refine lv_iload_n hx hb dX13_shortest_51 rfl (lv_at hl 1 rfl) ?_
          refine lv_iload_n hx hb dX13_shortest_52 rfl (lv_at hl 3 rfl) ?_
          refine lv_aload_n hx hb dX13_shortest_53 rfl (lv_at hl 0 rfl) ?_
          refine va_get (D := D) (ci := 9) (v := .ref (q_this 2)) (C := RX13) (T := TX13) (N := 48) hx hb hUX13 (fun _ h9 => h9) hown hK hP 0 rfl rfl 13 (by decide) (hts (Cond.fieldLink RX13 20 "ReliefBuilderModel" "now" "[I") (List.mem_of_getElem? (i := 1) rfl)) (fun _ h9 => h9) rfl dX13_shortest_54 ?_
          refine lv_iconst (v := 0) hx hb dX13_shortest_57 (by decide) ?_
          obtain ⟨hi_16, hf⟩ := os_if hf
          refine va_iald hx hb hK hP 2 0 rfl rfl hi_16 dX13_shortest_58 ?_
          obtain ⟨hz_17, hf⟩ := os_if hf
          refine lv_irem hx hb dX13_shortest_59 hz_17 ?_
          refine lv_iload_n hx hb dX13_shortest_60 rfl (lv_at hl 3 rfl) ?_
          refine lv_aload_n hx hb dX13_shortest_61 rfl (lv_at hl 0 rfl) ?_
          refine va_get (D := D) (ci := 9) (v := .ref (q_this 2)) (C := RX13) (T := TX13) (N := 48) hx hb hUX13 (fun _ h9 => h9) hown hK hP 0 rfl rfl 13 (by decide) (hts (Cond.fieldLink RX13 20 "ReliefBuilderModel" "now" "[I") (List.mem_of_getElem? (i := 1) rfl)) (fun _ h9 => h9) rfl dX13_shortest_62 ?_
          refine lv_iconst (v := 0) hx hb dX13_shortest_65 (by decide) ?_
          obtain ⟨hi_18, hf⟩ := os_if hf
          refine va_iald hx hb hK hP 2 0 rfl rfl hi_18 dX13_shortest_66 ?_
          obtain ⟨hz_19, hf⟩ := os_if hf
          refine lv_idiv hx hb dX13_shortest_67 hz_19 ?_
          obtain ⟨u_20, he_21, hf⟩ := os_bd hf
          refine mc_callV ⟨hx, hb, hml, hown, hts⟩ (mm_X13_runLength l D kA N q_this o_this x1 (x3 - x3 / ((os_A o_this 1) (Int32.toNatClampNeg (0 : Int32))) * ((os_A o_this 1) (Int32.toNatClampNeg (0 : Int32)))) (x3 / ((os_A o_this 1) (Int32.toNatClampNeg (0 : Int32)))) u_20 he_21) (cwV 3 hts gX13_shortest_X13_runLength rfl rfl rfl (by decide +kernel) ⟨Nat.le_of_ble_eq_true rfl, Nat.le_of_ble_eq_true rfl⟩) (wc := (ce_X13 kA q_this o_this)) (ci := 9) (q0 := 0) rfl rfl rfl hl.1 (As := [.int x1, .int (x3 - x3 / ((os_A o_this 1) (Int32.toNatClampNeg (0 : Int32))) * ((os_A o_this 1) (Int32.toNatClampNeg (0 : Int32)))), .int (x3 / ((os_A o_this 1) (Int32.toNatClampNeg (0 : Int32))))]) (rest := []) rfl (Nat.le_of_ble_eq_true rfl) dX13_shortest_68 ⟨Nat.le_of_ble_eq_true rfl, Nat.le_of_ble_eq_true rfl⟩ hK hP hD hS hA [0, 1, 2, 3, 4, 5, 6, 7, 8, 9, 10, 11, 12, 13, 14, 15, 16, 17, 18, 19, 20, 21, 22, 23] [] [0, 1, 2, 3, 4, 5, 6, 7, 8, 9, 10, 11, 12, 13, 14, 15, 16, 17, 18, 19, 20, 21, 22, 23] rfl (by decide) rfl (by decide) (by decide) rfl (by decide) (wr := []) (w2 := (ce_X13 kA q_this o_this)) (fun H locs hP hD hS => ?_)
          have hP : va_P D vwCl (ce_X13 kA q_this o_this) H := hP
          refine lv_goto (tgt := 75) hx hb dX13_shortest_71 (by decide) ?_
          exact hB75 k18 hk18 o_this x1 x2 x3 u_20 _ _ _ hP hD hS (lv_sub hl [0, 1, 2, 3] rfl) hf
  unfold ff_X13_shortest at hf
  refine lv_aload_n hx hb dX13_shortest_0 rfl (lv_at hl 0 rfl) ?_
  refine lv_aload_n hx hb dX13_shortest_1 rfl (lv_at hl 0 rfl) ?_
  refine lv_iload_n hx hb dX13_shortest_2 rfl (lv_at hl 1 rfl) ?_
  obtain ⟨u_1, he_2, hf⟩ := os_bd hf
  refine mc_callV ⟨hx, hb, hml, hown, hts⟩ (mm_X13_isLayer l D kA N q_this o_this a1 u_1 he_2) (cwV 1 hts gX13_shortest_X13_isLayer rfl rfl rfl (by decide +kernel) ⟨Nat.le_of_ble_eq_true rfl, Nat.le_of_ble_eq_true rfl⟩) (wc := (ce_X13 kA q_this o_this)) (ci := 9) (q0 := 0) rfl rfl rfl hl.1 (As := [.int a1]) (rest := [.ref (q_this 0)]) rfl (Nat.le_of_ble_eq_true rfl) dX13_shortest_3 ⟨Nat.le_of_ble_eq_true rfl, Nat.le_of_ble_eq_true rfl⟩ hK hP hD hS hA [0, 1, 2, 3, 4, 5, 6, 7, 8, 9, 10, 11, 12, 13, 14, 15, 16, 17, 18, 19, 20, 21, 22, 23] [] [0, 1, 2, 3, 4, 5, 6, 7, 8, 9, 10, 11, 12, 13, 14, 15, 16, 17, 18, 19, 20, 21, 22, 23] rfl (by decide) rfl (by decide) (by decide) rfl (by decide) (wr := []) (w2 := (ce_X13 kA q_this o_this)) (fun H locs hP hD hS => ?_)
  have hP : va_P D vwCl (ce_X13 kA q_this o_this) H := hP
  obtain ⟨u_3, he_4, hf⟩ := os_bd hf
  refine mc_callV ⟨hx, hb, hml, hown, hts⟩ (mm_X13_goes l D kA N q_this o_this u_1 u_3 he_4) (cwV 1 hts gX13_shortest_X13_goes rfl rfl rfl (by decide +kernel) ⟨Nat.le_of_ble_eq_true rfl, Nat.le_of_ble_eq_true rfl⟩) (wc := (ce_X13 kA q_this o_this)) (ci := 9) (q0 := 0) rfl rfl rfl hl.1 (As := [.int u_1]) (rest := []) rfl (Nat.le_of_ble_eq_true rfl) dX13_shortest_6 ⟨Nat.le_of_ble_eq_true rfl, Nat.le_of_ble_eq_true rfl⟩ hK hP hD hS hA [0, 1, 2, 3, 4, 5, 6, 7, 8, 9, 10, 11, 12, 13, 14, 15, 16, 17, 18, 19, 20, 21, 22, 23] [] [0, 1, 2, 3, 4, 5, 6, 7, 8, 9, 10, 11, 12, 13, 14, 15, 16, 17, 18, 19, 20, 21, 22, 23] rfl (by decide) rfl (by decide) (by decide) rfl (by decide) (wr := []) (w2 := (ce_X13 kA q_this u_3.2)) (fun H locs hP hD hS => ?_)
  have hP : va_P D vwCl (ce_X13 kA q_this u_3.2) H := hP
  refine lv_if_ne (tgt := 14) hx hb dX13_shortest_9 (by decide) (fun hc_5 => ?_) (fun hc_5 => ?_)
  · rw [if_neg hc_5] at hf
    refine lv_iconst (v := 0) hx hb dX13_shortest_14 (by decide) ?_
    refine lv_istore_n (lv' := [(2, .int (0 : Int32)), (0, .ref (q_this 0)), (1, .int a1)]) hx hb dX13_shortest_15 rfl hl (by decide) rfl (fun ls hl => ?_)
    refine lv_iconst (v := 0) hx hb dX13_shortest_16 (by decide) ?_
    refine lv_istore_n (lv' := [(3, .int (0 : Int32)), (2, .int (0 : Int32)), (0, .ref (q_this 0)), (1, .int a1)]) hx hb dX13_shortest_17 rfl hl (by decide) rfl (fun ls hl => ?_)
    exact hL18 N u_3.2 a1 (0 : Int32) (0 : Int32) _ _ _ hP hD hS (lv_sub hl [2, 3, 1, 0] rfl) hf
  · rw [if_pos hc_5] at hf
    refine lv_iconst (v := 0) hx hb dX13_shortest_12 (by decide) ?_
    rw [← Option.some.inj hf]
    exact mc_reti hx hb hr hlk hP hK hD hS dX13_shortest_13
def ff_X13_allRectangles_c9 (N : Nat) (k9 : (os_T × Int32 × Int32) → Option (Int32 × os_T)) (o_this : os_T) (x1 : Int32) (x2 : Int32) : Option (Int32 × os_T) :=
  (if os_in (2 : Int32) 7 then (if ((os_A o_this 1) (Int32.toNatClampNeg (2 : Int32))) < x2 then some (x1, o_this) else ((ff_X13_rectanglesOf N o_this x2).bind fun u_3 => k9 (o_this, x1 + u_3, x2 + 1))) else none)
def ff_X13_allRectangles_l9 (N : Nat) : Nat → (os_T × Int32 × Int32) → Option (Int32 × os_T) := os_loop (fun k9 s1 => ff_X13_allRectangles_c9 N k9 s1.1 s1.2.1 s1.2.2)
def ff_X13_allRectangles (N : Nat) (o_this : os_T) : Option (Int32 × os_T) :=
  ff_X13_allRectangles_l9 N N (ss_I o_this 0 (0 : Int32), (0 : Int32), (1 : Int32))
set_option maxHeartbeats 4000000 in
set_option maxRecDepth 100000 in
theorem mm_X13_allRectangles (l : Launch) (D : va_G) (kA : Nat → ClassId) (N : Nat) (q_this : Nat → Nat) (o_this : os_T) (out : (Int32 × os_T)) (hf : ff_X13_allRectangles N o_this = some out) : mc_C l D kA yX13_allRectangles wsX13_allRectangles ({ frames := 7, cells := 0, slots := 0, locals := 164 } : Room) [.ref (q_this 0)] (ce_X13 kA q_this o_this) (some (.int out.1)) (ce_X13 kA q_this out.2) := by
  refine mc_of (cc := cX13_allRectangles) (maxL := 3) (ret := (some .int)) (by decide) rfl (Nat.le_of_ble_eq_true rfl) ?_
  intro p e s m below meth c A B hD hP hS ls hl
  obtain ⟨hx, hb, hr, hlk, hml, hown, hts, hK, hA, hnm⟩ := B
  have hown : s.vm.findClass RX13 = some m.cls := hown
  have hl : lv_has ls 3 [(0, .ref (q_this 0))] := hl
  have hUX13 : ∀ w ∈ u_ws RX13 TX13 48, w.before [.ref (q_this 0)].toArray s = true := fun w h => hts w (List.mem_cons_of_mem _ (List.mem_append_right _ h))
  have hL9 : ∀ (n : Nat) (o_this : os_T) (x1 : Int32) (x2 : Int32) (H : Heap) (locs : List Loc) (ls : Array Slot), va_P D vwCl (ce_X13 kA q_this o_this) H → va_D A (ce_X13 kA q_this o_this) → va_S A s.heap H locs → lv_has ls 3 [(0, .ref (q_this 0)), (1, .int x1), (2, .int x2)] → ff_X13_allRectangles_l9 N n (o_this, x1, x2) = some out → W p l e ({ frames := 7, cells := 0, slots := 0, locals := 164 } : Room) s m [.ref (q_this 0)].toArray below meth c H locs 0 0 (MQ below (mc_Q D kA A (some (.int out.1)) (ce_X13 kA q_this out.2)) [.ref (q_this 0)].toArray s 0 0 A) (F0 m 9 ls []) := by
    intro n
    induction n with
    | zero => intro o_this x1 x2 H locs ls _ _ _ _ hf; cases hf
    | succ n hk9 =>
      intro o_this x1 x2 H locs ls hP hD hS hl hf
      have hf : ff_X13_allRectangles_c9 N (ff_X13_allRectangles_l9 N n) o_this x1 x2 = some out := hf
      generalize hke : ff_X13_allRectangles_l9 N n = k9 at hk9 hf
      unfold ff_X13_allRectangles_c9 at hf
      refine lv_iload_n hx hb dX13_allRectangles_9 rfl (lv_at hl 2 rfl) ?_
      refine lv_aload_n hx hb dX13_allRectangles_10 rfl (lv_at hl 0 rfl) ?_
      refine va_get (D := D) (ci := 9) (v := .ref (q_this 2)) (C := RX13) (T := TX13) (N := 48) hx hb hUX13 (fun _ h9 => h9) hown hK hP 0 rfl rfl 13 (by decide) (hts (Cond.fieldLink RX13 20 "ReliefBuilderModel" "now" "[I") (List.mem_of_getElem? (i := 2) rfl)) (fun _ h9 => h9) rfl dX13_allRectangles_11 ?_
      refine lv_iconst (v := 2) hx hb dX13_allRectangles_14 (by decide) ?_
      obtain ⟨hi_1, hf⟩ := os_if hf
      refine va_iald hx hb hK hP 2 0 rfl rfl hi_1 dX13_allRectangles_15 ?_
      refine lv_icmp_gt (tgt := 33) hx hb dX13_allRectangles_16 (by decide) (fun hc_2 => ?_) (fun hc_2 => ?_)
      · rw [if_pos hc_2] at hf
        refine lv_iload_n hx hb dX13_allRectangles_33 rfl (lv_at hl 1 rfl) ?_
        rw [← Option.some.inj hf]
        exact mc_reti hx hb hr hlk hP hK hD hS dX13_allRectangles_34
      · rw [if_neg hc_2] at hf
        refine lv_iload_n hx hb dX13_allRectangles_19 rfl (lv_at hl 1 rfl) ?_
        refine lv_aload_n hx hb dX13_allRectangles_20 rfl (lv_at hl 0 rfl) ?_
        refine lv_iload_n hx hb dX13_allRectangles_21 rfl (lv_at hl 2 rfl) ?_
        obtain ⟨u_3, he_4, hf⟩ := os_bd hf
        refine mc_callV ⟨hx, hb, hml, hown, hts⟩ (mm_X13_rectanglesOf l D kA N q_this o_this x2 u_3 he_4) (cwV 1 hts gX13_allRectangles_X13_rectanglesOf rfl rfl rfl (by decide +kernel) ⟨Nat.le_of_ble_eq_true rfl, Nat.le_of_ble_eq_true rfl⟩) (wc := (ce_X13 kA q_this o_this)) (ci := 9) (q0 := 0) rfl rfl rfl hl.1 (As := [.int x2]) (rest := [.int x1]) rfl (Nat.le_of_ble_eq_true rfl) dX13_allRectangles_22 ⟨Nat.le_of_ble_eq_true rfl, Nat.le_of_ble_eq_true rfl⟩ hK hP hD hS hA [0, 1, 2, 3, 4, 5, 6, 7, 8, 9, 10, 11, 12, 13, 14, 15, 16, 17, 18, 19, 20, 21, 22, 23] [] [0, 1, 2, 3, 4, 5, 6, 7, 8, 9, 10, 11, 12, 13, 14, 15, 16, 17, 18, 19, 20, 21, 22, 23] rfl (by decide) rfl (by decide) (by decide) rfl (by decide) (wr := []) (w2 := (ce_X13 kA q_this o_this)) (fun H locs hP hD hS => ?_)
        have hP : va_P D vwCl (ce_X13 kA q_this o_this) H := hP
        refine lv_iadd hx hb dX13_allRectangles_25 ?_
        refine lv_istore_n (lv' := [(1, .int (x1 + u_3)), (0, .ref (q_this 0)), (2, .int x2)]) hx hb dX13_allRectangles_26 rfl hl (by decide) rfl (fun ls hl => ?_)
        refine lv_iinc (v := x2 + 1) (lv' := [(2, .int (x2 + 1)), (1, .int (x1 + u_3)), (0, .ref (q_this 0))]) hx hb dX13_allRectangles_27 hl (k := 2) rfl rfl (by decide) rfl (fun ls hl => ?_)
        refine lv_goto (tgt := 9) hx hb dX13_allRectangles_30 (by decide) ?_
        exact hk9 o_this (x1 + u_3) (x2 + 1) _ _ _ hP hD hS (lv_sub hl [2, 1, 0] rfl) hf
  unfold ff_X13_allRectangles at hf
  refine lv_aload_n hx hb dX13_allRectangles_0 rfl (lv_at hl 0 rfl) ?_
  refine lv_iconst (v := 0) hx hb dX13_allRectangles_1 (by decide) ?_
  refine va_put (D := D) (ci := 9) (v := .int (0 : Int32)) (ty := .int) (C := RX13) (T := TX13) (N := 48) hx hb hUX13 (fun _ h9 => h9) tyX13 tyX13_ok nmX13 hown hK hP hD hS 0 rfl rfl 0 (by decide) (hts (Cond.fieldLink RX13 93 "ReliefBuilderModel" "code" "I") (List.mem_of_getElem? (i := 1) rfl)) (fun _ h9 => h9) rfl (tyX13_ok 0 (by decide)) rfl rfl (Nat.le_of_ble_eq_true rfl) dX13_allRectangles_2 (fun H locs hP hD hS => ?_)
  have hP : va_P D vwCl (ce_X13 kA q_this (ss_I o_this 0 (0 : Int32))) H := hP
  have hD : va_D A (ce_X13 kA q_this (ss_I o_this 0 (0 : Int32))) := hD
  refine lv_iconst (v := 0) hx hb dX13_allRectangles_5 (by decide) ?_
  refine lv_istore_n (lv' := [(1, .int (0 : Int32)), (0, .ref (q_this 0))]) hx hb dX13_allRectangles_6 rfl hl (by decide) rfl (fun ls hl => ?_)
  refine lv_iconst (v := 1) hx hb dX13_allRectangles_7 (by decide) ?_
  refine lv_istore_n (lv' := [(2, .int (1 : Int32)), (1, .int (0 : Int32)), (0, .ref (q_this 0))]) hx hb dX13_allRectangles_8 rfl hl (by decide) rfl (fun ls hl => ?_)
  exact hL9 N (ss_I o_this 0 (0 : Int32)) (0 : Int32) (1 : Int32) _ _ _ hP hD hS (lv_sub hl [2, 1, 0] rfl) hf
def ff_X13_outline_b152 (N : Nat) (k18 : (os_T × Int32 × Int32 × Int32) → Option (Int32 × os_T)) (o_this : os_T) (x1 : Int32) (x2 : Int32) (x3 : Int32) : Option (Int32 × os_T) :=
  k18 (o_this, x1, x2, x3 + 1)
def ff_X13_outline_b146 (N : Nat) (k18 : (os_T × Int32 × Int32 × Int32) → Option (Int32 × os_T)) (o_this : os_T) (x1 : Int32) (x3 : Int32) (t0 : Int32) (t1 : Int32) (t2 : Int32) : Option (Int32 × os_T) :=
  ((ff_X13_truth N t0).bind fun u_34 => ff_X13_outline_b152 N k18 o_this x1 (t2 + (t1 + u_34)) x3)
def ff_X13_outline_b123 (N : Nat) (k18 : (os_T × Int32 × Int32 × Int32) → Option (Int32 × os_T)) (o_this : os_T) (x1 : Int32) (x3 : Int32) (x4 : Int32) (x5 : Int32) (t0 : Int32) (t1 : Int32) (t2 : Int32) : Option (Int32 × os_T) :=
  ((ff_X13_truth N t0).bind fun u_29 => ((ff_X13_isOf N o_this x1 x4 (x5 + (1 : Int32))).bind fun u_31 => (if u_31 = 0 then ff_X13_outline_b146 N k18 o_this x1 x3 (1 : Int32) (t1 + u_29) t2 else ff_X13_outline_b146 N k18 o_this x1 x3 (0 : Int32) (t1 + u_29) t2)))
def ff_X13_outline_b100 (N : Nat) (k18 : (os_T × Int32 × Int32 × Int32) → Option (Int32 × os_T)) (o_this : os_T) (x1 : Int32) (x3 : Int32) (x4 : Int32) (x5 : Int32) (t0 : Int32) (t1 : Int32) (t2 : Int32) : Option (Int32 × os_T) :=
  ((ff_X13_truth N t0).bind fun u_24 => ((ff_X13_isOf N o_this x1 x4 (x5 - (1 : Int32))).bind fun u_26 => (if u_26 = 0 then ff_X13_outline_b123 N k18 o_this x1 x3 x4 x5 (1 : Int32) (t1 + u_24) t2 else ff_X13_outline_b123 N k18 o_this x1 x3 x4 x5 (0 : Int32) (t1 + u_24) t2)))
def ff_X13_outline_b78 (N : Nat) (k18 : (os_T × Int32 × Int32 × Int32) → Option (Int32 × os_T)) (o_this : os_T) (x1 : Int32) (x3 : Int32) (x4 : Int32) (x5 : Int32) (t0 : Int32) (t1 : Int32) : Option (Int32 × os_T) :=
  ((ff_X13_truth N t0).bind fun u_19 => ((ff_X13_isOf N o_this x1 (x4 + (1 : Int32)) x5).bind fun u_21 => (if u_21 = 0 then ff_X13_outline_b100 N k18 o_this x1 x3 x4 x5 (1 : Int32) u_19 t1 else ff_X13_outline_b100 N k18 o_this x1 x3 x4 x5 (0 : Int32) u_19 t1)))
def ff_X13_outline_c18 (N : Nat) (k18 : (os_T × Int32 × Int32 × Int32) → Option (Int32 × os_T)) (o_this : os_T) (x1 : Int32) (x2 : Int32) (x3 : Int32) : Option (Int32 × os_T) :=
  ((ff_X13_cellMany N o_this).bind fun u_6 => (if u_6 ≤ x3 then some (x2, o_this) else (if os_in (0 : Int32) 7 then (if ¬ ((os_A o_this 1) (Int32.toNatClampNeg (0 : Int32))) = 0 then (if os_in (0 : Int32) 7 then (if ¬ ((os_A o_this 1) (Int32.toNatClampNeg (0 : Int32))) = 0 then ((ff_X13_isOf N o_this x1 (x3 - x3 / ((os_A o_this 1) (Int32.toNatClampNeg (0 : Int32))) * ((os_A o_this 1) (Int32.toNatClampNeg (0 : Int32)))) (x3 / ((os_A o_this 1) (Int32.toNatClampNeg (0 : Int32))))).bind fun u_13 => (if u_13 = 0 then ff_X13_outline_b152 N k18 o_this x1 x2 x3 else ((ff_X13_isOf N o_this x1 ((x3 - x3 / ((os_A o_this 1) (Int32.toNatClampNeg (0 : Int32))) * ((os_A o_this 1) (Int32.toNatClampNeg (0 : Int32)))) - (1 : Int32)) (x3 / ((os_A o_this 1) (Int32.toNatClampNeg (0 : Int32))))).bind fun u_16 => (if u_16 = 0 then ff_X13_outline_b78 N k18 o_this x1 x3 (x3 - x3 / ((os_A o_this 1) (Int32.toNatClampNeg (0 : Int32))) * ((os_A o_this 1) (Int32.toNatClampNeg (0 : Int32)))) (x3 / ((os_A o_this 1) (Int32.toNatClampNeg (0 : Int32)))) (1 : Int32) x2 else ff_X13_outline_b78 N k18 o_this x1 x3 (x3 - x3 / ((os_A o_this 1) (Int32.toNatClampNeg (0 : Int32))) * ((os_A o_this 1) (Int32.toNatClampNeg (0 : Int32)))) (x3 / ((os_A o_this 1) (Int32.toNatClampNeg (0 : Int32)))) (0 : Int32) x2)))) else none) else none) else none) else none)))
def ff_X13_outline_l18 (N : Nat) : Nat → (os_T × Int32 × Int32 × Int32) → Option (Int32 × os_T) := os_loop (fun k18 s1 => ff_X13_outline_c18 N k18 s1.1 s1.2.1 s1.2.2.1 s1.2.2.2)
def ff_X13_outline (N : Nat) (o_this : os_T) (a1 : Int32) : Option (Int32 × os_T) :=
  ((ff_X13_isLayer N o_this a1).bind fun u_1 => ((ff_X13_goes N o_this u_1).bind fun u_3 => (if u_3.1 = 0 then some ((0 : Int32), u_3.2) else ff_X13_outline_l18 N N (u_3.2, a1, (0 : Int32), (0 : Int32)))))
set_option maxHeartbeats 4000000 in
set_option maxRecDepth 100000 in
theorem mm_X13_outline (l : Launch) (D : va_G) (kA : Nat → ClassId) (N : Nat) (q_this : Nat → Nat) (o_this : os_T) (a1 : Int32) (out : (Int32 × os_T)) (hf : ff_X13_outline N o_this a1 = some out) : mc_C l D kA yX13_outline wsX13_outline ({ frames := 3, cells := 0, slots := 0, locals := 70 } : Room) [.ref (q_this 0), .int a1] (ce_X13 kA q_this o_this) (some (.int out.1)) (ce_X13 kA q_this out.2) := by
  refine mc_of (cc := cX13_outline) (maxL := 6) (ret := (some .int)) (by decide) rfl (Nat.le_of_ble_eq_true rfl) ?_
  intro p e s m below meth c A B hD hP hS ls hl
  obtain ⟨hx, hb, hr, hlk, hml, hown, hts, hK, hA, hnm⟩ := B
  have hown : s.vm.findClass RX13 = some m.cls := hown
  have hl : lv_has ls 6 [(0, .ref (q_this 0)), (1, .int a1)] := hl
  have hUX13 : ∀ w ∈ u_ws RX13 TX13 48, w.before [.ref (q_this 0), .int a1].toArray s = true := fun w h => hts w (List.mem_cons_of_mem _ (List.mem_append_right _ h))
  have hB152 : ∀ (k18 : (os_T × Int32 × Int32 × Int32) → Option (Int32 × os_T)), (∀ (o_this : os_T) (x1 : Int32) (x2 : Int32) (x3 : Int32) (H : Heap) (locs : List Loc) (ls : Array Slot), va_P D vwCl (ce_X13 kA q_this o_this) H → va_D A (ce_X13 kA q_this o_this) → va_S A s.heap H locs → lv_has ls 6 [(0, .ref (q_this 0)), (1, .int x1), (2, .int x2), (3, .int x3)] → k18 (o_this, x1, x2, x3) = some out → W p l e ({ frames := 3, cells := 0, slots := 0, locals := 70 } : Room) s m [.ref (q_this 0), .int a1].toArray below meth c H locs 0 0 (MQ below (mc_Q D kA A (some (.int out.1)) (ce_X13 kA q_this out.2)) [.ref (q_this 0), .int a1].toArray s 0 0 A) (F0 m 18 ls [])) → ∀ (o_this : os_T) (x1 : Int32) (x2 : Int32) (x3 : Int32) (H : Heap) (locs : List Loc) (ls : Array Slot), va_P D vwCl (ce_X13 kA q_this o_this) H → va_D A (ce_X13 kA q_this o_this) → va_S A s.heap H locs → lv_has ls 6 [(0, .ref (q_this 0)), (1, .int x1), (2, .int x2), (3, .int x3)] → ff_X13_outline_b152 N k18 o_this x1 x2 x3 = some out → W p l e ({ frames := 3, cells := 0, slots := 0, locals := 70 } : Room) s m [.ref (q_this 0), .int a1].toArray below meth c H locs 0 0 (MQ below (mc_Q D kA A (some (.int out.1)) (ce_X13 kA q_this out.2)) [.ref (q_this 0), .int a1].toArray s 0 0 A) (F0 m 152 ls []) := by
    intro k18 hk18 o_this x1 x2 x3 H locs ls hP hD hS hl hf
    unfold ff_X13_outline_b152 at hf
    refine lv_iinc (v := x3 + 1) (lv' := [(3, .int (x3 + 1)), (0, .ref (q_this 0)), (1, .int x1), (2, .int x2)]) hx hb dX13_outline_152 hl (k := 3) rfl rfl (by decide) rfl (fun ls hl => ?_)
    refine lv_goto (tgt := 18) hx hb dX13_outline_155 (by decide) ?_
    exact hk18 o_this x1 x2 (x3 + 1) _ _ _ hP hD hS (lv_sub hl [1, 2, 3, 0] rfl) hf
  have hB146 : ∀ (k18 : (os_T × Int32 × Int32 × Int32) → Option (Int32 × os_T)), (∀ (o_this : os_T) (x1 : Int32) (x2 : Int32) (x3 : Int32) (H : Heap) (locs : List Loc) (ls : Array Slot), va_P D vwCl (ce_X13 kA q_this o_this) H → va_D A (ce_X13 kA q_this o_this) → va_S A s.heap H locs → lv_has ls 6 [(0, .ref (q_this 0)), (1, .int x1), (2, .int x2), (3, .int x3)] → k18 (o_this, x1, x2, x3) = some out → W p l e ({ frames := 3, cells := 0, slots := 0, locals := 70 } : Room) s m [.ref (q_this 0), .int a1].toArray below meth c H locs 0 0 (MQ below (mc_Q D kA A (some (.int out.1)) (ce_X13 kA q_this out.2)) [.ref (q_this 0), .int a1].toArray s 0 0 A) (F0 m 18 ls [])) → ∀ (o_this : os_T) (x1 : Int32) (x3 : Int32) (t0 : Int32) (t1 : Int32) (t2 : Int32) (H : Heap) (locs : List Loc) (ls : Array Slot), va_P D vwCl (ce_X13 kA q_this o_this) H → va_D A (ce_X13 kA q_this o_this) → va_S A s.heap H locs → lv_has ls 6 [(0, .ref (q_this 0)), (1, .int x1), (3, .int x3)] → ff_X13_outline_b146 N k18 o_this x1 x3 t0 t1 t2 = some out → W p l e ({ frames := 3, cells := 0, slots := 0, locals := 70 } : Room) s m [.ref (q_this 0), .int a1].toArray below meth c H locs 0 0 (MQ below (mc_Q D kA A (some (.int out.1)) (ce_X13 kA q_this out.2)) [.ref (q_this 0), .int a1].toArray s 0 0 A) (F0 m 146 ls [.int t0, .int t1, .int t2]) := by
    intro k18 hk18 o_this x1 x3 t0 t1 t2 H locs ls hP hD hS hl hf
    unfold ff_X13_outline_b146 at hf
    obtain ⟨u_34, he_35, hf⟩ := os_bd hf
    refine mc_callS ⟨hx, hb, hml, hown, hts⟩ (mm_X13_truth l D kA N t0 u_34 he_35) (va_cwS 1 hts gX13_outline_X13_truth rfl rfl rfl (by decide +kernel) ⟨Nat.le_of_ble_eq_true rfl, Nat.le_of_ble_eq_true rfl⟩) (wc := []) rfl hl.1 (As := [.int t0]) (rest := [.int t1, .int t2]) rfl (Nat.le_of_ble_eq_true rfl) dX13_outline_146 ⟨Nat.le_of_ble_eq_true rfl, Nat.le_of_ble_eq_true rfl⟩ hK hP hD hS hA [] [0, 1, 2, 3, 4, 5, 6, 7, 8, 9, 10, 11, 12, 13, 14, 15, 16, 17, 18, 19, 20, 21, 22, 23] [0, 1, 2, 3, 4, 5, 6, 7, 8, 9, 10, 11, 12, 13, 14, 15, 16, 17, 18, 19, 20, 21, 22, 23] rfl (by decide) rfl (by decide) (by decide) rfl (by decide) (wr := (ce_X13 kA q_this o_this)) (w2 := (ce_X13 kA q_this o_this)) (fun H locs hP hD hS => ?_)
    have hP : va_P D vwCl (ce_X13 kA q_this o_this) H := hP
    refine lv_iadd hx hb dX13_outline_149 ?_
    refine lv_iadd hx hb dX13_outline_150 ?_
    refine lv_istore_n (lv' := [(2, .int (t2 + (t1 + u_34))), (0, .ref (q_this 0)), (1, .int x1), (3, .int x3)]) hx hb dX13_outline_151 rfl hl (by decide) rfl (fun ls hl => ?_)
    exact hB152 k18 hk18 o_this x1 (t2 + (t1 + u_34)) x3 _ _ _ hP hD hS (lv_sub hl [1, 2, 0, 3] rfl) hf
  have hB123 : ∀ (k18 : (os_T × Int32 × Int32 × Int32) → Option (Int32 × os_T)), (∀ (o_this : os_T) (x1 : Int32) (x2 : Int32) (x3 : Int32) (H : Heap) (locs : List Loc) (ls : Array Slot), va_P D vwCl (ce_X13 kA q_this o_this) H → va_D A (ce_X13 kA q_this o_this) → va_S A s.heap H locs → lv_has ls 6 [(0, .ref (q_this 0)), (1, .int x1), (2, .int x2), (3, .int x3)] → k18 (o_this, x1, x2, x3) = some out → W p l e ({ frames := 3, cells := 0, slots := 0, locals := 70 } : Room) s m [.ref (q_this 0), .int a1].toArray below meth c H locs 0 0 (MQ below (mc_Q D kA A (some (.int out.1)) (ce_X13 kA q_this out.2)) [.ref (q_this 0), .int a1].toArray s 0 0 A) (F0 m 18 ls [])) → ∀ (o_this : os_T) (x1 : Int32) (x3 : Int32) (x4 : Int32) (x5 : Int32) (t0 : Int32) (t1 : Int32) (t2 : Int32) (H : Heap) (locs : List Loc) (ls : Array Slot), va_P D vwCl (ce_X13 kA q_this o_this) H → va_D A (ce_X13 kA q_this o_this) → va_S A s.heap H locs → lv_has ls 6 [(0, .ref (q_this 0)), (1, .int x1), (3, .int x3), (4, .int x4), (5, .int x5)] → ff_X13_outline_b123 N k18 o_this x1 x3 x4 x5 t0 t1 t2 = some out → W p l e ({ frames := 3, cells := 0, slots := 0, locals := 70 } : Room) s m [.ref (q_this 0), .int a1].toArray below meth c H locs 0 0 (MQ below (mc_Q D kA A (some (.int out.1)) (ce_X13 kA q_this out.2)) [.ref (q_this 0), .int a1].toArray s 0 0 A) (F0 m 123 ls [.int t0, .int t1, .int t2]) := by
    intro k18 hk18 o_this x1 x3 x4 x5 t0 t1 t2 H locs ls hP hD hS hl hf
    unfold ff_X13_outline_b123 at hf
    obtain ⟨u_29, he_30, hf⟩ := os_bd hf
    refine mc_callS ⟨hx, hb, hml, hown, hts⟩ (mm_X13_truth l D kA N t0 u_29 he_30) (va_cwS 1 hts gX13_outline_X13_truth rfl rfl rfl (by decide +kernel) ⟨Nat.le_of_ble_eq_true rfl, Nat.le_of_ble_eq_true rfl⟩) (wc := []) rfl hl.1 (As := [.int t0]) (rest := [.int t1, .int t2]) rfl (Nat.le_of_ble_eq_true rfl) dX13_outline_123 ⟨Nat.le_of_ble_eq_true rfl, Nat.le_of_ble_eq_true rfl⟩ hK hP hD hS hA [] [0, 1, 2, 3, 4, 5, 6, 7, 8, 9, 10, 11, 12, 13, 14, 15, 16, 17, 18, 19, 20, 21, 22, 23] [0, 1, 2, 3, 4, 5, 6, 7, 8, 9, 10, 11, 12, 13, 14, 15, 16, 17, 18, 19, 20, 21, 22, 23] rfl (by decide) rfl (by decide) (by decide) rfl (by decide) (wr := (ce_X13 kA q_this o_this)) (w2 := (ce_X13 kA q_this o_this)) (fun H locs hP hD hS => ?_)
    have hP : va_P D vwCl (ce_X13 kA q_this o_this) H := hP
    refine lv_iadd hx hb dX13_outline_126 ?_
    refine lv_aload_n hx hb dX13_outline_127 rfl (lv_at hl 0 rfl) ?_
    refine lv_iload_n hx hb dX13_outline_128 rfl (lv_at hl 1 rfl) ?_
    refine lv_iload hx hb dX13_outline_129 (lv_at hl 3 rfl) ?_
    refine lv_iload hx hb dX13_outline_131 (lv_at hl 4 rfl) ?_
    refine lv_iconst (v := 1) hx hb dX13_outline_133 (by decide) ?_
    refine lv_iadd hx hb dX13_outline_134 ?_
    obtain ⟨u_31, he_32, hf⟩ := os_bd hf
    refine mc_callV ⟨hx, hb, hml, hown, hts⟩ (mm_X13_isOf l D kA N q_this o_this x1 x4 (x5 + (1 : Int32)) u_31 he_32) (cwV 3 hts gX13_outline_X13_isOf rfl rfl rfl (by decide +kernel) ⟨Nat.le_of_ble_eq_true rfl, Nat.le_of_ble_eq_true rfl⟩) (wc := (ce_X13 kA q_this o_this)) (ci := 9) (q0 := 0) rfl rfl rfl hl.1 (As := [.int x1, .int x4, .int (x5 + (1 : Int32))]) (rest := [.int (t1 + u_29), .int t2]) rfl (Nat.le_of_ble_eq_true rfl) dX13_outline_135 ⟨Nat.le_of_ble_eq_true rfl, Nat.le_of_ble_eq_true rfl⟩ hK hP hD hS hA [0, 1, 2, 3, 4, 5, 6, 7, 8, 9, 10, 11, 12, 13, 14, 15, 16, 17, 18, 19, 20, 21, 22, 23] [] [0, 1, 2, 3, 4, 5, 6, 7, 8, 9, 10, 11, 12, 13, 14, 15, 16, 17, 18, 19, 20, 21, 22, 23] rfl (by decide) rfl (by decide) (by decide) rfl (by decide) (wr := []) (w2 := (ce_X13 kA q_this o_this)) (fun H locs hP hD hS => ?_)
    have hP : va_P D vwCl (ce_X13 kA q_this o_this) H := hP
    refine lv_if_ne (tgt := 145) hx hb dX13_outline_138 (by decide) (fun hc_33 => ?_) (fun hc_33 => ?_)
    · rw [if_neg hc_33] at hf
      refine lv_iconst (v := 0) hx hb dX13_outline_145 (by decide) ?_
      exact hB146 k18 hk18 o_this x1 x3 (0 : Int32) (t1 + u_29) t2 _ _ _ hP hD hS (lv_sub hl [0, 1, 2] rfl) hf
    · rw [if_pos hc_33] at hf
      refine lv_iconst (v := 1) hx hb dX13_outline_141 (by decide) ?_
      refine lv_goto (tgt := 146) hx hb dX13_outline_142 (by decide) ?_
      exact hB146 k18 hk18 o_this x1 x3 (1 : Int32) (t1 + u_29) t2 _ _ _ hP hD hS (lv_sub hl [0, 1, 2] rfl) hf
  have hB100 : ∀ (k18 : (os_T × Int32 × Int32 × Int32) → Option (Int32 × os_T)), (∀ (o_this : os_T) (x1 : Int32) (x2 : Int32) (x3 : Int32) (H : Heap) (locs : List Loc) (ls : Array Slot), va_P D vwCl (ce_X13 kA q_this o_this) H → va_D A (ce_X13 kA q_this o_this) → va_S A s.heap H locs → lv_has ls 6 [(0, .ref (q_this 0)), (1, .int x1), (2, .int x2), (3, .int x3)] → k18 (o_this, x1, x2, x3) = some out → W p l e ({ frames := 3, cells := 0, slots := 0, locals := 70 } : Room) s m [.ref (q_this 0), .int a1].toArray below meth c H locs 0 0 (MQ below (mc_Q D kA A (some (.int out.1)) (ce_X13 kA q_this out.2)) [.ref (q_this 0), .int a1].toArray s 0 0 A) (F0 m 18 ls [])) → ∀ (o_this : os_T) (x1 : Int32) (x3 : Int32) (x4 : Int32) (x5 : Int32) (t0 : Int32) (t1 : Int32) (t2 : Int32) (H : Heap) (locs : List Loc) (ls : Array Slot), va_P D vwCl (ce_X13 kA q_this o_this) H → va_D A (ce_X13 kA q_this o_this) → va_S A s.heap H locs → lv_has ls 6 [(0, .ref (q_this 0)), (1, .int x1), (3, .int x3), (4, .int x4), (5, .int x5)] → ff_X13_outline_b100 N k18 o_this x1 x3 x4 x5 t0 t1 t2 = some out → W p l e ({ frames := 3, cells := 0, slots := 0, locals := 70 } : Room) s m [.ref (q_this 0), .int a1].toArray below meth c H locs 0 0 (MQ below (mc_Q D kA A (some (.int out.1)) (ce_X13 kA q_this out.2)) [.ref (q_this 0), .int a1].toArray s 0 0 A) (F0 m 100 ls [.int t0, .int t1, .int t2]) := by
    intro k18 hk18 o_this x1 x3 x4 x5 t0 t1 t2 H locs ls hP hD hS hl hf
    unfold ff_X13_outline_b100 at hf
    obtain ⟨u_24, he_25, hf⟩ := os_bd hf
    refine mc_callS ⟨hx, hb, hml, hown, hts⟩ (mm_X13_truth l D kA N t0 u_24 he_25) (va_cwS 1 hts gX13_outline_X13_truth rfl rfl rfl (by decide +kernel) ⟨Nat.le_of_ble_eq_true rfl, Nat.le_of_ble_eq_true rfl⟩) (wc := []) rfl hl.1 (As := [.int t0]) (rest := [.int t1, .int t2]) rfl (Nat.le_of_ble_eq_true rfl) dX13_outline_100 ⟨Nat.le_of_ble_eq_true rfl, Nat.le_of_ble_eq_true rfl⟩ hK hP hD hS hA [] [0, 1, 2, 3, 4, 5, 6, 7, 8, 9, 10, 11, 12, 13, 14, 15, 16, 17, 18, 19, 20, 21, 22, 23] [0, 1, 2, 3, 4, 5, 6, 7, 8, 9, 10, 11, 12, 13, 14, 15, 16, 17, 18, 19, 20, 21, 22, 23] rfl (by decide) rfl (by decide) (by decide) rfl (by decide) (wr := (ce_X13 kA q_this o_this)) (w2 := (ce_X13 kA q_this o_this)) (fun H locs hP hD hS => ?_)
    have hP : va_P D vwCl (ce_X13 kA q_this o_this) H := hP
    refine lv_iadd hx hb dX13_outline_103 ?_
    refine lv_aload_n hx hb dX13_outline_104 rfl (lv_at hl 0 rfl) ?_
    refine lv_iload_n hx hb dX13_outline_105 rfl (lv_at hl 1 rfl) ?_
    refine lv_iload hx hb dX13_outline_106 (lv_at hl 3 rfl) ?_
    refine lv_iload hx hb dX13_outline_108 (lv_at hl 4 rfl) ?_
    refine lv_iconst (v := 1) hx hb dX13_outline_110 (by decide) ?_
    refine lv_isub hx hb dX13_outline_111 ?_
    obtain ⟨u_26, he_27, hf⟩ := os_bd hf
    refine mc_callV ⟨hx, hb, hml, hown, hts⟩ (mm_X13_isOf l D kA N q_this o_this x1 x4 (x5 - (1 : Int32)) u_26 he_27) (cwV 3 hts gX13_outline_X13_isOf rfl rfl rfl (by decide +kernel) ⟨Nat.le_of_ble_eq_true rfl, Nat.le_of_ble_eq_true rfl⟩) (wc := (ce_X13 kA q_this o_this)) (ci := 9) (q0 := 0) rfl rfl rfl hl.1 (As := [.int x1, .int x4, .int (x5 - (1 : Int32))]) (rest := [.int (t1 + u_24), .int t2]) rfl (Nat.le_of_ble_eq_true rfl) dX13_outline_112 ⟨Nat.le_of_ble_eq_true rfl, Nat.le_of_ble_eq_true rfl⟩ hK hP hD hS hA [0, 1, 2, 3, 4, 5, 6, 7, 8, 9, 10, 11, 12, 13, 14, 15, 16, 17, 18, 19, 20, 21, 22, 23] [] [0, 1, 2, 3, 4, 5, 6, 7, 8, 9, 10, 11, 12, 13, 14, 15, 16, 17, 18, 19, 20, 21, 22, 23] rfl (by decide) rfl (by decide) (by decide) rfl (by decide) (wr := []) (w2 := (ce_X13 kA q_this o_this)) (fun H locs hP hD hS => ?_)
    have hP : va_P D vwCl (ce_X13 kA q_this o_this) H := hP
    refine lv_if_ne (tgt := 122) hx hb dX13_outline_115 (by decide) (fun hc_28 => ?_) (fun hc_28 => ?_)
    · rw [if_neg hc_28] at hf
      refine lv_iconst (v := 0) hx hb dX13_outline_122 (by decide) ?_
      exact hB123 k18 hk18 o_this x1 x3 x4 x5 (0 : Int32) (t1 + u_24) t2 _ _ _ hP hD hS (lv_sub hl [0, 1, 2, 3, 4] rfl) hf
    · rw [if_pos hc_28] at hf
      refine lv_iconst (v := 1) hx hb dX13_outline_118 (by decide) ?_
      refine lv_goto (tgt := 123) hx hb dX13_outline_119 (by decide) ?_
      exact hB123 k18 hk18 o_this x1 x3 x4 x5 (1 : Int32) (t1 + u_24) t2 _ _ _ hP hD hS (lv_sub hl [0, 1, 2, 3, 4] rfl) hf
  have hB78 : ∀ (k18 : (os_T × Int32 × Int32 × Int32) → Option (Int32 × os_T)), (∀ (o_this : os_T) (x1 : Int32) (x2 : Int32) (x3 : Int32) (H : Heap) (locs : List Loc) (ls : Array Slot), va_P D vwCl (ce_X13 kA q_this o_this) H → va_D A (ce_X13 kA q_this o_this) → va_S A s.heap H locs → lv_has ls 6 [(0, .ref (q_this 0)), (1, .int x1), (2, .int x2), (3, .int x3)] → k18 (o_this, x1, x2, x3) = some out → W p l e ({ frames := 3, cells := 0, slots := 0, locals := 70 } : Room) s m [.ref (q_this 0), .int a1].toArray below meth c H locs 0 0 (MQ below (mc_Q D kA A (some (.int out.1)) (ce_X13 kA q_this out.2)) [.ref (q_this 0), .int a1].toArray s 0 0 A) (F0 m 18 ls [])) → ∀ (o_this : os_T) (x1 : Int32) (x3 : Int32) (x4 : Int32) (x5 : Int32) (t0 : Int32) (t1 : Int32) (H : Heap) (locs : List Loc) (ls : Array Slot), va_P D vwCl (ce_X13 kA q_this o_this) H → va_D A (ce_X13 kA q_this o_this) → va_S A s.heap H locs → lv_has ls 6 [(0, .ref (q_this 0)), (1, .int x1), (3, .int x3), (4, .int x4), (5, .int x5)] → ff_X13_outline_b78 N k18 o_this x1 x3 x4 x5 t0 t1 = some out → W p l e ({ frames := 3, cells := 0, slots := 0, locals := 70 } : Room) s m [.ref (q_this 0), .int a1].toArray below meth c H locs 0 0 (MQ below (mc_Q D kA A (some (.int out.1)) (ce_X13 kA q_this out.2)) [.ref (q_this 0), .int a1].toArray s 0 0 A) (F0 m 78 ls [.int t0, .int t1]) := by
    intro k18 hk18 o_this x1 x3 x4 x5 t0 t1 H locs ls hP hD hS hl hf
    unfold ff_X13_outline_b78 at hf
    obtain ⟨u_19, he_20, hf⟩ := os_bd hf
    refine mc_callS ⟨hx, hb, hml, hown, hts⟩ (mm_X13_truth l D kA N t0 u_19 he_20) (va_cwS 1 hts gX13_outline_X13_truth rfl rfl rfl (by decide +kernel) ⟨Nat.le_of_ble_eq_true rfl, Nat.le_of_ble_eq_true rfl⟩) (wc := []) rfl hl.1 (As := [.int t0]) (rest := [.int t1]) rfl (Nat.le_of_ble_eq_true rfl) dX13_outline_78 ⟨Nat.le_of_ble_eq_true rfl, Nat.le_of_ble_eq_true rfl⟩ hK hP hD hS hA [] [0, 1, 2, 3, 4, 5, 6, 7, 8, 9, 10, 11, 12, 13, 14, 15, 16, 17, 18, 19, 20, 21, 22, 23] [0, 1, 2, 3, 4, 5, 6, 7, 8, 9, 10, 11, 12, 13, 14, 15, 16, 17, 18, 19, 20, 21, 22, 23] rfl (by decide) rfl (by decide) (by decide) rfl (by decide) (wr := (ce_X13 kA q_this o_this)) (w2 := (ce_X13 kA q_this o_this)) (fun H locs hP hD hS => ?_)
    have hP : va_P D vwCl (ce_X13 kA q_this o_this) H := hP
    refine lv_aload_n hx hb dX13_outline_81 rfl (lv_at hl 0 rfl) ?_
    refine lv_iload_n hx hb dX13_outline_82 rfl (lv_at hl 1 rfl) ?_
    refine lv_iload hx hb dX13_outline_83 (lv_at hl 3 rfl) ?_
    refine lv_iconst (v := 1) hx hb dX13_outline_85 (by decide) ?_
    refine lv_iadd hx hb dX13_outline_86 ?_
    refine lv_iload hx hb dX13_outline_87 (lv_at hl 4 rfl) ?_
    obtain ⟨u_21, he_22, hf⟩ := os_bd hf
    refine mc_callV ⟨hx, hb, hml, hown, hts⟩ (mm_X13_isOf l D kA N q_this o_this x1 (x4 + (1 : Int32)) x5 u_21 he_22) (cwV 3 hts gX13_outline_X13_isOf rfl rfl rfl (by decide +kernel) ⟨Nat.le_of_ble_eq_true rfl, Nat.le_of_ble_eq_true rfl⟩) (wc := (ce_X13 kA q_this o_this)) (ci := 9) (q0 := 0) rfl rfl rfl hl.1 (As := [.int x1, .int (x4 + (1 : Int32)), .int x5]) (rest := [.int u_19, .int t1]) rfl (Nat.le_of_ble_eq_true rfl) dX13_outline_89 ⟨Nat.le_of_ble_eq_true rfl, Nat.le_of_ble_eq_true rfl⟩ hK hP hD hS hA [0, 1, 2, 3, 4, 5, 6, 7, 8, 9, 10, 11, 12, 13, 14, 15, 16, 17, 18, 19, 20, 21, 22, 23] [] [0, 1, 2, 3, 4, 5, 6, 7, 8, 9, 10, 11, 12, 13, 14, 15, 16, 17, 18, 19, 20, 21, 22, 23] rfl (by decide) rfl (by decide) (by decide) rfl (by decide) (wr := []) (w2 := (ce_X13 kA q_this o_this)) (fun H locs hP hD hS => ?_)
    have hP : va_P D vwCl (ce_X13 kA q_this o_this) H := hP
    refine lv_if_ne (tgt := 99) hx hb dX13_outline_92 (by decide) (fun hc_23 => ?_) (fun hc_23 => ?_)
    · rw [if_neg hc_23] at hf
      refine lv_iconst (v := 0) hx hb dX13_outline_99 (by decide) ?_
      exact hB100 k18 hk18 o_this x1 x3 x4 x5 (0 : Int32) u_19 t1 _ _ _ hP hD hS (lv_sub hl [0, 1, 2, 3, 4] rfl) hf
    · rw [if_pos hc_23] at hf
      refine lv_iconst (v := 1) hx hb dX13_outline_95 (by decide) ?_
      refine lv_goto (tgt := 100) hx hb dX13_outline_96 (by decide) ?_
      exact hB100 k18 hk18 o_this x1 x3 x4 x5 (1 : Int32) u_19 t1 _ _ _ hP hD hS (lv_sub hl [0, 1, 2, 3, 4] rfl) hf
  have hL18 : ∀ (n : Nat) (o_this : os_T) (x1 : Int32) (x2 : Int32) (x3 : Int32) (H : Heap) (locs : List Loc) (ls : Array Slot), va_P D vwCl (ce_X13 kA q_this o_this) H → va_D A (ce_X13 kA q_this o_this) → va_S A s.heap H locs → lv_has ls 6 [(0, .ref (q_this 0)), (1, .int x1), (2, .int x2), (3, .int x3)] → ff_X13_outline_l18 N n (o_this, x1, x2, x3) = some out → W p l e ({ frames := 3, cells := 0, slots := 0, locals := 70 } : Room) s m [.ref (q_this 0), .int a1].toArray below meth c H locs 0 0 (MQ below (mc_Q D kA A (some (.int out.1)) (ce_X13 kA q_this out.2)) [.ref (q_this 0), .int a1].toArray s 0 0 A) (F0 m 18 ls []) := by
    intro n
    induction n with
    | zero => intro o_this x1 x2 x3 H locs ls _ _ _ _ hf; cases hf
    | succ n hk18 =>
      intro o_this x1 x2 x3 H locs ls hP hD hS hl hf
      have hf : ff_X13_outline_c18 N (ff_X13_outline_l18 N n) o_this x1 x2 x3 = some out := hf
      generalize hke : ff_X13_outline_l18 N n = k18 at hk18 hf
      unfold ff_X13_outline_c18 at hf
      refine lv_iload_n hx hb dX13_outline_18 rfl (lv_at hl 3 rfl) ?_
      refine lv_aload_n hx hb dX13_outline_19 rfl (lv_at hl 0 rfl) ?_
      obtain ⟨u_6, he_7, hf⟩ := os_bd hf
      refine mc_callV ⟨hx, hb, hml, hown, hts⟩ (mm_X13_cellMany l D kA N q_this o_this u_6 he_7) (cwV 0 hts gX13_outline_X13_cellMany rfl rfl rfl (by decide +kernel) ⟨Nat.le_of_ble_eq_true rfl, Nat.le_of_ble_eq_true rfl⟩) (wc := (ce_X13 kA q_this o_this)) (ci := 9) (q0 := 0) rfl rfl rfl hl.1 (As := []) (rest := [.int x3]) rfl (Nat.le_of_ble_eq_true rfl) dX13_outline_20 ⟨Nat.le_of_ble_eq_true rfl, Nat.le_of_ble_eq_true rfl⟩ hK hP hD hS hA [0, 1, 2, 3, 4, 5, 6, 7, 8, 9, 10, 11, 12, 13, 14, 15, 16, 17, 18, 19, 20, 21, 22, 23] [] [0, 1, 2, 3, 4, 5, 6, 7, 8, 9, 10, 11, 12, 13, 14, 15, 16, 17, 18, 19, 20, 21, 22, 23] rfl (by decide) rfl (by decide) (by decide) rfl (by decide) (wr := []) (w2 := (ce_X13 kA q_this o_this)) (fun H locs hP hD hS => ?_)
      have hP : va_P D vwCl (ce_X13 kA q_this o_this) H := hP
      refine lv_icmp_ge (tgt := 158) hx hb dX13_outline_23 (by decide) (fun hc_8 => ?_) (fun hc_8 => ?_)
      · rw [if_pos hc_8] at hf
        refine lv_iload_n hx hb dX13_outline_158 rfl (lv_at hl 2 rfl) ?_
        rw [← Option.some.inj hf]
        exact mc_reti hx hb hr hlk hP hK hD hS dX13_outline_159
      · rw [if_neg hc_8] at hf
        refine lv_iload_n hx hb dX13_outline_26 rfl (lv_at hl 3 rfl) ?_
        refine lv_aload_n hx hb dX13_outline_27 rfl (lv_at hl 0 rfl) ?_
        refine va_get (D := D) (ci := 9) (v := .ref (q_this 2)) (C := RX13) (T := TX13) (N := 48) hx hb hUX13 (fun _ h9 => h9) hown hK hP 0 rfl rfl 13 (by decide) (hts (Cond.fieldLink RX13 20 "ReliefBuilderModel" "now" "[I") (List.mem_of_getElem? (i := 1) rfl)) (fun _ h9 => h9) rfl dX13_outline_28 ?_
        refine lv_iconst (v := 0) hx hb dX13_outline_31 (by decide) ?_
        obtain ⟨hi_9, hf⟩ := os_if hf
        refine va_iald hx hb hK hP 2 0 rfl rfl hi_9 dX13_outline_32 ?_
        obtain ⟨hz_10, hf⟩ := os_if hf
        refine lv_irem hx hb dX13_outline_33 hz_10 ?_
        refine lv_istore (lv' := [(4, .int (x3 - x3 / ((os_A o_this 1) (Int32.toNatClampNeg (0 : Int32))) * ((os_A o_this 1) (Int32.toNatClampNeg (0 : Int32))))), (0, .ref (q_this 0)), (1, .int x1), (2, .int x2), (3, .int x3)]) hx hb dX13_outline_34 hl (by decide) rfl (fun ls hl => ?_)
        refine lv_iload_n hx hb dX13_outline_36 rfl (lv_at hl 4 rfl) ?_
        refine lv_aload_n hx hb dX13_outline_37 rfl (lv_at hl 1 rfl) ?_
        refine va_get (D := D) (ci := 9) (v := .ref (q_this 2)) (C := RX13) (T := TX13) (N := 48) hx hb hUX13 (fun _ h9 => h9) hown hK hP 0 rfl rfl 13 (by decide) (hts (Cond.fieldLink RX13 20 "ReliefBuilderModel" "now" "[I") (List.mem_of_getElem? (i := 1) rfl)) (fun _ h9 => h9) rfl dX13_outline_38 ?_
        refine lv_iconst (v := 0) hx hb dX13_outline_41 (by decide) ?_
        obtain ⟨hi_11, hf⟩ := os_if hf
        refine va_iald hx hb hK hP 2 0 rfl rfl hi_11 dX13_outline_42 ?_
        obtain ⟨hz_12, hf⟩ := os_if hf
        refine lv_idiv hx hb dX13_outline_43 hz_12 ?_
        refine lv_istore (lv' := [(5, .int (x3 / ((os_A o_this 1) (Int32.toNatClampNeg (0 : Int32))))), (4, .int (x3 - x3 / ((os_A o_this 1) (Int32.toNatClampNeg (0 : Int32))) * ((os_A o_this 1) (Int32.toNatClampNeg (0 : Int32))))), (0, .ref (q_this 0)), (1, .int x1), (2, .int x2), (3, .int x3)]) hx hb dX13_outline_44 hl (by decide) rfl (fun ls hl => ?_)
        refine lv_aload_n hx hb dX13_outline_46 rfl (lv_at hl 2 rfl) ?_
        refine lv_iload_n hx hb dX13_outline_47 rfl (lv_at hl 3 rfl) ?_
        refine lv_iload hx hb dX13_outline_48 (lv_at hl 1 rfl) ?_
        refine lv_iload hx hb dX13_outline_50 (lv_at hl 0 rfl) ?_
        obtain ⟨u_13, he_14, hf⟩ := os_bd hf
        refine mc_callV ⟨hx, hb, hml, hown, hts⟩ (mm_X13_isOf l D kA N q_this o_this x1 (x3 - x3 / ((os_A o_this 1) (Int32.toNatClampNeg (0 : Int32))) * ((os_A o_this 1) (Int32.toNatClampNeg (0 : Int32)))) (x3 / ((os_A o_this 1) (Int32.toNatClampNeg (0 : Int32)))) u_13 he_14) (cwV 3 hts gX13_outline_X13_isOf rfl rfl rfl (by decide +kernel) ⟨Nat.le_of_ble_eq_true rfl, Nat.le_of_ble_eq_true rfl⟩) (wc := (ce_X13 kA q_this o_this)) (ci := 9) (q0 := 0) rfl rfl rfl hl.1 (As := [.int x1, .int (x3 - x3 / ((os_A o_this 1) (Int32.toNatClampNeg (0 : Int32))) * ((os_A o_this 1) (Int32.toNatClampNeg (0 : Int32)))), .int (x3 / ((os_A o_this 1) (Int32.toNatClampNeg (0 : Int32))))]) (rest := []) rfl (Nat.le_of_ble_eq_true rfl) dX13_outline_52 ⟨Nat.le_of_ble_eq_true rfl, Nat.le_of_ble_eq_true rfl⟩ hK hP hD hS hA [0, 1, 2, 3, 4, 5, 6, 7, 8, 9, 10, 11, 12, 13, 14, 15, 16, 17, 18, 19, 20, 21, 22, 23] [] [0, 1, 2, 3, 4, 5, 6, 7, 8, 9, 10, 11, 12, 13, 14, 15, 16, 17, 18, 19, 20, 21, 22, 23] rfl (by decide) rfl (by decide) (by decide) rfl (by decide) (wr := []) (w2 := (ce_X13 kA q_this o_this)) (fun H locs hP hD hS => ?_)
        have hP : va_P D vwCl (ce_X13 kA q_this o_this) H := hP
        refine lv_if_eq (tgt := 152) hx hb dX13_outline_55 (by decide) (fun hc_15 => ?_) (fun hc_15 => ?_)
        · rw [if_pos hc_15] at hf
          exact hB152 k18 hk18 o_this x1 x2 x3 _ _ _ hP hD hS (lv_sub hl [2, 3, 4, 5] rfl) hf
        · rw [if_neg hc_15] at hf
          refine lv_iload_n hx hb dX13_outline_58 rfl (lv_at hl 4 rfl) ?_
          refine lv_aload_n hx hb dX13_outline_59 rfl (lv_at hl 2 rfl) ?_
          refine lv_iload_n hx hb dX13_outline_60 rfl (lv_at hl 3 rfl) ?_
          refine lv_iload hx hb dX13_outline_61 (lv_at hl 1 rfl) ?_
          refine lv_iconst (v := 1) hx hb dX13_outline_63 (by decide) ?_
          refine lv_isub hx hb dX13_outline_64 ?_
          refine lv_iload hx hb dX13_outline_65 (lv_at hl 0 rfl) ?_
          obtain ⟨u_16, he_17, hf⟩ := os_bd hf
          refine mc_callV ⟨hx, hb, hml, hown, hts⟩ (mm_X13_isOf l D kA N q_this o_this x1 ((x3 - x3 / ((os_A o_this 1) (Int32.toNatClampNeg (0 : Int32))) * ((os_A o_this 1) (Int32.toNatClampNeg (0 : Int32)))) - (1 : Int32)) (x3 / ((os_A o_this 1) (Int32.toNatClampNeg (0 : Int32)))) u_16 he_17) (cwV 3 hts gX13_outline_X13_isOf rfl rfl rfl (by decide +kernel) ⟨Nat.le_of_ble_eq_true rfl, Nat.le_of_ble_eq_true rfl⟩) (wc := (ce_X13 kA q_this o_this)) (ci := 9) (q0 := 0) rfl rfl rfl hl.1 (As := [.int x1, .int ((x3 - x3 / ((os_A o_this 1) (Int32.toNatClampNeg (0 : Int32))) * ((os_A o_this 1) (Int32.toNatClampNeg (0 : Int32)))) - (1 : Int32)), .int (x3 / ((os_A o_this 1) (Int32.toNatClampNeg (0 : Int32))))]) (rest := [.int x2]) rfl (Nat.le_of_ble_eq_true rfl) dX13_outline_67 ⟨Nat.le_of_ble_eq_true rfl, Nat.le_of_ble_eq_true rfl⟩ hK hP hD hS hA [0, 1, 2, 3, 4, 5, 6, 7, 8, 9, 10, 11, 12, 13, 14, 15, 16, 17, 18, 19, 20, 21, 22, 23] [] [0, 1, 2, 3, 4, 5, 6, 7, 8, 9, 10, 11, 12, 13, 14, 15, 16, 17, 18, 19, 20, 21, 22, 23] rfl (by decide) rfl (by decide) (by decide) rfl (by decide) (wr := []) (w2 := (ce_X13 kA q_this o_this)) (fun H locs hP hD hS => ?_)
          have hP : va_P D vwCl (ce_X13 kA q_this o_this) H := hP
          refine lv_if_ne (tgt := 77) hx hb dX13_outline_70 (by decide) (fun hc_18 => ?_) (fun hc_18 => ?_)
          · rw [if_neg hc_18] at hf
            refine lv_iconst (v := 0) hx hb dX13_outline_77 (by decide) ?_
            exact hB78 k18 hk18 o_this x1 x3 (x3 - x3 / ((os_A o_this 1) (Int32.toNatClampNeg (0 : Int32))) * ((os_A o_this 1) (Int32.toNatClampNeg (0 : Int32)))) (x3 / ((os_A o_this 1) (Int32.toNatClampNeg (0 : Int32)))) (0 : Int32) x2 _ _ _ hP hD hS (lv_sub hl [2, 3, 5, 1, 0] rfl) hf
          · rw [if_pos hc_18] at hf
            refine lv_iconst (v := 1) hx hb dX13_outline_73 (by decide) ?_
            refine lv_goto (tgt := 78) hx hb dX13_outline_74 (by decide) ?_
            exact hB78 k18 hk18 o_this x1 x3 (x3 - x3 / ((os_A o_this 1) (Int32.toNatClampNeg (0 : Int32))) * ((os_A o_this 1) (Int32.toNatClampNeg (0 : Int32)))) (x3 / ((os_A o_this 1) (Int32.toNatClampNeg (0 : Int32)))) (1 : Int32) x2 _ _ _ hP hD hS (lv_sub hl [2, 3, 5, 1, 0] rfl) hf
  unfold ff_X13_outline at hf
  refine lv_aload_n hx hb dX13_outline_0 rfl (lv_at hl 0 rfl) ?_
  refine lv_aload_n hx hb dX13_outline_1 rfl (lv_at hl 0 rfl) ?_
  refine lv_iload_n hx hb dX13_outline_2 rfl (lv_at hl 1 rfl) ?_
  obtain ⟨u_1, he_2, hf⟩ := os_bd hf
  refine mc_callV ⟨hx, hb, hml, hown, hts⟩ (mm_X13_isLayer l D kA N q_this o_this a1 u_1 he_2) (cwV 1 hts gX13_outline_X13_isLayer rfl rfl rfl (by decide +kernel) ⟨Nat.le_of_ble_eq_true rfl, Nat.le_of_ble_eq_true rfl⟩) (wc := (ce_X13 kA q_this o_this)) (ci := 9) (q0 := 0) rfl rfl rfl hl.1 (As := [.int a1]) (rest := [.ref (q_this 0)]) rfl (Nat.le_of_ble_eq_true rfl) dX13_outline_3 ⟨Nat.le_of_ble_eq_true rfl, Nat.le_of_ble_eq_true rfl⟩ hK hP hD hS hA [0, 1, 2, 3, 4, 5, 6, 7, 8, 9, 10, 11, 12, 13, 14, 15, 16, 17, 18, 19, 20, 21, 22, 23] [] [0, 1, 2, 3, 4, 5, 6, 7, 8, 9, 10, 11, 12, 13, 14, 15, 16, 17, 18, 19, 20, 21, 22, 23] rfl (by decide) rfl (by decide) (by decide) rfl (by decide) (wr := []) (w2 := (ce_X13 kA q_this o_this)) (fun H locs hP hD hS => ?_)
  have hP : va_P D vwCl (ce_X13 kA q_this o_this) H := hP
  obtain ⟨u_3, he_4, hf⟩ := os_bd hf
  refine mc_callV ⟨hx, hb, hml, hown, hts⟩ (mm_X13_goes l D kA N q_this o_this u_1 u_3 he_4) (cwV 1 hts gX13_outline_X13_goes rfl rfl rfl (by decide +kernel) ⟨Nat.le_of_ble_eq_true rfl, Nat.le_of_ble_eq_true rfl⟩) (wc := (ce_X13 kA q_this o_this)) (ci := 9) (q0 := 0) rfl rfl rfl hl.1 (As := [.int u_1]) (rest := []) rfl (Nat.le_of_ble_eq_true rfl) dX13_outline_6 ⟨Nat.le_of_ble_eq_true rfl, Nat.le_of_ble_eq_true rfl⟩ hK hP hD hS hA [0, 1, 2, 3, 4, 5, 6, 7, 8, 9, 10, 11, 12, 13, 14, 15, 16, 17, 18, 19, 20, 21, 22, 23] [] [0, 1, 2, 3, 4, 5, 6, 7, 8, 9, 10, 11, 12, 13, 14, 15, 16, 17, 18, 19, 20, 21, 22, 23] rfl (by decide) rfl (by decide) (by decide) rfl (by decide) (wr := []) (w2 := (ce_X13 kA q_this u_3.2)) (fun H locs hP hD hS => ?_)
  have hP : va_P D vwCl (ce_X13 kA q_this u_3.2) H := hP
  refine lv_if_ne (tgt := 14) hx hb dX13_outline_9 (by decide) (fun hc_5 => ?_) (fun hc_5 => ?_)
  · rw [if_neg hc_5] at hf
    refine lv_iconst (v := 0) hx hb dX13_outline_14 (by decide) ?_
    refine lv_istore_n (lv' := [(2, .int (0 : Int32)), (0, .ref (q_this 0)), (1, .int a1)]) hx hb dX13_outline_15 rfl hl (by decide) rfl (fun ls hl => ?_)
    refine lv_iconst (v := 0) hx hb dX13_outline_16 (by decide) ?_
    refine lv_istore_n (lv' := [(3, .int (0 : Int32)), (2, .int (0 : Int32)), (0, .ref (q_this 0)), (1, .int a1)]) hx hb dX13_outline_17 rfl hl (by decide) rfl (fun ls hl => ?_)
    exact hL18 N u_3.2 a1 (0 : Int32) (0 : Int32) _ _ _ hP hD hS (lv_sub hl [2, 3, 1, 0] rfl) hf
  · rw [if_pos hc_5] at hf
    refine lv_iconst (v := 0) hx hb dX13_outline_12 (by decide) ?_
    rw [← Option.some.inj hf]
    exact mc_reti hx hb hr hlk hP hK hD hS dX13_outline_13
