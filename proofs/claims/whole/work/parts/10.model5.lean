def ff_X13_ease (N : Nat) (o_this : os_T) : Option (Int32 × os_T) :=
  ((ff_X13_laysAside N (ss_I o_this 0 (0 : Int32))).bind fun u_1 => ((ff_X13_eases N u_1).bind fun u_3 => ((ff_X13_keeps N u_3).bind fun u_5 => some (u_5.1, u_5.2))))
set_option maxHeartbeats 4000000 in
set_option maxRecDepth 100000 in
theorem mm_X13_ease (l : Launch) (D : va_G) (kA : Nat → ClassId) (N : Nat) (q_this : Nat → Nat) (o_this : os_T) (out : (Int32 × os_T)) (hf : ff_X13_ease N o_this = some out) : mc_C l D kA yX13_ease wsX13_ease ({ frames := 3, cells := 0, slots := 0, locals := 65 } : Room) [.ref (q_this 0)] (ce_X13 kA q_this o_this) (some (.int out.1)) (ce_X13 kA q_this out.2) := by
  refine mc_of (cc := cX13_ease) (maxL := 1) (ret := (some .int)) (by decide) rfl (Nat.le_of_ble_eq_true rfl) ?_
  intro p e s m below meth c A B hD hP hS ls hl
  obtain ⟨hx, hb, hr, hlk, hml, hown, hts, hK, hA, hnm⟩ := B
  have hown : s.vm.findClass RX13 = some m.cls := hown
  have hl : lv_has ls 1 [(0, .ref (q_this 0))] := hl
  have hUX13 : ∀ w ∈ u_ws RX13 TX13 48, w.before [.ref (q_this 0)].toArray s = true := fun w h => hts w (List.mem_cons_of_mem _ (List.mem_append_right _ h))
  unfold ff_X13_ease at hf
  refine lv_aload_n hx hb dX13_ease_0 rfl (lv_at hl 0 rfl) ?_
  refine lv_iconst (v := 0) hx hb dX13_ease_1 (by decide) ?_
  refine va_put (D := D) (ci := 9) (v := .int (0 : Int32)) (ty := .int) (C := RX13) (T := TX13) (N := 48) hx hb hUX13 (fun _ h9 => h9) tyX13 tyX13_ok nmX13 hown hK hP hD hS 0 rfl rfl 0 (by decide) (hts (Cond.fieldLink RX13 93 "ReliefBuilderModel" "code" "I") (List.mem_of_getElem? (i := 1) rfl)) (fun _ h9 => h9) rfl (tyX13_ok 0 (by decide)) rfl rfl (Nat.le_of_ble_eq_true rfl) dX13_ease_2 (fun H locs hP hD hS => ?_)
  have hP : va_P D vwCl (ce_X13 kA q_this (ss_I o_this 0 (0 : Int32))) H := hP
  have hD : va_D A (ce_X13 kA q_this (ss_I o_this 0 (0 : Int32))) := hD
  refine lv_aload_n hx hb dX13_ease_5 rfl (lv_at hl 0 rfl) ?_
  obtain ⟨u_1, he_2, hf⟩ := os_bd hf
  refine mc_callV ⟨hx, hb, hml, hown, hts⟩ (mm_X13_laysAside l D kA N q_this (ss_I o_this 0 (0 : Int32)) u_1 he_2) (cwV 0 hts gX13_ease_X13_laysAside rfl rfl rfl (by decide +kernel) ⟨Nat.le_of_ble_eq_true rfl, Nat.le_of_ble_eq_true rfl⟩) (wc := (ce_X13 kA q_this (ss_I o_this 0 (0 : Int32)))) (ci := 9) (q0 := 0) rfl rfl rfl hl.1 (As := []) (rest := []) rfl (Nat.le_of_ble_eq_true rfl) dX13_ease_6 ⟨Nat.le_of_ble_eq_true rfl, Nat.le_of_ble_eq_true rfl⟩ hK hP hD hS hA [0, 1, 2, 3, 4, 5, 6, 7, 8, 9, 10, 11, 12, 13, 14, 15, 16, 17, 18, 19, 20, 21, 22, 23] [] [0, 1, 2, 3, 4, 5, 6, 7, 8, 9, 10, 11, 12, 13, 14, 15, 16, 17, 18, 19, 20, 21, 22, 23] rfl (by decide) rfl (by decide) (by decide) rfl (by decide) (wr := []) (w2 := (ce_X13 kA q_this u_1)) (fun H locs hP hD hS => ?_)
  have hP : va_P D vwCl (ce_X13 kA q_this u_1) H := hP
  refine lv_aload_n hx hb dX13_ease_9 rfl (lv_at hl 0 rfl) ?_
  obtain ⟨u_3, he_4, hf⟩ := os_bd hf
  refine mc_callV ⟨hx, hb, hml, hown, hts⟩ (mm_X13_eases l D kA N q_this u_1 u_3 he_4) (cwV 0 hts gX13_ease_X13_eases rfl rfl rfl (by decide +kernel) ⟨Nat.le_of_ble_eq_true rfl, Nat.le_of_ble_eq_true rfl⟩) (wc := (ce_X13 kA q_this u_1)) (ci := 9) (q0 := 0) rfl rfl rfl hl.1 (As := []) (rest := []) rfl (Nat.le_of_ble_eq_true rfl) dX13_ease_10 ⟨Nat.le_of_ble_eq_true rfl, Nat.le_of_ble_eq_true rfl⟩ hK hP hD hS hA [0, 1, 2, 3, 4, 5, 6, 7, 8, 9, 10, 11, 12, 13, 14, 15, 16, 17, 18, 19, 20, 21, 22, 23] [] [0, 1, 2, 3, 4, 5, 6, 7, 8, 9, 10, 11, 12, 13, 14, 15, 16, 17, 18, 19, 20, 21, 22, 23] rfl (by decide) rfl (by decide) (by decide) rfl (by decide) (wr := []) (w2 := (ce_X13 kA q_this u_3)) (fun H locs hP hD hS => ?_)
  have hP : va_P D vwCl (ce_X13 kA q_this u_3) H := hP
  refine lv_aload_n hx hb dX13_ease_13 rfl (lv_at hl 0 rfl) ?_
  obtain ⟨u_5, he_6, hf⟩ := os_bd hf
  refine mc_callV ⟨hx, hb, hml, hown, hts⟩ (mm_X13_keeps l D kA N q_this u_3 u_5 he_6) (cwV 0 hts gX13_ease_X13_keeps rfl rfl rfl (by decide +kernel) ⟨Nat.le_of_ble_eq_true rfl, Nat.le_of_ble_eq_true rfl⟩) (wc := (ce_X13 kA q_this u_3)) (ci := 9) (q0 := 0) rfl rfl rfl hl.1 (As := []) (rest := []) rfl (Nat.le_of_ble_eq_true rfl) dX13_ease_14 ⟨Nat.le_of_ble_eq_true rfl, Nat.le_of_ble_eq_true rfl⟩ hK hP hD hS hA [0, 1, 2, 3, 4, 5, 6, 7, 8, 9, 10, 11, 12, 13, 14, 15, 16, 17, 18, 19, 20, 21, 22, 23] [] [0, 1, 2, 3, 4, 5, 6, 7, 8, 9, 10, 11, 12, 13, 14, 15, 16, 17, 18, 19, 20, 21, 22, 23] rfl (by decide) rfl (by decide) (by decide) rfl (by decide) (wr := []) (w2 := (ce_X13 kA q_this u_5.2)) (fun H locs hP hD hS => ?_)
  have hP : va_P D vwCl (ce_X13 kA q_this u_5.2) H := hP
  rw [← Option.some.inj hf]
  exact mc_reti hx hb hr hlk hP hK hD hS dX13_ease_17
def ff_X13_dithers_c16 (N : Nat) (k2 : (os_T × Int32) → Option os_T) (k16 : (os_T × Int32 × UInt32 × Int32) → Option os_T) (o_this : os_T) (x1 : Int32) (x2 : UInt32) (x3 : Int32) : Option os_T :=
  (if os_in (0 : Int32) 7 then (if ((os_A o_this 1) (Int32.toNatClampNeg (0 : Int32))) ≤ x3 then k2 (o_this, x1 + 1) else (if os_in (((16 : Int32) * x1) + x3) 192 then ((ff_X13_wantedBy N ((os_A o_this 3) (Int32.toNatClampNeg (((16 : Int32) * x1) + x3)))).bind fun u_6 => (if os_nn (FP.fadd u_6 x2) then ((ff_X13_heightBy N o_this (FP.fadd u_6 x2)).bind fun u_9 => (if os_in (((16 : Int32) * x1) + x3) 192 then (if os_in (((16 : Int32) * x1) + x3) 192 then ((ff_X13_lightOf N (ss_A o_this 4 (upd (os_A o_this 4) (Int32.toNatClampNeg (((16 : Int32) * x1) + x3)) u_9)) ((upd (os_A o_this 4) (Int32.toNatClampNeg (((16 : Int32) * x1) + x3)) u_9) (Int32.toNatClampNeg (((16 : Int32) * x1) + x3)))).bind fun u_13 => (if os_nn (FP.fsub (FP.fadd u_6 x2) u_13) then k16 (ss_A o_this 4 (upd (os_A o_this 4) (Int32.toNatClampNeg (((16 : Int32) * x1) + x3)) u_9), x1, FP.fsub (FP.fadd u_6 x2) u_13, x3 + 1) else none)) else none) else none)) else none)) else none)) else none)
def ff_X13_dithers_l16 (N : Nat) (k2 : (os_T × Int32) → Option os_T) : Nat → (os_T × Int32 × UInt32 × Int32) → Option os_T := os_loop (fun k16 s1 => ff_X13_dithers_c16 N k2 k16 s1.1 s1.2.1 s1.2.2.1 s1.2.2.2)
def ff_X13_dithers_c2 (N : Nat) (k2 : (os_T × Int32) → Option os_T) (o_this : os_T) (x1 : Int32) : Option os_T :=
  (if os_in (1 : Int32) 7 then (if ((os_A o_this 1) (Int32.toNatClampNeg (1 : Int32))) ≤ x1 then some o_this else ff_X13_dithers_l16 N k2 N (o_this, x1, FP.fconst0, (0 : Int32))) else none)
def ff_X13_dithers_l2 (N : Nat) : Nat → (os_T × Int32) → Option os_T := os_loop (fun k2 s1 => ff_X13_dithers_c2 N k2 s1.1 s1.2)
def ff_X13_dithers (N : Nat) (o_this : os_T) : Option os_T :=
  ff_X13_dithers_l2 N N (o_this, (0 : Int32))
set_option maxHeartbeats 4000000 in
set_option maxRecDepth 100000 in
theorem mm_X13_dithers (l : Launch) (D : va_G) (kA : Nat → ClassId) (N : Nat) (q_this : Nat → Nat) (o_this : os_T) (out : os_T) (hf : ff_X13_dithers N o_this = some out) : mc_C l D kA yX13_dithers wsX13_dithers ({ frames := 2, cells := 0, slots := 0, locals := 49 } : Room) [.ref (q_this 0)] (ce_X13 kA q_this o_this) none (ce_X13 kA q_this out) := by
  refine mc_of (cc := cX13_dithers) (maxL := 5) (ret := none) (by decide) rfl (Nat.le_of_ble_eq_true rfl) ?_
  intro p e s m below meth c A B hD hP hS ls hl
  obtain ⟨hx, hb, hr, hlk, hml, hown, hts, hK, hA, hnm⟩ := B
  have hown : s.vm.findClass RX13 = some m.cls := hown
  have hl : lv_has ls 5 [(0, .ref (q_this 0))] := hl
  have hUX13 : ∀ w ∈ u_ws RX13 TX13 48, w.before [.ref (q_this 0)].toArray s = true := fun w h => hts w (List.mem_cons_of_mem _ (List.mem_append_right _ h))
  have hL16 : ∀ (k2 : (os_T × Int32) → Option os_T), (∀ (o_this : os_T) (x1 : Int32) (H : Heap) (locs : List Loc) (ls : Array Slot), va_P D vwCl (ce_X13 kA q_this o_this) H → va_D A (ce_X13 kA q_this o_this) → va_S A s.heap H locs → lv_has ls 5 [(0, .ref (q_this 0)), (1, .int x1)] → k2 (o_this, x1) = some out → W p l e ({ frames := 2, cells := 0, slots := 0, locals := 49 } : Room) s m [.ref (q_this 0)].toArray below meth c H locs 0 0 (MQ below (mc_Q D kA A none (ce_X13 kA q_this out)) [.ref (q_this 0)].toArray s 0 0 A) (F0 m 2 ls [])) → ∀ (n : Nat) (o_this : os_T) (x1 : Int32) (x2 : UInt32) (x3 : Int32) (H : Heap) (locs : List Loc) (ls : Array Slot), va_P D vwCl (ce_X13 kA q_this o_this) H → va_D A (ce_X13 kA q_this o_this) → va_S A s.heap H locs → lv_has ls 5 [(0, .ref (q_this 0)), (1, .int x1), (2, .float x2), (3, .int x3)] → ff_X13_dithers_l16 N k2 n (o_this, x1, x2, x3) = some out → W p l e ({ frames := 2, cells := 0, slots := 0, locals := 49 } : Room) s m [.ref (q_this 0)].toArray below meth c H locs 0 0 (MQ below (mc_Q D kA A none (ce_X13 kA q_this out)) [.ref (q_this 0)].toArray s 0 0 A) (F0 m 16 ls []) := by
    intro k2 hk2 n
    induction n with
    | zero => intro o_this x1 x2 x3 H locs ls _ _ _ _ hf; cases hf
    | succ n hk16 =>
      intro o_this x1 x2 x3 H locs ls hP hD hS hl hf
      have hf : ff_X13_dithers_c16 N k2 (ff_X13_dithers_l16 N k2 n) o_this x1 x2 x3 = some out := hf
      generalize hke : ff_X13_dithers_l16 N k2 n = k16 at hk16 hf
      unfold ff_X13_dithers_c16 at hf
      refine lv_iload_n hx hb dX13_dithers_16 rfl (lv_at hl 3 rfl) ?_
      refine lv_aload_n hx hb dX13_dithers_17 rfl (lv_at hl 0 rfl) ?_
      refine va_get (D := D) (ci := 9) (v := .ref (q_this 2)) (C := RX13) (T := TX13) (N := 48) hx hb hUX13 (fun _ h9 => h9) hown hK hP 0 rfl rfl 13 (by decide) (hts (Cond.fieldLink RX13 20 "ReliefBuilderModel" "now" "[I") (List.mem_of_getElem? (i := 1) rfl)) (fun _ h9 => h9) rfl dX13_dithers_18 ?_
      refine lv_iconst (v := 0) hx hb dX13_dithers_21 (by decide) ?_
      obtain ⟨hi_3, hf⟩ := os_if hf
      refine va_iald hx hb hK hP 2 0 rfl rfl hi_3 dX13_dithers_22 ?_
      refine lv_icmp_ge (tgt := 86) hx hb dX13_dithers_23 (by decide) (fun hc_4 => ?_) (fun hc_4 => ?_)
      · rw [if_pos hc_4] at hf
        refine lv_iinc (v := x1 + 1) (lv' := [(1, .int (x1 + 1)), (0, .ref (q_this 0)), (2, .float x2), (3, .int x3)]) hx hb dX13_dithers_86 hl (k := 1) rfl rfl (by decide) rfl (fun ls hl => ?_)
        refine lv_goto (tgt := 2) hx hb dX13_dithers_89 (by decide) ?_
        exact hk2 o_this (x1 + 1) _ _ _ hP hD hS (lv_sub hl [1, 0] rfl) hf
      · rw [if_neg hc_4] at hf
        refine lv_aload_n hx hb dX13_dithers_26 rfl (lv_at hl 0 rfl) ?_
        refine va_get (D := D) (ci := 9) (v := .ref (q_this 4)) (C := RX13) (T := TX13) (N := 48) hx hb hUX13 (fun _ h9 => h9) hown hK hP 0 rfl rfl 15 (by decide) (hts (Cond.fieldLink RX13 26 "ReliefBuilderModel" "tones" "[I") (List.mem_of_getElem? (i := 2) rfl)) (fun _ h9 => h9) rfl dX13_dithers_27 ?_
        refine lv_bipush (v := 16) hx hb dX13_dithers_30 (by decide) ?_
        refine lv_iload_n hx hb dX13_dithers_32 rfl (lv_at hl 1 rfl) ?_
        refine lv_imul hx hb dX13_dithers_33 ?_
        refine lv_iload_n hx hb dX13_dithers_34 rfl (lv_at hl 3 rfl) ?_
        refine lv_iadd hx hb dX13_dithers_35 ?_
        obtain ⟨hi_5, hf⟩ := os_if hf
        refine va_iald hx hb hK hP 4 0 rfl rfl hi_5 dX13_dithers_36 ?_
        obtain ⟨u_6, he_7, hf⟩ := os_bd hf
        refine mc_callS ⟨hx, hb, hml, hown, hts⟩ (mm_X13_wantedBy l D kA N ((os_A o_this 3) (Int32.toNatClampNeg (((16 : Int32) * x1) + x3))) u_6 he_7) (va_cwS 1 hts gX13_dithers_X13_wantedBy rfl rfl rfl (by decide +kernel) ⟨Nat.le_of_ble_eq_true rfl, Nat.le_of_ble_eq_true rfl⟩) (wc := []) rfl hl.1 (As := [.int ((os_A o_this 3) (Int32.toNatClampNeg (((16 : Int32) * x1) + x3)))]) (rest := []) rfl (Nat.le_of_ble_eq_true rfl) dX13_dithers_37 ⟨Nat.le_of_ble_eq_true rfl, Nat.le_of_ble_eq_true rfl⟩ hK hP hD hS hA [] [0, 1, 2, 3, 4, 5, 6, 7, 8, 9, 10, 11, 12, 13, 14, 15, 16, 17, 18, 19, 20, 21, 22, 23] [0, 1, 2, 3, 4, 5, 6, 7, 8, 9, 10, 11, 12, 13, 14, 15, 16, 17, 18, 19, 20, 21, 22, 23] rfl (by decide) rfl (by decide) (by decide) rfl (by decide) (wr := (ce_X13 kA q_this o_this)) (w2 := (ce_X13 kA q_this o_this)) (fun H locs hP hD hS => ?_)
        have hP : va_P D vwCl (ce_X13 kA q_this o_this) H := hP
        refine lv_fload_n hx hb dX13_dithers_40 rfl (lv_at hl 2 rfl) ?_
        obtain ⟨hn_8, hf⟩ := os_if hf
        refine lv_fadd hx hb dX13_dithers_41 hn_8 ?_
        refine lv_fstore (lv' := [(4, .float (FP.fadd u_6 x2)), (0, .ref (q_this 0)), (1, .int x1), (2, .float x2), (3, .int x3)]) hx hb dX13_dithers_42 hl (by decide) rfl (fun ls hl => ?_)
        refine lv_aload_n hx hb dX13_dithers_44 rfl (lv_at hl 1 rfl) ?_
        refine va_get (D := D) (ci := 9) (v := .ref (q_this 5)) (C := RX13) (T := TX13) (N := 48) hx hb hUX13 (fun _ h9 => h9) hown hK hP 0 rfl rfl 16 (by decide) (hts (Cond.fieldLink RX13 29 "ReliefBuilderModel" "heights" "[I") (List.mem_of_getElem? (i := 3) rfl)) (fun _ h9 => h9) rfl dX13_dithers_45 ?_
        refine lv_bipush (v := 16) hx hb dX13_dithers_48 (by decide) ?_
        refine lv_iload_n hx hb dX13_dithers_50 rfl (lv_at hl 2 rfl) ?_
        refine lv_imul hx hb dX13_dithers_51 ?_
        refine lv_iload_n hx hb dX13_dithers_52 rfl (lv_at hl 4 rfl) ?_
        refine lv_iadd hx hb dX13_dithers_53 ?_
        refine lv_aload_n hx hb dX13_dithers_54 rfl (lv_at hl 1 rfl) ?_
        refine lv_fload hx hb dX13_dithers_55 (lv_at hl 0 rfl) ?_
        obtain ⟨u_9, he_10, hf⟩ := os_bd hf
        refine mc_callV ⟨hx, hb, hml, hown, hts⟩ (mm_X13_heightBy l D kA N q_this o_this (FP.fadd u_6 x2) u_9 he_10) (cwV 1 hts gX13_dithers_X13_heightBy rfl rfl rfl (by decide +kernel) ⟨Nat.le_of_ble_eq_true rfl, Nat.le_of_ble_eq_true rfl⟩) (wc := (ce_X13 kA q_this o_this)) (ci := 9) (q0 := 0) rfl rfl rfl hl.1 (As := [.float (FP.fadd u_6 x2)]) (rest := [.int (((16 : Int32) * x1) + x3), .ref (q_this 5)]) rfl (Nat.le_of_ble_eq_true rfl) dX13_dithers_57 ⟨Nat.le_of_ble_eq_true rfl, Nat.le_of_ble_eq_true rfl⟩ hK hP hD hS hA [0, 1, 2, 3, 4, 5, 6, 7, 8, 9, 10, 11, 12, 13, 14, 15, 16, 17, 18, 19, 20, 21, 22, 23] [] [0, 1, 2, 3, 4, 5, 6, 7, 8, 9, 10, 11, 12, 13, 14, 15, 16, 17, 18, 19, 20, 21, 22, 23] rfl (by decide) rfl (by decide) (by decide) rfl (by decide) (wr := []) (w2 := (ce_X13 kA q_this o_this)) (fun H locs hP hD hS => ?_)
        have hP : va_P D vwCl (ce_X13 kA q_this o_this) H := hP
        obtain ⟨hi_11, hf⟩ := os_if hf
        refine va_iast hx hb hK hP hD hS 5 0 rfl rfl hi_11 dX13_dithers_60 (fun H locs hP hD hS => ?_)
        have hP : va_P D vwCl (ce_X13 kA q_this (ss_A o_this 4 (upd (os_A o_this 4) (Int32.toNatClampNeg (((16 : Int32) * x1) + x3)) u_9))) H := hP
        have hD : va_D A (ce_X13 kA q_this (ss_A o_this 4 (upd (os_A o_this 4) (Int32.toNatClampNeg (((16 : Int32) * x1) + x3)) u_9))) := hD
        refine lv_fload hx hb dX13_dithers_61 (lv_at hl 0 rfl) ?_
        refine lv_aload_n hx hb dX13_dithers_63 rfl (lv_at hl 1 rfl) ?_
        refine lv_aload_n hx hb dX13_dithers_64 rfl (lv_at hl 1 rfl) ?_
        refine va_get (D := D) (ci := 9) (v := .ref (q_this 5)) (C := RX13) (T := TX13) (N := 48) hx hb hUX13 (fun _ h9 => h9) hown hK hP 0 rfl rfl 16 (by decide) (hts (Cond.fieldLink RX13 29 "ReliefBuilderModel" "heights" "[I") (List.mem_of_getElem? (i := 3) rfl)) (fun _ h9 => h9) rfl dX13_dithers_65 ?_
        refine lv_bipush (v := 16) hx hb dX13_dithers_68 (by decide) ?_
        refine lv_iload_n hx hb dX13_dithers_70 rfl (lv_at hl 2 rfl) ?_
        refine lv_imul hx hb dX13_dithers_71 ?_
        refine lv_iload_n hx hb dX13_dithers_72 rfl (lv_at hl 4 rfl) ?_
        refine lv_iadd hx hb dX13_dithers_73 ?_
        obtain ⟨hi_12, hf⟩ := os_if hf
        refine va_iald hx hb hK hP 5 0 rfl rfl hi_12 dX13_dithers_74 ?_
        obtain ⟨u_13, he_14, hf⟩ := os_bd hf
        refine mc_callV ⟨hx, hb, hml, hown, hts⟩ (mm_X13_lightOf l D kA N q_this (ss_A o_this 4 (upd (os_A o_this 4) (Int32.toNatClampNeg (((16 : Int32) * x1) + x3)) u_9)) ((upd (os_A o_this 4) (Int32.toNatClampNeg (((16 : Int32) * x1) + x3)) u_9) (Int32.toNatClampNeg (((16 : Int32) * x1) + x3))) u_13 he_14) (cwV 1 hts gX13_dithers_X13_lightOf rfl rfl rfl (by decide +kernel) ⟨Nat.le_of_ble_eq_true rfl, Nat.le_of_ble_eq_true rfl⟩) (wc := (ce_X13 kA q_this (ss_A o_this 4 (upd (os_A o_this 4) (Int32.toNatClampNeg (((16 : Int32) * x1) + x3)) u_9)))) (ci := 9) (q0 := 0) rfl rfl rfl hl.1 (As := [.int ((upd (os_A o_this 4) (Int32.toNatClampNeg (((16 : Int32) * x1) + x3)) u_9) (Int32.toNatClampNeg (((16 : Int32) * x1) + x3)))]) (rest := [.float (FP.fadd u_6 x2)]) rfl (Nat.le_of_ble_eq_true rfl) dX13_dithers_75 ⟨Nat.le_of_ble_eq_true rfl, Nat.le_of_ble_eq_true rfl⟩ hK hP hD hS hA [0, 1, 2, 3, 4, 5, 6, 7, 8, 9, 10, 11, 12, 13, 14, 15, 16, 17, 18, 19, 20, 21, 22, 23] [] [0, 1, 2, 3, 4, 5, 6, 7, 8, 9, 10, 11, 12, 13, 14, 15, 16, 17, 18, 19, 20, 21, 22, 23] rfl (by decide) rfl (by decide) (by decide) rfl (by decide) (wr := []) (w2 := (ce_X13 kA q_this (ss_A o_this 4 (upd (os_A o_this 4) (Int32.toNatClampNeg (((16 : Int32) * x1) + x3)) u_9)))) (fun H locs hP hD hS => ?_)
        have hP : va_P D vwCl (ce_X13 kA q_this (ss_A o_this 4 (upd (os_A o_this 4) (Int32.toNatClampNeg (((16 : Int32) * x1) + x3)) u_9))) H := hP
        obtain ⟨hn_15, hf⟩ := os_if hf
        refine lv_fsub hx hb dX13_dithers_78 hn_15 ?_
        refine lv_fstore_n (lv' := [(2, .float (FP.fsub (FP.fadd u_6 x2) u_13)), (4, .float (FP.fadd u_6 x2)), (0, .ref (q_this 0)), (1, .int x1), (3, .int x3)]) hx hb dX13_dithers_79 rfl hl (by decide) rfl (fun ls hl => ?_)
        refine lv_iinc (v := x3 + 1) (lv' := [(3, .int (x3 + 1)), (2, .float (FP.fsub (FP.fadd u_6 x2) u_13)), (4, .float (FP.fadd u_6 x2)), (0, .ref (q_this 0)), (1, .int x1)]) hx hb dX13_dithers_80 hl (k := 4) rfl rfl (by decide) rfl (fun ls hl => ?_)
        refine lv_goto (tgt := 16) hx hb dX13_dithers_83 (by decide) ?_
        exact hk16 (ss_A o_this 4 (upd (os_A o_this 4) (Int32.toNatClampNeg (((16 : Int32) * x1) + x3)) u_9)) x1 (FP.fsub (FP.fadd u_6 x2) u_13) (x3 + 1) _ _ _ hP hD hS (lv_sub hl [3, 4, 1, 0] rfl) hf
  have hL2 : ∀ (n : Nat) (o_this : os_T) (x1 : Int32) (H : Heap) (locs : List Loc) (ls : Array Slot), va_P D vwCl (ce_X13 kA q_this o_this) H → va_D A (ce_X13 kA q_this o_this) → va_S A s.heap H locs → lv_has ls 5 [(0, .ref (q_this 0)), (1, .int x1)] → ff_X13_dithers_l2 N n (o_this, x1) = some out → W p l e ({ frames := 2, cells := 0, slots := 0, locals := 49 } : Room) s m [.ref (q_this 0)].toArray below meth c H locs 0 0 (MQ below (mc_Q D kA A none (ce_X13 kA q_this out)) [.ref (q_this 0)].toArray s 0 0 A) (F0 m 2 ls []) := by
    intro n
    induction n with
    | zero => intro o_this x1 H locs ls _ _ _ _ hf; cases hf
    | succ n hk2 =>
      intro o_this x1 H locs ls hP hD hS hl hf
      have hf : ff_X13_dithers_c2 N (ff_X13_dithers_l2 N n) o_this x1 = some out := hf
      generalize hke : ff_X13_dithers_l2 N n = k2 at hk2 hf
      unfold ff_X13_dithers_c2 at hf
      refine lv_iload_n hx hb dX13_dithers_2 rfl (lv_at hl 1 rfl) ?_
      refine lv_aload_n hx hb dX13_dithers_3 rfl (lv_at hl 0 rfl) ?_
      refine va_get (D := D) (ci := 9) (v := .ref (q_this 2)) (C := RX13) (T := TX13) (N := 48) hx hb hUX13 (fun _ h9 => h9) hown hK hP 0 rfl rfl 13 (by decide) (hts (Cond.fieldLink RX13 20 "ReliefBuilderModel" "now" "[I") (List.mem_of_getElem? (i := 1) rfl)) (fun _ h9 => h9) rfl dX13_dithers_4 ?_
      refine lv_iconst (v := 1) hx hb dX13_dithers_7 (by decide) ?_
      obtain ⟨hi_1, hf⟩ := os_if hf
      refine va_iald hx hb hK hP 2 0 rfl rfl hi_1 dX13_dithers_8 ?_
      refine lv_icmp_ge (tgt := 92) hx hb dX13_dithers_9 (by decide) (fun hc_2 => ?_) (fun hc_2 => ?_)
      · rw [if_pos hc_2] at hf
        rw [← Option.some.inj hf]
        exact mc_retv hx hb hr hlk hP hK hD hS dX13_dithers_92
      · rw [if_neg hc_2] at hf
        refine lv_fconst0 hx hb dX13_dithers_12 ?_
        refine lv_fstore_n (lv' := [(2, .float FP.fconst0), (0, .ref (q_this 0)), (1, .int x1)]) hx hb dX13_dithers_13 rfl hl (by decide) rfl (fun ls hl => ?_)
        refine lv_iconst (v := 0) hx hb dX13_dithers_14 (by decide) ?_
        refine lv_istore_n (lv' := [(3, .int (0 : Int32)), (2, .float FP.fconst0), (0, .ref (q_this 0)), (1, .int x1)]) hx hb dX13_dithers_15 rfl hl (by decide) rfl (fun ls hl => ?_)
        exact hL16 k2 hk2 N o_this x1 FP.fconst0 (0 : Int32) _ _ _ hP hD hS (lv_sub hl [2, 3, 1, 0] rfl) hf
  unfold ff_X13_dithers at hf
  refine lv_iconst (v := 0) hx hb dX13_dithers_0 (by decide) ?_
  refine lv_istore_n (lv' := [(1, .int (0 : Int32)), (0, .ref (q_this 0))]) hx hb dX13_dithers_1 rfl hl (by decide) rfl (fun ls hl => ?_)
  exact hL2 N o_this (0 : Int32) _ _ _ hP hD hS (lv_sub hl [1, 0] rfl) hf
def ff_X13_dither (N : Nat) (o_this : os_T) : Option (Int32 × os_T) :=
  ((ff_X13_laysAside N (ss_I o_this 0 (0 : Int32))).bind fun u_1 => ((ff_X13_dithers N u_1).bind fun u_3 => ((ff_X13_keeps N u_3).bind fun u_5 => some (u_5.1, u_5.2))))
set_option maxHeartbeats 4000000 in
set_option maxRecDepth 100000 in
theorem mm_X13_dither (l : Launch) (D : va_G) (kA : Nat → ClassId) (N : Nat) (q_this : Nat → Nat) (o_this : os_T) (out : (Int32 × os_T)) (hf : ff_X13_dither N o_this = some out) : mc_C l D kA yX13_dither wsX13_dither ({ frames := 3, cells := 0, slots := 0, locals := 73 } : Room) [.ref (q_this 0)] (ce_X13 kA q_this o_this) (some (.int out.1)) (ce_X13 kA q_this out.2) := by
  refine mc_of (cc := cX13_dither) (maxL := 1) (ret := (some .int)) (by decide) rfl (Nat.le_of_ble_eq_true rfl) ?_
  intro p e s m below meth c A B hD hP hS ls hl
  obtain ⟨hx, hb, hr, hlk, hml, hown, hts, hK, hA, hnm⟩ := B
  have hown : s.vm.findClass RX13 = some m.cls := hown
  have hl : lv_has ls 1 [(0, .ref (q_this 0))] := hl
  have hUX13 : ∀ w ∈ u_ws RX13 TX13 48, w.before [.ref (q_this 0)].toArray s = true := fun w h => hts w (List.mem_cons_of_mem _ (List.mem_append_right _ h))
  unfold ff_X13_dither at hf
  refine lv_aload_n hx hb dX13_dither_0 rfl (lv_at hl 0 rfl) ?_
  refine lv_iconst (v := 0) hx hb dX13_dither_1 (by decide) ?_
  refine va_put (D := D) (ci := 9) (v := .int (0 : Int32)) (ty := .int) (C := RX13) (T := TX13) (N := 48) hx hb hUX13 (fun _ h9 => h9) tyX13 tyX13_ok nmX13 hown hK hP hD hS 0 rfl rfl 0 (by decide) (hts (Cond.fieldLink RX13 93 "ReliefBuilderModel" "code" "I") (List.mem_of_getElem? (i := 1) rfl)) (fun _ h9 => h9) rfl (tyX13_ok 0 (by decide)) rfl rfl (Nat.le_of_ble_eq_true rfl) dX13_dither_2 (fun H locs hP hD hS => ?_)
  have hP : va_P D vwCl (ce_X13 kA q_this (ss_I o_this 0 (0 : Int32))) H := hP
  have hD : va_D A (ce_X13 kA q_this (ss_I o_this 0 (0 : Int32))) := hD
  refine lv_aload_n hx hb dX13_dither_5 rfl (lv_at hl 0 rfl) ?_
  obtain ⟨u_1, he_2, hf⟩ := os_bd hf
  refine mc_callV ⟨hx, hb, hml, hown, hts⟩ (mm_X13_laysAside l D kA N q_this (ss_I o_this 0 (0 : Int32)) u_1 he_2) (cwV 0 hts gX13_dither_X13_laysAside rfl rfl rfl (by decide +kernel) ⟨Nat.le_of_ble_eq_true rfl, Nat.le_of_ble_eq_true rfl⟩) (wc := (ce_X13 kA q_this (ss_I o_this 0 (0 : Int32)))) (ci := 9) (q0 := 0) rfl rfl rfl hl.1 (As := []) (rest := []) rfl (Nat.le_of_ble_eq_true rfl) dX13_dither_6 ⟨Nat.le_of_ble_eq_true rfl, Nat.le_of_ble_eq_true rfl⟩ hK hP hD hS hA [0, 1, 2, 3, 4, 5, 6, 7, 8, 9, 10, 11, 12, 13, 14, 15, 16, 17, 18, 19, 20, 21, 22, 23] [] [0, 1, 2, 3, 4, 5, 6, 7, 8, 9, 10, 11, 12, 13, 14, 15, 16, 17, 18, 19, 20, 21, 22, 23] rfl (by decide) rfl (by decide) (by decide) rfl (by decide) (wr := []) (w2 := (ce_X13 kA q_this u_1)) (fun H locs hP hD hS => ?_)
  have hP : va_P D vwCl (ce_X13 kA q_this u_1) H := hP
  refine lv_aload_n hx hb dX13_dither_9 rfl (lv_at hl 0 rfl) ?_
  obtain ⟨u_3, he_4, hf⟩ := os_bd hf
  refine mc_callV ⟨hx, hb, hml, hown, hts⟩ (mm_X13_dithers l D kA N q_this u_1 u_3 he_4) (cwV 0 hts gX13_dither_X13_dithers rfl rfl rfl (by decide +kernel) ⟨Nat.le_of_ble_eq_true rfl, Nat.le_of_ble_eq_true rfl⟩) (wc := (ce_X13 kA q_this u_1)) (ci := 9) (q0 := 0) rfl rfl rfl hl.1 (As := []) (rest := []) rfl (Nat.le_of_ble_eq_true rfl) dX13_dither_10 ⟨Nat.le_of_ble_eq_true rfl, Nat.le_of_ble_eq_true rfl⟩ hK hP hD hS hA [0, 1, 2, 3, 4, 5, 6, 7, 8, 9, 10, 11, 12, 13, 14, 15, 16, 17, 18, 19, 20, 21, 22, 23] [] [0, 1, 2, 3, 4, 5, 6, 7, 8, 9, 10, 11, 12, 13, 14, 15, 16, 17, 18, 19, 20, 21, 22, 23] rfl (by decide) rfl (by decide) (by decide) rfl (by decide) (wr := []) (w2 := (ce_X13 kA q_this u_3)) (fun H locs hP hD hS => ?_)
  have hP : va_P D vwCl (ce_X13 kA q_this u_3) H := hP
  refine lv_aload_n hx hb dX13_dither_13 rfl (lv_at hl 0 rfl) ?_
  obtain ⟨u_5, he_6, hf⟩ := os_bd hf
  refine mc_callV ⟨hx, hb, hml, hown, hts⟩ (mm_X13_keeps l D kA N q_this u_3 u_5 he_6) (cwV 0 hts gX13_dither_X13_keeps rfl rfl rfl (by decide +kernel) ⟨Nat.le_of_ble_eq_true rfl, Nat.le_of_ble_eq_true rfl⟩) (wc := (ce_X13 kA q_this u_3)) (ci := 9) (q0 := 0) rfl rfl rfl hl.1 (As := []) (rest := []) rfl (Nat.le_of_ble_eq_true rfl) dX13_dither_14 ⟨Nat.le_of_ble_eq_true rfl, Nat.le_of_ble_eq_true rfl⟩ hK hP hD hS hA [0, 1, 2, 3, 4, 5, 6, 7, 8, 9, 10, 11, 12, 13, 14, 15, 16, 17, 18, 19, 20, 21, 22, 23] [] [0, 1, 2, 3, 4, 5, 6, 7, 8, 9, 10, 11, 12, 13, 14, 15, 16, 17, 18, 19, 20, 21, 22, 23] rfl (by decide) rfl (by decide) (by decide) rfl (by decide) (wr := []) (w2 := (ce_X13 kA q_this u_5.2)) (fun H locs hP hD hS => ?_)
  have hP : va_P D vwCl (ce_X13 kA q_this u_5.2) H := hP
  rw [← Option.some.inj hf]
  exact mc_reti hx hb hr hlk hP hK hD hS dX13_dither_17
def ff_X13_errorOf (N : Nat) (o_this : os_T) (a1 : Int32) (a2 : Int32) : Option UInt32 :=
  ((ff_X13_isCell N o_this a1 a2).bind fun u_1 => (if u_1 = 0 then some FP.fconst0 else ((ff_X13_errorAt N o_this a1 a2).bind fun u_4 => ((ff_X13_apart N u_4).bind fun u_6 => some u_6))))
set_option maxHeartbeats 4000000 in
set_option maxRecDepth 100000 in
theorem mm_X13_errorOf (l : Launch) (D : va_G) (kA : Nat → ClassId) (N : Nat) (q_this : Nat → Nat) (o_this : os_T) (a1 : Int32) (a2 : Int32) (out : UInt32) (hf : ff_X13_errorOf N o_this a1 a2 = some out) : mc_C l D kA yX13_errorOf wsX13_errorOf ({ frames := 5, cells := 0, slots := 0, locals := 116 } : Room) [.ref (q_this 0), .int a1, .int a2] (ce_X13 kA q_this o_this) (some (.float out)) (ce_X13 kA q_this o_this) := by
  refine mc_of (cc := cX13_errorOf) (maxL := 3) (ret := (some .float)) (by decide) rfl (Nat.le_of_ble_eq_true rfl) ?_
  intro p e s m below meth c A B hD hP hS ls hl
  obtain ⟨hx, hb, hr, hlk, hml, hown, hts, hK, hA, hnm⟩ := B
  have hown : s.vm.findClass RX13 = some m.cls := hown
  have hl : lv_has ls 3 [(0, .ref (q_this 0)), (1, .int a1), (2, .int a2)] := hl
  unfold ff_X13_errorOf at hf
  refine lv_aload_n hx hb dX13_errorOf_0 rfl (lv_at hl 0 rfl) ?_
  refine lv_iload_n hx hb dX13_errorOf_1 rfl (lv_at hl 1 rfl) ?_
  refine lv_iload_n hx hb dX13_errorOf_2 rfl (lv_at hl 2 rfl) ?_
  obtain ⟨u_1, he_2, hf⟩ := os_bd hf
  refine mc_callV ⟨hx, hb, hml, hown, hts⟩ (mm_X13_isCell l D kA N q_this o_this a1 a2 u_1 he_2) (cwV 2 hts gX13_errorOf_X13_isCell rfl rfl rfl (by decide +kernel) ⟨Nat.le_of_ble_eq_true rfl, Nat.le_of_ble_eq_true rfl⟩) (wc := (ce_X13 kA q_this o_this)) (ci := 9) (q0 := 0) rfl rfl rfl hl.1 (As := [.int a1, .int a2]) (rest := []) rfl (Nat.le_of_ble_eq_true rfl) dX13_errorOf_3 ⟨Nat.le_of_ble_eq_true rfl, Nat.le_of_ble_eq_true rfl⟩ hK hP hD hS hA [0, 1, 2, 3, 4, 5, 6, 7, 8, 9, 10, 11, 12, 13, 14, 15, 16, 17, 18, 19, 20, 21, 22, 23] [] [0, 1, 2, 3, 4, 5, 6, 7, 8, 9, 10, 11, 12, 13, 14, 15, 16, 17, 18, 19, 20, 21, 22, 23] rfl (by decide) rfl (by decide) (by decide) rfl (by decide) (wr := []) (w2 := (ce_X13 kA q_this o_this)) (fun H locs hP hD hS => ?_)
  have hP : va_P D vwCl (ce_X13 kA q_this o_this) H := hP
  refine lv_if_eq (tgt := 21) hx hb dX13_errorOf_6 (by decide) (fun hc_3 => ?_) (fun hc_3 => ?_)
  · rw [if_pos hc_3] at hf
    refine lv_fconst0 hx hb dX13_errorOf_21 ?_
    rw [← Option.some.inj hf]
    exact mc_retf hx hb hr hlk hP hK hD hS dX13_errorOf_22
  · rw [if_neg hc_3] at hf
    refine lv_aload_n hx hb dX13_errorOf_9 rfl (lv_at hl 0 rfl) ?_
    refine lv_iload_n hx hb dX13_errorOf_10 rfl (lv_at hl 1 rfl) ?_
    refine lv_iload_n hx hb dX13_errorOf_11 rfl (lv_at hl 2 rfl) ?_
    obtain ⟨u_4, he_5, hf⟩ := os_bd hf
    refine mc_callV ⟨hx, hb, hml, hown, hts⟩ (mm_X13_errorAt l D kA N q_this o_this a1 a2 u_4 he_5) (cwV 2 hts gX13_errorOf_X13_errorAt rfl rfl rfl (by decide +kernel) ⟨Nat.le_of_ble_eq_true rfl, Nat.le_of_ble_eq_true rfl⟩) (wc := (ce_X13 kA q_this o_this)) (ci := 9) (q0 := 0) rfl rfl rfl hl.1 (As := [.int a1, .int a2]) (rest := []) rfl (Nat.le_of_ble_eq_true rfl) dX13_errorOf_12 ⟨Nat.le_of_ble_eq_true rfl, Nat.le_of_ble_eq_true rfl⟩ hK hP hD hS hA [0, 1, 2, 3, 4, 5, 6, 7, 8, 9, 10, 11, 12, 13, 14, 15, 16, 17, 18, 19, 20, 21, 22, 23] [] [0, 1, 2, 3, 4, 5, 6, 7, 8, 9, 10, 11, 12, 13, 14, 15, 16, 17, 18, 19, 20, 21, 22, 23] rfl (by decide) rfl (by decide) (by decide) rfl (by decide) (wr := []) (w2 := (ce_X13 kA q_this o_this)) (fun H locs hP hD hS => ?_)
    have hP : va_P D vwCl (ce_X13 kA q_this o_this) H := hP
    obtain ⟨u_6, he_7, hf⟩ := os_bd hf
    refine mc_callS ⟨hx, hb, hml, hown, hts⟩ (mm_X13_apart l D kA N u_4 u_6 he_7) (va_cwS 1 hts gX13_errorOf_X13_apart rfl rfl rfl (by decide +kernel) ⟨Nat.le_of_ble_eq_true rfl, Nat.le_of_ble_eq_true rfl⟩) (wc := []) rfl hl.1 (As := [.float u_4]) (rest := []) rfl (Nat.le_of_ble_eq_true rfl) dX13_errorOf_15 ⟨Nat.le_of_ble_eq_true rfl, Nat.le_of_ble_eq_true rfl⟩ hK hP hD hS hA [] [0, 1, 2, 3, 4, 5, 6, 7, 8, 9, 10, 11, 12, 13, 14, 15, 16, 17, 18, 19, 20, 21, 22, 23] [0, 1, 2, 3, 4, 5, 6, 7, 8, 9, 10, 11, 12, 13, 14, 15, 16, 17, 18, 19, 20, 21, 22, 23] rfl (by decide) rfl (by decide) (by decide) rfl (by decide) (wr := (ce_X13 kA q_this o_this)) (w2 := (ce_X13 kA q_this o_this)) (fun H locs hP hD hS => ?_)
    have hP : va_P D vwCl (ce_X13 kA q_this o_this) H := hP
    refine lv_goto (tgt := 22) hx hb dX13_errorOf_18 (by decide) ?_
    rw [← Option.some.inj hf]
    exact mc_retf hx hb hr hlk hP hK hD hS dX13_errorOf_22
def ff_X13_errorsAround_b62 (N : Nat) (o_this : os_T) (x1 : Int32) (x2 : Int32) (x3 : UInt32) : Option UInt32 :=
  (if os_in (1 : Int32) 7 then (if ((os_A o_this 1) (Int32.toNatClampNeg (1 : Int32))) ≤ (x2 + (1 : Int32)) then some x3 else ((ff_X13_errorOf N o_this x1 (x2 + (1 : Int32))).bind fun u_19 => (if os_nn (FP.fadd x3 u_19) then some (FP.fadd x3 u_19) else none))) else none)
def ff_X13_errorsAround_b47 (N : Nat) (o_this : os_T) (x1 : Int32) (x2 : Int32) (x3 : UInt32) : Option UInt32 :=
  (if x2 ≤ 0 then ff_X13_errorsAround_b62 N o_this x1 x2 x3 else ((ff_X13_errorOf N o_this x1 (x2 - (1 : Int32))).bind fun u_14 => (if os_nn (FP.fadd x3 u_14) then ff_X13_errorsAround_b62 N o_this x1 x2 (FP.fadd x3 u_14) else none)))
def ff_X13_errorsAround_b24 (N : Nat) (o_this : os_T) (x1 : Int32) (x2 : Int32) (x3 : UInt32) : Option UInt32 :=
  (if os_in (0 : Int32) 7 then (if ((os_A o_this 1) (Int32.toNatClampNeg (0 : Int32))) ≤ (x1 + (1 : Int32)) then ff_X13_errorsAround_b47 N o_this x1 x2 x3 else ((ff_X13_errorOf N o_this (x1 + (1 : Int32)) x2).bind fun u_10 => (if os_nn (FP.fadd x3 u_10) then ff_X13_errorsAround_b47 N o_this x1 x2 (FP.fadd x3 u_10) else none))) else none)
def ff_X13_errorsAround (N : Nat) (o_this : os_T) (a1 : Int32) (a2 : Int32) : Option UInt32 :=
  ((ff_X13_errorOf N o_this a1 a2).bind fun u_1 => (if os_nn (FP.fadd FP.fconst0 u_1) then (if a1 ≤ 0 then ff_X13_errorsAround_b24 N o_this a1 a2 (FP.fadd FP.fconst0 u_1) else ((ff_X13_errorOf N o_this (a1 - (1 : Int32)) a2).bind fun u_5 => (if os_nn (FP.fadd (FP.fadd FP.fconst0 u_1) u_5) then ff_X13_errorsAround_b24 N o_this a1 a2 (FP.fadd (FP.fadd FP.fconst0 u_1) u_5) else none))) else none))
set_option maxHeartbeats 4000000 in
set_option maxRecDepth 100000 in
theorem mm_X13_errorsAround (l : Launch) (D : va_G) (kA : Nat → ClassId) (N : Nat) (q_this : Nat → Nat) (o_this : os_T) (a1 : Int32) (a2 : Int32) (out : UInt32) (hf : ff_X13_errorsAround N o_this a1 a2 = some out) : mc_C l D kA yX13_errorsAround wsX13_errorsAround ({ frames := 6, cells := 0, slots := 0, locals := 138 } : Room) [.ref (q_this 0), .int a1, .int a2] (ce_X13 kA q_this o_this) (some (.float out)) (ce_X13 kA q_this o_this) := by
  refine mc_of (cc := cX13_errorsAround) (maxL := 4) (ret := (some .float)) (by decide) rfl (Nat.le_of_ble_eq_true rfl) ?_
  intro p e s m below meth c A B hD hP hS ls hl
  obtain ⟨hx, hb, hr, hlk, hml, hown, hts, hK, hA, hnm⟩ := B
  have hown : s.vm.findClass RX13 = some m.cls := hown
  have hl : lv_has ls 4 [(0, .ref (q_this 0)), (1, .int a1), (2, .int a2)] := hl
  have hUX13 : ∀ w ∈ u_ws RX13 TX13 48, w.before [.ref (q_this 0), .int a1, .int a2].toArray s = true := fun w h => hts w (List.mem_cons_of_mem _ (List.mem_append_right _ h))
  have hB62 : ∀ (x1 : Int32) (x2 : Int32) (x3 : UInt32) (H : Heap) (locs : List Loc) (ls : Array Slot), va_P D vwCl (ce_X13 kA q_this o_this) H → va_D A (ce_X13 kA q_this o_this) → va_S A s.heap H locs → lv_has ls 4 [(0, .ref (q_this 0)), (1, .int x1), (2, .int x2), (3, .float x3)] → ff_X13_errorsAround_b62 N o_this x1 x2 x3 = some out → W p l e ({ frames := 6, cells := 0, slots := 0, locals := 138 } : Room) s m [.ref (q_this 0), .int a1, .int a2].toArray below meth c H locs 0 0 (MQ below (mc_Q D kA A (some (.float out)) (ce_X13 kA q_this o_this)) [.ref (q_this 0), .int a1, .int a2].toArray s 0 0 A) (F0 m 62 ls []) := by
    intro x1 x2 x3 H locs ls hP hD hS hl hf
    unfold ff_X13_errorsAround_b62 at hf
    refine lv_iload_n hx hb dX13_errorsAround_62 rfl (lv_at hl 2 rfl) ?_
    refine lv_iconst (v := 1) hx hb dX13_errorsAround_63 (by decide) ?_
    refine lv_iadd hx hb dX13_errorsAround_64 ?_
    refine lv_aload_n hx hb dX13_errorsAround_65 rfl (lv_at hl 0 rfl) ?_
    refine va_get (D := D) (ci := 9) (v := .ref (q_this 2)) (C := RX13) (T := TX13) (N := 48) hx hb hUX13 (fun _ h9 => h9) hown hK hP 0 rfl rfl 13 (by decide) (hts (Cond.fieldLink RX13 20 "ReliefBuilderModel" "now" "[I") (List.mem_of_getElem? (i := 1) rfl)) (fun _ h9 => h9) rfl dX13_errorsAround_66 ?_
    refine lv_iconst (v := 1) hx hb dX13_errorsAround_69 (by decide) ?_
    obtain ⟨hi_17, hf⟩ := os_if hf
    refine va_iald hx hb hK hP 2 0 rfl rfl hi_17 dX13_errorsAround_70 ?_
    refine lv_icmp_ge (tgt := 85) hx hb dX13_errorsAround_71 (by decide) (fun hc_18 => ?_) (fun hc_18 => ?_)
    · rw [if_pos hc_18] at hf
      refine lv_fload_n hx hb dX13_errorsAround_85 rfl (lv_at hl 3 rfl) ?_
      rw [← Option.some.inj hf]
      exact mc_retf hx hb hr hlk hP hK hD hS dX13_errorsAround_86
    · rw [if_neg hc_18] at hf
      refine lv_fload_n hx hb dX13_errorsAround_74 rfl (lv_at hl 3 rfl) ?_
      refine lv_aload_n hx hb dX13_errorsAround_75 rfl (lv_at hl 0 rfl) ?_
      refine lv_iload_n hx hb dX13_errorsAround_76 rfl (lv_at hl 1 rfl) ?_
      refine lv_iload_n hx hb dX13_errorsAround_77 rfl (lv_at hl 2 rfl) ?_
      refine lv_iconst (v := 1) hx hb dX13_errorsAround_78 (by decide) ?_
      refine lv_iadd hx hb dX13_errorsAround_79 ?_
      obtain ⟨u_19, he_20, hf⟩ := os_bd hf
      refine mc_callV ⟨hx, hb, hml, hown, hts⟩ (mm_X13_errorOf l D kA N q_this o_this x1 (x2 + (1 : Int32)) u_19 he_20) (cwV 2 hts gX13_errorsAround_X13_errorOf rfl rfl rfl (by decide +kernel) ⟨Nat.le_of_ble_eq_true rfl, Nat.le_of_ble_eq_true rfl⟩) (wc := (ce_X13 kA q_this o_this)) (ci := 9) (q0 := 0) rfl rfl rfl hl.1 (As := [.int x1, .int (x2 + (1 : Int32))]) (rest := [.float x3]) rfl (Nat.le_of_ble_eq_true rfl) dX13_errorsAround_80 ⟨Nat.le_of_ble_eq_true rfl, Nat.le_of_ble_eq_true rfl⟩ hK hP hD hS hA [0, 1, 2, 3, 4, 5, 6, 7, 8, 9, 10, 11, 12, 13, 14, 15, 16, 17, 18, 19, 20, 21, 22, 23] [] [0, 1, 2, 3, 4, 5, 6, 7, 8, 9, 10, 11, 12, 13, 14, 15, 16, 17, 18, 19, 20, 21, 22, 23] rfl (by decide) rfl (by decide) (by decide) rfl (by decide) (wr := []) (w2 := (ce_X13 kA q_this o_this)) (fun H locs hP hD hS => ?_)
      have hP : va_P D vwCl (ce_X13 kA q_this o_this) H := hP
      obtain ⟨hn_21, hf⟩ := os_if hf
      refine lv_fadd hx hb dX13_errorsAround_83 hn_21 ?_
      refine lv_fstore_n (lv' := [(3, .float (FP.fadd x3 u_19)), (0, .ref (q_this 0)), (1, .int x1), (2, .int x2)]) hx hb dX13_errorsAround_84 rfl hl (by decide) rfl (fun ls hl => ?_)
      refine lv_fload_n hx hb dX13_errorsAround_85 rfl (lv_at hl 0 rfl) ?_
      rw [← Option.some.inj hf]
      exact mc_retf hx hb hr hlk hP hK hD hS dX13_errorsAround_86
  have hB47 : ∀ (x1 : Int32) (x2 : Int32) (x3 : UInt32) (H : Heap) (locs : List Loc) (ls : Array Slot), va_P D vwCl (ce_X13 kA q_this o_this) H → va_D A (ce_X13 kA q_this o_this) → va_S A s.heap H locs → lv_has ls 4 [(0, .ref (q_this 0)), (1, .int x1), (2, .int x2), (3, .float x3)] → ff_X13_errorsAround_b47 N o_this x1 x2 x3 = some out → W p l e ({ frames := 6, cells := 0, slots := 0, locals := 138 } : Room) s m [.ref (q_this 0), .int a1, .int a2].toArray below meth c H locs 0 0 (MQ below (mc_Q D kA A (some (.float out)) (ce_X13 kA q_this o_this)) [.ref (q_this 0), .int a1, .int a2].toArray s 0 0 A) (F0 m 47 ls []) := by
    intro x1 x2 x3 H locs ls hP hD hS hl hf
    unfold ff_X13_errorsAround_b47 at hf
    refine lv_iload_n hx hb dX13_errorsAround_47 rfl (lv_at hl 2 rfl) ?_
    refine lv_if_le (tgt := 62) hx hb dX13_errorsAround_48 (by decide) (fun hc_13 => ?_) (fun hc_13 => ?_)
    · rw [if_pos hc_13] at hf
      exact hB62 x1 x2 x3 _ _ _ hP hD hS (lv_sub hl [0, 1, 2, 3] rfl) hf
    · rw [if_neg hc_13] at hf
      refine lv_fload_n hx hb dX13_errorsAround_51 rfl (lv_at hl 3 rfl) ?_
      refine lv_aload_n hx hb dX13_errorsAround_52 rfl (lv_at hl 0 rfl) ?_
      refine lv_iload_n hx hb dX13_errorsAround_53 rfl (lv_at hl 1 rfl) ?_
      refine lv_iload_n hx hb dX13_errorsAround_54 rfl (lv_at hl 2 rfl) ?_
      refine lv_iconst (v := 1) hx hb dX13_errorsAround_55 (by decide) ?_
      refine lv_isub hx hb dX13_errorsAround_56 ?_
      obtain ⟨u_14, he_15, hf⟩ := os_bd hf
      refine mc_callV ⟨hx, hb, hml, hown, hts⟩ (mm_X13_errorOf l D kA N q_this o_this x1 (x2 - (1 : Int32)) u_14 he_15) (cwV 2 hts gX13_errorsAround_X13_errorOf rfl rfl rfl (by decide +kernel) ⟨Nat.le_of_ble_eq_true rfl, Nat.le_of_ble_eq_true rfl⟩) (wc := (ce_X13 kA q_this o_this)) (ci := 9) (q0 := 0) rfl rfl rfl hl.1 (As := [.int x1, .int (x2 - (1 : Int32))]) (rest := [.float x3]) rfl (Nat.le_of_ble_eq_true rfl) dX13_errorsAround_57 ⟨Nat.le_of_ble_eq_true rfl, Nat.le_of_ble_eq_true rfl⟩ hK hP hD hS hA [0, 1, 2, 3, 4, 5, 6, 7, 8, 9, 10, 11, 12, 13, 14, 15, 16, 17, 18, 19, 20, 21, 22, 23] [] [0, 1, 2, 3, 4, 5, 6, 7, 8, 9, 10, 11, 12, 13, 14, 15, 16, 17, 18, 19, 20, 21, 22, 23] rfl (by decide) rfl (by decide) (by decide) rfl (by decide) (wr := []) (w2 := (ce_X13 kA q_this o_this)) (fun H locs hP hD hS => ?_)
      have hP : va_P D vwCl (ce_X13 kA q_this o_this) H := hP
      obtain ⟨hn_16, hf⟩ := os_if hf
      refine lv_fadd hx hb dX13_errorsAround_60 hn_16 ?_
      refine lv_fstore_n (lv' := [(3, .float (FP.fadd x3 u_14)), (0, .ref (q_this 0)), (1, .int x1), (2, .int x2)]) hx hb dX13_errorsAround_61 rfl hl (by decide) rfl (fun ls hl => ?_)
      exact hB62 x1 x2 (FP.fadd x3 u_14) _ _ _ hP hD hS (lv_sub hl [1, 2, 3, 0] rfl) hf
  have hB24 : ∀ (x1 : Int32) (x2 : Int32) (x3 : UInt32) (H : Heap) (locs : List Loc) (ls : Array Slot), va_P D vwCl (ce_X13 kA q_this o_this) H → va_D A (ce_X13 kA q_this o_this) → va_S A s.heap H locs → lv_has ls 4 [(0, .ref (q_this 0)), (1, .int x1), (2, .int x2), (3, .float x3)] → ff_X13_errorsAround_b24 N o_this x1 x2 x3 = some out → W p l e ({ frames := 6, cells := 0, slots := 0, locals := 138 } : Room) s m [.ref (q_this 0), .int a1, .int a2].toArray below meth c H locs 0 0 (MQ below (mc_Q D kA A (some (.float out)) (ce_X13 kA q_this o_this)) [.ref (q_this 0), .int a1, .int a2].toArray s 0 0 A) (F0 m 24 ls []) := by
    intro x1 x2 x3 H locs ls hP hD hS hl hf
    unfold ff_X13_errorsAround_b24 at hf
    refine lv_iload_n hx hb dX13_errorsAround_24 rfl (lv_at hl 1 rfl) ?_
    refine lv_iconst (v := 1) hx hb dX13_errorsAround_25 (by decide) ?_
    refine lv_iadd hx hb dX13_errorsAround_26 ?_
    refine lv_aload_n hx hb dX13_errorsAround_27 rfl (lv_at hl 0 rfl) ?_
    refine va_get (D := D) (ci := 9) (v := .ref (q_this 2)) (C := RX13) (T := TX13) (N := 48) hx hb hUX13 (fun _ h9 => h9) hown hK hP 0 rfl rfl 13 (by decide) (hts (Cond.fieldLink RX13 20 "ReliefBuilderModel" "now" "[I") (List.mem_of_getElem? (i := 1) rfl)) (fun _ h9 => h9) rfl dX13_errorsAround_28 ?_
    refine lv_iconst (v := 0) hx hb dX13_errorsAround_31 (by decide) ?_
    obtain ⟨hi_8, hf⟩ := os_if hf
    refine va_iald hx hb hK hP 2 0 rfl rfl hi_8 dX13_errorsAround_32 ?_
    refine lv_icmp_ge (tgt := 47) hx hb dX13_errorsAround_33 (by decide) (fun hc_9 => ?_) (fun hc_9 => ?_)
    · rw [if_pos hc_9] at hf
      exact hB47 x1 x2 x3 _ _ _ hP hD hS (lv_sub hl [0, 1, 2, 3] rfl) hf
    · rw [if_neg hc_9] at hf
      refine lv_fload_n hx hb dX13_errorsAround_36 rfl (lv_at hl 3 rfl) ?_
      refine lv_aload_n hx hb dX13_errorsAround_37 rfl (lv_at hl 0 rfl) ?_
      refine lv_iload_n hx hb dX13_errorsAround_38 rfl (lv_at hl 1 rfl) ?_
      refine lv_iconst (v := 1) hx hb dX13_errorsAround_39 (by decide) ?_
      refine lv_iadd hx hb dX13_errorsAround_40 ?_
      refine lv_iload_n hx hb dX13_errorsAround_41 rfl (lv_at hl 2 rfl) ?_
      obtain ⟨u_10, he_11, hf⟩ := os_bd hf
      refine mc_callV ⟨hx, hb, hml, hown, hts⟩ (mm_X13_errorOf l D kA N q_this o_this (x1 + (1 : Int32)) x2 u_10 he_11) (cwV 2 hts gX13_errorsAround_X13_errorOf rfl rfl rfl (by decide +kernel) ⟨Nat.le_of_ble_eq_true rfl, Nat.le_of_ble_eq_true rfl⟩) (wc := (ce_X13 kA q_this o_this)) (ci := 9) (q0 := 0) rfl rfl rfl hl.1 (As := [.int (x1 + (1 : Int32)), .int x2]) (rest := [.float x3]) rfl (Nat.le_of_ble_eq_true rfl) dX13_errorsAround_42 ⟨Nat.le_of_ble_eq_true rfl, Nat.le_of_ble_eq_true rfl⟩ hK hP hD hS hA [0, 1, 2, 3, 4, 5, 6, 7, 8, 9, 10, 11, 12, 13, 14, 15, 16, 17, 18, 19, 20, 21, 22, 23] [] [0, 1, 2, 3, 4, 5, 6, 7, 8, 9, 10, 11, 12, 13, 14, 15, 16, 17, 18, 19, 20, 21, 22, 23] rfl (by decide) rfl (by decide) (by decide) rfl (by decide) (wr := []) (w2 := (ce_X13 kA q_this o_this)) (fun H locs hP hD hS => ?_)
      have hP : va_P D vwCl (ce_X13 kA q_this o_this) H := hP
      obtain ⟨hn_12, hf⟩ := os_if hf
      refine lv_fadd hx hb dX13_errorsAround_45 hn_12 ?_
      refine lv_fstore_n (lv' := [(3, .float (FP.fadd x3 u_10)), (0, .ref (q_this 0)), (1, .int x1), (2, .int x2)]) hx hb dX13_errorsAround_46 rfl hl (by decide) rfl (fun ls hl => ?_)
      exact hB47 x1 x2 (FP.fadd x3 u_10) _ _ _ hP hD hS (lv_sub hl [1, 2, 3, 0] rfl) hf
  unfold ff_X13_errorsAround at hf
  refine lv_fconst0 hx hb dX13_errorsAround_0 ?_
  refine lv_aload_n hx hb dX13_errorsAround_1 rfl (lv_at hl 0 rfl) ?_
  refine lv_iload_n hx hb dX13_errorsAround_2 rfl (lv_at hl 1 rfl) ?_
  refine lv_iload_n hx hb dX13_errorsAround_3 rfl (lv_at hl 2 rfl) ?_
  obtain ⟨u_1, he_2, hf⟩ := os_bd hf
  refine mc_callV ⟨hx, hb, hml, hown, hts⟩ (mm_X13_errorOf l D kA N q_this o_this a1 a2 u_1 he_2) (cwV 2 hts gX13_errorsAround_X13_errorOf rfl rfl rfl (by decide +kernel) ⟨Nat.le_of_ble_eq_true rfl, Nat.le_of_ble_eq_true rfl⟩) (wc := (ce_X13 kA q_this o_this)) (ci := 9) (q0 := 0) rfl rfl rfl hl.1 (As := [.int a1, .int a2]) (rest := [.float FP.fconst0]) rfl (Nat.le_of_ble_eq_true rfl) dX13_errorsAround_4 ⟨Nat.le_of_ble_eq_true rfl, Nat.le_of_ble_eq_true rfl⟩ hK hP hD hS hA [0, 1, 2, 3, 4, 5, 6, 7, 8, 9, 10, 11, 12, 13, 14, 15, 16, 17, 18, 19, 20, 21, 22, 23] [] [0, 1, 2, 3, 4, 5, 6, 7, 8, 9, 10, 11, 12, 13, 14, 15, 16, 17, 18, 19, 20, 21, 22, 23] rfl (by decide) rfl (by decide) (by decide) rfl (by decide) (wr := []) (w2 := (ce_X13 kA q_this o_this)) (fun H locs hP hD hS => ?_)
  have hP : va_P D vwCl (ce_X13 kA q_this o_this) H := hP
  obtain ⟨hn_3, hf⟩ := os_if hf
  refine lv_fadd hx hb dX13_errorsAround_7 hn_3 ?_
  refine lv_fstore_n (lv' := [(3, .float (FP.fadd FP.fconst0 u_1)), (0, .ref (q_this 0)), (1, .int a1), (2, .int a2)]) hx hb dX13_errorsAround_8 rfl hl (by decide) rfl (fun ls hl => ?_)
  refine lv_iload_n hx hb dX13_errorsAround_9 rfl (lv_at hl 2 rfl) ?_
  refine lv_if_le (tgt := 24) hx hb dX13_errorsAround_10 (by decide) (fun hc_4 => ?_) (fun hc_4 => ?_)
  · rw [if_pos hc_4] at hf
    exact hB24 a1 a2 (FP.fadd FP.fconst0 u_1) _ _ _ hP hD hS (lv_sub hl [1, 2, 3, 0] rfl) hf
  · rw [if_neg hc_4] at hf
    refine lv_fload_n hx hb dX13_errorsAround_13 rfl (lv_at hl 0 rfl) ?_
    refine lv_aload_n hx hb dX13_errorsAround_14 rfl (lv_at hl 1 rfl) ?_
    refine lv_iload_n hx hb dX13_errorsAround_15 rfl (lv_at hl 2 rfl) ?_
    refine lv_iconst (v := 1) hx hb dX13_errorsAround_16 (by decide) ?_
    refine lv_isub hx hb dX13_errorsAround_17 ?_
    refine lv_iload_n hx hb dX13_errorsAround_18 rfl (lv_at hl 3 rfl) ?_
    obtain ⟨u_5, he_6, hf⟩ := os_bd hf
    refine mc_callV ⟨hx, hb, hml, hown, hts⟩ (mm_X13_errorOf l D kA N q_this o_this (a1 - (1 : Int32)) a2 u_5 he_6) (cwV 2 hts gX13_errorsAround_X13_errorOf rfl rfl rfl (by decide +kernel) ⟨Nat.le_of_ble_eq_true rfl, Nat.le_of_ble_eq_true rfl⟩) (wc := (ce_X13 kA q_this o_this)) (ci := 9) (q0 := 0) rfl rfl rfl hl.1 (As := [.int (a1 - (1 : Int32)), .int a2]) (rest := [.float (FP.fadd FP.fconst0 u_1)]) rfl (Nat.le_of_ble_eq_true rfl) dX13_errorsAround_19 ⟨Nat.le_of_ble_eq_true rfl, Nat.le_of_ble_eq_true rfl⟩ hK hP hD hS hA [0, 1, 2, 3, 4, 5, 6, 7, 8, 9, 10, 11, 12, 13, 14, 15, 16, 17, 18, 19, 20, 21, 22, 23] [] [0, 1, 2, 3, 4, 5, 6, 7, 8, 9, 10, 11, 12, 13, 14, 15, 16, 17, 18, 19, 20, 21, 22, 23] rfl (by decide) rfl (by decide) (by decide) rfl (by decide) (wr := []) (w2 := (ce_X13 kA q_this o_this)) (fun H locs hP hD hS => ?_)
    have hP : va_P D vwCl (ce_X13 kA q_this o_this) H := hP
    obtain ⟨hn_7, hf⟩ := os_if hf
    refine lv_fadd hx hb dX13_errorsAround_22 hn_7 ?_
    refine lv_fstore_n (lv' := [(3, .float (FP.fadd (FP.fadd FP.fconst0 u_1) u_5)), (0, .ref (q_this 0)), (1, .int a1), (2, .int a2)]) hx hb dX13_errorsAround_23 rfl hl (by decide) rfl (fun ls hl => ?_)
    exact hB24 a1 a2 (FP.fadd (FP.fadd FP.fconst0 u_1) u_5) _ _ _ hP hD hS (lv_sub hl [1, 2, 3, 0] rfl) hf
def ff_X13_polishes_b95 (N : Nat) (k32 : (os_T × Int32 × Int32 × Int32 × Int32 × UInt32 × Int32) → Option os_T) (o_this : os_T) (x1 : Int32) (x2 : Int32) (x3 : Int32) (x4 : Int32) (x5 : UInt32) (x6 : Int32) : Option os_T :=
  k32 (o_this, x1, x2, x3, x4, x5, x6 + 1)
def ff_X13_polishes_b87 (N : Nat) (k32 : (os_T × Int32 × Int32 × Int32 × Int32 × UInt32 × Int32) → Option os_T) (o_this : os_T) (x1 : Int32) (x2 : Int32) (x3 : Int32) (x6 : Int32) (x7 : UInt32) : Option os_T :=
  ff_X13_polishes_b95 N k32 o_this x1 x2 x3 x6 x7 x6
def ff_X13_polishes_c32 (N : Nat) (k32 : (os_T × Int32 × Int32 × Int32 × Int32 × UInt32 × Int32) → Option os_T) (o_this : os_T) (x1 : Int32) (x2 : Int32) (x3 : Int32) (x4 : Int32) (x5 : UInt32) (x6 : Int32) : Option os_T :=
  (if os_in (2 : Int32) 7 then ((ff_X13_less N ((os_A o_this 1) (Int32.toNatClampNeg (2 : Int32))) (x3 + (1 : Int32))).bind fun u_6 => (if u_6 < x6 then (if os_in (((16 : Int32) * x2) + x1) 192 then some (ss_A o_this 4 (upd (os_A o_this 4) (Int32.toNatClampNeg (((16 : Int32) * x2) + x1)) x4)) else none) else (if os_in (((16 : Int32) * x2) + x1) 192 then ((ff_X13_errorsAround N (ss_A o_this 4 (upd (os_A o_this 4) (Int32.toNatClampNeg (((16 : Int32) * x2) + x1)) x6)) x1 x2).bind fun u_11 => (if x4 = (-1 : Int32) then ff_X13_polishes_b87 N k32 (ss_A o_this 4 (upd (os_A o_this 4) (Int32.toNatClampNeg (((16 : Int32) * x2) + x1)) x6)) x1 x2 x3 x6 u_11 else (if (Op.cmpValue (FP.fcmp u_11 x5) CmpOp.l) < 0 then ff_X13_polishes_b87 N k32 (ss_A o_this 4 (upd (os_A o_this 4) (Int32.toNatClampNeg (((16 : Int32) * x2) + x1)) x6)) x1 x2 x3 x6 u_11 else ff_X13_polishes_b95 N k32 (ss_A o_this 4 (upd (os_A o_this 4) (Int32.toNatClampNeg (((16 : Int32) * x2) + x1)) x6)) x1 x2 x3 x4 x5 x6))) else none))) else none)
def ff_X13_polishes_l32 (N : Nat) : Nat → (os_T × Int32 × Int32 × Int32 × Int32 × UInt32 × Int32) → Option os_T := os_loop (fun k32 s1 => ff_X13_polishes_c32 N k32 s1.1 s1.2.1 s1.2.2.1 s1.2.2.2.1 s1.2.2.2.2.1 s1.2.2.2.2.2.1 s1.2.2.2.2.2.2)
def ff_X13_polishes (N : Nat) (o_this : os_T) (a1 : Int32) (a2 : Int32) : Option os_T :=
  (if os_in (((16 : Int32) * a2) + a1) 192 then (if os_in (4 : Int32) 7 then ((ff_X13_more N ((os_A o_this 1) (Int32.toNatClampNeg (4 : Int32))) (((os_A o_this 4) (Int32.toNatClampNeg (((16 : Int32) * a2) + a1))) - (1 : Int32))).bind fun u_3 => ff_X13_polishes_l32 N N (o_this, a1, a2, (os_A o_this 4) (Int32.toNatClampNeg (((16 : Int32) * a2) + a1)), (-1 : Int32), FP.fconst0, u_3)) else none) else none)
set_option maxHeartbeats 4000000 in
set_option maxRecDepth 100000 in
theorem mm_X13_polishes (l : Launch) (D : va_G) (kA : Nat → ClassId) (N : Nat) (q_this : Nat → Nat) (o_this : os_T) (a1 : Int32) (a2 : Int32) (out : os_T) (hf : ff_X13_polishes N o_this a1 a2 = some out) : mc_C l D kA yX13_polishes wsX13_polishes ({ frames := 7, cells := 0, slots := 0, locals := 161 } : Room) [.ref (q_this 0), .int a1, .int a2] (ce_X13 kA q_this o_this) none (ce_X13 kA q_this out) := by
  refine mc_of (cc := cX13_polishes) (maxL := 8) (ret := none) (by decide) rfl (Nat.le_of_ble_eq_true rfl) ?_
  intro p e s m below meth c A B hD hP hS ls hl
  obtain ⟨hx, hb, hr, hlk, hml, hown, hts, hK, hA, hnm⟩ := B
  have hown : s.vm.findClass RX13 = some m.cls := hown
  have hl : lv_has ls 8 [(0, .ref (q_this 0)), (1, .int a1), (2, .int a2)] := hl
  have hUX13 : ∀ w ∈ u_ws RX13 TX13 48, w.before [.ref (q_this 0), .int a1, .int a2].toArray s = true := fun w h => hts w (List.mem_cons_of_mem _ (List.mem_append_right _ h))
  have hB95 : ∀ (k32 : (os_T × Int32 × Int32 × Int32 × Int32 × UInt32 × Int32) → Option os_T), (∀ (o_this : os_T) (x1 : Int32) (x2 : Int32) (x3 : Int32) (x4 : Int32) (x5 : UInt32) (x6 : Int32) (H : Heap) (locs : List Loc) (ls : Array Slot), va_P D vwCl (ce_X13 kA q_this o_this) H → va_D A (ce_X13 kA q_this o_this) → va_S A s.heap H locs → lv_has ls 8 [(0, .ref (q_this 0)), (1, .int x1), (2, .int x2), (3, .int x3), (4, .int x4), (5, .float x5), (6, .int x6)] → k32 (o_this, x1, x2, x3, x4, x5, x6) = some out → W p l e ({ frames := 7, cells := 0, slots := 0, locals := 161 } : Room) s m [.ref (q_this 0), .int a1, .int a2].toArray below meth c H locs 0 0 (MQ below (mc_Q D kA A none (ce_X13 kA q_this out)) [.ref (q_this 0), .int a1, .int a2].toArray s 0 0 A) (F0 m 32 ls [])) → ∀ (o_this : os_T) (x1 : Int32) (x2 : Int32) (x3 : Int32) (x4 : Int32) (x5 : UInt32) (x6 : Int32) (H : Heap) (locs : List Loc) (ls : Array Slot), va_P D vwCl (ce_X13 kA q_this o_this) H → va_D A (ce_X13 kA q_this o_this) → va_S A s.heap H locs → lv_has ls 8 [(0, .ref (q_this 0)), (1, .int x1), (2, .int x2), (3, .int x3), (4, .int x4), (5, .float x5), (6, .int x6)] → ff_X13_polishes_b95 N k32 o_this x1 x2 x3 x4 x5 x6 = some out → W p l e ({ frames := 7, cells := 0, slots := 0, locals := 161 } : Room) s m [.ref (q_this 0), .int a1, .int a2].toArray below meth c H locs 0 0 (MQ below (mc_Q D kA A none (ce_X13 kA q_this out)) [.ref (q_this 0), .int a1, .int a2].toArray s 0 0 A) (F0 m 95 ls []) := by
    intro k32 hk32 o_this x1 x2 x3 x4 x5 x6 H locs ls hP hD hS hl hf
    unfold ff_X13_polishes_b95 at hf
    refine lv_iinc (v := x6 + 1) (lv' := [(6, .int (x6 + 1)), (0, .ref (q_this 0)), (1, .int x1), (2, .int x2), (3, .int x3), (4, .int x4), (5, .float x5)]) hx hb dX13_polishes_95 hl (k := 6) rfl rfl (by decide) rfl (fun ls hl => ?_)
    refine lv_goto (tgt := 32) hx hb dX13_polishes_98 (by decide) ?_
    exact hk32 o_this x1 x2 x3 x4 x5 (x6 + 1) _ _ _ hP hD hS (lv_sub hl [1, 2, 3, 4, 5, 6, 0] rfl) hf
  have hB87 : ∀ (k32 : (os_T × Int32 × Int32 × Int32 × Int32 × UInt32 × Int32) → Option os_T), (∀ (o_this : os_T) (x1 : Int32) (x2 : Int32) (x3 : Int32) (x4 : Int32) (x5 : UInt32) (x6 : Int32) (H : Heap) (locs : List Loc) (ls : Array Slot), va_P D vwCl (ce_X13 kA q_this o_this) H → va_D A (ce_X13 kA q_this o_this) → va_S A s.heap H locs → lv_has ls 8 [(0, .ref (q_this 0)), (1, .int x1), (2, .int x2), (3, .int x3), (4, .int x4), (5, .float x5), (6, .int x6)] → k32 (o_this, x1, x2, x3, x4, x5, x6) = some out → W p l e ({ frames := 7, cells := 0, slots := 0, locals := 161 } : Room) s m [.ref (q_this 0), .int a1, .int a2].toArray below meth c H locs 0 0 (MQ below (mc_Q D kA A none (ce_X13 kA q_this out)) [.ref (q_this 0), .int a1, .int a2].toArray s 0 0 A) (F0 m 32 ls [])) → ∀ (o_this : os_T) (x1 : Int32) (x2 : Int32) (x3 : Int32) (x6 : Int32) (x7 : UInt32) (H : Heap) (locs : List Loc) (ls : Array Slot), va_P D vwCl (ce_X13 kA q_this o_this) H → va_D A (ce_X13 kA q_this o_this) → va_S A s.heap H locs → lv_has ls 8 [(0, .ref (q_this 0)), (1, .int x1), (2, .int x2), (3, .int x3), (6, .int x6), (7, .float x7)] → ff_X13_polishes_b87 N k32 o_this x1 x2 x3 x6 x7 = some out → W p l e ({ frames := 7, cells := 0, slots := 0, locals := 161 } : Room) s m [.ref (q_this 0), .int a1, .int a2].toArray below meth c H locs 0 0 (MQ below (mc_Q D kA A none (ce_X13 kA q_this out)) [.ref (q_this 0), .int a1, .int a2].toArray s 0 0 A) (F0 m 87 ls []) := by
    intro k32 hk32 o_this x1 x2 x3 x6 x7 H locs ls hP hD hS hl hf
    unfold ff_X13_polishes_b87 at hf
    refine lv_iload hx hb dX13_polishes_87 (lv_at hl 4 rfl) ?_
    refine lv_istore (lv' := [(4, .int x6), (0, .ref (q_this 0)), (1, .int x1), (2, .int x2), (3, .int x3), (6, .int x6), (7, .float x7)]) hx hb dX13_polishes_89 hl (by decide) rfl (fun ls hl => ?_)
    refine lv_fload hx hb dX13_polishes_91 (lv_at hl 6 rfl) ?_
    refine lv_fstore (lv' := [(5, .float x7), (4, .int x6), (0, .ref (q_this 0)), (1, .int x1), (2, .int x2), (3, .int x3), (6, .int x6), (7, .float x7)]) hx hb dX13_polishes_93 hl (by decide) rfl (fun ls hl => ?_)
    exact hB95 k32 hk32 o_this x1 x2 x3 x6 x7 x6 _ _ _ hP hD hS (lv_sub hl [2, 3, 4, 5, 1, 0, 6] rfl) hf
  have hL32 : ∀ (n : Nat) (o_this : os_T) (x1 : Int32) (x2 : Int32) (x3 : Int32) (x4 : Int32) (x5 : UInt32) (x6 : Int32) (H : Heap) (locs : List Loc) (ls : Array Slot), va_P D vwCl (ce_X13 kA q_this o_this) H → va_D A (ce_X13 kA q_this o_this) → va_S A s.heap H locs → lv_has ls 8 [(0, .ref (q_this 0)), (1, .int x1), (2, .int x2), (3, .int x3), (4, .int x4), (5, .float x5), (6, .int x6)] → ff_X13_polishes_l32 N n (o_this, x1, x2, x3, x4, x5, x6) = some out → W p l e ({ frames := 7, cells := 0, slots := 0, locals := 161 } : Room) s m [.ref (q_this 0), .int a1, .int a2].toArray below meth c H locs 0 0 (MQ below (mc_Q D kA A none (ce_X13 kA q_this out)) [.ref (q_this 0), .int a1, .int a2].toArray s 0 0 A) (F0 m 32 ls []) := by
    intro n
    induction n with
    | zero => intro o_this x1 x2 x3 x4 x5 x6 H locs ls _ _ _ _ hf; cases hf
    | succ n hk32 =>
      intro o_this x1 x2 x3 x4 x5 x6 H locs ls hP hD hS hl hf
      have hf : ff_X13_polishes_c32 N (ff_X13_polishes_l32 N n) o_this x1 x2 x3 x4 x5 x6 = some out := hf
      generalize hke : ff_X13_polishes_l32 N n = k32 at hk32 hf
      unfold ff_X13_polishes_c32 at hf
      refine lv_iload hx hb dX13_polishes_32 (lv_at hl 6 rfl) ?_
      refine lv_aload_n hx hb dX13_polishes_34 rfl (lv_at hl 0 rfl) ?_
      refine va_get (D := D) (ci := 9) (v := .ref (q_this 2)) (C := RX13) (T := TX13) (N := 48) hx hb hUX13 (fun _ h9 => h9) hown hK hP 0 rfl rfl 13 (by decide) (hts (Cond.fieldLink RX13 20 "ReliefBuilderModel" "now" "[I") (List.mem_of_getElem? (i := 2) rfl)) (fun _ h9 => h9) rfl dX13_polishes_35 ?_
      refine lv_iconst (v := 2) hx hb dX13_polishes_38 (by decide) ?_
      obtain ⟨hi_5, hf⟩ := os_if hf
      refine va_iald hx hb hK hP 2 0 rfl rfl hi_5 dX13_polishes_39 ?_
      refine lv_iload_n hx hb dX13_polishes_40 rfl (lv_at hl 3 rfl) ?_
      refine lv_iconst (v := 1) hx hb dX13_polishes_41 (by decide) ?_
      refine lv_iadd hx hb dX13_polishes_42 ?_
      obtain ⟨u_6, he_7, hf⟩ := os_bd hf
      refine mc_callS ⟨hx, hb, hml, hown, hts⟩ (mm_X13_less l D kA N ((os_A o_this 1) (Int32.toNatClampNeg (2 : Int32))) (x3 + (1 : Int32)) u_6 he_7) (va_cwS 2 hts gX13_polishes_X13_less rfl rfl rfl (by decide +kernel) ⟨Nat.le_of_ble_eq_true rfl, Nat.le_of_ble_eq_true rfl⟩) (wc := []) rfl hl.1 (As := [.int ((os_A o_this 1) (Int32.toNatClampNeg (2 : Int32))), .int (x3 + (1 : Int32))]) (rest := [.int x6]) rfl (Nat.le_of_ble_eq_true rfl) dX13_polishes_43 ⟨Nat.le_of_ble_eq_true rfl, Nat.le_of_ble_eq_true rfl⟩ hK hP hD hS hA [] [0, 1, 2, 3, 4, 5, 6, 7, 8, 9, 10, 11, 12, 13, 14, 15, 16, 17, 18, 19, 20, 21, 22, 23] [0, 1, 2, 3, 4, 5, 6, 7, 8, 9, 10, 11, 12, 13, 14, 15, 16, 17, 18, 19, 20, 21, 22, 23] rfl (by decide) rfl (by decide) (by decide) rfl (by decide) (wr := (ce_X13 kA q_this o_this)) (w2 := (ce_X13 kA q_this o_this)) (fun H locs hP hD hS => ?_)
      have hP : va_P D vwCl (ce_X13 kA q_this o_this) H := hP
      refine lv_icmp_gt (tgt := 101) hx hb dX13_polishes_46 (by decide) (fun hc_8 => ?_) (fun hc_8 => ?_)
      · rw [if_pos hc_8] at hf
        refine lv_aload_n hx hb dX13_polishes_101 rfl (lv_at hl 0 rfl) ?_
        refine va_get (D := D) (ci := 9) (v := .ref (q_this 5)) (C := RX13) (T := TX13) (N := 48) hx hb hUX13 (fun _ h9 => h9) hown hK hP 0 rfl rfl 16 (by decide) (hts (Cond.fieldLink RX13 29 "ReliefBuilderModel" "heights" "[I") (List.mem_of_getElem? (i := 1) rfl)) (fun _ h9 => h9) rfl dX13_polishes_102 ?_
        refine lv_bipush (v := 16) hx hb dX13_polishes_105 (by decide) ?_
        refine lv_iload_n hx hb dX13_polishes_107 rfl (lv_at hl 2 rfl) ?_
        refine lv_imul hx hb dX13_polishes_108 ?_
        refine lv_iload_n hx hb dX13_polishes_109 rfl (lv_at hl 1 rfl) ?_
        refine lv_iadd hx hb dX13_polishes_110 ?_
        refine lv_iload hx hb dX13_polishes_111 (lv_at hl 4 rfl) ?_
        obtain ⟨hi_9, hf⟩ := os_if hf
        refine va_iast hx hb hK hP hD hS 5 0 rfl rfl hi_9 dX13_polishes_113 (fun H locs hP hD hS => ?_)
        have hP : va_P D vwCl (ce_X13 kA q_this (ss_A o_this 4 (upd (os_A o_this 4) (Int32.toNatClampNeg (((16 : Int32) * x2) + x1)) x4))) H := hP
        have hD : va_D A (ce_X13 kA q_this (ss_A o_this 4 (upd (os_A o_this 4) (Int32.toNatClampNeg (((16 : Int32) * x2) + x1)) x4))) := hD
        rw [← Option.some.inj hf]
        exact mc_retv hx hb hr hlk hP hK hD hS dX13_polishes_114
      · rw [if_neg hc_8] at hf
        refine lv_aload_n hx hb dX13_polishes_49 rfl (lv_at hl 0 rfl) ?_
        refine va_get (D := D) (ci := 9) (v := .ref (q_this 5)) (C := RX13) (T := TX13) (N := 48) hx hb hUX13 (fun _ h9 => h9) hown hK hP 0 rfl rfl 16 (by decide) (hts (Cond.fieldLink RX13 29 "ReliefBuilderModel" "heights" "[I") (List.mem_of_getElem? (i := 1) rfl)) (fun _ h9 => h9) rfl dX13_polishes_50 ?_
        refine lv_bipush (v := 16) hx hb dX13_polishes_53 (by decide) ?_
        refine lv_iload_n hx hb dX13_polishes_55 rfl (lv_at hl 2 rfl) ?_
        refine lv_imul hx hb dX13_polishes_56 ?_
        refine lv_iload_n hx hb dX13_polishes_57 rfl (lv_at hl 1 rfl) ?_
        refine lv_iadd hx hb dX13_polishes_58 ?_
        refine lv_iload hx hb dX13_polishes_59 (lv_at hl 6 rfl) ?_
        obtain ⟨hi_10, hf⟩ := os_if hf
        refine va_iast hx hb hK hP hD hS 5 0 rfl rfl hi_10 dX13_polishes_61 (fun H locs hP hD hS => ?_)
        have hP : va_P D vwCl (ce_X13 kA q_this (ss_A o_this 4 (upd (os_A o_this 4) (Int32.toNatClampNeg (((16 : Int32) * x2) + x1)) x6))) H := hP
        have hD : va_D A (ce_X13 kA q_this (ss_A o_this 4 (upd (os_A o_this 4) (Int32.toNatClampNeg (((16 : Int32) * x2) + x1)) x6))) := hD
        refine lv_aload_n hx hb dX13_polishes_62 rfl (lv_at hl 0 rfl) ?_
        refine lv_iload_n hx hb dX13_polishes_63 rfl (lv_at hl 1 rfl) ?_
        refine lv_iload_n hx hb dX13_polishes_64 rfl (lv_at hl 2 rfl) ?_
        obtain ⟨u_11, he_12, hf⟩ := os_bd hf
        refine mc_callV ⟨hx, hb, hml, hown, hts⟩ (mm_X13_errorsAround l D kA N q_this (ss_A o_this 4 (upd (os_A o_this 4) (Int32.toNatClampNeg (((16 : Int32) * x2) + x1)) x6)) x1 x2 u_11 he_12) (cwV 2 hts gX13_polishes_X13_errorsAround rfl rfl rfl (by decide +kernel) ⟨Nat.le_of_ble_eq_true rfl, Nat.le_of_ble_eq_true rfl⟩) (wc := (ce_X13 kA q_this (ss_A o_this 4 (upd (os_A o_this 4) (Int32.toNatClampNeg (((16 : Int32) * x2) + x1)) x6)))) (ci := 9) (q0 := 0) rfl rfl rfl hl.1 (As := [.int x1, .int x2]) (rest := []) rfl (Nat.le_of_ble_eq_true rfl) dX13_polishes_65 ⟨Nat.le_of_ble_eq_true rfl, Nat.le_of_ble_eq_true rfl⟩ hK hP hD hS hA [0, 1, 2, 3, 4, 5, 6, 7, 8, 9, 10, 11, 12, 13, 14, 15, 16, 17, 18, 19, 20, 21, 22, 23] [] [0, 1, 2, 3, 4, 5, 6, 7, 8, 9, 10, 11, 12, 13, 14, 15, 16, 17, 18, 19, 20, 21, 22, 23] rfl (by decide) rfl (by decide) (by decide) rfl (by decide) (wr := []) (w2 := (ce_X13 kA q_this (ss_A o_this 4 (upd (os_A o_this 4) (Int32.toNatClampNeg (((16 : Int32) * x2) + x1)) x6)))) (fun H locs hP hD hS => ?_)
        have hP : va_P D vwCl (ce_X13 kA q_this (ss_A o_this 4 (upd (os_A o_this 4) (Int32.toNatClampNeg (((16 : Int32) * x2) + x1)) x6))) H := hP
        refine lv_fstore (lv' := [(7, .float u_11), (0, .ref (q_this 0)), (1, .int x1), (2, .int x2), (3, .int x3), (4, .int x4), (5, .float x5), (6, .int x6)]) hx hb dX13_polishes_68 hl (by decide) rfl (fun ls hl => ?_)
        refine lv_iload hx hb dX13_polishes_70 (lv_at hl 5 rfl) ?_
        refine lv_iconst (v := (-1)) hx hb dX13_polishes_72 (by decide) ?_
        refine lv_icmp_eq (tgt := 87) hx hb dX13_polishes_73 (by decide) (fun hc_13 => ?_) (fun hc_13 => ?_)
        · rw [if_pos hc_13] at hf
          exact hB87 k32 hk32 (ss_A o_this 4 (upd (os_A o_this 4) (Int32.toNatClampNeg (((16 : Int32) * x2) + x1)) x6)) x1 x2 x3 x6 u_11 _ _ _ hP hD hS (lv_sub hl [1, 2, 3, 4, 7, 0] rfl) hf
        · rw [if_neg hc_13] at hf
          refine lv_fload hx hb dX13_polishes_76 (lv_at hl 0 rfl) ?_
          refine lv_fload hx hb dX13_polishes_78 (lv_at hl 6 rfl) ?_
          refine lv_fcmp hx hb dX13_polishes_80 ?_
          refine lv_if_lt (tgt := 87) hx hb dX13_polishes_81 (by decide) (fun hc_14 => ?_) (fun hc_14 => ?_)
          · rw [if_pos hc_14] at hf
            exact hB87 k32 hk32 (ss_A o_this 4 (upd (os_A o_this 4) (Int32.toNatClampNeg (((16 : Int32) * x2) + x1)) x6)) x1 x2 x3 x6 u_11 _ _ _ hP hD hS (lv_sub hl [1, 2, 3, 4, 7, 0] rfl) hf
          · rw [if_neg hc_14] at hf
            refine lv_goto (tgt := 95) hx hb dX13_polishes_84 (by decide) ?_
            exact hB95 k32 hk32 (ss_A o_this 4 (upd (os_A o_this 4) (Int32.toNatClampNeg (((16 : Int32) * x2) + x1)) x6)) x1 x2 x3 x4 x5 x6 _ _ _ hP hD hS (lv_sub hl [1, 2, 3, 4, 5, 6, 7] rfl) hf
  unfold ff_X13_polishes at hf
  refine lv_aload_n hx hb dX13_polishes_0 rfl (lv_at hl 0 rfl) ?_
  refine va_get (D := D) (ci := 9) (v := .ref (q_this 5)) (C := RX13) (T := TX13) (N := 48) hx hb hUX13 (fun _ h9 => h9) hown hK hP 0 rfl rfl 16 (by decide) (hts (Cond.fieldLink RX13 29 "ReliefBuilderModel" "heights" "[I") (List.mem_of_getElem? (i := 1) rfl)) (fun _ h9 => h9) rfl dX13_polishes_1 ?_
  refine lv_bipush (v := 16) hx hb dX13_polishes_4 (by decide) ?_
  refine lv_iload_n hx hb dX13_polishes_6 rfl (lv_at hl 2 rfl) ?_
  refine lv_imul hx hb dX13_polishes_7 ?_
  refine lv_iload_n hx hb dX13_polishes_8 rfl (lv_at hl 1 rfl) ?_
  refine lv_iadd hx hb dX13_polishes_9 ?_
  obtain ⟨hi_1, hf⟩ := os_if hf
  refine va_iald hx hb hK hP 5 0 rfl rfl hi_1 dX13_polishes_10 ?_
  refine lv_istore_n (lv' := [(3, .int ((os_A o_this 4) (Int32.toNatClampNeg (((16 : Int32) * a2) + a1)))), (0, .ref (q_this 0)), (1, .int a1), (2, .int a2)]) hx hb dX13_polishes_11 rfl hl (by decide) rfl (fun ls hl => ?_)
  refine lv_iconst (v := (-1)) hx hb dX13_polishes_12 (by decide) ?_
  refine lv_istore (lv' := [(4, .int (-1 : Int32)), (3, .int ((os_A o_this 4) (Int32.toNatClampNeg (((16 : Int32) * a2) + a1)))), (0, .ref (q_this 0)), (1, .int a1), (2, .int a2)]) hx hb dX13_polishes_13 hl (by decide) rfl (fun ls hl => ?_)
  refine lv_fconst0 hx hb dX13_polishes_15 ?_
  refine lv_fstore (lv' := [(5, .float FP.fconst0), (4, .int (-1 : Int32)), (3, .int ((os_A o_this 4) (Int32.toNatClampNeg (((16 : Int32) * a2) + a1)))), (0, .ref (q_this 0)), (1, .int a1), (2, .int a2)]) hx hb dX13_polishes_16 hl (by decide) rfl (fun ls hl => ?_)
  refine lv_aload_n hx hb dX13_polishes_18 rfl (lv_at hl 3 rfl) ?_
  refine va_get (D := D) (ci := 9) (v := .ref (q_this 2)) (C := RX13) (T := TX13) (N := 48) hx hb hUX13 (fun _ h9 => h9) hown hK hP 0 rfl rfl 13 (by decide) (hts (Cond.fieldLink RX13 20 "ReliefBuilderModel" "now" "[I") (List.mem_of_getElem? (i := 2) rfl)) (fun _ h9 => h9) rfl dX13_polishes_19 ?_
  refine lv_iconst (v := 4) hx hb dX13_polishes_22 (by decide) ?_
  obtain ⟨hi_2, hf⟩ := os_if hf
  refine va_iald hx hb hK hP 2 0 rfl rfl hi_2 dX13_polishes_23 ?_
  refine lv_iload_n hx hb dX13_polishes_24 rfl (lv_at hl 2 rfl) ?_
  refine lv_iconst (v := 1) hx hb dX13_polishes_25 (by decide) ?_
  refine lv_isub hx hb dX13_polishes_26 ?_
  obtain ⟨u_3, he_4, hf⟩ := os_bd hf
  refine mc_callS ⟨hx, hb, hml, hown, hts⟩ (mm_X13_more l D kA N ((os_A o_this 1) (Int32.toNatClampNeg (4 : Int32))) (((os_A o_this 4) (Int32.toNatClampNeg (((16 : Int32) * a2) + a1))) - (1 : Int32)) u_3 he_4) (va_cwS 2 hts gX13_polishes_X13_more rfl rfl rfl (by decide +kernel) ⟨Nat.le_of_ble_eq_true rfl, Nat.le_of_ble_eq_true rfl⟩) (wc := []) rfl hl.1 (As := [.int ((os_A o_this 1) (Int32.toNatClampNeg (4 : Int32))), .int (((os_A o_this 4) (Int32.toNatClampNeg (((16 : Int32) * a2) + a1))) - (1 : Int32))]) (rest := []) rfl (Nat.le_of_ble_eq_true rfl) dX13_polishes_27 ⟨Nat.le_of_ble_eq_true rfl, Nat.le_of_ble_eq_true rfl⟩ hK hP hD hS hA [] [0, 1, 2, 3, 4, 5, 6, 7, 8, 9, 10, 11, 12, 13, 14, 15, 16, 17, 18, 19, 20, 21, 22, 23] [0, 1, 2, 3, 4, 5, 6, 7, 8, 9, 10, 11, 12, 13, 14, 15, 16, 17, 18, 19, 20, 21, 22, 23] rfl (by decide) rfl (by decide) (by decide) rfl (by decide) (wr := (ce_X13 kA q_this o_this)) (w2 := (ce_X13 kA q_this o_this)) (fun H locs hP hD hS => ?_)
  have hP : va_P D vwCl (ce_X13 kA q_this o_this) H := hP
  refine lv_istore (lv' := [(6, .int u_3), (5, .float FP.fconst0), (4, .int (-1 : Int32)), (3, .int ((os_A o_this 4) (Int32.toNatClampNeg (((16 : Int32) * a2) + a1)))), (0, .ref (q_this 0)), (1, .int a1), (2, .int a2)]) hx hb dX13_polishes_30 hl (by decide) rfl (fun ls hl => ?_)
  exact hL32 N o_this a1 a2 ((os_A o_this 4) (Int32.toNatClampNeg (((16 : Int32) * a2) + a1))) (-1 : Int32) FP.fconst0 u_3 _ _ _ hP hD hS (lv_sub hl [4, 5, 6, 3, 2, 1, 0] rfl) hf
def ff_X13_polishesAll_c2 (N : Nat) (k2 : (os_T × Int32) → Option os_T) (o_this : os_T) (x1 : Int32) : Option os_T :=
  ((ff_X13_cellMany N o_this).bind fun u_1 => (if u_1 ≤ x1 then some o_this else (if os_in (0 : Int32) 7 then (if ¬ ((os_A o_this 1) (Int32.toNatClampNeg (0 : Int32))) = 0 then (if os_in (0 : Int32) 7 then (if ¬ ((os_A o_this 1) (Int32.toNatClampNeg (0 : Int32))) = 0 then ((ff_X13_polishes N o_this (x1 - x1 / ((os_A o_this 1) (Int32.toNatClampNeg (0 : Int32))) * ((os_A o_this 1) (Int32.toNatClampNeg (0 : Int32)))) (x1 / ((os_A o_this 1) (Int32.toNatClampNeg (0 : Int32))))).bind fun u_8 => k2 (u_8, x1 + 1)) else none) else none) else none) else none)))
def ff_X13_polishesAll_l2 (N : Nat) : Nat → (os_T × Int32) → Option os_T := os_loop (fun k2 s1 => ff_X13_polishesAll_c2 N k2 s1.1 s1.2)
def ff_X13_polishesAll (N : Nat) (o_this : os_T) : Option os_T :=
  ff_X13_polishesAll_l2 N N (o_this, (0 : Int32))
set_option maxHeartbeats 4000000 in
set_option maxRecDepth 100000 in
theorem mm_X13_polishesAll (l : Launch) (D : va_G) (kA : Nat → ClassId) (N : Nat) (q_this : Nat → Nat) (o_this : os_T) (out : os_T) (hf : ff_X13_polishesAll N o_this = some out) : mc_C l D kA yX13_polishesAll wsX13_polishesAll ({ frames := 8, cells := 0, slots := 0, locals := 188 } : Room) [.ref (q_this 0)] (ce_X13 kA q_this o_this) none (ce_X13 kA q_this out) := by
  refine mc_of (cc := cX13_polishesAll) (maxL := 2) (ret := none) (by decide) rfl (Nat.le_of_ble_eq_true rfl) ?_
  intro p e s m below meth c A B hD hP hS ls hl
  obtain ⟨hx, hb, hr, hlk, hml, hown, hts, hK, hA, hnm⟩ := B
  have hown : s.vm.findClass RX13 = some m.cls := hown
  have hl : lv_has ls 2 [(0, .ref (q_this 0))] := hl
  have hUX13 : ∀ w ∈ u_ws RX13 TX13 48, w.before [.ref (q_this 0)].toArray s = true := fun w h => hts w (List.mem_cons_of_mem _ (List.mem_append_right _ h))
  have hL2 : ∀ (n : Nat) (o_this : os_T) (x1 : Int32) (H : Heap) (locs : List Loc) (ls : Array Slot), va_P D vwCl (ce_X13 kA q_this o_this) H → va_D A (ce_X13 kA q_this o_this) → va_S A s.heap H locs → lv_has ls 2 [(0, .ref (q_this 0)), (1, .int x1)] → ff_X13_polishesAll_l2 N n (o_this, x1) = some out → W p l e ({ frames := 8, cells := 0, slots := 0, locals := 188 } : Room) s m [.ref (q_this 0)].toArray below meth c H locs 0 0 (MQ below (mc_Q D kA A none (ce_X13 kA q_this out)) [.ref (q_this 0)].toArray s 0 0 A) (F0 m 2 ls []) := by
    intro n
    induction n with
    | zero => intro o_this x1 H locs ls _ _ _ _ hf; cases hf
    | succ n hk2 =>
      intro o_this x1 H locs ls hP hD hS hl hf
      have hf : ff_X13_polishesAll_c2 N (ff_X13_polishesAll_l2 N n) o_this x1 = some out := hf
      generalize hke : ff_X13_polishesAll_l2 N n = k2 at hk2 hf
      unfold ff_X13_polishesAll_c2 at hf
      refine lv_iload_n hx hb dX13_polishesAll_2 rfl (lv_at hl 1 rfl) ?_
      refine lv_aload_n hx hb dX13_polishesAll_3 rfl (lv_at hl 0 rfl) ?_
      obtain ⟨u_1, he_2, hf⟩ := os_bd hf
      refine mc_callV ⟨hx, hb, hml, hown, hts⟩ (mm_X13_cellMany l D kA N q_this o_this u_1 he_2) (cwV 0 hts gX13_polishesAll_X13_cellMany rfl rfl rfl (by decide +kernel) ⟨Nat.le_of_ble_eq_true rfl, Nat.le_of_ble_eq_true rfl⟩) (wc := (ce_X13 kA q_this o_this)) (ci := 9) (q0 := 0) rfl rfl rfl hl.1 (As := []) (rest := [.int x1]) rfl (Nat.le_of_ble_eq_true rfl) dX13_polishesAll_4 ⟨Nat.le_of_ble_eq_true rfl, Nat.le_of_ble_eq_true rfl⟩ hK hP hD hS hA [0, 1, 2, 3, 4, 5, 6, 7, 8, 9, 10, 11, 12, 13, 14, 15, 16, 17, 18, 19, 20, 21, 22, 23] [] [0, 1, 2, 3, 4, 5, 6, 7, 8, 9, 10, 11, 12, 13, 14, 15, 16, 17, 18, 19, 20, 21, 22, 23] rfl (by decide) rfl (by decide) (by decide) rfl (by decide) (wr := []) (w2 := (ce_X13 kA q_this o_this)) (fun H locs hP hD hS => ?_)
      have hP : va_P D vwCl (ce_X13 kA q_this o_this) H := hP
      refine lv_icmp_ge (tgt := 36) hx hb dX13_polishesAll_7 (by decide) (fun hc_3 => ?_) (fun hc_3 => ?_)
      · rw [if_pos hc_3] at hf
        rw [← Option.some.inj hf]
        exact mc_retv hx hb hr hlk hP hK hD hS dX13_polishesAll_36
      · rw [if_neg hc_3] at hf
        refine lv_aload_n hx hb dX13_polishesAll_10 rfl (lv_at hl 0 rfl) ?_
        refine lv_iload_n hx hb dX13_polishesAll_11 rfl (lv_at hl 1 rfl) ?_
        refine lv_aload_n hx hb dX13_polishesAll_12 rfl (lv_at hl 0 rfl) ?_
        refine va_get (D := D) (ci := 9) (v := .ref (q_this 2)) (C := RX13) (T := TX13) (N := 48) hx hb hUX13 (fun _ h9 => h9) hown hK hP 0 rfl rfl 13 (by decide) (hts (Cond.fieldLink RX13 20 "ReliefBuilderModel" "now" "[I") (List.mem_of_getElem? (i := 1) rfl)) (fun _ h9 => h9) rfl dX13_polishesAll_13 ?_
        refine lv_iconst (v := 0) hx hb dX13_polishesAll_16 (by decide) ?_
        obtain ⟨hi_4, hf⟩ := os_if hf
        refine va_iald hx hb hK hP 2 0 rfl rfl hi_4 dX13_polishesAll_17 ?_
        obtain ⟨hz_5, hf⟩ := os_if hf
        refine lv_irem hx hb dX13_polishesAll_18 hz_5 ?_
        refine lv_iload_n hx hb dX13_polishesAll_19 rfl (lv_at hl 1 rfl) ?_
        refine lv_aload_n hx hb dX13_polishesAll_20 rfl (lv_at hl 0 rfl) ?_
        refine va_get (D := D) (ci := 9) (v := .ref (q_this 2)) (C := RX13) (T := TX13) (N := 48) hx hb hUX13 (fun _ h9 => h9) hown hK hP 0 rfl rfl 13 (by decide) (hts (Cond.fieldLink RX13 20 "ReliefBuilderModel" "now" "[I") (List.mem_of_getElem? (i := 1) rfl)) (fun _ h9 => h9) rfl dX13_polishesAll_21 ?_
        refine lv_iconst (v := 0) hx hb dX13_polishesAll_24 (by decide) ?_
        obtain ⟨hi_6, hf⟩ := os_if hf
        refine va_iald hx hb hK hP 2 0 rfl rfl hi_6 dX13_polishesAll_25 ?_
        obtain ⟨hz_7, hf⟩ := os_if hf
        refine lv_idiv hx hb dX13_polishesAll_26 hz_7 ?_
        obtain ⟨u_8, he_9, hf⟩ := os_bd hf
        refine mc_callV ⟨hx, hb, hml, hown, hts⟩ (mm_X13_polishes l D kA N q_this o_this (x1 - x1 / ((os_A o_this 1) (Int32.toNatClampNeg (0 : Int32))) * ((os_A o_this 1) (Int32.toNatClampNeg (0 : Int32)))) (x1 / ((os_A o_this 1) (Int32.toNatClampNeg (0 : Int32)))) u_8 he_9) (cwV 2 hts gX13_polishesAll_X13_polishes rfl rfl rfl (by decide +kernel) ⟨Nat.le_of_ble_eq_true rfl, Nat.le_of_ble_eq_true rfl⟩) (wc := (ce_X13 kA q_this o_this)) (ci := 9) (q0 := 0) rfl rfl rfl hl.1 (As := [.int (x1 - x1 / ((os_A o_this 1) (Int32.toNatClampNeg (0 : Int32))) * ((os_A o_this 1) (Int32.toNatClampNeg (0 : Int32)))), .int (x1 / ((os_A o_this 1) (Int32.toNatClampNeg (0 : Int32))))]) (rest := []) rfl (Nat.le_of_ble_eq_true rfl) dX13_polishesAll_27 ⟨Nat.le_of_ble_eq_true rfl, Nat.le_of_ble_eq_true rfl⟩ hK hP hD hS hA [0, 1, 2, 3, 4, 5, 6, 7, 8, 9, 10, 11, 12, 13, 14, 15, 16, 17, 18, 19, 20, 21, 22, 23] [] [0, 1, 2, 3, 4, 5, 6, 7, 8, 9, 10, 11, 12, 13, 14, 15, 16, 17, 18, 19, 20, 21, 22, 23] rfl (by decide) rfl (by decide) (by decide) rfl (by decide) (wr := []) (w2 := (ce_X13 kA q_this u_8)) (fun H locs hP hD hS => ?_)
        have hP : va_P D vwCl (ce_X13 kA q_this u_8) H := hP
        refine lv_iinc (v := x1 + 1) (lv' := [(1, .int (x1 + 1)), (0, .ref (q_this 0))]) hx hb dX13_polishesAll_30 hl (k := 1) rfl rfl (by decide) rfl (fun ls hl => ?_)
        refine lv_goto (tgt := 2) hx hb dX13_polishesAll_33 (by decide) ?_
        exact hk2 u_8 (x1 + 1) _ _ _ hP hD hS (lv_sub hl [1, 0] rfl) hf
  unfold ff_X13_polishesAll at hf
  refine lv_iconst (v := 0) hx hb dX13_polishesAll_0 (by decide) ?_
  refine lv_istore_n (lv' := [(1, .int (0 : Int32)), (0, .ref (q_this 0))]) hx hb dX13_polishesAll_1 rfl hl (by decide) rfl (fun ls hl => ?_)
  exact hL2 N o_this (0 : Int32) _ _ _ hP hD hS (lv_sub hl [1, 0] rfl) hf
def ff_X13_polish (N : Nat) (o_this : os_T) : Option (Int32 × os_T) :=
  ((ff_X13_laysAside N (ss_I o_this 0 (0 : Int32))).bind fun u_1 => ((ff_X13_polishesAll N u_1).bind fun u_3 => ((ff_X13_keeps N u_3).bind fun u_5 => some (u_5.1, u_5.2))))
set_option maxHeartbeats 4000000 in
set_option maxRecDepth 100000 in
theorem mm_X13_polish (l : Launch) (D : va_G) (kA : Nat → ClassId) (N : Nat) (q_this : Nat → Nat) (o_this : os_T) (out : (Int32 × os_T)) (hf : ff_X13_polish N o_this = some out) : mc_C l D kA yX13_polish wsX13_polish ({ frames := 9, cells := 0, slots := 0, locals := 209 } : Room) [.ref (q_this 0)] (ce_X13 kA q_this o_this) (some (.int out.1)) (ce_X13 kA q_this out.2) := by
  refine mc_of (cc := cX13_polish) (maxL := 1) (ret := (some .int)) (by decide) rfl (Nat.le_of_ble_eq_true rfl) ?_
  intro p e s m below meth c A B hD hP hS ls hl
  obtain ⟨hx, hb, hr, hlk, hml, hown, hts, hK, hA, hnm⟩ := B
  have hown : s.vm.findClass RX13 = some m.cls := hown
  have hl : lv_has ls 1 [(0, .ref (q_this 0))] := hl
  have hUX13 : ∀ w ∈ u_ws RX13 TX13 48, w.before [.ref (q_this 0)].toArray s = true := fun w h => hts w (List.mem_cons_of_mem _ (List.mem_append_right _ h))
  unfold ff_X13_polish at hf
  refine lv_aload_n hx hb dX13_polish_0 rfl (lv_at hl 0 rfl) ?_
  refine lv_iconst (v := 0) hx hb dX13_polish_1 (by decide) ?_
  refine va_put (D := D) (ci := 9) (v := .int (0 : Int32)) (ty := .int) (C := RX13) (T := TX13) (N := 48) hx hb hUX13 (fun _ h9 => h9) tyX13 tyX13_ok nmX13 hown hK hP hD hS 0 rfl rfl 0 (by decide) (hts (Cond.fieldLink RX13 93 "ReliefBuilderModel" "code" "I") (List.mem_of_getElem? (i := 1) rfl)) (fun _ h9 => h9) rfl (tyX13_ok 0 (by decide)) rfl rfl (Nat.le_of_ble_eq_true rfl) dX13_polish_2 (fun H locs hP hD hS => ?_)
  have hP : va_P D vwCl (ce_X13 kA q_this (ss_I o_this 0 (0 : Int32))) H := hP
  have hD : va_D A (ce_X13 kA q_this (ss_I o_this 0 (0 : Int32))) := hD
  refine lv_aload_n hx hb dX13_polish_5 rfl (lv_at hl 0 rfl) ?_
  obtain ⟨u_1, he_2, hf⟩ := os_bd hf
  refine mc_callV ⟨hx, hb, hml, hown, hts⟩ (mm_X13_laysAside l D kA N q_this (ss_I o_this 0 (0 : Int32)) u_1 he_2) (cwV 0 hts gX13_polish_X13_laysAside rfl rfl rfl (by decide +kernel) ⟨Nat.le_of_ble_eq_true rfl, Nat.le_of_ble_eq_true rfl⟩) (wc := (ce_X13 kA q_this (ss_I o_this 0 (0 : Int32)))) (ci := 9) (q0 := 0) rfl rfl rfl hl.1 (As := []) (rest := []) rfl (Nat.le_of_ble_eq_true rfl) dX13_polish_6 ⟨Nat.le_of_ble_eq_true rfl, Nat.le_of_ble_eq_true rfl⟩ hK hP hD hS hA [0, 1, 2, 3, 4, 5, 6, 7, 8, 9, 10, 11, 12, 13, 14, 15, 16, 17, 18, 19, 20, 21, 22, 23] [] [0, 1, 2, 3, 4, 5, 6, 7, 8, 9, 10, 11, 12, 13, 14, 15, 16, 17, 18, 19, 20, 21, 22, 23] rfl (by decide) rfl (by decide) (by decide) rfl (by decide) (wr := []) (w2 := (ce_X13 kA q_this u_1)) (fun H locs hP hD hS => ?_)
  have hP : va_P D vwCl (ce_X13 kA q_this u_1) H := hP
  refine lv_aload_n hx hb dX13_polish_9 rfl (lv_at hl 0 rfl) ?_
  obtain ⟨u_3, he_4, hf⟩ := os_bd hf
  refine mc_callV ⟨hx, hb, hml, hown, hts⟩ (mm_X13_polishesAll l D kA N q_this u_1 u_3 he_4) (cwV 0 hts gX13_polish_X13_polishesAll rfl rfl rfl (by decide +kernel) ⟨Nat.le_of_ble_eq_true rfl, Nat.le_of_ble_eq_true rfl⟩) (wc := (ce_X13 kA q_this u_1)) (ci := 9) (q0 := 0) rfl rfl rfl hl.1 (As := []) (rest := []) rfl (Nat.le_of_ble_eq_true rfl) dX13_polish_10 ⟨Nat.le_of_ble_eq_true rfl, Nat.le_of_ble_eq_true rfl⟩ hK hP hD hS hA [0, 1, 2, 3, 4, 5, 6, 7, 8, 9, 10, 11, 12, 13, 14, 15, 16, 17, 18, 19, 20, 21, 22, 23] [] [0, 1, 2, 3, 4, 5, 6, 7, 8, 9, 10, 11, 12, 13, 14, 15, 16, 17, 18, 19, 20, 21, 22, 23] rfl (by decide) rfl (by decide) (by decide) rfl (by decide) (wr := []) (w2 := (ce_X13 kA q_this u_3)) (fun H locs hP hD hS => ?_)
  have hP : va_P D vwCl (ce_X13 kA q_this u_3) H := hP
  refine lv_aload_n hx hb dX13_polish_13 rfl (lv_at hl 0 rfl) ?_
  obtain ⟨u_5, he_6, hf⟩ := os_bd hf
  refine mc_callV ⟨hx, hb, hml, hown, hts⟩ (mm_X13_keeps l D kA N q_this u_3 u_5 he_6) (cwV 0 hts gX13_polish_X13_keeps rfl rfl rfl (by decide +kernel) ⟨Nat.le_of_ble_eq_true rfl, Nat.le_of_ble_eq_true rfl⟩) (wc := (ce_X13 kA q_this u_3)) (ci := 9) (q0 := 0) rfl rfl rfl hl.1 (As := []) (rest := []) rfl (Nat.le_of_ble_eq_true rfl) dX13_polish_14 ⟨Nat.le_of_ble_eq_true rfl, Nat.le_of_ble_eq_true rfl⟩ hK hP hD hS hA [0, 1, 2, 3, 4, 5, 6, 7, 8, 9, 10, 11, 12, 13, 14, 15, 16, 17, 18, 19, 20, 21, 22, 23] [] [0, 1, 2, 3, 4, 5, 6, 7, 8, 9, 10, 11, 12, 13, 14, 15, 16, 17, 18, 19, 20, 21, 22, 23] rfl (by decide) rfl (by decide) (by decide) rfl (by decide) (wr := []) (w2 := (ce_X13 kA q_this u_5.2)) (fun H locs hP hD hS => ?_)
  have hP : va_P D vwCl (ce_X13 kA q_this u_5.2) H := hP
  rw [← Option.some.inj hf]
  exact mc_reti hx hb hr hlk hP hK hD hS dX13_polish_17
def ff_X13_retones_b66 (N : Nat) (k2 : (os_T × Int32 × Int32 × Int32) → Option os_T) (o_this : os_T) (x1 : Int32) (x2 : Int32) (x3 : Int32) (t0 : Int32) (t1 : Int32) (t2 : Int32) : Option os_T :=
  ((ff_X13_tones N o_this t2 t1 t0).bind fun u_9 => k2 (u_9, x1, x2, x3 + 1))
def ff_X13_retones_c2 (N : Nat) (k2 : (os_T × Int32 × Int32 × Int32) → Option os_T) (o_this : os_T) (x1 : Int32) (x2 : Int32) (x3 : Int32) : Option os_T :=
  ((ff_X13_cellMany N o_this).bind fun u_1 => (if u_1 ≤ x3 then some o_this else ((ff_X13_cellAt N o_this x3).bind fun u_4 => (if os_in u_4 192 then (if 0 ≤ ((x1 * ((os_A o_this 3) (Int32.toNatClampNeg u_4))) + x2) then (if ((x1 * ((os_A o_this 3) (Int32.toNatClampNeg u_4))) + x2) ≤ (255 : Int32) then ff_X13_retones_b66 N k2 o_this x1 x2 x3 ((x1 * ((os_A o_this 3) (Int32.toNatClampNeg u_4))) + x2) (u_4 / (16 : Int32)) (u_4 - u_4 / (16 : Int32) * (16 : Int32)) else ff_X13_retones_b66 N k2 o_this x1 x2 x3 (255 : Int32) (u_4 / (16 : Int32)) (u_4 - u_4 / (16 : Int32) * (16 : Int32))) else ff_X13_retones_b66 N k2 o_this x1 x2 x3 (0 : Int32) (u_4 / (16 : Int32)) (u_4 - u_4 / (16 : Int32) * (16 : Int32))) else none))))
def ff_X13_retones_l2 (N : Nat) : Nat → (os_T × Int32 × Int32 × Int32) → Option os_T := os_loop (fun k2 s1 => ff_X13_retones_c2 N k2 s1.1 s1.2.1 s1.2.2.1 s1.2.2.2)
def ff_X13_retones (N : Nat) (o_this : os_T) (a1 : Int32) (a2 : Int32) : Option os_T :=
  ff_X13_retones_l2 N N (o_this, a1, a2, (0 : Int32))
set_option maxHeartbeats 4000000 in
set_option maxRecDepth 100000 in
theorem mm_X13_retones (l : Launch) (D : va_G) (kA : Nat → ClassId) (N : Nat) (q_this : Nat → Nat) (o_this : os_T) (a1 : Int32) (a2 : Int32) (out : os_T) (hf : ff_X13_retones N o_this a1 a2 = some out) : mc_C l D kA yX13_retones wsX13_retones ({ frames := 3, cells := 0, slots := 0, locals := 72 } : Room) [.ref (q_this 0), .int a1, .int a2] (ce_X13 kA q_this o_this) none (ce_X13 kA q_this out) := by
  refine mc_of (cc := cX13_retones) (maxL := 6) (ret := none) (by decide) rfl (Nat.le_of_ble_eq_true rfl) ?_
  intro p e s m below meth c A B hD hP hS ls hl
  obtain ⟨hx, hb, hr, hlk, hml, hown, hts, hK, hA, hnm⟩ := B
  have hown : s.vm.findClass RX13 = some m.cls := hown
  have hl : lv_has ls 6 [(0, .ref (q_this 0)), (1, .int a1), (2, .int a2)] := hl
  have hUX13 : ∀ w ∈ u_ws RX13 TX13 48, w.before [.ref (q_this 0), .int a1, .int a2].toArray s = true := fun w h => hts w (List.mem_cons_of_mem _ (List.mem_append_right _ h))
  have hB66 : ∀ (k2 : (os_T × Int32 × Int32 × Int32) → Option os_T), (∀ (o_this : os_T) (x1 : Int32) (x2 : Int32) (x3 : Int32) (H : Heap) (locs : List Loc) (ls : Array Slot), va_P D vwCl (ce_X13 kA q_this o_this) H → va_D A (ce_X13 kA q_this o_this) → va_S A s.heap H locs → lv_has ls 6 [(0, .ref (q_this 0)), (1, .int x1), (2, .int x2), (3, .int x3)] → k2 (o_this, x1, x2, x3) = some out → W p l e ({ frames := 3, cells := 0, slots := 0, locals := 72 } : Room) s m [.ref (q_this 0), .int a1, .int a2].toArray below meth c H locs 0 0 (MQ below (mc_Q D kA A none (ce_X13 kA q_this out)) [.ref (q_this 0), .int a1, .int a2].toArray s 0 0 A) (F0 m 2 ls [])) → ∀ (o_this : os_T) (x1 : Int32) (x2 : Int32) (x3 : Int32) (t0 : Int32) (t1 : Int32) (t2 : Int32) (H : Heap) (locs : List Loc) (ls : Array Slot), va_P D vwCl (ce_X13 kA q_this o_this) H → va_D A (ce_X13 kA q_this o_this) → va_S A s.heap H locs → lv_has ls 6 [(0, .ref (q_this 0)), (1, .int x1), (2, .int x2), (3, .int x3)] → ff_X13_retones_b66 N k2 o_this x1 x2 x3 t0 t1 t2 = some out → W p l e ({ frames := 3, cells := 0, slots := 0, locals := 72 } : Room) s m [.ref (q_this 0), .int a1, .int a2].toArray below meth c H locs 0 0 (MQ below (mc_Q D kA A none (ce_X13 kA q_this out)) [.ref (q_this 0), .int a1, .int a2].toArray s 0 0 A) (F0 m 66 ls [.int t0, .int t1, .int t2, .ref (q_this 0)]) := by
    intro k2 hk2 o_this x1 x2 x3 t0 t1 t2 H locs ls hP hD hS hl hf
    unfold ff_X13_retones_b66 at hf
    obtain ⟨u_9, he_10, hf⟩ := os_bd hf
    refine mc_callV ⟨hx, hb, hml, hown, hts⟩ (mm_X13_tones l D kA N q_this o_this t2 t1 t0 u_9 he_10) (cwV 3 hts gX13_retones_X13_tones rfl rfl rfl (by decide +kernel) ⟨Nat.le_of_ble_eq_true rfl, Nat.le_of_ble_eq_true rfl⟩) (wc := (ce_X13 kA q_this o_this)) (ci := 9) (q0 := 0) rfl rfl rfl hl.1 (As := [.int t2, .int t1, .int t0]) (rest := []) rfl (Nat.le_of_ble_eq_true rfl) dX13_retones_66 ⟨Nat.le_of_ble_eq_true rfl, Nat.le_of_ble_eq_true rfl⟩ hK hP hD hS hA [0, 1, 2, 3, 4, 5, 6, 7, 8, 9, 10, 11, 12, 13, 14, 15, 16, 17, 18, 19, 20, 21, 22, 23] [] [0, 1, 2, 3, 4, 5, 6, 7, 8, 9, 10, 11, 12, 13, 14, 15, 16, 17, 18, 19, 20, 21, 22, 23] rfl (by decide) rfl (by decide) (by decide) rfl (by decide) (wr := []) (w2 := (ce_X13 kA q_this u_9)) (fun H locs hP hD hS => ?_)
    have hP : va_P D vwCl (ce_X13 kA q_this u_9) H := hP
    refine lv_iinc (v := x3 + 1) (lv' := [(3, .int (x3 + 1)), (0, .ref (q_this 0)), (1, .int x1), (2, .int x2)]) hx hb dX13_retones_69 hl (k := 3) rfl rfl (by decide) rfl (fun ls hl => ?_)
    refine lv_goto (tgt := 2) hx hb dX13_retones_72 (by decide) ?_
    exact hk2 u_9 x1 x2 (x3 + 1) _ _ _ hP hD hS (lv_sub hl [1, 2, 3, 0] rfl) hf
  have hL2 : ∀ (n : Nat) (o_this : os_T) (x1 : Int32) (x2 : Int32) (x3 : Int32) (H : Heap) (locs : List Loc) (ls : Array Slot), va_P D vwCl (ce_X13 kA q_this o_this) H → va_D A (ce_X13 kA q_this o_this) → va_S A s.heap H locs → lv_has ls 6 [(0, .ref (q_this 0)), (1, .int x1), (2, .int x2), (3, .int x3)] → ff_X13_retones_l2 N n (o_this, x1, x2, x3) = some out → W p l e ({ frames := 3, cells := 0, slots := 0, locals := 72 } : Room) s m [.ref (q_this 0), .int a1, .int a2].toArray below meth c H locs 0 0 (MQ below (mc_Q D kA A none (ce_X13 kA q_this out)) [.ref (q_this 0), .int a1, .int a2].toArray s 0 0 A) (F0 m 2 ls []) := by
    intro n
    induction n with
    | zero => intro o_this x1 x2 x3 H locs ls _ _ _ _ hf; cases hf
    | succ n hk2 =>
      intro o_this x1 x2 x3 H locs ls hP hD hS hl hf
      have hf : ff_X13_retones_c2 N (ff_X13_retones_l2 N n) o_this x1 x2 x3 = some out := hf
      generalize hke : ff_X13_retones_l2 N n = k2 at hk2 hf
      unfold ff_X13_retones_c2 at hf
      refine lv_iload_n hx hb dX13_retones_2 rfl (lv_at hl 3 rfl) ?_
      refine lv_aload_n hx hb dX13_retones_3 rfl (lv_at hl 0 rfl) ?_
      obtain ⟨u_1, he_2, hf⟩ := os_bd hf
      refine mc_callV ⟨hx, hb, hml, hown, hts⟩ (mm_X13_cellMany l D kA N q_this o_this u_1 he_2) (cwV 0 hts gX13_retones_X13_cellMany rfl rfl rfl (by decide +kernel) ⟨Nat.le_of_ble_eq_true rfl, Nat.le_of_ble_eq_true rfl⟩) (wc := (ce_X13 kA q_this o_this)) (ci := 9) (q0 := 0) rfl rfl rfl hl.1 (As := []) (rest := [.int x3]) rfl (Nat.le_of_ble_eq_true rfl) dX13_retones_4 ⟨Nat.le_of_ble_eq_true rfl, Nat.le_of_ble_eq_true rfl⟩ hK hP hD hS hA [0, 1, 2, 3, 4, 5, 6, 7, 8, 9, 10, 11, 12, 13, 14, 15, 16, 17, 18, 19, 20, 21, 22, 23] [] [0, 1, 2, 3, 4, 5, 6, 7, 8, 9, 10, 11, 12, 13, 14, 15, 16, 17, 18, 19, 20, 21, 22, 23] rfl (by decide) rfl (by decide) (by decide) rfl (by decide) (wr := []) (w2 := (ce_X13 kA q_this o_this)) (fun H locs hP hD hS => ?_)
      have hP : va_P D vwCl (ce_X13 kA q_this o_this) H := hP
      refine lv_icmp_ge (tgt := 75) hx hb dX13_retones_7 (by decide) (fun hc_3 => ?_) (fun hc_3 => ?_)
      · rw [if_pos hc_3] at hf
        rw [← Option.some.inj hf]
        exact mc_retv hx hb hr hlk hP hK hD hS dX13_retones_75
      · rw [if_neg hc_3] at hf
        refine lv_aload_n hx hb dX13_retones_10 rfl (lv_at hl 0 rfl) ?_
        refine lv_iload_n hx hb dX13_retones_11 rfl (lv_at hl 3 rfl) ?_
        obtain ⟨u_4, he_5, hf⟩ := os_bd hf
        refine mc_callV ⟨hx, hb, hml, hown, hts⟩ (mm_X13_cellAt l D kA N q_this o_this x3 u_4 he_5) (cwV 1 hts gX13_retones_X13_cellAt rfl rfl rfl (by decide +kernel) ⟨Nat.le_of_ble_eq_true rfl, Nat.le_of_ble_eq_true rfl⟩) (wc := (ce_X13 kA q_this o_this)) (ci := 9) (q0 := 0) rfl rfl rfl hl.1 (As := [.int x3]) (rest := []) rfl (Nat.le_of_ble_eq_true rfl) dX13_retones_12 ⟨Nat.le_of_ble_eq_true rfl, Nat.le_of_ble_eq_true rfl⟩ hK hP hD hS hA [0, 1, 2, 3, 4, 5, 6, 7, 8, 9, 10, 11, 12, 13, 14, 15, 16, 17, 18, 19, 20, 21, 22, 23] [] [0, 1, 2, 3, 4, 5, 6, 7, 8, 9, 10, 11, 12, 13, 14, 15, 16, 17, 18, 19, 20, 21, 22, 23] rfl (by decide) rfl (by decide) (by decide) rfl (by decide) (wr := []) (w2 := (ce_X13 kA q_this o_this)) (fun H locs hP hD hS => ?_)
        have hP : va_P D vwCl (ce_X13 kA q_this o_this) H := hP
        refine lv_istore (lv' := [(4, .int u_4), (0, .ref (q_this 0)), (1, .int x1), (2, .int x2), (3, .int x3)]) hx hb dX13_retones_15 hl (by decide) rfl (fun ls hl => ?_)
        refine lv_iload_n hx hb dX13_retones_17 rfl (lv_at hl 2 rfl) ?_
        refine lv_aload_n hx hb dX13_retones_18 rfl (lv_at hl 1 rfl) ?_
        refine va_get (D := D) (ci := 9) (v := .ref (q_this 4)) (C := RX13) (T := TX13) (N := 48) hx hb hUX13 (fun _ h9 => h9) hown hK hP 0 rfl rfl 15 (by decide) (hts (Cond.fieldLink RX13 26 "ReliefBuilderModel" "tones" "[I") (List.mem_of_getElem? (i := 1) rfl)) (fun _ h9 => h9) rfl dX13_retones_19 ?_
        refine lv_iload hx hb dX13_retones_22 (lv_at hl 0 rfl) ?_
        obtain ⟨hi_6, hf⟩ := os_if hf
        refine va_iald hx hb hK hP 4 0 rfl rfl hi_6 dX13_retones_24 ?_
        refine lv_imul hx hb dX13_retones_25 ?_
        refine lv_iload_n hx hb dX13_retones_26 rfl (lv_at hl 3 rfl) ?_
        refine lv_iadd hx hb dX13_retones_27 ?_
        refine lv_istore (lv' := [(5, .int ((x1 * ((os_A o_this 3) (Int32.toNatClampNeg u_4))) + x2)), (4, .int u_4), (0, .ref (q_this 0)), (1, .int x1), (2, .int x2), (3, .int x3)]) hx hb dX13_retones_28 hl (by decide) rfl (fun ls hl => ?_)
        refine lv_aload_n hx hb dX13_retones_30 rfl (lv_at hl 2 rfl) ?_
        refine lv_iload hx hb dX13_retones_31 (lv_at hl 1 rfl) ?_
        refine lv_bipush (v := 16) hx hb dX13_retones_33 (by decide) ?_
        refine lv_irem hx hb dX13_retones_35 (by decide) ?_
        refine lv_iload hx hb dX13_retones_36 (lv_at hl 1 rfl) ?_
        refine lv_bipush (v := 16) hx hb dX13_retones_38 (by decide) ?_
        refine lv_idiv hx hb dX13_retones_40 (by decide) ?_
        refine lv_iload hx hb dX13_retones_41 (lv_at hl 0 rfl) ?_
        refine lv_if_ge (tgt := 50) hx hb dX13_retones_43 (by decide) (fun hc_7 => ?_) (fun hc_7 => ?_)
        · rw [if_pos hc_7] at hf
          refine lv_iload hx hb dX13_retones_50 (lv_at hl 0 rfl) ?_
          refine lv_sipush (v := 255) hx hb dX13_retones_52 (by decide) ?_
          refine lv_icmp_le (tgt := 64) hx hb dX13_retones_55 (by decide) (fun hc_8 => ?_) (fun hc_8 => ?_)
          · rw [if_pos hc_8] at hf
            refine lv_iload hx hb dX13_retones_64 (lv_at hl 0 rfl) ?_
            exact hB66 k2 hk2 o_this x1 x2 x3 ((x1 * ((os_A o_this 3) (Int32.toNatClampNeg u_4))) + x2) (u_4 / (16 : Int32)) (u_4 - u_4 / (16 : Int32) * (16 : Int32)) _ _ _ hP hD hS (lv_sub hl [2, 3, 4, 5] rfl) hf
          · rw [if_neg hc_8] at hf
            refine lv_sipush (v := 255) hx hb dX13_retones_58 (by decide) ?_
            refine lv_goto (tgt := 66) hx hb dX13_retones_61 (by decide) ?_
            exact hB66 k2 hk2 o_this x1 x2 x3 (255 : Int32) (u_4 / (16 : Int32)) (u_4 - u_4 / (16 : Int32) * (16 : Int32)) _ _ _ hP hD hS (lv_sub hl [2, 3, 4, 5] rfl) hf
        · rw [if_neg hc_7] at hf
          refine lv_iconst (v := 0) hx hb dX13_retones_46 (by decide) ?_
          refine lv_goto (tgt := 66) hx hb dX13_retones_47 (by decide) ?_
          exact hB66 k2 hk2 o_this x1 x2 x3 (0 : Int32) (u_4 / (16 : Int32)) (u_4 - u_4 / (16 : Int32) * (16 : Int32)) _ _ _ hP hD hS (lv_sub hl [2, 3, 4, 5] rfl) hf
  unfold ff_X13_retones at hf
  refine lv_iconst (v := 0) hx hb dX13_retones_0 (by decide) ?_
  refine lv_istore_n (lv' := [(3, .int (0 : Int32)), (0, .ref (q_this 0)), (1, .int a1), (2, .int a2)]) hx hb dX13_retones_1 rfl hl (by decide) rfl (fun ls hl => ?_)
  exact hL2 N o_this a1 a2 (0 : Int32) _ _ _ hP hD hS (lv_sub hl [1, 2, 3, 0] rfl) hf
def ff_X13_invert (N : Nat) (o_this : os_T) : Option (Int32 × os_T) :=
  ((ff_X13_laysAside N (ss_I o_this 0 (0 : Int32))).bind fun u_1 => ((ff_X13_retones N u_1 (-1 : Int32) (255 : Int32)).bind fun u_3 => ((ff_X13_keeps N u_3).bind fun u_5 => some (u_5.1, u_5.2))))
set_option maxHeartbeats 4000000 in
set_option maxRecDepth 100000 in
theorem mm_X13_invert (l : Launch) (D : va_G) (kA : Nat → ClassId) (N : Nat) (q_this : Nat → Nat) (o_this : os_T) (out : (Int32 × os_T)) (hf : ff_X13_invert N o_this = some out) : mc_C l D kA yX13_invert wsX13_invert ({ frames := 4, cells := 0, slots := 0, locals := 97 } : Room) [.ref (q_this 0)] (ce_X13 kA q_this o_this) (some (.int out.1)) (ce_X13 kA q_this out.2) := by
  refine mc_of (cc := cX13_invert) (maxL := 1) (ret := (some .int)) (by decide) rfl (Nat.le_of_ble_eq_true rfl) ?_
  intro p e s m below meth c A B hD hP hS ls hl
  obtain ⟨hx, hb, hr, hlk, hml, hown, hts, hK, hA, hnm⟩ := B
  have hown : s.vm.findClass RX13 = some m.cls := hown
  have hl : lv_has ls 1 [(0, .ref (q_this 0))] := hl
  have hUX13 : ∀ w ∈ u_ws RX13 TX13 48, w.before [.ref (q_this 0)].toArray s = true := fun w h => hts w (List.mem_cons_of_mem _ (List.mem_append_right _ h))
  unfold ff_X13_invert at hf
  refine lv_aload_n hx hb dX13_invert_0 rfl (lv_at hl 0 rfl) ?_
  refine lv_iconst (v := 0) hx hb dX13_invert_1 (by decide) ?_
  refine va_put (D := D) (ci := 9) (v := .int (0 : Int32)) (ty := .int) (C := RX13) (T := TX13) (N := 48) hx hb hUX13 (fun _ h9 => h9) tyX13 tyX13_ok nmX13 hown hK hP hD hS 0 rfl rfl 0 (by decide) (hts (Cond.fieldLink RX13 93 "ReliefBuilderModel" "code" "I") (List.mem_of_getElem? (i := 1) rfl)) (fun _ h9 => h9) rfl (tyX13_ok 0 (by decide)) rfl rfl (Nat.le_of_ble_eq_true rfl) dX13_invert_2 (fun H locs hP hD hS => ?_)
  have hP : va_P D vwCl (ce_X13 kA q_this (ss_I o_this 0 (0 : Int32))) H := hP
  have hD : va_D A (ce_X13 kA q_this (ss_I o_this 0 (0 : Int32))) := hD
  refine lv_aload_n hx hb dX13_invert_5 rfl (lv_at hl 0 rfl) ?_
  obtain ⟨u_1, he_2, hf⟩ := os_bd hf
  refine mc_callV ⟨hx, hb, hml, hown, hts⟩ (mm_X13_laysAside l D kA N q_this (ss_I o_this 0 (0 : Int32)) u_1 he_2) (cwV 0 hts gX13_invert_X13_laysAside rfl rfl rfl (by decide +kernel) ⟨Nat.le_of_ble_eq_true rfl, Nat.le_of_ble_eq_true rfl⟩) (wc := (ce_X13 kA q_this (ss_I o_this 0 (0 : Int32)))) (ci := 9) (q0 := 0) rfl rfl rfl hl.1 (As := []) (rest := []) rfl (Nat.le_of_ble_eq_true rfl) dX13_invert_6 ⟨Nat.le_of_ble_eq_true rfl, Nat.le_of_ble_eq_true rfl⟩ hK hP hD hS hA [0, 1, 2, 3, 4, 5, 6, 7, 8, 9, 10, 11, 12, 13, 14, 15, 16, 17, 18, 19, 20, 21, 22, 23] [] [0, 1, 2, 3, 4, 5, 6, 7, 8, 9, 10, 11, 12, 13, 14, 15, 16, 17, 18, 19, 20, 21, 22, 23] rfl (by decide) rfl (by decide) (by decide) rfl (by decide) (wr := []) (w2 := (ce_X13 kA q_this u_1)) (fun H locs hP hD hS => ?_)
  have hP : va_P D vwCl (ce_X13 kA q_this u_1) H := hP
  refine lv_aload_n hx hb dX13_invert_9 rfl (lv_at hl 0 rfl) ?_
  refine lv_iconst (v := (-1)) hx hb dX13_invert_10 (by decide) ?_
  refine lv_sipush (v := 255) hx hb dX13_invert_11 (by decide) ?_
  obtain ⟨u_3, he_4, hf⟩ := os_bd hf
  refine mc_callV ⟨hx, hb, hml, hown, hts⟩ (mm_X13_retones l D kA N q_this u_1 (-1 : Int32) (255 : Int32) u_3 he_4) (cwV 2 hts gX13_invert_X13_retones rfl rfl rfl (by decide +kernel) ⟨Nat.le_of_ble_eq_true rfl, Nat.le_of_ble_eq_true rfl⟩) (wc := (ce_X13 kA q_this u_1)) (ci := 9) (q0 := 0) rfl rfl rfl hl.1 (As := [.int (-1 : Int32), .int (255 : Int32)]) (rest := []) rfl (Nat.le_of_ble_eq_true rfl) dX13_invert_14 ⟨Nat.le_of_ble_eq_true rfl, Nat.le_of_ble_eq_true rfl⟩ hK hP hD hS hA [0, 1, 2, 3, 4, 5, 6, 7, 8, 9, 10, 11, 12, 13, 14, 15, 16, 17, 18, 19, 20, 21, 22, 23] [] [0, 1, 2, 3, 4, 5, 6, 7, 8, 9, 10, 11, 12, 13, 14, 15, 16, 17, 18, 19, 20, 21, 22, 23] rfl (by decide) rfl (by decide) (by decide) rfl (by decide) (wr := []) (w2 := (ce_X13 kA q_this u_3)) (fun H locs hP hD hS => ?_)
  have hP : va_P D vwCl (ce_X13 kA q_this u_3) H := hP
  refine lv_aload_n hx hb dX13_invert_17 rfl (lv_at hl 0 rfl) ?_
  obtain ⟨u_5, he_6, hf⟩ := os_bd hf
  refine mc_callV ⟨hx, hb, hml, hown, hts⟩ (mm_X13_keeps l D kA N q_this u_3 u_5 he_6) (cwV 0 hts gX13_invert_X13_keeps rfl rfl rfl (by decide +kernel) ⟨Nat.le_of_ble_eq_true rfl, Nat.le_of_ble_eq_true rfl⟩) (wc := (ce_X13 kA q_this u_3)) (ci := 9) (q0 := 0) rfl rfl rfl hl.1 (As := []) (rest := []) rfl (Nat.le_of_ble_eq_true rfl) dX13_invert_18 ⟨Nat.le_of_ble_eq_true rfl, Nat.le_of_ble_eq_true rfl⟩ hK hP hD hS hA [0, 1, 2, 3, 4, 5, 6, 7, 8, 9, 10, 11, 12, 13, 14, 15, 16, 17, 18, 19, 20, 21, 22, 23] [] [0, 1, 2, 3, 4, 5, 6, 7, 8, 9, 10, 11, 12, 13, 14, 15, 16, 17, 18, 19, 20, 21, 22, 23] rfl (by decide) rfl (by decide) (by decide) rfl (by decide) (wr := []) (w2 := (ce_X13 kA q_this u_5.2)) (fun H locs hP hD hS => ?_)
  have hP : va_P D vwCl (ce_X13 kA q_this u_5.2) H := hP
  rw [← Option.some.inj hf]
  exact mc_reti hx hb hr hlk hP hK hD hS dX13_invert_21
def ff_X13_lighten (N : Nat) (o_this : os_T) (a1 : Int32) : Option (Int32 × os_T) :=
  ((ff_X13_isIn N (Int32.toInt64 a1) (-255 : Int64) (255 : Int64)).bind fun u_1 => ((ff_X13_goes N o_this u_1).bind fun u_3 => (if u_3.1 = 0 then some ((0 : Int32), u_3.2) else ((ff_X13_laysAside N u_3.2).bind fun u_6 => ((ff_X13_retones N u_6 (1 : Int32) a1).bind fun u_8 => ((ff_X13_keeps N u_8).bind fun u_10 => some (u_10.1, u_10.2)))))))
set_option maxHeartbeats 4000000 in
set_option maxRecDepth 100000 in
theorem mm_X13_lighten (l : Launch) (D : va_G) (kA : Nat → ClassId) (N : Nat) (q_this : Nat → Nat) (o_this : os_T) (a1 : Int32) (out : (Int32 × os_T)) (hf : ff_X13_lighten N o_this a1 = some out) : mc_C l D kA yX13_lighten wsX13_lighten ({ frames := 4, cells := 0, slots := 0, locals := 97 } : Room) [.ref (q_this 0), .int a1] (ce_X13 kA q_this o_this) (some (.int out.1)) (ce_X13 kA q_this out.2) := by
  refine mc_of (cc := cX13_lighten) (maxL := 2) (ret := (some .int)) (by decide) rfl (Nat.le_of_ble_eq_true rfl) ?_
  intro p e s m below meth c A B hD hP hS ls hl
  obtain ⟨hx, hb, hr, hlk, hml, hown, hts, hK, hA, hnm⟩ := B
  have hown : s.vm.findClass RX13 = some m.cls := hown
  have hl : lv_has ls 2 [(0, .ref (q_this 0)), (1, .int a1)] := hl
  unfold ff_X13_lighten at hf
  refine lv_aload_n hx hb dX13_lighten_0 rfl (lv_at hl 0 rfl) ?_
  refine lv_iload_n hx hb dX13_lighten_1 rfl (lv_at hl 1 rfl) ?_
  refine lv_i2l hx hb dX13_lighten_2 rfl ?_
  refine lv_ldc2 hx hb hown (hts (Cond.constantLong RX13 412 (-255)) (List.mem_of_getElem? (i := 1) rfl)) dX13_lighten_3 ?_
  refine lv_ldc2 hx hb hown (hts (Cond.constantLong RX13 276 (255)) (List.mem_of_getElem? (i := 2) rfl)) dX13_lighten_6 ?_
  obtain ⟨u_1, he_2, hf⟩ := os_bd hf
  refine mc_callS ⟨hx, hb, hml, hown, hts⟩ (mm_X13_isIn l D kA N (Int32.toInt64 a1) (-255 : Int64) (255 : Int64) u_1 he_2) (va_cwS 3 hts gX13_lighten_X13_isIn rfl rfl rfl (by decide +kernel) ⟨Nat.le_of_ble_eq_true rfl, Nat.le_of_ble_eq_true rfl⟩) (wc := []) rfl hl.1 (As := [.long (Int32.toInt64 a1), .long (-255 : Int64), .long (255 : Int64)]) (rest := [.ref (q_this 0)]) rfl (Nat.le_of_ble_eq_true rfl) dX13_lighten_9 ⟨Nat.le_of_ble_eq_true rfl, Nat.le_of_ble_eq_true rfl⟩ hK hP hD hS hA [] [0, 1, 2, 3, 4, 5, 6, 7, 8, 9, 10, 11, 12, 13, 14, 15, 16, 17, 18, 19, 20, 21, 22, 23] [0, 1, 2, 3, 4, 5, 6, 7, 8, 9, 10, 11, 12, 13, 14, 15, 16, 17, 18, 19, 20, 21, 22, 23] rfl (by decide) rfl (by decide) (by decide) rfl (by decide) (wr := (ce_X13 kA q_this o_this)) (w2 := (ce_X13 kA q_this o_this)) (fun H locs hP hD hS => ?_)
  have hP : va_P D vwCl (ce_X13 kA q_this o_this) H := hP
  obtain ⟨u_3, he_4, hf⟩ := os_bd hf
  refine mc_callV ⟨hx, hb, hml, hown, hts⟩ (mm_X13_goes l D kA N q_this o_this u_1 u_3 he_4) (cwV 1 hts gX13_lighten_X13_goes rfl rfl rfl (by decide +kernel) ⟨Nat.le_of_ble_eq_true rfl, Nat.le_of_ble_eq_true rfl⟩) (wc := (ce_X13 kA q_this o_this)) (ci := 9) (q0 := 0) rfl rfl rfl hl.1 (As := [.int u_1]) (rest := []) rfl (Nat.le_of_ble_eq_true rfl) dX13_lighten_12 ⟨Nat.le_of_ble_eq_true rfl, Nat.le_of_ble_eq_true rfl⟩ hK hP hD hS hA [0, 1, 2, 3, 4, 5, 6, 7, 8, 9, 10, 11, 12, 13, 14, 15, 16, 17, 18, 19, 20, 21, 22, 23] [] [0, 1, 2, 3, 4, 5, 6, 7, 8, 9, 10, 11, 12, 13, 14, 15, 16, 17, 18, 19, 20, 21, 22, 23] rfl (by decide) rfl (by decide) (by decide) rfl (by decide) (wr := []) (w2 := (ce_X13 kA q_this u_3.2)) (fun H locs hP hD hS => ?_)
  have hP : va_P D vwCl (ce_X13 kA q_this u_3.2) H := hP
  refine lv_if_ne (tgt := 20) hx hb dX13_lighten_15 (by decide) (fun hc_5 => ?_) (fun hc_5 => ?_)
  · rw [if_neg hc_5] at hf
    refine lv_aload_n hx hb dX13_lighten_20 rfl (lv_at hl 0 rfl) ?_
    obtain ⟨u_6, he_7, hf⟩ := os_bd hf
    refine mc_callV ⟨hx, hb, hml, hown, hts⟩ (mm_X13_laysAside l D kA N q_this u_3.2 u_6 he_7) (cwV 0 hts gX13_lighten_X13_laysAside rfl rfl rfl (by decide +kernel) ⟨Nat.le_of_ble_eq_true rfl, Nat.le_of_ble_eq_true rfl⟩) (wc := (ce_X13 kA q_this u_3.2)) (ci := 9) (q0 := 0) rfl rfl rfl hl.1 (As := []) (rest := []) rfl (Nat.le_of_ble_eq_true rfl) dX13_lighten_21 ⟨Nat.le_of_ble_eq_true rfl, Nat.le_of_ble_eq_true rfl⟩ hK hP hD hS hA [0, 1, 2, 3, 4, 5, 6, 7, 8, 9, 10, 11, 12, 13, 14, 15, 16, 17, 18, 19, 20, 21, 22, 23] [] [0, 1, 2, 3, 4, 5, 6, 7, 8, 9, 10, 11, 12, 13, 14, 15, 16, 17, 18, 19, 20, 21, 22, 23] rfl (by decide) rfl (by decide) (by decide) rfl (by decide) (wr := []) (w2 := (ce_X13 kA q_this u_6)) (fun H locs hP hD hS => ?_)
    have hP : va_P D vwCl (ce_X13 kA q_this u_6) H := hP
    refine lv_aload_n hx hb dX13_lighten_24 rfl (lv_at hl 0 rfl) ?_
    refine lv_iconst (v := 1) hx hb dX13_lighten_25 (by decide) ?_
    refine lv_iload_n hx hb dX13_lighten_26 rfl (lv_at hl 1 rfl) ?_
    obtain ⟨u_8, he_9, hf⟩ := os_bd hf
    refine mc_callV ⟨hx, hb, hml, hown, hts⟩ (mm_X13_retones l D kA N q_this u_6 (1 : Int32) a1 u_8 he_9) (cwV 2 hts gX13_lighten_X13_retones rfl rfl rfl (by decide +kernel) ⟨Nat.le_of_ble_eq_true rfl, Nat.le_of_ble_eq_true rfl⟩) (wc := (ce_X13 kA q_this u_6)) (ci := 9) (q0 := 0) rfl rfl rfl hl.1 (As := [.int (1 : Int32), .int a1]) (rest := []) rfl (Nat.le_of_ble_eq_true rfl) dX13_lighten_27 ⟨Nat.le_of_ble_eq_true rfl, Nat.le_of_ble_eq_true rfl⟩ hK hP hD hS hA [0, 1, 2, 3, 4, 5, 6, 7, 8, 9, 10, 11, 12, 13, 14, 15, 16, 17, 18, 19, 20, 21, 22, 23] [] [0, 1, 2, 3, 4, 5, 6, 7, 8, 9, 10, 11, 12, 13, 14, 15, 16, 17, 18, 19, 20, 21, 22, 23] rfl (by decide) rfl (by decide) (by decide) rfl (by decide) (wr := []) (w2 := (ce_X13 kA q_this u_8)) (fun H locs hP hD hS => ?_)
    have hP : va_P D vwCl (ce_X13 kA q_this u_8) H := hP
    refine lv_aload_n hx hb dX13_lighten_30 rfl (lv_at hl 0 rfl) ?_
    obtain ⟨u_10, he_11, hf⟩ := os_bd hf
    refine mc_callV ⟨hx, hb, hml, hown, hts⟩ (mm_X13_keeps l D kA N q_this u_8 u_10 he_11) (cwV 0 hts gX13_lighten_X13_keeps rfl rfl rfl (by decide +kernel) ⟨Nat.le_of_ble_eq_true rfl, Nat.le_of_ble_eq_true rfl⟩) (wc := (ce_X13 kA q_this u_8)) (ci := 9) (q0 := 0) rfl rfl rfl hl.1 (As := []) (rest := []) rfl (Nat.le_of_ble_eq_true rfl) dX13_lighten_31 ⟨Nat.le_of_ble_eq_true rfl, Nat.le_of_ble_eq_true rfl⟩ hK hP hD hS hA [0, 1, 2, 3, 4, 5, 6, 7, 8, 9, 10, 11, 12, 13, 14, 15, 16, 17, 18, 19, 20, 21, 22, 23] [] [0, 1, 2, 3, 4, 5, 6, 7, 8, 9, 10, 11, 12, 13, 14, 15, 16, 17, 18, 19, 20, 21, 22, 23] rfl (by decide) rfl (by decide) (by decide) rfl (by decide) (wr := []) (w2 := (ce_X13 kA q_this u_10.2)) (fun H locs hP hD hS => ?_)
    have hP : va_P D vwCl (ce_X13 kA q_this u_10.2) H := hP
    rw [← Option.some.inj hf]
    exact mc_reti hx hb hr hlk hP hK hD hS dX13_lighten_34
  · rw [if_pos hc_5] at hf
    refine lv_iconst (v := 0) hx hb dX13_lighten_18 (by decide) ?_
    rw [← Option.some.inj hf]
    exact mc_reti hx hb hr hlk hP hK hD hS dX13_lighten_19
def ff_X13_mirrors_c14 (N : Nat) (k2 : (os_T × Int32) → Option os_T) (k14 : (os_T × Int32 × Int32) → Option os_T) (o_this : os_T) (x1 : Int32) (x2 : Int32) : Option os_T :=
  (if os_in (0 : Int32) 7 then (if ((os_A o_this 1) (Int32.toNatClampNeg (0 : Int32))) ≤ ((2 : Int32) * x2) then k2 (o_this, x1 + 1) else (if os_in (0 : Int32) 7 then (if os_in (((16 : Int32) * x1) + x2) 192 then (if os_in (((16 : Int32) * x1) + x2) 192 then (if os_in (((((16 : Int32) * x1) + ((os_A o_this 1) (Int32.toNatClampNeg (0 : Int32)))) - (1 : Int32)) - x2) 192 then (if os_in (((16 : Int32) * x1) + x2) 192 then (if os_in (((((16 : Int32) * x1) + ((os_A o_this 1) (Int32.toNatClampNeg (0 : Int32)))) - (1 : Int32)) - x2) 192 then (if os_in (((16 : Int32) * x1) + x2) 192 then (if os_in (((((16 : Int32) * x1) + ((os_A o_this 1) (Int32.toNatClampNeg (0 : Int32)))) - (1 : Int32)) - x2) 192 then (if os_in (((((16 : Int32) * x1) + ((os_A o_this 1) (Int32.toNatClampNeg (0 : Int32)))) - (1 : Int32)) - x2) 192 then k14 (ss_A (ss_A o_this 3 (upd (upd (os_A o_this 3) (Int32.toNatClampNeg (((16 : Int32) * x1) + x2)) ((os_A o_this 3) (Int32.toNatClampNeg (((((16 : Int32) * x1) + ((os_A o_this 1) (Int32.toNatClampNeg (0 : Int32)))) - (1 : Int32)) - x2)))) (Int32.toNatClampNeg (((((16 : Int32) * x1) + ((os_A o_this 1) (Int32.toNatClampNeg (0 : Int32)))) - (1 : Int32)) - x2)) ((os_A o_this 3) (Int32.toNatClampNeg (((16 : Int32) * x1) + x2))))) 4 (upd (upd (os_A o_this 4) (Int32.toNatClampNeg (((16 : Int32) * x1) + x2)) ((os_A o_this 4) (Int32.toNatClampNeg (((((16 : Int32) * x1) + ((os_A o_this 1) (Int32.toNatClampNeg (0 : Int32)))) - (1 : Int32)) - x2)))) (Int32.toNatClampNeg (((((16 : Int32) * x1) + ((os_A o_this 1) (Int32.toNatClampNeg (0 : Int32)))) - (1 : Int32)) - x2)) ((os_A o_this 4) (Int32.toNatClampNeg (((16 : Int32) * x1) + x2)))), x1, x2 + 1) else none) else none) else none) else none) else none) else none) else none) else none) else none)) else none)
def ff_X13_mirrors_l14 (N : Nat) (k2 : (os_T × Int32) → Option os_T) : Nat → (os_T × Int32 × Int32) → Option os_T := os_loop (fun k14 s1 => ff_X13_mirrors_c14 N k2 k14 s1.1 s1.2.1 s1.2.2)
def ff_X13_mirrors_c2 (N : Nat) (k2 : (os_T × Int32) → Option os_T) (o_this : os_T) (x1 : Int32) : Option os_T :=
  (if os_in (1 : Int32) 7 then (if ((os_A o_this 1) (Int32.toNatClampNeg (1 : Int32))) ≤ x1 then some o_this else ff_X13_mirrors_l14 N k2 N (o_this, x1, (0 : Int32))) else none)
def ff_X13_mirrors_l2 (N : Nat) : Nat → (os_T × Int32) → Option os_T := os_loop (fun k2 s1 => ff_X13_mirrors_c2 N k2 s1.1 s1.2)
def ff_X13_mirrors (N : Nat) (o_this : os_T) : Option os_T :=
  ff_X13_mirrors_l2 N N (o_this, (0 : Int32))
set_option maxHeartbeats 4000000 in
set_option maxRecDepth 100000 in
theorem mm_X13_mirrors (l : Launch) (D : va_G) (kA : Nat → ClassId) (N : Nat) (q_this : Nat → Nat) (o_this : os_T) (out : os_T) (hf : ff_X13_mirrors N o_this = some out) : mc_C l D kA yX13_mirrors wsX13_mirrors ({ frames := 0, cells := 0, slots := 0, locals := 0 } : Room) [.ref (q_this 0)] (ce_X13 kA q_this o_this) none (ce_X13 kA q_this out) := by
  refine mc_of (cc := cX13_mirrors) (maxL := 7) (ret := none) (by decide) rfl (Nat.le_of_ble_eq_true rfl) ?_
  intro p e s m below meth c A B hD hP hS ls hl
  obtain ⟨hx, hb, hr, hlk, hml, hown, hts, hK, hA, hnm⟩ := B
  have hown : s.vm.findClass RX13 = some m.cls := hown
  have hl : lv_has ls 7 [(0, .ref (q_this 0))] := hl
  have hUX13 : ∀ w ∈ u_ws RX13 TX13 48, w.before [.ref (q_this 0)].toArray s = true := fun w h => hts w (List.mem_cons_of_mem _ (List.mem_append_right _ h))
  have hL14 : ∀ (k2 : (os_T × Int32) → Option os_T), (∀ (o_this : os_T) (x1 : Int32) (H : Heap) (locs : List Loc) (ls : Array Slot), va_P D vwCl (ce_X13 kA q_this o_this) H → va_D A (ce_X13 kA q_this o_this) → va_S A s.heap H locs → lv_has ls 7 [(0, .ref (q_this 0)), (1, .int x1)] → k2 (o_this, x1) = some out → W p l e ({ frames := 0, cells := 0, slots := 0, locals := 0 } : Room) s m [.ref (q_this 0)].toArray below meth c H locs 0 0 (MQ below (mc_Q D kA A none (ce_X13 kA q_this out)) [.ref (q_this 0)].toArray s 0 0 A) (F0 m 2 ls [])) → ∀ (n : Nat) (o_this : os_T) (x1 : Int32) (x2 : Int32) (H : Heap) (locs : List Loc) (ls : Array Slot), va_P D vwCl (ce_X13 kA q_this o_this) H → va_D A (ce_X13 kA q_this o_this) → va_S A s.heap H locs → lv_has ls 7 [(0, .ref (q_this 0)), (1, .int x1), (2, .int x2)] → ff_X13_mirrors_l14 N k2 n (o_this, x1, x2) = some out → W p l e ({ frames := 0, cells := 0, slots := 0, locals := 0 } : Room) s m [.ref (q_this 0)].toArray below meth c H locs 0 0 (MQ below (mc_Q D kA A none (ce_X13 kA q_this out)) [.ref (q_this 0)].toArray s 0 0 A) (F0 m 14 ls []) := by
    intro k2 hk2 n
    induction n with
    | zero => intro o_this x1 x2 H locs ls _ _ _ _ hf; cases hf
    | succ n hk14 =>
      intro o_this x1 x2 H locs ls hP hD hS hl hf
      have hf : ff_X13_mirrors_c14 N k2 (ff_X13_mirrors_l14 N k2 n) o_this x1 x2 = some out := hf
      generalize hke : ff_X13_mirrors_l14 N k2 n = k14 at hk14 hf
      unfold ff_X13_mirrors_c14 at hf
      refine lv_iconst (v := 2) hx hb dX13_mirrors_14 (by decide) ?_
      refine lv_iload_n hx hb dX13_mirrors_15 rfl (lv_at hl 2 rfl) ?_
      refine lv_imul hx hb dX13_mirrors_16 ?_
      refine lv_aload_n hx hb dX13_mirrors_17 rfl (lv_at hl 0 rfl) ?_
      refine va_get (D := D) (ci := 9) (v := .ref (q_this 2)) (C := RX13) (T := TX13) (N := 48) hx hb hUX13 (fun _ h9 => h9) hown hK hP 0 rfl rfl 13 (by decide) (hts (Cond.fieldLink RX13 20 "ReliefBuilderModel" "now" "[I") (List.mem_of_getElem? (i := 1) rfl)) (fun _ h9 => h9) rfl dX13_mirrors_18 ?_
      refine lv_iconst (v := 0) hx hb dX13_mirrors_21 (by decide) ?_
      obtain ⟨hi_3, hf⟩ := os_if hf
      refine va_iald hx hb hK hP 2 0 rfl rfl hi_3 dX13_mirrors_22 ?_
      refine lv_icmp_ge (tgt := 116) hx hb dX13_mirrors_23 (by decide) (fun hc_4 => ?_) (fun hc_4 => ?_)
      · rw [if_pos hc_4] at hf
        refine lv_iinc (v := x1 + 1) (lv' := [(1, .int (x1 + 1)), (0, .ref (q_this 0)), (2, .int x2)]) hx hb dX13_mirrors_116 hl (k := 1) rfl rfl (by decide) rfl (fun ls hl => ?_)
        refine lv_goto (tgt := 2) hx hb dX13_mirrors_119 (by decide) ?_
        exact hk2 o_this (x1 + 1) _ _ _ hP hD hS (lv_sub hl [1, 0] rfl) hf
      · rw [if_neg hc_4] at hf
        refine lv_bipush (v := 16) hx hb dX13_mirrors_26 (by decide) ?_
        refine lv_iload_n hx hb dX13_mirrors_28 rfl (lv_at hl 1 rfl) ?_
        refine lv_imul hx hb dX13_mirrors_29 ?_
        refine lv_iload_n hx hb dX13_mirrors_30 rfl (lv_at hl 2 rfl) ?_
        refine lv_iadd hx hb dX13_mirrors_31 ?_
        refine lv_istore_n (lv' := [(3, .int (((16 : Int32) * x1) + x2)), (0, .ref (q_this 0)), (1, .int x1), (2, .int x2)]) hx hb dX13_mirrors_32 rfl hl (by decide) rfl (fun ls hl => ?_)
        refine lv_bipush (v := 16) hx hb dX13_mirrors_33 (by decide) ?_
        refine lv_iload_n hx hb dX13_mirrors_35 rfl (lv_at hl 2 rfl) ?_
        refine lv_imul hx hb dX13_mirrors_36 ?_
        refine lv_aload_n hx hb dX13_mirrors_37 rfl (lv_at hl 1 rfl) ?_
        refine va_get (D := D) (ci := 9) (v := .ref (q_this 2)) (C := RX13) (T := TX13) (N := 48) hx hb hUX13 (fun _ h9 => h9) hown hK hP 0 rfl rfl 13 (by decide) (hts (Cond.fieldLink RX13 20 "ReliefBuilderModel" "now" "[I") (List.mem_of_getElem? (i := 1) rfl)) (fun _ h9 => h9) rfl dX13_mirrors_38 ?_
        refine lv_iconst (v := 0) hx hb dX13_mirrors_41 (by decide) ?_
        obtain ⟨hi_5, hf⟩ := os_if hf
        refine va_iald hx hb hK hP 2 0 rfl rfl hi_5 dX13_mirrors_42 ?_
        refine lv_iadd hx hb dX13_mirrors_43 ?_
        refine lv_iconst (v := 1) hx hb dX13_mirrors_44 (by decide) ?_
        refine lv_isub hx hb dX13_mirrors_45 ?_
        refine lv_iload_n hx hb dX13_mirrors_46 rfl (lv_at hl 3 rfl) ?_
        refine lv_isub hx hb dX13_mirrors_47 ?_
        refine lv_istore (lv' := [(4, .int (((((16 : Int32) * x1) + ((os_A o_this 1) (Int32.toNatClampNeg (0 : Int32)))) - (1 : Int32)) - x2)), (3, .int (((16 : Int32) * x1) + x2)), (0, .ref (q_this 0)), (1, .int x1), (2, .int x2)]) hx hb dX13_mirrors_48 hl (by decide) rfl (fun ls hl => ?_)
        refine lv_aload_n hx hb dX13_mirrors_50 rfl (lv_at hl 2 rfl) ?_
        refine va_get (D := D) (ci := 9) (v := .ref (q_this 5)) (C := RX13) (T := TX13) (N := 48) hx hb hUX13 (fun _ h9 => h9) hown hK hP 0 rfl rfl 16 (by decide) (hts (Cond.fieldLink RX13 29 "ReliefBuilderModel" "heights" "[I") (List.mem_of_getElem? (i := 2) rfl)) (fun _ h9 => h9) rfl dX13_mirrors_51 ?_
        refine lv_iload_n hx hb dX13_mirrors_54 rfl (lv_at hl 1 rfl) ?_
        obtain ⟨hi_6, hf⟩ := os_if hf
        refine va_iald hx hb hK hP 5 0 rfl rfl hi_6 dX13_mirrors_55 ?_
        refine lv_istore (lv' := [(5, .int ((os_A o_this 4) (Int32.toNatClampNeg (((16 : Int32) * x1) + x2)))), (4, .int (((((16 : Int32) * x1) + ((os_A o_this 1) (Int32.toNatClampNeg (0 : Int32)))) - (1 : Int32)) - x2)), (3, .int (((16 : Int32) * x1) + x2)), (0, .ref (q_this 0)), (1, .int x1), (2, .int x2)]) hx hb dX13_mirrors_56 hl (by decide) rfl (fun ls hl => ?_)
        refine lv_aload_n hx hb dX13_mirrors_58 rfl (lv_at hl 3 rfl) ?_
        refine va_get (D := D) (ci := 9) (v := .ref (q_this 4)) (C := RX13) (T := TX13) (N := 48) hx hb hUX13 (fun _ h9 => h9) hown hK hP 0 rfl rfl 15 (by decide) (hts (Cond.fieldLink RX13 26 "ReliefBuilderModel" "tones" "[I") (List.mem_of_getElem? (i := 3) rfl)) (fun _ h9 => h9) rfl dX13_mirrors_59 ?_
        refine lv_iload_n hx hb dX13_mirrors_62 rfl (lv_at hl 2 rfl) ?_
        obtain ⟨hi_7, hf⟩ := os_if hf
        refine va_iald hx hb hK hP 4 0 rfl rfl hi_7 dX13_mirrors_63 ?_
        refine lv_istore (lv' := [(6, .int ((os_A o_this 3) (Int32.toNatClampNeg (((16 : Int32) * x1) + x2)))), (5, .int ((os_A o_this 4) (Int32.toNatClampNeg (((16 : Int32) * x1) + x2)))), (4, .int (((((16 : Int32) * x1) + ((os_A o_this 1) (Int32.toNatClampNeg (0 : Int32)))) - (1 : Int32)) - x2)), (3, .int (((16 : Int32) * x1) + x2)), (0, .ref (q_this 0)), (1, .int x1), (2, .int x2)]) hx hb dX13_mirrors_64 hl (by decide) rfl (fun ls hl => ?_)
        refine lv_aload_n hx hb dX13_mirrors_66 rfl (lv_at hl 4 rfl) ?_
        refine va_get (D := D) (ci := 9) (v := .ref (q_this 5)) (C := RX13) (T := TX13) (N := 48) hx hb hUX13 (fun _ h9 => h9) hown hK hP 0 rfl rfl 16 (by decide) (hts (Cond.fieldLink RX13 29 "ReliefBuilderModel" "heights" "[I") (List.mem_of_getElem? (i := 2) rfl)) (fun _ h9 => h9) rfl dX13_mirrors_67 ?_
        refine lv_iload_n hx hb dX13_mirrors_70 rfl (lv_at hl 3 rfl) ?_
        refine lv_aload_n hx hb dX13_mirrors_71 rfl (lv_at hl 4 rfl) ?_
        refine va_get (D := D) (ci := 9) (v := .ref (q_this 5)) (C := RX13) (T := TX13) (N := 48) hx hb hUX13 (fun _ h9 => h9) hown hK hP 0 rfl rfl 16 (by decide) (hts (Cond.fieldLink RX13 29 "ReliefBuilderModel" "heights" "[I") (List.mem_of_getElem? (i := 2) rfl)) (fun _ h9 => h9) rfl dX13_mirrors_72 ?_
        refine lv_iload hx hb dX13_mirrors_75 (lv_at hl 2 rfl) ?_
        obtain ⟨hi_8, hf⟩ := os_if hf
        refine va_iald hx hb hK hP 5 0 rfl rfl hi_8 dX13_mirrors_77 ?_
        obtain ⟨hi_9, hf⟩ := os_if hf
        refine va_iast hx hb hK hP hD hS 5 0 rfl rfl hi_9 dX13_mirrors_78 (fun H locs hP hD hS => ?_)
        have hP : va_P D vwCl (ce_X13 kA q_this (ss_A o_this 4 (upd (os_A o_this 4) (Int32.toNatClampNeg (((16 : Int32) * x1) + x2)) ((os_A o_this 4) (Int32.toNatClampNeg (((((16 : Int32) * x1) + ((os_A o_this 1) (Int32.toNatClampNeg (0 : Int32)))) - (1 : Int32)) - x2)))))) H := hP
        have hD : va_D A (ce_X13 kA q_this (ss_A o_this 4 (upd (os_A o_this 4) (Int32.toNatClampNeg (((16 : Int32) * x1) + x2)) ((os_A o_this 4) (Int32.toNatClampNeg (((((16 : Int32) * x1) + ((os_A o_this 1) (Int32.toNatClampNeg (0 : Int32)))) - (1 : Int32)) - x2)))))) := hD
        refine lv_aload_n hx hb dX13_mirrors_79 rfl (lv_at hl 4 rfl) ?_
        refine va_get (D := D) (ci := 9) (v := .ref (q_this 4)) (C := RX13) (T := TX13) (N := 48) hx hb hUX13 (fun _ h9 => h9) hown hK hP 0 rfl rfl 15 (by decide) (hts (Cond.fieldLink RX13 26 "ReliefBuilderModel" "tones" "[I") (List.mem_of_getElem? (i := 3) rfl)) (fun _ h9 => h9) rfl dX13_mirrors_80 ?_
        refine lv_iload_n hx hb dX13_mirrors_83 rfl (lv_at hl 3 rfl) ?_
        refine lv_aload_n hx hb dX13_mirrors_84 rfl (lv_at hl 4 rfl) ?_
        refine va_get (D := D) (ci := 9) (v := .ref (q_this 4)) (C := RX13) (T := TX13) (N := 48) hx hb hUX13 (fun _ h9 => h9) hown hK hP 0 rfl rfl 15 (by decide) (hts (Cond.fieldLink RX13 26 "ReliefBuilderModel" "tones" "[I") (List.mem_of_getElem? (i := 3) rfl)) (fun _ h9 => h9) rfl dX13_mirrors_85 ?_
        refine lv_iload hx hb dX13_mirrors_88 (lv_at hl 2 rfl) ?_
        obtain ⟨hi_10, hf⟩ := os_if hf
        refine va_iald hx hb hK hP 4 0 rfl rfl hi_10 dX13_mirrors_90 ?_
        obtain ⟨hi_11, hf⟩ := os_if hf
        refine va_iast hx hb hK hP hD hS 4 0 rfl rfl hi_11 dX13_mirrors_91 (fun H locs hP hD hS => ?_)
        have hE9 : ∀ (y0 : Nat → Int32) (z9 : Nat → Int32), ((ce_X13 kA q_this (ss_A o_this 4 y0)) : va_W).set 4 (q_this 4, .inl (kA 0, 192, .inl z9)) = (ce_X13 kA q_this (ss_A (ss_A o_this 3 z9) 4 y0)) := fun _ _ => rfl
        have hP : va_P D vwCl (ce_X13 kA q_this (ss_A (ss_A o_this 3 (upd (os_A o_this 3) (Int32.toNatClampNeg (((16 : Int32) * x1) + x2)) ((os_A o_this 3) (Int32.toNatClampNeg (((((16 : Int32) * x1) + ((os_A o_this 1) (Int32.toNatClampNeg (0 : Int32)))) - (1 : Int32)) - x2))))) 4 (upd (os_A o_this 4) (Int32.toNatClampNeg (((16 : Int32) * x1) + x2)) ((os_A o_this 4) (Int32.toNatClampNeg (((((16 : Int32) * x1) + ((os_A o_this 1) (Int32.toNatClampNeg (0 : Int32)))) - (1 : Int32)) - x2)))))) H := Eq.mp (congrArg (fun w9 => va_P D vwCl w9 H) (hE9 (upd (os_A o_this 4) (Int32.toNatClampNeg (((16 : Int32) * x1) + x2)) ((os_A o_this 4) (Int32.toNatClampNeg (((((16 : Int32) * x1) + ((os_A o_this 1) (Int32.toNatClampNeg (0 : Int32)))) - (1 : Int32)) - x2)))) _)) hP
        have hD : va_D A (ce_X13 kA q_this (ss_A (ss_A o_this 3 (upd (os_A o_this 3) (Int32.toNatClampNeg (((16 : Int32) * x1) + x2)) ((os_A o_this 3) (Int32.toNatClampNeg (((((16 : Int32) * x1) + ((os_A o_this 1) (Int32.toNatClampNeg (0 : Int32)))) - (1 : Int32)) - x2))))) 4 (upd (os_A o_this 4) (Int32.toNatClampNeg (((16 : Int32) * x1) + x2)) ((os_A o_this 4) (Int32.toNatClampNeg (((((16 : Int32) * x1) + ((os_A o_this 1) (Int32.toNatClampNeg (0 : Int32)))) - (1 : Int32)) - x2)))))) := Eq.mp (congrArg (fun w9 => va_D A w9) (hE9 (upd (os_A o_this 4) (Int32.toNatClampNeg (((16 : Int32) * x1) + x2)) ((os_A o_this 4) (Int32.toNatClampNeg (((((16 : Int32) * x1) + ((os_A o_this 1) (Int32.toNatClampNeg (0 : Int32)))) - (1 : Int32)) - x2)))) _)) hD
        refine lv_aload_n hx hb dX13_mirrors_92 rfl (lv_at hl 4 rfl) ?_
        refine va_get (D := D) (ci := 9) (v := .ref (q_this 5)) (C := RX13) (T := TX13) (N := 48) hx hb hUX13 (fun _ h9 => h9) hown hK hP 0 rfl rfl 16 (by decide) (hts (Cond.fieldLink RX13 29 "ReliefBuilderModel" "heights" "[I") (List.mem_of_getElem? (i := 2) rfl)) (fun _ h9 => h9) rfl dX13_mirrors_93 ?_
        refine lv_iload hx hb dX13_mirrors_96 (lv_at hl 2 rfl) ?_
        refine lv_iload hx hb dX13_mirrors_98 (lv_at hl 1 rfl) ?_
        obtain ⟨hi_12, hf⟩ := os_if hf
        refine va_iast hx hb hK hP hD hS 5 0 rfl rfl hi_12 dX13_mirrors_100 (fun H locs hP hD hS => ?_)
        have hE9 : ∀ (y0 : Nat → Int32) (y1 : Nat → Int32) (z9 : Nat → Int32), ((ce_X13 kA q_this (ss_A (ss_A o_this 3 y0) 4 y1)) : va_W).set 5 (q_this 5, .inl (kA 0, 192, .inl z9)) = (ce_X13 kA q_this (ss_A (ss_A o_this 3 y0) 4 z9)) := fun _ _ _ => rfl
        have hP : va_P D vwCl (ce_X13 kA q_this (ss_A (ss_A o_this 3 (upd (os_A o_this 3) (Int32.toNatClampNeg (((16 : Int32) * x1) + x2)) ((os_A o_this 3) (Int32.toNatClampNeg (((((16 : Int32) * x1) + ((os_A o_this 1) (Int32.toNatClampNeg (0 : Int32)))) - (1 : Int32)) - x2))))) 4 (upd (upd (os_A o_this 4) (Int32.toNatClampNeg (((16 : Int32) * x1) + x2)) ((os_A o_this 4) (Int32.toNatClampNeg (((((16 : Int32) * x1) + ((os_A o_this 1) (Int32.toNatClampNeg (0 : Int32)))) - (1 : Int32)) - x2)))) (Int32.toNatClampNeg (((((16 : Int32) * x1) + ((os_A o_this 1) (Int32.toNatClampNeg (0 : Int32)))) - (1 : Int32)) - x2)) ((os_A o_this 4) (Int32.toNatClampNeg (((16 : Int32) * x1) + x2)))))) H := Eq.mp (congrArg (fun w9 => va_P D vwCl w9 H) (hE9 (upd (os_A o_this 3) (Int32.toNatClampNeg (((16 : Int32) * x1) + x2)) ((os_A o_this 3) (Int32.toNatClampNeg (((((16 : Int32) * x1) + ((os_A o_this 1) (Int32.toNatClampNeg (0 : Int32)))) - (1 : Int32)) - x2)))) (upd (os_A o_this 4) (Int32.toNatClampNeg (((16 : Int32) * x1) + x2)) ((os_A o_this 4) (Int32.toNatClampNeg (((((16 : Int32) * x1) + ((os_A o_this 1) (Int32.toNatClampNeg (0 : Int32)))) - (1 : Int32)) - x2)))) _)) hP
        have hD : va_D A (ce_X13 kA q_this (ss_A (ss_A o_this 3 (upd (os_A o_this 3) (Int32.toNatClampNeg (((16 : Int32) * x1) + x2)) ((os_A o_this 3) (Int32.toNatClampNeg (((((16 : Int32) * x1) + ((os_A o_this 1) (Int32.toNatClampNeg (0 : Int32)))) - (1 : Int32)) - x2))))) 4 (upd (upd (os_A o_this 4) (Int32.toNatClampNeg (((16 : Int32) * x1) + x2)) ((os_A o_this 4) (Int32.toNatClampNeg (((((16 : Int32) * x1) + ((os_A o_this 1) (Int32.toNatClampNeg (0 : Int32)))) - (1 : Int32)) - x2)))) (Int32.toNatClampNeg (((((16 : Int32) * x1) + ((os_A o_this 1) (Int32.toNatClampNeg (0 : Int32)))) - (1 : Int32)) - x2)) ((os_A o_this 4) (Int32.toNatClampNeg (((16 : Int32) * x1) + x2)))))) := Eq.mp (congrArg (fun w9 => va_D A w9) (hE9 (upd (os_A o_this 3) (Int32.toNatClampNeg (((16 : Int32) * x1) + x2)) ((os_A o_this 3) (Int32.toNatClampNeg (((((16 : Int32) * x1) + ((os_A o_this 1) (Int32.toNatClampNeg (0 : Int32)))) - (1 : Int32)) - x2)))) (upd (os_A o_this 4) (Int32.toNatClampNeg (((16 : Int32) * x1) + x2)) ((os_A o_this 4) (Int32.toNatClampNeg (((((16 : Int32) * x1) + ((os_A o_this 1) (Int32.toNatClampNeg (0 : Int32)))) - (1 : Int32)) - x2)))) _)) hD
        refine lv_aload_n hx hb dX13_mirrors_101 rfl (lv_at hl 4 rfl) ?_
        refine va_get (D := D) (ci := 9) (v := .ref (q_this 4)) (C := RX13) (T := TX13) (N := 48) hx hb hUX13 (fun _ h9 => h9) hown hK hP 0 rfl rfl 15 (by decide) (hts (Cond.fieldLink RX13 26 "ReliefBuilderModel" "tones" "[I") (List.mem_of_getElem? (i := 3) rfl)) (fun _ h9 => h9) rfl dX13_mirrors_102 ?_
        refine lv_iload hx hb dX13_mirrors_105 (lv_at hl 2 rfl) ?_
        refine lv_iload hx hb dX13_mirrors_107 (lv_at hl 0 rfl) ?_
        obtain ⟨hi_13, hf⟩ := os_if hf
        refine va_iast hx hb hK hP hD hS 4 0 rfl rfl hi_13 dX13_mirrors_109 (fun H locs hP hD hS => ?_)
        have hE9 : ∀ (y0 : Nat → Int32) (y1 : Nat → Int32) (z9 : Nat → Int32), ((ce_X13 kA q_this (ss_A (ss_A o_this 3 y0) 4 y1)) : va_W).set 4 (q_this 4, .inl (kA 0, 192, .inl z9)) = (ce_X13 kA q_this (ss_A (ss_A o_this 3 z9) 4 y1)) := fun _ _ _ => rfl
        have hP : va_P D vwCl (ce_X13 kA q_this (ss_A (ss_A o_this 3 (upd (upd (os_A o_this 3) (Int32.toNatClampNeg (((16 : Int32) * x1) + x2)) ((os_A o_this 3) (Int32.toNatClampNeg (((((16 : Int32) * x1) + ((os_A o_this 1) (Int32.toNatClampNeg (0 : Int32)))) - (1 : Int32)) - x2)))) (Int32.toNatClampNeg (((((16 : Int32) * x1) + ((os_A o_this 1) (Int32.toNatClampNeg (0 : Int32)))) - (1 : Int32)) - x2)) ((os_A o_this 3) (Int32.toNatClampNeg (((16 : Int32) * x1) + x2))))) 4 (upd (upd (os_A o_this 4) (Int32.toNatClampNeg (((16 : Int32) * x1) + x2)) ((os_A o_this 4) (Int32.toNatClampNeg (((((16 : Int32) * x1) + ((os_A o_this 1) (Int32.toNatClampNeg (0 : Int32)))) - (1 : Int32)) - x2)))) (Int32.toNatClampNeg (((((16 : Int32) * x1) + ((os_A o_this 1) (Int32.toNatClampNeg (0 : Int32)))) - (1 : Int32)) - x2)) ((os_A o_this 4) (Int32.toNatClampNeg (((16 : Int32) * x1) + x2)))))) H := Eq.mp (congrArg (fun w9 => va_P D vwCl w9 H) (hE9 (upd (os_A o_this 3) (Int32.toNatClampNeg (((16 : Int32) * x1) + x2)) ((os_A o_this 3) (Int32.toNatClampNeg (((((16 : Int32) * x1) + ((os_A o_this 1) (Int32.toNatClampNeg (0 : Int32)))) - (1 : Int32)) - x2)))) (upd (upd (os_A o_this 4) (Int32.toNatClampNeg (((16 : Int32) * x1) + x2)) ((os_A o_this 4) (Int32.toNatClampNeg (((((16 : Int32) * x1) + ((os_A o_this 1) (Int32.toNatClampNeg (0 : Int32)))) - (1 : Int32)) - x2)))) (Int32.toNatClampNeg (((((16 : Int32) * x1) + ((os_A o_this 1) (Int32.toNatClampNeg (0 : Int32)))) - (1 : Int32)) - x2)) ((os_A o_this 4) (Int32.toNatClampNeg (((16 : Int32) * x1) + x2)))) _)) hP
        have hD : va_D A (ce_X13 kA q_this (ss_A (ss_A o_this 3 (upd (upd (os_A o_this 3) (Int32.toNatClampNeg (((16 : Int32) * x1) + x2)) ((os_A o_this 3) (Int32.toNatClampNeg (((((16 : Int32) * x1) + ((os_A o_this 1) (Int32.toNatClampNeg (0 : Int32)))) - (1 : Int32)) - x2)))) (Int32.toNatClampNeg (((((16 : Int32) * x1) + ((os_A o_this 1) (Int32.toNatClampNeg (0 : Int32)))) - (1 : Int32)) - x2)) ((os_A o_this 3) (Int32.toNatClampNeg (((16 : Int32) * x1) + x2))))) 4 (upd (upd (os_A o_this 4) (Int32.toNatClampNeg (((16 : Int32) * x1) + x2)) ((os_A o_this 4) (Int32.toNatClampNeg (((((16 : Int32) * x1) + ((os_A o_this 1) (Int32.toNatClampNeg (0 : Int32)))) - (1 : Int32)) - x2)))) (Int32.toNatClampNeg (((((16 : Int32) * x1) + ((os_A o_this 1) (Int32.toNatClampNeg (0 : Int32)))) - (1 : Int32)) - x2)) ((os_A o_this 4) (Int32.toNatClampNeg (((16 : Int32) * x1) + x2)))))) := Eq.mp (congrArg (fun w9 => va_D A w9) (hE9 (upd (os_A o_this 3) (Int32.toNatClampNeg (((16 : Int32) * x1) + x2)) ((os_A o_this 3) (Int32.toNatClampNeg (((((16 : Int32) * x1) + ((os_A o_this 1) (Int32.toNatClampNeg (0 : Int32)))) - (1 : Int32)) - x2)))) (upd (upd (os_A o_this 4) (Int32.toNatClampNeg (((16 : Int32) * x1) + x2)) ((os_A o_this 4) (Int32.toNatClampNeg (((((16 : Int32) * x1) + ((os_A o_this 1) (Int32.toNatClampNeg (0 : Int32)))) - (1 : Int32)) - x2)))) (Int32.toNatClampNeg (((((16 : Int32) * x1) + ((os_A o_this 1) (Int32.toNatClampNeg (0 : Int32)))) - (1 : Int32)) - x2)) ((os_A o_this 4) (Int32.toNatClampNeg (((16 : Int32) * x1) + x2)))) _)) hD
        refine lv_iinc (v := x2 + 1) (lv' := [(2, .int (x2 + 1)), (6, .int ((os_A o_this 3) (Int32.toNatClampNeg (((16 : Int32) * x1) + x2)))), (5, .int ((os_A o_this 4) (Int32.toNatClampNeg (((16 : Int32) * x1) + x2)))), (4, .int (((((16 : Int32) * x1) + ((os_A o_this 1) (Int32.toNatClampNeg (0 : Int32)))) - (1 : Int32)) - x2)), (3, .int (((16 : Int32) * x1) + x2)), (0, .ref (q_this 0)), (1, .int x1)]) hx hb dX13_mirrors_110 hl (k := 6) rfl rfl (by decide) rfl (fun ls hl => ?_)
        refine lv_goto (tgt := 14) hx hb dX13_mirrors_113 (by decide) ?_
        exact hk14 (ss_A (ss_A o_this 3 (upd (upd (os_A o_this 3) (Int32.toNatClampNeg (((16 : Int32) * x1) + x2)) ((os_A o_this 3) (Int32.toNatClampNeg (((((16 : Int32) * x1) + ((os_A o_this 1) (Int32.toNatClampNeg (0 : Int32)))) - (1 : Int32)) - x2)))) (Int32.toNatClampNeg (((((16 : Int32) * x1) + ((os_A o_this 1) (Int32.toNatClampNeg (0 : Int32)))) - (1 : Int32)) - x2)) ((os_A o_this 3) (Int32.toNatClampNeg (((16 : Int32) * x1) + x2))))) 4 (upd (upd (os_A o_this 4) (Int32.toNatClampNeg (((16 : Int32) * x1) + x2)) ((os_A o_this 4) (Int32.toNatClampNeg (((((16 : Int32) * x1) + ((os_A o_this 1) (Int32.toNatClampNeg (0 : Int32)))) - (1 : Int32)) - x2)))) (Int32.toNatClampNeg (((((16 : Int32) * x1) + ((os_A o_this 1) (Int32.toNatClampNeg (0 : Int32)))) - (1 : Int32)) - x2)) ((os_A o_this 4) (Int32.toNatClampNeg (((16 : Int32) * x1) + x2))))) x1 (x2 + 1) _ _ _ hP hD hS (lv_sub hl [5, 6, 0] rfl) hf
  have hL2 : ∀ (n : Nat) (o_this : os_T) (x1 : Int32) (H : Heap) (locs : List Loc) (ls : Array Slot), va_P D vwCl (ce_X13 kA q_this o_this) H → va_D A (ce_X13 kA q_this o_this) → va_S A s.heap H locs → lv_has ls 7 [(0, .ref (q_this 0)), (1, .int x1)] → ff_X13_mirrors_l2 N n (o_this, x1) = some out → W p l e ({ frames := 0, cells := 0, slots := 0, locals := 0 } : Room) s m [.ref (q_this 0)].toArray below meth c H locs 0 0 (MQ below (mc_Q D kA A none (ce_X13 kA q_this out)) [.ref (q_this 0)].toArray s 0 0 A) (F0 m 2 ls []) := by
    intro n
    induction n with
    | zero => intro o_this x1 H locs ls _ _ _ _ hf; cases hf
    | succ n hk2 =>
      intro o_this x1 H locs ls hP hD hS hl hf
      have hf : ff_X13_mirrors_c2 N (ff_X13_mirrors_l2 N n) o_this x1 = some out := hf
      generalize hke : ff_X13_mirrors_l2 N n = k2 at hk2 hf
      unfold ff_X13_mirrors_c2 at hf
      refine lv_iload_n hx hb dX13_mirrors_2 rfl (lv_at hl 1 rfl) ?_
      refine lv_aload_n hx hb dX13_mirrors_3 rfl (lv_at hl 0 rfl) ?_
      refine va_get (D := D) (ci := 9) (v := .ref (q_this 2)) (C := RX13) (T := TX13) (N := 48) hx hb hUX13 (fun _ h9 => h9) hown hK hP 0 rfl rfl 13 (by decide) (hts (Cond.fieldLink RX13 20 "ReliefBuilderModel" "now" "[I") (List.mem_of_getElem? (i := 1) rfl)) (fun _ h9 => h9) rfl dX13_mirrors_4 ?_
      refine lv_iconst (v := 1) hx hb dX13_mirrors_7 (by decide) ?_
      obtain ⟨hi_1, hf⟩ := os_if hf
      refine va_iald hx hb hK hP 2 0 rfl rfl hi_1 dX13_mirrors_8 ?_
      refine lv_icmp_ge (tgt := 122) hx hb dX13_mirrors_9 (by decide) (fun hc_2 => ?_) (fun hc_2 => ?_)
      · rw [if_pos hc_2] at hf
        rw [← Option.some.inj hf]
        exact mc_retv hx hb hr hlk hP hK hD hS dX13_mirrors_122
      · rw [if_neg hc_2] at hf
        refine lv_iconst (v := 0) hx hb dX13_mirrors_12 (by decide) ?_
        refine lv_istore_n (lv' := [(2, .int (0 : Int32)), (0, .ref (q_this 0)), (1, .int x1)]) hx hb dX13_mirrors_13 rfl hl (by decide) rfl (fun ls hl => ?_)
        exact hL14 k2 hk2 N o_this x1 (0 : Int32) _ _ _ hP hD hS (lv_sub hl [1, 2, 0] rfl) hf
  unfold ff_X13_mirrors at hf
  refine lv_iconst (v := 0) hx hb dX13_mirrors_0 (by decide) ?_
  refine lv_istore_n (lv' := [(1, .int (0 : Int32)), (0, .ref (q_this 0))]) hx hb dX13_mirrors_1 rfl hl (by decide) rfl (fun ls hl => ?_)
  exact hL2 N o_this (0 : Int32) _ _ _ hP hD hS (lv_sub hl [1, 0] rfl) hf
def ff_X13_mirror (N : Nat) (o_this : os_T) : Option (Int32 × os_T) :=
  ((ff_X13_laysAside N (ss_I o_this 0 (0 : Int32))).bind fun u_1 => ((ff_X13_mirrors N u_1).bind fun u_3 => ((ff_X13_keeps N u_3).bind fun u_5 => some (u_5.1, u_5.2))))
set_option maxHeartbeats 4000000 in
set_option maxRecDepth 100000 in
theorem mm_X13_mirror (l : Launch) (D : va_G) (kA : Nat → ClassId) (N : Nat) (q_this : Nat → Nat) (o_this : os_T) (out : (Int32 × os_T)) (hf : ff_X13_mirror N o_this = some out) : mc_C l D kA yX13_mirror wsX13_mirror ({ frames := 2, cells := 0, slots := 0, locals := 43 } : Room) [.ref (q_this 0)] (ce_X13 kA q_this o_this) (some (.int out.1)) (ce_X13 kA q_this out.2) := by
  refine mc_of (cc := cX13_mirror) (maxL := 1) (ret := (some .int)) (by decide) rfl (Nat.le_of_ble_eq_true rfl) ?_
  intro p e s m below meth c A B hD hP hS ls hl
  obtain ⟨hx, hb, hr, hlk, hml, hown, hts, hK, hA, hnm⟩ := B
  have hown : s.vm.findClass RX13 = some m.cls := hown
  have hl : lv_has ls 1 [(0, .ref (q_this 0))] := hl
  have hUX13 : ∀ w ∈ u_ws RX13 TX13 48, w.before [.ref (q_this 0)].toArray s = true := fun w h => hts w (List.mem_cons_of_mem _ (List.mem_append_right _ h))
  unfold ff_X13_mirror at hf
  refine lv_aload_n hx hb dX13_mirror_0 rfl (lv_at hl 0 rfl) ?_
  refine lv_iconst (v := 0) hx hb dX13_mirror_1 (by decide) ?_
  refine va_put (D := D) (ci := 9) (v := .int (0 : Int32)) (ty := .int) (C := RX13) (T := TX13) (N := 48) hx hb hUX13 (fun _ h9 => h9) tyX13 tyX13_ok nmX13 hown hK hP hD hS 0 rfl rfl 0 (by decide) (hts (Cond.fieldLink RX13 93 "ReliefBuilderModel" "code" "I") (List.mem_of_getElem? (i := 1) rfl)) (fun _ h9 => h9) rfl (tyX13_ok 0 (by decide)) rfl rfl (Nat.le_of_ble_eq_true rfl) dX13_mirror_2 (fun H locs hP hD hS => ?_)
  have hP : va_P D vwCl (ce_X13 kA q_this (ss_I o_this 0 (0 : Int32))) H := hP
  have hD : va_D A (ce_X13 kA q_this (ss_I o_this 0 (0 : Int32))) := hD
  refine lv_aload_n hx hb dX13_mirror_5 rfl (lv_at hl 0 rfl) ?_
  obtain ⟨u_1, he_2, hf⟩ := os_bd hf
  refine mc_callV ⟨hx, hb, hml, hown, hts⟩ (mm_X13_laysAside l D kA N q_this (ss_I o_this 0 (0 : Int32)) u_1 he_2) (cwV 0 hts gX13_mirror_X13_laysAside rfl rfl rfl (by decide +kernel) ⟨Nat.le_of_ble_eq_true rfl, Nat.le_of_ble_eq_true rfl⟩) (wc := (ce_X13 kA q_this (ss_I o_this 0 (0 : Int32)))) (ci := 9) (q0 := 0) rfl rfl rfl hl.1 (As := []) (rest := []) rfl (Nat.le_of_ble_eq_true rfl) dX13_mirror_6 ⟨Nat.le_of_ble_eq_true rfl, Nat.le_of_ble_eq_true rfl⟩ hK hP hD hS hA [0, 1, 2, 3, 4, 5, 6, 7, 8, 9, 10, 11, 12, 13, 14, 15, 16, 17, 18, 19, 20, 21, 22, 23] [] [0, 1, 2, 3, 4, 5, 6, 7, 8, 9, 10, 11, 12, 13, 14, 15, 16, 17, 18, 19, 20, 21, 22, 23] rfl (by decide) rfl (by decide) (by decide) rfl (by decide) (wr := []) (w2 := (ce_X13 kA q_this u_1)) (fun H locs hP hD hS => ?_)
  have hP : va_P D vwCl (ce_X13 kA q_this u_1) H := hP
  refine lv_aload_n hx hb dX13_mirror_9 rfl (lv_at hl 0 rfl) ?_
  obtain ⟨u_3, he_4, hf⟩ := os_bd hf
  refine mc_callV ⟨hx, hb, hml, hown, hts⟩ (mm_X13_mirrors l D kA N q_this u_1 u_3 he_4) (cwV 0 hts gX13_mirror_X13_mirrors rfl rfl rfl (by decide +kernel) ⟨Nat.le_of_ble_eq_true rfl, Nat.le_of_ble_eq_true rfl⟩) (wc := (ce_X13 kA q_this u_1)) (ci := 9) (q0 := 0) rfl rfl rfl hl.1 (As := []) (rest := []) rfl (Nat.le_of_ble_eq_true rfl) dX13_mirror_10 ⟨Nat.le_of_ble_eq_true rfl, Nat.le_of_ble_eq_true rfl⟩ hK hP hD hS hA [0, 1, 2, 3, 4, 5, 6, 7, 8, 9, 10, 11, 12, 13, 14, 15, 16, 17, 18, 19, 20, 21, 22, 23] [] [0, 1, 2, 3, 4, 5, 6, 7, 8, 9, 10, 11, 12, 13, 14, 15, 16, 17, 18, 19, 20, 21, 22, 23] rfl (by decide) rfl (by decide) (by decide) rfl (by decide) (wr := []) (w2 := (ce_X13 kA q_this u_3)) (fun H locs hP hD hS => ?_)
  have hP : va_P D vwCl (ce_X13 kA q_this u_3) H := hP
  refine lv_aload_n hx hb dX13_mirror_13 rfl (lv_at hl 0 rfl) ?_
  obtain ⟨u_5, he_6, hf⟩ := os_bd hf
  refine mc_callV ⟨hx, hb, hml, hown, hts⟩ (mm_X13_keeps l D kA N q_this u_3 u_5 he_6) (cwV 0 hts gX13_mirror_X13_keeps rfl rfl rfl (by decide +kernel) ⟨Nat.le_of_ble_eq_true rfl, Nat.le_of_ble_eq_true rfl⟩) (wc := (ce_X13 kA q_this u_3)) (ci := 9) (q0 := 0) rfl rfl rfl hl.1 (As := []) (rest := []) rfl (Nat.le_of_ble_eq_true rfl) dX13_mirror_14 ⟨Nat.le_of_ble_eq_true rfl, Nat.le_of_ble_eq_true rfl⟩ hK hP hD hS hA [0, 1, 2, 3, 4, 5, 6, 7, 8, 9, 10, 11, 12, 13, 14, 15, 16, 17, 18, 19, 20, 21, 22, 23] [] [0, 1, 2, 3, 4, 5, 6, 7, 8, 9, 10, 11, 12, 13, 14, 15, 16, 17, 18, 19, 20, 21, 22, 23] rfl (by decide) rfl (by decide) (by decide) rfl (by decide) (wr := []) (w2 := (ce_X13 kA q_this u_5.2)) (fun H locs hP hD hS => ?_)
  have hP : va_P D vwCl (ce_X13 kA q_this u_5.2) H := hP
  rw [← Option.some.inj hf]
  exact mc_reti hx hb hr hlk hP hK hD hS dX13_mirror_17
def ff_X13_isPlace (N : Nat) (a0 : Int32) (a1 : Int32) : Option Int32 :=
  ((ff_X13_isIn N (Int32.toInt64 a0) (0 : Int64) (2 : Int64)).bind fun u_1 => (if u_1 = 0 then some (0 : Int32) else ((ff_X13_isIn N (Int32.toInt64 a1) (0 : Int64) (3 : Int64)).bind fun u_4 => (if u_4 = 0 then some (0 : Int32) else some (1 : Int32)))))
set_option maxHeartbeats 4000000 in
set_option maxRecDepth 100000 in
theorem mm_X13_isPlace (l : Launch) (D : va_G) (kA : Nat → ClassId) (N : Nat) (a0 : Int32) (a1 : Int32) (out : Int32) (hf : ff_X13_isPlace N a0 a1 = some out) : mc_C l D kA yX13_isPlace wsX13_isPlace ({ frames := 1, cells := 0, slots := 0, locals := 25 } : Room) [.int a0, .int a1] [] (some (.int out)) [] := by
  refine mc_of (cc := cX13_isPlace) (maxL := 2) (ret := (some .boolean)) (by decide) rfl (Nat.le_of_ble_eq_true rfl) ?_
  intro p e s m below meth c A B hD hP hS ls hl
  obtain ⟨hx, hb, hr, hlk, hml, hown, hts, hK, hA, hnm⟩ := B
  have hown : s.vm.findClass RX13 = some m.cls := hown
  have hl : lv_has ls 2 [(0, .int a0), (1, .int a1)] := hl
  unfold ff_X13_isPlace at hf
  refine lv_iload_n hx hb dX13_isPlace_0 rfl (lv_at hl 0 rfl) ?_
  refine lv_i2l hx hb dX13_isPlace_1 rfl ?_
  refine lv_lconst (v := 0) hx hb dX13_isPlace_2 (by decide) ?_
  refine lv_ldc2 hx hb hown (hts (Cond.constantLong RX13 417 (2)) (List.mem_of_getElem? (i := 1) rfl)) dX13_isPlace_3 ?_
  obtain ⟨u_1, he_2, hf⟩ := os_bd hf
  refine mc_callS ⟨hx, hb, hml, hown, hts⟩ (mm_X13_isIn l D kA N (Int32.toInt64 a0) (0 : Int64) (2 : Int64) u_1 he_2) (va_cwS 3 hts gX13_isPlace_X13_isIn rfl rfl rfl (by decide +kernel) ⟨Nat.le_of_ble_eq_true rfl, Nat.le_of_ble_eq_true rfl⟩) (wc := []) rfl hl.1 (As := [.long (Int32.toInt64 a0), .long (0 : Int64), .long (2 : Int64)]) (rest := []) rfl (Nat.le_of_ble_eq_true rfl) dX13_isPlace_6 ⟨Nat.le_of_ble_eq_true rfl, Nat.le_of_ble_eq_true rfl⟩ hK hP hD hS hA [] [] [] rfl (by decide) rfl (by decide) (by decide) rfl (by decide) (wr := []) (w2 := []) (fun H locs hP hD hS => ?_)
  have hP : va_P D vwCl [] H := hP
  refine lv_if_eq (tgt := 28) hx hb dX13_isPlace_9 (by decide) (fun hc_3 => ?_) (fun hc_3 => ?_)
  · rw [if_pos hc_3] at hf
    refine lv_iconst (v := 0) hx hb dX13_isPlace_28 (by decide) ?_
    rw [← Option.some.inj hf]
    exact mc_retz (v := 0) hx hb hr rfl hlk hP hK hD hS dX13_isPlace_29
  · rw [if_neg hc_3] at hf
    refine lv_iload_n hx hb dX13_isPlace_12 rfl (lv_at hl 1 rfl) ?_
    refine lv_i2l hx hb dX13_isPlace_13 rfl ?_
    refine lv_lconst (v := 0) hx hb dX13_isPlace_14 (by decide) ?_
    refine lv_ldc2 hx hb hown (hts (Cond.constantLong RX13 349 (3)) (List.mem_of_getElem? (i := 2) rfl)) dX13_isPlace_15 ?_
    obtain ⟨u_4, he_5, hf⟩ := os_bd hf
    refine mc_callS ⟨hx, hb, hml, hown, hts⟩ (mm_X13_isIn l D kA N (Int32.toInt64 a1) (0 : Int64) (3 : Int64) u_4 he_5) (va_cwS 3 hts gX13_isPlace_X13_isIn rfl rfl rfl (by decide +kernel) ⟨Nat.le_of_ble_eq_true rfl, Nat.le_of_ble_eq_true rfl⟩) (wc := []) rfl hl.1 (As := [.long (Int32.toInt64 a1), .long (0 : Int64), .long (3 : Int64)]) (rest := []) rfl (Nat.le_of_ble_eq_true rfl) dX13_isPlace_18 ⟨Nat.le_of_ble_eq_true rfl, Nat.le_of_ble_eq_true rfl⟩ hK hP hD hS hA [] [] [] rfl (by decide) rfl (by decide) (by decide) rfl (by decide) (wr := []) (w2 := []) (fun H locs hP hD hS => ?_)
    have hP : va_P D vwCl [] H := hP
    refine lv_if_eq (tgt := 28) hx hb dX13_isPlace_21 (by decide) (fun hc_6 => ?_) (fun hc_6 => ?_)
    · rw [if_pos hc_6] at hf
      refine lv_iconst (v := 0) hx hb dX13_isPlace_28 (by decide) ?_
      rw [← Option.some.inj hf]
      exact mc_retz (v := 0) hx hb hr rfl hlk hP hK hD hS dX13_isPlace_29
    · rw [if_neg hc_6] at hf
      refine lv_iconst (v := 1) hx hb dX13_isPlace_24 (by decide) ?_
      refine lv_goto (tgt := 29) hx hb dX13_isPlace_25 (by decide) ?_
      rw [← Option.some.inj hf]
      exact mc_retz (v := 1) hx hb hr rfl hlk hP hK hD hS dX13_isPlace_29
def ff_X13_takes_b10 (N : Nat) : Option Int32 :=
  some (1 : Int32)
def ff_X13_takes (N : Nat) (a0 : Int32) (a1 : Int32) : Option Int32 :=
  (if a0 = (2 : Int32) then ff_X13_takes_b10 N else (if a0 = a1 then ff_X13_takes_b10 N else some (0 : Int32)))
set_option maxHeartbeats 4000000 in
set_option maxRecDepth 100000 in
theorem mm_X13_takes (l : Launch) (D : va_G) (kA : Nat → ClassId) (N : Nat) (a0 : Int32) (a1 : Int32) (out : Int32) (hf : ff_X13_takes N a0 a1 = some out) : mc_C l D kA yX13_takes wsX13_takes ({ frames := 0, cells := 0, slots := 0, locals := 0 } : Room) [.int a0, .int a1] [] (some (.int out)) [] := by
  refine mc_of (cc := cX13_takes) (maxL := 2) (ret := (some .boolean)) (by decide) rfl (Nat.le_of_ble_eq_true rfl) ?_
  intro p e s m below meth c A B hD hP hS ls hl
  obtain ⟨hx, hb, hr, hlk, hml, hown, hts, hK, hA, hnm⟩ := B
  have hown : s.vm.findClass RX13 = some m.cls := hown
  have hl : lv_has ls 2 [(0, .int a0), (1, .int a1)] := hl
  have hB10 : ∀ (H : Heap) (locs : List Loc) (ls : Array Slot), va_P D vwCl [] H → va_D A [] → va_S A s.heap H locs → lv_has ls 2 [] → ff_X13_takes_b10 N = some out → W p l e ({ frames := 0, cells := 0, slots := 0, locals := 0 } : Room) s m [.int a0, .int a1].toArray below meth c H locs 0 0 (MQ below (mc_Q D kA A (some (.int out)) []) [.int a0, .int a1].toArray s 0 0 A) (F0 m 10 ls []) := by
    intro H locs ls hP hD hS hl hf
    unfold ff_X13_takes_b10 at hf
    refine lv_iconst (v := 1) hx hb dX13_takes_10 (by decide) ?_
    refine lv_goto (tgt := 15) hx hb dX13_takes_11 (by decide) ?_
    rw [← Option.some.inj hf]
    exact mc_retz (v := 1) hx hb hr rfl hlk hP hK hD hS dX13_takes_15
  unfold ff_X13_takes at hf
  refine lv_iload_n hx hb dX13_takes_0 rfl (lv_at hl 0 rfl) ?_
  refine lv_iconst (v := 2) hx hb dX13_takes_1 (by decide) ?_
  refine lv_icmp_eq (tgt := 10) hx hb dX13_takes_2 (by decide) (fun hc_1 => ?_) (fun hc_1 => ?_)
  · rw [if_pos hc_1] at hf
    exact hB10 _ _ _ hP hD hS (lv_sub hl [] rfl) hf
  · rw [if_neg hc_1] at hf
    refine lv_iload_n hx hb dX13_takes_5 rfl (lv_at hl 0 rfl) ?_
    refine lv_iload_n hx hb dX13_takes_6 rfl (lv_at hl 1 rfl) ?_
    refine lv_icmp_ne (tgt := 14) hx hb dX13_takes_7 (by decide) (fun hc_2 => ?_) (fun hc_2 => ?_)
    · rw [if_neg hc_2] at hf
      refine lv_iconst (v := 0) hx hb dX13_takes_14 (by decide) ?_
      rw [← Option.some.inj hf]
      exact mc_retz (v := 0) hx hb hr rfl hlk hP hK hD hS dX13_takes_15
    · rw [if_pos hc_2] at hf
      exact hB10 _ _ _ hP hD hS (lv_sub hl [] rfl) hf
def ff_X13_putStamp_b59 (N : Nat) (o_this : os_T) (x1 : Int32) (x2 : Int32) (x3 : Int32) (x4 : Int32) (x5 : Int32) (t0 : Int32) : Option (Int32 × os_T) :=
  (if 0 < t0 then some ((0 : Int32), ss_I o_this 0 t0) else ((ff_X13_takes N x1 x3).bind fun u_16 => (if u_16 = 0 then some ((0 : Int32), ss_I o_this 0 t0) else (if os_in (((4 : Int32) * x1) + x2) 12 then some ((1 : Int32), ss_I (ss_A o_this 12 (upd (os_A o_this 12) (Int32.toNatClampNeg (((4 : Int32) * x1) + x2)) ((((1000 : Int32) * x3) + ((100 : Int32) * x4)) + x5))) 0 t0) else none))))
def ff_X13_putStamp_b54 (N : Nat) (o_this : os_T) (x1 : Int32) (x2 : Int32) (x3 : Int32) (x4 : Int32) (x5 : Int32) (t0 : Int32) : Option (Int32 × os_T) :=
  ((ff_X13_truth N t0).bind fun u_13 => ff_X13_putStamp_b59 N o_this x1 x2 x3 x4 x5 (u_13 * (2 : Int32)))
def ff_X13_putStamp_b49 (N : Nat) (o_this : os_T) (x1 : Int32) (x2 : Int32) (x3 : Int32) (x4 : Int32) (x5 : Int32) : Option (Int32 × os_T) :=
  ff_X13_putStamp_b54 N o_this x1 x2 x3 x4 x5 (1 : Int32)
def ff_X13_putStamp (N : Nat) (o_this : os_T) (a1 : Int32) (a2 : Int32) (a3 : Int32) (a4 : Int32) (a5 : Int32) : Option (Int32 × os_T) :=
  ((ff_X13_isPlace N a1 a2).bind fun u_1 => (if u_1 = 0 then ff_X13_putStamp_b59 N o_this a1 a2 a3 a4 a5 (1 : Int32) else ((ff_X13_isIn N (Int32.toInt64 a3) (0 : Int64) (1 : Int64)).bind fun u_4 => (if u_4 = 0 then ff_X13_putStamp_b49 N o_this a1 a2 a3 a4 a5 else ((ff_X13_isIn N (Int32.toInt64 a4) (1 : Int64) (6 : Int64)).bind fun u_7 => (if u_7 = 0 then ff_X13_putStamp_b49 N o_this a1 a2 a3 a4 a5 else ((ff_X13_isIn N (Int32.toInt64 a5) (1 : Int64) (20 : Int64)).bind fun u_10 => (if u_10 = 0 then ff_X13_putStamp_b49 N o_this a1 a2 a3 a4 a5 else ff_X13_putStamp_b54 N o_this a1 a2 a3 a4 a5 (0 : Int32)))))))))
set_option maxHeartbeats 4000000 in
set_option maxRecDepth 100000 in
theorem mm_X13_putStamp (l : Launch) (D : va_G) (kA : Nat → ClassId) (N : Nat) (q_this : Nat → Nat) (o_this : os_T) (a1 : Int32) (a2 : Int32) (a3 : Int32) (a4 : Int32) (a5 : Int32) (out : (Int32 × os_T)) (hf : ff_X13_putStamp N o_this a1 a2 a3 a4 a5 = some out) : mc_C l D kA yX13_putStamp wsX13_putStamp ({ frames := 2, cells := 0, slots := 0, locals := 46 } : Room) [.ref (q_this 0), .int a1, .int a2, .int a3, .int a4, .int a5] (ce_X13 kA q_this o_this) (some (.int out.1)) (ce_X13 kA q_this out.2) := by
  refine mc_of (cc := cX13_putStamp) (maxL := 6) (ret := (some .boolean)) (by decide) rfl (Nat.le_of_ble_eq_true rfl) ?_
  intro p e s m below meth c A B hD hP hS ls hl
  obtain ⟨hx, hb, hr, hlk, hml, hown, hts, hK, hA, hnm⟩ := B
  have hown : s.vm.findClass RX13 = some m.cls := hown
  have hl : lv_has ls 6 [(0, .ref (q_this 0)), (1, .int a1), (2, .int a2), (3, .int a3), (4, .int a4), (5, .int a5)] := hl
  have hUX13 : ∀ w ∈ u_ws RX13 TX13 48, w.before [.ref (q_this 0), .int a1, .int a2, .int a3, .int a4, .int a5].toArray s = true := fun w h => hts w (List.mem_cons_of_mem _ (List.mem_append_right _ h))
  have hB59 : ∀ (o_this : os_T) (x1 : Int32) (x2 : Int32) (x3 : Int32) (x4 : Int32) (x5 : Int32) (t0 : Int32) (H : Heap) (locs : List Loc) (ls : Array Slot), va_P D vwCl (ce_X13 kA q_this o_this) H → va_D A (ce_X13 kA q_this o_this) → va_S A s.heap H locs → lv_has ls 6 [(0, .ref (q_this 0)), (1, .int x1), (2, .int x2), (3, .int x3), (4, .int x4), (5, .int x5)] → ff_X13_putStamp_b59 N o_this x1 x2 x3 x4 x5 t0 = some out → W p l e ({ frames := 2, cells := 0, slots := 0, locals := 46 } : Room) s m [.ref (q_this 0), .int a1, .int a2, .int a3, .int a4, .int a5].toArray below meth c H locs 0 0 (MQ below (mc_Q D kA A (some (.int out.1)) (ce_X13 kA q_this out.2)) [.ref (q_this 0), .int a1, .int a2, .int a3, .int a4, .int a5].toArray s 0 0 A) (F0 m 59 ls [.int t0, .ref (q_this 0)]) := by
    intro o_this x1 x2 x3 x4 x5 t0 H locs ls hP hD hS hl hf
    unfold ff_X13_putStamp_b59 at hf
    refine va_put (D := D) (ci := 9) (v := .int t0) (ty := .int) (C := RX13) (T := TX13) (N := 48) hx hb hUX13 (fun _ h9 => h9) tyX13 tyX13_ok nmX13 hown hK hP hD hS 0 rfl rfl 0 (by decide) (hts (Cond.fieldLink RX13 93 "ReliefBuilderModel" "code" "I") (List.mem_of_getElem? (i := 3) rfl)) (fun _ h9 => h9) rfl (tyX13_ok 0 (by decide)) rfl rfl (Nat.le_of_ble_eq_true rfl) dX13_putStamp_59 (fun H locs hP hD hS => ?_)
    have hP : va_P D vwCl (ce_X13 kA q_this (ss_I o_this 0 t0)) H := hP
    have hD : va_D A (ce_X13 kA q_this (ss_I o_this 0 t0)) := hD
    refine lv_aload_n hx hb dX13_putStamp_62 rfl (lv_at hl 0 rfl) ?_
    refine va_get (D := D) (ci := 9) (v := .int t0) (C := RX13) (T := TX13) (N := 48) hx hb hUX13 (fun _ h9 => h9) hown hK hP 0 rfl rfl 0 (by decide) (hts (Cond.fieldLink RX13 93 "ReliefBuilderModel" "code" "I") (List.mem_of_getElem? (i := 3) rfl)) (fun _ h9 => h9) rfl dX13_putStamp_63 ?_
    refine lv_if_gt (tgt := 77) hx hb dX13_putStamp_66 (by decide) (fun hc_15 => ?_) (fun hc_15 => ?_)
    · rw [if_pos hc_15] at hf
      refine lv_iconst (v := 0) hx hb dX13_putStamp_77 (by decide) ?_
      rw [← Option.some.inj hf]
      exact mc_retz (v := 0) hx hb hr rfl hlk hP hK hD hS dX13_putStamp_78
    · rw [if_neg hc_15] at hf
      refine lv_iload_n hx hb dX13_putStamp_69 rfl (lv_at hl 1 rfl) ?_
      refine lv_iload_n hx hb dX13_putStamp_70 rfl (lv_at hl 3 rfl) ?_
      obtain ⟨u_16, he_17, hf⟩ := os_bd hf
      refine mc_callS ⟨hx, hb, hml, hown, hts⟩ (mm_X13_takes l D kA N x1 x3 u_16 he_17) (va_cwS 2 hts gX13_putStamp_X13_takes rfl rfl rfl (by decide +kernel) ⟨Nat.le_of_ble_eq_true rfl, Nat.le_of_ble_eq_true rfl⟩) (wc := []) rfl hl.1 (As := [.int x1, .int x3]) (rest := []) rfl (Nat.le_of_ble_eq_true rfl) dX13_putStamp_71 ⟨Nat.le_of_ble_eq_true rfl, Nat.le_of_ble_eq_true rfl⟩ hK hP hD hS hA [] [0, 1, 2, 3, 4, 5, 6, 7, 8, 9, 10, 11, 12, 13, 14, 15, 16, 17, 18, 19, 20, 21, 22, 23] [0, 1, 2, 3, 4, 5, 6, 7, 8, 9, 10, 11, 12, 13, 14, 15, 16, 17, 18, 19, 20, 21, 22, 23] rfl (by decide) rfl (by decide) (by decide) rfl (by decide) (wr := (ce_X13 kA q_this (ss_I o_this 0 t0))) (w2 := (ce_X13 kA q_this (ss_I o_this 0 t0))) (fun H locs hP hD hS => ?_)
      have hP : va_P D vwCl (ce_X13 kA q_this (ss_I o_this 0 t0)) H := hP
      refine lv_if_ne (tgt := 79) hx hb dX13_putStamp_74 (by decide) (fun hc_18 => ?_) (fun hc_18 => ?_)
      · rw [if_neg hc_18] at hf
        refine lv_aload_n hx hb dX13_putStamp_79 rfl (lv_at hl 0 rfl) ?_
        refine va_get (D := D) (ci := 9) (v := .ref (q_this 13)) (C := RX13) (T := TX13) (N := 48) hx hb hUX13 (fun _ h9 => h9) hown hK hP 0 rfl rfl 31 (by decide) (hts (Cond.fieldLink RX13 54 "ReliefBuilderModel" "stamps" "[I") (List.mem_of_getElem? (i := 4) rfl)) (fun _ h9 => h9) rfl dX13_putStamp_80 ?_
        refine lv_iconst (v := 4) hx hb dX13_putStamp_83 (by decide) ?_
        refine lv_iload_n hx hb dX13_putStamp_84 rfl (lv_at hl 1 rfl) ?_
        refine lv_imul hx hb dX13_putStamp_85 ?_
        refine lv_iload_n hx hb dX13_putStamp_86 rfl (lv_at hl 2 rfl) ?_
        refine lv_iadd hx hb dX13_putStamp_87 ?_
        refine lv_sipush (v := 1000) hx hb dX13_putStamp_88 (by decide) ?_
        refine lv_iload_n hx hb dX13_putStamp_91 rfl (lv_at hl 3 rfl) ?_
        refine lv_imul hx hb dX13_putStamp_92 ?_
        refine lv_bipush (v := 100) hx hb dX13_putStamp_93 (by decide) ?_
        refine lv_iload hx hb dX13_putStamp_95 (lv_at hl 4 rfl) ?_
        refine lv_imul hx hb dX13_putStamp_97 ?_
        refine lv_iadd hx hb dX13_putStamp_98 ?_
        refine lv_iload hx hb dX13_putStamp_99 (lv_at hl 5 rfl) ?_
        refine lv_iadd hx hb dX13_putStamp_101 ?_
        obtain ⟨hi_19, hf⟩ := os_if hf
        refine va_iast hx hb hK hP hD hS 13 0 rfl rfl hi_19 dX13_putStamp_102 (fun H locs hP hD hS => ?_)
        have hP : va_P D vwCl (ce_X13 kA q_this (ss_I (ss_A o_this 12 (upd (os_A o_this 12) (Int32.toNatClampNeg (((4 : Int32) * x1) + x2)) ((((1000 : Int32) * x3) + ((100 : Int32) * x4)) + x5))) 0 t0)) H := hP
        have hD : va_D A (ce_X13 kA q_this (ss_I (ss_A o_this 12 (upd (os_A o_this 12) (Int32.toNatClampNeg (((4 : Int32) * x1) + x2)) ((((1000 : Int32) * x3) + ((100 : Int32) * x4)) + x5))) 0 t0)) := hD
        refine lv_iconst (v := 1) hx hb dX13_putStamp_103 (by decide) ?_
        rw [← Option.some.inj hf]
        exact mc_retz (v := 1) hx hb hr rfl hlk hP hK hD hS dX13_putStamp_104
      · rw [if_pos hc_18] at hf
        refine lv_iconst (v := 0) hx hb dX13_putStamp_77 (by decide) ?_
        rw [← Option.some.inj hf]
        exact mc_retz (v := 0) hx hb hr rfl hlk hP hK hD hS dX13_putStamp_78
  have hB54 : ∀ (o_this : os_T) (x1 : Int32) (x2 : Int32) (x3 : Int32) (x4 : Int32) (x5 : Int32) (t0 : Int32) (H : Heap) (locs : List Loc) (ls : Array Slot), va_P D vwCl (ce_X13 kA q_this o_this) H → va_D A (ce_X13 kA q_this o_this) → va_S A s.heap H locs → lv_has ls 6 [(0, .ref (q_this 0)), (1, .int x1), (2, .int x2), (3, .int x3), (4, .int x4), (5, .int x5)] → ff_X13_putStamp_b54 N o_this x1 x2 x3 x4 x5 t0 = some out → W p l e ({ frames := 2, cells := 0, slots := 0, locals := 46 } : Room) s m [.ref (q_this 0), .int a1, .int a2, .int a3, .int a4, .int a5].toArray below meth c H locs 0 0 (MQ below (mc_Q D kA A (some (.int out.1)) (ce_X13 kA q_this out.2)) [.ref (q_this 0), .int a1, .int a2, .int a3, .int a4, .int a5].toArray s 0 0 A) (F0 m 54 ls [.int t0, .ref (q_this 0)]) := by
    intro o_this x1 x2 x3 x4 x5 t0 H locs ls hP hD hS hl hf
    unfold ff_X13_putStamp_b54 at hf
    obtain ⟨u_13, he_14, hf⟩ := os_bd hf
    refine mc_callS ⟨hx, hb, hml, hown, hts⟩ (mm_X13_truth l D kA N t0 u_13 he_14) (va_cwS 1 hts gX13_putStamp_X13_truth rfl rfl rfl (by decide +kernel) ⟨Nat.le_of_ble_eq_true rfl, Nat.le_of_ble_eq_true rfl⟩) (wc := []) rfl hl.1 (As := [.int t0]) (rest := [.ref (q_this 0)]) rfl (Nat.le_of_ble_eq_true rfl) dX13_putStamp_54 ⟨Nat.le_of_ble_eq_true rfl, Nat.le_of_ble_eq_true rfl⟩ hK hP hD hS hA [] [0, 1, 2, 3, 4, 5, 6, 7, 8, 9, 10, 11, 12, 13, 14, 15, 16, 17, 18, 19, 20, 21, 22, 23] [0, 1, 2, 3, 4, 5, 6, 7, 8, 9, 10, 11, 12, 13, 14, 15, 16, 17, 18, 19, 20, 21, 22, 23] rfl (by decide) rfl (by decide) (by decide) rfl (by decide) (wr := (ce_X13 kA q_this o_this)) (w2 := (ce_X13 kA q_this o_this)) (fun H locs hP hD hS => ?_)
    have hP : va_P D vwCl (ce_X13 kA q_this o_this) H := hP
    refine lv_iconst (v := 2) hx hb dX13_putStamp_57 (by decide) ?_
    refine lv_imul hx hb dX13_putStamp_58 ?_
    exact hB59 o_this x1 x2 x3 x4 x5 (u_13 * (2 : Int32)) _ _ _ hP hD hS (lv_sub hl [0, 1, 2, 3, 4, 5] rfl) hf
  have hB49 : ∀ (o_this : os_T) (x1 : Int32) (x2 : Int32) (x3 : Int32) (x4 : Int32) (x5 : Int32) (H : Heap) (locs : List Loc) (ls : Array Slot), va_P D vwCl (ce_X13 kA q_this o_this) H → va_D A (ce_X13 kA q_this o_this) → va_S A s.heap H locs → lv_has ls 6 [(0, .ref (q_this 0)), (1, .int x1), (2, .int x2), (3, .int x3), (4, .int x4), (5, .int x5)] → ff_X13_putStamp_b49 N o_this x1 x2 x3 x4 x5 = some out → W p l e ({ frames := 2, cells := 0, slots := 0, locals := 46 } : Room) s m [.ref (q_this 0), .int a1, .int a2, .int a3, .int a4, .int a5].toArray below meth c H locs 0 0 (MQ below (mc_Q D kA A (some (.int out.1)) (ce_X13 kA q_this out.2)) [.ref (q_this 0), .int a1, .int a2, .int a3, .int a4, .int a5].toArray s 0 0 A) (F0 m 49 ls [.ref (q_this 0)]) := by
    intro o_this x1 x2 x3 x4 x5 H locs ls hP hD hS hl hf
    unfold ff_X13_putStamp_b49 at hf
    refine lv_iconst (v := 1) hx hb dX13_putStamp_49 (by decide) ?_
    refine lv_goto (tgt := 54) hx hb dX13_putStamp_50 (by decide) ?_
    exact hB54 o_this x1 x2 x3 x4 x5 (1 : Int32) _ _ _ hP hD hS (lv_sub hl [0, 1, 2, 3, 4, 5] rfl) hf
  unfold ff_X13_putStamp at hf
  refine lv_aload_n hx hb dX13_putStamp_0 rfl (lv_at hl 0 rfl) ?_
  refine lv_iload_n hx hb dX13_putStamp_1 rfl (lv_at hl 1 rfl) ?_
  refine lv_iload_n hx hb dX13_putStamp_2 rfl (lv_at hl 2 rfl) ?_
  obtain ⟨u_1, he_2, hf⟩ := os_bd hf
  refine mc_callS ⟨hx, hb, hml, hown, hts⟩ (mm_X13_isPlace l D kA N a1 a2 u_1 he_2) (va_cwS 2 hts gX13_putStamp_X13_isPlace rfl rfl rfl (by decide +kernel) ⟨Nat.le_of_ble_eq_true rfl, Nat.le_of_ble_eq_true rfl⟩) (wc := []) rfl hl.1 (As := [.int a1, .int a2]) (rest := [.ref (q_this 0)]) rfl (Nat.le_of_ble_eq_true rfl) dX13_putStamp_3 ⟨Nat.le_of_ble_eq_true rfl, Nat.le_of_ble_eq_true rfl⟩ hK hP hD hS hA [] [0, 1, 2, 3, 4, 5, 6, 7, 8, 9, 10, 11, 12, 13, 14, 15, 16, 17, 18, 19, 20, 21, 22, 23] [0, 1, 2, 3, 4, 5, 6, 7, 8, 9, 10, 11, 12, 13, 14, 15, 16, 17, 18, 19, 20, 21, 22, 23] rfl (by decide) rfl (by decide) (by decide) rfl (by decide) (wr := (ce_X13 kA q_this o_this)) (w2 := (ce_X13 kA q_this o_this)) (fun H locs hP hD hS => ?_)
  have hP : va_P D vwCl (ce_X13 kA q_this o_this) H := hP
  refine lv_if_ne (tgt := 13) hx hb dX13_putStamp_6 (by decide) (fun hc_3 => ?_) (fun hc_3 => ?_)
  · rw [if_neg hc_3] at hf
    refine lv_iload_n hx hb dX13_putStamp_13 rfl (lv_at hl 3 rfl) ?_
    refine lv_i2l hx hb dX13_putStamp_14 rfl ?_
    refine lv_lconst (v := 0) hx hb dX13_putStamp_15 (by decide) ?_
    refine lv_lconst (v := 1) hx hb dX13_putStamp_16 (by decide) ?_
    obtain ⟨u_4, he_5, hf⟩ := os_bd hf
    refine mc_callS ⟨hx, hb, hml, hown, hts⟩ (mm_X13_isIn l D kA N (Int32.toInt64 a3) (0 : Int64) (1 : Int64) u_4 he_5) (va_cwS 3 hts gX13_putStamp_X13_isIn rfl rfl rfl (by decide +kernel) ⟨Nat.le_of_ble_eq_true rfl, Nat.le_of_ble_eq_true rfl⟩) (wc := []) rfl hl.1 (As := [.long (Int32.toInt64 a3), .long (0 : Int64), .long (1 : Int64)]) (rest := [.ref (q_this 0)]) rfl (Nat.le_of_ble_eq_true rfl) dX13_putStamp_17 ⟨Nat.le_of_ble_eq_true rfl, Nat.le_of_ble_eq_true rfl⟩ hK hP hD hS hA [] [0, 1, 2, 3, 4, 5, 6, 7, 8, 9, 10, 11, 12, 13, 14, 15, 16, 17, 18, 19, 20, 21, 22, 23] [0, 1, 2, 3, 4, 5, 6, 7, 8, 9, 10, 11, 12, 13, 14, 15, 16, 17, 18, 19, 20, 21, 22, 23] rfl (by decide) rfl (by decide) (by decide) rfl (by decide) (wr := (ce_X13 kA q_this o_this)) (w2 := (ce_X13 kA q_this o_this)) (fun H locs hP hD hS => ?_)
    have hP : va_P D vwCl (ce_X13 kA q_this o_this) H := hP
    refine lv_if_eq (tgt := 49) hx hb dX13_putStamp_20 (by decide) (fun hc_6 => ?_) (fun hc_6 => ?_)
    · rw [if_pos hc_6] at hf
      exact hB49 o_this a1 a2 a3 a4 a5 _ _ _ hP hD hS (lv_sub hl [0, 1, 2, 3, 4, 5] rfl) hf
    · rw [if_neg hc_6] at hf
      refine lv_iload hx hb dX13_putStamp_23 (lv_at hl 4 rfl) ?_
      refine lv_i2l hx hb dX13_putStamp_25 rfl ?_
      refine lv_lconst (v := 1) hx hb dX13_putStamp_26 (by decide) ?_
      refine lv_ldc2 hx hb hown (hts (Cond.constantLong RX13 249 (6)) (List.mem_of_getElem? (i := 1) rfl)) dX13_putStamp_27 ?_
      obtain ⟨u_7, he_8, hf⟩ := os_bd hf
      refine mc_callS ⟨hx, hb, hml, hown, hts⟩ (mm_X13_isIn l D kA N (Int32.toInt64 a4) (1 : Int64) (6 : Int64) u_7 he_8) (va_cwS 3 hts gX13_putStamp_X13_isIn rfl rfl rfl (by decide +kernel) ⟨Nat.le_of_ble_eq_true rfl, Nat.le_of_ble_eq_true rfl⟩) (wc := []) rfl hl.1 (As := [.long (Int32.toInt64 a4), .long (1 : Int64), .long (6 : Int64)]) (rest := [.ref (q_this 0)]) rfl (Nat.le_of_ble_eq_true rfl) dX13_putStamp_30 ⟨Nat.le_of_ble_eq_true rfl, Nat.le_of_ble_eq_true rfl⟩ hK hP hD hS hA [] [0, 1, 2, 3, 4, 5, 6, 7, 8, 9, 10, 11, 12, 13, 14, 15, 16, 17, 18, 19, 20, 21, 22, 23] [0, 1, 2, 3, 4, 5, 6, 7, 8, 9, 10, 11, 12, 13, 14, 15, 16, 17, 18, 19, 20, 21, 22, 23] rfl (by decide) rfl (by decide) (by decide) rfl (by decide) (wr := (ce_X13 kA q_this o_this)) (w2 := (ce_X13 kA q_this o_this)) (fun H locs hP hD hS => ?_)
      have hP : va_P D vwCl (ce_X13 kA q_this o_this) H := hP
      refine lv_if_eq (tgt := 49) hx hb dX13_putStamp_33 (by decide) (fun hc_9 => ?_) (fun hc_9 => ?_)
      · rw [if_pos hc_9] at hf
        exact hB49 o_this a1 a2 a3 a4 a5 _ _ _ hP hD hS (lv_sub hl [0, 1, 2, 3, 4, 5] rfl) hf
      · rw [if_neg hc_9] at hf
        refine lv_iload hx hb dX13_putStamp_36 (lv_at hl 5 rfl) ?_
        refine lv_i2l hx hb dX13_putStamp_38 rfl ?_
        refine lv_lconst (v := 1) hx hb dX13_putStamp_39 (by decide) ?_
        refine lv_ldc2 hx hb hown (hts (Cond.constantLong RX13 385 (20)) (List.mem_of_getElem? (i := 2) rfl)) dX13_putStamp_40 ?_
        obtain ⟨u_10, he_11, hf⟩ := os_bd hf
        refine mc_callS ⟨hx, hb, hml, hown, hts⟩ (mm_X13_isIn l D kA N (Int32.toInt64 a5) (1 : Int64) (20 : Int64) u_10 he_11) (va_cwS 3 hts gX13_putStamp_X13_isIn rfl rfl rfl (by decide +kernel) ⟨Nat.le_of_ble_eq_true rfl, Nat.le_of_ble_eq_true rfl⟩) (wc := []) rfl hl.1 (As := [.long (Int32.toInt64 a5), .long (1 : Int64), .long (20 : Int64)]) (rest := [.ref (q_this 0)]) rfl (Nat.le_of_ble_eq_true rfl) dX13_putStamp_43 ⟨Nat.le_of_ble_eq_true rfl, Nat.le_of_ble_eq_true rfl⟩ hK hP hD hS hA [] [0, 1, 2, 3, 4, 5, 6, 7, 8, 9, 10, 11, 12, 13, 14, 15, 16, 17, 18, 19, 20, 21, 22, 23] [0, 1, 2, 3, 4, 5, 6, 7, 8, 9, 10, 11, 12, 13, 14, 15, 16, 17, 18, 19, 20, 21, 22, 23] rfl (by decide) rfl (by decide) (by decide) rfl (by decide) (wr := (ce_X13 kA q_this o_this)) (w2 := (ce_X13 kA q_this o_this)) (fun H locs hP hD hS => ?_)
        have hP : va_P D vwCl (ce_X13 kA q_this o_this) H := hP
        refine lv_if_ne (tgt := 53) hx hb dX13_putStamp_46 (by decide) (fun hc_12 => ?_) (fun hc_12 => ?_)
        · rw [if_neg hc_12] at hf
          refine lv_iconst (v := 0) hx hb dX13_putStamp_53 (by decide) ?_
          exact hB54 o_this a1 a2 a3 a4 a5 (0 : Int32) _ _ _ hP hD hS (lv_sub hl [0, 1, 2, 3, 4, 5] rfl) hf
        · rw [if_pos hc_12] at hf
          exact hB49 o_this a1 a2 a3 a4 a5 _ _ _ hP hD hS (lv_sub hl [0, 1, 2, 3, 4, 5] rfl) hf
  · rw [if_pos hc_3] at hf
    refine lv_iconst (v := 1) hx hb dX13_putStamp_9 (by decide) ?_
    refine lv_goto (tgt := 59) hx hb dX13_putStamp_10 (by decide) ?_
    exact hB59 o_this a1 a2 a3 a4 a5 (1 : Int32) _ _ _ hP hD hS (lv_sub hl [0, 1, 2, 3, 4, 5] rfl) hf
def ff_X13_takeStamp_b33 (N : Nat) (o_this : os_T) (x1 : Int32) (x2 : Int32) (t0 : Int32) : Option (Int32 × os_T) :=
  (if os_in (((4 : Int32) * x1) + x2) 12 then (if os_z t0 then some (t0, ss_A o_this 12 (upd (os_A o_this 12) (Int32.toNatClampNeg (((4 : Int32) * x1) + x2)) (-1 : Int32))) else none) else none)
def ff_X13_takeStamp (N : Nat) (o_this : os_T) (a1 : Int32) (a2 : Int32) : Option (Int32 × os_T) :=
  ((ff_X13_isPlace N a1 a2).bind fun u_1 => ((ff_X13_goes N o_this u_1).bind fun u_3 => (if u_3.1 = 0 then some ((0 : Int32), u_3.2) else (if os_in (((4 : Int32) * a1) + a2) 12 then (if ((os_A u_3.2 12) (Int32.toNatClampNeg (((4 : Int32) * a1) + a2))) = (-1 : Int32) then ff_X13_takeStamp_b33 N u_3.2 a1 a2 (0 : Int32) else ff_X13_takeStamp_b33 N u_3.2 a1 a2 (1 : Int32)) else none))))
set_option maxHeartbeats 4000000 in
set_option maxRecDepth 100000 in
theorem mm_X13_takeStamp (l : Launch) (D : va_G) (kA : Nat → ClassId) (N : Nat) (q_this : Nat → Nat) (o_this : os_T) (a1 : Int32) (a2 : Int32) (out : (Int32 × os_T)) (hf : ff_X13_takeStamp N o_this a1 a2 = some out) : mc_C l D kA yX13_takeStamp wsX13_takeStamp ({ frames := 2, cells := 0, slots := 0, locals := 46 } : Room) [.ref (q_this 0), .int a1, .int a2] (ce_X13 kA q_this o_this) (some (.int out.1)) (ce_X13 kA q_this out.2) := by
  refine mc_of (cc := cX13_takeStamp) (maxL := 4) (ret := (some .boolean)) (by decide) rfl (Nat.le_of_ble_eq_true rfl) ?_
  intro p e s m below meth c A B hD hP hS ls hl
  obtain ⟨hx, hb, hr, hlk, hml, hown, hts, hK, hA, hnm⟩ := B
  have hown : s.vm.findClass RX13 = some m.cls := hown
  have hl : lv_has ls 4 [(0, .ref (q_this 0)), (1, .int a1), (2, .int a2)] := hl
  have hUX13 : ∀ w ∈ u_ws RX13 TX13 48, w.before [.ref (q_this 0), .int a1, .int a2].toArray s = true := fun w h => hts w (List.mem_cons_of_mem _ (List.mem_append_right _ h))
  have hB33 : ∀ (o_this : os_T) (x1 : Int32) (x2 : Int32) (t0 : Int32) (H : Heap) (locs : List Loc) (ls : Array Slot), va_P D vwCl (ce_X13 kA q_this o_this) H → va_D A (ce_X13 kA q_this o_this) → va_S A s.heap H locs → lv_has ls 4 [(0, .ref (q_this 0)), (1, .int x1), (2, .int x2)] → ff_X13_takeStamp_b33 N o_this x1 x2 t0 = some out → W p l e ({ frames := 2, cells := 0, slots := 0, locals := 46 } : Room) s m [.ref (q_this 0), .int a1, .int a2].toArray below meth c H locs 0 0 (MQ below (mc_Q D kA A (some (.int out.1)) (ce_X13 kA q_this out.2)) [.ref (q_this 0), .int a1, .int a2].toArray s 0 0 A) (F0 m 33 ls [.int t0]) := by
    intro o_this x1 x2 t0 H locs ls hP hD hS hl hf
    unfold ff_X13_takeStamp_b33 at hf
    refine lv_istore_n (lv' := [(3, .int t0), (0, .ref (q_this 0)), (1, .int x1), (2, .int x2)]) hx hb dX13_takeStamp_33 rfl hl (by decide) rfl (fun ls hl => ?_)
    refine lv_aload_n hx hb dX13_takeStamp_34 rfl (lv_at hl 1 rfl) ?_
    refine va_get (D := D) (ci := 9) (v := .ref (q_this 13)) (C := RX13) (T := TX13) (N := 48) hx hb hUX13 (fun _ h9 => h9) hown hK hP 0 rfl rfl 31 (by decide) (hts (Cond.fieldLink RX13 54 "ReliefBuilderModel" "stamps" "[I") (List.mem_of_getElem? (i := 1) rfl)) (fun _ h9 => h9) rfl dX13_takeStamp_35 ?_
    refine lv_iconst (v := 4) hx hb dX13_takeStamp_38 (by decide) ?_
    refine lv_iload_n hx hb dX13_takeStamp_39 rfl (lv_at hl 2 rfl) ?_
    refine lv_imul hx hb dX13_takeStamp_40 ?_
    refine lv_iload_n hx hb dX13_takeStamp_41 rfl (lv_at hl 3 rfl) ?_
    refine lv_iadd hx hb dX13_takeStamp_42 ?_
    refine lv_iconst (v := (-1)) hx hb dX13_takeStamp_43 (by decide) ?_
    obtain ⟨hi_8, hf⟩ := os_if hf
    refine va_iast hx hb hK hP hD hS 13 0 rfl rfl hi_8 dX13_takeStamp_44 (fun H locs hP hD hS => ?_)
    have hP : va_P D vwCl (ce_X13 kA q_this (ss_A o_this 12 (upd (os_A o_this 12) (Int32.toNatClampNeg (((4 : Int32) * x1) + x2)) (-1 : Int32)))) H := hP
    have hD : va_D A (ce_X13 kA q_this (ss_A o_this 12 (upd (os_A o_this 12) (Int32.toNatClampNeg (((4 : Int32) * x1) + x2)) (-1 : Int32)))) := hD
    refine lv_iload_n hx hb dX13_takeStamp_45 rfl (lv_at hl 0 rfl) ?_
    obtain ⟨hz_9, hf⟩ := os_if hf
    rw [← Option.some.inj hf]
    exact mc_retz hx hb hr (os_z_n hz_9) hlk hP hK hD hS dX13_takeStamp_46
  unfold ff_X13_takeStamp at hf
  refine lv_aload_n hx hb dX13_takeStamp_0 rfl (lv_at hl 0 rfl) ?_
  refine lv_iload_n hx hb dX13_takeStamp_1 rfl (lv_at hl 1 rfl) ?_
  refine lv_iload_n hx hb dX13_takeStamp_2 rfl (lv_at hl 2 rfl) ?_
  obtain ⟨u_1, he_2, hf⟩ := os_bd hf
  refine mc_callS ⟨hx, hb, hml, hown, hts⟩ (mm_X13_isPlace l D kA N a1 a2 u_1 he_2) (va_cwS 2 hts gX13_takeStamp_X13_isPlace rfl rfl rfl (by decide +kernel) ⟨Nat.le_of_ble_eq_true rfl, Nat.le_of_ble_eq_true rfl⟩) (wc := []) rfl hl.1 (As := [.int a1, .int a2]) (rest := [.ref (q_this 0)]) rfl (Nat.le_of_ble_eq_true rfl) dX13_takeStamp_3 ⟨Nat.le_of_ble_eq_true rfl, Nat.le_of_ble_eq_true rfl⟩ hK hP hD hS hA [] [0, 1, 2, 3, 4, 5, 6, 7, 8, 9, 10, 11, 12, 13, 14, 15, 16, 17, 18, 19, 20, 21, 22, 23] [0, 1, 2, 3, 4, 5, 6, 7, 8, 9, 10, 11, 12, 13, 14, 15, 16, 17, 18, 19, 20, 21, 22, 23] rfl (by decide) rfl (by decide) (by decide) rfl (by decide) (wr := (ce_X13 kA q_this o_this)) (w2 := (ce_X13 kA q_this o_this)) (fun H locs hP hD hS => ?_)
  have hP : va_P D vwCl (ce_X13 kA q_this o_this) H := hP
  obtain ⟨u_3, he_4, hf⟩ := os_bd hf
  refine mc_callV ⟨hx, hb, hml, hown, hts⟩ (mm_X13_goes l D kA N q_this o_this u_1 u_3 he_4) (cwV 1 hts gX13_takeStamp_X13_goes rfl rfl rfl (by decide +kernel) ⟨Nat.le_of_ble_eq_true rfl, Nat.le_of_ble_eq_true rfl⟩) (wc := (ce_X13 kA q_this o_this)) (ci := 9) (q0 := 0) rfl rfl rfl hl.1 (As := [.int u_1]) (rest := []) rfl (Nat.le_of_ble_eq_true rfl) dX13_takeStamp_6 ⟨Nat.le_of_ble_eq_true rfl, Nat.le_of_ble_eq_true rfl⟩ hK hP hD hS hA [0, 1, 2, 3, 4, 5, 6, 7, 8, 9, 10, 11, 12, 13, 14, 15, 16, 17, 18, 19, 20, 21, 22, 23] [] [0, 1, 2, 3, 4, 5, 6, 7, 8, 9, 10, 11, 12, 13, 14, 15, 16, 17, 18, 19, 20, 21, 22, 23] rfl (by decide) rfl (by decide) (by decide) rfl (by decide) (wr := []) (w2 := (ce_X13 kA q_this u_3.2)) (fun H locs hP hD hS => ?_)
  have hP : va_P D vwCl (ce_X13 kA q_this u_3.2) H := hP
  refine lv_if_ne (tgt := 14) hx hb dX13_takeStamp_9 (by decide) (fun hc_5 => ?_) (fun hc_5 => ?_)
  · rw [if_neg hc_5] at hf
    refine lv_aload_n hx hb dX13_takeStamp_14 rfl (lv_at hl 0 rfl) ?_
    refine va_get (D := D) (ci := 9) (v := .ref (q_this 13)) (C := RX13) (T := TX13) (N := 48) hx hb hUX13 (fun _ h9 => h9) hown hK hP 0 rfl rfl 31 (by decide) (hts (Cond.fieldLink RX13 54 "ReliefBuilderModel" "stamps" "[I") (List.mem_of_getElem? (i := 1) rfl)) (fun _ h9 => h9) rfl dX13_takeStamp_15 ?_
    refine lv_iconst (v := 4) hx hb dX13_takeStamp_18 (by decide) ?_
    refine lv_iload_n hx hb dX13_takeStamp_19 rfl (lv_at hl 1 rfl) ?_
    refine lv_imul hx hb dX13_takeStamp_20 ?_
    refine lv_iload_n hx hb dX13_takeStamp_21 rfl (lv_at hl 2 rfl) ?_
    refine lv_iadd hx hb dX13_takeStamp_22 ?_
    obtain ⟨hi_6, hf⟩ := os_if hf
    refine va_iald hx hb hK hP 13 0 rfl rfl hi_6 dX13_takeStamp_23 ?_
    refine lv_iconst (v := (-1)) hx hb dX13_takeStamp_24 (by decide) ?_
    refine lv_icmp_eq (tgt := 32) hx hb dX13_takeStamp_25 (by decide) (fun hc_7 => ?_) (fun hc_7 => ?_)
    · rw [if_pos hc_7] at hf
      refine lv_iconst (v := 0) hx hb dX13_takeStamp_32 (by decide) ?_
      exact hB33 u_3.2 a1 a2 (0 : Int32) _ _ _ hP hD hS (lv_sub hl [0, 1, 2] rfl) hf
    · rw [if_neg hc_7] at hf
      refine lv_iconst (v := 1) hx hb dX13_takeStamp_28 (by decide) ?_
      refine lv_goto (tgt := 33) hx hb dX13_takeStamp_29 (by decide) ?_
      exact hB33 u_3.2 a1 a2 (1 : Int32) _ _ _ hP hD hS (lv_sub hl [0, 1, 2] rfl) hf
  · rw [if_pos hc_5] at hf
    refine lv_iconst (v := 0) hx hb dX13_takeStamp_12 (by decide) ?_
    rw [← Option.some.inj hf]
    exact mc_retz (v := 0) hx hb hr rfl hlk hP hK hD hS dX13_takeStamp_13
def ff_X13_stampAt (N : Nat) (o_this : os_T) (a1 : Int32) (a2 : Int32) : Option (Int32 × os_T) :=
  ((ff_X13_isPlace N a1 a2).bind fun u_1 => ((ff_X13_goes N o_this u_1).bind fun u_3 => (if u_3.1 = 0 then some ((0 : Int32), u_3.2) else (if os_in (((4 : Int32) * a1) + a2) 12 then some ((os_A u_3.2 12) (Int32.toNatClampNeg (((4 : Int32) * a1) + a2)), u_3.2) else none))))
set_option maxHeartbeats 4000000 in
set_option maxRecDepth 100000 in
theorem mm_X13_stampAt (l : Launch) (D : va_G) (kA : Nat → ClassId) (N : Nat) (q_this : Nat → Nat) (o_this : os_T) (a1 : Int32) (a2 : Int32) (out : (Int32 × os_T)) (hf : ff_X13_stampAt N o_this a1 a2 = some out) : mc_C l D kA yX13_stampAt wsX13_stampAt ({ frames := 2, cells := 0, slots := 0, locals := 46 } : Room) [.ref (q_this 0), .int a1, .int a2] (ce_X13 kA q_this o_this) (some (.int out.1)) (ce_X13 kA q_this out.2) := by
  refine mc_of (cc := cX13_stampAt) (maxL := 3) (ret := (some .int)) (by decide) rfl (Nat.le_of_ble_eq_true rfl) ?_
  intro p e s m below meth c A B hD hP hS ls hl
  obtain ⟨hx, hb, hr, hlk, hml, hown, hts, hK, hA, hnm⟩ := B
  have hown : s.vm.findClass RX13 = some m.cls := hown
  have hl : lv_has ls 3 [(0, .ref (q_this 0)), (1, .int a1), (2, .int a2)] := hl
  have hUX13 : ∀ w ∈ u_ws RX13 TX13 48, w.before [.ref (q_this 0), .int a1, .int a2].toArray s = true := fun w h => hts w (List.mem_cons_of_mem _ (List.mem_append_right _ h))
  unfold ff_X13_stampAt at hf
  refine lv_aload_n hx hb dX13_stampAt_0 rfl (lv_at hl 0 rfl) ?_
  refine lv_iload_n hx hb dX13_stampAt_1 rfl (lv_at hl 1 rfl) ?_
  refine lv_iload_n hx hb dX13_stampAt_2 rfl (lv_at hl 2 rfl) ?_
  obtain ⟨u_1, he_2, hf⟩ := os_bd hf
  refine mc_callS ⟨hx, hb, hml, hown, hts⟩ (mm_X13_isPlace l D kA N a1 a2 u_1 he_2) (va_cwS 2 hts gX13_stampAt_X13_isPlace rfl rfl rfl (by decide +kernel) ⟨Nat.le_of_ble_eq_true rfl, Nat.le_of_ble_eq_true rfl⟩) (wc := []) rfl hl.1 (As := [.int a1, .int a2]) (rest := [.ref (q_this 0)]) rfl (Nat.le_of_ble_eq_true rfl) dX13_stampAt_3 ⟨Nat.le_of_ble_eq_true rfl, Nat.le_of_ble_eq_true rfl⟩ hK hP hD hS hA [] [0, 1, 2, 3, 4, 5, 6, 7, 8, 9, 10, 11, 12, 13, 14, 15, 16, 17, 18, 19, 20, 21, 22, 23] [0, 1, 2, 3, 4, 5, 6, 7, 8, 9, 10, 11, 12, 13, 14, 15, 16, 17, 18, 19, 20, 21, 22, 23] rfl (by decide) rfl (by decide) (by decide) rfl (by decide) (wr := (ce_X13 kA q_this o_this)) (w2 := (ce_X13 kA q_this o_this)) (fun H locs hP hD hS => ?_)
  have hP : va_P D vwCl (ce_X13 kA q_this o_this) H := hP
  obtain ⟨u_3, he_4, hf⟩ := os_bd hf
  refine mc_callV ⟨hx, hb, hml, hown, hts⟩ (mm_X13_goes l D kA N q_this o_this u_1 u_3 he_4) (cwV 1 hts gX13_stampAt_X13_goes rfl rfl rfl (by decide +kernel) ⟨Nat.le_of_ble_eq_true rfl, Nat.le_of_ble_eq_true rfl⟩) (wc := (ce_X13 kA q_this o_this)) (ci := 9) (q0 := 0) rfl rfl rfl hl.1 (As := [.int u_1]) (rest := []) rfl (Nat.le_of_ble_eq_true rfl) dX13_stampAt_6 ⟨Nat.le_of_ble_eq_true rfl, Nat.le_of_ble_eq_true rfl⟩ hK hP hD hS hA [0, 1, 2, 3, 4, 5, 6, 7, 8, 9, 10, 11, 12, 13, 14, 15, 16, 17, 18, 19, 20, 21, 22, 23] [] [0, 1, 2, 3, 4, 5, 6, 7, 8, 9, 10, 11, 12, 13, 14, 15, 16, 17, 18, 19, 20, 21, 22, 23] rfl (by decide) rfl (by decide) (by decide) rfl (by decide) (wr := []) (w2 := (ce_X13 kA q_this u_3.2)) (fun H locs hP hD hS => ?_)
  have hP : va_P D vwCl (ce_X13 kA q_this u_3.2) H := hP
  refine lv_if_eq (tgt := 25) hx hb dX13_stampAt_9 (by decide) (fun hc_5 => ?_) (fun hc_5 => ?_)
  · rw [if_pos hc_5] at hf
    refine lv_iconst (v := 0) hx hb dX13_stampAt_25 (by decide) ?_
    rw [← Option.some.inj hf]
    exact mc_reti hx hb hr hlk hP hK hD hS dX13_stampAt_26
  · rw [if_neg hc_5] at hf
    refine lv_aload_n hx hb dX13_stampAt_12 rfl (lv_at hl 0 rfl) ?_
    refine va_get (D := D) (ci := 9) (v := .ref (q_this 13)) (C := RX13) (T := TX13) (N := 48) hx hb hUX13 (fun _ h9 => h9) hown hK hP 0 rfl rfl 31 (by decide) (hts (Cond.fieldLink RX13 54 "ReliefBuilderModel" "stamps" "[I") (List.mem_of_getElem? (i := 1) rfl)) (fun _ h9 => h9) rfl dX13_stampAt_13 ?_
    refine lv_iconst (v := 4) hx hb dX13_stampAt_16 (by decide) ?_
    refine lv_iload_n hx hb dX13_stampAt_17 rfl (lv_at hl 1 rfl) ?_
    refine lv_imul hx hb dX13_stampAt_18 ?_
    refine lv_iload_n hx hb dX13_stampAt_19 rfl (lv_at hl 2 rfl) ?_
    refine lv_iadd hx hb dX13_stampAt_20 ?_
    obtain ⟨hi_6, hf⟩ := os_if hf
    refine va_iald hx hb hK hP 13 0 rfl rfl hi_6 dX13_stampAt_21 ?_
    refine lv_goto (tgt := 26) hx hb dX13_stampAt_22 (by decide) ?_
    rw [← Option.some.inj hf]
    exact mc_reti hx hb hr hlk hP hK hD hS dX13_stampAt_26
def ff_X13_moveStamp_b58 (N : Nat) (o_this : os_T) (x1 : Int32) (x2 : Int32) (x3 : Int32) (x4 : Int32) (t0 : Int32) : Option (Int32 × os_T) :=
  (if t0 ≤ 0 then (if os_in (((4 : Int32) * x1) + x2) 12 then ((ff_X13_takes N x3 (((os_A o_this 12) (Int32.toNatClampNeg (((4 : Int32) * x1) + x2))) / (1000 : Int32))).bind fun u_14 => (if u_14 = 0 then some ((0 : Int32), ss_I o_this 0 t0) else (if os_in (((4 : Int32) * x1) + x2) 12 then (if os_in (((4 : Int32) * x3) + x4) 12 then some ((1 : Int32), ss_I (ss_A o_this 12 (upd (upd (os_A o_this 12) (Int32.toNatClampNeg (((4 : Int32) * x1) + x2)) (-1 : Int32)) (Int32.toNatClampNeg (((4 : Int32) * x3) + x4)) ((os_A o_this 12) (Int32.toNatClampNeg (((4 : Int32) * x1) + x2))))) 0 t0) else none) else none))) else none) else some ((0 : Int32), ss_I o_this 0 t0))
def ff_X13_moveStamp_b53 (N : Nat) (o_this : os_T) (x1 : Int32) (x2 : Int32) (x3 : Int32) (x4 : Int32) (t0 : Int32) : Option (Int32 × os_T) :=
  ((ff_X13_truth N t0).bind fun u_10 => ff_X13_moveStamp_b58 N o_this x1 x2 x3 x4 (u_10 * (2 : Int32)))
def ff_X13_moveStamp_b22 (N : Nat) (o_this : os_T) (x1 : Int32) (x2 : Int32) (x3 : Int32) (x4 : Int32) (t0 : Int32) : Option (Int32 × os_T) :=
  (if t0 = 0 then ff_X13_moveStamp_b58 N o_this x1 x2 x3 x4 (1 : Int32) else (if os_in (((4 : Int32) * x1) + x2) 12 then (if ((os_A o_this 12) (Int32.toNatClampNeg (((4 : Int32) * x1) + x2))) = (-1 : Int32) then ff_X13_moveStamp_b53 N o_this x1 x2 x3 x4 (1 : Int32) else ff_X13_moveStamp_b53 N o_this x1 x2 x3 x4 (0 : Int32)) else none))
def ff_X13_moveStamp_b21 (N : Nat) (o_this : os_T) (x1 : Int32) (x2 : Int32) (x3 : Int32) (x4 : Int32) : Option (Int32 × os_T) :=
  ff_X13_moveStamp_b22 N o_this x1 x2 x3 x4 (0 : Int32)
def ff_X13_moveStamp (N : Nat) (o_this : os_T) (a1 : Int32) (a2 : Int32) (a3 : Int32) (a4 : Int32) : Option (Int32 × os_T) :=
  ((ff_X13_isPlace N a1 a2).bind fun u_1 => (if u_1 = 0 then ff_X13_moveStamp_b21 N o_this a1 a2 a3 a4 else ((ff_X13_isPlace N a3 a4).bind fun u_4 => (if u_4 = 0 then ff_X13_moveStamp_b21 N o_this a1 a2 a3 a4 else ff_X13_moveStamp_b22 N o_this a1 a2 a3 a4 (1 : Int32)))))
set_option maxHeartbeats 4000000 in
set_option maxRecDepth 100000 in
theorem mm_X13_moveStamp (l : Launch) (D : va_G) (kA : Nat → ClassId) (N : Nat) (q_this : Nat → Nat) (o_this : os_T) (a1 : Int32) (a2 : Int32) (a3 : Int32) (a4 : Int32) (out : (Int32 × os_T)) (hf : ff_X13_moveStamp N o_this a1 a2 a3 a4 = some out) : mc_C l D kA yX13_moveStamp wsX13_moveStamp ({ frames := 2, cells := 0, slots := 0, locals := 46 } : Room) [.ref (q_this 0), .int a1, .int a2, .int a3, .int a4] (ce_X13 kA q_this o_this) (some (.int out.1)) (ce_X13 kA q_this out.2) := by
  refine mc_of (cc := cX13_moveStamp) (maxL := 7) (ret := (some .boolean)) (by decide) rfl (Nat.le_of_ble_eq_true rfl) ?_
  intro p e s m below meth c A B hD hP hS ls hl
  obtain ⟨hx, hb, hr, hlk, hml, hown, hts, hK, hA, hnm⟩ := B
  have hown : s.vm.findClass RX13 = some m.cls := hown
  have hl : lv_has ls 7 [(0, .ref (q_this 0)), (1, .int a1), (2, .int a2), (3, .int a3), (4, .int a4)] := hl
  have hUX13 : ∀ w ∈ u_ws RX13 TX13 48, w.before [.ref (q_this 0), .int a1, .int a2, .int a3, .int a4].toArray s = true := fun w h => hts w (List.mem_cons_of_mem _ (List.mem_append_right _ h))
  have hB58 : ∀ (o_this : os_T) (x1 : Int32) (x2 : Int32) (x3 : Int32) (x4 : Int32) (t0 : Int32) (H : Heap) (locs : List Loc) (ls : Array Slot), va_P D vwCl (ce_X13 kA q_this o_this) H → va_D A (ce_X13 kA q_this o_this) → va_S A s.heap H locs → lv_has ls 7 [(0, .ref (q_this 0)), (1, .int x1), (2, .int x2), (3, .int x3), (4, .int x4)] → ff_X13_moveStamp_b58 N o_this x1 x2 x3 x4 t0 = some out → W p l e ({ frames := 2, cells := 0, slots := 0, locals := 46 } : Room) s m [.ref (q_this 0), .int a1, .int a2, .int a3, .int a4].toArray below meth c H locs 0 0 (MQ below (mc_Q D kA A (some (.int out.1)) (ce_X13 kA q_this out.2)) [.ref (q_this 0), .int a1, .int a2, .int a3, .int a4].toArray s 0 0 A) (F0 m 58 ls [.int t0, .ref (q_this 0)]) := by
    intro o_this x1 x2 x3 x4 t0 H locs ls hP hD hS hl hf
    unfold ff_X13_moveStamp_b58 at hf
    refine va_put (D := D) (ci := 9) (v := .int t0) (ty := .int) (C := RX13) (T := TX13) (N := 48) hx hb hUX13 (fun _ h9 => h9) tyX13 tyX13_ok nmX13 hown hK hP hD hS 0 rfl rfl 0 (by decide) (hts (Cond.fieldLink RX13 93 "ReliefBuilderModel" "code" "I") (List.mem_of_getElem? (i := 2) rfl)) (fun _ h9 => h9) rfl (tyX13_ok 0 (by decide)) rfl rfl (Nat.le_of_ble_eq_true rfl) dX13_moveStamp_58 (fun H locs hP hD hS => ?_)
    have hP : va_P D vwCl (ce_X13 kA q_this (ss_I o_this 0 t0)) H := hP
    have hD : va_D A (ce_X13 kA q_this (ss_I o_this 0 t0)) := hD
    refine lv_aload_n hx hb dX13_moveStamp_61 rfl (lv_at hl 0 rfl) ?_
    refine va_get (D := D) (ci := 9) (v := .int t0) (C := RX13) (T := TX13) (N := 48) hx hb hUX13 (fun _ h9 => h9) hown hK hP 0 rfl rfl 0 (by decide) (hts (Cond.fieldLink RX13 93 "ReliefBuilderModel" "code" "I") (List.mem_of_getElem? (i := 2) rfl)) (fun _ h9 => h9) rfl dX13_moveStamp_62 ?_
    refine lv_if_le (tgt := 70) hx hb dX13_moveStamp_65 (by decide) (fun hc_12 => ?_) (fun hc_12 => ?_)
    · rw [if_pos hc_12] at hf
      refine lv_aload_n hx hb dX13_moveStamp_70 rfl (lv_at hl 0 rfl) ?_
      refine va_get (D := D) (ci := 9) (v := .ref (q_this 13)) (C := RX13) (T := TX13) (N := 48) hx hb hUX13 (fun _ h9 => h9) hown hK hP 0 rfl rfl 31 (by decide) (hts (Cond.fieldLink RX13 54 "ReliefBuilderModel" "stamps" "[I") (List.mem_of_getElem? (i := 1) rfl)) (fun _ h9 => h9) rfl dX13_moveStamp_71 ?_
      refine lv_iconst (v := 4) hx hb dX13_moveStamp_74 (by decide) ?_
      refine lv_iload_n hx hb dX13_moveStamp_75 rfl (lv_at hl 1 rfl) ?_
      refine lv_imul hx hb dX13_moveStamp_76 ?_
      refine lv_iload_n hx hb dX13_moveStamp_77 rfl (lv_at hl 2 rfl) ?_
      refine lv_iadd hx hb dX13_moveStamp_78 ?_
      obtain ⟨hi_13, hf⟩ := os_if hf
      refine va_iald hx hb hK hP 13 0 rfl rfl hi_13 dX13_moveStamp_79 ?_
      refine lv_istore (lv' := [(6, .int ((os_A o_this 12) (Int32.toNatClampNeg (((4 : Int32) * x1) + x2)))), (0, .ref (q_this 0)), (1, .int x1), (2, .int x2), (3, .int x3), (4, .int x4)]) hx hb dX13_moveStamp_80 hl (by decide) rfl (fun ls hl => ?_)
      refine lv_iload_n hx hb dX13_moveStamp_82 rfl (lv_at hl 4 rfl) ?_
      refine lv_iload hx hb dX13_moveStamp_83 (lv_at hl 0 rfl) ?_
      refine lv_sipush (v := 1000) hx hb dX13_moveStamp_85 (by decide) ?_
      refine lv_idiv hx hb dX13_moveStamp_88 (by decide) ?_
      obtain ⟨u_14, he_15, hf⟩ := os_bd hf
      refine mc_callS ⟨hx, hb, hml, hown, hts⟩ (mm_X13_takes l D kA N x3 (((os_A o_this 12) (Int32.toNatClampNeg (((4 : Int32) * x1) + x2))) / (1000 : Int32)) u_14 he_15) (va_cwS 2 hts gX13_moveStamp_X13_takes rfl rfl rfl (by decide +kernel) ⟨Nat.le_of_ble_eq_true rfl, Nat.le_of_ble_eq_true rfl⟩) (wc := []) rfl hl.1 (As := [.int x3, .int (((os_A o_this 12) (Int32.toNatClampNeg (((4 : Int32) * x1) + x2))) / (1000 : Int32))]) (rest := []) rfl (Nat.le_of_ble_eq_true rfl) dX13_moveStamp_89 ⟨Nat.le_of_ble_eq_true rfl, Nat.le_of_ble_eq_true rfl⟩ hK hP hD hS hA [] [0, 1, 2, 3, 4, 5, 6, 7, 8, 9, 10, 11, 12, 13, 14, 15, 16, 17, 18, 19, 20, 21, 22, 23] [0, 1, 2, 3, 4, 5, 6, 7, 8, 9, 10, 11, 12, 13, 14, 15, 16, 17, 18, 19, 20, 21, 22, 23] rfl (by decide) rfl (by decide) (by decide) rfl (by decide) (wr := (ce_X13 kA q_this (ss_I o_this 0 t0))) (w2 := (ce_X13 kA q_this (ss_I o_this 0 t0))) (fun H locs hP hD hS => ?_)
      have hP : va_P D vwCl (ce_X13 kA q_this (ss_I o_this 0 t0)) H := hP
      refine lv_if_ne (tgt := 97) hx hb dX13_moveStamp_92 (by decide) (fun hc_16 => ?_) (fun hc_16 => ?_)
      · rw [if_neg hc_16] at hf
        refine lv_aload_n hx hb dX13_moveStamp_97 rfl (lv_at hl 1 rfl) ?_
        refine va_get (D := D) (ci := 9) (v := .ref (q_this 13)) (C := RX13) (T := TX13) (N := 48) hx hb hUX13 (fun _ h9 => h9) hown hK hP 0 rfl rfl 31 (by decide) (hts (Cond.fieldLink RX13 54 "ReliefBuilderModel" "stamps" "[I") (List.mem_of_getElem? (i := 1) rfl)) (fun _ h9 => h9) rfl dX13_moveStamp_98 ?_
        refine lv_iconst (v := 4) hx hb dX13_moveStamp_101 (by decide) ?_
        refine lv_iload_n hx hb dX13_moveStamp_102 rfl (lv_at hl 2 rfl) ?_
        refine lv_imul hx hb dX13_moveStamp_103 ?_
        refine lv_iload_n hx hb dX13_moveStamp_104 rfl (lv_at hl 3 rfl) ?_
        refine lv_iadd hx hb dX13_moveStamp_105 ?_
        refine lv_iconst (v := (-1)) hx hb dX13_moveStamp_106 (by decide) ?_
        obtain ⟨hi_17, hf⟩ := os_if hf
        refine va_iast hx hb hK hP hD hS 13 0 rfl rfl hi_17 dX13_moveStamp_107 (fun H locs hP hD hS => ?_)
        have hP : va_P D vwCl (ce_X13 kA q_this (ss_I (ss_A o_this 12 (upd (os_A o_this 12) (Int32.toNatClampNeg (((4 : Int32) * x1) + x2)) (-1 : Int32))) 0 t0)) H := hP
        have hD : va_D A (ce_X13 kA q_this (ss_I (ss_A o_this 12 (upd (os_A o_this 12) (Int32.toNatClampNeg (((4 : Int32) * x1) + x2)) (-1 : Int32))) 0 t0)) := hD
        refine lv_aload_n hx hb dX13_moveStamp_108 rfl (lv_at hl 1 rfl) ?_
        refine va_get (D := D) (ci := 9) (v := .ref (q_this 13)) (C := RX13) (T := TX13) (N := 48) hx hb hUX13 (fun _ h9 => h9) hown hK hP 0 rfl rfl 31 (by decide) (hts (Cond.fieldLink RX13 54 "ReliefBuilderModel" "stamps" "[I") (List.mem_of_getElem? (i := 1) rfl)) (fun _ h9 => h9) rfl dX13_moveStamp_109 ?_
        refine lv_iconst (v := 4) hx hb dX13_moveStamp_112 (by decide) ?_
        refine lv_iload_n hx hb dX13_moveStamp_113 rfl (lv_at hl 4 rfl) ?_
        refine lv_imul hx hb dX13_moveStamp_114 ?_
        refine lv_iload hx hb dX13_moveStamp_115 (lv_at hl 5 rfl) ?_
        refine lv_iadd hx hb dX13_moveStamp_117 ?_
        refine lv_iload hx hb dX13_moveStamp_118 (lv_at hl 0 rfl) ?_
        obtain ⟨hi_18, hf⟩ := os_if hf
        refine va_iast hx hb hK hP hD hS 13 0 rfl rfl hi_18 dX13_moveStamp_120 (fun H locs hP hD hS => ?_)
        have hE9 : ∀ (y0 : Int32) (y1 : Nat → Int32) (z9 : Nat → Int32), ((ce_X13 kA q_this (ss_I (ss_A o_this 12 y1) 0 y0)) : va_W).set 13 (q_this 13, .inl (kA 0, 12, .inl z9)) = (ce_X13 kA q_this (ss_I (ss_A o_this 12 z9) 0 y0)) := fun _ _ _ => rfl
        have hP : va_P D vwCl (ce_X13 kA q_this (ss_I (ss_A o_this 12 (upd (upd (os_A o_this 12) (Int32.toNatClampNeg (((4 : Int32) * x1) + x2)) (-1 : Int32)) (Int32.toNatClampNeg (((4 : Int32) * x3) + x4)) ((os_A o_this 12) (Int32.toNatClampNeg (((4 : Int32) * x1) + x2))))) 0 t0)) H := Eq.mp (congrArg (fun w9 => va_P D vwCl w9 H) (hE9 t0 (upd (os_A o_this 12) (Int32.toNatClampNeg (((4 : Int32) * x1) + x2)) (-1 : Int32)) _)) hP
        have hD : va_D A (ce_X13 kA q_this (ss_I (ss_A o_this 12 (upd (upd (os_A o_this 12) (Int32.toNatClampNeg (((4 : Int32) * x1) + x2)) (-1 : Int32)) (Int32.toNatClampNeg (((4 : Int32) * x3) + x4)) ((os_A o_this 12) (Int32.toNatClampNeg (((4 : Int32) * x1) + x2))))) 0 t0)) := Eq.mp (congrArg (fun w9 => va_D A w9) (hE9 t0 (upd (os_A o_this 12) (Int32.toNatClampNeg (((4 : Int32) * x1) + x2)) (-1 : Int32)) _)) hD
        refine lv_iconst (v := 1) hx hb dX13_moveStamp_121 (by decide) ?_
        rw [← Option.some.inj hf]
        exact mc_retz (v := 1) hx hb hr rfl hlk hP hK hD hS dX13_moveStamp_122
      · rw [if_pos hc_16] at hf
        refine lv_iconst (v := 0) hx hb dX13_moveStamp_95 (by decide) ?_
        rw [← Option.some.inj hf]
        exact mc_retz (v := 0) hx hb hr rfl hlk hP hK hD hS dX13_moveStamp_96
    · rw [if_neg hc_12] at hf
      refine lv_iconst (v := 0) hx hb dX13_moveStamp_68 (by decide) ?_
      rw [← Option.some.inj hf]
      exact mc_retz (v := 0) hx hb hr rfl hlk hP hK hD hS dX13_moveStamp_69
  have hB53 : ∀ (o_this : os_T) (x1 : Int32) (x2 : Int32) (x3 : Int32) (x4 : Int32) (t0 : Int32) (H : Heap) (locs : List Loc) (ls : Array Slot), va_P D vwCl (ce_X13 kA q_this o_this) H → va_D A (ce_X13 kA q_this o_this) → va_S A s.heap H locs → lv_has ls 7 [(0, .ref (q_this 0)), (1, .int x1), (2, .int x2), (3, .int x3), (4, .int x4)] → ff_X13_moveStamp_b53 N o_this x1 x2 x3 x4 t0 = some out → W p l e ({ frames := 2, cells := 0, slots := 0, locals := 46 } : Room) s m [.ref (q_this 0), .int a1, .int a2, .int a3, .int a4].toArray below meth c H locs 0 0 (MQ below (mc_Q D kA A (some (.int out.1)) (ce_X13 kA q_this out.2)) [.ref (q_this 0), .int a1, .int a2, .int a3, .int a4].toArray s 0 0 A) (F0 m 53 ls [.int t0, .ref (q_this 0)]) := by
    intro o_this x1 x2 x3 x4 t0 H locs ls hP hD hS hl hf
    unfold ff_X13_moveStamp_b53 at hf
    obtain ⟨u_10, he_11, hf⟩ := os_bd hf
    refine mc_callS ⟨hx, hb, hml, hown, hts⟩ (mm_X13_truth l D kA N t0 u_10 he_11) (va_cwS 1 hts gX13_moveStamp_X13_truth rfl rfl rfl (by decide +kernel) ⟨Nat.le_of_ble_eq_true rfl, Nat.le_of_ble_eq_true rfl⟩) (wc := []) rfl hl.1 (As := [.int t0]) (rest := [.ref (q_this 0)]) rfl (Nat.le_of_ble_eq_true rfl) dX13_moveStamp_53 ⟨Nat.le_of_ble_eq_true rfl, Nat.le_of_ble_eq_true rfl⟩ hK hP hD hS hA [] [0, 1, 2, 3, 4, 5, 6, 7, 8, 9, 10, 11, 12, 13, 14, 15, 16, 17, 18, 19, 20, 21, 22, 23] [0, 1, 2, 3, 4, 5, 6, 7, 8, 9, 10, 11, 12, 13, 14, 15, 16, 17, 18, 19, 20, 21, 22, 23] rfl (by decide) rfl (by decide) (by decide) rfl (by decide) (wr := (ce_X13 kA q_this o_this)) (w2 := (ce_X13 kA q_this o_this)) (fun H locs hP hD hS => ?_)
    have hP : va_P D vwCl (ce_X13 kA q_this o_this) H := hP
    refine lv_iconst (v := 2) hx hb dX13_moveStamp_56 (by decide) ?_
    refine lv_imul hx hb dX13_moveStamp_57 ?_
    exact hB58 o_this x1 x2 x3 x4 (u_10 * (2 : Int32)) _ _ _ hP hD hS (lv_sub hl [0, 1, 2, 3, 4] rfl) hf
  have hB22 : ∀ (o_this : os_T) (x1 : Int32) (x2 : Int32) (x3 : Int32) (x4 : Int32) (t0 : Int32) (H : Heap) (locs : List Loc) (ls : Array Slot), va_P D vwCl (ce_X13 kA q_this o_this) H → va_D A (ce_X13 kA q_this o_this) → va_S A s.heap H locs → lv_has ls 7 [(0, .ref (q_this 0)), (1, .int x1), (2, .int x2), (3, .int x3), (4, .int x4)] → ff_X13_moveStamp_b22 N o_this x1 x2 x3 x4 t0 = some out → W p l e ({ frames := 2, cells := 0, slots := 0, locals := 46 } : Room) s m [.ref (q_this 0), .int a1, .int a2, .int a3, .int a4].toArray below meth c H locs 0 0 (MQ below (mc_Q D kA A (some (.int out.1)) (ce_X13 kA q_this out.2)) [.ref (q_this 0), .int a1, .int a2, .int a3, .int a4].toArray s 0 0 A) (F0 m 22 ls [.int t0]) := by
    intro o_this x1 x2 x3 x4 t0 H locs ls hP hD hS hl hf
    unfold ff_X13_moveStamp_b22 at hf
    refine lv_istore (lv' := [(5, .int t0), (0, .ref (q_this 0)), (1, .int x1), (2, .int x2), (3, .int x3), (4, .int x4)]) hx hb dX13_moveStamp_22 hl (by decide) rfl (fun ls hl => ?_)
    refine lv_aload_n hx hb dX13_moveStamp_24 rfl (lv_at hl 1 rfl) ?_
    refine lv_iload hx hb dX13_moveStamp_25 (lv_at hl 0 rfl) ?_
    refine lv_if_ne (tgt := 34) hx hb dX13_moveStamp_27 (by decide) (fun hc_7 => ?_) (fun hc_7 => ?_)
    · rw [if_neg hc_7] at hf
      refine lv_aload_n hx hb dX13_moveStamp_34 rfl (lv_at hl 1 rfl) ?_
      refine va_get (D := D) (ci := 9) (v := .ref (q_this 13)) (C := RX13) (T := TX13) (N := 48) hx hb hUX13 (fun _ h9 => h9) hown hK hP 0 rfl rfl 31 (by decide) (hts (Cond.fieldLink RX13 54 "ReliefBuilderModel" "stamps" "[I") (List.mem_of_getElem? (i := 1) rfl)) (fun _ h9 => h9) rfl dX13_moveStamp_35 ?_
      refine lv_iconst (v := 4) hx hb dX13_moveStamp_38 (by decide) ?_
      refine lv_iload_n hx hb dX13_moveStamp_39 rfl (lv_at hl 2 rfl) ?_
      refine lv_imul hx hb dX13_moveStamp_40 ?_
      refine lv_iload_n hx hb dX13_moveStamp_41 rfl (lv_at hl 3 rfl) ?_
      refine lv_iadd hx hb dX13_moveStamp_42 ?_
      obtain ⟨hi_8, hf⟩ := os_if hf
      refine va_iald hx hb hK hP 13 0 rfl rfl hi_8 dX13_moveStamp_43 ?_
      refine lv_iconst (v := (-1)) hx hb dX13_moveStamp_44 (by decide) ?_
      refine lv_icmp_ne (tgt := 52) hx hb dX13_moveStamp_45 (by decide) (fun hc_9 => ?_) (fun hc_9 => ?_)
      · rw [if_neg hc_9] at hf
        refine lv_iconst (v := 0) hx hb dX13_moveStamp_52 (by decide) ?_
        exact hB53 o_this x1 x2 x3 x4 (0 : Int32) _ _ _ hP hD hS (lv_sub hl [1, 2, 3, 4, 5] rfl) hf
      · rw [if_pos hc_9] at hf
        refine lv_iconst (v := 1) hx hb dX13_moveStamp_48 (by decide) ?_
        refine lv_goto (tgt := 53) hx hb dX13_moveStamp_49 (by decide) ?_
        exact hB53 o_this x1 x2 x3 x4 (1 : Int32) _ _ _ hP hD hS (lv_sub hl [1, 2, 3, 4, 5] rfl) hf
    · rw [if_pos hc_7] at hf
      refine lv_iconst (v := 1) hx hb dX13_moveStamp_30 (by decide) ?_
      refine lv_goto (tgt := 58) hx hb dX13_moveStamp_31 (by decide) ?_
      exact hB58 o_this x1 x2 x3 x4 (1 : Int32) _ _ _ hP hD hS (lv_sub hl [1, 2, 3, 4, 5] rfl) hf
  have hB21 : ∀ (o_this : os_T) (x1 : Int32) (x2 : Int32) (x3 : Int32) (x4 : Int32) (H : Heap) (locs : List Loc) (ls : Array Slot), va_P D vwCl (ce_X13 kA q_this o_this) H → va_D A (ce_X13 kA q_this o_this) → va_S A s.heap H locs → lv_has ls 7 [(0, .ref (q_this 0)), (1, .int x1), (2, .int x2), (3, .int x3), (4, .int x4)] → ff_X13_moveStamp_b21 N o_this x1 x2 x3 x4 = some out → W p l e ({ frames := 2, cells := 0, slots := 0, locals := 46 } : Room) s m [.ref (q_this 0), .int a1, .int a2, .int a3, .int a4].toArray below meth c H locs 0 0 (MQ below (mc_Q D kA A (some (.int out.1)) (ce_X13 kA q_this out.2)) [.ref (q_this 0), .int a1, .int a2, .int a3, .int a4].toArray s 0 0 A) (F0 m 21 ls []) := by
    intro o_this x1 x2 x3 x4 H locs ls hP hD hS hl hf
    unfold ff_X13_moveStamp_b21 at hf
    refine lv_iconst (v := 0) hx hb dX13_moveStamp_21 (by decide) ?_
    exact hB22 o_this x1 x2 x3 x4 (0 : Int32) _ _ _ hP hD hS (lv_sub hl [0, 1, 2, 3, 4] rfl) hf
  unfold ff_X13_moveStamp at hf
  refine lv_iload_n hx hb dX13_moveStamp_0 rfl (lv_at hl 1 rfl) ?_
  refine lv_iload_n hx hb dX13_moveStamp_1 rfl (lv_at hl 2 rfl) ?_
  obtain ⟨u_1, he_2, hf⟩ := os_bd hf
  refine mc_callS ⟨hx, hb, hml, hown, hts⟩ (mm_X13_isPlace l D kA N a1 a2 u_1 he_2) (va_cwS 2 hts gX13_moveStamp_X13_isPlace rfl rfl rfl (by decide +kernel) ⟨Nat.le_of_ble_eq_true rfl, Nat.le_of_ble_eq_true rfl⟩) (wc := []) rfl hl.1 (As := [.int a1, .int a2]) (rest := []) rfl (Nat.le_of_ble_eq_true rfl) dX13_moveStamp_2 ⟨Nat.le_of_ble_eq_true rfl, Nat.le_of_ble_eq_true rfl⟩ hK hP hD hS hA [] [0, 1, 2, 3, 4, 5, 6, 7, 8, 9, 10, 11, 12, 13, 14, 15, 16, 17, 18, 19, 20, 21, 22, 23] [0, 1, 2, 3, 4, 5, 6, 7, 8, 9, 10, 11, 12, 13, 14, 15, 16, 17, 18, 19, 20, 21, 22, 23] rfl (by decide) rfl (by decide) (by decide) rfl (by decide) (wr := (ce_X13 kA q_this o_this)) (w2 := (ce_X13 kA q_this o_this)) (fun H locs hP hD hS => ?_)
  have hP : va_P D vwCl (ce_X13 kA q_this o_this) H := hP
  refine lv_if_eq (tgt := 21) hx hb dX13_moveStamp_5 (by decide) (fun hc_3 => ?_) (fun hc_3 => ?_)
  · rw [if_pos hc_3] at hf
    exact hB21 o_this a1 a2 a3 a4 _ _ _ hP hD hS (lv_sub hl [0, 1, 2, 3, 4] rfl) hf
  · rw [if_neg hc_3] at hf
    refine lv_iload_n hx hb dX13_moveStamp_8 rfl (lv_at hl 3 rfl) ?_
    refine lv_iload hx hb dX13_moveStamp_9 (lv_at hl 4 rfl) ?_
    obtain ⟨u_4, he_5, hf⟩ := os_bd hf
    refine mc_callS ⟨hx, hb, hml, hown, hts⟩ (mm_X13_isPlace l D kA N a3 a4 u_4 he_5) (va_cwS 2 hts gX13_moveStamp_X13_isPlace rfl rfl rfl (by decide +kernel) ⟨Nat.le_of_ble_eq_true rfl, Nat.le_of_ble_eq_true rfl⟩) (wc := []) rfl hl.1 (As := [.int a3, .int a4]) (rest := []) rfl (Nat.le_of_ble_eq_true rfl) dX13_moveStamp_11 ⟨Nat.le_of_ble_eq_true rfl, Nat.le_of_ble_eq_true rfl⟩ hK hP hD hS hA [] [0, 1, 2, 3, 4, 5, 6, 7, 8, 9, 10, 11, 12, 13, 14, 15, 16, 17, 18, 19, 20, 21, 22, 23] [0, 1, 2, 3, 4, 5, 6, 7, 8, 9, 10, 11, 12, 13, 14, 15, 16, 17, 18, 19, 20, 21, 22, 23] rfl (by decide) rfl (by decide) (by decide) rfl (by decide) (wr := (ce_X13 kA q_this o_this)) (w2 := (ce_X13 kA q_this o_this)) (fun H locs hP hD hS => ?_)
    have hP : va_P D vwCl (ce_X13 kA q_this o_this) H := hP
    refine lv_if_eq (tgt := 21) hx hb dX13_moveStamp_14 (by decide) (fun hc_6 => ?_) (fun hc_6 => ?_)
    · rw [if_pos hc_6] at hf
      exact hB21 o_this a1 a2 a3 a4 _ _ _ hP hD hS (lv_sub hl [0, 1, 2, 3, 4] rfl) hf
    · rw [if_neg hc_6] at hf
      refine lv_iconst (v := 1) hx hb dX13_moveStamp_17 (by decide) ?_
      refine lv_goto (tgt := 22) hx hb dX13_moveStamp_18 (by decide) ?_
      exact hB22 o_this a1 a2 a3 a4 (1 : Int32) _ _ _ hP hD hS (lv_sub hl [0, 1, 2, 3, 4] rfl) hf
def ff_X13_presses_b119 (N : Nat) (k18 : (os_T × Int32 × Int32 × Int32 × Int32 × Int32 × Int32) → Option os_T) (k30 : (os_T × Int32 × Int32 × Int32 × Int32 × Int32 × Int32 × Int32) → Option os_T) (o_this : os_T) (x1 : Int32) (x2 : Int32) (x3 : Int32) (x4 : Int32) (x5 : Int32) (x6 : Int32) (x7 : Int32) : Option os_T :=
  k30 (o_this, x1, x2, x3, x4, x5, x6, x7 + 1)
def ff_X13_presses_b118 (N : Nat) (k18 : (os_T × Int32 × Int32 × Int32 × Int32 × Int32 × Int32) → Option os_T) (k30 : (os_T × Int32 × Int32 × Int32 × Int32 × Int32 × Int32 × Int32) → Option os_T) (o_this : os_T) (x1 : Int32) (x2 : Int32) (x3 : Int32) (x4 : Int32) (x5 : Int32) (x6 : Int32) (x7 : Int32) (t0 : Int32) (t1 : Int32) : Option os_T :=
  (if os_in t1 192 then ff_X13_presses_b119 N k18 k30 (ss_A o_this 4 (upd (os_A o_this 4) (Int32.toNatClampNeg t1) t0)) x1 x2 x3 x4 x5 x6 x7 else none)
def ff_X13_presses_c30 (N : Nat) (k18 : (os_T × Int32 × Int32 × Int32 × Int32 × Int32 × Int32) → Option os_T) (k30 : (os_T × Int32 × Int32 × Int32 × Int32 × Int32 × Int32 × Int32) → Option os_T) (o_this : os_T) (x1 : Int32) (x2 : Int32) (x3 : Int32) (x4 : Int32) (x5 : Int32) (x6 : Int32) (x7 : Int32) : Option os_T :=
  (if (x2 + x4) ≤ x7 then k18 (o_this, x1, x2, x3, x4, x5, x6 + 1) else ((ff_X13_isCell N o_this x7 x6).bind fun u_3 => (if u_3 = 0 then ff_X13_presses_b119 N k18 k30 o_this x1 x2 x3 x4 x5 x6 x7 else (if os_in (((16 : Int32) * x6) + x7) 192 then (if (1000 : Int32) ≤ x1 then (if os_in (2 : Int32) 7 then ((ff_X13_less N ((os_A o_this 1) (Int32.toNatClampNeg (2 : Int32))) (((os_A o_this 4) (Int32.toNatClampNeg (((16 : Int32) * x6) + x7))) + x5)).bind fun u_9 => ff_X13_presses_b118 N k18 k30 o_this x1 x2 x3 x4 x5 x6 x7 u_9 (((16 : Int32) * x6) + x7)) else none) else (if os_in (4 : Int32) 7 then ((ff_X13_more N ((os_A o_this 1) (Int32.toNatClampNeg (4 : Int32))) (((os_A o_this 4) (Int32.toNatClampNeg (((16 : Int32) * x6) + x7))) - x5)).bind fun u_12 => ff_X13_presses_b118 N k18 k30 o_this x1 x2 x3 x4 x5 x6 x7 u_12 (((16 : Int32) * x6) + x7)) else none)) else none))))
def ff_X13_presses_l30 (N : Nat) (k18 : (os_T × Int32 × Int32 × Int32 × Int32 × Int32 × Int32) → Option os_T) : Nat → (os_T × Int32 × Int32 × Int32 × Int32 × Int32 × Int32 × Int32) → Option os_T := os_loop (fun k30 s1 => ff_X13_presses_c30 N k18 k30 s1.1 s1.2.1 s1.2.2.1 s1.2.2.2.1 s1.2.2.2.2.1 s1.2.2.2.2.2.1 s1.2.2.2.2.2.2.1 s1.2.2.2.2.2.2.2)
def ff_X13_presses_c18 (N : Nat) (k18 : (os_T × Int32 × Int32 × Int32 × Int32 × Int32 × Int32) → Option os_T) (o_this : os_T) (x1 : Int32) (x2 : Int32) (x3 : Int32) (x4 : Int32) (x5 : Int32) (x6 : Int32) : Option os_T :=
  (if (x3 + x4) ≤ x6 then some o_this else ff_X13_presses_l30 N k18 N (o_this, x1, x2, x3, x4, x5, x6, x2))
def ff_X13_presses_l18 (N : Nat) : Nat → (os_T × Int32 × Int32 × Int32 × Int32 × Int32 × Int32) → Option os_T := os_loop (fun k18 s1 => ff_X13_presses_c18 N k18 s1.1 s1.2.1 s1.2.2.1 s1.2.2.2.1 s1.2.2.2.2.1 s1.2.2.2.2.2.1 s1.2.2.2.2.2.2)
def ff_X13_presses (N : Nat) (o_this : os_T) (a1 : Int32) (a2 : Int32) (a3 : Int32) : Option os_T :=
  ff_X13_presses_l18 N N (o_this, a1, a2, a3, (a1 / (100 : Int32)) - (a1 / (100 : Int32)) / (10 : Int32) * (10 : Int32), a1 - a1 / (100 : Int32) * (100 : Int32), a3)
set_option maxHeartbeats 4000000 in
set_option maxRecDepth 100000 in
theorem mm_X13_presses (l : Launch) (D : va_G) (kA : Nat → ClassId) (N : Nat) (q_this : Nat → Nat) (o_this : os_T) (a1 : Int32) (a2 : Int32) (a3 : Int32) (out : os_T) (hf : ff_X13_presses N o_this a1 a2 a3 = some out) : mc_C l D kA yX13_presses wsX13_presses ({ frames := 2, cells := 0, slots := 0, locals := 47 } : Room) [.ref (q_this 0), .int a1, .int a2, .int a3] (ce_X13 kA q_this o_this) none (ce_X13 kA q_this out) := by
  refine mc_of (cc := cX13_presses) (maxL := 9) (ret := none) (by decide) rfl (Nat.le_of_ble_eq_true rfl) ?_
  intro p e s m below meth c A B hD hP hS ls hl
  obtain ⟨hx, hb, hr, hlk, hml, hown, hts, hK, hA, hnm⟩ := B
  have hown : s.vm.findClass RX13 = some m.cls := hown
  have hl : lv_has ls 9 [(0, .ref (q_this 0)), (1, .int a1), (2, .int a2), (3, .int a3)] := hl
  have hUX13 : ∀ w ∈ u_ws RX13 TX13 48, w.before [.ref (q_this 0), .int a1, .int a2, .int a3].toArray s = true := fun w h => hts w (List.mem_cons_of_mem _ (List.mem_append_right _ h))
  have hB119 : ∀ (k18 : (os_T × Int32 × Int32 × Int32 × Int32 × Int32 × Int32) → Option os_T), (∀ (o_this : os_T) (x1 : Int32) (x2 : Int32) (x3 : Int32) (x4 : Int32) (x5 : Int32) (x6 : Int32) (H : Heap) (locs : List Loc) (ls : Array Slot), va_P D vwCl (ce_X13 kA q_this o_this) H → va_D A (ce_X13 kA q_this o_this) → va_S A s.heap H locs → lv_has ls 9 [(0, .ref (q_this 0)), (1, .int x1), (2, .int x2), (3, .int x3), (4, .int x4), (5, .int x5), (6, .int x6)] → k18 (o_this, x1, x2, x3, x4, x5, x6) = some out → W p l e ({ frames := 2, cells := 0, slots := 0, locals := 47 } : Room) s m [.ref (q_this 0), .int a1, .int a2, .int a3].toArray below meth c H locs 0 0 (MQ below (mc_Q D kA A none (ce_X13 kA q_this out)) [.ref (q_this 0), .int a1, .int a2, .int a3].toArray s 0 0 A) (F0 m 18 ls [])) → ∀ (k30 : (os_T × Int32 × Int32 × Int32 × Int32 × Int32 × Int32 × Int32) → Option os_T), (∀ (o_this : os_T) (x1 : Int32) (x2 : Int32) (x3 : Int32) (x4 : Int32) (x5 : Int32) (x6 : Int32) (x7 : Int32) (H : Heap) (locs : List Loc) (ls : Array Slot), va_P D vwCl (ce_X13 kA q_this o_this) H → va_D A (ce_X13 kA q_this o_this) → va_S A s.heap H locs → lv_has ls 9 [(0, .ref (q_this 0)), (1, .int x1), (2, .int x2), (3, .int x3), (4, .int x4), (5, .int x5), (6, .int x6), (7, .int x7)] → k30 (o_this, x1, x2, x3, x4, x5, x6, x7) = some out → W p l e ({ frames := 2, cells := 0, slots := 0, locals := 47 } : Room) s m [.ref (q_this 0), .int a1, .int a2, .int a3].toArray below meth c H locs 0 0 (MQ below (mc_Q D kA A none (ce_X13 kA q_this out)) [.ref (q_this 0), .int a1, .int a2, .int a3].toArray s 0 0 A) (F0 m 30 ls [])) → ∀ (o_this : os_T) (x1 : Int32) (x2 : Int32) (x3 : Int32) (x4 : Int32) (x5 : Int32) (x6 : Int32) (x7 : Int32) (H : Heap) (locs : List Loc) (ls : Array Slot), va_P D vwCl (ce_X13 kA q_this o_this) H → va_D A (ce_X13 kA q_this o_this) → va_S A s.heap H locs → lv_has ls 9 [(0, .ref (q_this 0)), (1, .int x1), (2, .int x2), (3, .int x3), (4, .int x4), (5, .int x5), (6, .int x6), (7, .int x7)] → ff_X13_presses_b119 N k18 k30 o_this x1 x2 x3 x4 x5 x6 x7 = some out → W p l e ({ frames := 2, cells := 0, slots := 0, locals := 47 } : Room) s m [.ref (q_this 0), .int a1, .int a2, .int a3].toArray below meth c H locs 0 0 (MQ below (mc_Q D kA A none (ce_X13 kA q_this out)) [.ref (q_this 0), .int a1, .int a2, .int a3].toArray s 0 0 A) (F0 m 119 ls []) := by
    intro k18 hk18 k30 hk30 o_this x1 x2 x3 x4 x5 x6 x7 H locs ls hP hD hS hl hf
    unfold ff_X13_presses_b119 at hf
    refine lv_iinc (v := x7 + 1) (lv' := [(7, .int (x7 + 1)), (0, .ref (q_this 0)), (1, .int x1), (2, .int x2), (3, .int x3), (4, .int x4), (5, .int x5), (6, .int x6)]) hx hb dX13_presses_119 hl (k := 7) rfl rfl (by decide) rfl (fun ls hl => ?_)
    refine lv_goto (tgt := 30) hx hb dX13_presses_122 (by decide) ?_
    exact hk30 o_this x1 x2 x3 x4 x5 x6 (x7 + 1) _ _ _ hP hD hS (lv_sub hl [1, 2, 3, 4, 5, 6, 7, 0] rfl) hf
  have hB118 : ∀ (k18 : (os_T × Int32 × Int32 × Int32 × Int32 × Int32 × Int32) → Option os_T), (∀ (o_this : os_T) (x1 : Int32) (x2 : Int32) (x3 : Int32) (x4 : Int32) (x5 : Int32) (x6 : Int32) (H : Heap) (locs : List Loc) (ls : Array Slot), va_P D vwCl (ce_X13 kA q_this o_this) H → va_D A (ce_X13 kA q_this o_this) → va_S A s.heap H locs → lv_has ls 9 [(0, .ref (q_this 0)), (1, .int x1), (2, .int x2), (3, .int x3), (4, .int x4), (5, .int x5), (6, .int x6)] → k18 (o_this, x1, x2, x3, x4, x5, x6) = some out → W p l e ({ frames := 2, cells := 0, slots := 0, locals := 47 } : Room) s m [.ref (q_this 0), .int a1, .int a2, .int a3].toArray below meth c H locs 0 0 (MQ below (mc_Q D kA A none (ce_X13 kA q_this out)) [.ref (q_this 0), .int a1, .int a2, .int a3].toArray s 0 0 A) (F0 m 18 ls [])) → ∀ (k30 : (os_T × Int32 × Int32 × Int32 × Int32 × Int32 × Int32 × Int32) → Option os_T), (∀ (o_this : os_T) (x1 : Int32) (x2 : Int32) (x3 : Int32) (x4 : Int32) (x5 : Int32) (x6 : Int32) (x7 : Int32) (H : Heap) (locs : List Loc) (ls : Array Slot), va_P D vwCl (ce_X13 kA q_this o_this) H → va_D A (ce_X13 kA q_this o_this) → va_S A s.heap H locs → lv_has ls 9 [(0, .ref (q_this 0)), (1, .int x1), (2, .int x2), (3, .int x3), (4, .int x4), (5, .int x5), (6, .int x6), (7, .int x7)] → k30 (o_this, x1, x2, x3, x4, x5, x6, x7) = some out → W p l e ({ frames := 2, cells := 0, slots := 0, locals := 47 } : Room) s m [.ref (q_this 0), .int a1, .int a2, .int a3].toArray below meth c H locs 0 0 (MQ below (mc_Q D kA A none (ce_X13 kA q_this out)) [.ref (q_this 0), .int a1, .int a2, .int a3].toArray s 0 0 A) (F0 m 30 ls [])) → ∀ (o_this : os_T) (x1 : Int32) (x2 : Int32) (x3 : Int32) (x4 : Int32) (x5 : Int32) (x6 : Int32) (x7 : Int32) (t0 : Int32) (t1 : Int32) (H : Heap) (locs : List Loc) (ls : Array Slot), va_P D vwCl (ce_X13 kA q_this o_this) H → va_D A (ce_X13 kA q_this o_this) → va_S A s.heap H locs → lv_has ls 9 [(0, .ref (q_this 0)), (1, .int x1), (2, .int x2), (3, .int x3), (4, .int x4), (5, .int x5), (6, .int x6), (7, .int x7)] → ff_X13_presses_b118 N k18 k30 o_this x1 x2 x3 x4 x5 x6 x7 t0 t1 = some out → W p l e ({ frames := 2, cells := 0, slots := 0, locals := 47 } : Room) s m [.ref (q_this 0), .int a1, .int a2, .int a3].toArray below meth c H locs 0 0 (MQ below (mc_Q D kA A none (ce_X13 kA q_this out)) [.ref (q_this 0), .int a1, .int a2, .int a3].toArray s 0 0 A) (F0 m 118 ls [.int t0, .int t1, .ref (q_this 5)]) := by
    intro k18 hk18 k30 hk30 o_this x1 x2 x3 x4 x5 x6 x7 t0 t1 H locs ls hP hD hS hl hf
    unfold ff_X13_presses_b118 at hf
    obtain ⟨hi_14, hf⟩ := os_if hf
    refine va_iast hx hb hK hP hD hS 5 0 rfl rfl hi_14 dX13_presses_118 (fun H locs hP hD hS => ?_)
    have hP : va_P D vwCl (ce_X13 kA q_this (ss_A o_this 4 (upd (os_A o_this 4) (Int32.toNatClampNeg t1) t0))) H := hP
    have hD : va_D A (ce_X13 kA q_this (ss_A o_this 4 (upd (os_A o_this 4) (Int32.toNatClampNeg t1) t0))) := hD
    exact hB119 k18 hk18 k30 hk30 (ss_A o_this 4 (upd (os_A o_this 4) (Int32.toNatClampNeg t1) t0)) x1 x2 x3 x4 x5 x6 x7 _ _ _ hP hD hS (lv_sub hl [0, 1, 2, 3, 4, 5, 6, 7] rfl) hf
  have hL30 : ∀ (k18 : (os_T × Int32 × Int32 × Int32 × Int32 × Int32 × Int32) → Option os_T), (∀ (o_this : os_T) (x1 : Int32) (x2 : Int32) (x3 : Int32) (x4 : Int32) (x5 : Int32) (x6 : Int32) (H : Heap) (locs : List Loc) (ls : Array Slot), va_P D vwCl (ce_X13 kA q_this o_this) H → va_D A (ce_X13 kA q_this o_this) → va_S A s.heap H locs → lv_has ls 9 [(0, .ref (q_this 0)), (1, .int x1), (2, .int x2), (3, .int x3), (4, .int x4), (5, .int x5), (6, .int x6)] → k18 (o_this, x1, x2, x3, x4, x5, x6) = some out → W p l e ({ frames := 2, cells := 0, slots := 0, locals := 47 } : Room) s m [.ref (q_this 0), .int a1, .int a2, .int a3].toArray below meth c H locs 0 0 (MQ below (mc_Q D kA A none (ce_X13 kA q_this out)) [.ref (q_this 0), .int a1, .int a2, .int a3].toArray s 0 0 A) (F0 m 18 ls [])) → ∀ (n : Nat) (o_this : os_T) (x1 : Int32) (x2 : Int32) (x3 : Int32) (x4 : Int32) (x5 : Int32) (x6 : Int32) (x7 : Int32) (H : Heap) (locs : List Loc) (ls : Array Slot), va_P D vwCl (ce_X13 kA q_this o_this) H → va_D A (ce_X13 kA q_this o_this) → va_S A s.heap H locs → lv_has ls 9 [(0, .ref (q_this 0)), (1, .int x1), (2, .int x2), (3, .int x3), (4, .int x4), (5, .int x5), (6, .int x6), (7, .int x7)] → ff_X13_presses_l30 N k18 n (o_this, x1, x2, x3, x4, x5, x6, x7) = some out → W p l e ({ frames := 2, cells := 0, slots := 0, locals := 47 } : Room) s m [.ref (q_this 0), .int a1, .int a2, .int a3].toArray below meth c H locs 0 0 (MQ below (mc_Q D kA A none (ce_X13 kA q_this out)) [.ref (q_this 0), .int a1, .int a2, .int a3].toArray s 0 0 A) (F0 m 30 ls []) := by
    intro k18 hk18 n
    induction n with
    | zero => intro o_this x1 x2 x3 x4 x5 x6 x7 H locs ls _ _ _ _ hf; cases hf
    | succ n hk30 =>
      intro o_this x1 x2 x3 x4 x5 x6 x7 H locs ls hP hD hS hl hf
      have hf : ff_X13_presses_c30 N k18 (ff_X13_presses_l30 N k18 n) o_this x1 x2 x3 x4 x5 x6 x7 = some out := hf
      generalize hke : ff_X13_presses_l30 N k18 n = k30 at hk30 hf
      unfold ff_X13_presses_c30 at hf
      refine lv_iload hx hb dX13_presses_30 (lv_at hl 7 rfl) ?_
      refine lv_iload_n hx hb dX13_presses_32 rfl (lv_at hl 2 rfl) ?_
      refine lv_iload hx hb dX13_presses_33 (lv_at hl 4 rfl) ?_
      refine lv_iadd hx hb dX13_presses_35 ?_
      refine lv_icmp_ge (tgt := 125) hx hb dX13_presses_36 (by decide) (fun hc_2 => ?_) (fun hc_2 => ?_)
      · rw [if_pos hc_2] at hf
        refine lv_iinc (v := x6 + 1) (lv' := [(6, .int (x6 + 1)), (0, .ref (q_this 0)), (1, .int x1), (2, .int x2), (3, .int x3), (4, .int x4), (5, .int x5), (7, .int x7)]) hx hb dX13_presses_125 hl (k := 6) rfl rfl (by decide) rfl (fun ls hl => ?_)
        refine lv_goto (tgt := 18) hx hb dX13_presses_128 (by decide) ?_
        exact hk18 o_this x1 x2 x3 x4 x5 (x6 + 1) _ _ _ hP hD hS (lv_sub hl [1, 2, 3, 4, 5, 6, 0] rfl) hf
      · rw [if_neg hc_2] at hf
        refine lv_aload_n hx hb dX13_presses_39 rfl (lv_at hl 0 rfl) ?_
        refine lv_iload hx hb dX13_presses_40 (lv_at hl 7 rfl) ?_
        refine lv_iload hx hb dX13_presses_42 (lv_at hl 6 rfl) ?_
        obtain ⟨u_3, he_4, hf⟩ := os_bd hf
        refine mc_callV ⟨hx, hb, hml, hown, hts⟩ (mm_X13_isCell l D kA N q_this o_this x7 x6 u_3 he_4) (cwV 2 hts gX13_presses_X13_isCell rfl rfl rfl (by decide +kernel) ⟨Nat.le_of_ble_eq_true rfl, Nat.le_of_ble_eq_true rfl⟩) (wc := (ce_X13 kA q_this o_this)) (ci := 9) (q0 := 0) rfl rfl rfl hl.1 (As := [.int x7, .int x6]) (rest := []) rfl (Nat.le_of_ble_eq_true rfl) dX13_presses_44 ⟨Nat.le_of_ble_eq_true rfl, Nat.le_of_ble_eq_true rfl⟩ hK hP hD hS hA [0, 1, 2, 3, 4, 5, 6, 7, 8, 9, 10, 11, 12, 13, 14, 15, 16, 17, 18, 19, 20, 21, 22, 23] [] [0, 1, 2, 3, 4, 5, 6, 7, 8, 9, 10, 11, 12, 13, 14, 15, 16, 17, 18, 19, 20, 21, 22, 23] rfl (by decide) rfl (by decide) (by decide) rfl (by decide) (wr := []) (w2 := (ce_X13 kA q_this o_this)) (fun H locs hP hD hS => ?_)
        have hP : va_P D vwCl (ce_X13 kA q_this o_this) H := hP
        refine lv_if_ne (tgt := 53) hx hb dX13_presses_47 (by decide) (fun hc_5 => ?_) (fun hc_5 => ?_)
        · rw [if_neg hc_5] at hf
          refine lv_aload_n hx hb dX13_presses_53 rfl (lv_at hl 0 rfl) ?_
          refine va_get (D := D) (ci := 9) (v := .ref (q_this 5)) (C := RX13) (T := TX13) (N := 48) hx hb hUX13 (fun _ h9 => h9) hown hK hP 0 rfl rfl 16 (by decide) (hts (Cond.fieldLink RX13 29 "ReliefBuilderModel" "heights" "[I") (List.mem_of_getElem? (i := 1) rfl)) (fun _ h9 => h9) rfl dX13_presses_54 ?_
          refine lv_bipush (v := 16) hx hb dX13_presses_57 (by decide) ?_
          refine lv_iload hx hb dX13_presses_59 (lv_at hl 6 rfl) ?_
          refine lv_imul hx hb dX13_presses_61 ?_
          refine lv_iload hx hb dX13_presses_62 (lv_at hl 7 rfl) ?_
          refine lv_iadd hx hb dX13_presses_64 ?_
          obtain ⟨hi_6, hf⟩ := os_if hf
          refine va_iald hx hb hK hP 5 0 rfl rfl hi_6 dX13_presses_65 ?_
          refine lv_istore (lv' := [(8, .int ((os_A o_this 4) (Int32.toNatClampNeg (((16 : Int32) * x6) + x7)))), (0, .ref (q_this 0)), (1, .int x1), (2, .int x2), (3, .int x3), (4, .int x4), (5, .int x5), (6, .int x6), (7, .int x7)]) hx hb dX13_presses_66 hl (by decide) rfl (fun ls hl => ?_)
          refine lv_aload_n hx hb dX13_presses_68 rfl (lv_at hl 1 rfl) ?_
          refine va_get (D := D) (ci := 9) (v := .ref (q_this 5)) (C := RX13) (T := TX13) (N := 48) hx hb hUX13 (fun _ h9 => h9) hown hK hP 0 rfl rfl 16 (by decide) (hts (Cond.fieldLink RX13 29 "ReliefBuilderModel" "heights" "[I") (List.mem_of_getElem? (i := 1) rfl)) (fun _ h9 => h9) rfl dX13_presses_69 ?_
          refine lv_bipush (v := 16) hx hb dX13_presses_72 (by decide) ?_
          refine lv_iload hx hb dX13_presses_74 (lv_at hl 7 rfl) ?_
          refine lv_imul hx hb dX13_presses_76 ?_
          refine lv_iload hx hb dX13_presses_77 (lv_at hl 8 rfl) ?_
          refine lv_iadd hx hb dX13_presses_79 ?_
          refine lv_iload_n hx hb dX13_presses_80 rfl (lv_at hl 2 rfl) ?_
          refine lv_sipush (v := 1000) hx hb dX13_presses_81 (by decide) ?_
          refine lv_icmp_ge (tgt := 104) hx hb dX13_presses_84 (by decide) (fun hc_7 => ?_) (fun hc_7 => ?_)
          · rw [if_pos hc_7] at hf
            refine lv_aload_n hx hb dX13_presses_104 rfl (lv_at hl 1 rfl) ?_
            refine va_get (D := D) (ci := 9) (v := .ref (q_this 2)) (C := RX13) (T := TX13) (N := 48) hx hb hUX13 (fun _ h9 => h9) hown hK hP 0 rfl rfl 13 (by decide) (hts (Cond.fieldLink RX13 20 "ReliefBuilderModel" "now" "[I") (List.mem_of_getElem? (i := 2) rfl)) (fun _ h9 => h9) rfl dX13_presses_105 ?_
            refine lv_iconst (v := 2) hx hb dX13_presses_108 (by decide) ?_
            obtain ⟨hi_8, hf⟩ := os_if hf
            refine va_iald hx hb hK hP 2 0 rfl rfl hi_8 dX13_presses_109 ?_
            refine lv_iload hx hb dX13_presses_110 (lv_at hl 0 rfl) ?_
            refine lv_iload hx hb dX13_presses_112 (lv_at hl 6 rfl) ?_
            refine lv_iadd hx hb dX13_presses_114 ?_
            obtain ⟨u_9, he_10, hf⟩ := os_bd hf
            refine mc_callS ⟨hx, hb, hml, hown, hts⟩ (mm_X13_less l D kA N ((os_A o_this 1) (Int32.toNatClampNeg (2 : Int32))) (((os_A o_this 4) (Int32.toNatClampNeg (((16 : Int32) * x6) + x7))) + x5) u_9 he_10) (va_cwS 2 hts gX13_presses_X13_less rfl rfl rfl (by decide +kernel) ⟨Nat.le_of_ble_eq_true rfl, Nat.le_of_ble_eq_true rfl⟩) (wc := []) rfl hl.1 (As := [.int ((os_A o_this 1) (Int32.toNatClampNeg (2 : Int32))), .int (((os_A o_this 4) (Int32.toNatClampNeg (((16 : Int32) * x6) + x7))) + x5)]) (rest := [.int (((16 : Int32) * x6) + x7), .ref (q_this 5)]) rfl (Nat.le_of_ble_eq_true rfl) dX13_presses_115 ⟨Nat.le_of_ble_eq_true rfl, Nat.le_of_ble_eq_true rfl⟩ hK hP hD hS hA [] [0, 1, 2, 3, 4, 5, 6, 7, 8, 9, 10, 11, 12, 13, 14, 15, 16, 17, 18, 19, 20, 21, 22, 23] [0, 1, 2, 3, 4, 5, 6, 7, 8, 9, 10, 11, 12, 13, 14, 15, 16, 17, 18, 19, 20, 21, 22, 23] rfl (by decide) rfl (by decide) (by decide) rfl (by decide) (wr := (ce_X13 kA q_this o_this)) (w2 := (ce_X13 kA q_this o_this)) (fun H locs hP hD hS => ?_)
            have hP : va_P D vwCl (ce_X13 kA q_this o_this) H := hP
            exact hB118 k18 hk18 k30 hk30 o_this x1 x2 x3 x4 x5 x6 x7 u_9 (((16 : Int32) * x6) + x7) _ _ _ hP hD hS (lv_sub hl [1, 2, 3, 4, 5, 6, 7, 8] rfl) hf
          · rw [if_neg hc_7] at hf
            refine lv_aload_n hx hb dX13_presses_87 rfl (lv_at hl 1 rfl) ?_
            refine va_get (D := D) (ci := 9) (v := .ref (q_this 2)) (C := RX13) (T := TX13) (N := 48) hx hb hUX13 (fun _ h9 => h9) hown hK hP 0 rfl rfl 13 (by decide) (hts (Cond.fieldLink RX13 20 "ReliefBuilderModel" "now" "[I") (List.mem_of_getElem? (i := 2) rfl)) (fun _ h9 => h9) rfl dX13_presses_88 ?_
            refine lv_iconst (v := 4) hx hb dX13_presses_91 (by decide) ?_
            obtain ⟨hi_11, hf⟩ := os_if hf
            refine va_iald hx hb hK hP 2 0 rfl rfl hi_11 dX13_presses_92 ?_
            refine lv_iload hx hb dX13_presses_93 (lv_at hl 0 rfl) ?_
            refine lv_iload hx hb dX13_presses_95 (lv_at hl 6 rfl) ?_
            refine lv_isub hx hb dX13_presses_97 ?_
            obtain ⟨u_12, he_13, hf⟩ := os_bd hf
            refine mc_callS ⟨hx, hb, hml, hown, hts⟩ (mm_X13_more l D kA N ((os_A o_this 1) (Int32.toNatClampNeg (4 : Int32))) (((os_A o_this 4) (Int32.toNatClampNeg (((16 : Int32) * x6) + x7))) - x5) u_12 he_13) (va_cwS 2 hts gX13_presses_X13_more rfl rfl rfl (by decide +kernel) ⟨Nat.le_of_ble_eq_true rfl, Nat.le_of_ble_eq_true rfl⟩) (wc := []) rfl hl.1 (As := [.int ((os_A o_this 1) (Int32.toNatClampNeg (4 : Int32))), .int (((os_A o_this 4) (Int32.toNatClampNeg (((16 : Int32) * x6) + x7))) - x5)]) (rest := [.int (((16 : Int32) * x6) + x7), .ref (q_this 5)]) rfl (Nat.le_of_ble_eq_true rfl) dX13_presses_98 ⟨Nat.le_of_ble_eq_true rfl, Nat.le_of_ble_eq_true rfl⟩ hK hP hD hS hA [] [0, 1, 2, 3, 4, 5, 6, 7, 8, 9, 10, 11, 12, 13, 14, 15, 16, 17, 18, 19, 20, 21, 22, 23] [0, 1, 2, 3, 4, 5, 6, 7, 8, 9, 10, 11, 12, 13, 14, 15, 16, 17, 18, 19, 20, 21, 22, 23] rfl (by decide) rfl (by decide) (by decide) rfl (by decide) (wr := (ce_X13 kA q_this o_this)) (w2 := (ce_X13 kA q_this o_this)) (fun H locs hP hD hS => ?_)
            have hP : va_P D vwCl (ce_X13 kA q_this o_this) H := hP
            refine lv_goto (tgt := 118) hx hb dX13_presses_101 (by decide) ?_
            exact hB118 k18 hk18 k30 hk30 o_this x1 x2 x3 x4 x5 x6 x7 u_12 (((16 : Int32) * x6) + x7) _ _ _ hP hD hS (lv_sub hl [1, 2, 3, 4, 5, 6, 7, 8] rfl) hf
        · rw [if_pos hc_5] at hf
          refine lv_goto (tgt := 119) hx hb dX13_presses_50 (by decide) ?_
          exact hB119 k18 hk18 k30 hk30 o_this x1 x2 x3 x4 x5 x6 x7 _ _ _ hP hD hS (lv_sub hl [0, 1, 2, 3, 4, 5, 6, 7] rfl) hf
  have hL18 : ∀ (n : Nat) (o_this : os_T) (x1 : Int32) (x2 : Int32) (x3 : Int32) (x4 : Int32) (x5 : Int32) (x6 : Int32) (H : Heap) (locs : List Loc) (ls : Array Slot), va_P D vwCl (ce_X13 kA q_this o_this) H → va_D A (ce_X13 kA q_this o_this) → va_S A s.heap H locs → lv_has ls 9 [(0, .ref (q_this 0)), (1, .int x1), (2, .int x2), (3, .int x3), (4, .int x4), (5, .int x5), (6, .int x6)] → ff_X13_presses_l18 N n (o_this, x1, x2, x3, x4, x5, x6) = some out → W p l e ({ frames := 2, cells := 0, slots := 0, locals := 47 } : Room) s m [.ref (q_this 0), .int a1, .int a2, .int a3].toArray below meth c H locs 0 0 (MQ below (mc_Q D kA A none (ce_X13 kA q_this out)) [.ref (q_this 0), .int a1, .int a2, .int a3].toArray s 0 0 A) (F0 m 18 ls []) := by
    intro n
    induction n with
    | zero => intro o_this x1 x2 x3 x4 x5 x6 H locs ls _ _ _ _ hf; cases hf
    | succ n hk18 =>
      intro o_this x1 x2 x3 x4 x5 x6 H locs ls hP hD hS hl hf
      have hf : ff_X13_presses_c18 N (ff_X13_presses_l18 N n) o_this x1 x2 x3 x4 x5 x6 = some out := hf
      generalize hke : ff_X13_presses_l18 N n = k18 at hk18 hf
      unfold ff_X13_presses_c18 at hf
      refine lv_iload hx hb dX13_presses_18 (lv_at hl 6 rfl) ?_
      refine lv_iload_n hx hb dX13_presses_20 rfl (lv_at hl 3 rfl) ?_
      refine lv_iload hx hb dX13_presses_21 (lv_at hl 4 rfl) ?_
      refine lv_iadd hx hb dX13_presses_23 ?_
      refine lv_icmp_ge (tgt := 131) hx hb dX13_presses_24 (by decide) (fun hc_1 => ?_) (fun hc_1 => ?_)
      · rw [if_pos hc_1] at hf
        rw [← Option.some.inj hf]
        exact mc_retv hx hb hr hlk hP hK hD hS dX13_presses_131
      · rw [if_neg hc_1] at hf
        refine lv_iload_n hx hb dX13_presses_27 rfl (lv_at hl 2 rfl) ?_
        refine lv_istore (lv' := [(7, .int x2), (0, .ref (q_this 0)), (1, .int x1), (2, .int x2), (3, .int x3), (4, .int x4), (5, .int x5), (6, .int x6)]) hx hb dX13_presses_28 hl (by decide) rfl (fun ls hl => ?_)
        exact hL30 k18 hk18 N o_this x1 x2 x3 x4 x5 x6 x2 _ _ _ hP hD hS (lv_sub hl [1, 2, 3, 4, 5, 6, 7, 0] rfl) hf
  unfold ff_X13_presses at hf
  refine lv_iload_n hx hb dX13_presses_0 rfl (lv_at hl 1 rfl) ?_
  refine lv_bipush (v := 100) hx hb dX13_presses_1 (by decide) ?_
  refine lv_idiv hx hb dX13_presses_3 (by decide) ?_
  refine lv_bipush (v := 10) hx hb dX13_presses_4 (by decide) ?_
  refine lv_irem hx hb dX13_presses_6 (by decide) ?_
  refine lv_istore (lv' := [(4, .int ((a1 / (100 : Int32)) - (a1 / (100 : Int32)) / (10 : Int32) * (10 : Int32))), (0, .ref (q_this 0)), (1, .int a1), (2, .int a2), (3, .int a3)]) hx hb dX13_presses_7 hl (by decide) rfl (fun ls hl => ?_)
  refine lv_iload_n hx hb dX13_presses_9 rfl (lv_at hl 2 rfl) ?_
  refine lv_bipush (v := 100) hx hb dX13_presses_10 (by decide) ?_
  refine lv_irem hx hb dX13_presses_12 (by decide) ?_
  refine lv_istore (lv' := [(5, .int (a1 - a1 / (100 : Int32) * (100 : Int32))), (4, .int ((a1 / (100 : Int32)) - (a1 / (100 : Int32)) / (10 : Int32) * (10 : Int32))), (0, .ref (q_this 0)), (1, .int a1), (2, .int a2), (3, .int a3)]) hx hb dX13_presses_13 hl (by decide) rfl (fun ls hl => ?_)
  refine lv_iload_n hx hb dX13_presses_15 rfl (lv_at hl 5 rfl) ?_
  refine lv_istore (lv' := [(6, .int a3), (5, .int (a1 - a1 / (100 : Int32) * (100 : Int32))), (4, .int ((a1 / (100 : Int32)) - (a1 / (100 : Int32)) / (10 : Int32) * (10 : Int32))), (0, .ref (q_this 0)), (1, .int a1), (2, .int a2), (3, .int a3)]) hx hb dX13_presses_16 hl (by decide) rfl (fun ls hl => ?_)
  exact hL18 N o_this a1 a2 a3 ((a1 / (100 : Int32)) - (a1 / (100 : Int32)) / (10 : Int32) * (10 : Int32)) (a1 - a1 / (100 : Int32) * (100 : Int32)) a3 _ _ _ hP hD hS (lv_sub hl [3, 4, 5, 6, 2, 1, 0] rfl) hf
def ff_X13_stamp_b59 (N : Nat) (o_this : os_T) (x1 : Int32) (x2 : Int32) (x3 : Int32) (x4 : Int32) (t0 : Int32) : Option (Int32 × os_T) :=
  (if t0 ≤ 0 then ((ff_X13_laysAside N (ss_I o_this 0 t0)).bind fun u_13 => (if os_in (((4 : Int32) * x1) + x2) 12 then ((ff_X13_presses N u_13 ((os_A u_13 12) (Int32.toNatClampNeg (((4 : Int32) * x1) + x2))) x3 x4).bind fun u_16 => ((ff_X13_keeps N u_16).bind fun u_18 => some (u_18.1, u_18.2))) else none)) else some ((0 : Int32), ss_I o_this 0 t0))
def ff_X13_stamp_b54 (N : Nat) (o_this : os_T) (x1 : Int32) (x2 : Int32) (x3 : Int32) (x4 : Int32) (t0 : Int32) : Option (Int32 × os_T) :=
  ((ff_X13_truth N t0).bind fun u_10 => ff_X13_stamp_b59 N o_this x1 x2 x3 x4 (u_10 * (2 : Int32)))
def ff_X13_stamp_b23 (N : Nat) (o_this : os_T) (x1 : Int32) (x2 : Int32) (x3 : Int32) (x4 : Int32) (t0 : Int32) : Option (Int32 × os_T) :=
  (if t0 = 0 then ff_X13_stamp_b59 N o_this x1 x2 x3 x4 (1 : Int32) else (if os_in (((4 : Int32) * x1) + x2) 12 then (if ((os_A o_this 12) (Int32.toNatClampNeg (((4 : Int32) * x1) + x2))) = (-1 : Int32) then ff_X13_stamp_b54 N o_this x1 x2 x3 x4 (1 : Int32) else ff_X13_stamp_b54 N o_this x1 x2 x3 x4 (0 : Int32)) else none))
def ff_X13_stamp_b22 (N : Nat) (o_this : os_T) (x1 : Int32) (x2 : Int32) (x3 : Int32) (x4 : Int32) : Option (Int32 × os_T) :=
  ff_X13_stamp_b23 N o_this x1 x2 x3 x4 (0 : Int32)
def ff_X13_stamp (N : Nat) (o_this : os_T) (a1 : Int32) (a2 : Int32) (a3 : Int32) (a4 : Int32) : Option (Int32 × os_T) :=
  ((ff_X13_isPlace N a1 a2).bind fun u_1 => (if u_1 = 0 then ff_X13_stamp_b22 N o_this a1 a2 a3 a4 else ((ff_X13_isCell N o_this a3 a4).bind fun u_4 => (if u_4 = 0 then ff_X13_stamp_b22 N o_this a1 a2 a3 a4 else ff_X13_stamp_b23 N o_this a1 a2 a3 a4 (1 : Int32)))))
set_option maxHeartbeats 4000000 in
set_option maxRecDepth 100000 in
theorem mm_X13_stamp (l : Launch) (D : va_G) (kA : Nat → ClassId) (N : Nat) (q_this : Nat → Nat) (o_this : os_T) (a1 : Int32) (a2 : Int32) (a3 : Int32) (a4 : Int32) (out : (Int32 × os_T)) (hf : ff_X13_stamp N o_this a1 a2 a3 a4 = some out) : mc_C l D kA yX13_stamp wsX13_stamp ({ frames := 3, cells := 0, slots := 0, locals := 75 } : Room) [.ref (q_this 0), .int a1, .int a2, .int a3, .int a4] (ce_X13 kA q_this o_this) (some (.int out.1)) (ce_X13 kA q_this out.2) := by
  refine mc_of (cc := cX13_stamp) (maxL := 6) (ret := (some .int)) (by decide) rfl (Nat.le_of_ble_eq_true rfl) ?_
  intro p e s m below meth c A B hD hP hS ls hl
  obtain ⟨hx, hb, hr, hlk, hml, hown, hts, hK, hA, hnm⟩ := B
  have hown : s.vm.findClass RX13 = some m.cls := hown
  have hl : lv_has ls 6 [(0, .ref (q_this 0)), (1, .int a1), (2, .int a2), (3, .int a3), (4, .int a4)] := hl
  have hUX13 : ∀ w ∈ u_ws RX13 TX13 48, w.before [.ref (q_this 0), .int a1, .int a2, .int a3, .int a4].toArray s = true := fun w h => hts w (List.mem_cons_of_mem _ (List.mem_append_right _ h))
  have hB59 : ∀ (o_this : os_T) (x1 : Int32) (x2 : Int32) (x3 : Int32) (x4 : Int32) (t0 : Int32) (H : Heap) (locs : List Loc) (ls : Array Slot), va_P D vwCl (ce_X13 kA q_this o_this) H → va_D A (ce_X13 kA q_this o_this) → va_S A s.heap H locs → lv_has ls 6 [(0, .ref (q_this 0)), (1, .int x1), (2, .int x2), (3, .int x3), (4, .int x4)] → ff_X13_stamp_b59 N o_this x1 x2 x3 x4 t0 = some out → W p l e ({ frames := 3, cells := 0, slots := 0, locals := 75 } : Room) s m [.ref (q_this 0), .int a1, .int a2, .int a3, .int a4].toArray below meth c H locs 0 0 (MQ below (mc_Q D kA A (some (.int out.1)) (ce_X13 kA q_this out.2)) [.ref (q_this 0), .int a1, .int a2, .int a3, .int a4].toArray s 0 0 A) (F0 m 59 ls [.int t0, .ref (q_this 0)]) := by
    intro o_this x1 x2 x3 x4 t0 H locs ls hP hD hS hl hf
    unfold ff_X13_stamp_b59 at hf
    refine va_put (D := D) (ci := 9) (v := .int t0) (ty := .int) (C := RX13) (T := TX13) (N := 48) hx hb hUX13 (fun _ h9 => h9) tyX13 tyX13_ok nmX13 hown hK hP hD hS 0 rfl rfl 0 (by decide) (hts (Cond.fieldLink RX13 93 "ReliefBuilderModel" "code" "I") (List.mem_of_getElem? (i := 2) rfl)) (fun _ h9 => h9) rfl (tyX13_ok 0 (by decide)) rfl rfl (Nat.le_of_ble_eq_true rfl) dX13_stamp_59 (fun H locs hP hD hS => ?_)
    have hP : va_P D vwCl (ce_X13 kA q_this (ss_I o_this 0 t0)) H := hP
    have hD : va_D A (ce_X13 kA q_this (ss_I o_this 0 t0)) := hD
    refine lv_aload_n hx hb dX13_stamp_62 rfl (lv_at hl 0 rfl) ?_
    refine va_get (D := D) (ci := 9) (v := .int t0) (C := RX13) (T := TX13) (N := 48) hx hb hUX13 (fun _ h9 => h9) hown hK hP 0 rfl rfl 0 (by decide) (hts (Cond.fieldLink RX13 93 "ReliefBuilderModel" "code" "I") (List.mem_of_getElem? (i := 2) rfl)) (fun _ h9 => h9) rfl dX13_stamp_63 ?_
    refine lv_if_le (tgt := 71) hx hb dX13_stamp_66 (by decide) (fun hc_12 => ?_) (fun hc_12 => ?_)
    · rw [if_pos hc_12] at hf
      refine lv_aload_n hx hb dX13_stamp_71 rfl (lv_at hl 0 rfl) ?_
      obtain ⟨u_13, he_14, hf⟩ := os_bd hf
      refine mc_callV ⟨hx, hb, hml, hown, hts⟩ (mm_X13_laysAside l D kA N q_this (ss_I o_this 0 t0) u_13 he_14) (cwV 0 hts gX13_stamp_X13_laysAside rfl rfl rfl (by decide +kernel) ⟨Nat.le_of_ble_eq_true rfl, Nat.le_of_ble_eq_true rfl⟩) (wc := (ce_X13 kA q_this (ss_I o_this 0 t0))) (ci := 9) (q0 := 0) rfl rfl rfl hl.1 (As := []) (rest := []) rfl (Nat.le_of_ble_eq_true rfl) dX13_stamp_72 ⟨Nat.le_of_ble_eq_true rfl, Nat.le_of_ble_eq_true rfl⟩ hK hP hD hS hA [0, 1, 2, 3, 4, 5, 6, 7, 8, 9, 10, 11, 12, 13, 14, 15, 16, 17, 18, 19, 20, 21, 22, 23] [] [0, 1, 2, 3, 4, 5, 6, 7, 8, 9, 10, 11, 12, 13, 14, 15, 16, 17, 18, 19, 20, 21, 22, 23] rfl (by decide) rfl (by decide) (by decide) rfl (by decide) (wr := []) (w2 := (ce_X13 kA q_this u_13)) (fun H locs hP hD hS => ?_)
      have hP : va_P D vwCl (ce_X13 kA q_this u_13) H := hP
      refine lv_aload_n hx hb dX13_stamp_75 rfl (lv_at hl 0 rfl) ?_
      refine lv_aload_n hx hb dX13_stamp_76 rfl (lv_at hl 0 rfl) ?_
      refine va_get (D := D) (ci := 9) (v := .ref (q_this 13)) (C := RX13) (T := TX13) (N := 48) hx hb hUX13 (fun _ h9 => h9) hown hK hP 0 rfl rfl 31 (by decide) (hts (Cond.fieldLink RX13 54 "ReliefBuilderModel" "stamps" "[I") (List.mem_of_getElem? (i := 1) rfl)) (fun _ h9 => h9) rfl dX13_stamp_77 ?_
      refine lv_iconst (v := 4) hx hb dX13_stamp_80 (by decide) ?_
      refine lv_iload_n hx hb dX13_stamp_81 rfl (lv_at hl 1 rfl) ?_
      refine lv_imul hx hb dX13_stamp_82 ?_
      refine lv_iload_n hx hb dX13_stamp_83 rfl (lv_at hl 2 rfl) ?_
      refine lv_iadd hx hb dX13_stamp_84 ?_
      obtain ⟨hi_15, hf⟩ := os_if hf
      refine va_iald hx hb hK hP 13 0 rfl rfl hi_15 dX13_stamp_85 ?_
      refine lv_iload_n hx hb dX13_stamp_86 rfl (lv_at hl 3 rfl) ?_
      refine lv_iload hx hb dX13_stamp_87 (lv_at hl 4 rfl) ?_
      obtain ⟨u_16, he_17, hf⟩ := os_bd hf
      refine mc_callV ⟨hx, hb, hml, hown, hts⟩ (mm_X13_presses l D kA N q_this u_13 ((os_A u_13 12) (Int32.toNatClampNeg (((4 : Int32) * x1) + x2))) x3 x4 u_16 he_17) (cwV 3 hts gX13_stamp_X13_presses rfl rfl rfl (by decide +kernel) ⟨Nat.le_of_ble_eq_true rfl, Nat.le_of_ble_eq_true rfl⟩) (wc := (ce_X13 kA q_this u_13)) (ci := 9) (q0 := 0) rfl rfl rfl hl.1 (As := [.int ((os_A u_13 12) (Int32.toNatClampNeg (((4 : Int32) * x1) + x2))), .int x3, .int x4]) (rest := []) rfl (Nat.le_of_ble_eq_true rfl) dX13_stamp_89 ⟨Nat.le_of_ble_eq_true rfl, Nat.le_of_ble_eq_true rfl⟩ hK hP hD hS hA [0, 1, 2, 3, 4, 5, 6, 7, 8, 9, 10, 11, 12, 13, 14, 15, 16, 17, 18, 19, 20, 21, 22, 23] [] [0, 1, 2, 3, 4, 5, 6, 7, 8, 9, 10, 11, 12, 13, 14, 15, 16, 17, 18, 19, 20, 21, 22, 23] rfl (by decide) rfl (by decide) (by decide) rfl (by decide) (wr := []) (w2 := (ce_X13 kA q_this u_16)) (fun H locs hP hD hS => ?_)
      have hP : va_P D vwCl (ce_X13 kA q_this u_16) H := hP
      refine lv_aload_n hx hb dX13_stamp_92 rfl (lv_at hl 0 rfl) ?_
      obtain ⟨u_18, he_19, hf⟩ := os_bd hf
      refine mc_callV ⟨hx, hb, hml, hown, hts⟩ (mm_X13_keeps l D kA N q_this u_16 u_18 he_19) (cwV 0 hts gX13_stamp_X13_keeps rfl rfl rfl (by decide +kernel) ⟨Nat.le_of_ble_eq_true rfl, Nat.le_of_ble_eq_true rfl⟩) (wc := (ce_X13 kA q_this u_16)) (ci := 9) (q0 := 0) rfl rfl rfl hl.1 (As := []) (rest := []) rfl (Nat.le_of_ble_eq_true rfl) dX13_stamp_93 ⟨Nat.le_of_ble_eq_true rfl, Nat.le_of_ble_eq_true rfl⟩ hK hP hD hS hA [0, 1, 2, 3, 4, 5, 6, 7, 8, 9, 10, 11, 12, 13, 14, 15, 16, 17, 18, 19, 20, 21, 22, 23] [] [0, 1, 2, 3, 4, 5, 6, 7, 8, 9, 10, 11, 12, 13, 14, 15, 16, 17, 18, 19, 20, 21, 22, 23] rfl (by decide) rfl (by decide) (by decide) rfl (by decide) (wr := []) (w2 := (ce_X13 kA q_this u_18.2)) (fun H locs hP hD hS => ?_)
      have hP : va_P D vwCl (ce_X13 kA q_this u_18.2) H := hP
      rw [← Option.some.inj hf]
      exact mc_reti hx hb hr hlk hP hK hD hS dX13_stamp_96
    · rw [if_neg hc_12] at hf
      refine lv_iconst (v := 0) hx hb dX13_stamp_69 (by decide) ?_
      rw [← Option.some.inj hf]
      exact mc_reti hx hb hr hlk hP hK hD hS dX13_stamp_70
  have hB54 : ∀ (o_this : os_T) (x1 : Int32) (x2 : Int32) (x3 : Int32) (x4 : Int32) (t0 : Int32) (H : Heap) (locs : List Loc) (ls : Array Slot), va_P D vwCl (ce_X13 kA q_this o_this) H → va_D A (ce_X13 kA q_this o_this) → va_S A s.heap H locs → lv_has ls 6 [(0, .ref (q_this 0)), (1, .int x1), (2, .int x2), (3, .int x3), (4, .int x4)] → ff_X13_stamp_b54 N o_this x1 x2 x3 x4 t0 = some out → W p l e ({ frames := 3, cells := 0, slots := 0, locals := 75 } : Room) s m [.ref (q_this 0), .int a1, .int a2, .int a3, .int a4].toArray below meth c H locs 0 0 (MQ below (mc_Q D kA A (some (.int out.1)) (ce_X13 kA q_this out.2)) [.ref (q_this 0), .int a1, .int a2, .int a3, .int a4].toArray s 0 0 A) (F0 m 54 ls [.int t0, .ref (q_this 0)]) := by
    intro o_this x1 x2 x3 x4 t0 H locs ls hP hD hS hl hf
    unfold ff_X13_stamp_b54 at hf
    obtain ⟨u_10, he_11, hf⟩ := os_bd hf
    refine mc_callS ⟨hx, hb, hml, hown, hts⟩ (mm_X13_truth l D kA N t0 u_10 he_11) (va_cwS 1 hts gX13_stamp_X13_truth rfl rfl rfl (by decide +kernel) ⟨Nat.le_of_ble_eq_true rfl, Nat.le_of_ble_eq_true rfl⟩) (wc := []) rfl hl.1 (As := [.int t0]) (rest := [.ref (q_this 0)]) rfl (Nat.le_of_ble_eq_true rfl) dX13_stamp_54 ⟨Nat.le_of_ble_eq_true rfl, Nat.le_of_ble_eq_true rfl⟩ hK hP hD hS hA [] [0, 1, 2, 3, 4, 5, 6, 7, 8, 9, 10, 11, 12, 13, 14, 15, 16, 17, 18, 19, 20, 21, 22, 23] [0, 1, 2, 3, 4, 5, 6, 7, 8, 9, 10, 11, 12, 13, 14, 15, 16, 17, 18, 19, 20, 21, 22, 23] rfl (by decide) rfl (by decide) (by decide) rfl (by decide) (wr := (ce_X13 kA q_this o_this)) (w2 := (ce_X13 kA q_this o_this)) (fun H locs hP hD hS => ?_)
    have hP : va_P D vwCl (ce_X13 kA q_this o_this) H := hP
    refine lv_iconst (v := 2) hx hb dX13_stamp_57 (by decide) ?_
    refine lv_imul hx hb dX13_stamp_58 ?_
    exact hB59 o_this x1 x2 x3 x4 (u_10 * (2 : Int32)) _ _ _ hP hD hS (lv_sub hl [0, 1, 2, 3, 4] rfl) hf
  have hB23 : ∀ (o_this : os_T) (x1 : Int32) (x2 : Int32) (x3 : Int32) (x4 : Int32) (t0 : Int32) (H : Heap) (locs : List Loc) (ls : Array Slot), va_P D vwCl (ce_X13 kA q_this o_this) H → va_D A (ce_X13 kA q_this o_this) → va_S A s.heap H locs → lv_has ls 6 [(0, .ref (q_this 0)), (1, .int x1), (2, .int x2), (3, .int x3), (4, .int x4)] → ff_X13_stamp_b23 N o_this x1 x2 x3 x4 t0 = some out → W p l e ({ frames := 3, cells := 0, slots := 0, locals := 75 } : Room) s m [.ref (q_this 0), .int a1, .int a2, .int a3, .int a4].toArray below meth c H locs 0 0 (MQ below (mc_Q D kA A (some (.int out.1)) (ce_X13 kA q_this out.2)) [.ref (q_this 0), .int a1, .int a2, .int a3, .int a4].toArray s 0 0 A) (F0 m 23 ls [.int t0]) := by
    intro o_this x1 x2 x3 x4 t0 H locs ls hP hD hS hl hf
    unfold ff_X13_stamp_b23 at hf
    refine lv_istore (lv' := [(5, .int t0), (0, .ref (q_this 0)), (1, .int x1), (2, .int x2), (3, .int x3), (4, .int x4)]) hx hb dX13_stamp_23 hl (by decide) rfl (fun ls hl => ?_)
    refine lv_aload_n hx hb dX13_stamp_25 rfl (lv_at hl 1 rfl) ?_
    refine lv_iload hx hb dX13_stamp_26 (lv_at hl 0 rfl) ?_
    refine lv_if_ne (tgt := 35) hx hb dX13_stamp_28 (by decide) (fun hc_7 => ?_) (fun hc_7 => ?_)
    · rw [if_neg hc_7] at hf
      refine lv_aload_n hx hb dX13_stamp_35 rfl (lv_at hl 1 rfl) ?_
      refine va_get (D := D) (ci := 9) (v := .ref (q_this 13)) (C := RX13) (T := TX13) (N := 48) hx hb hUX13 (fun _ h9 => h9) hown hK hP 0 rfl rfl 31 (by decide) (hts (Cond.fieldLink RX13 54 "ReliefBuilderModel" "stamps" "[I") (List.mem_of_getElem? (i := 1) rfl)) (fun _ h9 => h9) rfl dX13_stamp_36 ?_
      refine lv_iconst (v := 4) hx hb dX13_stamp_39 (by decide) ?_
      refine lv_iload_n hx hb dX13_stamp_40 rfl (lv_at hl 2 rfl) ?_
      refine lv_imul hx hb dX13_stamp_41 ?_
      refine lv_iload_n hx hb dX13_stamp_42 rfl (lv_at hl 3 rfl) ?_
      refine lv_iadd hx hb dX13_stamp_43 ?_
      obtain ⟨hi_8, hf⟩ := os_if hf
      refine va_iald hx hb hK hP 13 0 rfl rfl hi_8 dX13_stamp_44 ?_
      refine lv_iconst (v := (-1)) hx hb dX13_stamp_45 (by decide) ?_
      refine lv_icmp_ne (tgt := 53) hx hb dX13_stamp_46 (by decide) (fun hc_9 => ?_) (fun hc_9 => ?_)
      · rw [if_neg hc_9] at hf
        refine lv_iconst (v := 0) hx hb dX13_stamp_53 (by decide) ?_
        exact hB54 o_this x1 x2 x3 x4 (0 : Int32) _ _ _ hP hD hS (lv_sub hl [1, 2, 3, 4, 5] rfl) hf
      · rw [if_pos hc_9] at hf
        refine lv_iconst (v := 1) hx hb dX13_stamp_49 (by decide) ?_
        refine lv_goto (tgt := 54) hx hb dX13_stamp_50 (by decide) ?_
        exact hB54 o_this x1 x2 x3 x4 (1 : Int32) _ _ _ hP hD hS (lv_sub hl [1, 2, 3, 4, 5] rfl) hf
    · rw [if_pos hc_7] at hf
      refine lv_iconst (v := 1) hx hb dX13_stamp_31 (by decide) ?_
      refine lv_goto (tgt := 59) hx hb dX13_stamp_32 (by decide) ?_
      exact hB59 o_this x1 x2 x3 x4 (1 : Int32) _ _ _ hP hD hS (lv_sub hl [1, 2, 3, 4, 5] rfl) hf
  have hB22 : ∀ (o_this : os_T) (x1 : Int32) (x2 : Int32) (x3 : Int32) (x4 : Int32) (H : Heap) (locs : List Loc) (ls : Array Slot), va_P D vwCl (ce_X13 kA q_this o_this) H → va_D A (ce_X13 kA q_this o_this) → va_S A s.heap H locs → lv_has ls 6 [(0, .ref (q_this 0)), (1, .int x1), (2, .int x2), (3, .int x3), (4, .int x4)] → ff_X13_stamp_b22 N o_this x1 x2 x3 x4 = some out → W p l e ({ frames := 3, cells := 0, slots := 0, locals := 75 } : Room) s m [.ref (q_this 0), .int a1, .int a2, .int a3, .int a4].toArray below meth c H locs 0 0 (MQ below (mc_Q D kA A (some (.int out.1)) (ce_X13 kA q_this out.2)) [.ref (q_this 0), .int a1, .int a2, .int a3, .int a4].toArray s 0 0 A) (F0 m 22 ls []) := by
    intro o_this x1 x2 x3 x4 H locs ls hP hD hS hl hf
    unfold ff_X13_stamp_b22 at hf
    refine lv_iconst (v := 0) hx hb dX13_stamp_22 (by decide) ?_
    exact hB23 o_this x1 x2 x3 x4 (0 : Int32) _ _ _ hP hD hS (lv_sub hl [0, 1, 2, 3, 4] rfl) hf
  unfold ff_X13_stamp at hf
  refine lv_iload_n hx hb dX13_stamp_0 rfl (lv_at hl 1 rfl) ?_
  refine lv_iload_n hx hb dX13_stamp_1 rfl (lv_at hl 2 rfl) ?_
  obtain ⟨u_1, he_2, hf⟩ := os_bd hf
  refine mc_callS ⟨hx, hb, hml, hown, hts⟩ (mm_X13_isPlace l D kA N a1 a2 u_1 he_2) (va_cwS 2 hts gX13_stamp_X13_isPlace rfl rfl rfl (by decide +kernel) ⟨Nat.le_of_ble_eq_true rfl, Nat.le_of_ble_eq_true rfl⟩) (wc := []) rfl hl.1 (As := [.int a1, .int a2]) (rest := []) rfl (Nat.le_of_ble_eq_true rfl) dX13_stamp_2 ⟨Nat.le_of_ble_eq_true rfl, Nat.le_of_ble_eq_true rfl⟩ hK hP hD hS hA [] [0, 1, 2, 3, 4, 5, 6, 7, 8, 9, 10, 11, 12, 13, 14, 15, 16, 17, 18, 19, 20, 21, 22, 23] [0, 1, 2, 3, 4, 5, 6, 7, 8, 9, 10, 11, 12, 13, 14, 15, 16, 17, 18, 19, 20, 21, 22, 23] rfl (by decide) rfl (by decide) (by decide) rfl (by decide) (wr := (ce_X13 kA q_this o_this)) (w2 := (ce_X13 kA q_this o_this)) (fun H locs hP hD hS => ?_)
  have hP : va_P D vwCl (ce_X13 kA q_this o_this) H := hP
  refine lv_if_eq (tgt := 22) hx hb dX13_stamp_5 (by decide) (fun hc_3 => ?_) (fun hc_3 => ?_)
  · rw [if_pos hc_3] at hf
    exact hB22 o_this a1 a2 a3 a4 _ _ _ hP hD hS (lv_sub hl [0, 1, 2, 3, 4] rfl) hf
  · rw [if_neg hc_3] at hf
    refine lv_aload_n hx hb dX13_stamp_8 rfl (lv_at hl 0 rfl) ?_
    refine lv_iload_n hx hb dX13_stamp_9 rfl (lv_at hl 3 rfl) ?_
    refine lv_iload hx hb dX13_stamp_10 (lv_at hl 4 rfl) ?_
    obtain ⟨u_4, he_5, hf⟩ := os_bd hf
    refine mc_callV ⟨hx, hb, hml, hown, hts⟩ (mm_X13_isCell l D kA N q_this o_this a3 a4 u_4 he_5) (cwV 2 hts gX13_stamp_X13_isCell rfl rfl rfl (by decide +kernel) ⟨Nat.le_of_ble_eq_true rfl, Nat.le_of_ble_eq_true rfl⟩) (wc := (ce_X13 kA q_this o_this)) (ci := 9) (q0 := 0) rfl rfl rfl hl.1 (As := [.int a3, .int a4]) (rest := []) rfl (Nat.le_of_ble_eq_true rfl) dX13_stamp_12 ⟨Nat.le_of_ble_eq_true rfl, Nat.le_of_ble_eq_true rfl⟩ hK hP hD hS hA [0, 1, 2, 3, 4, 5, 6, 7, 8, 9, 10, 11, 12, 13, 14, 15, 16, 17, 18, 19, 20, 21, 22, 23] [] [0, 1, 2, 3, 4, 5, 6, 7, 8, 9, 10, 11, 12, 13, 14, 15, 16, 17, 18, 19, 20, 21, 22, 23] rfl (by decide) rfl (by decide) (by decide) rfl (by decide) (wr := []) (w2 := (ce_X13 kA q_this o_this)) (fun H locs hP hD hS => ?_)
    have hP : va_P D vwCl (ce_X13 kA q_this o_this) H := hP
    refine lv_if_eq (tgt := 22) hx hb dX13_stamp_15 (by decide) (fun hc_6 => ?_) (fun hc_6 => ?_)
    · rw [if_pos hc_6] at hf
      exact hB22 o_this a1 a2 a3 a4 _ _ _ hP hD hS (lv_sub hl [0, 1, 2, 3, 4] rfl) hf
    · rw [if_neg hc_6] at hf
      refine lv_iconst (v := 1) hx hb dX13_stamp_18 (by decide) ?_
      refine lv_goto (tgt := 23) hx hb dX13_stamp_19 (by decide) ?_
      exact hB23 o_this a1 a2 a3 a4 (1 : Int32) _ _ _ hP hD hS (lv_sub hl [0, 1, 2, 3, 4] rfl) hf
def ff_X13_stampGain_c110 (N : Nat) (k110 : (os_T × Int32 × Int32) → Option (Int32 × os_T)) (o_this : os_T) (x7 : Int32) (x8 : Int32) : Option (Int32 × os_T) :=
  (if (192 : Int32) ≤ x8 then some (x7, o_this) else (if os_in x8 192 then (if os_in x8 192 then k110 (ss_A o_this 4 (upd (os_A o_this 4) (Int32.toNatClampNeg x8) ((os_A o_this 7) (Int32.toNatClampNeg x8))), x7, x8 + 1) else none) else none))
def ff_X13_stampGain_l110 (N : Nat) : Nat → (os_T × Int32 × Int32) → Option (Int32 × os_T) := os_loop (fun k110 s1 => ff_X13_stampGain_c110 N k110 s1.1 s1.2.1 s1.2.2)
def ff_X13_stampGain_b59 (N : Nat) (o_this : os_T) (x1 : Int32) (x2 : Int32) (x3 : Int32) (x4 : Int32) (t0 : Int32) : Option (Int32 × os_T) :=
  (if t0 ≤ 0 then ((ff_X13_laysAside N (ss_I o_this 0 t0)).bind fun u_13 => ((ff_X13_volumeNow N u_13).bind fun u_15 => (if os_in (((4 : Int32) * x1) + x2) 12 then ((ff_X13_presses N u_13 ((os_A u_13 12) (Int32.toNatClampNeg (((4 : Int32) * x1) + x2))) x3 x4).bind fun u_18 => ((ff_X13_volumeNow N u_18).bind fun u_20 => ff_X13_stampGain_l110 N N (u_18, u_20 - u_15, (0 : Int32)))) else none))) else some ((0 : Int32), ss_I o_this 0 t0))
def ff_X13_stampGain_b54 (N : Nat) (o_this : os_T) (x1 : Int32) (x2 : Int32) (x3 : Int32) (x4 : Int32) (t0 : Int32) : Option (Int32 × os_T) :=
  ((ff_X13_truth N t0).bind fun u_10 => ff_X13_stampGain_b59 N o_this x1 x2 x3 x4 (u_10 * (2 : Int32)))
def ff_X13_stampGain_b23 (N : Nat) (o_this : os_T) (x1 : Int32) (x2 : Int32) (x3 : Int32) (x4 : Int32) (t0 : Int32) : Option (Int32 × os_T) :=
  (if t0 = 0 then ff_X13_stampGain_b59 N o_this x1 x2 x3 x4 (1 : Int32) else (if os_in (((4 : Int32) * x1) + x2) 12 then (if ((os_A o_this 12) (Int32.toNatClampNeg (((4 : Int32) * x1) + x2))) = (-1 : Int32) then ff_X13_stampGain_b54 N o_this x1 x2 x3 x4 (1 : Int32) else ff_X13_stampGain_b54 N o_this x1 x2 x3 x4 (0 : Int32)) else none))
def ff_X13_stampGain_b22 (N : Nat) (o_this : os_T) (x1 : Int32) (x2 : Int32) (x3 : Int32) (x4 : Int32) : Option (Int32 × os_T) :=
  ff_X13_stampGain_b23 N o_this x1 x2 x3 x4 (0 : Int32)
def ff_X13_stampGain (N : Nat) (o_this : os_T) (a1 : Int32) (a2 : Int32) (a3 : Int32) (a4 : Int32) : Option (Int32 × os_T) :=
  ((ff_X13_isPlace N a1 a2).bind fun u_1 => (if u_1 = 0 then ff_X13_stampGain_b22 N o_this a1 a2 a3 a4 else ((ff_X13_isCell N o_this a3 a4).bind fun u_4 => (if u_4 = 0 then ff_X13_stampGain_b22 N o_this a1 a2 a3 a4 else ff_X13_stampGain_b23 N o_this a1 a2 a3 a4 (1 : Int32)))))
set_option maxHeartbeats 4000000 in
set_option maxRecDepth 100000 in
theorem mm_X13_stampGain (l : Launch) (D : va_G) (kA : Nat → ClassId) (N : Nat) (q_this : Nat → Nat) (o_this : os_T) (a1 : Int32) (a2 : Int32) (a3 : Int32) (a4 : Int32) (out : (Int32 × os_T)) (hf : ff_X13_stampGain N o_this a1 a2 a3 a4 = some out) : mc_C l D kA yX13_stampGain wsX13_stampGain ({ frames := 3, cells := 0, slots := 0, locals := 75 } : Room) [.ref (q_this 0), .int a1, .int a2, .int a3, .int a4] (ce_X13 kA q_this o_this) (some (.int out.1)) (ce_X13 kA q_this out.2) := by
  refine mc_of (cc := cX13_stampGain) (maxL := 9) (ret := (some .int)) (by decide) rfl (Nat.le_of_ble_eq_true rfl) ?_
  intro p e s m below meth c A B hD hP hS ls hl
  obtain ⟨hx, hb, hr, hlk, hml, hown, hts, hK, hA, hnm⟩ := B
  have hown : s.vm.findClass RX13 = some m.cls := hown
  have hl : lv_has ls 9 [(0, .ref (q_this 0)), (1, .int a1), (2, .int a2), (3, .int a3), (4, .int a4)] := hl
  have hUX13 : ∀ w ∈ u_ws RX13 TX13 48, w.before [.ref (q_this 0), .int a1, .int a2, .int a3, .int a4].toArray s = true := fun w h => hts w (List.mem_cons_of_mem _ (List.mem_append_right _ h))
  have hL110 : ∀ (n : Nat) (o_this : os_T) (x7 : Int32) (x8 : Int32) (H : Heap) (locs : List Loc) (ls : Array Slot), va_P D vwCl (ce_X13 kA q_this o_this) H → va_D A (ce_X13 kA q_this o_this) → va_S A s.heap H locs → lv_has ls 9 [(0, .ref (q_this 0)), (7, .int x7), (8, .int x8)] → ff_X13_stampGain_l110 N n (o_this, x7, x8) = some out → W p l e ({ frames := 3, cells := 0, slots := 0, locals := 75 } : Room) s m [.ref (q_this 0), .int a1, .int a2, .int a3, .int a4].toArray below meth c H locs 0 0 (MQ below (mc_Q D kA A (some (.int out.1)) (ce_X13 kA q_this out.2)) [.ref (q_this 0), .int a1, .int a2, .int a3, .int a4].toArray s 0 0 A) (F0 m 110 ls []) := by
    intro n
    induction n with
    | zero => intro o_this x7 x8 H locs ls _ _ _ _ hf; cases hf
    | succ n hk110 =>
      intro o_this x7 x8 H locs ls hP hD hS hl hf
      have hf : ff_X13_stampGain_c110 N (ff_X13_stampGain_l110 N n) o_this x7 x8 = some out := hf
      generalize hke : ff_X13_stampGain_l110 N n = k110 at hk110 hf
      unfold ff_X13_stampGain_c110 at hf
      refine lv_iload hx hb dX13_stampGain_110 (lv_at hl 2 rfl) ?_
      refine lv_sipush (v := 192) hx hb dX13_stampGain_112 (by decide) ?_
      refine lv_icmp_ge (tgt := 138) hx hb dX13_stampGain_115 (by decide) (fun hc_22 => ?_) (fun hc_22 => ?_)
      · rw [if_pos hc_22] at hf
        refine lv_iload hx hb dX13_stampGain_138 (lv_at hl 1 rfl) ?_
        rw [← Option.some.inj hf]
        exact mc_reti hx hb hr hlk hP hK hD hS dX13_stampGain_140
      · rw [if_neg hc_22] at hf
        refine lv_aload_n hx hb dX13_stampGain_118 rfl (lv_at hl 0 rfl) ?_
        refine va_get (D := D) (ci := 9) (v := .ref (q_this 5)) (C := RX13) (T := TX13) (N := 48) hx hb hUX13 (fun _ h9 => h9) hown hK hP 0 rfl rfl 16 (by decide) (hts (Cond.fieldLink RX13 29 "ReliefBuilderModel" "heights" "[I") (List.mem_of_getElem? (i := 3) rfl)) (fun _ h9 => h9) rfl dX13_stampGain_119 ?_
        refine lv_iload hx hb dX13_stampGain_122 (lv_at hl 2 rfl) ?_
        refine lv_aload_n hx hb dX13_stampGain_124 rfl (lv_at hl 0 rfl) ?_
        refine va_get (D := D) (ci := 9) (v := .ref (q_this 8)) (C := RX13) (T := TX13) (N := 48) hx hb hUX13 (fun _ h9 => h9) hown hK hP 0 rfl rfl 25 (by decide) (hts (Cond.fieldLink RX13 39 "ReliefBuilderModel" "aside" "[I") (List.mem_of_getElem? (i := 4) rfl)) (fun _ h9 => h9) rfl dX13_stampGain_125 ?_
        refine lv_iload hx hb dX13_stampGain_128 (lv_at hl 2 rfl) ?_
        obtain ⟨hi_23, hf⟩ := os_if hf
        refine va_iald hx hb hK hP 8 0 rfl rfl hi_23 dX13_stampGain_130 ?_
        obtain ⟨hi_24, hf⟩ := os_if hf
        refine va_iast hx hb hK hP hD hS 5 0 rfl rfl hi_24 dX13_stampGain_131 (fun H locs hP hD hS => ?_)
        have hP : va_P D vwCl (ce_X13 kA q_this (ss_A o_this 4 (upd (os_A o_this 4) (Int32.toNatClampNeg x8) ((os_A o_this 7) (Int32.toNatClampNeg x8))))) H := hP
        have hD : va_D A (ce_X13 kA q_this (ss_A o_this 4 (upd (os_A o_this 4) (Int32.toNatClampNeg x8) ((os_A o_this 7) (Int32.toNatClampNeg x8))))) := hD
        refine lv_iinc (v := x8 + 1) (lv' := [(8, .int (x8 + 1)), (0, .ref (q_this 0)), (7, .int x7)]) hx hb dX13_stampGain_132 hl (k := 2) rfl rfl (by decide) rfl (fun ls hl => ?_)
        refine lv_goto (tgt := 110) hx hb dX13_stampGain_135 (by decide) ?_
        exact hk110 (ss_A o_this 4 (upd (os_A o_this 4) (Int32.toNatClampNeg x8) ((os_A o_this 7) (Int32.toNatClampNeg x8)))) x7 (x8 + 1) _ _ _ hP hD hS (lv_sub hl [1, 2, 0] rfl) hf
  have hB59 : ∀ (o_this : os_T) (x1 : Int32) (x2 : Int32) (x3 : Int32) (x4 : Int32) (t0 : Int32) (H : Heap) (locs : List Loc) (ls : Array Slot), va_P D vwCl (ce_X13 kA q_this o_this) H → va_D A (ce_X13 kA q_this o_this) → va_S A s.heap H locs → lv_has ls 9 [(0, .ref (q_this 0)), (1, .int x1), (2, .int x2), (3, .int x3), (4, .int x4)] → ff_X13_stampGain_b59 N o_this x1 x2 x3 x4 t0 = some out → W p l e ({ frames := 3, cells := 0, slots := 0, locals := 75 } : Room) s m [.ref (q_this 0), .int a1, .int a2, .int a3, .int a4].toArray below meth c H locs 0 0 (MQ below (mc_Q D kA A (some (.int out.1)) (ce_X13 kA q_this out.2)) [.ref (q_this 0), .int a1, .int a2, .int a3, .int a4].toArray s 0 0 A) (F0 m 59 ls [.int t0, .ref (q_this 0)]) := by
    intro o_this x1 x2 x3 x4 t0 H locs ls hP hD hS hl hf
    unfold ff_X13_stampGain_b59 at hf
    refine va_put (D := D) (ci := 9) (v := .int t0) (ty := .int) (C := RX13) (T := TX13) (N := 48) hx hb hUX13 (fun _ h9 => h9) tyX13 tyX13_ok nmX13 hown hK hP hD hS 0 rfl rfl 0 (by decide) (hts (Cond.fieldLink RX13 93 "ReliefBuilderModel" "code" "I") (List.mem_of_getElem? (i := 2) rfl)) (fun _ h9 => h9) rfl (tyX13_ok 0 (by decide)) rfl rfl (Nat.le_of_ble_eq_true rfl) dX13_stampGain_59 (fun H locs hP hD hS => ?_)
    have hP : va_P D vwCl (ce_X13 kA q_this (ss_I o_this 0 t0)) H := hP
    have hD : va_D A (ce_X13 kA q_this (ss_I o_this 0 t0)) := hD
    refine lv_aload_n hx hb dX13_stampGain_62 rfl (lv_at hl 0 rfl) ?_
    refine va_get (D := D) (ci := 9) (v := .int t0) (C := RX13) (T := TX13) (N := 48) hx hb hUX13 (fun _ h9 => h9) hown hK hP 0 rfl rfl 0 (by decide) (hts (Cond.fieldLink RX13 93 "ReliefBuilderModel" "code" "I") (List.mem_of_getElem? (i := 2) rfl)) (fun _ h9 => h9) rfl dX13_stampGain_63 ?_
    refine lv_if_le (tgt := 71) hx hb dX13_stampGain_66 (by decide) (fun hc_12 => ?_) (fun hc_12 => ?_)
    · rw [if_pos hc_12] at hf
      refine lv_aload_n hx hb dX13_stampGain_71 rfl (lv_at hl 0 rfl) ?_
      obtain ⟨u_13, he_14, hf⟩ := os_bd hf
      refine mc_callV ⟨hx, hb, hml, hown, hts⟩ (mm_X13_laysAside l D kA N q_this (ss_I o_this 0 t0) u_13 he_14) (cwV 0 hts gX13_stampGain_X13_laysAside rfl rfl rfl (by decide +kernel) ⟨Nat.le_of_ble_eq_true rfl, Nat.le_of_ble_eq_true rfl⟩) (wc := (ce_X13 kA q_this (ss_I o_this 0 t0))) (ci := 9) (q0 := 0) rfl rfl rfl hl.1 (As := []) (rest := []) rfl (Nat.le_of_ble_eq_true rfl) dX13_stampGain_72 ⟨Nat.le_of_ble_eq_true rfl, Nat.le_of_ble_eq_true rfl⟩ hK hP hD hS hA [0, 1, 2, 3, 4, 5, 6, 7, 8, 9, 10, 11, 12, 13, 14, 15, 16, 17, 18, 19, 20, 21, 22, 23] [] [0, 1, 2, 3, 4, 5, 6, 7, 8, 9, 10, 11, 12, 13, 14, 15, 16, 17, 18, 19, 20, 21, 22, 23] rfl (by decide) rfl (by decide) (by decide) rfl (by decide) (wr := []) (w2 := (ce_X13 kA q_this u_13)) (fun H locs hP hD hS => ?_)
      have hP : va_P D vwCl (ce_X13 kA q_this u_13) H := hP
      refine lv_aload_n hx hb dX13_stampGain_75 rfl (lv_at hl 0 rfl) ?_
      obtain ⟨u_15, he_16, hf⟩ := os_bd hf
      refine mc_callV ⟨hx, hb, hml, hown, hts⟩ (mm_X13_volumeNow l D kA N q_this u_13 u_15 he_16) (cwV 0 hts gX13_stampGain_X13_volumeNow rfl rfl rfl (by decide +kernel) ⟨Nat.le_of_ble_eq_true rfl, Nat.le_of_ble_eq_true rfl⟩) (wc := (ce_X13 kA q_this u_13)) (ci := 9) (q0 := 0) rfl rfl rfl hl.1 (As := []) (rest := []) rfl (Nat.le_of_ble_eq_true rfl) dX13_stampGain_76 ⟨Nat.le_of_ble_eq_true rfl, Nat.le_of_ble_eq_true rfl⟩ hK hP hD hS hA [0, 1, 2, 3, 4, 5, 6, 7, 8, 9, 10, 11, 12, 13, 14, 15, 16, 17, 18, 19, 20, 21, 22, 23] [] [0, 1, 2, 3, 4, 5, 6, 7, 8, 9, 10, 11, 12, 13, 14, 15, 16, 17, 18, 19, 20, 21, 22, 23] rfl (by decide) rfl (by decide) (by decide) rfl (by decide) (wr := []) (w2 := (ce_X13 kA q_this u_13)) (fun H locs hP hD hS => ?_)
      have hP : va_P D vwCl (ce_X13 kA q_this u_13) H := hP
      refine lv_istore (lv' := [(6, .int u_15), (0, .ref (q_this 0)), (1, .int x1), (2, .int x2), (3, .int x3), (4, .int x4)]) hx hb dX13_stampGain_79 hl (by decide) rfl (fun ls hl => ?_)
      refine lv_aload_n hx hb dX13_stampGain_81 rfl (lv_at hl 1 rfl) ?_
      refine lv_aload_n hx hb dX13_stampGain_82 rfl (lv_at hl 1 rfl) ?_
      refine va_get (D := D) (ci := 9) (v := .ref (q_this 13)) (C := RX13) (T := TX13) (N := 48) hx hb hUX13 (fun _ h9 => h9) hown hK hP 0 rfl rfl 31 (by decide) (hts (Cond.fieldLink RX13 54 "ReliefBuilderModel" "stamps" "[I") (List.mem_of_getElem? (i := 1) rfl)) (fun _ h9 => h9) rfl dX13_stampGain_83 ?_
      refine lv_iconst (v := 4) hx hb dX13_stampGain_86 (by decide) ?_
      refine lv_iload_n hx hb dX13_stampGain_87 rfl (lv_at hl 2 rfl) ?_
      refine lv_imul hx hb dX13_stampGain_88 ?_
      refine lv_iload_n hx hb dX13_stampGain_89 rfl (lv_at hl 3 rfl) ?_
      refine lv_iadd hx hb dX13_stampGain_90 ?_
      obtain ⟨hi_17, hf⟩ := os_if hf
      refine va_iald hx hb hK hP 13 0 rfl rfl hi_17 dX13_stampGain_91 ?_
      refine lv_iload_n hx hb dX13_stampGain_92 rfl (lv_at hl 4 rfl) ?_
      refine lv_iload hx hb dX13_stampGain_93 (lv_at hl 5 rfl) ?_
      obtain ⟨u_18, he_19, hf⟩ := os_bd hf
      refine mc_callV ⟨hx, hb, hml, hown, hts⟩ (mm_X13_presses l D kA N q_this u_13 ((os_A u_13 12) (Int32.toNatClampNeg (((4 : Int32) * x1) + x2))) x3 x4 u_18 he_19) (cwV 3 hts gX13_stampGain_X13_presses rfl rfl rfl (by decide +kernel) ⟨Nat.le_of_ble_eq_true rfl, Nat.le_of_ble_eq_true rfl⟩) (wc := (ce_X13 kA q_this u_13)) (ci := 9) (q0 := 0) rfl rfl rfl hl.1 (As := [.int ((os_A u_13 12) (Int32.toNatClampNeg (((4 : Int32) * x1) + x2))), .int x3, .int x4]) (rest := []) rfl (Nat.le_of_ble_eq_true rfl) dX13_stampGain_95 ⟨Nat.le_of_ble_eq_true rfl, Nat.le_of_ble_eq_true rfl⟩ hK hP hD hS hA [0, 1, 2, 3, 4, 5, 6, 7, 8, 9, 10, 11, 12, 13, 14, 15, 16, 17, 18, 19, 20, 21, 22, 23] [] [0, 1, 2, 3, 4, 5, 6, 7, 8, 9, 10, 11, 12, 13, 14, 15, 16, 17, 18, 19, 20, 21, 22, 23] rfl (by decide) rfl (by decide) (by decide) rfl (by decide) (wr := []) (w2 := (ce_X13 kA q_this u_18)) (fun H locs hP hD hS => ?_)
      have hP : va_P D vwCl (ce_X13 kA q_this u_18) H := hP
      refine lv_aload_n hx hb dX13_stampGain_98 rfl (lv_at hl 1 rfl) ?_
      obtain ⟨u_20, he_21, hf⟩ := os_bd hf
      refine mc_callV ⟨hx, hb, hml, hown, hts⟩ (mm_X13_volumeNow l D kA N q_this u_18 u_20 he_21) (cwV 0 hts gX13_stampGain_X13_volumeNow rfl rfl rfl (by decide +kernel) ⟨Nat.le_of_ble_eq_true rfl, Nat.le_of_ble_eq_true rfl⟩) (wc := (ce_X13 kA q_this u_18)) (ci := 9) (q0 := 0) rfl rfl rfl hl.1 (As := []) (rest := []) rfl (Nat.le_of_ble_eq_true rfl) dX13_stampGain_99 ⟨Nat.le_of_ble_eq_true rfl, Nat.le_of_ble_eq_true rfl⟩ hK hP hD hS hA [0, 1, 2, 3, 4, 5, 6, 7, 8, 9, 10, 11, 12, 13, 14, 15, 16, 17, 18, 19, 20, 21, 22, 23] [] [0, 1, 2, 3, 4, 5, 6, 7, 8, 9, 10, 11, 12, 13, 14, 15, 16, 17, 18, 19, 20, 21, 22, 23] rfl (by decide) rfl (by decide) (by decide) rfl (by decide) (wr := []) (w2 := (ce_X13 kA q_this u_18)) (fun H locs hP hD hS => ?_)
      have hP : va_P D vwCl (ce_X13 kA q_this u_18) H := hP
      refine lv_iload hx hb dX13_stampGain_102 (lv_at hl 0 rfl) ?_
      refine lv_isub hx hb dX13_stampGain_104 ?_
      refine lv_istore (lv' := [(7, .int (u_20 - u_15)), (6, .int u_15), (0, .ref (q_this 0)), (1, .int x1), (2, .int x2), (3, .int x3), (4, .int x4)]) hx hb dX13_stampGain_105 hl (by decide) rfl (fun ls hl => ?_)
      refine lv_iconst (v := 0) hx hb dX13_stampGain_107 (by decide) ?_
      refine lv_istore (lv' := [(8, .int (0 : Int32)), (7, .int (u_20 - u_15)), (6, .int u_15), (0, .ref (q_this 0)), (1, .int x1), (2, .int x2), (3, .int x3), (4, .int x4)]) hx hb dX13_stampGain_108 hl (by decide) rfl (fun ls hl => ?_)
      exact hL110 N u_18 (u_20 - u_15) (0 : Int32) _ _ _ hP hD hS (lv_sub hl [3, 1, 0] rfl) hf
    · rw [if_neg hc_12] at hf
      refine lv_iconst (v := 0) hx hb dX13_stampGain_69 (by decide) ?_
      rw [← Option.some.inj hf]
      exact mc_reti hx hb hr hlk hP hK hD hS dX13_stampGain_70
  have hB54 : ∀ (o_this : os_T) (x1 : Int32) (x2 : Int32) (x3 : Int32) (x4 : Int32) (t0 : Int32) (H : Heap) (locs : List Loc) (ls : Array Slot), va_P D vwCl (ce_X13 kA q_this o_this) H → va_D A (ce_X13 kA q_this o_this) → va_S A s.heap H locs → lv_has ls 9 [(0, .ref (q_this 0)), (1, .int x1), (2, .int x2), (3, .int x3), (4, .int x4)] → ff_X13_stampGain_b54 N o_this x1 x2 x3 x4 t0 = some out → W p l e ({ frames := 3, cells := 0, slots := 0, locals := 75 } : Room) s m [.ref (q_this 0), .int a1, .int a2, .int a3, .int a4].toArray below meth c H locs 0 0 (MQ below (mc_Q D kA A (some (.int out.1)) (ce_X13 kA q_this out.2)) [.ref (q_this 0), .int a1, .int a2, .int a3, .int a4].toArray s 0 0 A) (F0 m 54 ls [.int t0, .ref (q_this 0)]) := by
    intro o_this x1 x2 x3 x4 t0 H locs ls hP hD hS hl hf
    unfold ff_X13_stampGain_b54 at hf
    obtain ⟨u_10, he_11, hf⟩ := os_bd hf
    refine mc_callS ⟨hx, hb, hml, hown, hts⟩ (mm_X13_truth l D kA N t0 u_10 he_11) (va_cwS 1 hts gX13_stampGain_X13_truth rfl rfl rfl (by decide +kernel) ⟨Nat.le_of_ble_eq_true rfl, Nat.le_of_ble_eq_true rfl⟩) (wc := []) rfl hl.1 (As := [.int t0]) (rest := [.ref (q_this 0)]) rfl (Nat.le_of_ble_eq_true rfl) dX13_stampGain_54 ⟨Nat.le_of_ble_eq_true rfl, Nat.le_of_ble_eq_true rfl⟩ hK hP hD hS hA [] [0, 1, 2, 3, 4, 5, 6, 7, 8, 9, 10, 11, 12, 13, 14, 15, 16, 17, 18, 19, 20, 21, 22, 23] [0, 1, 2, 3, 4, 5, 6, 7, 8, 9, 10, 11, 12, 13, 14, 15, 16, 17, 18, 19, 20, 21, 22, 23] rfl (by decide) rfl (by decide) (by decide) rfl (by decide) (wr := (ce_X13 kA q_this o_this)) (w2 := (ce_X13 kA q_this o_this)) (fun H locs hP hD hS => ?_)
    have hP : va_P D vwCl (ce_X13 kA q_this o_this) H := hP
    refine lv_iconst (v := 2) hx hb dX13_stampGain_57 (by decide) ?_
    refine lv_imul hx hb dX13_stampGain_58 ?_
    exact hB59 o_this x1 x2 x3 x4 (u_10 * (2 : Int32)) _ _ _ hP hD hS (lv_sub hl [0, 1, 2, 3, 4] rfl) hf
  have hB23 : ∀ (o_this : os_T) (x1 : Int32) (x2 : Int32) (x3 : Int32) (x4 : Int32) (t0 : Int32) (H : Heap) (locs : List Loc) (ls : Array Slot), va_P D vwCl (ce_X13 kA q_this o_this) H → va_D A (ce_X13 kA q_this o_this) → va_S A s.heap H locs → lv_has ls 9 [(0, .ref (q_this 0)), (1, .int x1), (2, .int x2), (3, .int x3), (4, .int x4)] → ff_X13_stampGain_b23 N o_this x1 x2 x3 x4 t0 = some out → W p l e ({ frames := 3, cells := 0, slots := 0, locals := 75 } : Room) s m [.ref (q_this 0), .int a1, .int a2, .int a3, .int a4].toArray below meth c H locs 0 0 (MQ below (mc_Q D kA A (some (.int out.1)) (ce_X13 kA q_this out.2)) [.ref (q_this 0), .int a1, .int a2, .int a3, .int a4].toArray s 0 0 A) (F0 m 23 ls [.int t0]) := by
    intro o_this x1 x2 x3 x4 t0 H locs ls hP hD hS hl hf
    unfold ff_X13_stampGain_b23 at hf
    refine lv_istore (lv' := [(5, .int t0), (0, .ref (q_this 0)), (1, .int x1), (2, .int x2), (3, .int x3), (4, .int x4)]) hx hb dX13_stampGain_23 hl (by decide) rfl (fun ls hl => ?_)
    refine lv_aload_n hx hb dX13_stampGain_25 rfl (lv_at hl 1 rfl) ?_
    refine lv_iload hx hb dX13_stampGain_26 (lv_at hl 0 rfl) ?_
    refine lv_if_ne (tgt := 35) hx hb dX13_stampGain_28 (by decide) (fun hc_7 => ?_) (fun hc_7 => ?_)
    · rw [if_neg hc_7] at hf
      refine lv_aload_n hx hb dX13_stampGain_35 rfl (lv_at hl 1 rfl) ?_
      refine va_get (D := D) (ci := 9) (v := .ref (q_this 13)) (C := RX13) (T := TX13) (N := 48) hx hb hUX13 (fun _ h9 => h9) hown hK hP 0 rfl rfl 31 (by decide) (hts (Cond.fieldLink RX13 54 "ReliefBuilderModel" "stamps" "[I") (List.mem_of_getElem? (i := 1) rfl)) (fun _ h9 => h9) rfl dX13_stampGain_36 ?_
      refine lv_iconst (v := 4) hx hb dX13_stampGain_39 (by decide) ?_
      refine lv_iload_n hx hb dX13_stampGain_40 rfl (lv_at hl 2 rfl) ?_
      refine lv_imul hx hb dX13_stampGain_41 ?_
      refine lv_iload_n hx hb dX13_stampGain_42 rfl (lv_at hl 3 rfl) ?_
      refine lv_iadd hx hb dX13_stampGain_43 ?_
      obtain ⟨hi_8, hf⟩ := os_if hf
      refine va_iald hx hb hK hP 13 0 rfl rfl hi_8 dX13_stampGain_44 ?_
      refine lv_iconst (v := (-1)) hx hb dX13_stampGain_45 (by decide) ?_
      refine lv_icmp_ne (tgt := 53) hx hb dX13_stampGain_46 (by decide) (fun hc_9 => ?_) (fun hc_9 => ?_)
      · rw [if_neg hc_9] at hf
        refine lv_iconst (v := 0) hx hb dX13_stampGain_53 (by decide) ?_
        exact hB54 o_this x1 x2 x3 x4 (0 : Int32) _ _ _ hP hD hS (lv_sub hl [1, 2, 3, 4, 5] rfl) hf
      · rw [if_pos hc_9] at hf
        refine lv_iconst (v := 1) hx hb dX13_stampGain_49 (by decide) ?_
        refine lv_goto (tgt := 54) hx hb dX13_stampGain_50 (by decide) ?_
        exact hB54 o_this x1 x2 x3 x4 (1 : Int32) _ _ _ hP hD hS (lv_sub hl [1, 2, 3, 4, 5] rfl) hf
    · rw [if_pos hc_7] at hf
      refine lv_iconst (v := 1) hx hb dX13_stampGain_31 (by decide) ?_
      refine lv_goto (tgt := 59) hx hb dX13_stampGain_32 (by decide) ?_
      exact hB59 o_this x1 x2 x3 x4 (1 : Int32) _ _ _ hP hD hS (lv_sub hl [1, 2, 3, 4, 5] rfl) hf
  have hB22 : ∀ (o_this : os_T) (x1 : Int32) (x2 : Int32) (x3 : Int32) (x4 : Int32) (H : Heap) (locs : List Loc) (ls : Array Slot), va_P D vwCl (ce_X13 kA q_this o_this) H → va_D A (ce_X13 kA q_this o_this) → va_S A s.heap H locs → lv_has ls 9 [(0, .ref (q_this 0)), (1, .int x1), (2, .int x2), (3, .int x3), (4, .int x4)] → ff_X13_stampGain_b22 N o_this x1 x2 x3 x4 = some out → W p l e ({ frames := 3, cells := 0, slots := 0, locals := 75 } : Room) s m [.ref (q_this 0), .int a1, .int a2, .int a3, .int a4].toArray below meth c H locs 0 0 (MQ below (mc_Q D kA A (some (.int out.1)) (ce_X13 kA q_this out.2)) [.ref (q_this 0), .int a1, .int a2, .int a3, .int a4].toArray s 0 0 A) (F0 m 22 ls []) := by
    intro o_this x1 x2 x3 x4 H locs ls hP hD hS hl hf
    unfold ff_X13_stampGain_b22 at hf
    refine lv_iconst (v := 0) hx hb dX13_stampGain_22 (by decide) ?_
    exact hB23 o_this x1 x2 x3 x4 (0 : Int32) _ _ _ hP hD hS (lv_sub hl [0, 1, 2, 3, 4] rfl) hf
  unfold ff_X13_stampGain at hf
  refine lv_iload_n hx hb dX13_stampGain_0 rfl (lv_at hl 1 rfl) ?_
  refine lv_iload_n hx hb dX13_stampGain_1 rfl (lv_at hl 2 rfl) ?_
  obtain ⟨u_1, he_2, hf⟩ := os_bd hf
  refine mc_callS ⟨hx, hb, hml, hown, hts⟩ (mm_X13_isPlace l D kA N a1 a2 u_1 he_2) (va_cwS 2 hts gX13_stampGain_X13_isPlace rfl rfl rfl (by decide +kernel) ⟨Nat.le_of_ble_eq_true rfl, Nat.le_of_ble_eq_true rfl⟩) (wc := []) rfl hl.1 (As := [.int a1, .int a2]) (rest := []) rfl (Nat.le_of_ble_eq_true rfl) dX13_stampGain_2 ⟨Nat.le_of_ble_eq_true rfl, Nat.le_of_ble_eq_true rfl⟩ hK hP hD hS hA [] [0, 1, 2, 3, 4, 5, 6, 7, 8, 9, 10, 11, 12, 13, 14, 15, 16, 17, 18, 19, 20, 21, 22, 23] [0, 1, 2, 3, 4, 5, 6, 7, 8, 9, 10, 11, 12, 13, 14, 15, 16, 17, 18, 19, 20, 21, 22, 23] rfl (by decide) rfl (by decide) (by decide) rfl (by decide) (wr := (ce_X13 kA q_this o_this)) (w2 := (ce_X13 kA q_this o_this)) (fun H locs hP hD hS => ?_)
  have hP : va_P D vwCl (ce_X13 kA q_this o_this) H := hP
  refine lv_if_eq (tgt := 22) hx hb dX13_stampGain_5 (by decide) (fun hc_3 => ?_) (fun hc_3 => ?_)
  · rw [if_pos hc_3] at hf
    exact hB22 o_this a1 a2 a3 a4 _ _ _ hP hD hS (lv_sub hl [0, 1, 2, 3, 4] rfl) hf
  · rw [if_neg hc_3] at hf
    refine lv_aload_n hx hb dX13_stampGain_8 rfl (lv_at hl 0 rfl) ?_
    refine lv_iload_n hx hb dX13_stampGain_9 rfl (lv_at hl 3 rfl) ?_
    refine lv_iload hx hb dX13_stampGain_10 (lv_at hl 4 rfl) ?_
    obtain ⟨u_4, he_5, hf⟩ := os_bd hf
    refine mc_callV ⟨hx, hb, hml, hown, hts⟩ (mm_X13_isCell l D kA N q_this o_this a3 a4 u_4 he_5) (cwV 2 hts gX13_stampGain_X13_isCell rfl rfl rfl (by decide +kernel) ⟨Nat.le_of_ble_eq_true rfl, Nat.le_of_ble_eq_true rfl⟩) (wc := (ce_X13 kA q_this o_this)) (ci := 9) (q0 := 0) rfl rfl rfl hl.1 (As := [.int a3, .int a4]) (rest := []) rfl (Nat.le_of_ble_eq_true rfl) dX13_stampGain_12 ⟨Nat.le_of_ble_eq_true rfl, Nat.le_of_ble_eq_true rfl⟩ hK hP hD hS hA [0, 1, 2, 3, 4, 5, 6, 7, 8, 9, 10, 11, 12, 13, 14, 15, 16, 17, 18, 19, 20, 21, 22, 23] [] [0, 1, 2, 3, 4, 5, 6, 7, 8, 9, 10, 11, 12, 13, 14, 15, 16, 17, 18, 19, 20, 21, 22, 23] rfl (by decide) rfl (by decide) (by decide) rfl (by decide) (wr := []) (w2 := (ce_X13 kA q_this o_this)) (fun H locs hP hD hS => ?_)
    have hP : va_P D vwCl (ce_X13 kA q_this o_this) H := hP
    refine lv_if_eq (tgt := 22) hx hb dX13_stampGain_15 (by decide) (fun hc_6 => ?_) (fun hc_6 => ?_)
    · rw [if_pos hc_6] at hf
      exact hB22 o_this a1 a2 a3 a4 _ _ _ hP hD hS (lv_sub hl [0, 1, 2, 3, 4] rfl) hf
    · rw [if_neg hc_6] at hf
      refine lv_iconst (v := 1) hx hb dX13_stampGain_18 (by decide) ?_
      refine lv_goto (tgt := 23) hx hb dX13_stampGain_19 (by decide) ?_
      exact hB23 o_this a1 a2 a3 a4 (1 : Int32) _ _ _ hP hD hS (lv_sub hl [0, 1, 2, 3, 4] rfl) hf
def ff_X13_commandHere (N : Nat) (o_this : os_T) : Option Int32 :=
  ((ff_X13_isWord N o_this (671173 : Int64)).bind fun u_1 => (if u_1 = 0 then ((ff_X13_isWord N o_this (273980692 : Int64)).bind fun u_4 => (if u_4 = 0 then ((ff_X13_isWord N o_this (206220 : Int64)).bind fun u_7 => (if u_7 = 0 then ((ff_X13_isWord N o_this (20579760 : Int64)).bind fun u_10 => (if u_10 = 0 then ((ff_X13_isWord N o_this (651673224 : Int64)).bind fun u_13 => (if u_13 = 0 then ((ff_X13_isWord N o_this (165477 : Int64)).bind fun u_16 => (if u_16 = 0 then ((ff_X13_isWord N o_this (609748274 : Int64)).bind fun u_19 => (if u_19 = 0 then ((ff_X13_isWord N o_this (144318642 : Int64)).bind fun u_22 => (if u_22 = 0 then ((ff_X13_isWord N o_this (553002600 : Int64)).bind fun u_25 => (if u_25 = 0 then ((ff_X13_isWord N o_this (317396564 : Int64)).bind fun u_28 => (if u_28 = 0 then ((ff_X13_isWord N o_this (446253554 : Int64)).bind fun u_31 => (if u_31 = 0 then ((ff_X13_isWord N o_this (609752116 : Int64)).bind fun u_34 => (if u_34 = 0 then some (-1 : Int32) else some (11 : Int32))) else some (10 : Int32))) else some (9 : Int32))) else some (8 : Int32))) else some (7 : Int32))) else some (5 : Int32))) else some (6 : Int32))) else some (4 : Int32))) else some (3 : Int32))) else some (2 : Int32))) else some (1 : Int32))) else some (0 : Int32)))
set_option maxHeartbeats 4000000 in
set_option maxRecDepth 100000 in
theorem mm_X13_commandHere (l : Launch) (D : va_G) (kA : Nat → ClassId) (N : Nat) (q_this : Nat → Nat) (o_this : os_T) (out : Int32) (hf : ff_X13_commandHere N o_this = some out) : mc_C l D kA yX13_commandHere wsX13_commandHere ({ frames := 1, cells := 0, slots := 0, locals := 22 } : Room) [.ref (q_this 0)] (ce_X13 kA q_this o_this) (some (.int out)) (ce_X13 kA q_this o_this) := by
  refine mc_of (cc := cX13_commandHere) (maxL := 1) (ret := (some .int)) (by decide) rfl (Nat.le_of_ble_eq_true rfl) ?_
  intro p e s m below meth c A B hD hP hS ls hl
  obtain ⟨hx, hb, hr, hlk, hml, hown, hts, hK, hA, hnm⟩ := B
  have hown : s.vm.findClass RX13 = some m.cls := hown
  have hl : lv_has ls 1 [(0, .ref (q_this 0))] := hl
  unfold ff_X13_commandHere at hf
  refine lv_aload_n hx hb dX13_commandHere_0 rfl (lv_at hl 0 rfl) ?_
  refine lv_ldc2 hx hb hown (hts (Cond.constantLong RX13 428 (671173)) (List.mem_of_getElem? (i := 1) rfl)) dX13_commandHere_1 ?_
  obtain ⟨u_1, he_2, hf⟩ := os_bd hf
  refine mc_callV ⟨hx, hb, hml, hown, hts⟩ (mm_X13_isWord l D kA N q_this o_this (671173 : Int64) u_1 he_2) (cwV 1 hts gX13_commandHere_X13_isWord rfl rfl rfl (by decide +kernel) ⟨Nat.le_of_ble_eq_true rfl, Nat.le_of_ble_eq_true rfl⟩) (wc := (ce_X13 kA q_this o_this)) (ci := 9) (q0 := 0) rfl rfl rfl hl.1 (As := [.long (671173 : Int64)]) (rest := []) rfl (Nat.le_of_ble_eq_true rfl) dX13_commandHere_4 ⟨Nat.le_of_ble_eq_true rfl, Nat.le_of_ble_eq_true rfl⟩ hK hP hD hS hA [0, 1, 2, 3, 4, 5, 6, 7, 8, 9, 10, 11, 12, 13, 14, 15, 16, 17, 18, 19, 20, 21, 22, 23] [] [0, 1, 2, 3, 4, 5, 6, 7, 8, 9, 10, 11, 12, 13, 14, 15, 16, 17, 18, 19, 20, 21, 22, 23] rfl (by decide) rfl (by decide) (by decide) rfl (by decide) (wr := []) (w2 := (ce_X13 kA q_this o_this)) (fun H locs hP hD hS => ?_)
  have hP : va_P D vwCl (ce_X13 kA q_this o_this) H := hP
  refine lv_if_eq (tgt := 12) hx hb dX13_commandHere_7 (by decide) (fun hc_3 => ?_) (fun hc_3 => ?_)
  · rw [if_pos hc_3] at hf
    refine lv_aload_n hx hb dX13_commandHere_12 rfl (lv_at hl 0 rfl) ?_
    refine lv_ldc2 hx hb hown (hts (Cond.constantLong RX13 430 (273980692)) (List.mem_of_getElem? (i := 2) rfl)) dX13_commandHere_13 ?_
    obtain ⟨u_4, he_5, hf⟩ := os_bd hf
    refine mc_callV ⟨hx, hb, hml, hown, hts⟩ (mm_X13_isWord l D kA N q_this o_this (273980692 : Int64) u_4 he_5) (cwV 1 hts gX13_commandHere_X13_isWord rfl rfl rfl (by decide +kernel) ⟨Nat.le_of_ble_eq_true rfl, Nat.le_of_ble_eq_true rfl⟩) (wc := (ce_X13 kA q_this o_this)) (ci := 9) (q0 := 0) rfl rfl rfl hl.1 (As := [.long (273980692 : Int64)]) (rest := []) rfl (Nat.le_of_ble_eq_true rfl) dX13_commandHere_16 ⟨Nat.le_of_ble_eq_true rfl, Nat.le_of_ble_eq_true rfl⟩ hK hP hD hS hA [0, 1, 2, 3, 4, 5, 6, 7, 8, 9, 10, 11, 12, 13, 14, 15, 16, 17, 18, 19, 20, 21, 22, 23] [] [0, 1, 2, 3, 4, 5, 6, 7, 8, 9, 10, 11, 12, 13, 14, 15, 16, 17, 18, 19, 20, 21, 22, 23] rfl (by decide) rfl (by decide) (by decide) rfl (by decide) (wr := []) (w2 := (ce_X13 kA q_this o_this)) (fun H locs hP hD hS => ?_)
    have hP : va_P D vwCl (ce_X13 kA q_this o_this) H := hP
    refine lv_if_eq (tgt := 24) hx hb dX13_commandHere_19 (by decide) (fun hc_6 => ?_) (fun hc_6 => ?_)
    · rw [if_pos hc_6] at hf
      refine lv_aload_n hx hb dX13_commandHere_24 rfl (lv_at hl 0 rfl) ?_
      refine lv_ldc2 hx hb hown (hts (Cond.constantLong RX13 432 (206220)) (List.mem_of_getElem? (i := 3) rfl)) dX13_commandHere_25 ?_
      obtain ⟨u_7, he_8, hf⟩ := os_bd hf
      refine mc_callV ⟨hx, hb, hml, hown, hts⟩ (mm_X13_isWord l D kA N q_this o_this (206220 : Int64) u_7 he_8) (cwV 1 hts gX13_commandHere_X13_isWord rfl rfl rfl (by decide +kernel) ⟨Nat.le_of_ble_eq_true rfl, Nat.le_of_ble_eq_true rfl⟩) (wc := (ce_X13 kA q_this o_this)) (ci := 9) (q0 := 0) rfl rfl rfl hl.1 (As := [.long (206220 : Int64)]) (rest := []) rfl (Nat.le_of_ble_eq_true rfl) dX13_commandHere_28 ⟨Nat.le_of_ble_eq_true rfl, Nat.le_of_ble_eq_true rfl⟩ hK hP hD hS hA [0, 1, 2, 3, 4, 5, 6, 7, 8, 9, 10, 11, 12, 13, 14, 15, 16, 17, 18, 19, 20, 21, 22, 23] [] [0, 1, 2, 3, 4, 5, 6, 7, 8, 9, 10, 11, 12, 13, 14, 15, 16, 17, 18, 19, 20, 21, 22, 23] rfl (by decide) rfl (by decide) (by decide) rfl (by decide) (wr := []) (w2 := (ce_X13 kA q_this o_this)) (fun H locs hP hD hS => ?_)
      have hP : va_P D vwCl (ce_X13 kA q_this o_this) H := hP
      refine lv_if_eq (tgt := 36) hx hb dX13_commandHere_31 (by decide) (fun hc_9 => ?_) (fun hc_9 => ?_)
      · rw [if_pos hc_9] at hf
        refine lv_aload_n hx hb dX13_commandHere_36 rfl (lv_at hl 0 rfl) ?_
        refine lv_ldc2 hx hb hown (hts (Cond.constantLong RX13 434 (20579760)) (List.mem_of_getElem? (i := 4) rfl)) dX13_commandHere_37 ?_
        obtain ⟨u_10, he_11, hf⟩ := os_bd hf
        refine mc_callV ⟨hx, hb, hml, hown, hts⟩ (mm_X13_isWord l D kA N q_this o_this (20579760 : Int64) u_10 he_11) (cwV 1 hts gX13_commandHere_X13_isWord rfl rfl rfl (by decide +kernel) ⟨Nat.le_of_ble_eq_true rfl, Nat.le_of_ble_eq_true rfl⟩) (wc := (ce_X13 kA q_this o_this)) (ci := 9) (q0 := 0) rfl rfl rfl hl.1 (As := [.long (20579760 : Int64)]) (rest := []) rfl (Nat.le_of_ble_eq_true rfl) dX13_commandHere_40 ⟨Nat.le_of_ble_eq_true rfl, Nat.le_of_ble_eq_true rfl⟩ hK hP hD hS hA [0, 1, 2, 3, 4, 5, 6, 7, 8, 9, 10, 11, 12, 13, 14, 15, 16, 17, 18, 19, 20, 21, 22, 23] [] [0, 1, 2, 3, 4, 5, 6, 7, 8, 9, 10, 11, 12, 13, 14, 15, 16, 17, 18, 19, 20, 21, 22, 23] rfl (by decide) rfl (by decide) (by decide) rfl (by decide) (wr := []) (w2 := (ce_X13 kA q_this o_this)) (fun H locs hP hD hS => ?_)
        have hP : va_P D vwCl (ce_X13 kA q_this o_this) H := hP
        refine lv_if_eq (tgt := 48) hx hb dX13_commandHere_43 (by decide) (fun hc_12 => ?_) (fun hc_12 => ?_)
        · rw [if_pos hc_12] at hf
          refine lv_aload_n hx hb dX13_commandHere_48 rfl (lv_at hl 0 rfl) ?_
          refine lv_ldc2 hx hb hown (hts (Cond.constantLong RX13 436 (651673224)) (List.mem_of_getElem? (i := 5) rfl)) dX13_commandHere_49 ?_
          obtain ⟨u_13, he_14, hf⟩ := os_bd hf
          refine mc_callV ⟨hx, hb, hml, hown, hts⟩ (mm_X13_isWord l D kA N q_this o_this (651673224 : Int64) u_13 he_14) (cwV 1 hts gX13_commandHere_X13_isWord rfl rfl rfl (by decide +kernel) ⟨Nat.le_of_ble_eq_true rfl, Nat.le_of_ble_eq_true rfl⟩) (wc := (ce_X13 kA q_this o_this)) (ci := 9) (q0 := 0) rfl rfl rfl hl.1 (As := [.long (651673224 : Int64)]) (rest := []) rfl (Nat.le_of_ble_eq_true rfl) dX13_commandHere_52 ⟨Nat.le_of_ble_eq_true rfl, Nat.le_of_ble_eq_true rfl⟩ hK hP hD hS hA [0, 1, 2, 3, 4, 5, 6, 7, 8, 9, 10, 11, 12, 13, 14, 15, 16, 17, 18, 19, 20, 21, 22, 23] [] [0, 1, 2, 3, 4, 5, 6, 7, 8, 9, 10, 11, 12, 13, 14, 15, 16, 17, 18, 19, 20, 21, 22, 23] rfl (by decide) rfl (by decide) (by decide) rfl (by decide) (wr := []) (w2 := (ce_X13 kA q_this o_this)) (fun H locs hP hD hS => ?_)
          have hP : va_P D vwCl (ce_X13 kA q_this o_this) H := hP
          refine lv_if_eq (tgt := 60) hx hb dX13_commandHere_55 (by decide) (fun hc_15 => ?_) (fun hc_15 => ?_)
          · rw [if_pos hc_15] at hf
            refine lv_aload_n hx hb dX13_commandHere_60 rfl (lv_at hl 0 rfl) ?_
            refine lv_ldc2 hx hb hown (hts (Cond.constantLong RX13 438 (165477)) (List.mem_of_getElem? (i := 6) rfl)) dX13_commandHere_61 ?_
            obtain ⟨u_16, he_17, hf⟩ := os_bd hf
            refine mc_callV ⟨hx, hb, hml, hown, hts⟩ (mm_X13_isWord l D kA N q_this o_this (165477 : Int64) u_16 he_17) (cwV 1 hts gX13_commandHere_X13_isWord rfl rfl rfl (by decide +kernel) ⟨Nat.le_of_ble_eq_true rfl, Nat.le_of_ble_eq_true rfl⟩) (wc := (ce_X13 kA q_this o_this)) (ci := 9) (q0 := 0) rfl rfl rfl hl.1 (As := [.long (165477 : Int64)]) (rest := []) rfl (Nat.le_of_ble_eq_true rfl) dX13_commandHere_64 ⟨Nat.le_of_ble_eq_true rfl, Nat.le_of_ble_eq_true rfl⟩ hK hP hD hS hA [0, 1, 2, 3, 4, 5, 6, 7, 8, 9, 10, 11, 12, 13, 14, 15, 16, 17, 18, 19, 20, 21, 22, 23] [] [0, 1, 2, 3, 4, 5, 6, 7, 8, 9, 10, 11, 12, 13, 14, 15, 16, 17, 18, 19, 20, 21, 22, 23] rfl (by decide) rfl (by decide) (by decide) rfl (by decide) (wr := []) (w2 := (ce_X13 kA q_this o_this)) (fun H locs hP hD hS => ?_)
            have hP : va_P D vwCl (ce_X13 kA q_this o_this) H := hP
            refine lv_if_eq (tgt := 73) hx hb dX13_commandHere_67 (by decide) (fun hc_18 => ?_) (fun hc_18 => ?_)
            · rw [if_pos hc_18] at hf
              refine lv_aload_n hx hb dX13_commandHere_73 rfl (lv_at hl 0 rfl) ?_
              refine lv_ldc2 hx hb hown (hts (Cond.constantLong RX13 440 (609748274)) (List.mem_of_getElem? (i := 7) rfl)) dX13_commandHere_74 ?_
              obtain ⟨u_19, he_20, hf⟩ := os_bd hf
              refine mc_callV ⟨hx, hb, hml, hown, hts⟩ (mm_X13_isWord l D kA N q_this o_this (609748274 : Int64) u_19 he_20) (cwV 1 hts gX13_commandHere_X13_isWord rfl rfl rfl (by decide +kernel) ⟨Nat.le_of_ble_eq_true rfl, Nat.le_of_ble_eq_true rfl⟩) (wc := (ce_X13 kA q_this o_this)) (ci := 9) (q0 := 0) rfl rfl rfl hl.1 (As := [.long (609748274 : Int64)]) (rest := []) rfl (Nat.le_of_ble_eq_true rfl) dX13_commandHere_77 ⟨Nat.le_of_ble_eq_true rfl, Nat.le_of_ble_eq_true rfl⟩ hK hP hD hS hA [0, 1, 2, 3, 4, 5, 6, 7, 8, 9, 10, 11, 12, 13, 14, 15, 16, 17, 18, 19, 20, 21, 22, 23] [] [0, 1, 2, 3, 4, 5, 6, 7, 8, 9, 10, 11, 12, 13, 14, 15, 16, 17, 18, 19, 20, 21, 22, 23] rfl (by decide) rfl (by decide) (by decide) rfl (by decide) (wr := []) (w2 := (ce_X13 kA q_this o_this)) (fun H locs hP hD hS => ?_)
              have hP : va_P D vwCl (ce_X13 kA q_this o_this) H := hP
              refine lv_if_eq (tgt := 85) hx hb dX13_commandHere_80 (by decide) (fun hc_21 => ?_) (fun hc_21 => ?_)
              · rw [if_pos hc_21] at hf
                refine lv_aload_n hx hb dX13_commandHere_85 rfl (lv_at hl 0 rfl) ?_
                refine lv_ldc2 hx hb hown (hts (Cond.constantLong RX13 442 (144318642)) (List.mem_of_getElem? (i := 8) rfl)) dX13_commandHere_86 ?_
                obtain ⟨u_22, he_23, hf⟩ := os_bd hf
                refine mc_callV ⟨hx, hb, hml, hown, hts⟩ (mm_X13_isWord l D kA N q_this o_this (144318642 : Int64) u_22 he_23) (cwV 1 hts gX13_commandHere_X13_isWord rfl rfl rfl (by decide +kernel) ⟨Nat.le_of_ble_eq_true rfl, Nat.le_of_ble_eq_true rfl⟩) (wc := (ce_X13 kA q_this o_this)) (ci := 9) (q0 := 0) rfl rfl rfl hl.1 (As := [.long (144318642 : Int64)]) (rest := []) rfl (Nat.le_of_ble_eq_true rfl) dX13_commandHere_89 ⟨Nat.le_of_ble_eq_true rfl, Nat.le_of_ble_eq_true rfl⟩ hK hP hD hS hA [0, 1, 2, 3, 4, 5, 6, 7, 8, 9, 10, 11, 12, 13, 14, 15, 16, 17, 18, 19, 20, 21, 22, 23] [] [0, 1, 2, 3, 4, 5, 6, 7, 8, 9, 10, 11, 12, 13, 14, 15, 16, 17, 18, 19, 20, 21, 22, 23] rfl (by decide) rfl (by decide) (by decide) rfl (by decide) (wr := []) (w2 := (ce_X13 kA q_this o_this)) (fun H locs hP hD hS => ?_)
                have hP : va_P D vwCl (ce_X13 kA q_this o_this) H := hP
                refine lv_if_eq (tgt := 98) hx hb dX13_commandHere_92 (by decide) (fun hc_24 => ?_) (fun hc_24 => ?_)
                · rw [if_pos hc_24] at hf
                  refine lv_aload_n hx hb dX13_commandHere_98 rfl (lv_at hl 0 rfl) ?_
                  refine lv_ldc2 hx hb hown (hts (Cond.constantLong RX13 444 (553002600)) (List.mem_of_getElem? (i := 9) rfl)) dX13_commandHere_99 ?_
                  obtain ⟨u_25, he_26, hf⟩ := os_bd hf
                  refine mc_callV ⟨hx, hb, hml, hown, hts⟩ (mm_X13_isWord l D kA N q_this o_this (553002600 : Int64) u_25 he_26) (cwV 1 hts gX13_commandHere_X13_isWord rfl rfl rfl (by decide +kernel) ⟨Nat.le_of_ble_eq_true rfl, Nat.le_of_ble_eq_true rfl⟩) (wc := (ce_X13 kA q_this o_this)) (ci := 9) (q0 := 0) rfl rfl rfl hl.1 (As := [.long (553002600 : Int64)]) (rest := []) rfl (Nat.le_of_ble_eq_true rfl) dX13_commandHere_102 ⟨Nat.le_of_ble_eq_true rfl, Nat.le_of_ble_eq_true rfl⟩ hK hP hD hS hA [0, 1, 2, 3, 4, 5, 6, 7, 8, 9, 10, 11, 12, 13, 14, 15, 16, 17, 18, 19, 20, 21, 22, 23] [] [0, 1, 2, 3, 4, 5, 6, 7, 8, 9, 10, 11, 12, 13, 14, 15, 16, 17, 18, 19, 20, 21, 22, 23] rfl (by decide) rfl (by decide) (by decide) rfl (by decide) (wr := []) (w2 := (ce_X13 kA q_this o_this)) (fun H locs hP hD hS => ?_)
                  have hP : va_P D vwCl (ce_X13 kA q_this o_this) H := hP
                  refine lv_if_eq (tgt := 111) hx hb dX13_commandHere_105 (by decide) (fun hc_27 => ?_) (fun hc_27 => ?_)
                  · rw [if_pos hc_27] at hf
                    refine lv_aload_n hx hb dX13_commandHere_111 rfl (lv_at hl 0 rfl) ?_
                    refine lv_ldc2 hx hb hown (hts (Cond.constantLong RX13 446 (317396564)) (List.mem_of_getElem? (i := 10) rfl)) dX13_commandHere_112 ?_
                    obtain ⟨u_28, he_29, hf⟩ := os_bd hf
                    refine mc_callV ⟨hx, hb, hml, hown, hts⟩ (mm_X13_isWord l D kA N q_this o_this (317396564 : Int64) u_28 he_29) (cwV 1 hts gX13_commandHere_X13_isWord rfl rfl rfl (by decide +kernel) ⟨Nat.le_of_ble_eq_true rfl, Nat.le_of_ble_eq_true rfl⟩) (wc := (ce_X13 kA q_this o_this)) (ci := 9) (q0 := 0) rfl rfl rfl hl.1 (As := [.long (317396564 : Int64)]) (rest := []) rfl (Nat.le_of_ble_eq_true rfl) dX13_commandHere_115 ⟨Nat.le_of_ble_eq_true rfl, Nat.le_of_ble_eq_true rfl⟩ hK hP hD hS hA [0, 1, 2, 3, 4, 5, 6, 7, 8, 9, 10, 11, 12, 13, 14, 15, 16, 17, 18, 19, 20, 21, 22, 23] [] [0, 1, 2, 3, 4, 5, 6, 7, 8, 9, 10, 11, 12, 13, 14, 15, 16, 17, 18, 19, 20, 21, 22, 23] rfl (by decide) rfl (by decide) (by decide) rfl (by decide) (wr := []) (w2 := (ce_X13 kA q_this o_this)) (fun H locs hP hD hS => ?_)
                    have hP : va_P D vwCl (ce_X13 kA q_this o_this) H := hP
                    refine lv_if_eq (tgt := 124) hx hb dX13_commandHere_118 (by decide) (fun hc_30 => ?_) (fun hc_30 => ?_)
                    · rw [if_pos hc_30] at hf
                      refine lv_aload_n hx hb dX13_commandHere_124 rfl (lv_at hl 0 rfl) ?_
                      refine lv_ldc2 hx hb hown (hts (Cond.constantLong RX13 448 (446253554)) (List.mem_of_getElem? (i := 11) rfl)) dX13_commandHere_125 ?_
                      obtain ⟨u_31, he_32, hf⟩ := os_bd hf
                      refine mc_callV ⟨hx, hb, hml, hown, hts⟩ (mm_X13_isWord l D kA N q_this o_this (446253554 : Int64) u_31 he_32) (cwV 1 hts gX13_commandHere_X13_isWord rfl rfl rfl (by decide +kernel) ⟨Nat.le_of_ble_eq_true rfl, Nat.le_of_ble_eq_true rfl⟩) (wc := (ce_X13 kA q_this o_this)) (ci := 9) (q0 := 0) rfl rfl rfl hl.1 (As := [.long (446253554 : Int64)]) (rest := []) rfl (Nat.le_of_ble_eq_true rfl) dX13_commandHere_128 ⟨Nat.le_of_ble_eq_true rfl, Nat.le_of_ble_eq_true rfl⟩ hK hP hD hS hA [0, 1, 2, 3, 4, 5, 6, 7, 8, 9, 10, 11, 12, 13, 14, 15, 16, 17, 18, 19, 20, 21, 22, 23] [] [0, 1, 2, 3, 4, 5, 6, 7, 8, 9, 10, 11, 12, 13, 14, 15, 16, 17, 18, 19, 20, 21, 22, 23] rfl (by decide) rfl (by decide) (by decide) rfl (by decide) (wr := []) (w2 := (ce_X13 kA q_this o_this)) (fun H locs hP hD hS => ?_)
                      have hP : va_P D vwCl (ce_X13 kA q_this o_this) H := hP
                      refine lv_if_eq (tgt := 137) hx hb dX13_commandHere_131 (by decide) (fun hc_33 => ?_) (fun hc_33 => ?_)
                      · rw [if_pos hc_33] at hf
                        refine lv_aload_n hx hb dX13_commandHere_137 rfl (lv_at hl 0 rfl) ?_
                        refine lv_ldc2 hx hb hown (hts (Cond.constantLong RX13 450 (609752116)) (List.mem_of_getElem? (i := 12) rfl)) dX13_commandHere_138 ?_
                        obtain ⟨u_34, he_35, hf⟩ := os_bd hf
                        refine mc_callV ⟨hx, hb, hml, hown, hts⟩ (mm_X13_isWord l D kA N q_this o_this (609752116 : Int64) u_34 he_35) (cwV 1 hts gX13_commandHere_X13_isWord rfl rfl rfl (by decide +kernel) ⟨Nat.le_of_ble_eq_true rfl, Nat.le_of_ble_eq_true rfl⟩) (wc := (ce_X13 kA q_this o_this)) (ci := 9) (q0 := 0) rfl rfl rfl hl.1 (As := [.long (609752116 : Int64)]) (rest := []) rfl (Nat.le_of_ble_eq_true rfl) dX13_commandHere_141 ⟨Nat.le_of_ble_eq_true rfl, Nat.le_of_ble_eq_true rfl⟩ hK hP hD hS hA [0, 1, 2, 3, 4, 5, 6, 7, 8, 9, 10, 11, 12, 13, 14, 15, 16, 17, 18, 19, 20, 21, 22, 23] [] [0, 1, 2, 3, 4, 5, 6, 7, 8, 9, 10, 11, 12, 13, 14, 15, 16, 17, 18, 19, 20, 21, 22, 23] rfl (by decide) rfl (by decide) (by decide) rfl (by decide) (wr := []) (w2 := (ce_X13 kA q_this o_this)) (fun H locs hP hD hS => ?_)
                        have hP : va_P D vwCl (ce_X13 kA q_this o_this) H := hP
                        refine lv_if_eq (tgt := 152) hx hb dX13_commandHere_144 (by decide) (fun hc_36 => ?_) (fun hc_36 => ?_)
                        · rw [if_pos hc_36] at hf
                          refine lv_iconst (v := (-1)) hx hb dX13_commandHere_152 (by decide) ?_
                          rw [← Option.some.inj hf]
                          exact mc_reti hx hb hr hlk hP hK hD hS dX13_commandHere_153
                        · rw [if_neg hc_36] at hf
                          refine lv_bipush (v := 11) hx hb dX13_commandHere_147 (by decide) ?_
                          refine lv_goto (tgt := 153) hx hb dX13_commandHere_149 (by decide) ?_
                          rw [← Option.some.inj hf]
                          exact mc_reti hx hb hr hlk hP hK hD hS dX13_commandHere_153
                      · rw [if_neg hc_33] at hf
                        refine lv_bipush (v := 10) hx hb dX13_commandHere_134 (by decide) ?_
                        rw [← Option.some.inj hf]
                        exact mc_reti hx hb hr hlk hP hK hD hS dX13_commandHere_136
                    · rw [if_neg hc_30] at hf
                      refine lv_bipush (v := 9) hx hb dX13_commandHere_121 (by decide) ?_
                      rw [← Option.some.inj hf]
                      exact mc_reti hx hb hr hlk hP hK hD hS dX13_commandHere_123
                  · rw [if_neg hc_27] at hf
                    refine lv_bipush (v := 8) hx hb dX13_commandHere_108 (by decide) ?_
                    rw [← Option.some.inj hf]
                    exact mc_reti hx hb hr hlk hP hK hD hS dX13_commandHere_110
                · rw [if_neg hc_24] at hf
                  refine lv_bipush (v := 7) hx hb dX13_commandHere_95 (by decide) ?_
                  rw [← Option.some.inj hf]
                  exact mc_reti hx hb hr hlk hP hK hD hS dX13_commandHere_97
              · rw [if_neg hc_21] at hf
                refine lv_iconst (v := 5) hx hb dX13_commandHere_83 (by decide) ?_
                rw [← Option.some.inj hf]
                exact mc_reti hx hb hr hlk hP hK hD hS dX13_commandHere_84
            · rw [if_neg hc_18] at hf
              refine lv_bipush (v := 6) hx hb dX13_commandHere_70 (by decide) ?_
              rw [← Option.some.inj hf]
              exact mc_reti hx hb hr hlk hP hK hD hS dX13_commandHere_72
          · rw [if_neg hc_15] at hf
            refine lv_iconst (v := 4) hx hb dX13_commandHere_58 (by decide) ?_
            rw [← Option.some.inj hf]
            exact mc_reti hx hb hr hlk hP hK hD hS dX13_commandHere_59
        · rw [if_neg hc_12] at hf
          refine lv_iconst (v := 3) hx hb dX13_commandHere_46 (by decide) ?_
          rw [← Option.some.inj hf]
          exact mc_reti hx hb hr hlk hP hK hD hS dX13_commandHere_47
      · rw [if_neg hc_9] at hf
        refine lv_iconst (v := 2) hx hb dX13_commandHere_34 (by decide) ?_
        rw [← Option.some.inj hf]
        exact mc_reti hx hb hr hlk hP hK hD hS dX13_commandHere_35
    · rw [if_neg hc_6] at hf
      refine lv_iconst (v := 1) hx hb dX13_commandHere_22 (by decide) ?_
      rw [← Option.some.inj hf]
      exact mc_reti hx hb hr hlk hP hK hD hS dX13_commandHere_23
  · rw [if_neg hc_3] at hf
    refine lv_iconst (v := 0) hx hb dX13_commandHere_10 (by decide) ?_
    rw [← Option.some.inj hf]
    exact mc_reti hx hb hr hlk hP hK hD hS dX13_commandHere_11
