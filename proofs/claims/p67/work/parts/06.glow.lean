def ff_X2_glowAt (N : Nat) (o_p0 : os_T) (a1 : Int32) (a2 : Int32) : Option UInt32 :=
  ((ff_X5_lightAt N o_p0 a1 a2 FP.fconst0).bind fun u_1 => (if os_nn (FP.fmul u_1 (1082130432 : UInt32)) then ((ff_X5_lightAt N o_p0 (a1 - (1 : Int32)) a2 u_1).bind fun u_4 => (if os_nn (FP.fadd (FP.fmul u_1 (1082130432 : UInt32)) u_4) then ((ff_X5_lightAt N o_p0 (a1 + (1 : Int32)) a2 u_1).bind fun u_7 => (if os_nn (FP.fadd (FP.fadd (FP.fmul u_1 (1082130432 : UInt32)) u_4) u_7) then ((ff_X5_lightAt N o_p0 a1 (a2 - (1 : Int32)) u_1).bind fun u_10 => (if os_nn (FP.fadd (FP.fadd (FP.fadd (FP.fmul u_1 (1082130432 : UInt32)) u_4) u_7) u_10) then ((ff_X5_lightAt N o_p0 a1 (a2 + (1 : Int32)) u_1).bind fun u_13 => (if os_nn (FP.fadd (FP.fadd (FP.fadd (FP.fadd (FP.fmul u_1 (1082130432 : UInt32)) u_4) u_7) u_10) u_13) then (if os_nn (FP.fdiv (FP.fadd (FP.fadd (FP.fadd (FP.fadd (FP.fmul u_1 (1082130432 : UInt32)) u_4) u_7) u_10) u_13) (1090519040 : UInt32)) then some (FP.fdiv (FP.fadd (FP.fadd (FP.fadd (FP.fadd (FP.fmul u_1 (1082130432 : UInt32)) u_4) u_7) u_10) u_13) (1090519040 : UInt32)) else none) else none)) else none)) else none)) else none)) else none))
set_option maxHeartbeats 4000000 in
set_option maxRecDepth 100000 in
theorem mm_X2_glowAt (l : Launch) (D : va_G) (kA : Nat → ClassId) (N : Nat) (q_p0 : Nat → Nat) (o_p0 : os_T) (a1 : Int32) (a2 : Int32) (out : UInt32) (hf : ff_X2_glowAt N o_p0 a1 a2 = some out) : mc_C l D kA yX2_glowAt wsX2_glowAt ({ frames := 1, cells := 0, slots := 0, locals := 24 } : Room) [.ref (q_p0 0), .int a1, .int a2] (ce_X5 kA q_p0 o_p0) (some (.float out)) (ce_X5 kA q_p0 o_p0) := by
  refine mc_of (cc := cX2_glowAt) (maxL := 5) (ret := (some .float)) (by decide) rfl (Nat.le_of_ble_eq_true rfl) ?_
  intro p e s m below meth c A B hD hP hS ls hl
  obtain ⟨hx, hb, hr, hlk, hml, hown, hts, hK, hA, hnm⟩ := B
  have hown : s.vm.findClass RX2 = some m.cls := hown
  have hl : lv_has ls 5 [(0, .ref (q_p0 0)), (1, .int a1), (2, .int a2)] := hl
  unfold ff_X2_glowAt at hf
  refine lv_aload_n hx hb dX2_glowAt_0 rfl (lv_at hl 0 rfl) ?_
  refine lv_iload_n hx hb dX2_glowAt_1 rfl (lv_at hl 1 rfl) ?_
  refine lv_iload_n hx hb dX2_glowAt_2 rfl (lv_at hl 2 rfl) ?_
  refine lv_fconst0 hx hb dX2_glowAt_3 ?_
  obtain ⟨u_1, he_2, hf⟩ := os_bd hf
  refine mc_callV ⟨hx, hb, hml, hown, hts⟩ (mm_X5_lightAt l D kA N q_p0 o_p0 a1 a2 FP.fconst0 u_1 he_2) (cwV 3 hts gX2_glowAt_X5_lightAt rfl rfl rfl (by decide +kernel) ⟨Nat.le_of_ble_eq_true rfl, Nat.le_of_ble_eq_true rfl⟩) (wc := (ce_X5 kA q_p0 o_p0)) (ci := 4) (q0 := 0) rfl rfl rfl hl.1 (As := [.int a1, .int a2, .float FP.fconst0]) (rest := []) rfl (Nat.le_of_ble_eq_true rfl) dX2_glowAt_4 ⟨Nat.le_of_ble_eq_true rfl, Nat.le_of_ble_eq_true rfl⟩ hK hP hD hS hA [0, 1, 2, 3] [] [0, 1, 2, 3] rfl (by decide) rfl (by decide) (by decide) rfl (by decide) (wr := []) (w2 := (ce_X5 kA q_p0 o_p0)) (fun H locs hP hD hS => ?_)
  have hP : va_P D vwCl (ce_X5 kA q_p0 o_p0) H := hP
  refine lv_fstore_n (lv' := [(3, .float u_1), (0, .ref (q_p0 0)), (1, .int a1), (2, .int a2)]) hx hb dX2_glowAt_7 rfl hl (by decide) rfl (fun ls hl => ?_)
  refine lv_fload_n hx hb dX2_glowAt_8 rfl (lv_at hl 0 rfl) ?_
  refine lv_ldcf hx hb hown (hts (Cond.constantFloat RX2 15 (1082130432)) (List.mem_of_getElem? (i := 1) rfl)) dX2_glowAt_9 ?_
  obtain ⟨hn_3, hf⟩ := os_if hf
  refine lv_fmul hx hb dX2_glowAt_11 hn_3 ?_
  refine lv_fstore (lv' := [(4, .float (FP.fmul u_1 (1082130432 : UInt32))), (3, .float u_1), (0, .ref (q_p0 0)), (1, .int a1), (2, .int a2)]) hx hb dX2_glowAt_12 hl (by decide) rfl (fun ls hl => ?_)
  refine lv_fload hx hb dX2_glowAt_14 (lv_at hl 0 rfl) ?_
  refine lv_aload_n hx hb dX2_glowAt_16 rfl (lv_at hl 2 rfl) ?_
  refine lv_iload_n hx hb dX2_glowAt_17 rfl (lv_at hl 3 rfl) ?_
  refine lv_iconst (v := 1) hx hb dX2_glowAt_18 (by decide) ?_
  refine lv_isub hx hb dX2_glowAt_19 ?_
  refine lv_iload_n hx hb dX2_glowAt_20 rfl (lv_at hl 4 rfl) ?_
  refine lv_fload_n hx hb dX2_glowAt_21 rfl (lv_at hl 1 rfl) ?_
  obtain ⟨u_4, he_5, hf⟩ := os_bd hf
  refine mc_callV ⟨hx, hb, hml, hown, hts⟩ (mm_X5_lightAt l D kA N q_p0 o_p0 (a1 - (1 : Int32)) a2 u_1 u_4 he_5) (cwV 3 hts gX2_glowAt_X5_lightAt rfl rfl rfl (by decide +kernel) ⟨Nat.le_of_ble_eq_true rfl, Nat.le_of_ble_eq_true rfl⟩) (wc := (ce_X5 kA q_p0 o_p0)) (ci := 4) (q0 := 0) rfl rfl rfl hl.1 (As := [.int (a1 - (1 : Int32)), .int a2, .float u_1]) (rest := [.float (FP.fmul u_1 (1082130432 : UInt32))]) rfl (Nat.le_of_ble_eq_true rfl) dX2_glowAt_22 ⟨Nat.le_of_ble_eq_true rfl, Nat.le_of_ble_eq_true rfl⟩ hK hP hD hS hA [0, 1, 2, 3] [] [0, 1, 2, 3] rfl (by decide) rfl (by decide) (by decide) rfl (by decide) (wr := []) (w2 := (ce_X5 kA q_p0 o_p0)) (fun H locs hP hD hS => ?_)
  have hP : va_P D vwCl (ce_X5 kA q_p0 o_p0) H := hP
  obtain ⟨hn_6, hf⟩ := os_if hf
  refine lv_fadd hx hb dX2_glowAt_25 hn_6 ?_
  refine lv_fstore (lv' := [(4, .float (FP.fadd (FP.fmul u_1 (1082130432 : UInt32)) u_4)), (3, .float u_1), (0, .ref (q_p0 0)), (1, .int a1), (2, .int a2)]) hx hb dX2_glowAt_26 hl (by decide) rfl (fun ls hl => ?_)
  refine lv_fload hx hb dX2_glowAt_28 (lv_at hl 0 rfl) ?_
  refine lv_aload_n hx hb dX2_glowAt_30 rfl (lv_at hl 2 rfl) ?_
  refine lv_iload_n hx hb dX2_glowAt_31 rfl (lv_at hl 3 rfl) ?_
  refine lv_iconst (v := 1) hx hb dX2_glowAt_32 (by decide) ?_
  refine lv_iadd hx hb dX2_glowAt_33 ?_
  refine lv_iload_n hx hb dX2_glowAt_34 rfl (lv_at hl 4 rfl) ?_
  refine lv_fload_n hx hb dX2_glowAt_35 rfl (lv_at hl 1 rfl) ?_
  obtain ⟨u_7, he_8, hf⟩ := os_bd hf
  refine mc_callV ⟨hx, hb, hml, hown, hts⟩ (mm_X5_lightAt l D kA N q_p0 o_p0 (a1 + (1 : Int32)) a2 u_1 u_7 he_8) (cwV 3 hts gX2_glowAt_X5_lightAt rfl rfl rfl (by decide +kernel) ⟨Nat.le_of_ble_eq_true rfl, Nat.le_of_ble_eq_true rfl⟩) (wc := (ce_X5 kA q_p0 o_p0)) (ci := 4) (q0 := 0) rfl rfl rfl hl.1 (As := [.int (a1 + (1 : Int32)), .int a2, .float u_1]) (rest := [.float (FP.fadd (FP.fmul u_1 (1082130432 : UInt32)) u_4)]) rfl (Nat.le_of_ble_eq_true rfl) dX2_glowAt_36 ⟨Nat.le_of_ble_eq_true rfl, Nat.le_of_ble_eq_true rfl⟩ hK hP hD hS hA [0, 1, 2, 3] [] [0, 1, 2, 3] rfl (by decide) rfl (by decide) (by decide) rfl (by decide) (wr := []) (w2 := (ce_X5 kA q_p0 o_p0)) (fun H locs hP hD hS => ?_)
  have hP : va_P D vwCl (ce_X5 kA q_p0 o_p0) H := hP
  obtain ⟨hn_9, hf⟩ := os_if hf
  refine lv_fadd hx hb dX2_glowAt_39 hn_9 ?_
  refine lv_fstore (lv' := [(4, .float (FP.fadd (FP.fadd (FP.fmul u_1 (1082130432 : UInt32)) u_4) u_7)), (3, .float u_1), (0, .ref (q_p0 0)), (1, .int a1), (2, .int a2)]) hx hb dX2_glowAt_40 hl (by decide) rfl (fun ls hl => ?_)
  refine lv_fload hx hb dX2_glowAt_42 (lv_at hl 0 rfl) ?_
  refine lv_aload_n hx hb dX2_glowAt_44 rfl (lv_at hl 2 rfl) ?_
  refine lv_iload_n hx hb dX2_glowAt_45 rfl (lv_at hl 3 rfl) ?_
  refine lv_iload_n hx hb dX2_glowAt_46 rfl (lv_at hl 4 rfl) ?_
  refine lv_iconst (v := 1) hx hb dX2_glowAt_47 (by decide) ?_
  refine lv_isub hx hb dX2_glowAt_48 ?_
  refine lv_fload_n hx hb dX2_glowAt_49 rfl (lv_at hl 1 rfl) ?_
  obtain ⟨u_10, he_11, hf⟩ := os_bd hf
  refine mc_callV ⟨hx, hb, hml, hown, hts⟩ (mm_X5_lightAt l D kA N q_p0 o_p0 a1 (a2 - (1 : Int32)) u_1 u_10 he_11) (cwV 3 hts gX2_glowAt_X5_lightAt rfl rfl rfl (by decide +kernel) ⟨Nat.le_of_ble_eq_true rfl, Nat.le_of_ble_eq_true rfl⟩) (wc := (ce_X5 kA q_p0 o_p0)) (ci := 4) (q0 := 0) rfl rfl rfl hl.1 (As := [.int a1, .int (a2 - (1 : Int32)), .float u_1]) (rest := [.float (FP.fadd (FP.fadd (FP.fmul u_1 (1082130432 : UInt32)) u_4) u_7)]) rfl (Nat.le_of_ble_eq_true rfl) dX2_glowAt_50 ⟨Nat.le_of_ble_eq_true rfl, Nat.le_of_ble_eq_true rfl⟩ hK hP hD hS hA [0, 1, 2, 3] [] [0, 1, 2, 3] rfl (by decide) rfl (by decide) (by decide) rfl (by decide) (wr := []) (w2 := (ce_X5 kA q_p0 o_p0)) (fun H locs hP hD hS => ?_)
  have hP : va_P D vwCl (ce_X5 kA q_p0 o_p0) H := hP
  obtain ⟨hn_12, hf⟩ := os_if hf
  refine lv_fadd hx hb dX2_glowAt_53 hn_12 ?_
  refine lv_fstore (lv' := [(4, .float (FP.fadd (FP.fadd (FP.fadd (FP.fmul u_1 (1082130432 : UInt32)) u_4) u_7) u_10)), (3, .float u_1), (0, .ref (q_p0 0)), (1, .int a1), (2, .int a2)]) hx hb dX2_glowAt_54 hl (by decide) rfl (fun ls hl => ?_)
  refine lv_fload hx hb dX2_glowAt_56 (lv_at hl 0 rfl) ?_
  refine lv_aload_n hx hb dX2_glowAt_58 rfl (lv_at hl 2 rfl) ?_
  refine lv_iload_n hx hb dX2_glowAt_59 rfl (lv_at hl 3 rfl) ?_
  refine lv_iload_n hx hb dX2_glowAt_60 rfl (lv_at hl 4 rfl) ?_
  refine lv_iconst (v := 1) hx hb dX2_glowAt_61 (by decide) ?_
  refine lv_iadd hx hb dX2_glowAt_62 ?_
  refine lv_fload_n hx hb dX2_glowAt_63 rfl (lv_at hl 1 rfl) ?_
  obtain ⟨u_13, he_14, hf⟩ := os_bd hf
  refine mc_callV ⟨hx, hb, hml, hown, hts⟩ (mm_X5_lightAt l D kA N q_p0 o_p0 a1 (a2 + (1 : Int32)) u_1 u_13 he_14) (cwV 3 hts gX2_glowAt_X5_lightAt rfl rfl rfl (by decide +kernel) ⟨Nat.le_of_ble_eq_true rfl, Nat.le_of_ble_eq_true rfl⟩) (wc := (ce_X5 kA q_p0 o_p0)) (ci := 4) (q0 := 0) rfl rfl rfl hl.1 (As := [.int a1, .int (a2 + (1 : Int32)), .float u_1]) (rest := [.float (FP.fadd (FP.fadd (FP.fadd (FP.fmul u_1 (1082130432 : UInt32)) u_4) u_7) u_10)]) rfl (Nat.le_of_ble_eq_true rfl) dX2_glowAt_64 ⟨Nat.le_of_ble_eq_true rfl, Nat.le_of_ble_eq_true rfl⟩ hK hP hD hS hA [0, 1, 2, 3] [] [0, 1, 2, 3] rfl (by decide) rfl (by decide) (by decide) rfl (by decide) (wr := []) (w2 := (ce_X5 kA q_p0 o_p0)) (fun H locs hP hD hS => ?_)
  have hP : va_P D vwCl (ce_X5 kA q_p0 o_p0) H := hP
  obtain ⟨hn_15, hf⟩ := os_if hf
  refine lv_fadd hx hb dX2_glowAt_67 hn_15 ?_
  refine lv_fstore (lv' := [(4, .float (FP.fadd (FP.fadd (FP.fadd (FP.fadd (FP.fmul u_1 (1082130432 : UInt32)) u_4) u_7) u_10) u_13)), (3, .float u_1), (0, .ref (q_p0 0)), (1, .int a1), (2, .int a2)]) hx hb dX2_glowAt_68 hl (by decide) rfl (fun ls hl => ?_)
  refine lv_fload hx hb dX2_glowAt_70 (lv_at hl 0 rfl) ?_
  refine lv_ldcf hx hb hown (hts (Cond.constantFloat RX2 16 (1090519040)) (List.mem_of_getElem? (i := 2) rfl)) dX2_glowAt_72 ?_
  obtain ⟨hn_16, hf⟩ := os_if hf
  refine lv_fdiv hx hb dX2_glowAt_74 hn_16 ?_
  rw [← Option.some.inj hf]
  exact mc_retf hx hb hr hlk hP hK hD hS dX2_glowAt_75
def ff_X2_sizeOfMiss (N : Nat) (o_p0 : os_T) (a1 : Int32) (a2 : Int32) : Option UInt32 :=
  ((ff_X5_has N o_p0 a1 a2).bind fun u_1 => (if u_1 = 0 then some FP.fconst0 else ((ff_X2_glowAt N o_p0 a1 a2).bind fun u_4 => ((ff_X5_wishAt N o_p0 a1 a2).bind fun u_6 => (if os_nn (FP.fsub u_4 u_6) then (if 0 ≤ (Op.cmpValue (FP.fcmp (FP.fsub u_4 u_6) FP.fconst0) CmpOp.g) then some (FP.fsub u_4 u_6) else some (FP.fneg (FP.fsub u_4 u_6))) else none)))))
set_option maxHeartbeats 4000000 in
set_option maxRecDepth 100000 in
theorem mm_X2_sizeOfMiss (l : Launch) (D : va_G) (kA : Nat → ClassId) (N : Nat) (q_p0 : Nat → Nat) (o_p0 : os_T) (a1 : Int32) (a2 : Int32) (out : UInt32) (hf : ff_X2_sizeOfMiss N o_p0 a1 a2 = some out) : mc_C l D kA yX2_sizeOfMiss wsX2_sizeOfMiss ({ frames := 2, cells := 0, slots := 0, locals := 48 } : Room) [.ref (q_p0 0), .int a1, .int a2] (ce_X5 kA q_p0 o_p0) (some (.float out)) (ce_X5 kA q_p0 o_p0) := by
  refine mc_of (cc := cX2_sizeOfMiss) (maxL := 4) (ret := (some .float)) (by decide) rfl (Nat.le_of_ble_eq_true rfl) ?_
  intro p e s m below meth c A B hD hP hS ls hl
  obtain ⟨hx, hb, hr, hlk, hml, hown, hts, hK, hA, hnm⟩ := B
  have hown : s.vm.findClass RX2 = some m.cls := hown
  have hl : lv_has ls 4 [(0, .ref (q_p0 0)), (1, .int a1), (2, .int a2)] := hl
  unfold ff_X2_sizeOfMiss at hf
  refine lv_aload_n hx hb dX2_sizeOfMiss_0 rfl (lv_at hl 0 rfl) ?_
  refine lv_iload_n hx hb dX2_sizeOfMiss_1 rfl (lv_at hl 1 rfl) ?_
  refine lv_iload_n hx hb dX2_sizeOfMiss_2 rfl (lv_at hl 2 rfl) ?_
  obtain ⟨u_1, he_2, hf⟩ := os_bd hf
  refine mc_callV ⟨hx, hb, hml, hown, hts⟩ (mm_X5_has l D kA N q_p0 o_p0 a1 a2 u_1 he_2) (cwV 2 hts gX2_sizeOfMiss_X5_has rfl rfl rfl (by decide +kernel) ⟨Nat.le_of_ble_eq_true rfl, Nat.le_of_ble_eq_true rfl⟩) (wc := (ce_X5 kA q_p0 o_p0)) (ci := 4) (q0 := 0) rfl rfl rfl hl.1 (As := [.int a1, .int a2]) (rest := []) rfl (Nat.le_of_ble_eq_true rfl) dX2_sizeOfMiss_3 ⟨Nat.le_of_ble_eq_true rfl, Nat.le_of_ble_eq_true rfl⟩ hK hP hD hS hA [0, 1, 2, 3] [] [0, 1, 2, 3] rfl (by decide) rfl (by decide) (by decide) rfl (by decide) (wr := []) (w2 := (ce_X5 kA q_p0 o_p0)) (fun H locs hP hD hS => ?_)
  have hP : va_P D vwCl (ce_X5 kA q_p0 o_p0) H := hP
  refine lv_if_ne (tgt := 11) hx hb dX2_sizeOfMiss_6 (by decide) (fun hc_3 => ?_) (fun hc_3 => ?_)
  · rw [if_neg hc_3] at hf
    refine lv_aload_n hx hb dX2_sizeOfMiss_11 rfl (lv_at hl 0 rfl) ?_
    refine lv_iload_n hx hb dX2_sizeOfMiss_12 rfl (lv_at hl 1 rfl) ?_
    refine lv_iload_n hx hb dX2_sizeOfMiss_13 rfl (lv_at hl 2 rfl) ?_
    obtain ⟨u_4, he_5, hf⟩ := os_bd hf
    refine mc_callS ⟨hx, hb, hml, hown, hts⟩ (mm_X2_glowAt l D kA N q_p0 o_p0 a1 a2 u_4 he_5) (va_cwS 3 hts gX2_sizeOfMiss_X2_glowAt rfl rfl rfl (by decide +kernel) ⟨Nat.le_of_ble_eq_true rfl, Nat.le_of_ble_eq_true rfl⟩) (wc := (ce_X5 kA q_p0 o_p0)) rfl hl.1 (As := [.ref (q_p0 0), .int a1, .int a2]) (rest := []) rfl (Nat.le_of_ble_eq_true rfl) dX2_sizeOfMiss_14 ⟨Nat.le_of_ble_eq_true rfl, Nat.le_of_ble_eq_true rfl⟩ hK hP hD hS hA [0, 1, 2, 3] [] [0, 1, 2, 3] rfl (by decide) rfl (by decide) (by decide) rfl (by decide) (wr := []) (w2 := (ce_X5 kA q_p0 o_p0)) (fun H locs hP hD hS => ?_)
    have hP : va_P D vwCl (ce_X5 kA q_p0 o_p0) H := hP
    refine lv_aload_n hx hb dX2_sizeOfMiss_17 rfl (lv_at hl 0 rfl) ?_
    refine lv_iload_n hx hb dX2_sizeOfMiss_18 rfl (lv_at hl 1 rfl) ?_
    refine lv_iload_n hx hb dX2_sizeOfMiss_19 rfl (lv_at hl 2 rfl) ?_
    obtain ⟨u_6, he_7, hf⟩ := os_bd hf
    refine mc_callV ⟨hx, hb, hml, hown, hts⟩ (mm_X5_wishAt l D kA N q_p0 o_p0 a1 a2 u_6 he_7) (cwV 2 hts gX2_sizeOfMiss_X5_wishAt rfl rfl rfl (by decide +kernel) ⟨Nat.le_of_ble_eq_true rfl, Nat.le_of_ble_eq_true rfl⟩) (wc := (ce_X5 kA q_p0 o_p0)) (ci := 4) (q0 := 0) rfl rfl rfl hl.1 (As := [.int a1, .int a2]) (rest := [.float u_4]) rfl (Nat.le_of_ble_eq_true rfl) dX2_sizeOfMiss_20 ⟨Nat.le_of_ble_eq_true rfl, Nat.le_of_ble_eq_true rfl⟩ hK hP hD hS hA [0, 1, 2, 3] [] [0, 1, 2, 3] rfl (by decide) rfl (by decide) (by decide) rfl (by decide) (wr := []) (w2 := (ce_X5 kA q_p0 o_p0)) (fun H locs hP hD hS => ?_)
    have hP : va_P D vwCl (ce_X5 kA q_p0 o_p0) H := hP
    obtain ⟨hn_8, hf⟩ := os_if hf
    refine lv_fsub hx hb dX2_sizeOfMiss_23 hn_8 ?_
    refine lv_fstore_n (lv' := [(3, .float (FP.fsub u_4 u_6)), (0, .ref (q_p0 0)), (1, .int a1), (2, .int a2)]) hx hb dX2_sizeOfMiss_24 rfl hl (by decide) rfl (fun ls hl => ?_)
    refine lv_fload_n hx hb dX2_sizeOfMiss_25 rfl (lv_at hl 0 rfl) ?_
    refine lv_fconst0 hx hb dX2_sizeOfMiss_26 ?_
    refine lv_fcmp hx hb dX2_sizeOfMiss_27 ?_
    refine lv_if_ge (tgt := 36) hx hb dX2_sizeOfMiss_28 (by decide) (fun hc_9 => ?_) (fun hc_9 => ?_)
    · rw [if_pos hc_9] at hf
      refine lv_fload_n hx hb dX2_sizeOfMiss_36 rfl (lv_at hl 0 rfl) ?_
      rw [← Option.some.inj hf]
      exact mc_retf hx hb hr hlk hP hK hD hS dX2_sizeOfMiss_37
    · rw [if_neg hc_9] at hf
      refine lv_fload_n hx hb dX2_sizeOfMiss_31 rfl (lv_at hl 0 rfl) ?_
      refine lv_fneg hx hb dX2_sizeOfMiss_32 ?_
      refine lv_goto (tgt := 37) hx hb dX2_sizeOfMiss_33 (by decide) ?_
      rw [← Option.some.inj hf]
      exact mc_retf hx hb hr hlk hP hK hD hS dX2_sizeOfMiss_37
  · rw [if_pos hc_3] at hf
    refine lv_fconst0 hx hb dX2_sizeOfMiss_9 ?_
    rw [← Option.some.inj hf]
    exact mc_retf hx hb hr hlk hP hK hD hS dX2_sizeOfMiss_10
def ff_X2_bitsOf_b32 (N : Nat) (x1 : UInt32) (x2 : Int32) : Option Int32 :=
  (if os_nn (FP.fsub x1 FP.fconst1) then (if os_nn (FP.fmul (FP.fsub x1 FP.fconst1) (1258291200 : UInt32)) then some ((x2 <<< ((23 : Int32) &&& 31)) + (FP.f2i (FP.fmul (FP.fsub x1 FP.fconst1) (1258291200 : UInt32)))) else none) else none)
def ff_X2_bitsOf_c7 (N : Nat) (k7 : (UInt32 × Int32 × Int32) → Option Int32) (x1 : UInt32) (x2 : Int32) (x3 : Int32) : Option Int32 :=
  (if (127 : Int32) ≤ x3 then ff_X2_bitsOf_b32 N x1 x2 else (if 0 ≤ (Op.cmpValue (FP.fcmp x1 FP.fconst1) CmpOp.g) then ff_X2_bitsOf_b32 N x1 x2 else (if os_nn (FP.fmul x1 FP.fconst2) then k7 (FP.fmul x1 FP.fconst2, x2 + (-1), x3 + 1) else none)))
def ff_X2_bitsOf_l7 (N : Nat) : Nat → (UInt32 × Int32 × Int32) → Option Int32 := os_loop (fun k7 s1 => ff_X2_bitsOf_c7 N k7 s1.1 s1.2.1 s1.2.2)
def ff_X2_bitsOf (N : Nat) (a0 : UInt32) : Option Int32 :=
  ff_X2_bitsOf_l7 N N (a0, (127 : Int32), (0 : Int32))
set_option maxHeartbeats 4000000 in
set_option maxRecDepth 100000 in
theorem mm_X2_bitsOf (l : Launch) (D : va_G) (kA : Nat → ClassId) (N : Nat) (a0 : UInt32) (out : Int32) (hf : ff_X2_bitsOf N a0 = some out) : mc_C l D kA yX2_bitsOf wsX2_bitsOf ({ frames := 0, cells := 0, slots := 0, locals := 0 } : Room) [.float a0] [] (some (.int out)) [] := by
  refine mc_of (cc := cX2_bitsOf) (maxL := 4) (ret := (some .int)) (by decide) rfl (Nat.le_of_ble_eq_true rfl) ?_
  intro p e s m below meth c A B hD hP hS ls hl
  obtain ⟨hx, hb, hr, hlk, hml, hown, hts, hK, hA, hnm⟩ := B
  have hown : s.vm.findClass RX2 = some m.cls := hown
  have hl : lv_has ls 4 [(0, .float a0)] := hl
  have hB32 : ∀ (x1 : UInt32) (x2 : Int32) (H : Heap) (locs : List Loc) (ls : Array Slot), va_P D vwCl [] H → va_D A [] → va_S A s.heap H locs → lv_has ls 4 [(1, .float x1), (2, .int x2)] → ff_X2_bitsOf_b32 N x1 x2 = some out → W p l e ({ frames := 0, cells := 0, slots := 0, locals := 0 } : Room) s m [.float a0].toArray below meth c H locs 0 0 (MQ below (mc_Q D kA A (some (.int out)) []) [.float a0].toArray s 0 0 A) (F0 m 32 ls []) := by
    intro x1 x2 H locs ls hP hD hS hl hf
    unfold ff_X2_bitsOf_b32 at hf
    refine lv_iload_n hx hb dX2_bitsOf_32 rfl (lv_at hl 1 rfl) ?_
    refine lv_bipush (v := 23) hx hb dX2_bitsOf_33 (by decide) ?_
    refine lv_ishl hx hb dX2_bitsOf_35 ?_
    refine lv_fload_n hx hb dX2_bitsOf_36 rfl (lv_at hl 0 rfl) ?_
    refine lv_fconst1 hx hb dX2_bitsOf_37 ?_
    obtain ⟨hn_4, hf⟩ := os_if hf
    refine lv_fsub hx hb dX2_bitsOf_38 hn_4 ?_
    refine lv_ldcf hx hb hown (hts (Cond.constantFloat RX2 45 (1258291200)) (List.mem_of_getElem? (i := 1) rfl)) dX2_bitsOf_39 ?_
    obtain ⟨hn_5, hf⟩ := os_if hf
    refine lv_fmul hx hb dX2_bitsOf_41 hn_5 ?_
    refine lv_f2i hx hb dX2_bitsOf_42 ?_
    refine lv_iadd hx hb dX2_bitsOf_43 ?_
    rw [← Option.some.inj hf]
    exact mc_reti hx hb hr hlk hP hK hD hS dX2_bitsOf_44
  have hL7 : ∀ (n : Nat) (x1 : UInt32) (x2 : Int32) (x3 : Int32) (H : Heap) (locs : List Loc) (ls : Array Slot), va_P D vwCl [] H → va_D A [] → va_S A s.heap H locs → lv_has ls 4 [(1, .float x1), (2, .int x2), (3, .int x3)] → ff_X2_bitsOf_l7 N n (x1, x2, x3) = some out → W p l e ({ frames := 0, cells := 0, slots := 0, locals := 0 } : Room) s m [.float a0].toArray below meth c H locs 0 0 (MQ below (mc_Q D kA A (some (.int out)) []) [.float a0].toArray s 0 0 A) (F0 m 7 ls []) := by
    intro n
    induction n with
    | zero => intro x1 x2 x3 H locs ls _ _ _ _ hf; cases hf
    | succ n hk7 =>
      intro x1 x2 x3 H locs ls hP hD hS hl hf
      have hf : ff_X2_bitsOf_c7 N (ff_X2_bitsOf_l7 N n) x1 x2 x3 = some out := hf
      generalize hke : ff_X2_bitsOf_l7 N n = k7 at hk7 hf
      unfold ff_X2_bitsOf_c7 at hf
      refine lv_iload_n hx hb dX2_bitsOf_7 rfl (lv_at hl 2 rfl) ?_
      refine lv_bipush (v := 127) hx hb dX2_bitsOf_8 (by decide) ?_
      refine lv_icmp_ge (tgt := 32) hx hb dX2_bitsOf_10 (by decide) (fun hc_1 => ?_) (fun hc_1 => ?_)
      · rw [if_pos hc_1] at hf
        exact hB32 x1 x2 _ _ _ hP hD hS (lv_sub hl [0, 1] rfl) hf
      · rw [if_neg hc_1] at hf
        refine lv_fload_n hx hb dX2_bitsOf_13 rfl (lv_at hl 0 rfl) ?_
        refine lv_fconst1 hx hb dX2_bitsOf_14 ?_
        refine lv_fcmp hx hb dX2_bitsOf_15 ?_
        refine lv_if_ge (tgt := 32) hx hb dX2_bitsOf_16 (by decide) (fun hc_2 => ?_) (fun hc_2 => ?_)
        · rw [if_pos hc_2] at hf
          exact hB32 x1 x2 _ _ _ hP hD hS (lv_sub hl [0, 1] rfl) hf
        · rw [if_neg hc_2] at hf
          refine lv_fload_n hx hb dX2_bitsOf_19 rfl (lv_at hl 0 rfl) ?_
          refine lv_fconst2 hx hb dX2_bitsOf_20 ?_
          obtain ⟨hn_3, hf⟩ := os_if hf
          refine lv_fmul hx hb dX2_bitsOf_21 hn_3 ?_
          refine lv_fstore_n (lv' := [(1, .float (FP.fmul x1 FP.fconst2)), (2, .int x2), (3, .int x3)]) hx hb dX2_bitsOf_22 rfl hl (by decide) rfl (fun ls hl => ?_)
          refine lv_iinc (v := x2 + (-1)) (lv' := [(2, .int (x2 + (-1))), (1, .float (FP.fmul x1 FP.fconst2)), (3, .int x3)]) hx hb dX2_bitsOf_23 hl (k := 1) rfl rfl (by decide) rfl (fun ls hl => ?_)
          refine lv_iinc (v := x3 + 1) (lv' := [(3, .int (x3 + 1)), (2, .int (x2 + (-1))), (1, .float (FP.fmul x1 FP.fconst2))]) hx hb dX2_bitsOf_26 hl (k := 2) rfl rfl (by decide) rfl (fun ls hl => ?_)
          refine lv_goto (tgt := 7) hx hb dX2_bitsOf_29 (by decide) ?_
          exact hk7 (FP.fmul x1 FP.fconst2) (x2 + (-1)) (x3 + 1) _ _ _ hP hD hS (lv_sub hl [2, 1, 0] rfl) hf
  unfold ff_X2_bitsOf at hf
  refine lv_fload_n hx hb dX2_bitsOf_0 rfl (lv_at hl 0 rfl) ?_
  refine lv_fstore_n (lv' := [(1, .float a0), (0, .float a0)]) hx hb dX2_bitsOf_1 rfl hl (by decide) rfl (fun ls hl => ?_)
  refine lv_bipush (v := 127) hx hb dX2_bitsOf_2 (by decide) ?_
  refine lv_istore_n (lv' := [(2, .int (127 : Int32)), (1, .float a0), (0, .float a0)]) hx hb dX2_bitsOf_4 rfl hl (by decide) rfl (fun ls hl => ?_)
  refine lv_iconst (v := 0) hx hb dX2_bitsOf_5 (by decide) ?_
  refine lv_istore_n (lv' := [(3, .int (0 : Int32)), (2, .int (127 : Int32)), (1, .float a0), (0, .float a0)]) hx hb dX2_bitsOf_6 rfl hl (by decide) rfl (fun ls hl => ?_)
  exact hL7 N a0 (127 : Int32) (0 : Int32) _ _ _ hP hD hS (lv_sub hl [2, 1, 0] rfl) hf
def ff_X2_hash_c15 (N : Nat) (o_p0 : os_T) (k5 : (Int32 × Int32) → Option Int32) (k15 : (Int32 × Int32 × Int32) → Option Int32) (x1 : Int32) (x2 : Int32) (x3 : Int32) : Option Int32 :=
  (if (os_I o_p0 0) ≤ x3 then k5 (x1, x2 + 1) else ((ff_X2_glowAt N o_p0 x3 x2).bind fun u_3 => ((ff_X2_bitsOf N u_3).bind fun u_5 => k15 ((x1 * (31 : Int32)) + u_5, x2, x3 + 1))))
def ff_X2_hash_l15 (N : Nat) (o_p0 : os_T) (k5 : (Int32 × Int32) → Option Int32) : Nat → (Int32 × Int32 × Int32) → Option Int32 := os_loop (fun k15 s1 => ff_X2_hash_c15 N o_p0 k5 k15 s1.1 s1.2.1 s1.2.2)
def ff_X2_hash_c5 (N : Nat) (o_p0 : os_T) (k5 : (Int32 × Int32) → Option Int32) (x1 : Int32) (x2 : Int32) : Option Int32 :=
  (if (os_I o_p0 1) ≤ x2 then some x1 else ff_X2_hash_l15 N o_p0 k5 N (x1, x2, (0 : Int32)))
def ff_X2_hash_l5 (N : Nat) (o_p0 : os_T) : Nat → (Int32 × Int32) → Option Int32 := os_loop (fun k5 s1 => ff_X2_hash_c5 N o_p0 k5 s1.1 s1.2)
def ff_X2_hash (N : Nat) (o_p0 : os_T) : Option Int32 :=
  ff_X2_hash_l5 N o_p0 N ((17 : Int32), (0 : Int32))
set_option maxHeartbeats 4000000 in
set_option maxRecDepth 100000 in
theorem mm_X2_hash (l : Launch) (D : va_G) (kA : Nat → ClassId) (N : Nat) (q_p0 : Nat → Nat) (o_p0 : os_T) (out : Int32) (hf : ff_X2_hash N o_p0 = some out) : mc_C l D kA yX2_hash wsX2_hash ({ frames := 2, cells := 0, slots := 0, locals := 48 } : Room) [.ref (q_p0 0)] (ce_X5 kA q_p0 o_p0) (some (.int out)) (ce_X5 kA q_p0 o_p0) := by
  refine mc_of (cc := cX2_hash) (maxL := 4) (ret := (some .int)) (by decide) rfl (Nat.le_of_ble_eq_true rfl) ?_
  intro p e s m below meth c A B hD hP hS ls hl
  obtain ⟨hx, hb, hr, hlk, hml, hown, hts, hK, hA, hnm⟩ := B
  have hown : s.vm.findClass RX2 = some m.cls := hown
  have hl : lv_has ls 4 [(0, .ref (q_p0 0))] := hl
  have hUX5 : ∀ w ∈ u_ws RX5 TX5 10, w.before [.ref (q_p0 0)].toArray s = true := fun w h => hts w (List.mem_cons_of_mem _ (List.mem_append_right _ h))
  have hL15 : ∀ (k5 : (Int32 × Int32) → Option Int32), (∀ (x1 : Int32) (x2 : Int32) (H : Heap) (locs : List Loc) (ls : Array Slot), va_P D vwCl (ce_X5 kA q_p0 o_p0) H → va_D A (ce_X5 kA q_p0 o_p0) → va_S A s.heap H locs → lv_has ls 4 [(0, .ref (q_p0 0)), (1, .int x1), (2, .int x2)] → k5 (x1, x2) = some out → W p l e ({ frames := 2, cells := 0, slots := 0, locals := 48 } : Room) s m [.ref (q_p0 0)].toArray below meth c H locs 0 0 (MQ below (mc_Q D kA A (some (.int out)) (ce_X5 kA q_p0 o_p0)) [.ref (q_p0 0)].toArray s 0 0 A) (F0 m 5 ls [])) → ∀ (n : Nat) (x1 : Int32) (x2 : Int32) (x3 : Int32) (H : Heap) (locs : List Loc) (ls : Array Slot), va_P D vwCl (ce_X5 kA q_p0 o_p0) H → va_D A (ce_X5 kA q_p0 o_p0) → va_S A s.heap H locs → lv_has ls 4 [(0, .ref (q_p0 0)), (1, .int x1), (2, .int x2), (3, .int x3)] → ff_X2_hash_l15 N o_p0 k5 n (x1, x2, x3) = some out → W p l e ({ frames := 2, cells := 0, slots := 0, locals := 48 } : Room) s m [.ref (q_p0 0)].toArray below meth c H locs 0 0 (MQ below (mc_Q D kA A (some (.int out)) (ce_X5 kA q_p0 o_p0)) [.ref (q_p0 0)].toArray s 0 0 A) (F0 m 15 ls []) := by
    intro k5 hk5 n
    induction n with
    | zero => intro x1 x2 x3 H locs ls _ _ _ _ hf; cases hf
    | succ n hk15 =>
      intro x1 x2 x3 H locs ls hP hD hS hl hf
      have hf : ff_X2_hash_c15 N o_p0 k5 (ff_X2_hash_l15 N o_p0 k5 n) x1 x2 x3 = some out := hf
      generalize hke : ff_X2_hash_l15 N o_p0 k5 n = k15 at hk15 hf
      unfold ff_X2_hash_c15 at hf
      refine lv_iload_n hx hb dX2_hash_15 rfl (lv_at hl 3 rfl) ?_
      refine lv_aload_n hx hb dX2_hash_16 rfl (lv_at hl 0 rfl) ?_
      refine va_get (D := D) (ci := 4) (v := .int (os_I o_p0 0)) (C := RX5) (T := TX5) (N := 10) hx hb hUX5 (fun _ h9 => h9) hown hK hP 0 rfl rfl 0 (by decide) (hts (Cond.fieldLink RX2 35 "ReliefBuilder$Panel" "width" "I") (List.mem_of_getElem? (i := 2) rfl)) (fun _ h9 => h9) rfl dX2_hash_17 ?_
      refine lv_icmp_ge (tgt := 44) hx hb dX2_hash_20 (by decide) (fun hc_2 => ?_) (fun hc_2 => ?_)
      · rw [if_pos hc_2] at hf
        refine lv_iinc (v := x2 + 1) (lv' := [(2, .int (x2 + 1)), (0, .ref (q_p0 0)), (1, .int x1), (3, .int x3)]) hx hb dX2_hash_44 hl (k := 2) rfl rfl (by decide) rfl (fun ls hl => ?_)
        refine lv_goto (tgt := 5) hx hb dX2_hash_47 (by decide) ?_
        exact hk5 x1 (x2 + 1) _ _ _ hP hD hS (lv_sub hl [1, 2, 0] rfl) hf
      · rw [if_neg hc_2] at hf
        refine lv_iload_n hx hb dX2_hash_23 rfl (lv_at hl 1 rfl) ?_
        refine lv_bipush (v := 31) hx hb dX2_hash_24 (by decide) ?_
        refine lv_imul hx hb dX2_hash_26 ?_
        refine lv_aload_n hx hb dX2_hash_27 rfl (lv_at hl 0 rfl) ?_
        refine lv_iload_n hx hb dX2_hash_28 rfl (lv_at hl 3 rfl) ?_
        refine lv_iload_n hx hb dX2_hash_29 rfl (lv_at hl 2 rfl) ?_
        obtain ⟨u_3, he_4, hf⟩ := os_bd hf
        refine mc_callS ⟨hx, hb, hml, hown, hts⟩ (mm_X2_glowAt l D kA N q_p0 o_p0 x3 x2 u_3 he_4) (va_cwS 3 hts gX2_hash_X2_glowAt rfl rfl rfl (by decide +kernel) ⟨Nat.le_of_ble_eq_true rfl, Nat.le_of_ble_eq_true rfl⟩) (wc := (ce_X5 kA q_p0 o_p0)) rfl hl.1 (As := [.ref (q_p0 0), .int x3, .int x2]) (rest := [.int (x1 * (31 : Int32))]) rfl (Nat.le_of_ble_eq_true rfl) dX2_hash_30 ⟨Nat.le_of_ble_eq_true rfl, Nat.le_of_ble_eq_true rfl⟩ hK hP hD hS hA [0, 1, 2, 3] [] [0, 1, 2, 3] rfl (by decide) rfl (by decide) (by decide) rfl (by decide) (wr := []) (w2 := (ce_X5 kA q_p0 o_p0)) (fun H locs hP hD hS => ?_)
        have hP : va_P D vwCl (ce_X5 kA q_p0 o_p0) H := hP
        obtain ⟨u_5, he_6, hf⟩ := os_bd hf
        refine mc_callS ⟨hx, hb, hml, hown, hts⟩ (mm_X2_bitsOf l D kA N u_3 u_5 he_6) (va_cwS 1 hts gX2_hash_X2_bitsOf rfl rfl rfl (by decide +kernel) ⟨Nat.le_of_ble_eq_true rfl, Nat.le_of_ble_eq_true rfl⟩) (wc := []) rfl hl.1 (As := [.float u_3]) (rest := [.int (x1 * (31 : Int32))]) rfl (Nat.le_of_ble_eq_true rfl) dX2_hash_33 ⟨Nat.le_of_ble_eq_true rfl, Nat.le_of_ble_eq_true rfl⟩ hK hP hD hS hA [] [0, 1, 2, 3] [0, 1, 2, 3] rfl (by decide) rfl (by decide) (by decide) rfl (by decide) (wr := (ce_X5 kA q_p0 o_p0)) (w2 := (ce_X5 kA q_p0 o_p0)) (fun H locs hP hD hS => ?_)
        have hP : va_P D vwCl (ce_X5 kA q_p0 o_p0) H := hP
        refine lv_iadd hx hb dX2_hash_36 ?_
        refine lv_istore_n (lv' := [(1, .int ((x1 * (31 : Int32)) + u_5)), (0, .ref (q_p0 0)), (2, .int x2), (3, .int x3)]) hx hb dX2_hash_37 rfl hl (by decide) rfl (fun ls hl => ?_)
        refine lv_iinc (v := x3 + 1) (lv' := [(3, .int (x3 + 1)), (1, .int ((x1 * (31 : Int32)) + u_5)), (0, .ref (q_p0 0)), (2, .int x2)]) hx hb dX2_hash_38 hl (k := 3) rfl rfl (by decide) rfl (fun ls hl => ?_)
        refine lv_goto (tgt := 15) hx hb dX2_hash_41 (by decide) ?_
        exact hk15 ((x1 * (31 : Int32)) + u_5) x2 (x3 + 1) _ _ _ hP hD hS (lv_sub hl [2, 1, 3, 0] rfl) hf
  have hL5 : ∀ (n : Nat) (x1 : Int32) (x2 : Int32) (H : Heap) (locs : List Loc) (ls : Array Slot), va_P D vwCl (ce_X5 kA q_p0 o_p0) H → va_D A (ce_X5 kA q_p0 o_p0) → va_S A s.heap H locs → lv_has ls 4 [(0, .ref (q_p0 0)), (1, .int x1), (2, .int x2)] → ff_X2_hash_l5 N o_p0 n (x1, x2) = some out → W p l e ({ frames := 2, cells := 0, slots := 0, locals := 48 } : Room) s m [.ref (q_p0 0)].toArray below meth c H locs 0 0 (MQ below (mc_Q D kA A (some (.int out)) (ce_X5 kA q_p0 o_p0)) [.ref (q_p0 0)].toArray s 0 0 A) (F0 m 5 ls []) := by
    intro n
    induction n with
    | zero => intro x1 x2 H locs ls _ _ _ _ hf; cases hf
    | succ n hk5 =>
      intro x1 x2 H locs ls hP hD hS hl hf
      have hf : ff_X2_hash_c5 N o_p0 (ff_X2_hash_l5 N o_p0 n) x1 x2 = some out := hf
      generalize hke : ff_X2_hash_l5 N o_p0 n = k5 at hk5 hf
      unfold ff_X2_hash_c5 at hf
      refine lv_iload_n hx hb dX2_hash_5 rfl (lv_at hl 2 rfl) ?_
      refine lv_aload_n hx hb dX2_hash_6 rfl (lv_at hl 0 rfl) ?_
      refine va_get (D := D) (ci := 4) (v := .int (os_I o_p0 1)) (C := RX5) (T := TX5) (N := 10) hx hb hUX5 (fun _ h9 => h9) hown hK hP 0 rfl rfl 1 (by decide) (hts (Cond.fieldLink RX2 31 "ReliefBuilder$Panel" "rows" "I") (List.mem_of_getElem? (i := 1) rfl)) (fun _ h9 => h9) rfl dX2_hash_7 ?_
      refine lv_icmp_ge (tgt := 50) hx hb dX2_hash_10 (by decide) (fun hc_1 => ?_) (fun hc_1 => ?_)
      · rw [if_pos hc_1] at hf
        refine lv_iload_n hx hb dX2_hash_50 rfl (lv_at hl 1 rfl) ?_
        rw [← Option.some.inj hf]
        exact mc_reti hx hb hr hlk hP hK hD hS dX2_hash_51
      · rw [if_neg hc_1] at hf
        refine lv_iconst (v := 0) hx hb dX2_hash_13 (by decide) ?_
        refine lv_istore_n (lv' := [(3, .int (0 : Int32)), (0, .ref (q_p0 0)), (1, .int x1), (2, .int x2)]) hx hb dX2_hash_14 rfl hl (by decide) rfl (fun ls hl => ?_)
        exact hL15 k5 hk5 N x1 x2 (0 : Int32) _ _ _ hP hD hS (lv_sub hl [1, 2, 3, 0] rfl) hf
  unfold ff_X2_hash at hf
  refine lv_bipush (v := 17) hx hb dX2_hash_0 (by decide) ?_
  refine lv_istore_n (lv' := [(1, .int (17 : Int32)), (0, .ref (q_p0 0))]) hx hb dX2_hash_2 rfl hl (by decide) rfl (fun ls hl => ?_)
  refine lv_iconst (v := 0) hx hb dX2_hash_3 (by decide) ?_
  refine lv_istore_n (lv' := [(2, .int (0 : Int32)), (1, .int (17 : Int32)), (0, .ref (q_p0 0))]) hx hb dX2_hash_4 rfl hl (by decide) rfl (fun ls hl => ?_)
  exact hL5 N (17 : Int32) (0 : Int32) _ _ _ hP hD hS (lv_sub hl [2, 1, 0] rfl) hf
def ff_X2_spread_c17 (N : Nat) (k4 : (os_T × Int32 × Int32) → Option (Int32 × os_T)) (k17 : (os_T × Int32 × Int32 × UInt32 × Int32) → Option (Int32 × os_T)) (o_p0 : os_T) (x1 : Int32) (x2 : Int32) (x3 : UInt32) (x4 : Int32) : Option (Int32 × os_T) :=
  (if (os_I o_p0 0) ≤ x4 then k4 (o_p0, x1, x2 + 1) else ((ff_X5_wishAt N o_p0 x4 x2).bind fun u_3 => (if os_nn (FP.fadd u_3 x3) then ((ff_X5_stepFor N o_p0 (FP.fadd u_3 x3)).bind fun u_6 => ((ff_X5_build N o_p0 x4 x2 u_6).bind fun u_8 => ((ff_X5_lightOf N u_8.2 u_6).bind fun u_10 => (if os_nn (FP.fsub (FP.fadd u_3 x3) u_10) then k17 (u_8.2, x1 + u_8.1, x2, FP.fsub (FP.fadd u_3 x3) u_10, x4 + 1) else none)))) else none)))
def ff_X2_spread_l17 (N : Nat) (k4 : (os_T × Int32 × Int32) → Option (Int32 × os_T)) : Nat → (os_T × Int32 × Int32 × UInt32 × Int32) → Option (Int32 × os_T) := os_loop (fun k17 s1 => ff_X2_spread_c17 N k4 k17 s1.1 s1.2.1 s1.2.2.1 s1.2.2.2.1 s1.2.2.2.2)
def ff_X2_spread_c4 (N : Nat) (k4 : (os_T × Int32 × Int32) → Option (Int32 × os_T)) (o_p0 : os_T) (x1 : Int32) (x2 : Int32) : Option (Int32 × os_T) :=
  (if (os_I o_p0 1) ≤ x2 then some (x1, o_p0) else ff_X2_spread_l17 N k4 N (o_p0, x1, x2, FP.fconst0, (0 : Int32)))
def ff_X2_spread_l4 (N : Nat) : Nat → (os_T × Int32 × Int32) → Option (Int32 × os_T) := os_loop (fun k4 s1 => ff_X2_spread_c4 N k4 s1.1 s1.2.1 s1.2.2)
def ff_X2_spread (N : Nat) (o_p0 : os_T) : Option (Int32 × os_T) :=
  ff_X2_spread_l4 N N (o_p0, (0 : Int32), (0 : Int32))
set_option maxHeartbeats 4000000 in
set_option maxRecDepth 100000 in
theorem mm_X2_spread (l : Launch) (D : va_G) (kA : Nat → ClassId) (N : Nat) (q_p0 : Nat → Nat) (o_p0 : os_T) (out : (Int32 × os_T)) (hf : ff_X2_spread N o_p0 = some out) : mc_C l D kA yX2_spread wsX2_spread ({ frames := 2, cells := 0, slots := 0, locals := 46 } : Room) [.ref (q_p0 0)] (ce_X5 kA q_p0 o_p0) (some (.int out.1)) (ce_X5 kA q_p0 out.2) := by
  refine mc_of (cc := cX2_spread) (maxL := 7) (ret := (some .int)) (by decide) rfl (Nat.le_of_ble_eq_true rfl) ?_
  intro p e s m below meth c A B hD hP hS ls hl
  obtain ⟨hx, hb, hr, hlk, hml, hown, hts, hK, hA, hnm⟩ := B
  have hown : s.vm.findClass RX2 = some m.cls := hown
  have hl : lv_has ls 7 [(0, .ref (q_p0 0))] := hl
  have hUX5 : ∀ w ∈ u_ws RX5 TX5 10, w.before [.ref (q_p0 0)].toArray s = true := fun w h => hts w (List.mem_cons_of_mem _ (List.mem_append_right _ h))
  have hL17 : ∀ (k4 : (os_T × Int32 × Int32) → Option (Int32 × os_T)), (∀ (o_p0 : os_T) (x1 : Int32) (x2 : Int32) (H : Heap) (locs : List Loc) (ls : Array Slot), va_P D vwCl (ce_X5 kA q_p0 o_p0) H → va_D A (ce_X5 kA q_p0 o_p0) → va_S A s.heap H locs → lv_has ls 7 [(0, .ref (q_p0 0)), (1, .int x1), (2, .int x2)] → k4 (o_p0, x1, x2) = some out → W p l e ({ frames := 2, cells := 0, slots := 0, locals := 46 } : Room) s m [.ref (q_p0 0)].toArray below meth c H locs 0 0 (MQ below (mc_Q D kA A (some (.int out.1)) (ce_X5 kA q_p0 out.2)) [.ref (q_p0 0)].toArray s 0 0 A) (F0 m 4 ls [])) → ∀ (n : Nat) (o_p0 : os_T) (x1 : Int32) (x2 : Int32) (x3 : UInt32) (x4 : Int32) (H : Heap) (locs : List Loc) (ls : Array Slot), va_P D vwCl (ce_X5 kA q_p0 o_p0) H → va_D A (ce_X5 kA q_p0 o_p0) → va_S A s.heap H locs → lv_has ls 7 [(0, .ref (q_p0 0)), (1, .int x1), (2, .int x2), (3, .float x3), (4, .int x4)] → ff_X2_spread_l17 N k4 n (o_p0, x1, x2, x3, x4) = some out → W p l e ({ frames := 2, cells := 0, slots := 0, locals := 46 } : Room) s m [.ref (q_p0 0)].toArray below meth c H locs 0 0 (MQ below (mc_Q D kA A (some (.int out.1)) (ce_X5 kA q_p0 out.2)) [.ref (q_p0 0)].toArray s 0 0 A) (F0 m 17 ls []) := by
    intro k4 hk4 n
    induction n with
    | zero => intro o_p0 x1 x2 x3 x4 H locs ls _ _ _ _ hf; cases hf
    | succ n hk17 =>
      intro o_p0 x1 x2 x3 x4 H locs ls hP hD hS hl hf
      have hf : ff_X2_spread_c17 N k4 (ff_X2_spread_l17 N k4 n) o_p0 x1 x2 x3 x4 = some out := hf
      generalize hke : ff_X2_spread_l17 N k4 n = k17 at hk17 hf
      unfold ff_X2_spread_c17 at hf
      refine lv_iload hx hb dX2_spread_17 (lv_at hl 4 rfl) ?_
      refine lv_aload_n hx hb dX2_spread_19 rfl (lv_at hl 0 rfl) ?_
      refine va_get (D := D) (ci := 4) (v := .int (os_I o_p0 0)) (C := RX5) (T := TX5) (N := 10) hx hb hUX5 (fun _ h9 => h9) hown hK hP 0 rfl rfl 0 (by decide) (hts (Cond.fieldLink RX2 35 "ReliefBuilder$Panel" "width" "I") (List.mem_of_getElem? (i := 2) rfl)) (fun _ h9 => h9) rfl dX2_spread_20 ?_
      refine lv_icmp_ge (tgt := 73) hx hb dX2_spread_23 (by decide) (fun hc_2 => ?_) (fun hc_2 => ?_)
      · rw [if_pos hc_2] at hf
        refine lv_iinc (v := x2 + 1) (lv' := [(2, .int (x2 + 1)), (0, .ref (q_p0 0)), (1, .int x1), (3, .float x3), (4, .int x4)]) hx hb dX2_spread_73 hl (k := 2) rfl rfl (by decide) rfl (fun ls hl => ?_)
        refine lv_goto (tgt := 4) hx hb dX2_spread_76 (by decide) ?_
        exact hk4 o_p0 x1 (x2 + 1) _ _ _ hP hD hS (lv_sub hl [1, 2, 0] rfl) hf
      · rw [if_neg hc_2] at hf
        refine lv_aload_n hx hb dX2_spread_26 rfl (lv_at hl 0 rfl) ?_
        refine lv_iload hx hb dX2_spread_27 (lv_at hl 4 rfl) ?_
        refine lv_iload_n hx hb dX2_spread_29 rfl (lv_at hl 2 rfl) ?_
        obtain ⟨u_3, he_4, hf⟩ := os_bd hf
        refine mc_callV ⟨hx, hb, hml, hown, hts⟩ (mm_X5_wishAt l D kA N q_p0 o_p0 x4 x2 u_3 he_4) (cwV 2 hts gX2_spread_X5_wishAt rfl rfl rfl (by decide +kernel) ⟨Nat.le_of_ble_eq_true rfl, Nat.le_of_ble_eq_true rfl⟩) (wc := (ce_X5 kA q_p0 o_p0)) (ci := 4) (q0 := 0) rfl rfl rfl hl.1 (As := [.int x4, .int x2]) (rest := []) rfl (Nat.le_of_ble_eq_true rfl) dX2_spread_30 ⟨Nat.le_of_ble_eq_true rfl, Nat.le_of_ble_eq_true rfl⟩ hK hP hD hS hA [0, 1, 2, 3] [] [0, 1, 2, 3] rfl (by decide) rfl (by decide) (by decide) rfl (by decide) (wr := []) (w2 := (ce_X5 kA q_p0 o_p0)) (fun H locs hP hD hS => ?_)
        have hP : va_P D vwCl (ce_X5 kA q_p0 o_p0) H := hP
        refine lv_fload_n hx hb dX2_spread_33 rfl (lv_at hl 3 rfl) ?_
        obtain ⟨hn_5, hf⟩ := os_if hf
        refine lv_fadd hx hb dX2_spread_34 hn_5 ?_
        refine lv_fstore (lv' := [(5, .float (FP.fadd u_3 x3)), (0, .ref (q_p0 0)), (1, .int x1), (2, .int x2), (3, .float x3), (4, .int x4)]) hx hb dX2_spread_35 hl (by decide) rfl (fun ls hl => ?_)
        refine lv_aload_n hx hb dX2_spread_37 rfl (lv_at hl 1 rfl) ?_
        refine lv_fload hx hb dX2_spread_38 (lv_at hl 0 rfl) ?_
        obtain ⟨u_6, he_7, hf⟩ := os_bd hf
        refine mc_callV ⟨hx, hb, hml, hown, hts⟩ (mm_X5_stepFor l D kA N q_p0 o_p0 (FP.fadd u_3 x3) u_6 he_7) (cwV 1 hts gX2_spread_X5_stepFor rfl rfl rfl (by decide +kernel) ⟨Nat.le_of_ble_eq_true rfl, Nat.le_of_ble_eq_true rfl⟩) (wc := (ce_X5 kA q_p0 o_p0)) (ci := 4) (q0 := 0) rfl rfl rfl hl.1 (As := [.float (FP.fadd u_3 x3)]) (rest := []) rfl (Nat.le_of_ble_eq_true rfl) dX2_spread_40 ⟨Nat.le_of_ble_eq_true rfl, Nat.le_of_ble_eq_true rfl⟩ hK hP hD hS hA [0, 1, 2, 3] [] [0, 1, 2, 3] rfl (by decide) rfl (by decide) (by decide) rfl (by decide) (wr := []) (w2 := (ce_X5 kA q_p0 o_p0)) (fun H locs hP hD hS => ?_)
        have hP : va_P D vwCl (ce_X5 kA q_p0 o_p0) H := hP
        refine lv_istore (lv' := [(6, .int u_6), (5, .float (FP.fadd u_3 x3)), (0, .ref (q_p0 0)), (1, .int x1), (2, .int x2), (3, .float x3), (4, .int x4)]) hx hb dX2_spread_43 hl (by decide) rfl (fun ls hl => ?_)
        refine lv_iload_n hx hb dX2_spread_45 rfl (lv_at hl 3 rfl) ?_
        refine lv_aload_n hx hb dX2_spread_46 rfl (lv_at hl 2 rfl) ?_
        refine lv_iload hx hb dX2_spread_47 (lv_at hl 6 rfl) ?_
        refine lv_iload_n hx hb dX2_spread_49 rfl (lv_at hl 4 rfl) ?_
        refine lv_iload hx hb dX2_spread_50 (lv_at hl 0 rfl) ?_
        obtain ⟨u_8, he_9, hf⟩ := os_bd hf
        refine mc_callV ⟨hx, hb, hml, hown, hts⟩ (mm_X5_build l D kA N q_p0 o_p0 x4 x2 u_6 u_8 he_9) (cwV 3 hts gX2_spread_X5_build rfl rfl rfl (by decide +kernel) ⟨Nat.le_of_ble_eq_true rfl, Nat.le_of_ble_eq_true rfl⟩) (wc := (ce_X5 kA q_p0 o_p0)) (ci := 4) (q0 := 0) rfl rfl rfl hl.1 (As := [.int x4, .int x2, .int u_6]) (rest := [.int x1]) rfl (Nat.le_of_ble_eq_true rfl) dX2_spread_52 ⟨Nat.le_of_ble_eq_true rfl, Nat.le_of_ble_eq_true rfl⟩ hK hP hD hS hA [0, 1, 2, 3] [] [0, 1, 2, 3] rfl (by decide) rfl (by decide) (by decide) rfl (by decide) (wr := []) (w2 := (ce_X5 kA q_p0 u_8.2)) (fun H locs hP hD hS => ?_)
        have hP : va_P D vwCl (ce_X5 kA q_p0 u_8.2) H := hP
        refine lv_iadd hx hb dX2_spread_55 ?_
        refine lv_istore_n (lv' := [(1, .int (x1 + u_8.1)), (6, .int u_6), (5, .float (FP.fadd u_3 x3)), (0, .ref (q_p0 0)), (2, .int x2), (3, .float x3), (4, .int x4)]) hx hb dX2_spread_56 rfl hl (by decide) rfl (fun ls hl => ?_)
        refine lv_fload hx hb dX2_spread_57 (lv_at hl 2 rfl) ?_
        refine lv_aload_n hx hb dX2_spread_59 rfl (lv_at hl 3 rfl) ?_
        refine lv_iload hx hb dX2_spread_60 (lv_at hl 1 rfl) ?_
        obtain ⟨u_10, he_11, hf⟩ := os_bd hf
        refine mc_callV ⟨hx, hb, hml, hown, hts⟩ (mm_X5_lightOf l D kA N q_p0 u_8.2 u_6 u_10 he_11) (cwV 1 hts gX2_spread_X5_lightOf rfl rfl rfl (by decide +kernel) ⟨Nat.le_of_ble_eq_true rfl, Nat.le_of_ble_eq_true rfl⟩) (wc := (ce_X5 kA q_p0 u_8.2)) (ci := 4) (q0 := 0) rfl rfl rfl hl.1 (As := [.int u_6]) (rest := [.float (FP.fadd u_3 x3)]) rfl (Nat.le_of_ble_eq_true rfl) dX2_spread_62 ⟨Nat.le_of_ble_eq_true rfl, Nat.le_of_ble_eq_true rfl⟩ hK hP hD hS hA [0, 1, 2, 3] [] [0, 1, 2, 3] rfl (by decide) rfl (by decide) (by decide) rfl (by decide) (wr := []) (w2 := (ce_X5 kA q_p0 u_8.2)) (fun H locs hP hD hS => ?_)
        have hP : va_P D vwCl (ce_X5 kA q_p0 u_8.2) H := hP
        obtain ⟨hn_12, hf⟩ := os_if hf
        refine lv_fsub hx hb dX2_spread_65 hn_12 ?_
        refine lv_fstore_n (lv' := [(3, .float (FP.fsub (FP.fadd u_3 x3) u_10)), (1, .int (x1 + u_8.1)), (6, .int u_6), (5, .float (FP.fadd u_3 x3)), (0, .ref (q_p0 0)), (2, .int x2), (4, .int x4)]) hx hb dX2_spread_66 rfl hl (by decide) rfl (fun ls hl => ?_)
        refine lv_iinc (v := x4 + 1) (lv' := [(4, .int (x4 + 1)), (3, .float (FP.fsub (FP.fadd u_3 x3) u_10)), (1, .int (x1 + u_8.1)), (6, .int u_6), (5, .float (FP.fadd u_3 x3)), (0, .ref (q_p0 0)), (2, .int x2)]) hx hb dX2_spread_67 hl (k := 6) rfl rfl (by decide) rfl (fun ls hl => ?_)
        refine lv_goto (tgt := 17) hx hb dX2_spread_70 (by decide) ?_
        exact hk17 u_8.2 (x1 + u_8.1) x2 (FP.fsub (FP.fadd u_3 x3) u_10) (x4 + 1) _ _ _ hP hD hS (lv_sub hl [5, 2, 6, 1, 0] rfl) hf
  have hL4 : ∀ (n : Nat) (o_p0 : os_T) (x1 : Int32) (x2 : Int32) (H : Heap) (locs : List Loc) (ls : Array Slot), va_P D vwCl (ce_X5 kA q_p0 o_p0) H → va_D A (ce_X5 kA q_p0 o_p0) → va_S A s.heap H locs → lv_has ls 7 [(0, .ref (q_p0 0)), (1, .int x1), (2, .int x2)] → ff_X2_spread_l4 N n (o_p0, x1, x2) = some out → W p l e ({ frames := 2, cells := 0, slots := 0, locals := 46 } : Room) s m [.ref (q_p0 0)].toArray below meth c H locs 0 0 (MQ below (mc_Q D kA A (some (.int out.1)) (ce_X5 kA q_p0 out.2)) [.ref (q_p0 0)].toArray s 0 0 A) (F0 m 4 ls []) := by
    intro n
    induction n with
    | zero => intro o_p0 x1 x2 H locs ls _ _ _ _ hf; cases hf
    | succ n hk4 =>
      intro o_p0 x1 x2 H locs ls hP hD hS hl hf
      have hf : ff_X2_spread_c4 N (ff_X2_spread_l4 N n) o_p0 x1 x2 = some out := hf
      generalize hke : ff_X2_spread_l4 N n = k4 at hk4 hf
      unfold ff_X2_spread_c4 at hf
      refine lv_iload_n hx hb dX2_spread_4 rfl (lv_at hl 2 rfl) ?_
      refine lv_aload_n hx hb dX2_spread_5 rfl (lv_at hl 0 rfl) ?_
      refine va_get (D := D) (ci := 4) (v := .int (os_I o_p0 1)) (C := RX5) (T := TX5) (N := 10) hx hb hUX5 (fun _ h9 => h9) hown hK hP 0 rfl rfl 1 (by decide) (hts (Cond.fieldLink RX2 31 "ReliefBuilder$Panel" "rows" "I") (List.mem_of_getElem? (i := 1) rfl)) (fun _ h9 => h9) rfl dX2_spread_6 ?_
      refine lv_icmp_ge (tgt := 79) hx hb dX2_spread_9 (by decide) (fun hc_1 => ?_) (fun hc_1 => ?_)
      · rw [if_pos hc_1] at hf
        refine lv_iload_n hx hb dX2_spread_79 rfl (lv_at hl 1 rfl) ?_
        rw [← Option.some.inj hf]
        exact mc_reti hx hb hr hlk hP hK hD hS dX2_spread_80
      · rw [if_neg hc_1] at hf
        refine lv_fconst0 hx hb dX2_spread_12 ?_
        refine lv_fstore_n (lv' := [(3, .float FP.fconst0), (0, .ref (q_p0 0)), (1, .int x1), (2, .int x2)]) hx hb dX2_spread_13 rfl hl (by decide) rfl (fun ls hl => ?_)
        refine lv_iconst (v := 0) hx hb dX2_spread_14 (by decide) ?_
        refine lv_istore (lv' := [(4, .int (0 : Int32)), (3, .float FP.fconst0), (0, .ref (q_p0 0)), (1, .int x1), (2, .int x2)]) hx hb dX2_spread_15 hl (by decide) rfl (fun ls hl => ?_)
        exact hL17 k4 hk4 N o_p0 x1 x2 FP.fconst0 (0 : Int32) _ _ _ hP hD hS (lv_sub hl [2, 3, 4, 1, 0] rfl) hf
  unfold ff_X2_spread at hf
  refine lv_iconst (v := 0) hx hb dX2_spread_0 (by decide) ?_
  refine lv_istore_n (lv' := [(1, .int (0 : Int32)), (0, .ref (q_p0 0))]) hx hb dX2_spread_1 rfl hl (by decide) rfl (fun ls hl => ?_)
  refine lv_iconst (v := 0) hx hb dX2_spread_2 (by decide) ?_
  refine lv_istore_n (lv' := [(2, .int (0 : Int32)), (1, .int (0 : Int32)), (0, .ref (q_p0 0))]) hx hb dX2_spread_3 rfl hl (by decide) rfl (fun ls hl => ?_)
  exact hL4 N o_p0 (0 : Int32) (0 : Int32) _ _ _ hP hD hS (lv_sub hl [2, 1, 0] rfl) hf
def ff_X2_refineCell_b147 (N : Nat) (k42 : (os_T × Int32 × Int32 × Int32 × Int32 × Int32 × Int32 × UInt32 × Int32) → Option (Int32 × os_T)) (o_p0 : os_T) (x1 : Int32) (x2 : Int32) (x3 : Int32) (x4 : Int32) (x5 : Int32) (x6 : Int32) (x7 : UInt32) (x8 : Int32) : Option (Int32 × os_T) :=
  k42 (o_p0, x1, x2, x3, x4, x5, x6, x7, x8 + 1)
def ff_X2_refineCell_b139 (N : Nat) (k42 : (os_T × Int32 × Int32 × Int32 × Int32 × Int32 × Int32 × UInt32 × Int32) → Option (Int32 × os_T)) (o_p0 : os_T) (x1 : Int32) (x2 : Int32) (x3 : Int32) (x4 : Int32) (x5 : Int32) (x8 : Int32) (x9 : UInt32) : Option (Int32 × os_T) :=
  ff_X2_refineCell_b147 N k42 o_p0 x1 x2 x3 x4 x5 x8 x9 x8
def ff_X2_refineCell_c42 (N : Nat) (k42 : (os_T × Int32 × Int32 × Int32 × Int32 × Int32 × Int32 × UInt32 × Int32) → Option (Int32 × os_T)) (o_p0 : os_T) (x1 : Int32) (x2 : Int32) (x3 : Int32) (x4 : Int32) (x5 : Int32) (x6 : Int32) (x7 : UInt32) (x8 : Int32) : Option (Int32 × os_T) :=
  (if x5 < x8 then ((ff_X5_build N o_p0 x1 x2 x6).bind fun u_4 => (if x6 = x3 then some ((0 : Int32), u_4.2) else some ((1 : Int32), u_4.2))) else ((ff_X5_build N o_p0 x1 x2 x8).bind fun u_7 => ((ff_X2_sizeOfMiss N u_7.2 x1 x2).bind fun u_9 => (if os_nn (FP.fadd FP.fconst0 u_9) then ((ff_X2_sizeOfMiss N u_7.2 (x1 - (1 : Int32)) x2).bind fun u_12 => (if os_nn (FP.fadd (FP.fadd FP.fconst0 u_9) u_12) then ((ff_X2_sizeOfMiss N u_7.2 (x1 + (1 : Int32)) x2).bind fun u_15 => (if os_nn (FP.fadd (FP.fadd (FP.fadd FP.fconst0 u_9) u_12) u_15) then ((ff_X2_sizeOfMiss N u_7.2 x1 (x2 - (1 : Int32))).bind fun u_18 => (if os_nn (FP.fadd (FP.fadd (FP.fadd (FP.fadd FP.fconst0 u_9) u_12) u_15) u_18) then ((ff_X2_sizeOfMiss N u_7.2 x1 (x2 + (1 : Int32))).bind fun u_21 => (if os_nn (FP.fadd (FP.fadd (FP.fadd (FP.fadd (FP.fadd FP.fconst0 u_9) u_12) u_15) u_18) u_21) then (if x8 = x4 then ff_X2_refineCell_b139 N k42 u_7.2 x1 x2 x3 x4 x5 x8 (FP.fadd (FP.fadd (FP.fadd (FP.fadd (FP.fadd FP.fconst0 u_9) u_12) u_15) u_18) u_21) else (if 0 ≤ (Op.cmpValue (FP.fcmp (FP.fadd (FP.fadd (FP.fadd (FP.fadd (FP.fadd FP.fconst0 u_9) u_12) u_15) u_18) u_21) x7) CmpOp.g) then ff_X2_refineCell_b147 N k42 u_7.2 x1 x2 x3 x4 x5 x6 x7 x8 else ff_X2_refineCell_b139 N k42 u_7.2 x1 x2 x3 x4 x5 x8 (FP.fadd (FP.fadd (FP.fadd (FP.fadd (FP.fadd FP.fconst0 u_9) u_12) u_15) u_18) u_21))) else none)) else none)) else none)) else none)) else none))))
def ff_X2_refineCell_l42 (N : Nat) : Nat → (os_T × Int32 × Int32 × Int32 × Int32 × Int32 × Int32 × UInt32 × Int32) → Option (Int32 × os_T) := os_loop (fun k42 s1 => ff_X2_refineCell_c42 N k42 s1.1 s1.2.1 s1.2.2.1 s1.2.2.2.1 s1.2.2.2.2.1 s1.2.2.2.2.2.1 s1.2.2.2.2.2.2.1 s1.2.2.2.2.2.2.2.1 s1.2.2.2.2.2.2.2.2)
def ff_X2_refineCell (N : Nat) (o_p0 : os_T) (a1 : Int32) (a2 : Int32) : Option (Int32 × os_T) :=
  ((ff_X5_heightAt N o_p0 a1 a2).bind fun u_1 => ff_X2_refineCell_l42 N N (o_p0, a1, a2, u_1, (if (u_1 - (1 : Int32)) < (os_I o_p0 4) then (os_I o_p0 4) else (u_1 - (1 : Int32))), (if (os_I o_p0 2) < (u_1 + (1 : Int32)) then (os_I o_p0 2) else (u_1 + (1 : Int32))), (if (u_1 - (1 : Int32)) < (os_I o_p0 4) then (os_I o_p0 4) else (u_1 - (1 : Int32))), FP.fconst0, (if (u_1 - (1 : Int32)) < (os_I o_p0 4) then (os_I o_p0 4) else (u_1 - (1 : Int32)))))
set_option maxHeartbeats 4000000 in
set_option maxRecDepth 100000 in
theorem mm_X2_refineCell (l : Launch) (D : va_G) (kA : Nat → ClassId) (N : Nat) (q_p0 : Nat → Nat) (o_p0 : os_T) (a1 : Int32) (a2 : Int32) (out : (Int32 × os_T)) (hf : ff_X2_refineCell N o_p0 a1 a2 = some out) : mc_C l D kA yX2_refineCell wsX2_refineCell ({ frames := 3, cells := 0, slots := 0, locals := 71 } : Room) [.ref (q_p0 0), .int a1, .int a2] (ce_X5 kA q_p0 o_p0) (some (.int out.1)) (ce_X5 kA q_p0 out.2) := by
  refine mc_of (cc := cX2_refineCell) (maxL := 10) (ret := (some .int)) (by decide) rfl (Nat.le_of_ble_eq_true rfl) ?_
  intro p e s m below meth c A B hD hP hS ls hl
  obtain ⟨hx, hb, hr, hlk, hml, hown, hts, hK, hA, hnm⟩ := B
  have hown : s.vm.findClass RX2 = some m.cls := hown
  have hl : lv_has ls 10 [(0, .ref (q_p0 0)), (1, .int a1), (2, .int a2)] := hl
  have hUX5 : ∀ w ∈ u_ws RX5 TX5 10, w.before [.ref (q_p0 0), .int a1, .int a2].toArray s = true := fun w h => hts w (List.mem_cons_of_mem _ (List.mem_append_right _ h))
  have hB147 : ∀ (k42 : (os_T × Int32 × Int32 × Int32 × Int32 × Int32 × Int32 × UInt32 × Int32) → Option (Int32 × os_T)), (∀ (o_p0 : os_T) (x1 : Int32) (x2 : Int32) (x3 : Int32) (x4 : Int32) (x5 : Int32) (x6 : Int32) (x7 : UInt32) (x8 : Int32) (H : Heap) (locs : List Loc) (ls : Array Slot), va_P D vwCl (ce_X5 kA q_p0 o_p0) H → va_D A (ce_X5 kA q_p0 o_p0) → va_S A s.heap H locs → lv_has ls 10 [(0, .ref (q_p0 0)), (1, .int x1), (2, .int x2), (3, .int x3), (4, .int x4), (5, .int x5), (6, .int x6), (7, .float x7), (8, .int x8)] → k42 (o_p0, x1, x2, x3, x4, x5, x6, x7, x8) = some out → W p l e ({ frames := 3, cells := 0, slots := 0, locals := 71 } : Room) s m [.ref (q_p0 0), .int a1, .int a2].toArray below meth c H locs 0 0 (MQ below (mc_Q D kA A (some (.int out.1)) (ce_X5 kA q_p0 out.2)) [.ref (q_p0 0), .int a1, .int a2].toArray s 0 0 A) (F0 m 42 ls [])) → ∀ (o_p0 : os_T) (x1 : Int32) (x2 : Int32) (x3 : Int32) (x4 : Int32) (x5 : Int32) (x6 : Int32) (x7 : UInt32) (x8 : Int32) (H : Heap) (locs : List Loc) (ls : Array Slot), va_P D vwCl (ce_X5 kA q_p0 o_p0) H → va_D A (ce_X5 kA q_p0 o_p0) → va_S A s.heap H locs → lv_has ls 10 [(0, .ref (q_p0 0)), (1, .int x1), (2, .int x2), (3, .int x3), (4, .int x4), (5, .int x5), (6, .int x6), (7, .float x7), (8, .int x8)] → ff_X2_refineCell_b147 N k42 o_p0 x1 x2 x3 x4 x5 x6 x7 x8 = some out → W p l e ({ frames := 3, cells := 0, slots := 0, locals := 71 } : Room) s m [.ref (q_p0 0), .int a1, .int a2].toArray below meth c H locs 0 0 (MQ below (mc_Q D kA A (some (.int out.1)) (ce_X5 kA q_p0 out.2)) [.ref (q_p0 0), .int a1, .int a2].toArray s 0 0 A) (F0 m 147 ls []) := by
    intro k42 hk42 o_p0 x1 x2 x3 x4 x5 x6 x7 x8 H locs ls hP hD hS hl hf
    unfold ff_X2_refineCell_b147 at hf
    refine lv_iinc (v := x8 + 1) (lv' := [(8, .int (x8 + 1)), (0, .ref (q_p0 0)), (1, .int x1), (2, .int x2), (3, .int x3), (4, .int x4), (5, .int x5), (6, .int x6), (7, .float x7)]) hx hb dX2_refineCell_147 hl (k := 8) rfl rfl (by decide) rfl (fun ls hl => ?_)
    refine lv_goto (tgt := 42) hx hb dX2_refineCell_150 (by decide) ?_
    exact hk42 o_p0 x1 x2 x3 x4 x5 x6 x7 (x8 + 1) _ _ _ hP hD hS (lv_sub hl [1, 2, 3, 4, 5, 6, 7, 8, 0] rfl) hf
  have hB139 : ∀ (k42 : (os_T × Int32 × Int32 × Int32 × Int32 × Int32 × Int32 × UInt32 × Int32) → Option (Int32 × os_T)), (∀ (o_p0 : os_T) (x1 : Int32) (x2 : Int32) (x3 : Int32) (x4 : Int32) (x5 : Int32) (x6 : Int32) (x7 : UInt32) (x8 : Int32) (H : Heap) (locs : List Loc) (ls : Array Slot), va_P D vwCl (ce_X5 kA q_p0 o_p0) H → va_D A (ce_X5 kA q_p0 o_p0) → va_S A s.heap H locs → lv_has ls 10 [(0, .ref (q_p0 0)), (1, .int x1), (2, .int x2), (3, .int x3), (4, .int x4), (5, .int x5), (6, .int x6), (7, .float x7), (8, .int x8)] → k42 (o_p0, x1, x2, x3, x4, x5, x6, x7, x8) = some out → W p l e ({ frames := 3, cells := 0, slots := 0, locals := 71 } : Room) s m [.ref (q_p0 0), .int a1, .int a2].toArray below meth c H locs 0 0 (MQ below (mc_Q D kA A (some (.int out.1)) (ce_X5 kA q_p0 out.2)) [.ref (q_p0 0), .int a1, .int a2].toArray s 0 0 A) (F0 m 42 ls [])) → ∀ (o_p0 : os_T) (x1 : Int32) (x2 : Int32) (x3 : Int32) (x4 : Int32) (x5 : Int32) (x8 : Int32) (x9 : UInt32) (H : Heap) (locs : List Loc) (ls : Array Slot), va_P D vwCl (ce_X5 kA q_p0 o_p0) H → va_D A (ce_X5 kA q_p0 o_p0) → va_S A s.heap H locs → lv_has ls 10 [(0, .ref (q_p0 0)), (1, .int x1), (2, .int x2), (3, .int x3), (4, .int x4), (5, .int x5), (8, .int x8), (9, .float x9)] → ff_X2_refineCell_b139 N k42 o_p0 x1 x2 x3 x4 x5 x8 x9 = some out → W p l e ({ frames := 3, cells := 0, slots := 0, locals := 71 } : Room) s m [.ref (q_p0 0), .int a1, .int a2].toArray below meth c H locs 0 0 (MQ below (mc_Q D kA A (some (.int out.1)) (ce_X5 kA q_p0 out.2)) [.ref (q_p0 0), .int a1, .int a2].toArray s 0 0 A) (F0 m 139 ls []) := by
    intro k42 hk42 o_p0 x1 x2 x3 x4 x5 x8 x9 H locs ls hP hD hS hl hf
    unfold ff_X2_refineCell_b139 at hf
    refine lv_fload hx hb dX2_refineCell_139 (lv_at hl 7 rfl) ?_
    refine lv_fstore (lv' := [(7, .float x9), (0, .ref (q_p0 0)), (1, .int x1), (2, .int x2), (3, .int x3), (4, .int x4), (5, .int x5), (8, .int x8), (9, .float x9)]) hx hb dX2_refineCell_141 hl (by decide) rfl (fun ls hl => ?_)
    refine lv_iload hx hb dX2_refineCell_143 (lv_at hl 7 rfl) ?_
    refine lv_istore (lv' := [(6, .int x8), (7, .float x9), (0, .ref (q_p0 0)), (1, .int x1), (2, .int x2), (3, .int x3), (4, .int x4), (5, .int x5), (8, .int x8), (9, .float x9)]) hx hb dX2_refineCell_145 hl (by decide) rfl (fun ls hl => ?_)
    exact hB147 k42 hk42 o_p0 x1 x2 x3 x4 x5 x8 x9 x8 _ _ _ hP hD hS (lv_sub hl [2, 3, 4, 5, 6, 7, 0, 1, 8] rfl) hf
  have hL42 : ∀ (n : Nat) (o_p0 : os_T) (x1 : Int32) (x2 : Int32) (x3 : Int32) (x4 : Int32) (x5 : Int32) (x6 : Int32) (x7 : UInt32) (x8 : Int32) (H : Heap) (locs : List Loc) (ls : Array Slot), va_P D vwCl (ce_X5 kA q_p0 o_p0) H → va_D A (ce_X5 kA q_p0 o_p0) → va_S A s.heap H locs → lv_has ls 10 [(0, .ref (q_p0 0)), (1, .int x1), (2, .int x2), (3, .int x3), (4, .int x4), (5, .int x5), (6, .int x6), (7, .float x7), (8, .int x8)] → ff_X2_refineCell_l42 N n (o_p0, x1, x2, x3, x4, x5, x6, x7, x8) = some out → W p l e ({ frames := 3, cells := 0, slots := 0, locals := 71 } : Room) s m [.ref (q_p0 0), .int a1, .int a2].toArray below meth c H locs 0 0 (MQ below (mc_Q D kA A (some (.int out.1)) (ce_X5 kA q_p0 out.2)) [.ref (q_p0 0), .int a1, .int a2].toArray s 0 0 A) (F0 m 42 ls []) := by
    intro n
    induction n with
    | zero => intro o_p0 x1 x2 x3 x4 x5 x6 x7 x8 H locs ls _ _ _ _ hf; cases hf
    | succ n hk42 =>
      intro o_p0 x1 x2 x3 x4 x5 x6 x7 x8 H locs ls hP hD hS hl hf
      have hf : ff_X2_refineCell_c42 N (ff_X2_refineCell_l42 N n) o_p0 x1 x2 x3 x4 x5 x6 x7 x8 = some out := hf
      generalize hke : ff_X2_refineCell_l42 N n = k42 at hk42 hf
      unfold ff_X2_refineCell_c42 at hf
      refine lv_iload hx hb dX2_refineCell_42 (lv_at hl 8 rfl) ?_
      refine lv_iload hx hb dX2_refineCell_44 (lv_at hl 5 rfl) ?_
      refine lv_icmp_gt (tgt := 153) hx hb dX2_refineCell_46 (by decide) (fun hc_3 => ?_) (fun hc_3 => ?_)
      · rw [if_pos hc_3] at hf
        refine lv_aload_n hx hb dX2_refineCell_153 rfl (lv_at hl 0 rfl) ?_
        refine lv_iload_n hx hb dX2_refineCell_154 rfl (lv_at hl 1 rfl) ?_
        refine lv_iload_n hx hb dX2_refineCell_155 rfl (lv_at hl 2 rfl) ?_
        refine lv_iload hx hb dX2_refineCell_156 (lv_at hl 6 rfl) ?_
        obtain ⟨u_4, he_5, hf⟩ := os_bd hf
        refine mc_callV ⟨hx, hb, hml, hown, hts⟩ (mm_X5_build l D kA N q_p0 o_p0 x1 x2 x6 u_4 he_5) (cwV 3 hts gX2_refineCell_X5_build rfl rfl rfl (by decide +kernel) ⟨Nat.le_of_ble_eq_true rfl, Nat.le_of_ble_eq_true rfl⟩) (wc := (ce_X5 kA q_p0 o_p0)) (ci := 4) (q0 := 0) rfl rfl rfl hl.1 (As := [.int x1, .int x2, .int x6]) (rest := []) rfl (Nat.le_of_ble_eq_true rfl) dX2_refineCell_158 ⟨Nat.le_of_ble_eq_true rfl, Nat.le_of_ble_eq_true rfl⟩ hK hP hD hS hA [0, 1, 2, 3] [] [0, 1, 2, 3] rfl (by decide) rfl (by decide) (by decide) rfl (by decide) (wr := []) (w2 := (ce_X5 kA q_p0 u_4.2)) (fun H locs hP hD hS => ?_)
        have hP : va_P D vwCl (ce_X5 kA q_p0 u_4.2) H := hP
        refine lv_pop hx hb dX2_refineCell_161 rfl ?_
        refine lv_iload hx hb dX2_refineCell_162 (lv_at hl 6 rfl) ?_
        refine lv_iload_n hx hb dX2_refineCell_164 rfl (lv_at hl 3 rfl) ?_
        refine lv_icmp_ne (tgt := 172) hx hb dX2_refineCell_165 (by decide) (fun hc_6 => ?_) (fun hc_6 => ?_)
        · rw [if_neg hc_6] at hf
          refine lv_iconst (v := 1) hx hb dX2_refineCell_172 (by decide) ?_
          rw [← Option.some.inj hf]
          exact mc_reti hx hb hr hlk hP hK hD hS dX2_refineCell_173
        · rw [if_pos hc_6] at hf
          refine lv_iconst (v := 0) hx hb dX2_refineCell_168 (by decide) ?_
          refine lv_goto (tgt := 173) hx hb dX2_refineCell_169 (by decide) ?_
          rw [← Option.some.inj hf]
          exact mc_reti hx hb hr hlk hP hK hD hS dX2_refineCell_173
      · rw [if_neg hc_3] at hf
        refine lv_aload_n hx hb dX2_refineCell_49 rfl (lv_at hl 0 rfl) ?_
        refine lv_iload_n hx hb dX2_refineCell_50 rfl (lv_at hl 1 rfl) ?_
        refine lv_iload_n hx hb dX2_refineCell_51 rfl (lv_at hl 2 rfl) ?_
        refine lv_iload hx hb dX2_refineCell_52 (lv_at hl 8 rfl) ?_
        obtain ⟨u_7, he_8, hf⟩ := os_bd hf
        refine mc_callV ⟨hx, hb, hml, hown, hts⟩ (mm_X5_build l D kA N q_p0 o_p0 x1 x2 x8 u_7 he_8) (cwV 3 hts gX2_refineCell_X5_build rfl rfl rfl (by decide +kernel) ⟨Nat.le_of_ble_eq_true rfl, Nat.le_of_ble_eq_true rfl⟩) (wc := (ce_X5 kA q_p0 o_p0)) (ci := 4) (q0 := 0) rfl rfl rfl hl.1 (As := [.int x1, .int x2, .int x8]) (rest := []) rfl (Nat.le_of_ble_eq_true rfl) dX2_refineCell_54 ⟨Nat.le_of_ble_eq_true rfl, Nat.le_of_ble_eq_true rfl⟩ hK hP hD hS hA [0, 1, 2, 3] [] [0, 1, 2, 3] rfl (by decide) rfl (by decide) (by decide) rfl (by decide) (wr := []) (w2 := (ce_X5 kA q_p0 u_7.2)) (fun H locs hP hD hS => ?_)
        have hP : va_P D vwCl (ce_X5 kA q_p0 u_7.2) H := hP
        refine lv_pop hx hb dX2_refineCell_57 rfl ?_
        refine lv_fconst0 hx hb dX2_refineCell_58 ?_
        refine lv_fstore (lv' := [(9, .float FP.fconst0), (0, .ref (q_p0 0)), (1, .int x1), (2, .int x2), (3, .int x3), (4, .int x4), (5, .int x5), (6, .int x6), (7, .float x7), (8, .int x8)]) hx hb dX2_refineCell_59 hl (by decide) rfl (fun ls hl => ?_)
        refine lv_fload hx hb dX2_refineCell_61 (lv_at hl 0 rfl) ?_
        refine lv_aload_n hx hb dX2_refineCell_63 rfl (lv_at hl 1 rfl) ?_
        refine lv_iload_n hx hb dX2_refineCell_64 rfl (lv_at hl 2 rfl) ?_
        refine lv_iload_n hx hb dX2_refineCell_65 rfl (lv_at hl 3 rfl) ?_
        obtain ⟨u_9, he_10, hf⟩ := os_bd hf
        refine mc_callS ⟨hx, hb, hml, hown, hts⟩ (mm_X2_sizeOfMiss l D kA N q_p0 u_7.2 x1 x2 u_9 he_10) (va_cwS 3 hts gX2_refineCell_X2_sizeOfMiss rfl rfl rfl (by decide +kernel) ⟨Nat.le_of_ble_eq_true rfl, Nat.le_of_ble_eq_true rfl⟩) (wc := (ce_X5 kA q_p0 u_7.2)) rfl hl.1 (As := [.ref (q_p0 0), .int x1, .int x2]) (rest := [.float FP.fconst0]) rfl (Nat.le_of_ble_eq_true rfl) dX2_refineCell_66 ⟨Nat.le_of_ble_eq_true rfl, Nat.le_of_ble_eq_true rfl⟩ hK hP hD hS hA [0, 1, 2, 3] [] [0, 1, 2, 3] rfl (by decide) rfl (by decide) (by decide) rfl (by decide) (wr := []) (w2 := (ce_X5 kA q_p0 u_7.2)) (fun H locs hP hD hS => ?_)
        have hP : va_P D vwCl (ce_X5 kA q_p0 u_7.2) H := hP
        obtain ⟨hn_11, hf⟩ := os_if hf
        refine lv_fadd hx hb dX2_refineCell_69 hn_11 ?_
        refine lv_fstore (lv' := [(9, .float (FP.fadd FP.fconst0 u_9)), (0, .ref (q_p0 0)), (1, .int x1), (2, .int x2), (3, .int x3), (4, .int x4), (5, .int x5), (6, .int x6), (7, .float x7), (8, .int x8)]) hx hb dX2_refineCell_70 hl (by decide) rfl (fun ls hl => ?_)
        refine lv_fload hx hb dX2_refineCell_72 (lv_at hl 0 rfl) ?_
        refine lv_aload_n hx hb dX2_refineCell_74 rfl (lv_at hl 1 rfl) ?_
        refine lv_iload_n hx hb dX2_refineCell_75 rfl (lv_at hl 2 rfl) ?_
        refine lv_iconst (v := 1) hx hb dX2_refineCell_76 (by decide) ?_
        refine lv_isub hx hb dX2_refineCell_77 ?_
        refine lv_iload_n hx hb dX2_refineCell_78 rfl (lv_at hl 3 rfl) ?_
        obtain ⟨u_12, he_13, hf⟩ := os_bd hf
        refine mc_callS ⟨hx, hb, hml, hown, hts⟩ (mm_X2_sizeOfMiss l D kA N q_p0 u_7.2 (x1 - (1 : Int32)) x2 u_12 he_13) (va_cwS 3 hts gX2_refineCell_X2_sizeOfMiss rfl rfl rfl (by decide +kernel) ⟨Nat.le_of_ble_eq_true rfl, Nat.le_of_ble_eq_true rfl⟩) (wc := (ce_X5 kA q_p0 u_7.2)) rfl hl.1 (As := [.ref (q_p0 0), .int (x1 - (1 : Int32)), .int x2]) (rest := [.float (FP.fadd FP.fconst0 u_9)]) rfl (Nat.le_of_ble_eq_true rfl) dX2_refineCell_79 ⟨Nat.le_of_ble_eq_true rfl, Nat.le_of_ble_eq_true rfl⟩ hK hP hD hS hA [0, 1, 2, 3] [] [0, 1, 2, 3] rfl (by decide) rfl (by decide) (by decide) rfl (by decide) (wr := []) (w2 := (ce_X5 kA q_p0 u_7.2)) (fun H locs hP hD hS => ?_)
        have hP : va_P D vwCl (ce_X5 kA q_p0 u_7.2) H := hP
        obtain ⟨hn_14, hf⟩ := os_if hf
        refine lv_fadd hx hb dX2_refineCell_82 hn_14 ?_
        refine lv_fstore (lv' := [(9, .float (FP.fadd (FP.fadd FP.fconst0 u_9) u_12)), (0, .ref (q_p0 0)), (1, .int x1), (2, .int x2), (3, .int x3), (4, .int x4), (5, .int x5), (6, .int x6), (7, .float x7), (8, .int x8)]) hx hb dX2_refineCell_83 hl (by decide) rfl (fun ls hl => ?_)
        refine lv_fload hx hb dX2_refineCell_85 (lv_at hl 0 rfl) ?_
        refine lv_aload_n hx hb dX2_refineCell_87 rfl (lv_at hl 1 rfl) ?_
        refine lv_iload_n hx hb dX2_refineCell_88 rfl (lv_at hl 2 rfl) ?_
        refine lv_iconst (v := 1) hx hb dX2_refineCell_89 (by decide) ?_
        refine lv_iadd hx hb dX2_refineCell_90 ?_
        refine lv_iload_n hx hb dX2_refineCell_91 rfl (lv_at hl 3 rfl) ?_
        obtain ⟨u_15, he_16, hf⟩ := os_bd hf
        refine mc_callS ⟨hx, hb, hml, hown, hts⟩ (mm_X2_sizeOfMiss l D kA N q_p0 u_7.2 (x1 + (1 : Int32)) x2 u_15 he_16) (va_cwS 3 hts gX2_refineCell_X2_sizeOfMiss rfl rfl rfl (by decide +kernel) ⟨Nat.le_of_ble_eq_true rfl, Nat.le_of_ble_eq_true rfl⟩) (wc := (ce_X5 kA q_p0 u_7.2)) rfl hl.1 (As := [.ref (q_p0 0), .int (x1 + (1 : Int32)), .int x2]) (rest := [.float (FP.fadd (FP.fadd FP.fconst0 u_9) u_12)]) rfl (Nat.le_of_ble_eq_true rfl) dX2_refineCell_92 ⟨Nat.le_of_ble_eq_true rfl, Nat.le_of_ble_eq_true rfl⟩ hK hP hD hS hA [0, 1, 2, 3] [] [0, 1, 2, 3] rfl (by decide) rfl (by decide) (by decide) rfl (by decide) (wr := []) (w2 := (ce_X5 kA q_p0 u_7.2)) (fun H locs hP hD hS => ?_)
        have hP : va_P D vwCl (ce_X5 kA q_p0 u_7.2) H := hP
        obtain ⟨hn_17, hf⟩ := os_if hf
        refine lv_fadd hx hb dX2_refineCell_95 hn_17 ?_
        refine lv_fstore (lv' := [(9, .float (FP.fadd (FP.fadd (FP.fadd FP.fconst0 u_9) u_12) u_15)), (0, .ref (q_p0 0)), (1, .int x1), (2, .int x2), (3, .int x3), (4, .int x4), (5, .int x5), (6, .int x6), (7, .float x7), (8, .int x8)]) hx hb dX2_refineCell_96 hl (by decide) rfl (fun ls hl => ?_)
        refine lv_fload hx hb dX2_refineCell_98 (lv_at hl 0 rfl) ?_
        refine lv_aload_n hx hb dX2_refineCell_100 rfl (lv_at hl 1 rfl) ?_
        refine lv_iload_n hx hb dX2_refineCell_101 rfl (lv_at hl 2 rfl) ?_
        refine lv_iload_n hx hb dX2_refineCell_102 rfl (lv_at hl 3 rfl) ?_
        refine lv_iconst (v := 1) hx hb dX2_refineCell_103 (by decide) ?_
        refine lv_isub hx hb dX2_refineCell_104 ?_
        obtain ⟨u_18, he_19, hf⟩ := os_bd hf
        refine mc_callS ⟨hx, hb, hml, hown, hts⟩ (mm_X2_sizeOfMiss l D kA N q_p0 u_7.2 x1 (x2 - (1 : Int32)) u_18 he_19) (va_cwS 3 hts gX2_refineCell_X2_sizeOfMiss rfl rfl rfl (by decide +kernel) ⟨Nat.le_of_ble_eq_true rfl, Nat.le_of_ble_eq_true rfl⟩) (wc := (ce_X5 kA q_p0 u_7.2)) rfl hl.1 (As := [.ref (q_p0 0), .int x1, .int (x2 - (1 : Int32))]) (rest := [.float (FP.fadd (FP.fadd (FP.fadd FP.fconst0 u_9) u_12) u_15)]) rfl (Nat.le_of_ble_eq_true rfl) dX2_refineCell_105 ⟨Nat.le_of_ble_eq_true rfl, Nat.le_of_ble_eq_true rfl⟩ hK hP hD hS hA [0, 1, 2, 3] [] [0, 1, 2, 3] rfl (by decide) rfl (by decide) (by decide) rfl (by decide) (wr := []) (w2 := (ce_X5 kA q_p0 u_7.2)) (fun H locs hP hD hS => ?_)
        have hP : va_P D vwCl (ce_X5 kA q_p0 u_7.2) H := hP
        obtain ⟨hn_20, hf⟩ := os_if hf
        refine lv_fadd hx hb dX2_refineCell_108 hn_20 ?_
        refine lv_fstore (lv' := [(9, .float (FP.fadd (FP.fadd (FP.fadd (FP.fadd FP.fconst0 u_9) u_12) u_15) u_18)), (0, .ref (q_p0 0)), (1, .int x1), (2, .int x2), (3, .int x3), (4, .int x4), (5, .int x5), (6, .int x6), (7, .float x7), (8, .int x8)]) hx hb dX2_refineCell_109 hl (by decide) rfl (fun ls hl => ?_)
        refine lv_fload hx hb dX2_refineCell_111 (lv_at hl 0 rfl) ?_
        refine lv_aload_n hx hb dX2_refineCell_113 rfl (lv_at hl 1 rfl) ?_
        refine lv_iload_n hx hb dX2_refineCell_114 rfl (lv_at hl 2 rfl) ?_
        refine lv_iload_n hx hb dX2_refineCell_115 rfl (lv_at hl 3 rfl) ?_
        refine lv_iconst (v := 1) hx hb dX2_refineCell_116 (by decide) ?_
        refine lv_iadd hx hb dX2_refineCell_117 ?_
        obtain ⟨u_21, he_22, hf⟩ := os_bd hf
        refine mc_callS ⟨hx, hb, hml, hown, hts⟩ (mm_X2_sizeOfMiss l D kA N q_p0 u_7.2 x1 (x2 + (1 : Int32)) u_21 he_22) (va_cwS 3 hts gX2_refineCell_X2_sizeOfMiss rfl rfl rfl (by decide +kernel) ⟨Nat.le_of_ble_eq_true rfl, Nat.le_of_ble_eq_true rfl⟩) (wc := (ce_X5 kA q_p0 u_7.2)) rfl hl.1 (As := [.ref (q_p0 0), .int x1, .int (x2 + (1 : Int32))]) (rest := [.float (FP.fadd (FP.fadd (FP.fadd (FP.fadd FP.fconst0 u_9) u_12) u_15) u_18)]) rfl (Nat.le_of_ble_eq_true rfl) dX2_refineCell_118 ⟨Nat.le_of_ble_eq_true rfl, Nat.le_of_ble_eq_true rfl⟩ hK hP hD hS hA [0, 1, 2, 3] [] [0, 1, 2, 3] rfl (by decide) rfl (by decide) (by decide) rfl (by decide) (wr := []) (w2 := (ce_X5 kA q_p0 u_7.2)) (fun H locs hP hD hS => ?_)
        have hP : va_P D vwCl (ce_X5 kA q_p0 u_7.2) H := hP
        obtain ⟨hn_23, hf⟩ := os_if hf
        refine lv_fadd hx hb dX2_refineCell_121 hn_23 ?_
        refine lv_fstore (lv' := [(9, .float (FP.fadd (FP.fadd (FP.fadd (FP.fadd (FP.fadd FP.fconst0 u_9) u_12) u_15) u_18) u_21)), (0, .ref (q_p0 0)), (1, .int x1), (2, .int x2), (3, .int x3), (4, .int x4), (5, .int x5), (6, .int x6), (7, .float x7), (8, .int x8)]) hx hb dX2_refineCell_122 hl (by decide) rfl (fun ls hl => ?_)
        refine lv_iload hx hb dX2_refineCell_124 (lv_at hl 9 rfl) ?_
        refine lv_iload hx hb dX2_refineCell_126 (lv_at hl 5 rfl) ?_
        refine lv_icmp_eq (tgt := 139) hx hb dX2_refineCell_128 (by decide) (fun hc_24 => ?_) (fun hc_24 => ?_)
        · rw [if_pos hc_24] at hf
          exact hB139 k42 hk42 u_7.2 x1 x2 x3 x4 x5 x8 (FP.fadd (FP.fadd (FP.fadd (FP.fadd (FP.fadd FP.fconst0 u_9) u_12) u_15) u_18) u_21) _ _ _ hP hD hS (lv_sub hl [1, 2, 3, 4, 5, 6, 9, 0] rfl) hf
        · rw [if_neg hc_24] at hf
          refine lv_fload hx hb dX2_refineCell_131 (lv_at hl 0 rfl) ?_
          refine lv_fload hx hb dX2_refineCell_133 (lv_at hl 8 rfl) ?_
          refine lv_fcmp hx hb dX2_refineCell_135 ?_
          refine lv_if_ge (tgt := 147) hx hb dX2_refineCell_136 (by decide) (fun hc_25 => ?_) (fun hc_25 => ?_)
          · rw [if_pos hc_25] at hf
            exact hB147 k42 hk42 u_7.2 x1 x2 x3 x4 x5 x6 x7 x8 _ _ _ hP hD hS (lv_sub hl [1, 2, 3, 4, 5, 6, 7, 8, 9] rfl) hf
          · rw [if_neg hc_25] at hf
            exact hB139 k42 hk42 u_7.2 x1 x2 x3 x4 x5 x8 (FP.fadd (FP.fadd (FP.fadd (FP.fadd (FP.fadd FP.fconst0 u_9) u_12) u_15) u_18) u_21) _ _ _ hP hD hS (lv_sub hl [1, 2, 3, 4, 5, 6, 9, 0] rfl) hf
  unfold ff_X2_refineCell at hf
  refine lv_aload_n hx hb dX2_refineCell_0 rfl (lv_at hl 0 rfl) ?_
  refine lv_iload_n hx hb dX2_refineCell_1 rfl (lv_at hl 1 rfl) ?_
  refine lv_iload_n hx hb dX2_refineCell_2 rfl (lv_at hl 2 rfl) ?_
  obtain ⟨u_1, he_2, hf⟩ := os_bd hf
  refine mc_callV ⟨hx, hb, hml, hown, hts⟩ (mm_X5_heightAt l D kA N q_p0 o_p0 a1 a2 u_1 he_2) (cwV 2 hts gX2_refineCell_X5_heightAt rfl rfl rfl (by decide +kernel) ⟨Nat.le_of_ble_eq_true rfl, Nat.le_of_ble_eq_true rfl⟩) (wc := (ce_X5 kA q_p0 o_p0)) (ci := 4) (q0 := 0) rfl rfl rfl hl.1 (As := [.int a1, .int a2]) (rest := []) rfl (Nat.le_of_ble_eq_true rfl) dX2_refineCell_3 ⟨Nat.le_of_ble_eq_true rfl, Nat.le_of_ble_eq_true rfl⟩ hK hP hD hS hA [0, 1, 2, 3] [] [0, 1, 2, 3] rfl (by decide) rfl (by decide) (by decide) rfl (by decide) (wr := []) (w2 := (ce_X5 kA q_p0 o_p0)) (fun H locs hP hD hS => ?_)
  have hP : va_P D vwCl (ce_X5 kA q_p0 o_p0) H := hP
  refine lv_istore_n (lv' := [(3, .int u_1), (0, .ref (q_p0 0)), (1, .int a1), (2, .int a2)]) hx hb dX2_refineCell_6 rfl hl (by decide) rfl (fun ls hl => ?_)
  refine lv_iload_n hx hb dX2_refineCell_7 rfl (lv_at hl 0 rfl) ?_
  refine lv_iconst (v := 1) hx hb dX2_refineCell_8 (by decide) ?_
  refine lv_isub hx hb dX2_refineCell_9 ?_
  refine lv_aload_n hx hb dX2_refineCell_10 rfl (lv_at hl 1 rfl) ?_
  refine va_get (D := D) (ci := 4) (v := .int (os_I o_p0 4)) (C := RX5) (T := TX5) (N := 10) hx hb hUX5 (fun _ h9 => h9) hown hK hP 0 rfl rfl 4 (by decide) (hts (Cond.fieldLink RX2 69 "ReliefBuilder$Panel" "base" "I") (List.mem_of_getElem? (i := 1) rfl)) (fun _ h9 => h9) rfl dX2_refineCell_11 ?_
  refine va_mmax hx hb (hml.trans hl.1.symm) hown (hts (Cond.methodLink RX2 72 Lib.Math.max.name) (List.mem_of_getElem? (i := 2) rfl)) (hts (Cond.static Lib.Math.max.name) (List.mem_of_getElem? (i := 3) rfl)) (hts (Cond.initialized "java/lang/Math") (List.mem_of_getElem? (i := 4) rfl)) (hts (Cond.code Lib.Math.max.name Lib.Math.max.code 2 (some .int)) (List.mem_of_getElem? (i := 5) rfl)) (Nat.le_of_ble_eq_true rfl) (Nat.le_of_ble_eq_true rfl) (Nat.le_of_ble_eq_true rfl) (Nat.le_of_ble_eq_true rfl) dX2_refineCell_14 ?_
  refine lv_istore (lv' := [(4, .int (if (u_1 - (1 : Int32)) < (os_I o_p0 4) then (os_I o_p0 4) else (u_1 - (1 : Int32)))), (3, .int u_1), (0, .ref (q_p0 0)), (1, .int a1), (2, .int a2)]) hx hb dX2_refineCell_17 hl (by decide) rfl (fun ls hl => ?_)
  refine lv_iload_n hx hb dX2_refineCell_19 rfl (lv_at hl 1 rfl) ?_
  refine lv_iconst (v := 1) hx hb dX2_refineCell_20 (by decide) ?_
  refine lv_iadd hx hb dX2_refineCell_21 ?_
  refine lv_aload_n hx hb dX2_refineCell_22 rfl (lv_at hl 2 rfl) ?_
  refine va_get (D := D) (ci := 4) (v := .int (os_I o_p0 2)) (C := RX5) (T := TX5) (N := 10) hx hb hUX5 (fun _ h9 => h9) hown hK hP 0 rfl rfl 2 (by decide) (hts (Cond.fieldLink RX2 77 "ReliefBuilder$Panel" "greatest" "I") (List.mem_of_getElem? (i := 6) rfl)) (fun _ h9 => h9) rfl dX2_refineCell_23 ?_
  refine va_mmin hx hb (hml.trans hl.1.symm) hown (hts (Cond.methodLink RX2 80 Lib.Math.min.name) (List.mem_of_getElem? (i := 7) rfl)) (hts (Cond.static Lib.Math.min.name) (List.mem_of_getElem? (i := 8) rfl)) (hts (Cond.initialized "java/lang/Math") (List.mem_of_getElem? (i := 4) rfl)) (hts (Cond.code Lib.Math.min.name Lib.Math.min.code 2 (some .int)) (List.mem_of_getElem? (i := 9) rfl)) (Nat.le_of_ble_eq_true rfl) (Nat.le_of_ble_eq_true rfl) (Nat.le_of_ble_eq_true rfl) (Nat.le_of_ble_eq_true rfl) dX2_refineCell_26 ?_
  refine lv_istore (lv' := [(5, .int (if (os_I o_p0 2) < (u_1 + (1 : Int32)) then (os_I o_p0 2) else (u_1 + (1 : Int32)))), (4, .int (if (u_1 - (1 : Int32)) < (os_I o_p0 4) then (os_I o_p0 4) else (u_1 - (1 : Int32)))), (3, .int u_1), (0, .ref (q_p0 0)), (1, .int a1), (2, .int a2)]) hx hb dX2_refineCell_29 hl (by decide) rfl (fun ls hl => ?_)
  refine lv_iload hx hb dX2_refineCell_31 (lv_at hl 1 rfl) ?_
  refine lv_istore (lv' := [(6, .int (if (u_1 - (1 : Int32)) < (os_I o_p0 4) then (os_I o_p0 4) else (u_1 - (1 : Int32)))), (5, .int (if (os_I o_p0 2) < (u_1 + (1 : Int32)) then (os_I o_p0 2) else (u_1 + (1 : Int32)))), (4, .int (if (u_1 - (1 : Int32)) < (os_I o_p0 4) then (os_I o_p0 4) else (u_1 - (1 : Int32)))), (3, .int u_1), (0, .ref (q_p0 0)), (1, .int a1), (2, .int a2)]) hx hb dX2_refineCell_33 hl (by decide) rfl (fun ls hl => ?_)
  refine lv_fconst0 hx hb dX2_refineCell_35 ?_
  refine lv_fstore (lv' := [(7, .float FP.fconst0), (6, .int (if (u_1 - (1 : Int32)) < (os_I o_p0 4) then (os_I o_p0 4) else (u_1 - (1 : Int32)))), (5, .int (if (os_I o_p0 2) < (u_1 + (1 : Int32)) then (os_I o_p0 2) else (u_1 + (1 : Int32)))), (4, .int (if (u_1 - (1 : Int32)) < (os_I o_p0 4) then (os_I o_p0 4) else (u_1 - (1 : Int32)))), (3, .int u_1), (0, .ref (q_p0 0)), (1, .int a1), (2, .int a2)]) hx hb dX2_refineCell_36 hl (by decide) rfl (fun ls hl => ?_)
  refine lv_iload hx hb dX2_refineCell_38 (lv_at hl 3 rfl) ?_
  refine lv_istore (lv' := [(8, .int (if (u_1 - (1 : Int32)) < (os_I o_p0 4) then (os_I o_p0 4) else (u_1 - (1 : Int32)))), (7, .float FP.fconst0), (6, .int (if (u_1 - (1 : Int32)) < (os_I o_p0 4) then (os_I o_p0 4) else (u_1 - (1 : Int32)))), (5, .int (if (os_I o_p0 2) < (u_1 + (1 : Int32)) then (os_I o_p0 2) else (u_1 + (1 : Int32)))), (4, .int (if (u_1 - (1 : Int32)) < (os_I o_p0 4) then (os_I o_p0 4) else (u_1 - (1 : Int32)))), (3, .int u_1), (0, .ref (q_p0 0)), (1, .int a1), (2, .int a2)]) hx hb dX2_refineCell_40 hl (by decide) rfl (fun ls hl => ?_)
  exact hL42 N o_p0 a1 a2 u_1 (if (u_1 - (1 : Int32)) < (os_I o_p0 4) then (os_I o_p0 4) else (u_1 - (1 : Int32))) (if (os_I o_p0 2) < (u_1 + (1 : Int32)) then (os_I o_p0 2) else (u_1 + (1 : Int32))) (if (u_1 - (1 : Int32)) < (os_I o_p0 4) then (os_I o_p0 4) else (u_1 - (1 : Int32))) FP.fconst0 (if (u_1 - (1 : Int32)) < (os_I o_p0 4) then (os_I o_p0 4) else (u_1 - (1 : Int32))) _ _ _ hP hD hS (lv_sub hl [6, 7, 8, 5, 4, 3, 2, 1, 0] rfl) hf
def ff_X2_refine_c14 (N : Nat) (k4 : (os_T × Int32 × Int32) → Option (Int32 × os_T)) (k14 : (os_T × Int32 × Int32 × Int32) → Option (Int32 × os_T)) (o_p0 : os_T) (x1 : Int32) (x2 : Int32) (x3 : Int32) : Option (Int32 × os_T) :=
  (if (os_I o_p0 0) ≤ x3 then k4 (o_p0, x1, x2 + 1) else ((ff_X2_refineCell N o_p0 x3 x2).bind fun u_3 => k14 (u_3.2, x1 + u_3.1, x2, x3 + 1)))
def ff_X2_refine_l14 (N : Nat) (k4 : (os_T × Int32 × Int32) → Option (Int32 × os_T)) : Nat → (os_T × Int32 × Int32 × Int32) → Option (Int32 × os_T) := os_loop (fun k14 s1 => ff_X2_refine_c14 N k4 k14 s1.1 s1.2.1 s1.2.2.1 s1.2.2.2)
def ff_X2_refine_c4 (N : Nat) (k4 : (os_T × Int32 × Int32) → Option (Int32 × os_T)) (o_p0 : os_T) (x1 : Int32) (x2 : Int32) : Option (Int32 × os_T) :=
  (if (os_I o_p0 1) ≤ x2 then some (x1, o_p0) else ff_X2_refine_l14 N k4 N (o_p0, x1, x2, (0 : Int32)))
def ff_X2_refine_l4 (N : Nat) : Nat → (os_T × Int32 × Int32) → Option (Int32 × os_T) := os_loop (fun k4 s1 => ff_X2_refine_c4 N k4 s1.1 s1.2.1 s1.2.2)
def ff_X2_refine (N : Nat) (o_p0 : os_T) : Option (Int32 × os_T) :=
  ff_X2_refine_l4 N N (o_p0, (0 : Int32), (0 : Int32))
set_option maxHeartbeats 4000000 in
set_option maxRecDepth 100000 in
theorem mm_X2_refine (l : Launch) (D : va_G) (kA : Nat → ClassId) (N : Nat) (q_p0 : Nat → Nat) (o_p0 : os_T) (out : (Int32 × os_T)) (hf : ff_X2_refine N o_p0 = some out) : mc_C l D kA yX2_refine wsX2_refine ({ frames := 4, cells := 0, slots := 0, locals := 100 } : Room) [.ref (q_p0 0)] (ce_X5 kA q_p0 o_p0) (some (.int out.1)) (ce_X5 kA q_p0 out.2) := by
  refine mc_of (cc := cX2_refine) (maxL := 4) (ret := (some .int)) (by decide) rfl (Nat.le_of_ble_eq_true rfl) ?_
  intro p e s m below meth c A B hD hP hS ls hl
  obtain ⟨hx, hb, hr, hlk, hml, hown, hts, hK, hA, hnm⟩ := B
  have hown : s.vm.findClass RX2 = some m.cls := hown
  have hl : lv_has ls 4 [(0, .ref (q_p0 0))] := hl
  have hUX5 : ∀ w ∈ u_ws RX5 TX5 10, w.before [.ref (q_p0 0)].toArray s = true := fun w h => hts w (List.mem_cons_of_mem _ (List.mem_append_right _ h))
  have hL14 : ∀ (k4 : (os_T × Int32 × Int32) → Option (Int32 × os_T)), (∀ (o_p0 : os_T) (x1 : Int32) (x2 : Int32) (H : Heap) (locs : List Loc) (ls : Array Slot), va_P D vwCl (ce_X5 kA q_p0 o_p0) H → va_D A (ce_X5 kA q_p0 o_p0) → va_S A s.heap H locs → lv_has ls 4 [(0, .ref (q_p0 0)), (1, .int x1), (2, .int x2)] → k4 (o_p0, x1, x2) = some out → W p l e ({ frames := 4, cells := 0, slots := 0, locals := 100 } : Room) s m [.ref (q_p0 0)].toArray below meth c H locs 0 0 (MQ below (mc_Q D kA A (some (.int out.1)) (ce_X5 kA q_p0 out.2)) [.ref (q_p0 0)].toArray s 0 0 A) (F0 m 4 ls [])) → ∀ (n : Nat) (o_p0 : os_T) (x1 : Int32) (x2 : Int32) (x3 : Int32) (H : Heap) (locs : List Loc) (ls : Array Slot), va_P D vwCl (ce_X5 kA q_p0 o_p0) H → va_D A (ce_X5 kA q_p0 o_p0) → va_S A s.heap H locs → lv_has ls 4 [(0, .ref (q_p0 0)), (1, .int x1), (2, .int x2), (3, .int x3)] → ff_X2_refine_l14 N k4 n (o_p0, x1, x2, x3) = some out → W p l e ({ frames := 4, cells := 0, slots := 0, locals := 100 } : Room) s m [.ref (q_p0 0)].toArray below meth c H locs 0 0 (MQ below (mc_Q D kA A (some (.int out.1)) (ce_X5 kA q_p0 out.2)) [.ref (q_p0 0)].toArray s 0 0 A) (F0 m 14 ls []) := by
    intro k4 hk4 n
    induction n with
    | zero => intro o_p0 x1 x2 x3 H locs ls _ _ _ _ hf; cases hf
    | succ n hk14 =>
      intro o_p0 x1 x2 x3 H locs ls hP hD hS hl hf
      have hf : ff_X2_refine_c14 N k4 (ff_X2_refine_l14 N k4 n) o_p0 x1 x2 x3 = some out := hf
      generalize hke : ff_X2_refine_l14 N k4 n = k14 at hk14 hf
      unfold ff_X2_refine_c14 at hf
      refine lv_iload_n hx hb dX2_refine_14 rfl (lv_at hl 3 rfl) ?_
      refine lv_aload_n hx hb dX2_refine_15 rfl (lv_at hl 0 rfl) ?_
      refine va_get (D := D) (ci := 4) (v := .int (os_I o_p0 0)) (C := RX5) (T := TX5) (N := 10) hx hb hUX5 (fun _ h9 => h9) hown hK hP 0 rfl rfl 0 (by decide) (hts (Cond.fieldLink RX2 35 "ReliefBuilder$Panel" "width" "I") (List.mem_of_getElem? (i := 2) rfl)) (fun _ h9 => h9) rfl dX2_refine_16 ?_
      refine lv_icmp_ge (tgt := 37) hx hb dX2_refine_19 (by decide) (fun hc_2 => ?_) (fun hc_2 => ?_)
      · rw [if_pos hc_2] at hf
        refine lv_iinc (v := x2 + 1) (lv' := [(2, .int (x2 + 1)), (0, .ref (q_p0 0)), (1, .int x1), (3, .int x3)]) hx hb dX2_refine_37 hl (k := 2) rfl rfl (by decide) rfl (fun ls hl => ?_)
        refine lv_goto (tgt := 4) hx hb dX2_refine_40 (by decide) ?_
        exact hk4 o_p0 x1 (x2 + 1) _ _ _ hP hD hS (lv_sub hl [1, 2, 0] rfl) hf
      · rw [if_neg hc_2] at hf
        refine lv_iload_n hx hb dX2_refine_22 rfl (lv_at hl 1 rfl) ?_
        refine lv_aload_n hx hb dX2_refine_23 rfl (lv_at hl 0 rfl) ?_
        refine lv_iload_n hx hb dX2_refine_24 rfl (lv_at hl 3 rfl) ?_
        refine lv_iload_n hx hb dX2_refine_25 rfl (lv_at hl 2 rfl) ?_
        obtain ⟨u_3, he_4, hf⟩ := os_bd hf
        refine mc_callS ⟨hx, hb, hml, hown, hts⟩ (mm_X2_refineCell l D kA N q_p0 o_p0 x3 x2 u_3 he_4) (va_cwS 3 hts gX2_refine_X2_refineCell rfl rfl rfl (by decide +kernel) ⟨Nat.le_of_ble_eq_true rfl, Nat.le_of_ble_eq_true rfl⟩) (wc := (ce_X5 kA q_p0 o_p0)) rfl hl.1 (As := [.ref (q_p0 0), .int x3, .int x2]) (rest := [.int x1]) rfl (Nat.le_of_ble_eq_true rfl) dX2_refine_26 ⟨Nat.le_of_ble_eq_true rfl, Nat.le_of_ble_eq_true rfl⟩ hK hP hD hS hA [0, 1, 2, 3] [] [0, 1, 2, 3] rfl (by decide) rfl (by decide) (by decide) rfl (by decide) (wr := []) (w2 := (ce_X5 kA q_p0 u_3.2)) (fun H locs hP hD hS => ?_)
        have hP : va_P D vwCl (ce_X5 kA q_p0 u_3.2) H := hP
        refine lv_iadd hx hb dX2_refine_29 ?_
        refine lv_istore_n (lv' := [(1, .int (x1 + u_3.1)), (0, .ref (q_p0 0)), (2, .int x2), (3, .int x3)]) hx hb dX2_refine_30 rfl hl (by decide) rfl (fun ls hl => ?_)
        refine lv_iinc (v := x3 + 1) (lv' := [(3, .int (x3 + 1)), (1, .int (x1 + u_3.1)), (0, .ref (q_p0 0)), (2, .int x2)]) hx hb dX2_refine_31 hl (k := 3) rfl rfl (by decide) rfl (fun ls hl => ?_)
        refine lv_goto (tgt := 14) hx hb dX2_refine_34 (by decide) ?_
        exact hk14 u_3.2 (x1 + u_3.1) x2 (x3 + 1) _ _ _ hP hD hS (lv_sub hl [2, 1, 3, 0] rfl) hf
  have hL4 : ∀ (n : Nat) (o_p0 : os_T) (x1 : Int32) (x2 : Int32) (H : Heap) (locs : List Loc) (ls : Array Slot), va_P D vwCl (ce_X5 kA q_p0 o_p0) H → va_D A (ce_X5 kA q_p0 o_p0) → va_S A s.heap H locs → lv_has ls 4 [(0, .ref (q_p0 0)), (1, .int x1), (2, .int x2)] → ff_X2_refine_l4 N n (o_p0, x1, x2) = some out → W p l e ({ frames := 4, cells := 0, slots := 0, locals := 100 } : Room) s m [.ref (q_p0 0)].toArray below meth c H locs 0 0 (MQ below (mc_Q D kA A (some (.int out.1)) (ce_X5 kA q_p0 out.2)) [.ref (q_p0 0)].toArray s 0 0 A) (F0 m 4 ls []) := by
    intro n
    induction n with
    | zero => intro o_p0 x1 x2 H locs ls _ _ _ _ hf; cases hf
    | succ n hk4 =>
      intro o_p0 x1 x2 H locs ls hP hD hS hl hf
      have hf : ff_X2_refine_c4 N (ff_X2_refine_l4 N n) o_p0 x1 x2 = some out := hf
      generalize hke : ff_X2_refine_l4 N n = k4 at hk4 hf
      unfold ff_X2_refine_c4 at hf
      refine lv_iload_n hx hb dX2_refine_4 rfl (lv_at hl 2 rfl) ?_
      refine lv_aload_n hx hb dX2_refine_5 rfl (lv_at hl 0 rfl) ?_
      refine va_get (D := D) (ci := 4) (v := .int (os_I o_p0 1)) (C := RX5) (T := TX5) (N := 10) hx hb hUX5 (fun _ h9 => h9) hown hK hP 0 rfl rfl 1 (by decide) (hts (Cond.fieldLink RX2 31 "ReliefBuilder$Panel" "rows" "I") (List.mem_of_getElem? (i := 1) rfl)) (fun _ h9 => h9) rfl dX2_refine_6 ?_
      refine lv_icmp_ge (tgt := 43) hx hb dX2_refine_9 (by decide) (fun hc_1 => ?_) (fun hc_1 => ?_)
      · rw [if_pos hc_1] at hf
        refine lv_iload_n hx hb dX2_refine_43 rfl (lv_at hl 1 rfl) ?_
        rw [← Option.some.inj hf]
        exact mc_reti hx hb hr hlk hP hK hD hS dX2_refine_44
      · rw [if_neg hc_1] at hf
        refine lv_iconst (v := 0) hx hb dX2_refine_12 (by decide) ?_
        refine lv_istore_n (lv' := [(3, .int (0 : Int32)), (0, .ref (q_p0 0)), (1, .int x1), (2, .int x2)]) hx hb dX2_refine_13 rfl hl (by decide) rfl (fun ls hl => ?_)
        exact hL14 k4 hk4 N o_p0 x1 x2 (0 : Int32) _ _ _ hP hD hS (lv_sub hl [1, 2, 3, 0] rfl) hf
  unfold ff_X2_refine at hf
  refine lv_iconst (v := 0) hx hb dX2_refine_0 (by decide) ?_
  refine lv_istore_n (lv' := [(1, .int (0 : Int32)), (0, .ref (q_p0 0))]) hx hb dX2_refine_1 rfl hl (by decide) rfl (fun ls hl => ?_)
  refine lv_iconst (v := 0) hx hb dX2_refine_2 (by decide) ?_
  refine lv_istore_n (lv' := [(2, .int (0 : Int32)), (1, .int (0 : Int32)), (0, .ref (q_p0 0))]) hx hb dX2_refine_3 rfl hl (by decide) rfl (fun ls hl => ?_)
  exact hL4 N o_p0 (0 : Int32) (0 : Int32) _ _ _ hP hD hS (lv_sub hl [2, 1, 0] rfl) hf
