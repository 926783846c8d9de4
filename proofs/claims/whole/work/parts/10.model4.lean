def ff_X13_groupAt_b35 (N : Nat) (o_this : os_T) : Option Int32 :=
  some (192 : Int32)
def ff_X13_groupAt (N : Nat) (o_this : os_T) (a1 : Int32) (a2 : Int32) (a3 : Int32) (a4 : Int32) : Option Int32 :=
  ((ff_X13_isCell N o_this a1 a2).bind fun u_1 => (if u_1 = 0 then ff_X13_groupAt_b35 N o_this else ((ff_X13_isOf N o_this a4 a1 a2).bind fun u_4 => (if u_4 = a3 then (if os_in (((16 : Int32) * a2) + a1) 192 then some ((os_A o_this 9) (Int32.toNatClampNeg (((16 : Int32) * a2) + a1))) else none) else ff_X13_groupAt_b35 N o_this))))
set_option maxHeartbeats 4000000 in
set_option maxRecDepth 100000 in
theorem mm_X13_groupAt (l : Launch) (D : va_G) (kA : Nat → ClassId) (N : Nat) (q_this : Nat → Nat) (o_this : os_T) (a1 : Int32) (a2 : Int32) (a3 : Int32) (a4 : Int32) (out : Int32) (hf : ff_X13_groupAt N o_this a1 a2 a3 a4 = some out) : mc_C l D kA yX13_groupAt wsX13_groupAt ({ frames := 3, cells := 0, slots := 0, locals := 70 } : Room) [.ref (q_this 0), .int a1, .int a2, .int a3, .int a4] (ce_X13 kA q_this o_this) (some (.int out)) (ce_X13 kA q_this o_this) := by
  refine mc_of (cc := cX13_groupAt) (maxL := 5) (ret := (some .int)) (by decide) rfl (Nat.le_of_ble_eq_true rfl) ?_
  intro p e s m below meth c A B hD hP hS ls hl
  obtain ⟨hx, hb, hr, hlk, hml, hown, hts, hK, hA, hnm⟩ := B
  have hown : s.vm.findClass RX13 = some m.cls := hown
  have hl : lv_has ls 5 [(0, .ref (q_this 0)), (1, .int a1), (2, .int a2), (3, .int a3), (4, .int a4)] := hl
  have hUX13 : ∀ w ∈ u_ws RX13 TX13 48, w.before [.ref (q_this 0), .int a1, .int a2, .int a3, .int a4].toArray s = true := fun w h => hts w (List.mem_cons_of_mem _ (List.mem_append_right _ h))
  have hB35 : ∀ (H : Heap) (locs : List Loc) (ls : Array Slot), va_P D vwCl (ce_X13 kA q_this o_this) H → va_D A (ce_X13 kA q_this o_this) → va_S A s.heap H locs → lv_has ls 5 [] → ff_X13_groupAt_b35 N o_this = some out → W p l e ({ frames := 3, cells := 0, slots := 0, locals := 70 } : Room) s m [.ref (q_this 0), .int a1, .int a2, .int a3, .int a4].toArray below meth c H locs 0 0 (MQ below (mc_Q D kA A (some (.int out)) (ce_X13 kA q_this o_this)) [.ref (q_this 0), .int a1, .int a2, .int a3, .int a4].toArray s 0 0 A) (F0 m 35 ls []) := by
    intro H locs ls hP hD hS hl hf
    unfold ff_X13_groupAt_b35 at hf
    refine lv_sipush (v := 192) hx hb dX13_groupAt_35 (by decide) ?_
    rw [← Option.some.inj hf]
    exact mc_reti hx hb hr hlk hP hK hD hS dX13_groupAt_38
  unfold ff_X13_groupAt at hf
  refine lv_aload_n hx hb dX13_groupAt_0 rfl (lv_at hl 0 rfl) ?_
  refine lv_iload_n hx hb dX13_groupAt_1 rfl (lv_at hl 1 rfl) ?_
  refine lv_iload_n hx hb dX13_groupAt_2 rfl (lv_at hl 2 rfl) ?_
  obtain ⟨u_1, he_2, hf⟩ := os_bd hf
  refine mc_callV ⟨hx, hb, hml, hown, hts⟩ (mm_X13_isCell l D kA N q_this o_this a1 a2 u_1 he_2) (cwV 2 hts gX13_groupAt_X13_isCell rfl rfl rfl (by decide +kernel) ⟨Nat.le_of_ble_eq_true rfl, Nat.le_of_ble_eq_true rfl⟩) (wc := (ce_X13 kA q_this o_this)) (ci := 9) (q0 := 0) rfl rfl rfl hl.1 (As := [.int a1, .int a2]) (rest := []) rfl (Nat.le_of_ble_eq_true rfl) dX13_groupAt_3 ⟨Nat.le_of_ble_eq_true rfl, Nat.le_of_ble_eq_true rfl⟩ hK hP hD hS hA [0, 1, 2, 3, 4, 5, 6, 7, 8, 9, 10, 11, 12, 13, 14, 15, 16, 17, 18, 19, 20, 21, 22, 23] [] [0, 1, 2, 3, 4, 5, 6, 7, 8, 9, 10, 11, 12, 13, 14, 15, 16, 17, 18, 19, 20, 21, 22, 23] rfl (by decide) rfl (by decide) (by decide) rfl (by decide) (wr := []) (w2 := (ce_X13 kA q_this o_this)) (fun H locs hP hD hS => ?_)
  have hP : va_P D vwCl (ce_X13 kA q_this o_this) H := hP
  refine lv_if_eq (tgt := 35) hx hb dX13_groupAt_6 (by decide) (fun hc_3 => ?_) (fun hc_3 => ?_)
  · rw [if_pos hc_3] at hf
    exact hB35 _ _ _ hP hD hS (lv_sub hl [] rfl) hf
  · rw [if_neg hc_3] at hf
    refine lv_aload_n hx hb dX13_groupAt_9 rfl (lv_at hl 0 rfl) ?_
    refine lv_iload hx hb dX13_groupAt_10 (lv_at hl 4 rfl) ?_
    refine lv_iload_n hx hb dX13_groupAt_12 rfl (lv_at hl 1 rfl) ?_
    refine lv_iload_n hx hb dX13_groupAt_13 rfl (lv_at hl 2 rfl) ?_
    obtain ⟨u_4, he_5, hf⟩ := os_bd hf
    refine mc_callV ⟨hx, hb, hml, hown, hts⟩ (mm_X13_isOf l D kA N q_this o_this a4 a1 a2 u_4 he_5) (cwV 3 hts gX13_groupAt_X13_isOf rfl rfl rfl (by decide +kernel) ⟨Nat.le_of_ble_eq_true rfl, Nat.le_of_ble_eq_true rfl⟩) (wc := (ce_X13 kA q_this o_this)) (ci := 9) (q0 := 0) rfl rfl rfl hl.1 (As := [.int a4, .int a1, .int a2]) (rest := []) rfl (Nat.le_of_ble_eq_true rfl) dX13_groupAt_14 ⟨Nat.le_of_ble_eq_true rfl, Nat.le_of_ble_eq_true rfl⟩ hK hP hD hS hA [0, 1, 2, 3, 4, 5, 6, 7, 8, 9, 10, 11, 12, 13, 14, 15, 16, 17, 18, 19, 20, 21, 22, 23] [] [0, 1, 2, 3, 4, 5, 6, 7, 8, 9, 10, 11, 12, 13, 14, 15, 16, 17, 18, 19, 20, 21, 22, 23] rfl (by decide) rfl (by decide) (by decide) rfl (by decide) (wr := []) (w2 := (ce_X13 kA q_this o_this)) (fun H locs hP hD hS => ?_)
    have hP : va_P D vwCl (ce_X13 kA q_this o_this) H := hP
    refine lv_iload_n hx hb dX13_groupAt_17 rfl (lv_at hl 3 rfl) ?_
    refine lv_icmp_ne (tgt := 35) hx hb dX13_groupAt_18 (by decide) (fun hc_6 => ?_) (fun hc_6 => ?_)
    · rw [if_neg hc_6] at hf
      exact hB35 _ _ _ hP hD hS (lv_sub hl [] rfl) hf
    · rw [if_pos hc_6] at hf
      refine lv_aload_n hx hb dX13_groupAt_21 rfl (lv_at hl 0 rfl) ?_
      refine va_get (D := D) (ci := 9) (v := .ref (q_this 10)) (C := RX13) (T := TX13) (N := 48) hx hb hUX13 (fun _ h9 => h9) hown hK hP 0 rfl rfl 27 (by decide) (hts (Cond.fieldLink RX13 45 "ReliefBuilderModel" "group" "[I") (List.mem_of_getElem? (i := 1) rfl)) (fun _ h9 => h9) rfl dX13_groupAt_22 ?_
      refine lv_bipush (v := 16) hx hb dX13_groupAt_25 (by decide) ?_
      refine lv_iload_n hx hb dX13_groupAt_27 rfl (lv_at hl 2 rfl) ?_
      refine lv_imul hx hb dX13_groupAt_28 ?_
      refine lv_iload_n hx hb dX13_groupAt_29 rfl (lv_at hl 1 rfl) ?_
      refine lv_iadd hx hb dX13_groupAt_30 ?_
      obtain ⟨hi_7, hf⟩ := os_if hf
      refine va_iald hx hb hK hP 10 0 rfl rfl hi_7 dX13_groupAt_31 ?_
      refine lv_goto (tgt := 38) hx hb dX13_groupAt_32 (by decide) ?_
      rw [← Option.some.inj hf]
      exact mc_reti hx hb hr hlk hP hK hD hS dX13_groupAt_38
def ff_X13_groups_b198 (N : Nat) (k24 : (os_T × Int32 × Int32 × Int32) → Option os_T) (k33 : (os_T × Int32 × Int32 × Int32 × Int32) → Option os_T) (o_this : os_T) (x1 : Int32) (x2 : Int32) (x3 : Int32) (x4 : Int32) : Option os_T :=
  k33 (o_this, x1, x2, x3, x4 + 1)
def ff_X13_groups_b166 (N : Nat) (k24 : (os_T × Int32 × Int32 × Int32) → Option os_T) (k33 : (os_T × Int32 × Int32 × Int32 × Int32) → Option os_T) (o_this : os_T) (x1 : Int32) (x2 : Int32) (x4 : Int32) (x5 : Int32) (x6 : Int32) (x7 : Int32) (t0 : Int32) : Option os_T :=
  (if os_in (((16 : Int32) * x6) + x5) 192 then ((ff_X13_less N x7 ((os_A o_this 9) (Int32.toNatClampNeg (((16 : Int32) * x6) + x5)))).bind fun u_32 => (if os_in (((16 : Int32) * x6) + x5) 192 then ff_X13_groups_b198 N k24 k33 (ss_A o_this 9 (upd (os_A o_this 9) (Int32.toNatClampNeg (((16 : Int32) * x6) + x5)) u_32)) x1 x2 t0 x4 else none)) else none)
def ff_X13_groups_b161 (N : Nat) (k24 : (os_T × Int32 × Int32 × Int32) → Option os_T) (k33 : (os_T × Int32 × Int32 × Int32 × Int32) → Option os_T) (o_this : os_T) (x1 : Int32) (x2 : Int32) (x4 : Int32) (x5 : Int32) (x6 : Int32) (x7 : Int32) : Option os_T :=
  ff_X13_groups_b166 N k24 k33 o_this x1 x2 x4 x5 x6 x7 (1 : Int32)
def ff_X13_groups_c33 (N : Nat) (k24 : (os_T × Int32 × Int32 × Int32) → Option os_T) (k33 : (os_T × Int32 × Int32 × Int32 × Int32) → Option os_T) (o_this : os_T) (x1 : Int32) (x2 : Int32) (x3 : Int32) (x4 : Int32) : Option os_T :=
  ((ff_X13_cellMany N o_this).bind fun u_4 => (if u_4 ≤ x4 then k24 (o_this, x1, x2, x3) else (if os_in (0 : Int32) 7 then (if ¬ ((os_A o_this 1) (Int32.toNatClampNeg (0 : Int32))) = 0 then (if os_in (0 : Int32) 7 then (if ¬ ((os_A o_this 1) (Int32.toNatClampNeg (0 : Int32))) = 0 then ((ff_X13_isOf N o_this x1 (x4 - x4 / ((os_A o_this 1) (Int32.toNatClampNeg (0 : Int32))) * ((os_A o_this 1) (Int32.toNatClampNeg (0 : Int32)))) (x4 / ((os_A o_this 1) (Int32.toNatClampNeg (0 : Int32))))).bind fun u_11 => (if u_11 = x2 then ((ff_X13_groupAt N o_this ((x4 - x4 / ((os_A o_this 1) (Int32.toNatClampNeg (0 : Int32))) * ((os_A o_this 1) (Int32.toNatClampNeg (0 : Int32)))) - (1 : Int32)) (x4 / ((os_A o_this 1) (Int32.toNatClampNeg (0 : Int32)))) x2 x1).bind fun u_14 => ((ff_X13_groupAt N o_this ((x4 - x4 / ((os_A o_this 1) (Int32.toNatClampNeg (0 : Int32))) * ((os_A o_this 1) (Int32.toNatClampNeg (0 : Int32)))) + (1 : Int32)) (x4 / ((os_A o_this 1) (Int32.toNatClampNeg (0 : Int32)))) x2 x1).bind fun u_16 => ((ff_X13_less N u_14 u_16).bind fun u_18 => ((ff_X13_groupAt N o_this (x4 - x4 / ((os_A o_this 1) (Int32.toNatClampNeg (0 : Int32))) * ((os_A o_this 1) (Int32.toNatClampNeg (0 : Int32)))) ((x4 / ((os_A o_this 1) (Int32.toNatClampNeg (0 : Int32)))) - (1 : Int32)) x2 x1).bind fun u_20 => ((ff_X13_groupAt N o_this (x4 - x4 / ((os_A o_this 1) (Int32.toNatClampNeg (0 : Int32))) * ((os_A o_this 1) (Int32.toNatClampNeg (0 : Int32)))) ((x4 / ((os_A o_this 1) (Int32.toNatClampNeg (0 : Int32)))) + (1 : Int32)) x2 x1).bind fun u_22 => ((ff_X13_less N u_20 u_22).bind fun u_24 => ((ff_X13_less N u_18 u_24).bind fun u_26 => (if x3 = 0 then (if os_in (((16 : Int32) * (x4 / ((os_A o_this 1) (Int32.toNatClampNeg (0 : Int32))))) + (x4 - x4 / ((os_A o_this 1) (Int32.toNatClampNeg (0 : Int32))) * ((os_A o_this 1) (Int32.toNatClampNeg (0 : Int32))))) 192 then (if ((os_A o_this 9) (Int32.toNatClampNeg (((16 : Int32) * (x4 / ((os_A o_this 1) (Int32.toNatClampNeg (0 : Int32))))) + (x4 - x4 / ((os_A o_this 1) (Int32.toNatClampNeg (0 : Int32))) * ((os_A o_this 1) (Int32.toNatClampNeg (0 : Int32))))))) ≤ u_26 then ff_X13_groups_b166 N k24 k33 o_this x1 x2 x4 (x4 - x4 / ((os_A o_this 1) (Int32.toNatClampNeg (0 : Int32))) * ((os_A o_this 1) (Int32.toNatClampNeg (0 : Int32)))) (x4 / ((os_A o_this 1) (Int32.toNatClampNeg (0 : Int32)))) u_26 (0 : Int32) else ff_X13_groups_b161 N k24 k33 o_this x1 x2 x4 (x4 - x4 / ((os_A o_this 1) (Int32.toNatClampNeg (0 : Int32))) * ((os_A o_this 1) (Int32.toNatClampNeg (0 : Int32)))) (x4 / ((os_A o_this 1) (Int32.toNatClampNeg (0 : Int32)))) u_26) else none) else ff_X13_groups_b161 N k24 k33 o_this x1 x2 x4 (x4 - x4 / ((os_A o_this 1) (Int32.toNatClampNeg (0 : Int32))) * ((os_A o_this 1) (Int32.toNatClampNeg (0 : Int32)))) (x4 / ((os_A o_this 1) (Int32.toNatClampNeg (0 : Int32)))) u_26)))))))) else ff_X13_groups_b198 N k24 k33 o_this x1 x2 x3 x4)) else none) else none) else none) else none)))
def ff_X13_groups_l33 (N : Nat) (k24 : (os_T × Int32 × Int32 × Int32) → Option os_T) : Nat → (os_T × Int32 × Int32 × Int32 × Int32) → Option os_T := os_loop (fun k33 s1 => ff_X13_groups_c33 N k24 k33 s1.1 s1.2.1 s1.2.2.1 s1.2.2.2.1 s1.2.2.2.2)
def ff_X13_groups_c24 (N : Nat) (k24 : (os_T × Int32 × Int32 × Int32) → Option os_T) (o_this : os_T) (x1 : Int32) (x2 : Int32) (x3 : Int32) : Option os_T :=
  (if x3 = 0 then some o_this else ff_X13_groups_l33 N k24 N (o_this, x1, x2, (0 : Int32), (0 : Int32)))
def ff_X13_groups_l24 (N : Nat) : Nat → (os_T × Int32 × Int32 × Int32) → Option os_T := os_loop (fun k24 s1 => ff_X13_groups_c24 N k24 s1.1 s1.2.1 s1.2.2.1 s1.2.2.2)
def ff_X13_groups_c2 (N : Nat) (k2 : (os_T × Int32 × Int32 × Int32) → Option os_T) (o_this : os_T) (x1 : Int32) (x2 : Int32) (x3 : Int32) : Option os_T :=
  (if (192 : Int32) ≤ x3 then ff_X13_groups_l24 N N (o_this, x1, x2, (1 : Int32)) else (if os_in x3 192 then k2 (ss_A o_this 9 (upd (os_A o_this 9) (Int32.toNatClampNeg x3) x3), x1, x2, x3 + 1) else none))
def ff_X13_groups_l2 (N : Nat) : Nat → (os_T × Int32 × Int32 × Int32) → Option os_T := os_loop (fun k2 s1 => ff_X13_groups_c2 N k2 s1.1 s1.2.1 s1.2.2.1 s1.2.2.2)
def ff_X13_groups (N : Nat) (o_this : os_T) (a1 : Int32) (a2 : Int32) : Option os_T :=
  ff_X13_groups_l2 N N (o_this, a1, a2, (0 : Int32))
set_option maxHeartbeats 4000000 in
set_option maxRecDepth 100000 in
theorem mm_X13_groups (l : Launch) (D : va_G) (kA : Nat → ClassId) (N : Nat) (q_this : Nat → Nat) (o_this : os_T) (a1 : Int32) (a2 : Int32) (out : os_T) (hf : ff_X13_groups N o_this a1 a2 = some out) : mc_C l D kA yX13_groups wsX13_groups ({ frames := 4, cells := 0, slots := 0, locals := 94 } : Room) [.ref (q_this 0), .int a1, .int a2] (ce_X13 kA q_this o_this) none (ce_X13 kA q_this out) := by
  refine mc_of (cc := cX13_groups) (maxL := 8) (ret := none) (by decide) rfl (Nat.le_of_ble_eq_true rfl) ?_
  intro p e s m below meth c A B hD hP hS ls hl
  obtain ⟨hx, hb, hr, hlk, hml, hown, hts, hK, hA, hnm⟩ := B
  have hown : s.vm.findClass RX13 = some m.cls := hown
  have hl : lv_has ls 8 [(0, .ref (q_this 0)), (1, .int a1), (2, .int a2)] := hl
  have hUX13 : ∀ w ∈ u_ws RX13 TX13 48, w.before [.ref (q_this 0), .int a1, .int a2].toArray s = true := fun w h => hts w (List.mem_cons_of_mem _ (List.mem_append_right _ h))
  have hB198 : ∀ (k24 : (os_T × Int32 × Int32 × Int32) → Option os_T), (∀ (o_this : os_T) (x1 : Int32) (x2 : Int32) (x3 : Int32) (H : Heap) (locs : List Loc) (ls : Array Slot), va_P D vwCl (ce_X13 kA q_this o_this) H → va_D A (ce_X13 kA q_this o_this) → va_S A s.heap H locs → lv_has ls 8 [(0, .ref (q_this 0)), (1, .int x1), (2, .int x2), (3, .int x3)] → k24 (o_this, x1, x2, x3) = some out → W p l e ({ frames := 4, cells := 0, slots := 0, locals := 94 } : Room) s m [.ref (q_this 0), .int a1, .int a2].toArray below meth c H locs 0 0 (MQ below (mc_Q D kA A none (ce_X13 kA q_this out)) [.ref (q_this 0), .int a1, .int a2].toArray s 0 0 A) (F0 m 24 ls [])) → ∀ (k33 : (os_T × Int32 × Int32 × Int32 × Int32) → Option os_T), (∀ (o_this : os_T) (x1 : Int32) (x2 : Int32) (x3 : Int32) (x4 : Int32) (H : Heap) (locs : List Loc) (ls : Array Slot), va_P D vwCl (ce_X13 kA q_this o_this) H → va_D A (ce_X13 kA q_this o_this) → va_S A s.heap H locs → lv_has ls 8 [(0, .ref (q_this 0)), (1, .int x1), (2, .int x2), (3, .int x3), (4, .int x4)] → k33 (o_this, x1, x2, x3, x4) = some out → W p l e ({ frames := 4, cells := 0, slots := 0, locals := 94 } : Room) s m [.ref (q_this 0), .int a1, .int a2].toArray below meth c H locs 0 0 (MQ below (mc_Q D kA A none (ce_X13 kA q_this out)) [.ref (q_this 0), .int a1, .int a2].toArray s 0 0 A) (F0 m 33 ls [])) → ∀ (o_this : os_T) (x1 : Int32) (x2 : Int32) (x3 : Int32) (x4 : Int32) (H : Heap) (locs : List Loc) (ls : Array Slot), va_P D vwCl (ce_X13 kA q_this o_this) H → va_D A (ce_X13 kA q_this o_this) → va_S A s.heap H locs → lv_has ls 8 [(0, .ref (q_this 0)), (1, .int x1), (2, .int x2), (3, .int x3), (4, .int x4)] → ff_X13_groups_b198 N k24 k33 o_this x1 x2 x3 x4 = some out → W p l e ({ frames := 4, cells := 0, slots := 0, locals := 94 } : Room) s m [.ref (q_this 0), .int a1, .int a2].toArray below meth c H locs 0 0 (MQ below (mc_Q D kA A none (ce_X13 kA q_this out)) [.ref (q_this 0), .int a1, .int a2].toArray s 0 0 A) (F0 m 198 ls []) := by
    intro k24 hk24 k33 hk33 o_this x1 x2 x3 x4 H locs ls hP hD hS hl hf
    unfold ff_X13_groups_b198 at hf
    refine lv_iinc (v := x4 + 1) (lv' := [(4, .int (x4 + 1)), (0, .ref (q_this 0)), (1, .int x1), (2, .int x2), (3, .int x3)]) hx hb dX13_groups_198 hl (k := 4) rfl rfl (by decide) rfl (fun ls hl => ?_)
    refine lv_goto (tgt := 33) hx hb dX13_groups_201 (by decide) ?_
    exact hk33 o_this x1 x2 x3 (x4 + 1) _ _ _ hP hD hS (lv_sub hl [1, 2, 3, 4, 0] rfl) hf
  have hB166 : ∀ (k24 : (os_T × Int32 × Int32 × Int32) → Option os_T), (∀ (o_this : os_T) (x1 : Int32) (x2 : Int32) (x3 : Int32) (H : Heap) (locs : List Loc) (ls : Array Slot), va_P D vwCl (ce_X13 kA q_this o_this) H → va_D A (ce_X13 kA q_this o_this) → va_S A s.heap H locs → lv_has ls 8 [(0, .ref (q_this 0)), (1, .int x1), (2, .int x2), (3, .int x3)] → k24 (o_this, x1, x2, x3) = some out → W p l e ({ frames := 4, cells := 0, slots := 0, locals := 94 } : Room) s m [.ref (q_this 0), .int a1, .int a2].toArray below meth c H locs 0 0 (MQ below (mc_Q D kA A none (ce_X13 kA q_this out)) [.ref (q_this 0), .int a1, .int a2].toArray s 0 0 A) (F0 m 24 ls [])) → ∀ (k33 : (os_T × Int32 × Int32 × Int32 × Int32) → Option os_T), (∀ (o_this : os_T) (x1 : Int32) (x2 : Int32) (x3 : Int32) (x4 : Int32) (H : Heap) (locs : List Loc) (ls : Array Slot), va_P D vwCl (ce_X13 kA q_this o_this) H → va_D A (ce_X13 kA q_this o_this) → va_S A s.heap H locs → lv_has ls 8 [(0, .ref (q_this 0)), (1, .int x1), (2, .int x2), (3, .int x3), (4, .int x4)] → k33 (o_this, x1, x2, x3, x4) = some out → W p l e ({ frames := 4, cells := 0, slots := 0, locals := 94 } : Room) s m [.ref (q_this 0), .int a1, .int a2].toArray below meth c H locs 0 0 (MQ below (mc_Q D kA A none (ce_X13 kA q_this out)) [.ref (q_this 0), .int a1, .int a2].toArray s 0 0 A) (F0 m 33 ls [])) → ∀ (o_this : os_T) (x1 : Int32) (x2 : Int32) (x4 : Int32) (x5 : Int32) (x6 : Int32) (x7 : Int32) (t0 : Int32) (H : Heap) (locs : List Loc) (ls : Array Slot), va_P D vwCl (ce_X13 kA q_this o_this) H → va_D A (ce_X13 kA q_this o_this) → va_S A s.heap H locs → lv_has ls 8 [(0, .ref (q_this 0)), (1, .int x1), (2, .int x2), (4, .int x4), (5, .int x5), (6, .int x6), (7, .int x7)] → ff_X13_groups_b166 N k24 k33 o_this x1 x2 x4 x5 x6 x7 t0 = some out → W p l e ({ frames := 4, cells := 0, slots := 0, locals := 94 } : Room) s m [.ref (q_this 0), .int a1, .int a2].toArray below meth c H locs 0 0 (MQ below (mc_Q D kA A none (ce_X13 kA q_this out)) [.ref (q_this 0), .int a1, .int a2].toArray s 0 0 A) (F0 m 166 ls [.int t0]) := by
    intro k24 hk24 k33 hk33 o_this x1 x2 x4 x5 x6 x7 t0 H locs ls hP hD hS hl hf
    unfold ff_X13_groups_b166 at hf
    refine lv_istore_n (lv' := [(3, .int t0), (0, .ref (q_this 0)), (1, .int x1), (2, .int x2), (4, .int x4), (5, .int x5), (6, .int x6), (7, .int x7)]) hx hb dX13_groups_166 rfl hl (by decide) rfl (fun ls hl => ?_)
    refine lv_aload_n hx hb dX13_groups_167 rfl (lv_at hl 1 rfl) ?_
    refine va_get (D := D) (ci := 9) (v := .ref (q_this 10)) (C := RX13) (T := TX13) (N := 48) hx hb hUX13 (fun _ h9 => h9) hown hK hP 0 rfl rfl 27 (by decide) (hts (Cond.fieldLink RX13 45 "ReliefBuilderModel" "group" "[I") (List.mem_of_getElem? (i := 1) rfl)) (fun _ h9 => h9) rfl dX13_groups_168 ?_
    refine lv_bipush (v := 16) hx hb dX13_groups_171 (by decide) ?_
    refine lv_iload hx hb dX13_groups_173 (lv_at hl 6 rfl) ?_
    refine lv_imul hx hb dX13_groups_175 ?_
    refine lv_iload hx hb dX13_groups_176 (lv_at hl 5 rfl) ?_
    refine lv_iadd hx hb dX13_groups_178 ?_
    refine lv_iload hx hb dX13_groups_179 (lv_at hl 7 rfl) ?_
    refine lv_aload_n hx hb dX13_groups_181 rfl (lv_at hl 1 rfl) ?_
    refine va_get (D := D) (ci := 9) (v := .ref (q_this 10)) (C := RX13) (T := TX13) (N := 48) hx hb hUX13 (fun _ h9 => h9) hown hK hP 0 rfl rfl 27 (by decide) (hts (Cond.fieldLink RX13 45 "ReliefBuilderModel" "group" "[I") (List.mem_of_getElem? (i := 1) rfl)) (fun _ h9 => h9) rfl dX13_groups_182 ?_
    refine lv_bipush (v := 16) hx hb dX13_groups_185 (by decide) ?_
    refine lv_iload hx hb dX13_groups_187 (lv_at hl 6 rfl) ?_
    refine lv_imul hx hb dX13_groups_189 ?_
    refine lv_iload hx hb dX13_groups_190 (lv_at hl 5 rfl) ?_
    refine lv_iadd hx hb dX13_groups_192 ?_
    obtain ⟨hi_31, hf⟩ := os_if hf
    refine va_iald hx hb hK hP 10 0 rfl rfl hi_31 dX13_groups_193 ?_
    obtain ⟨u_32, he_33, hf⟩ := os_bd hf
    refine mc_callS ⟨hx, hb, hml, hown, hts⟩ (mm_X13_less l D kA N x7 ((os_A o_this 9) (Int32.toNatClampNeg (((16 : Int32) * x6) + x5))) u_32 he_33) (va_cwS 2 hts gX13_groups_X13_less rfl rfl rfl (by decide +kernel) ⟨Nat.le_of_ble_eq_true rfl, Nat.le_of_ble_eq_true rfl⟩) (wc := []) rfl hl.1 (As := [.int x7, .int ((os_A o_this 9) (Int32.toNatClampNeg (((16 : Int32) * x6) + x5)))]) (rest := [.int (((16 : Int32) * x6) + x5), .ref (q_this 10)]) rfl (Nat.le_of_ble_eq_true rfl) dX13_groups_194 ⟨Nat.le_of_ble_eq_true rfl, Nat.le_of_ble_eq_true rfl⟩ hK hP hD hS hA [] [0, 1, 2, 3, 4, 5, 6, 7, 8, 9, 10, 11, 12, 13, 14, 15, 16, 17, 18, 19, 20, 21, 22, 23] [0, 1, 2, 3, 4, 5, 6, 7, 8, 9, 10, 11, 12, 13, 14, 15, 16, 17, 18, 19, 20, 21, 22, 23] rfl (by decide) rfl (by decide) (by decide) rfl (by decide) (wr := (ce_X13 kA q_this o_this)) (w2 := (ce_X13 kA q_this o_this)) (fun H locs hP hD hS => ?_)
    have hP : va_P D vwCl (ce_X13 kA q_this o_this) H := hP
    obtain ⟨hi_34, hf⟩ := os_if hf
    refine va_iast hx hb hK hP hD hS 10 0 rfl rfl hi_34 dX13_groups_197 (fun H locs hP hD hS => ?_)
    have hP : va_P D vwCl (ce_X13 kA q_this (ss_A o_this 9 (upd (os_A o_this 9) (Int32.toNatClampNeg (((16 : Int32) * x6) + x5)) u_32))) H := hP
    have hD : va_D A (ce_X13 kA q_this (ss_A o_this 9 (upd (os_A o_this 9) (Int32.toNatClampNeg (((16 : Int32) * x6) + x5)) u_32))) := hD
    exact hB198 k24 hk24 k33 hk33 (ss_A o_this 9 (upd (os_A o_this 9) (Int32.toNatClampNeg (((16 : Int32) * x6) + x5)) u_32)) x1 x2 t0 x4 _ _ _ hP hD hS (lv_sub hl [1, 2, 3, 0, 4] rfl) hf
  have hB161 : ∀ (k24 : (os_T × Int32 × Int32 × Int32) → Option os_T), (∀ (o_this : os_T) (x1 : Int32) (x2 : Int32) (x3 : Int32) (H : Heap) (locs : List Loc) (ls : Array Slot), va_P D vwCl (ce_X13 kA q_this o_this) H → va_D A (ce_X13 kA q_this o_this) → va_S A s.heap H locs → lv_has ls 8 [(0, .ref (q_this 0)), (1, .int x1), (2, .int x2), (3, .int x3)] → k24 (o_this, x1, x2, x3) = some out → W p l e ({ frames := 4, cells := 0, slots := 0, locals := 94 } : Room) s m [.ref (q_this 0), .int a1, .int a2].toArray below meth c H locs 0 0 (MQ below (mc_Q D kA A none (ce_X13 kA q_this out)) [.ref (q_this 0), .int a1, .int a2].toArray s 0 0 A) (F0 m 24 ls [])) → ∀ (k33 : (os_T × Int32 × Int32 × Int32 × Int32) → Option os_T), (∀ (o_this : os_T) (x1 : Int32) (x2 : Int32) (x3 : Int32) (x4 : Int32) (H : Heap) (locs : List Loc) (ls : Array Slot), va_P D vwCl (ce_X13 kA q_this o_this) H → va_D A (ce_X13 kA q_this o_this) → va_S A s.heap H locs → lv_has ls 8 [(0, .ref (q_this 0)), (1, .int x1), (2, .int x2), (3, .int x3), (4, .int x4)] → k33 (o_this, x1, x2, x3, x4) = some out → W p l e ({ frames := 4, cells := 0, slots := 0, locals := 94 } : Room) s m [.ref (q_this 0), .int a1, .int a2].toArray below meth c H locs 0 0 (MQ below (mc_Q D kA A none (ce_X13 kA q_this out)) [.ref (q_this 0), .int a1, .int a2].toArray s 0 0 A) (F0 m 33 ls [])) → ∀ (o_this : os_T) (x1 : Int32) (x2 : Int32) (x4 : Int32) (x5 : Int32) (x6 : Int32) (x7 : Int32) (H : Heap) (locs : List Loc) (ls : Array Slot), va_P D vwCl (ce_X13 kA q_this o_this) H → va_D A (ce_X13 kA q_this o_this) → va_S A s.heap H locs → lv_has ls 8 [(0, .ref (q_this 0)), (1, .int x1), (2, .int x2), (4, .int x4), (5, .int x5), (6, .int x6), (7, .int x7)] → ff_X13_groups_b161 N k24 k33 o_this x1 x2 x4 x5 x6 x7 = some out → W p l e ({ frames := 4, cells := 0, slots := 0, locals := 94 } : Room) s m [.ref (q_this 0), .int a1, .int a2].toArray below meth c H locs 0 0 (MQ below (mc_Q D kA A none (ce_X13 kA q_this out)) [.ref (q_this 0), .int a1, .int a2].toArray s 0 0 A) (F0 m 161 ls []) := by
    intro k24 hk24 k33 hk33 o_this x1 x2 x4 x5 x6 x7 H locs ls hP hD hS hl hf
    unfold ff_X13_groups_b161 at hf
    refine lv_iconst (v := 1) hx hb dX13_groups_161 (by decide) ?_
    refine lv_goto (tgt := 166) hx hb dX13_groups_162 (by decide) ?_
    exact hB166 k24 hk24 k33 hk33 o_this x1 x2 x4 x5 x6 x7 (1 : Int32) _ _ _ hP hD hS (lv_sub hl [0, 1, 2, 3, 4, 5, 6] rfl) hf
  have hL33 : ∀ (k24 : (os_T × Int32 × Int32 × Int32) → Option os_T), (∀ (o_this : os_T) (x1 : Int32) (x2 : Int32) (x3 : Int32) (H : Heap) (locs : List Loc) (ls : Array Slot), va_P D vwCl (ce_X13 kA q_this o_this) H → va_D A (ce_X13 kA q_this o_this) → va_S A s.heap H locs → lv_has ls 8 [(0, .ref (q_this 0)), (1, .int x1), (2, .int x2), (3, .int x3)] → k24 (o_this, x1, x2, x3) = some out → W p l e ({ frames := 4, cells := 0, slots := 0, locals := 94 } : Room) s m [.ref (q_this 0), .int a1, .int a2].toArray below meth c H locs 0 0 (MQ below (mc_Q D kA A none (ce_X13 kA q_this out)) [.ref (q_this 0), .int a1, .int a2].toArray s 0 0 A) (F0 m 24 ls [])) → ∀ (n : Nat) (o_this : os_T) (x1 : Int32) (x2 : Int32) (x3 : Int32) (x4 : Int32) (H : Heap) (locs : List Loc) (ls : Array Slot), va_P D vwCl (ce_X13 kA q_this o_this) H → va_D A (ce_X13 kA q_this o_this) → va_S A s.heap H locs → lv_has ls 8 [(0, .ref (q_this 0)), (1, .int x1), (2, .int x2), (3, .int x3), (4, .int x4)] → ff_X13_groups_l33 N k24 n (o_this, x1, x2, x3, x4) = some out → W p l e ({ frames := 4, cells := 0, slots := 0, locals := 94 } : Room) s m [.ref (q_this 0), .int a1, .int a2].toArray below meth c H locs 0 0 (MQ below (mc_Q D kA A none (ce_X13 kA q_this out)) [.ref (q_this 0), .int a1, .int a2].toArray s 0 0 A) (F0 m 33 ls []) := by
    intro k24 hk24 n
    induction n with
    | zero => intro o_this x1 x2 x3 x4 H locs ls _ _ _ _ hf; cases hf
    | succ n hk33 =>
      intro o_this x1 x2 x3 x4 H locs ls hP hD hS hl hf
      have hf : ff_X13_groups_c33 N k24 (ff_X13_groups_l33 N k24 n) o_this x1 x2 x3 x4 = some out := hf
      generalize hke : ff_X13_groups_l33 N k24 n = k33 at hk33 hf
      unfold ff_X13_groups_c33 at hf
      refine lv_iload hx hb dX13_groups_33 (lv_at hl 4 rfl) ?_
      refine lv_aload_n hx hb dX13_groups_35 rfl (lv_at hl 0 rfl) ?_
      obtain ⟨u_4, he_5, hf⟩ := os_bd hf
      refine mc_callV ⟨hx, hb, hml, hown, hts⟩ (mm_X13_cellMany l D kA N q_this o_this u_4 he_5) (cwV 0 hts gX13_groups_X13_cellMany rfl rfl rfl (by decide +kernel) ⟨Nat.le_of_ble_eq_true rfl, Nat.le_of_ble_eq_true rfl⟩) (wc := (ce_X13 kA q_this o_this)) (ci := 9) (q0 := 0) rfl rfl rfl hl.1 (As := []) (rest := [.int x4]) rfl (Nat.le_of_ble_eq_true rfl) dX13_groups_36 ⟨Nat.le_of_ble_eq_true rfl, Nat.le_of_ble_eq_true rfl⟩ hK hP hD hS hA [0, 1, 2, 3, 4, 5, 6, 7, 8, 9, 10, 11, 12, 13, 14, 15, 16, 17, 18, 19, 20, 21, 22, 23] [] [0, 1, 2, 3, 4, 5, 6, 7, 8, 9, 10, 11, 12, 13, 14, 15, 16, 17, 18, 19, 20, 21, 22, 23] rfl (by decide) rfl (by decide) (by decide) rfl (by decide) (wr := []) (w2 := (ce_X13 kA q_this o_this)) (fun H locs hP hD hS => ?_)
      have hP : va_P D vwCl (ce_X13 kA q_this o_this) H := hP
      refine lv_icmp_ge (tgt := 204) hx hb dX13_groups_39 (by decide) (fun hc_6 => ?_) (fun hc_6 => ?_)
      · rw [if_pos hc_6] at hf
        refine lv_goto (tgt := 24) hx hb dX13_groups_204 (by decide) ?_
        exact hk24 o_this x1 x2 x3 _ _ _ hP hD hS (lv_sub hl [0, 1, 2, 3] rfl) hf
      · rw [if_neg hc_6] at hf
        refine lv_iload hx hb dX13_groups_42 (lv_at hl 4 rfl) ?_
        refine lv_aload_n hx hb dX13_groups_44 rfl (lv_at hl 0 rfl) ?_
        refine va_get (D := D) (ci := 9) (v := .ref (q_this 2)) (C := RX13) (T := TX13) (N := 48) hx hb hUX13 (fun _ h9 => h9) hown hK hP 0 rfl rfl 13 (by decide) (hts (Cond.fieldLink RX13 20 "ReliefBuilderModel" "now" "[I") (List.mem_of_getElem? (i := 2) rfl)) (fun _ h9 => h9) rfl dX13_groups_45 ?_
        refine lv_iconst (v := 0) hx hb dX13_groups_48 (by decide) ?_
        obtain ⟨hi_7, hf⟩ := os_if hf
        refine va_iald hx hb hK hP 2 0 rfl rfl hi_7 dX13_groups_49 ?_
        obtain ⟨hz_8, hf⟩ := os_if hf
        refine lv_irem hx hb dX13_groups_50 hz_8 ?_
        refine lv_istore (lv' := [(5, .int (x4 - x4 / ((os_A o_this 1) (Int32.toNatClampNeg (0 : Int32))) * ((os_A o_this 1) (Int32.toNatClampNeg (0 : Int32))))), (0, .ref (q_this 0)), (1, .int x1), (2, .int x2), (3, .int x3), (4, .int x4)]) hx hb dX13_groups_51 hl (by decide) rfl (fun ls hl => ?_)
        refine lv_iload hx hb dX13_groups_53 (lv_at hl 5 rfl) ?_
        refine lv_aload_n hx hb dX13_groups_55 rfl (lv_at hl 1 rfl) ?_
        refine va_get (D := D) (ci := 9) (v := .ref (q_this 2)) (C := RX13) (T := TX13) (N := 48) hx hb hUX13 (fun _ h9 => h9) hown hK hP 0 rfl rfl 13 (by decide) (hts (Cond.fieldLink RX13 20 "ReliefBuilderModel" "now" "[I") (List.mem_of_getElem? (i := 2) rfl)) (fun _ h9 => h9) rfl dX13_groups_56 ?_
        refine lv_iconst (v := 0) hx hb dX13_groups_59 (by decide) ?_
        obtain ⟨hi_9, hf⟩ := os_if hf
        refine va_iald hx hb hK hP 2 0 rfl rfl hi_9 dX13_groups_60 ?_
        obtain ⟨hz_10, hf⟩ := os_if hf
        refine lv_idiv hx hb dX13_groups_61 hz_10 ?_
        refine lv_istore (lv' := [(6, .int (x4 / ((os_A o_this 1) (Int32.toNatClampNeg (0 : Int32))))), (5, .int (x4 - x4 / ((os_A o_this 1) (Int32.toNatClampNeg (0 : Int32))) * ((os_A o_this 1) (Int32.toNatClampNeg (0 : Int32))))), (0, .ref (q_this 0)), (1, .int x1), (2, .int x2), (3, .int x3), (4, .int x4)]) hx hb dX13_groups_62 hl (by decide) rfl (fun ls hl => ?_)
        refine lv_aload_n hx hb dX13_groups_64 rfl (lv_at hl 2 rfl) ?_
        refine lv_iload_n hx hb dX13_groups_65 rfl (lv_at hl 3 rfl) ?_
        refine lv_iload hx hb dX13_groups_66 (lv_at hl 1 rfl) ?_
        refine lv_iload hx hb dX13_groups_68 (lv_at hl 0 rfl) ?_
        obtain ⟨u_11, he_12, hf⟩ := os_bd hf
        refine mc_callV ⟨hx, hb, hml, hown, hts⟩ (mm_X13_isOf l D kA N q_this o_this x1 (x4 - x4 / ((os_A o_this 1) (Int32.toNatClampNeg (0 : Int32))) * ((os_A o_this 1) (Int32.toNatClampNeg (0 : Int32)))) (x4 / ((os_A o_this 1) (Int32.toNatClampNeg (0 : Int32)))) u_11 he_12) (cwV 3 hts gX13_groups_X13_isOf rfl rfl rfl (by decide +kernel) ⟨Nat.le_of_ble_eq_true rfl, Nat.le_of_ble_eq_true rfl⟩) (wc := (ce_X13 kA q_this o_this)) (ci := 9) (q0 := 0) rfl rfl rfl hl.1 (As := [.int x1, .int (x4 - x4 / ((os_A o_this 1) (Int32.toNatClampNeg (0 : Int32))) * ((os_A o_this 1) (Int32.toNatClampNeg (0 : Int32)))), .int (x4 / ((os_A o_this 1) (Int32.toNatClampNeg (0 : Int32))))]) (rest := []) rfl (Nat.le_of_ble_eq_true rfl) dX13_groups_70 ⟨Nat.le_of_ble_eq_true rfl, Nat.le_of_ble_eq_true rfl⟩ hK hP hD hS hA [0, 1, 2, 3, 4, 5, 6, 7, 8, 9, 10, 11, 12, 13, 14, 15, 16, 17, 18, 19, 20, 21, 22, 23] [] [0, 1, 2, 3, 4, 5, 6, 7, 8, 9, 10, 11, 12, 13, 14, 15, 16, 17, 18, 19, 20, 21, 22, 23] rfl (by decide) rfl (by decide) (by decide) rfl (by decide) (wr := []) (w2 := (ce_X13 kA q_this o_this)) (fun H locs hP hD hS => ?_)
        have hP : va_P D vwCl (ce_X13 kA q_this o_this) H := hP
        refine lv_iload_n hx hb dX13_groups_73 rfl (lv_at hl 4 rfl) ?_
        refine lv_icmp_eq (tgt := 80) hx hb dX13_groups_74 (by decide) (fun hc_13 => ?_) (fun hc_13 => ?_)
        · rw [if_pos hc_13] at hf
          refine lv_aload_n hx hb dX13_groups_80 rfl (lv_at hl 2 rfl) ?_
          refine lv_iload hx hb dX13_groups_81 (lv_at hl 1 rfl) ?_
          refine lv_iconst (v := 1) hx hb dX13_groups_83 (by decide) ?_
          refine lv_isub hx hb dX13_groups_84 ?_
          refine lv_iload hx hb dX13_groups_85 (lv_at hl 0 rfl) ?_
          refine lv_iload_n hx hb dX13_groups_87 rfl (lv_at hl 4 rfl) ?_
          refine lv_iload_n hx hb dX13_groups_88 rfl (lv_at hl 3 rfl) ?_
          obtain ⟨u_14, he_15, hf⟩ := os_bd hf
          refine mc_callV ⟨hx, hb, hml, hown, hts⟩ (mm_X13_groupAt l D kA N q_this o_this ((x4 - x4 / ((os_A o_this 1) (Int32.toNatClampNeg (0 : Int32))) * ((os_A o_this 1) (Int32.toNatClampNeg (0 : Int32)))) - (1 : Int32)) (x4 / ((os_A o_this 1) (Int32.toNatClampNeg (0 : Int32)))) x2 x1 u_14 he_15) (cwV 4 hts gX13_groups_X13_groupAt rfl rfl rfl (by decide +kernel) ⟨Nat.le_of_ble_eq_true rfl, Nat.le_of_ble_eq_true rfl⟩) (wc := (ce_X13 kA q_this o_this)) (ci := 9) (q0 := 0) rfl rfl rfl hl.1 (As := [.int ((x4 - x4 / ((os_A o_this 1) (Int32.toNatClampNeg (0 : Int32))) * ((os_A o_this 1) (Int32.toNatClampNeg (0 : Int32)))) - (1 : Int32)), .int (x4 / ((os_A o_this 1) (Int32.toNatClampNeg (0 : Int32)))), .int x2, .int x1]) (rest := []) rfl (Nat.le_of_ble_eq_true rfl) dX13_groups_89 ⟨Nat.le_of_ble_eq_true rfl, Nat.le_of_ble_eq_true rfl⟩ hK hP hD hS hA [0, 1, 2, 3, 4, 5, 6, 7, 8, 9, 10, 11, 12, 13, 14, 15, 16, 17, 18, 19, 20, 21, 22, 23] [] [0, 1, 2, 3, 4, 5, 6, 7, 8, 9, 10, 11, 12, 13, 14, 15, 16, 17, 18, 19, 20, 21, 22, 23] rfl (by decide) rfl (by decide) (by decide) rfl (by decide) (wr := []) (w2 := (ce_X13 kA q_this o_this)) (fun H locs hP hD hS => ?_)
          have hP : va_P D vwCl (ce_X13 kA q_this o_this) H := hP
          refine lv_aload_n hx hb dX13_groups_92 rfl (lv_at hl 2 rfl) ?_
          refine lv_iload hx hb dX13_groups_93 (lv_at hl 1 rfl) ?_
          refine lv_iconst (v := 1) hx hb dX13_groups_95 (by decide) ?_
          refine lv_iadd hx hb dX13_groups_96 ?_
          refine lv_iload hx hb dX13_groups_97 (lv_at hl 0 rfl) ?_
          refine lv_iload_n hx hb dX13_groups_99 rfl (lv_at hl 4 rfl) ?_
          refine lv_iload_n hx hb dX13_groups_100 rfl (lv_at hl 3 rfl) ?_
          obtain ⟨u_16, he_17, hf⟩ := os_bd hf
          refine mc_callV ⟨hx, hb, hml, hown, hts⟩ (mm_X13_groupAt l D kA N q_this o_this ((x4 - x4 / ((os_A o_this 1) (Int32.toNatClampNeg (0 : Int32))) * ((os_A o_this 1) (Int32.toNatClampNeg (0 : Int32)))) + (1 : Int32)) (x4 / ((os_A o_this 1) (Int32.toNatClampNeg (0 : Int32)))) x2 x1 u_16 he_17) (cwV 4 hts gX13_groups_X13_groupAt rfl rfl rfl (by decide +kernel) ⟨Nat.le_of_ble_eq_true rfl, Nat.le_of_ble_eq_true rfl⟩) (wc := (ce_X13 kA q_this o_this)) (ci := 9) (q0 := 0) rfl rfl rfl hl.1 (As := [.int ((x4 - x4 / ((os_A o_this 1) (Int32.toNatClampNeg (0 : Int32))) * ((os_A o_this 1) (Int32.toNatClampNeg (0 : Int32)))) + (1 : Int32)), .int (x4 / ((os_A o_this 1) (Int32.toNatClampNeg (0 : Int32)))), .int x2, .int x1]) (rest := [.int u_14]) rfl (Nat.le_of_ble_eq_true rfl) dX13_groups_101 ⟨Nat.le_of_ble_eq_true rfl, Nat.le_of_ble_eq_true rfl⟩ hK hP hD hS hA [0, 1, 2, 3, 4, 5, 6, 7, 8, 9, 10, 11, 12, 13, 14, 15, 16, 17, 18, 19, 20, 21, 22, 23] [] [0, 1, 2, 3, 4, 5, 6, 7, 8, 9, 10, 11, 12, 13, 14, 15, 16, 17, 18, 19, 20, 21, 22, 23] rfl (by decide) rfl (by decide) (by decide) rfl (by decide) (wr := []) (w2 := (ce_X13 kA q_this o_this)) (fun H locs hP hD hS => ?_)
          have hP : va_P D vwCl (ce_X13 kA q_this o_this) H := hP
          obtain ⟨u_18, he_19, hf⟩ := os_bd hf
          refine mc_callS ⟨hx, hb, hml, hown, hts⟩ (mm_X13_less l D kA N u_14 u_16 u_18 he_19) (va_cwS 2 hts gX13_groups_X13_less rfl rfl rfl (by decide +kernel) ⟨Nat.le_of_ble_eq_true rfl, Nat.le_of_ble_eq_true rfl⟩) (wc := []) rfl hl.1 (As := [.int u_14, .int u_16]) (rest := []) rfl (Nat.le_of_ble_eq_true rfl) dX13_groups_104 ⟨Nat.le_of_ble_eq_true rfl, Nat.le_of_ble_eq_true rfl⟩ hK hP hD hS hA [] [0, 1, 2, 3, 4, 5, 6, 7, 8, 9, 10, 11, 12, 13, 14, 15, 16, 17, 18, 19, 20, 21, 22, 23] [0, 1, 2, 3, 4, 5, 6, 7, 8, 9, 10, 11, 12, 13, 14, 15, 16, 17, 18, 19, 20, 21, 22, 23] rfl (by decide) rfl (by decide) (by decide) rfl (by decide) (wr := (ce_X13 kA q_this o_this)) (w2 := (ce_X13 kA q_this o_this)) (fun H locs hP hD hS => ?_)
          have hP : va_P D vwCl (ce_X13 kA q_this o_this) H := hP
          refine lv_aload_n hx hb dX13_groups_107 rfl (lv_at hl 2 rfl) ?_
          refine lv_iload hx hb dX13_groups_108 (lv_at hl 1 rfl) ?_
          refine lv_iload hx hb dX13_groups_110 (lv_at hl 0 rfl) ?_
          refine lv_iconst (v := 1) hx hb dX13_groups_112 (by decide) ?_
          refine lv_isub hx hb dX13_groups_113 ?_
          refine lv_iload_n hx hb dX13_groups_114 rfl (lv_at hl 4 rfl) ?_
          refine lv_iload_n hx hb dX13_groups_115 rfl (lv_at hl 3 rfl) ?_
          obtain ⟨u_20, he_21, hf⟩ := os_bd hf
          refine mc_callV ⟨hx, hb, hml, hown, hts⟩ (mm_X13_groupAt l D kA N q_this o_this (x4 - x4 / ((os_A o_this 1) (Int32.toNatClampNeg (0 : Int32))) * ((os_A o_this 1) (Int32.toNatClampNeg (0 : Int32)))) ((x4 / ((os_A o_this 1) (Int32.toNatClampNeg (0 : Int32)))) - (1 : Int32)) x2 x1 u_20 he_21) (cwV 4 hts gX13_groups_X13_groupAt rfl rfl rfl (by decide +kernel) ⟨Nat.le_of_ble_eq_true rfl, Nat.le_of_ble_eq_true rfl⟩) (wc := (ce_X13 kA q_this o_this)) (ci := 9) (q0 := 0) rfl rfl rfl hl.1 (As := [.int (x4 - x4 / ((os_A o_this 1) (Int32.toNatClampNeg (0 : Int32))) * ((os_A o_this 1) (Int32.toNatClampNeg (0 : Int32)))), .int ((x4 / ((os_A o_this 1) (Int32.toNatClampNeg (0 : Int32)))) - (1 : Int32)), .int x2, .int x1]) (rest := [.int u_18]) rfl (Nat.le_of_ble_eq_true rfl) dX13_groups_116 ⟨Nat.le_of_ble_eq_true rfl, Nat.le_of_ble_eq_true rfl⟩ hK hP hD hS hA [0, 1, 2, 3, 4, 5, 6, 7, 8, 9, 10, 11, 12, 13, 14, 15, 16, 17, 18, 19, 20, 21, 22, 23] [] [0, 1, 2, 3, 4, 5, 6, 7, 8, 9, 10, 11, 12, 13, 14, 15, 16, 17, 18, 19, 20, 21, 22, 23] rfl (by decide) rfl (by decide) (by decide) rfl (by decide) (wr := []) (w2 := (ce_X13 kA q_this o_this)) (fun H locs hP hD hS => ?_)
          have hP : va_P D vwCl (ce_X13 kA q_this o_this) H := hP
          refine lv_aload_n hx hb dX13_groups_119 rfl (lv_at hl 2 rfl) ?_
          refine lv_iload hx hb dX13_groups_120 (lv_at hl 1 rfl) ?_
          refine lv_iload hx hb dX13_groups_122 (lv_at hl 0 rfl) ?_
          refine lv_iconst (v := 1) hx hb dX13_groups_124 (by decide) ?_
          refine lv_iadd hx hb dX13_groups_125 ?_
          refine lv_iload_n hx hb dX13_groups_126 rfl (lv_at hl 4 rfl) ?_
          refine lv_iload_n hx hb dX13_groups_127 rfl (lv_at hl 3 rfl) ?_
          obtain ⟨u_22, he_23, hf⟩ := os_bd hf
          refine mc_callV ⟨hx, hb, hml, hown, hts⟩ (mm_X13_groupAt l D kA N q_this o_this (x4 - x4 / ((os_A o_this 1) (Int32.toNatClampNeg (0 : Int32))) * ((os_A o_this 1) (Int32.toNatClampNeg (0 : Int32)))) ((x4 / ((os_A o_this 1) (Int32.toNatClampNeg (0 : Int32)))) + (1 : Int32)) x2 x1 u_22 he_23) (cwV 4 hts gX13_groups_X13_groupAt rfl rfl rfl (by decide +kernel) ⟨Nat.le_of_ble_eq_true rfl, Nat.le_of_ble_eq_true rfl⟩) (wc := (ce_X13 kA q_this o_this)) (ci := 9) (q0 := 0) rfl rfl rfl hl.1 (As := [.int (x4 - x4 / ((os_A o_this 1) (Int32.toNatClampNeg (0 : Int32))) * ((os_A o_this 1) (Int32.toNatClampNeg (0 : Int32)))), .int ((x4 / ((os_A o_this 1) (Int32.toNatClampNeg (0 : Int32)))) + (1 : Int32)), .int x2, .int x1]) (rest := [.int u_20, .int u_18]) rfl (Nat.le_of_ble_eq_true rfl) dX13_groups_128 ⟨Nat.le_of_ble_eq_true rfl, Nat.le_of_ble_eq_true rfl⟩ hK hP hD hS hA [0, 1, 2, 3, 4, 5, 6, 7, 8, 9, 10, 11, 12, 13, 14, 15, 16, 17, 18, 19, 20, 21, 22, 23] [] [0, 1, 2, 3, 4, 5, 6, 7, 8, 9, 10, 11, 12, 13, 14, 15, 16, 17, 18, 19, 20, 21, 22, 23] rfl (by decide) rfl (by decide) (by decide) rfl (by decide) (wr := []) (w2 := (ce_X13 kA q_this o_this)) (fun H locs hP hD hS => ?_)
          have hP : va_P D vwCl (ce_X13 kA q_this o_this) H := hP
          obtain ⟨u_24, he_25, hf⟩ := os_bd hf
          refine mc_callS ⟨hx, hb, hml, hown, hts⟩ (mm_X13_less l D kA N u_20 u_22 u_24 he_25) (va_cwS 2 hts gX13_groups_X13_less rfl rfl rfl (by decide +kernel) ⟨Nat.le_of_ble_eq_true rfl, Nat.le_of_ble_eq_true rfl⟩) (wc := []) rfl hl.1 (As := [.int u_20, .int u_22]) (rest := [.int u_18]) rfl (Nat.le_of_ble_eq_true rfl) dX13_groups_131 ⟨Nat.le_of_ble_eq_true rfl, Nat.le_of_ble_eq_true rfl⟩ hK hP hD hS hA [] [0, 1, 2, 3, 4, 5, 6, 7, 8, 9, 10, 11, 12, 13, 14, 15, 16, 17, 18, 19, 20, 21, 22, 23] [0, 1, 2, 3, 4, 5, 6, 7, 8, 9, 10, 11, 12, 13, 14, 15, 16, 17, 18, 19, 20, 21, 22, 23] rfl (by decide) rfl (by decide) (by decide) rfl (by decide) (wr := (ce_X13 kA q_this o_this)) (w2 := (ce_X13 kA q_this o_this)) (fun H locs hP hD hS => ?_)
          have hP : va_P D vwCl (ce_X13 kA q_this o_this) H := hP
          obtain ⟨u_26, he_27, hf⟩ := os_bd hf
          refine mc_callS ⟨hx, hb, hml, hown, hts⟩ (mm_X13_less l D kA N u_18 u_24 u_26 he_27) (va_cwS 2 hts gX13_groups_X13_less rfl rfl rfl (by decide +kernel) ⟨Nat.le_of_ble_eq_true rfl, Nat.le_of_ble_eq_true rfl⟩) (wc := []) rfl hl.1 (As := [.int u_18, .int u_24]) (rest := []) rfl (Nat.le_of_ble_eq_true rfl) dX13_groups_134 ⟨Nat.le_of_ble_eq_true rfl, Nat.le_of_ble_eq_true rfl⟩ hK hP hD hS hA [] [0, 1, 2, 3, 4, 5, 6, 7, 8, 9, 10, 11, 12, 13, 14, 15, 16, 17, 18, 19, 20, 21, 22, 23] [0, 1, 2, 3, 4, 5, 6, 7, 8, 9, 10, 11, 12, 13, 14, 15, 16, 17, 18, 19, 20, 21, 22, 23] rfl (by decide) rfl (by decide) (by decide) rfl (by decide) (wr := (ce_X13 kA q_this o_this)) (w2 := (ce_X13 kA q_this o_this)) (fun H locs hP hD hS => ?_)
          have hP : va_P D vwCl (ce_X13 kA q_this o_this) H := hP
          refine lv_istore (lv' := [(7, .int u_26), (6, .int (x4 / ((os_A o_this 1) (Int32.toNatClampNeg (0 : Int32))))), (5, .int (x4 - x4 / ((os_A o_this 1) (Int32.toNatClampNeg (0 : Int32))) * ((os_A o_this 1) (Int32.toNatClampNeg (0 : Int32))))), (0, .ref (q_this 0)), (1, .int x1), (2, .int x2), (3, .int x3), (4, .int x4)]) hx hb dX13_groups_137 hl (by decide) rfl (fun ls hl => ?_)
          refine lv_iload_n hx hb dX13_groups_139 rfl (lv_at hl 6 rfl) ?_
          refine lv_if_ne (tgt := 161) hx hb dX13_groups_140 (by decide) (fun hc_28 => ?_) (fun hc_28 => ?_)
          · rw [if_neg hc_28] at hf
            exact hB161 k24 hk24 k33 hk33 o_this x1 x2 x4 (x4 - x4 / ((os_A o_this 1) (Int32.toNatClampNeg (0 : Int32))) * ((os_A o_this 1) (Int32.toNatClampNeg (0 : Int32)))) (x4 / ((os_A o_this 1) (Int32.toNatClampNeg (0 : Int32)))) u_26 _ _ _ hP hD hS (lv_sub hl [3, 4, 5, 7, 2, 1, 0] rfl) hf
          · rw [if_pos hc_28] at hf
            refine lv_iload hx hb dX13_groups_143 (lv_at hl 0 rfl) ?_
            refine lv_aload_n hx hb dX13_groups_145 rfl (lv_at hl 3 rfl) ?_
            refine va_get (D := D) (ci := 9) (v := .ref (q_this 10)) (C := RX13) (T := TX13) (N := 48) hx hb hUX13 (fun _ h9 => h9) hown hK hP 0 rfl rfl 27 (by decide) (hts (Cond.fieldLink RX13 45 "ReliefBuilderModel" "group" "[I") (List.mem_of_getElem? (i := 1) rfl)) (fun _ h9 => h9) rfl dX13_groups_146 ?_
            refine lv_bipush (v := 16) hx hb dX13_groups_149 (by decide) ?_
            refine lv_iload hx hb dX13_groups_151 (lv_at hl 1 rfl) ?_
            refine lv_imul hx hb dX13_groups_153 ?_
            refine lv_iload hx hb dX13_groups_154 (lv_at hl 2 rfl) ?_
            refine lv_iadd hx hb dX13_groups_156 ?_
            obtain ⟨hi_29, hf⟩ := os_if hf
            refine va_iald hx hb hK hP 10 0 rfl rfl hi_29 dX13_groups_157 ?_
            refine lv_icmp_ge (tgt := 165) hx hb dX13_groups_158 (by decide) (fun hc_30 => ?_) (fun hc_30 => ?_)
            · rw [if_pos hc_30] at hf
              refine lv_iconst (v := 0) hx hb dX13_groups_165 (by decide) ?_
              exact hB166 k24 hk24 k33 hk33 o_this x1 x2 x4 (x4 - x4 / ((os_A o_this 1) (Int32.toNatClampNeg (0 : Int32))) * ((os_A o_this 1) (Int32.toNatClampNeg (0 : Int32)))) (x4 / ((os_A o_this 1) (Int32.toNatClampNeg (0 : Int32)))) u_26 (0 : Int32) _ _ _ hP hD hS (lv_sub hl [3, 4, 5, 7, 2, 1, 0] rfl) hf
            · rw [if_neg hc_30] at hf
              exact hB161 k24 hk24 k33 hk33 o_this x1 x2 x4 (x4 - x4 / ((os_A o_this 1) (Int32.toNatClampNeg (0 : Int32))) * ((os_A o_this 1) (Int32.toNatClampNeg (0 : Int32)))) (x4 / ((os_A o_this 1) (Int32.toNatClampNeg (0 : Int32)))) u_26 _ _ _ hP hD hS (lv_sub hl [3, 4, 5, 7, 2, 1, 0] rfl) hf
        · rw [if_neg hc_13] at hf
          refine lv_goto (tgt := 198) hx hb dX13_groups_77 (by decide) ?_
          exact hB198 k24 hk24 k33 hk33 o_this x1 x2 x3 x4 _ _ _ hP hD hS (lv_sub hl [2, 3, 4, 5, 6] rfl) hf
  have hL24 : ∀ (n : Nat) (o_this : os_T) (x1 : Int32) (x2 : Int32) (x3 : Int32) (H : Heap) (locs : List Loc) (ls : Array Slot), va_P D vwCl (ce_X13 kA q_this o_this) H → va_D A (ce_X13 kA q_this o_this) → va_S A s.heap H locs → lv_has ls 8 [(0, .ref (q_this 0)), (1, .int x1), (2, .int x2), (3, .int x3)] → ff_X13_groups_l24 N n (o_this, x1, x2, x3) = some out → W p l e ({ frames := 4, cells := 0, slots := 0, locals := 94 } : Room) s m [.ref (q_this 0), .int a1, .int a2].toArray below meth c H locs 0 0 (MQ below (mc_Q D kA A none (ce_X13 kA q_this out)) [.ref (q_this 0), .int a1, .int a2].toArray s 0 0 A) (F0 m 24 ls []) := by
    intro n
    induction n with
    | zero => intro o_this x1 x2 x3 H locs ls _ _ _ _ hf; cases hf
    | succ n hk24 =>
      intro o_this x1 x2 x3 H locs ls hP hD hS hl hf
      have hf : ff_X13_groups_c24 N (ff_X13_groups_l24 N n) o_this x1 x2 x3 = some out := hf
      generalize hke : ff_X13_groups_l24 N n = k24 at hk24 hf
      unfold ff_X13_groups_c24 at hf
      refine lv_iload_n hx hb dX13_groups_24 rfl (lv_at hl 3 rfl) ?_
      refine lv_if_eq (tgt := 207) hx hb dX13_groups_25 (by decide) (fun hc_3 => ?_) (fun hc_3 => ?_)
      · rw [if_pos hc_3] at hf
        rw [← Option.some.inj hf]
        exact mc_retv hx hb hr hlk hP hK hD hS dX13_groups_207
      · rw [if_neg hc_3] at hf
        refine lv_iconst (v := 0) hx hb dX13_groups_28 (by decide) ?_
        refine lv_istore_n (lv' := [(3, .int (0 : Int32)), (0, .ref (q_this 0)), (1, .int x1), (2, .int x2)]) hx hb dX13_groups_29 rfl hl (by decide) rfl (fun ls hl => ?_)
        refine lv_iconst (v := 0) hx hb dX13_groups_30 (by decide) ?_
        refine lv_istore (lv' := [(4, .int (0 : Int32)), (3, .int (0 : Int32)), (0, .ref (q_this 0)), (1, .int x1), (2, .int x2)]) hx hb dX13_groups_31 hl (by decide) rfl (fun ls hl => ?_)
        exact hL33 k24 hk24 N o_this x1 x2 (0 : Int32) (0 : Int32) _ _ _ hP hD hS (lv_sub hl [2, 3, 4, 1, 0] rfl) hf
  have hL2 : ∀ (n : Nat) (o_this : os_T) (x1 : Int32) (x2 : Int32) (x3 : Int32) (H : Heap) (locs : List Loc) (ls : Array Slot), va_P D vwCl (ce_X13 kA q_this o_this) H → va_D A (ce_X13 kA q_this o_this) → va_S A s.heap H locs → lv_has ls 8 [(0, .ref (q_this 0)), (1, .int x1), (2, .int x2), (3, .int x3)] → ff_X13_groups_l2 N n (o_this, x1, x2, x3) = some out → W p l e ({ frames := 4, cells := 0, slots := 0, locals := 94 } : Room) s m [.ref (q_this 0), .int a1, .int a2].toArray below meth c H locs 0 0 (MQ below (mc_Q D kA A none (ce_X13 kA q_this out)) [.ref (q_this 0), .int a1, .int a2].toArray s 0 0 A) (F0 m 2 ls []) := by
    intro n
    induction n with
    | zero => intro o_this x1 x2 x3 H locs ls _ _ _ _ hf; cases hf
    | succ n hk2 =>
      intro o_this x1 x2 x3 H locs ls hP hD hS hl hf
      have hf : ff_X13_groups_c2 N (ff_X13_groups_l2 N n) o_this x1 x2 x3 = some out := hf
      generalize hke : ff_X13_groups_l2 N n = k2 at hk2 hf
      unfold ff_X13_groups_c2 at hf
      refine lv_iload_n hx hb dX13_groups_2 rfl (lv_at hl 3 rfl) ?_
      refine lv_sipush (v := 192) hx hb dX13_groups_3 (by decide) ?_
      refine lv_icmp_ge (tgt := 22) hx hb dX13_groups_6 (by decide) (fun hc_1 => ?_) (fun hc_1 => ?_)
      · rw [if_pos hc_1] at hf
        refine lv_iconst (v := 1) hx hb dX13_groups_22 (by decide) ?_
        refine lv_istore_n (lv' := [(3, .int (1 : Int32)), (0, .ref (q_this 0)), (1, .int x1), (2, .int x2)]) hx hb dX13_groups_23 rfl hl (by decide) rfl (fun ls hl => ?_)
        exact hL24 N o_this x1 x2 (1 : Int32) _ _ _ hP hD hS (lv_sub hl [1, 2, 3, 0] rfl) hf
      · rw [if_neg hc_1] at hf
        refine lv_aload_n hx hb dX13_groups_9 rfl (lv_at hl 0 rfl) ?_
        refine va_get (D := D) (ci := 9) (v := .ref (q_this 10)) (C := RX13) (T := TX13) (N := 48) hx hb hUX13 (fun _ h9 => h9) hown hK hP 0 rfl rfl 27 (by decide) (hts (Cond.fieldLink RX13 45 "ReliefBuilderModel" "group" "[I") (List.mem_of_getElem? (i := 1) rfl)) (fun _ h9 => h9) rfl dX13_groups_10 ?_
        refine lv_iload_n hx hb dX13_groups_13 rfl (lv_at hl 3 rfl) ?_
        refine lv_iload_n hx hb dX13_groups_14 rfl (lv_at hl 3 rfl) ?_
        obtain ⟨hi_2, hf⟩ := os_if hf
        refine va_iast hx hb hK hP hD hS 10 0 rfl rfl hi_2 dX13_groups_15 (fun H locs hP hD hS => ?_)
        have hP : va_P D vwCl (ce_X13 kA q_this (ss_A o_this 9 (upd (os_A o_this 9) (Int32.toNatClampNeg x3) x3))) H := hP
        have hD : va_D A (ce_X13 kA q_this (ss_A o_this 9 (upd (os_A o_this 9) (Int32.toNatClampNeg x3) x3))) := hD
        refine lv_iinc (v := x3 + 1) (lv' := [(3, .int (x3 + 1)), (0, .ref (q_this 0)), (1, .int x1), (2, .int x2)]) hx hb dX13_groups_16 hl (k := 3) rfl rfl (by decide) rfl (fun ls hl => ?_)
        refine lv_goto (tgt := 2) hx hb dX13_groups_19 (by decide) ?_
        exact hk2 (ss_A o_this 9 (upd (os_A o_this 9) (Int32.toNatClampNeg x3) x3)) x1 x2 (x3 + 1) _ _ _ hP hD hS (lv_sub hl [1, 2, 3, 0] rfl) hf
  unfold ff_X13_groups at hf
  refine lv_iconst (v := 0) hx hb dX13_groups_0 (by decide) ?_
  refine lv_istore_n (lv' := [(3, .int (0 : Int32)), (0, .ref (q_this 0)), (1, .int a1), (2, .int a2)]) hx hb dX13_groups_1 rfl hl (by decide) rfl (fun ls hl => ?_)
  exact hL2 N o_this a1 a2 (0 : Int32) _ _ _ hP hD hS (lv_sub hl [1, 2, 3, 0] rfl) hf
def ff_X13_parts_b70 (N : Nat) (k24 : (os_T × Int32 × Int32 × Int32) → Option (Int32 × os_T)) (o_this : os_T) (x1 : Int32) (x3 : Int32) (t0 : Int32) (t1 : Int32) : Option (Int32 × os_T) :=
  ((ff_X13_truth N t0).bind fun u_21 => k24 (o_this, x1, t1 + u_21, x3 + 1))
def ff_X13_parts_b69 (N : Nat) (k24 : (os_T × Int32 × Int32 × Int32) → Option (Int32 × os_T)) (o_this : os_T) (x1 : Int32) (x3 : Int32) (t0 : Int32) : Option (Int32 × os_T) :=
  ff_X13_parts_b70 N k24 o_this x1 x3 (0 : Int32) t0
def ff_X13_parts_c24 (N : Nat) (k24 : (os_T × Int32 × Int32 × Int32) → Option (Int32 × os_T)) (o_this : os_T) (x1 : Int32) (x2 : Int32) (x3 : Int32) : Option (Int32 × os_T) :=
  ((ff_X13_cellMany N o_this).bind fun u_8 => (if u_8 ≤ x3 then some (x2, o_this) else ((ff_X13_cellAt N o_this x3).bind fun u_11 => (if os_in u_11 192 then (if ((os_A o_this 4) (Int32.toNatClampNeg u_11)) < x1 then ff_X13_parts_b69 N k24 o_this x1 x3 x2 else ((ff_X13_cellAt N o_this x3).bind fun u_15 => (if os_in u_15 192 then ((ff_X13_cellAt N o_this x3).bind fun u_18 => (if ((os_A o_this 9) (Int32.toNatClampNeg u_15)) = u_18 then ff_X13_parts_b70 N k24 o_this x1 x3 (1 : Int32) x2 else ff_X13_parts_b69 N k24 o_this x1 x3 x2)) else none))) else none))))
def ff_X13_parts_l24 (N : Nat) : Nat → (os_T × Int32 × Int32 × Int32) → Option (Int32 × os_T) := os_loop (fun k24 s1 => ff_X13_parts_c24 N k24 s1.1 s1.2.1 s1.2.2.1 s1.2.2.2)
def ff_X13_parts (N : Nat) (o_this : os_T) (a1 : Int32) : Option (Int32 × os_T) :=
  ((ff_X13_isLayer N o_this a1).bind fun u_1 => ((ff_X13_goes N o_this u_1).bind fun u_3 => (if u_3.1 = 0 then some ((0 : Int32), u_3.2) else ((ff_X13_groups N u_3.2 a1 (1 : Int32)).bind fun u_6 => ff_X13_parts_l24 N N (u_6, a1, (0 : Int32), (0 : Int32))))))
set_option maxHeartbeats 4000000 in
set_option maxRecDepth 100000 in
theorem mm_X13_parts (l : Launch) (D : va_G) (kA : Nat → ClassId) (N : Nat) (q_this : Nat → Nat) (o_this : os_T) (a1 : Int32) (out : (Int32 × os_T)) (hf : ff_X13_parts N o_this a1 = some out) : mc_C l D kA yX13_parts wsX13_parts ({ frames := 5, cells := 0, slots := 0, locals := 121 } : Room) [.ref (q_this 0), .int a1] (ce_X13 kA q_this o_this) (some (.int out.1)) (ce_X13 kA q_this out.2) := by
  refine mc_of (cc := cX13_parts) (maxL := 4) (ret := (some .int)) (by decide) rfl (Nat.le_of_ble_eq_true rfl) ?_
  intro p e s m below meth c A B hD hP hS ls hl
  obtain ⟨hx, hb, hr, hlk, hml, hown, hts, hK, hA, hnm⟩ := B
  have hown : s.vm.findClass RX13 = some m.cls := hown
  have hl : lv_has ls 4 [(0, .ref (q_this 0)), (1, .int a1)] := hl
  have hUX13 : ∀ w ∈ u_ws RX13 TX13 48, w.before [.ref (q_this 0), .int a1].toArray s = true := fun w h => hts w (List.mem_cons_of_mem _ (List.mem_append_right _ h))
  have hB70 : ∀ (k24 : (os_T × Int32 × Int32 × Int32) → Option (Int32 × os_T)), (∀ (o_this : os_T) (x1 : Int32) (x2 : Int32) (x3 : Int32) (H : Heap) (locs : List Loc) (ls : Array Slot), va_P D vwCl (ce_X13 kA q_this o_this) H → va_D A (ce_X13 kA q_this o_this) → va_S A s.heap H locs → lv_has ls 4 [(0, .ref (q_this 0)), (1, .int x1), (2, .int x2), (3, .int x3)] → k24 (o_this, x1, x2, x3) = some out → W p l e ({ frames := 5, cells := 0, slots := 0, locals := 121 } : Room) s m [.ref (q_this 0), .int a1].toArray below meth c H locs 0 0 (MQ below (mc_Q D kA A (some (.int out.1)) (ce_X13 kA q_this out.2)) [.ref (q_this 0), .int a1].toArray s 0 0 A) (F0 m 24 ls [])) → ∀ (o_this : os_T) (x1 : Int32) (x3 : Int32) (t0 : Int32) (t1 : Int32) (H : Heap) (locs : List Loc) (ls : Array Slot), va_P D vwCl (ce_X13 kA q_this o_this) H → va_D A (ce_X13 kA q_this o_this) → va_S A s.heap H locs → lv_has ls 4 [(0, .ref (q_this 0)), (1, .int x1), (3, .int x3)] → ff_X13_parts_b70 N k24 o_this x1 x3 t0 t1 = some out → W p l e ({ frames := 5, cells := 0, slots := 0, locals := 121 } : Room) s m [.ref (q_this 0), .int a1].toArray below meth c H locs 0 0 (MQ below (mc_Q D kA A (some (.int out.1)) (ce_X13 kA q_this out.2)) [.ref (q_this 0), .int a1].toArray s 0 0 A) (F0 m 70 ls [.int t0, .int t1]) := by
    intro k24 hk24 o_this x1 x3 t0 t1 H locs ls hP hD hS hl hf
    unfold ff_X13_parts_b70 at hf
    obtain ⟨u_21, he_22, hf⟩ := os_bd hf
    refine mc_callS ⟨hx, hb, hml, hown, hts⟩ (mm_X13_truth l D kA N t0 u_21 he_22) (va_cwS 1 hts gX13_parts_X13_truth rfl rfl rfl (by decide +kernel) ⟨Nat.le_of_ble_eq_true rfl, Nat.le_of_ble_eq_true rfl⟩) (wc := []) rfl hl.1 (As := [.int t0]) (rest := [.int t1]) rfl (Nat.le_of_ble_eq_true rfl) dX13_parts_70 ⟨Nat.le_of_ble_eq_true rfl, Nat.le_of_ble_eq_true rfl⟩ hK hP hD hS hA [] [0, 1, 2, 3, 4, 5, 6, 7, 8, 9, 10, 11, 12, 13, 14, 15, 16, 17, 18, 19, 20, 21, 22, 23] [0, 1, 2, 3, 4, 5, 6, 7, 8, 9, 10, 11, 12, 13, 14, 15, 16, 17, 18, 19, 20, 21, 22, 23] rfl (by decide) rfl (by decide) (by decide) rfl (by decide) (wr := (ce_X13 kA q_this o_this)) (w2 := (ce_X13 kA q_this o_this)) (fun H locs hP hD hS => ?_)
    have hP : va_P D vwCl (ce_X13 kA q_this o_this) H := hP
    refine lv_iadd hx hb dX13_parts_73 ?_
    refine lv_istore_n (lv' := [(2, .int (t1 + u_21)), (0, .ref (q_this 0)), (1, .int x1), (3, .int x3)]) hx hb dX13_parts_74 rfl hl (by decide) rfl (fun ls hl => ?_)
    refine lv_iinc (v := x3 + 1) (lv' := [(3, .int (x3 + 1)), (2, .int (t1 + u_21)), (0, .ref (q_this 0)), (1, .int x1)]) hx hb dX13_parts_75 hl (k := 3) rfl rfl (by decide) rfl (fun ls hl => ?_)
    refine lv_goto (tgt := 24) hx hb dX13_parts_78 (by decide) ?_
    exact hk24 o_this x1 (t1 + u_21) (x3 + 1) _ _ _ hP hD hS (lv_sub hl [2, 3, 1, 0] rfl) hf
  have hB69 : ∀ (k24 : (os_T × Int32 × Int32 × Int32) → Option (Int32 × os_T)), (∀ (o_this : os_T) (x1 : Int32) (x2 : Int32) (x3 : Int32) (H : Heap) (locs : List Loc) (ls : Array Slot), va_P D vwCl (ce_X13 kA q_this o_this) H → va_D A (ce_X13 kA q_this o_this) → va_S A s.heap H locs → lv_has ls 4 [(0, .ref (q_this 0)), (1, .int x1), (2, .int x2), (3, .int x3)] → k24 (o_this, x1, x2, x3) = some out → W p l e ({ frames := 5, cells := 0, slots := 0, locals := 121 } : Room) s m [.ref (q_this 0), .int a1].toArray below meth c H locs 0 0 (MQ below (mc_Q D kA A (some (.int out.1)) (ce_X13 kA q_this out.2)) [.ref (q_this 0), .int a1].toArray s 0 0 A) (F0 m 24 ls [])) → ∀ (o_this : os_T) (x1 : Int32) (x3 : Int32) (t0 : Int32) (H : Heap) (locs : List Loc) (ls : Array Slot), va_P D vwCl (ce_X13 kA q_this o_this) H → va_D A (ce_X13 kA q_this o_this) → va_S A s.heap H locs → lv_has ls 4 [(0, .ref (q_this 0)), (1, .int x1), (3, .int x3)] → ff_X13_parts_b69 N k24 o_this x1 x3 t0 = some out → W p l e ({ frames := 5, cells := 0, slots := 0, locals := 121 } : Room) s m [.ref (q_this 0), .int a1].toArray below meth c H locs 0 0 (MQ below (mc_Q D kA A (some (.int out.1)) (ce_X13 kA q_this out.2)) [.ref (q_this 0), .int a1].toArray s 0 0 A) (F0 m 69 ls [.int t0]) := by
    intro k24 hk24 o_this x1 x3 t0 H locs ls hP hD hS hl hf
    unfold ff_X13_parts_b69 at hf
    refine lv_iconst (v := 0) hx hb dX13_parts_69 (by decide) ?_
    exact hB70 k24 hk24 o_this x1 x3 (0 : Int32) t0 _ _ _ hP hD hS (lv_sub hl [0, 1, 2] rfl) hf
  have hL24 : ∀ (n : Nat) (o_this : os_T) (x1 : Int32) (x2 : Int32) (x3 : Int32) (H : Heap) (locs : List Loc) (ls : Array Slot), va_P D vwCl (ce_X13 kA q_this o_this) H → va_D A (ce_X13 kA q_this o_this) → va_S A s.heap H locs → lv_has ls 4 [(0, .ref (q_this 0)), (1, .int x1), (2, .int x2), (3, .int x3)] → ff_X13_parts_l24 N n (o_this, x1, x2, x3) = some out → W p l e ({ frames := 5, cells := 0, slots := 0, locals := 121 } : Room) s m [.ref (q_this 0), .int a1].toArray below meth c H locs 0 0 (MQ below (mc_Q D kA A (some (.int out.1)) (ce_X13 kA q_this out.2)) [.ref (q_this 0), .int a1].toArray s 0 0 A) (F0 m 24 ls []) := by
    intro n
    induction n with
    | zero => intro o_this x1 x2 x3 H locs ls _ _ _ _ hf; cases hf
    | succ n hk24 =>
      intro o_this x1 x2 x3 H locs ls hP hD hS hl hf
      have hf : ff_X13_parts_c24 N (ff_X13_parts_l24 N n) o_this x1 x2 x3 = some out := hf
      generalize hke : ff_X13_parts_l24 N n = k24 at hk24 hf
      unfold ff_X13_parts_c24 at hf
      refine lv_iload_n hx hb dX13_parts_24 rfl (lv_at hl 3 rfl) ?_
      refine lv_aload_n hx hb dX13_parts_25 rfl (lv_at hl 0 rfl) ?_
      obtain ⟨u_8, he_9, hf⟩ := os_bd hf
      refine mc_callV ⟨hx, hb, hml, hown, hts⟩ (mm_X13_cellMany l D kA N q_this o_this u_8 he_9) (cwV 0 hts gX13_parts_X13_cellMany rfl rfl rfl (by decide +kernel) ⟨Nat.le_of_ble_eq_true rfl, Nat.le_of_ble_eq_true rfl⟩) (wc := (ce_X13 kA q_this o_this)) (ci := 9) (q0 := 0) rfl rfl rfl hl.1 (As := []) (rest := [.int x3]) rfl (Nat.le_of_ble_eq_true rfl) dX13_parts_26 ⟨Nat.le_of_ble_eq_true rfl, Nat.le_of_ble_eq_true rfl⟩ hK hP hD hS hA [0, 1, 2, 3, 4, 5, 6, 7, 8, 9, 10, 11, 12, 13, 14, 15, 16, 17, 18, 19, 20, 21, 22, 23] [] [0, 1, 2, 3, 4, 5, 6, 7, 8, 9, 10, 11, 12, 13, 14, 15, 16, 17, 18, 19, 20, 21, 22, 23] rfl (by decide) rfl (by decide) (by decide) rfl (by decide) (wr := []) (w2 := (ce_X13 kA q_this o_this)) (fun H locs hP hD hS => ?_)
      have hP : va_P D vwCl (ce_X13 kA q_this o_this) H := hP
      refine lv_icmp_ge (tgt := 81) hx hb dX13_parts_29 (by decide) (fun hc_10 => ?_) (fun hc_10 => ?_)
      · rw [if_pos hc_10] at hf
        refine lv_iload_n hx hb dX13_parts_81 rfl (lv_at hl 2 rfl) ?_
        rw [← Option.some.inj hf]
        exact mc_reti hx hb hr hlk hP hK hD hS dX13_parts_82
      · rw [if_neg hc_10] at hf
        refine lv_iload_n hx hb dX13_parts_32 rfl (lv_at hl 2 rfl) ?_
        refine lv_aload_n hx hb dX13_parts_33 rfl (lv_at hl 0 rfl) ?_
        refine va_get (D := D) (ci := 9) (v := .ref (q_this 5)) (C := RX13) (T := TX13) (N := 48) hx hb hUX13 (fun _ h9 => h9) hown hK hP 0 rfl rfl 16 (by decide) (hts (Cond.fieldLink RX13 29 "ReliefBuilderModel" "heights" "[I") (List.mem_of_getElem? (i := 1) rfl)) (fun _ h9 => h9) rfl dX13_parts_34 ?_
        refine lv_aload_n hx hb dX13_parts_37 rfl (lv_at hl 0 rfl) ?_
        refine lv_iload_n hx hb dX13_parts_38 rfl (lv_at hl 3 rfl) ?_
        obtain ⟨u_11, he_12, hf⟩ := os_bd hf
        refine mc_callV ⟨hx, hb, hml, hown, hts⟩ (mm_X13_cellAt l D kA N q_this o_this x3 u_11 he_12) (cwV 1 hts gX13_parts_X13_cellAt rfl rfl rfl (by decide +kernel) ⟨Nat.le_of_ble_eq_true rfl, Nat.le_of_ble_eq_true rfl⟩) (wc := (ce_X13 kA q_this o_this)) (ci := 9) (q0 := 0) rfl rfl rfl hl.1 (As := [.int x3]) (rest := [.ref (q_this 5), .int x2]) rfl (Nat.le_of_ble_eq_true rfl) dX13_parts_39 ⟨Nat.le_of_ble_eq_true rfl, Nat.le_of_ble_eq_true rfl⟩ hK hP hD hS hA [0, 1, 2, 3, 4, 5, 6, 7, 8, 9, 10, 11, 12, 13, 14, 15, 16, 17, 18, 19, 20, 21, 22, 23] [] [0, 1, 2, 3, 4, 5, 6, 7, 8, 9, 10, 11, 12, 13, 14, 15, 16, 17, 18, 19, 20, 21, 22, 23] rfl (by decide) rfl (by decide) (by decide) rfl (by decide) (wr := []) (w2 := (ce_X13 kA q_this o_this)) (fun H locs hP hD hS => ?_)
        have hP : va_P D vwCl (ce_X13 kA q_this o_this) H := hP
        obtain ⟨hi_13, hf⟩ := os_if hf
        refine va_iald hx hb hK hP 5 0 rfl rfl hi_13 dX13_parts_42 ?_
        refine lv_iload_n hx hb dX13_parts_43 rfl (lv_at hl 1 rfl) ?_
        refine lv_icmp_lt (tgt := 69) hx hb dX13_parts_44 (by decide) (fun hc_14 => ?_) (fun hc_14 => ?_)
        · rw [if_pos hc_14] at hf
          exact hB69 k24 hk24 o_this x1 x3 x2 _ _ _ hP hD hS (lv_sub hl [0, 1, 3] rfl) hf
        · rw [if_neg hc_14] at hf
          refine lv_aload_n hx hb dX13_parts_47 rfl (lv_at hl 0 rfl) ?_
          refine va_get (D := D) (ci := 9) (v := .ref (q_this 10)) (C := RX13) (T := TX13) (N := 48) hx hb hUX13 (fun _ h9 => h9) hown hK hP 0 rfl rfl 27 (by decide) (hts (Cond.fieldLink RX13 45 "ReliefBuilderModel" "group" "[I") (List.mem_of_getElem? (i := 2) rfl)) (fun _ h9 => h9) rfl dX13_parts_48 ?_
          refine lv_aload_n hx hb dX13_parts_51 rfl (lv_at hl 0 rfl) ?_
          refine lv_iload_n hx hb dX13_parts_52 rfl (lv_at hl 3 rfl) ?_
          obtain ⟨u_15, he_16, hf⟩ := os_bd hf
          refine mc_callV ⟨hx, hb, hml, hown, hts⟩ (mm_X13_cellAt l D kA N q_this o_this x3 u_15 he_16) (cwV 1 hts gX13_parts_X13_cellAt rfl rfl rfl (by decide +kernel) ⟨Nat.le_of_ble_eq_true rfl, Nat.le_of_ble_eq_true rfl⟩) (wc := (ce_X13 kA q_this o_this)) (ci := 9) (q0 := 0) rfl rfl rfl hl.1 (As := [.int x3]) (rest := [.ref (q_this 10), .int x2]) rfl (Nat.le_of_ble_eq_true rfl) dX13_parts_53 ⟨Nat.le_of_ble_eq_true rfl, Nat.le_of_ble_eq_true rfl⟩ hK hP hD hS hA [0, 1, 2, 3, 4, 5, 6, 7, 8, 9, 10, 11, 12, 13, 14, 15, 16, 17, 18, 19, 20, 21, 22, 23] [] [0, 1, 2, 3, 4, 5, 6, 7, 8, 9, 10, 11, 12, 13, 14, 15, 16, 17, 18, 19, 20, 21, 22, 23] rfl (by decide) rfl (by decide) (by decide) rfl (by decide) (wr := []) (w2 := (ce_X13 kA q_this o_this)) (fun H locs hP hD hS => ?_)
          have hP : va_P D vwCl (ce_X13 kA q_this o_this) H := hP
          obtain ⟨hi_17, hf⟩ := os_if hf
          refine va_iald hx hb hK hP 10 0 rfl rfl hi_17 dX13_parts_56 ?_
          refine lv_aload_n hx hb dX13_parts_57 rfl (lv_at hl 0 rfl) ?_
          refine lv_iload_n hx hb dX13_parts_58 rfl (lv_at hl 3 rfl) ?_
          obtain ⟨u_18, he_19, hf⟩ := os_bd hf
          refine mc_callV ⟨hx, hb, hml, hown, hts⟩ (mm_X13_cellAt l D kA N q_this o_this x3 u_18 he_19) (cwV 1 hts gX13_parts_X13_cellAt rfl rfl rfl (by decide +kernel) ⟨Nat.le_of_ble_eq_true rfl, Nat.le_of_ble_eq_true rfl⟩) (wc := (ce_X13 kA q_this o_this)) (ci := 9) (q0 := 0) rfl rfl rfl hl.1 (As := [.int x3]) (rest := [.int ((os_A o_this 9) (Int32.toNatClampNeg u_15)), .int x2]) rfl (Nat.le_of_ble_eq_true rfl) dX13_parts_59 ⟨Nat.le_of_ble_eq_true rfl, Nat.le_of_ble_eq_true rfl⟩ hK hP hD hS hA [0, 1, 2, 3, 4, 5, 6, 7, 8, 9, 10, 11, 12, 13, 14, 15, 16, 17, 18, 19, 20, 21, 22, 23] [] [0, 1, 2, 3, 4, 5, 6, 7, 8, 9, 10, 11, 12, 13, 14, 15, 16, 17, 18, 19, 20, 21, 22, 23] rfl (by decide) rfl (by decide) (by decide) rfl (by decide) (wr := []) (w2 := (ce_X13 kA q_this o_this)) (fun H locs hP hD hS => ?_)
          have hP : va_P D vwCl (ce_X13 kA q_this o_this) H := hP
          refine lv_icmp_ne (tgt := 69) hx hb dX13_parts_62 (by decide) (fun hc_20 => ?_) (fun hc_20 => ?_)
          · rw [if_neg hc_20] at hf
            exact hB69 k24 hk24 o_this x1 x3 x2 _ _ _ hP hD hS (lv_sub hl [0, 1, 3] rfl) hf
          · rw [if_pos hc_20] at hf
            refine lv_iconst (v := 1) hx hb dX13_parts_65 (by decide) ?_
            refine lv_goto (tgt := 70) hx hb dX13_parts_66 (by decide) ?_
            exact hB70 k24 hk24 o_this x1 x3 (1 : Int32) x2 _ _ _ hP hD hS (lv_sub hl [0, 1, 3] rfl) hf
  unfold ff_X13_parts at hf
  refine lv_aload_n hx hb dX13_parts_0 rfl (lv_at hl 0 rfl) ?_
  refine lv_aload_n hx hb dX13_parts_1 rfl (lv_at hl 0 rfl) ?_
  refine lv_iload_n hx hb dX13_parts_2 rfl (lv_at hl 1 rfl) ?_
  obtain ⟨u_1, he_2, hf⟩ := os_bd hf
  refine mc_callV ⟨hx, hb, hml, hown, hts⟩ (mm_X13_isLayer l D kA N q_this o_this a1 u_1 he_2) (cwV 1 hts gX13_parts_X13_isLayer rfl rfl rfl (by decide +kernel) ⟨Nat.le_of_ble_eq_true rfl, Nat.le_of_ble_eq_true rfl⟩) (wc := (ce_X13 kA q_this o_this)) (ci := 9) (q0 := 0) rfl rfl rfl hl.1 (As := [.int a1]) (rest := [.ref (q_this 0)]) rfl (Nat.le_of_ble_eq_true rfl) dX13_parts_3 ⟨Nat.le_of_ble_eq_true rfl, Nat.le_of_ble_eq_true rfl⟩ hK hP hD hS hA [0, 1, 2, 3, 4, 5, 6, 7, 8, 9, 10, 11, 12, 13, 14, 15, 16, 17, 18, 19, 20, 21, 22, 23] [] [0, 1, 2, 3, 4, 5, 6, 7, 8, 9, 10, 11, 12, 13, 14, 15, 16, 17, 18, 19, 20, 21, 22, 23] rfl (by decide) rfl (by decide) (by decide) rfl (by decide) (wr := []) (w2 := (ce_X13 kA q_this o_this)) (fun H locs hP hD hS => ?_)
  have hP : va_P D vwCl (ce_X13 kA q_this o_this) H := hP
  obtain ⟨u_3, he_4, hf⟩ := os_bd hf
  refine mc_callV ⟨hx, hb, hml, hown, hts⟩ (mm_X13_goes l D kA N q_this o_this u_1 u_3 he_4) (cwV 1 hts gX13_parts_X13_goes rfl rfl rfl (by decide +kernel) ⟨Nat.le_of_ble_eq_true rfl, Nat.le_of_ble_eq_true rfl⟩) (wc := (ce_X13 kA q_this o_this)) (ci := 9) (q0 := 0) rfl rfl rfl hl.1 (As := [.int u_1]) (rest := []) rfl (Nat.le_of_ble_eq_true rfl) dX13_parts_6 ⟨Nat.le_of_ble_eq_true rfl, Nat.le_of_ble_eq_true rfl⟩ hK hP hD hS hA [0, 1, 2, 3, 4, 5, 6, 7, 8, 9, 10, 11, 12, 13, 14, 15, 16, 17, 18, 19, 20, 21, 22, 23] [] [0, 1, 2, 3, 4, 5, 6, 7, 8, 9, 10, 11, 12, 13, 14, 15, 16, 17, 18, 19, 20, 21, 22, 23] rfl (by decide) rfl (by decide) (by decide) rfl (by decide) (wr := []) (w2 := (ce_X13 kA q_this u_3.2)) (fun H locs hP hD hS => ?_)
  have hP : va_P D vwCl (ce_X13 kA q_this u_3.2) H := hP
  refine lv_if_ne (tgt := 14) hx hb dX13_parts_9 (by decide) (fun hc_5 => ?_) (fun hc_5 => ?_)
  · rw [if_neg hc_5] at hf
    refine lv_aload_n hx hb dX13_parts_14 rfl (lv_at hl 0 rfl) ?_
    refine lv_iload_n hx hb dX13_parts_15 rfl (lv_at hl 1 rfl) ?_
    refine lv_iconst (v := 1) hx hb dX13_parts_16 (by decide) ?_
    obtain ⟨u_6, he_7, hf⟩ := os_bd hf
    refine mc_callV ⟨hx, hb, hml, hown, hts⟩ (mm_X13_groups l D kA N q_this u_3.2 a1 (1 : Int32) u_6 he_7) (cwV 2 hts gX13_parts_X13_groups rfl rfl rfl (by decide +kernel) ⟨Nat.le_of_ble_eq_true rfl, Nat.le_of_ble_eq_true rfl⟩) (wc := (ce_X13 kA q_this u_3.2)) (ci := 9) (q0 := 0) rfl rfl rfl hl.1 (As := [.int a1, .int (1 : Int32)]) (rest := []) rfl (Nat.le_of_ble_eq_true rfl) dX13_parts_17 ⟨Nat.le_of_ble_eq_true rfl, Nat.le_of_ble_eq_true rfl⟩ hK hP hD hS hA [0, 1, 2, 3, 4, 5, 6, 7, 8, 9, 10, 11, 12, 13, 14, 15, 16, 17, 18, 19, 20, 21, 22, 23] [] [0, 1, 2, 3, 4, 5, 6, 7, 8, 9, 10, 11, 12, 13, 14, 15, 16, 17, 18, 19, 20, 21, 22, 23] rfl (by decide) rfl (by decide) (by decide) rfl (by decide) (wr := []) (w2 := (ce_X13 kA q_this u_6)) (fun H locs hP hD hS => ?_)
    have hP : va_P D vwCl (ce_X13 kA q_this u_6) H := hP
    refine lv_iconst (v := 0) hx hb dX13_parts_20 (by decide) ?_
    refine lv_istore_n (lv' := [(2, .int (0 : Int32)), (0, .ref (q_this 0)), (1, .int a1)]) hx hb dX13_parts_21 rfl hl (by decide) rfl (fun ls hl => ?_)
    refine lv_iconst (v := 0) hx hb dX13_parts_22 (by decide) ?_
    refine lv_istore_n (lv' := [(3, .int (0 : Int32)), (2, .int (0 : Int32)), (0, .ref (q_this 0)), (1, .int a1)]) hx hb dX13_parts_23 rfl hl (by decide) rfl (fun ls hl => ?_)
    exact hL24 N u_6 a1 (0 : Int32) (0 : Int32) _ _ _ hP hD hS (lv_sub hl [2, 3, 1, 0] rfl) hf
  · rw [if_pos hc_5] at hf
    refine lv_iconst (v := 0) hx hb dX13_parts_12 (by decide) ?_
    rw [← Option.some.inj hf]
    exact mc_reti hx hb hr hlk hP hK hD hS dX13_parts_13
def ff_X13_isEdge_b32 (N : Nat) (o_this : os_T) : Option Int32 :=
  some (1 : Int32)
def ff_X13_isEdge (N : Nat) (o_this : os_T) (a1 : Int32) (a2 : Int32) : Option Int32 :=
  (if a1 = 0 then ff_X13_isEdge_b32 N o_this else (if a2 = 0 then ff_X13_isEdge_b32 N o_this else (if os_in (0 : Int32) 7 then (if a1 = (((os_A o_this 1) (Int32.toNatClampNeg (0 : Int32))) - (1 : Int32)) then ff_X13_isEdge_b32 N o_this else (if os_in (1 : Int32) 7 then (if a2 = (((os_A o_this 1) (Int32.toNatClampNeg (1 : Int32))) - (1 : Int32)) then ff_X13_isEdge_b32 N o_this else some (0 : Int32)) else none)) else none)))
set_option maxHeartbeats 4000000 in
set_option maxRecDepth 100000 in
theorem mm_X13_isEdge (l : Launch) (D : va_G) (kA : Nat → ClassId) (N : Nat) (q_this : Nat → Nat) (o_this : os_T) (a1 : Int32) (a2 : Int32) (out : Int32) (hf : ff_X13_isEdge N o_this a1 a2 = some out) : mc_C l D kA yX13_isEdge wsX13_isEdge ({ frames := 0, cells := 0, slots := 0, locals := 0 } : Room) [.ref (q_this 0), .int a1, .int a2] (ce_X13 kA q_this o_this) (some (.int out)) (ce_X13 kA q_this o_this) := by
  refine mc_of (cc := cX13_isEdge) (maxL := 3) (ret := (some .boolean)) (by decide) rfl (Nat.le_of_ble_eq_true rfl) ?_
  intro p e s m below meth c A B hD hP hS ls hl
  obtain ⟨hx, hb, hr, hlk, hml, hown, hts, hK, hA, hnm⟩ := B
  have hown : s.vm.findClass RX13 = some m.cls := hown
  have hl : lv_has ls 3 [(0, .ref (q_this 0)), (1, .int a1), (2, .int a2)] := hl
  have hUX13 : ∀ w ∈ u_ws RX13 TX13 48, w.before [.ref (q_this 0), .int a1, .int a2].toArray s = true := fun w h => hts w (List.mem_cons_of_mem _ (List.mem_append_right _ h))
  have hB32 : ∀ (H : Heap) (locs : List Loc) (ls : Array Slot), va_P D vwCl (ce_X13 kA q_this o_this) H → va_D A (ce_X13 kA q_this o_this) → va_S A s.heap H locs → lv_has ls 3 [] → ff_X13_isEdge_b32 N o_this = some out → W p l e ({ frames := 0, cells := 0, slots := 0, locals := 0 } : Room) s m [.ref (q_this 0), .int a1, .int a2].toArray below meth c H locs 0 0 (MQ below (mc_Q D kA A (some (.int out)) (ce_X13 kA q_this o_this)) [.ref (q_this 0), .int a1, .int a2].toArray s 0 0 A) (F0 m 32 ls []) := by
    intro H locs ls hP hD hS hl hf
    unfold ff_X13_isEdge_b32 at hf
    refine lv_iconst (v := 1) hx hb dX13_isEdge_32 (by decide) ?_
    refine lv_goto (tgt := 37) hx hb dX13_isEdge_33 (by decide) ?_
    rw [← Option.some.inj hf]
    exact mc_retz (v := 1) hx hb hr rfl hlk hP hK hD hS dX13_isEdge_37
  unfold ff_X13_isEdge at hf
  refine lv_iload_n hx hb dX13_isEdge_0 rfl (lv_at hl 1 rfl) ?_
  refine lv_if_eq (tgt := 32) hx hb dX13_isEdge_1 (by decide) (fun hc_1 => ?_) (fun hc_1 => ?_)
  · rw [if_pos hc_1] at hf
    exact hB32 _ _ _ hP hD hS (lv_sub hl [] rfl) hf
  · rw [if_neg hc_1] at hf
    refine lv_iload_n hx hb dX13_isEdge_4 rfl (lv_at hl 2 rfl) ?_
    refine lv_if_eq (tgt := 32) hx hb dX13_isEdge_5 (by decide) (fun hc_2 => ?_) (fun hc_2 => ?_)
    · rw [if_pos hc_2] at hf
      exact hB32 _ _ _ hP hD hS (lv_sub hl [] rfl) hf
    · rw [if_neg hc_2] at hf
      refine lv_iload_n hx hb dX13_isEdge_8 rfl (lv_at hl 1 rfl) ?_
      refine lv_aload_n hx hb dX13_isEdge_9 rfl (lv_at hl 0 rfl) ?_
      refine va_get (D := D) (ci := 9) (v := .ref (q_this 2)) (C := RX13) (T := TX13) (N := 48) hx hb hUX13 (fun _ h9 => h9) hown hK hP 0 rfl rfl 13 (by decide) (hts (Cond.fieldLink RX13 20 "ReliefBuilderModel" "now" "[I") (List.mem_of_getElem? (i := 1) rfl)) (fun _ h9 => h9) rfl dX13_isEdge_10 ?_
      refine lv_iconst (v := 0) hx hb dX13_isEdge_13 (by decide) ?_
      obtain ⟨hi_3, hf⟩ := os_if hf
      refine va_iald hx hb hK hP 2 0 rfl rfl hi_3 dX13_isEdge_14 ?_
      refine lv_iconst (v := 1) hx hb dX13_isEdge_15 (by decide) ?_
      refine lv_isub hx hb dX13_isEdge_16 ?_
      refine lv_icmp_eq (tgt := 32) hx hb dX13_isEdge_17 (by decide) (fun hc_4 => ?_) (fun hc_4 => ?_)
      · rw [if_pos hc_4] at hf
        exact hB32 _ _ _ hP hD hS (lv_sub hl [] rfl) hf
      · rw [if_neg hc_4] at hf
        refine lv_iload_n hx hb dX13_isEdge_20 rfl (lv_at hl 2 rfl) ?_
        refine lv_aload_n hx hb dX13_isEdge_21 rfl (lv_at hl 0 rfl) ?_
        refine va_get (D := D) (ci := 9) (v := .ref (q_this 2)) (C := RX13) (T := TX13) (N := 48) hx hb hUX13 (fun _ h9 => h9) hown hK hP 0 rfl rfl 13 (by decide) (hts (Cond.fieldLink RX13 20 "ReliefBuilderModel" "now" "[I") (List.mem_of_getElem? (i := 1) rfl)) (fun _ h9 => h9) rfl dX13_isEdge_22 ?_
        refine lv_iconst (v := 1) hx hb dX13_isEdge_25 (by decide) ?_
        obtain ⟨hi_5, hf⟩ := os_if hf
        refine va_iald hx hb hK hP 2 0 rfl rfl hi_5 dX13_isEdge_26 ?_
        refine lv_iconst (v := 1) hx hb dX13_isEdge_27 (by decide) ?_
        refine lv_isub hx hb dX13_isEdge_28 ?_
        refine lv_icmp_ne (tgt := 36) hx hb dX13_isEdge_29 (by decide) (fun hc_6 => ?_) (fun hc_6 => ?_)
        · rw [if_neg hc_6] at hf
          refine lv_iconst (v := 0) hx hb dX13_isEdge_36 (by decide) ?_
          rw [← Option.some.inj hf]
          exact mc_retz (v := 0) hx hb hr rfl hlk hP hK hD hS dX13_isEdge_37
        · rw [if_pos hc_6] at hf
          exact hB32 _ _ _ hP hD hS (lv_sub hl [] rfl) hf
def ff_X13_hollows_b164 (N : Nat) (k105 : (os_T × Int32 × Int32 × Int32) → Option (Int32 × os_T)) (o_this : os_T) (x1 : Int32) (x3 : Int32) (t0 : Int32) (t1 : Int32) : Option (Int32 × os_T) :=
  ((ff_X13_truth N t0).bind fun u_39 => k105 (o_this, x1, t1 + u_39, x3 + 1))
def ff_X13_hollows_b163 (N : Nat) (k105 : (os_T × Int32 × Int32 × Int32) → Option (Int32 × os_T)) (o_this : os_T) (x1 : Int32) (x3 : Int32) (t0 : Int32) : Option (Int32 × os_T) :=
  ff_X13_hollows_b164 N k105 o_this x1 x3 (0 : Int32) t0
def ff_X13_hollows_c105 (N : Nat) (k105 : (os_T × Int32 × Int32 × Int32) → Option (Int32 × os_T)) (o_this : os_T) (x1 : Int32) (x2 : Int32) (x3 : Int32) : Option (Int32 × os_T) :=
  ((ff_X13_cellMany N o_this).bind fun u_22 => (if u_22 ≤ x3 then some (x2, o_this) else ((ff_X13_cellAt N o_this x3).bind fun u_25 => (if os_in u_25 192 then (if x1 ≤ ((os_A o_this 4) (Int32.toNatClampNeg u_25)) then ff_X13_hollows_b163 N k105 o_this x1 x3 x2 else ((ff_X13_cellAt N o_this x3).bind fun u_29 => (if os_in u_29 192 then ((ff_X13_cellAt N o_this x3).bind fun u_32 => (if ((os_A o_this 9) (Int32.toNatClampNeg u_29)) = u_32 then ((ff_X13_cellAt N o_this x3).bind fun u_35 => (if os_in u_35 192 then (if ((os_A o_this 6) (Int32.toNatClampNeg u_35)) = 0 then ff_X13_hollows_b164 N k105 o_this x1 x3 (1 : Int32) x2 else ff_X13_hollows_b163 N k105 o_this x1 x3 x2) else none)) else ff_X13_hollows_b163 N k105 o_this x1 x3 x2)) else none))) else none))))
def ff_X13_hollows_l105 (N : Nat) : Nat → (os_T × Int32 × Int32 × Int32) → Option (Int32 × os_T) := os_loop (fun k105 s1 => ff_X13_hollows_c105 N k105 s1.1 s1.2.1 s1.2.2.1 s1.2.2.2)
def ff_X13_hollows_b95 (N : Nat) (k44 : (os_T × Int32 × Int32) → Option (Int32 × os_T)) (o_this : os_T) (x1 : Int32) (x2 : Int32) : Option (Int32 × os_T) :=
  k44 (o_this, x1, x2 + 1)
def ff_X13_hollows_c44 (N : Nat) (k44 : (os_T × Int32 × Int32) → Option (Int32 × os_T)) (o_this : os_T) (x1 : Int32) (x2 : Int32) : Option (Int32 × os_T) :=
  ((ff_X13_cellMany N o_this).bind fun u_10 => (if u_10 ≤ x2 then ff_X13_hollows_l105 N N (o_this, x1, (0 : Int32), (0 : Int32)) else ((ff_X13_cellAt N o_this x2).bind fun u_13 => (if os_in u_13 192 then (if x1 ≤ ((os_A o_this 4) (Int32.toNatClampNeg u_13)) then ff_X13_hollows_b95 N k44 o_this x1 x2 else ((ff_X13_isEdge N o_this (u_13 - u_13 / (16 : Int32) * (16 : Int32)) (u_13 / (16 : Int32))).bind fun u_17 => (if u_17 = 0 then ff_X13_hollows_b95 N k44 o_this x1 x2 else (if os_in u_13 192 then (if os_in ((os_A o_this 9) (Int32.toNatClampNeg u_13)) 192 then ff_X13_hollows_b95 N k44 (ss_A o_this 6 (upd (os_A o_this 6) (Int32.toNatClampNeg ((os_A o_this 9) (Int32.toNatClampNeg u_13))) (vp_nar .boolean (1 : Int32)))) x1 x2 else none) else none)))) else none))))
def ff_X13_hollows_l44 (N : Nat) : Nat → (os_T × Int32 × Int32) → Option (Int32 × os_T) := os_loop (fun k44 s1 => ff_X13_hollows_c44 N k44 s1.1 s1.2.1 s1.2.2)
def ff_X13_hollows_c22 (N : Nat) (k22 : (os_T × Int32 × Int32) → Option (Int32 × os_T)) (o_this : os_T) (x1 : Int32) (x2 : Int32) : Option (Int32 × os_T) :=
  (if (192 : Int32) ≤ x2 then ff_X13_hollows_l44 N N (o_this, x1, (0 : Int32)) else (if os_in x2 192 then k22 (ss_A o_this 6 (upd (os_A o_this 6) (Int32.toNatClampNeg x2) (vp_nar .boolean (0 : Int32))), x1, x2 + 1) else none))
def ff_X13_hollows_l22 (N : Nat) : Nat → (os_T × Int32 × Int32) → Option (Int32 × os_T) := os_loop (fun k22 s1 => ff_X13_hollows_c22 N k22 s1.1 s1.2.1 s1.2.2)
def ff_X13_hollows (N : Nat) (o_this : os_T) (a1 : Int32) : Option (Int32 × os_T) :=
  ((ff_X13_isLayer N o_this a1).bind fun u_1 => ((ff_X13_goes N o_this u_1).bind fun u_3 => (if u_3.1 = 0 then some ((0 : Int32), u_3.2) else ((ff_X13_groups N u_3.2 a1 (0 : Int32)).bind fun u_6 => ff_X13_hollows_l22 N N (u_6, a1, (0 : Int32))))))
set_option maxHeartbeats 4000000 in
set_option maxRecDepth 100000 in
theorem mm_X13_hollows (l : Launch) (D : va_G) (kA : Nat → ClassId) (N : Nat) (q_this : Nat → Nat) (o_this : os_T) (a1 : Int32) (out : (Int32 × os_T)) (hf : ff_X13_hollows N o_this a1 = some out) : mc_C l D kA yX13_hollows wsX13_hollows ({ frames := 5, cells := 0, slots := 0, locals := 121 } : Room) [.ref (q_this 0), .int a1] (ce_X13 kA q_this o_this) (some (.int out.1)) (ce_X13 kA q_this out.2) := by
  refine mc_of (cc := cX13_hollows) (maxL := 4) (ret := (some .int)) (by decide) rfl (Nat.le_of_ble_eq_true rfl) ?_
  intro p e s m below meth c A B hD hP hS ls hl
  obtain ⟨hx, hb, hr, hlk, hml, hown, hts, hK, hA, hnm⟩ := B
  have hown : s.vm.findClass RX13 = some m.cls := hown
  have hl : lv_has ls 4 [(0, .ref (q_this 0)), (1, .int a1)] := hl
  have hUX13 : ∀ w ∈ u_ws RX13 TX13 48, w.before [.ref (q_this 0), .int a1].toArray s = true := fun w h => hts w (List.mem_cons_of_mem _ (List.mem_append_right _ h))
  have hB164 : ∀ (k105 : (os_T × Int32 × Int32 × Int32) → Option (Int32 × os_T)), (∀ (o_this : os_T) (x1 : Int32) (x2 : Int32) (x3 : Int32) (H : Heap) (locs : List Loc) (ls : Array Slot), va_P D vwCl (ce_X13 kA q_this o_this) H → va_D A (ce_X13 kA q_this o_this) → va_S A s.heap H locs → lv_has ls 4 [(0, .ref (q_this 0)), (1, .int x1), (2, .int x2), (3, .int x3)] → k105 (o_this, x1, x2, x3) = some out → W p l e ({ frames := 5, cells := 0, slots := 0, locals := 121 } : Room) s m [.ref (q_this 0), .int a1].toArray below meth c H locs 0 0 (MQ below (mc_Q D kA A (some (.int out.1)) (ce_X13 kA q_this out.2)) [.ref (q_this 0), .int a1].toArray s 0 0 A) (F0 m 105 ls [])) → ∀ (o_this : os_T) (x1 : Int32) (x3 : Int32) (t0 : Int32) (t1 : Int32) (H : Heap) (locs : List Loc) (ls : Array Slot), va_P D vwCl (ce_X13 kA q_this o_this) H → va_D A (ce_X13 kA q_this o_this) → va_S A s.heap H locs → lv_has ls 4 [(0, .ref (q_this 0)), (1, .int x1), (3, .int x3)] → ff_X13_hollows_b164 N k105 o_this x1 x3 t0 t1 = some out → W p l e ({ frames := 5, cells := 0, slots := 0, locals := 121 } : Room) s m [.ref (q_this 0), .int a1].toArray below meth c H locs 0 0 (MQ below (mc_Q D kA A (some (.int out.1)) (ce_X13 kA q_this out.2)) [.ref (q_this 0), .int a1].toArray s 0 0 A) (F0 m 164 ls [.int t0, .int t1]) := by
    intro k105 hk105 o_this x1 x3 t0 t1 H locs ls hP hD hS hl hf
    unfold ff_X13_hollows_b164 at hf
    obtain ⟨u_39, he_40, hf⟩ := os_bd hf
    refine mc_callS ⟨hx, hb, hml, hown, hts⟩ (mm_X13_truth l D kA N t0 u_39 he_40) (va_cwS 1 hts gX13_hollows_X13_truth rfl rfl rfl (by decide +kernel) ⟨Nat.le_of_ble_eq_true rfl, Nat.le_of_ble_eq_true rfl⟩) (wc := []) rfl hl.1 (As := [.int t0]) (rest := [.int t1]) rfl (Nat.le_of_ble_eq_true rfl) dX13_hollows_164 ⟨Nat.le_of_ble_eq_true rfl, Nat.le_of_ble_eq_true rfl⟩ hK hP hD hS hA [] [0, 1, 2, 3, 4, 5, 6, 7, 8, 9, 10, 11, 12, 13, 14, 15, 16, 17, 18, 19, 20, 21, 22, 23] [0, 1, 2, 3, 4, 5, 6, 7, 8, 9, 10, 11, 12, 13, 14, 15, 16, 17, 18, 19, 20, 21, 22, 23] rfl (by decide) rfl (by decide) (by decide) rfl (by decide) (wr := (ce_X13 kA q_this o_this)) (w2 := (ce_X13 kA q_this o_this)) (fun H locs hP hD hS => ?_)
    have hP : va_P D vwCl (ce_X13 kA q_this o_this) H := hP
    refine lv_iadd hx hb dX13_hollows_167 ?_
    refine lv_istore_n (lv' := [(2, .int (t1 + u_39)), (0, .ref (q_this 0)), (1, .int x1), (3, .int x3)]) hx hb dX13_hollows_168 rfl hl (by decide) rfl (fun ls hl => ?_)
    refine lv_iinc (v := x3 + 1) (lv' := [(3, .int (x3 + 1)), (2, .int (t1 + u_39)), (0, .ref (q_this 0)), (1, .int x1)]) hx hb dX13_hollows_169 hl (k := 3) rfl rfl (by decide) rfl (fun ls hl => ?_)
    refine lv_goto (tgt := 105) hx hb dX13_hollows_172 (by decide) ?_
    exact hk105 o_this x1 (t1 + u_39) (x3 + 1) _ _ _ hP hD hS (lv_sub hl [2, 3, 1, 0] rfl) hf
  have hB163 : ∀ (k105 : (os_T × Int32 × Int32 × Int32) → Option (Int32 × os_T)), (∀ (o_this : os_T) (x1 : Int32) (x2 : Int32) (x3 : Int32) (H : Heap) (locs : List Loc) (ls : Array Slot), va_P D vwCl (ce_X13 kA q_this o_this) H → va_D A (ce_X13 kA q_this o_this) → va_S A s.heap H locs → lv_has ls 4 [(0, .ref (q_this 0)), (1, .int x1), (2, .int x2), (3, .int x3)] → k105 (o_this, x1, x2, x3) = some out → W p l e ({ frames := 5, cells := 0, slots := 0, locals := 121 } : Room) s m [.ref (q_this 0), .int a1].toArray below meth c H locs 0 0 (MQ below (mc_Q D kA A (some (.int out.1)) (ce_X13 kA q_this out.2)) [.ref (q_this 0), .int a1].toArray s 0 0 A) (F0 m 105 ls [])) → ∀ (o_this : os_T) (x1 : Int32) (x3 : Int32) (t0 : Int32) (H : Heap) (locs : List Loc) (ls : Array Slot), va_P D vwCl (ce_X13 kA q_this o_this) H → va_D A (ce_X13 kA q_this o_this) → va_S A s.heap H locs → lv_has ls 4 [(0, .ref (q_this 0)), (1, .int x1), (3, .int x3)] → ff_X13_hollows_b163 N k105 o_this x1 x3 t0 = some out → W p l e ({ frames := 5, cells := 0, slots := 0, locals := 121 } : Room) s m [.ref (q_this 0), .int a1].toArray below meth c H locs 0 0 (MQ below (mc_Q D kA A (some (.int out.1)) (ce_X13 kA q_this out.2)) [.ref (q_this 0), .int a1].toArray s 0 0 A) (F0 m 163 ls [.int t0]) := by
    intro k105 hk105 o_this x1 x3 t0 H locs ls hP hD hS hl hf
    unfold ff_X13_hollows_b163 at hf
    refine lv_iconst (v := 0) hx hb dX13_hollows_163 (by decide) ?_
    exact hB164 k105 hk105 o_this x1 x3 (0 : Int32) t0 _ _ _ hP hD hS (lv_sub hl [0, 1, 2] rfl) hf
  have hL105 : ∀ (n : Nat) (o_this : os_T) (x1 : Int32) (x2 : Int32) (x3 : Int32) (H : Heap) (locs : List Loc) (ls : Array Slot), va_P D vwCl (ce_X13 kA q_this o_this) H → va_D A (ce_X13 kA q_this o_this) → va_S A s.heap H locs → lv_has ls 4 [(0, .ref (q_this 0)), (1, .int x1), (2, .int x2), (3, .int x3)] → ff_X13_hollows_l105 N n (o_this, x1, x2, x3) = some out → W p l e ({ frames := 5, cells := 0, slots := 0, locals := 121 } : Room) s m [.ref (q_this 0), .int a1].toArray below meth c H locs 0 0 (MQ below (mc_Q D kA A (some (.int out.1)) (ce_X13 kA q_this out.2)) [.ref (q_this 0), .int a1].toArray s 0 0 A) (F0 m 105 ls []) := by
    intro n
    induction n with
    | zero => intro o_this x1 x2 x3 H locs ls _ _ _ _ hf; cases hf
    | succ n hk105 =>
      intro o_this x1 x2 x3 H locs ls hP hD hS hl hf
      have hf : ff_X13_hollows_c105 N (ff_X13_hollows_l105 N n) o_this x1 x2 x3 = some out := hf
      generalize hke : ff_X13_hollows_l105 N n = k105 at hk105 hf
      unfold ff_X13_hollows_c105 at hf
      refine lv_iload_n hx hb dX13_hollows_105 rfl (lv_at hl 3 rfl) ?_
      refine lv_aload_n hx hb dX13_hollows_106 rfl (lv_at hl 0 rfl) ?_
      obtain ⟨u_22, he_23, hf⟩ := os_bd hf
      refine mc_callV ⟨hx, hb, hml, hown, hts⟩ (mm_X13_cellMany l D kA N q_this o_this u_22 he_23) (cwV 0 hts gX13_hollows_X13_cellMany rfl rfl rfl (by decide +kernel) ⟨Nat.le_of_ble_eq_true rfl, Nat.le_of_ble_eq_true rfl⟩) (wc := (ce_X13 kA q_this o_this)) (ci := 9) (q0 := 0) rfl rfl rfl hl.1 (As := []) (rest := [.int x3]) rfl (Nat.le_of_ble_eq_true rfl) dX13_hollows_107 ⟨Nat.le_of_ble_eq_true rfl, Nat.le_of_ble_eq_true rfl⟩ hK hP hD hS hA [0, 1, 2, 3, 4, 5, 6, 7, 8, 9, 10, 11, 12, 13, 14, 15, 16, 17, 18, 19, 20, 21, 22, 23] [] [0, 1, 2, 3, 4, 5, 6, 7, 8, 9, 10, 11, 12, 13, 14, 15, 16, 17, 18, 19, 20, 21, 22, 23] rfl (by decide) rfl (by decide) (by decide) rfl (by decide) (wr := []) (w2 := (ce_X13 kA q_this o_this)) (fun H locs hP hD hS => ?_)
      have hP : va_P D vwCl (ce_X13 kA q_this o_this) H := hP
      refine lv_icmp_ge (tgt := 175) hx hb dX13_hollows_110 (by decide) (fun hc_24 => ?_) (fun hc_24 => ?_)
      · rw [if_pos hc_24] at hf
        refine lv_iload_n hx hb dX13_hollows_175 rfl (lv_at hl 2 rfl) ?_
        rw [← Option.some.inj hf]
        exact mc_reti hx hb hr hlk hP hK hD hS dX13_hollows_176
      · rw [if_neg hc_24] at hf
        refine lv_iload_n hx hb dX13_hollows_113 rfl (lv_at hl 2 rfl) ?_
        refine lv_aload_n hx hb dX13_hollows_114 rfl (lv_at hl 0 rfl) ?_
        refine va_get (D := D) (ci := 9) (v := .ref (q_this 5)) (C := RX13) (T := TX13) (N := 48) hx hb hUX13 (fun _ h9 => h9) hown hK hP 0 rfl rfl 16 (by decide) (hts (Cond.fieldLink RX13 29 "ReliefBuilderModel" "heights" "[I") (List.mem_of_getElem? (i := 2) rfl)) (fun _ h9 => h9) rfl dX13_hollows_115 ?_
        refine lv_aload_n hx hb dX13_hollows_118 rfl (lv_at hl 0 rfl) ?_
        refine lv_iload_n hx hb dX13_hollows_119 rfl (lv_at hl 3 rfl) ?_
        obtain ⟨u_25, he_26, hf⟩ := os_bd hf
        refine mc_callV ⟨hx, hb, hml, hown, hts⟩ (mm_X13_cellAt l D kA N q_this o_this x3 u_25 he_26) (cwV 1 hts gX13_hollows_X13_cellAt rfl rfl rfl (by decide +kernel) ⟨Nat.le_of_ble_eq_true rfl, Nat.le_of_ble_eq_true rfl⟩) (wc := (ce_X13 kA q_this o_this)) (ci := 9) (q0 := 0) rfl rfl rfl hl.1 (As := [.int x3]) (rest := [.ref (q_this 5), .int x2]) rfl (Nat.le_of_ble_eq_true rfl) dX13_hollows_120 ⟨Nat.le_of_ble_eq_true rfl, Nat.le_of_ble_eq_true rfl⟩ hK hP hD hS hA [0, 1, 2, 3, 4, 5, 6, 7, 8, 9, 10, 11, 12, 13, 14, 15, 16, 17, 18, 19, 20, 21, 22, 23] [] [0, 1, 2, 3, 4, 5, 6, 7, 8, 9, 10, 11, 12, 13, 14, 15, 16, 17, 18, 19, 20, 21, 22, 23] rfl (by decide) rfl (by decide) (by decide) rfl (by decide) (wr := []) (w2 := (ce_X13 kA q_this o_this)) (fun H locs hP hD hS => ?_)
        have hP : va_P D vwCl (ce_X13 kA q_this o_this) H := hP
        obtain ⟨hi_27, hf⟩ := os_if hf
        refine va_iald hx hb hK hP 5 0 rfl rfl hi_27 dX13_hollows_123 ?_
        refine lv_iload_n hx hb dX13_hollows_124 rfl (lv_at hl 1 rfl) ?_
        refine lv_icmp_ge (tgt := 163) hx hb dX13_hollows_125 (by decide) (fun hc_28 => ?_) (fun hc_28 => ?_)
        · rw [if_pos hc_28] at hf
          exact hB163 k105 hk105 o_this x1 x3 x2 _ _ _ hP hD hS (lv_sub hl [0, 1, 3] rfl) hf
        · rw [if_neg hc_28] at hf
          refine lv_aload_n hx hb dX13_hollows_128 rfl (lv_at hl 0 rfl) ?_
          refine va_get (D := D) (ci := 9) (v := .ref (q_this 10)) (C := RX13) (T := TX13) (N := 48) hx hb hUX13 (fun _ h9 => h9) hown hK hP 0 rfl rfl 27 (by decide) (hts (Cond.fieldLink RX13 45 "ReliefBuilderModel" "group" "[I") (List.mem_of_getElem? (i := 3) rfl)) (fun _ h9 => h9) rfl dX13_hollows_129 ?_
          refine lv_aload_n hx hb dX13_hollows_132 rfl (lv_at hl 0 rfl) ?_
          refine lv_iload_n hx hb dX13_hollows_133 rfl (lv_at hl 3 rfl) ?_
          obtain ⟨u_29, he_30, hf⟩ := os_bd hf
          refine mc_callV ⟨hx, hb, hml, hown, hts⟩ (mm_X13_cellAt l D kA N q_this o_this x3 u_29 he_30) (cwV 1 hts gX13_hollows_X13_cellAt rfl rfl rfl (by decide +kernel) ⟨Nat.le_of_ble_eq_true rfl, Nat.le_of_ble_eq_true rfl⟩) (wc := (ce_X13 kA q_this o_this)) (ci := 9) (q0 := 0) rfl rfl rfl hl.1 (As := [.int x3]) (rest := [.ref (q_this 10), .int x2]) rfl (Nat.le_of_ble_eq_true rfl) dX13_hollows_134 ⟨Nat.le_of_ble_eq_true rfl, Nat.le_of_ble_eq_true rfl⟩ hK hP hD hS hA [0, 1, 2, 3, 4, 5, 6, 7, 8, 9, 10, 11, 12, 13, 14, 15, 16, 17, 18, 19, 20, 21, 22, 23] [] [0, 1, 2, 3, 4, 5, 6, 7, 8, 9, 10, 11, 12, 13, 14, 15, 16, 17, 18, 19, 20, 21, 22, 23] rfl (by decide) rfl (by decide) (by decide) rfl (by decide) (wr := []) (w2 := (ce_X13 kA q_this o_this)) (fun H locs hP hD hS => ?_)
          have hP : va_P D vwCl (ce_X13 kA q_this o_this) H := hP
          obtain ⟨hi_31, hf⟩ := os_if hf
          refine va_iald hx hb hK hP 10 0 rfl rfl hi_31 dX13_hollows_137 ?_
          refine lv_aload_n hx hb dX13_hollows_138 rfl (lv_at hl 0 rfl) ?_
          refine lv_iload_n hx hb dX13_hollows_139 rfl (lv_at hl 3 rfl) ?_
          obtain ⟨u_32, he_33, hf⟩ := os_bd hf
          refine mc_callV ⟨hx, hb, hml, hown, hts⟩ (mm_X13_cellAt l D kA N q_this o_this x3 u_32 he_33) (cwV 1 hts gX13_hollows_X13_cellAt rfl rfl rfl (by decide +kernel) ⟨Nat.le_of_ble_eq_true rfl, Nat.le_of_ble_eq_true rfl⟩) (wc := (ce_X13 kA q_this o_this)) (ci := 9) (q0 := 0) rfl rfl rfl hl.1 (As := [.int x3]) (rest := [.int ((os_A o_this 9) (Int32.toNatClampNeg u_29)), .int x2]) rfl (Nat.le_of_ble_eq_true rfl) dX13_hollows_140 ⟨Nat.le_of_ble_eq_true rfl, Nat.le_of_ble_eq_true rfl⟩ hK hP hD hS hA [0, 1, 2, 3, 4, 5, 6, 7, 8, 9, 10, 11, 12, 13, 14, 15, 16, 17, 18, 19, 20, 21, 22, 23] [] [0, 1, 2, 3, 4, 5, 6, 7, 8, 9, 10, 11, 12, 13, 14, 15, 16, 17, 18, 19, 20, 21, 22, 23] rfl (by decide) rfl (by decide) (by decide) rfl (by decide) (wr := []) (w2 := (ce_X13 kA q_this o_this)) (fun H locs hP hD hS => ?_)
          have hP : va_P D vwCl (ce_X13 kA q_this o_this) H := hP
          refine lv_icmp_ne (tgt := 163) hx hb dX13_hollows_143 (by decide) (fun hc_34 => ?_) (fun hc_34 => ?_)
          · rw [if_neg hc_34] at hf
            exact hB163 k105 hk105 o_this x1 x3 x2 _ _ _ hP hD hS (lv_sub hl [0, 1, 3] rfl) hf
          · rw [if_pos hc_34] at hf
            refine lv_aload_n hx hb dX13_hollows_146 rfl (lv_at hl 0 rfl) ?_
            refine va_get (D := D) (ci := 9) (v := .ref (q_this 7)) (C := RX13) (T := TX13) (N := 48) hx hb hUX13 (fun _ h9 => h9) hown hK hP 0 rfl rfl 24 (by decide) (hts (Cond.fieldLink RX13 35 "ReliefBuilderModel" "marks" "[Z") (List.mem_of_getElem? (i := 1) rfl)) (fun _ h9 => h9) rfl dX13_hollows_147 ?_
            refine lv_aload_n hx hb dX13_hollows_150 rfl (lv_at hl 0 rfl) ?_
            refine lv_iload_n hx hb dX13_hollows_151 rfl (lv_at hl 3 rfl) ?_
            obtain ⟨u_35, he_36, hf⟩ := os_bd hf
            refine mc_callV ⟨hx, hb, hml, hown, hts⟩ (mm_X13_cellAt l D kA N q_this o_this x3 u_35 he_36) (cwV 1 hts gX13_hollows_X13_cellAt rfl rfl rfl (by decide +kernel) ⟨Nat.le_of_ble_eq_true rfl, Nat.le_of_ble_eq_true rfl⟩) (wc := (ce_X13 kA q_this o_this)) (ci := 9) (q0 := 0) rfl rfl rfl hl.1 (As := [.int x3]) (rest := [.ref (q_this 7), .int x2]) rfl (Nat.le_of_ble_eq_true rfl) dX13_hollows_152 ⟨Nat.le_of_ble_eq_true rfl, Nat.le_of_ble_eq_true rfl⟩ hK hP hD hS hA [0, 1, 2, 3, 4, 5, 6, 7, 8, 9, 10, 11, 12, 13, 14, 15, 16, 17, 18, 19, 20, 21, 22, 23] [] [0, 1, 2, 3, 4, 5, 6, 7, 8, 9, 10, 11, 12, 13, 14, 15, 16, 17, 18, 19, 20, 21, 22, 23] rfl (by decide) rfl (by decide) (by decide) rfl (by decide) (wr := []) (w2 := (ce_X13 kA q_this o_this)) (fun H locs hP hD hS => ?_)
            have hP : va_P D vwCl (ce_X13 kA q_this o_this) H := hP
            obtain ⟨hi_37, hf⟩ := os_if hf
            refine va_zald hx hb hK hP 7 1 rfl rfl hi_37 dX13_hollows_155 ?_
            refine lv_if_ne (tgt := 163) hx hb dX13_hollows_156 (by decide) (fun hc_38 => ?_) (fun hc_38 => ?_)
            · rw [if_neg hc_38] at hf
              exact hB163 k105 hk105 o_this x1 x3 x2 _ _ _ hP hD hS (lv_sub hl [0, 1, 3] rfl) hf
            · rw [if_pos hc_38] at hf
              refine lv_iconst (v := 1) hx hb dX13_hollows_159 (by decide) ?_
              refine lv_goto (tgt := 164) hx hb dX13_hollows_160 (by decide) ?_
              exact hB164 k105 hk105 o_this x1 x3 (1 : Int32) x2 _ _ _ hP hD hS (lv_sub hl [0, 1, 3] rfl) hf
  have hB95 : ∀ (k44 : (os_T × Int32 × Int32) → Option (Int32 × os_T)), (∀ (o_this : os_T) (x1 : Int32) (x2 : Int32) (H : Heap) (locs : List Loc) (ls : Array Slot), va_P D vwCl (ce_X13 kA q_this o_this) H → va_D A (ce_X13 kA q_this o_this) → va_S A s.heap H locs → lv_has ls 4 [(0, .ref (q_this 0)), (1, .int x1), (2, .int x2)] → k44 (o_this, x1, x2) = some out → W p l e ({ frames := 5, cells := 0, slots := 0, locals := 121 } : Room) s m [.ref (q_this 0), .int a1].toArray below meth c H locs 0 0 (MQ below (mc_Q D kA A (some (.int out.1)) (ce_X13 kA q_this out.2)) [.ref (q_this 0), .int a1].toArray s 0 0 A) (F0 m 44 ls [])) → ∀ (o_this : os_T) (x1 : Int32) (x2 : Int32) (H : Heap) (locs : List Loc) (ls : Array Slot), va_P D vwCl (ce_X13 kA q_this o_this) H → va_D A (ce_X13 kA q_this o_this) → va_S A s.heap H locs → lv_has ls 4 [(0, .ref (q_this 0)), (1, .int x1), (2, .int x2)] → ff_X13_hollows_b95 N k44 o_this x1 x2 = some out → W p l e ({ frames := 5, cells := 0, slots := 0, locals := 121 } : Room) s m [.ref (q_this 0), .int a1].toArray below meth c H locs 0 0 (MQ below (mc_Q D kA A (some (.int out.1)) (ce_X13 kA q_this out.2)) [.ref (q_this 0), .int a1].toArray s 0 0 A) (F0 m 95 ls []) := by
    intro k44 hk44 o_this x1 x2 H locs ls hP hD hS hl hf
    unfold ff_X13_hollows_b95 at hf
    refine lv_iinc (v := x2 + 1) (lv' := [(2, .int (x2 + 1)), (0, .ref (q_this 0)), (1, .int x1)]) hx hb dX13_hollows_95 hl (k := 2) rfl rfl (by decide) rfl (fun ls hl => ?_)
    refine lv_goto (tgt := 44) hx hb dX13_hollows_98 (by decide) ?_
    exact hk44 o_this x1 (x2 + 1) _ _ _ hP hD hS (lv_sub hl [1, 2, 0] rfl) hf
  have hL44 : ∀ (n : Nat) (o_this : os_T) (x1 : Int32) (x2 : Int32) (H : Heap) (locs : List Loc) (ls : Array Slot), va_P D vwCl (ce_X13 kA q_this o_this) H → va_D A (ce_X13 kA q_this o_this) → va_S A s.heap H locs → lv_has ls 4 [(0, .ref (q_this 0)), (1, .int x1), (2, .int x2)] → ff_X13_hollows_l44 N n (o_this, x1, x2) = some out → W p l e ({ frames := 5, cells := 0, slots := 0, locals := 121 } : Room) s m [.ref (q_this 0), .int a1].toArray below meth c H locs 0 0 (MQ below (mc_Q D kA A (some (.int out.1)) (ce_X13 kA q_this out.2)) [.ref (q_this 0), .int a1].toArray s 0 0 A) (F0 m 44 ls []) := by
    intro n
    induction n with
    | zero => intro o_this x1 x2 H locs ls _ _ _ _ hf; cases hf
    | succ n hk44 =>
      intro o_this x1 x2 H locs ls hP hD hS hl hf
      have hf : ff_X13_hollows_c44 N (ff_X13_hollows_l44 N n) o_this x1 x2 = some out := hf
      generalize hke : ff_X13_hollows_l44 N n = k44 at hk44 hf
      unfold ff_X13_hollows_c44 at hf
      refine lv_iload_n hx hb dX13_hollows_44 rfl (lv_at hl 2 rfl) ?_
      refine lv_aload_n hx hb dX13_hollows_45 rfl (lv_at hl 0 rfl) ?_
      obtain ⟨u_10, he_11, hf⟩ := os_bd hf
      refine mc_callV ⟨hx, hb, hml, hown, hts⟩ (mm_X13_cellMany l D kA N q_this o_this u_10 he_11) (cwV 0 hts gX13_hollows_X13_cellMany rfl rfl rfl (by decide +kernel) ⟨Nat.le_of_ble_eq_true rfl, Nat.le_of_ble_eq_true rfl⟩) (wc := (ce_X13 kA q_this o_this)) (ci := 9) (q0 := 0) rfl rfl rfl hl.1 (As := []) (rest := [.int x2]) rfl (Nat.le_of_ble_eq_true rfl) dX13_hollows_46 ⟨Nat.le_of_ble_eq_true rfl, Nat.le_of_ble_eq_true rfl⟩ hK hP hD hS hA [0, 1, 2, 3, 4, 5, 6, 7, 8, 9, 10, 11, 12, 13, 14, 15, 16, 17, 18, 19, 20, 21, 22, 23] [] [0, 1, 2, 3, 4, 5, 6, 7, 8, 9, 10, 11, 12, 13, 14, 15, 16, 17, 18, 19, 20, 21, 22, 23] rfl (by decide) rfl (by decide) (by decide) rfl (by decide) (wr := []) (w2 := (ce_X13 kA q_this o_this)) (fun H locs hP hD hS => ?_)
      have hP : va_P D vwCl (ce_X13 kA q_this o_this) H := hP
      refine lv_icmp_ge (tgt := 101) hx hb dX13_hollows_49 (by decide) (fun hc_12 => ?_) (fun hc_12 => ?_)
      · rw [if_pos hc_12] at hf
        refine lv_iconst (v := 0) hx hb dX13_hollows_101 (by decide) ?_
        refine lv_istore_n (lv' := [(2, .int (0 : Int32)), (0, .ref (q_this 0)), (1, .int x1)]) hx hb dX13_hollows_102 rfl hl (by decide) rfl (fun ls hl => ?_)
        refine lv_iconst (v := 0) hx hb dX13_hollows_103 (by decide) ?_
        refine lv_istore_n (lv' := [(3, .int (0 : Int32)), (2, .int (0 : Int32)), (0, .ref (q_this 0)), (1, .int x1)]) hx hb dX13_hollows_104 rfl hl (by decide) rfl (fun ls hl => ?_)
        exact hL105 N o_this x1 (0 : Int32) (0 : Int32) _ _ _ hP hD hS (lv_sub hl [2, 3, 1, 0] rfl) hf
      · rw [if_neg hc_12] at hf
        refine lv_aload_n hx hb dX13_hollows_52 rfl (lv_at hl 0 rfl) ?_
        refine lv_iload_n hx hb dX13_hollows_53 rfl (lv_at hl 2 rfl) ?_
        obtain ⟨u_13, he_14, hf⟩ := os_bd hf
        refine mc_callV ⟨hx, hb, hml, hown, hts⟩ (mm_X13_cellAt l D kA N q_this o_this x2 u_13 he_14) (cwV 1 hts gX13_hollows_X13_cellAt rfl rfl rfl (by decide +kernel) ⟨Nat.le_of_ble_eq_true rfl, Nat.le_of_ble_eq_true rfl⟩) (wc := (ce_X13 kA q_this o_this)) (ci := 9) (q0 := 0) rfl rfl rfl hl.1 (As := [.int x2]) (rest := []) rfl (Nat.le_of_ble_eq_true rfl) dX13_hollows_54 ⟨Nat.le_of_ble_eq_true rfl, Nat.le_of_ble_eq_true rfl⟩ hK hP hD hS hA [0, 1, 2, 3, 4, 5, 6, 7, 8, 9, 10, 11, 12, 13, 14, 15, 16, 17, 18, 19, 20, 21, 22, 23] [] [0, 1, 2, 3, 4, 5, 6, 7, 8, 9, 10, 11, 12, 13, 14, 15, 16, 17, 18, 19, 20, 21, 22, 23] rfl (by decide) rfl (by decide) (by decide) rfl (by decide) (wr := []) (w2 := (ce_X13 kA q_this o_this)) (fun H locs hP hD hS => ?_)
        have hP : va_P D vwCl (ce_X13 kA q_this o_this) H := hP
        refine lv_istore_n (lv' := [(3, .int u_13), (0, .ref (q_this 0)), (1, .int x1), (2, .int x2)]) hx hb dX13_hollows_57 rfl hl (by decide) rfl (fun ls hl => ?_)
        refine lv_aload_n hx hb dX13_hollows_58 rfl (lv_at hl 1 rfl) ?_
        refine va_get (D := D) (ci := 9) (v := .ref (q_this 5)) (C := RX13) (T := TX13) (N := 48) hx hb hUX13 (fun _ h9 => h9) hown hK hP 0 rfl rfl 16 (by decide) (hts (Cond.fieldLink RX13 29 "ReliefBuilderModel" "heights" "[I") (List.mem_of_getElem? (i := 2) rfl)) (fun _ h9 => h9) rfl dX13_hollows_59 ?_
        refine lv_iload_n hx hb dX13_hollows_62 rfl (lv_at hl 0 rfl) ?_
        obtain ⟨hi_15, hf⟩ := os_if hf
        refine va_iald hx hb hK hP 5 0 rfl rfl hi_15 dX13_hollows_63 ?_
        refine lv_iload_n hx hb dX13_hollows_64 rfl (lv_at hl 2 rfl) ?_
        refine lv_icmp_ge (tgt := 95) hx hb dX13_hollows_65 (by decide) (fun hc_16 => ?_) (fun hc_16 => ?_)
        · rw [if_pos hc_16] at hf
          exact hB95 k44 hk44 o_this x1 x2 _ _ _ hP hD hS (lv_sub hl [1, 2, 3] rfl) hf
        · rw [if_neg hc_16] at hf
          refine lv_aload_n hx hb dX13_hollows_68 rfl (lv_at hl 1 rfl) ?_
          refine lv_iload_n hx hb dX13_hollows_69 rfl (lv_at hl 0 rfl) ?_
          refine lv_bipush (v := 16) hx hb dX13_hollows_70 (by decide) ?_
          refine lv_irem hx hb dX13_hollows_72 (by decide) ?_
          refine lv_iload_n hx hb dX13_hollows_73 rfl (lv_at hl 0 rfl) ?_
          refine lv_bipush (v := 16) hx hb dX13_hollows_74 (by decide) ?_
          refine lv_idiv hx hb dX13_hollows_76 (by decide) ?_
          obtain ⟨u_17, he_18, hf⟩ := os_bd hf
          refine mc_callV ⟨hx, hb, hml, hown, hts⟩ (mm_X13_isEdge l D kA N q_this o_this (u_13 - u_13 / (16 : Int32) * (16 : Int32)) (u_13 / (16 : Int32)) u_17 he_18) (cwV 2 hts gX13_hollows_X13_isEdge rfl rfl rfl (by decide +kernel) ⟨Nat.le_of_ble_eq_true rfl, Nat.le_of_ble_eq_true rfl⟩) (wc := (ce_X13 kA q_this o_this)) (ci := 9) (q0 := 0) rfl rfl rfl hl.1 (As := [.int (u_13 - u_13 / (16 : Int32) * (16 : Int32)), .int (u_13 / (16 : Int32))]) (rest := []) rfl (Nat.le_of_ble_eq_true rfl) dX13_hollows_77 ⟨Nat.le_of_ble_eq_true rfl, Nat.le_of_ble_eq_true rfl⟩ hK hP hD hS hA [0, 1, 2, 3, 4, 5, 6, 7, 8, 9, 10, 11, 12, 13, 14, 15, 16, 17, 18, 19, 20, 21, 22, 23] [] [0, 1, 2, 3, 4, 5, 6, 7, 8, 9, 10, 11, 12, 13, 14, 15, 16, 17, 18, 19, 20, 21, 22, 23] rfl (by decide) rfl (by decide) (by decide) rfl (by decide) (wr := []) (w2 := (ce_X13 kA q_this o_this)) (fun H locs hP hD hS => ?_)
          have hP : va_P D vwCl (ce_X13 kA q_this o_this) H := hP
          refine lv_if_eq (tgt := 95) hx hb dX13_hollows_80 (by decide) (fun hc_19 => ?_) (fun hc_19 => ?_)
          · rw [if_pos hc_19] at hf
            exact hB95 k44 hk44 o_this x1 x2 _ _ _ hP hD hS (lv_sub hl [1, 2, 3] rfl) hf
          · rw [if_neg hc_19] at hf
            refine lv_aload_n hx hb dX13_hollows_83 rfl (lv_at hl 1 rfl) ?_
            refine va_get (D := D) (ci := 9) (v := .ref (q_this 7)) (C := RX13) (T := TX13) (N := 48) hx hb hUX13 (fun _ h9 => h9) hown hK hP 0 rfl rfl 24 (by decide) (hts (Cond.fieldLink RX13 35 "ReliefBuilderModel" "marks" "[Z") (List.mem_of_getElem? (i := 1) rfl)) (fun _ h9 => h9) rfl dX13_hollows_84 ?_
            refine lv_aload_n hx hb dX13_hollows_87 rfl (lv_at hl 1 rfl) ?_
            refine va_get (D := D) (ci := 9) (v := .ref (q_this 10)) (C := RX13) (T := TX13) (N := 48) hx hb hUX13 (fun _ h9 => h9) hown hK hP 0 rfl rfl 27 (by decide) (hts (Cond.fieldLink RX13 45 "ReliefBuilderModel" "group" "[I") (List.mem_of_getElem? (i := 3) rfl)) (fun _ h9 => h9) rfl dX13_hollows_88 ?_
            refine lv_iload_n hx hb dX13_hollows_91 rfl (lv_at hl 0 rfl) ?_
            obtain ⟨hi_20, hf⟩ := os_if hf
            refine va_iald hx hb hK hP 10 0 rfl rfl hi_20 dX13_hollows_92 ?_
            refine lv_iconst (v := 1) hx hb dX13_hollows_93 (by decide) ?_
            obtain ⟨hi_21, hf⟩ := os_if hf
            refine va_zast hx hb hK hP hD hS 7 1 rfl rfl hi_21 dX13_hollows_94 (fun H locs hP hD hS => ?_)
            have hP : va_P D vwCl (ce_X13 kA q_this (ss_A o_this 6 (upd (os_A o_this 6) (Int32.toNatClampNeg ((os_A o_this 9) (Int32.toNatClampNeg u_13))) (vp_nar .boolean (1 : Int32))))) H := hP
            have hD : va_D A (ce_X13 kA q_this (ss_A o_this 6 (upd (os_A o_this 6) (Int32.toNatClampNeg ((os_A o_this 9) (Int32.toNatClampNeg u_13))) (vp_nar .boolean (1 : Int32))))) := hD
            exact hB95 k44 hk44 (ss_A o_this 6 (upd (os_A o_this 6) (Int32.toNatClampNeg ((os_A o_this 9) (Int32.toNatClampNeg u_13))) (vp_nar .boolean (1 : Int32)))) x1 x2 _ _ _ hP hD hS (lv_sub hl [1, 2, 3] rfl) hf
  have hL22 : ∀ (n : Nat) (o_this : os_T) (x1 : Int32) (x2 : Int32) (H : Heap) (locs : List Loc) (ls : Array Slot), va_P D vwCl (ce_X13 kA q_this o_this) H → va_D A (ce_X13 kA q_this o_this) → va_S A s.heap H locs → lv_has ls 4 [(0, .ref (q_this 0)), (1, .int x1), (2, .int x2)] → ff_X13_hollows_l22 N n (o_this, x1, x2) = some out → W p l e ({ frames := 5, cells := 0, slots := 0, locals := 121 } : Room) s m [.ref (q_this 0), .int a1].toArray below meth c H locs 0 0 (MQ below (mc_Q D kA A (some (.int out.1)) (ce_X13 kA q_this out.2)) [.ref (q_this 0), .int a1].toArray s 0 0 A) (F0 m 22 ls []) := by
    intro n
    induction n with
    | zero => intro o_this x1 x2 H locs ls _ _ _ _ hf; cases hf
    | succ n hk22 =>
      intro o_this x1 x2 H locs ls hP hD hS hl hf
      have hf : ff_X13_hollows_c22 N (ff_X13_hollows_l22 N n) o_this x1 x2 = some out := hf
      generalize hke : ff_X13_hollows_l22 N n = k22 at hk22 hf
      unfold ff_X13_hollows_c22 at hf
      refine lv_iload_n hx hb dX13_hollows_22 rfl (lv_at hl 2 rfl) ?_
      refine lv_sipush (v := 192) hx hb dX13_hollows_23 (by decide) ?_
      refine lv_icmp_ge (tgt := 42) hx hb dX13_hollows_26 (by decide) (fun hc_8 => ?_) (fun hc_8 => ?_)
      · rw [if_pos hc_8] at hf
        refine lv_iconst (v := 0) hx hb dX13_hollows_42 (by decide) ?_
        refine lv_istore_n (lv' := [(2, .int (0 : Int32)), (0, .ref (q_this 0)), (1, .int x1)]) hx hb dX13_hollows_43 rfl hl (by decide) rfl (fun ls hl => ?_)
        exact hL44 N o_this x1 (0 : Int32) _ _ _ hP hD hS (lv_sub hl [1, 2, 0] rfl) hf
      · rw [if_neg hc_8] at hf
        refine lv_aload_n hx hb dX13_hollows_29 rfl (lv_at hl 0 rfl) ?_
        refine va_get (D := D) (ci := 9) (v := .ref (q_this 7)) (C := RX13) (T := TX13) (N := 48) hx hb hUX13 (fun _ h9 => h9) hown hK hP 0 rfl rfl 24 (by decide) (hts (Cond.fieldLink RX13 35 "ReliefBuilderModel" "marks" "[Z") (List.mem_of_getElem? (i := 1) rfl)) (fun _ h9 => h9) rfl dX13_hollows_30 ?_
        refine lv_iload_n hx hb dX13_hollows_33 rfl (lv_at hl 2 rfl) ?_
        refine lv_iconst (v := 0) hx hb dX13_hollows_34 (by decide) ?_
        obtain ⟨hi_9, hf⟩ := os_if hf
        refine va_zast hx hb hK hP hD hS 7 1 rfl rfl hi_9 dX13_hollows_35 (fun H locs hP hD hS => ?_)
        have hP : va_P D vwCl (ce_X13 kA q_this (ss_A o_this 6 (upd (os_A o_this 6) (Int32.toNatClampNeg x2) (vp_nar .boolean (0 : Int32))))) H := hP
        have hD : va_D A (ce_X13 kA q_this (ss_A o_this 6 (upd (os_A o_this 6) (Int32.toNatClampNeg x2) (vp_nar .boolean (0 : Int32))))) := hD
        refine lv_iinc (v := x2 + 1) (lv' := [(2, .int (x2 + 1)), (0, .ref (q_this 0)), (1, .int x1)]) hx hb dX13_hollows_36 hl (k := 2) rfl rfl (by decide) rfl (fun ls hl => ?_)
        refine lv_goto (tgt := 22) hx hb dX13_hollows_39 (by decide) ?_
        exact hk22 (ss_A o_this 6 (upd (os_A o_this 6) (Int32.toNatClampNeg x2) (vp_nar .boolean (0 : Int32)))) x1 (x2 + 1) _ _ _ hP hD hS (lv_sub hl [1, 2, 0] rfl) hf
  unfold ff_X13_hollows at hf
  refine lv_aload_n hx hb dX13_hollows_0 rfl (lv_at hl 0 rfl) ?_
  refine lv_aload_n hx hb dX13_hollows_1 rfl (lv_at hl 0 rfl) ?_
  refine lv_iload_n hx hb dX13_hollows_2 rfl (lv_at hl 1 rfl) ?_
  obtain ⟨u_1, he_2, hf⟩ := os_bd hf
  refine mc_callV ⟨hx, hb, hml, hown, hts⟩ (mm_X13_isLayer l D kA N q_this o_this a1 u_1 he_2) (cwV 1 hts gX13_hollows_X13_isLayer rfl rfl rfl (by decide +kernel) ⟨Nat.le_of_ble_eq_true rfl, Nat.le_of_ble_eq_true rfl⟩) (wc := (ce_X13 kA q_this o_this)) (ci := 9) (q0 := 0) rfl rfl rfl hl.1 (As := [.int a1]) (rest := [.ref (q_this 0)]) rfl (Nat.le_of_ble_eq_true rfl) dX13_hollows_3 ⟨Nat.le_of_ble_eq_true rfl, Nat.le_of_ble_eq_true rfl⟩ hK hP hD hS hA [0, 1, 2, 3, 4, 5, 6, 7, 8, 9, 10, 11, 12, 13, 14, 15, 16, 17, 18, 19, 20, 21, 22, 23] [] [0, 1, 2, 3, 4, 5, 6, 7, 8, 9, 10, 11, 12, 13, 14, 15, 16, 17, 18, 19, 20, 21, 22, 23] rfl (by decide) rfl (by decide) (by decide) rfl (by decide) (wr := []) (w2 := (ce_X13 kA q_this o_this)) (fun H locs hP hD hS => ?_)
  have hP : va_P D vwCl (ce_X13 kA q_this o_this) H := hP
  obtain ⟨u_3, he_4, hf⟩ := os_bd hf
  refine mc_callV ⟨hx, hb, hml, hown, hts⟩ (mm_X13_goes l D kA N q_this o_this u_1 u_3 he_4) (cwV 1 hts gX13_hollows_X13_goes rfl rfl rfl (by decide +kernel) ⟨Nat.le_of_ble_eq_true rfl, Nat.le_of_ble_eq_true rfl⟩) (wc := (ce_X13 kA q_this o_this)) (ci := 9) (q0 := 0) rfl rfl rfl hl.1 (As := [.int u_1]) (rest := []) rfl (Nat.le_of_ble_eq_true rfl) dX13_hollows_6 ⟨Nat.le_of_ble_eq_true rfl, Nat.le_of_ble_eq_true rfl⟩ hK hP hD hS hA [0, 1, 2, 3, 4, 5, 6, 7, 8, 9, 10, 11, 12, 13, 14, 15, 16, 17, 18, 19, 20, 21, 22, 23] [] [0, 1, 2, 3, 4, 5, 6, 7, 8, 9, 10, 11, 12, 13, 14, 15, 16, 17, 18, 19, 20, 21, 22, 23] rfl (by decide) rfl (by decide) (by decide) rfl (by decide) (wr := []) (w2 := (ce_X13 kA q_this u_3.2)) (fun H locs hP hD hS => ?_)
  have hP : va_P D vwCl (ce_X13 kA q_this u_3.2) H := hP
  refine lv_if_ne (tgt := 14) hx hb dX13_hollows_9 (by decide) (fun hc_5 => ?_) (fun hc_5 => ?_)
  · rw [if_neg hc_5] at hf
    refine lv_aload_n hx hb dX13_hollows_14 rfl (lv_at hl 0 rfl) ?_
    refine lv_iload_n hx hb dX13_hollows_15 rfl (lv_at hl 1 rfl) ?_
    refine lv_iconst (v := 0) hx hb dX13_hollows_16 (by decide) ?_
    obtain ⟨u_6, he_7, hf⟩ := os_bd hf
    refine mc_callV ⟨hx, hb, hml, hown, hts⟩ (mm_X13_groups l D kA N q_this u_3.2 a1 (0 : Int32) u_6 he_7) (cwV 2 hts gX13_hollows_X13_groups rfl rfl rfl (by decide +kernel) ⟨Nat.le_of_ble_eq_true rfl, Nat.le_of_ble_eq_true rfl⟩) (wc := (ce_X13 kA q_this u_3.2)) (ci := 9) (q0 := 0) rfl rfl rfl hl.1 (As := [.int a1, .int (0 : Int32)]) (rest := []) rfl (Nat.le_of_ble_eq_true rfl) dX13_hollows_17 ⟨Nat.le_of_ble_eq_true rfl, Nat.le_of_ble_eq_true rfl⟩ hK hP hD hS hA [0, 1, 2, 3, 4, 5, 6, 7, 8, 9, 10, 11, 12, 13, 14, 15, 16, 17, 18, 19, 20, 21, 22, 23] [] [0, 1, 2, 3, 4, 5, 6, 7, 8, 9, 10, 11, 12, 13, 14, 15, 16, 17, 18, 19, 20, 21, 22, 23] rfl (by decide) rfl (by decide) (by decide) rfl (by decide) (wr := []) (w2 := (ce_X13 kA q_this u_6)) (fun H locs hP hD hS => ?_)
    have hP : va_P D vwCl (ce_X13 kA q_this u_6) H := hP
    refine lv_iconst (v := 0) hx hb dX13_hollows_20 (by decide) ?_
    refine lv_istore_n (lv' := [(2, .int (0 : Int32)), (0, .ref (q_this 0)), (1, .int a1)]) hx hb dX13_hollows_21 rfl hl (by decide) rfl (fun ls hl => ?_)
    exact hL22 N u_6 a1 (0 : Int32) _ _ _ hP hD hS (lv_sub hl [1, 2, 0] rfl) hf
  · rw [if_pos hc_5] at hf
    refine lv_iconst (v := 0) hx hb dX13_hollows_12 (by decide) ?_
    rw [← Option.some.inj hf]
    exact mc_reti hx hb hr hlk hP hK hD hS dX13_hollows_13
def ff_X13_keeps_c136 (N : Nat) (k136 : (os_T × Int32 × Int32) → Option (Int32 × os_T)) (o_this : os_T) (x1 : Int32) (x3 : Int32) : Option (Int32 × os_T) :=
  (if (192 : Int32) ≤ x3 then some (x1, ss_I o_this 29 ((os_I o_this 29) + (1 : Int32))) else (if os_in x3 192 then (if os_in (((384 : Int32) * (os_I o_this 29)) + x3) 2304 then (if os_in x3 192 then (if os_in ((((384 : Int32) * (os_I o_this 29)) + (192 : Int32)) + x3) 2304 then k136 (ss_A o_this 10 (upd (upd (os_A o_this 10) (Int32.toNatClampNeg (((384 : Int32) * (os_I o_this 29)) + x3)) ((os_A o_this 7) (Int32.toNatClampNeg x3))) (Int32.toNatClampNeg ((((384 : Int32) * (os_I o_this 29)) + (192 : Int32)) + x3)) ((os_A o_this 8) (Int32.toNatClampNeg x3))), x1, x3 + 1) else none) else none) else none) else none))
def ff_X13_keeps_l136 (N : Nat) : Nat → (os_T × Int32 × Int32) → Option (Int32 × os_T) := os_loop (fun k136 s1 => ff_X13_keeps_c136 N k136 s1.1 s1.2.1 s1.2.2)
def ff_X13_keeps_b134 (N : Nat) (o_this : os_T) (x1 : Int32) : Option (Int32 × os_T) :=
  ff_X13_keeps_l136 N N (o_this, x1, (0 : Int32))
def ff_X13_keeps_c100 (N : Nat) (k100 : (os_T × Int32 × Int32) → Option (Int32 × os_T)) (o_this : os_T) (x1 : Int32) (x3 : Int32) : Option (Int32 × os_T) :=
  (if ((384 : Int32) * (os_I o_this 29)) ≤ x3 then ff_X13_keeps_b134 N o_this x1 else (if os_in (x3 + (384 : Int32)) 2304 then (if os_in x3 2304 then k100 (ss_A o_this 10 (upd (os_A o_this 10) (Int32.toNatClampNeg x3) ((os_A o_this 10) (Int32.toNatClampNeg (x3 + (384 : Int32))))), x1, x3 + 1) else none) else none))
def ff_X13_keeps_l100 (N : Nat) : Nat → (os_T × Int32 × Int32) → Option (Int32 × os_T) := os_loop (fun k100 s1 => ff_X13_keeps_c100 N k100 s1.1 s1.2.1 s1.2.2)
def ff_X13_keeps_b60 (N : Nat) (k6 : (os_T × Int32 × Int32 × Int32) → Option (Int32 × os_T)) (o_this : os_T) (x1 : Int32) (x3 : Int32) (t0 : Int32) (t1 : Int32) : Option (Int32 × os_T) :=
  ((ff_X13_truth N t0).bind fun u_20 => k6 (o_this, x1, t1 + u_20, x3 + 1))
def ff_X13_keeps_b34 (N : Nat) (k6 : (os_T × Int32 × Int32 × Int32) → Option (Int32 × os_T)) (o_this : os_T) (x2 : Int32) (x3 : Int32) (t0 : Int32) (t1 : Int32) : Option (Int32 × os_T) :=
  ((ff_X13_truth N t0).bind fun u_10 => (if os_in x3 192 then (if os_in x3 192 then (if ((os_A o_this 3) (Int32.toNatClampNeg x3)) = ((os_A o_this 8) (Int32.toNatClampNeg x3)) then ff_X13_keeps_b60 N k6 o_this (t1 + u_10) x3 (0 : Int32) x2 else ff_X13_keeps_b60 N k6 o_this (t1 + u_10) x3 (1 : Int32) x2) else none) else none))
def ff_X13_keeps_c6 (N : Nat) (k6 : (os_T × Int32 × Int32 × Int32) → Option (Int32 × os_T)) (o_this : os_T) (x1 : Int32) (x2 : Int32) (x3 : Int32) : Option (Int32 × os_T) :=
  (if (192 : Int32) ≤ x3 then (if (x1 + x2) = 0 then some ((0 : Int32), o_this) else (if (os_I o_this 29) = (6 : Int32) then ff_X13_keeps_l100 N N (ss_I o_this 29 ((os_I o_this 29) - (1 : Int32)), x1, (0 : Int32)) else ff_X13_keeps_b134 N o_this x1)) else (if os_in x3 192 then (if os_in x3 192 then (if ((os_A o_this 4) (Int32.toNatClampNeg x3)) = ((os_A o_this 7) (Int32.toNatClampNeg x3)) then ff_X13_keeps_b34 N k6 o_this x2 x3 (0 : Int32) x1 else ff_X13_keeps_b34 N k6 o_this x2 x3 (1 : Int32) x1) else none) else none))
def ff_X13_keeps_l6 (N : Nat) : Nat → (os_T × Int32 × Int32 × Int32) → Option (Int32 × os_T) := os_loop (fun k6 s1 => ff_X13_keeps_c6 N k6 s1.1 s1.2.1 s1.2.2.1 s1.2.2.2)
def ff_X13_keeps (N : Nat) (o_this : os_T) : Option (Int32 × os_T) :=
  ff_X13_keeps_l6 N N (o_this, (0 : Int32), (0 : Int32), (0 : Int32))
set_option maxHeartbeats 4000000 in
set_option maxRecDepth 100000 in
theorem mm_X13_keeps (l : Launch) (D : va_G) (kA : Nat → ClassId) (N : Nat) (q_this : Nat → Nat) (o_this : os_T) (out : (Int32 × os_T)) (hf : ff_X13_keeps N o_this = some out) : mc_C l D kA yX13_keeps wsX13_keeps ({ frames := 1, cells := 0, slots := 0, locals := 20 } : Room) [.ref (q_this 0)] (ce_X13 kA q_this o_this) (some (.int out.1)) (ce_X13 kA q_this out.2) := by
  refine mc_of (cc := cX13_keeps) (maxL := 4) (ret := (some .int)) (by decide) rfl (Nat.le_of_ble_eq_true rfl) ?_
  intro p e s m below meth c A B hD hP hS ls hl
  obtain ⟨hx, hb, hr, hlk, hml, hown, hts, hK, hA, hnm⟩ := B
  have hown : s.vm.findClass RX13 = some m.cls := hown
  have hl : lv_has ls 4 [(0, .ref (q_this 0))] := hl
  have hUX13 : ∀ w ∈ u_ws RX13 TX13 48, w.before [.ref (q_this 0)].toArray s = true := fun w h => hts w (List.mem_cons_of_mem _ (List.mem_append_right _ h))
  have hL136 : ∀ (n : Nat) (o_this : os_T) (x1 : Int32) (x3 : Int32) (H : Heap) (locs : List Loc) (ls : Array Slot), va_P D vwCl (ce_X13 kA q_this o_this) H → va_D A (ce_X13 kA q_this o_this) → va_S A s.heap H locs → lv_has ls 4 [(0, .ref (q_this 0)), (1, .int x1), (3, .int x3)] → ff_X13_keeps_l136 N n (o_this, x1, x3) = some out → W p l e ({ frames := 1, cells := 0, slots := 0, locals := 20 } : Room) s m [.ref (q_this 0)].toArray below meth c H locs 0 0 (MQ below (mc_Q D kA A (some (.int out.1)) (ce_X13 kA q_this out.2)) [.ref (q_this 0)].toArray s 0 0 A) (F0 m 136 ls []) := by
    intro n
    induction n with
    | zero => intro o_this x1 x3 H locs ls _ _ _ _ hf; cases hf
    | succ n hk136 =>
      intro o_this x1 x3 H locs ls hP hD hS hl hf
      have hf : ff_X13_keeps_c136 N (ff_X13_keeps_l136 N n) o_this x1 x3 = some out := hf
      generalize hke : ff_X13_keeps_l136 N n = k136 at hk136 hf
      unfold ff_X13_keeps_c136 at hf
      refine lv_iload_n hx hb dX13_keeps_136 rfl (lv_at hl 2 rfl) ?_
      refine lv_sipush (v := 192) hx hb dX13_keeps_137 (by decide) ?_
      refine lv_icmp_ge (tgt := 195) hx hb dX13_keeps_140 (by decide) (fun hc_15 => ?_) (fun hc_15 => ?_)
      · rw [if_pos hc_15] at hf
        refine lv_aload_n hx hb dX13_keeps_195 rfl (lv_at hl 0 rfl) ?_
        refine lv_dup hx hb dX13_keeps_196 rfl ?_
        refine va_get (D := D) (ci := 9) (v := .int (os_I o_this 29)) (C := RX13) (T := TX13) (N := 48) hx hb hUX13 (fun _ h9 => h9) hown hK hP 0 rfl rfl 29 (by decide) (hts (Cond.fieldLink RX13 207 "ReliefBuilderModel" "undos" "I") (List.mem_of_getElem? (i := 5) rfl)) (fun _ h9 => h9) rfl dX13_keeps_197 ?_
        refine lv_iconst (v := 1) hx hb dX13_keeps_200 (by decide) ?_
        refine lv_iadd hx hb dX13_keeps_201 ?_
        refine va_put (D := D) (ci := 9) (v := .int ((os_I o_this 29) + (1 : Int32))) (ty := .int) (C := RX13) (T := TX13) (N := 48) hx hb hUX13 (fun _ h9 => h9) tyX13 tyX13_ok nmX13 hown hK hP hD hS 0 rfl rfl 29 (by decide) (hts (Cond.fieldLink RX13 207 "ReliefBuilderModel" "undos" "I") (List.mem_of_getElem? (i := 5) rfl)) (fun _ h9 => h9) rfl (tyX13_ok 29 (by decide)) rfl rfl (Nat.le_of_ble_eq_true rfl) dX13_keeps_202 (fun H locs hP hD hS => ?_)
        have hP : va_P D vwCl (ce_X13 kA q_this (ss_I o_this 29 ((os_I o_this 29) + (1 : Int32)))) H := hP
        have hD : va_D A (ce_X13 kA q_this (ss_I o_this 29 ((os_I o_this 29) + (1 : Int32)))) := hD
        refine lv_iload_n hx hb dX13_keeps_205 rfl (lv_at hl 1 rfl) ?_
        rw [← Option.some.inj hf]
        exact mc_reti hx hb hr hlk hP hK hD hS dX13_keeps_206
      · rw [if_neg hc_15] at hf
        refine lv_aload_n hx hb dX13_keeps_143 rfl (lv_at hl 0 rfl) ?_
        refine va_get (D := D) (ci := 9) (v := .ref (q_this 11)) (C := RX13) (T := TX13) (N := 48) hx hb hUX13 (fun _ h9 => h9) hown hK hP 0 rfl rfl 28 (by decide) (hts (Cond.fieldLink RX13 48 "ReliefBuilderModel" "past" "[I") (List.mem_of_getElem? (i := 6) rfl)) (fun _ h9 => h9) rfl dX13_keeps_144 ?_
        refine lv_sipush (v := 384) hx hb dX13_keeps_147 (by decide) ?_
        refine lv_aload_n hx hb dX13_keeps_150 rfl (lv_at hl 0 rfl) ?_
        refine va_get (D := D) (ci := 9) (v := .int (os_I o_this 29)) (C := RX13) (T := TX13) (N := 48) hx hb hUX13 (fun _ h9 => h9) hown hK hP 0 rfl rfl 29 (by decide) (hts (Cond.fieldLink RX13 207 "ReliefBuilderModel" "undos" "I") (List.mem_of_getElem? (i := 5) rfl)) (fun _ h9 => h9) rfl dX13_keeps_151 ?_
        refine lv_imul hx hb dX13_keeps_154 ?_
        refine lv_iload_n hx hb dX13_keeps_155 rfl (lv_at hl 2 rfl) ?_
        refine lv_iadd hx hb dX13_keeps_156 ?_
        refine lv_aload_n hx hb dX13_keeps_157 rfl (lv_at hl 0 rfl) ?_
        refine va_get (D := D) (ci := 9) (v := .ref (q_this 8)) (C := RX13) (T := TX13) (N := 48) hx hb hUX13 (fun _ h9 => h9) hown hK hP 0 rfl rfl 25 (by decide) (hts (Cond.fieldLink RX13 39 "ReliefBuilderModel" "aside" "[I") (List.mem_of_getElem? (i := 2) rfl)) (fun _ h9 => h9) rfl dX13_keeps_158 ?_
        refine lv_iload_n hx hb dX13_keeps_161 rfl (lv_at hl 2 rfl) ?_
        obtain ⟨hi_16, hf⟩ := os_if hf
        refine va_iald hx hb hK hP 8 0 rfl rfl hi_16 dX13_keeps_162 ?_
        obtain ⟨hi_17, hf⟩ := os_if hf
        refine va_iast hx hb hK hP hD hS 11 0 rfl rfl hi_17 dX13_keeps_163 (fun H locs hP hD hS => ?_)
        have hP : va_P D vwCl (ce_X13 kA q_this (ss_A o_this 10 (upd (os_A o_this 10) (Int32.toNatClampNeg (((384 : Int32) * (os_I o_this 29)) + x3)) ((os_A o_this 7) (Int32.toNatClampNeg x3))))) H := hP
        have hD : va_D A (ce_X13 kA q_this (ss_A o_this 10 (upd (os_A o_this 10) (Int32.toNatClampNeg (((384 : Int32) * (os_I o_this 29)) + x3)) ((os_A o_this 7) (Int32.toNatClampNeg x3))))) := hD
        refine lv_aload_n hx hb dX13_keeps_164 rfl (lv_at hl 0 rfl) ?_
        refine va_get (D := D) (ci := 9) (v := .ref (q_this 11)) (C := RX13) (T := TX13) (N := 48) hx hb hUX13 (fun _ h9 => h9) hown hK hP 0 rfl rfl 28 (by decide) (hts (Cond.fieldLink RX13 48 "ReliefBuilderModel" "past" "[I") (List.mem_of_getElem? (i := 6) rfl)) (fun _ h9 => h9) rfl dX13_keeps_165 ?_
        refine lv_sipush (v := 384) hx hb dX13_keeps_168 (by decide) ?_
        refine lv_aload_n hx hb dX13_keeps_171 rfl (lv_at hl 0 rfl) ?_
        refine va_get (D := D) (ci := 9) (v := .int (os_I o_this 29)) (C := RX13) (T := TX13) (N := 48) hx hb hUX13 (fun _ h9 => h9) hown hK hP 0 rfl rfl 29 (by decide) (hts (Cond.fieldLink RX13 207 "ReliefBuilderModel" "undos" "I") (List.mem_of_getElem? (i := 5) rfl)) (fun _ h9 => h9) rfl dX13_keeps_172 ?_
        refine lv_imul hx hb dX13_keeps_175 ?_
        refine lv_sipush (v := 192) hx hb dX13_keeps_176 (by decide) ?_
        refine lv_iadd hx hb dX13_keeps_179 ?_
        refine lv_iload_n hx hb dX13_keeps_180 rfl (lv_at hl 2 rfl) ?_
        refine lv_iadd hx hb dX13_keeps_181 ?_
        refine lv_aload_n hx hb dX13_keeps_182 rfl (lv_at hl 0 rfl) ?_
        refine va_get (D := D) (ci := 9) (v := .ref (q_this 9)) (C := RX13) (T := TX13) (N := 48) hx hb hUX13 (fun _ h9 => h9) hown hK hP 0 rfl rfl 26 (by decide) (hts (Cond.fieldLink RX13 42 "ReliefBuilderModel" "asideTones" "[I") (List.mem_of_getElem? (i := 4) rfl)) (fun _ h9 => h9) rfl dX13_keeps_183 ?_
        refine lv_iload_n hx hb dX13_keeps_186 rfl (lv_at hl 2 rfl) ?_
        obtain ⟨hi_18, hf⟩ := os_if hf
        refine va_iald hx hb hK hP 9 0 rfl rfl hi_18 dX13_keeps_187 ?_
        obtain ⟨hi_19, hf⟩ := os_if hf
        refine va_iast hx hb hK hP hD hS 11 0 rfl rfl hi_19 dX13_keeps_188 (fun H locs hP hD hS => ?_)
        have hE9 : ∀ (y0 : Nat → Int32) (z9 : Nat → Int32), ((ce_X13 kA q_this (ss_A o_this 10 y0)) : va_W).set 11 (q_this 11, .inl (kA 0, 2304, .inl z9)) = (ce_X13 kA q_this (ss_A o_this 10 z9)) := fun _ _ => rfl
        have hP : va_P D vwCl (ce_X13 kA q_this (ss_A o_this 10 (upd (upd (os_A o_this 10) (Int32.toNatClampNeg (((384 : Int32) * (os_I o_this 29)) + x3)) ((os_A o_this 7) (Int32.toNatClampNeg x3))) (Int32.toNatClampNeg ((((384 : Int32) * (os_I o_this 29)) + (192 : Int32)) + x3)) ((os_A o_this 8) (Int32.toNatClampNeg x3))))) H := Eq.mp (congrArg (fun w9 => va_P D vwCl w9 H) (hE9 (upd (os_A o_this 10) (Int32.toNatClampNeg (((384 : Int32) * (os_I o_this 29)) + x3)) ((os_A o_this 7) (Int32.toNatClampNeg x3))) _)) hP
        have hD : va_D A (ce_X13 kA q_this (ss_A o_this 10 (upd (upd (os_A o_this 10) (Int32.toNatClampNeg (((384 : Int32) * (os_I o_this 29)) + x3)) ((os_A o_this 7) (Int32.toNatClampNeg x3))) (Int32.toNatClampNeg ((((384 : Int32) * (os_I o_this 29)) + (192 : Int32)) + x3)) ((os_A o_this 8) (Int32.toNatClampNeg x3))))) := Eq.mp (congrArg (fun w9 => va_D A w9) (hE9 (upd (os_A o_this 10) (Int32.toNatClampNeg (((384 : Int32) * (os_I o_this 29)) + x3)) ((os_A o_this 7) (Int32.toNatClampNeg x3))) _)) hD
        refine lv_iinc (v := x3 + 1) (lv' := [(3, .int (x3 + 1)), (0, .ref (q_this 0)), (1, .int x1)]) hx hb dX13_keeps_189 hl (k := 2) rfl rfl (by decide) rfl (fun ls hl => ?_)
        refine lv_goto (tgt := 136) hx hb dX13_keeps_192 (by decide) ?_
        exact hk136 (ss_A o_this 10 (upd (upd (os_A o_this 10) (Int32.toNatClampNeg (((384 : Int32) * (os_I o_this 29)) + x3)) ((os_A o_this 7) (Int32.toNatClampNeg x3))) (Int32.toNatClampNeg ((((384 : Int32) * (os_I o_this 29)) + (192 : Int32)) + x3)) ((os_A o_this 8) (Int32.toNatClampNeg x3)))) x1 (x3 + 1) _ _ _ hP hD hS (lv_sub hl [1, 2, 0] rfl) hf
  have hB134 : ∀ (o_this : os_T) (x1 : Int32) (H : Heap) (locs : List Loc) (ls : Array Slot), va_P D vwCl (ce_X13 kA q_this o_this) H → va_D A (ce_X13 kA q_this o_this) → va_S A s.heap H locs → lv_has ls 4 [(0, .ref (q_this 0)), (1, .int x1)] → ff_X13_keeps_b134 N o_this x1 = some out → W p l e ({ frames := 1, cells := 0, slots := 0, locals := 20 } : Room) s m [.ref (q_this 0)].toArray below meth c H locs 0 0 (MQ below (mc_Q D kA A (some (.int out.1)) (ce_X13 kA q_this out.2)) [.ref (q_this 0)].toArray s 0 0 A) (F0 m 134 ls []) := by
    intro o_this x1 H locs ls hP hD hS hl hf
    unfold ff_X13_keeps_b134 at hf
    refine lv_iconst (v := 0) hx hb dX13_keeps_134 (by decide) ?_
    refine lv_istore_n (lv' := [(3, .int (0 : Int32)), (0, .ref (q_this 0)), (1, .int x1)]) hx hb dX13_keeps_135 rfl hl (by decide) rfl (fun ls hl => ?_)
    exact hL136 N o_this x1 (0 : Int32) _ _ _ hP hD hS (lv_sub hl [1, 2, 0] rfl) hf
  have hL100 : ∀ (n : Nat) (o_this : os_T) (x1 : Int32) (x3 : Int32) (H : Heap) (locs : List Loc) (ls : Array Slot), va_P D vwCl (ce_X13 kA q_this o_this) H → va_D A (ce_X13 kA q_this o_this) → va_S A s.heap H locs → lv_has ls 4 [(0, .ref (q_this 0)), (1, .int x1), (3, .int x3)] → ff_X13_keeps_l100 N n (o_this, x1, x3) = some out → W p l e ({ frames := 1, cells := 0, slots := 0, locals := 20 } : Room) s m [.ref (q_this 0)].toArray below meth c H locs 0 0 (MQ below (mc_Q D kA A (some (.int out.1)) (ce_X13 kA q_this out.2)) [.ref (q_this 0)].toArray s 0 0 A) (F0 m 100 ls []) := by
    intro n
    induction n with
    | zero => intro o_this x1 x3 H locs ls _ _ _ _ hf; cases hf
    | succ n hk100 =>
      intro o_this x1 x3 H locs ls hP hD hS hl hf
      have hf : ff_X13_keeps_c100 N (ff_X13_keeps_l100 N n) o_this x1 x3 = some out := hf
      generalize hke : ff_X13_keeps_l100 N n = k100 at hk100 hf
      unfold ff_X13_keeps_c100 at hf
      refine lv_iload_n hx hb dX13_keeps_100 rfl (lv_at hl 2 rfl) ?_
      refine lv_sipush (v := 384) hx hb dX13_keeps_101 (by decide) ?_
      refine lv_aload_n hx hb dX13_keeps_104 rfl (lv_at hl 0 rfl) ?_
      refine va_get (D := D) (ci := 9) (v := .int (os_I o_this 29)) (C := RX13) (T := TX13) (N := 48) hx hb hUX13 (fun _ h9 => h9) hown hK hP 0 rfl rfl 29 (by decide) (hts (Cond.fieldLink RX13 207 "ReliefBuilderModel" "undos" "I") (List.mem_of_getElem? (i := 5) rfl)) (fun _ h9 => h9) rfl dX13_keeps_105 ?_
      refine lv_imul hx hb dX13_keeps_108 ?_
      refine lv_icmp_ge (tgt := 134) hx hb dX13_keeps_109 (by decide) (fun hc_7 => ?_) (fun hc_7 => ?_)
      · rw [if_pos hc_7] at hf
        exact hB134 o_this x1 _ _ _ hP hD hS (lv_sub hl [0, 1] rfl) hf
      · rw [if_neg hc_7] at hf
        refine lv_aload_n hx hb dX13_keeps_112 rfl (lv_at hl 0 rfl) ?_
        refine va_get (D := D) (ci := 9) (v := .ref (q_this 11)) (C := RX13) (T := TX13) (N := 48) hx hb hUX13 (fun _ h9 => h9) hown hK hP 0 rfl rfl 28 (by decide) (hts (Cond.fieldLink RX13 48 "ReliefBuilderModel" "past" "[I") (List.mem_of_getElem? (i := 6) rfl)) (fun _ h9 => h9) rfl dX13_keeps_113 ?_
        refine lv_iload_n hx hb dX13_keeps_116 rfl (lv_at hl 2 rfl) ?_
        refine lv_aload_n hx hb dX13_keeps_117 rfl (lv_at hl 0 rfl) ?_
        refine va_get (D := D) (ci := 9) (v := .ref (q_this 11)) (C := RX13) (T := TX13) (N := 48) hx hb hUX13 (fun _ h9 => h9) hown hK hP 0 rfl rfl 28 (by decide) (hts (Cond.fieldLink RX13 48 "ReliefBuilderModel" "past" "[I") (List.mem_of_getElem? (i := 6) rfl)) (fun _ h9 => h9) rfl dX13_keeps_118 ?_
        refine lv_iload_n hx hb dX13_keeps_121 rfl (lv_at hl 2 rfl) ?_
        refine lv_sipush (v := 384) hx hb dX13_keeps_122 (by decide) ?_
        refine lv_iadd hx hb dX13_keeps_125 ?_
        obtain ⟨hi_8, hf⟩ := os_if hf
        refine va_iald hx hb hK hP 11 0 rfl rfl hi_8 dX13_keeps_126 ?_
        obtain ⟨hi_9, hf⟩ := os_if hf
        refine va_iast hx hb hK hP hD hS 11 0 rfl rfl hi_9 dX13_keeps_127 (fun H locs hP hD hS => ?_)
        have hP : va_P D vwCl (ce_X13 kA q_this (ss_A o_this 10 (upd (os_A o_this 10) (Int32.toNatClampNeg x3) ((os_A o_this 10) (Int32.toNatClampNeg (x3 + (384 : Int32))))))) H := hP
        have hD : va_D A (ce_X13 kA q_this (ss_A o_this 10 (upd (os_A o_this 10) (Int32.toNatClampNeg x3) ((os_A o_this 10) (Int32.toNatClampNeg (x3 + (384 : Int32))))))) := hD
        refine lv_iinc (v := x3 + 1) (lv' := [(3, .int (x3 + 1)), (0, .ref (q_this 0)), (1, .int x1)]) hx hb dX13_keeps_128 hl (k := 2) rfl rfl (by decide) rfl (fun ls hl => ?_)
        refine lv_goto (tgt := 100) hx hb dX13_keeps_131 (by decide) ?_
        exact hk100 (ss_A o_this 10 (upd (os_A o_this 10) (Int32.toNatClampNeg x3) ((os_A o_this 10) (Int32.toNatClampNeg (x3 + (384 : Int32)))))) x1 (x3 + 1) _ _ _ hP hD hS (lv_sub hl [1, 2, 0] rfl) hf
  have hB60 : ∀ (k6 : (os_T × Int32 × Int32 × Int32) → Option (Int32 × os_T)), (∀ (o_this : os_T) (x1 : Int32) (x2 : Int32) (x3 : Int32) (H : Heap) (locs : List Loc) (ls : Array Slot), va_P D vwCl (ce_X13 kA q_this o_this) H → va_D A (ce_X13 kA q_this o_this) → va_S A s.heap H locs → lv_has ls 4 [(0, .ref (q_this 0)), (1, .int x1), (2, .int x2), (3, .int x3)] → k6 (o_this, x1, x2, x3) = some out → W p l e ({ frames := 1, cells := 0, slots := 0, locals := 20 } : Room) s m [.ref (q_this 0)].toArray below meth c H locs 0 0 (MQ below (mc_Q D kA A (some (.int out.1)) (ce_X13 kA q_this out.2)) [.ref (q_this 0)].toArray s 0 0 A) (F0 m 6 ls [])) → ∀ (o_this : os_T) (x1 : Int32) (x3 : Int32) (t0 : Int32) (t1 : Int32) (H : Heap) (locs : List Loc) (ls : Array Slot), va_P D vwCl (ce_X13 kA q_this o_this) H → va_D A (ce_X13 kA q_this o_this) → va_S A s.heap H locs → lv_has ls 4 [(0, .ref (q_this 0)), (1, .int x1), (3, .int x3)] → ff_X13_keeps_b60 N k6 o_this x1 x3 t0 t1 = some out → W p l e ({ frames := 1, cells := 0, slots := 0, locals := 20 } : Room) s m [.ref (q_this 0)].toArray below meth c H locs 0 0 (MQ below (mc_Q D kA A (some (.int out.1)) (ce_X13 kA q_this out.2)) [.ref (q_this 0)].toArray s 0 0 A) (F0 m 60 ls [.int t0, .int t1]) := by
    intro k6 hk6 o_this x1 x3 t0 t1 H locs ls hP hD hS hl hf
    unfold ff_X13_keeps_b60 at hf
    obtain ⟨u_20, he_21, hf⟩ := os_bd hf
    refine mc_callS ⟨hx, hb, hml, hown, hts⟩ (mm_X13_truth l D kA N t0 u_20 he_21) (va_cwS 1 hts gX13_keeps_X13_truth rfl rfl rfl (by decide +kernel) ⟨Nat.le_of_ble_eq_true rfl, Nat.le_of_ble_eq_true rfl⟩) (wc := []) rfl hl.1 (As := [.int t0]) (rest := [.int t1]) rfl (Nat.le_of_ble_eq_true rfl) dX13_keeps_60 ⟨Nat.le_of_ble_eq_true rfl, Nat.le_of_ble_eq_true rfl⟩ hK hP hD hS hA [] [0, 1, 2, 3, 4, 5, 6, 7, 8, 9, 10, 11, 12, 13, 14, 15, 16, 17, 18, 19, 20, 21, 22, 23] [0, 1, 2, 3, 4, 5, 6, 7, 8, 9, 10, 11, 12, 13, 14, 15, 16, 17, 18, 19, 20, 21, 22, 23] rfl (by decide) rfl (by decide) (by decide) rfl (by decide) (wr := (ce_X13 kA q_this o_this)) (w2 := (ce_X13 kA q_this o_this)) (fun H locs hP hD hS => ?_)
    have hP : va_P D vwCl (ce_X13 kA q_this o_this) H := hP
    refine lv_iadd hx hb dX13_keeps_63 ?_
    refine lv_istore_n (lv' := [(2, .int (t1 + u_20)), (0, .ref (q_this 0)), (1, .int x1), (3, .int x3)]) hx hb dX13_keeps_64 rfl hl (by decide) rfl (fun ls hl => ?_)
    refine lv_iinc (v := x3 + 1) (lv' := [(3, .int (x3 + 1)), (2, .int (t1 + u_20)), (0, .ref (q_this 0)), (1, .int x1)]) hx hb dX13_keeps_65 hl (k := 3) rfl rfl (by decide) rfl (fun ls hl => ?_)
    refine lv_goto (tgt := 6) hx hb dX13_keeps_68 (by decide) ?_
    exact hk6 o_this x1 (t1 + u_20) (x3 + 1) _ _ _ hP hD hS (lv_sub hl [2, 3, 1, 0] rfl) hf
  have hB34 : ∀ (k6 : (os_T × Int32 × Int32 × Int32) → Option (Int32 × os_T)), (∀ (o_this : os_T) (x1 : Int32) (x2 : Int32) (x3 : Int32) (H : Heap) (locs : List Loc) (ls : Array Slot), va_P D vwCl (ce_X13 kA q_this o_this) H → va_D A (ce_X13 kA q_this o_this) → va_S A s.heap H locs → lv_has ls 4 [(0, .ref (q_this 0)), (1, .int x1), (2, .int x2), (3, .int x3)] → k6 (o_this, x1, x2, x3) = some out → W p l e ({ frames := 1, cells := 0, slots := 0, locals := 20 } : Room) s m [.ref (q_this 0)].toArray below meth c H locs 0 0 (MQ below (mc_Q D kA A (some (.int out.1)) (ce_X13 kA q_this out.2)) [.ref (q_this 0)].toArray s 0 0 A) (F0 m 6 ls [])) → ∀ (o_this : os_T) (x2 : Int32) (x3 : Int32) (t0 : Int32) (t1 : Int32) (H : Heap) (locs : List Loc) (ls : Array Slot), va_P D vwCl (ce_X13 kA q_this o_this) H → va_D A (ce_X13 kA q_this o_this) → va_S A s.heap H locs → lv_has ls 4 [(0, .ref (q_this 0)), (2, .int x2), (3, .int x3)] → ff_X13_keeps_b34 N k6 o_this x2 x3 t0 t1 = some out → W p l e ({ frames := 1, cells := 0, slots := 0, locals := 20 } : Room) s m [.ref (q_this 0)].toArray below meth c H locs 0 0 (MQ below (mc_Q D kA A (some (.int out.1)) (ce_X13 kA q_this out.2)) [.ref (q_this 0)].toArray s 0 0 A) (F0 m 34 ls [.int t0, .int t1]) := by
    intro k6 hk6 o_this x2 x3 t0 t1 H locs ls hP hD hS hl hf
    unfold ff_X13_keeps_b34 at hf
    obtain ⟨u_10, he_11, hf⟩ := os_bd hf
    refine mc_callS ⟨hx, hb, hml, hown, hts⟩ (mm_X13_truth l D kA N t0 u_10 he_11) (va_cwS 1 hts gX13_keeps_X13_truth rfl rfl rfl (by decide +kernel) ⟨Nat.le_of_ble_eq_true rfl, Nat.le_of_ble_eq_true rfl⟩) (wc := []) rfl hl.1 (As := [.int t0]) (rest := [.int t1]) rfl (Nat.le_of_ble_eq_true rfl) dX13_keeps_34 ⟨Nat.le_of_ble_eq_true rfl, Nat.le_of_ble_eq_true rfl⟩ hK hP hD hS hA [] [0, 1, 2, 3, 4, 5, 6, 7, 8, 9, 10, 11, 12, 13, 14, 15, 16, 17, 18, 19, 20, 21, 22, 23] [0, 1, 2, 3, 4, 5, 6, 7, 8, 9, 10, 11, 12, 13, 14, 15, 16, 17, 18, 19, 20, 21, 22, 23] rfl (by decide) rfl (by decide) (by decide) rfl (by decide) (wr := (ce_X13 kA q_this o_this)) (w2 := (ce_X13 kA q_this o_this)) (fun H locs hP hD hS => ?_)
    have hP : va_P D vwCl (ce_X13 kA q_this o_this) H := hP
    refine lv_iadd hx hb dX13_keeps_37 ?_
    refine lv_istore_n (lv' := [(1, .int (t1 + u_10)), (0, .ref (q_this 0)), (2, .int x2), (3, .int x3)]) hx hb dX13_keeps_38 rfl hl (by decide) rfl (fun ls hl => ?_)
    refine lv_iload_n hx hb dX13_keeps_39 rfl (lv_at hl 2 rfl) ?_
    refine lv_aload_n hx hb dX13_keeps_40 rfl (lv_at hl 1 rfl) ?_
    refine va_get (D := D) (ci := 9) (v := .ref (q_this 4)) (C := RX13) (T := TX13) (N := 48) hx hb hUX13 (fun _ h9 => h9) hown hK hP 0 rfl rfl 15 (by decide) (hts (Cond.fieldLink RX13 26 "ReliefBuilderModel" "tones" "[I") (List.mem_of_getElem? (i := 3) rfl)) (fun _ h9 => h9) rfl dX13_keeps_41 ?_
    refine lv_iload_n hx hb dX13_keeps_44 rfl (lv_at hl 3 rfl) ?_
    obtain ⟨hi_12, hf⟩ := os_if hf
    refine va_iald hx hb hK hP 4 0 rfl rfl hi_12 dX13_keeps_45 ?_
    refine lv_aload_n hx hb dX13_keeps_46 rfl (lv_at hl 1 rfl) ?_
    refine va_get (D := D) (ci := 9) (v := .ref (q_this 9)) (C := RX13) (T := TX13) (N := 48) hx hb hUX13 (fun _ h9 => h9) hown hK hP 0 rfl rfl 26 (by decide) (hts (Cond.fieldLink RX13 42 "ReliefBuilderModel" "asideTones" "[I") (List.mem_of_getElem? (i := 4) rfl)) (fun _ h9 => h9) rfl dX13_keeps_47 ?_
    refine lv_iload_n hx hb dX13_keeps_50 rfl (lv_at hl 3 rfl) ?_
    obtain ⟨hi_13, hf⟩ := os_if hf
    refine va_iald hx hb hK hP 9 0 rfl rfl hi_13 dX13_keeps_51 ?_
    refine lv_icmp_eq (tgt := 59) hx hb dX13_keeps_52 (by decide) (fun hc_14 => ?_) (fun hc_14 => ?_)
    · rw [if_pos hc_14] at hf
      refine lv_iconst (v := 0) hx hb dX13_keeps_59 (by decide) ?_
      exact hB60 k6 hk6 o_this (t1 + u_10) x3 (0 : Int32) x2 _ _ _ hP hD hS (lv_sub hl [1, 0, 3] rfl) hf
    · rw [if_neg hc_14] at hf
      refine lv_iconst (v := 1) hx hb dX13_keeps_55 (by decide) ?_
      refine lv_goto (tgt := 60) hx hb dX13_keeps_56 (by decide) ?_
      exact hB60 k6 hk6 o_this (t1 + u_10) x3 (1 : Int32) x2 _ _ _ hP hD hS (lv_sub hl [1, 0, 3] rfl) hf
  have hL6 : ∀ (n : Nat) (o_this : os_T) (x1 : Int32) (x2 : Int32) (x3 : Int32) (H : Heap) (locs : List Loc) (ls : Array Slot), va_P D vwCl (ce_X13 kA q_this o_this) H → va_D A (ce_X13 kA q_this o_this) → va_S A s.heap H locs → lv_has ls 4 [(0, .ref (q_this 0)), (1, .int x1), (2, .int x2), (3, .int x3)] → ff_X13_keeps_l6 N n (o_this, x1, x2, x3) = some out → W p l e ({ frames := 1, cells := 0, slots := 0, locals := 20 } : Room) s m [.ref (q_this 0)].toArray below meth c H locs 0 0 (MQ below (mc_Q D kA A (some (.int out.1)) (ce_X13 kA q_this out.2)) [.ref (q_this 0)].toArray s 0 0 A) (F0 m 6 ls []) := by
    intro n
    induction n with
    | zero => intro o_this x1 x2 x3 H locs ls _ _ _ _ hf; cases hf
    | succ n hk6 =>
      intro o_this x1 x2 x3 H locs ls hP hD hS hl hf
      have hf : ff_X13_keeps_c6 N (ff_X13_keeps_l6 N n) o_this x1 x2 x3 = some out := hf
      generalize hke : ff_X13_keeps_l6 N n = k6 at hk6 hf
      unfold ff_X13_keeps_c6 at hf
      refine lv_iload_n hx hb dX13_keeps_6 rfl (lv_at hl 3 rfl) ?_
      refine lv_sipush (v := 192) hx hb dX13_keeps_7 (by decide) ?_
      refine lv_icmp_ge (tgt := 71) hx hb dX13_keeps_10 (by decide) (fun hc_1 => ?_) (fun hc_1 => ?_)
      · rw [if_pos hc_1] at hf
        refine lv_iload_n hx hb dX13_keeps_71 rfl (lv_at hl 1 rfl) ?_
        refine lv_iload_n hx hb dX13_keeps_72 rfl (lv_at hl 2 rfl) ?_
        refine lv_iadd hx hb dX13_keeps_73 ?_
        refine lv_if_ne (tgt := 79) hx hb dX13_keeps_74 (by decide) (fun hc_2 => ?_) (fun hc_2 => ?_)
        · rw [if_neg hc_2] at hf
          refine lv_aload_n hx hb dX13_keeps_79 rfl (lv_at hl 0 rfl) ?_
          refine va_get (D := D) (ci := 9) (v := .int (os_I o_this 29)) (C := RX13) (T := TX13) (N := 48) hx hb hUX13 (fun _ h9 => h9) hown hK hP 0 rfl rfl 29 (by decide) (hts (Cond.fieldLink RX13 207 "ReliefBuilderModel" "undos" "I") (List.mem_of_getElem? (i := 5) rfl)) (fun _ h9 => h9) rfl dX13_keeps_80 ?_
          refine lv_bipush (v := 6) hx hb dX13_keeps_83 (by decide) ?_
          refine lv_icmp_ne (tgt := 134) hx hb dX13_keeps_85 (by decide) (fun hc_3 => ?_) (fun hc_3 => ?_)
          · rw [if_neg hc_3] at hf
            exact hB134 o_this x1 _ _ _ hP hD hS (lv_sub hl [0, 1] rfl) hf
          · rw [if_pos hc_3] at hf
            refine lv_aload_n hx hb dX13_keeps_88 rfl (lv_at hl 0 rfl) ?_
            refine lv_dup hx hb dX13_keeps_89 rfl ?_
            refine va_get (D := D) (ci := 9) (v := .int (os_I o_this 29)) (C := RX13) (T := TX13) (N := 48) hx hb hUX13 (fun _ h9 => h9) hown hK hP 0 rfl rfl 29 (by decide) (hts (Cond.fieldLink RX13 207 "ReliefBuilderModel" "undos" "I") (List.mem_of_getElem? (i := 5) rfl)) (fun _ h9 => h9) rfl dX13_keeps_90 ?_
            refine lv_iconst (v := 1) hx hb dX13_keeps_93 (by decide) ?_
            refine lv_isub hx hb dX13_keeps_94 ?_
            refine va_put (D := D) (ci := 9) (v := .int ((os_I o_this 29) - (1 : Int32))) (ty := .int) (C := RX13) (T := TX13) (N := 48) hx hb hUX13 (fun _ h9 => h9) tyX13 tyX13_ok nmX13 hown hK hP hD hS 0 rfl rfl 29 (by decide) (hts (Cond.fieldLink RX13 207 "ReliefBuilderModel" "undos" "I") (List.mem_of_getElem? (i := 5) rfl)) (fun _ h9 => h9) rfl (tyX13_ok 29 (by decide)) rfl rfl (Nat.le_of_ble_eq_true rfl) dX13_keeps_95 (fun H locs hP hD hS => ?_)
            have hP : va_P D vwCl (ce_X13 kA q_this (ss_I o_this 29 ((os_I o_this 29) - (1 : Int32)))) H := hP
            have hD : va_D A (ce_X13 kA q_this (ss_I o_this 29 ((os_I o_this 29) - (1 : Int32)))) := hD
            refine lv_iconst (v := 0) hx hb dX13_keeps_98 (by decide) ?_
            refine lv_istore_n (lv' := [(3, .int (0 : Int32)), (0, .ref (q_this 0)), (1, .int x1), (2, .int x2)]) hx hb dX13_keeps_99 rfl hl (by decide) rfl (fun ls hl => ?_)
            exact hL100 N (ss_I o_this 29 ((os_I o_this 29) - (1 : Int32))) x1 (0 : Int32) _ _ _ hP hD hS (lv_sub hl [1, 2, 0] rfl) hf
        · rw [if_pos hc_2] at hf
          refine lv_iconst (v := 0) hx hb dX13_keeps_77 (by decide) ?_
          rw [← Option.some.inj hf]
          exact mc_reti hx hb hr hlk hP hK hD hS dX13_keeps_78
      · rw [if_neg hc_1] at hf
        refine lv_iload_n hx hb dX13_keeps_13 rfl (lv_at hl 1 rfl) ?_
        refine lv_aload_n hx hb dX13_keeps_14 rfl (lv_at hl 0 rfl) ?_
        refine va_get (D := D) (ci := 9) (v := .ref (q_this 5)) (C := RX13) (T := TX13) (N := 48) hx hb hUX13 (fun _ h9 => h9) hown hK hP 0 rfl rfl 16 (by decide) (hts (Cond.fieldLink RX13 29 "ReliefBuilderModel" "heights" "[I") (List.mem_of_getElem? (i := 1) rfl)) (fun _ h9 => h9) rfl dX13_keeps_15 ?_
        refine lv_iload_n hx hb dX13_keeps_18 rfl (lv_at hl 3 rfl) ?_
        obtain ⟨hi_4, hf⟩ := os_if hf
        refine va_iald hx hb hK hP 5 0 rfl rfl hi_4 dX13_keeps_19 ?_
        refine lv_aload_n hx hb dX13_keeps_20 rfl (lv_at hl 0 rfl) ?_
        refine va_get (D := D) (ci := 9) (v := .ref (q_this 8)) (C := RX13) (T := TX13) (N := 48) hx hb hUX13 (fun _ h9 => h9) hown hK hP 0 rfl rfl 25 (by decide) (hts (Cond.fieldLink RX13 39 "ReliefBuilderModel" "aside" "[I") (List.mem_of_getElem? (i := 2) rfl)) (fun _ h9 => h9) rfl dX13_keeps_21 ?_
        refine lv_iload_n hx hb dX13_keeps_24 rfl (lv_at hl 3 rfl) ?_
        obtain ⟨hi_5, hf⟩ := os_if hf
        refine va_iald hx hb hK hP 8 0 rfl rfl hi_5 dX13_keeps_25 ?_
        refine lv_icmp_eq (tgt := 33) hx hb dX13_keeps_26 (by decide) (fun hc_6 => ?_) (fun hc_6 => ?_)
        · rw [if_pos hc_6] at hf
          refine lv_iconst (v := 0) hx hb dX13_keeps_33 (by decide) ?_
          exact hB34 k6 hk6 o_this x2 x3 (0 : Int32) x1 _ _ _ hP hD hS (lv_sub hl [0, 2, 3] rfl) hf
        · rw [if_neg hc_6] at hf
          refine lv_iconst (v := 1) hx hb dX13_keeps_29 (by decide) ?_
          refine lv_goto (tgt := 34) hx hb dX13_keeps_30 (by decide) ?_
          exact hB34 k6 hk6 o_this x2 x3 (1 : Int32) x1 _ _ _ hP hD hS (lv_sub hl [0, 2, 3] rfl) hf
  unfold ff_X13_keeps at hf
  refine lv_iconst (v := 0) hx hb dX13_keeps_0 (by decide) ?_
  refine lv_istore_n (lv' := [(1, .int (0 : Int32)), (0, .ref (q_this 0))]) hx hb dX13_keeps_1 rfl hl (by decide) rfl (fun ls hl => ?_)
  refine lv_iconst (v := 0) hx hb dX13_keeps_2 (by decide) ?_
  refine lv_istore_n (lv' := [(2, .int (0 : Int32)), (1, .int (0 : Int32)), (0, .ref (q_this 0))]) hx hb dX13_keeps_3 rfl hl (by decide) rfl (fun ls hl => ?_)
  refine lv_iconst (v := 0) hx hb dX13_keeps_4 (by decide) ?_
  refine lv_istore_n (lv' := [(3, .int (0 : Int32)), (2, .int (0 : Int32)), (1, .int (0 : Int32)), (0, .ref (q_this 0))]) hx hb dX13_keeps_5 rfl hl (by decide) rfl (fun ls hl => ?_)
  exact hL6 N o_this (0 : Int32) (0 : Int32) (0 : Int32) _ _ _ hP hD hS (lv_sub hl [3, 2, 1, 0] rfl) hf
def ff_X13_undo_c26 (N : Nat) (k26 : (os_T × Int32) → Option (Int32 × os_T)) (o_this : os_T) (x1 : Int32) : Option (Int32 × os_T) :=
  (if (192 : Int32) ≤ x1 then some (os_I o_this 29, o_this) else (if os_in (((384 : Int32) * (os_I o_this 29)) + x1) 2304 then (if os_in x1 192 then (if os_in ((((384 : Int32) * (os_I o_this 29)) + (192 : Int32)) + x1) 2304 then (if os_in x1 192 then k26 (ss_A (ss_A o_this 3 (upd (os_A o_this 3) (Int32.toNatClampNeg x1) ((os_A o_this 10) (Int32.toNatClampNeg ((((384 : Int32) * (os_I o_this 29)) + (192 : Int32)) + x1))))) 4 (upd (os_A o_this 4) (Int32.toNatClampNeg x1) ((os_A o_this 10) (Int32.toNatClampNeg (((384 : Int32) * (os_I o_this 29)) + x1)))), x1 + 1) else none) else none) else none) else none))
def ff_X13_undo_l26 (N : Nat) : Nat → (os_T × Int32) → Option (Int32 × os_T) := os_loop (fun k26 s1 => ff_X13_undo_c26 N k26 s1.1 s1.2)
def ff_X13_undo (N : Nat) (o_this : os_T) : Option (Int32 × os_T) :=
  (if (os_I o_this 29) = 0 then some ((-1 : Int32), ss_I o_this 0 (0 : Int32)) else ff_X13_undo_l26 N N (ss_I (ss_I o_this 0 (0 : Int32)) 29 ((os_I o_this 29) - (1 : Int32)), (0 : Int32)))
set_option maxHeartbeats 4000000 in
set_option maxRecDepth 100000 in
theorem mm_X13_undo (l : Launch) (D : va_G) (kA : Nat → ClassId) (N : Nat) (q_this : Nat → Nat) (o_this : os_T) (out : (Int32 × os_T)) (hf : ff_X13_undo N o_this = some out) : mc_C l D kA yX13_undo wsX13_undo ({ frames := 0, cells := 0, slots := 0, locals := 0 } : Room) [.ref (q_this 0)] (ce_X13 kA q_this o_this) (some (.int out.1)) (ce_X13 kA q_this out.2) := by
  refine mc_of (cc := cX13_undo) (maxL := 2) (ret := (some .int)) (by decide) rfl (Nat.le_of_ble_eq_true rfl) ?_
  intro p e s m below meth c A B hD hP hS ls hl
  obtain ⟨hx, hb, hr, hlk, hml, hown, hts, hK, hA, hnm⟩ := B
  have hown : s.vm.findClass RX13 = some m.cls := hown
  have hl : lv_has ls 2 [(0, .ref (q_this 0))] := hl
  have hUX13 : ∀ w ∈ u_ws RX13 TX13 48, w.before [.ref (q_this 0)].toArray s = true := fun w h => hts w (List.mem_cons_of_mem _ (List.mem_append_right _ h))
  have hL26 : ∀ (n : Nat) (o_this : os_T) (x1 : Int32) (H : Heap) (locs : List Loc) (ls : Array Slot), va_P D vwCl (ce_X13 kA q_this o_this) H → va_D A (ce_X13 kA q_this o_this) → va_S A s.heap H locs → lv_has ls 2 [(0, .ref (q_this 0)), (1, .int x1)] → ff_X13_undo_l26 N n (o_this, x1) = some out → W p l e ({ frames := 0, cells := 0, slots := 0, locals := 0 } : Room) s m [.ref (q_this 0)].toArray below meth c H locs 0 0 (MQ below (mc_Q D kA A (some (.int out.1)) (ce_X13 kA q_this out.2)) [.ref (q_this 0)].toArray s 0 0 A) (F0 m 26 ls []) := by
    intro n
    induction n with
    | zero => intro o_this x1 H locs ls _ _ _ _ hf; cases hf
    | succ n hk26 =>
      intro o_this x1 H locs ls hP hD hS hl hf
      have hf : ff_X13_undo_c26 N (ff_X13_undo_l26 N n) o_this x1 = some out := hf
      generalize hke : ff_X13_undo_l26 N n = k26 at hk26 hf
      unfold ff_X13_undo_c26 at hf
      refine lv_iload_n hx hb dX13_undo_26 rfl (lv_at hl 1 rfl) ?_
      refine lv_sipush (v := 192) hx hb dX13_undo_27 (by decide) ?_
      refine lv_icmp_ge (tgt := 85) hx hb dX13_undo_30 (by decide) (fun hc_2 => ?_) (fun hc_2 => ?_)
      · rw [if_pos hc_2] at hf
        refine lv_aload_n hx hb dX13_undo_85 rfl (lv_at hl 0 rfl) ?_
        refine va_get (D := D) (ci := 9) (v := .int (os_I o_this 29)) (C := RX13) (T := TX13) (N := 48) hx hb hUX13 (fun _ h9 => h9) hown hK hP 0 rfl rfl 29 (by decide) (hts (Cond.fieldLink RX13 207 "ReliefBuilderModel" "undos" "I") (List.mem_of_getElem? (i := 2) rfl)) (fun _ h9 => h9) rfl dX13_undo_86 ?_
        rw [← Option.some.inj hf]
        exact mc_reti hx hb hr hlk hP hK hD hS dX13_undo_89
      · rw [if_neg hc_2] at hf
        refine lv_aload_n hx hb dX13_undo_33 rfl (lv_at hl 0 rfl) ?_
        refine va_get (D := D) (ci := 9) (v := .ref (q_this 5)) (C := RX13) (T := TX13) (N := 48) hx hb hUX13 (fun _ h9 => h9) hown hK hP 0 rfl rfl 16 (by decide) (hts (Cond.fieldLink RX13 29 "ReliefBuilderModel" "heights" "[I") (List.mem_of_getElem? (i := 3) rfl)) (fun _ h9 => h9) rfl dX13_undo_34 ?_
        refine lv_iload_n hx hb dX13_undo_37 rfl (lv_at hl 1 rfl) ?_
        refine lv_aload_n hx hb dX13_undo_38 rfl (lv_at hl 0 rfl) ?_
        refine va_get (D := D) (ci := 9) (v := .ref (q_this 11)) (C := RX13) (T := TX13) (N := 48) hx hb hUX13 (fun _ h9 => h9) hown hK hP 0 rfl rfl 28 (by decide) (hts (Cond.fieldLink RX13 48 "ReliefBuilderModel" "past" "[I") (List.mem_of_getElem? (i := 4) rfl)) (fun _ h9 => h9) rfl dX13_undo_39 ?_
        refine lv_sipush (v := 384) hx hb dX13_undo_42 (by decide) ?_
        refine lv_aload_n hx hb dX13_undo_45 rfl (lv_at hl 0 rfl) ?_
        refine va_get (D := D) (ci := 9) (v := .int (os_I o_this 29)) (C := RX13) (T := TX13) (N := 48) hx hb hUX13 (fun _ h9 => h9) hown hK hP 0 rfl rfl 29 (by decide) (hts (Cond.fieldLink RX13 207 "ReliefBuilderModel" "undos" "I") (List.mem_of_getElem? (i := 2) rfl)) (fun _ h9 => h9) rfl dX13_undo_46 ?_
        refine lv_imul hx hb dX13_undo_49 ?_
        refine lv_iload_n hx hb dX13_undo_50 rfl (lv_at hl 1 rfl) ?_
        refine lv_iadd hx hb dX13_undo_51 ?_
        obtain ⟨hi_3, hf⟩ := os_if hf
        refine va_iald hx hb hK hP 11 0 rfl rfl hi_3 dX13_undo_52 ?_
        obtain ⟨hi_4, hf⟩ := os_if hf
        refine va_iast hx hb hK hP hD hS 5 0 rfl rfl hi_4 dX13_undo_53 (fun H locs hP hD hS => ?_)
        have hP : va_P D vwCl (ce_X13 kA q_this (ss_A o_this 4 (upd (os_A o_this 4) (Int32.toNatClampNeg x1) ((os_A o_this 10) (Int32.toNatClampNeg (((384 : Int32) * (os_I o_this 29)) + x1)))))) H := hP
        have hD : va_D A (ce_X13 kA q_this (ss_A o_this 4 (upd (os_A o_this 4) (Int32.toNatClampNeg x1) ((os_A o_this 10) (Int32.toNatClampNeg (((384 : Int32) * (os_I o_this 29)) + x1)))))) := hD
        refine lv_aload_n hx hb dX13_undo_54 rfl (lv_at hl 0 rfl) ?_
        refine va_get (D := D) (ci := 9) (v := .ref (q_this 4)) (C := RX13) (T := TX13) (N := 48) hx hb hUX13 (fun _ h9 => h9) hown hK hP 0 rfl rfl 15 (by decide) (hts (Cond.fieldLink RX13 26 "ReliefBuilderModel" "tones" "[I") (List.mem_of_getElem? (i := 5) rfl)) (fun _ h9 => h9) rfl dX13_undo_55 ?_
        refine lv_iload_n hx hb dX13_undo_58 rfl (lv_at hl 1 rfl) ?_
        refine lv_aload_n hx hb dX13_undo_59 rfl (lv_at hl 0 rfl) ?_
        refine va_get (D := D) (ci := 9) (v := .ref (q_this 11)) (C := RX13) (T := TX13) (N := 48) hx hb hUX13 (fun _ h9 => h9) hown hK hP 0 rfl rfl 28 (by decide) (hts (Cond.fieldLink RX13 48 "ReliefBuilderModel" "past" "[I") (List.mem_of_getElem? (i := 4) rfl)) (fun _ h9 => h9) rfl dX13_undo_60 ?_
        refine lv_sipush (v := 384) hx hb dX13_undo_63 (by decide) ?_
        refine lv_aload_n hx hb dX13_undo_66 rfl (lv_at hl 0 rfl) ?_
        refine va_get (D := D) (ci := 9) (v := .int (os_I o_this 29)) (C := RX13) (T := TX13) (N := 48) hx hb hUX13 (fun _ h9 => h9) hown hK hP 0 rfl rfl 29 (by decide) (hts (Cond.fieldLink RX13 207 "ReliefBuilderModel" "undos" "I") (List.mem_of_getElem? (i := 2) rfl)) (fun _ h9 => h9) rfl dX13_undo_67 ?_
        refine lv_imul hx hb dX13_undo_70 ?_
        refine lv_sipush (v := 192) hx hb dX13_undo_71 (by decide) ?_
        refine lv_iadd hx hb dX13_undo_74 ?_
        refine lv_iload_n hx hb dX13_undo_75 rfl (lv_at hl 1 rfl) ?_
        refine lv_iadd hx hb dX13_undo_76 ?_
        obtain ⟨hi_5, hf⟩ := os_if hf
        refine va_iald hx hb hK hP 11 0 rfl rfl hi_5 dX13_undo_77 ?_
        obtain ⟨hi_6, hf⟩ := os_if hf
        refine va_iast hx hb hK hP hD hS 4 0 rfl rfl hi_6 dX13_undo_78 (fun H locs hP hD hS => ?_)
        have hE9 : ∀ (y0 : Nat → Int32) (z9 : Nat → Int32), ((ce_X13 kA q_this (ss_A o_this 4 y0)) : va_W).set 4 (q_this 4, .inl (kA 0, 192, .inl z9)) = (ce_X13 kA q_this (ss_A (ss_A o_this 3 z9) 4 y0)) := fun _ _ => rfl
        have hP : va_P D vwCl (ce_X13 kA q_this (ss_A (ss_A o_this 3 (upd (os_A o_this 3) (Int32.toNatClampNeg x1) ((os_A o_this 10) (Int32.toNatClampNeg ((((384 : Int32) * (os_I o_this 29)) + (192 : Int32)) + x1))))) 4 (upd (os_A o_this 4) (Int32.toNatClampNeg x1) ((os_A o_this 10) (Int32.toNatClampNeg (((384 : Int32) * (os_I o_this 29)) + x1)))))) H := Eq.mp (congrArg (fun w9 => va_P D vwCl w9 H) (hE9 (upd (os_A o_this 4) (Int32.toNatClampNeg x1) ((os_A o_this 10) (Int32.toNatClampNeg (((384 : Int32) * (os_I o_this 29)) + x1)))) _)) hP
        have hD : va_D A (ce_X13 kA q_this (ss_A (ss_A o_this 3 (upd (os_A o_this 3) (Int32.toNatClampNeg x1) ((os_A o_this 10) (Int32.toNatClampNeg ((((384 : Int32) * (os_I o_this 29)) + (192 : Int32)) + x1))))) 4 (upd (os_A o_this 4) (Int32.toNatClampNeg x1) ((os_A o_this 10) (Int32.toNatClampNeg (((384 : Int32) * (os_I o_this 29)) + x1)))))) := Eq.mp (congrArg (fun w9 => va_D A w9) (hE9 (upd (os_A o_this 4) (Int32.toNatClampNeg x1) ((os_A o_this 10) (Int32.toNatClampNeg (((384 : Int32) * (os_I o_this 29)) + x1)))) _)) hD
        refine lv_iinc (v := x1 + 1) (lv' := [(1, .int (x1 + 1)), (0, .ref (q_this 0))]) hx hb dX13_undo_79 hl (k := 1) rfl rfl (by decide) rfl (fun ls hl => ?_)
        refine lv_goto (tgt := 26) hx hb dX13_undo_82 (by decide) ?_
        exact hk26 (ss_A (ss_A o_this 3 (upd (os_A o_this 3) (Int32.toNatClampNeg x1) ((os_A o_this 10) (Int32.toNatClampNeg ((((384 : Int32) * (os_I o_this 29)) + (192 : Int32)) + x1))))) 4 (upd (os_A o_this 4) (Int32.toNatClampNeg x1) ((os_A o_this 10) (Int32.toNatClampNeg (((384 : Int32) * (os_I o_this 29)) + x1))))) (x1 + 1) _ _ _ hP hD hS (lv_sub hl [1, 0] rfl) hf
  unfold ff_X13_undo at hf
  refine lv_aload_n hx hb dX13_undo_0 rfl (lv_at hl 0 rfl) ?_
  refine lv_iconst (v := 0) hx hb dX13_undo_1 (by decide) ?_
  refine va_put (D := D) (ci := 9) (v := .int (0 : Int32)) (ty := .int) (C := RX13) (T := TX13) (N := 48) hx hb hUX13 (fun _ h9 => h9) tyX13 tyX13_ok nmX13 hown hK hP hD hS 0 rfl rfl 0 (by decide) (hts (Cond.fieldLink RX13 93 "ReliefBuilderModel" "code" "I") (List.mem_of_getElem? (i := 1) rfl)) (fun _ h9 => h9) rfl (tyX13_ok 0 (by decide)) rfl rfl (Nat.le_of_ble_eq_true rfl) dX13_undo_2 (fun H locs hP hD hS => ?_)
  have hP : va_P D vwCl (ce_X13 kA q_this (ss_I o_this 0 (0 : Int32))) H := hP
  have hD : va_D A (ce_X13 kA q_this (ss_I o_this 0 (0 : Int32))) := hD
  refine lv_aload_n hx hb dX13_undo_5 rfl (lv_at hl 0 rfl) ?_
  refine va_get (D := D) (ci := 9) (v := .int (os_I o_this 29)) (C := RX13) (T := TX13) (N := 48) hx hb hUX13 (fun _ h9 => h9) hown hK hP 0 rfl rfl 29 (by decide) (hts (Cond.fieldLink RX13 207 "ReliefBuilderModel" "undos" "I") (List.mem_of_getElem? (i := 2) rfl)) (fun _ h9 => h9) rfl dX13_undo_6 ?_
  refine lv_if_ne (tgt := 14) hx hb dX13_undo_9 (by decide) (fun hc_1 => ?_) (fun hc_1 => ?_)
  · rw [if_neg hc_1] at hf
    refine lv_aload_n hx hb dX13_undo_14 rfl (lv_at hl 0 rfl) ?_
    refine lv_dup hx hb dX13_undo_15 rfl ?_
    refine va_get (D := D) (ci := 9) (v := .int (os_I o_this 29)) (C := RX13) (T := TX13) (N := 48) hx hb hUX13 (fun _ h9 => h9) hown hK hP 0 rfl rfl 29 (by decide) (hts (Cond.fieldLink RX13 207 "ReliefBuilderModel" "undos" "I") (List.mem_of_getElem? (i := 2) rfl)) (fun _ h9 => h9) rfl dX13_undo_16 ?_
    refine lv_iconst (v := 1) hx hb dX13_undo_19 (by decide) ?_
    refine lv_isub hx hb dX13_undo_20 ?_
    refine va_put (D := D) (ci := 9) (v := .int ((os_I o_this 29) - (1 : Int32))) (ty := .int) (C := RX13) (T := TX13) (N := 48) hx hb hUX13 (fun _ h9 => h9) tyX13 tyX13_ok nmX13 hown hK hP hD hS 0 rfl rfl 29 (by decide) (hts (Cond.fieldLink RX13 207 "ReliefBuilderModel" "undos" "I") (List.mem_of_getElem? (i := 2) rfl)) (fun _ h9 => h9) rfl (tyX13_ok 29 (by decide)) rfl rfl (Nat.le_of_ble_eq_true rfl) dX13_undo_21 (fun H locs hP hD hS => ?_)
    have hP : va_P D vwCl (ce_X13 kA q_this (ss_I (ss_I o_this 0 (0 : Int32)) 29 ((os_I o_this 29) - (1 : Int32)))) H := hP
    have hD : va_D A (ce_X13 kA q_this (ss_I (ss_I o_this 0 (0 : Int32)) 29 ((os_I o_this 29) - (1 : Int32)))) := hD
    refine lv_iconst (v := 0) hx hb dX13_undo_24 (by decide) ?_
    refine lv_istore_n (lv' := [(1, .int (0 : Int32)), (0, .ref (q_this 0))]) hx hb dX13_undo_25 rfl hl (by decide) rfl (fun ls hl => ?_)
    exact hL26 N (ss_I (ss_I o_this 0 (0 : Int32)) 29 ((os_I o_this 29) - (1 : Int32))) (0 : Int32) _ _ _ hP hD hS (lv_sub hl [1, 0] rfl) hf
  · rw [if_pos hc_1] at hf
    refine lv_iconst (v := (-1)) hx hb dX13_undo_12 (by decide) ?_
    rw [← Option.some.inj hf]
    exact mc_reti hx hb hr hlk hP hK hD hS dX13_undo_13
def ff_X13_tones (N : Nat) (o_this : os_T) (a1 : Int32) (a2 : Int32) (a3 : Int32) : Option os_T :=
  (if os_in (((16 : Int32) * a2) + a1) 192 then ((ff_X13_wantedBy N a3).bind fun u_2 => ((ff_X13_heightBy N (ss_A o_this 3 (upd (os_A o_this 3) (Int32.toNatClampNeg (((16 : Int32) * a2) + a1)) a3)) u_2).bind fun u_4 => (if os_in (((16 : Int32) * a2) + a1) 192 then some (ss_A (ss_A o_this 3 (upd (os_A o_this 3) (Int32.toNatClampNeg (((16 : Int32) * a2) + a1)) a3)) 4 (upd (os_A o_this 4) (Int32.toNatClampNeg (((16 : Int32) * a2) + a1)) u_4)) else none))) else none)
set_option maxHeartbeats 4000000 in
set_option maxRecDepth 100000 in
theorem mm_X13_tones (l : Launch) (D : va_G) (kA : Nat → ClassId) (N : Nat) (q_this : Nat → Nat) (o_this : os_T) (a1 : Int32) (a2 : Int32) (a3 : Int32) (out : os_T) (hf : ff_X13_tones N o_this a1 a2 a3 = some out) : mc_C l D kA yX13_tones wsX13_tones ({ frames := 2, cells := 0, slots := 0, locals := 49 } : Room) [.ref (q_this 0), .int a1, .int a2, .int a3] (ce_X13 kA q_this o_this) none (ce_X13 kA q_this out) := by
  refine mc_of (cc := cX13_tones) (maxL := 4) (ret := none) (by decide) rfl (Nat.le_of_ble_eq_true rfl) ?_
  intro p e s m below meth c A B hD hP hS ls hl
  obtain ⟨hx, hb, hr, hlk, hml, hown, hts, hK, hA, hnm⟩ := B
  have hown : s.vm.findClass RX13 = some m.cls := hown
  have hl : lv_has ls 4 [(0, .ref (q_this 0)), (1, .int a1), (2, .int a2), (3, .int a3)] := hl
  have hUX13 : ∀ w ∈ u_ws RX13 TX13 48, w.before [.ref (q_this 0), .int a1, .int a2, .int a3].toArray s = true := fun w h => hts w (List.mem_cons_of_mem _ (List.mem_append_right _ h))
  unfold ff_X13_tones at hf
  refine lv_aload_n hx hb dX13_tones_0 rfl (lv_at hl 0 rfl) ?_
  refine va_get (D := D) (ci := 9) (v := .ref (q_this 4)) (C := RX13) (T := TX13) (N := 48) hx hb hUX13 (fun _ h9 => h9) hown hK hP 0 rfl rfl 15 (by decide) (hts (Cond.fieldLink RX13 26 "ReliefBuilderModel" "tones" "[I") (List.mem_of_getElem? (i := 1) rfl)) (fun _ h9 => h9) rfl dX13_tones_1 ?_
  refine lv_bipush (v := 16) hx hb dX13_tones_4 (by decide) ?_
  refine lv_iload_n hx hb dX13_tones_6 rfl (lv_at hl 2 rfl) ?_
  refine lv_imul hx hb dX13_tones_7 ?_
  refine lv_iload_n hx hb dX13_tones_8 rfl (lv_at hl 1 rfl) ?_
  refine lv_iadd hx hb dX13_tones_9 ?_
  refine lv_iload_n hx hb dX13_tones_10 rfl (lv_at hl 3 rfl) ?_
  obtain ⟨hi_1, hf⟩ := os_if hf
  refine va_iast hx hb hK hP hD hS 4 0 rfl rfl hi_1 dX13_tones_11 (fun H locs hP hD hS => ?_)
  have hP : va_P D vwCl (ce_X13 kA q_this (ss_A o_this 3 (upd (os_A o_this 3) (Int32.toNatClampNeg (((16 : Int32) * a2) + a1)) a3))) H := hP
  have hD : va_D A (ce_X13 kA q_this (ss_A o_this 3 (upd (os_A o_this 3) (Int32.toNatClampNeg (((16 : Int32) * a2) + a1)) a3))) := hD
  refine lv_aload_n hx hb dX13_tones_12 rfl (lv_at hl 0 rfl) ?_
  refine va_get (D := D) (ci := 9) (v := .ref (q_this 5)) (C := RX13) (T := TX13) (N := 48) hx hb hUX13 (fun _ h9 => h9) hown hK hP 0 rfl rfl 16 (by decide) (hts (Cond.fieldLink RX13 29 "ReliefBuilderModel" "heights" "[I") (List.mem_of_getElem? (i := 2) rfl)) (fun _ h9 => h9) rfl dX13_tones_13 ?_
  refine lv_bipush (v := 16) hx hb dX13_tones_16 (by decide) ?_
  refine lv_iload_n hx hb dX13_tones_18 rfl (lv_at hl 2 rfl) ?_
  refine lv_imul hx hb dX13_tones_19 ?_
  refine lv_iload_n hx hb dX13_tones_20 rfl (lv_at hl 1 rfl) ?_
  refine lv_iadd hx hb dX13_tones_21 ?_
  refine lv_aload_n hx hb dX13_tones_22 rfl (lv_at hl 0 rfl) ?_
  refine lv_iload_n hx hb dX13_tones_23 rfl (lv_at hl 3 rfl) ?_
  obtain ⟨u_2, he_3, hf⟩ := os_bd hf
  refine mc_callS ⟨hx, hb, hml, hown, hts⟩ (mm_X13_wantedBy l D kA N a3 u_2 he_3) (va_cwS 1 hts gX13_tones_X13_wantedBy rfl rfl rfl (by decide +kernel) ⟨Nat.le_of_ble_eq_true rfl, Nat.le_of_ble_eq_true rfl⟩) (wc := []) rfl hl.1 (As := [.int a3]) (rest := [.ref (q_this 0), .int (((16 : Int32) * a2) + a1), .ref (q_this 5)]) rfl (Nat.le_of_ble_eq_true rfl) dX13_tones_24 ⟨Nat.le_of_ble_eq_true rfl, Nat.le_of_ble_eq_true rfl⟩ hK hP hD hS hA [] [0, 1, 2, 3, 4, 5, 6, 7, 8, 9, 10, 11, 12, 13, 14, 15, 16, 17, 18, 19, 20, 21, 22, 23] [0, 1, 2, 3, 4, 5, 6, 7, 8, 9, 10, 11, 12, 13, 14, 15, 16, 17, 18, 19, 20, 21, 22, 23] rfl (by decide) rfl (by decide) (by decide) rfl (by decide) (wr := (ce_X13 kA q_this (ss_A o_this 3 (upd (os_A o_this 3) (Int32.toNatClampNeg (((16 : Int32) * a2) + a1)) a3)))) (w2 := (ce_X13 kA q_this (ss_A o_this 3 (upd (os_A o_this 3) (Int32.toNatClampNeg (((16 : Int32) * a2) + a1)) a3)))) (fun H locs hP hD hS => ?_)
  have hP : va_P D vwCl (ce_X13 kA q_this (ss_A o_this 3 (upd (os_A o_this 3) (Int32.toNatClampNeg (((16 : Int32) * a2) + a1)) a3))) H := hP
  obtain ⟨u_4, he_5, hf⟩ := os_bd hf
  refine mc_callV ⟨hx, hb, hml, hown, hts⟩ (mm_X13_heightBy l D kA N q_this (ss_A o_this 3 (upd (os_A o_this 3) (Int32.toNatClampNeg (((16 : Int32) * a2) + a1)) a3)) u_2 u_4 he_5) (cwV 1 hts gX13_tones_X13_heightBy rfl rfl rfl (by decide +kernel) ⟨Nat.le_of_ble_eq_true rfl, Nat.le_of_ble_eq_true rfl⟩) (wc := (ce_X13 kA q_this (ss_A o_this 3 (upd (os_A o_this 3) (Int32.toNatClampNeg (((16 : Int32) * a2) + a1)) a3)))) (ci := 9) (q0 := 0) rfl rfl rfl hl.1 (As := [.float u_2]) (rest := [.int (((16 : Int32) * a2) + a1), .ref (q_this 5)]) rfl (Nat.le_of_ble_eq_true rfl) dX13_tones_27 ⟨Nat.le_of_ble_eq_true rfl, Nat.le_of_ble_eq_true rfl⟩ hK hP hD hS hA [0, 1, 2, 3, 4, 5, 6, 7, 8, 9, 10, 11, 12, 13, 14, 15, 16, 17, 18, 19, 20, 21, 22, 23] [] [0, 1, 2, 3, 4, 5, 6, 7, 8, 9, 10, 11, 12, 13, 14, 15, 16, 17, 18, 19, 20, 21, 22, 23] rfl (by decide) rfl (by decide) (by decide) rfl (by decide) (wr := []) (w2 := (ce_X13 kA q_this (ss_A o_this 3 (upd (os_A o_this 3) (Int32.toNatClampNeg (((16 : Int32) * a2) + a1)) a3)))) (fun H locs hP hD hS => ?_)
  have hP : va_P D vwCl (ce_X13 kA q_this (ss_A o_this 3 (upd (os_A o_this 3) (Int32.toNatClampNeg (((16 : Int32) * a2) + a1)) a3))) H := hP
  obtain ⟨hi_6, hf⟩ := os_if hf
  refine va_iast hx hb hK hP hD hS 5 0 rfl rfl hi_6 dX13_tones_30 (fun H locs hP hD hS => ?_)
  have hE9 : ∀ (y0 : Nat → Int32) (z9 : Nat → Int32), ((ce_X13 kA q_this (ss_A o_this 3 y0)) : va_W).set 5 (q_this 5, .inl (kA 0, 192, .inl z9)) = (ce_X13 kA q_this (ss_A (ss_A o_this 3 y0) 4 z9)) := fun _ _ => rfl
  have hP : va_P D vwCl (ce_X13 kA q_this (ss_A (ss_A o_this 3 (upd (os_A o_this 3) (Int32.toNatClampNeg (((16 : Int32) * a2) + a1)) a3)) 4 (upd (os_A o_this 4) (Int32.toNatClampNeg (((16 : Int32) * a2) + a1)) u_4))) H := Eq.mp (congrArg (fun w9 => va_P D vwCl w9 H) (hE9 (upd (os_A o_this 3) (Int32.toNatClampNeg (((16 : Int32) * a2) + a1)) a3) _)) hP
  have hD : va_D A (ce_X13 kA q_this (ss_A (ss_A o_this 3 (upd (os_A o_this 3) (Int32.toNatClampNeg (((16 : Int32) * a2) + a1)) a3)) 4 (upd (os_A o_this 4) (Int32.toNatClampNeg (((16 : Int32) * a2) + a1)) u_4))) := Eq.mp (congrArg (fun w9 => va_D A w9) (hE9 (upd (os_A o_this 3) (Int32.toNatClampNeg (((16 : Int32) * a2) + a1)) a3) _)) hD
  rw [← Option.some.inj hf]
  exact mc_retv hx hb hr hlk hP hK hD hS dX13_tones_31
def ff_X13_setTone_b36 (N : Nat) (o_this : os_T) (x1 : Int32) (x2 : Int32) (x3 : Int32) (t0 : Int32) : Option (Int32 × os_T) :=
  (if t0 ≤ 0 then ((ff_X13_laysAside N (ss_I o_this 0 t0)).bind fun u_10 => ((ff_X13_tones N u_10 x1 x2 x3).bind fun u_12 => ((ff_X13_keeps N u_12).bind fun u_14 => (if os_in (((16 : Int32) * x2) + x1) 192 then some ((os_A u_14.2 4) (Int32.toNatClampNeg (((16 : Int32) * x2) + x1)), u_14.2) else none)))) else some ((0 : Int32), ss_I o_this 0 t0))
def ff_X13_setTone_b31 (N : Nat) (o_this : os_T) (x1 : Int32) (x2 : Int32) (x3 : Int32) (t0 : Int32) : Option (Int32 × os_T) :=
  ((ff_X13_truth N t0).bind fun u_7 => ff_X13_setTone_b36 N o_this x1 x2 x3 (u_7 * (2 : Int32)))
def ff_X13_setTone (N : Nat) (o_this : os_T) (a1 : Int32) (a2 : Int32) (a3 : Int32) : Option (Int32 × os_T) :=
  ((ff_X13_isCell N o_this a1 a2).bind fun u_1 => (if u_1 = 0 then ff_X13_setTone_b36 N o_this a1 a2 a3 (1 : Int32) else ((ff_X13_isIn N (Int32.toInt64 a3) (0 : Int64) (255 : Int64)).bind fun u_4 => (if u_4 = 0 then ff_X13_setTone_b31 N o_this a1 a2 a3 (1 : Int32) else ff_X13_setTone_b31 N o_this a1 a2 a3 (0 : Int32)))))
set_option maxHeartbeats 4000000 in
set_option maxRecDepth 100000 in
theorem mm_X13_setTone (l : Launch) (D : va_G) (kA : Nat → ClassId) (N : Nat) (q_this : Nat → Nat) (o_this : os_T) (a1 : Int32) (a2 : Int32) (a3 : Int32) (out : (Int32 × os_T)) (hf : ff_X13_setTone N o_this a1 a2 a3 = some out) : mc_C l D kA yX13_setTone wsX13_setTone ({ frames := 3, cells := 0, slots := 0, locals := 72 } : Room) [.ref (q_this 0), .int a1, .int a2, .int a3] (ce_X13 kA q_this o_this) (some (.int out.1)) (ce_X13 kA q_this out.2) := by
  refine mc_of (cc := cX13_setTone) (maxL := 5) (ret := (some .int)) (by decide) rfl (Nat.le_of_ble_eq_true rfl) ?_
  intro p e s m below meth c A B hD hP hS ls hl
  obtain ⟨hx, hb, hr, hlk, hml, hown, hts, hK, hA, hnm⟩ := B
  have hown : s.vm.findClass RX13 = some m.cls := hown
  have hl : lv_has ls 5 [(0, .ref (q_this 0)), (1, .int a1), (2, .int a2), (3, .int a3)] := hl
  have hUX13 : ∀ w ∈ u_ws RX13 TX13 48, w.before [.ref (q_this 0), .int a1, .int a2, .int a3].toArray s = true := fun w h => hts w (List.mem_cons_of_mem _ (List.mem_append_right _ h))
  have hB36 : ∀ (o_this : os_T) (x1 : Int32) (x2 : Int32) (x3 : Int32) (t0 : Int32) (H : Heap) (locs : List Loc) (ls : Array Slot), va_P D vwCl (ce_X13 kA q_this o_this) H → va_D A (ce_X13 kA q_this o_this) → va_S A s.heap H locs → lv_has ls 5 [(0, .ref (q_this 0)), (1, .int x1), (2, .int x2), (3, .int x3)] → ff_X13_setTone_b36 N o_this x1 x2 x3 t0 = some out → W p l e ({ frames := 3, cells := 0, slots := 0, locals := 72 } : Room) s m [.ref (q_this 0), .int a1, .int a2, .int a3].toArray below meth c H locs 0 0 (MQ below (mc_Q D kA A (some (.int out.1)) (ce_X13 kA q_this out.2)) [.ref (q_this 0), .int a1, .int a2, .int a3].toArray s 0 0 A) (F0 m 36 ls [.int t0, .ref (q_this 0)]) := by
    intro o_this x1 x2 x3 t0 H locs ls hP hD hS hl hf
    unfold ff_X13_setTone_b36 at hf
    refine va_put (D := D) (ci := 9) (v := .int t0) (ty := .int) (C := RX13) (T := TX13) (N := 48) hx hb hUX13 (fun _ h9 => h9) tyX13 tyX13_ok nmX13 hown hK hP hD hS 0 rfl rfl 0 (by decide) (hts (Cond.fieldLink RX13 93 "ReliefBuilderModel" "code" "I") (List.mem_of_getElem? (i := 2) rfl)) (fun _ h9 => h9) rfl (tyX13_ok 0 (by decide)) rfl rfl (Nat.le_of_ble_eq_true rfl) dX13_setTone_36 (fun H locs hP hD hS => ?_)
    have hP : va_P D vwCl (ce_X13 kA q_this (ss_I o_this 0 t0)) H := hP
    have hD : va_D A (ce_X13 kA q_this (ss_I o_this 0 t0)) := hD
    refine lv_aload_n hx hb dX13_setTone_39 rfl (lv_at hl 0 rfl) ?_
    refine va_get (D := D) (ci := 9) (v := .int t0) (C := RX13) (T := TX13) (N := 48) hx hb hUX13 (fun _ h9 => h9) hown hK hP 0 rfl rfl 0 (by decide) (hts (Cond.fieldLink RX13 93 "ReliefBuilderModel" "code" "I") (List.mem_of_getElem? (i := 2) rfl)) (fun _ h9 => h9) rfl dX13_setTone_40 ?_
    refine lv_if_le (tgt := 48) hx hb dX13_setTone_43 (by decide) (fun hc_9 => ?_) (fun hc_9 => ?_)
    · rw [if_pos hc_9] at hf
      refine lv_aload_n hx hb dX13_setTone_48 rfl (lv_at hl 0 rfl) ?_
      obtain ⟨u_10, he_11, hf⟩ := os_bd hf
      refine mc_callV ⟨hx, hb, hml, hown, hts⟩ (mm_X13_laysAside l D kA N q_this (ss_I o_this 0 t0) u_10 he_11) (cwV 0 hts gX13_setTone_X13_laysAside rfl rfl rfl (by decide +kernel) ⟨Nat.le_of_ble_eq_true rfl, Nat.le_of_ble_eq_true rfl⟩) (wc := (ce_X13 kA q_this (ss_I o_this 0 t0))) (ci := 9) (q0 := 0) rfl rfl rfl hl.1 (As := []) (rest := []) rfl (Nat.le_of_ble_eq_true rfl) dX13_setTone_49 ⟨Nat.le_of_ble_eq_true rfl, Nat.le_of_ble_eq_true rfl⟩ hK hP hD hS hA [0, 1, 2, 3, 4, 5, 6, 7, 8, 9, 10, 11, 12, 13, 14, 15, 16, 17, 18, 19, 20, 21, 22, 23] [] [0, 1, 2, 3, 4, 5, 6, 7, 8, 9, 10, 11, 12, 13, 14, 15, 16, 17, 18, 19, 20, 21, 22, 23] rfl (by decide) rfl (by decide) (by decide) rfl (by decide) (wr := []) (w2 := (ce_X13 kA q_this u_10)) (fun H locs hP hD hS => ?_)
      have hP : va_P D vwCl (ce_X13 kA q_this u_10) H := hP
      refine lv_aload_n hx hb dX13_setTone_52 rfl (lv_at hl 0 rfl) ?_
      refine lv_iload_n hx hb dX13_setTone_53 rfl (lv_at hl 1 rfl) ?_
      refine lv_iload_n hx hb dX13_setTone_54 rfl (lv_at hl 2 rfl) ?_
      refine lv_iload_n hx hb dX13_setTone_55 rfl (lv_at hl 3 rfl) ?_
      obtain ⟨u_12, he_13, hf⟩ := os_bd hf
      refine mc_callV ⟨hx, hb, hml, hown, hts⟩ (mm_X13_tones l D kA N q_this u_10 x1 x2 x3 u_12 he_13) (cwV 3 hts gX13_setTone_X13_tones rfl rfl rfl (by decide +kernel) ⟨Nat.le_of_ble_eq_true rfl, Nat.le_of_ble_eq_true rfl⟩) (wc := (ce_X13 kA q_this u_10)) (ci := 9) (q0 := 0) rfl rfl rfl hl.1 (As := [.int x1, .int x2, .int x3]) (rest := []) rfl (Nat.le_of_ble_eq_true rfl) dX13_setTone_56 ⟨Nat.le_of_ble_eq_true rfl, Nat.le_of_ble_eq_true rfl⟩ hK hP hD hS hA [0, 1, 2, 3, 4, 5, 6, 7, 8, 9, 10, 11, 12, 13, 14, 15, 16, 17, 18, 19, 20, 21, 22, 23] [] [0, 1, 2, 3, 4, 5, 6, 7, 8, 9, 10, 11, 12, 13, 14, 15, 16, 17, 18, 19, 20, 21, 22, 23] rfl (by decide) rfl (by decide) (by decide) rfl (by decide) (wr := []) (w2 := (ce_X13 kA q_this u_12)) (fun H locs hP hD hS => ?_)
      have hP : va_P D vwCl (ce_X13 kA q_this u_12) H := hP
      refine lv_aload_n hx hb dX13_setTone_59 rfl (lv_at hl 0 rfl) ?_
      obtain ⟨u_14, he_15, hf⟩ := os_bd hf
      refine mc_callV ⟨hx, hb, hml, hown, hts⟩ (mm_X13_keeps l D kA N q_this u_12 u_14 he_15) (cwV 0 hts gX13_setTone_X13_keeps rfl rfl rfl (by decide +kernel) ⟨Nat.le_of_ble_eq_true rfl, Nat.le_of_ble_eq_true rfl⟩) (wc := (ce_X13 kA q_this u_12)) (ci := 9) (q0 := 0) rfl rfl rfl hl.1 (As := []) (rest := []) rfl (Nat.le_of_ble_eq_true rfl) dX13_setTone_60 ⟨Nat.le_of_ble_eq_true rfl, Nat.le_of_ble_eq_true rfl⟩ hK hP hD hS hA [0, 1, 2, 3, 4, 5, 6, 7, 8, 9, 10, 11, 12, 13, 14, 15, 16, 17, 18, 19, 20, 21, 22, 23] [] [0, 1, 2, 3, 4, 5, 6, 7, 8, 9, 10, 11, 12, 13, 14, 15, 16, 17, 18, 19, 20, 21, 22, 23] rfl (by decide) rfl (by decide) (by decide) rfl (by decide) (wr := []) (w2 := (ce_X13 kA q_this u_14.2)) (fun H locs hP hD hS => ?_)
      have hP : va_P D vwCl (ce_X13 kA q_this u_14.2) H := hP
      refine lv_istore (lv' := [(4, .int u_14.1), (0, .ref (q_this 0)), (1, .int x1), (2, .int x2), (3, .int x3)]) hx hb dX13_setTone_63 hl (by decide) rfl (fun ls hl => ?_)
      refine lv_aload_n hx hb dX13_setTone_65 rfl (lv_at hl 1 rfl) ?_
      refine va_get (D := D) (ci := 9) (v := .ref (q_this 5)) (C := RX13) (T := TX13) (N := 48) hx hb hUX13 (fun _ h9 => h9) hown hK hP 0 rfl rfl 16 (by decide) (hts (Cond.fieldLink RX13 29 "ReliefBuilderModel" "heights" "[I") (List.mem_of_getElem? (i := 3) rfl)) (fun _ h9 => h9) rfl dX13_setTone_66 ?_
      refine lv_bipush (v := 16) hx hb dX13_setTone_69 (by decide) ?_
      refine lv_iload_n hx hb dX13_setTone_71 rfl (lv_at hl 3 rfl) ?_
      refine lv_imul hx hb dX13_setTone_72 ?_
      refine lv_iload_n hx hb dX13_setTone_73 rfl (lv_at hl 2 rfl) ?_
      refine lv_iadd hx hb dX13_setTone_74 ?_
      obtain ⟨hi_16, hf⟩ := os_if hf
      refine va_iald hx hb hK hP 5 0 rfl rfl hi_16 dX13_setTone_75 ?_
      rw [← Option.some.inj hf]
      exact mc_reti hx hb hr hlk hP hK hD hS dX13_setTone_76
    · rw [if_neg hc_9] at hf
      refine lv_iconst (v := 0) hx hb dX13_setTone_46 (by decide) ?_
      rw [← Option.some.inj hf]
      exact mc_reti hx hb hr hlk hP hK hD hS dX13_setTone_47
  have hB31 : ∀ (o_this : os_T) (x1 : Int32) (x2 : Int32) (x3 : Int32) (t0 : Int32) (H : Heap) (locs : List Loc) (ls : Array Slot), va_P D vwCl (ce_X13 kA q_this o_this) H → va_D A (ce_X13 kA q_this o_this) → va_S A s.heap H locs → lv_has ls 5 [(0, .ref (q_this 0)), (1, .int x1), (2, .int x2), (3, .int x3)] → ff_X13_setTone_b31 N o_this x1 x2 x3 t0 = some out → W p l e ({ frames := 3, cells := 0, slots := 0, locals := 72 } : Room) s m [.ref (q_this 0), .int a1, .int a2, .int a3].toArray below meth c H locs 0 0 (MQ below (mc_Q D kA A (some (.int out.1)) (ce_X13 kA q_this out.2)) [.ref (q_this 0), .int a1, .int a2, .int a3].toArray s 0 0 A) (F0 m 31 ls [.int t0, .ref (q_this 0)]) := by
    intro o_this x1 x2 x3 t0 H locs ls hP hD hS hl hf
    unfold ff_X13_setTone_b31 at hf
    obtain ⟨u_7, he_8, hf⟩ := os_bd hf
    refine mc_callS ⟨hx, hb, hml, hown, hts⟩ (mm_X13_truth l D kA N t0 u_7 he_8) (va_cwS 1 hts gX13_setTone_X13_truth rfl rfl rfl (by decide +kernel) ⟨Nat.le_of_ble_eq_true rfl, Nat.le_of_ble_eq_true rfl⟩) (wc := []) rfl hl.1 (As := [.int t0]) (rest := [.ref (q_this 0)]) rfl (Nat.le_of_ble_eq_true rfl) dX13_setTone_31 ⟨Nat.le_of_ble_eq_true rfl, Nat.le_of_ble_eq_true rfl⟩ hK hP hD hS hA [] [0, 1, 2, 3, 4, 5, 6, 7, 8, 9, 10, 11, 12, 13, 14, 15, 16, 17, 18, 19, 20, 21, 22, 23] [0, 1, 2, 3, 4, 5, 6, 7, 8, 9, 10, 11, 12, 13, 14, 15, 16, 17, 18, 19, 20, 21, 22, 23] rfl (by decide) rfl (by decide) (by decide) rfl (by decide) (wr := (ce_X13 kA q_this o_this)) (w2 := (ce_X13 kA q_this o_this)) (fun H locs hP hD hS => ?_)
    have hP : va_P D vwCl (ce_X13 kA q_this o_this) H := hP
    refine lv_iconst (v := 2) hx hb dX13_setTone_34 (by decide) ?_
    refine lv_imul hx hb dX13_setTone_35 ?_
    exact hB36 o_this x1 x2 x3 (u_7 * (2 : Int32)) _ _ _ hP hD hS (lv_sub hl [0, 1, 2, 3] rfl) hf
  unfold ff_X13_setTone at hf
  refine lv_aload_n hx hb dX13_setTone_0 rfl (lv_at hl 0 rfl) ?_
  refine lv_aload_n hx hb dX13_setTone_1 rfl (lv_at hl 0 rfl) ?_
  refine lv_iload_n hx hb dX13_setTone_2 rfl (lv_at hl 1 rfl) ?_
  refine lv_iload_n hx hb dX13_setTone_3 rfl (lv_at hl 2 rfl) ?_
  obtain ⟨u_1, he_2, hf⟩ := os_bd hf
  refine mc_callV ⟨hx, hb, hml, hown, hts⟩ (mm_X13_isCell l D kA N q_this o_this a1 a2 u_1 he_2) (cwV 2 hts gX13_setTone_X13_isCell rfl rfl rfl (by decide +kernel) ⟨Nat.le_of_ble_eq_true rfl, Nat.le_of_ble_eq_true rfl⟩) (wc := (ce_X13 kA q_this o_this)) (ci := 9) (q0 := 0) rfl rfl rfl hl.1 (As := [.int a1, .int a2]) (rest := [.ref (q_this 0)]) rfl (Nat.le_of_ble_eq_true rfl) dX13_setTone_4 ⟨Nat.le_of_ble_eq_true rfl, Nat.le_of_ble_eq_true rfl⟩ hK hP hD hS hA [0, 1, 2, 3, 4, 5, 6, 7, 8, 9, 10, 11, 12, 13, 14, 15, 16, 17, 18, 19, 20, 21, 22, 23] [] [0, 1, 2, 3, 4, 5, 6, 7, 8, 9, 10, 11, 12, 13, 14, 15, 16, 17, 18, 19, 20, 21, 22, 23] rfl (by decide) rfl (by decide) (by decide) rfl (by decide) (wr := []) (w2 := (ce_X13 kA q_this o_this)) (fun H locs hP hD hS => ?_)
  have hP : va_P D vwCl (ce_X13 kA q_this o_this) H := hP
  refine lv_if_ne (tgt := 14) hx hb dX13_setTone_7 (by decide) (fun hc_3 => ?_) (fun hc_3 => ?_)
  · rw [if_neg hc_3] at hf
    refine lv_iload_n hx hb dX13_setTone_14 rfl (lv_at hl 3 rfl) ?_
    refine lv_i2l hx hb dX13_setTone_15 rfl ?_
    refine lv_lconst (v := 0) hx hb dX13_setTone_16 (by decide) ?_
    refine lv_ldc2 hx hb hown (hts (Cond.constantLong RX13 276 (255)) (List.mem_of_getElem? (i := 1) rfl)) dX13_setTone_17 ?_
    obtain ⟨u_4, he_5, hf⟩ := os_bd hf
    refine mc_callS ⟨hx, hb, hml, hown, hts⟩ (mm_X13_isIn l D kA N (Int32.toInt64 a3) (0 : Int64) (255 : Int64) u_4 he_5) (va_cwS 3 hts gX13_setTone_X13_isIn rfl rfl rfl (by decide +kernel) ⟨Nat.le_of_ble_eq_true rfl, Nat.le_of_ble_eq_true rfl⟩) (wc := []) rfl hl.1 (As := [.long (Int32.toInt64 a3), .long (0 : Int64), .long (255 : Int64)]) (rest := [.ref (q_this 0)]) rfl (Nat.le_of_ble_eq_true rfl) dX13_setTone_20 ⟨Nat.le_of_ble_eq_true rfl, Nat.le_of_ble_eq_true rfl⟩ hK hP hD hS hA [] [0, 1, 2, 3, 4, 5, 6, 7, 8, 9, 10, 11, 12, 13, 14, 15, 16, 17, 18, 19, 20, 21, 22, 23] [0, 1, 2, 3, 4, 5, 6, 7, 8, 9, 10, 11, 12, 13, 14, 15, 16, 17, 18, 19, 20, 21, 22, 23] rfl (by decide) rfl (by decide) (by decide) rfl (by decide) (wr := (ce_X13 kA q_this o_this)) (w2 := (ce_X13 kA q_this o_this)) (fun H locs hP hD hS => ?_)
    have hP : va_P D vwCl (ce_X13 kA q_this o_this) H := hP
    refine lv_if_ne (tgt := 30) hx hb dX13_setTone_23 (by decide) (fun hc_6 => ?_) (fun hc_6 => ?_)
    · rw [if_neg hc_6] at hf
      refine lv_iconst (v := 0) hx hb dX13_setTone_30 (by decide) ?_
      exact hB31 o_this a1 a2 a3 (0 : Int32) _ _ _ hP hD hS (lv_sub hl [0, 1, 2, 3] rfl) hf
    · rw [if_pos hc_6] at hf
      refine lv_iconst (v := 1) hx hb dX13_setTone_26 (by decide) ?_
      refine lv_goto (tgt := 31) hx hb dX13_setTone_27 (by decide) ?_
      exact hB31 o_this a1 a2 a3 (1 : Int32) _ _ _ hP hD hS (lv_sub hl [0, 1, 2, 3] rfl) hf
  · rw [if_pos hc_3] at hf
    refine lv_iconst (v := 1) hx hb dX13_setTone_10 (by decide) ?_
    refine lv_goto (tgt := 36) hx hb dX13_setTone_11 (by decide) ?_
    exact hB36 o_this a1 a2 a3 (1 : Int32) _ _ _ hP hD hS (lv_sub hl [0, 1, 2, 3] rfl) hf
def ff_X13_isHeight (N : Nat) (o_this : os_T) (a1 : Int32) : Option Int32 :=
  (if os_in (4 : Int32) 7 then (if os_in (2 : Int32) 7 then ((ff_X13_isIn N (Int32.toInt64 a1) (Int32.toInt64 ((os_A o_this 1) (Int32.toNatClampNeg (4 : Int32)))) (Int32.toInt64 ((os_A o_this 1) (Int32.toNatClampNeg (2 : Int32))))).bind fun u_3 => (if os_z u_3 then some u_3 else none)) else none) else none)
set_option maxHeartbeats 4000000 in
set_option maxRecDepth 100000 in
theorem mm_X13_isHeight (l : Launch) (D : va_G) (kA : Nat → ClassId) (N : Nat) (q_this : Nat → Nat) (o_this : os_T) (a1 : Int32) (out : Int32) (hf : ff_X13_isHeight N o_this a1 = some out) : mc_C l D kA yX13_isHeight wsX13_isHeight ({ frames := 1, cells := 0, slots := 0, locals := 25 } : Room) [.ref (q_this 0), .int a1] (ce_X13 kA q_this o_this) (some (.int out)) (ce_X13 kA q_this o_this) := by
  refine mc_of (cc := cX13_isHeight) (maxL := 2) (ret := (some .boolean)) (by decide) rfl (Nat.le_of_ble_eq_true rfl) ?_
  intro p e s m below meth c A B hD hP hS ls hl
  obtain ⟨hx, hb, hr, hlk, hml, hown, hts, hK, hA, hnm⟩ := B
  have hown : s.vm.findClass RX13 = some m.cls := hown
  have hl : lv_has ls 2 [(0, .ref (q_this 0)), (1, .int a1)] := hl
  have hUX13 : ∀ w ∈ u_ws RX13 TX13 48, w.before [.ref (q_this 0), .int a1].toArray s = true := fun w h => hts w (List.mem_cons_of_mem _ (List.mem_append_right _ h))
  unfold ff_X13_isHeight at hf
  refine lv_iload_n hx hb dX13_isHeight_0 rfl (lv_at hl 1 rfl) ?_
  refine lv_i2l hx hb dX13_isHeight_1 rfl ?_
  refine lv_aload_n hx hb dX13_isHeight_2 rfl (lv_at hl 0 rfl) ?_
  refine va_get (D := D) (ci := 9) (v := .ref (q_this 2)) (C := RX13) (T := TX13) (N := 48) hx hb hUX13 (fun _ h9 => h9) hown hK hP 0 rfl rfl 13 (by decide) (hts (Cond.fieldLink RX13 20 "ReliefBuilderModel" "now" "[I") (List.mem_of_getElem? (i := 1) rfl)) (fun _ h9 => h9) rfl dX13_isHeight_3 ?_
  refine lv_iconst (v := 4) hx hb dX13_isHeight_6 (by decide) ?_
  obtain ⟨hi_1, hf⟩ := os_if hf
  refine va_iald hx hb hK hP 2 0 rfl rfl hi_1 dX13_isHeight_7 ?_
  refine lv_i2l hx hb dX13_isHeight_8 rfl ?_
  refine lv_aload_n hx hb dX13_isHeight_9 rfl (lv_at hl 0 rfl) ?_
  refine va_get (D := D) (ci := 9) (v := .ref (q_this 2)) (C := RX13) (T := TX13) (N := 48) hx hb hUX13 (fun _ h9 => h9) hown hK hP 0 rfl rfl 13 (by decide) (hts (Cond.fieldLink RX13 20 "ReliefBuilderModel" "now" "[I") (List.mem_of_getElem? (i := 1) rfl)) (fun _ h9 => h9) rfl dX13_isHeight_10 ?_
  refine lv_iconst (v := 2) hx hb dX13_isHeight_13 (by decide) ?_
  obtain ⟨hi_2, hf⟩ := os_if hf
  refine va_iald hx hb hK hP 2 0 rfl rfl hi_2 dX13_isHeight_14 ?_
  refine lv_i2l hx hb dX13_isHeight_15 rfl ?_
  obtain ⟨u_3, he_4, hf⟩ := os_bd hf
  refine mc_callS ⟨hx, hb, hml, hown, hts⟩ (mm_X13_isIn l D kA N (Int32.toInt64 a1) (Int32.toInt64 ((os_A o_this 1) (Int32.toNatClampNeg (4 : Int32)))) (Int32.toInt64 ((os_A o_this 1) (Int32.toNatClampNeg (2 : Int32)))) u_3 he_4) (va_cwS 3 hts gX13_isHeight_X13_isIn rfl rfl rfl (by decide +kernel) ⟨Nat.le_of_ble_eq_true rfl, Nat.le_of_ble_eq_true rfl⟩) (wc := []) rfl hl.1 (As := [.long (Int32.toInt64 a1), .long (Int32.toInt64 ((os_A o_this 1) (Int32.toNatClampNeg (4 : Int32)))), .long (Int32.toInt64 ((os_A o_this 1) (Int32.toNatClampNeg (2 : Int32))))]) (rest := []) rfl (Nat.le_of_ble_eq_true rfl) dX13_isHeight_16 ⟨Nat.le_of_ble_eq_true rfl, Nat.le_of_ble_eq_true rfl⟩ hK hP hD hS hA [] [0, 1, 2, 3, 4, 5, 6, 7, 8, 9, 10, 11, 12, 13, 14, 15, 16, 17, 18, 19, 20, 21, 22, 23] [0, 1, 2, 3, 4, 5, 6, 7, 8, 9, 10, 11, 12, 13, 14, 15, 16, 17, 18, 19, 20, 21, 22, 23] rfl (by decide) rfl (by decide) (by decide) rfl (by decide) (wr := (ce_X13 kA q_this o_this)) (w2 := (ce_X13 kA q_this o_this)) (fun H locs hP hD hS => ?_)
  have hP : va_P D vwCl (ce_X13 kA q_this o_this) H := hP
  obtain ⟨hz_5, hf⟩ := os_if hf
  rw [← Option.some.inj hf]
  exact mc_retz hx hb hr (os_z_n hz_5) hlk hP hK hD hS dX13_isHeight_19
def ff_X13_setHeight_b32 (N : Nat) (o_this : os_T) (x1 : Int32) (x2 : Int32) (x3 : Int32) (t0 : Int32) : Option (Int32 × os_T) :=
  (if t0 ≤ 0 then ((ff_X13_laysAside N (ss_I o_this 0 t0)).bind fun u_10 => (if os_in (((16 : Int32) * x2) + x1) 192 then ((ff_X13_keeps N (ss_A u_10 4 (upd (os_A u_10 4) (Int32.toNatClampNeg (((16 : Int32) * x2) + x1)) x3))).bind fun u_13 => (if os_in (((16 : Int32) * x2) + x1) 192 then some ((os_A u_13.2 7) (Int32.toNatClampNeg (((16 : Int32) * x2) + x1)), u_13.2) else none)) else none)) else some ((0 : Int32), ss_I o_this 0 t0))
def ff_X13_setHeight_b27 (N : Nat) (o_this : os_T) (x1 : Int32) (x2 : Int32) (x3 : Int32) (t0 : Int32) : Option (Int32 × os_T) :=
  ((ff_X13_truth N t0).bind fun u_7 => ff_X13_setHeight_b32 N o_this x1 x2 x3 (u_7 * (2 : Int32)))
def ff_X13_setHeight (N : Nat) (o_this : os_T) (a1 : Int32) (a2 : Int32) (a3 : Int32) : Option (Int32 × os_T) :=
  ((ff_X13_isCell N o_this a1 a2).bind fun u_1 => (if u_1 = 0 then ff_X13_setHeight_b32 N o_this a1 a2 a3 (1 : Int32) else ((ff_X13_isHeight N o_this a3).bind fun u_4 => (if u_4 = 0 then ff_X13_setHeight_b27 N o_this a1 a2 a3 (1 : Int32) else ff_X13_setHeight_b27 N o_this a1 a2 a3 (0 : Int32)))))
set_option maxHeartbeats 4000000 in
set_option maxRecDepth 100000 in
theorem mm_X13_setHeight (l : Launch) (D : va_G) (kA : Nat → ClassId) (N : Nat) (q_this : Nat → Nat) (o_this : os_T) (a1 : Int32) (a2 : Int32) (a3 : Int32) (out : (Int32 × os_T)) (hf : ff_X13_setHeight N o_this a1 a2 a3 = some out) : mc_C l D kA yX13_setHeight wsX13_setHeight ({ frames := 2, cells := 0, slots := 0, locals := 47 } : Room) [.ref (q_this 0), .int a1, .int a2, .int a3] (ce_X13 kA q_this o_this) (some (.int out.1)) (ce_X13 kA q_this out.2) := by
  refine mc_of (cc := cX13_setHeight) (maxL := 5) (ret := (some .int)) (by decide) rfl (Nat.le_of_ble_eq_true rfl) ?_
  intro p e s m below meth c A B hD hP hS ls hl
  obtain ⟨hx, hb, hr, hlk, hml, hown, hts, hK, hA, hnm⟩ := B
  have hown : s.vm.findClass RX13 = some m.cls := hown
  have hl : lv_has ls 5 [(0, .ref (q_this 0)), (1, .int a1), (2, .int a2), (3, .int a3)] := hl
  have hUX13 : ∀ w ∈ u_ws RX13 TX13 48, w.before [.ref (q_this 0), .int a1, .int a2, .int a3].toArray s = true := fun w h => hts w (List.mem_cons_of_mem _ (List.mem_append_right _ h))
  have hB32 : ∀ (o_this : os_T) (x1 : Int32) (x2 : Int32) (x3 : Int32) (t0 : Int32) (H : Heap) (locs : List Loc) (ls : Array Slot), va_P D vwCl (ce_X13 kA q_this o_this) H → va_D A (ce_X13 kA q_this o_this) → va_S A s.heap H locs → lv_has ls 5 [(0, .ref (q_this 0)), (1, .int x1), (2, .int x2), (3, .int x3)] → ff_X13_setHeight_b32 N o_this x1 x2 x3 t0 = some out → W p l e ({ frames := 2, cells := 0, slots := 0, locals := 47 } : Room) s m [.ref (q_this 0), .int a1, .int a2, .int a3].toArray below meth c H locs 0 0 (MQ below (mc_Q D kA A (some (.int out.1)) (ce_X13 kA q_this out.2)) [.ref (q_this 0), .int a1, .int a2, .int a3].toArray s 0 0 A) (F0 m 32 ls [.int t0, .ref (q_this 0)]) := by
    intro o_this x1 x2 x3 t0 H locs ls hP hD hS hl hf
    unfold ff_X13_setHeight_b32 at hf
    refine va_put (D := D) (ci := 9) (v := .int t0) (ty := .int) (C := RX13) (T := TX13) (N := 48) hx hb hUX13 (fun _ h9 => h9) tyX13 tyX13_ok nmX13 hown hK hP hD hS 0 rfl rfl 0 (by decide) (hts (Cond.fieldLink RX13 93 "ReliefBuilderModel" "code" "I") (List.mem_of_getElem? (i := 1) rfl)) (fun _ h9 => h9) rfl (tyX13_ok 0 (by decide)) rfl rfl (Nat.le_of_ble_eq_true rfl) dX13_setHeight_32 (fun H locs hP hD hS => ?_)
    have hP : va_P D vwCl (ce_X13 kA q_this (ss_I o_this 0 t0)) H := hP
    have hD : va_D A (ce_X13 kA q_this (ss_I o_this 0 t0)) := hD
    refine lv_aload_n hx hb dX13_setHeight_35 rfl (lv_at hl 0 rfl) ?_
    refine va_get (D := D) (ci := 9) (v := .int t0) (C := RX13) (T := TX13) (N := 48) hx hb hUX13 (fun _ h9 => h9) hown hK hP 0 rfl rfl 0 (by decide) (hts (Cond.fieldLink RX13 93 "ReliefBuilderModel" "code" "I") (List.mem_of_getElem? (i := 1) rfl)) (fun _ h9 => h9) rfl dX13_setHeight_36 ?_
    refine lv_if_le (tgt := 44) hx hb dX13_setHeight_39 (by decide) (fun hc_9 => ?_) (fun hc_9 => ?_)
    · rw [if_pos hc_9] at hf
      refine lv_aload_n hx hb dX13_setHeight_44 rfl (lv_at hl 0 rfl) ?_
      obtain ⟨u_10, he_11, hf⟩ := os_bd hf
      refine mc_callV ⟨hx, hb, hml, hown, hts⟩ (mm_X13_laysAside l D kA N q_this (ss_I o_this 0 t0) u_10 he_11) (cwV 0 hts gX13_setHeight_X13_laysAside rfl rfl rfl (by decide +kernel) ⟨Nat.le_of_ble_eq_true rfl, Nat.le_of_ble_eq_true rfl⟩) (wc := (ce_X13 kA q_this (ss_I o_this 0 t0))) (ci := 9) (q0 := 0) rfl rfl rfl hl.1 (As := []) (rest := []) rfl (Nat.le_of_ble_eq_true rfl) dX13_setHeight_45 ⟨Nat.le_of_ble_eq_true rfl, Nat.le_of_ble_eq_true rfl⟩ hK hP hD hS hA [0, 1, 2, 3, 4, 5, 6, 7, 8, 9, 10, 11, 12, 13, 14, 15, 16, 17, 18, 19, 20, 21, 22, 23] [] [0, 1, 2, 3, 4, 5, 6, 7, 8, 9, 10, 11, 12, 13, 14, 15, 16, 17, 18, 19, 20, 21, 22, 23] rfl (by decide) rfl (by decide) (by decide) rfl (by decide) (wr := []) (w2 := (ce_X13 kA q_this u_10)) (fun H locs hP hD hS => ?_)
      have hP : va_P D vwCl (ce_X13 kA q_this u_10) H := hP
      refine lv_aload_n hx hb dX13_setHeight_48 rfl (lv_at hl 0 rfl) ?_
      refine va_get (D := D) (ci := 9) (v := .ref (q_this 5)) (C := RX13) (T := TX13) (N := 48) hx hb hUX13 (fun _ h9 => h9) hown hK hP 0 rfl rfl 16 (by decide) (hts (Cond.fieldLink RX13 29 "ReliefBuilderModel" "heights" "[I") (List.mem_of_getElem? (i := 2) rfl)) (fun _ h9 => h9) rfl dX13_setHeight_49 ?_
      refine lv_bipush (v := 16) hx hb dX13_setHeight_52 (by decide) ?_
      refine lv_iload_n hx hb dX13_setHeight_54 rfl (lv_at hl 2 rfl) ?_
      refine lv_imul hx hb dX13_setHeight_55 ?_
      refine lv_iload_n hx hb dX13_setHeight_56 rfl (lv_at hl 1 rfl) ?_
      refine lv_iadd hx hb dX13_setHeight_57 ?_
      refine lv_iload_n hx hb dX13_setHeight_58 rfl (lv_at hl 3 rfl) ?_
      obtain ⟨hi_12, hf⟩ := os_if hf
      refine va_iast hx hb hK hP hD hS 5 0 rfl rfl hi_12 dX13_setHeight_59 (fun H locs hP hD hS => ?_)
      have hP : va_P D vwCl (ce_X13 kA q_this (ss_A u_10 4 (upd (os_A u_10 4) (Int32.toNatClampNeg (((16 : Int32) * x2) + x1)) x3))) H := hP
      have hD : va_D A (ce_X13 kA q_this (ss_A u_10 4 (upd (os_A u_10 4) (Int32.toNatClampNeg (((16 : Int32) * x2) + x1)) x3))) := hD
      refine lv_aload_n hx hb dX13_setHeight_60 rfl (lv_at hl 0 rfl) ?_
      obtain ⟨u_13, he_14, hf⟩ := os_bd hf
      refine mc_callV ⟨hx, hb, hml, hown, hts⟩ (mm_X13_keeps l D kA N q_this (ss_A u_10 4 (upd (os_A u_10 4) (Int32.toNatClampNeg (((16 : Int32) * x2) + x1)) x3)) u_13 he_14) (cwV 0 hts gX13_setHeight_X13_keeps rfl rfl rfl (by decide +kernel) ⟨Nat.le_of_ble_eq_true rfl, Nat.le_of_ble_eq_true rfl⟩) (wc := (ce_X13 kA q_this (ss_A u_10 4 (upd (os_A u_10 4) (Int32.toNatClampNeg (((16 : Int32) * x2) + x1)) x3)))) (ci := 9) (q0 := 0) rfl rfl rfl hl.1 (As := []) (rest := []) rfl (Nat.le_of_ble_eq_true rfl) dX13_setHeight_61 ⟨Nat.le_of_ble_eq_true rfl, Nat.le_of_ble_eq_true rfl⟩ hK hP hD hS hA [0, 1, 2, 3, 4, 5, 6, 7, 8, 9, 10, 11, 12, 13, 14, 15, 16, 17, 18, 19, 20, 21, 22, 23] [] [0, 1, 2, 3, 4, 5, 6, 7, 8, 9, 10, 11, 12, 13, 14, 15, 16, 17, 18, 19, 20, 21, 22, 23] rfl (by decide) rfl (by decide) (by decide) rfl (by decide) (wr := []) (w2 := (ce_X13 kA q_this u_13.2)) (fun H locs hP hD hS => ?_)
      have hP : va_P D vwCl (ce_X13 kA q_this u_13.2) H := hP
      refine lv_istore (lv' := [(4, .int u_13.1), (0, .ref (q_this 0)), (1, .int x1), (2, .int x2), (3, .int x3)]) hx hb dX13_setHeight_64 hl (by decide) rfl (fun ls hl => ?_)
      refine lv_aload_n hx hb dX13_setHeight_66 rfl (lv_at hl 1 rfl) ?_
      refine va_get (D := D) (ci := 9) (v := .ref (q_this 8)) (C := RX13) (T := TX13) (N := 48) hx hb hUX13 (fun _ h9 => h9) hown hK hP 0 rfl rfl 25 (by decide) (hts (Cond.fieldLink RX13 39 "ReliefBuilderModel" "aside" "[I") (List.mem_of_getElem? (i := 3) rfl)) (fun _ h9 => h9) rfl dX13_setHeight_67 ?_
      refine lv_bipush (v := 16) hx hb dX13_setHeight_70 (by decide) ?_
      refine lv_iload_n hx hb dX13_setHeight_72 rfl (lv_at hl 3 rfl) ?_
      refine lv_imul hx hb dX13_setHeight_73 ?_
      refine lv_iload_n hx hb dX13_setHeight_74 rfl (lv_at hl 2 rfl) ?_
      refine lv_iadd hx hb dX13_setHeight_75 ?_
      obtain ⟨hi_15, hf⟩ := os_if hf
      refine va_iald hx hb hK hP 8 0 rfl rfl hi_15 dX13_setHeight_76 ?_
      rw [← Option.some.inj hf]
      exact mc_reti hx hb hr hlk hP hK hD hS dX13_setHeight_77
    · rw [if_neg hc_9] at hf
      refine lv_iconst (v := 0) hx hb dX13_setHeight_42 (by decide) ?_
      rw [← Option.some.inj hf]
      exact mc_reti hx hb hr hlk hP hK hD hS dX13_setHeight_43
  have hB27 : ∀ (o_this : os_T) (x1 : Int32) (x2 : Int32) (x3 : Int32) (t0 : Int32) (H : Heap) (locs : List Loc) (ls : Array Slot), va_P D vwCl (ce_X13 kA q_this o_this) H → va_D A (ce_X13 kA q_this o_this) → va_S A s.heap H locs → lv_has ls 5 [(0, .ref (q_this 0)), (1, .int x1), (2, .int x2), (3, .int x3)] → ff_X13_setHeight_b27 N o_this x1 x2 x3 t0 = some out → W p l e ({ frames := 2, cells := 0, slots := 0, locals := 47 } : Room) s m [.ref (q_this 0), .int a1, .int a2, .int a3].toArray below meth c H locs 0 0 (MQ below (mc_Q D kA A (some (.int out.1)) (ce_X13 kA q_this out.2)) [.ref (q_this 0), .int a1, .int a2, .int a3].toArray s 0 0 A) (F0 m 27 ls [.int t0, .ref (q_this 0)]) := by
    intro o_this x1 x2 x3 t0 H locs ls hP hD hS hl hf
    unfold ff_X13_setHeight_b27 at hf
    obtain ⟨u_7, he_8, hf⟩ := os_bd hf
    refine mc_callS ⟨hx, hb, hml, hown, hts⟩ (mm_X13_truth l D kA N t0 u_7 he_8) (va_cwS 1 hts gX13_setHeight_X13_truth rfl rfl rfl (by decide +kernel) ⟨Nat.le_of_ble_eq_true rfl, Nat.le_of_ble_eq_true rfl⟩) (wc := []) rfl hl.1 (As := [.int t0]) (rest := [.ref (q_this 0)]) rfl (Nat.le_of_ble_eq_true rfl) dX13_setHeight_27 ⟨Nat.le_of_ble_eq_true rfl, Nat.le_of_ble_eq_true rfl⟩ hK hP hD hS hA [] [0, 1, 2, 3, 4, 5, 6, 7, 8, 9, 10, 11, 12, 13, 14, 15, 16, 17, 18, 19, 20, 21, 22, 23] [0, 1, 2, 3, 4, 5, 6, 7, 8, 9, 10, 11, 12, 13, 14, 15, 16, 17, 18, 19, 20, 21, 22, 23] rfl (by decide) rfl (by decide) (by decide) rfl (by decide) (wr := (ce_X13 kA q_this o_this)) (w2 := (ce_X13 kA q_this o_this)) (fun H locs hP hD hS => ?_)
    have hP : va_P D vwCl (ce_X13 kA q_this o_this) H := hP
    refine lv_iconst (v := 2) hx hb dX13_setHeight_30 (by decide) ?_
    refine lv_imul hx hb dX13_setHeight_31 ?_
    exact hB32 o_this x1 x2 x3 (u_7 * (2 : Int32)) _ _ _ hP hD hS (lv_sub hl [0, 1, 2, 3] rfl) hf
  unfold ff_X13_setHeight at hf
  refine lv_aload_n hx hb dX13_setHeight_0 rfl (lv_at hl 0 rfl) ?_
  refine lv_aload_n hx hb dX13_setHeight_1 rfl (lv_at hl 0 rfl) ?_
  refine lv_iload_n hx hb dX13_setHeight_2 rfl (lv_at hl 1 rfl) ?_
  refine lv_iload_n hx hb dX13_setHeight_3 rfl (lv_at hl 2 rfl) ?_
  obtain ⟨u_1, he_2, hf⟩ := os_bd hf
  refine mc_callV ⟨hx, hb, hml, hown, hts⟩ (mm_X13_isCell l D kA N q_this o_this a1 a2 u_1 he_2) (cwV 2 hts gX13_setHeight_X13_isCell rfl rfl rfl (by decide +kernel) ⟨Nat.le_of_ble_eq_true rfl, Nat.le_of_ble_eq_true rfl⟩) (wc := (ce_X13 kA q_this o_this)) (ci := 9) (q0 := 0) rfl rfl rfl hl.1 (As := [.int a1, .int a2]) (rest := [.ref (q_this 0)]) rfl (Nat.le_of_ble_eq_true rfl) dX13_setHeight_4 ⟨Nat.le_of_ble_eq_true rfl, Nat.le_of_ble_eq_true rfl⟩ hK hP hD hS hA [0, 1, 2, 3, 4, 5, 6, 7, 8, 9, 10, 11, 12, 13, 14, 15, 16, 17, 18, 19, 20, 21, 22, 23] [] [0, 1, 2, 3, 4, 5, 6, 7, 8, 9, 10, 11, 12, 13, 14, 15, 16, 17, 18, 19, 20, 21, 22, 23] rfl (by decide) rfl (by decide) (by decide) rfl (by decide) (wr := []) (w2 := (ce_X13 kA q_this o_this)) (fun H locs hP hD hS => ?_)
  have hP : va_P D vwCl (ce_X13 kA q_this o_this) H := hP
  refine lv_if_ne (tgt := 14) hx hb dX13_setHeight_7 (by decide) (fun hc_3 => ?_) (fun hc_3 => ?_)
  · rw [if_neg hc_3] at hf
    refine lv_aload_n hx hb dX13_setHeight_14 rfl (lv_at hl 0 rfl) ?_
    refine lv_iload_n hx hb dX13_setHeight_15 rfl (lv_at hl 3 rfl) ?_
    obtain ⟨u_4, he_5, hf⟩ := os_bd hf
    refine mc_callV ⟨hx, hb, hml, hown, hts⟩ (mm_X13_isHeight l D kA N q_this o_this a3 u_4 he_5) (cwV 1 hts gX13_setHeight_X13_isHeight rfl rfl rfl (by decide +kernel) ⟨Nat.le_of_ble_eq_true rfl, Nat.le_of_ble_eq_true rfl⟩) (wc := (ce_X13 kA q_this o_this)) (ci := 9) (q0 := 0) rfl rfl rfl hl.1 (As := [.int a3]) (rest := [.ref (q_this 0)]) rfl (Nat.le_of_ble_eq_true rfl) dX13_setHeight_16 ⟨Nat.le_of_ble_eq_true rfl, Nat.le_of_ble_eq_true rfl⟩ hK hP hD hS hA [0, 1, 2, 3, 4, 5, 6, 7, 8, 9, 10, 11, 12, 13, 14, 15, 16, 17, 18, 19, 20, 21, 22, 23] [] [0, 1, 2, 3, 4, 5, 6, 7, 8, 9, 10, 11, 12, 13, 14, 15, 16, 17, 18, 19, 20, 21, 22, 23] rfl (by decide) rfl (by decide) (by decide) rfl (by decide) (wr := []) (w2 := (ce_X13 kA q_this o_this)) (fun H locs hP hD hS => ?_)
    have hP : va_P D vwCl (ce_X13 kA q_this o_this) H := hP
    refine lv_if_ne (tgt := 26) hx hb dX13_setHeight_19 (by decide) (fun hc_6 => ?_) (fun hc_6 => ?_)
    · rw [if_neg hc_6] at hf
      refine lv_iconst (v := 0) hx hb dX13_setHeight_26 (by decide) ?_
      exact hB27 o_this a1 a2 a3 (0 : Int32) _ _ _ hP hD hS (lv_sub hl [0, 1, 2, 3] rfl) hf
    · rw [if_pos hc_6] at hf
      refine lv_iconst (v := 1) hx hb dX13_setHeight_22 (by decide) ?_
      refine lv_goto (tgt := 27) hx hb dX13_setHeight_23 (by decide) ?_
      exact hB27 o_this a1 a2 a3 (1 : Int32) _ _ _ hP hD hS (lv_sub hl [0, 1, 2, 3] rfl) hf
  · rw [if_pos hc_3] at hf
    refine lv_iconst (v := 1) hx hb dX13_setHeight_10 (by decide) ?_
    refine lv_goto (tgt := 32) hx hb dX13_setHeight_11 (by decide) ?_
    exact hB32 o_this a1 a2 a3 (1 : Int32) _ _ _ hP hD hS (lv_sub hl [0, 1, 2, 3] rfl) hf
def ff_X13_fits (N : Nat) (o_this : os_T) (a1 : Int32) (a2 : Int32) (a3 : Int32) (a4 : Int32) (a5 : Int32) : Option Int32 :=
  (if os_in (0 : Int32) 7 then ((ff_X13_isIn N (Int32.toInt64 a3) (1 : Int64) (Int32.toInt64 (((os_A o_this 1) (Int32.toNatClampNeg (0 : Int32))) - a1))).bind fun u_2 => (if u_2 = 0 then some (0 : Int32) else (if os_in (1 : Int32) 7 then ((ff_X13_isIn N (Int32.toInt64 a4) (1 : Int64) (Int32.toInt64 (((os_A o_this 1) (Int32.toNatClampNeg (1 : Int32))) - a2))).bind fun u_6 => (if u_6 = 0 then some (0 : Int32) else ((ff_X13_isHeight N o_this a5).bind fun u_9 => (if u_9 = 0 then some (0 : Int32) else some (1 : Int32))))) else none))) else none)
set_option maxHeartbeats 4000000 in
set_option maxRecDepth 100000 in
theorem mm_X13_fits (l : Launch) (D : va_G) (kA : Nat → ClassId) (N : Nat) (q_this : Nat → Nat) (o_this : os_T) (a1 : Int32) (a2 : Int32) (a3 : Int32) (a4 : Int32) (a5 : Int32) (out : Int32) (hf : ff_X13_fits N o_this a1 a2 a3 a4 a5 = some out) : mc_C l D kA yX13_fits wsX13_fits ({ frames := 2, cells := 0, slots := 0, locals := 46 } : Room) [.ref (q_this 0), .int a1, .int a2, .int a3, .int a4, .int a5] (ce_X13 kA q_this o_this) (some (.int out)) (ce_X13 kA q_this o_this) := by
  refine mc_of (cc := cX13_fits) (maxL := 6) (ret := (some .boolean)) (by decide) rfl (Nat.le_of_ble_eq_true rfl) ?_
  intro p e s m below meth c A B hD hP hS ls hl
  obtain ⟨hx, hb, hr, hlk, hml, hown, hts, hK, hA, hnm⟩ := B
  have hown : s.vm.findClass RX13 = some m.cls := hown
  have hl : lv_has ls 6 [(0, .ref (q_this 0)), (1, .int a1), (2, .int a2), (3, .int a3), (4, .int a4), (5, .int a5)] := hl
  have hUX13 : ∀ w ∈ u_ws RX13 TX13 48, w.before [.ref (q_this 0), .int a1, .int a2, .int a3, .int a4, .int a5].toArray s = true := fun w h => hts w (List.mem_cons_of_mem _ (List.mem_append_right _ h))
  unfold ff_X13_fits at hf
  refine lv_iload_n hx hb dX13_fits_0 rfl (lv_at hl 3 rfl) ?_
  refine lv_i2l hx hb dX13_fits_1 rfl ?_
  refine lv_lconst (v := 1) hx hb dX13_fits_2 (by decide) ?_
  refine lv_aload_n hx hb dX13_fits_3 rfl (lv_at hl 0 rfl) ?_
  refine va_get (D := D) (ci := 9) (v := .ref (q_this 2)) (C := RX13) (T := TX13) (N := 48) hx hb hUX13 (fun _ h9 => h9) hown hK hP 0 rfl rfl 13 (by decide) (hts (Cond.fieldLink RX13 20 "ReliefBuilderModel" "now" "[I") (List.mem_of_getElem? (i := 1) rfl)) (fun _ h9 => h9) rfl dX13_fits_4 ?_
  refine lv_iconst (v := 0) hx hb dX13_fits_7 (by decide) ?_
  obtain ⟨hi_1, hf⟩ := os_if hf
  refine va_iald hx hb hK hP 2 0 rfl rfl hi_1 dX13_fits_8 ?_
  refine lv_iload_n hx hb dX13_fits_9 rfl (lv_at hl 1 rfl) ?_
  refine lv_isub hx hb dX13_fits_10 ?_
  refine lv_i2l hx hb dX13_fits_11 rfl ?_
  obtain ⟨u_2, he_3, hf⟩ := os_bd hf
  refine mc_callS ⟨hx, hb, hml, hown, hts⟩ (mm_X13_isIn l D kA N (Int32.toInt64 a3) (1 : Int64) (Int32.toInt64 (((os_A o_this 1) (Int32.toNatClampNeg (0 : Int32))) - a1)) u_2 he_3) (va_cwS 3 hts gX13_fits_X13_isIn rfl rfl rfl (by decide +kernel) ⟨Nat.le_of_ble_eq_true rfl, Nat.le_of_ble_eq_true rfl⟩) (wc := []) rfl hl.1 (As := [.long (Int32.toInt64 a3), .long (1 : Int64), .long (Int32.toInt64 (((os_A o_this 1) (Int32.toNatClampNeg (0 : Int32))) - a1))]) (rest := []) rfl (Nat.le_of_ble_eq_true rfl) dX13_fits_12 ⟨Nat.le_of_ble_eq_true rfl, Nat.le_of_ble_eq_true rfl⟩ hK hP hD hS hA [] [0, 1, 2, 3, 4, 5, 6, 7, 8, 9, 10, 11, 12, 13, 14, 15, 16, 17, 18, 19, 20, 21, 22, 23] [0, 1, 2, 3, 4, 5, 6, 7, 8, 9, 10, 11, 12, 13, 14, 15, 16, 17, 18, 19, 20, 21, 22, 23] rfl (by decide) rfl (by decide) (by decide) rfl (by decide) (wr := (ce_X13 kA q_this o_this)) (w2 := (ce_X13 kA q_this o_this)) (fun H locs hP hD hS => ?_)
  have hP : va_P D vwCl (ce_X13 kA q_this o_this) H := hP
  refine lv_if_eq (tgt := 50) hx hb dX13_fits_15 (by decide) (fun hc_4 => ?_) (fun hc_4 => ?_)
  · rw [if_pos hc_4] at hf
    refine lv_iconst (v := 0) hx hb dX13_fits_50 (by decide) ?_
    rw [← Option.some.inj hf]
    exact mc_retz (v := 0) hx hb hr rfl hlk hP hK hD hS dX13_fits_51
  · rw [if_neg hc_4] at hf
    refine lv_iload hx hb dX13_fits_18 (lv_at hl 4 rfl) ?_
    refine lv_i2l hx hb dX13_fits_20 rfl ?_
    refine lv_lconst (v := 1) hx hb dX13_fits_21 (by decide) ?_
    refine lv_aload_n hx hb dX13_fits_22 rfl (lv_at hl 0 rfl) ?_
    refine va_get (D := D) (ci := 9) (v := .ref (q_this 2)) (C := RX13) (T := TX13) (N := 48) hx hb hUX13 (fun _ h9 => h9) hown hK hP 0 rfl rfl 13 (by decide) (hts (Cond.fieldLink RX13 20 "ReliefBuilderModel" "now" "[I") (List.mem_of_getElem? (i := 1) rfl)) (fun _ h9 => h9) rfl dX13_fits_23 ?_
    refine lv_iconst (v := 1) hx hb dX13_fits_26 (by decide) ?_
    obtain ⟨hi_5, hf⟩ := os_if hf
    refine va_iald hx hb hK hP 2 0 rfl rfl hi_5 dX13_fits_27 ?_
    refine lv_iload_n hx hb dX13_fits_28 rfl (lv_at hl 2 rfl) ?_
    refine lv_isub hx hb dX13_fits_29 ?_
    refine lv_i2l hx hb dX13_fits_30 rfl ?_
    obtain ⟨u_6, he_7, hf⟩ := os_bd hf
    refine mc_callS ⟨hx, hb, hml, hown, hts⟩ (mm_X13_isIn l D kA N (Int32.toInt64 a4) (1 : Int64) (Int32.toInt64 (((os_A o_this 1) (Int32.toNatClampNeg (1 : Int32))) - a2)) u_6 he_7) (va_cwS 3 hts gX13_fits_X13_isIn rfl rfl rfl (by decide +kernel) ⟨Nat.le_of_ble_eq_true rfl, Nat.le_of_ble_eq_true rfl⟩) (wc := []) rfl hl.1 (As := [.long (Int32.toInt64 a4), .long (1 : Int64), .long (Int32.toInt64 (((os_A o_this 1) (Int32.toNatClampNeg (1 : Int32))) - a2))]) (rest := []) rfl (Nat.le_of_ble_eq_true rfl) dX13_fits_31 ⟨Nat.le_of_ble_eq_true rfl, Nat.le_of_ble_eq_true rfl⟩ hK hP hD hS hA [] [0, 1, 2, 3, 4, 5, 6, 7, 8, 9, 10, 11, 12, 13, 14, 15, 16, 17, 18, 19, 20, 21, 22, 23] [0, 1, 2, 3, 4, 5, 6, 7, 8, 9, 10, 11, 12, 13, 14, 15, 16, 17, 18, 19, 20, 21, 22, 23] rfl (by decide) rfl (by decide) (by decide) rfl (by decide) (wr := (ce_X13 kA q_this o_this)) (w2 := (ce_X13 kA q_this o_this)) (fun H locs hP hD hS => ?_)
    have hP : va_P D vwCl (ce_X13 kA q_this o_this) H := hP
    refine lv_if_eq (tgt := 50) hx hb dX13_fits_34 (by decide) (fun hc_8 => ?_) (fun hc_8 => ?_)
    · rw [if_pos hc_8] at hf
      refine lv_iconst (v := 0) hx hb dX13_fits_50 (by decide) ?_
      rw [← Option.some.inj hf]
      exact mc_retz (v := 0) hx hb hr rfl hlk hP hK hD hS dX13_fits_51
    · rw [if_neg hc_8] at hf
      refine lv_aload_n hx hb dX13_fits_37 rfl (lv_at hl 0 rfl) ?_
      refine lv_iload hx hb dX13_fits_38 (lv_at hl 5 rfl) ?_
      obtain ⟨u_9, he_10, hf⟩ := os_bd hf
      refine mc_callV ⟨hx, hb, hml, hown, hts⟩ (mm_X13_isHeight l D kA N q_this o_this a5 u_9 he_10) (cwV 1 hts gX13_fits_X13_isHeight rfl rfl rfl (by decide +kernel) ⟨Nat.le_of_ble_eq_true rfl, Nat.le_of_ble_eq_true rfl⟩) (wc := (ce_X13 kA q_this o_this)) (ci := 9) (q0 := 0) rfl rfl rfl hl.1 (As := [.int a5]) (rest := []) rfl (Nat.le_of_ble_eq_true rfl) dX13_fits_40 ⟨Nat.le_of_ble_eq_true rfl, Nat.le_of_ble_eq_true rfl⟩ hK hP hD hS hA [0, 1, 2, 3, 4, 5, 6, 7, 8, 9, 10, 11, 12, 13, 14, 15, 16, 17, 18, 19, 20, 21, 22, 23] [] [0, 1, 2, 3, 4, 5, 6, 7, 8, 9, 10, 11, 12, 13, 14, 15, 16, 17, 18, 19, 20, 21, 22, 23] rfl (by decide) rfl (by decide) (by decide) rfl (by decide) (wr := []) (w2 := (ce_X13 kA q_this o_this)) (fun H locs hP hD hS => ?_)
      have hP : va_P D vwCl (ce_X13 kA q_this o_this) H := hP
      refine lv_if_eq (tgt := 50) hx hb dX13_fits_43 (by decide) (fun hc_11 => ?_) (fun hc_11 => ?_)
      · rw [if_pos hc_11] at hf
        refine lv_iconst (v := 0) hx hb dX13_fits_50 (by decide) ?_
        rw [← Option.some.inj hf]
        exact mc_retz (v := 0) hx hb hr rfl hlk hP hK hD hS dX13_fits_51
      · rw [if_neg hc_11] at hf
        refine lv_iconst (v := 1) hx hb dX13_fits_46 (by decide) ?_
        refine lv_goto (tgt := 51) hx hb dX13_fits_47 (by decide) ?_
        rw [← Option.some.inj hf]
        exact mc_retz (v := 1) hx hb hr rfl hlk hP hK hD hS dX13_fits_51
def ff_X13_fills_c15 (N : Nat) (k3 : (os_T × Int32 × Int32 × Int32 × Int32 × Int32 × Int32) → Option os_T) (k15 : (os_T × Int32 × Int32 × Int32 × Int32 × Int32 × Int32 × Int32) → Option os_T) (o_this : os_T) (x1 : Int32) (x2 : Int32) (x3 : Int32) (x4 : Int32) (x5 : Int32) (x6 : Int32) (x7 : Int32) : Option os_T :=
  (if (x1 + x3) ≤ x7 then k3 (o_this, x1, x2, x3, x4, x5, x6 + 1) else (if os_in (((16 : Int32) * x6) + x7) 192 then k15 (ss_A o_this 4 (upd (os_A o_this 4) (Int32.toNatClampNeg (((16 : Int32) * x6) + x7)) x5), x1, x2, x3, x4, x5, x6, x7 + 1) else none))
def ff_X13_fills_l15 (N : Nat) (k3 : (os_T × Int32 × Int32 × Int32 × Int32 × Int32 × Int32) → Option os_T) : Nat → (os_T × Int32 × Int32 × Int32 × Int32 × Int32 × Int32 × Int32) → Option os_T := os_loop (fun k15 s1 => ff_X13_fills_c15 N k3 k15 s1.1 s1.2.1 s1.2.2.1 s1.2.2.2.1 s1.2.2.2.2.1 s1.2.2.2.2.2.1 s1.2.2.2.2.2.2.1 s1.2.2.2.2.2.2.2)
def ff_X13_fills_c3 (N : Nat) (k3 : (os_T × Int32 × Int32 × Int32 × Int32 × Int32 × Int32) → Option os_T) (o_this : os_T) (x1 : Int32) (x2 : Int32) (x3 : Int32) (x4 : Int32) (x5 : Int32) (x6 : Int32) : Option os_T :=
  (if (x2 + x4) ≤ x6 then some o_this else ff_X13_fills_l15 N k3 N (o_this, x1, x2, x3, x4, x5, x6, x1))
def ff_X13_fills_l3 (N : Nat) : Nat → (os_T × Int32 × Int32 × Int32 × Int32 × Int32 × Int32) → Option os_T := os_loop (fun k3 s1 => ff_X13_fills_c3 N k3 s1.1 s1.2.1 s1.2.2.1 s1.2.2.2.1 s1.2.2.2.2.1 s1.2.2.2.2.2.1 s1.2.2.2.2.2.2)
def ff_X13_fills (N : Nat) (o_this : os_T) (a1 : Int32) (a2 : Int32) (a3 : Int32) (a4 : Int32) (a5 : Int32) : Option os_T :=
  ff_X13_fills_l3 N N (o_this, a1, a2, a3, a4, a5, a2)
set_option maxHeartbeats 4000000 in
set_option maxRecDepth 100000 in
theorem mm_X13_fills (l : Launch) (D : va_G) (kA : Nat → ClassId) (N : Nat) (q_this : Nat → Nat) (o_this : os_T) (a1 : Int32) (a2 : Int32) (a3 : Int32) (a4 : Int32) (a5 : Int32) (out : os_T) (hf : ff_X13_fills N o_this a1 a2 a3 a4 a5 = some out) : mc_C l D kA yX13_fills wsX13_fills ({ frames := 0, cells := 0, slots := 0, locals := 0 } : Room) [.ref (q_this 0), .int a1, .int a2, .int a3, .int a4, .int a5] (ce_X13 kA q_this o_this) none (ce_X13 kA q_this out) := by
  refine mc_of (cc := cX13_fills) (maxL := 8) (ret := none) (by decide) rfl (Nat.le_of_ble_eq_true rfl) ?_
  intro p e s m below meth c A B hD hP hS ls hl
  obtain ⟨hx, hb, hr, hlk, hml, hown, hts, hK, hA, hnm⟩ := B
  have hown : s.vm.findClass RX13 = some m.cls := hown
  have hl : lv_has ls 8 [(0, .ref (q_this 0)), (1, .int a1), (2, .int a2), (3, .int a3), (4, .int a4), (5, .int a5)] := hl
  have hUX13 : ∀ w ∈ u_ws RX13 TX13 48, w.before [.ref (q_this 0), .int a1, .int a2, .int a3, .int a4, .int a5].toArray s = true := fun w h => hts w (List.mem_cons_of_mem _ (List.mem_append_right _ h))
  have hL15 : ∀ (k3 : (os_T × Int32 × Int32 × Int32 × Int32 × Int32 × Int32) → Option os_T), (∀ (o_this : os_T) (x1 : Int32) (x2 : Int32) (x3 : Int32) (x4 : Int32) (x5 : Int32) (x6 : Int32) (H : Heap) (locs : List Loc) (ls : Array Slot), va_P D vwCl (ce_X13 kA q_this o_this) H → va_D A (ce_X13 kA q_this o_this) → va_S A s.heap H locs → lv_has ls 8 [(0, .ref (q_this 0)), (1, .int x1), (2, .int x2), (3, .int x3), (4, .int x4), (5, .int x5), (6, .int x6)] → k3 (o_this, x1, x2, x3, x4, x5, x6) = some out → W p l e ({ frames := 0, cells := 0, slots := 0, locals := 0 } : Room) s m [.ref (q_this 0), .int a1, .int a2, .int a3, .int a4, .int a5].toArray below meth c H locs 0 0 (MQ below (mc_Q D kA A none (ce_X13 kA q_this out)) [.ref (q_this 0), .int a1, .int a2, .int a3, .int a4, .int a5].toArray s 0 0 A) (F0 m 3 ls [])) → ∀ (n : Nat) (o_this : os_T) (x1 : Int32) (x2 : Int32) (x3 : Int32) (x4 : Int32) (x5 : Int32) (x6 : Int32) (x7 : Int32) (H : Heap) (locs : List Loc) (ls : Array Slot), va_P D vwCl (ce_X13 kA q_this o_this) H → va_D A (ce_X13 kA q_this o_this) → va_S A s.heap H locs → lv_has ls 8 [(0, .ref (q_this 0)), (1, .int x1), (2, .int x2), (3, .int x3), (4, .int x4), (5, .int x5), (6, .int x6), (7, .int x7)] → ff_X13_fills_l15 N k3 n (o_this, x1, x2, x3, x4, x5, x6, x7) = some out → W p l e ({ frames := 0, cells := 0, slots := 0, locals := 0 } : Room) s m [.ref (q_this 0), .int a1, .int a2, .int a3, .int a4, .int a5].toArray below meth c H locs 0 0 (MQ below (mc_Q D kA A none (ce_X13 kA q_this out)) [.ref (q_this 0), .int a1, .int a2, .int a3, .int a4, .int a5].toArray s 0 0 A) (F0 m 15 ls []) := by
    intro k3 hk3 n
    induction n with
    | zero => intro o_this x1 x2 x3 x4 x5 x6 x7 H locs ls _ _ _ _ hf; cases hf
    | succ n hk15 =>
      intro o_this x1 x2 x3 x4 x5 x6 x7 H locs ls hP hD hS hl hf
      have hf : ff_X13_fills_c15 N k3 (ff_X13_fills_l15 N k3 n) o_this x1 x2 x3 x4 x5 x6 x7 = some out := hf
      generalize hke : ff_X13_fills_l15 N k3 n = k15 at hk15 hf
      unfold ff_X13_fills_c15 at hf
      refine lv_iload hx hb dX13_fills_15 (lv_at hl 7 rfl) ?_
      refine lv_iload_n hx hb dX13_fills_17 rfl (lv_at hl 1 rfl) ?_
      refine lv_iload_n hx hb dX13_fills_18 rfl (lv_at hl 3 rfl) ?_
      refine lv_iadd hx hb dX13_fills_19 ?_
      refine lv_icmp_ge (tgt := 44) hx hb dX13_fills_20 (by decide) (fun hc_2 => ?_) (fun hc_2 => ?_)
      · rw [if_pos hc_2] at hf
        refine lv_iinc (v := x6 + 1) (lv' := [(6, .int (x6 + 1)), (0, .ref (q_this 0)), (1, .int x1), (2, .int x2), (3, .int x3), (4, .int x4), (5, .int x5), (7, .int x7)]) hx hb dX13_fills_44 hl (k := 6) rfl rfl (by decide) rfl (fun ls hl => ?_)
        refine lv_goto (tgt := 3) hx hb dX13_fills_47 (by decide) ?_
        exact hk3 o_this x1 x2 x3 x4 x5 (x6 + 1) _ _ _ hP hD hS (lv_sub hl [1, 2, 3, 4, 5, 6, 0] rfl) hf
      · rw [if_neg hc_2] at hf
        refine lv_aload_n hx hb dX13_fills_23 rfl (lv_at hl 0 rfl) ?_
        refine va_get (D := D) (ci := 9) (v := .ref (q_this 5)) (C := RX13) (T := TX13) (N := 48) hx hb hUX13 (fun _ h9 => h9) hown hK hP 0 rfl rfl 16 (by decide) (hts (Cond.fieldLink RX13 29 "ReliefBuilderModel" "heights" "[I") (List.mem_of_getElem? (i := 1) rfl)) (fun _ h9 => h9) rfl dX13_fills_24 ?_
        refine lv_bipush (v := 16) hx hb dX13_fills_27 (by decide) ?_
        refine lv_iload hx hb dX13_fills_29 (lv_at hl 6 rfl) ?_
        refine lv_imul hx hb dX13_fills_31 ?_
        refine lv_iload hx hb dX13_fills_32 (lv_at hl 7 rfl) ?_
        refine lv_iadd hx hb dX13_fills_34 ?_
        refine lv_iload hx hb dX13_fills_35 (lv_at hl 5 rfl) ?_
        obtain ⟨hi_3, hf⟩ := os_if hf
        refine va_iast hx hb hK hP hD hS 5 0 rfl rfl hi_3 dX13_fills_37 (fun H locs hP hD hS => ?_)
        have hP : va_P D vwCl (ce_X13 kA q_this (ss_A o_this 4 (upd (os_A o_this 4) (Int32.toNatClampNeg (((16 : Int32) * x6) + x7)) x5))) H := hP
        have hD : va_D A (ce_X13 kA q_this (ss_A o_this 4 (upd (os_A o_this 4) (Int32.toNatClampNeg (((16 : Int32) * x6) + x7)) x5))) := hD
        refine lv_iinc (v := x7 + 1) (lv' := [(7, .int (x7 + 1)), (0, .ref (q_this 0)), (1, .int x1), (2, .int x2), (3, .int x3), (4, .int x4), (5, .int x5), (6, .int x6)]) hx hb dX13_fills_38 hl (k := 7) rfl rfl (by decide) rfl (fun ls hl => ?_)
        refine lv_goto (tgt := 15) hx hb dX13_fills_41 (by decide) ?_
        exact hk15 (ss_A o_this 4 (upd (os_A o_this 4) (Int32.toNatClampNeg (((16 : Int32) * x6) + x7)) x5)) x1 x2 x3 x4 x5 x6 (x7 + 1) _ _ _ hP hD hS (lv_sub hl [1, 2, 3, 4, 5, 6, 7, 0] rfl) hf
  have hL3 : ∀ (n : Nat) (o_this : os_T) (x1 : Int32) (x2 : Int32) (x3 : Int32) (x4 : Int32) (x5 : Int32) (x6 : Int32) (H : Heap) (locs : List Loc) (ls : Array Slot), va_P D vwCl (ce_X13 kA q_this o_this) H → va_D A (ce_X13 kA q_this o_this) → va_S A s.heap H locs → lv_has ls 8 [(0, .ref (q_this 0)), (1, .int x1), (2, .int x2), (3, .int x3), (4, .int x4), (5, .int x5), (6, .int x6)] → ff_X13_fills_l3 N n (o_this, x1, x2, x3, x4, x5, x6) = some out → W p l e ({ frames := 0, cells := 0, slots := 0, locals := 0 } : Room) s m [.ref (q_this 0), .int a1, .int a2, .int a3, .int a4, .int a5].toArray below meth c H locs 0 0 (MQ below (mc_Q D kA A none (ce_X13 kA q_this out)) [.ref (q_this 0), .int a1, .int a2, .int a3, .int a4, .int a5].toArray s 0 0 A) (F0 m 3 ls []) := by
    intro n
    induction n with
    | zero => intro o_this x1 x2 x3 x4 x5 x6 H locs ls _ _ _ _ hf; cases hf
    | succ n hk3 =>
      intro o_this x1 x2 x3 x4 x5 x6 H locs ls hP hD hS hl hf
      have hf : ff_X13_fills_c3 N (ff_X13_fills_l3 N n) o_this x1 x2 x3 x4 x5 x6 = some out := hf
      generalize hke : ff_X13_fills_l3 N n = k3 at hk3 hf
      unfold ff_X13_fills_c3 at hf
      refine lv_iload hx hb dX13_fills_3 (lv_at hl 6 rfl) ?_
      refine lv_iload_n hx hb dX13_fills_5 rfl (lv_at hl 2 rfl) ?_
      refine lv_iload hx hb dX13_fills_6 (lv_at hl 4 rfl) ?_
      refine lv_iadd hx hb dX13_fills_8 ?_
      refine lv_icmp_ge (tgt := 50) hx hb dX13_fills_9 (by decide) (fun hc_1 => ?_) (fun hc_1 => ?_)
      · rw [if_pos hc_1] at hf
        rw [← Option.some.inj hf]
        exact mc_retv hx hb hr hlk hP hK hD hS dX13_fills_50
      · rw [if_neg hc_1] at hf
        refine lv_iload_n hx hb dX13_fills_12 rfl (lv_at hl 1 rfl) ?_
        refine lv_istore (lv' := [(7, .int x1), (0, .ref (q_this 0)), (1, .int x1), (2, .int x2), (3, .int x3), (4, .int x4), (5, .int x5), (6, .int x6)]) hx hb dX13_fills_13 hl (by decide) rfl (fun ls hl => ?_)
        exact hL15 k3 hk3 N o_this x1 x2 x3 x4 x5 x6 x1 _ _ _ hP hD hS (lv_sub hl [1, 2, 3, 4, 5, 6, 7, 0] rfl) hf
  unfold ff_X13_fills at hf
  refine lv_iload_n hx hb dX13_fills_0 rfl (lv_at hl 2 rfl) ?_
  refine lv_istore (lv' := [(6, .int a2), (0, .ref (q_this 0)), (1, .int a1), (2, .int a2), (3, .int a3), (4, .int a4), (5, .int a5)]) hx hb dX13_fills_1 hl (by decide) rfl (fun ls hl => ?_)
  exact hL3 N o_this a1 a2 a3 a4 a5 a2 _ _ _ hP hD hS (lv_sub hl [1, 2, 3, 4, 5, 6, 0] rfl) hf
def ff_X13_fill_b38 (N : Nat) (o_this : os_T) (x1 : Int32) (x2 : Int32) (x3 : Int32) (x4 : Int32) (x5 : Int32) (t0 : Int32) : Option (Int32 × os_T) :=
  (if t0 ≤ 0 then ((ff_X13_laysAside N (ss_I o_this 0 t0)).bind fun u_10 => ((ff_X13_fills N u_10 x1 x2 x3 x4 x5).bind fun u_12 => ((ff_X13_keeps N u_12).bind fun u_14 => some (u_14.1, u_14.2)))) else some ((0 : Int32), ss_I o_this 0 t0))
def ff_X13_fill_b33 (N : Nat) (o_this : os_T) (x1 : Int32) (x2 : Int32) (x3 : Int32) (x4 : Int32) (x5 : Int32) (t0 : Int32) : Option (Int32 × os_T) :=
  ((ff_X13_truth N t0).bind fun u_7 => ff_X13_fill_b38 N o_this x1 x2 x3 x4 x5 (u_7 * (2 : Int32)))
def ff_X13_fill (N : Nat) (o_this : os_T) (a1 : Int32) (a2 : Int32) (a3 : Int32) (a4 : Int32) (a5 : Int32) : Option (Int32 × os_T) :=
  ((ff_X13_isCell N o_this a1 a2).bind fun u_1 => (if u_1 = 0 then ff_X13_fill_b38 N o_this a1 a2 a3 a4 a5 (1 : Int32) else ((ff_X13_fits N o_this a1 a2 a3 a4 a5).bind fun u_4 => (if u_4 = 0 then ff_X13_fill_b33 N o_this a1 a2 a3 a4 a5 (1 : Int32) else ff_X13_fill_b33 N o_this a1 a2 a3 a4 a5 (0 : Int32)))))
set_option maxHeartbeats 4000000 in
set_option maxRecDepth 100000 in
theorem mm_X13_fill (l : Launch) (D : va_G) (kA : Nat → ClassId) (N : Nat) (q_this : Nat → Nat) (o_this : os_T) (a1 : Int32) (a2 : Int32) (a3 : Int32) (a4 : Int32) (a5 : Int32) (out : (Int32 × os_T)) (hf : ff_X13_fill N o_this a1 a2 a3 a4 a5 = some out) : mc_C l D kA yX13_fill wsX13_fill ({ frames := 3, cells := 0, slots := 0, locals := 71 } : Room) [.ref (q_this 0), .int a1, .int a2, .int a3, .int a4, .int a5] (ce_X13 kA q_this o_this) (some (.int out.1)) (ce_X13 kA q_this out.2) := by
  refine mc_of (cc := cX13_fill) (maxL := 6) (ret := (some .int)) (by decide) rfl (Nat.le_of_ble_eq_true rfl) ?_
  intro p e s m below meth c A B hD hP hS ls hl
  obtain ⟨hx, hb, hr, hlk, hml, hown, hts, hK, hA, hnm⟩ := B
  have hown : s.vm.findClass RX13 = some m.cls := hown
  have hl : lv_has ls 6 [(0, .ref (q_this 0)), (1, .int a1), (2, .int a2), (3, .int a3), (4, .int a4), (5, .int a5)] := hl
  have hUX13 : ∀ w ∈ u_ws RX13 TX13 48, w.before [.ref (q_this 0), .int a1, .int a2, .int a3, .int a4, .int a5].toArray s = true := fun w h => hts w (List.mem_cons_of_mem _ (List.mem_append_right _ h))
  have hB38 : ∀ (o_this : os_T) (x1 : Int32) (x2 : Int32) (x3 : Int32) (x4 : Int32) (x5 : Int32) (t0 : Int32) (H : Heap) (locs : List Loc) (ls : Array Slot), va_P D vwCl (ce_X13 kA q_this o_this) H → va_D A (ce_X13 kA q_this o_this) → va_S A s.heap H locs → lv_has ls 6 [(0, .ref (q_this 0)), (1, .int x1), (2, .int x2), (3, .int x3), (4, .int x4), (5, .int x5)] → ff_X13_fill_b38 N o_this x1 x2 x3 x4 x5 t0 = some out → W p l e ({ frames := 3, cells := 0, slots := 0, locals := 71 } : Room) s m [.ref (q_this 0), .int a1, .int a2, .int a3, .int a4, .int a5].toArray below meth c H locs 0 0 (MQ below (mc_Q D kA A (some (.int out.1)) (ce_X13 kA q_this out.2)) [.ref (q_this 0), .int a1, .int a2, .int a3, .int a4, .int a5].toArray s 0 0 A) (F0 m 38 ls [.int t0, .ref (q_this 0)]) := by
    intro o_this x1 x2 x3 x4 x5 t0 H locs ls hP hD hS hl hf
    unfold ff_X13_fill_b38 at hf
    refine va_put (D := D) (ci := 9) (v := .int t0) (ty := .int) (C := RX13) (T := TX13) (N := 48) hx hb hUX13 (fun _ h9 => h9) tyX13 tyX13_ok nmX13 hown hK hP hD hS 0 rfl rfl 0 (by decide) (hts (Cond.fieldLink RX13 93 "ReliefBuilderModel" "code" "I") (List.mem_of_getElem? (i := 1) rfl)) (fun _ h9 => h9) rfl (tyX13_ok 0 (by decide)) rfl rfl (Nat.le_of_ble_eq_true rfl) dX13_fill_38 (fun H locs hP hD hS => ?_)
    have hP : va_P D vwCl (ce_X13 kA q_this (ss_I o_this 0 t0)) H := hP
    have hD : va_D A (ce_X13 kA q_this (ss_I o_this 0 t0)) := hD
    refine lv_aload_n hx hb dX13_fill_41 rfl (lv_at hl 0 rfl) ?_
    refine va_get (D := D) (ci := 9) (v := .int t0) (C := RX13) (T := TX13) (N := 48) hx hb hUX13 (fun _ h9 => h9) hown hK hP 0 rfl rfl 0 (by decide) (hts (Cond.fieldLink RX13 93 "ReliefBuilderModel" "code" "I") (List.mem_of_getElem? (i := 1) rfl)) (fun _ h9 => h9) rfl dX13_fill_42 ?_
    refine lv_if_le (tgt := 50) hx hb dX13_fill_45 (by decide) (fun hc_9 => ?_) (fun hc_9 => ?_)
    · rw [if_pos hc_9] at hf
      refine lv_aload_n hx hb dX13_fill_50 rfl (lv_at hl 0 rfl) ?_
      obtain ⟨u_10, he_11, hf⟩ := os_bd hf
      refine mc_callV ⟨hx, hb, hml, hown, hts⟩ (mm_X13_laysAside l D kA N q_this (ss_I o_this 0 t0) u_10 he_11) (cwV 0 hts gX13_fill_X13_laysAside rfl rfl rfl (by decide +kernel) ⟨Nat.le_of_ble_eq_true rfl, Nat.le_of_ble_eq_true rfl⟩) (wc := (ce_X13 kA q_this (ss_I o_this 0 t0))) (ci := 9) (q0 := 0) rfl rfl rfl hl.1 (As := []) (rest := []) rfl (Nat.le_of_ble_eq_true rfl) dX13_fill_51 ⟨Nat.le_of_ble_eq_true rfl, Nat.le_of_ble_eq_true rfl⟩ hK hP hD hS hA [0, 1, 2, 3, 4, 5, 6, 7, 8, 9, 10, 11, 12, 13, 14, 15, 16, 17, 18, 19, 20, 21, 22, 23] [] [0, 1, 2, 3, 4, 5, 6, 7, 8, 9, 10, 11, 12, 13, 14, 15, 16, 17, 18, 19, 20, 21, 22, 23] rfl (by decide) rfl (by decide) (by decide) rfl (by decide) (wr := []) (w2 := (ce_X13 kA q_this u_10)) (fun H locs hP hD hS => ?_)
      have hP : va_P D vwCl (ce_X13 kA q_this u_10) H := hP
      refine lv_aload_n hx hb dX13_fill_54 rfl (lv_at hl 0 rfl) ?_
      refine lv_iload_n hx hb dX13_fill_55 rfl (lv_at hl 1 rfl) ?_
      refine lv_iload_n hx hb dX13_fill_56 rfl (lv_at hl 2 rfl) ?_
      refine lv_iload_n hx hb dX13_fill_57 rfl (lv_at hl 3 rfl) ?_
      refine lv_iload hx hb dX13_fill_58 (lv_at hl 4 rfl) ?_
      refine lv_iload hx hb dX13_fill_60 (lv_at hl 5 rfl) ?_
      obtain ⟨u_12, he_13, hf⟩ := os_bd hf
      refine mc_callV ⟨hx, hb, hml, hown, hts⟩ (mm_X13_fills l D kA N q_this u_10 x1 x2 x3 x4 x5 u_12 he_13) (cwV 5 hts gX13_fill_X13_fills rfl rfl rfl (by decide +kernel) ⟨Nat.le_of_ble_eq_true rfl, Nat.le_of_ble_eq_true rfl⟩) (wc := (ce_X13 kA q_this u_10)) (ci := 9) (q0 := 0) rfl rfl rfl hl.1 (As := [.int x1, .int x2, .int x3, .int x4, .int x5]) (rest := []) rfl (Nat.le_of_ble_eq_true rfl) dX13_fill_62 ⟨Nat.le_of_ble_eq_true rfl, Nat.le_of_ble_eq_true rfl⟩ hK hP hD hS hA [0, 1, 2, 3, 4, 5, 6, 7, 8, 9, 10, 11, 12, 13, 14, 15, 16, 17, 18, 19, 20, 21, 22, 23] [] [0, 1, 2, 3, 4, 5, 6, 7, 8, 9, 10, 11, 12, 13, 14, 15, 16, 17, 18, 19, 20, 21, 22, 23] rfl (by decide) rfl (by decide) (by decide) rfl (by decide) (wr := []) (w2 := (ce_X13 kA q_this u_12)) (fun H locs hP hD hS => ?_)
      have hP : va_P D vwCl (ce_X13 kA q_this u_12) H := hP
      refine lv_aload_n hx hb dX13_fill_65 rfl (lv_at hl 0 rfl) ?_
      obtain ⟨u_14, he_15, hf⟩ := os_bd hf
      refine mc_callV ⟨hx, hb, hml, hown, hts⟩ (mm_X13_keeps l D kA N q_this u_12 u_14 he_15) (cwV 0 hts gX13_fill_X13_keeps rfl rfl rfl (by decide +kernel) ⟨Nat.le_of_ble_eq_true rfl, Nat.le_of_ble_eq_true rfl⟩) (wc := (ce_X13 kA q_this u_12)) (ci := 9) (q0 := 0) rfl rfl rfl hl.1 (As := []) (rest := []) rfl (Nat.le_of_ble_eq_true rfl) dX13_fill_66 ⟨Nat.le_of_ble_eq_true rfl, Nat.le_of_ble_eq_true rfl⟩ hK hP hD hS hA [0, 1, 2, 3, 4, 5, 6, 7, 8, 9, 10, 11, 12, 13, 14, 15, 16, 17, 18, 19, 20, 21, 22, 23] [] [0, 1, 2, 3, 4, 5, 6, 7, 8, 9, 10, 11, 12, 13, 14, 15, 16, 17, 18, 19, 20, 21, 22, 23] rfl (by decide) rfl (by decide) (by decide) rfl (by decide) (wr := []) (w2 := (ce_X13 kA q_this u_14.2)) (fun H locs hP hD hS => ?_)
      have hP : va_P D vwCl (ce_X13 kA q_this u_14.2) H := hP
      rw [← Option.some.inj hf]
      exact mc_reti hx hb hr hlk hP hK hD hS dX13_fill_69
    · rw [if_neg hc_9] at hf
      refine lv_iconst (v := 0) hx hb dX13_fill_48 (by decide) ?_
      rw [← Option.some.inj hf]
      exact mc_reti hx hb hr hlk hP hK hD hS dX13_fill_49
  have hB33 : ∀ (o_this : os_T) (x1 : Int32) (x2 : Int32) (x3 : Int32) (x4 : Int32) (x5 : Int32) (t0 : Int32) (H : Heap) (locs : List Loc) (ls : Array Slot), va_P D vwCl (ce_X13 kA q_this o_this) H → va_D A (ce_X13 kA q_this o_this) → va_S A s.heap H locs → lv_has ls 6 [(0, .ref (q_this 0)), (1, .int x1), (2, .int x2), (3, .int x3), (4, .int x4), (5, .int x5)] → ff_X13_fill_b33 N o_this x1 x2 x3 x4 x5 t0 = some out → W p l e ({ frames := 3, cells := 0, slots := 0, locals := 71 } : Room) s m [.ref (q_this 0), .int a1, .int a2, .int a3, .int a4, .int a5].toArray below meth c H locs 0 0 (MQ below (mc_Q D kA A (some (.int out.1)) (ce_X13 kA q_this out.2)) [.ref (q_this 0), .int a1, .int a2, .int a3, .int a4, .int a5].toArray s 0 0 A) (F0 m 33 ls [.int t0, .ref (q_this 0)]) := by
    intro o_this x1 x2 x3 x4 x5 t0 H locs ls hP hD hS hl hf
    unfold ff_X13_fill_b33 at hf
    obtain ⟨u_7, he_8, hf⟩ := os_bd hf
    refine mc_callS ⟨hx, hb, hml, hown, hts⟩ (mm_X13_truth l D kA N t0 u_7 he_8) (va_cwS 1 hts gX13_fill_X13_truth rfl rfl rfl (by decide +kernel) ⟨Nat.le_of_ble_eq_true rfl, Nat.le_of_ble_eq_true rfl⟩) (wc := []) rfl hl.1 (As := [.int t0]) (rest := [.ref (q_this 0)]) rfl (Nat.le_of_ble_eq_true rfl) dX13_fill_33 ⟨Nat.le_of_ble_eq_true rfl, Nat.le_of_ble_eq_true rfl⟩ hK hP hD hS hA [] [0, 1, 2, 3, 4, 5, 6, 7, 8, 9, 10, 11, 12, 13, 14, 15, 16, 17, 18, 19, 20, 21, 22, 23] [0, 1, 2, 3, 4, 5, 6, 7, 8, 9, 10, 11, 12, 13, 14, 15, 16, 17, 18, 19, 20, 21, 22, 23] rfl (by decide) rfl (by decide) (by decide) rfl (by decide) (wr := (ce_X13 kA q_this o_this)) (w2 := (ce_X13 kA q_this o_this)) (fun H locs hP hD hS => ?_)
    have hP : va_P D vwCl (ce_X13 kA q_this o_this) H := hP
    refine lv_iconst (v := 2) hx hb dX13_fill_36 (by decide) ?_
    refine lv_imul hx hb dX13_fill_37 ?_
    exact hB38 o_this x1 x2 x3 x4 x5 (u_7 * (2 : Int32)) _ _ _ hP hD hS (lv_sub hl [0, 1, 2, 3, 4, 5] rfl) hf
  unfold ff_X13_fill at hf
  refine lv_aload_n hx hb dX13_fill_0 rfl (lv_at hl 0 rfl) ?_
  refine lv_aload_n hx hb dX13_fill_1 rfl (lv_at hl 0 rfl) ?_
  refine lv_iload_n hx hb dX13_fill_2 rfl (lv_at hl 1 rfl) ?_
  refine lv_iload_n hx hb dX13_fill_3 rfl (lv_at hl 2 rfl) ?_
  obtain ⟨u_1, he_2, hf⟩ := os_bd hf
  refine mc_callV ⟨hx, hb, hml, hown, hts⟩ (mm_X13_isCell l D kA N q_this o_this a1 a2 u_1 he_2) (cwV 2 hts gX13_fill_X13_isCell rfl rfl rfl (by decide +kernel) ⟨Nat.le_of_ble_eq_true rfl, Nat.le_of_ble_eq_true rfl⟩) (wc := (ce_X13 kA q_this o_this)) (ci := 9) (q0 := 0) rfl rfl rfl hl.1 (As := [.int a1, .int a2]) (rest := [.ref (q_this 0)]) rfl (Nat.le_of_ble_eq_true rfl) dX13_fill_4 ⟨Nat.le_of_ble_eq_true rfl, Nat.le_of_ble_eq_true rfl⟩ hK hP hD hS hA [0, 1, 2, 3, 4, 5, 6, 7, 8, 9, 10, 11, 12, 13, 14, 15, 16, 17, 18, 19, 20, 21, 22, 23] [] [0, 1, 2, 3, 4, 5, 6, 7, 8, 9, 10, 11, 12, 13, 14, 15, 16, 17, 18, 19, 20, 21, 22, 23] rfl (by decide) rfl (by decide) (by decide) rfl (by decide) (wr := []) (w2 := (ce_X13 kA q_this o_this)) (fun H locs hP hD hS => ?_)
  have hP : va_P D vwCl (ce_X13 kA q_this o_this) H := hP
  refine lv_if_ne (tgt := 14) hx hb dX13_fill_7 (by decide) (fun hc_3 => ?_) (fun hc_3 => ?_)
  · rw [if_neg hc_3] at hf
    refine lv_aload_n hx hb dX13_fill_14 rfl (lv_at hl 0 rfl) ?_
    refine lv_iload_n hx hb dX13_fill_15 rfl (lv_at hl 1 rfl) ?_
    refine lv_iload_n hx hb dX13_fill_16 rfl (lv_at hl 2 rfl) ?_
    refine lv_iload_n hx hb dX13_fill_17 rfl (lv_at hl 3 rfl) ?_
    refine lv_iload hx hb dX13_fill_18 (lv_at hl 4 rfl) ?_
    refine lv_iload hx hb dX13_fill_20 (lv_at hl 5 rfl) ?_
    obtain ⟨u_4, he_5, hf⟩ := os_bd hf
    refine mc_callV ⟨hx, hb, hml, hown, hts⟩ (mm_X13_fits l D kA N q_this o_this a1 a2 a3 a4 a5 u_4 he_5) (cwV 5 hts gX13_fill_X13_fits rfl rfl rfl (by decide +kernel) ⟨Nat.le_of_ble_eq_true rfl, Nat.le_of_ble_eq_true rfl⟩) (wc := (ce_X13 kA q_this o_this)) (ci := 9) (q0 := 0) rfl rfl rfl hl.1 (As := [.int a1, .int a2, .int a3, .int a4, .int a5]) (rest := [.ref (q_this 0)]) rfl (Nat.le_of_ble_eq_true rfl) dX13_fill_22 ⟨Nat.le_of_ble_eq_true rfl, Nat.le_of_ble_eq_true rfl⟩ hK hP hD hS hA [0, 1, 2, 3, 4, 5, 6, 7, 8, 9, 10, 11, 12, 13, 14, 15, 16, 17, 18, 19, 20, 21, 22, 23] [] [0, 1, 2, 3, 4, 5, 6, 7, 8, 9, 10, 11, 12, 13, 14, 15, 16, 17, 18, 19, 20, 21, 22, 23] rfl (by decide) rfl (by decide) (by decide) rfl (by decide) (wr := []) (w2 := (ce_X13 kA q_this o_this)) (fun H locs hP hD hS => ?_)
    have hP : va_P D vwCl (ce_X13 kA q_this o_this) H := hP
    refine lv_if_ne (tgt := 32) hx hb dX13_fill_25 (by decide) (fun hc_6 => ?_) (fun hc_6 => ?_)
    · rw [if_neg hc_6] at hf
      refine lv_iconst (v := 0) hx hb dX13_fill_32 (by decide) ?_
      exact hB33 o_this a1 a2 a3 a4 a5 (0 : Int32) _ _ _ hP hD hS (lv_sub hl [0, 1, 2, 3, 4, 5] rfl) hf
    · rw [if_pos hc_6] at hf
      refine lv_iconst (v := 1) hx hb dX13_fill_28 (by decide) ?_
      refine lv_goto (tgt := 33) hx hb dX13_fill_29 (by decide) ?_
      exact hB33 o_this a1 a2 a3 a4 a5 (1 : Int32) _ _ _ hP hD hS (lv_sub hl [0, 1, 2, 3, 4, 5] rfl) hf
  · rw [if_pos hc_3] at hf
    refine lv_iconst (v := 1) hx hb dX13_fill_10 (by decide) ?_
    refine lv_goto (tgt := 38) hx hb dX13_fill_11 (by decide) ?_
    exact hB38 o_this a1 a2 a3 a4 a5 (1 : Int32) _ _ _ hP hD hS (lv_sub hl [0, 1, 2, 3, 4, 5] rfl) hf
def ff_X13_repair (N : Nat) (o_this : os_T) : Option (Int32 × os_T) :=
  ((ff_X13_laysAside N (ss_I o_this 0 (0 : Int32))).bind fun u_1 => ((ff_X13_repairs N u_1).bind fun u_3 => ((ff_X13_keeps N u_3.2).bind fun u_5 => some (u_3.1, u_5.2))))
set_option maxHeartbeats 4000000 in
set_option maxRecDepth 100000 in
theorem mm_X13_repair (l : Launch) (D : va_G) (kA : Nat → ClassId) (N : Nat) (q_this : Nat → Nat) (o_this : os_T) (out : (Int32 × os_T)) (hf : ff_X13_repair N o_this = some out) : mc_C l D kA yX13_repair wsX13_repair ({ frames := 7, cells := 0, slots := 0, locals := 164 } : Room) [.ref (q_this 0)] (ce_X13 kA q_this o_this) (some (.int out.1)) (ce_X13 kA q_this out.2) := by
  refine mc_of (cc := cX13_repair) (maxL := 3) (ret := (some .int)) (by decide) rfl (Nat.le_of_ble_eq_true rfl) ?_
  intro p e s m below meth c A B hD hP hS ls hl
  obtain ⟨hx, hb, hr, hlk, hml, hown, hts, hK, hA, hnm⟩ := B
  have hown : s.vm.findClass RX13 = some m.cls := hown
  have hl : lv_has ls 3 [(0, .ref (q_this 0))] := hl
  have hUX13 : ∀ w ∈ u_ws RX13 TX13 48, w.before [.ref (q_this 0)].toArray s = true := fun w h => hts w (List.mem_cons_of_mem _ (List.mem_append_right _ h))
  unfold ff_X13_repair at hf
  refine lv_aload_n hx hb dX13_repair_0 rfl (lv_at hl 0 rfl) ?_
  refine lv_iconst (v := 0) hx hb dX13_repair_1 (by decide) ?_
  refine va_put (D := D) (ci := 9) (v := .int (0 : Int32)) (ty := .int) (C := RX13) (T := TX13) (N := 48) hx hb hUX13 (fun _ h9 => h9) tyX13 tyX13_ok nmX13 hown hK hP hD hS 0 rfl rfl 0 (by decide) (hts (Cond.fieldLink RX13 93 "ReliefBuilderModel" "code" "I") (List.mem_of_getElem? (i := 1) rfl)) (fun _ h9 => h9) rfl (tyX13_ok 0 (by decide)) rfl rfl (Nat.le_of_ble_eq_true rfl) dX13_repair_2 (fun H locs hP hD hS => ?_)
  have hP : va_P D vwCl (ce_X13 kA q_this (ss_I o_this 0 (0 : Int32))) H := hP
  have hD : va_D A (ce_X13 kA q_this (ss_I o_this 0 (0 : Int32))) := hD
  refine lv_aload_n hx hb dX13_repair_5 rfl (lv_at hl 0 rfl) ?_
  obtain ⟨u_1, he_2, hf⟩ := os_bd hf
  refine mc_callV ⟨hx, hb, hml, hown, hts⟩ (mm_X13_laysAside l D kA N q_this (ss_I o_this 0 (0 : Int32)) u_1 he_2) (cwV 0 hts gX13_repair_X13_laysAside rfl rfl rfl (by decide +kernel) ⟨Nat.le_of_ble_eq_true rfl, Nat.le_of_ble_eq_true rfl⟩) (wc := (ce_X13 kA q_this (ss_I o_this 0 (0 : Int32)))) (ci := 9) (q0 := 0) rfl rfl rfl hl.1 (As := []) (rest := []) rfl (Nat.le_of_ble_eq_true rfl) dX13_repair_6 ⟨Nat.le_of_ble_eq_true rfl, Nat.le_of_ble_eq_true rfl⟩ hK hP hD hS hA [0, 1, 2, 3, 4, 5, 6, 7, 8, 9, 10, 11, 12, 13, 14, 15, 16, 17, 18, 19, 20, 21, 22, 23] [] [0, 1, 2, 3, 4, 5, 6, 7, 8, 9, 10, 11, 12, 13, 14, 15, 16, 17, 18, 19, 20, 21, 22, 23] rfl (by decide) rfl (by decide) (by decide) rfl (by decide) (wr := []) (w2 := (ce_X13 kA q_this u_1)) (fun H locs hP hD hS => ?_)
  have hP : va_P D vwCl (ce_X13 kA q_this u_1) H := hP
  refine lv_aload_n hx hb dX13_repair_9 rfl (lv_at hl 0 rfl) ?_
  obtain ⟨u_3, he_4, hf⟩ := os_bd hf
  refine mc_callV ⟨hx, hb, hml, hown, hts⟩ (mm_X13_repairs l D kA N q_this u_1 u_3 he_4) (cwV 0 hts gX13_repair_X13_repairs rfl rfl rfl (by decide +kernel) ⟨Nat.le_of_ble_eq_true rfl, Nat.le_of_ble_eq_true rfl⟩) (wc := (ce_X13 kA q_this u_1)) (ci := 9) (q0 := 0) rfl rfl rfl hl.1 (As := []) (rest := []) rfl (Nat.le_of_ble_eq_true rfl) dX13_repair_10 ⟨Nat.le_of_ble_eq_true rfl, Nat.le_of_ble_eq_true rfl⟩ hK hP hD hS hA [0, 1, 2, 3, 4, 5, 6, 7, 8, 9, 10, 11, 12, 13, 14, 15, 16, 17, 18, 19, 20, 21, 22, 23] [] [0, 1, 2, 3, 4, 5, 6, 7, 8, 9, 10, 11, 12, 13, 14, 15, 16, 17, 18, 19, 20, 21, 22, 23] rfl (by decide) rfl (by decide) (by decide) rfl (by decide) (wr := []) (w2 := (ce_X13 kA q_this u_3.2)) (fun H locs hP hD hS => ?_)
  have hP : va_P D vwCl (ce_X13 kA q_this u_3.2) H := hP
  refine lv_istore_n (lv' := [(1, .int u_3.1), (0, .ref (q_this 0))]) hx hb dX13_repair_13 rfl hl (by decide) rfl (fun ls hl => ?_)
  refine lv_aload_n hx hb dX13_repair_14 rfl (lv_at hl 1 rfl) ?_
  obtain ⟨u_5, he_6, hf⟩ := os_bd hf
  refine mc_callV ⟨hx, hb, hml, hown, hts⟩ (mm_X13_keeps l D kA N q_this u_3.2 u_5 he_6) (cwV 0 hts gX13_repair_X13_keeps rfl rfl rfl (by decide +kernel) ⟨Nat.le_of_ble_eq_true rfl, Nat.le_of_ble_eq_true rfl⟩) (wc := (ce_X13 kA q_this u_3.2)) (ci := 9) (q0 := 0) rfl rfl rfl hl.1 (As := []) (rest := []) rfl (Nat.le_of_ble_eq_true rfl) dX13_repair_15 ⟨Nat.le_of_ble_eq_true rfl, Nat.le_of_ble_eq_true rfl⟩ hK hP hD hS hA [0, 1, 2, 3, 4, 5, 6, 7, 8, 9, 10, 11, 12, 13, 14, 15, 16, 17, 18, 19, 20, 21, 22, 23] [] [0, 1, 2, 3, 4, 5, 6, 7, 8, 9, 10, 11, 12, 13, 14, 15, 16, 17, 18, 19, 20, 21, 22, 23] rfl (by decide) rfl (by decide) (by decide) rfl (by decide) (wr := []) (w2 := (ce_X13 kA q_this u_5.2)) (fun H locs hP hD hS => ?_)
  have hP : va_P D vwCl (ce_X13 kA q_this u_5.2) H := hP
  refine lv_istore_n (lv' := [(2, .int u_5.1), (1, .int u_3.1), (0, .ref (q_this 0))]) hx hb dX13_repair_18 rfl hl (by decide) rfl (fun ls hl => ?_)
  refine lv_iload_n hx hb dX13_repair_19 rfl (lv_at hl 1 rfl) ?_
  rw [← Option.some.inj hf]
  exact mc_reti hx hb hr hlk hP hK hD hS dX13_repair_20
def ff_X13_flatAt_c16 (N : Nat) (o_this : os_T) (k16 : (Int32 × Int32 × Int32 × Int32 × Int32) → Option Int32) (x1 : Int32) (x2 : Int32) (x3 : Int32) (x4 : Int32) (x5 : Int32) : Option Int32 :=
  ((ff_X13_cellMany N o_this).bind fun u_2 => (if u_2 ≤ x5 then some x4 else ((ff_X13_cellAt N o_this x5).bind fun u_5 => (if os_in u_5 192 then (if os_in (0 : Int32) 7 then (if ¬ ((os_A o_this 1) (Int32.toNatClampNeg (0 : Int32))) = 0 then ((ff_X13_far N ((x5 - x5 / ((os_A o_this 1) (Int32.toNatClampNeg (0 : Int32))) * ((os_A o_this 1) (Int32.toNatClampNeg (0 : Int32)))) - x1)).bind fun u_10 => (if os_in (0 : Int32) 7 then (if ¬ ((os_A o_this 1) (Int32.toNatClampNeg (0 : Int32))) = 0 then ((ff_X13_far N ((x5 / ((os_A o_this 1) (Int32.toNatClampNeg (0 : Int32)))) - x2)).bind fun u_14 => ((ff_X13_more N x4 (((os_A o_this 4) (Int32.toNatClampNeg u_5)) - (x3 * (u_10 + u_14)))).bind fun u_16 => k16 (x1, x2, x3, u_16, x5 + 1))) else none) else none)) else none) else none) else none))))
def ff_X13_flatAt_l16 (N : Nat) (o_this : os_T) : Nat → (Int32 × Int32 × Int32 × Int32 × Int32) → Option Int32 := os_loop (fun k16 s1 => ff_X13_flatAt_c16 N o_this k16 s1.1 s1.2.1 s1.2.2.1 s1.2.2.2.1 s1.2.2.2.2)
def ff_X13_flatAt (N : Nat) (o_this : os_T) (a1 : Int32) (a2 : Int32) (a3 : Int32) : Option Int32 :=
  (if os_in (((16 : Int32) * a2) + a1) 192 then ff_X13_flatAt_l16 N o_this N (a1, a2, a3, (os_A o_this 4) (Int32.toNatClampNeg (((16 : Int32) * a2) + a1)), (0 : Int32)) else none)
set_option maxHeartbeats 4000000 in
set_option maxRecDepth 100000 in
theorem mm_X13_flatAt (l : Launch) (D : va_G) (kA : Nat → ClassId) (N : Nat) (q_this : Nat → Nat) (o_this : os_T) (a1 : Int32) (a2 : Int32) (a3 : Int32) (out : Int32) (hf : ff_X13_flatAt N o_this a1 a2 a3 = some out) : mc_C l D kA yX13_flatAt wsX13_flatAt ({ frames := 1, cells := 0, slots := 0, locals := 21 } : Room) [.ref (q_this 0), .int a1, .int a2, .int a3] (ce_X13 kA q_this o_this) (some (.int out)) (ce_X13 kA q_this o_this) := by
  refine mc_of (cc := cX13_flatAt) (maxL := 6) (ret := (some .int)) (by decide) rfl (Nat.le_of_ble_eq_true rfl) ?_
  intro p e s m below meth c A B hD hP hS ls hl
  obtain ⟨hx, hb, hr, hlk, hml, hown, hts, hK, hA, hnm⟩ := B
  have hown : s.vm.findClass RX13 = some m.cls := hown
  have hl : lv_has ls 6 [(0, .ref (q_this 0)), (1, .int a1), (2, .int a2), (3, .int a3)] := hl
  have hUX13 : ∀ w ∈ u_ws RX13 TX13 48, w.before [.ref (q_this 0), .int a1, .int a2, .int a3].toArray s = true := fun w h => hts w (List.mem_cons_of_mem _ (List.mem_append_right _ h))
  have hL16 : ∀ (n : Nat) (x1 : Int32) (x2 : Int32) (x3 : Int32) (x4 : Int32) (x5 : Int32) (H : Heap) (locs : List Loc) (ls : Array Slot), va_P D vwCl (ce_X13 kA q_this o_this) H → va_D A (ce_X13 kA q_this o_this) → va_S A s.heap H locs → lv_has ls 6 [(0, .ref (q_this 0)), (1, .int x1), (2, .int x2), (3, .int x3), (4, .int x4), (5, .int x5)] → ff_X13_flatAt_l16 N o_this n (x1, x2, x3, x4, x5) = some out → W p l e ({ frames := 1, cells := 0, slots := 0, locals := 21 } : Room) s m [.ref (q_this 0), .int a1, .int a2, .int a3].toArray below meth c H locs 0 0 (MQ below (mc_Q D kA A (some (.int out)) (ce_X13 kA q_this o_this)) [.ref (q_this 0), .int a1, .int a2, .int a3].toArray s 0 0 A) (F0 m 16 ls []) := by
    intro n
    induction n with
    | zero => intro x1 x2 x3 x4 x5 H locs ls _ _ _ _ hf; cases hf
    | succ n hk16 =>
      intro x1 x2 x3 x4 x5 H locs ls hP hD hS hl hf
      have hf : ff_X13_flatAt_c16 N o_this (ff_X13_flatAt_l16 N o_this n) x1 x2 x3 x4 x5 = some out := hf
      generalize hke : ff_X13_flatAt_l16 N o_this n = k16 at hk16 hf
      unfold ff_X13_flatAt_c16 at hf
      refine lv_iload hx hb dX13_flatAt_16 (lv_at hl 5 rfl) ?_
      refine lv_aload_n hx hb dX13_flatAt_18 rfl (lv_at hl 0 rfl) ?_
      obtain ⟨u_2, he_3, hf⟩ := os_bd hf
      refine mc_callV ⟨hx, hb, hml, hown, hts⟩ (mm_X13_cellMany l D kA N q_this o_this u_2 he_3) (cwV 0 hts gX13_flatAt_X13_cellMany rfl rfl rfl (by decide +kernel) ⟨Nat.le_of_ble_eq_true rfl, Nat.le_of_ble_eq_true rfl⟩) (wc := (ce_X13 kA q_this o_this)) (ci := 9) (q0 := 0) rfl rfl rfl hl.1 (As := []) (rest := [.int x5]) rfl (Nat.le_of_ble_eq_true rfl) dX13_flatAt_19 ⟨Nat.le_of_ble_eq_true rfl, Nat.le_of_ble_eq_true rfl⟩ hK hP hD hS hA [0, 1, 2, 3, 4, 5, 6, 7, 8, 9, 10, 11, 12, 13, 14, 15, 16, 17, 18, 19, 20, 21, 22, 23] [] [0, 1, 2, 3, 4, 5, 6, 7, 8, 9, 10, 11, 12, 13, 14, 15, 16, 17, 18, 19, 20, 21, 22, 23] rfl (by decide) rfl (by decide) (by decide) rfl (by decide) (wr := []) (w2 := (ce_X13 kA q_this o_this)) (fun H locs hP hD hS => ?_)
      have hP : va_P D vwCl (ce_X13 kA q_this o_this) H := hP
      refine lv_icmp_ge (tgt := 81) hx hb dX13_flatAt_22 (by decide) (fun hc_4 => ?_) (fun hc_4 => ?_)
      · rw [if_pos hc_4] at hf
        refine lv_iload hx hb dX13_flatAt_81 (lv_at hl 4 rfl) ?_
        rw [← Option.some.inj hf]
        exact mc_reti hx hb hr hlk hP hK hD hS dX13_flatAt_83
      · rw [if_neg hc_4] at hf
        refine lv_iload hx hb dX13_flatAt_25 (lv_at hl 4 rfl) ?_
        refine lv_aload_n hx hb dX13_flatAt_27 rfl (lv_at hl 0 rfl) ?_
        refine va_get (D := D) (ci := 9) (v := .ref (q_this 5)) (C := RX13) (T := TX13) (N := 48) hx hb hUX13 (fun _ h9 => h9) hown hK hP 0 rfl rfl 16 (by decide) (hts (Cond.fieldLink RX13 29 "ReliefBuilderModel" "heights" "[I") (List.mem_of_getElem? (i := 1) rfl)) (fun _ h9 => h9) rfl dX13_flatAt_28 ?_
        refine lv_aload_n hx hb dX13_flatAt_31 rfl (lv_at hl 0 rfl) ?_
        refine lv_iload hx hb dX13_flatAt_32 (lv_at hl 5 rfl) ?_
        obtain ⟨u_5, he_6, hf⟩ := os_bd hf
        refine mc_callV ⟨hx, hb, hml, hown, hts⟩ (mm_X13_cellAt l D kA N q_this o_this x5 u_5 he_6) (cwV 1 hts gX13_flatAt_X13_cellAt rfl rfl rfl (by decide +kernel) ⟨Nat.le_of_ble_eq_true rfl, Nat.le_of_ble_eq_true rfl⟩) (wc := (ce_X13 kA q_this o_this)) (ci := 9) (q0 := 0) rfl rfl rfl hl.1 (As := [.int x5]) (rest := [.ref (q_this 5), .int x4]) rfl (Nat.le_of_ble_eq_true rfl) dX13_flatAt_34 ⟨Nat.le_of_ble_eq_true rfl, Nat.le_of_ble_eq_true rfl⟩ hK hP hD hS hA [0, 1, 2, 3, 4, 5, 6, 7, 8, 9, 10, 11, 12, 13, 14, 15, 16, 17, 18, 19, 20, 21, 22, 23] [] [0, 1, 2, 3, 4, 5, 6, 7, 8, 9, 10, 11, 12, 13, 14, 15, 16, 17, 18, 19, 20, 21, 22, 23] rfl (by decide) rfl (by decide) (by decide) rfl (by decide) (wr := []) (w2 := (ce_X13 kA q_this o_this)) (fun H locs hP hD hS => ?_)
        have hP : va_P D vwCl (ce_X13 kA q_this o_this) H := hP
        obtain ⟨hi_7, hf⟩ := os_if hf
        refine va_iald hx hb hK hP 5 0 rfl rfl hi_7 dX13_flatAt_37 ?_
        refine lv_iload_n hx hb dX13_flatAt_38 rfl (lv_at hl 3 rfl) ?_
        refine lv_iload hx hb dX13_flatAt_39 (lv_at hl 5 rfl) ?_
        refine lv_aload_n hx hb dX13_flatAt_41 rfl (lv_at hl 0 rfl) ?_
        refine va_get (D := D) (ci := 9) (v := .ref (q_this 2)) (C := RX13) (T := TX13) (N := 48) hx hb hUX13 (fun _ h9 => h9) hown hK hP 0 rfl rfl 13 (by decide) (hts (Cond.fieldLink RX13 20 "ReliefBuilderModel" "now" "[I") (List.mem_of_getElem? (i := 2) rfl)) (fun _ h9 => h9) rfl dX13_flatAt_42 ?_
        refine lv_iconst (v := 0) hx hb dX13_flatAt_45 (by decide) ?_
        obtain ⟨hi_8, hf⟩ := os_if hf
        refine va_iald hx hb hK hP 2 0 rfl rfl hi_8 dX13_flatAt_46 ?_
        obtain ⟨hz_9, hf⟩ := os_if hf
        refine lv_irem hx hb dX13_flatAt_47 hz_9 ?_
        refine lv_iload_n hx hb dX13_flatAt_48 rfl (lv_at hl 1 rfl) ?_
        refine lv_isub hx hb dX13_flatAt_49 ?_
        obtain ⟨u_10, he_11, hf⟩ := os_bd hf
        refine mc_callS ⟨hx, hb, hml, hown, hts⟩ (mm_X13_far l D kA N ((x5 - x5 / ((os_A o_this 1) (Int32.toNatClampNeg (0 : Int32))) * ((os_A o_this 1) (Int32.toNatClampNeg (0 : Int32)))) - x1) u_10 he_11) (va_cwS 1 hts gX13_flatAt_X13_far rfl rfl rfl (by decide +kernel) ⟨Nat.le_of_ble_eq_true rfl, Nat.le_of_ble_eq_true rfl⟩) (wc := []) rfl hl.1 (As := [.int ((x5 - x5 / ((os_A o_this 1) (Int32.toNatClampNeg (0 : Int32))) * ((os_A o_this 1) (Int32.toNatClampNeg (0 : Int32)))) - x1)]) (rest := [.int x3, .int ((os_A o_this 4) (Int32.toNatClampNeg u_5)), .int x4]) rfl (Nat.le_of_ble_eq_true rfl) dX13_flatAt_50 ⟨Nat.le_of_ble_eq_true rfl, Nat.le_of_ble_eq_true rfl⟩ hK hP hD hS hA [] [0, 1, 2, 3, 4, 5, 6, 7, 8, 9, 10, 11, 12, 13, 14, 15, 16, 17, 18, 19, 20, 21, 22, 23] [0, 1, 2, 3, 4, 5, 6, 7, 8, 9, 10, 11, 12, 13, 14, 15, 16, 17, 18, 19, 20, 21, 22, 23] rfl (by decide) rfl (by decide) (by decide) rfl (by decide) (wr := (ce_X13 kA q_this o_this)) (w2 := (ce_X13 kA q_this o_this)) (fun H locs hP hD hS => ?_)
        have hP : va_P D vwCl (ce_X13 kA q_this o_this) H := hP
        refine lv_iload hx hb dX13_flatAt_53 (lv_at hl 5 rfl) ?_
        refine lv_aload_n hx hb dX13_flatAt_55 rfl (lv_at hl 0 rfl) ?_
        refine va_get (D := D) (ci := 9) (v := .ref (q_this 2)) (C := RX13) (T := TX13) (N := 48) hx hb hUX13 (fun _ h9 => h9) hown hK hP 0 rfl rfl 13 (by decide) (hts (Cond.fieldLink RX13 20 "ReliefBuilderModel" "now" "[I") (List.mem_of_getElem? (i := 2) rfl)) (fun _ h9 => h9) rfl dX13_flatAt_56 ?_
        refine lv_iconst (v := 0) hx hb dX13_flatAt_59 (by decide) ?_
        obtain ⟨hi_12, hf⟩ := os_if hf
        refine va_iald hx hb hK hP 2 0 rfl rfl hi_12 dX13_flatAt_60 ?_
        obtain ⟨hz_13, hf⟩ := os_if hf
        refine lv_idiv hx hb dX13_flatAt_61 hz_13 ?_
        refine lv_iload_n hx hb dX13_flatAt_62 rfl (lv_at hl 2 rfl) ?_
        refine lv_isub hx hb dX13_flatAt_63 ?_
        obtain ⟨u_14, he_15, hf⟩ := os_bd hf
        refine mc_callS ⟨hx, hb, hml, hown, hts⟩ (mm_X13_far l D kA N ((x5 / ((os_A o_this 1) (Int32.toNatClampNeg (0 : Int32)))) - x2) u_14 he_15) (va_cwS 1 hts gX13_flatAt_X13_far rfl rfl rfl (by decide +kernel) ⟨Nat.le_of_ble_eq_true rfl, Nat.le_of_ble_eq_true rfl⟩) (wc := []) rfl hl.1 (As := [.int ((x5 / ((os_A o_this 1) (Int32.toNatClampNeg (0 : Int32)))) - x2)]) (rest := [.int u_10, .int x3, .int ((os_A o_this 4) (Int32.toNatClampNeg u_5)), .int x4]) rfl (Nat.le_of_ble_eq_true rfl) dX13_flatAt_64 ⟨Nat.le_of_ble_eq_true rfl, Nat.le_of_ble_eq_true rfl⟩ hK hP hD hS hA [] [0, 1, 2, 3, 4, 5, 6, 7, 8, 9, 10, 11, 12, 13, 14, 15, 16, 17, 18, 19, 20, 21, 22, 23] [0, 1, 2, 3, 4, 5, 6, 7, 8, 9, 10, 11, 12, 13, 14, 15, 16, 17, 18, 19, 20, 21, 22, 23] rfl (by decide) rfl (by decide) (by decide) rfl (by decide) (wr := (ce_X13 kA q_this o_this)) (w2 := (ce_X13 kA q_this o_this)) (fun H locs hP hD hS => ?_)
        have hP : va_P D vwCl (ce_X13 kA q_this o_this) H := hP
        refine lv_iadd hx hb dX13_flatAt_67 ?_
        refine lv_imul hx hb dX13_flatAt_68 ?_
        refine lv_isub hx hb dX13_flatAt_69 ?_
        obtain ⟨u_16, he_17, hf⟩ := os_bd hf
        refine mc_callS ⟨hx, hb, hml, hown, hts⟩ (mm_X13_more l D kA N x4 (((os_A o_this 4) (Int32.toNatClampNeg u_5)) - (x3 * (u_10 + u_14))) u_16 he_17) (va_cwS 2 hts gX13_flatAt_X13_more rfl rfl rfl (by decide +kernel) ⟨Nat.le_of_ble_eq_true rfl, Nat.le_of_ble_eq_true rfl⟩) (wc := []) rfl hl.1 (As := [.int x4, .int (((os_A o_this 4) (Int32.toNatClampNeg u_5)) - (x3 * (u_10 + u_14)))]) (rest := []) rfl (Nat.le_of_ble_eq_true rfl) dX13_flatAt_70 ⟨Nat.le_of_ble_eq_true rfl, Nat.le_of_ble_eq_true rfl⟩ hK hP hD hS hA [] [0, 1, 2, 3, 4, 5, 6, 7, 8, 9, 10, 11, 12, 13, 14, 15, 16, 17, 18, 19, 20, 21, 22, 23] [0, 1, 2, 3, 4, 5, 6, 7, 8, 9, 10, 11, 12, 13, 14, 15, 16, 17, 18, 19, 20, 21, 22, 23] rfl (by decide) rfl (by decide) (by decide) rfl (by decide) (wr := (ce_X13 kA q_this o_this)) (w2 := (ce_X13 kA q_this o_this)) (fun H locs hP hD hS => ?_)
        have hP : va_P D vwCl (ce_X13 kA q_this o_this) H := hP
        refine lv_istore (lv' := [(4, .int u_16), (0, .ref (q_this 0)), (1, .int x1), (2, .int x2), (3, .int x3), (5, .int x5)]) hx hb dX13_flatAt_73 hl (by decide) rfl (fun ls hl => ?_)
        refine lv_iinc (v := x5 + 1) (lv' := [(5, .int (x5 + 1)), (4, .int u_16), (0, .ref (q_this 0)), (1, .int x1), (2, .int x2), (3, .int x3)]) hx hb dX13_flatAt_75 hl (k := 5) rfl rfl (by decide) rfl (fun ls hl => ?_)
        refine lv_goto (tgt := 16) hx hb dX13_flatAt_78 (by decide) ?_
        exact hk16 x1 x2 x3 u_16 (x5 + 1) _ _ _ hP hD hS (lv_sub hl [2, 3, 4, 5, 1, 0] rfl) hf
  unfold ff_X13_flatAt at hf
  refine lv_aload_n hx hb dX13_flatAt_0 rfl (lv_at hl 0 rfl) ?_
  refine va_get (D := D) (ci := 9) (v := .ref (q_this 5)) (C := RX13) (T := TX13) (N := 48) hx hb hUX13 (fun _ h9 => h9) hown hK hP 0 rfl rfl 16 (by decide) (hts (Cond.fieldLink RX13 29 "ReliefBuilderModel" "heights" "[I") (List.mem_of_getElem? (i := 1) rfl)) (fun _ h9 => h9) rfl dX13_flatAt_1 ?_
  refine lv_bipush (v := 16) hx hb dX13_flatAt_4 (by decide) ?_
  refine lv_iload_n hx hb dX13_flatAt_6 rfl (lv_at hl 2 rfl) ?_
  refine lv_imul hx hb dX13_flatAt_7 ?_
  refine lv_iload_n hx hb dX13_flatAt_8 rfl (lv_at hl 1 rfl) ?_
  refine lv_iadd hx hb dX13_flatAt_9 ?_
  obtain ⟨hi_1, hf⟩ := os_if hf
  refine va_iald hx hb hK hP 5 0 rfl rfl hi_1 dX13_flatAt_10 ?_
  refine lv_istore (lv' := [(4, .int ((os_A o_this 4) (Int32.toNatClampNeg (((16 : Int32) * a2) + a1)))), (0, .ref (q_this 0)), (1, .int a1), (2, .int a2), (3, .int a3)]) hx hb dX13_flatAt_11 hl (by decide) rfl (fun ls hl => ?_)
  refine lv_iconst (v := 0) hx hb dX13_flatAt_13 (by decide) ?_
  refine lv_istore (lv' := [(5, .int (0 : Int32)), (4, .int ((os_A o_this 4) (Int32.toNatClampNeg (((16 : Int32) * a2) + a1)))), (0, .ref (q_this 0)), (1, .int a1), (2, .int a2), (3, .int a3)]) hx hb dX13_flatAt_14 hl (by decide) rfl (fun ls hl => ?_)
  exact hL16 N a1 a2 a3 ((os_A o_this 4) (Int32.toNatClampNeg (((16 : Int32) * a2) + a1))) (0 : Int32) _ _ _ hP hD hS (lv_sub hl [2, 3, 4, 5, 1, 0] rfl) hf
def ff_X13_smooths_c49 (N : Nat) (k49 : (os_T × Int32) → Option os_T) (o_this : os_T) (x2 : Int32) : Option os_T :=
  ((ff_X13_cellMany N o_this).bind fun u_13 => (if u_13 ≤ x2 then some o_this else ((ff_X13_cellAt N o_this x2).bind fun u_16 => ((ff_X13_cellAt N o_this x2).bind fun u_18 => (if os_in u_18 192 then (if os_in u_16 192 then k49 (ss_A o_this 4 (upd (os_A o_this 4) (Int32.toNatClampNeg u_16) ((os_A o_this 11) (Int32.toNatClampNeg u_18))), x2 + 1) else none) else none)))))
def ff_X13_smooths_l49 (N : Nat) : Nat → (os_T × Int32) → Option os_T := os_loop (fun k49 s1 => ff_X13_smooths_c49 N k49 s1.1 s1.2)
def ff_X13_smooths_c2 (N : Nat) (k2 : (os_T × Int32 × Int32) → Option os_T) (o_this : os_T) (x1 : Int32) (x2 : Int32) : Option os_T :=
  ((ff_X13_cellMany N o_this).bind fun u_1 => (if u_1 ≤ x2 then ff_X13_smooths_l49 N N (o_this, (0 : Int32)) else ((ff_X13_cellAt N o_this x2).bind fun u_4 => (if os_in (0 : Int32) 7 then (if ¬ ((os_A o_this 1) (Int32.toNatClampNeg (0 : Int32))) = 0 then (if os_in (0 : Int32) 7 then (if ¬ ((os_A o_this 1) (Int32.toNatClampNeg (0 : Int32))) = 0 then ((ff_X13_flatAt N o_this (x2 - x2 / ((os_A o_this 1) (Int32.toNatClampNeg (0 : Int32))) * ((os_A o_this 1) (Int32.toNatClampNeg (0 : Int32)))) (x2 / ((os_A o_this 1) (Int32.toNatClampNeg (0 : Int32)))) x1).bind fun u_10 => (if os_in u_4 192 then k2 (ss_A o_this 11 (upd (os_A o_this 11) (Int32.toNatClampNeg u_4) u_10), x1, x2 + 1) else none)) else none) else none) else none) else none))))
def ff_X13_smooths_l2 (N : Nat) : Nat → (os_T × Int32 × Int32) → Option os_T := os_loop (fun k2 s1 => ff_X13_smooths_c2 N k2 s1.1 s1.2.1 s1.2.2)
def ff_X13_smooths (N : Nat) (o_this : os_T) (a1 : Int32) : Option os_T :=
  ff_X13_smooths_l2 N N (o_this, a1, (0 : Int32))
set_option maxHeartbeats 4000000 in
set_option maxRecDepth 100000 in
theorem mm_X13_smooths (l : Launch) (D : va_G) (kA : Nat → ClassId) (N : Nat) (q_this : Nat → Nat) (o_this : os_T) (a1 : Int32) (out : os_T) (hf : ff_X13_smooths N o_this a1 = some out) : mc_C l D kA yX13_smooths wsX13_smooths ({ frames := 2, cells := 0, slots := 0, locals := 46 } : Room) [.ref (q_this 0), .int a1] (ce_X13 kA q_this o_this) none (ce_X13 kA q_this out) := by
  refine mc_of (cc := cX13_smooths) (maxL := 3) (ret := none) (by decide) rfl (Nat.le_of_ble_eq_true rfl) ?_
  intro p e s m below meth c A B hD hP hS ls hl
  obtain ⟨hx, hb, hr, hlk, hml, hown, hts, hK, hA, hnm⟩ := B
  have hown : s.vm.findClass RX13 = some m.cls := hown
  have hl : lv_has ls 3 [(0, .ref (q_this 0)), (1, .int a1)] := hl
  have hUX13 : ∀ w ∈ u_ws RX13 TX13 48, w.before [.ref (q_this 0), .int a1].toArray s = true := fun w h => hts w (List.mem_cons_of_mem _ (List.mem_append_right _ h))
  have hL49 : ∀ (n : Nat) (o_this : os_T) (x2 : Int32) (H : Heap) (locs : List Loc) (ls : Array Slot), va_P D vwCl (ce_X13 kA q_this o_this) H → va_D A (ce_X13 kA q_this o_this) → va_S A s.heap H locs → lv_has ls 3 [(0, .ref (q_this 0)), (2, .int x2)] → ff_X13_smooths_l49 N n (o_this, x2) = some out → W p l e ({ frames := 2, cells := 0, slots := 0, locals := 46 } : Room) s m [.ref (q_this 0), .int a1].toArray below meth c H locs 0 0 (MQ below (mc_Q D kA A none (ce_X13 kA q_this out)) [.ref (q_this 0), .int a1].toArray s 0 0 A) (F0 m 49 ls []) := by
    intro n
    induction n with
    | zero => intro o_this x2 H locs ls _ _ _ _ hf; cases hf
    | succ n hk49 =>
      intro o_this x2 H locs ls hP hD hS hl hf
      have hf : ff_X13_smooths_c49 N (ff_X13_smooths_l49 N n) o_this x2 = some out := hf
      generalize hke : ff_X13_smooths_l49 N n = k49 at hk49 hf
      unfold ff_X13_smooths_c49 at hf
      refine lv_iload_n hx hb dX13_smooths_49 rfl (lv_at hl 1 rfl) ?_
      refine lv_aload_n hx hb dX13_smooths_50 rfl (lv_at hl 0 rfl) ?_
      obtain ⟨u_13, he_14, hf⟩ := os_bd hf
      refine mc_callV ⟨hx, hb, hml, hown, hts⟩ (mm_X13_cellMany l D kA N q_this o_this u_13 he_14) (cwV 0 hts gX13_smooths_X13_cellMany rfl rfl rfl (by decide +kernel) ⟨Nat.le_of_ble_eq_true rfl, Nat.le_of_ble_eq_true rfl⟩) (wc := (ce_X13 kA q_this o_this)) (ci := 9) (q0 := 0) rfl rfl rfl hl.1 (As := []) (rest := [.int x2]) rfl (Nat.le_of_ble_eq_true rfl) dX13_smooths_51 ⟨Nat.le_of_ble_eq_true rfl, Nat.le_of_ble_eq_true rfl⟩ hK hP hD hS hA [0, 1, 2, 3, 4, 5, 6, 7, 8, 9, 10, 11, 12, 13, 14, 15, 16, 17, 18, 19, 20, 21, 22, 23] [] [0, 1, 2, 3, 4, 5, 6, 7, 8, 9, 10, 11, 12, 13, 14, 15, 16, 17, 18, 19, 20, 21, 22, 23] rfl (by decide) rfl (by decide) (by decide) rfl (by decide) (wr := []) (w2 := (ce_X13 kA q_this o_this)) (fun H locs hP hD hS => ?_)
      have hP : va_P D vwCl (ce_X13 kA q_this o_this) H := hP
      refine lv_icmp_ge (tgt := 83) hx hb dX13_smooths_54 (by decide) (fun hc_15 => ?_) (fun hc_15 => ?_)
      · rw [if_pos hc_15] at hf
        rw [← Option.some.inj hf]
        exact mc_retv hx hb hr hlk hP hK hD hS dX13_smooths_83
      · rw [if_neg hc_15] at hf
        refine lv_aload_n hx hb dX13_smooths_57 rfl (lv_at hl 0 rfl) ?_
        refine va_get (D := D) (ci := 9) (v := .ref (q_this 5)) (C := RX13) (T := TX13) (N := 48) hx hb hUX13 (fun _ h9 => h9) hown hK hP 0 rfl rfl 16 (by decide) (hts (Cond.fieldLink RX13 29 "ReliefBuilderModel" "heights" "[I") (List.mem_of_getElem? (i := 3) rfl)) (fun _ h9 => h9) rfl dX13_smooths_58 ?_
        refine lv_aload_n hx hb dX13_smooths_61 rfl (lv_at hl 0 rfl) ?_
        refine lv_iload_n hx hb dX13_smooths_62 rfl (lv_at hl 1 rfl) ?_
        obtain ⟨u_16, he_17, hf⟩ := os_bd hf
        refine mc_callV ⟨hx, hb, hml, hown, hts⟩ (mm_X13_cellAt l D kA N q_this o_this x2 u_16 he_17) (cwV 1 hts gX13_smooths_X13_cellAt rfl rfl rfl (by decide +kernel) ⟨Nat.le_of_ble_eq_true rfl, Nat.le_of_ble_eq_true rfl⟩) (wc := (ce_X13 kA q_this o_this)) (ci := 9) (q0 := 0) rfl rfl rfl hl.1 (As := [.int x2]) (rest := [.ref (q_this 5)]) rfl (Nat.le_of_ble_eq_true rfl) dX13_smooths_63 ⟨Nat.le_of_ble_eq_true rfl, Nat.le_of_ble_eq_true rfl⟩ hK hP hD hS hA [0, 1, 2, 3, 4, 5, 6, 7, 8, 9, 10, 11, 12, 13, 14, 15, 16, 17, 18, 19, 20, 21, 22, 23] [] [0, 1, 2, 3, 4, 5, 6, 7, 8, 9, 10, 11, 12, 13, 14, 15, 16, 17, 18, 19, 20, 21, 22, 23] rfl (by decide) rfl (by decide) (by decide) rfl (by decide) (wr := []) (w2 := (ce_X13 kA q_this o_this)) (fun H locs hP hD hS => ?_)
        have hP : va_P D vwCl (ce_X13 kA q_this o_this) H := hP
        refine lv_aload_n hx hb dX13_smooths_66 rfl (lv_at hl 0 rfl) ?_
        refine va_get (D := D) (ci := 9) (v := .ref (q_this 12)) (C := RX13) (T := TX13) (N := 48) hx hb hUX13 (fun _ h9 => h9) hown hK hP 0 rfl rfl 30 (by decide) (hts (Cond.fieldLink RX13 51 "ReliefBuilderModel" "flat" "[I") (List.mem_of_getElem? (i := 1) rfl)) (fun _ h9 => h9) rfl dX13_smooths_67 ?_
        refine lv_aload_n hx hb dX13_smooths_70 rfl (lv_at hl 0 rfl) ?_
        refine lv_iload_n hx hb dX13_smooths_71 rfl (lv_at hl 1 rfl) ?_
        obtain ⟨u_18, he_19, hf⟩ := os_bd hf
        refine mc_callV ⟨hx, hb, hml, hown, hts⟩ (mm_X13_cellAt l D kA N q_this o_this x2 u_18 he_19) (cwV 1 hts gX13_smooths_X13_cellAt rfl rfl rfl (by decide +kernel) ⟨Nat.le_of_ble_eq_true rfl, Nat.le_of_ble_eq_true rfl⟩) (wc := (ce_X13 kA q_this o_this)) (ci := 9) (q0 := 0) rfl rfl rfl hl.1 (As := [.int x2]) (rest := [.ref (q_this 12), .int u_16, .ref (q_this 5)]) rfl (Nat.le_of_ble_eq_true rfl) dX13_smooths_72 ⟨Nat.le_of_ble_eq_true rfl, Nat.le_of_ble_eq_true rfl⟩ hK hP hD hS hA [0, 1, 2, 3, 4, 5, 6, 7, 8, 9, 10, 11, 12, 13, 14, 15, 16, 17, 18, 19, 20, 21, 22, 23] [] [0, 1, 2, 3, 4, 5, 6, 7, 8, 9, 10, 11, 12, 13, 14, 15, 16, 17, 18, 19, 20, 21, 22, 23] rfl (by decide) rfl (by decide) (by decide) rfl (by decide) (wr := []) (w2 := (ce_X13 kA q_this o_this)) (fun H locs hP hD hS => ?_)
        have hP : va_P D vwCl (ce_X13 kA q_this o_this) H := hP
        obtain ⟨hi_20, hf⟩ := os_if hf
        refine va_iald hx hb hK hP 12 0 rfl rfl hi_20 dX13_smooths_75 ?_
        obtain ⟨hi_21, hf⟩ := os_if hf
        refine va_iast hx hb hK hP hD hS 5 0 rfl rfl hi_21 dX13_smooths_76 (fun H locs hP hD hS => ?_)
        have hP : va_P D vwCl (ce_X13 kA q_this (ss_A o_this 4 (upd (os_A o_this 4) (Int32.toNatClampNeg u_16) ((os_A o_this 11) (Int32.toNatClampNeg u_18))))) H := hP
        have hD : va_D A (ce_X13 kA q_this (ss_A o_this 4 (upd (os_A o_this 4) (Int32.toNatClampNeg u_16) ((os_A o_this 11) (Int32.toNatClampNeg u_18))))) := hD
        refine lv_iinc (v := x2 + 1) (lv' := [(2, .int (x2 + 1)), (0, .ref (q_this 0))]) hx hb dX13_smooths_77 hl (k := 1) rfl rfl (by decide) rfl (fun ls hl => ?_)
        refine lv_goto (tgt := 49) hx hb dX13_smooths_80 (by decide) ?_
        exact hk49 (ss_A o_this 4 (upd (os_A o_this 4) (Int32.toNatClampNeg u_16) ((os_A o_this 11) (Int32.toNatClampNeg u_18)))) (x2 + 1) _ _ _ hP hD hS (lv_sub hl [1, 0] rfl) hf
  have hL2 : ∀ (n : Nat) (o_this : os_T) (x1 : Int32) (x2 : Int32) (H : Heap) (locs : List Loc) (ls : Array Slot), va_P D vwCl (ce_X13 kA q_this o_this) H → va_D A (ce_X13 kA q_this o_this) → va_S A s.heap H locs → lv_has ls 3 [(0, .ref (q_this 0)), (1, .int x1), (2, .int x2)] → ff_X13_smooths_l2 N n (o_this, x1, x2) = some out → W p l e ({ frames := 2, cells := 0, slots := 0, locals := 46 } : Room) s m [.ref (q_this 0), .int a1].toArray below meth c H locs 0 0 (MQ below (mc_Q D kA A none (ce_X13 kA q_this out)) [.ref (q_this 0), .int a1].toArray s 0 0 A) (F0 m 2 ls []) := by
    intro n
    induction n with
    | zero => intro o_this x1 x2 H locs ls _ _ _ _ hf; cases hf
    | succ n hk2 =>
      intro o_this x1 x2 H locs ls hP hD hS hl hf
      have hf : ff_X13_smooths_c2 N (ff_X13_smooths_l2 N n) o_this x1 x2 = some out := hf
      generalize hke : ff_X13_smooths_l2 N n = k2 at hk2 hf
      unfold ff_X13_smooths_c2 at hf
      refine lv_iload_n hx hb dX13_smooths_2 rfl (lv_at hl 2 rfl) ?_
      refine lv_aload_n hx hb dX13_smooths_3 rfl (lv_at hl 0 rfl) ?_
      obtain ⟨u_1, he_2, hf⟩ := os_bd hf
      refine mc_callV ⟨hx, hb, hml, hown, hts⟩ (mm_X13_cellMany l D kA N q_this o_this u_1 he_2) (cwV 0 hts gX13_smooths_X13_cellMany rfl rfl rfl (by decide +kernel) ⟨Nat.le_of_ble_eq_true rfl, Nat.le_of_ble_eq_true rfl⟩) (wc := (ce_X13 kA q_this o_this)) (ci := 9) (q0 := 0) rfl rfl rfl hl.1 (As := []) (rest := [.int x2]) rfl (Nat.le_of_ble_eq_true rfl) dX13_smooths_4 ⟨Nat.le_of_ble_eq_true rfl, Nat.le_of_ble_eq_true rfl⟩ hK hP hD hS hA [0, 1, 2, 3, 4, 5, 6, 7, 8, 9, 10, 11, 12, 13, 14, 15, 16, 17, 18, 19, 20, 21, 22, 23] [] [0, 1, 2, 3, 4, 5, 6, 7, 8, 9, 10, 11, 12, 13, 14, 15, 16, 17, 18, 19, 20, 21, 22, 23] rfl (by decide) rfl (by decide) (by decide) rfl (by decide) (wr := []) (w2 := (ce_X13 kA q_this o_this)) (fun H locs hP hD hS => ?_)
      have hP : va_P D vwCl (ce_X13 kA q_this o_this) H := hP
      refine lv_icmp_ge (tgt := 47) hx hb dX13_smooths_7 (by decide) (fun hc_3 => ?_) (fun hc_3 => ?_)
      · rw [if_pos hc_3] at hf
        refine lv_iconst (v := 0) hx hb dX13_smooths_47 (by decide) ?_
        refine lv_istore_n (lv' := [(2, .int (0 : Int32)), (0, .ref (q_this 0)), (1, .int x1)]) hx hb dX13_smooths_48 rfl hl (by decide) rfl (fun ls hl => ?_)
        exact hL49 N o_this (0 : Int32) _ _ _ hP hD hS (lv_sub hl [1, 0] rfl) hf
      · rw [if_neg hc_3] at hf
        refine lv_aload_n hx hb dX13_smooths_10 rfl (lv_at hl 0 rfl) ?_
        refine va_get (D := D) (ci := 9) (v := .ref (q_this 12)) (C := RX13) (T := TX13) (N := 48) hx hb hUX13 (fun _ h9 => h9) hown hK hP 0 rfl rfl 30 (by decide) (hts (Cond.fieldLink RX13 51 "ReliefBuilderModel" "flat" "[I") (List.mem_of_getElem? (i := 1) rfl)) (fun _ h9 => h9) rfl dX13_smooths_11 ?_
        refine lv_aload_n hx hb dX13_smooths_14 rfl (lv_at hl 0 rfl) ?_
        refine lv_iload_n hx hb dX13_smooths_15 rfl (lv_at hl 2 rfl) ?_
        obtain ⟨u_4, he_5, hf⟩ := os_bd hf
        refine mc_callV ⟨hx, hb, hml, hown, hts⟩ (mm_X13_cellAt l D kA N q_this o_this x2 u_4 he_5) (cwV 1 hts gX13_smooths_X13_cellAt rfl rfl rfl (by decide +kernel) ⟨Nat.le_of_ble_eq_true rfl, Nat.le_of_ble_eq_true rfl⟩) (wc := (ce_X13 kA q_this o_this)) (ci := 9) (q0 := 0) rfl rfl rfl hl.1 (As := [.int x2]) (rest := [.ref (q_this 12)]) rfl (Nat.le_of_ble_eq_true rfl) dX13_smooths_16 ⟨Nat.le_of_ble_eq_true rfl, Nat.le_of_ble_eq_true rfl⟩ hK hP hD hS hA [0, 1, 2, 3, 4, 5, 6, 7, 8, 9, 10, 11, 12, 13, 14, 15, 16, 17, 18, 19, 20, 21, 22, 23] [] [0, 1, 2, 3, 4, 5, 6, 7, 8, 9, 10, 11, 12, 13, 14, 15, 16, 17, 18, 19, 20, 21, 22, 23] rfl (by decide) rfl (by decide) (by decide) rfl (by decide) (wr := []) (w2 := (ce_X13 kA q_this o_this)) (fun H locs hP hD hS => ?_)
        have hP : va_P D vwCl (ce_X13 kA q_this o_this) H := hP
        refine lv_aload_n hx hb dX13_smooths_19 rfl (lv_at hl 0 rfl) ?_
        refine lv_iload_n hx hb dX13_smooths_20 rfl (lv_at hl 2 rfl) ?_
        refine lv_aload_n hx hb dX13_smooths_21 rfl (lv_at hl 0 rfl) ?_
        refine va_get (D := D) (ci := 9) (v := .ref (q_this 2)) (C := RX13) (T := TX13) (N := 48) hx hb hUX13 (fun _ h9 => h9) hown hK hP 0 rfl rfl 13 (by decide) (hts (Cond.fieldLink RX13 20 "ReliefBuilderModel" "now" "[I") (List.mem_of_getElem? (i := 2) rfl)) (fun _ h9 => h9) rfl dX13_smooths_22 ?_
        refine lv_iconst (v := 0) hx hb dX13_smooths_25 (by decide) ?_
        obtain ⟨hi_6, hf⟩ := os_if hf
        refine va_iald hx hb hK hP 2 0 rfl rfl hi_6 dX13_smooths_26 ?_
        obtain ⟨hz_7, hf⟩ := os_if hf
        refine lv_irem hx hb dX13_smooths_27 hz_7 ?_
        refine lv_iload_n hx hb dX13_smooths_28 rfl (lv_at hl 2 rfl) ?_
        refine lv_aload_n hx hb dX13_smooths_29 rfl (lv_at hl 0 rfl) ?_
        refine va_get (D := D) (ci := 9) (v := .ref (q_this 2)) (C := RX13) (T := TX13) (N := 48) hx hb hUX13 (fun _ h9 => h9) hown hK hP 0 rfl rfl 13 (by decide) (hts (Cond.fieldLink RX13 20 "ReliefBuilderModel" "now" "[I") (List.mem_of_getElem? (i := 2) rfl)) (fun _ h9 => h9) rfl dX13_smooths_30 ?_
        refine lv_iconst (v := 0) hx hb dX13_smooths_33 (by decide) ?_
        obtain ⟨hi_8, hf⟩ := os_if hf
        refine va_iald hx hb hK hP 2 0 rfl rfl hi_8 dX13_smooths_34 ?_
        obtain ⟨hz_9, hf⟩ := os_if hf
        refine lv_idiv hx hb dX13_smooths_35 hz_9 ?_
        refine lv_iload_n hx hb dX13_smooths_36 rfl (lv_at hl 1 rfl) ?_
        obtain ⟨u_10, he_11, hf⟩ := os_bd hf
        refine mc_callV ⟨hx, hb, hml, hown, hts⟩ (mm_X13_flatAt l D kA N q_this o_this (x2 - x2 / ((os_A o_this 1) (Int32.toNatClampNeg (0 : Int32))) * ((os_A o_this 1) (Int32.toNatClampNeg (0 : Int32)))) (x2 / ((os_A o_this 1) (Int32.toNatClampNeg (0 : Int32)))) x1 u_10 he_11) (cwV 3 hts gX13_smooths_X13_flatAt rfl rfl rfl (by decide +kernel) ⟨Nat.le_of_ble_eq_true rfl, Nat.le_of_ble_eq_true rfl⟩) (wc := (ce_X13 kA q_this o_this)) (ci := 9) (q0 := 0) rfl rfl rfl hl.1 (As := [.int (x2 - x2 / ((os_A o_this 1) (Int32.toNatClampNeg (0 : Int32))) * ((os_A o_this 1) (Int32.toNatClampNeg (0 : Int32)))), .int (x2 / ((os_A o_this 1) (Int32.toNatClampNeg (0 : Int32)))), .int x1]) (rest := [.int u_4, .ref (q_this 12)]) rfl (Nat.le_of_ble_eq_true rfl) dX13_smooths_37 ⟨Nat.le_of_ble_eq_true rfl, Nat.le_of_ble_eq_true rfl⟩ hK hP hD hS hA [0, 1, 2, 3, 4, 5, 6, 7, 8, 9, 10, 11, 12, 13, 14, 15, 16, 17, 18, 19, 20, 21, 22, 23] [] [0, 1, 2, 3, 4, 5, 6, 7, 8, 9, 10, 11, 12, 13, 14, 15, 16, 17, 18, 19, 20, 21, 22, 23] rfl (by decide) rfl (by decide) (by decide) rfl (by decide) (wr := []) (w2 := (ce_X13 kA q_this o_this)) (fun H locs hP hD hS => ?_)
        have hP : va_P D vwCl (ce_X13 kA q_this o_this) H := hP
        obtain ⟨hi_12, hf⟩ := os_if hf
        refine va_iast hx hb hK hP hD hS 12 0 rfl rfl hi_12 dX13_smooths_40 (fun H locs hP hD hS => ?_)
        have hP : va_P D vwCl (ce_X13 kA q_this (ss_A o_this 11 (upd (os_A o_this 11) (Int32.toNatClampNeg u_4) u_10))) H := hP
        have hD : va_D A (ce_X13 kA q_this (ss_A o_this 11 (upd (os_A o_this 11) (Int32.toNatClampNeg u_4) u_10))) := hD
        refine lv_iinc (v := x2 + 1) (lv' := [(2, .int (x2 + 1)), (0, .ref (q_this 0)), (1, .int x1)]) hx hb dX13_smooths_41 hl (k := 2) rfl rfl (by decide) rfl (fun ls hl => ?_)
        refine lv_goto (tgt := 2) hx hb dX13_smooths_44 (by decide) ?_
        exact hk2 (ss_A o_this 11 (upd (os_A o_this 11) (Int32.toNatClampNeg u_4) u_10)) x1 (x2 + 1) _ _ _ hP hD hS (lv_sub hl [1, 2, 0] rfl) hf
  unfold ff_X13_smooths at hf
  refine lv_iconst (v := 0) hx hb dX13_smooths_0 (by decide) ?_
  refine lv_istore_n (lv' := [(2, .int (0 : Int32)), (0, .ref (q_this 0)), (1, .int a1)]) hx hb dX13_smooths_1 rfl hl (by decide) rfl (fun ls hl => ?_)
  exact hL2 N o_this a1 (0 : Int32) _ _ _ hP hD hS (lv_sub hl [1, 2, 0] rfl) hf
def ff_X13_smooth (N : Nat) (o_this : os_T) (a1 : Int32) : Option (Int32 × os_T) :=
  ((ff_X13_isIn N (Int32.toInt64 a1) (1 : Int64) (20 : Int64)).bind fun u_1 => ((ff_X13_goes N o_this u_1).bind fun u_3 => (if u_3.1 = 0 then some ((0 : Int32), u_3.2) else ((ff_X13_laysAside N u_3.2).bind fun u_6 => ((ff_X13_smooths N u_6 a1).bind fun u_8 => ((ff_X13_keeps N u_8).bind fun u_10 => some (u_10.1, u_10.2)))))))
set_option maxHeartbeats 4000000 in
set_option maxRecDepth 100000 in
theorem mm_X13_smooth (l : Launch) (D : va_G) (kA : Nat → ClassId) (N : Nat) (q_this : Nat → Nat) (o_this : os_T) (a1 : Int32) (out : (Int32 × os_T)) (hf : ff_X13_smooth N o_this a1 = some out) : mc_C l D kA yX13_smooth wsX13_smooth ({ frames := 3, cells := 0, slots := 0, locals := 68 } : Room) [.ref (q_this 0), .int a1] (ce_X13 kA q_this o_this) (some (.int out.1)) (ce_X13 kA q_this out.2) := by
  refine mc_of (cc := cX13_smooth) (maxL := 2) (ret := (some .int)) (by decide) rfl (Nat.le_of_ble_eq_true rfl) ?_
  intro p e s m below meth c A B hD hP hS ls hl
  obtain ⟨hx, hb, hr, hlk, hml, hown, hts, hK, hA, hnm⟩ := B
  have hown : s.vm.findClass RX13 = some m.cls := hown
  have hl : lv_has ls 2 [(0, .ref (q_this 0)), (1, .int a1)] := hl
  unfold ff_X13_smooth at hf
  refine lv_aload_n hx hb dX13_smooth_0 rfl (lv_at hl 0 rfl) ?_
  refine lv_iload_n hx hb dX13_smooth_1 rfl (lv_at hl 1 rfl) ?_
  refine lv_i2l hx hb dX13_smooth_2 rfl ?_
  refine lv_lconst (v := 1) hx hb dX13_smooth_3 (by decide) ?_
  refine lv_ldc2 hx hb hown (hts (Cond.constantLong RX13 385 (20)) (List.mem_of_getElem? (i := 1) rfl)) dX13_smooth_4 ?_
  obtain ⟨u_1, he_2, hf⟩ := os_bd hf
  refine mc_callS ⟨hx, hb, hml, hown, hts⟩ (mm_X13_isIn l D kA N (Int32.toInt64 a1) (1 : Int64) (20 : Int64) u_1 he_2) (va_cwS 3 hts gX13_smooth_X13_isIn rfl rfl rfl (by decide +kernel) ⟨Nat.le_of_ble_eq_true rfl, Nat.le_of_ble_eq_true rfl⟩) (wc := []) rfl hl.1 (As := [.long (Int32.toInt64 a1), .long (1 : Int64), .long (20 : Int64)]) (rest := [.ref (q_this 0)]) rfl (Nat.le_of_ble_eq_true rfl) dX13_smooth_7 ⟨Nat.le_of_ble_eq_true rfl, Nat.le_of_ble_eq_true rfl⟩ hK hP hD hS hA [] [0, 1, 2, 3, 4, 5, 6, 7, 8, 9, 10, 11, 12, 13, 14, 15, 16, 17, 18, 19, 20, 21, 22, 23] [0, 1, 2, 3, 4, 5, 6, 7, 8, 9, 10, 11, 12, 13, 14, 15, 16, 17, 18, 19, 20, 21, 22, 23] rfl (by decide) rfl (by decide) (by decide) rfl (by decide) (wr := (ce_X13 kA q_this o_this)) (w2 := (ce_X13 kA q_this o_this)) (fun H locs hP hD hS => ?_)
  have hP : va_P D vwCl (ce_X13 kA q_this o_this) H := hP
  obtain ⟨u_3, he_4, hf⟩ := os_bd hf
  refine mc_callV ⟨hx, hb, hml, hown, hts⟩ (mm_X13_goes l D kA N q_this o_this u_1 u_3 he_4) (cwV 1 hts gX13_smooth_X13_goes rfl rfl rfl (by decide +kernel) ⟨Nat.le_of_ble_eq_true rfl, Nat.le_of_ble_eq_true rfl⟩) (wc := (ce_X13 kA q_this o_this)) (ci := 9) (q0 := 0) rfl rfl rfl hl.1 (As := [.int u_1]) (rest := []) rfl (Nat.le_of_ble_eq_true rfl) dX13_smooth_10 ⟨Nat.le_of_ble_eq_true rfl, Nat.le_of_ble_eq_true rfl⟩ hK hP hD hS hA [0, 1, 2, 3, 4, 5, 6, 7, 8, 9, 10, 11, 12, 13, 14, 15, 16, 17, 18, 19, 20, 21, 22, 23] [] [0, 1, 2, 3, 4, 5, 6, 7, 8, 9, 10, 11, 12, 13, 14, 15, 16, 17, 18, 19, 20, 21, 22, 23] rfl (by decide) rfl (by decide) (by decide) rfl (by decide) (wr := []) (w2 := (ce_X13 kA q_this u_3.2)) (fun H locs hP hD hS => ?_)
  have hP : va_P D vwCl (ce_X13 kA q_this u_3.2) H := hP
  refine lv_if_ne (tgt := 18) hx hb dX13_smooth_13 (by decide) (fun hc_5 => ?_) (fun hc_5 => ?_)
  · rw [if_neg hc_5] at hf
    refine lv_aload_n hx hb dX13_smooth_18 rfl (lv_at hl 0 rfl) ?_
    obtain ⟨u_6, he_7, hf⟩ := os_bd hf
    refine mc_callV ⟨hx, hb, hml, hown, hts⟩ (mm_X13_laysAside l D kA N q_this u_3.2 u_6 he_7) (cwV 0 hts gX13_smooth_X13_laysAside rfl rfl rfl (by decide +kernel) ⟨Nat.le_of_ble_eq_true rfl, Nat.le_of_ble_eq_true rfl⟩) (wc := (ce_X13 kA q_this u_3.2)) (ci := 9) (q0 := 0) rfl rfl rfl hl.1 (As := []) (rest := []) rfl (Nat.le_of_ble_eq_true rfl) dX13_smooth_19 ⟨Nat.le_of_ble_eq_true rfl, Nat.le_of_ble_eq_true rfl⟩ hK hP hD hS hA [0, 1, 2, 3, 4, 5, 6, 7, 8, 9, 10, 11, 12, 13, 14, 15, 16, 17, 18, 19, 20, 21, 22, 23] [] [0, 1, 2, 3, 4, 5, 6, 7, 8, 9, 10, 11, 12, 13, 14, 15, 16, 17, 18, 19, 20, 21, 22, 23] rfl (by decide) rfl (by decide) (by decide) rfl (by decide) (wr := []) (w2 := (ce_X13 kA q_this u_6)) (fun H locs hP hD hS => ?_)
    have hP : va_P D vwCl (ce_X13 kA q_this u_6) H := hP
    refine lv_aload_n hx hb dX13_smooth_22 rfl (lv_at hl 0 rfl) ?_
    refine lv_iload_n hx hb dX13_smooth_23 rfl (lv_at hl 1 rfl) ?_
    obtain ⟨u_8, he_9, hf⟩ := os_bd hf
    refine mc_callV ⟨hx, hb, hml, hown, hts⟩ (mm_X13_smooths l D kA N q_this u_6 a1 u_8 he_9) (cwV 1 hts gX13_smooth_X13_smooths rfl rfl rfl (by decide +kernel) ⟨Nat.le_of_ble_eq_true rfl, Nat.le_of_ble_eq_true rfl⟩) (wc := (ce_X13 kA q_this u_6)) (ci := 9) (q0 := 0) rfl rfl rfl hl.1 (As := [.int a1]) (rest := []) rfl (Nat.le_of_ble_eq_true rfl) dX13_smooth_24 ⟨Nat.le_of_ble_eq_true rfl, Nat.le_of_ble_eq_true rfl⟩ hK hP hD hS hA [0, 1, 2, 3, 4, 5, 6, 7, 8, 9, 10, 11, 12, 13, 14, 15, 16, 17, 18, 19, 20, 21, 22, 23] [] [0, 1, 2, 3, 4, 5, 6, 7, 8, 9, 10, 11, 12, 13, 14, 15, 16, 17, 18, 19, 20, 21, 22, 23] rfl (by decide) rfl (by decide) (by decide) rfl (by decide) (wr := []) (w2 := (ce_X13 kA q_this u_8)) (fun H locs hP hD hS => ?_)
    have hP : va_P D vwCl (ce_X13 kA q_this u_8) H := hP
    refine lv_aload_n hx hb dX13_smooth_27 rfl (lv_at hl 0 rfl) ?_
    obtain ⟨u_10, he_11, hf⟩ := os_bd hf
    refine mc_callV ⟨hx, hb, hml, hown, hts⟩ (mm_X13_keeps l D kA N q_this u_8 u_10 he_11) (cwV 0 hts gX13_smooth_X13_keeps rfl rfl rfl (by decide +kernel) ⟨Nat.le_of_ble_eq_true rfl, Nat.le_of_ble_eq_true rfl⟩) (wc := (ce_X13 kA q_this u_8)) (ci := 9) (q0 := 0) rfl rfl rfl hl.1 (As := []) (rest := []) rfl (Nat.le_of_ble_eq_true rfl) dX13_smooth_28 ⟨Nat.le_of_ble_eq_true rfl, Nat.le_of_ble_eq_true rfl⟩ hK hP hD hS hA [0, 1, 2, 3, 4, 5, 6, 7, 8, 9, 10, 11, 12, 13, 14, 15, 16, 17, 18, 19, 20, 21, 22, 23] [] [0, 1, 2, 3, 4, 5, 6, 7, 8, 9, 10, 11, 12, 13, 14, 15, 16, 17, 18, 19, 20, 21, 22, 23] rfl (by decide) rfl (by decide) (by decide) rfl (by decide) (wr := []) (w2 := (ce_X13 kA q_this u_10.2)) (fun H locs hP hD hS => ?_)
    have hP : va_P D vwCl (ce_X13 kA q_this u_10.2) H := hP
    rw [← Option.some.inj hf]
    exact mc_reti hx hb hr hlk hP hK hD hS dX13_smooth_31
  · rw [if_pos hc_5] at hf
    refine lv_iconst (v := 0) hx hb dX13_smooth_16 (by decide) ?_
    rw [← Option.some.inj hf]
    exact mc_reti hx hb hr hlk hP hK hD hS dX13_smooth_17
def ff_X13_eases_b66 (N : Nat) (k2 : (os_T × Int32) → Option os_T) (k14 : (os_T × Int32 × Int32) → Option os_T) (o_this : os_T) (x1 : Int32) (x2 : Int32) : Option os_T :=
  k14 (o_this, x1, x2 + 1)
def ff_X13_eases_c14 (N : Nat) (k2 : (os_T × Int32) → Option os_T) (k14 : (os_T × Int32 × Int32) → Option os_T) (o_this : os_T) (x1 : Int32) (x2 : Int32) : Option os_T :=
  (if os_in (0 : Int32) 7 then (if ((os_A o_this 1) (Int32.toNatClampNeg (0 : Int32))) ≤ x2 then k2 (o_this, x1 + 1) else ((ff_X13_standsOut N o_this x2 x1).bind fun u_5 => (if u_5 ≤ 0 then ff_X13_eases_b66 N k2 k14 o_this x1 x2 else (if os_in ((((16 : Int32) * x1) - (16 : Int32)) + x2) 192 then (if os_in (6 : Int32) 7 then (if os_in (((16 : Int32) * x1) + x2) 192 then ff_X13_eases_b66 N k2 k14 (ss_A o_this 4 (upd (os_A o_this 4) (Int32.toNatClampNeg (((16 : Int32) * x1) + x2)) (((os_A o_this 4) (Int32.toNatClampNeg ((((16 : Int32) * x1) - (16 : Int32)) + x2))) + ((os_A o_this 1) (Int32.toNatClampNeg (6 : Int32)))))) x1 x2 else none) else none) else none)))) else none)
def ff_X13_eases_l14 (N : Nat) (k2 : (os_T × Int32) → Option os_T) : Nat → (os_T × Int32 × Int32) → Option os_T := os_loop (fun k14 s1 => ff_X13_eases_c14 N k2 k14 s1.1 s1.2.1 s1.2.2)
def ff_X13_eases_c2 (N : Nat) (k2 : (os_T × Int32) → Option os_T) (o_this : os_T) (x1 : Int32) : Option os_T :=
  (if os_in (1 : Int32) 7 then (if ((os_A o_this 1) (Int32.toNatClampNeg (1 : Int32))) ≤ x1 then some o_this else ff_X13_eases_l14 N k2 N (o_this, x1, (0 : Int32))) else none)
def ff_X13_eases_l2 (N : Nat) : Nat → (os_T × Int32) → Option os_T := os_loop (fun k2 s1 => ff_X13_eases_c2 N k2 s1.1 s1.2)
def ff_X13_eases (N : Nat) (o_this : os_T) : Option os_T :=
  ff_X13_eases_l2 N N (o_this, (1 : Int32))
set_option maxHeartbeats 4000000 in
set_option maxRecDepth 100000 in
theorem mm_X13_eases (l : Launch) (D : va_G) (kA : Nat → ClassId) (N : Nat) (q_this : Nat → Nat) (o_this : os_T) (out : os_T) (hf : ff_X13_eases N o_this = some out) : mc_C l D kA yX13_eases wsX13_eases ({ frames := 2, cells := 0, slots := 0, locals := 43 } : Room) [.ref (q_this 0)] (ce_X13 kA q_this o_this) none (ce_X13 kA q_this out) := by
  refine mc_of (cc := cX13_eases) (maxL := 3) (ret := none) (by decide) rfl (Nat.le_of_ble_eq_true rfl) ?_
  intro p e s m below meth c A B hD hP hS ls hl
  obtain ⟨hx, hb, hr, hlk, hml, hown, hts, hK, hA, hnm⟩ := B
  have hown : s.vm.findClass RX13 = some m.cls := hown
  have hl : lv_has ls 3 [(0, .ref (q_this 0))] := hl
  have hUX13 : ∀ w ∈ u_ws RX13 TX13 48, w.before [.ref (q_this 0)].toArray s = true := fun w h => hts w (List.mem_cons_of_mem _ (List.mem_append_right _ h))
  have hB66 : ∀ (k2 : (os_T × Int32) → Option os_T), (∀ (o_this : os_T) (x1 : Int32) (H : Heap) (locs : List Loc) (ls : Array Slot), va_P D vwCl (ce_X13 kA q_this o_this) H → va_D A (ce_X13 kA q_this o_this) → va_S A s.heap H locs → lv_has ls 3 [(0, .ref (q_this 0)), (1, .int x1)] → k2 (o_this, x1) = some out → W p l e ({ frames := 2, cells := 0, slots := 0, locals := 43 } : Room) s m [.ref (q_this 0)].toArray below meth c H locs 0 0 (MQ below (mc_Q D kA A none (ce_X13 kA q_this out)) [.ref (q_this 0)].toArray s 0 0 A) (F0 m 2 ls [])) → ∀ (k14 : (os_T × Int32 × Int32) → Option os_T), (∀ (o_this : os_T) (x1 : Int32) (x2 : Int32) (H : Heap) (locs : List Loc) (ls : Array Slot), va_P D vwCl (ce_X13 kA q_this o_this) H → va_D A (ce_X13 kA q_this o_this) → va_S A s.heap H locs → lv_has ls 3 [(0, .ref (q_this 0)), (1, .int x1), (2, .int x2)] → k14 (o_this, x1, x2) = some out → W p l e ({ frames := 2, cells := 0, slots := 0, locals := 43 } : Room) s m [.ref (q_this 0)].toArray below meth c H locs 0 0 (MQ below (mc_Q D kA A none (ce_X13 kA q_this out)) [.ref (q_this 0)].toArray s 0 0 A) (F0 m 14 ls [])) → ∀ (o_this : os_T) (x1 : Int32) (x2 : Int32) (H : Heap) (locs : List Loc) (ls : Array Slot), va_P D vwCl (ce_X13 kA q_this o_this) H → va_D A (ce_X13 kA q_this o_this) → va_S A s.heap H locs → lv_has ls 3 [(0, .ref (q_this 0)), (1, .int x1), (2, .int x2)] → ff_X13_eases_b66 N k2 k14 o_this x1 x2 = some out → W p l e ({ frames := 2, cells := 0, slots := 0, locals := 43 } : Room) s m [.ref (q_this 0)].toArray below meth c H locs 0 0 (MQ below (mc_Q D kA A none (ce_X13 kA q_this out)) [.ref (q_this 0)].toArray s 0 0 A) (F0 m 66 ls []) := by
    intro k2 hk2 k14 hk14 o_this x1 x2 H locs ls hP hD hS hl hf
    unfold ff_X13_eases_b66 at hf
    refine lv_iinc (v := x2 + 1) (lv' := [(2, .int (x2 + 1)), (0, .ref (q_this 0)), (1, .int x1)]) hx hb dX13_eases_66 hl (k := 2) rfl rfl (by decide) rfl (fun ls hl => ?_)
    refine lv_goto (tgt := 14) hx hb dX13_eases_69 (by decide) ?_
    exact hk14 o_this x1 (x2 + 1) _ _ _ hP hD hS (lv_sub hl [1, 2, 0] rfl) hf
  have hL14 : ∀ (k2 : (os_T × Int32) → Option os_T), (∀ (o_this : os_T) (x1 : Int32) (H : Heap) (locs : List Loc) (ls : Array Slot), va_P D vwCl (ce_X13 kA q_this o_this) H → va_D A (ce_X13 kA q_this o_this) → va_S A s.heap H locs → lv_has ls 3 [(0, .ref (q_this 0)), (1, .int x1)] → k2 (o_this, x1) = some out → W p l e ({ frames := 2, cells := 0, slots := 0, locals := 43 } : Room) s m [.ref (q_this 0)].toArray below meth c H locs 0 0 (MQ below (mc_Q D kA A none (ce_X13 kA q_this out)) [.ref (q_this 0)].toArray s 0 0 A) (F0 m 2 ls [])) → ∀ (n : Nat) (o_this : os_T) (x1 : Int32) (x2 : Int32) (H : Heap) (locs : List Loc) (ls : Array Slot), va_P D vwCl (ce_X13 kA q_this o_this) H → va_D A (ce_X13 kA q_this o_this) → va_S A s.heap H locs → lv_has ls 3 [(0, .ref (q_this 0)), (1, .int x1), (2, .int x2)] → ff_X13_eases_l14 N k2 n (o_this, x1, x2) = some out → W p l e ({ frames := 2, cells := 0, slots := 0, locals := 43 } : Room) s m [.ref (q_this 0)].toArray below meth c H locs 0 0 (MQ below (mc_Q D kA A none (ce_X13 kA q_this out)) [.ref (q_this 0)].toArray s 0 0 A) (F0 m 14 ls []) := by
    intro k2 hk2 n
    induction n with
    | zero => intro o_this x1 x2 H locs ls _ _ _ _ hf; cases hf
    | succ n hk14 =>
      intro o_this x1 x2 H locs ls hP hD hS hl hf
      have hf : ff_X13_eases_c14 N k2 (ff_X13_eases_l14 N k2 n) o_this x1 x2 = some out := hf
      generalize hke : ff_X13_eases_l14 N k2 n = k14 at hk14 hf
      unfold ff_X13_eases_c14 at hf
      refine lv_iload_n hx hb dX13_eases_14 rfl (lv_at hl 2 rfl) ?_
      refine lv_aload_n hx hb dX13_eases_15 rfl (lv_at hl 0 rfl) ?_
      refine va_get (D := D) (ci := 9) (v := .ref (q_this 2)) (C := RX13) (T := TX13) (N := 48) hx hb hUX13 (fun _ h9 => h9) hown hK hP 0 rfl rfl 13 (by decide) (hts (Cond.fieldLink RX13 20 "ReliefBuilderModel" "now" "[I") (List.mem_of_getElem? (i := 1) rfl)) (fun _ h9 => h9) rfl dX13_eases_16 ?_
      refine lv_iconst (v := 0) hx hb dX13_eases_19 (by decide) ?_
      obtain ⟨hi_3, hf⟩ := os_if hf
      refine va_iald hx hb hK hP 2 0 rfl rfl hi_3 dX13_eases_20 ?_
      refine lv_icmp_ge (tgt := 72) hx hb dX13_eases_21 (by decide) (fun hc_4 => ?_) (fun hc_4 => ?_)
      · rw [if_pos hc_4] at hf
        refine lv_iinc (v := x1 + 1) (lv' := [(1, .int (x1 + 1)), (0, .ref (q_this 0)), (2, .int x2)]) hx hb dX13_eases_72 hl (k := 1) rfl rfl (by decide) rfl (fun ls hl => ?_)
        refine lv_goto (tgt := 2) hx hb dX13_eases_75 (by decide) ?_
        exact hk2 o_this (x1 + 1) _ _ _ hP hD hS (lv_sub hl [1, 0] rfl) hf
      · rw [if_neg hc_4] at hf
        refine lv_aload_n hx hb dX13_eases_24 rfl (lv_at hl 0 rfl) ?_
        refine lv_iload_n hx hb dX13_eases_25 rfl (lv_at hl 2 rfl) ?_
        refine lv_iload_n hx hb dX13_eases_26 rfl (lv_at hl 1 rfl) ?_
        obtain ⟨u_5, he_6, hf⟩ := os_bd hf
        refine mc_callV ⟨hx, hb, hml, hown, hts⟩ (mm_X13_standsOut l D kA N q_this o_this x2 x1 u_5 he_6) (cwV 2 hts gX13_eases_X13_standsOut rfl rfl rfl (by decide +kernel) ⟨Nat.le_of_ble_eq_true rfl, Nat.le_of_ble_eq_true rfl⟩) (wc := (ce_X13 kA q_this o_this)) (ci := 9) (q0 := 0) rfl rfl rfl hl.1 (As := [.int x2, .int x1]) (rest := []) rfl (Nat.le_of_ble_eq_true rfl) dX13_eases_27 ⟨Nat.le_of_ble_eq_true rfl, Nat.le_of_ble_eq_true rfl⟩ hK hP hD hS hA [0, 1, 2, 3, 4, 5, 6, 7, 8, 9, 10, 11, 12, 13, 14, 15, 16, 17, 18, 19, 20, 21, 22, 23] [] [0, 1, 2, 3, 4, 5, 6, 7, 8, 9, 10, 11, 12, 13, 14, 15, 16, 17, 18, 19, 20, 21, 22, 23] rfl (by decide) rfl (by decide) (by decide) rfl (by decide) (wr := []) (w2 := (ce_X13 kA q_this o_this)) (fun H locs hP hD hS => ?_)
        have hP : va_P D vwCl (ce_X13 kA q_this o_this) H := hP
        refine lv_if_le (tgt := 66) hx hb dX13_eases_30 (by decide) (fun hc_7 => ?_) (fun hc_7 => ?_)
        · rw [if_pos hc_7] at hf
          exact hB66 k2 hk2 k14 hk14 o_this x1 x2 _ _ _ hP hD hS (lv_sub hl [0, 1, 2] rfl) hf
        · rw [if_neg hc_7] at hf
          refine lv_aload_n hx hb dX13_eases_33 rfl (lv_at hl 0 rfl) ?_
          refine va_get (D := D) (ci := 9) (v := .ref (q_this 5)) (C := RX13) (T := TX13) (N := 48) hx hb hUX13 (fun _ h9 => h9) hown hK hP 0 rfl rfl 16 (by decide) (hts (Cond.fieldLink RX13 29 "ReliefBuilderModel" "heights" "[I") (List.mem_of_getElem? (i := 2) rfl)) (fun _ h9 => h9) rfl dX13_eases_34 ?_
          refine lv_bipush (v := 16) hx hb dX13_eases_37 (by decide) ?_
          refine lv_iload_n hx hb dX13_eases_39 rfl (lv_at hl 1 rfl) ?_
          refine lv_imul hx hb dX13_eases_40 ?_
          refine lv_iload_n hx hb dX13_eases_41 rfl (lv_at hl 2 rfl) ?_
          refine lv_iadd hx hb dX13_eases_42 ?_
          refine lv_aload_n hx hb dX13_eases_43 rfl (lv_at hl 0 rfl) ?_
          refine va_get (D := D) (ci := 9) (v := .ref (q_this 5)) (C := RX13) (T := TX13) (N := 48) hx hb hUX13 (fun _ h9 => h9) hown hK hP 0 rfl rfl 16 (by decide) (hts (Cond.fieldLink RX13 29 "ReliefBuilderModel" "heights" "[I") (List.mem_of_getElem? (i := 2) rfl)) (fun _ h9 => h9) rfl dX13_eases_44 ?_
          refine lv_bipush (v := 16) hx hb dX13_eases_47 (by decide) ?_
          refine lv_iload_n hx hb dX13_eases_49 rfl (lv_at hl 1 rfl) ?_
          refine lv_imul hx hb dX13_eases_50 ?_
          refine lv_bipush (v := 16) hx hb dX13_eases_51 (by decide) ?_
          refine lv_isub hx hb dX13_eases_53 ?_
          refine lv_iload_n hx hb dX13_eases_54 rfl (lv_at hl 2 rfl) ?_
          refine lv_iadd hx hb dX13_eases_55 ?_
          obtain ⟨hi_8, hf⟩ := os_if hf
          refine va_iald hx hb hK hP 5 0 rfl rfl hi_8 dX13_eases_56 ?_
          refine lv_aload_n hx hb dX13_eases_57 rfl (lv_at hl 0 rfl) ?_
          refine va_get (D := D) (ci := 9) (v := .ref (q_this 2)) (C := RX13) (T := TX13) (N := 48) hx hb hUX13 (fun _ h9 => h9) hown hK hP 0 rfl rfl 13 (by decide) (hts (Cond.fieldLink RX13 20 "ReliefBuilderModel" "now" "[I") (List.mem_of_getElem? (i := 1) rfl)) (fun _ h9 => h9) rfl dX13_eases_58 ?_
          refine lv_bipush (v := 6) hx hb dX13_eases_61 (by decide) ?_
          obtain ⟨hi_9, hf⟩ := os_if hf
          refine va_iald hx hb hK hP 2 0 rfl rfl hi_9 dX13_eases_63 ?_
          refine lv_iadd hx hb dX13_eases_64 ?_
          obtain ⟨hi_10, hf⟩ := os_if hf
          refine va_iast hx hb hK hP hD hS 5 0 rfl rfl hi_10 dX13_eases_65 (fun H locs hP hD hS => ?_)
          have hP : va_P D vwCl (ce_X13 kA q_this (ss_A o_this 4 (upd (os_A o_this 4) (Int32.toNatClampNeg (((16 : Int32) * x1) + x2)) (((os_A o_this 4) (Int32.toNatClampNeg ((((16 : Int32) * x1) - (16 : Int32)) + x2))) + ((os_A o_this 1) (Int32.toNatClampNeg (6 : Int32))))))) H := hP
          have hD : va_D A (ce_X13 kA q_this (ss_A o_this 4 (upd (os_A o_this 4) (Int32.toNatClampNeg (((16 : Int32) * x1) + x2)) (((os_A o_this 4) (Int32.toNatClampNeg ((((16 : Int32) * x1) - (16 : Int32)) + x2))) + ((os_A o_this 1) (Int32.toNatClampNeg (6 : Int32))))))) := hD
          exact hB66 k2 hk2 k14 hk14 (ss_A o_this 4 (upd (os_A o_this 4) (Int32.toNatClampNeg (((16 : Int32) * x1) + x2)) (((os_A o_this 4) (Int32.toNatClampNeg ((((16 : Int32) * x1) - (16 : Int32)) + x2))) + ((os_A o_this 1) (Int32.toNatClampNeg (6 : Int32)))))) x1 x2 _ _ _ hP hD hS (lv_sub hl [0, 1, 2] rfl) hf
  have hL2 : ∀ (n : Nat) (o_this : os_T) (x1 : Int32) (H : Heap) (locs : List Loc) (ls : Array Slot), va_P D vwCl (ce_X13 kA q_this o_this) H → va_D A (ce_X13 kA q_this o_this) → va_S A s.heap H locs → lv_has ls 3 [(0, .ref (q_this 0)), (1, .int x1)] → ff_X13_eases_l2 N n (o_this, x1) = some out → W p l e ({ frames := 2, cells := 0, slots := 0, locals := 43 } : Room) s m [.ref (q_this 0)].toArray below meth c H locs 0 0 (MQ below (mc_Q D kA A none (ce_X13 kA q_this out)) [.ref (q_this 0)].toArray s 0 0 A) (F0 m 2 ls []) := by
    intro n
    induction n with
    | zero => intro o_this x1 H locs ls _ _ _ _ hf; cases hf
    | succ n hk2 =>
      intro o_this x1 H locs ls hP hD hS hl hf
      have hf : ff_X13_eases_c2 N (ff_X13_eases_l2 N n) o_this x1 = some out := hf
      generalize hke : ff_X13_eases_l2 N n = k2 at hk2 hf
      unfold ff_X13_eases_c2 at hf
      refine lv_iload_n hx hb dX13_eases_2 rfl (lv_at hl 1 rfl) ?_
      refine lv_aload_n hx hb dX13_eases_3 rfl (lv_at hl 0 rfl) ?_
      refine va_get (D := D) (ci := 9) (v := .ref (q_this 2)) (C := RX13) (T := TX13) (N := 48) hx hb hUX13 (fun _ h9 => h9) hown hK hP 0 rfl rfl 13 (by decide) (hts (Cond.fieldLink RX13 20 "ReliefBuilderModel" "now" "[I") (List.mem_of_getElem? (i := 1) rfl)) (fun _ h9 => h9) rfl dX13_eases_4 ?_
      refine lv_iconst (v := 1) hx hb dX13_eases_7 (by decide) ?_
      obtain ⟨hi_1, hf⟩ := os_if hf
      refine va_iald hx hb hK hP 2 0 rfl rfl hi_1 dX13_eases_8 ?_
      refine lv_icmp_ge (tgt := 78) hx hb dX13_eases_9 (by decide) (fun hc_2 => ?_) (fun hc_2 => ?_)
      · rw [if_pos hc_2] at hf
        rw [← Option.some.inj hf]
        exact mc_retv hx hb hr hlk hP hK hD hS dX13_eases_78
      · rw [if_neg hc_2] at hf
        refine lv_iconst (v := 0) hx hb dX13_eases_12 (by decide) ?_
        refine lv_istore_n (lv' := [(2, .int (0 : Int32)), (0, .ref (q_this 0)), (1, .int x1)]) hx hb dX13_eases_13 rfl hl (by decide) rfl (fun ls hl => ?_)
        exact hL14 k2 hk2 N o_this x1 (0 : Int32) _ _ _ hP hD hS (lv_sub hl [1, 2, 0] rfl) hf
  unfold ff_X13_eases at hf
  refine lv_iconst (v := 1) hx hb dX13_eases_0 (by decide) ?_
  refine lv_istore_n (lv' := [(1, .int (1 : Int32)), (0, .ref (q_this 0))]) hx hb dX13_eases_1 rfl hl (by decide) rfl (fun ls hl => ?_)
  exact hL2 N o_this (1 : Int32) _ _ _ hP hD hS (lv_sub hl [1, 0] rfl) hf
