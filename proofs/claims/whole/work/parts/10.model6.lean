def ff_X13_numbersOf_b9 (N : Nat) : Option Int32 :=
  some (3 : Int32)
def ff_X13_numbersOf_b42 (N : Nat) : Option Int32 :=
  some (1 : Int32)
def ff_X13_numbersOf (N : Nat) (a0 : Int32) : Option Int32 :=
  (if a0 = 0 then ff_X13_numbersOf_b9 N else (if a0 = (1 : Int32) then ff_X13_numbersOf_b9 N else (if a0 = (2 : Int32) then some (5 : Int32) else (if a0 = (3 : Int32) then some (4 : Int32) else (if a0 = (11 : Int32) then ff_X13_numbersOf_b42 N else (if a0 = (4 : Int32) then ff_X13_numbersOf_b42 N else some (0 : Int32)))))))
set_option maxHeartbeats 4000000 in
set_option maxRecDepth 100000 in
theorem mm_X13_numbersOf (l : Launch) (D : va_G) (kA : Nat → ClassId) (N : Nat) (a0 : Int32) (out : Int32) (hf : ff_X13_numbersOf N a0 = some out) : mc_C l D kA yX13_numbersOf wsX13_numbersOf ({ frames := 0, cells := 0, slots := 0, locals := 0 } : Room) [.int a0] [] (some (.int out)) [] := by
  refine mc_of (cc := cX13_numbersOf) (maxL := 1) (ret := (some .int)) (by decide) rfl (Nat.le_of_ble_eq_true rfl) ?_
  intro p e s m below meth c A B hD hP hS ls hl
  obtain ⟨hx, hb, hr, hlk, hml, hown, hts, hK, hA, hnm⟩ := B
  have hown : s.vm.findClass RX13 = some m.cls := hown
  have hl : lv_has ls 1 [(0, .int a0)] := hl
  have hB9 : ∀ (H : Heap) (locs : List Loc) (ls : Array Slot), va_P D vwCl [] H → va_D A [] → va_S A s.heap H locs → lv_has ls 1 [] → ff_X13_numbersOf_b9 N = some out → W p l e ({ frames := 0, cells := 0, slots := 0, locals := 0 } : Room) s m [.int a0].toArray below meth c H locs 0 0 (MQ below (mc_Q D kA A (some (.int out)) []) [.int a0].toArray s 0 0 A) (F0 m 9 ls []) := by
    intro H locs ls hP hD hS hl hf
    unfold ff_X13_numbersOf_b9 at hf
    refine lv_iconst (v := 3) hx hb dX13_numbersOf_9 (by decide) ?_
    refine lv_goto (tgt := 47) hx hb dX13_numbersOf_10 (by decide) ?_
    rw [← Option.some.inj hf]
    exact mc_reti hx hb hr hlk hP hK hD hS dX13_numbersOf_47
  have hB42 : ∀ (H : Heap) (locs : List Loc) (ls : Array Slot), va_P D vwCl [] H → va_D A [] → va_S A s.heap H locs → lv_has ls 1 [] → ff_X13_numbersOf_b42 N = some out → W p l e ({ frames := 0, cells := 0, slots := 0, locals := 0 } : Room) s m [.int a0].toArray below meth c H locs 0 0 (MQ below (mc_Q D kA A (some (.int out)) []) [.int a0].toArray s 0 0 A) (F0 m 42 ls []) := by
    intro H locs ls hP hD hS hl hf
    unfold ff_X13_numbersOf_b42 at hf
    refine lv_iconst (v := 1) hx hb dX13_numbersOf_42 (by decide) ?_
    refine lv_goto (tgt := 47) hx hb dX13_numbersOf_43 (by decide) ?_
    rw [← Option.some.inj hf]
    exact mc_reti hx hb hr hlk hP hK hD hS dX13_numbersOf_47
  unfold ff_X13_numbersOf at hf
  refine lv_iload_n hx hb dX13_numbersOf_0 rfl (lv_at hl 0 rfl) ?_
  refine lv_if_eq (tgt := 9) hx hb dX13_numbersOf_1 (by decide) (fun hc_1 => ?_) (fun hc_1 => ?_)
  · rw [if_pos hc_1] at hf
    exact hB9 _ _ _ hP hD hS (lv_sub hl [] rfl) hf
  · rw [if_neg hc_1] at hf
    refine lv_iload_n hx hb dX13_numbersOf_4 rfl (lv_at hl 0 rfl) ?_
    refine lv_iconst (v := 1) hx hb dX13_numbersOf_5 (by decide) ?_
    refine lv_icmp_ne (tgt := 13) hx hb dX13_numbersOf_6 (by decide) (fun hc_2 => ?_) (fun hc_2 => ?_)
    · rw [if_neg hc_2] at hf
      refine lv_iload_n hx hb dX13_numbersOf_13 rfl (lv_at hl 0 rfl) ?_
      refine lv_iconst (v := 2) hx hb dX13_numbersOf_14 (by decide) ?_
      refine lv_icmp_ne (tgt := 22) hx hb dX13_numbersOf_15 (by decide) (fun hc_3 => ?_) (fun hc_3 => ?_)
      · rw [if_neg hc_3] at hf
        refine lv_iload_n hx hb dX13_numbersOf_22 rfl (lv_at hl 0 rfl) ?_
        refine lv_iconst (v := 3) hx hb dX13_numbersOf_23 (by decide) ?_
        refine lv_icmp_ne (tgt := 31) hx hb dX13_numbersOf_24 (by decide) (fun hc_4 => ?_) (fun hc_4 => ?_)
        · rw [if_neg hc_4] at hf
          refine lv_iload_n hx hb dX13_numbersOf_31 rfl (lv_at hl 0 rfl) ?_
          refine lv_bipush (v := 11) hx hb dX13_numbersOf_32 (by decide) ?_
          refine lv_icmp_eq (tgt := 42) hx hb dX13_numbersOf_34 (by decide) (fun hc_5 => ?_) (fun hc_5 => ?_)
          · rw [if_pos hc_5] at hf
            exact hB42 _ _ _ hP hD hS (lv_sub hl [] rfl) hf
          · rw [if_neg hc_5] at hf
            refine lv_iload_n hx hb dX13_numbersOf_37 rfl (lv_at hl 0 rfl) ?_
            refine lv_iconst (v := 4) hx hb dX13_numbersOf_38 (by decide) ?_
            refine lv_icmp_ne (tgt := 46) hx hb dX13_numbersOf_39 (by decide) (fun hc_6 => ?_) (fun hc_6 => ?_)
            · rw [if_neg hc_6] at hf
              refine lv_iconst (v := 0) hx hb dX13_numbersOf_46 (by decide) ?_
              rw [← Option.some.inj hf]
              exact mc_reti hx hb hr hlk hP hK hD hS dX13_numbersOf_47
            · rw [if_pos hc_6] at hf
              exact hB42 _ _ _ hP hD hS (lv_sub hl [] rfl) hf
        · rw [if_pos hc_4] at hf
          refine lv_iconst (v := 4) hx hb dX13_numbersOf_27 (by decide) ?_
          refine lv_goto (tgt := 47) hx hb dX13_numbersOf_28 (by decide) ?_
          rw [← Option.some.inj hf]
          exact mc_reti hx hb hr hlk hP hK hD hS dX13_numbersOf_47
      · rw [if_pos hc_3] at hf
        refine lv_iconst (v := 5) hx hb dX13_numbersOf_18 (by decide) ?_
        refine lv_goto (tgt := 47) hx hb dX13_numbersOf_19 (by decide) ?_
        rw [← Option.some.inj hf]
        exact mc_reti hx hb hr hlk hP hK hD hS dX13_numbersOf_47
    · rw [if_pos hc_2] at hf
      exact hB9 _ _ _ hP hD hS (lv_sub hl [] rfl) hf
def ff_X13_command_b187 (N : Nat) (o_this : os_T) (t0 : Int32) (t1 : Int32) : Option os_T :=
  ((ff_X13_truth N t0).bind fun u_32 => some (ss_I o_this 40 (t1 + u_32)))
def ff_X13_command_b143 (N : Nat) (o_this : os_T) (x1 : Int32) : Option os_T :=
  ((ff_X13_isGood N o_this).bind fun u_25 => (if u_25 = 0 then some o_this else (if os_in (os_I o_this 38) 60 then (if x1 = (11 : Int32) then ff_X13_command_b187 N (ss_I (ss_A o_this 13 (upd (os_A o_this 13) (Int32.toNatClampNeg (os_I o_this 38)) x1)) 38 ((os_I o_this 38) + (1 : Int32))) (1 : Int32) (os_I o_this 40) else ff_X13_command_b187 N (ss_I (ss_A o_this 13 (upd (os_A o_this 13) (Int32.toNatClampNeg (os_I o_this 38)) x1)) 38 ((os_I o_this 38) + (1 : Int32))) (0 : Int32) (os_I o_this 40)) else none)))
def ff_X13_command_b121 (N : Nat) (k72 : (os_T × Int32 × Int32) → Option os_T) (o_this : os_T) (x1 : Int32) (x2 : Int32) (t0 : Int32) (t1 : Int32) (t3 : Int32) : Option os_T :=
  ((ff_X13_number N o_this t1 t0).bind fun u_34 => (if os_in t3 300 then k72 (ss_A u_34.2 14 (upd (os_A u_34.2 14) (Int32.toNatClampNeg t3) u_34.1), x1, x2 + 1) else none))
def ff_X13_command_b119 (N : Nat) (k72 : (os_T × Int32 × Int32) → Option os_T) (o_this : os_T) (x1 : Int32) (x2 : Int32) (t0 : Int32) (t2 : Int32) : Option os_T :=
  ff_X13_command_b121 N k72 o_this x1 x2 (20 : Int32) t0 t2
def ff_X13_command_b104 (N : Nat) (k72 : (os_T × Int32 × Int32) → Option os_T) (o_this : os_T) (x1 : Int32) (x2 : Int32) (t0 : Int32) (t2 : Int32) : Option os_T :=
  (if x1 = 0 then (if x2 = (2 : Int32) then ff_X13_command_b121 N k72 o_this x1 x2 (255 : Int32) t0 t2 else ff_X13_command_b119 N k72 o_this x1 x2 t0 t2) else ff_X13_command_b119 N k72 o_this x1 x2 t0 t2)
def ff_X13_command_c72 (N : Nat) (k72 : (os_T × Int32 × Int32) → Option os_T) (o_this : os_T) (x1 : Int32) (x2 : Int32) : Option os_T :=
  ((ff_X13_numbersOf N x1).bind fun u_18 => (if u_18 ≤ x2 then (if x1 = (11 : Int32) then ((ff_X13_mustSign N o_this (40 : Int32)).bind fun u_22 => ff_X13_command_b143 N u_22 x1) else ff_X13_command_b143 N o_this x1) else (if x1 = (11 : Int32) then ff_X13_command_b104 N k72 o_this x1 x2 (1 : Int32) (((5 : Int32) * (os_I o_this 38)) + x2) else ff_X13_command_b104 N k72 o_this x1 x2 (0 : Int32) (((5 : Int32) * (os_I o_this 38)) + x2))))
def ff_X13_command_l72 (N : Nat) : Nat → (os_T × Int32 × Int32) → Option os_T := os_loop (fun k72 s1 => ff_X13_command_c72 N k72 s1.1 s1.2.1 s1.2.2)
def ff_X13_command_b48 (N : Nat) (o_this : os_T) (x1 : Int32) : Option os_T :=
  ((ff_X13_isGood N o_this).bind fun u_13 => (if u_13 = 0 then some o_this else ((ff_X13_goOn N (ss_I o_this 39 ((os_I o_this 39) + (1 : Int32)))).bind fun u_16 => ff_X13_command_l72 N N (u_16, x1, (0 : Int32)))))
def ff_X13_command_b34 (N : Nat) (o_this : os_T) (x1 : Int32) : Option os_T :=
  (if (os_I o_this 39) = (30 : Int32) then ((ff_X13_wrong N o_this (5 : Int32)).bind fun u_11 => ff_X13_command_b48 N u_11 x1) else ff_X13_command_b48 N o_this x1)
def ff_X13_command_b15 (N : Nat) (o_this : os_T) (x1 : Int32) : Option os_T :=
  (if x1 = (11 : Int32) then (if (os_I o_this 40) = (2 : Int32) then ((ff_X13_wrong N o_this (3 : Int32)).bind fun u_8 => ff_X13_command_b34 N u_8 x1) else ff_X13_command_b34 N o_this x1) else ff_X13_command_b34 N o_this x1)
def ff_X13_command (N : Nat) (o_this : os_T) : Option os_T :=
  ((ff_X13_commandHere N o_this).bind fun u_1 => (if u_1 = (-1 : Int32) then ((ff_X13_wrong N o_this (1 : Int32)).bind fun u_4 => ff_X13_command_b15 N u_4 u_1) else ff_X13_command_b15 N o_this u_1))
set_option maxHeartbeats 4000000 in
set_option maxRecDepth 100000 in
theorem mm_X13_command (l : Launch) (D : va_G) (kA : Nat → ClassId) (N : Nat) (q_this : Nat → Nat) (o_this : os_T) (out : os_T) (hf : ff_X13_command N o_this = some out) : mc_C l D kA yX13_command wsX13_command ({ frames := 3, cells := 0, slots := 0, locals := 66 } : Room) [.ref (q_this 0)] (ce_X13 kA q_this o_this) none (ce_X13 kA q_this out) := by
  refine mc_of (cc := cX13_command) (maxL := 3) (ret := none) (by decide) rfl (Nat.le_of_ble_eq_true rfl) ?_
  intro p e s m below meth c A B hD hP hS ls hl
  obtain ⟨hx, hb, hr, hlk, hml, hown, hts, hK, hA, hnm⟩ := B
  have hown : s.vm.findClass RX13 = some m.cls := hown
  have hl : lv_has ls 3 [(0, .ref (q_this 0))] := hl
  have hUX13 : ∀ w ∈ u_ws RX13 TX13 48, w.before [.ref (q_this 0)].toArray s = true := fun w h => hts w (List.mem_cons_of_mem _ (List.mem_append_right _ h))
  have hB187 : ∀ (o_this : os_T) (t0 : Int32) (t1 : Int32) (H : Heap) (locs : List Loc) (ls : Array Slot), va_P D vwCl (ce_X13 kA q_this o_this) H → va_D A (ce_X13 kA q_this o_this) → va_S A s.heap H locs → lv_has ls 3 [] → ff_X13_command_b187 N o_this t0 t1 = some out → W p l e ({ frames := 3, cells := 0, slots := 0, locals := 66 } : Room) s m [.ref (q_this 0)].toArray below meth c H locs 0 0 (MQ below (mc_Q D kA A none (ce_X13 kA q_this out)) [.ref (q_this 0)].toArray s 0 0 A) (F0 m 187 ls [.int t0, .int t1, .ref (q_this 0)]) := by
    intro o_this t0 t1 H locs ls hP hD hS hl hf
    unfold ff_X13_command_b187 at hf
    obtain ⟨u_32, he_33, hf⟩ := os_bd hf
    refine mc_callS ⟨hx, hb, hml, hown, hts⟩ (mm_X13_truth l D kA N t0 u_32 he_33) (va_cwS 1 hts gX13_command_X13_truth rfl rfl rfl (by decide +kernel) ⟨Nat.le_of_ble_eq_true rfl, Nat.le_of_ble_eq_true rfl⟩) (wc := []) rfl hl.1 (As := [.int t0]) (rest := [.int t1, .ref (q_this 0)]) rfl (Nat.le_of_ble_eq_true rfl) dX13_command_187 ⟨Nat.le_of_ble_eq_true rfl, Nat.le_of_ble_eq_true rfl⟩ hK hP hD hS hA [] [0, 1, 2, 3, 4, 5, 6, 7, 8, 9, 10, 11, 12, 13, 14, 15, 16, 17, 18, 19, 20, 21, 22, 23] [0, 1, 2, 3, 4, 5, 6, 7, 8, 9, 10, 11, 12, 13, 14, 15, 16, 17, 18, 19, 20, 21, 22, 23] rfl (by decide) rfl (by decide) (by decide) rfl (by decide) (wr := (ce_X13 kA q_this o_this)) (w2 := (ce_X13 kA q_this o_this)) (fun H locs hP hD hS => ?_)
    have hP : va_P D vwCl (ce_X13 kA q_this o_this) H := hP
    refine lv_iadd hx hb dX13_command_190 ?_
    refine va_put (D := D) (ci := 9) (v := .int (t1 + u_32)) (ty := .int) (C := RX13) (T := TX13) (N := 48) hx hb hUX13 (fun _ h9 => h9) tyX13 tyX13_ok nmX13 hown hK hP hD hS 0 rfl rfl 40 (by decide) (hts (Cond.fieldLink RX13 455 "ReliefBuilderModel" "open" "I") (List.mem_of_getElem? (i := 1) rfl)) (fun _ h9 => h9) rfl (tyX13_ok 40 (by decide)) rfl rfl (Nat.le_of_ble_eq_true rfl) dX13_command_191 (fun H locs hP hD hS => ?_)
    have hP : va_P D vwCl (ce_X13 kA q_this (ss_I o_this 40 (t1 + u_32))) H := hP
    have hD : va_D A (ce_X13 kA q_this (ss_I o_this 40 (t1 + u_32))) := hD
    rw [← Option.some.inj hf]
    exact mc_retv hx hb hr hlk hP hK hD hS dX13_command_194
  have hB143 : ∀ (o_this : os_T) (x1 : Int32) (H : Heap) (locs : List Loc) (ls : Array Slot), va_P D vwCl (ce_X13 kA q_this o_this) H → va_D A (ce_X13 kA q_this o_this) → va_S A s.heap H locs → lv_has ls 3 [(0, .ref (q_this 0)), (1, .int x1)] → ff_X13_command_b143 N o_this x1 = some out → W p l e ({ frames := 3, cells := 0, slots := 0, locals := 66 } : Room) s m [.ref (q_this 0)].toArray below meth c H locs 0 0 (MQ below (mc_Q D kA A none (ce_X13 kA q_this out)) [.ref (q_this 0)].toArray s 0 0 A) (F0 m 143 ls []) := by
    intro o_this x1 H locs ls hP hD hS hl hf
    unfold ff_X13_command_b143 at hf
    refine lv_aload_n hx hb dX13_command_143 rfl (lv_at hl 0 rfl) ?_
    obtain ⟨u_25, he_26, hf⟩ := os_bd hf
    refine mc_callV ⟨hx, hb, hml, hown, hts⟩ (mm_X13_isGood l D kA N q_this o_this u_25 he_26) (cwV 0 hts gX13_command_X13_isGood rfl rfl rfl (by decide +kernel) ⟨Nat.le_of_ble_eq_true rfl, Nat.le_of_ble_eq_true rfl⟩) (wc := (ce_X13 kA q_this o_this)) (ci := 9) (q0 := 0) rfl rfl rfl hl.1 (As := []) (rest := []) rfl (Nat.le_of_ble_eq_true rfl) dX13_command_144 ⟨Nat.le_of_ble_eq_true rfl, Nat.le_of_ble_eq_true rfl⟩ hK hP hD hS hA [0, 1, 2, 3, 4, 5, 6, 7, 8, 9, 10, 11, 12, 13, 14, 15, 16, 17, 18, 19, 20, 21, 22, 23] [] [0, 1, 2, 3, 4, 5, 6, 7, 8, 9, 10, 11, 12, 13, 14, 15, 16, 17, 18, 19, 20, 21, 22, 23] rfl (by decide) rfl (by decide) (by decide) rfl (by decide) (wr := []) (w2 := (ce_X13 kA q_this o_this)) (fun H locs hP hD hS => ?_)
    have hP : va_P D vwCl (ce_X13 kA q_this o_this) H := hP
    refine lv_if_ne (tgt := 151) hx hb dX13_command_147 (by decide) (fun hc_27 => ?_) (fun hc_27 => ?_)
    · rw [if_neg hc_27] at hf
      refine lv_aload_n hx hb dX13_command_151 rfl (lv_at hl 0 rfl) ?_
      refine va_get (D := D) (ci := 9) (v := .ref (q_this 14)) (C := RX13) (T := TX13) (N := 48) hx hb hUX13 (fun _ h9 => h9) hown hK hP 0 rfl rfl 32 (by decide) (hts (Cond.fieldLink RX13 57 "ReliefBuilderModel" "script" "[I") (List.mem_of_getElem? (i := 5) rfl)) (fun _ h9 => h9) rfl dX13_command_152 ?_
      refine lv_aload_n hx hb dX13_command_155 rfl (lv_at hl 0 rfl) ?_
      refine va_get (D := D) (ci := 9) (v := .int (os_I o_this 38)) (C := RX13) (T := TX13) (N := 48) hx hb hUX13 (fun _ h9 => h9) hown hK hP 0 rfl rfl 38 (by decide) (hts (Cond.fieldLink RX13 464 "ReliefBuilderModel" "scripted" "I") (List.mem_of_getElem? (i := 4) rfl)) (fun _ h9 => h9) rfl dX13_command_156 ?_
      refine lv_iload_n hx hb dX13_command_159 rfl (lv_at hl 1 rfl) ?_
      obtain ⟨hi_28, hf⟩ := os_if hf
      refine va_iast hx hb hK hP hD hS 14 0 rfl rfl hi_28 dX13_command_160 (fun H locs hP hD hS => ?_)
      have hP : va_P D vwCl (ce_X13 kA q_this (ss_A o_this 13 (upd (os_A o_this 13) (Int32.toNatClampNeg (os_I o_this 38)) x1))) H := hP
      have hD : va_D A (ce_X13 kA q_this (ss_A o_this 13 (upd (os_A o_this 13) (Int32.toNatClampNeg (os_I o_this 38)) x1))) := hD
      refine lv_aload_n hx hb dX13_command_161 rfl (lv_at hl 0 rfl) ?_
      refine lv_dup hx hb dX13_command_162 rfl ?_
      refine va_get (D := D) (ci := 9) (v := .int (os_I o_this 38)) (C := RX13) (T := TX13) (N := 48) hx hb hUX13 (fun _ h9 => h9) hown hK hP 0 rfl rfl 38 (by decide) (hts (Cond.fieldLink RX13 464 "ReliefBuilderModel" "scripted" "I") (List.mem_of_getElem? (i := 4) rfl)) (fun _ h9 => h9) rfl dX13_command_163 ?_
      refine lv_iconst (v := 1) hx hb dX13_command_166 (by decide) ?_
      refine lv_iadd hx hb dX13_command_167 ?_
      refine va_put (D := D) (ci := 9) (v := .int ((os_I o_this 38) + (1 : Int32))) (ty := .int) (C := RX13) (T := TX13) (N := 48) hx hb hUX13 (fun _ h9 => h9) tyX13 tyX13_ok nmX13 hown hK hP hD hS 0 rfl rfl 38 (by decide) (hts (Cond.fieldLink RX13 464 "ReliefBuilderModel" "scripted" "I") (List.mem_of_getElem? (i := 4) rfl)) (fun _ h9 => h9) rfl (tyX13_ok 38 (by decide)) rfl rfl (Nat.le_of_ble_eq_true rfl) dX13_command_168 (fun H locs hP hD hS => ?_)
      have hP : va_P D vwCl (ce_X13 kA q_this (ss_I (ss_A o_this 13 (upd (os_A o_this 13) (Int32.toNatClampNeg (os_I o_this 38)) x1)) 38 ((os_I o_this 38) + (1 : Int32)))) H := hP
      have hD : va_D A (ce_X13 kA q_this (ss_I (ss_A o_this 13 (upd (os_A o_this 13) (Int32.toNatClampNeg (os_I o_this 38)) x1)) 38 ((os_I o_this 38) + (1 : Int32)))) := hD
      refine lv_aload_n hx hb dX13_command_171 rfl (lv_at hl 0 rfl) ?_
      refine lv_dup hx hb dX13_command_172 rfl ?_
      refine va_get (D := D) (ci := 9) (v := .int (os_I o_this 40)) (C := RX13) (T := TX13) (N := 48) hx hb hUX13 (fun _ h9 => h9) hown hK hP 0 rfl rfl 40 (by decide) (hts (Cond.fieldLink RX13 455 "ReliefBuilderModel" "open" "I") (List.mem_of_getElem? (i := 1) rfl)) (fun _ h9 => h9) rfl dX13_command_173 ?_
      refine lv_iload_n hx hb dX13_command_176 rfl (lv_at hl 1 rfl) ?_
      refine lv_bipush (v := 11) hx hb dX13_command_177 (by decide) ?_
      refine lv_icmp_ne (tgt := 186) hx hb dX13_command_179 (by decide) (fun hc_29 => ?_) (fun hc_29 => ?_)
      · rw [if_neg hc_29] at hf
        refine lv_iconst (v := 0) hx hb dX13_command_186 (by decide) ?_
        exact hB187 (ss_I (ss_A o_this 13 (upd (os_A o_this 13) (Int32.toNatClampNeg (os_I o_this 38)) x1)) 38 ((os_I o_this 38) + (1 : Int32))) (0 : Int32) (os_I o_this 40) _ _ _ hP hD hS (lv_sub hl [] rfl) hf
      · rw [if_pos hc_29] at hf
        refine lv_iconst (v := 1) hx hb dX13_command_182 (by decide) ?_
        refine lv_goto (tgt := 187) hx hb dX13_command_183 (by decide) ?_
        exact hB187 (ss_I (ss_A o_this 13 (upd (os_A o_this 13) (Int32.toNatClampNeg (os_I o_this 38)) x1)) 38 ((os_I o_this 38) + (1 : Int32))) (1 : Int32) (os_I o_this 40) _ _ _ hP hD hS (lv_sub hl [] rfl) hf
    · rw [if_pos hc_27] at hf
      rw [← Option.some.inj hf]
      exact mc_retv hx hb hr hlk hP hK hD hS dX13_command_150
  have hB121 : ∀ (k72 : (os_T × Int32 × Int32) → Option os_T), (∀ (o_this : os_T) (x1 : Int32) (x2 : Int32) (H : Heap) (locs : List Loc) (ls : Array Slot), va_P D vwCl (ce_X13 kA q_this o_this) H → va_D A (ce_X13 kA q_this o_this) → va_S A s.heap H locs → lv_has ls 3 [(0, .ref (q_this 0)), (1, .int x1), (2, .int x2)] → k72 (o_this, x1, x2) = some out → W p l e ({ frames := 3, cells := 0, slots := 0, locals := 66 } : Room) s m [.ref (q_this 0)].toArray below meth c H locs 0 0 (MQ below (mc_Q D kA A none (ce_X13 kA q_this out)) [.ref (q_this 0)].toArray s 0 0 A) (F0 m 72 ls [])) → ∀ (o_this : os_T) (x1 : Int32) (x2 : Int32) (t0 : Int32) (t1 : Int32) (t3 : Int32) (H : Heap) (locs : List Loc) (ls : Array Slot), va_P D vwCl (ce_X13 kA q_this o_this) H → va_D A (ce_X13 kA q_this o_this) → va_S A s.heap H locs → lv_has ls 3 [(0, .ref (q_this 0)), (1, .int x1), (2, .int x2)] → ff_X13_command_b121 N k72 o_this x1 x2 t0 t1 t3 = some out → W p l e ({ frames := 3, cells := 0, slots := 0, locals := 66 } : Room) s m [.ref (q_this 0)].toArray below meth c H locs 0 0 (MQ below (mc_Q D kA A none (ce_X13 kA q_this out)) [.ref (q_this 0)].toArray s 0 0 A) (F0 m 121 ls [.int t0, .int t1, .ref (q_this 0), .int t3, .ref (q_this 15)]) := by
    intro k72 hk72 o_this x1 x2 t0 t1 t3 H locs ls hP hD hS hl hf
    unfold ff_X13_command_b121 at hf
    obtain ⟨u_34, he_35, hf⟩ := os_bd hf
    refine mc_callV ⟨hx, hb, hml, hown, hts⟩ (mm_X13_number l D kA N q_this o_this t1 t0 u_34 he_35) (cwV 2 hts gX13_command_X13_number rfl rfl rfl (by decide +kernel) ⟨Nat.le_of_ble_eq_true rfl, Nat.le_of_ble_eq_true rfl⟩) (wc := (ce_X13 kA q_this o_this)) (ci := 9) (q0 := 0) rfl rfl rfl hl.1 (As := [.int t1, .int t0]) (rest := [.int t3, .ref (q_this 15)]) rfl (Nat.le_of_ble_eq_true rfl) dX13_command_121 ⟨Nat.le_of_ble_eq_true rfl, Nat.le_of_ble_eq_true rfl⟩ hK hP hD hS hA [0, 1, 2, 3, 4, 5, 6, 7, 8, 9, 10, 11, 12, 13, 14, 15, 16, 17, 18, 19, 20, 21, 22, 23] [] [0, 1, 2, 3, 4, 5, 6, 7, 8, 9, 10, 11, 12, 13, 14, 15, 16, 17, 18, 19, 20, 21, 22, 23] rfl (by decide) rfl (by decide) (by decide) rfl (by decide) (wr := []) (w2 := (ce_X13 kA q_this u_34.2)) (fun H locs hP hD hS => ?_)
    have hP : va_P D vwCl (ce_X13 kA q_this u_34.2) H := hP
    obtain ⟨hi_36, hf⟩ := os_if hf
    refine va_iast hx hb hK hP hD hS 15 0 rfl rfl hi_36 dX13_command_124 (fun H locs hP hD hS => ?_)
    have hP : va_P D vwCl (ce_X13 kA q_this (ss_A u_34.2 14 (upd (os_A u_34.2 14) (Int32.toNatClampNeg t3) u_34.1))) H := hP
    have hD : va_D A (ce_X13 kA q_this (ss_A u_34.2 14 (upd (os_A u_34.2 14) (Int32.toNatClampNeg t3) u_34.1))) := hD
    refine lv_iinc (v := x2 + 1) (lv' := [(2, .int (x2 + 1)), (0, .ref (q_this 0)), (1, .int x1)]) hx hb dX13_command_125 hl (k := 2) rfl rfl (by decide) rfl (fun ls hl => ?_)
    refine lv_goto (tgt := 72) hx hb dX13_command_128 (by decide) ?_
    exact hk72 (ss_A u_34.2 14 (upd (os_A u_34.2 14) (Int32.toNatClampNeg t3) u_34.1)) x1 (x2 + 1) _ _ _ hP hD hS (lv_sub hl [1, 2, 0] rfl) hf
  have hB119 : ∀ (k72 : (os_T × Int32 × Int32) → Option os_T), (∀ (o_this : os_T) (x1 : Int32) (x2 : Int32) (H : Heap) (locs : List Loc) (ls : Array Slot), va_P D vwCl (ce_X13 kA q_this o_this) H → va_D A (ce_X13 kA q_this o_this) → va_S A s.heap H locs → lv_has ls 3 [(0, .ref (q_this 0)), (1, .int x1), (2, .int x2)] → k72 (o_this, x1, x2) = some out → W p l e ({ frames := 3, cells := 0, slots := 0, locals := 66 } : Room) s m [.ref (q_this 0)].toArray below meth c H locs 0 0 (MQ below (mc_Q D kA A none (ce_X13 kA q_this out)) [.ref (q_this 0)].toArray s 0 0 A) (F0 m 72 ls [])) → ∀ (o_this : os_T) (x1 : Int32) (x2 : Int32) (t0 : Int32) (t2 : Int32) (H : Heap) (locs : List Loc) (ls : Array Slot), va_P D vwCl (ce_X13 kA q_this o_this) H → va_D A (ce_X13 kA q_this o_this) → va_S A s.heap H locs → lv_has ls 3 [(0, .ref (q_this 0)), (1, .int x1), (2, .int x2)] → ff_X13_command_b119 N k72 o_this x1 x2 t0 t2 = some out → W p l e ({ frames := 3, cells := 0, slots := 0, locals := 66 } : Room) s m [.ref (q_this 0)].toArray below meth c H locs 0 0 (MQ below (mc_Q D kA A none (ce_X13 kA q_this out)) [.ref (q_this 0)].toArray s 0 0 A) (F0 m 119 ls [.int t0, .ref (q_this 0), .int t2, .ref (q_this 15)]) := by
    intro k72 hk72 o_this x1 x2 t0 t2 H locs ls hP hD hS hl hf
    unfold ff_X13_command_b119 at hf
    refine lv_bipush (v := 20) hx hb dX13_command_119 (by decide) ?_
    exact hB121 k72 hk72 o_this x1 x2 (20 : Int32) t0 t2 _ _ _ hP hD hS (lv_sub hl [0, 1, 2] rfl) hf
  have hB104 : ∀ (k72 : (os_T × Int32 × Int32) → Option os_T), (∀ (o_this : os_T) (x1 : Int32) (x2 : Int32) (H : Heap) (locs : List Loc) (ls : Array Slot), va_P D vwCl (ce_X13 kA q_this o_this) H → va_D A (ce_X13 kA q_this o_this) → va_S A s.heap H locs → lv_has ls 3 [(0, .ref (q_this 0)), (1, .int x1), (2, .int x2)] → k72 (o_this, x1, x2) = some out → W p l e ({ frames := 3, cells := 0, slots := 0, locals := 66 } : Room) s m [.ref (q_this 0)].toArray below meth c H locs 0 0 (MQ below (mc_Q D kA A none (ce_X13 kA q_this out)) [.ref (q_this 0)].toArray s 0 0 A) (F0 m 72 ls [])) → ∀ (o_this : os_T) (x1 : Int32) (x2 : Int32) (t0 : Int32) (t2 : Int32) (H : Heap) (locs : List Loc) (ls : Array Slot), va_P D vwCl (ce_X13 kA q_this o_this) H → va_D A (ce_X13 kA q_this o_this) → va_S A s.heap H locs → lv_has ls 3 [(0, .ref (q_this 0)), (1, .int x1), (2, .int x2)] → ff_X13_command_b104 N k72 o_this x1 x2 t0 t2 = some out → W p l e ({ frames := 3, cells := 0, slots := 0, locals := 66 } : Room) s m [.ref (q_this 0)].toArray below meth c H locs 0 0 (MQ below (mc_Q D kA A none (ce_X13 kA q_this out)) [.ref (q_this 0)].toArray s 0 0 A) (F0 m 104 ls [.int t0, .ref (q_this 0), .int t2, .ref (q_this 15)]) := by
    intro k72 hk72 o_this x1 x2 t0 t2 H locs ls hP hD hS hl hf
    unfold ff_X13_command_b104 at hf
    refine lv_iload_n hx hb dX13_command_104 rfl (lv_at hl 1 rfl) ?_
    refine lv_if_ne (tgt := 119) hx hb dX13_command_105 (by decide) (fun hc_30 => ?_) (fun hc_30 => ?_)
    · rw [if_neg hc_30] at hf
      exact hB119 k72 hk72 o_this x1 x2 t0 t2 _ _ _ hP hD hS (lv_sub hl [0, 1, 2] rfl) hf
    · rw [if_pos hc_30] at hf
      refine lv_iload_n hx hb dX13_command_108 rfl (lv_at hl 2 rfl) ?_
      refine lv_iconst (v := 2) hx hb dX13_command_109 (by decide) ?_
      refine lv_icmp_ne (tgt := 119) hx hb dX13_command_110 (by decide) (fun hc_31 => ?_) (fun hc_31 => ?_)
      · rw [if_neg hc_31] at hf
        exact hB119 k72 hk72 o_this x1 x2 t0 t2 _ _ _ hP hD hS (lv_sub hl [0, 1, 2] rfl) hf
      · rw [if_pos hc_31] at hf
        refine lv_sipush (v := 255) hx hb dX13_command_113 (by decide) ?_
        refine lv_goto (tgt := 121) hx hb dX13_command_116 (by decide) ?_
        exact hB121 k72 hk72 o_this x1 x2 (255 : Int32) t0 t2 _ _ _ hP hD hS (lv_sub hl [0, 1, 2] rfl) hf
  have hL72 : ∀ (n : Nat) (o_this : os_T) (x1 : Int32) (x2 : Int32) (H : Heap) (locs : List Loc) (ls : Array Slot), va_P D vwCl (ce_X13 kA q_this o_this) H → va_D A (ce_X13 kA q_this o_this) → va_S A s.heap H locs → lv_has ls 3 [(0, .ref (q_this 0)), (1, .int x1), (2, .int x2)] → ff_X13_command_l72 N n (o_this, x1, x2) = some out → W p l e ({ frames := 3, cells := 0, slots := 0, locals := 66 } : Room) s m [.ref (q_this 0)].toArray below meth c H locs 0 0 (MQ below (mc_Q D kA A none (ce_X13 kA q_this out)) [.ref (q_this 0)].toArray s 0 0 A) (F0 m 72 ls []) := by
    intro n
    induction n with
    | zero => intro o_this x1 x2 H locs ls _ _ _ _ hf; cases hf
    | succ n hk72 =>
      intro o_this x1 x2 H locs ls hP hD hS hl hf
      have hf : ff_X13_command_c72 N (ff_X13_command_l72 N n) o_this x1 x2 = some out := hf
      generalize hke : ff_X13_command_l72 N n = k72 at hk72 hf
      unfold ff_X13_command_c72 at hf
      refine lv_iload_n hx hb dX13_command_72 rfl (lv_at hl 2 rfl) ?_
      refine lv_iload_n hx hb dX13_command_73 rfl (lv_at hl 1 rfl) ?_
      obtain ⟨u_18, he_19, hf⟩ := os_bd hf
      refine mc_callS ⟨hx, hb, hml, hown, hts⟩ (mm_X13_numbersOf l D kA N x1 u_18 he_19) (va_cwS 1 hts gX13_command_X13_numbersOf rfl rfl rfl (by decide +kernel) ⟨Nat.le_of_ble_eq_true rfl, Nat.le_of_ble_eq_true rfl⟩) (wc := []) rfl hl.1 (As := [.int x1]) (rest := [.int x2]) rfl (Nat.le_of_ble_eq_true rfl) dX13_command_74 ⟨Nat.le_of_ble_eq_true rfl, Nat.le_of_ble_eq_true rfl⟩ hK hP hD hS hA [] [0, 1, 2, 3, 4, 5, 6, 7, 8, 9, 10, 11, 12, 13, 14, 15, 16, 17, 18, 19, 20, 21, 22, 23] [0, 1, 2, 3, 4, 5, 6, 7, 8, 9, 10, 11, 12, 13, 14, 15, 16, 17, 18, 19, 20, 21, 22, 23] rfl (by decide) rfl (by decide) (by decide) rfl (by decide) (wr := (ce_X13 kA q_this o_this)) (w2 := (ce_X13 kA q_this o_this)) (fun H locs hP hD hS => ?_)
      have hP : va_P D vwCl (ce_X13 kA q_this o_this) H := hP
      refine lv_icmp_ge (tgt := 131) hx hb dX13_command_77 (by decide) (fun hc_20 => ?_) (fun hc_20 => ?_)
      · rw [if_pos hc_20] at hf
        refine lv_iload_n hx hb dX13_command_131 rfl (lv_at hl 1 rfl) ?_
        refine lv_bipush (v := 11) hx hb dX13_command_132 (by decide) ?_
        refine lv_icmp_ne (tgt := 143) hx hb dX13_command_134 (by decide) (fun hc_21 => ?_) (fun hc_21 => ?_)
        · rw [if_neg hc_21] at hf
          exact hB143 o_this x1 _ _ _ hP hD hS (lv_sub hl [0, 1] rfl) hf
        · rw [if_pos hc_21] at hf
          refine lv_aload_n hx hb dX13_command_137 rfl (lv_at hl 0 rfl) ?_
          refine lv_bipush (v := 40) hx hb dX13_command_138 (by decide) ?_
          obtain ⟨u_22, he_23, hf⟩ := os_bd hf
          refine mc_callV ⟨hx, hb, hml, hown, hts⟩ (mm_X13_mustSign l D kA N q_this o_this (40 : Int32) u_22 he_23) (cwV 1 hts gX13_command_X13_mustSign rfl rfl rfl (by decide +kernel) ⟨Nat.le_of_ble_eq_true rfl, Nat.le_of_ble_eq_true rfl⟩) (wc := (ce_X13 kA q_this o_this)) (ci := 9) (q0 := 0) rfl rfl rfl hl.1 (As := [.int (40 : Int32)]) (rest := []) rfl (Nat.le_of_ble_eq_true rfl) dX13_command_140 ⟨Nat.le_of_ble_eq_true rfl, Nat.le_of_ble_eq_true rfl⟩ hK hP hD hS hA [0, 1, 2, 3, 4, 5, 6, 7, 8, 9, 10, 11, 12, 13, 14, 15, 16, 17, 18, 19, 20, 21, 22, 23] [] [0, 1, 2, 3, 4, 5, 6, 7, 8, 9, 10, 11, 12, 13, 14, 15, 16, 17, 18, 19, 20, 21, 22, 23] rfl (by decide) rfl (by decide) (by decide) rfl (by decide) (wr := []) (w2 := (ce_X13 kA q_this u_22)) (fun H locs hP hD hS => ?_)
          have hP : va_P D vwCl (ce_X13 kA q_this u_22) H := hP
          exact hB143 u_22 x1 _ _ _ hP hD hS (lv_sub hl [0, 1] rfl) hf
      · rw [if_neg hc_20] at hf
        refine lv_aload_n hx hb dX13_command_80 rfl (lv_at hl 0 rfl) ?_
        refine va_get (D := D) (ci := 9) (v := .ref (q_this 15)) (C := RX13) (T := TX13) (N := 48) hx hb hUX13 (fun _ h9 => h9) hown hK hP 0 rfl rfl 33 (by decide) (hts (Cond.fieldLink RX13 60 "ReliefBuilderModel" "told" "[I") (List.mem_of_getElem? (i := 3) rfl)) (fun _ h9 => h9) rfl dX13_command_81 ?_
        refine lv_iconst (v := 5) hx hb dX13_command_84 (by decide) ?_
        refine lv_aload_n hx hb dX13_command_85 rfl (lv_at hl 0 rfl) ?_
        refine va_get (D := D) (ci := 9) (v := .int (os_I o_this 38)) (C := RX13) (T := TX13) (N := 48) hx hb hUX13 (fun _ h9 => h9) hown hK hP 0 rfl rfl 38 (by decide) (hts (Cond.fieldLink RX13 464 "ReliefBuilderModel" "scripted" "I") (List.mem_of_getElem? (i := 4) rfl)) (fun _ h9 => h9) rfl dX13_command_86 ?_
        refine lv_imul hx hb dX13_command_89 ?_
        refine lv_iload_n hx hb dX13_command_90 rfl (lv_at hl 2 rfl) ?_
        refine lv_iadd hx hb dX13_command_91 ?_
        refine lv_aload_n hx hb dX13_command_92 rfl (lv_at hl 0 rfl) ?_
        refine lv_iload_n hx hb dX13_command_93 rfl (lv_at hl 1 rfl) ?_
        refine lv_bipush (v := 11) hx hb dX13_command_94 (by decide) ?_
        refine lv_icmp_ne (tgt := 103) hx hb dX13_command_96 (by decide) (fun hc_24 => ?_) (fun hc_24 => ?_)
        · rw [if_neg hc_24] at hf
          refine lv_iconst (v := 0) hx hb dX13_command_103 (by decide) ?_
          exact hB104 k72 hk72 o_this x1 x2 (0 : Int32) (((5 : Int32) * (os_I o_this 38)) + x2) _ _ _ hP hD hS (lv_sub hl [0, 1, 2] rfl) hf
        · rw [if_pos hc_24] at hf
          refine lv_iconst (v := 1) hx hb dX13_command_99 (by decide) ?_
          refine lv_goto (tgt := 104) hx hb dX13_command_100 (by decide) ?_
          exact hB104 k72 hk72 o_this x1 x2 (1 : Int32) (((5 : Int32) * (os_I o_this 38)) + x2) _ _ _ hP hD hS (lv_sub hl [0, 1, 2] rfl) hf
  have hB48 : ∀ (o_this : os_T) (x1 : Int32) (H : Heap) (locs : List Loc) (ls : Array Slot), va_P D vwCl (ce_X13 kA q_this o_this) H → va_D A (ce_X13 kA q_this o_this) → va_S A s.heap H locs → lv_has ls 3 [(0, .ref (q_this 0)), (1, .int x1)] → ff_X13_command_b48 N o_this x1 = some out → W p l e ({ frames := 3, cells := 0, slots := 0, locals := 66 } : Room) s m [.ref (q_this 0)].toArray below meth c H locs 0 0 (MQ below (mc_Q D kA A none (ce_X13 kA q_this out)) [.ref (q_this 0)].toArray s 0 0 A) (F0 m 48 ls []) := by
    intro o_this x1 H locs ls hP hD hS hl hf
    unfold ff_X13_command_b48 at hf
    refine lv_aload_n hx hb dX13_command_48 rfl (lv_at hl 0 rfl) ?_
    obtain ⟨u_13, he_14, hf⟩ := os_bd hf
    refine mc_callV ⟨hx, hb, hml, hown, hts⟩ (mm_X13_isGood l D kA N q_this o_this u_13 he_14) (cwV 0 hts gX13_command_X13_isGood rfl rfl rfl (by decide +kernel) ⟨Nat.le_of_ble_eq_true rfl, Nat.le_of_ble_eq_true rfl⟩) (wc := (ce_X13 kA q_this o_this)) (ci := 9) (q0 := 0) rfl rfl rfl hl.1 (As := []) (rest := []) rfl (Nat.le_of_ble_eq_true rfl) dX13_command_49 ⟨Nat.le_of_ble_eq_true rfl, Nat.le_of_ble_eq_true rfl⟩ hK hP hD hS hA [0, 1, 2, 3, 4, 5, 6, 7, 8, 9, 10, 11, 12, 13, 14, 15, 16, 17, 18, 19, 20, 21, 22, 23] [] [0, 1, 2, 3, 4, 5, 6, 7, 8, 9, 10, 11, 12, 13, 14, 15, 16, 17, 18, 19, 20, 21, 22, 23] rfl (by decide) rfl (by decide) (by decide) rfl (by decide) (wr := []) (w2 := (ce_X13 kA q_this o_this)) (fun H locs hP hD hS => ?_)
    have hP : va_P D vwCl (ce_X13 kA q_this o_this) H := hP
    refine lv_if_ne (tgt := 56) hx hb dX13_command_52 (by decide) (fun hc_15 => ?_) (fun hc_15 => ?_)
    · rw [if_neg hc_15] at hf
      refine lv_aload_n hx hb dX13_command_56 rfl (lv_at hl 0 rfl) ?_
      refine lv_dup hx hb dX13_command_57 rfl ?_
      refine va_get (D := D) (ci := 9) (v := .int (os_I o_this 39)) (C := RX13) (T := TX13) (N := 48) hx hb hUX13 (fun _ h9 => h9) hown hK hP 0 rfl rfl 39 (by decide) (hts (Cond.fieldLink RX13 458 "ReliefBuilderModel" "wordsHad" "I") (List.mem_of_getElem? (i := 2) rfl)) (fun _ h9 => h9) rfl dX13_command_58 ?_
      refine lv_iconst (v := 1) hx hb dX13_command_61 (by decide) ?_
      refine lv_iadd hx hb dX13_command_62 ?_
      refine va_put (D := D) (ci := 9) (v := .int ((os_I o_this 39) + (1 : Int32))) (ty := .int) (C := RX13) (T := TX13) (N := 48) hx hb hUX13 (fun _ h9 => h9) tyX13 tyX13_ok nmX13 hown hK hP hD hS 0 rfl rfl 39 (by decide) (hts (Cond.fieldLink RX13 458 "ReliefBuilderModel" "wordsHad" "I") (List.mem_of_getElem? (i := 2) rfl)) (fun _ h9 => h9) rfl (tyX13_ok 39 (by decide)) rfl rfl (Nat.le_of_ble_eq_true rfl) dX13_command_63 (fun H locs hP hD hS => ?_)
      have hP : va_P D vwCl (ce_X13 kA q_this (ss_I o_this 39 ((os_I o_this 39) + (1 : Int32)))) H := hP
      have hD : va_D A (ce_X13 kA q_this (ss_I o_this 39 ((os_I o_this 39) + (1 : Int32)))) := hD
      refine lv_aload_n hx hb dX13_command_66 rfl (lv_at hl 0 rfl) ?_
      obtain ⟨u_16, he_17, hf⟩ := os_bd hf
      refine mc_callV ⟨hx, hb, hml, hown, hts⟩ (mm_X13_goOn l D kA N q_this (ss_I o_this 39 ((os_I o_this 39) + (1 : Int32))) u_16 he_17) (cwV 0 hts gX13_command_X13_goOn rfl rfl rfl (by decide +kernel) ⟨Nat.le_of_ble_eq_true rfl, Nat.le_of_ble_eq_true rfl⟩) (wc := (ce_X13 kA q_this (ss_I o_this 39 ((os_I o_this 39) + (1 : Int32))))) (ci := 9) (q0 := 0) rfl rfl rfl hl.1 (As := []) (rest := []) rfl (Nat.le_of_ble_eq_true rfl) dX13_command_67 ⟨Nat.le_of_ble_eq_true rfl, Nat.le_of_ble_eq_true rfl⟩ hK hP hD hS hA [0, 1, 2, 3, 4, 5, 6, 7, 8, 9, 10, 11, 12, 13, 14, 15, 16, 17, 18, 19, 20, 21, 22, 23] [] [0, 1, 2, 3, 4, 5, 6, 7, 8, 9, 10, 11, 12, 13, 14, 15, 16, 17, 18, 19, 20, 21, 22, 23] rfl (by decide) rfl (by decide) (by decide) rfl (by decide) (wr := []) (w2 := (ce_X13 kA q_this u_16)) (fun H locs hP hD hS => ?_)
      have hP : va_P D vwCl (ce_X13 kA q_this u_16) H := hP
      refine lv_iconst (v := 0) hx hb dX13_command_70 (by decide) ?_
      refine lv_istore_n (lv' := [(2, .int (0 : Int32)), (0, .ref (q_this 0)), (1, .int x1)]) hx hb dX13_command_71 rfl hl (by decide) rfl (fun ls hl => ?_)
      exact hL72 N u_16 x1 (0 : Int32) _ _ _ hP hD hS (lv_sub hl [1, 2, 0] rfl) hf
    · rw [if_pos hc_15] at hf
      rw [← Option.some.inj hf]
      exact mc_retv hx hb hr hlk hP hK hD hS dX13_command_55
  have hB34 : ∀ (o_this : os_T) (x1 : Int32) (H : Heap) (locs : List Loc) (ls : Array Slot), va_P D vwCl (ce_X13 kA q_this o_this) H → va_D A (ce_X13 kA q_this o_this) → va_S A s.heap H locs → lv_has ls 3 [(0, .ref (q_this 0)), (1, .int x1)] → ff_X13_command_b34 N o_this x1 = some out → W p l e ({ frames := 3, cells := 0, slots := 0, locals := 66 } : Room) s m [.ref (q_this 0)].toArray below meth c H locs 0 0 (MQ below (mc_Q D kA A none (ce_X13 kA q_this out)) [.ref (q_this 0)].toArray s 0 0 A) (F0 m 34 ls []) := by
    intro o_this x1 H locs ls hP hD hS hl hf
    unfold ff_X13_command_b34 at hf
    refine lv_aload_n hx hb dX13_command_34 rfl (lv_at hl 0 rfl) ?_
    refine va_get (D := D) (ci := 9) (v := .int (os_I o_this 39)) (C := RX13) (T := TX13) (N := 48) hx hb hUX13 (fun _ h9 => h9) hown hK hP 0 rfl rfl 39 (by decide) (hts (Cond.fieldLink RX13 458 "ReliefBuilderModel" "wordsHad" "I") (List.mem_of_getElem? (i := 2) rfl)) (fun _ h9 => h9) rfl dX13_command_35 ?_
    refine lv_bipush (v := 30) hx hb dX13_command_38 (by decide) ?_
    refine lv_icmp_ne (tgt := 48) hx hb dX13_command_40 (by decide) (fun hc_10 => ?_) (fun hc_10 => ?_)
    · rw [if_neg hc_10] at hf
      exact hB48 o_this x1 _ _ _ hP hD hS (lv_sub hl [0, 1] rfl) hf
    · rw [if_pos hc_10] at hf
      refine lv_aload_n hx hb dX13_command_43 rfl (lv_at hl 0 rfl) ?_
      refine lv_iconst (v := 5) hx hb dX13_command_44 (by decide) ?_
      obtain ⟨u_11, he_12, hf⟩ := os_bd hf
      refine mc_callV ⟨hx, hb, hml, hown, hts⟩ (mm_X13_wrong l D kA N q_this o_this (5 : Int32) u_11 he_12) (cwV 1 hts gX13_command_X13_wrong rfl rfl rfl (by decide +kernel) ⟨Nat.le_of_ble_eq_true rfl, Nat.le_of_ble_eq_true rfl⟩) (wc := (ce_X13 kA q_this o_this)) (ci := 9) (q0 := 0) rfl rfl rfl hl.1 (As := [.int (5 : Int32)]) (rest := []) rfl (Nat.le_of_ble_eq_true rfl) dX13_command_45 ⟨Nat.le_of_ble_eq_true rfl, Nat.le_of_ble_eq_true rfl⟩ hK hP hD hS hA [0, 1, 2, 3, 4, 5, 6, 7, 8, 9, 10, 11, 12, 13, 14, 15, 16, 17, 18, 19, 20, 21, 22, 23] [] [0, 1, 2, 3, 4, 5, 6, 7, 8, 9, 10, 11, 12, 13, 14, 15, 16, 17, 18, 19, 20, 21, 22, 23] rfl (by decide) rfl (by decide) (by decide) rfl (by decide) (wr := []) (w2 := (ce_X13 kA q_this u_11)) (fun H locs hP hD hS => ?_)
      have hP : va_P D vwCl (ce_X13 kA q_this u_11) H := hP
      exact hB48 u_11 x1 _ _ _ hP hD hS (lv_sub hl [0, 1] rfl) hf
  have hB15 : ∀ (o_this : os_T) (x1 : Int32) (H : Heap) (locs : List Loc) (ls : Array Slot), va_P D vwCl (ce_X13 kA q_this o_this) H → va_D A (ce_X13 kA q_this o_this) → va_S A s.heap H locs → lv_has ls 3 [(0, .ref (q_this 0)), (1, .int x1)] → ff_X13_command_b15 N o_this x1 = some out → W p l e ({ frames := 3, cells := 0, slots := 0, locals := 66 } : Room) s m [.ref (q_this 0)].toArray below meth c H locs 0 0 (MQ below (mc_Q D kA A none (ce_X13 kA q_this out)) [.ref (q_this 0)].toArray s 0 0 A) (F0 m 15 ls []) := by
    intro o_this x1 H locs ls hP hD hS hl hf
    unfold ff_X13_command_b15 at hf
    refine lv_iload_n hx hb dX13_command_15 rfl (lv_at hl 1 rfl) ?_
    refine lv_bipush (v := 11) hx hb dX13_command_16 (by decide) ?_
    refine lv_icmp_ne (tgt := 34) hx hb dX13_command_18 (by decide) (fun hc_6 => ?_) (fun hc_6 => ?_)
    · rw [if_neg hc_6] at hf
      exact hB34 o_this x1 _ _ _ hP hD hS (lv_sub hl [0, 1] rfl) hf
    · rw [if_pos hc_6] at hf
      refine lv_aload_n hx hb dX13_command_21 rfl (lv_at hl 0 rfl) ?_
      refine va_get (D := D) (ci := 9) (v := .int (os_I o_this 40)) (C := RX13) (T := TX13) (N := 48) hx hb hUX13 (fun _ h9 => h9) hown hK hP 0 rfl rfl 40 (by decide) (hts (Cond.fieldLink RX13 455 "ReliefBuilderModel" "open" "I") (List.mem_of_getElem? (i := 1) rfl)) (fun _ h9 => h9) rfl dX13_command_22 ?_
      refine lv_iconst (v := 2) hx hb dX13_command_25 (by decide) ?_
      refine lv_icmp_ne (tgt := 34) hx hb dX13_command_26 (by decide) (fun hc_7 => ?_) (fun hc_7 => ?_)
      · rw [if_neg hc_7] at hf
        exact hB34 o_this x1 _ _ _ hP hD hS (lv_sub hl [0, 1] rfl) hf
      · rw [if_pos hc_7] at hf
        refine lv_aload_n hx hb dX13_command_29 rfl (lv_at hl 0 rfl) ?_
        refine lv_iconst (v := 3) hx hb dX13_command_30 (by decide) ?_
        obtain ⟨u_8, he_9, hf⟩ := os_bd hf
        refine mc_callV ⟨hx, hb, hml, hown, hts⟩ (mm_X13_wrong l D kA N q_this o_this (3 : Int32) u_8 he_9) (cwV 1 hts gX13_command_X13_wrong rfl rfl rfl (by decide +kernel) ⟨Nat.le_of_ble_eq_true rfl, Nat.le_of_ble_eq_true rfl⟩) (wc := (ce_X13 kA q_this o_this)) (ci := 9) (q0 := 0) rfl rfl rfl hl.1 (As := [.int (3 : Int32)]) (rest := []) rfl (Nat.le_of_ble_eq_true rfl) dX13_command_31 ⟨Nat.le_of_ble_eq_true rfl, Nat.le_of_ble_eq_true rfl⟩ hK hP hD hS hA [0, 1, 2, 3, 4, 5, 6, 7, 8, 9, 10, 11, 12, 13, 14, 15, 16, 17, 18, 19, 20, 21, 22, 23] [] [0, 1, 2, 3, 4, 5, 6, 7, 8, 9, 10, 11, 12, 13, 14, 15, 16, 17, 18, 19, 20, 21, 22, 23] rfl (by decide) rfl (by decide) (by decide) rfl (by decide) (wr := []) (w2 := (ce_X13 kA q_this u_8)) (fun H locs hP hD hS => ?_)
        have hP : va_P D vwCl (ce_X13 kA q_this u_8) H := hP
        exact hB34 u_8 x1 _ _ _ hP hD hS (lv_sub hl [0, 1] rfl) hf
  unfold ff_X13_command at hf
  refine lv_aload_n hx hb dX13_command_0 rfl (lv_at hl 0 rfl) ?_
  obtain ⟨u_1, he_2, hf⟩ := os_bd hf
  refine mc_callV ⟨hx, hb, hml, hown, hts⟩ (mm_X13_commandHere l D kA N q_this o_this u_1 he_2) (cwV 0 hts gX13_command_X13_commandHere rfl rfl rfl (by decide +kernel) ⟨Nat.le_of_ble_eq_true rfl, Nat.le_of_ble_eq_true rfl⟩) (wc := (ce_X13 kA q_this o_this)) (ci := 9) (q0 := 0) rfl rfl rfl hl.1 (As := []) (rest := []) rfl (Nat.le_of_ble_eq_true rfl) dX13_command_1 ⟨Nat.le_of_ble_eq_true rfl, Nat.le_of_ble_eq_true rfl⟩ hK hP hD hS hA [0, 1, 2, 3, 4, 5, 6, 7, 8, 9, 10, 11, 12, 13, 14, 15, 16, 17, 18, 19, 20, 21, 22, 23] [] [0, 1, 2, 3, 4, 5, 6, 7, 8, 9, 10, 11, 12, 13, 14, 15, 16, 17, 18, 19, 20, 21, 22, 23] rfl (by decide) rfl (by decide) (by decide) rfl (by decide) (wr := []) (w2 := (ce_X13 kA q_this o_this)) (fun H locs hP hD hS => ?_)
  have hP : va_P D vwCl (ce_X13 kA q_this o_this) H := hP
  refine lv_istore_n (lv' := [(1, .int u_1), (0, .ref (q_this 0))]) hx hb dX13_command_4 rfl hl (by decide) rfl (fun ls hl => ?_)
  refine lv_iload_n hx hb dX13_command_5 rfl (lv_at hl 0 rfl) ?_
  refine lv_iconst (v := (-1)) hx hb dX13_command_6 (by decide) ?_
  refine lv_icmp_ne (tgt := 15) hx hb dX13_command_7 (by decide) (fun hc_3 => ?_) (fun hc_3 => ?_)
  · rw [if_neg hc_3] at hf
    exact hB15 o_this u_1 _ _ _ hP hD hS (lv_sub hl [1, 0] rfl) hf
  · rw [if_pos hc_3] at hf
    refine lv_aload_n hx hb dX13_command_10 rfl (lv_at hl 1 rfl) ?_
    refine lv_iconst (v := 1) hx hb dX13_command_11 (by decide) ?_
    obtain ⟨u_4, he_5, hf⟩ := os_bd hf
    refine mc_callV ⟨hx, hb, hml, hown, hts⟩ (mm_X13_wrong l D kA N q_this o_this (1 : Int32) u_4 he_5) (cwV 1 hts gX13_command_X13_wrong rfl rfl rfl (by decide +kernel) ⟨Nat.le_of_ble_eq_true rfl, Nat.le_of_ble_eq_true rfl⟩) (wc := (ce_X13 kA q_this o_this)) (ci := 9) (q0 := 0) rfl rfl rfl hl.1 (As := [.int (1 : Int32)]) (rest := []) rfl (Nat.le_of_ble_eq_true rfl) dX13_command_12 ⟨Nat.le_of_ble_eq_true rfl, Nat.le_of_ble_eq_true rfl⟩ hK hP hD hS hA [0, 1, 2, 3, 4, 5, 6, 7, 8, 9, 10, 11, 12, 13, 14, 15, 16, 17, 18, 19, 20, 21, 22, 23] [] [0, 1, 2, 3, 4, 5, 6, 7, 8, 9, 10, 11, 12, 13, 14, 15, 16, 17, 18, 19, 20, 21, 22, 23] rfl (by decide) rfl (by decide) (by decide) rfl (by decide) (wr := []) (w2 := (ce_X13 kA q_this u_4)) (fun H locs hP hD hS => ?_)
    have hP : va_P D vwCl (ce_X13 kA q_this u_4) H := hP
    exact hB15 u_4 u_1 _ _ _ hP hD hS (lv_sub hl [1, 0] rfl) hf
def ff_X13_closes_c0 (N : Nat) (k0 : os_T → Option os_T) (o_this : os_T) : Option os_T :=
  (if (os_I o_this 40) ≤ 0 then some o_this else ((ff_X13_isSign N o_this (41 : Int32)).bind fun u_2 => (if u_2 = 0 then some o_this else (if os_in (os_I o_this 38) 60 then ((ff_X13_goOn N (ss_I (ss_I (ss_A o_this 13 (upd (os_A o_this 13) (Int32.toNatClampNeg (os_I o_this 38)) (12 : Int32))) 38 ((os_I o_this 38) + (1 : Int32))) 40 ((os_I o_this 40) - (1 : Int32)))).bind fun u_6 => ((ff_X13_mustSign N u_6 (59 : Int32)).bind fun u_8 => k0 u_8)) else none))))
def ff_X13_closes_l0 (N : Nat) : Nat → os_T → Option os_T := os_loop (fun k0 s1 => ff_X13_closes_c0 N k0 s1)
def ff_X13_closes (N : Nat) (o_this : os_T) : Option os_T :=
  ff_X13_closes_l0 N N o_this
set_option maxHeartbeats 4000000 in
set_option maxRecDepth 100000 in
theorem mm_X13_closes (l : Launch) (D : va_G) (kA : Nat → ClassId) (N : Nat) (q_this : Nat → Nat) (o_this : os_T) (out : os_T) (hf : ff_X13_closes N o_this = some out) : mc_C l D kA yX13_closes wsX13_closes ({ frames := 3, cells := 0, slots := 0, locals := 64 } : Room) [.ref (q_this 0)] (ce_X13 kA q_this o_this) none (ce_X13 kA q_this out) := by
  refine mc_of (cc := cX13_closes) (maxL := 1) (ret := none) (by decide) rfl (Nat.le_of_ble_eq_true rfl) ?_
  intro p e s m below meth c A B hD hP hS ls hl
  obtain ⟨hx, hb, hr, hlk, hml, hown, hts, hK, hA, hnm⟩ := B
  have hown : s.vm.findClass RX13 = some m.cls := hown
  have hl : lv_has ls 1 [(0, .ref (q_this 0))] := hl
  have hUX13 : ∀ w ∈ u_ws RX13 TX13 48, w.before [.ref (q_this 0)].toArray s = true := fun w h => hts w (List.mem_cons_of_mem _ (List.mem_append_right _ h))
  have hL0 : ∀ (n : Nat) (o_this : os_T) (H : Heap) (locs : List Loc) (ls : Array Slot), va_P D vwCl (ce_X13 kA q_this o_this) H → va_D A (ce_X13 kA q_this o_this) → va_S A s.heap H locs → lv_has ls 1 [(0, .ref (q_this 0))] → ff_X13_closes_l0 N n o_this = some out → W p l e ({ frames := 3, cells := 0, slots := 0, locals := 64 } : Room) s m [.ref (q_this 0)].toArray below meth c H locs 0 0 (MQ below (mc_Q D kA A none (ce_X13 kA q_this out)) [.ref (q_this 0)].toArray s 0 0 A) (F0 m 0 ls []) := by
    intro n
    induction n with
    | zero => intro o_this H locs ls _ _ _ _ hf; cases hf
    | succ n hk0 =>
      intro o_this H locs ls hP hD hS hl hf
      have hf : ff_X13_closes_c0 N (ff_X13_closes_l0 N n) o_this = some out := hf
      generalize hke : ff_X13_closes_l0 N n = k0 at hk0 hf
      unfold ff_X13_closes_c0 at hf
      refine lv_aload_n hx hb dX13_closes_0 rfl (lv_at hl 0 rfl) ?_
      refine va_get (D := D) (ci := 9) (v := .int (os_I o_this 40)) (C := RX13) (T := TX13) (N := 48) hx hb hUX13 (fun _ h9 => h9) hown hK hP 0 rfl rfl 40 (by decide) (hts (Cond.fieldLink RX13 455 "ReliefBuilderModel" "open" "I") (List.mem_of_getElem? (i := 1) rfl)) (fun _ h9 => h9) rfl dX13_closes_1 ?_
      refine lv_if_le (tgt := 60) hx hb dX13_closes_4 (by decide) (fun hc_1 => ?_) (fun hc_1 => ?_)
      · rw [if_pos hc_1] at hf
        rw [← Option.some.inj hf]
        exact mc_retv hx hb hr hlk hP hK hD hS dX13_closes_60
      · rw [if_neg hc_1] at hf
        refine lv_aload_n hx hb dX13_closes_7 rfl (lv_at hl 0 rfl) ?_
        refine lv_bipush (v := 41) hx hb dX13_closes_8 (by decide) ?_
        obtain ⟨u_2, he_3, hf⟩ := os_bd hf
        refine mc_callV ⟨hx, hb, hml, hown, hts⟩ (mm_X13_isSign l D kA N q_this o_this (41 : Int32) u_2 he_3) (cwV 1 hts gX13_closes_X13_isSign rfl rfl rfl (by decide +kernel) ⟨Nat.le_of_ble_eq_true rfl, Nat.le_of_ble_eq_true rfl⟩) (wc := (ce_X13 kA q_this o_this)) (ci := 9) (q0 := 0) rfl rfl rfl hl.1 (As := [.int (41 : Int32)]) (rest := []) rfl (Nat.le_of_ble_eq_true rfl) dX13_closes_10 ⟨Nat.le_of_ble_eq_true rfl, Nat.le_of_ble_eq_true rfl⟩ hK hP hD hS hA [0, 1, 2, 3, 4, 5, 6, 7, 8, 9, 10, 11, 12, 13, 14, 15, 16, 17, 18, 19, 20, 21, 22, 23] [] [0, 1, 2, 3, 4, 5, 6, 7, 8, 9, 10, 11, 12, 13, 14, 15, 16, 17, 18, 19, 20, 21, 22, 23] rfl (by decide) rfl (by decide) (by decide) rfl (by decide) (wr := []) (w2 := (ce_X13 kA q_this o_this)) (fun H locs hP hD hS => ?_)
        have hP : va_P D vwCl (ce_X13 kA q_this o_this) H := hP
        refine lv_if_eq (tgt := 60) hx hb dX13_closes_13 (by decide) (fun hc_4 => ?_) (fun hc_4 => ?_)
        · rw [if_pos hc_4] at hf
          rw [← Option.some.inj hf]
          exact mc_retv hx hb hr hlk hP hK hD hS dX13_closes_60
        · rw [if_neg hc_4] at hf
          refine lv_aload_n hx hb dX13_closes_16 rfl (lv_at hl 0 rfl) ?_
          refine lv_dup hx hb dX13_closes_17 rfl ?_
          refine va_get (D := D) (ci := 9) (v := .int (os_I o_this 40)) (C := RX13) (T := TX13) (N := 48) hx hb hUX13 (fun _ h9 => h9) hown hK hP 0 rfl rfl 40 (by decide) (hts (Cond.fieldLink RX13 455 "ReliefBuilderModel" "open" "I") (List.mem_of_getElem? (i := 1) rfl)) (fun _ h9 => h9) rfl dX13_closes_18 ?_
          refine lv_iconst (v := 1) hx hb dX13_closes_21 (by decide) ?_
          refine lv_isub hx hb dX13_closes_22 ?_
          refine va_put (D := D) (ci := 9) (v := .int ((os_I o_this 40) - (1 : Int32))) (ty := .int) (C := RX13) (T := TX13) (N := 48) hx hb hUX13 (fun _ h9 => h9) tyX13 tyX13_ok nmX13 hown hK hP hD hS 0 rfl rfl 40 (by decide) (hts (Cond.fieldLink RX13 455 "ReliefBuilderModel" "open" "I") (List.mem_of_getElem? (i := 1) rfl)) (fun _ h9 => h9) rfl (tyX13_ok 40 (by decide)) rfl rfl (Nat.le_of_ble_eq_true rfl) dX13_closes_23 (fun H locs hP hD hS => ?_)
          have hP : va_P D vwCl (ce_X13 kA q_this (ss_I o_this 40 ((os_I o_this 40) - (1 : Int32)))) H := hP
          have hD : va_D A (ce_X13 kA q_this (ss_I o_this 40 ((os_I o_this 40) - (1 : Int32)))) := hD
          refine lv_aload_n hx hb dX13_closes_26 rfl (lv_at hl 0 rfl) ?_
          refine va_get (D := D) (ci := 9) (v := .ref (q_this 14)) (C := RX13) (T := TX13) (N := 48) hx hb hUX13 (fun _ h9 => h9) hown hK hP 0 rfl rfl 32 (by decide) (hts (Cond.fieldLink RX13 57 "ReliefBuilderModel" "script" "[I") (List.mem_of_getElem? (i := 2) rfl)) (fun _ h9 => h9) rfl dX13_closes_27 ?_
          refine lv_aload_n hx hb dX13_closes_30 rfl (lv_at hl 0 rfl) ?_
          refine va_get (D := D) (ci := 9) (v := .int (os_I o_this 38)) (C := RX13) (T := TX13) (N := 48) hx hb hUX13 (fun _ h9 => h9) hown hK hP 0 rfl rfl 38 (by decide) (hts (Cond.fieldLink RX13 464 "ReliefBuilderModel" "scripted" "I") (List.mem_of_getElem? (i := 3) rfl)) (fun _ h9 => h9) rfl dX13_closes_31 ?_
          refine lv_bipush (v := 12) hx hb dX13_closes_34 (by decide) ?_
          obtain ⟨hi_5, hf⟩ := os_if hf
          refine va_iast hx hb hK hP hD hS 14 0 rfl rfl hi_5 dX13_closes_36 (fun H locs hP hD hS => ?_)
          have hP : va_P D vwCl (ce_X13 kA q_this (ss_I (ss_A o_this 13 (upd (os_A o_this 13) (Int32.toNatClampNeg (os_I o_this 38)) (12 : Int32))) 40 ((os_I o_this 40) - (1 : Int32)))) H := hP
          have hD : va_D A (ce_X13 kA q_this (ss_I (ss_A o_this 13 (upd (os_A o_this 13) (Int32.toNatClampNeg (os_I o_this 38)) (12 : Int32))) 40 ((os_I o_this 40) - (1 : Int32)))) := hD
          refine lv_aload_n hx hb dX13_closes_37 rfl (lv_at hl 0 rfl) ?_
          refine lv_dup hx hb dX13_closes_38 rfl ?_
          refine va_get (D := D) (ci := 9) (v := .int (os_I o_this 38)) (C := RX13) (T := TX13) (N := 48) hx hb hUX13 (fun _ h9 => h9) hown hK hP 0 rfl rfl 38 (by decide) (hts (Cond.fieldLink RX13 464 "ReliefBuilderModel" "scripted" "I") (List.mem_of_getElem? (i := 3) rfl)) (fun _ h9 => h9) rfl dX13_closes_39 ?_
          refine lv_iconst (v := 1) hx hb dX13_closes_42 (by decide) ?_
          refine lv_iadd hx hb dX13_closes_43 ?_
          refine va_put (D := D) (ci := 9) (v := .int ((os_I o_this 38) + (1 : Int32))) (ty := .int) (C := RX13) (T := TX13) (N := 48) hx hb hUX13 (fun _ h9 => h9) tyX13 tyX13_ok nmX13 hown hK hP hD hS 0 rfl rfl 38 (by decide) (hts (Cond.fieldLink RX13 464 "ReliefBuilderModel" "scripted" "I") (List.mem_of_getElem? (i := 3) rfl)) (fun _ h9 => h9) rfl (tyX13_ok 38 (by decide)) rfl rfl (Nat.le_of_ble_eq_true rfl) dX13_closes_44 (fun H locs hP hD hS => ?_)
          have hP : va_P D vwCl (ce_X13 kA q_this (ss_I (ss_I (ss_A o_this 13 (upd (os_A o_this 13) (Int32.toNatClampNeg (os_I o_this 38)) (12 : Int32))) 38 ((os_I o_this 38) + (1 : Int32))) 40 ((os_I o_this 40) - (1 : Int32)))) H := hP
          have hD : va_D A (ce_X13 kA q_this (ss_I (ss_I (ss_A o_this 13 (upd (os_A o_this 13) (Int32.toNatClampNeg (os_I o_this 38)) (12 : Int32))) 38 ((os_I o_this 38) + (1 : Int32))) 40 ((os_I o_this 40) - (1 : Int32)))) := hD
          refine lv_aload_n hx hb dX13_closes_47 rfl (lv_at hl 0 rfl) ?_
          obtain ⟨u_6, he_7, hf⟩ := os_bd hf
          refine mc_callV ⟨hx, hb, hml, hown, hts⟩ (mm_X13_goOn l D kA N q_this (ss_I (ss_I (ss_A o_this 13 (upd (os_A o_this 13) (Int32.toNatClampNeg (os_I o_this 38)) (12 : Int32))) 38 ((os_I o_this 38) + (1 : Int32))) 40 ((os_I o_this 40) - (1 : Int32))) u_6 he_7) (cwV 0 hts gX13_closes_X13_goOn rfl rfl rfl (by decide +kernel) ⟨Nat.le_of_ble_eq_true rfl, Nat.le_of_ble_eq_true rfl⟩) (wc := (ce_X13 kA q_this (ss_I (ss_I (ss_A o_this 13 (upd (os_A o_this 13) (Int32.toNatClampNeg (os_I o_this 38)) (12 : Int32))) 38 ((os_I o_this 38) + (1 : Int32))) 40 ((os_I o_this 40) - (1 : Int32))))) (ci := 9) (q0 := 0) rfl rfl rfl hl.1 (As := []) (rest := []) rfl (Nat.le_of_ble_eq_true rfl) dX13_closes_48 ⟨Nat.le_of_ble_eq_true rfl, Nat.le_of_ble_eq_true rfl⟩ hK hP hD hS hA [0, 1, 2, 3, 4, 5, 6, 7, 8, 9, 10, 11, 12, 13, 14, 15, 16, 17, 18, 19, 20, 21, 22, 23] [] [0, 1, 2, 3, 4, 5, 6, 7, 8, 9, 10, 11, 12, 13, 14, 15, 16, 17, 18, 19, 20, 21, 22, 23] rfl (by decide) rfl (by decide) (by decide) rfl (by decide) (wr := []) (w2 := (ce_X13 kA q_this u_6)) (fun H locs hP hD hS => ?_)
          have hP : va_P D vwCl (ce_X13 kA q_this u_6) H := hP
          refine lv_aload_n hx hb dX13_closes_51 rfl (lv_at hl 0 rfl) ?_
          refine lv_bipush (v := 59) hx hb dX13_closes_52 (by decide) ?_
          obtain ⟨u_8, he_9, hf⟩ := os_bd hf
          refine mc_callV ⟨hx, hb, hml, hown, hts⟩ (mm_X13_mustSign l D kA N q_this u_6 (59 : Int32) u_8 he_9) (cwV 1 hts gX13_closes_X13_mustSign rfl rfl rfl (by decide +kernel) ⟨Nat.le_of_ble_eq_true rfl, Nat.le_of_ble_eq_true rfl⟩) (wc := (ce_X13 kA q_this u_6)) (ci := 9) (q0 := 0) rfl rfl rfl hl.1 (As := [.int (59 : Int32)]) (rest := []) rfl (Nat.le_of_ble_eq_true rfl) dX13_closes_54 ⟨Nat.le_of_ble_eq_true rfl, Nat.le_of_ble_eq_true rfl⟩ hK hP hD hS hA [0, 1, 2, 3, 4, 5, 6, 7, 8, 9, 10, 11, 12, 13, 14, 15, 16, 17, 18, 19, 20, 21, 22, 23] [] [0, 1, 2, 3, 4, 5, 6, 7, 8, 9, 10, 11, 12, 13, 14, 15, 16, 17, 18, 19, 20, 21, 22, 23] rfl (by decide) rfl (by decide) (by decide) rfl (by decide) (wr := []) (w2 := (ce_X13 kA q_this u_8)) (fun H locs hP hD hS => ?_)
          have hP : va_P D vwCl (ce_X13 kA q_this u_8) H := hP
          refine lv_goto (tgt := 0) hx hb dX13_closes_57 (by decide) ?_
          exact hk0 u_8 _ _ _ hP hD hS (lv_sub hl [0] rfl) hf
  unfold ff_X13_closes at hf
  exact hL0 N o_this _ _ _ hP hD hS (lv_sub hl [0] rfl) hf
def ff_X13_does_b401 (N : Nat) (o_this : os_T) (x1 : Int32) : Option (Int32 × os_T) :=
  (if x1 = (10 : Int32) then ((ff_X13_mirrors N o_this).bind fun u_73 => some ((1 : Int32), u_73)) else some ((1 : Int32), o_this))
def ff_X13_does_b387 (N : Nat) (o_this : os_T) (x1 : Int32) : Option (Int32 × os_T) :=
  (if x1 = (9 : Int32) then ((ff_X13_retones N o_this (-1 : Int32) (255 : Int32)).bind fun u_70 => ff_X13_does_b401 N u_70 x1) else ff_X13_does_b401 N o_this x1)
def ff_X13_does_b377 (N : Nat) (o_this : os_T) (x1 : Int32) : Option (Int32 × os_T) :=
  (if x1 = (8 : Int32) then ((ff_X13_polishesAll N o_this).bind fun u_67 => ff_X13_does_b387 N u_67 x1) else ff_X13_does_b387 N o_this x1)
def ff_X13_does_b367 (N : Nat) (o_this : os_T) (x1 : Int32) : Option (Int32 × os_T) :=
  (if x1 = (7 : Int32) then ((ff_X13_dithers N o_this).bind fun u_64 => ff_X13_does_b377 N u_64 x1) else ff_X13_does_b377 N o_this x1)
def ff_X13_does_b354 (N : Nat) (o_this : os_T) (x1 : Int32) : Option (Int32 × os_T) :=
  (if x1 = (5 : Int32) then ((ff_X13_repairs N o_this).bind fun u_61 => ff_X13_does_b367 N (ss_I u_61.2 41 u_61.1) x1) else ff_X13_does_b367 N o_this x1)
def ff_X13_does_b344 (N : Nat) (o_this : os_T) (x1 : Int32) : Option (Int32 × os_T) :=
  (if x1 = (6 : Int32) then ((ff_X13_eases N o_this).bind fun u_58 => ff_X13_does_b354 N u_58 x1) else ff_X13_does_b354 N o_this x1)
def ff_X13_does_b334 (N : Nat) (o_this : os_T) (x1 : Int32) (x3 : Int32) : Option (Int32 × os_T) :=
  (if x1 = (4 : Int32) then ((ff_X13_smooths N o_this x3).bind fun u_55 => ff_X13_does_b344 N u_55 x1) else ff_X13_does_b344 N o_this x1)
def ff_X13_does_b298 (N : Nat) (o_this : os_T) (x1 : Int32) (x2 : Int32) (x3 : Int32) (x4 : Int32) : Option (Int32 × os_T) :=
  (if x1 = (3 : Int32) then (if os_in (((4 : Int32) * x3) + x4) 12 then (if os_in (x2 + (2 : Int32)) 300 then (if os_in (x2 + (3 : Int32)) 300 then ((ff_X13_presses N o_this ((os_A o_this 12) (Int32.toNatClampNeg (((4 : Int32) * x3) + x4))) ((os_A o_this 14) (Int32.toNatClampNeg (x2 + (2 : Int32)))) ((os_A o_this 14) (Int32.toNatClampNeg (x2 + (3 : Int32))))).bind fun u_52 => ff_X13_does_b334 N u_52 x1 x3) else none) else none) else none) else ff_X13_does_b334 N o_this x1 x3)
def ff_X13_does_b262 (N : Nat) (o_this : os_T) (x1 : Int32) (x2 : Int32) (x3 : Int32) (x4 : Int32) : Option (Int32 × os_T) :=
  (if x1 = (2 : Int32) then (if os_in (x2 + (2 : Int32)) 300 then (if os_in (x2 + (3 : Int32)) 300 then (if os_in (x2 + (4 : Int32)) 300 then ((ff_X13_fills N o_this x3 x4 ((os_A o_this 14) (Int32.toNatClampNeg (x2 + (2 : Int32)))) ((os_A o_this 14) (Int32.toNatClampNeg (x2 + (3 : Int32)))) ((os_A o_this 14) (Int32.toNatClampNeg (x2 + (4 : Int32))))).bind fun u_46 => ff_X13_does_b298 N u_46 x1 x2 x3 x4) else none) else none) else none) else ff_X13_does_b298 N o_this x1 x2 x3 x4)
def ff_X13_does_b237 (N : Nat) (o_this : os_T) (x1 : Int32) (x2 : Int32) (x3 : Int32) (x4 : Int32) : Option (Int32 × os_T) :=
  (if x1 = (1 : Int32) then (if os_in (x2 + (2 : Int32)) 300 then (if os_in (((16 : Int32) * x4) + x3) 192 then ff_X13_does_b262 N (ss_A o_this 4 (upd (os_A o_this 4) (Int32.toNatClampNeg (((16 : Int32) * x4) + x3)) ((os_A o_this 14) (Int32.toNatClampNeg (x2 + (2 : Int32)))))) x1 x2 x3 x4 else none) else none) else ff_X13_does_b262 N o_this x1 x2 x3 x4)
def ff_X13_does_b211 (N : Nat) (o_this : os_T) (x1 : Int32) (x2 : Int32) (x3 : Int32) (x4 : Int32) (x5 : Int32) : Option (Int32 × os_T) :=
  (if x5 = 0 then some ((0 : Int32), o_this) else (if x1 = 0 then (if os_in (x2 + (2 : Int32)) 300 then ((ff_X13_tones N o_this x3 x4 ((os_A o_this 14) (Int32.toNatClampNeg (x2 + (2 : Int32))))).bind fun u_37 => ff_X13_does_b237 N u_37 x1 x2 x3 x4) else none) else ff_X13_does_b237 N o_this x1 x2 x3 x4))
def ff_X13_does_b209 (N : Nat) (o_this : os_T) (x1 : Int32) (x2 : Int32) (x3 : Int32) (x4 : Int32) (t0 : Int32) : Option (Int32 × os_T) :=
  ff_X13_does_b211 N o_this x1 x2 x3 x4 t0
def ff_X13_does_b208 (N : Nat) (o_this : os_T) (x1 : Int32) (x2 : Int32) (x3 : Int32) (x4 : Int32) : Option (Int32 × os_T) :=
  ff_X13_does_b209 N o_this x1 x2 x3 x4 (0 : Int32)
def ff_X13_does_b170 (N : Nat) (o_this : os_T) (x1 : Int32) (x2 : Int32) (x3 : Int32) (x4 : Int32) (x5 : Int32) : Option (Int32 × os_T) :=
  (if x1 = (3 : Int32) then (if x5 = 0 then ff_X13_does_b208 N o_this x1 x2 x3 x4 else ((ff_X13_isPlace N x3 x4).bind fun u_29 => (if u_29 = 0 then ff_X13_does_b208 N o_this x1 x2 x3 x4 else (if os_in (((4 : Int32) * x3) + x4) 12 then (if ((os_A o_this 12) (Int32.toNatClampNeg (((4 : Int32) * x3) + x4))) = (-1 : Int32) then ff_X13_does_b208 N o_this x1 x2 x3 x4 else ff_X13_does_b209 N o_this x1 x2 x3 x4 (1 : Int32)) else none)))) else ff_X13_does_b211 N o_this x1 x2 x3 x4 x5)
def ff_X13_does_b168 (N : Nat) (o_this : os_T) (x1 : Int32) (x2 : Int32) (x3 : Int32) (x4 : Int32) (t0 : Int32) : Option (Int32 × os_T) :=
  ff_X13_does_b170 N o_this x1 x2 x3 x4 t0
def ff_X13_does_b167 (N : Nat) (o_this : os_T) (x1 : Int32) (x2 : Int32) (x3 : Int32) (x4 : Int32) : Option (Int32 × os_T) :=
  ff_X13_does_b168 N o_this x1 x2 x3 x4 (0 : Int32)
def ff_X13_does_b119 (N : Nat) (o_this : os_T) (x1 : Int32) (x2 : Int32) (x3 : Int32) (x4 : Int32) (x5 : Int32) : Option (Int32 × os_T) :=
  (if x1 = (2 : Int32) then (if x5 = 0 then ff_X13_does_b167 N o_this x1 x2 x3 x4 else (if os_in (x2 + (2 : Int32)) 300 then (if os_in (x2 + (3 : Int32)) 300 then (if os_in (x2 + (4 : Int32)) 300 then ((ff_X13_fits N o_this x3 x4 ((os_A o_this 14) (Int32.toNatClampNeg (x2 + (2 : Int32)))) ((os_A o_this 14) (Int32.toNatClampNeg (x2 + (3 : Int32)))) ((os_A o_this 14) (Int32.toNatClampNeg (x2 + (4 : Int32))))).bind fun u_24 => (if u_24 = 0 then ff_X13_does_b167 N o_this x1 x2 x3 x4 else ff_X13_does_b168 N o_this x1 x2 x3 x4 (1 : Int32))) else none) else none) else none)) else ff_X13_does_b170 N o_this x1 x2 x3 x4 x5)
def ff_X13_does_b117 (N : Nat) (o_this : os_T) (x1 : Int32) (x2 : Int32) (x3 : Int32) (x4 : Int32) (t0 : Int32) : Option (Int32 × os_T) :=
  ff_X13_does_b119 N o_this x1 x2 x3 x4 t0
def ff_X13_does_b116 (N : Nat) (o_this : os_T) (x1 : Int32) (x2 : Int32) (x3 : Int32) (x4 : Int32) : Option (Int32 × os_T) :=
  ff_X13_does_b117 N o_this x1 x2 x3 x4 (0 : Int32)
def ff_X13_does_b87 (N : Nat) (o_this : os_T) (x1 : Int32) (x2 : Int32) (x3 : Int32) (x4 : Int32) (x5 : Int32) : Option (Int32 × os_T) :=
  (if x1 = (1 : Int32) then (if x5 = 0 then ff_X13_does_b116 N o_this x1 x2 x3 x4 else (if os_in (x2 + (2 : Int32)) 300 then ((ff_X13_isHeight N o_this ((os_A o_this 14) (Int32.toNatClampNeg (x2 + (2 : Int32))))).bind fun u_16 => (if u_16 = 0 then ff_X13_does_b116 N o_this x1 x2 x3 x4 else ff_X13_does_b117 N o_this x1 x2 x3 x4 (1 : Int32))) else none)) else ff_X13_does_b119 N o_this x1 x2 x3 x4 x5)
def ff_X13_does_b85 (N : Nat) (o_this : os_T) (x1 : Int32) (x2 : Int32) (x3 : Int32) (x4 : Int32) (t0 : Int32) : Option (Int32 × os_T) :=
  ff_X13_does_b87 N o_this x1 x2 x3 x4 t0
def ff_X13_does_b69 (N : Nat) (o_this : os_T) (x1 : Int32) (x2 : Int32) (x3 : Int32) (x4 : Int32) (t0 : Int32) : Option (Int32 × os_T) :=
  (if x1 = (4 : Int32) then (if x3 ≤ 0 then ff_X13_does_b85 N o_this x1 x2 x3 x4 (0 : Int32) else ff_X13_does_b85 N o_this x1 x2 x3 x4 (1 : Int32)) else ff_X13_does_b87 N o_this x1 x2 x3 x4 t0)
def ff_X13_does_b64 (N : Nat) (o_this : os_T) (x1 : Int32) (x2 : Int32) (x3 : Int32) (x4 : Int32) : Option (Int32 × os_T) :=
  ff_X13_does_b69 N o_this x1 x2 x3 x4 (1 : Int32)
def ff_X13_does_b58 (N : Nat) (o_this : os_T) (x1 : Int32) (x2 : Int32) (x3 : Int32) (x4 : Int32) (t0 : Int32) (t1 : Int32) : Option (Int32 × os_T) :=
  ((ff_X13_isCell N o_this t1 t0).bind fun u_10 => (if u_10 = 0 then ff_X13_does_b69 N o_this x1 x2 x3 x4 (0 : Int32) else ff_X13_does_b64 N o_this x1 x2 x3 x4))
def ff_X13_does_b40 (N : Nat) (o_this : os_T) (x1 : Int32) (x2 : Int32) (x3 : Int32) (x4 : Int32) (t0 : Int32) : Option (Int32 × os_T) :=
  (if x1 = (3 : Int32) then (if os_in (x2 + (3 : Int32)) 300 then ff_X13_does_b58 N o_this x1 x2 x3 x4 ((os_A o_this 14) (Int32.toNatClampNeg (x2 + (3 : Int32)))) t0 else none) else ff_X13_does_b58 N o_this x1 x2 x3 x4 x4 t0)
def ff_X13_does (N : Nat) (o_this : os_T) (a1 : Int32) (a2 : Int32) : Option (Int32 × os_T) :=
  (if os_in a2 300 then (if os_in (a2 + (1 : Int32)) 300 then (if (3 : Int32) < a1 then ff_X13_does_b64 N o_this a1 a2 ((os_A o_this 14) (Int32.toNatClampNeg a2)) ((os_A o_this 14) (Int32.toNatClampNeg (a2 + (1 : Int32)))) else (if a1 = (3 : Int32) then (if os_in (a2 + (2 : Int32)) 300 then ff_X13_does_b40 N o_this a1 a2 ((os_A o_this 14) (Int32.toNatClampNeg a2)) ((os_A o_this 14) (Int32.toNatClampNeg (a2 + (1 : Int32)))) ((os_A o_this 14) (Int32.toNatClampNeg (a2 + (2 : Int32)))) else none) else ff_X13_does_b40 N o_this a1 a2 ((os_A o_this 14) (Int32.toNatClampNeg a2)) ((os_A o_this 14) (Int32.toNatClampNeg (a2 + (1 : Int32)))) ((os_A o_this 14) (Int32.toNatClampNeg a2)))) else none) else none)
set_option maxHeartbeats 4000000 in
set_option maxRecDepth 100000 in
theorem mm_X13_does (l : Launch) (D : va_G) (kA : Nat → ClassId) (N : Nat) (q_this : Nat → Nat) (o_this : os_T) (a1 : Int32) (a2 : Int32) (out : (Int32 × os_T)) (hf : ff_X13_does N o_this a1 a2 = some out) : mc_C l D kA yX13_does wsX13_does ({ frames := 9, cells := 0, slots := 0, locals := 209 } : Room) [.ref (q_this 0), .int a1, .int a2] (ce_X13 kA q_this o_this) (some (.int out.1)) (ce_X13 kA q_this out.2) := by
  refine mc_of (cc := cX13_does) (maxL := 6) (ret := (some .boolean)) (by decide) rfl (Nat.le_of_ble_eq_true rfl) ?_
  intro p e s m below meth c A B hD hP hS ls hl
  obtain ⟨hx, hb, hr, hlk, hml, hown, hts, hK, hA, hnm⟩ := B
  have hown : s.vm.findClass RX13 = some m.cls := hown
  have hl : lv_has ls 6 [(0, .ref (q_this 0)), (1, .int a1), (2, .int a2)] := hl
  have hUX13 : ∀ w ∈ u_ws RX13 TX13 48, w.before [.ref (q_this 0), .int a1, .int a2].toArray s = true := fun w h => hts w (List.mem_cons_of_mem _ (List.mem_append_right _ h))
  have hB401 : ∀ (o_this : os_T) (x1 : Int32) (H : Heap) (locs : List Loc) (ls : Array Slot), va_P D vwCl (ce_X13 kA q_this o_this) H → va_D A (ce_X13 kA q_this o_this) → va_S A s.heap H locs → lv_has ls 6 [(0, .ref (q_this 0)), (1, .int x1)] → ff_X13_does_b401 N o_this x1 = some out → W p l e ({ frames := 9, cells := 0, slots := 0, locals := 209 } : Room) s m [.ref (q_this 0), .int a1, .int a2].toArray below meth c H locs 0 0 (MQ below (mc_Q D kA A (some (.int out.1)) (ce_X13 kA q_this out.2)) [.ref (q_this 0), .int a1, .int a2].toArray s 0 0 A) (F0 m 401 ls []) := by
    intro o_this x1 H locs ls hP hD hS hl hf
    unfold ff_X13_does_b401 at hf
    refine lv_iload_n hx hb dX13_does_401 rfl (lv_at hl 1 rfl) ?_
    refine lv_bipush (v := 10) hx hb dX13_does_402 (by decide) ?_
    refine lv_icmp_ne (tgt := 411) hx hb dX13_does_404 (by decide) (fun hc_72 => ?_) (fun hc_72 => ?_)
    · rw [if_neg hc_72] at hf
      refine lv_iconst (v := 1) hx hb dX13_does_411 (by decide) ?_
      rw [← Option.some.inj hf]
      exact mc_retz (v := 1) hx hb hr rfl hlk hP hK hD hS dX13_does_412
    · rw [if_pos hc_72] at hf
      refine lv_aload_n hx hb dX13_does_407 rfl (lv_at hl 0 rfl) ?_
      obtain ⟨u_73, he_74, hf⟩ := os_bd hf
      refine mc_callV ⟨hx, hb, hml, hown, hts⟩ (mm_X13_mirrors l D kA N q_this o_this u_73 he_74) (cwV 0 hts gX13_does_X13_mirrors rfl rfl rfl (by decide +kernel) ⟨Nat.le_of_ble_eq_true rfl, Nat.le_of_ble_eq_true rfl⟩) (wc := (ce_X13 kA q_this o_this)) (ci := 9) (q0 := 0) rfl rfl rfl hl.1 (As := []) (rest := []) rfl (Nat.le_of_ble_eq_true rfl) dX13_does_408 ⟨Nat.le_of_ble_eq_true rfl, Nat.le_of_ble_eq_true rfl⟩ hK hP hD hS hA [0, 1, 2, 3, 4, 5, 6, 7, 8, 9, 10, 11, 12, 13, 14, 15, 16, 17, 18, 19, 20, 21, 22, 23] [] [0, 1, 2, 3, 4, 5, 6, 7, 8, 9, 10, 11, 12, 13, 14, 15, 16, 17, 18, 19, 20, 21, 22, 23] rfl (by decide) rfl (by decide) (by decide) rfl (by decide) (wr := []) (w2 := (ce_X13 kA q_this u_73)) (fun H locs hP hD hS => ?_)
      have hP : va_P D vwCl (ce_X13 kA q_this u_73) H := hP
      refine lv_iconst (v := 1) hx hb dX13_does_411 (by decide) ?_
      rw [← Option.some.inj hf]
      exact mc_retz (v := 1) hx hb hr rfl hlk hP hK hD hS dX13_does_412
  have hB387 : ∀ (o_this : os_T) (x1 : Int32) (H : Heap) (locs : List Loc) (ls : Array Slot), va_P D vwCl (ce_X13 kA q_this o_this) H → va_D A (ce_X13 kA q_this o_this) → va_S A s.heap H locs → lv_has ls 6 [(0, .ref (q_this 0)), (1, .int x1)] → ff_X13_does_b387 N o_this x1 = some out → W p l e ({ frames := 9, cells := 0, slots := 0, locals := 209 } : Room) s m [.ref (q_this 0), .int a1, .int a2].toArray below meth c H locs 0 0 (MQ below (mc_Q D kA A (some (.int out.1)) (ce_X13 kA q_this out.2)) [.ref (q_this 0), .int a1, .int a2].toArray s 0 0 A) (F0 m 387 ls []) := by
    intro o_this x1 H locs ls hP hD hS hl hf
    unfold ff_X13_does_b387 at hf
    refine lv_iload_n hx hb dX13_does_387 rfl (lv_at hl 1 rfl) ?_
    refine lv_bipush (v := 9) hx hb dX13_does_388 (by decide) ?_
    refine lv_icmp_ne (tgt := 401) hx hb dX13_does_390 (by decide) (fun hc_69 => ?_) (fun hc_69 => ?_)
    · rw [if_neg hc_69] at hf
      exact hB401 o_this x1 _ _ _ hP hD hS (lv_sub hl [0, 1] rfl) hf
    · rw [if_pos hc_69] at hf
      refine lv_aload_n hx hb dX13_does_393 rfl (lv_at hl 0 rfl) ?_
      refine lv_iconst (v := (-1)) hx hb dX13_does_394 (by decide) ?_
      refine lv_sipush (v := 255) hx hb dX13_does_395 (by decide) ?_
      obtain ⟨u_70, he_71, hf⟩ := os_bd hf
      refine mc_callV ⟨hx, hb, hml, hown, hts⟩ (mm_X13_retones l D kA N q_this o_this (-1 : Int32) (255 : Int32) u_70 he_71) (cwV 2 hts gX13_does_X13_retones rfl rfl rfl (by decide +kernel) ⟨Nat.le_of_ble_eq_true rfl, Nat.le_of_ble_eq_true rfl⟩) (wc := (ce_X13 kA q_this o_this)) (ci := 9) (q0 := 0) rfl rfl rfl hl.1 (As := [.int (-1 : Int32), .int (255 : Int32)]) (rest := []) rfl (Nat.le_of_ble_eq_true rfl) dX13_does_398 ⟨Nat.le_of_ble_eq_true rfl, Nat.le_of_ble_eq_true rfl⟩ hK hP hD hS hA [0, 1, 2, 3, 4, 5, 6, 7, 8, 9, 10, 11, 12, 13, 14, 15, 16, 17, 18, 19, 20, 21, 22, 23] [] [0, 1, 2, 3, 4, 5, 6, 7, 8, 9, 10, 11, 12, 13, 14, 15, 16, 17, 18, 19, 20, 21, 22, 23] rfl (by decide) rfl (by decide) (by decide) rfl (by decide) (wr := []) (w2 := (ce_X13 kA q_this u_70)) (fun H locs hP hD hS => ?_)
      have hP : va_P D vwCl (ce_X13 kA q_this u_70) H := hP
      exact hB401 u_70 x1 _ _ _ hP hD hS (lv_sub hl [0, 1] rfl) hf
  have hB377 : ∀ (o_this : os_T) (x1 : Int32) (H : Heap) (locs : List Loc) (ls : Array Slot), va_P D vwCl (ce_X13 kA q_this o_this) H → va_D A (ce_X13 kA q_this o_this) → va_S A s.heap H locs → lv_has ls 6 [(0, .ref (q_this 0)), (1, .int x1)] → ff_X13_does_b377 N o_this x1 = some out → W p l e ({ frames := 9, cells := 0, slots := 0, locals := 209 } : Room) s m [.ref (q_this 0), .int a1, .int a2].toArray below meth c H locs 0 0 (MQ below (mc_Q D kA A (some (.int out.1)) (ce_X13 kA q_this out.2)) [.ref (q_this 0), .int a1, .int a2].toArray s 0 0 A) (F0 m 377 ls []) := by
    intro o_this x1 H locs ls hP hD hS hl hf
    unfold ff_X13_does_b377 at hf
    refine lv_iload_n hx hb dX13_does_377 rfl (lv_at hl 1 rfl) ?_
    refine lv_bipush (v := 8) hx hb dX13_does_378 (by decide) ?_
    refine lv_icmp_ne (tgt := 387) hx hb dX13_does_380 (by decide) (fun hc_66 => ?_) (fun hc_66 => ?_)
    · rw [if_neg hc_66] at hf
      exact hB387 o_this x1 _ _ _ hP hD hS (lv_sub hl [0, 1] rfl) hf
    · rw [if_pos hc_66] at hf
      refine lv_aload_n hx hb dX13_does_383 rfl (lv_at hl 0 rfl) ?_
      obtain ⟨u_67, he_68, hf⟩ := os_bd hf
      refine mc_callV ⟨hx, hb, hml, hown, hts⟩ (mm_X13_polishesAll l D kA N q_this o_this u_67 he_68) (cwV 0 hts gX13_does_X13_polishesAll rfl rfl rfl (by decide +kernel) ⟨Nat.le_of_ble_eq_true rfl, Nat.le_of_ble_eq_true rfl⟩) (wc := (ce_X13 kA q_this o_this)) (ci := 9) (q0 := 0) rfl rfl rfl hl.1 (As := []) (rest := []) rfl (Nat.le_of_ble_eq_true rfl) dX13_does_384 ⟨Nat.le_of_ble_eq_true rfl, Nat.le_of_ble_eq_true rfl⟩ hK hP hD hS hA [0, 1, 2, 3, 4, 5, 6, 7, 8, 9, 10, 11, 12, 13, 14, 15, 16, 17, 18, 19, 20, 21, 22, 23] [] [0, 1, 2, 3, 4, 5, 6, 7, 8, 9, 10, 11, 12, 13, 14, 15, 16, 17, 18, 19, 20, 21, 22, 23] rfl (by decide) rfl (by decide) (by decide) rfl (by decide) (wr := []) (w2 := (ce_X13 kA q_this u_67)) (fun H locs hP hD hS => ?_)
      have hP : va_P D vwCl (ce_X13 kA q_this u_67) H := hP
      exact hB387 u_67 x1 _ _ _ hP hD hS (lv_sub hl [0, 1] rfl) hf
  have hB367 : ∀ (o_this : os_T) (x1 : Int32) (H : Heap) (locs : List Loc) (ls : Array Slot), va_P D vwCl (ce_X13 kA q_this o_this) H → va_D A (ce_X13 kA q_this o_this) → va_S A s.heap H locs → lv_has ls 6 [(0, .ref (q_this 0)), (1, .int x1)] → ff_X13_does_b367 N o_this x1 = some out → W p l e ({ frames := 9, cells := 0, slots := 0, locals := 209 } : Room) s m [.ref (q_this 0), .int a1, .int a2].toArray below meth c H locs 0 0 (MQ below (mc_Q D kA A (some (.int out.1)) (ce_X13 kA q_this out.2)) [.ref (q_this 0), .int a1, .int a2].toArray s 0 0 A) (F0 m 367 ls []) := by
    intro o_this x1 H locs ls hP hD hS hl hf
    unfold ff_X13_does_b367 at hf
    refine lv_iload_n hx hb dX13_does_367 rfl (lv_at hl 1 rfl) ?_
    refine lv_bipush (v := 7) hx hb dX13_does_368 (by decide) ?_
    refine lv_icmp_ne (tgt := 377) hx hb dX13_does_370 (by decide) (fun hc_63 => ?_) (fun hc_63 => ?_)
    · rw [if_neg hc_63] at hf
      exact hB377 o_this x1 _ _ _ hP hD hS (lv_sub hl [0, 1] rfl) hf
    · rw [if_pos hc_63] at hf
      refine lv_aload_n hx hb dX13_does_373 rfl (lv_at hl 0 rfl) ?_
      obtain ⟨u_64, he_65, hf⟩ := os_bd hf
      refine mc_callV ⟨hx, hb, hml, hown, hts⟩ (mm_X13_dithers l D kA N q_this o_this u_64 he_65) (cwV 0 hts gX13_does_X13_dithers rfl rfl rfl (by decide +kernel) ⟨Nat.le_of_ble_eq_true rfl, Nat.le_of_ble_eq_true rfl⟩) (wc := (ce_X13 kA q_this o_this)) (ci := 9) (q0 := 0) rfl rfl rfl hl.1 (As := []) (rest := []) rfl (Nat.le_of_ble_eq_true rfl) dX13_does_374 ⟨Nat.le_of_ble_eq_true rfl, Nat.le_of_ble_eq_true rfl⟩ hK hP hD hS hA [0, 1, 2, 3, 4, 5, 6, 7, 8, 9, 10, 11, 12, 13, 14, 15, 16, 17, 18, 19, 20, 21, 22, 23] [] [0, 1, 2, 3, 4, 5, 6, 7, 8, 9, 10, 11, 12, 13, 14, 15, 16, 17, 18, 19, 20, 21, 22, 23] rfl (by decide) rfl (by decide) (by decide) rfl (by decide) (wr := []) (w2 := (ce_X13 kA q_this u_64)) (fun H locs hP hD hS => ?_)
      have hP : va_P D vwCl (ce_X13 kA q_this u_64) H := hP
      exact hB377 u_64 x1 _ _ _ hP hD hS (lv_sub hl [0, 1] rfl) hf
  have hB354 : ∀ (o_this : os_T) (x1 : Int32) (H : Heap) (locs : List Loc) (ls : Array Slot), va_P D vwCl (ce_X13 kA q_this o_this) H → va_D A (ce_X13 kA q_this o_this) → va_S A s.heap H locs → lv_has ls 6 [(0, .ref (q_this 0)), (1, .int x1)] → ff_X13_does_b354 N o_this x1 = some out → W p l e ({ frames := 9, cells := 0, slots := 0, locals := 209 } : Room) s m [.ref (q_this 0), .int a1, .int a2].toArray below meth c H locs 0 0 (MQ below (mc_Q D kA A (some (.int out.1)) (ce_X13 kA q_this out.2)) [.ref (q_this 0), .int a1, .int a2].toArray s 0 0 A) (F0 m 354 ls []) := by
    intro o_this x1 H locs ls hP hD hS hl hf
    unfold ff_X13_does_b354 at hf
    refine lv_iload_n hx hb dX13_does_354 rfl (lv_at hl 1 rfl) ?_
    refine lv_iconst (v := 5) hx hb dX13_does_355 (by decide) ?_
    refine lv_icmp_ne (tgt := 367) hx hb dX13_does_356 (by decide) (fun hc_60 => ?_) (fun hc_60 => ?_)
    · rw [if_neg hc_60] at hf
      exact hB367 o_this x1 _ _ _ hP hD hS (lv_sub hl [0, 1] rfl) hf
    · rw [if_pos hc_60] at hf
      refine lv_aload_n hx hb dX13_does_359 rfl (lv_at hl 0 rfl) ?_
      refine lv_aload_n hx hb dX13_does_360 rfl (lv_at hl 0 rfl) ?_
      obtain ⟨u_61, he_62, hf⟩ := os_bd hf
      refine mc_callV ⟨hx, hb, hml, hown, hts⟩ (mm_X13_repairs l D kA N q_this o_this u_61 he_62) (cwV 0 hts gX13_does_X13_repairs rfl rfl rfl (by decide +kernel) ⟨Nat.le_of_ble_eq_true rfl, Nat.le_of_ble_eq_true rfl⟩) (wc := (ce_X13 kA q_this o_this)) (ci := 9) (q0 := 0) rfl rfl rfl hl.1 (As := []) (rest := [.ref (q_this 0)]) rfl (Nat.le_of_ble_eq_true rfl) dX13_does_361 ⟨Nat.le_of_ble_eq_true rfl, Nat.le_of_ble_eq_true rfl⟩ hK hP hD hS hA [0, 1, 2, 3, 4, 5, 6, 7, 8, 9, 10, 11, 12, 13, 14, 15, 16, 17, 18, 19, 20, 21, 22, 23] [] [0, 1, 2, 3, 4, 5, 6, 7, 8, 9, 10, 11, 12, 13, 14, 15, 16, 17, 18, 19, 20, 21, 22, 23] rfl (by decide) rfl (by decide) (by decide) rfl (by decide) (wr := []) (w2 := (ce_X13 kA q_this u_61.2)) (fun H locs hP hD hS => ?_)
      have hP : va_P D vwCl (ce_X13 kA q_this u_61.2) H := hP
      refine va_put (D := D) (ci := 9) (v := .int u_61.1) (ty := .int) (C := RX13) (T := TX13) (N := 48) hx hb hUX13 (fun _ h9 => h9) tyX13 tyX13_ok nmX13 hown hK hP hD hS 0 rfl rfl 41 (by decide) (hts (Cond.fieldLink RX13 467 "ReliefBuilderModel" "spare" "I") (List.mem_of_getElem? (i := 4) rfl)) (fun _ h9 => h9) rfl (tyX13_ok 41 (by decide)) rfl rfl (Nat.le_of_ble_eq_true rfl) dX13_does_364 (fun H locs hP hD hS => ?_)
      have hP : va_P D vwCl (ce_X13 kA q_this (ss_I u_61.2 41 u_61.1)) H := hP
      have hD : va_D A (ce_X13 kA q_this (ss_I u_61.2 41 u_61.1)) := hD
      exact hB367 (ss_I u_61.2 41 u_61.1) x1 _ _ _ hP hD hS (lv_sub hl [0, 1] rfl) hf
  have hB344 : ∀ (o_this : os_T) (x1 : Int32) (H : Heap) (locs : List Loc) (ls : Array Slot), va_P D vwCl (ce_X13 kA q_this o_this) H → va_D A (ce_X13 kA q_this o_this) → va_S A s.heap H locs → lv_has ls 6 [(0, .ref (q_this 0)), (1, .int x1)] → ff_X13_does_b344 N o_this x1 = some out → W p l e ({ frames := 9, cells := 0, slots := 0, locals := 209 } : Room) s m [.ref (q_this 0), .int a1, .int a2].toArray below meth c H locs 0 0 (MQ below (mc_Q D kA A (some (.int out.1)) (ce_X13 kA q_this out.2)) [.ref (q_this 0), .int a1, .int a2].toArray s 0 0 A) (F0 m 344 ls []) := by
    intro o_this x1 H locs ls hP hD hS hl hf
    unfold ff_X13_does_b344 at hf
    refine lv_iload_n hx hb dX13_does_344 rfl (lv_at hl 1 rfl) ?_
    refine lv_bipush (v := 6) hx hb dX13_does_345 (by decide) ?_
    refine lv_icmp_ne (tgt := 354) hx hb dX13_does_347 (by decide) (fun hc_57 => ?_) (fun hc_57 => ?_)
    · rw [if_neg hc_57] at hf
      exact hB354 o_this x1 _ _ _ hP hD hS (lv_sub hl [0, 1] rfl) hf
    · rw [if_pos hc_57] at hf
      refine lv_aload_n hx hb dX13_does_350 rfl (lv_at hl 0 rfl) ?_
      obtain ⟨u_58, he_59, hf⟩ := os_bd hf
      refine mc_callV ⟨hx, hb, hml, hown, hts⟩ (mm_X13_eases l D kA N q_this o_this u_58 he_59) (cwV 0 hts gX13_does_X13_eases rfl rfl rfl (by decide +kernel) ⟨Nat.le_of_ble_eq_true rfl, Nat.le_of_ble_eq_true rfl⟩) (wc := (ce_X13 kA q_this o_this)) (ci := 9) (q0 := 0) rfl rfl rfl hl.1 (As := []) (rest := []) rfl (Nat.le_of_ble_eq_true rfl) dX13_does_351 ⟨Nat.le_of_ble_eq_true rfl, Nat.le_of_ble_eq_true rfl⟩ hK hP hD hS hA [0, 1, 2, 3, 4, 5, 6, 7, 8, 9, 10, 11, 12, 13, 14, 15, 16, 17, 18, 19, 20, 21, 22, 23] [] [0, 1, 2, 3, 4, 5, 6, 7, 8, 9, 10, 11, 12, 13, 14, 15, 16, 17, 18, 19, 20, 21, 22, 23] rfl (by decide) rfl (by decide) (by decide) rfl (by decide) (wr := []) (w2 := (ce_X13 kA q_this u_58)) (fun H locs hP hD hS => ?_)
      have hP : va_P D vwCl (ce_X13 kA q_this u_58) H := hP
      exact hB354 u_58 x1 _ _ _ hP hD hS (lv_sub hl [0, 1] rfl) hf
  have hB334 : ∀ (o_this : os_T) (x1 : Int32) (x3 : Int32) (H : Heap) (locs : List Loc) (ls : Array Slot), va_P D vwCl (ce_X13 kA q_this o_this) H → va_D A (ce_X13 kA q_this o_this) → va_S A s.heap H locs → lv_has ls 6 [(0, .ref (q_this 0)), (1, .int x1), (3, .int x3)] → ff_X13_does_b334 N o_this x1 x3 = some out → W p l e ({ frames := 9, cells := 0, slots := 0, locals := 209 } : Room) s m [.ref (q_this 0), .int a1, .int a2].toArray below meth c H locs 0 0 (MQ below (mc_Q D kA A (some (.int out.1)) (ce_X13 kA q_this out.2)) [.ref (q_this 0), .int a1, .int a2].toArray s 0 0 A) (F0 m 334 ls []) := by
    intro o_this x1 x3 H locs ls hP hD hS hl hf
    unfold ff_X13_does_b334 at hf
    refine lv_iload_n hx hb dX13_does_334 rfl (lv_at hl 1 rfl) ?_
    refine lv_iconst (v := 4) hx hb dX13_does_335 (by decide) ?_
    refine lv_icmp_ne (tgt := 344) hx hb dX13_does_336 (by decide) (fun hc_54 => ?_) (fun hc_54 => ?_)
    · rw [if_neg hc_54] at hf
      exact hB344 o_this x1 _ _ _ hP hD hS (lv_sub hl [0, 1] rfl) hf
    · rw [if_pos hc_54] at hf
      refine lv_aload_n hx hb dX13_does_339 rfl (lv_at hl 0 rfl) ?_
      refine lv_iload_n hx hb dX13_does_340 rfl (lv_at hl 2 rfl) ?_
      obtain ⟨u_55, he_56, hf⟩ := os_bd hf
      refine mc_callV ⟨hx, hb, hml, hown, hts⟩ (mm_X13_smooths l D kA N q_this o_this x3 u_55 he_56) (cwV 1 hts gX13_does_X13_smooths rfl rfl rfl (by decide +kernel) ⟨Nat.le_of_ble_eq_true rfl, Nat.le_of_ble_eq_true rfl⟩) (wc := (ce_X13 kA q_this o_this)) (ci := 9) (q0 := 0) rfl rfl rfl hl.1 (As := [.int x3]) (rest := []) rfl (Nat.le_of_ble_eq_true rfl) dX13_does_341 ⟨Nat.le_of_ble_eq_true rfl, Nat.le_of_ble_eq_true rfl⟩ hK hP hD hS hA [0, 1, 2, 3, 4, 5, 6, 7, 8, 9, 10, 11, 12, 13, 14, 15, 16, 17, 18, 19, 20, 21, 22, 23] [] [0, 1, 2, 3, 4, 5, 6, 7, 8, 9, 10, 11, 12, 13, 14, 15, 16, 17, 18, 19, 20, 21, 22, 23] rfl (by decide) rfl (by decide) (by decide) rfl (by decide) (wr := []) (w2 := (ce_X13 kA q_this u_55)) (fun H locs hP hD hS => ?_)
      have hP : va_P D vwCl (ce_X13 kA q_this u_55) H := hP
      exact hB344 u_55 x1 _ _ _ hP hD hS (lv_sub hl [0, 1] rfl) hf
  have hB298 : ∀ (o_this : os_T) (x1 : Int32) (x2 : Int32) (x3 : Int32) (x4 : Int32) (H : Heap) (locs : List Loc) (ls : Array Slot), va_P D vwCl (ce_X13 kA q_this o_this) H → va_D A (ce_X13 kA q_this o_this) → va_S A s.heap H locs → lv_has ls 6 [(0, .ref (q_this 0)), (1, .int x1), (2, .int x2), (3, .int x3), (4, .int x4)] → ff_X13_does_b298 N o_this x1 x2 x3 x4 = some out → W p l e ({ frames := 9, cells := 0, slots := 0, locals := 209 } : Room) s m [.ref (q_this 0), .int a1, .int a2].toArray below meth c H locs 0 0 (MQ below (mc_Q D kA A (some (.int out.1)) (ce_X13 kA q_this out.2)) [.ref (q_this 0), .int a1, .int a2].toArray s 0 0 A) (F0 m 298 ls []) := by
    intro o_this x1 x2 x3 x4 H locs ls hP hD hS hl hf
    unfold ff_X13_does_b298 at hf
    refine lv_iload_n hx hb dX13_does_298 rfl (lv_at hl 1 rfl) ?_
    refine lv_iconst (v := 3) hx hb dX13_does_299 (by decide) ?_
    refine lv_icmp_ne (tgt := 334) hx hb dX13_does_300 (by decide) (fun hc_48 => ?_) (fun hc_48 => ?_)
    · rw [if_neg hc_48] at hf
      exact hB334 o_this x1 x3 _ _ _ hP hD hS (lv_sub hl [0, 1, 3] rfl) hf
    · rw [if_pos hc_48] at hf
      refine lv_aload_n hx hb dX13_does_303 rfl (lv_at hl 0 rfl) ?_
      refine lv_aload_n hx hb dX13_does_304 rfl (lv_at hl 0 rfl) ?_
      refine va_get (D := D) (ci := 9) (v := .ref (q_this 13)) (C := RX13) (T := TX13) (N := 48) hx hb hUX13 (fun _ h9 => h9) hown hK hP 0 rfl rfl 31 (by decide) (hts (Cond.fieldLink RX13 54 "ReliefBuilderModel" "stamps" "[I") (List.mem_of_getElem? (i := 2) rfl)) (fun _ h9 => h9) rfl dX13_does_305 ?_
      refine lv_iconst (v := 4) hx hb dX13_does_308 (by decide) ?_
      refine lv_iload_n hx hb dX13_does_309 rfl (lv_at hl 3 rfl) ?_
      refine lv_imul hx hb dX13_does_310 ?_
      refine lv_iload hx hb dX13_does_311 (lv_at hl 4 rfl) ?_
      refine lv_iadd hx hb dX13_does_313 ?_
      obtain ⟨hi_49, hf⟩ := os_if hf
      refine va_iald hx hb hK hP 13 0 rfl rfl hi_49 dX13_does_314 ?_
      refine lv_aload_n hx hb dX13_does_315 rfl (lv_at hl 0 rfl) ?_
      refine va_get (D := D) (ci := 9) (v := .ref (q_this 15)) (C := RX13) (T := TX13) (N := 48) hx hb hUX13 (fun _ h9 => h9) hown hK hP 0 rfl rfl 33 (by decide) (hts (Cond.fieldLink RX13 60 "ReliefBuilderModel" "told" "[I") (List.mem_of_getElem? (i := 1) rfl)) (fun _ h9 => h9) rfl dX13_does_316 ?_
      refine lv_iload_n hx hb dX13_does_319 rfl (lv_at hl 2 rfl) ?_
      refine lv_iconst (v := 2) hx hb dX13_does_320 (by decide) ?_
      refine lv_iadd hx hb dX13_does_321 ?_
      obtain ⟨hi_50, hf⟩ := os_if hf
      refine va_iald hx hb hK hP 15 0 rfl rfl hi_50 dX13_does_322 ?_
      refine lv_aload_n hx hb dX13_does_323 rfl (lv_at hl 0 rfl) ?_
      refine va_get (D := D) (ci := 9) (v := .ref (q_this 15)) (C := RX13) (T := TX13) (N := 48) hx hb hUX13 (fun _ h9 => h9) hown hK hP 0 rfl rfl 33 (by decide) (hts (Cond.fieldLink RX13 60 "ReliefBuilderModel" "told" "[I") (List.mem_of_getElem? (i := 1) rfl)) (fun _ h9 => h9) rfl dX13_does_324 ?_
      refine lv_iload_n hx hb dX13_does_327 rfl (lv_at hl 2 rfl) ?_
      refine lv_iconst (v := 3) hx hb dX13_does_328 (by decide) ?_
      refine lv_iadd hx hb dX13_does_329 ?_
      obtain ⟨hi_51, hf⟩ := os_if hf
      refine va_iald hx hb hK hP 15 0 rfl rfl hi_51 dX13_does_330 ?_
      obtain ⟨u_52, he_53, hf⟩ := os_bd hf
      refine mc_callV ⟨hx, hb, hml, hown, hts⟩ (mm_X13_presses l D kA N q_this o_this ((os_A o_this 12) (Int32.toNatClampNeg (((4 : Int32) * x3) + x4))) ((os_A o_this 14) (Int32.toNatClampNeg (x2 + (2 : Int32)))) ((os_A o_this 14) (Int32.toNatClampNeg (x2 + (3 : Int32)))) u_52 he_53) (cwV 3 hts gX13_does_X13_presses rfl rfl rfl (by decide +kernel) ⟨Nat.le_of_ble_eq_true rfl, Nat.le_of_ble_eq_true rfl⟩) (wc := (ce_X13 kA q_this o_this)) (ci := 9) (q0 := 0) rfl rfl rfl hl.1 (As := [.int ((os_A o_this 12) (Int32.toNatClampNeg (((4 : Int32) * x3) + x4))), .int ((os_A o_this 14) (Int32.toNatClampNeg (x2 + (2 : Int32)))), .int ((os_A o_this 14) (Int32.toNatClampNeg (x2 + (3 : Int32))))]) (rest := []) rfl (Nat.le_of_ble_eq_true rfl) dX13_does_331 ⟨Nat.le_of_ble_eq_true rfl, Nat.le_of_ble_eq_true rfl⟩ hK hP hD hS hA [0, 1, 2, 3, 4, 5, 6, 7, 8, 9, 10, 11, 12, 13, 14, 15, 16, 17, 18, 19, 20, 21, 22, 23] [] [0, 1, 2, 3, 4, 5, 6, 7, 8, 9, 10, 11, 12, 13, 14, 15, 16, 17, 18, 19, 20, 21, 22, 23] rfl (by decide) rfl (by decide) (by decide) rfl (by decide) (wr := []) (w2 := (ce_X13 kA q_this u_52)) (fun H locs hP hD hS => ?_)
      have hP : va_P D vwCl (ce_X13 kA q_this u_52) H := hP
      exact hB334 u_52 x1 x3 _ _ _ hP hD hS (lv_sub hl [0, 1, 3] rfl) hf
  have hB262 : ∀ (o_this : os_T) (x1 : Int32) (x2 : Int32) (x3 : Int32) (x4 : Int32) (H : Heap) (locs : List Loc) (ls : Array Slot), va_P D vwCl (ce_X13 kA q_this o_this) H → va_D A (ce_X13 kA q_this o_this) → va_S A s.heap H locs → lv_has ls 6 [(0, .ref (q_this 0)), (1, .int x1), (2, .int x2), (3, .int x3), (4, .int x4)] → ff_X13_does_b262 N o_this x1 x2 x3 x4 = some out → W p l e ({ frames := 9, cells := 0, slots := 0, locals := 209 } : Room) s m [.ref (q_this 0), .int a1, .int a2].toArray below meth c H locs 0 0 (MQ below (mc_Q D kA A (some (.int out.1)) (ce_X13 kA q_this out.2)) [.ref (q_this 0), .int a1, .int a2].toArray s 0 0 A) (F0 m 262 ls []) := by
    intro o_this x1 x2 x3 x4 H locs ls hP hD hS hl hf
    unfold ff_X13_does_b262 at hf
    refine lv_iload_n hx hb dX13_does_262 rfl (lv_at hl 1 rfl) ?_
    refine lv_iconst (v := 2) hx hb dX13_does_263 (by decide) ?_
    refine lv_icmp_ne (tgt := 298) hx hb dX13_does_264 (by decide) (fun hc_42 => ?_) (fun hc_42 => ?_)
    · rw [if_neg hc_42] at hf
      exact hB298 o_this x1 x2 x3 x4 _ _ _ hP hD hS (lv_sub hl [0, 1, 2, 3, 4] rfl) hf
    · rw [if_pos hc_42] at hf
      refine lv_aload_n hx hb dX13_does_267 rfl (lv_at hl 0 rfl) ?_
      refine lv_iload_n hx hb dX13_does_268 rfl (lv_at hl 3 rfl) ?_
      refine lv_iload hx hb dX13_does_269 (lv_at hl 4 rfl) ?_
      refine lv_aload_n hx hb dX13_does_271 rfl (lv_at hl 0 rfl) ?_
      refine va_get (D := D) (ci := 9) (v := .ref (q_this 15)) (C := RX13) (T := TX13) (N := 48) hx hb hUX13 (fun _ h9 => h9) hown hK hP 0 rfl rfl 33 (by decide) (hts (Cond.fieldLink RX13 60 "ReliefBuilderModel" "told" "[I") (List.mem_of_getElem? (i := 1) rfl)) (fun _ h9 => h9) rfl dX13_does_272 ?_
      refine lv_iload_n hx hb dX13_does_275 rfl (lv_at hl 2 rfl) ?_
      refine lv_iconst (v := 2) hx hb dX13_does_276 (by decide) ?_
      refine lv_iadd hx hb dX13_does_277 ?_
      obtain ⟨hi_43, hf⟩ := os_if hf
      refine va_iald hx hb hK hP 15 0 rfl rfl hi_43 dX13_does_278 ?_
      refine lv_aload_n hx hb dX13_does_279 rfl (lv_at hl 0 rfl) ?_
      refine va_get (D := D) (ci := 9) (v := .ref (q_this 15)) (C := RX13) (T := TX13) (N := 48) hx hb hUX13 (fun _ h9 => h9) hown hK hP 0 rfl rfl 33 (by decide) (hts (Cond.fieldLink RX13 60 "ReliefBuilderModel" "told" "[I") (List.mem_of_getElem? (i := 1) rfl)) (fun _ h9 => h9) rfl dX13_does_280 ?_
      refine lv_iload_n hx hb dX13_does_283 rfl (lv_at hl 2 rfl) ?_
      refine lv_iconst (v := 3) hx hb dX13_does_284 (by decide) ?_
      refine lv_iadd hx hb dX13_does_285 ?_
      obtain ⟨hi_44, hf⟩ := os_if hf
      refine va_iald hx hb hK hP 15 0 rfl rfl hi_44 dX13_does_286 ?_
      refine lv_aload_n hx hb dX13_does_287 rfl (lv_at hl 0 rfl) ?_
      refine va_get (D := D) (ci := 9) (v := .ref (q_this 15)) (C := RX13) (T := TX13) (N := 48) hx hb hUX13 (fun _ h9 => h9) hown hK hP 0 rfl rfl 33 (by decide) (hts (Cond.fieldLink RX13 60 "ReliefBuilderModel" "told" "[I") (List.mem_of_getElem? (i := 1) rfl)) (fun _ h9 => h9) rfl dX13_does_288 ?_
      refine lv_iload_n hx hb dX13_does_291 rfl (lv_at hl 2 rfl) ?_
      refine lv_iconst (v := 4) hx hb dX13_does_292 (by decide) ?_
      refine lv_iadd hx hb dX13_does_293 ?_
      obtain ⟨hi_45, hf⟩ := os_if hf
      refine va_iald hx hb hK hP 15 0 rfl rfl hi_45 dX13_does_294 ?_
      obtain ⟨u_46, he_47, hf⟩ := os_bd hf
      refine mc_callV ⟨hx, hb, hml, hown, hts⟩ (mm_X13_fills l D kA N q_this o_this x3 x4 ((os_A o_this 14) (Int32.toNatClampNeg (x2 + (2 : Int32)))) ((os_A o_this 14) (Int32.toNatClampNeg (x2 + (3 : Int32)))) ((os_A o_this 14) (Int32.toNatClampNeg (x2 + (4 : Int32)))) u_46 he_47) (cwV 5 hts gX13_does_X13_fills rfl rfl rfl (by decide +kernel) ⟨Nat.le_of_ble_eq_true rfl, Nat.le_of_ble_eq_true rfl⟩) (wc := (ce_X13 kA q_this o_this)) (ci := 9) (q0 := 0) rfl rfl rfl hl.1 (As := [.int x3, .int x4, .int ((os_A o_this 14) (Int32.toNatClampNeg (x2 + (2 : Int32)))), .int ((os_A o_this 14) (Int32.toNatClampNeg (x2 + (3 : Int32)))), .int ((os_A o_this 14) (Int32.toNatClampNeg (x2 + (4 : Int32))))]) (rest := []) rfl (Nat.le_of_ble_eq_true rfl) dX13_does_295 ⟨Nat.le_of_ble_eq_true rfl, Nat.le_of_ble_eq_true rfl⟩ hK hP hD hS hA [0, 1, 2, 3, 4, 5, 6, 7, 8, 9, 10, 11, 12, 13, 14, 15, 16, 17, 18, 19, 20, 21, 22, 23] [] [0, 1, 2, 3, 4, 5, 6, 7, 8, 9, 10, 11, 12, 13, 14, 15, 16, 17, 18, 19, 20, 21, 22, 23] rfl (by decide) rfl (by decide) (by decide) rfl (by decide) (wr := []) (w2 := (ce_X13 kA q_this u_46)) (fun H locs hP hD hS => ?_)
      have hP : va_P D vwCl (ce_X13 kA q_this u_46) H := hP
      exact hB298 u_46 x1 x2 x3 x4 _ _ _ hP hD hS (lv_sub hl [0, 1, 2, 3, 4] rfl) hf
  have hB237 : ∀ (o_this : os_T) (x1 : Int32) (x2 : Int32) (x3 : Int32) (x4 : Int32) (H : Heap) (locs : List Loc) (ls : Array Slot), va_P D vwCl (ce_X13 kA q_this o_this) H → va_D A (ce_X13 kA q_this o_this) → va_S A s.heap H locs → lv_has ls 6 [(0, .ref (q_this 0)), (1, .int x1), (2, .int x2), (3, .int x3), (4, .int x4)] → ff_X13_does_b237 N o_this x1 x2 x3 x4 = some out → W p l e ({ frames := 9, cells := 0, slots := 0, locals := 209 } : Room) s m [.ref (q_this 0), .int a1, .int a2].toArray below meth c H locs 0 0 (MQ below (mc_Q D kA A (some (.int out.1)) (ce_X13 kA q_this out.2)) [.ref (q_this 0), .int a1, .int a2].toArray s 0 0 A) (F0 m 237 ls []) := by
    intro o_this x1 x2 x3 x4 H locs ls hP hD hS hl hf
    unfold ff_X13_does_b237 at hf
    refine lv_iload_n hx hb dX13_does_237 rfl (lv_at hl 1 rfl) ?_
    refine lv_iconst (v := 1) hx hb dX13_does_238 (by decide) ?_
    refine lv_icmp_ne (tgt := 262) hx hb dX13_does_239 (by decide) (fun hc_39 => ?_) (fun hc_39 => ?_)
    · rw [if_neg hc_39] at hf
      exact hB262 o_this x1 x2 x3 x4 _ _ _ hP hD hS (lv_sub hl [0, 1, 2, 3, 4] rfl) hf
    · rw [if_pos hc_39] at hf
      refine lv_aload_n hx hb dX13_does_242 rfl (lv_at hl 0 rfl) ?_
      refine va_get (D := D) (ci := 9) (v := .ref (q_this 5)) (C := RX13) (T := TX13) (N := 48) hx hb hUX13 (fun _ h9 => h9) hown hK hP 0 rfl rfl 16 (by decide) (hts (Cond.fieldLink RX13 29 "ReliefBuilderModel" "heights" "[I") (List.mem_of_getElem? (i := 3) rfl)) (fun _ h9 => h9) rfl dX13_does_243 ?_
      refine lv_bipush (v := 16) hx hb dX13_does_246 (by decide) ?_
      refine lv_iload hx hb dX13_does_248 (lv_at hl 4 rfl) ?_
      refine lv_imul hx hb dX13_does_250 ?_
      refine lv_iload_n hx hb dX13_does_251 rfl (lv_at hl 3 rfl) ?_
      refine lv_iadd hx hb dX13_does_252 ?_
      refine lv_aload_n hx hb dX13_does_253 rfl (lv_at hl 0 rfl) ?_
      refine va_get (D := D) (ci := 9) (v := .ref (q_this 15)) (C := RX13) (T := TX13) (N := 48) hx hb hUX13 (fun _ h9 => h9) hown hK hP 0 rfl rfl 33 (by decide) (hts (Cond.fieldLink RX13 60 "ReliefBuilderModel" "told" "[I") (List.mem_of_getElem? (i := 1) rfl)) (fun _ h9 => h9) rfl dX13_does_254 ?_
      refine lv_iload_n hx hb dX13_does_257 rfl (lv_at hl 2 rfl) ?_
      refine lv_iconst (v := 2) hx hb dX13_does_258 (by decide) ?_
      refine lv_iadd hx hb dX13_does_259 ?_
      obtain ⟨hi_40, hf⟩ := os_if hf
      refine va_iald hx hb hK hP 15 0 rfl rfl hi_40 dX13_does_260 ?_
      obtain ⟨hi_41, hf⟩ := os_if hf
      refine va_iast hx hb hK hP hD hS 5 0 rfl rfl hi_41 dX13_does_261 (fun H locs hP hD hS => ?_)
      have hP : va_P D vwCl (ce_X13 kA q_this (ss_A o_this 4 (upd (os_A o_this 4) (Int32.toNatClampNeg (((16 : Int32) * x4) + x3)) ((os_A o_this 14) (Int32.toNatClampNeg (x2 + (2 : Int32))))))) H := hP
      have hD : va_D A (ce_X13 kA q_this (ss_A o_this 4 (upd (os_A o_this 4) (Int32.toNatClampNeg (((16 : Int32) * x4) + x3)) ((os_A o_this 14) (Int32.toNatClampNeg (x2 + (2 : Int32))))))) := hD
      exact hB262 (ss_A o_this 4 (upd (os_A o_this 4) (Int32.toNatClampNeg (((16 : Int32) * x4) + x3)) ((os_A o_this 14) (Int32.toNatClampNeg (x2 + (2 : Int32)))))) x1 x2 x3 x4 _ _ _ hP hD hS (lv_sub hl [0, 1, 2, 3, 4] rfl) hf
  have hB211 : ∀ (o_this : os_T) (x1 : Int32) (x2 : Int32) (x3 : Int32) (x4 : Int32) (x5 : Int32) (H : Heap) (locs : List Loc) (ls : Array Slot), va_P D vwCl (ce_X13 kA q_this o_this) H → va_D A (ce_X13 kA q_this o_this) → va_S A s.heap H locs → lv_has ls 6 [(0, .ref (q_this 0)), (1, .int x1), (2, .int x2), (3, .int x3), (4, .int x4), (5, .int x5)] → ff_X13_does_b211 N o_this x1 x2 x3 x4 x5 = some out → W p l e ({ frames := 9, cells := 0, slots := 0, locals := 209 } : Room) s m [.ref (q_this 0), .int a1, .int a2].toArray below meth c H locs 0 0 (MQ below (mc_Q D kA A (some (.int out.1)) (ce_X13 kA q_this out.2)) [.ref (q_this 0), .int a1, .int a2].toArray s 0 0 A) (F0 m 211 ls []) := by
    intro o_this x1 x2 x3 x4 x5 H locs ls hP hD hS hl hf
    unfold ff_X13_does_b211 at hf
    refine lv_iload hx hb dX13_does_211 (lv_at hl 5 rfl) ?_
    refine lv_if_ne (tgt := 218) hx hb dX13_does_213 (by decide) (fun hc_34 => ?_) (fun hc_34 => ?_)
    · rw [if_neg hc_34] at hf
      refine lv_iload_n hx hb dX13_does_218 rfl (lv_at hl 1 rfl) ?_
      refine lv_if_ne (tgt := 237) hx hb dX13_does_219 (by decide) (fun hc_35 => ?_) (fun hc_35 => ?_)
      · rw [if_neg hc_35] at hf
        exact hB237 o_this x1 x2 x3 x4 _ _ _ hP hD hS (lv_sub hl [0, 1, 2, 3, 4] rfl) hf
      · rw [if_pos hc_35] at hf
        refine lv_aload_n hx hb dX13_does_222 rfl (lv_at hl 0 rfl) ?_
        refine lv_iload_n hx hb dX13_does_223 rfl (lv_at hl 3 rfl) ?_
        refine lv_iload hx hb dX13_does_224 (lv_at hl 4 rfl) ?_
        refine lv_aload_n hx hb dX13_does_226 rfl (lv_at hl 0 rfl) ?_
        refine va_get (D := D) (ci := 9) (v := .ref (q_this 15)) (C := RX13) (T := TX13) (N := 48) hx hb hUX13 (fun _ h9 => h9) hown hK hP 0 rfl rfl 33 (by decide) (hts (Cond.fieldLink RX13 60 "ReliefBuilderModel" "told" "[I") (List.mem_of_getElem? (i := 1) rfl)) (fun _ h9 => h9) rfl dX13_does_227 ?_
        refine lv_iload_n hx hb dX13_does_230 rfl (lv_at hl 2 rfl) ?_
        refine lv_iconst (v := 2) hx hb dX13_does_231 (by decide) ?_
        refine lv_iadd hx hb dX13_does_232 ?_
        obtain ⟨hi_36, hf⟩ := os_if hf
        refine va_iald hx hb hK hP 15 0 rfl rfl hi_36 dX13_does_233 ?_
        obtain ⟨u_37, he_38, hf⟩ := os_bd hf
        refine mc_callV ⟨hx, hb, hml, hown, hts⟩ (mm_X13_tones l D kA N q_this o_this x3 x4 ((os_A o_this 14) (Int32.toNatClampNeg (x2 + (2 : Int32)))) u_37 he_38) (cwV 3 hts gX13_does_X13_tones rfl rfl rfl (by decide +kernel) ⟨Nat.le_of_ble_eq_true rfl, Nat.le_of_ble_eq_true rfl⟩) (wc := (ce_X13 kA q_this o_this)) (ci := 9) (q0 := 0) rfl rfl rfl hl.1 (As := [.int x3, .int x4, .int ((os_A o_this 14) (Int32.toNatClampNeg (x2 + (2 : Int32))))]) (rest := []) rfl (Nat.le_of_ble_eq_true rfl) dX13_does_234 ⟨Nat.le_of_ble_eq_true rfl, Nat.le_of_ble_eq_true rfl⟩ hK hP hD hS hA [0, 1, 2, 3, 4, 5, 6, 7, 8, 9, 10, 11, 12, 13, 14, 15, 16, 17, 18, 19, 20, 21, 22, 23] [] [0, 1, 2, 3, 4, 5, 6, 7, 8, 9, 10, 11, 12, 13, 14, 15, 16, 17, 18, 19, 20, 21, 22, 23] rfl (by decide) rfl (by decide) (by decide) rfl (by decide) (wr := []) (w2 := (ce_X13 kA q_this u_37)) (fun H locs hP hD hS => ?_)
        have hP : va_P D vwCl (ce_X13 kA q_this u_37) H := hP
        exact hB237 u_37 x1 x2 x3 x4 _ _ _ hP hD hS (lv_sub hl [0, 1, 2, 3, 4] rfl) hf
    · rw [if_pos hc_34] at hf
      refine lv_iconst (v := 0) hx hb dX13_does_216 (by decide) ?_
      rw [← Option.some.inj hf]
      exact mc_retz (v := 0) hx hb hr rfl hlk hP hK hD hS dX13_does_217
  have hB209 : ∀ (o_this : os_T) (x1 : Int32) (x2 : Int32) (x3 : Int32) (x4 : Int32) (t0 : Int32) (H : Heap) (locs : List Loc) (ls : Array Slot), va_P D vwCl (ce_X13 kA q_this o_this) H → va_D A (ce_X13 kA q_this o_this) → va_S A s.heap H locs → lv_has ls 6 [(0, .ref (q_this 0)), (1, .int x1), (2, .int x2), (3, .int x3), (4, .int x4)] → ff_X13_does_b209 N o_this x1 x2 x3 x4 t0 = some out → W p l e ({ frames := 9, cells := 0, slots := 0, locals := 209 } : Room) s m [.ref (q_this 0), .int a1, .int a2].toArray below meth c H locs 0 0 (MQ below (mc_Q D kA A (some (.int out.1)) (ce_X13 kA q_this out.2)) [.ref (q_this 0), .int a1, .int a2].toArray s 0 0 A) (F0 m 209 ls [.int t0]) := by
    intro o_this x1 x2 x3 x4 t0 H locs ls hP hD hS hl hf
    unfold ff_X13_does_b209 at hf
    refine lv_istore (lv' := [(5, .int t0), (0, .ref (q_this 0)), (1, .int x1), (2, .int x2), (3, .int x3), (4, .int x4)]) hx hb dX13_does_209 hl (by decide) rfl (fun ls hl => ?_)
    exact hB211 o_this x1 x2 x3 x4 t0 _ _ _ hP hD hS (lv_sub hl [1, 2, 3, 4, 5, 0] rfl) hf
  have hB208 : ∀ (o_this : os_T) (x1 : Int32) (x2 : Int32) (x3 : Int32) (x4 : Int32) (H : Heap) (locs : List Loc) (ls : Array Slot), va_P D vwCl (ce_X13 kA q_this o_this) H → va_D A (ce_X13 kA q_this o_this) → va_S A s.heap H locs → lv_has ls 6 [(0, .ref (q_this 0)), (1, .int x1), (2, .int x2), (3, .int x3), (4, .int x4)] → ff_X13_does_b208 N o_this x1 x2 x3 x4 = some out → W p l e ({ frames := 9, cells := 0, slots := 0, locals := 209 } : Room) s m [.ref (q_this 0), .int a1, .int a2].toArray below meth c H locs 0 0 (MQ below (mc_Q D kA A (some (.int out.1)) (ce_X13 kA q_this out.2)) [.ref (q_this 0), .int a1, .int a2].toArray s 0 0 A) (F0 m 208 ls []) := by
    intro o_this x1 x2 x3 x4 H locs ls hP hD hS hl hf
    unfold ff_X13_does_b208 at hf
    refine lv_iconst (v := 0) hx hb dX13_does_208 (by decide) ?_
    exact hB209 o_this x1 x2 x3 x4 (0 : Int32) _ _ _ hP hD hS (lv_sub hl [0, 1, 2, 3, 4] rfl) hf
  have hB170 : ∀ (o_this : os_T) (x1 : Int32) (x2 : Int32) (x3 : Int32) (x4 : Int32) (x5 : Int32) (H : Heap) (locs : List Loc) (ls : Array Slot), va_P D vwCl (ce_X13 kA q_this o_this) H → va_D A (ce_X13 kA q_this o_this) → va_S A s.heap H locs → lv_has ls 6 [(0, .ref (q_this 0)), (1, .int x1), (2, .int x2), (3, .int x3), (4, .int x4), (5, .int x5)] → ff_X13_does_b170 N o_this x1 x2 x3 x4 x5 = some out → W p l e ({ frames := 9, cells := 0, slots := 0, locals := 209 } : Room) s m [.ref (q_this 0), .int a1, .int a2].toArray below meth c H locs 0 0 (MQ below (mc_Q D kA A (some (.int out.1)) (ce_X13 kA q_this out.2)) [.ref (q_this 0), .int a1, .int a2].toArray s 0 0 A) (F0 m 170 ls []) := by
    intro o_this x1 x2 x3 x4 x5 H locs ls hP hD hS hl hf
    unfold ff_X13_does_b170 at hf
    refine lv_iload_n hx hb dX13_does_170 rfl (lv_at hl 1 rfl) ?_
    refine lv_iconst (v := 3) hx hb dX13_does_171 (by decide) ?_
    refine lv_icmp_ne (tgt := 211) hx hb dX13_does_172 (by decide) (fun hc_27 => ?_) (fun hc_27 => ?_)
    · rw [if_neg hc_27] at hf
      exact hB211 o_this x1 x2 x3 x4 x5 _ _ _ hP hD hS (lv_sub hl [0, 1, 2, 3, 4, 5] rfl) hf
    · rw [if_pos hc_27] at hf
      refine lv_iload hx hb dX13_does_175 (lv_at hl 5 rfl) ?_
      refine lv_if_eq (tgt := 208) hx hb dX13_does_177 (by decide) (fun hc_28 => ?_) (fun hc_28 => ?_)
      · rw [if_pos hc_28] at hf
        exact hB208 o_this x1 x2 x3 x4 _ _ _ hP hD hS (lv_sub hl [0, 1, 2, 3, 4] rfl) hf
      · rw [if_neg hc_28] at hf
        refine lv_iload_n hx hb dX13_does_180 rfl (lv_at hl 3 rfl) ?_
        refine lv_iload hx hb dX13_does_181 (lv_at hl 4 rfl) ?_
        obtain ⟨u_29, he_30, hf⟩ := os_bd hf
        refine mc_callS ⟨hx, hb, hml, hown, hts⟩ (mm_X13_isPlace l D kA N x3 x4 u_29 he_30) (va_cwS 2 hts gX13_does_X13_isPlace rfl rfl rfl (by decide +kernel) ⟨Nat.le_of_ble_eq_true rfl, Nat.le_of_ble_eq_true rfl⟩) (wc := []) rfl hl.1 (As := [.int x3, .int x4]) (rest := []) rfl (Nat.le_of_ble_eq_true rfl) dX13_does_183 ⟨Nat.le_of_ble_eq_true rfl, Nat.le_of_ble_eq_true rfl⟩ hK hP hD hS hA [] [0, 1, 2, 3, 4, 5, 6, 7, 8, 9, 10, 11, 12, 13, 14, 15, 16, 17, 18, 19, 20, 21, 22, 23] [0, 1, 2, 3, 4, 5, 6, 7, 8, 9, 10, 11, 12, 13, 14, 15, 16, 17, 18, 19, 20, 21, 22, 23] rfl (by decide) rfl (by decide) (by decide) rfl (by decide) (wr := (ce_X13 kA q_this o_this)) (w2 := (ce_X13 kA q_this o_this)) (fun H locs hP hD hS => ?_)
        have hP : va_P D vwCl (ce_X13 kA q_this o_this) H := hP
        refine lv_if_eq (tgt := 208) hx hb dX13_does_186 (by decide) (fun hc_31 => ?_) (fun hc_31 => ?_)
        · rw [if_pos hc_31] at hf
          exact hB208 o_this x1 x2 x3 x4 _ _ _ hP hD hS (lv_sub hl [0, 1, 2, 3, 4] rfl) hf
        · rw [if_neg hc_31] at hf
          refine lv_aload_n hx hb dX13_does_189 rfl (lv_at hl 0 rfl) ?_
          refine va_get (D := D) (ci := 9) (v := .ref (q_this 13)) (C := RX13) (T := TX13) (N := 48) hx hb hUX13 (fun _ h9 => h9) hown hK hP 0 rfl rfl 31 (by decide) (hts (Cond.fieldLink RX13 54 "ReliefBuilderModel" "stamps" "[I") (List.mem_of_getElem? (i := 2) rfl)) (fun _ h9 => h9) rfl dX13_does_190 ?_
          refine lv_iconst (v := 4) hx hb dX13_does_193 (by decide) ?_
          refine lv_iload_n hx hb dX13_does_194 rfl (lv_at hl 3 rfl) ?_
          refine lv_imul hx hb dX13_does_195 ?_
          refine lv_iload hx hb dX13_does_196 (lv_at hl 4 rfl) ?_
          refine lv_iadd hx hb dX13_does_198 ?_
          obtain ⟨hi_32, hf⟩ := os_if hf
          refine va_iald hx hb hK hP 13 0 rfl rfl hi_32 dX13_does_199 ?_
          refine lv_iconst (v := (-1)) hx hb dX13_does_200 (by decide) ?_
          refine lv_icmp_eq (tgt := 208) hx hb dX13_does_201 (by decide) (fun hc_33 => ?_) (fun hc_33 => ?_)
          · rw [if_pos hc_33] at hf
            exact hB208 o_this x1 x2 x3 x4 _ _ _ hP hD hS (lv_sub hl [0, 1, 2, 3, 4] rfl) hf
          · rw [if_neg hc_33] at hf
            refine lv_iconst (v := 1) hx hb dX13_does_204 (by decide) ?_
            refine lv_goto (tgt := 209) hx hb dX13_does_205 (by decide) ?_
            exact hB209 o_this x1 x2 x3 x4 (1 : Int32) _ _ _ hP hD hS (lv_sub hl [0, 1, 2, 3, 4] rfl) hf
  have hB168 : ∀ (o_this : os_T) (x1 : Int32) (x2 : Int32) (x3 : Int32) (x4 : Int32) (t0 : Int32) (H : Heap) (locs : List Loc) (ls : Array Slot), va_P D vwCl (ce_X13 kA q_this o_this) H → va_D A (ce_X13 kA q_this o_this) → va_S A s.heap H locs → lv_has ls 6 [(0, .ref (q_this 0)), (1, .int x1), (2, .int x2), (3, .int x3), (4, .int x4)] → ff_X13_does_b168 N o_this x1 x2 x3 x4 t0 = some out → W p l e ({ frames := 9, cells := 0, slots := 0, locals := 209 } : Room) s m [.ref (q_this 0), .int a1, .int a2].toArray below meth c H locs 0 0 (MQ below (mc_Q D kA A (some (.int out.1)) (ce_X13 kA q_this out.2)) [.ref (q_this 0), .int a1, .int a2].toArray s 0 0 A) (F0 m 168 ls [.int t0]) := by
    intro o_this x1 x2 x3 x4 t0 H locs ls hP hD hS hl hf
    unfold ff_X13_does_b168 at hf
    refine lv_istore (lv' := [(5, .int t0), (0, .ref (q_this 0)), (1, .int x1), (2, .int x2), (3, .int x3), (4, .int x4)]) hx hb dX13_does_168 hl (by decide) rfl (fun ls hl => ?_)
    exact hB170 o_this x1 x2 x3 x4 t0 _ _ _ hP hD hS (lv_sub hl [1, 2, 3, 4, 5, 0] rfl) hf
  have hB167 : ∀ (o_this : os_T) (x1 : Int32) (x2 : Int32) (x3 : Int32) (x4 : Int32) (H : Heap) (locs : List Loc) (ls : Array Slot), va_P D vwCl (ce_X13 kA q_this o_this) H → va_D A (ce_X13 kA q_this o_this) → va_S A s.heap H locs → lv_has ls 6 [(0, .ref (q_this 0)), (1, .int x1), (2, .int x2), (3, .int x3), (4, .int x4)] → ff_X13_does_b167 N o_this x1 x2 x3 x4 = some out → W p l e ({ frames := 9, cells := 0, slots := 0, locals := 209 } : Room) s m [.ref (q_this 0), .int a1, .int a2].toArray below meth c H locs 0 0 (MQ below (mc_Q D kA A (some (.int out.1)) (ce_X13 kA q_this out.2)) [.ref (q_this 0), .int a1, .int a2].toArray s 0 0 A) (F0 m 167 ls []) := by
    intro o_this x1 x2 x3 x4 H locs ls hP hD hS hl hf
    unfold ff_X13_does_b167 at hf
    refine lv_iconst (v := 0) hx hb dX13_does_167 (by decide) ?_
    exact hB168 o_this x1 x2 x3 x4 (0 : Int32) _ _ _ hP hD hS (lv_sub hl [0, 1, 2, 3, 4] rfl) hf
  have hB119 : ∀ (o_this : os_T) (x1 : Int32) (x2 : Int32) (x3 : Int32) (x4 : Int32) (x5 : Int32) (H : Heap) (locs : List Loc) (ls : Array Slot), va_P D vwCl (ce_X13 kA q_this o_this) H → va_D A (ce_X13 kA q_this o_this) → va_S A s.heap H locs → lv_has ls 6 [(0, .ref (q_this 0)), (1, .int x1), (2, .int x2), (3, .int x3), (4, .int x4), (5, .int x5)] → ff_X13_does_b119 N o_this x1 x2 x3 x4 x5 = some out → W p l e ({ frames := 9, cells := 0, slots := 0, locals := 209 } : Room) s m [.ref (q_this 0), .int a1, .int a2].toArray below meth c H locs 0 0 (MQ below (mc_Q D kA A (some (.int out.1)) (ce_X13 kA q_this out.2)) [.ref (q_this 0), .int a1, .int a2].toArray s 0 0 A) (F0 m 119 ls []) := by
    intro o_this x1 x2 x3 x4 x5 H locs ls hP hD hS hl hf
    unfold ff_X13_does_b119 at hf
    refine lv_iload_n hx hb dX13_does_119 rfl (lv_at hl 1 rfl) ?_
    refine lv_iconst (v := 2) hx hb dX13_does_120 (by decide) ?_
    refine lv_icmp_ne (tgt := 170) hx hb dX13_does_121 (by decide) (fun hc_19 => ?_) (fun hc_19 => ?_)
    · rw [if_neg hc_19] at hf
      exact hB170 o_this x1 x2 x3 x4 x5 _ _ _ hP hD hS (lv_sub hl [0, 1, 2, 3, 4, 5] rfl) hf
    · rw [if_pos hc_19] at hf
      refine lv_iload hx hb dX13_does_124 (lv_at hl 5 rfl) ?_
      refine lv_if_eq (tgt := 167) hx hb dX13_does_126 (by decide) (fun hc_20 => ?_) (fun hc_20 => ?_)
      · rw [if_pos hc_20] at hf
        exact hB167 o_this x1 x2 x3 x4 _ _ _ hP hD hS (lv_sub hl [0, 1, 2, 3, 4] rfl) hf
      · rw [if_neg hc_20] at hf
        refine lv_aload_n hx hb dX13_does_129 rfl (lv_at hl 0 rfl) ?_
        refine lv_iload_n hx hb dX13_does_130 rfl (lv_at hl 3 rfl) ?_
        refine lv_iload hx hb dX13_does_131 (lv_at hl 4 rfl) ?_
        refine lv_aload_n hx hb dX13_does_133 rfl (lv_at hl 0 rfl) ?_
        refine va_get (D := D) (ci := 9) (v := .ref (q_this 15)) (C := RX13) (T := TX13) (N := 48) hx hb hUX13 (fun _ h9 => h9) hown hK hP 0 rfl rfl 33 (by decide) (hts (Cond.fieldLink RX13 60 "ReliefBuilderModel" "told" "[I") (List.mem_of_getElem? (i := 1) rfl)) (fun _ h9 => h9) rfl dX13_does_134 ?_
        refine lv_iload_n hx hb dX13_does_137 rfl (lv_at hl 2 rfl) ?_
        refine lv_iconst (v := 2) hx hb dX13_does_138 (by decide) ?_
        refine lv_iadd hx hb dX13_does_139 ?_
        obtain ⟨hi_21, hf⟩ := os_if hf
        refine va_iald hx hb hK hP 15 0 rfl rfl hi_21 dX13_does_140 ?_
        refine lv_aload_n hx hb dX13_does_141 rfl (lv_at hl 0 rfl) ?_
        refine va_get (D := D) (ci := 9) (v := .ref (q_this 15)) (C := RX13) (T := TX13) (N := 48) hx hb hUX13 (fun _ h9 => h9) hown hK hP 0 rfl rfl 33 (by decide) (hts (Cond.fieldLink RX13 60 "ReliefBuilderModel" "told" "[I") (List.mem_of_getElem? (i := 1) rfl)) (fun _ h9 => h9) rfl dX13_does_142 ?_
        refine lv_iload_n hx hb dX13_does_145 rfl (lv_at hl 2 rfl) ?_
        refine lv_iconst (v := 3) hx hb dX13_does_146 (by decide) ?_
        refine lv_iadd hx hb dX13_does_147 ?_
        obtain ⟨hi_22, hf⟩ := os_if hf
        refine va_iald hx hb hK hP 15 0 rfl rfl hi_22 dX13_does_148 ?_
        refine lv_aload_n hx hb dX13_does_149 rfl (lv_at hl 0 rfl) ?_
        refine va_get (D := D) (ci := 9) (v := .ref (q_this 15)) (C := RX13) (T := TX13) (N := 48) hx hb hUX13 (fun _ h9 => h9) hown hK hP 0 rfl rfl 33 (by decide) (hts (Cond.fieldLink RX13 60 "ReliefBuilderModel" "told" "[I") (List.mem_of_getElem? (i := 1) rfl)) (fun _ h9 => h9) rfl dX13_does_150 ?_
        refine lv_iload_n hx hb dX13_does_153 rfl (lv_at hl 2 rfl) ?_
        refine lv_iconst (v := 4) hx hb dX13_does_154 (by decide) ?_
        refine lv_iadd hx hb dX13_does_155 ?_
        obtain ⟨hi_23, hf⟩ := os_if hf
        refine va_iald hx hb hK hP 15 0 rfl rfl hi_23 dX13_does_156 ?_
        obtain ⟨u_24, he_25, hf⟩ := os_bd hf
        refine mc_callV ⟨hx, hb, hml, hown, hts⟩ (mm_X13_fits l D kA N q_this o_this x3 x4 ((os_A o_this 14) (Int32.toNatClampNeg (x2 + (2 : Int32)))) ((os_A o_this 14) (Int32.toNatClampNeg (x2 + (3 : Int32)))) ((os_A o_this 14) (Int32.toNatClampNeg (x2 + (4 : Int32)))) u_24 he_25) (cwV 5 hts gX13_does_X13_fits rfl rfl rfl (by decide +kernel) ⟨Nat.le_of_ble_eq_true rfl, Nat.le_of_ble_eq_true rfl⟩) (wc := (ce_X13 kA q_this o_this)) (ci := 9) (q0 := 0) rfl rfl rfl hl.1 (As := [.int x3, .int x4, .int ((os_A o_this 14) (Int32.toNatClampNeg (x2 + (2 : Int32)))), .int ((os_A o_this 14) (Int32.toNatClampNeg (x2 + (3 : Int32)))), .int ((os_A o_this 14) (Int32.toNatClampNeg (x2 + (4 : Int32))))]) (rest := []) rfl (Nat.le_of_ble_eq_true rfl) dX13_does_157 ⟨Nat.le_of_ble_eq_true rfl, Nat.le_of_ble_eq_true rfl⟩ hK hP hD hS hA [0, 1, 2, 3, 4, 5, 6, 7, 8, 9, 10, 11, 12, 13, 14, 15, 16, 17, 18, 19, 20, 21, 22, 23] [] [0, 1, 2, 3, 4, 5, 6, 7, 8, 9, 10, 11, 12, 13, 14, 15, 16, 17, 18, 19, 20, 21, 22, 23] rfl (by decide) rfl (by decide) (by decide) rfl (by decide) (wr := []) (w2 := (ce_X13 kA q_this o_this)) (fun H locs hP hD hS => ?_)
        have hP : va_P D vwCl (ce_X13 kA q_this o_this) H := hP
        refine lv_if_eq (tgt := 167) hx hb dX13_does_160 (by decide) (fun hc_26 => ?_) (fun hc_26 => ?_)
        · rw [if_pos hc_26] at hf
          exact hB167 o_this x1 x2 x3 x4 _ _ _ hP hD hS (lv_sub hl [0, 1, 2, 3, 4] rfl) hf
        · rw [if_neg hc_26] at hf
          refine lv_iconst (v := 1) hx hb dX13_does_163 (by decide) ?_
          refine lv_goto (tgt := 168) hx hb dX13_does_164 (by decide) ?_
          exact hB168 o_this x1 x2 x3 x4 (1 : Int32) _ _ _ hP hD hS (lv_sub hl [0, 1, 2, 3, 4] rfl) hf
  have hB117 : ∀ (o_this : os_T) (x1 : Int32) (x2 : Int32) (x3 : Int32) (x4 : Int32) (t0 : Int32) (H : Heap) (locs : List Loc) (ls : Array Slot), va_P D vwCl (ce_X13 kA q_this o_this) H → va_D A (ce_X13 kA q_this o_this) → va_S A s.heap H locs → lv_has ls 6 [(0, .ref (q_this 0)), (1, .int x1), (2, .int x2), (3, .int x3), (4, .int x4)] → ff_X13_does_b117 N o_this x1 x2 x3 x4 t0 = some out → W p l e ({ frames := 9, cells := 0, slots := 0, locals := 209 } : Room) s m [.ref (q_this 0), .int a1, .int a2].toArray below meth c H locs 0 0 (MQ below (mc_Q D kA A (some (.int out.1)) (ce_X13 kA q_this out.2)) [.ref (q_this 0), .int a1, .int a2].toArray s 0 0 A) (F0 m 117 ls [.int t0]) := by
    intro o_this x1 x2 x3 x4 t0 H locs ls hP hD hS hl hf
    unfold ff_X13_does_b117 at hf
    refine lv_istore (lv' := [(5, .int t0), (0, .ref (q_this 0)), (1, .int x1), (2, .int x2), (3, .int x3), (4, .int x4)]) hx hb dX13_does_117 hl (by decide) rfl (fun ls hl => ?_)
    exact hB119 o_this x1 x2 x3 x4 t0 _ _ _ hP hD hS (lv_sub hl [1, 2, 3, 4, 5, 0] rfl) hf
  have hB116 : ∀ (o_this : os_T) (x1 : Int32) (x2 : Int32) (x3 : Int32) (x4 : Int32) (H : Heap) (locs : List Loc) (ls : Array Slot), va_P D vwCl (ce_X13 kA q_this o_this) H → va_D A (ce_X13 kA q_this o_this) → va_S A s.heap H locs → lv_has ls 6 [(0, .ref (q_this 0)), (1, .int x1), (2, .int x2), (3, .int x3), (4, .int x4)] → ff_X13_does_b116 N o_this x1 x2 x3 x4 = some out → W p l e ({ frames := 9, cells := 0, slots := 0, locals := 209 } : Room) s m [.ref (q_this 0), .int a1, .int a2].toArray below meth c H locs 0 0 (MQ below (mc_Q D kA A (some (.int out.1)) (ce_X13 kA q_this out.2)) [.ref (q_this 0), .int a1, .int a2].toArray s 0 0 A) (F0 m 116 ls []) := by
    intro o_this x1 x2 x3 x4 H locs ls hP hD hS hl hf
    unfold ff_X13_does_b116 at hf
    refine lv_iconst (v := 0) hx hb dX13_does_116 (by decide) ?_
    exact hB117 o_this x1 x2 x3 x4 (0 : Int32) _ _ _ hP hD hS (lv_sub hl [0, 1, 2, 3, 4] rfl) hf
  have hB87 : ∀ (o_this : os_T) (x1 : Int32) (x2 : Int32) (x3 : Int32) (x4 : Int32) (x5 : Int32) (H : Heap) (locs : List Loc) (ls : Array Slot), va_P D vwCl (ce_X13 kA q_this o_this) H → va_D A (ce_X13 kA q_this o_this) → va_S A s.heap H locs → lv_has ls 6 [(0, .ref (q_this 0)), (1, .int x1), (2, .int x2), (3, .int x3), (4, .int x4), (5, .int x5)] → ff_X13_does_b87 N o_this x1 x2 x3 x4 x5 = some out → W p l e ({ frames := 9, cells := 0, slots := 0, locals := 209 } : Room) s m [.ref (q_this 0), .int a1, .int a2].toArray below meth c H locs 0 0 (MQ below (mc_Q D kA A (some (.int out.1)) (ce_X13 kA q_this out.2)) [.ref (q_this 0), .int a1, .int a2].toArray s 0 0 A) (F0 m 87 ls []) := by
    intro o_this x1 x2 x3 x4 x5 H locs ls hP hD hS hl hf
    unfold ff_X13_does_b87 at hf
    refine lv_iload_n hx hb dX13_does_87 rfl (lv_at hl 1 rfl) ?_
    refine lv_iconst (v := 1) hx hb dX13_does_88 (by decide) ?_
    refine lv_icmp_ne (tgt := 119) hx hb dX13_does_89 (by decide) (fun hc_13 => ?_) (fun hc_13 => ?_)
    · rw [if_neg hc_13] at hf
      exact hB119 o_this x1 x2 x3 x4 x5 _ _ _ hP hD hS (lv_sub hl [0, 1, 2, 3, 4, 5] rfl) hf
    · rw [if_pos hc_13] at hf
      refine lv_iload hx hb dX13_does_92 (lv_at hl 5 rfl) ?_
      refine lv_if_eq (tgt := 116) hx hb dX13_does_94 (by decide) (fun hc_14 => ?_) (fun hc_14 => ?_)
      · rw [if_pos hc_14] at hf
        exact hB116 o_this x1 x2 x3 x4 _ _ _ hP hD hS (lv_sub hl [0, 1, 2, 3, 4] rfl) hf
      · rw [if_neg hc_14] at hf
        refine lv_aload_n hx hb dX13_does_97 rfl (lv_at hl 0 rfl) ?_
        refine lv_aload_n hx hb dX13_does_98 rfl (lv_at hl 0 rfl) ?_
        refine va_get (D := D) (ci := 9) (v := .ref (q_this 15)) (C := RX13) (T := TX13) (N := 48) hx hb hUX13 (fun _ h9 => h9) hown hK hP 0 rfl rfl 33 (by decide) (hts (Cond.fieldLink RX13 60 "ReliefBuilderModel" "told" "[I") (List.mem_of_getElem? (i := 1) rfl)) (fun _ h9 => h9) rfl dX13_does_99 ?_
        refine lv_iload_n hx hb dX13_does_102 rfl (lv_at hl 2 rfl) ?_
        refine lv_iconst (v := 2) hx hb dX13_does_103 (by decide) ?_
        refine lv_iadd hx hb dX13_does_104 ?_
        obtain ⟨hi_15, hf⟩ := os_if hf
        refine va_iald hx hb hK hP 15 0 rfl rfl hi_15 dX13_does_105 ?_
        obtain ⟨u_16, he_17, hf⟩ := os_bd hf
        refine mc_callV ⟨hx, hb, hml, hown, hts⟩ (mm_X13_isHeight l D kA N q_this o_this ((os_A o_this 14) (Int32.toNatClampNeg (x2 + (2 : Int32)))) u_16 he_17) (cwV 1 hts gX13_does_X13_isHeight rfl rfl rfl (by decide +kernel) ⟨Nat.le_of_ble_eq_true rfl, Nat.le_of_ble_eq_true rfl⟩) (wc := (ce_X13 kA q_this o_this)) (ci := 9) (q0 := 0) rfl rfl rfl hl.1 (As := [.int ((os_A o_this 14) (Int32.toNatClampNeg (x2 + (2 : Int32))))]) (rest := []) rfl (Nat.le_of_ble_eq_true rfl) dX13_does_106 ⟨Nat.le_of_ble_eq_true rfl, Nat.le_of_ble_eq_true rfl⟩ hK hP hD hS hA [0, 1, 2, 3, 4, 5, 6, 7, 8, 9, 10, 11, 12, 13, 14, 15, 16, 17, 18, 19, 20, 21, 22, 23] [] [0, 1, 2, 3, 4, 5, 6, 7, 8, 9, 10, 11, 12, 13, 14, 15, 16, 17, 18, 19, 20, 21, 22, 23] rfl (by decide) rfl (by decide) (by decide) rfl (by decide) (wr := []) (w2 := (ce_X13 kA q_this o_this)) (fun H locs hP hD hS => ?_)
        have hP : va_P D vwCl (ce_X13 kA q_this o_this) H := hP
        refine lv_if_eq (tgt := 116) hx hb dX13_does_109 (by decide) (fun hc_18 => ?_) (fun hc_18 => ?_)
        · rw [if_pos hc_18] at hf
          exact hB116 o_this x1 x2 x3 x4 _ _ _ hP hD hS (lv_sub hl [0, 1, 2, 3, 4] rfl) hf
        · rw [if_neg hc_18] at hf
          refine lv_iconst (v := 1) hx hb dX13_does_112 (by decide) ?_
          refine lv_goto (tgt := 117) hx hb dX13_does_113 (by decide) ?_
          exact hB117 o_this x1 x2 x3 x4 (1 : Int32) _ _ _ hP hD hS (lv_sub hl [0, 1, 2, 3, 4] rfl) hf
  have hB85 : ∀ (o_this : os_T) (x1 : Int32) (x2 : Int32) (x3 : Int32) (x4 : Int32) (t0 : Int32) (H : Heap) (locs : List Loc) (ls : Array Slot), va_P D vwCl (ce_X13 kA q_this o_this) H → va_D A (ce_X13 kA q_this o_this) → va_S A s.heap H locs → lv_has ls 6 [(0, .ref (q_this 0)), (1, .int x1), (2, .int x2), (3, .int x3), (4, .int x4)] → ff_X13_does_b85 N o_this x1 x2 x3 x4 t0 = some out → W p l e ({ frames := 9, cells := 0, slots := 0, locals := 209 } : Room) s m [.ref (q_this 0), .int a1, .int a2].toArray below meth c H locs 0 0 (MQ below (mc_Q D kA A (some (.int out.1)) (ce_X13 kA q_this out.2)) [.ref (q_this 0), .int a1, .int a2].toArray s 0 0 A) (F0 m 85 ls [.int t0]) := by
    intro o_this x1 x2 x3 x4 t0 H locs ls hP hD hS hl hf
    unfold ff_X13_does_b85 at hf
    refine lv_istore (lv' := [(5, .int t0), (0, .ref (q_this 0)), (1, .int x1), (2, .int x2), (3, .int x3), (4, .int x4)]) hx hb dX13_does_85 hl (by decide) rfl (fun ls hl => ?_)
    exact hB87 o_this x1 x2 x3 x4 t0 _ _ _ hP hD hS (lv_sub hl [1, 2, 3, 4, 5, 0] rfl) hf
  have hB69 : ∀ (o_this : os_T) (x1 : Int32) (x2 : Int32) (x3 : Int32) (x4 : Int32) (t0 : Int32) (H : Heap) (locs : List Loc) (ls : Array Slot), va_P D vwCl (ce_X13 kA q_this o_this) H → va_D A (ce_X13 kA q_this o_this) → va_S A s.heap H locs → lv_has ls 6 [(0, .ref (q_this 0)), (1, .int x1), (2, .int x2), (3, .int x3), (4, .int x4)] → ff_X13_does_b69 N o_this x1 x2 x3 x4 t0 = some out → W p l e ({ frames := 9, cells := 0, slots := 0, locals := 209 } : Room) s m [.ref (q_this 0), .int a1, .int a2].toArray below meth c H locs 0 0 (MQ below (mc_Q D kA A (some (.int out.1)) (ce_X13 kA q_this out.2)) [.ref (q_this 0), .int a1, .int a2].toArray s 0 0 A) (F0 m 69 ls [.int t0]) := by
    intro o_this x1 x2 x3 x4 t0 H locs ls hP hD hS hl hf
    unfold ff_X13_does_b69 at hf
    refine lv_istore (lv' := [(5, .int t0), (0, .ref (q_this 0)), (1, .int x1), (2, .int x2), (3, .int x3), (4, .int x4)]) hx hb dX13_does_69 hl (by decide) rfl (fun ls hl => ?_)
    refine lv_iload_n hx hb dX13_does_71 rfl (lv_at hl 2 rfl) ?_
    refine lv_iconst (v := 4) hx hb dX13_does_72 (by decide) ?_
    refine lv_icmp_ne (tgt := 87) hx hb dX13_does_73 (by decide) (fun hc_8 => ?_) (fun hc_8 => ?_)
    · rw [if_neg hc_8] at hf
      exact hB87 o_this x1 x2 x3 x4 t0 _ _ _ hP hD hS (lv_sub hl [1, 2, 3, 4, 5, 0] rfl) hf
    · rw [if_pos hc_8] at hf
      refine lv_iload_n hx hb dX13_does_76 rfl (lv_at hl 4 rfl) ?_
      refine lv_if_le (tgt := 84) hx hb dX13_does_77 (by decide) (fun hc_9 => ?_) (fun hc_9 => ?_)
      · rw [if_pos hc_9] at hf
        refine lv_iconst (v := 0) hx hb dX13_does_84 (by decide) ?_
        exact hB85 o_this x1 x2 x3 x4 (0 : Int32) _ _ _ hP hD hS (lv_sub hl [1, 2, 3, 4, 5] rfl) hf
      · rw [if_neg hc_9] at hf
        refine lv_iconst (v := 1) hx hb dX13_does_80 (by decide) ?_
        refine lv_goto (tgt := 85) hx hb dX13_does_81 (by decide) ?_
        exact hB85 o_this x1 x2 x3 x4 (1 : Int32) _ _ _ hP hD hS (lv_sub hl [1, 2, 3, 4, 5] rfl) hf
  have hB64 : ∀ (o_this : os_T) (x1 : Int32) (x2 : Int32) (x3 : Int32) (x4 : Int32) (H : Heap) (locs : List Loc) (ls : Array Slot), va_P D vwCl (ce_X13 kA q_this o_this) H → va_D A (ce_X13 kA q_this o_this) → va_S A s.heap H locs → lv_has ls 6 [(0, .ref (q_this 0)), (1, .int x1), (2, .int x2), (3, .int x3), (4, .int x4)] → ff_X13_does_b64 N o_this x1 x2 x3 x4 = some out → W p l e ({ frames := 9, cells := 0, slots := 0, locals := 209 } : Room) s m [.ref (q_this 0), .int a1, .int a2].toArray below meth c H locs 0 0 (MQ below (mc_Q D kA A (some (.int out.1)) (ce_X13 kA q_this out.2)) [.ref (q_this 0), .int a1, .int a2].toArray s 0 0 A) (F0 m 64 ls []) := by
    intro o_this x1 x2 x3 x4 H locs ls hP hD hS hl hf
    unfold ff_X13_does_b64 at hf
    refine lv_iconst (v := 1) hx hb dX13_does_64 (by decide) ?_
    refine lv_goto (tgt := 69) hx hb dX13_does_65 (by decide) ?_
    exact hB69 o_this x1 x2 x3 x4 (1 : Int32) _ _ _ hP hD hS (lv_sub hl [0, 1, 2, 3, 4] rfl) hf
  have hB58 : ∀ (o_this : os_T) (x1 : Int32) (x2 : Int32) (x3 : Int32) (x4 : Int32) (t0 : Int32) (t1 : Int32) (H : Heap) (locs : List Loc) (ls : Array Slot), va_P D vwCl (ce_X13 kA q_this o_this) H → va_D A (ce_X13 kA q_this o_this) → va_S A s.heap H locs → lv_has ls 6 [(0, .ref (q_this 0)), (1, .int x1), (2, .int x2), (3, .int x3), (4, .int x4)] → ff_X13_does_b58 N o_this x1 x2 x3 x4 t0 t1 = some out → W p l e ({ frames := 9, cells := 0, slots := 0, locals := 209 } : Room) s m [.ref (q_this 0), .int a1, .int a2].toArray below meth c H locs 0 0 (MQ below (mc_Q D kA A (some (.int out.1)) (ce_X13 kA q_this out.2)) [.ref (q_this 0), .int a1, .int a2].toArray s 0 0 A) (F0 m 58 ls [.int t0, .int t1, .ref (q_this 0)]) := by
    intro o_this x1 x2 x3 x4 t0 t1 H locs ls hP hD hS hl hf
    unfold ff_X13_does_b58 at hf
    obtain ⟨u_10, he_11, hf⟩ := os_bd hf
    refine mc_callV ⟨hx, hb, hml, hown, hts⟩ (mm_X13_isCell l D kA N q_this o_this t1 t0 u_10 he_11) (cwV 2 hts gX13_does_X13_isCell rfl rfl rfl (by decide +kernel) ⟨Nat.le_of_ble_eq_true rfl, Nat.le_of_ble_eq_true rfl⟩) (wc := (ce_X13 kA q_this o_this)) (ci := 9) (q0 := 0) rfl rfl rfl hl.1 (As := [.int t1, .int t0]) (rest := []) rfl (Nat.le_of_ble_eq_true rfl) dX13_does_58 ⟨Nat.le_of_ble_eq_true rfl, Nat.le_of_ble_eq_true rfl⟩ hK hP hD hS hA [0, 1, 2, 3, 4, 5, 6, 7, 8, 9, 10, 11, 12, 13, 14, 15, 16, 17, 18, 19, 20, 21, 22, 23] [] [0, 1, 2, 3, 4, 5, 6, 7, 8, 9, 10, 11, 12, 13, 14, 15, 16, 17, 18, 19, 20, 21, 22, 23] rfl (by decide) rfl (by decide) (by decide) rfl (by decide) (wr := []) (w2 := (ce_X13 kA q_this o_this)) (fun H locs hP hD hS => ?_)
    have hP : va_P D vwCl (ce_X13 kA q_this o_this) H := hP
    refine lv_if_eq (tgt := 68) hx hb dX13_does_61 (by decide) (fun hc_12 => ?_) (fun hc_12 => ?_)
    · rw [if_pos hc_12] at hf
      refine lv_iconst (v := 0) hx hb dX13_does_68 (by decide) ?_
      exact hB69 o_this x1 x2 x3 x4 (0 : Int32) _ _ _ hP hD hS (lv_sub hl [0, 1, 2, 3, 4] rfl) hf
    · rw [if_neg hc_12] at hf
      exact hB64 o_this x1 x2 x3 x4 _ _ _ hP hD hS (lv_sub hl [0, 1, 2, 3, 4] rfl) hf
  have hB40 : ∀ (o_this : os_T) (x1 : Int32) (x2 : Int32) (x3 : Int32) (x4 : Int32) (t0 : Int32) (H : Heap) (locs : List Loc) (ls : Array Slot), va_P D vwCl (ce_X13 kA q_this o_this) H → va_D A (ce_X13 kA q_this o_this) → va_S A s.heap H locs → lv_has ls 6 [(0, .ref (q_this 0)), (1, .int x1), (2, .int x2), (3, .int x3), (4, .int x4)] → ff_X13_does_b40 N o_this x1 x2 x3 x4 t0 = some out → W p l e ({ frames := 9, cells := 0, slots := 0, locals := 209 } : Room) s m [.ref (q_this 0), .int a1, .int a2].toArray below meth c H locs 0 0 (MQ below (mc_Q D kA A (some (.int out.1)) (ce_X13 kA q_this out.2)) [.ref (q_this 0), .int a1, .int a2].toArray s 0 0 A) (F0 m 40 ls [.int t0, .ref (q_this 0)]) := by
    intro o_this x1 x2 x3 x4 t0 H locs ls hP hD hS hl hf
    unfold ff_X13_does_b40 at hf
    refine lv_iload_n hx hb dX13_does_40 rfl (lv_at hl 1 rfl) ?_
    refine lv_iconst (v := 3) hx hb dX13_does_41 (by decide) ?_
    refine lv_icmp_ne (tgt := 56) hx hb dX13_does_42 (by decide) (fun hc_6 => ?_) (fun hc_6 => ?_)
    · rw [if_neg hc_6] at hf
      refine lv_iload hx hb dX13_does_56 (lv_at hl 4 rfl) ?_
      exact hB58 o_this x1 x2 x3 x4 x4 t0 _ _ _ hP hD hS (lv_sub hl [0, 1, 2, 3, 4] rfl) hf
    · rw [if_pos hc_6] at hf
      refine lv_aload_n hx hb dX13_does_45 rfl (lv_at hl 0 rfl) ?_
      refine va_get (D := D) (ci := 9) (v := .ref (q_this 15)) (C := RX13) (T := TX13) (N := 48) hx hb hUX13 (fun _ h9 => h9) hown hK hP 0 rfl rfl 33 (by decide) (hts (Cond.fieldLink RX13 60 "ReliefBuilderModel" "told" "[I") (List.mem_of_getElem? (i := 1) rfl)) (fun _ h9 => h9) rfl dX13_does_46 ?_
      refine lv_iload_n hx hb dX13_does_49 rfl (lv_at hl 2 rfl) ?_
      refine lv_iconst (v := 3) hx hb dX13_does_50 (by decide) ?_
      refine lv_iadd hx hb dX13_does_51 ?_
      obtain ⟨hi_7, hf⟩ := os_if hf
      refine va_iald hx hb hK hP 15 0 rfl rfl hi_7 dX13_does_52 ?_
      refine lv_goto (tgt := 58) hx hb dX13_does_53 (by decide) ?_
      exact hB58 o_this x1 x2 x3 x4 ((os_A o_this 14) (Int32.toNatClampNeg (x2 + (3 : Int32)))) t0 _ _ _ hP hD hS (lv_sub hl [0, 1, 2, 3, 4] rfl) hf
  unfold ff_X13_does at hf
  refine lv_aload_n hx hb dX13_does_0 rfl (lv_at hl 0 rfl) ?_
  refine va_get (D := D) (ci := 9) (v := .ref (q_this 15)) (C := RX13) (T := TX13) (N := 48) hx hb hUX13 (fun _ h9 => h9) hown hK hP 0 rfl rfl 33 (by decide) (hts (Cond.fieldLink RX13 60 "ReliefBuilderModel" "told" "[I") (List.mem_of_getElem? (i := 1) rfl)) (fun _ h9 => h9) rfl dX13_does_1 ?_
  refine lv_iload_n hx hb dX13_does_4 rfl (lv_at hl 2 rfl) ?_
  obtain ⟨hi_1, hf⟩ := os_if hf
  refine va_iald hx hb hK hP 15 0 rfl rfl hi_1 dX13_does_5 ?_
  refine lv_istore_n (lv' := [(3, .int ((os_A o_this 14) (Int32.toNatClampNeg a2))), (0, .ref (q_this 0)), (1, .int a1), (2, .int a2)]) hx hb dX13_does_6 rfl hl (by decide) rfl (fun ls hl => ?_)
  refine lv_aload_n hx hb dX13_does_7 rfl (lv_at hl 1 rfl) ?_
  refine va_get (D := D) (ci := 9) (v := .ref (q_this 15)) (C := RX13) (T := TX13) (N := 48) hx hb hUX13 (fun _ h9 => h9) hown hK hP 0 rfl rfl 33 (by decide) (hts (Cond.fieldLink RX13 60 "ReliefBuilderModel" "told" "[I") (List.mem_of_getElem? (i := 1) rfl)) (fun _ h9 => h9) rfl dX13_does_8 ?_
  refine lv_iload_n hx hb dX13_does_11 rfl (lv_at hl 3 rfl) ?_
  refine lv_iconst (v := 1) hx hb dX13_does_12 (by decide) ?_
  refine lv_iadd hx hb dX13_does_13 ?_
  obtain ⟨hi_2, hf⟩ := os_if hf
  refine va_iald hx hb hK hP 15 0 rfl rfl hi_2 dX13_does_14 ?_
  refine lv_istore (lv' := [(4, .int ((os_A o_this 14) (Int32.toNatClampNeg (a2 + (1 : Int32))))), (3, .int ((os_A o_this 14) (Int32.toNatClampNeg a2))), (0, .ref (q_this 0)), (1, .int a1), (2, .int a2)]) hx hb dX13_does_15 hl (by decide) rfl (fun ls hl => ?_)
  refine lv_iload_n hx hb dX13_does_17 rfl (lv_at hl 3 rfl) ?_
  refine lv_iconst (v := 3) hx hb dX13_does_18 (by decide) ?_
  refine lv_icmp_gt (tgt := 64) hx hb dX13_does_19 (by decide) (fun hc_3 => ?_) (fun hc_3 => ?_)
  · rw [if_pos hc_3] at hf
    exact hB64 o_this a1 a2 ((os_A o_this 14) (Int32.toNatClampNeg a2)) ((os_A o_this 14) (Int32.toNatClampNeg (a2 + (1 : Int32)))) _ _ _ hP hD hS (lv_sub hl [2, 3, 4, 1, 0] rfl) hf
  · rw [if_neg hc_3] at hf
    refine lv_aload_n hx hb dX13_does_22 rfl (lv_at hl 2 rfl) ?_
    refine lv_iload_n hx hb dX13_does_23 rfl (lv_at hl 3 rfl) ?_
    refine lv_iconst (v := 3) hx hb dX13_does_24 (by decide) ?_
    refine lv_icmp_ne (tgt := 39) hx hb dX13_does_25 (by decide) (fun hc_4 => ?_) (fun hc_4 => ?_)
    · rw [if_neg hc_4] at hf
      refine lv_iload_n hx hb dX13_does_39 rfl (lv_at hl 1 rfl) ?_
      exact hB40 o_this a1 a2 ((os_A o_this 14) (Int32.toNatClampNeg a2)) ((os_A o_this 14) (Int32.toNatClampNeg (a2 + (1 : Int32)))) ((os_A o_this 14) (Int32.toNatClampNeg a2)) _ _ _ hP hD hS (lv_sub hl [2, 3, 4, 1, 0] rfl) hf
    · rw [if_pos hc_4] at hf
      refine lv_aload_n hx hb dX13_does_28 rfl (lv_at hl 2 rfl) ?_
      refine va_get (D := D) (ci := 9) (v := .ref (q_this 15)) (C := RX13) (T := TX13) (N := 48) hx hb hUX13 (fun _ h9 => h9) hown hK hP 0 rfl rfl 33 (by decide) (hts (Cond.fieldLink RX13 60 "ReliefBuilderModel" "told" "[I") (List.mem_of_getElem? (i := 1) rfl)) (fun _ h9 => h9) rfl dX13_does_29 ?_
      refine lv_iload_n hx hb dX13_does_32 rfl (lv_at hl 4 rfl) ?_
      refine lv_iconst (v := 2) hx hb dX13_does_33 (by decide) ?_
      refine lv_iadd hx hb dX13_does_34 ?_
      obtain ⟨hi_5, hf⟩ := os_if hf
      refine va_iald hx hb hK hP 15 0 rfl rfl hi_5 dX13_does_35 ?_
      refine lv_goto (tgt := 40) hx hb dX13_does_36 (by decide) ?_
      exact hB40 o_this a1 a2 ((os_A o_this 14) (Int32.toNatClampNeg a2)) ((os_A o_this 14) (Int32.toNatClampNeg (a2 + (1 : Int32)))) ((os_A o_this 14) (Int32.toNatClampNeg (a2 + (2 : Int32)))) _ _ _ hP hD hS (lv_sub hl [2, 3, 4, 1, 0] rfl) hf
def ff_X13_runs0_b143 (N : Nat) (k9 : (os_T × Int32 × Int32 × Int32 × Int32) → Option (Int32 × os_T)) (o_this : os_T) (x1 : Int32) (x3 : Int32) (x4 : Int32) (t0 : Int32) (t1 : Int32) : Option (Int32 × os_T) :=
  ((ff_X13_truth N t0).bind fun u_23 => k9 (o_this, x1, t1 - u_23, x3, x4))
def ff_X13_runs0_b131 (N : Nat) (k9 : (os_T × Int32 × Int32 × Int32 × Int32) → Option (Int32 × os_T)) (o_this : os_T) (x1 : Int32) (x2 : Int32) (x4 : Int32) (x5 : Int32) (t0 : Int32) : Option (Int32 × os_T) :=
  (if x5 = 0 then ff_X13_runs0_b143 N k9 o_this x1 t0 x4 (1 : Int32) x2 else ff_X13_runs0_b143 N k9 o_this x1 t0 x4 (0 : Int32) x2)
def ff_X13_runs0_b108 (N : Nat) (k9 : (os_T × Int32 × Int32 × Int32 × Int32) → Option (Int32 × os_T)) (o_this : os_T) (x1 : Int32) (x2 : Int32) (x3 : Int32) (x4 : Int32) (t0 : Int32) : Option (Int32 × os_T) :=
  (if t0 = 0 then ff_X13_runs0_b131 N k9 o_this x1 x2 x4 t0 (x3 + (1 : Int32)) else (if os_in (x2 - (1 : Int32)) 2 then ff_X13_runs0_b131 N k9 o_this x1 x2 x4 t0 (((os_A o_this 15) (Int32.toNatClampNeg (x2 - (1 : Int32)))) + (1 : Int32)) else none))
def ff_X13_runs0_c9 (N : Nat) (k9 : (os_T × Int32 × Int32 × Int32 × Int32) → Option (Int32 × os_T)) (o_this : os_T) (x1 : Int32) (x2 : Int32) (x3 : Int32) (x4 : Int32) : Option (Int32 × os_T) :=
  (if x4 = 0 then some (x1, o_this) else (if (os_I o_this 38) ≤ x3 then some (x1, o_this) else (if (60 : Int32) ≤ x1 then some (x1, o_this) else (if os_in x3 60 then (if ((os_A o_this 13) (Int32.toNatClampNeg x3)) = (11 : Int32) then (if os_in x2 2 then (if os_in ((5 : Int32) * x3) 300 then (if os_in x2 2 then k9 (ss_A (ss_A o_this 15 (upd (os_A o_this 15) (Int32.toNatClampNeg x2) x3)) 16 (upd (os_A o_this 16) (Int32.toNatClampNeg x2) ((os_A o_this 14) (Int32.toNatClampNeg ((5 : Int32) * x3)))), x1, x2 + 1, x3 + 1, x4) else none) else none) else none) else (if os_in x3 60 then (if ((os_A o_this 13) (Int32.toNatClampNeg x3)) = (12 : Int32) then (if os_in (x2 - (1 : Int32)) 2 then (if os_in (x2 - (1 : Int32)) 2 then (if os_in (x2 - (1 : Int32)) 2 then (if ((upd (os_A o_this 16) (Int32.toNatClampNeg (x2 - (1 : Int32))) (((os_A o_this 16) (Int32.toNatClampNeg (x2 - (1 : Int32)))) - (1 : Int32))) (Int32.toNatClampNeg (x2 - (1 : Int32)))) ≤ 0 then ff_X13_runs0_b108 N k9 (ss_A o_this 16 (upd (os_A o_this 16) (Int32.toNatClampNeg (x2 - (1 : Int32))) (((os_A o_this 16) (Int32.toNatClampNeg (x2 - (1 : Int32)))) - (1 : Int32)))) x1 x2 x3 x4 (0 : Int32) else ff_X13_runs0_b108 N k9 (ss_A o_this 16 (upd (os_A o_this 16) (Int32.toNatClampNeg (x2 - (1 : Int32))) (((os_A o_this 16) (Int32.toNatClampNeg (x2 - (1 : Int32)))) - (1 : Int32)))) x1 x2 x3 x4 (1 : Int32)) else none) else none) else none) else (if os_in x3 60 then ((ff_X13_does N o_this ((os_A o_this 13) (Int32.toNatClampNeg x3)) ((5 : Int32) * x3)).bind fun u_9 => ((ff_X13_truth N u_9.1).bind fun u_11 => k9 (u_9.2, x1 + u_11, x2, x3 + 1, u_9.1))) else none)) else none)) else none))))
def ff_X13_runs0_l9 (N : Nat) : Nat → (os_T × Int32 × Int32 × Int32 × Int32) → Option (Int32 × os_T) := os_loop (fun k9 s1 => ff_X13_runs0_c9 N k9 s1.1 s1.2.1 s1.2.2.1 s1.2.2.2.1 s1.2.2.2.2)
def ff_X13_runs0 (N : Nat) (o_this : os_T) : Option (Int32 × os_T) :=
  ff_X13_runs0_l9 N N (o_this, (0 : Int32), (0 : Int32), (0 : Int32), (1 : Int32))
set_option maxHeartbeats 4000000 in
set_option maxRecDepth 100000 in
theorem mm_X13_runs0 (l : Launch) (D : va_G) (kA : Nat → ClassId) (N : Nat) (q_this : Nat → Nat) (o_this : os_T) (out : (Int32 × os_T)) (hf : ff_X13_runs0 N o_this = some out) : mc_C l D kA yX13_runs0 wsX13_runs0 ({ frames := 10, cells := 0, slots := 0, locals := 234 } : Room) [.ref (q_this 0)] (ce_X13 kA q_this o_this) (some (.int out.1)) (ce_X13 kA q_this out.2) := by
  refine mc_of (cc := cX13_runs0) (maxL := 6) (ret := (some .int)) (by decide) rfl (Nat.le_of_ble_eq_true rfl) ?_
  intro p e s m below meth c A B hD hP hS ls hl
  obtain ⟨hx, hb, hr, hlk, hml, hown, hts, hK, hA, hnm⟩ := B
  have hown : s.vm.findClass RX13 = some m.cls := hown
  have hl : lv_has ls 6 [(0, .ref (q_this 0))] := hl
  have hUX13 : ∀ w ∈ u_ws RX13 TX13 48, w.before [.ref (q_this 0)].toArray s = true := fun w h => hts w (List.mem_cons_of_mem _ (List.mem_append_right _ h))
  have hB143 : ∀ (k9 : (os_T × Int32 × Int32 × Int32 × Int32) → Option (Int32 × os_T)), (∀ (o_this : os_T) (x1 : Int32) (x2 : Int32) (x3 : Int32) (x4 : Int32) (H : Heap) (locs : List Loc) (ls : Array Slot), va_P D vwCl (ce_X13 kA q_this o_this) H → va_D A (ce_X13 kA q_this o_this) → va_S A s.heap H locs → lv_has ls 6 [(0, .ref (q_this 0)), (1, .int x1), (2, .int x2), (3, .int x3), (4, .int x4)] → k9 (o_this, x1, x2, x3, x4) = some out → W p l e ({ frames := 10, cells := 0, slots := 0, locals := 234 } : Room) s m [.ref (q_this 0)].toArray below meth c H locs 0 0 (MQ below (mc_Q D kA A (some (.int out.1)) (ce_X13 kA q_this out.2)) [.ref (q_this 0)].toArray s 0 0 A) (F0 m 9 ls [])) → ∀ (o_this : os_T) (x1 : Int32) (x3 : Int32) (x4 : Int32) (t0 : Int32) (t1 : Int32) (H : Heap) (locs : List Loc) (ls : Array Slot), va_P D vwCl (ce_X13 kA q_this o_this) H → va_D A (ce_X13 kA q_this o_this) → va_S A s.heap H locs → lv_has ls 6 [(0, .ref (q_this 0)), (1, .int x1), (3, .int x3), (4, .int x4)] → ff_X13_runs0_b143 N k9 o_this x1 x3 x4 t0 t1 = some out → W p l e ({ frames := 10, cells := 0, slots := 0, locals := 234 } : Room) s m [.ref (q_this 0)].toArray below meth c H locs 0 0 (MQ below (mc_Q D kA A (some (.int out.1)) (ce_X13 kA q_this out.2)) [.ref (q_this 0)].toArray s 0 0 A) (F0 m 143 ls [.int t0, .int t1]) := by
    intro k9 hk9 o_this x1 x3 x4 t0 t1 H locs ls hP hD hS hl hf
    unfold ff_X13_runs0_b143 at hf
    obtain ⟨u_23, he_24, hf⟩ := os_bd hf
    refine mc_callS ⟨hx, hb, hml, hown, hts⟩ (mm_X13_truth l D kA N t0 u_23 he_24) (va_cwS 1 hts gX13_runs0_X13_truth rfl rfl rfl (by decide +kernel) ⟨Nat.le_of_ble_eq_true rfl, Nat.le_of_ble_eq_true rfl⟩) (wc := []) rfl hl.1 (As := [.int t0]) (rest := [.int t1]) rfl (Nat.le_of_ble_eq_true rfl) dX13_runs0_143 ⟨Nat.le_of_ble_eq_true rfl, Nat.le_of_ble_eq_true rfl⟩ hK hP hD hS hA [] [0, 1, 2, 3, 4, 5, 6, 7, 8, 9, 10, 11, 12, 13, 14, 15, 16, 17, 18, 19, 20, 21, 22, 23] [0, 1, 2, 3, 4, 5, 6, 7, 8, 9, 10, 11, 12, 13, 14, 15, 16, 17, 18, 19, 20, 21, 22, 23] rfl (by decide) rfl (by decide) (by decide) rfl (by decide) (wr := (ce_X13 kA q_this o_this)) (w2 := (ce_X13 kA q_this o_this)) (fun H locs hP hD hS => ?_)
    have hP : va_P D vwCl (ce_X13 kA q_this o_this) H := hP
    refine lv_isub hx hb dX13_runs0_146 ?_
    refine lv_istore_n (lv' := [(2, .int (t1 - u_23)), (0, .ref (q_this 0)), (1, .int x1), (3, .int x3), (4, .int x4)]) hx hb dX13_runs0_147 rfl hl (by decide) rfl (fun ls hl => ?_)
    refine lv_goto (tgt := 9) hx hb dX13_runs0_148 (by decide) ?_
    exact hk9 o_this x1 (t1 - u_23) x3 x4 _ _ _ hP hD hS (lv_sub hl [1, 2, 0, 3, 4] rfl) hf
  have hB131 : ∀ (k9 : (os_T × Int32 × Int32 × Int32 × Int32) → Option (Int32 × os_T)), (∀ (o_this : os_T) (x1 : Int32) (x2 : Int32) (x3 : Int32) (x4 : Int32) (H : Heap) (locs : List Loc) (ls : Array Slot), va_P D vwCl (ce_X13 kA q_this o_this) H → va_D A (ce_X13 kA q_this o_this) → va_S A s.heap H locs → lv_has ls 6 [(0, .ref (q_this 0)), (1, .int x1), (2, .int x2), (3, .int x3), (4, .int x4)] → k9 (o_this, x1, x2, x3, x4) = some out → W p l e ({ frames := 10, cells := 0, slots := 0, locals := 234 } : Room) s m [.ref (q_this 0)].toArray below meth c H locs 0 0 (MQ below (mc_Q D kA A (some (.int out.1)) (ce_X13 kA q_this out.2)) [.ref (q_this 0)].toArray s 0 0 A) (F0 m 9 ls [])) → ∀ (o_this : os_T) (x1 : Int32) (x2 : Int32) (x4 : Int32) (x5 : Int32) (t0 : Int32) (H : Heap) (locs : List Loc) (ls : Array Slot), va_P D vwCl (ce_X13 kA q_this o_this) H → va_D A (ce_X13 kA q_this o_this) → va_S A s.heap H locs → lv_has ls 6 [(0, .ref (q_this 0)), (1, .int x1), (2, .int x2), (4, .int x4), (5, .int x5)] → ff_X13_runs0_b131 N k9 o_this x1 x2 x4 x5 t0 = some out → W p l e ({ frames := 10, cells := 0, slots := 0, locals := 234 } : Room) s m [.ref (q_this 0)].toArray below meth c H locs 0 0 (MQ below (mc_Q D kA A (some (.int out.1)) (ce_X13 kA q_this out.2)) [.ref (q_this 0)].toArray s 0 0 A) (F0 m 131 ls [.int t0]) := by
    intro k9 hk9 o_this x1 x2 x4 x5 t0 H locs ls hP hD hS hl hf
    unfold ff_X13_runs0_b131 at hf
    refine lv_istore_n (lv' := [(3, .int t0), (0, .ref (q_this 0)), (1, .int x1), (2, .int x2), (4, .int x4), (5, .int x5)]) hx hb dX13_runs0_131 rfl hl (by decide) rfl (fun ls hl => ?_)
    refine lv_iload_n hx hb dX13_runs0_132 rfl (lv_at hl 3 rfl) ?_
    refine lv_iload hx hb dX13_runs0_133 (lv_at hl 5 rfl) ?_
    refine lv_if_ne (tgt := 142) hx hb dX13_runs0_135 (by decide) (fun hc_22 => ?_) (fun hc_22 => ?_)
    · rw [if_neg hc_22] at hf
      refine lv_iconst (v := 0) hx hb dX13_runs0_142 (by decide) ?_
      exact hB143 k9 hk9 o_this x1 t0 x4 (0 : Int32) x2 _ _ _ hP hD hS (lv_sub hl [1, 2, 0, 4] rfl) hf
    · rw [if_pos hc_22] at hf
      refine lv_iconst (v := 1) hx hb dX13_runs0_138 (by decide) ?_
      refine lv_goto (tgt := 143) hx hb dX13_runs0_139 (by decide) ?_
      exact hB143 k9 hk9 o_this x1 t0 x4 (1 : Int32) x2 _ _ _ hP hD hS (lv_sub hl [1, 2, 0, 4] rfl) hf
  have hB108 : ∀ (k9 : (os_T × Int32 × Int32 × Int32 × Int32) → Option (Int32 × os_T)), (∀ (o_this : os_T) (x1 : Int32) (x2 : Int32) (x3 : Int32) (x4 : Int32) (H : Heap) (locs : List Loc) (ls : Array Slot), va_P D vwCl (ce_X13 kA q_this o_this) H → va_D A (ce_X13 kA q_this o_this) → va_S A s.heap H locs → lv_has ls 6 [(0, .ref (q_this 0)), (1, .int x1), (2, .int x2), (3, .int x3), (4, .int x4)] → k9 (o_this, x1, x2, x3, x4) = some out → W p l e ({ frames := 10, cells := 0, slots := 0, locals := 234 } : Room) s m [.ref (q_this 0)].toArray below meth c H locs 0 0 (MQ below (mc_Q D kA A (some (.int out.1)) (ce_X13 kA q_this out.2)) [.ref (q_this 0)].toArray s 0 0 A) (F0 m 9 ls [])) → ∀ (o_this : os_T) (x1 : Int32) (x2 : Int32) (x3 : Int32) (x4 : Int32) (t0 : Int32) (H : Heap) (locs : List Loc) (ls : Array Slot), va_P D vwCl (ce_X13 kA q_this o_this) H → va_D A (ce_X13 kA q_this o_this) → va_S A s.heap H locs → lv_has ls 6 [(0, .ref (q_this 0)), (1, .int x1), (2, .int x2), (3, .int x3), (4, .int x4)] → ff_X13_runs0_b108 N k9 o_this x1 x2 x3 x4 t0 = some out → W p l e ({ frames := 10, cells := 0, slots := 0, locals := 234 } : Room) s m [.ref (q_this 0)].toArray below meth c H locs 0 0 (MQ below (mc_Q D kA A (some (.int out.1)) (ce_X13 kA q_this out.2)) [.ref (q_this 0)].toArray s 0 0 A) (F0 m 108 ls [.int t0]) := by
    intro k9 hk9 o_this x1 x2 x3 x4 t0 H locs ls hP hD hS hl hf
    unfold ff_X13_runs0_b108 at hf
    refine lv_istore (lv' := [(5, .int t0), (0, .ref (q_this 0)), (1, .int x1), (2, .int x2), (3, .int x3), (4, .int x4)]) hx hb dX13_runs0_108 hl (by decide) rfl (fun ls hl => ?_)
    refine lv_iload hx hb dX13_runs0_110 (lv_at hl 0 rfl) ?_
    refine lv_if_eq (tgt := 128) hx hb dX13_runs0_112 (by decide) (fun hc_20 => ?_) (fun hc_20 => ?_)
    · rw [if_pos hc_20] at hf
      refine lv_iload_n hx hb dX13_runs0_128 rfl (lv_at hl 4 rfl) ?_
      refine lv_iconst (v := 1) hx hb dX13_runs0_129 (by decide) ?_
      refine lv_iadd hx hb dX13_runs0_130 ?_
      exact hB131 k9 hk9 o_this x1 x2 x4 t0 (x3 + (1 : Int32)) _ _ _ hP hD hS (lv_sub hl [1, 2, 3, 5, 0] rfl) hf
    · rw [if_neg hc_20] at hf
      refine lv_aload_n hx hb dX13_runs0_115 rfl (lv_at hl 1 rfl) ?_
      refine va_get (D := D) (ci := 9) (v := .ref (q_this 16)) (C := RX13) (T := TX13) (N := 48) hx hb hUX13 (fun _ h9 => h9) hown hK hP 0 rfl rfl 34 (by decide) (hts (Cond.fieldLink RX13 63 "ReliefBuilderModel" "begun" "[I") (List.mem_of_getElem? (i := 3) rfl)) (fun _ h9 => h9) rfl dX13_runs0_116 ?_
      refine lv_iload_n hx hb dX13_runs0_119 rfl (lv_at hl 3 rfl) ?_
      refine lv_iconst (v := 1) hx hb dX13_runs0_120 (by decide) ?_
      refine lv_isub hx hb dX13_runs0_121 ?_
      obtain ⟨hi_21, hf⟩ := os_if hf
      refine va_iald hx hb hK hP 16 0 rfl rfl hi_21 dX13_runs0_122 ?_
      refine lv_iconst (v := 1) hx hb dX13_runs0_123 (by decide) ?_
      refine lv_iadd hx hb dX13_runs0_124 ?_
      refine lv_goto (tgt := 131) hx hb dX13_runs0_125 (by decide) ?_
      exact hB131 k9 hk9 o_this x1 x2 x4 t0 (((os_A o_this 15) (Int32.toNatClampNeg (x2 - (1 : Int32)))) + (1 : Int32)) _ _ _ hP hD hS (lv_sub hl [1, 2, 3, 5, 0] rfl) hf
  have hL9 : ∀ (n : Nat) (o_this : os_T) (x1 : Int32) (x2 : Int32) (x3 : Int32) (x4 : Int32) (H : Heap) (locs : List Loc) (ls : Array Slot), va_P D vwCl (ce_X13 kA q_this o_this) H → va_D A (ce_X13 kA q_this o_this) → va_S A s.heap H locs → lv_has ls 6 [(0, .ref (q_this 0)), (1, .int x1), (2, .int x2), (3, .int x3), (4, .int x4)] → ff_X13_runs0_l9 N n (o_this, x1, x2, x3, x4) = some out → W p l e ({ frames := 10, cells := 0, slots := 0, locals := 234 } : Room) s m [.ref (q_this 0)].toArray below meth c H locs 0 0 (MQ below (mc_Q D kA A (some (.int out.1)) (ce_X13 kA q_this out.2)) [.ref (q_this 0)].toArray s 0 0 A) (F0 m 9 ls []) := by
    intro n
    induction n with
    | zero => intro o_this x1 x2 x3 x4 H locs ls _ _ _ _ hf; cases hf
    | succ n hk9 =>
      intro o_this x1 x2 x3 x4 H locs ls hP hD hS hl hf
      have hf : ff_X13_runs0_c9 N (ff_X13_runs0_l9 N n) o_this x1 x2 x3 x4 = some out := hf
      generalize hke : ff_X13_runs0_l9 N n = k9 at hk9 hf
      unfold ff_X13_runs0_c9 at hf
      refine lv_iload hx hb dX13_runs0_9 (lv_at hl 4 rfl) ?_
      refine lv_if_eq (tgt := 180) hx hb dX13_runs0_11 (by decide) (fun hc_1 => ?_) (fun hc_1 => ?_)
      · rw [if_pos hc_1] at hf
        refine lv_iload_n hx hb dX13_runs0_180 rfl (lv_at hl 1 rfl) ?_
        rw [← Option.some.inj hf]
        exact mc_reti hx hb hr hlk hP hK hD hS dX13_runs0_181
      · rw [if_neg hc_1] at hf
        refine lv_iload_n hx hb dX13_runs0_14 rfl (lv_at hl 3 rfl) ?_
        refine lv_aload_n hx hb dX13_runs0_15 rfl (lv_at hl 0 rfl) ?_
        refine va_get (D := D) (ci := 9) (v := .int (os_I o_this 38)) (C := RX13) (T := TX13) (N := 48) hx hb hUX13 (fun _ h9 => h9) hown hK hP 0 rfl rfl 38 (by decide) (hts (Cond.fieldLink RX13 464 "ReliefBuilderModel" "scripted" "I") (List.mem_of_getElem? (i := 1) rfl)) (fun _ h9 => h9) rfl dX13_runs0_16 ?_
        refine lv_icmp_ge (tgt := 180) hx hb dX13_runs0_19 (by decide) (fun hc_2 => ?_) (fun hc_2 => ?_)
        · rw [if_pos hc_2] at hf
          refine lv_iload_n hx hb dX13_runs0_180 rfl (lv_at hl 1 rfl) ?_
          rw [← Option.some.inj hf]
          exact mc_reti hx hb hr hlk hP hK hD hS dX13_runs0_181
        · rw [if_neg hc_2] at hf
          refine lv_iload_n hx hb dX13_runs0_22 rfl (lv_at hl 1 rfl) ?_
          refine lv_bipush (v := 60) hx hb dX13_runs0_23 (by decide) ?_
          refine lv_icmp_ge (tgt := 180) hx hb dX13_runs0_25 (by decide) (fun hc_3 => ?_) (fun hc_3 => ?_)
          · rw [if_pos hc_3] at hf
            refine lv_iload_n hx hb dX13_runs0_180 rfl (lv_at hl 1 rfl) ?_
            rw [← Option.some.inj hf]
            exact mc_reti hx hb hr hlk hP hK hD hS dX13_runs0_181
          · rw [if_neg hc_3] at hf
            refine lv_aload_n hx hb dX13_runs0_28 rfl (lv_at hl 0 rfl) ?_
            refine va_get (D := D) (ci := 9) (v := .ref (q_this 14)) (C := RX13) (T := TX13) (N := 48) hx hb hUX13 (fun _ h9 => h9) hown hK hP 0 rfl rfl 32 (by decide) (hts (Cond.fieldLink RX13 57 "ReliefBuilderModel" "script" "[I") (List.mem_of_getElem? (i := 2) rfl)) (fun _ h9 => h9) rfl dX13_runs0_29 ?_
            refine lv_iload_n hx hb dX13_runs0_32 rfl (lv_at hl 3 rfl) ?_
            obtain ⟨hi_4, hf⟩ := os_if hf
            refine va_iald hx hb hK hP 14 0 rfl rfl hi_4 dX13_runs0_33 ?_
            refine lv_bipush (v := 11) hx hb dX13_runs0_34 (by decide) ?_
            refine lv_icmp_ne (tgt := 69) hx hb dX13_runs0_36 (by decide) (fun hc_5 => ?_) (fun hc_5 => ?_)
            · rw [if_neg hc_5] at hf
              refine lv_aload_n hx hb dX13_runs0_69 rfl (lv_at hl 0 rfl) ?_
              refine va_get (D := D) (ci := 9) (v := .ref (q_this 14)) (C := RX13) (T := TX13) (N := 48) hx hb hUX13 (fun _ h9 => h9) hown hK hP 0 rfl rfl 32 (by decide) (hts (Cond.fieldLink RX13 57 "ReliefBuilderModel" "script" "[I") (List.mem_of_getElem? (i := 2) rfl)) (fun _ h9 => h9) rfl dX13_runs0_70 ?_
              refine lv_iload_n hx hb dX13_runs0_73 rfl (lv_at hl 3 rfl) ?_
              obtain ⟨hi_6, hf⟩ := os_if hf
              refine va_iald hx hb hK hP 14 0 rfl rfl hi_6 dX13_runs0_74 ?_
              refine lv_bipush (v := 12) hx hb dX13_runs0_75 (by decide) ?_
              refine lv_icmp_ne (tgt := 151) hx hb dX13_runs0_77 (by decide) (fun hc_7 => ?_) (fun hc_7 => ?_)
              · rw [if_neg hc_7] at hf
                refine lv_aload_n hx hb dX13_runs0_151 rfl (lv_at hl 0 rfl) ?_
                refine lv_aload_n hx hb dX13_runs0_152 rfl (lv_at hl 0 rfl) ?_
                refine va_get (D := D) (ci := 9) (v := .ref (q_this 14)) (C := RX13) (T := TX13) (N := 48) hx hb hUX13 (fun _ h9 => h9) hown hK hP 0 rfl rfl 32 (by decide) (hts (Cond.fieldLink RX13 57 "ReliefBuilderModel" "script" "[I") (List.mem_of_getElem? (i := 2) rfl)) (fun _ h9 => h9) rfl dX13_runs0_153 ?_
                refine lv_iload_n hx hb dX13_runs0_156 rfl (lv_at hl 3 rfl) ?_
                obtain ⟨hi_8, hf⟩ := os_if hf
                refine va_iald hx hb hK hP 14 0 rfl rfl hi_8 dX13_runs0_157 ?_
                refine lv_iconst (v := 5) hx hb dX13_runs0_158 (by decide) ?_
                refine lv_iload_n hx hb dX13_runs0_159 rfl (lv_at hl 3 rfl) ?_
                refine lv_imul hx hb dX13_runs0_160 ?_
                obtain ⟨u_9, he_10, hf⟩ := os_bd hf
                refine mc_callV ⟨hx, hb, hml, hown, hts⟩ (mm_X13_does l D kA N q_this o_this ((os_A o_this 13) (Int32.toNatClampNeg x3)) ((5 : Int32) * x3) u_9 he_10) (cwV 2 hts gX13_runs0_X13_does rfl rfl rfl (by decide +kernel) ⟨Nat.le_of_ble_eq_true rfl, Nat.le_of_ble_eq_true rfl⟩) (wc := (ce_X13 kA q_this o_this)) (ci := 9) (q0 := 0) rfl rfl rfl hl.1 (As := [.int ((os_A o_this 13) (Int32.toNatClampNeg x3)), .int ((5 : Int32) * x3)]) (rest := []) rfl (Nat.le_of_ble_eq_true rfl) dX13_runs0_161 ⟨Nat.le_of_ble_eq_true rfl, Nat.le_of_ble_eq_true rfl⟩ hK hP hD hS hA [0, 1, 2, 3, 4, 5, 6, 7, 8, 9, 10, 11, 12, 13, 14, 15, 16, 17, 18, 19, 20, 21, 22, 23] [] [0, 1, 2, 3, 4, 5, 6, 7, 8, 9, 10, 11, 12, 13, 14, 15, 16, 17, 18, 19, 20, 21, 22, 23] rfl (by decide) rfl (by decide) (by decide) rfl (by decide) (wr := []) (w2 := (ce_X13 kA q_this u_9.2)) (fun H locs hP hD hS => ?_)
                have hP : va_P D vwCl (ce_X13 kA q_this u_9.2) H := hP
                refine lv_istore (lv' := [(4, .int u_9.1), (0, .ref (q_this 0)), (1, .int x1), (2, .int x2), (3, .int x3)]) hx hb dX13_runs0_164 hl (by decide) rfl (fun ls hl => ?_)
                refine lv_iload_n hx hb dX13_runs0_166 rfl (lv_at hl 2 rfl) ?_
                refine lv_iload hx hb dX13_runs0_167 (lv_at hl 0 rfl) ?_
                obtain ⟨u_11, he_12, hf⟩ := os_bd hf
                refine mc_callS ⟨hx, hb, hml, hown, hts⟩ (mm_X13_truth l D kA N u_9.1 u_11 he_12) (va_cwS 1 hts gX13_runs0_X13_truth rfl rfl rfl (by decide +kernel) ⟨Nat.le_of_ble_eq_true rfl, Nat.le_of_ble_eq_true rfl⟩) (wc := []) rfl hl.1 (As := [.int u_9.1]) (rest := [.int x1]) rfl (Nat.le_of_ble_eq_true rfl) dX13_runs0_169 ⟨Nat.le_of_ble_eq_true rfl, Nat.le_of_ble_eq_true rfl⟩ hK hP hD hS hA [] [0, 1, 2, 3, 4, 5, 6, 7, 8, 9, 10, 11, 12, 13, 14, 15, 16, 17, 18, 19, 20, 21, 22, 23] [0, 1, 2, 3, 4, 5, 6, 7, 8, 9, 10, 11, 12, 13, 14, 15, 16, 17, 18, 19, 20, 21, 22, 23] rfl (by decide) rfl (by decide) (by decide) rfl (by decide) (wr := (ce_X13 kA q_this u_9.2)) (w2 := (ce_X13 kA q_this u_9.2)) (fun H locs hP hD hS => ?_)
                have hP : va_P D vwCl (ce_X13 kA q_this u_9.2) H := hP
                refine lv_iadd hx hb dX13_runs0_172 ?_
                refine lv_istore_n (lv' := [(1, .int (x1 + u_11)), (4, .int u_9.1), (0, .ref (q_this 0)), (2, .int x2), (3, .int x3)]) hx hb dX13_runs0_173 rfl hl (by decide) rfl (fun ls hl => ?_)
                refine lv_iinc (v := x3 + 1) (lv' := [(3, .int (x3 + 1)), (1, .int (x1 + u_11)), (4, .int u_9.1), (0, .ref (q_this 0)), (2, .int x2)]) hx hb dX13_runs0_174 hl (k := 4) rfl rfl (by decide) rfl (fun ls hl => ?_)
                refine lv_goto (tgt := 9) hx hb dX13_runs0_177 (by decide) ?_
                exact hk9 u_9.2 (x1 + u_11) x2 (x3 + 1) u_9.1 _ _ _ hP hD hS (lv_sub hl [3, 1, 4, 0, 2] rfl) hf
              · rw [if_pos hc_7] at hf
                refine lv_aload_n hx hb dX13_runs0_80 rfl (lv_at hl 0 rfl) ?_
                refine va_get (D := D) (ci := 9) (v := .ref (q_this 17)) (C := RX13) (T := TX13) (N := 48) hx hb hUX13 (fun _ h9 => h9) hown hK hP 0 rfl rfl 35 (by decide) (hts (Cond.fieldLink RX13 66 "ReliefBuilderModel" "laps" "[I") (List.mem_of_getElem? (i := 4) rfl)) (fun _ h9 => h9) rfl dX13_runs0_81 ?_
                refine lv_iload_n hx hb dX13_runs0_84 rfl (lv_at hl 2 rfl) ?_
                refine lv_iconst (v := 1) hx hb dX13_runs0_85 (by decide) ?_
                refine lv_isub hx hb dX13_runs0_86 ?_
                refine lv_dup2_11 hx hb dX13_runs0_87 rfl rfl ?_
                obtain ⟨hi_13, hf⟩ := os_if hf
                refine va_iald hx hb hK hP 17 0 rfl rfl hi_13 dX13_runs0_88 ?_
                refine lv_iconst (v := 1) hx hb dX13_runs0_89 (by decide) ?_
                refine lv_isub hx hb dX13_runs0_90 ?_
                obtain ⟨hi_14, hf⟩ := os_if hf
                refine va_iast hx hb hK hP hD hS 17 0 rfl rfl hi_14 dX13_runs0_91 (fun H locs hP hD hS => ?_)
                have hP : va_P D vwCl (ce_X13 kA q_this (ss_A o_this 16 (upd (os_A o_this 16) (Int32.toNatClampNeg (x2 - (1 : Int32))) (((os_A o_this 16) (Int32.toNatClampNeg (x2 - (1 : Int32)))) - (1 : Int32))))) H := hP
                have hD : va_D A (ce_X13 kA q_this (ss_A o_this 16 (upd (os_A o_this 16) (Int32.toNatClampNeg (x2 - (1 : Int32))) (((os_A o_this 16) (Int32.toNatClampNeg (x2 - (1 : Int32)))) - (1 : Int32))))) := hD
                refine lv_aload_n hx hb dX13_runs0_92 rfl (lv_at hl 0 rfl) ?_
                refine va_get (D := D) (ci := 9) (v := .ref (q_this 17)) (C := RX13) (T := TX13) (N := 48) hx hb hUX13 (fun _ h9 => h9) hown hK hP 0 rfl rfl 35 (by decide) (hts (Cond.fieldLink RX13 66 "ReliefBuilderModel" "laps" "[I") (List.mem_of_getElem? (i := 4) rfl)) (fun _ h9 => h9) rfl dX13_runs0_93 ?_
                refine lv_iload_n hx hb dX13_runs0_96 rfl (lv_at hl 2 rfl) ?_
                refine lv_iconst (v := 1) hx hb dX13_runs0_97 (by decide) ?_
                refine lv_isub hx hb dX13_runs0_98 ?_
                obtain ⟨hi_15, hf⟩ := os_if hf
                refine va_iald hx hb hK hP 17 0 rfl rfl hi_15 dX13_runs0_99 ?_
                refine lv_if_le (tgt := 107) hx hb dX13_runs0_100 (by decide) (fun hc_16 => ?_) (fun hc_16 => ?_)
                · rw [if_pos (show ((upd (os_A o_this 16) (Int32.toNatClampNeg (x2 - (1 : Int32))) (((os_A o_this 16) (Int32.toNatClampNeg (x2 - (1 : Int32)))) - (1 : Int32))) (Int32.toNatClampNeg (x2 - (1 : Int32)))) ≤ 0 from hc_16)] at hf
                  refine lv_iconst (v := 0) hx hb dX13_runs0_107 (by decide) ?_
                  exact hB108 k9 hk9 (ss_A o_this 16 (upd (os_A o_this 16) (Int32.toNatClampNeg (x2 - (1 : Int32))) (((os_A o_this 16) (Int32.toNatClampNeg (x2 - (1 : Int32)))) - (1 : Int32)))) x1 x2 x3 x4 (0 : Int32) _ _ _ hP hD hS (lv_sub hl [0, 1, 2, 3, 4] rfl) hf
                · rw [if_neg (show ¬ (((upd (os_A o_this 16) (Int32.toNatClampNeg (x2 - (1 : Int32))) (((os_A o_this 16) (Int32.toNatClampNeg (x2 - (1 : Int32)))) - (1 : Int32))) (Int32.toNatClampNeg (x2 - (1 : Int32)))) ≤ 0) from hc_16)] at hf
                  refine lv_iconst (v := 1) hx hb dX13_runs0_103 (by decide) ?_
                  refine lv_goto (tgt := 108) hx hb dX13_runs0_104 (by decide) ?_
                  exact hB108 k9 hk9 (ss_A o_this 16 (upd (os_A o_this 16) (Int32.toNatClampNeg (x2 - (1 : Int32))) (((os_A o_this 16) (Int32.toNatClampNeg (x2 - (1 : Int32)))) - (1 : Int32)))) x1 x2 x3 x4 (1 : Int32) _ _ _ hP hD hS (lv_sub hl [0, 1, 2, 3, 4] rfl) hf
            · rw [if_pos hc_5] at hf
              refine lv_aload_n hx hb dX13_runs0_39 rfl (lv_at hl 0 rfl) ?_
              refine va_get (D := D) (ci := 9) (v := .ref (q_this 16)) (C := RX13) (T := TX13) (N := 48) hx hb hUX13 (fun _ h9 => h9) hown hK hP 0 rfl rfl 34 (by decide) (hts (Cond.fieldLink RX13 63 "ReliefBuilderModel" "begun" "[I") (List.mem_of_getElem? (i := 3) rfl)) (fun _ h9 => h9) rfl dX13_runs0_40 ?_
              refine lv_iload_n hx hb dX13_runs0_43 rfl (lv_at hl 2 rfl) ?_
              refine lv_iload_n hx hb dX13_runs0_44 rfl (lv_at hl 3 rfl) ?_
              obtain ⟨hi_17, hf⟩ := os_if hf
              refine va_iast hx hb hK hP hD hS 16 0 rfl rfl hi_17 dX13_runs0_45 (fun H locs hP hD hS => ?_)
              have hP : va_P D vwCl (ce_X13 kA q_this (ss_A o_this 15 (upd (os_A o_this 15) (Int32.toNatClampNeg x2) x3))) H := hP
              have hD : va_D A (ce_X13 kA q_this (ss_A o_this 15 (upd (os_A o_this 15) (Int32.toNatClampNeg x2) x3))) := hD
              refine lv_aload_n hx hb dX13_runs0_46 rfl (lv_at hl 0 rfl) ?_
              refine va_get (D := D) (ci := 9) (v := .ref (q_this 17)) (C := RX13) (T := TX13) (N := 48) hx hb hUX13 (fun _ h9 => h9) hown hK hP 0 rfl rfl 35 (by decide) (hts (Cond.fieldLink RX13 66 "ReliefBuilderModel" "laps" "[I") (List.mem_of_getElem? (i := 4) rfl)) (fun _ h9 => h9) rfl dX13_runs0_47 ?_
              refine lv_iload_n hx hb dX13_runs0_50 rfl (lv_at hl 2 rfl) ?_
              refine lv_aload_n hx hb dX13_runs0_51 rfl (lv_at hl 0 rfl) ?_
              refine va_get (D := D) (ci := 9) (v := .ref (q_this 15)) (C := RX13) (T := TX13) (N := 48) hx hb hUX13 (fun _ h9 => h9) hown hK hP 0 rfl rfl 33 (by decide) (hts (Cond.fieldLink RX13 60 "ReliefBuilderModel" "told" "[I") (List.mem_of_getElem? (i := 5) rfl)) (fun _ h9 => h9) rfl dX13_runs0_52 ?_
              refine lv_iconst (v := 5) hx hb dX13_runs0_55 (by decide) ?_
              refine lv_iload_n hx hb dX13_runs0_56 rfl (lv_at hl 3 rfl) ?_
              refine lv_imul hx hb dX13_runs0_57 ?_
              obtain ⟨hi_18, hf⟩ := os_if hf
              refine va_iald hx hb hK hP 15 0 rfl rfl hi_18 dX13_runs0_58 ?_
              obtain ⟨hi_19, hf⟩ := os_if hf
              refine va_iast hx hb hK hP hD hS 17 0 rfl rfl hi_19 dX13_runs0_59 (fun H locs hP hD hS => ?_)
              have hE9 : ∀ (y0 : Nat → Int32) (z9 : Nat → Int32), ((ce_X13 kA q_this (ss_A o_this 15 y0)) : va_W).set 17 (q_this 17, .inl (kA 0, 2, .inl z9)) = (ce_X13 kA q_this (ss_A (ss_A o_this 15 y0) 16 z9)) := fun _ _ => rfl
              have hP : va_P D vwCl (ce_X13 kA q_this (ss_A (ss_A o_this 15 (upd (os_A o_this 15) (Int32.toNatClampNeg x2) x3)) 16 (upd (os_A o_this 16) (Int32.toNatClampNeg x2) ((os_A o_this 14) (Int32.toNatClampNeg ((5 : Int32) * x3)))))) H := Eq.mp (congrArg (fun w9 => va_P D vwCl w9 H) (hE9 (upd (os_A o_this 15) (Int32.toNatClampNeg x2) x3) _)) hP
              have hD : va_D A (ce_X13 kA q_this (ss_A (ss_A o_this 15 (upd (os_A o_this 15) (Int32.toNatClampNeg x2) x3)) 16 (upd (os_A o_this 16) (Int32.toNatClampNeg x2) ((os_A o_this 14) (Int32.toNatClampNeg ((5 : Int32) * x3)))))) := Eq.mp (congrArg (fun w9 => va_D A w9) (hE9 (upd (os_A o_this 15) (Int32.toNatClampNeg x2) x3) _)) hD
              refine lv_iinc (v := x2 + 1) (lv' := [(2, .int (x2 + 1)), (0, .ref (q_this 0)), (1, .int x1), (3, .int x3), (4, .int x4)]) hx hb dX13_runs0_60 hl (k := 2) rfl rfl (by decide) rfl (fun ls hl => ?_)
              refine lv_iinc (v := x3 + 1) (lv' := [(3, .int (x3 + 1)), (2, .int (x2 + 1)), (0, .ref (q_this 0)), (1, .int x1), (4, .int x4)]) hx hb dX13_runs0_63 hl (k := 3) rfl rfl (by decide) rfl (fun ls hl => ?_)
              refine lv_goto (tgt := 9) hx hb dX13_runs0_66 (by decide) ?_
              exact hk9 (ss_A (ss_A o_this 15 (upd (os_A o_this 15) (Int32.toNatClampNeg x2) x3)) 16 (upd (os_A o_this 16) (Int32.toNatClampNeg x2) ((os_A o_this 14) (Int32.toNatClampNeg ((5 : Int32) * x3))))) x1 (x2 + 1) (x3 + 1) x4 _ _ _ hP hD hS (lv_sub hl [2, 3, 1, 0, 4] rfl) hf
  unfold ff_X13_runs0 at hf
  refine lv_iconst (v := 0) hx hb dX13_runs0_0 (by decide) ?_
  refine lv_istore_n (lv' := [(1, .int (0 : Int32)), (0, .ref (q_this 0))]) hx hb dX13_runs0_1 rfl hl (by decide) rfl (fun ls hl => ?_)
  refine lv_iconst (v := 0) hx hb dX13_runs0_2 (by decide) ?_
  refine lv_istore_n (lv' := [(2, .int (0 : Int32)), (1, .int (0 : Int32)), (0, .ref (q_this 0))]) hx hb dX13_runs0_3 rfl hl (by decide) rfl (fun ls hl => ?_)
  refine lv_iconst (v := 0) hx hb dX13_runs0_4 (by decide) ?_
  refine lv_istore_n (lv' := [(3, .int (0 : Int32)), (2, .int (0 : Int32)), (1, .int (0 : Int32)), (0, .ref (q_this 0))]) hx hb dX13_runs0_5 rfl hl (by decide) rfl (fun ls hl => ?_)
  refine lv_iconst (v := 1) hx hb dX13_runs0_6 (by decide) ?_
  refine lv_istore (lv' := [(4, .int (1 : Int32)), (3, .int (0 : Int32)), (2, .int (0 : Int32)), (1, .int (0 : Int32)), (0, .ref (q_this 0))]) hx hb dX13_runs0_7 hl (by decide) rfl (fun ls hl => ?_)
  exact hL9 N o_this (0 : Int32) (0 : Int32) (0 : Int32) (1 : Int32) _ _ _ hP hD hS (lv_sub hl [4, 3, 2, 1, 0] rfl) hf
def ff_X13_runScript_b82 (N : Nat) (o_this : os_T) : Option (Int32 × os_T) :=
  ((ff_X13_endsText N o_this).bind fun u_20 => (if u_20.1 = 0 then some ((0 : Int32), u_20.2) else ((ff_X13_laysAside N u_20.2).bind fun u_23 => ((ff_X13_runs0 N u_23).bind fun u_25 => ((ff_X13_keeps N u_25.2).bind fun u_27 => some (u_25.1, ss_I u_27.2 41 u_27.1))))))
def ff_X13_runScript_b63 (N : Nat) (o_this : os_T) : Option (Int32 × os_T) :=
  ((ff_X13_isGood N o_this).bind fun u_12 => (if u_12 = 0 then ff_X13_runScript_b82 N o_this else (if (os_I o_this 40) ≤ 0 then ff_X13_runScript_b82 N o_this else ((ff_X13_wrong N o_this (1 : Int32)).bind fun u_16 => ff_X13_runScript_b82 N u_16))))
def ff_X13_runScript_b56 (N : Nat) (k19 : os_T → Option (Int32 × os_T)) (o_this : os_T) : Option (Int32 × os_T) :=
  ((ff_X13_closes N o_this).bind fun u_18 => k19 u_18)
def ff_X13_runScript_c19 (N : Nat) (k19 : os_T → Option (Int32 × os_T)) (o_this : os_T) : Option (Int32 × os_T) :=
  ((ff_X13_isGood N o_this).bind fun u_3 => (if u_3 = 0 then ff_X13_runScript_b63 N o_this else (if (os_I o_this 6) = 0 then ff_X13_runScript_b63 N o_this else ((ff_X13_command N o_this).bind fun u_7 => (if (os_I u_7 40) = (os_I o_this 40) then ((ff_X13_mustSign N u_7 (59 : Int32)).bind fun u_10 => ff_X13_runScript_b56 N k19 u_10) else ff_X13_runScript_b56 N k19 u_7)))))
def ff_X13_runScript_l19 (N : Nat) : Nat → os_T → Option (Int32 × os_T) := os_loop (fun k19 s1 => ff_X13_runScript_c19 N k19 s1)
def ff_X13_runScript (N : Nat) (o_this : os_T) : Option (Int32 × os_T) :=
  ((ff_X13_beginsText N o_this).bind fun u_1 => ff_X13_runScript_l19 N N (ss_I (ss_I (ss_I u_1 38 (0 : Int32)) 39 (0 : Int32)) 40 (0 : Int32)))
set_option maxHeartbeats 4000000 in
set_option maxRecDepth 100000 in
theorem mm_X13_runScript (l : Launch) (D : va_G) (kA : Nat → ClassId) (N : Nat) (q_this : Nat → Nat) (o_this : os_T) (out : (Int32 × os_T)) (hf : ff_X13_runScript N o_this = some out) : mc_C l D kA yX13_runScript wsX13_runScript ({ frames := 11, cells := 0, slots := 0, locals := 259 } : Room) [.ref (q_this 0)] (ce_X13 kA q_this o_this) (some (.int out.1)) (ce_X13 kA q_this out.2) := by
  refine mc_of (cc := cX13_runScript) (maxL := 2) (ret := (some .int)) (by decide) rfl (Nat.le_of_ble_eq_true rfl) ?_
  intro p e s m below meth c A B hD hP hS ls hl
  obtain ⟨hx, hb, hr, hlk, hml, hown, hts, hK, hA, hnm⟩ := B
  have hown : s.vm.findClass RX13 = some m.cls := hown
  have hl : lv_has ls 2 [(0, .ref (q_this 0))] := hl
  have hUX13 : ∀ w ∈ u_ws RX13 TX13 48, w.before [.ref (q_this 0)].toArray s = true := fun w h => hts w (List.mem_cons_of_mem _ (List.mem_append_right _ h))
  have hB82 : ∀ (o_this : os_T) (H : Heap) (locs : List Loc) (ls : Array Slot), va_P D vwCl (ce_X13 kA q_this o_this) H → va_D A (ce_X13 kA q_this o_this) → va_S A s.heap H locs → lv_has ls 2 [(0, .ref (q_this 0))] → ff_X13_runScript_b82 N o_this = some out → W p l e ({ frames := 11, cells := 0, slots := 0, locals := 259 } : Room) s m [.ref (q_this 0)].toArray below meth c H locs 0 0 (MQ below (mc_Q D kA A (some (.int out.1)) (ce_X13 kA q_this out.2)) [.ref (q_this 0)].toArray s 0 0 A) (F0 m 82 ls []) := by
    intro o_this H locs ls hP hD hS hl hf
    unfold ff_X13_runScript_b82 at hf
    refine lv_aload_n hx hb dX13_runScript_82 rfl (lv_at hl 0 rfl) ?_
    obtain ⟨u_20, he_21, hf⟩ := os_bd hf
    refine mc_callV ⟨hx, hb, hml, hown, hts⟩ (mm_X13_endsText l D kA N q_this o_this u_20 he_21) (cwV 0 hts gX13_runScript_X13_endsText rfl rfl rfl (by decide +kernel) ⟨Nat.le_of_ble_eq_true rfl, Nat.le_of_ble_eq_true rfl⟩) (wc := (ce_X13 kA q_this o_this)) (ci := 9) (q0 := 0) rfl rfl rfl hl.1 (As := []) (rest := []) rfl (Nat.le_of_ble_eq_true rfl) dX13_runScript_83 ⟨Nat.le_of_ble_eq_true rfl, Nat.le_of_ble_eq_true rfl⟩ hK hP hD hS hA [0, 1, 2, 3, 4, 5, 6, 7, 8, 9, 10, 11, 12, 13, 14, 15, 16, 17, 18, 19, 20, 21, 22, 23] [] [0, 1, 2, 3, 4, 5, 6, 7, 8, 9, 10, 11, 12, 13, 14, 15, 16, 17, 18, 19, 20, 21, 22, 23] rfl (by decide) rfl (by decide) (by decide) rfl (by decide) (wr := []) (w2 := (ce_X13 kA q_this u_20.2)) (fun H locs hP hD hS => ?_)
    have hP : va_P D vwCl (ce_X13 kA q_this u_20.2) H := hP
    refine lv_if_ne (tgt := 91) hx hb dX13_runScript_86 (by decide) (fun hc_22 => ?_) (fun hc_22 => ?_)
    · rw [if_neg hc_22] at hf
      refine lv_aload_n hx hb dX13_runScript_91 rfl (lv_at hl 0 rfl) ?_
      obtain ⟨u_23, he_24, hf⟩ := os_bd hf
      refine mc_callV ⟨hx, hb, hml, hown, hts⟩ (mm_X13_laysAside l D kA N q_this u_20.2 u_23 he_24) (cwV 0 hts gX13_runScript_X13_laysAside rfl rfl rfl (by decide +kernel) ⟨Nat.le_of_ble_eq_true rfl, Nat.le_of_ble_eq_true rfl⟩) (wc := (ce_X13 kA q_this u_20.2)) (ci := 9) (q0 := 0) rfl rfl rfl hl.1 (As := []) (rest := []) rfl (Nat.le_of_ble_eq_true rfl) dX13_runScript_92 ⟨Nat.le_of_ble_eq_true rfl, Nat.le_of_ble_eq_true rfl⟩ hK hP hD hS hA [0, 1, 2, 3, 4, 5, 6, 7, 8, 9, 10, 11, 12, 13, 14, 15, 16, 17, 18, 19, 20, 21, 22, 23] [] [0, 1, 2, 3, 4, 5, 6, 7, 8, 9, 10, 11, 12, 13, 14, 15, 16, 17, 18, 19, 20, 21, 22, 23] rfl (by decide) rfl (by decide) (by decide) rfl (by decide) (wr := []) (w2 := (ce_X13 kA q_this u_23)) (fun H locs hP hD hS => ?_)
      have hP : va_P D vwCl (ce_X13 kA q_this u_23) H := hP
      refine lv_aload_n hx hb dX13_runScript_95 rfl (lv_at hl 0 rfl) ?_
      obtain ⟨u_25, he_26, hf⟩ := os_bd hf
      refine mc_callV ⟨hx, hb, hml, hown, hts⟩ (mm_X13_runs0 l D kA N q_this u_23 u_25 he_26) (cwV 0 hts gX13_runScript_X13_runs0 rfl rfl rfl (by decide +kernel) ⟨Nat.le_of_ble_eq_true rfl, Nat.le_of_ble_eq_true rfl⟩) (wc := (ce_X13 kA q_this u_23)) (ci := 9) (q0 := 0) rfl rfl rfl hl.1 (As := []) (rest := []) rfl (Nat.le_of_ble_eq_true rfl) dX13_runScript_96 ⟨Nat.le_of_ble_eq_true rfl, Nat.le_of_ble_eq_true rfl⟩ hK hP hD hS hA [0, 1, 2, 3, 4, 5, 6, 7, 8, 9, 10, 11, 12, 13, 14, 15, 16, 17, 18, 19, 20, 21, 22, 23] [] [0, 1, 2, 3, 4, 5, 6, 7, 8, 9, 10, 11, 12, 13, 14, 15, 16, 17, 18, 19, 20, 21, 22, 23] rfl (by decide) rfl (by decide) (by decide) rfl (by decide) (wr := []) (w2 := (ce_X13 kA q_this u_25.2)) (fun H locs hP hD hS => ?_)
      have hP : va_P D vwCl (ce_X13 kA q_this u_25.2) H := hP
      refine lv_istore_n (lv' := [(1, .int u_25.1), (0, .ref (q_this 0))]) hx hb dX13_runScript_99 rfl hl (by decide) rfl (fun ls hl => ?_)
      refine lv_aload_n hx hb dX13_runScript_100 rfl (lv_at hl 1 rfl) ?_
      refine lv_aload_n hx hb dX13_runScript_101 rfl (lv_at hl 1 rfl) ?_
      obtain ⟨u_27, he_28, hf⟩ := os_bd hf
      refine mc_callV ⟨hx, hb, hml, hown, hts⟩ (mm_X13_keeps l D kA N q_this u_25.2 u_27 he_28) (cwV 0 hts gX13_runScript_X13_keeps rfl rfl rfl (by decide +kernel) ⟨Nat.le_of_ble_eq_true rfl, Nat.le_of_ble_eq_true rfl⟩) (wc := (ce_X13 kA q_this u_25.2)) (ci := 9) (q0 := 0) rfl rfl rfl hl.1 (As := []) (rest := [.ref (q_this 0)]) rfl (Nat.le_of_ble_eq_true rfl) dX13_runScript_102 ⟨Nat.le_of_ble_eq_true rfl, Nat.le_of_ble_eq_true rfl⟩ hK hP hD hS hA [0, 1, 2, 3, 4, 5, 6, 7, 8, 9, 10, 11, 12, 13, 14, 15, 16, 17, 18, 19, 20, 21, 22, 23] [] [0, 1, 2, 3, 4, 5, 6, 7, 8, 9, 10, 11, 12, 13, 14, 15, 16, 17, 18, 19, 20, 21, 22, 23] rfl (by decide) rfl (by decide) (by decide) rfl (by decide) (wr := []) (w2 := (ce_X13 kA q_this u_27.2)) (fun H locs hP hD hS => ?_)
      have hP : va_P D vwCl (ce_X13 kA q_this u_27.2) H := hP
      refine va_put (D := D) (ci := 9) (v := .int u_27.1) (ty := .int) (C := RX13) (T := TX13) (N := 48) hx hb hUX13 (fun _ h9 => h9) tyX13 tyX13_ok nmX13 hown hK hP hD hS 0 rfl rfl 41 (by decide) (hts (Cond.fieldLink RX13 467 "ReliefBuilderModel" "spare" "I") (List.mem_of_getElem? (i := 5) rfl)) (fun _ h9 => h9) rfl (tyX13_ok 41 (by decide)) rfl rfl (Nat.le_of_ble_eq_true rfl) dX13_runScript_105 (fun H locs hP hD hS => ?_)
      have hP : va_P D vwCl (ce_X13 kA q_this (ss_I u_27.2 41 u_27.1)) H := hP
      have hD : va_D A (ce_X13 kA q_this (ss_I u_27.2 41 u_27.1)) := hD
      refine lv_iload_n hx hb dX13_runScript_108 rfl (lv_at hl 0 rfl) ?_
      rw [← Option.some.inj hf]
      exact mc_reti hx hb hr hlk hP hK hD hS dX13_runScript_109
    · rw [if_pos hc_22] at hf
      refine lv_iconst (v := 0) hx hb dX13_runScript_89 (by decide) ?_
      rw [← Option.some.inj hf]
      exact mc_reti hx hb hr hlk hP hK hD hS dX13_runScript_90
  have hB63 : ∀ (o_this : os_T) (H : Heap) (locs : List Loc) (ls : Array Slot), va_P D vwCl (ce_X13 kA q_this o_this) H → va_D A (ce_X13 kA q_this o_this) → va_S A s.heap H locs → lv_has ls 2 [(0, .ref (q_this 0))] → ff_X13_runScript_b63 N o_this = some out → W p l e ({ frames := 11, cells := 0, slots := 0, locals := 259 } : Room) s m [.ref (q_this 0)].toArray below meth c H locs 0 0 (MQ below (mc_Q D kA A (some (.int out.1)) (ce_X13 kA q_this out.2)) [.ref (q_this 0)].toArray s 0 0 A) (F0 m 63 ls []) := by
    intro o_this H locs ls hP hD hS hl hf
    unfold ff_X13_runScript_b63 at hf
    refine lv_aload_n hx hb dX13_runScript_63 rfl (lv_at hl 0 rfl) ?_
    obtain ⟨u_12, he_13, hf⟩ := os_bd hf
    refine mc_callV ⟨hx, hb, hml, hown, hts⟩ (mm_X13_isGood l D kA N q_this o_this u_12 he_13) (cwV 0 hts gX13_runScript_X13_isGood rfl rfl rfl (by decide +kernel) ⟨Nat.le_of_ble_eq_true rfl, Nat.le_of_ble_eq_true rfl⟩) (wc := (ce_X13 kA q_this o_this)) (ci := 9) (q0 := 0) rfl rfl rfl hl.1 (As := []) (rest := []) rfl (Nat.le_of_ble_eq_true rfl) dX13_runScript_64 ⟨Nat.le_of_ble_eq_true rfl, Nat.le_of_ble_eq_true rfl⟩ hK hP hD hS hA [0, 1, 2, 3, 4, 5, 6, 7, 8, 9, 10, 11, 12, 13, 14, 15, 16, 17, 18, 19, 20, 21, 22, 23] [] [0, 1, 2, 3, 4, 5, 6, 7, 8, 9, 10, 11, 12, 13, 14, 15, 16, 17, 18, 19, 20, 21, 22, 23] rfl (by decide) rfl (by decide) (by decide) rfl (by decide) (wr := []) (w2 := (ce_X13 kA q_this o_this)) (fun H locs hP hD hS => ?_)
    have hP : va_P D vwCl (ce_X13 kA q_this o_this) H := hP
    refine lv_if_eq (tgt := 82) hx hb dX13_runScript_67 (by decide) (fun hc_14 => ?_) (fun hc_14 => ?_)
    · rw [if_pos hc_14] at hf
      exact hB82 o_this _ _ _ hP hD hS (lv_sub hl [0] rfl) hf
    · rw [if_neg hc_14] at hf
      refine lv_aload_n hx hb dX13_runScript_70 rfl (lv_at hl 0 rfl) ?_
      refine va_get (D := D) (ci := 9) (v := .int (os_I o_this 40)) (C := RX13) (T := TX13) (N := 48) hx hb hUX13 (fun _ h9 => h9) hown hK hP 0 rfl rfl 40 (by decide) (hts (Cond.fieldLink RX13 455 "ReliefBuilderModel" "open" "I") (List.mem_of_getElem? (i := 3) rfl)) (fun _ h9 => h9) rfl dX13_runScript_71 ?_
      refine lv_if_le (tgt := 82) hx hb dX13_runScript_74 (by decide) (fun hc_15 => ?_) (fun hc_15 => ?_)
      · rw [if_pos hc_15] at hf
        exact hB82 o_this _ _ _ hP hD hS (lv_sub hl [0] rfl) hf
      · rw [if_neg hc_15] at hf
        refine lv_aload_n hx hb dX13_runScript_77 rfl (lv_at hl 0 rfl) ?_
        refine lv_iconst (v := 1) hx hb dX13_runScript_78 (by decide) ?_
        obtain ⟨u_16, he_17, hf⟩ := os_bd hf
        refine mc_callV ⟨hx, hb, hml, hown, hts⟩ (mm_X13_wrong l D kA N q_this o_this (1 : Int32) u_16 he_17) (cwV 1 hts gX13_runScript_X13_wrong rfl rfl rfl (by decide +kernel) ⟨Nat.le_of_ble_eq_true rfl, Nat.le_of_ble_eq_true rfl⟩) (wc := (ce_X13 kA q_this o_this)) (ci := 9) (q0 := 0) rfl rfl rfl hl.1 (As := [.int (1 : Int32)]) (rest := []) rfl (Nat.le_of_ble_eq_true rfl) dX13_runScript_79 ⟨Nat.le_of_ble_eq_true rfl, Nat.le_of_ble_eq_true rfl⟩ hK hP hD hS hA [0, 1, 2, 3, 4, 5, 6, 7, 8, 9, 10, 11, 12, 13, 14, 15, 16, 17, 18, 19, 20, 21, 22, 23] [] [0, 1, 2, 3, 4, 5, 6, 7, 8, 9, 10, 11, 12, 13, 14, 15, 16, 17, 18, 19, 20, 21, 22, 23] rfl (by decide) rfl (by decide) (by decide) rfl (by decide) (wr := []) (w2 := (ce_X13 kA q_this u_16)) (fun H locs hP hD hS => ?_)
        have hP : va_P D vwCl (ce_X13 kA q_this u_16) H := hP
        exact hB82 u_16 _ _ _ hP hD hS (lv_sub hl [0] rfl) hf
  have hB56 : ∀ (k19 : os_T → Option (Int32 × os_T)), (∀ (o_this : os_T) (H : Heap) (locs : List Loc) (ls : Array Slot), va_P D vwCl (ce_X13 kA q_this o_this) H → va_D A (ce_X13 kA q_this o_this) → va_S A s.heap H locs → lv_has ls 2 [(0, .ref (q_this 0))] → k19 o_this = some out → W p l e ({ frames := 11, cells := 0, slots := 0, locals := 259 } : Room) s m [.ref (q_this 0)].toArray below meth c H locs 0 0 (MQ below (mc_Q D kA A (some (.int out.1)) (ce_X13 kA q_this out.2)) [.ref (q_this 0)].toArray s 0 0 A) (F0 m 19 ls [])) → ∀ (o_this : os_T) (H : Heap) (locs : List Loc) (ls : Array Slot), va_P D vwCl (ce_X13 kA q_this o_this) H → va_D A (ce_X13 kA q_this o_this) → va_S A s.heap H locs → lv_has ls 2 [(0, .ref (q_this 0))] → ff_X13_runScript_b56 N k19 o_this = some out → W p l e ({ frames := 11, cells := 0, slots := 0, locals := 259 } : Room) s m [.ref (q_this 0)].toArray below meth c H locs 0 0 (MQ below (mc_Q D kA A (some (.int out.1)) (ce_X13 kA q_this out.2)) [.ref (q_this 0)].toArray s 0 0 A) (F0 m 56 ls []) := by
    intro k19 hk19 o_this H locs ls hP hD hS hl hf
    unfold ff_X13_runScript_b56 at hf
    refine lv_aload_n hx hb dX13_runScript_56 rfl (lv_at hl 0 rfl) ?_
    obtain ⟨u_18, he_19, hf⟩ := os_bd hf
    refine mc_callV ⟨hx, hb, hml, hown, hts⟩ (mm_X13_closes l D kA N q_this o_this u_18 he_19) (cwV 0 hts gX13_runScript_X13_closes rfl rfl rfl (by decide +kernel) ⟨Nat.le_of_ble_eq_true rfl, Nat.le_of_ble_eq_true rfl⟩) (wc := (ce_X13 kA q_this o_this)) (ci := 9) (q0 := 0) rfl rfl rfl hl.1 (As := []) (rest := []) rfl (Nat.le_of_ble_eq_true rfl) dX13_runScript_57 ⟨Nat.le_of_ble_eq_true rfl, Nat.le_of_ble_eq_true rfl⟩ hK hP hD hS hA [0, 1, 2, 3, 4, 5, 6, 7, 8, 9, 10, 11, 12, 13, 14, 15, 16, 17, 18, 19, 20, 21, 22, 23] [] [0, 1, 2, 3, 4, 5, 6, 7, 8, 9, 10, 11, 12, 13, 14, 15, 16, 17, 18, 19, 20, 21, 22, 23] rfl (by decide) rfl (by decide) (by decide) rfl (by decide) (wr := []) (w2 := (ce_X13 kA q_this u_18)) (fun H locs hP hD hS => ?_)
    have hP : va_P D vwCl (ce_X13 kA q_this u_18) H := hP
    refine lv_goto (tgt := 19) hx hb dX13_runScript_60 (by decide) ?_
    exact hk19 u_18 _ _ _ hP hD hS (lv_sub hl [0] rfl) hf
  have hL19 : ∀ (n : Nat) (o_this : os_T) (H : Heap) (locs : List Loc) (ls : Array Slot), va_P D vwCl (ce_X13 kA q_this o_this) H → va_D A (ce_X13 kA q_this o_this) → va_S A s.heap H locs → lv_has ls 2 [(0, .ref (q_this 0))] → ff_X13_runScript_l19 N n o_this = some out → W p l e ({ frames := 11, cells := 0, slots := 0, locals := 259 } : Room) s m [.ref (q_this 0)].toArray below meth c H locs 0 0 (MQ below (mc_Q D kA A (some (.int out.1)) (ce_X13 kA q_this out.2)) [.ref (q_this 0)].toArray s 0 0 A) (F0 m 19 ls []) := by
    intro n
    induction n with
    | zero => intro o_this H locs ls _ _ _ _ hf; cases hf
    | succ n hk19 =>
      intro o_this H locs ls hP hD hS hl hf
      have hf : ff_X13_runScript_c19 N (ff_X13_runScript_l19 N n) o_this = some out := hf
      generalize hke : ff_X13_runScript_l19 N n = k19 at hk19 hf
      unfold ff_X13_runScript_c19 at hf
      refine lv_aload_n hx hb dX13_runScript_19 rfl (lv_at hl 0 rfl) ?_
      obtain ⟨u_3, he_4, hf⟩ := os_bd hf
      refine mc_callV ⟨hx, hb, hml, hown, hts⟩ (mm_X13_isGood l D kA N q_this o_this u_3 he_4) (cwV 0 hts gX13_runScript_X13_isGood rfl rfl rfl (by decide +kernel) ⟨Nat.le_of_ble_eq_true rfl, Nat.le_of_ble_eq_true rfl⟩) (wc := (ce_X13 kA q_this o_this)) (ci := 9) (q0 := 0) rfl rfl rfl hl.1 (As := []) (rest := []) rfl (Nat.le_of_ble_eq_true rfl) dX13_runScript_20 ⟨Nat.le_of_ble_eq_true rfl, Nat.le_of_ble_eq_true rfl⟩ hK hP hD hS hA [0, 1, 2, 3, 4, 5, 6, 7, 8, 9, 10, 11, 12, 13, 14, 15, 16, 17, 18, 19, 20, 21, 22, 23] [] [0, 1, 2, 3, 4, 5, 6, 7, 8, 9, 10, 11, 12, 13, 14, 15, 16, 17, 18, 19, 20, 21, 22, 23] rfl (by decide) rfl (by decide) (by decide) rfl (by decide) (wr := []) (w2 := (ce_X13 kA q_this o_this)) (fun H locs hP hD hS => ?_)
      have hP : va_P D vwCl (ce_X13 kA q_this o_this) H := hP
      refine lv_if_eq (tgt := 63) hx hb dX13_runScript_23 (by decide) (fun hc_5 => ?_) (fun hc_5 => ?_)
      · rw [if_pos hc_5] at hf
        exact hB63 o_this _ _ _ hP hD hS (lv_sub hl [0] rfl) hf
      · rw [if_neg hc_5] at hf
        refine lv_aload_n hx hb dX13_runScript_26 rfl (lv_at hl 0 rfl) ?_
        refine va_get (D := D) (ci := 9) (v := .int (os_I o_this 6)) (C := RX13) (T := TX13) (N := 48) hx hb hUX13 (fun _ h9 => h9) hown hK hP 0 rfl rfl 6 (by decide) (hts (Cond.fieldLink RX13 135 "ReliefBuilderModel" "sort" "I") (List.mem_of_getElem? (i := 4) rfl)) (fun _ h9 => h9) rfl dX13_runScript_27 ?_
        refine lv_if_eq (tgt := 63) hx hb dX13_runScript_30 (by decide) (fun hc_6 => ?_) (fun hc_6 => ?_)
        · rw [if_pos hc_6] at hf
          exact hB63 o_this _ _ _ hP hD hS (lv_sub hl [0] rfl) hf
        · rw [if_neg hc_6] at hf
          refine lv_aload_n hx hb dX13_runScript_33 rfl (lv_at hl 0 rfl) ?_
          refine va_get (D := D) (ci := 9) (v := .int (os_I o_this 40)) (C := RX13) (T := TX13) (N := 48) hx hb hUX13 (fun _ h9 => h9) hown hK hP 0 rfl rfl 40 (by decide) (hts (Cond.fieldLink RX13 455 "ReliefBuilderModel" "open" "I") (List.mem_of_getElem? (i := 3) rfl)) (fun _ h9 => h9) rfl dX13_runScript_34 ?_
          refine lv_istore_n (lv' := [(1, .int (os_I o_this 40)), (0, .ref (q_this 0))]) hx hb dX13_runScript_37 rfl hl (by decide) rfl (fun ls hl => ?_)
          refine lv_aload_n hx hb dX13_runScript_38 rfl (lv_at hl 1 rfl) ?_
          obtain ⟨u_7, he_8, hf⟩ := os_bd hf
          refine mc_callV ⟨hx, hb, hml, hown, hts⟩ (mm_X13_command l D kA N q_this o_this u_7 he_8) (cwV 0 hts gX13_runScript_X13_command rfl rfl rfl (by decide +kernel) ⟨Nat.le_of_ble_eq_true rfl, Nat.le_of_ble_eq_true rfl⟩) (wc := (ce_X13 kA q_this o_this)) (ci := 9) (q0 := 0) rfl rfl rfl hl.1 (As := []) (rest := []) rfl (Nat.le_of_ble_eq_true rfl) dX13_runScript_39 ⟨Nat.le_of_ble_eq_true rfl, Nat.le_of_ble_eq_true rfl⟩ hK hP hD hS hA [0, 1, 2, 3, 4, 5, 6, 7, 8, 9, 10, 11, 12, 13, 14, 15, 16, 17, 18, 19, 20, 21, 22, 23] [] [0, 1, 2, 3, 4, 5, 6, 7, 8, 9, 10, 11, 12, 13, 14, 15, 16, 17, 18, 19, 20, 21, 22, 23] rfl (by decide) rfl (by decide) (by decide) rfl (by decide) (wr := []) (w2 := (ce_X13 kA q_this u_7)) (fun H locs hP hD hS => ?_)
          have hP : va_P D vwCl (ce_X13 kA q_this u_7) H := hP
          refine lv_aload_n hx hb dX13_runScript_42 rfl (lv_at hl 1 rfl) ?_
          refine va_get (D := D) (ci := 9) (v := .int (os_I u_7 40)) (C := RX13) (T := TX13) (N := 48) hx hb hUX13 (fun _ h9 => h9) hown hK hP 0 rfl rfl 40 (by decide) (hts (Cond.fieldLink RX13 455 "ReliefBuilderModel" "open" "I") (List.mem_of_getElem? (i := 3) rfl)) (fun _ h9 => h9) rfl dX13_runScript_43 ?_
          refine lv_iload_n hx hb dX13_runScript_46 rfl (lv_at hl 0 rfl) ?_
          refine lv_icmp_ne (tgt := 56) hx hb dX13_runScript_47 (by decide) (fun hc_9 => ?_) (fun hc_9 => ?_)
          · rw [if_neg hc_9] at hf
            exact hB56 k19 hk19 u_7 _ _ _ hP hD hS (lv_sub hl [1] rfl) hf
          · rw [if_pos hc_9] at hf
            refine lv_aload_n hx hb dX13_runScript_50 rfl (lv_at hl 1 rfl) ?_
            refine lv_bipush (v := 59) hx hb dX13_runScript_51 (by decide) ?_
            obtain ⟨u_10, he_11, hf⟩ := os_bd hf
            refine mc_callV ⟨hx, hb, hml, hown, hts⟩ (mm_X13_mustSign l D kA N q_this u_7 (59 : Int32) u_10 he_11) (cwV 1 hts gX13_runScript_X13_mustSign rfl rfl rfl (by decide +kernel) ⟨Nat.le_of_ble_eq_true rfl, Nat.le_of_ble_eq_true rfl⟩) (wc := (ce_X13 kA q_this u_7)) (ci := 9) (q0 := 0) rfl rfl rfl hl.1 (As := [.int (59 : Int32)]) (rest := []) rfl (Nat.le_of_ble_eq_true rfl) dX13_runScript_53 ⟨Nat.le_of_ble_eq_true rfl, Nat.le_of_ble_eq_true rfl⟩ hK hP hD hS hA [0, 1, 2, 3, 4, 5, 6, 7, 8, 9, 10, 11, 12, 13, 14, 15, 16, 17, 18, 19, 20, 21, 22, 23] [] [0, 1, 2, 3, 4, 5, 6, 7, 8, 9, 10, 11, 12, 13, 14, 15, 16, 17, 18, 19, 20, 21, 22, 23] rfl (by decide) rfl (by decide) (by decide) rfl (by decide) (wr := []) (w2 := (ce_X13 kA q_this u_10)) (fun H locs hP hD hS => ?_)
            have hP : va_P D vwCl (ce_X13 kA q_this u_10) H := hP
            exact hB56 k19 hk19 u_10 _ _ _ hP hD hS (lv_sub hl [1] rfl) hf
  unfold ff_X13_runScript at hf
  refine lv_aload_n hx hb dX13_runScript_0 rfl (lv_at hl 0 rfl) ?_
  obtain ⟨u_1, he_2, hf⟩ := os_bd hf
  refine mc_callV ⟨hx, hb, hml, hown, hts⟩ (mm_X13_beginsText l D kA N q_this o_this u_1 he_2) (cwV 0 hts gX13_runScript_X13_beginsText rfl rfl rfl (by decide +kernel) ⟨Nat.le_of_ble_eq_true rfl, Nat.le_of_ble_eq_true rfl⟩) (wc := (ce_X13 kA q_this o_this)) (ci := 9) (q0 := 0) rfl rfl rfl hl.1 (As := []) (rest := []) rfl (Nat.le_of_ble_eq_true rfl) dX13_runScript_1 ⟨Nat.le_of_ble_eq_true rfl, Nat.le_of_ble_eq_true rfl⟩ hK hP hD hS hA [0, 1, 2, 3, 4, 5, 6, 7, 8, 9, 10, 11, 12, 13, 14, 15, 16, 17, 18, 19, 20, 21, 22, 23] [] [0, 1, 2, 3, 4, 5, 6, 7, 8, 9, 10, 11, 12, 13, 14, 15, 16, 17, 18, 19, 20, 21, 22, 23] rfl (by decide) rfl (by decide) (by decide) rfl (by decide) (wr := []) (w2 := (ce_X13 kA q_this u_1)) (fun H locs hP hD hS => ?_)
  have hP : va_P D vwCl (ce_X13 kA q_this u_1) H := hP
  refine lv_aload_n hx hb dX13_runScript_4 rfl (lv_at hl 0 rfl) ?_
  refine lv_iconst (v := 0) hx hb dX13_runScript_5 (by decide) ?_
  refine va_put (D := D) (ci := 9) (v := .int (0 : Int32)) (ty := .int) (C := RX13) (T := TX13) (N := 48) hx hb hUX13 (fun _ h9 => h9) tyX13 tyX13_ok nmX13 hown hK hP hD hS 0 rfl rfl 38 (by decide) (hts (Cond.fieldLink RX13 464 "ReliefBuilderModel" "scripted" "I") (List.mem_of_getElem? (i := 1) rfl)) (fun _ h9 => h9) rfl (tyX13_ok 38 (by decide)) rfl rfl (Nat.le_of_ble_eq_true rfl) dX13_runScript_6 (fun H locs hP hD hS => ?_)
  have hP : va_P D vwCl (ce_X13 kA q_this (ss_I u_1 38 (0 : Int32))) H := hP
  have hD : va_D A (ce_X13 kA q_this (ss_I u_1 38 (0 : Int32))) := hD
  refine lv_aload_n hx hb dX13_runScript_9 rfl (lv_at hl 0 rfl) ?_
  refine lv_iconst (v := 0) hx hb dX13_runScript_10 (by decide) ?_
  refine va_put (D := D) (ci := 9) (v := .int (0 : Int32)) (ty := .int) (C := RX13) (T := TX13) (N := 48) hx hb hUX13 (fun _ h9 => h9) tyX13 tyX13_ok nmX13 hown hK hP hD hS 0 rfl rfl 39 (by decide) (hts (Cond.fieldLink RX13 458 "ReliefBuilderModel" "wordsHad" "I") (List.mem_of_getElem? (i := 2) rfl)) (fun _ h9 => h9) rfl (tyX13_ok 39 (by decide)) rfl rfl (Nat.le_of_ble_eq_true rfl) dX13_runScript_11 (fun H locs hP hD hS => ?_)
  have hP : va_P D vwCl (ce_X13 kA q_this (ss_I (ss_I u_1 38 (0 : Int32)) 39 (0 : Int32))) H := hP
  have hD : va_D A (ce_X13 kA q_this (ss_I (ss_I u_1 38 (0 : Int32)) 39 (0 : Int32))) := hD
  refine lv_aload_n hx hb dX13_runScript_14 rfl (lv_at hl 0 rfl) ?_
  refine lv_iconst (v := 0) hx hb dX13_runScript_15 (by decide) ?_
  refine va_put (D := D) (ci := 9) (v := .int (0 : Int32)) (ty := .int) (C := RX13) (T := TX13) (N := 48) hx hb hUX13 (fun _ h9 => h9) tyX13 tyX13_ok nmX13 hown hK hP hD hS 0 rfl rfl 40 (by decide) (hts (Cond.fieldLink RX13 455 "ReliefBuilderModel" "open" "I") (List.mem_of_getElem? (i := 3) rfl)) (fun _ h9 => h9) rfl (tyX13_ok 40 (by decide)) rfl rfl (Nat.le_of_ble_eq_true rfl) dX13_runScript_16 (fun H locs hP hD hS => ?_)
  have hP : va_P D vwCl (ce_X13 kA q_this (ss_I (ss_I (ss_I u_1 38 (0 : Int32)) 39 (0 : Int32)) 40 (0 : Int32))) H := hP
  have hD : va_D A (ce_X13 kA q_this (ss_I (ss_I (ss_I u_1 38 (0 : Int32)) 39 (0 : Int32)) 40 (0 : Int32))) := hD
  exact hL19 N (ss_I (ss_I (ss_I u_1 38 (0 : Int32)) 39 (0 : Int32)) 40 (0 : Int32)) _ _ _ hP hD hS (lv_sub hl [0] rfl) hf
def ff_X13_tell (N : Nat) (o_this : os_T) (a1 : Int32) : Option os_T :=
  (if os_in (os_I o_this 43) 700 then some (ss_I (ss_A o_this 19 (upd (os_A o_this 19) (Int32.toNatClampNeg (os_I o_this 43)) a1)) 43 ((os_I o_this 43) + (1 : Int32))) else none)
set_option maxHeartbeats 4000000 in
set_option maxRecDepth 100000 in
theorem mm_X13_tell (l : Launch) (D : va_G) (kA : Nat → ClassId) (N : Nat) (q_this : Nat → Nat) (o_this : os_T) (a1 : Int32) (out : os_T) (hf : ff_X13_tell N o_this a1 = some out) : mc_C l D kA yX13_tell wsX13_tell ({ frames := 0, cells := 0, slots := 0, locals := 0 } : Room) [.ref (q_this 0), .int a1] (ce_X13 kA q_this o_this) none (ce_X13 kA q_this out) := by
  refine mc_of (cc := cX13_tell) (maxL := 2) (ret := none) (by decide) rfl (Nat.le_of_ble_eq_true rfl) ?_
  intro p e s m below meth c A B hD hP hS ls hl
  obtain ⟨hx, hb, hr, hlk, hml, hown, hts, hK, hA, hnm⟩ := B
  have hown : s.vm.findClass RX13 = some m.cls := hown
  have hl : lv_has ls 2 [(0, .ref (q_this 0)), (1, .int a1)] := hl
  have hUX13 : ∀ w ∈ u_ws RX13 TX13 48, w.before [.ref (q_this 0), .int a1].toArray s = true := fun w h => hts w (List.mem_cons_of_mem _ (List.mem_append_right _ h))
  unfold ff_X13_tell at hf
  refine lv_aload_n hx hb dX13_tell_0 rfl (lv_at hl 0 rfl) ?_
  refine va_get (D := D) (ci := 9) (v := .ref (q_this 20)) (C := RX13) (T := TX13) (N := 48) hx hb hUX13 (fun _ h9 => h9) hown hK hP 0 rfl rfl 42 (by decide) (hts (Cond.fieldLink RX13 75 "ReliefBuilderModel" "report" "[I") (List.mem_of_getElem? (i := 1) rfl)) (fun _ h9 => h9) rfl dX13_tell_1 ?_
  refine lv_aload_n hx hb dX13_tell_4 rfl (lv_at hl 0 rfl) ?_
  refine va_get (D := D) (ci := 9) (v := .int (os_I o_this 43)) (C := RX13) (T := TX13) (N := 48) hx hb hUX13 (fun _ h9 => h9) hown hK hP 0 rfl rfl 43 (by decide) (hts (Cond.fieldLink RX13 482 "ReliefBuilderModel" "reported" "I") (List.mem_of_getElem? (i := 2) rfl)) (fun _ h9 => h9) rfl dX13_tell_5 ?_
  refine lv_iload_n hx hb dX13_tell_8 rfl (lv_at hl 1 rfl) ?_
  obtain ⟨hi_1, hf⟩ := os_if hf
  refine va_iast hx hb hK hP hD hS 20 0 rfl rfl hi_1 dX13_tell_9 (fun H locs hP hD hS => ?_)
  have hP : va_P D vwCl (ce_X13 kA q_this (ss_A o_this 19 (upd (os_A o_this 19) (Int32.toNatClampNeg (os_I o_this 43)) a1))) H := hP
  have hD : va_D A (ce_X13 kA q_this (ss_A o_this 19 (upd (os_A o_this 19) (Int32.toNatClampNeg (os_I o_this 43)) a1))) := hD
  refine lv_aload_n hx hb dX13_tell_10 rfl (lv_at hl 0 rfl) ?_
  refine lv_dup hx hb dX13_tell_11 rfl ?_
  refine va_get (D := D) (ci := 9) (v := .int (os_I o_this 43)) (C := RX13) (T := TX13) (N := 48) hx hb hUX13 (fun _ h9 => h9) hown hK hP 0 rfl rfl 43 (by decide) (hts (Cond.fieldLink RX13 482 "ReliefBuilderModel" "reported" "I") (List.mem_of_getElem? (i := 2) rfl)) (fun _ h9 => h9) rfl dX13_tell_12 ?_
  refine lv_iconst (v := 1) hx hb dX13_tell_15 (by decide) ?_
  refine lv_iadd hx hb dX13_tell_16 ?_
  refine va_put (D := D) (ci := 9) (v := .int ((os_I o_this 43) + (1 : Int32))) (ty := .int) (C := RX13) (T := TX13) (N := 48) hx hb hUX13 (fun _ h9 => h9) tyX13 tyX13_ok nmX13 hown hK hP hD hS 0 rfl rfl 43 (by decide) (hts (Cond.fieldLink RX13 482 "ReliefBuilderModel" "reported" "I") (List.mem_of_getElem? (i := 2) rfl)) (fun _ h9 => h9) rfl (tyX13_ok 43 (by decide)) rfl rfl (Nat.le_of_ble_eq_true rfl) dX13_tell_17 (fun H locs hP hD hS => ?_)
  have hP : va_P D vwCl (ce_X13 kA q_this (ss_I (ss_A o_this 19 (upd (os_A o_this 19) (Int32.toNatClampNeg (os_I o_this 43)) a1)) 43 ((os_I o_this 43) + (1 : Int32)))) H := hP
  have hD : va_D A (ce_X13 kA q_this (ss_I (ss_A o_this 19 (upd (os_A o_this 19) (Int32.toNatClampNeg (os_I o_this 43)) a1)) 43 ((os_I o_this 43) + (1 : Int32)))) := hD
  rw [← Option.some.inj hf]
  exact mc_retv hx hb hr hlk hP hK hD hS dX13_tell_20
def ff_X13_report_b79 (N : Nat) (k24 : (os_T × Int32) → Option (Int32 × os_T)) (k30 : (os_T × Int32 × Int32) → Option (Int32 × os_T)) (o_this : os_T) (x1 : Int32) (x2 : Int32) (x3 : Int32) : Option (Int32 × os_T) :=
  ((ff_X13_tell N o_this ((48 : Int32) + (x3 - x3 / (10 : Int32) * (10 : Int32)))).bind fun u_14 => k30 (u_14, x1, x2 + 1))
def ff_X13_report_b62 (N : Nat) (k24 : (os_T × Int32) → Option (Int32 × os_T)) (k30 : (os_T × Int32 × Int32) → Option (Int32 × os_T)) (o_this : os_T) (x1 : Int32) (x2 : Int32) (x3 : Int32) : Option (Int32 × os_T) :=
  (if x3 ≤ (9 : Int32) then ff_X13_report_b79 N k24 k30 o_this x1 x2 x3 else ((ff_X13_tell N o_this ((48 : Int32) + (x3 / (10 : Int32)))).bind fun u_12 => ff_X13_report_b79 N k24 k30 u_12 x1 x2 x3))
def ff_X13_report_c30 (N : Nat) (k24 : (os_T × Int32) → Option (Int32 × os_T)) (k30 : (os_T × Int32 × Int32) → Option (Int32 × os_T)) (o_this : os_T) (x1 : Int32) (x2 : Int32) : Option (Int32 × os_T) :=
  (if os_in (0 : Int32) 7 then (if ((os_A o_this 1) (Int32.toNatClampNeg (0 : Int32))) ≤ x2 then ((ff_X13_tell N o_this (10 : Int32)).bind fun u_5 => k24 (u_5, x1 + (-1))) else (if os_in (((16 : Int32) * x1) + x2) 192 then (if x2 ≤ 0 then ff_X13_report_b62 N k24 k30 o_this x1 x2 ((os_A o_this 4) (Int32.toNatClampNeg (((16 : Int32) * x1) + x2))) else ((ff_X13_tell N o_this (32 : Int32)).bind fun u_9 => ff_X13_report_b62 N k24 k30 u_9 x1 x2 ((os_A o_this 4) (Int32.toNatClampNeg (((16 : Int32) * x1) + x2))))) else none)) else none)
def ff_X13_report_l30 (N : Nat) (k24 : (os_T × Int32) → Option (Int32 × os_T)) : Nat → (os_T × Int32 × Int32) → Option (Int32 × os_T) := os_loop (fun k30 s1 => ff_X13_report_c30 N k24 k30 s1.1 s1.2.1 s1.2.2)
def ff_X13_report_c24 (N : Nat) (k24 : (os_T × Int32) → Option (Int32 × os_T)) (o_this : os_T) (x1 : Int32) : Option (Int32 × os_T) :=
  (if x1 < 0 then some (os_I o_this 43, o_this) else ff_X13_report_l30 N k24 N (o_this, x1, (0 : Int32)))
def ff_X13_report_l24 (N : Nat) : Nat → (os_T × Int32) → Option (Int32 × os_T) := os_loop (fun k24 s1 => ff_X13_report_c24 N k24 s1.1 s1.2)
def ff_X13_report (N : Nat) (o_this : os_T) : Option (Int32 × os_T) :=
  (if os_in (1 : Int32) 7 then ff_X13_report_l24 N N (ss_I (ss_I (ss_I o_this 0 (0 : Int32)) 43 (0 : Int32)) 44 (1 : Int32), ((os_A o_this 1) (Int32.toNatClampNeg (1 : Int32))) - (1 : Int32)) else none)
set_option maxHeartbeats 4000000 in
set_option maxRecDepth 100000 in
theorem mm_X13_report (l : Launch) (D : va_G) (kA : Nat → ClassId) (N : Nat) (q_this : Nat → Nat) (o_this : os_T) (out : (Int32 × os_T)) (hf : ff_X13_report N o_this = some out) : mc_C l D kA yX13_report wsX13_report ({ frames := 1, cells := 0, slots := 0, locals := 21 } : Room) [.ref (q_this 0)] (ce_X13 kA q_this o_this) (some (.int out.1)) (ce_X13 kA q_this out.2) := by
  refine mc_of (cc := cX13_report) (maxL := 4) (ret := (some .int)) (by decide) rfl (Nat.le_of_ble_eq_true rfl) ?_
  intro p e s m below meth c A B hD hP hS ls hl
  obtain ⟨hx, hb, hr, hlk, hml, hown, hts, hK, hA, hnm⟩ := B
  have hown : s.vm.findClass RX13 = some m.cls := hown
  have hl : lv_has ls 4 [(0, .ref (q_this 0))] := hl
  have hUX13 : ∀ w ∈ u_ws RX13 TX13 48, w.before [.ref (q_this 0)].toArray s = true := fun w h => hts w (List.mem_cons_of_mem _ (List.mem_append_right _ h))
  have hB79 : ∀ (k24 : (os_T × Int32) → Option (Int32 × os_T)), (∀ (o_this : os_T) (x1 : Int32) (H : Heap) (locs : List Loc) (ls : Array Slot), va_P D vwCl (ce_X13 kA q_this o_this) H → va_D A (ce_X13 kA q_this o_this) → va_S A s.heap H locs → lv_has ls 4 [(0, .ref (q_this 0)), (1, .int x1)] → k24 (o_this, x1) = some out → W p l e ({ frames := 1, cells := 0, slots := 0, locals := 21 } : Room) s m [.ref (q_this 0)].toArray below meth c H locs 0 0 (MQ below (mc_Q D kA A (some (.int out.1)) (ce_X13 kA q_this out.2)) [.ref (q_this 0)].toArray s 0 0 A) (F0 m 24 ls [])) → ∀ (k30 : (os_T × Int32 × Int32) → Option (Int32 × os_T)), (∀ (o_this : os_T) (x1 : Int32) (x2 : Int32) (H : Heap) (locs : List Loc) (ls : Array Slot), va_P D vwCl (ce_X13 kA q_this o_this) H → va_D A (ce_X13 kA q_this o_this) → va_S A s.heap H locs → lv_has ls 4 [(0, .ref (q_this 0)), (1, .int x1), (2, .int x2)] → k30 (o_this, x1, x2) = some out → W p l e ({ frames := 1, cells := 0, slots := 0, locals := 21 } : Room) s m [.ref (q_this 0)].toArray below meth c H locs 0 0 (MQ below (mc_Q D kA A (some (.int out.1)) (ce_X13 kA q_this out.2)) [.ref (q_this 0)].toArray s 0 0 A) (F0 m 30 ls [])) → ∀ (o_this : os_T) (x1 : Int32) (x2 : Int32) (x3 : Int32) (H : Heap) (locs : List Loc) (ls : Array Slot), va_P D vwCl (ce_X13 kA q_this o_this) H → va_D A (ce_X13 kA q_this o_this) → va_S A s.heap H locs → lv_has ls 4 [(0, .ref (q_this 0)), (1, .int x1), (2, .int x2), (3, .int x3)] → ff_X13_report_b79 N k24 k30 o_this x1 x2 x3 = some out → W p l e ({ frames := 1, cells := 0, slots := 0, locals := 21 } : Room) s m [.ref (q_this 0)].toArray below meth c H locs 0 0 (MQ below (mc_Q D kA A (some (.int out.1)) (ce_X13 kA q_this out.2)) [.ref (q_this 0)].toArray s 0 0 A) (F0 m 79 ls []) := by
    intro k24 hk24 k30 hk30 o_this x1 x2 x3 H locs ls hP hD hS hl hf
    unfold ff_X13_report_b79 at hf
    refine lv_aload_n hx hb dX13_report_79 rfl (lv_at hl 0 rfl) ?_
    refine lv_bipush (v := 48) hx hb dX13_report_80 (by decide) ?_
    refine lv_iload_n hx hb dX13_report_82 rfl (lv_at hl 3 rfl) ?_
    refine lv_bipush (v := 10) hx hb dX13_report_83 (by decide) ?_
    refine lv_irem hx hb dX13_report_85 (by decide) ?_
    refine lv_iadd hx hb dX13_report_86 ?_
    obtain ⟨u_14, he_15, hf⟩ := os_bd hf
    refine mc_callV ⟨hx, hb, hml, hown, hts⟩ (mm_X13_tell l D kA N q_this o_this ((48 : Int32) + (x3 - x3 / (10 : Int32) * (10 : Int32))) u_14 he_15) (cwV 1 hts gX13_report_X13_tell rfl rfl rfl (by decide +kernel) ⟨Nat.le_of_ble_eq_true rfl, Nat.le_of_ble_eq_true rfl⟩) (wc := (ce_X13 kA q_this o_this)) (ci := 9) (q0 := 0) rfl rfl rfl hl.1 (As := [.int ((48 : Int32) + (x3 - x3 / (10 : Int32) * (10 : Int32)))]) (rest := []) rfl (Nat.le_of_ble_eq_true rfl) dX13_report_87 ⟨Nat.le_of_ble_eq_true rfl, Nat.le_of_ble_eq_true rfl⟩ hK hP hD hS hA [0, 1, 2, 3, 4, 5, 6, 7, 8, 9, 10, 11, 12, 13, 14, 15, 16, 17, 18, 19, 20, 21, 22, 23] [] [0, 1, 2, 3, 4, 5, 6, 7, 8, 9, 10, 11, 12, 13, 14, 15, 16, 17, 18, 19, 20, 21, 22, 23] rfl (by decide) rfl (by decide) (by decide) rfl (by decide) (wr := []) (w2 := (ce_X13 kA q_this u_14)) (fun H locs hP hD hS => ?_)
    have hP : va_P D vwCl (ce_X13 kA q_this u_14) H := hP
    refine lv_iinc (v := x2 + 1) (lv' := [(2, .int (x2 + 1)), (0, .ref (q_this 0)), (1, .int x1), (3, .int x3)]) hx hb dX13_report_90 hl (k := 2) rfl rfl (by decide) rfl (fun ls hl => ?_)
    refine lv_goto (tgt := 30) hx hb dX13_report_93 (by decide) ?_
    exact hk30 u_14 x1 (x2 + 1) _ _ _ hP hD hS (lv_sub hl [1, 2, 0] rfl) hf
  have hB62 : ∀ (k24 : (os_T × Int32) → Option (Int32 × os_T)), (∀ (o_this : os_T) (x1 : Int32) (H : Heap) (locs : List Loc) (ls : Array Slot), va_P D vwCl (ce_X13 kA q_this o_this) H → va_D A (ce_X13 kA q_this o_this) → va_S A s.heap H locs → lv_has ls 4 [(0, .ref (q_this 0)), (1, .int x1)] → k24 (o_this, x1) = some out → W p l e ({ frames := 1, cells := 0, slots := 0, locals := 21 } : Room) s m [.ref (q_this 0)].toArray below meth c H locs 0 0 (MQ below (mc_Q D kA A (some (.int out.1)) (ce_X13 kA q_this out.2)) [.ref (q_this 0)].toArray s 0 0 A) (F0 m 24 ls [])) → ∀ (k30 : (os_T × Int32 × Int32) → Option (Int32 × os_T)), (∀ (o_this : os_T) (x1 : Int32) (x2 : Int32) (H : Heap) (locs : List Loc) (ls : Array Slot), va_P D vwCl (ce_X13 kA q_this o_this) H → va_D A (ce_X13 kA q_this o_this) → va_S A s.heap H locs → lv_has ls 4 [(0, .ref (q_this 0)), (1, .int x1), (2, .int x2)] → k30 (o_this, x1, x2) = some out → W p l e ({ frames := 1, cells := 0, slots := 0, locals := 21 } : Room) s m [.ref (q_this 0)].toArray below meth c H locs 0 0 (MQ below (mc_Q D kA A (some (.int out.1)) (ce_X13 kA q_this out.2)) [.ref (q_this 0)].toArray s 0 0 A) (F0 m 30 ls [])) → ∀ (o_this : os_T) (x1 : Int32) (x2 : Int32) (x3 : Int32) (H : Heap) (locs : List Loc) (ls : Array Slot), va_P D vwCl (ce_X13 kA q_this o_this) H → va_D A (ce_X13 kA q_this o_this) → va_S A s.heap H locs → lv_has ls 4 [(0, .ref (q_this 0)), (1, .int x1), (2, .int x2), (3, .int x3)] → ff_X13_report_b62 N k24 k30 o_this x1 x2 x3 = some out → W p l e ({ frames := 1, cells := 0, slots := 0, locals := 21 } : Room) s m [.ref (q_this 0)].toArray below meth c H locs 0 0 (MQ below (mc_Q D kA A (some (.int out.1)) (ce_X13 kA q_this out.2)) [.ref (q_this 0)].toArray s 0 0 A) (F0 m 62 ls []) := by
    intro k24 hk24 k30 hk30 o_this x1 x2 x3 H locs ls hP hD hS hl hf
    unfold ff_X13_report_b62 at hf
    refine lv_iload_n hx hb dX13_report_62 rfl (lv_at hl 3 rfl) ?_
    refine lv_bipush (v := 9) hx hb dX13_report_63 (by decide) ?_
    refine lv_icmp_le (tgt := 79) hx hb dX13_report_65 (by decide) (fun hc_11 => ?_) (fun hc_11 => ?_)
    · rw [if_pos hc_11] at hf
      exact hB79 k24 hk24 k30 hk30 o_this x1 x2 x3 _ _ _ hP hD hS (lv_sub hl [0, 1, 2, 3] rfl) hf
    · rw [if_neg hc_11] at hf
      refine lv_aload_n hx hb dX13_report_68 rfl (lv_at hl 0 rfl) ?_
      refine lv_bipush (v := 48) hx hb dX13_report_69 (by decide) ?_
      refine lv_iload_n hx hb dX13_report_71 rfl (lv_at hl 3 rfl) ?_
      refine lv_bipush (v := 10) hx hb dX13_report_72 (by decide) ?_
      refine lv_idiv hx hb dX13_report_74 (by decide) ?_
      refine lv_iadd hx hb dX13_report_75 ?_
      obtain ⟨u_12, he_13, hf⟩ := os_bd hf
      refine mc_callV ⟨hx, hb, hml, hown, hts⟩ (mm_X13_tell l D kA N q_this o_this ((48 : Int32) + (x3 / (10 : Int32))) u_12 he_13) (cwV 1 hts gX13_report_X13_tell rfl rfl rfl (by decide +kernel) ⟨Nat.le_of_ble_eq_true rfl, Nat.le_of_ble_eq_true rfl⟩) (wc := (ce_X13 kA q_this o_this)) (ci := 9) (q0 := 0) rfl rfl rfl hl.1 (As := [.int ((48 : Int32) + (x3 / (10 : Int32)))]) (rest := []) rfl (Nat.le_of_ble_eq_true rfl) dX13_report_76 ⟨Nat.le_of_ble_eq_true rfl, Nat.le_of_ble_eq_true rfl⟩ hK hP hD hS hA [0, 1, 2, 3, 4, 5, 6, 7, 8, 9, 10, 11, 12, 13, 14, 15, 16, 17, 18, 19, 20, 21, 22, 23] [] [0, 1, 2, 3, 4, 5, 6, 7, 8, 9, 10, 11, 12, 13, 14, 15, 16, 17, 18, 19, 20, 21, 22, 23] rfl (by decide) rfl (by decide) (by decide) rfl (by decide) (wr := []) (w2 := (ce_X13 kA q_this u_12)) (fun H locs hP hD hS => ?_)
      have hP : va_P D vwCl (ce_X13 kA q_this u_12) H := hP
      exact hB79 k24 hk24 k30 hk30 u_12 x1 x2 x3 _ _ _ hP hD hS (lv_sub hl [0, 1, 2, 3] rfl) hf
  have hL30 : ∀ (k24 : (os_T × Int32) → Option (Int32 × os_T)), (∀ (o_this : os_T) (x1 : Int32) (H : Heap) (locs : List Loc) (ls : Array Slot), va_P D vwCl (ce_X13 kA q_this o_this) H → va_D A (ce_X13 kA q_this o_this) → va_S A s.heap H locs → lv_has ls 4 [(0, .ref (q_this 0)), (1, .int x1)] → k24 (o_this, x1) = some out → W p l e ({ frames := 1, cells := 0, slots := 0, locals := 21 } : Room) s m [.ref (q_this 0)].toArray below meth c H locs 0 0 (MQ below (mc_Q D kA A (some (.int out.1)) (ce_X13 kA q_this out.2)) [.ref (q_this 0)].toArray s 0 0 A) (F0 m 24 ls [])) → ∀ (n : Nat) (o_this : os_T) (x1 : Int32) (x2 : Int32) (H : Heap) (locs : List Loc) (ls : Array Slot), va_P D vwCl (ce_X13 kA q_this o_this) H → va_D A (ce_X13 kA q_this o_this) → va_S A s.heap H locs → lv_has ls 4 [(0, .ref (q_this 0)), (1, .int x1), (2, .int x2)] → ff_X13_report_l30 N k24 n (o_this, x1, x2) = some out → W p l e ({ frames := 1, cells := 0, slots := 0, locals := 21 } : Room) s m [.ref (q_this 0)].toArray below meth c H locs 0 0 (MQ below (mc_Q D kA A (some (.int out.1)) (ce_X13 kA q_this out.2)) [.ref (q_this 0)].toArray s 0 0 A) (F0 m 30 ls []) := by
    intro k24 hk24 n
    induction n with
    | zero => intro o_this x1 x2 H locs ls _ _ _ _ hf; cases hf
    | succ n hk30 =>
      intro o_this x1 x2 H locs ls hP hD hS hl hf
      have hf : ff_X13_report_c30 N k24 (ff_X13_report_l30 N k24 n) o_this x1 x2 = some out := hf
      generalize hke : ff_X13_report_l30 N k24 n = k30 at hk30 hf
      unfold ff_X13_report_c30 at hf
      refine lv_iload_n hx hb dX13_report_30 rfl (lv_at hl 2 rfl) ?_
      refine lv_aload_n hx hb dX13_report_31 rfl (lv_at hl 0 rfl) ?_
      refine va_get (D := D) (ci := 9) (v := .ref (q_this 2)) (C := RX13) (T := TX13) (N := 48) hx hb hUX13 (fun _ h9 => h9) hown hK hP 0 rfl rfl 13 (by decide) (hts (Cond.fieldLink RX13 20 "ReliefBuilderModel" "now" "[I") (List.mem_of_getElem? (i := 4) rfl)) (fun _ h9 => h9) rfl dX13_report_32 ?_
      refine lv_iconst (v := 0) hx hb dX13_report_35 (by decide) ?_
      obtain ⟨hi_3, hf⟩ := os_if hf
      refine va_iald hx hb hK hP 2 0 rfl rfl hi_3 dX13_report_36 ?_
      refine lv_icmp_ge (tgt := 96) hx hb dX13_report_37 (by decide) (fun hc_4 => ?_) (fun hc_4 => ?_)
      · rw [if_pos hc_4] at hf
        refine lv_aload_n hx hb dX13_report_96 rfl (lv_at hl 0 rfl) ?_
        refine lv_bipush (v := 10) hx hb dX13_report_97 (by decide) ?_
        obtain ⟨u_5, he_6, hf⟩ := os_bd hf
        refine mc_callV ⟨hx, hb, hml, hown, hts⟩ (mm_X13_tell l D kA N q_this o_this (10 : Int32) u_5 he_6) (cwV 1 hts gX13_report_X13_tell rfl rfl rfl (by decide +kernel) ⟨Nat.le_of_ble_eq_true rfl, Nat.le_of_ble_eq_true rfl⟩) (wc := (ce_X13 kA q_this o_this)) (ci := 9) (q0 := 0) rfl rfl rfl hl.1 (As := [.int (10 : Int32)]) (rest := []) rfl (Nat.le_of_ble_eq_true rfl) dX13_report_99 ⟨Nat.le_of_ble_eq_true rfl, Nat.le_of_ble_eq_true rfl⟩ hK hP hD hS hA [0, 1, 2, 3, 4, 5, 6, 7, 8, 9, 10, 11, 12, 13, 14, 15, 16, 17, 18, 19, 20, 21, 22, 23] [] [0, 1, 2, 3, 4, 5, 6, 7, 8, 9, 10, 11, 12, 13, 14, 15, 16, 17, 18, 19, 20, 21, 22, 23] rfl (by decide) rfl (by decide) (by decide) rfl (by decide) (wr := []) (w2 := (ce_X13 kA q_this u_5)) (fun H locs hP hD hS => ?_)
        have hP : va_P D vwCl (ce_X13 kA q_this u_5) H := hP
        refine lv_iinc (v := x1 + (-1)) (lv' := [(1, .int (x1 + (-1))), (0, .ref (q_this 0)), (2, .int x2)]) hx hb dX13_report_102 hl (k := 1) rfl rfl (by decide) rfl (fun ls hl => ?_)
        refine lv_goto (tgt := 24) hx hb dX13_report_105 (by decide) ?_
        exact hk24 u_5 (x1 + (-1)) _ _ _ hP hD hS (lv_sub hl [1, 0] rfl) hf
      · rw [if_neg hc_4] at hf
        refine lv_aload_n hx hb dX13_report_40 rfl (lv_at hl 0 rfl) ?_
        refine va_get (D := D) (ci := 9) (v := .ref (q_this 5)) (C := RX13) (T := TX13) (N := 48) hx hb hUX13 (fun _ h9 => h9) hown hK hP 0 rfl rfl 16 (by decide) (hts (Cond.fieldLink RX13 29 "ReliefBuilderModel" "heights" "[I") (List.mem_of_getElem? (i := 5) rfl)) (fun _ h9 => h9) rfl dX13_report_41 ?_
        refine lv_bipush (v := 16) hx hb dX13_report_44 (by decide) ?_
        refine lv_iload_n hx hb dX13_report_46 rfl (lv_at hl 1 rfl) ?_
        refine lv_imul hx hb dX13_report_47 ?_
        refine lv_iload_n hx hb dX13_report_48 rfl (lv_at hl 2 rfl) ?_
        refine lv_iadd hx hb dX13_report_49 ?_
        obtain ⟨hi_7, hf⟩ := os_if hf
        refine va_iald hx hb hK hP 5 0 rfl rfl hi_7 dX13_report_50 ?_
        refine lv_istore_n (lv' := [(3, .int ((os_A o_this 4) (Int32.toNatClampNeg (((16 : Int32) * x1) + x2)))), (0, .ref (q_this 0)), (1, .int x1), (2, .int x2)]) hx hb dX13_report_51 rfl hl (by decide) rfl (fun ls hl => ?_)
        refine lv_iload_n hx hb dX13_report_52 rfl (lv_at hl 3 rfl) ?_
        refine lv_if_le (tgt := 62) hx hb dX13_report_53 (by decide) (fun hc_8 => ?_) (fun hc_8 => ?_)
        · rw [if_pos hc_8] at hf
          exact hB62 k24 hk24 k30 hk30 o_this x1 x2 ((os_A o_this 4) (Int32.toNatClampNeg (((16 : Int32) * x1) + x2))) _ _ _ hP hD hS (lv_sub hl [1, 2, 3, 0] rfl) hf
        · rw [if_neg hc_8] at hf
          refine lv_aload_n hx hb dX13_report_56 rfl (lv_at hl 1 rfl) ?_
          refine lv_bipush (v := 32) hx hb dX13_report_57 (by decide) ?_
          obtain ⟨u_9, he_10, hf⟩ := os_bd hf
          refine mc_callV ⟨hx, hb, hml, hown, hts⟩ (mm_X13_tell l D kA N q_this o_this (32 : Int32) u_9 he_10) (cwV 1 hts gX13_report_X13_tell rfl rfl rfl (by decide +kernel) ⟨Nat.le_of_ble_eq_true rfl, Nat.le_of_ble_eq_true rfl⟩) (wc := (ce_X13 kA q_this o_this)) (ci := 9) (q0 := 0) rfl rfl rfl hl.1 (As := [.int (32 : Int32)]) (rest := []) rfl (Nat.le_of_ble_eq_true rfl) dX13_report_59 ⟨Nat.le_of_ble_eq_true rfl, Nat.le_of_ble_eq_true rfl⟩ hK hP hD hS hA [0, 1, 2, 3, 4, 5, 6, 7, 8, 9, 10, 11, 12, 13, 14, 15, 16, 17, 18, 19, 20, 21, 22, 23] [] [0, 1, 2, 3, 4, 5, 6, 7, 8, 9, 10, 11, 12, 13, 14, 15, 16, 17, 18, 19, 20, 21, 22, 23] rfl (by decide) rfl (by decide) (by decide) rfl (by decide) (wr := []) (w2 := (ce_X13 kA q_this u_9)) (fun H locs hP hD hS => ?_)
          have hP : va_P D vwCl (ce_X13 kA q_this u_9) H := hP
          exact hB62 k24 hk24 k30 hk30 u_9 x1 x2 ((os_A o_this 4) (Int32.toNatClampNeg (((16 : Int32) * x1) + x2))) _ _ _ hP hD hS (lv_sub hl [1, 2, 3, 0] rfl) hf
  have hL24 : ∀ (n : Nat) (o_this : os_T) (x1 : Int32) (H : Heap) (locs : List Loc) (ls : Array Slot), va_P D vwCl (ce_X13 kA q_this o_this) H → va_D A (ce_X13 kA q_this o_this) → va_S A s.heap H locs → lv_has ls 4 [(0, .ref (q_this 0)), (1, .int x1)] → ff_X13_report_l24 N n (o_this, x1) = some out → W p l e ({ frames := 1, cells := 0, slots := 0, locals := 21 } : Room) s m [.ref (q_this 0)].toArray below meth c H locs 0 0 (MQ below (mc_Q D kA A (some (.int out.1)) (ce_X13 kA q_this out.2)) [.ref (q_this 0)].toArray s 0 0 A) (F0 m 24 ls []) := by
    intro n
    induction n with
    | zero => intro o_this x1 H locs ls _ _ _ _ hf; cases hf
    | succ n hk24 =>
      intro o_this x1 H locs ls hP hD hS hl hf
      have hf : ff_X13_report_c24 N (ff_X13_report_l24 N n) o_this x1 = some out := hf
      generalize hke : ff_X13_report_l24 N n = k24 at hk24 hf
      unfold ff_X13_report_c24 at hf
      refine lv_iload_n hx hb dX13_report_24 rfl (lv_at hl 1 rfl) ?_
      refine lv_if_lt (tgt := 108) hx hb dX13_report_25 (by decide) (fun hc_2 => ?_) (fun hc_2 => ?_)
      · rw [if_pos hc_2] at hf
        refine lv_aload_n hx hb dX13_report_108 rfl (lv_at hl 0 rfl) ?_
        refine va_get (D := D) (ci := 9) (v := .int (os_I o_this 43)) (C := RX13) (T := TX13) (N := 48) hx hb hUX13 (fun _ h9 => h9) hown hK hP 0 rfl rfl 43 (by decide) (hts (Cond.fieldLink RX13 482 "ReliefBuilderModel" "reported" "I") (List.mem_of_getElem? (i := 2) rfl)) (fun _ h9 => h9) rfl dX13_report_109 ?_
        rw [← Option.some.inj hf]
        exact mc_reti hx hb hr hlk hP hK hD hS dX13_report_112
      · rw [if_neg hc_2] at hf
        refine lv_iconst (v := 0) hx hb dX13_report_28 (by decide) ?_
        refine lv_istore_n (lv' := [(2, .int (0 : Int32)), (0, .ref (q_this 0)), (1, .int x1)]) hx hb dX13_report_29 rfl hl (by decide) rfl (fun ls hl => ?_)
        exact hL30 k24 hk24 N o_this x1 (0 : Int32) _ _ _ hP hD hS (lv_sub hl [1, 2, 0] rfl) hf
  unfold ff_X13_report at hf
  refine lv_aload_n hx hb dX13_report_0 rfl (lv_at hl 0 rfl) ?_
  refine lv_iconst (v := 0) hx hb dX13_report_1 (by decide) ?_
  refine va_put (D := D) (ci := 9) (v := .int (0 : Int32)) (ty := .int) (C := RX13) (T := TX13) (N := 48) hx hb hUX13 (fun _ h9 => h9) tyX13 tyX13_ok nmX13 hown hK hP hD hS 0 rfl rfl 0 (by decide) (hts (Cond.fieldLink RX13 93 "ReliefBuilderModel" "code" "I") (List.mem_of_getElem? (i := 1) rfl)) (fun _ h9 => h9) rfl (tyX13_ok 0 (by decide)) rfl rfl (Nat.le_of_ble_eq_true rfl) dX13_report_2 (fun H locs hP hD hS => ?_)
  have hP : va_P D vwCl (ce_X13 kA q_this (ss_I o_this 0 (0 : Int32))) H := hP
  have hD : va_D A (ce_X13 kA q_this (ss_I o_this 0 (0 : Int32))) := hD
  refine lv_aload_n hx hb dX13_report_5 rfl (lv_at hl 0 rfl) ?_
  refine lv_iconst (v := 0) hx hb dX13_report_6 (by decide) ?_
  refine va_put (D := D) (ci := 9) (v := .int (0 : Int32)) (ty := .int) (C := RX13) (T := TX13) (N := 48) hx hb hUX13 (fun _ h9 => h9) tyX13 tyX13_ok nmX13 hown hK hP hD hS 0 rfl rfl 43 (by decide) (hts (Cond.fieldLink RX13 482 "ReliefBuilderModel" "reported" "I") (List.mem_of_getElem? (i := 2) rfl)) (fun _ h9 => h9) rfl (tyX13_ok 43 (by decide)) rfl rfl (Nat.le_of_ble_eq_true rfl) dX13_report_7 (fun H locs hP hD hS => ?_)
  have hP : va_P D vwCl (ce_X13 kA q_this (ss_I (ss_I o_this 0 (0 : Int32)) 43 (0 : Int32))) H := hP
  have hD : va_D A (ce_X13 kA q_this (ss_I (ss_I o_this 0 (0 : Int32)) 43 (0 : Int32))) := hD
  refine lv_aload_n hx hb dX13_report_10 rfl (lv_at hl 0 rfl) ?_
  refine lv_iconst (v := 1) hx hb dX13_report_11 (by decide) ?_
  refine va_put (D := D) (ci := 9) (v := .int (1 : Int32)) (ty := .boolean) (C := RX13) (T := TX13) (N := 48) hx hb hUX13 (fun _ h9 => h9) tyX13 tyX13_ok nmX13 hown hK hP hD hS 0 rfl rfl 44 (by decide) (hts (Cond.fieldLink RX13 485 "ReliefBuilderModel" "hasReport" "Z") (List.mem_of_getElem? (i := 3) rfl)) (fun _ h9 => h9) rfl (tyX13_ok 44 (by decide)) rfl rfl (Nat.le_of_ble_eq_true rfl) dX13_report_12 (fun H locs hP hD hS => ?_)
  have hP : va_P D vwCl (ce_X13 kA q_this (ss_I (ss_I (ss_I o_this 0 (0 : Int32)) 43 (0 : Int32)) 44 (1 : Int32))) H := hP
  have hD : va_D A (ce_X13 kA q_this (ss_I (ss_I (ss_I o_this 0 (0 : Int32)) 43 (0 : Int32)) 44 (1 : Int32))) := hD
  refine lv_aload_n hx hb dX13_report_15 rfl (lv_at hl 0 rfl) ?_
  refine va_get (D := D) (ci := 9) (v := .ref (q_this 2)) (C := RX13) (T := TX13) (N := 48) hx hb hUX13 (fun _ h9 => h9) hown hK hP 0 rfl rfl 13 (by decide) (hts (Cond.fieldLink RX13 20 "ReliefBuilderModel" "now" "[I") (List.mem_of_getElem? (i := 4) rfl)) (fun _ h9 => h9) rfl dX13_report_16 ?_
  refine lv_iconst (v := 1) hx hb dX13_report_19 (by decide) ?_
  obtain ⟨hi_1, hf⟩ := os_if hf
  refine va_iald hx hb hK hP 2 0 rfl rfl hi_1 dX13_report_20 ?_
  refine lv_iconst (v := 1) hx hb dX13_report_21 (by decide) ?_
  refine lv_isub hx hb dX13_report_22 ?_
  refine lv_istore_n (lv' := [(1, .int (((os_A o_this 1) (Int32.toNatClampNeg (1 : Int32))) - (1 : Int32))), (0, .ref (q_this 0))]) hx hb dX13_report_23 rfl hl (by decide) rfl (fun ls hl => ?_)
  exact hL24 N (ss_I (ss_I (ss_I o_this 0 (0 : Int32)) 43 (0 : Int32)) 44 (1 : Int32)) (((os_A o_this 1) (Int32.toNatClampNeg (1 : Int32))) - (1 : Int32)) _ _ _ hP hD hS (lv_sub hl [1, 0] rfl) hf
def ff_X13_reportByte_b29 (N : Nat) (o_this : os_T) (x1 : Int32) (t0 : Int32) : Option (Int32 × os_T) :=
  ((ff_X13_goes N o_this t0).bind fun u_5 => (if u_5.1 = 0 then some ((0 : Int32), u_5.2) else (if os_in x1 700 then some ((os_A u_5.2 19) (Int32.toNatClampNeg x1), u_5.2) else none)))
def ff_X13_reportByte_b28 (N : Nat) (o_this : os_T) (x1 : Int32) : Option (Int32 × os_T) :=
  ff_X13_reportByte_b29 N o_this x1 (0 : Int32)
def ff_X13_reportByte (N : Nat) (o_this : os_T) (a1 : Int32) : Option (Int32 × os_T) :=
  (if (os_I o_this 44) = 0 then ff_X13_reportByte_b28 N o_this a1 else ((ff_X13_isIn N (Int32.toInt64 a1) (0 : Int64) (Int32.toInt64 ((os_I o_this 43) - (1 : Int32)))).bind fun u_2 => (if u_2 = 0 then ff_X13_reportByte_b28 N o_this a1 else ff_X13_reportByte_b29 N o_this a1 (1 : Int32))))
set_option maxHeartbeats 4000000 in
set_option maxRecDepth 100000 in
theorem mm_X13_reportByte (l : Launch) (D : va_G) (kA : Nat → ClassId) (N : Nat) (q_this : Nat → Nat) (o_this : os_T) (a1 : Int32) (out : (Int32 × os_T)) (hf : ff_X13_reportByte N o_this a1 = some out) : mc_C l D kA yX13_reportByte wsX13_reportByte ({ frames := 2, cells := 0, slots := 0, locals := 41 } : Room) [.ref (q_this 0), .int a1] (ce_X13 kA q_this o_this) (some (.int out.1)) (ce_X13 kA q_this out.2) := by
  refine mc_of (cc := cX13_reportByte) (maxL := 2) (ret := (some .int)) (by decide) rfl (Nat.le_of_ble_eq_true rfl) ?_
  intro p e s m below meth c A B hD hP hS ls hl
  obtain ⟨hx, hb, hr, hlk, hml, hown, hts, hK, hA, hnm⟩ := B
  have hown : s.vm.findClass RX13 = some m.cls := hown
  have hl : lv_has ls 2 [(0, .ref (q_this 0)), (1, .int a1)] := hl
  have hUX13 : ∀ w ∈ u_ws RX13 TX13 48, w.before [.ref (q_this 0), .int a1].toArray s = true := fun w h => hts w (List.mem_cons_of_mem _ (List.mem_append_right _ h))
  have hB29 : ∀ (o_this : os_T) (x1 : Int32) (t0 : Int32) (H : Heap) (locs : List Loc) (ls : Array Slot), va_P D vwCl (ce_X13 kA q_this o_this) H → va_D A (ce_X13 kA q_this o_this) → va_S A s.heap H locs → lv_has ls 2 [(0, .ref (q_this 0)), (1, .int x1)] → ff_X13_reportByte_b29 N o_this x1 t0 = some out → W p l e ({ frames := 2, cells := 0, slots := 0, locals := 41 } : Room) s m [.ref (q_this 0), .int a1].toArray below meth c H locs 0 0 (MQ below (mc_Q D kA A (some (.int out.1)) (ce_X13 kA q_this out.2)) [.ref (q_this 0), .int a1].toArray s 0 0 A) (F0 m 29 ls [.int t0, .ref (q_this 0)]) := by
    intro o_this x1 t0 H locs ls hP hD hS hl hf
    unfold ff_X13_reportByte_b29 at hf
    obtain ⟨u_5, he_6, hf⟩ := os_bd hf
    refine mc_callV ⟨hx, hb, hml, hown, hts⟩ (mm_X13_goes l D kA N q_this o_this t0 u_5 he_6) (cwV 1 hts gX13_reportByte_X13_goes rfl rfl rfl (by decide +kernel) ⟨Nat.le_of_ble_eq_true rfl, Nat.le_of_ble_eq_true rfl⟩) (wc := (ce_X13 kA q_this o_this)) (ci := 9) (q0 := 0) rfl rfl rfl hl.1 (As := [.int t0]) (rest := []) rfl (Nat.le_of_ble_eq_true rfl) dX13_reportByte_29 ⟨Nat.le_of_ble_eq_true rfl, Nat.le_of_ble_eq_true rfl⟩ hK hP hD hS hA [0, 1, 2, 3, 4, 5, 6, 7, 8, 9, 10, 11, 12, 13, 14, 15, 16, 17, 18, 19, 20, 21, 22, 23] [] [0, 1, 2, 3, 4, 5, 6, 7, 8, 9, 10, 11, 12, 13, 14, 15, 16, 17, 18, 19, 20, 21, 22, 23] rfl (by decide) rfl (by decide) (by decide) rfl (by decide) (wr := []) (w2 := (ce_X13 kA q_this u_5.2)) (fun H locs hP hD hS => ?_)
    have hP : va_P D vwCl (ce_X13 kA q_this u_5.2) H := hP
    refine lv_if_eq (tgt := 44) hx hb dX13_reportByte_32 (by decide) (fun hc_7 => ?_) (fun hc_7 => ?_)
    · rw [if_pos hc_7] at hf
      refine lv_iconst (v := 0) hx hb dX13_reportByte_44 (by decide) ?_
      rw [← Option.some.inj hf]
      exact mc_reti hx hb hr hlk hP hK hD hS dX13_reportByte_45
    · rw [if_neg hc_7] at hf
      refine lv_aload_n hx hb dX13_reportByte_35 rfl (lv_at hl 0 rfl) ?_
      refine va_get (D := D) (ci := 9) (v := .ref (q_this 20)) (C := RX13) (T := TX13) (N := 48) hx hb hUX13 (fun _ h9 => h9) hown hK hP 0 rfl rfl 42 (by decide) (hts (Cond.fieldLink RX13 75 "ReliefBuilderModel" "report" "[I") (List.mem_of_getElem? (i := 3) rfl)) (fun _ h9 => h9) rfl dX13_reportByte_36 ?_
      refine lv_iload_n hx hb dX13_reportByte_39 rfl (lv_at hl 1 rfl) ?_
      obtain ⟨hi_8, hf⟩ := os_if hf
      refine va_iald hx hb hK hP 20 0 rfl rfl hi_8 dX13_reportByte_40 ?_
      refine lv_goto (tgt := 45) hx hb dX13_reportByte_41 (by decide) ?_
      rw [← Option.some.inj hf]
      exact mc_reti hx hb hr hlk hP hK hD hS dX13_reportByte_45
  have hB28 : ∀ (o_this : os_T) (x1 : Int32) (H : Heap) (locs : List Loc) (ls : Array Slot), va_P D vwCl (ce_X13 kA q_this o_this) H → va_D A (ce_X13 kA q_this o_this) → va_S A s.heap H locs → lv_has ls 2 [(0, .ref (q_this 0)), (1, .int x1)] → ff_X13_reportByte_b28 N o_this x1 = some out → W p l e ({ frames := 2, cells := 0, slots := 0, locals := 41 } : Room) s m [.ref (q_this 0), .int a1].toArray below meth c H locs 0 0 (MQ below (mc_Q D kA A (some (.int out.1)) (ce_X13 kA q_this out.2)) [.ref (q_this 0), .int a1].toArray s 0 0 A) (F0 m 28 ls [.ref (q_this 0)]) := by
    intro o_this x1 H locs ls hP hD hS hl hf
    unfold ff_X13_reportByte_b28 at hf
    refine lv_iconst (v := 0) hx hb dX13_reportByte_28 (by decide) ?_
    exact hB29 o_this x1 (0 : Int32) _ _ _ hP hD hS (lv_sub hl [0, 1] rfl) hf
  unfold ff_X13_reportByte at hf
  refine lv_aload_n hx hb dX13_reportByte_0 rfl (lv_at hl 0 rfl) ?_
  refine lv_aload_n hx hb dX13_reportByte_1 rfl (lv_at hl 0 rfl) ?_
  refine va_get (D := D) (ci := 9) (v := .int (os_I o_this 44)) (C := RX13) (T := TX13) (N := 48) hx hb hUX13 (fun _ h9 => h9) hown hK hP 0 rfl rfl 44 (by decide) (hts (Cond.fieldLink RX13 485 "ReliefBuilderModel" "hasReport" "Z") (List.mem_of_getElem? (i := 1) rfl)) (fun _ h9 => h9) rfl dX13_reportByte_2 ?_
  refine lv_if_eq (tgt := 28) hx hb dX13_reportByte_5 (by decide) (fun hc_1 => ?_) (fun hc_1 => ?_)
  · rw [if_pos hc_1] at hf
    exact hB28 o_this a1 _ _ _ hP hD hS (lv_sub hl [0, 1] rfl) hf
  · rw [if_neg hc_1] at hf
    refine lv_iload_n hx hb dX13_reportByte_8 rfl (lv_at hl 1 rfl) ?_
    refine lv_i2l hx hb dX13_reportByte_9 rfl ?_
    refine lv_lconst (v := 0) hx hb dX13_reportByte_10 (by decide) ?_
    refine lv_aload_n hx hb dX13_reportByte_11 rfl (lv_at hl 0 rfl) ?_
    refine va_get (D := D) (ci := 9) (v := .int (os_I o_this 43)) (C := RX13) (T := TX13) (N := 48) hx hb hUX13 (fun _ h9 => h9) hown hK hP 0 rfl rfl 43 (by decide) (hts (Cond.fieldLink RX13 482 "ReliefBuilderModel" "reported" "I") (List.mem_of_getElem? (i := 2) rfl)) (fun _ h9 => h9) rfl dX13_reportByte_12 ?_
    refine lv_iconst (v := 1) hx hb dX13_reportByte_15 (by decide) ?_
    refine lv_isub hx hb dX13_reportByte_16 ?_
    refine lv_i2l hx hb dX13_reportByte_17 rfl ?_
    obtain ⟨u_2, he_3, hf⟩ := os_bd hf
    refine mc_callS ⟨hx, hb, hml, hown, hts⟩ (mm_X13_isIn l D kA N (Int32.toInt64 a1) (0 : Int64) (Int32.toInt64 ((os_I o_this 43) - (1 : Int32))) u_2 he_3) (va_cwS 3 hts gX13_reportByte_X13_isIn rfl rfl rfl (by decide +kernel) ⟨Nat.le_of_ble_eq_true rfl, Nat.le_of_ble_eq_true rfl⟩) (wc := []) rfl hl.1 (As := [.long (Int32.toInt64 a1), .long (0 : Int64), .long (Int32.toInt64 ((os_I o_this 43) - (1 : Int32)))]) (rest := [.ref (q_this 0)]) rfl (Nat.le_of_ble_eq_true rfl) dX13_reportByte_18 ⟨Nat.le_of_ble_eq_true rfl, Nat.le_of_ble_eq_true rfl⟩ hK hP hD hS hA [] [0, 1, 2, 3, 4, 5, 6, 7, 8, 9, 10, 11, 12, 13, 14, 15, 16, 17, 18, 19, 20, 21, 22, 23] [0, 1, 2, 3, 4, 5, 6, 7, 8, 9, 10, 11, 12, 13, 14, 15, 16, 17, 18, 19, 20, 21, 22, 23] rfl (by decide) rfl (by decide) (by decide) rfl (by decide) (wr := (ce_X13 kA q_this o_this)) (w2 := (ce_X13 kA q_this o_this)) (fun H locs hP hD hS => ?_)
    have hP : va_P D vwCl (ce_X13 kA q_this o_this) H := hP
    refine lv_if_eq (tgt := 28) hx hb dX13_reportByte_21 (by decide) (fun hc_4 => ?_) (fun hc_4 => ?_)
    · rw [if_pos hc_4] at hf
      exact hB28 o_this a1 _ _ _ hP hD hS (lv_sub hl [0, 1] rfl) hf
    · rw [if_neg hc_4] at hf
      refine lv_iconst (v := 1) hx hb dX13_reportByte_24 (by decide) ?_
      refine lv_goto (tgt := 29) hx hb dX13_reportByte_25 (by decide) ?_
      exact hB29 o_this a1 (1 : Int32) _ _ _ hP hD hS (lv_sub hl [0, 1] rfl) hf
def ff_X13_save_c18 (N : Nat) (k18 : (os_T × Int32 × Int32) → Option (Int32 × os_T)) (o_this : os_T) (x1 : Int32) (x2 : Int32) : Option (Int32 × os_T) :=
  (if (192 : Int32) ≤ x2 then (if os_in (0 : Int32) 7 then (if os_in ((4 : Int32) * x1) 8 then (if os_in (1 : Int32) 7 then (if os_in (((4 : Int32) * x1) + (1 : Int32)) 8 then (if os_in (2 : Int32) 7 then (if os_in (((4 : Int32) * x1) + (2 : Int32)) 8 then (if os_in (4 : Int32) 7 then (if os_in (((4 : Int32) * x1) + (3 : Int32)) 8 then (if os_in x1 2 then ((ff_X13_volumeNow N (ss_A (ss_A o_this 21 (upd (upd (upd (upd (os_A o_this 21) (Int32.toNatClampNeg ((4 : Int32) * x1)) ((os_A o_this 1) (Int32.toNatClampNeg (0 : Int32)))) (Int32.toNatClampNeg (((4 : Int32) * x1) + (1 : Int32))) ((os_A o_this 1) (Int32.toNatClampNeg (1 : Int32)))) (Int32.toNatClampNeg (((4 : Int32) * x1) + (2 : Int32))) ((os_A o_this 1) (Int32.toNatClampNeg (2 : Int32)))) (Int32.toNatClampNeg (((4 : Int32) * x1) + (3 : Int32))) ((os_A o_this 1) (Int32.toNatClampNeg (4 : Int32))))) 22 (upd (os_A o_this 22) (Int32.toNatClampNeg x1) (vp_nar .boolean (1 : Int32))))).bind fun u_16 => some (u_16, ss_A (ss_A o_this 21 (upd (upd (upd (upd (os_A o_this 21) (Int32.toNatClampNeg ((4 : Int32) * x1)) ((os_A o_this 1) (Int32.toNatClampNeg (0 : Int32)))) (Int32.toNatClampNeg (((4 : Int32) * x1) + (1 : Int32))) ((os_A o_this 1) (Int32.toNatClampNeg (1 : Int32)))) (Int32.toNatClampNeg (((4 : Int32) * x1) + (2 : Int32))) ((os_A o_this 1) (Int32.toNatClampNeg (2 : Int32)))) (Int32.toNatClampNeg (((4 : Int32) * x1) + (3 : Int32))) ((os_A o_this 1) (Int32.toNatClampNeg (4 : Int32))))) 22 (upd (os_A o_this 22) (Int32.toNatClampNeg x1) (vp_nar .boolean (1 : Int32))))) else none) else none) else none) else none) else none) else none) else none) else none) else none) else (if os_in x2 192 then (if os_in (((192 : Int32) * x1) + x2) 384 then k18 (ss_A o_this 20 (upd (os_A o_this 20) (Int32.toNatClampNeg (((192 : Int32) * x1) + x2)) ((os_A o_this 4) (Int32.toNatClampNeg x2))), x1, x2 + 1) else none) else none))
def ff_X13_save_l18 (N : Nat) : Nat → (os_T × Int32 × Int32) → Option (Int32 × os_T) := os_loop (fun k18 s1 => ff_X13_save_c18 N k18 s1.1 s1.2.1 s1.2.2)
def ff_X13_save (N : Nat) (o_this : os_T) (a1 : Int32) : Option (Int32 × os_T) :=
  ((ff_X13_isIn N (Int32.toInt64 a1) (0 : Int64) (1 : Int64)).bind fun u_1 => ((ff_X13_goes N o_this u_1).bind fun u_3 => (if u_3.1 = 0 then some ((0 : Int32), u_3.2) else ff_X13_save_l18 N N (u_3.2, a1, (0 : Int32)))))
set_option maxHeartbeats 4000000 in
set_option maxRecDepth 100000 in
theorem mm_X13_save (l : Launch) (D : va_G) (kA : Nat → ClassId) (N : Nat) (q_this : Nat → Nat) (o_this : os_T) (a1 : Int32) (out : (Int32 × os_T)) (hf : ff_X13_save N o_this a1 = some out) : mc_C l D kA yX13_save wsX13_save ({ frames := 2, cells := 0, slots := 0, locals := 43 } : Room) [.ref (q_this 0), .int a1] (ce_X13 kA q_this o_this) (some (.int out.1)) (ce_X13 kA q_this out.2) := by
  refine mc_of (cc := cX13_save) (maxL := 3) (ret := (some .int)) (by decide) rfl (Nat.le_of_ble_eq_true rfl) ?_
  intro p e s m below meth c A B hD hP hS ls hl
  obtain ⟨hx, hb, hr, hlk, hml, hown, hts, hK, hA, hnm⟩ := B
  have hown : s.vm.findClass RX13 = some m.cls := hown
  have hl : lv_has ls 3 [(0, .ref (q_this 0)), (1, .int a1)] := hl
  have hUX13 : ∀ w ∈ u_ws RX13 TX13 48, w.before [.ref (q_this 0), .int a1].toArray s = true := fun w h => hts w (List.mem_cons_of_mem _ (List.mem_append_right _ h))
  have hL18 : ∀ (n : Nat) (o_this : os_T) (x1 : Int32) (x2 : Int32) (H : Heap) (locs : List Loc) (ls : Array Slot), va_P D vwCl (ce_X13 kA q_this o_this) H → va_D A (ce_X13 kA q_this o_this) → va_S A s.heap H locs → lv_has ls 3 [(0, .ref (q_this 0)), (1, .int x1), (2, .int x2)] → ff_X13_save_l18 N n (o_this, x1, x2) = some out → W p l e ({ frames := 2, cells := 0, slots := 0, locals := 43 } : Room) s m [.ref (q_this 0), .int a1].toArray below meth c H locs 0 0 (MQ below (mc_Q D kA A (some (.int out.1)) (ce_X13 kA q_this out.2)) [.ref (q_this 0), .int a1].toArray s 0 0 A) (F0 m 18 ls []) := by
    intro n
    induction n with
    | zero => intro o_this x1 x2 H locs ls _ _ _ _ hf; cases hf
    | succ n hk18 =>
      intro o_this x1 x2 H locs ls hP hD hS hl hf
      have hf : ff_X13_save_c18 N (ff_X13_save_l18 N n) o_this x1 x2 = some out := hf
      generalize hke : ff_X13_save_l18 N n = k18 at hk18 hf
      unfold ff_X13_save_c18 at hf
      refine lv_iload_n hx hb dX13_save_18 rfl (lv_at hl 2 rfl) ?_
      refine lv_sipush (v := 192) hx hb dX13_save_19 (by decide) ?_
      refine lv_icmp_ge (tgt := 49) hx hb dX13_save_22 (by decide) (fun hc_6 => ?_) (fun hc_6 => ?_)
      · rw [if_pos hc_6] at hf
        refine lv_aload_n hx hb dX13_save_49 rfl (lv_at hl 0 rfl) ?_
        refine va_get (D := D) (ci := 9) (v := .ref (q_this 22)) (C := RX13) (T := TX13) (N := 48) hx hb hUX13 (fun _ h9 => h9) hown hK hP 0 rfl rfl 46 (by decide) (hts (Cond.fieldLink RX13 81 "ReliefBuilderModel" "savedBy" "[I") (List.mem_of_getElem? (i := 3) rfl)) (fun _ h9 => h9) rfl dX13_save_50 ?_
        refine lv_iconst (v := 4) hx hb dX13_save_53 (by decide) ?_
        refine lv_iload_n hx hb dX13_save_54 rfl (lv_at hl 1 rfl) ?_
        refine lv_imul hx hb dX13_save_55 ?_
        refine lv_aload_n hx hb dX13_save_56 rfl (lv_at hl 0 rfl) ?_
        refine va_get (D := D) (ci := 9) (v := .ref (q_this 2)) (C := RX13) (T := TX13) (N := 48) hx hb hUX13 (fun _ h9 => h9) hown hK hP 0 rfl rfl 13 (by decide) (hts (Cond.fieldLink RX13 20 "ReliefBuilderModel" "now" "[I") (List.mem_of_getElem? (i := 4) rfl)) (fun _ h9 => h9) rfl dX13_save_57 ?_
        refine lv_iconst (v := 0) hx hb dX13_save_60 (by decide) ?_
        obtain ⟨hi_7, hf⟩ := os_if hf
        refine va_iald hx hb hK hP 2 0 rfl rfl hi_7 dX13_save_61 ?_
        obtain ⟨hi_8, hf⟩ := os_if hf
        refine va_iast hx hb hK hP hD hS 22 0 rfl rfl hi_8 dX13_save_62 (fun H locs hP hD hS => ?_)
        have hP : va_P D vwCl (ce_X13 kA q_this (ss_A o_this 21 (upd (os_A o_this 21) (Int32.toNatClampNeg ((4 : Int32) * x1)) ((os_A o_this 1) (Int32.toNatClampNeg (0 : Int32)))))) H := hP
        have hD : va_D A (ce_X13 kA q_this (ss_A o_this 21 (upd (os_A o_this 21) (Int32.toNatClampNeg ((4 : Int32) * x1)) ((os_A o_this 1) (Int32.toNatClampNeg (0 : Int32)))))) := hD
        refine lv_aload_n hx hb dX13_save_63 rfl (lv_at hl 0 rfl) ?_
        refine va_get (D := D) (ci := 9) (v := .ref (q_this 22)) (C := RX13) (T := TX13) (N := 48) hx hb hUX13 (fun _ h9 => h9) hown hK hP 0 rfl rfl 46 (by decide) (hts (Cond.fieldLink RX13 81 "ReliefBuilderModel" "savedBy" "[I") (List.mem_of_getElem? (i := 3) rfl)) (fun _ h9 => h9) rfl dX13_save_64 ?_
        refine lv_iconst (v := 4) hx hb dX13_save_67 (by decide) ?_
        refine lv_iload_n hx hb dX13_save_68 rfl (lv_at hl 1 rfl) ?_
        refine lv_imul hx hb dX13_save_69 ?_
        refine lv_iconst (v := 1) hx hb dX13_save_70 (by decide) ?_
        refine lv_iadd hx hb dX13_save_71 ?_
        refine lv_aload_n hx hb dX13_save_72 rfl (lv_at hl 0 rfl) ?_
        refine va_get (D := D) (ci := 9) (v := .ref (q_this 2)) (C := RX13) (T := TX13) (N := 48) hx hb hUX13 (fun _ h9 => h9) hown hK hP 0 rfl rfl 13 (by decide) (hts (Cond.fieldLink RX13 20 "ReliefBuilderModel" "now" "[I") (List.mem_of_getElem? (i := 4) rfl)) (fun _ h9 => h9) rfl dX13_save_73 ?_
        refine lv_iconst (v := 1) hx hb dX13_save_76 (by decide) ?_
        obtain ⟨hi_9, hf⟩ := os_if hf
        refine va_iald hx hb hK hP 2 0 rfl rfl hi_9 dX13_save_77 ?_
        obtain ⟨hi_10, hf⟩ := os_if hf
        refine va_iast hx hb hK hP hD hS 22 0 rfl rfl hi_10 dX13_save_78 (fun H locs hP hD hS => ?_)
        have hE9 : ∀ (y0 : Nat → Int32) (z9 : Nat → Int32), ((ce_X13 kA q_this (ss_A o_this 21 y0)) : va_W).set 22 (q_this 22, .inl (kA 0, 8, .inl z9)) = (ce_X13 kA q_this (ss_A o_this 21 z9)) := fun _ _ => rfl
        have hP : va_P D vwCl (ce_X13 kA q_this (ss_A o_this 21 (upd (upd (os_A o_this 21) (Int32.toNatClampNeg ((4 : Int32) * x1)) ((os_A o_this 1) (Int32.toNatClampNeg (0 : Int32)))) (Int32.toNatClampNeg (((4 : Int32) * x1) + (1 : Int32))) ((os_A o_this 1) (Int32.toNatClampNeg (1 : Int32)))))) H := Eq.mp (congrArg (fun w9 => va_P D vwCl w9 H) (hE9 (upd (os_A o_this 21) (Int32.toNatClampNeg ((4 : Int32) * x1)) ((os_A o_this 1) (Int32.toNatClampNeg (0 : Int32)))) _)) hP
        have hD : va_D A (ce_X13 kA q_this (ss_A o_this 21 (upd (upd (os_A o_this 21) (Int32.toNatClampNeg ((4 : Int32) * x1)) ((os_A o_this 1) (Int32.toNatClampNeg (0 : Int32)))) (Int32.toNatClampNeg (((4 : Int32) * x1) + (1 : Int32))) ((os_A o_this 1) (Int32.toNatClampNeg (1 : Int32)))))) := Eq.mp (congrArg (fun w9 => va_D A w9) (hE9 (upd (os_A o_this 21) (Int32.toNatClampNeg ((4 : Int32) * x1)) ((os_A o_this 1) (Int32.toNatClampNeg (0 : Int32)))) _)) hD
        refine lv_aload_n hx hb dX13_save_79 rfl (lv_at hl 0 rfl) ?_
        refine va_get (D := D) (ci := 9) (v := .ref (q_this 22)) (C := RX13) (T := TX13) (N := 48) hx hb hUX13 (fun _ h9 => h9) hown hK hP 0 rfl rfl 46 (by decide) (hts (Cond.fieldLink RX13 81 "ReliefBuilderModel" "savedBy" "[I") (List.mem_of_getElem? (i := 3) rfl)) (fun _ h9 => h9) rfl dX13_save_80 ?_
        refine lv_iconst (v := 4) hx hb dX13_save_83 (by decide) ?_
        refine lv_iload_n hx hb dX13_save_84 rfl (lv_at hl 1 rfl) ?_
        refine lv_imul hx hb dX13_save_85 ?_
        refine lv_iconst (v := 2) hx hb dX13_save_86 (by decide) ?_
        refine lv_iadd hx hb dX13_save_87 ?_
        refine lv_aload_n hx hb dX13_save_88 rfl (lv_at hl 0 rfl) ?_
        refine va_get (D := D) (ci := 9) (v := .ref (q_this 2)) (C := RX13) (T := TX13) (N := 48) hx hb hUX13 (fun _ h9 => h9) hown hK hP 0 rfl rfl 13 (by decide) (hts (Cond.fieldLink RX13 20 "ReliefBuilderModel" "now" "[I") (List.mem_of_getElem? (i := 4) rfl)) (fun _ h9 => h9) rfl dX13_save_89 ?_
        refine lv_iconst (v := 2) hx hb dX13_save_92 (by decide) ?_
        obtain ⟨hi_11, hf⟩ := os_if hf
        refine va_iald hx hb hK hP 2 0 rfl rfl hi_11 dX13_save_93 ?_
        obtain ⟨hi_12, hf⟩ := os_if hf
        refine va_iast hx hb hK hP hD hS 22 0 rfl rfl hi_12 dX13_save_94 (fun H locs hP hD hS => ?_)
        have hE9 : ∀ (y0 : Nat → Int32) (z9 : Nat → Int32), ((ce_X13 kA q_this (ss_A o_this 21 y0)) : va_W).set 22 (q_this 22, .inl (kA 0, 8, .inl z9)) = (ce_X13 kA q_this (ss_A o_this 21 z9)) := fun _ _ => rfl
        have hP : va_P D vwCl (ce_X13 kA q_this (ss_A o_this 21 (upd (upd (upd (os_A o_this 21) (Int32.toNatClampNeg ((4 : Int32) * x1)) ((os_A o_this 1) (Int32.toNatClampNeg (0 : Int32)))) (Int32.toNatClampNeg (((4 : Int32) * x1) + (1 : Int32))) ((os_A o_this 1) (Int32.toNatClampNeg (1 : Int32)))) (Int32.toNatClampNeg (((4 : Int32) * x1) + (2 : Int32))) ((os_A o_this 1) (Int32.toNatClampNeg (2 : Int32)))))) H := Eq.mp (congrArg (fun w9 => va_P D vwCl w9 H) (hE9 (upd (upd (os_A o_this 21) (Int32.toNatClampNeg ((4 : Int32) * x1)) ((os_A o_this 1) (Int32.toNatClampNeg (0 : Int32)))) (Int32.toNatClampNeg (((4 : Int32) * x1) + (1 : Int32))) ((os_A o_this 1) (Int32.toNatClampNeg (1 : Int32)))) _)) hP
        have hD : va_D A (ce_X13 kA q_this (ss_A o_this 21 (upd (upd (upd (os_A o_this 21) (Int32.toNatClampNeg ((4 : Int32) * x1)) ((os_A o_this 1) (Int32.toNatClampNeg (0 : Int32)))) (Int32.toNatClampNeg (((4 : Int32) * x1) + (1 : Int32))) ((os_A o_this 1) (Int32.toNatClampNeg (1 : Int32)))) (Int32.toNatClampNeg (((4 : Int32) * x1) + (2 : Int32))) ((os_A o_this 1) (Int32.toNatClampNeg (2 : Int32)))))) := Eq.mp (congrArg (fun w9 => va_D A w9) (hE9 (upd (upd (os_A o_this 21) (Int32.toNatClampNeg ((4 : Int32) * x1)) ((os_A o_this 1) (Int32.toNatClampNeg (0 : Int32)))) (Int32.toNatClampNeg (((4 : Int32) * x1) + (1 : Int32))) ((os_A o_this 1) (Int32.toNatClampNeg (1 : Int32)))) _)) hD
        refine lv_aload_n hx hb dX13_save_95 rfl (lv_at hl 0 rfl) ?_
        refine va_get (D := D) (ci := 9) (v := .ref (q_this 22)) (C := RX13) (T := TX13) (N := 48) hx hb hUX13 (fun _ h9 => h9) hown hK hP 0 rfl rfl 46 (by decide) (hts (Cond.fieldLink RX13 81 "ReliefBuilderModel" "savedBy" "[I") (List.mem_of_getElem? (i := 3) rfl)) (fun _ h9 => h9) rfl dX13_save_96 ?_
        refine lv_iconst (v := 4) hx hb dX13_save_99 (by decide) ?_
        refine lv_iload_n hx hb dX13_save_100 rfl (lv_at hl 1 rfl) ?_
        refine lv_imul hx hb dX13_save_101 ?_
        refine lv_iconst (v := 3) hx hb dX13_save_102 (by decide) ?_
        refine lv_iadd hx hb dX13_save_103 ?_
        refine lv_aload_n hx hb dX13_save_104 rfl (lv_at hl 0 rfl) ?_
        refine va_get (D := D) (ci := 9) (v := .ref (q_this 2)) (C := RX13) (T := TX13) (N := 48) hx hb hUX13 (fun _ h9 => h9) hown hK hP 0 rfl rfl 13 (by decide) (hts (Cond.fieldLink RX13 20 "ReliefBuilderModel" "now" "[I") (List.mem_of_getElem? (i := 4) rfl)) (fun _ h9 => h9) rfl dX13_save_105 ?_
        refine lv_iconst (v := 4) hx hb dX13_save_108 (by decide) ?_
        obtain ⟨hi_13, hf⟩ := os_if hf
        refine va_iald hx hb hK hP 2 0 rfl rfl hi_13 dX13_save_109 ?_
        obtain ⟨hi_14, hf⟩ := os_if hf
        refine va_iast hx hb hK hP hD hS 22 0 rfl rfl hi_14 dX13_save_110 (fun H locs hP hD hS => ?_)
        have hE9 : ∀ (y0 : Nat → Int32) (z9 : Nat → Int32), ((ce_X13 kA q_this (ss_A o_this 21 y0)) : va_W).set 22 (q_this 22, .inl (kA 0, 8, .inl z9)) = (ce_X13 kA q_this (ss_A o_this 21 z9)) := fun _ _ => rfl
        have hP : va_P D vwCl (ce_X13 kA q_this (ss_A o_this 21 (upd (upd (upd (upd (os_A o_this 21) (Int32.toNatClampNeg ((4 : Int32) * x1)) ((os_A o_this 1) (Int32.toNatClampNeg (0 : Int32)))) (Int32.toNatClampNeg (((4 : Int32) * x1) + (1 : Int32))) ((os_A o_this 1) (Int32.toNatClampNeg (1 : Int32)))) (Int32.toNatClampNeg (((4 : Int32) * x1) + (2 : Int32))) ((os_A o_this 1) (Int32.toNatClampNeg (2 : Int32)))) (Int32.toNatClampNeg (((4 : Int32) * x1) + (3 : Int32))) ((os_A o_this 1) (Int32.toNatClampNeg (4 : Int32)))))) H := Eq.mp (congrArg (fun w9 => va_P D vwCl w9 H) (hE9 (upd (upd (upd (os_A o_this 21) (Int32.toNatClampNeg ((4 : Int32) * x1)) ((os_A o_this 1) (Int32.toNatClampNeg (0 : Int32)))) (Int32.toNatClampNeg (((4 : Int32) * x1) + (1 : Int32))) ((os_A o_this 1) (Int32.toNatClampNeg (1 : Int32)))) (Int32.toNatClampNeg (((4 : Int32) * x1) + (2 : Int32))) ((os_A o_this 1) (Int32.toNatClampNeg (2 : Int32)))) _)) hP
        have hD : va_D A (ce_X13 kA q_this (ss_A o_this 21 (upd (upd (upd (upd (os_A o_this 21) (Int32.toNatClampNeg ((4 : Int32) * x1)) ((os_A o_this 1) (Int32.toNatClampNeg (0 : Int32)))) (Int32.toNatClampNeg (((4 : Int32) * x1) + (1 : Int32))) ((os_A o_this 1) (Int32.toNatClampNeg (1 : Int32)))) (Int32.toNatClampNeg (((4 : Int32) * x1) + (2 : Int32))) ((os_A o_this 1) (Int32.toNatClampNeg (2 : Int32)))) (Int32.toNatClampNeg (((4 : Int32) * x1) + (3 : Int32))) ((os_A o_this 1) (Int32.toNatClampNeg (4 : Int32)))))) := Eq.mp (congrArg (fun w9 => va_D A w9) (hE9 (upd (upd (upd (os_A o_this 21) (Int32.toNatClampNeg ((4 : Int32) * x1)) ((os_A o_this 1) (Int32.toNatClampNeg (0 : Int32)))) (Int32.toNatClampNeg (((4 : Int32) * x1) + (1 : Int32))) ((os_A o_this 1) (Int32.toNatClampNeg (1 : Int32)))) (Int32.toNatClampNeg (((4 : Int32) * x1) + (2 : Int32))) ((os_A o_this 1) (Int32.toNatClampNeg (2 : Int32)))) _)) hD
        refine lv_aload_n hx hb dX13_save_111 rfl (lv_at hl 0 rfl) ?_
        refine va_get (D := D) (ci := 9) (v := .ref (q_this 23)) (C := RX13) (T := TX13) (N := 48) hx hb hUX13 (fun _ h9 => h9) hown hK hP 0 rfl rfl 47 (by decide) (hts (Cond.fieldLink RX13 84 "ReliefBuilderModel" "isSaved" "[Z") (List.mem_of_getElem? (i := 5) rfl)) (fun _ h9 => h9) rfl dX13_save_112 ?_
        refine lv_iload_n hx hb dX13_save_115 rfl (lv_at hl 1 rfl) ?_
        refine lv_iconst (v := 1) hx hb dX13_save_116 (by decide) ?_
        obtain ⟨hi_15, hf⟩ := os_if hf
        refine va_zast hx hb hK hP hD hS 23 1 rfl rfl hi_15 dX13_save_117 (fun H locs hP hD hS => ?_)
        have hE9 : ∀ (y0 : Nat → Int32) (z9 : Nat → Int32), ((ce_X13 kA q_this (ss_A o_this 21 y0)) : va_W).set 23 (q_this 23, .inl (kA 1, 2, .inl z9)) = (ce_X13 kA q_this (ss_A (ss_A o_this 21 y0) 22 z9)) := fun _ _ => rfl
        have hP : va_P D vwCl (ce_X13 kA q_this (ss_A (ss_A o_this 21 (upd (upd (upd (upd (os_A o_this 21) (Int32.toNatClampNeg ((4 : Int32) * x1)) ((os_A o_this 1) (Int32.toNatClampNeg (0 : Int32)))) (Int32.toNatClampNeg (((4 : Int32) * x1) + (1 : Int32))) ((os_A o_this 1) (Int32.toNatClampNeg (1 : Int32)))) (Int32.toNatClampNeg (((4 : Int32) * x1) + (2 : Int32))) ((os_A o_this 1) (Int32.toNatClampNeg (2 : Int32)))) (Int32.toNatClampNeg (((4 : Int32) * x1) + (3 : Int32))) ((os_A o_this 1) (Int32.toNatClampNeg (4 : Int32))))) 22 (upd (os_A o_this 22) (Int32.toNatClampNeg x1) (vp_nar .boolean (1 : Int32))))) H := Eq.mp (congrArg (fun w9 => va_P D vwCl w9 H) (hE9 (upd (upd (upd (upd (os_A o_this 21) (Int32.toNatClampNeg ((4 : Int32) * x1)) ((os_A o_this 1) (Int32.toNatClampNeg (0 : Int32)))) (Int32.toNatClampNeg (((4 : Int32) * x1) + (1 : Int32))) ((os_A o_this 1) (Int32.toNatClampNeg (1 : Int32)))) (Int32.toNatClampNeg (((4 : Int32) * x1) + (2 : Int32))) ((os_A o_this 1) (Int32.toNatClampNeg (2 : Int32)))) (Int32.toNatClampNeg (((4 : Int32) * x1) + (3 : Int32))) ((os_A o_this 1) (Int32.toNatClampNeg (4 : Int32)))) _)) hP
        have hD : va_D A (ce_X13 kA q_this (ss_A (ss_A o_this 21 (upd (upd (upd (upd (os_A o_this 21) (Int32.toNatClampNeg ((4 : Int32) * x1)) ((os_A o_this 1) (Int32.toNatClampNeg (0 : Int32)))) (Int32.toNatClampNeg (((4 : Int32) * x1) + (1 : Int32))) ((os_A o_this 1) (Int32.toNatClampNeg (1 : Int32)))) (Int32.toNatClampNeg (((4 : Int32) * x1) + (2 : Int32))) ((os_A o_this 1) (Int32.toNatClampNeg (2 : Int32)))) (Int32.toNatClampNeg (((4 : Int32) * x1) + (3 : Int32))) ((os_A o_this 1) (Int32.toNatClampNeg (4 : Int32))))) 22 (upd (os_A o_this 22) (Int32.toNatClampNeg x1) (vp_nar .boolean (1 : Int32))))) := Eq.mp (congrArg (fun w9 => va_D A w9) (hE9 (upd (upd (upd (upd (os_A o_this 21) (Int32.toNatClampNeg ((4 : Int32) * x1)) ((os_A o_this 1) (Int32.toNatClampNeg (0 : Int32)))) (Int32.toNatClampNeg (((4 : Int32) * x1) + (1 : Int32))) ((os_A o_this 1) (Int32.toNatClampNeg (1 : Int32)))) (Int32.toNatClampNeg (((4 : Int32) * x1) + (2 : Int32))) ((os_A o_this 1) (Int32.toNatClampNeg (2 : Int32)))) (Int32.toNatClampNeg (((4 : Int32) * x1) + (3 : Int32))) ((os_A o_this 1) (Int32.toNatClampNeg (4 : Int32)))) _)) hD
        refine lv_aload_n hx hb dX13_save_118 rfl (lv_at hl 0 rfl) ?_
        obtain ⟨u_16, he_17, hf⟩ := os_bd hf
        refine mc_callV ⟨hx, hb, hml, hown, hts⟩ (mm_X13_volumeNow l D kA N q_this (ss_A (ss_A o_this 21 (upd (upd (upd (upd (os_A o_this 21) (Int32.toNatClampNeg ((4 : Int32) * x1)) ((os_A o_this 1) (Int32.toNatClampNeg (0 : Int32)))) (Int32.toNatClampNeg (((4 : Int32) * x1) + (1 : Int32))) ((os_A o_this 1) (Int32.toNatClampNeg (1 : Int32)))) (Int32.toNatClampNeg (((4 : Int32) * x1) + (2 : Int32))) ((os_A o_this 1) (Int32.toNatClampNeg (2 : Int32)))) (Int32.toNatClampNeg (((4 : Int32) * x1) + (3 : Int32))) ((os_A o_this 1) (Int32.toNatClampNeg (4 : Int32))))) 22 (upd (os_A o_this 22) (Int32.toNatClampNeg x1) (vp_nar .boolean (1 : Int32)))) u_16 he_17) (cwV 0 hts gX13_save_X13_volumeNow rfl rfl rfl (by decide +kernel) ⟨Nat.le_of_ble_eq_true rfl, Nat.le_of_ble_eq_true rfl⟩) (wc := (ce_X13 kA q_this (ss_A (ss_A o_this 21 (upd (upd (upd (upd (os_A o_this 21) (Int32.toNatClampNeg ((4 : Int32) * x1)) ((os_A o_this 1) (Int32.toNatClampNeg (0 : Int32)))) (Int32.toNatClampNeg (((4 : Int32) * x1) + (1 : Int32))) ((os_A o_this 1) (Int32.toNatClampNeg (1 : Int32)))) (Int32.toNatClampNeg (((4 : Int32) * x1) + (2 : Int32))) ((os_A o_this 1) (Int32.toNatClampNeg (2 : Int32)))) (Int32.toNatClampNeg (((4 : Int32) * x1) + (3 : Int32))) ((os_A o_this 1) (Int32.toNatClampNeg (4 : Int32))))) 22 (upd (os_A o_this 22) (Int32.toNatClampNeg x1) (vp_nar .boolean (1 : Int32)))))) (ci := 9) (q0 := 0) rfl rfl rfl hl.1 (As := []) (rest := []) rfl (Nat.le_of_ble_eq_true rfl) dX13_save_119 ⟨Nat.le_of_ble_eq_true rfl, Nat.le_of_ble_eq_true rfl⟩ hK hP hD hS hA [0, 1, 2, 3, 4, 5, 6, 7, 8, 9, 10, 11, 12, 13, 14, 15, 16, 17, 18, 19, 20, 21, 22, 23] [] [0, 1, 2, 3, 4, 5, 6, 7, 8, 9, 10, 11, 12, 13, 14, 15, 16, 17, 18, 19, 20, 21, 22, 23] rfl (by decide) rfl (by decide) (by decide) rfl (by decide) (wr := []) (w2 := (ce_X13 kA q_this (ss_A (ss_A o_this 21 (upd (upd (upd (upd (os_A o_this 21) (Int32.toNatClampNeg ((4 : Int32) * x1)) ((os_A o_this 1) (Int32.toNatClampNeg (0 : Int32)))) (Int32.toNatClampNeg (((4 : Int32) * x1) + (1 : Int32))) ((os_A o_this 1) (Int32.toNatClampNeg (1 : Int32)))) (Int32.toNatClampNeg (((4 : Int32) * x1) + (2 : Int32))) ((os_A o_this 1) (Int32.toNatClampNeg (2 : Int32)))) (Int32.toNatClampNeg (((4 : Int32) * x1) + (3 : Int32))) ((os_A o_this 1) (Int32.toNatClampNeg (4 : Int32))))) 22 (upd (os_A o_this 22) (Int32.toNatClampNeg x1) (vp_nar .boolean (1 : Int32)))))) (fun H locs hP hD hS => ?_)
        have hP : va_P D vwCl (ce_X13 kA q_this (ss_A (ss_A o_this 21 (upd (upd (upd (upd (os_A o_this 21) (Int32.toNatClampNeg ((4 : Int32) * x1)) ((os_A o_this 1) (Int32.toNatClampNeg (0 : Int32)))) (Int32.toNatClampNeg (((4 : Int32) * x1) + (1 : Int32))) ((os_A o_this 1) (Int32.toNatClampNeg (1 : Int32)))) (Int32.toNatClampNeg (((4 : Int32) * x1) + (2 : Int32))) ((os_A o_this 1) (Int32.toNatClampNeg (2 : Int32)))) (Int32.toNatClampNeg (((4 : Int32) * x1) + (3 : Int32))) ((os_A o_this 1) (Int32.toNatClampNeg (4 : Int32))))) 22 (upd (os_A o_this 22) (Int32.toNatClampNeg x1) (vp_nar .boolean (1 : Int32))))) H := hP
        rw [← Option.some.inj hf]
        exact mc_reti hx hb hr hlk hP hK hD hS dX13_save_122
      · rw [if_neg hc_6] at hf
        refine lv_aload_n hx hb dX13_save_25 rfl (lv_at hl 0 rfl) ?_
        refine va_get (D := D) (ci := 9) (v := .ref (q_this 21)) (C := RX13) (T := TX13) (N := 48) hx hb hUX13 (fun _ h9 => h9) hown hK hP 0 rfl rfl 45 (by decide) (hts (Cond.fieldLink RX13 78 "ReliefBuilderModel" "saved" "[I") (List.mem_of_getElem? (i := 1) rfl)) (fun _ h9 => h9) rfl dX13_save_26 ?_
        refine lv_sipush (v := 192) hx hb dX13_save_29 (by decide) ?_
        refine lv_iload_n hx hb dX13_save_32 rfl (lv_at hl 1 rfl) ?_
        refine lv_imul hx hb dX13_save_33 ?_
        refine lv_iload_n hx hb dX13_save_34 rfl (lv_at hl 2 rfl) ?_
        refine lv_iadd hx hb dX13_save_35 ?_
        refine lv_aload_n hx hb dX13_save_36 rfl (lv_at hl 0 rfl) ?_
        refine va_get (D := D) (ci := 9) (v := .ref (q_this 5)) (C := RX13) (T := TX13) (N := 48) hx hb hUX13 (fun _ h9 => h9) hown hK hP 0 rfl rfl 16 (by decide) (hts (Cond.fieldLink RX13 29 "ReliefBuilderModel" "heights" "[I") (List.mem_of_getElem? (i := 2) rfl)) (fun _ h9 => h9) rfl dX13_save_37 ?_
        refine lv_iload_n hx hb dX13_save_40 rfl (lv_at hl 2 rfl) ?_
        obtain ⟨hi_18, hf⟩ := os_if hf
        refine va_iald hx hb hK hP 5 0 rfl rfl hi_18 dX13_save_41 ?_
        obtain ⟨hi_19, hf⟩ := os_if hf
        refine va_iast hx hb hK hP hD hS 21 0 rfl rfl hi_19 dX13_save_42 (fun H locs hP hD hS => ?_)
        have hP : va_P D vwCl (ce_X13 kA q_this (ss_A o_this 20 (upd (os_A o_this 20) (Int32.toNatClampNeg (((192 : Int32) * x1) + x2)) ((os_A o_this 4) (Int32.toNatClampNeg x2))))) H := hP
        have hD : va_D A (ce_X13 kA q_this (ss_A o_this 20 (upd (os_A o_this 20) (Int32.toNatClampNeg (((192 : Int32) * x1) + x2)) ((os_A o_this 4) (Int32.toNatClampNeg x2))))) := hD
        refine lv_iinc (v := x2 + 1) (lv' := [(2, .int (x2 + 1)), (0, .ref (q_this 0)), (1, .int x1)]) hx hb dX13_save_43 hl (k := 2) rfl rfl (by decide) rfl (fun ls hl => ?_)
        refine lv_goto (tgt := 18) hx hb dX13_save_46 (by decide) ?_
        exact hk18 (ss_A o_this 20 (upd (os_A o_this 20) (Int32.toNatClampNeg (((192 : Int32) * x1) + x2)) ((os_A o_this 4) (Int32.toNatClampNeg x2)))) x1 (x2 + 1) _ _ _ hP hD hS (lv_sub hl [1, 2, 0] rfl) hf
  unfold ff_X13_save at hf
  refine lv_aload_n hx hb dX13_save_0 rfl (lv_at hl 0 rfl) ?_
  refine lv_iload_n hx hb dX13_save_1 rfl (lv_at hl 1 rfl) ?_
  refine lv_i2l hx hb dX13_save_2 rfl ?_
  refine lv_lconst (v := 0) hx hb dX13_save_3 (by decide) ?_
  refine lv_lconst (v := 1) hx hb dX13_save_4 (by decide) ?_
  obtain ⟨u_1, he_2, hf⟩ := os_bd hf
  refine mc_callS ⟨hx, hb, hml, hown, hts⟩ (mm_X13_isIn l D kA N (Int32.toInt64 a1) (0 : Int64) (1 : Int64) u_1 he_2) (va_cwS 3 hts gX13_save_X13_isIn rfl rfl rfl (by decide +kernel) ⟨Nat.le_of_ble_eq_true rfl, Nat.le_of_ble_eq_true rfl⟩) (wc := []) rfl hl.1 (As := [.long (Int32.toInt64 a1), .long (0 : Int64), .long (1 : Int64)]) (rest := [.ref (q_this 0)]) rfl (Nat.le_of_ble_eq_true rfl) dX13_save_5 ⟨Nat.le_of_ble_eq_true rfl, Nat.le_of_ble_eq_true rfl⟩ hK hP hD hS hA [] [0, 1, 2, 3, 4, 5, 6, 7, 8, 9, 10, 11, 12, 13, 14, 15, 16, 17, 18, 19, 20, 21, 22, 23] [0, 1, 2, 3, 4, 5, 6, 7, 8, 9, 10, 11, 12, 13, 14, 15, 16, 17, 18, 19, 20, 21, 22, 23] rfl (by decide) rfl (by decide) (by decide) rfl (by decide) (wr := (ce_X13 kA q_this o_this)) (w2 := (ce_X13 kA q_this o_this)) (fun H locs hP hD hS => ?_)
  have hP : va_P D vwCl (ce_X13 kA q_this o_this) H := hP
  obtain ⟨u_3, he_4, hf⟩ := os_bd hf
  refine mc_callV ⟨hx, hb, hml, hown, hts⟩ (mm_X13_goes l D kA N q_this o_this u_1 u_3 he_4) (cwV 1 hts gX13_save_X13_goes rfl rfl rfl (by decide +kernel) ⟨Nat.le_of_ble_eq_true rfl, Nat.le_of_ble_eq_true rfl⟩) (wc := (ce_X13 kA q_this o_this)) (ci := 9) (q0 := 0) rfl rfl rfl hl.1 (As := [.int u_1]) (rest := []) rfl (Nat.le_of_ble_eq_true rfl) dX13_save_8 ⟨Nat.le_of_ble_eq_true rfl, Nat.le_of_ble_eq_true rfl⟩ hK hP hD hS hA [0, 1, 2, 3, 4, 5, 6, 7, 8, 9, 10, 11, 12, 13, 14, 15, 16, 17, 18, 19, 20, 21, 22, 23] [] [0, 1, 2, 3, 4, 5, 6, 7, 8, 9, 10, 11, 12, 13, 14, 15, 16, 17, 18, 19, 20, 21, 22, 23] rfl (by decide) rfl (by decide) (by decide) rfl (by decide) (wr := []) (w2 := (ce_X13 kA q_this u_3.2)) (fun H locs hP hD hS => ?_)
  have hP : va_P D vwCl (ce_X13 kA q_this u_3.2) H := hP
  refine lv_if_ne (tgt := 16) hx hb dX13_save_11 (by decide) (fun hc_5 => ?_) (fun hc_5 => ?_)
  · rw [if_neg hc_5] at hf
    refine lv_iconst (v := 0) hx hb dX13_save_16 (by decide) ?_
    refine lv_istore_n (lv' := [(2, .int (0 : Int32)), (0, .ref (q_this 0)), (1, .int a1)]) hx hb dX13_save_17 rfl hl (by decide) rfl (fun ls hl => ?_)
    exact hL18 N u_3.2 a1 (0 : Int32) _ _ _ hP hD hS (lv_sub hl [1, 2, 0] rfl) hf
  · rw [if_pos hc_5] at hf
    refine lv_iconst (v := 0) hx hb dX13_save_14 (by decide) ?_
    rw [← Option.some.inj hf]
    exact mc_reti hx hb hr hlk hP hK hD hS dX13_save_15
def ff_X13_canRestore (N : Nat) (o_this : os_T) (a1 : Int32) : Option Int32 :=
  (if os_in a1 2 then (if ((os_A o_this 22) (Int32.toNatClampNeg a1)) = 0 then some (0 : Int32) else (if os_in ((4 : Int32) * a1) 8 then (if os_in (0 : Int32) 7 then (if ((os_A o_this 21) (Int32.toNatClampNeg ((4 : Int32) * a1))) = ((os_A o_this 1) (Int32.toNatClampNeg (0 : Int32))) then (if os_in (((4 : Int32) * a1) + (1 : Int32)) 8 then (if os_in (1 : Int32) 7 then (if ((os_A o_this 21) (Int32.toNatClampNeg (((4 : Int32) * a1) + (1 : Int32)))) = ((os_A o_this 1) (Int32.toNatClampNeg (1 : Int32))) then (if os_in (((4 : Int32) * a1) + (2 : Int32)) 8 then (if os_in (2 : Int32) 7 then (if ((os_A o_this 21) (Int32.toNatClampNeg (((4 : Int32) * a1) + (2 : Int32)))) = ((os_A o_this 1) (Int32.toNatClampNeg (2 : Int32))) then (if os_in (((4 : Int32) * a1) + (3 : Int32)) 8 then (if os_in (4 : Int32) 7 then (if ((os_A o_this 21) (Int32.toNatClampNeg (((4 : Int32) * a1) + (3 : Int32)))) = ((os_A o_this 1) (Int32.toNatClampNeg (4 : Int32))) then some (1 : Int32) else some (0 : Int32)) else none) else none) else some (0 : Int32)) else none) else none) else some (0 : Int32)) else none) else none) else some (0 : Int32)) else none) else none)) else none)
set_option maxHeartbeats 4000000 in
set_option maxRecDepth 100000 in
theorem mm_X13_canRestore (l : Launch) (D : va_G) (kA : Nat → ClassId) (N : Nat) (q_this : Nat → Nat) (o_this : os_T) (a1 : Int32) (out : Int32) (hf : ff_X13_canRestore N o_this a1 = some out) : mc_C l D kA yX13_canRestore wsX13_canRestore ({ frames := 0, cells := 0, slots := 0, locals := 0 } : Room) [.ref (q_this 0), .int a1] (ce_X13 kA q_this o_this) (some (.int out)) (ce_X13 kA q_this o_this) := by
  refine mc_of (cc := cX13_canRestore) (maxL := 2) (ret := (some .boolean)) (by decide) rfl (Nat.le_of_ble_eq_true rfl) ?_
  intro p e s m below meth c A B hD hP hS ls hl
  obtain ⟨hx, hb, hr, hlk, hml, hown, hts, hK, hA, hnm⟩ := B
  have hown : s.vm.findClass RX13 = some m.cls := hown
  have hl : lv_has ls 2 [(0, .ref (q_this 0)), (1, .int a1)] := hl
  have hUX13 : ∀ w ∈ u_ws RX13 TX13 48, w.before [.ref (q_this 0), .int a1].toArray s = true := fun w h => hts w (List.mem_cons_of_mem _ (List.mem_append_right _ h))
  unfold ff_X13_canRestore at hf
  refine lv_aload_n hx hb dX13_canRestore_0 rfl (lv_at hl 0 rfl) ?_
  refine va_get (D := D) (ci := 9) (v := .ref (q_this 23)) (C := RX13) (T := TX13) (N := 48) hx hb hUX13 (fun _ h9 => h9) hown hK hP 0 rfl rfl 47 (by decide) (hts (Cond.fieldLink RX13 84 "ReliefBuilderModel" "isSaved" "[Z") (List.mem_of_getElem? (i := 1) rfl)) (fun _ h9 => h9) rfl dX13_canRestore_1 ?_
  refine lv_iload_n hx hb dX13_canRestore_4 rfl (lv_at hl 1 rfl) ?_
  obtain ⟨hi_1, hf⟩ := os_if hf
  refine va_zald hx hb hK hP 23 1 rfl rfl hi_1 dX13_canRestore_5 ?_
  refine lv_if_eq (tgt := 87) hx hb dX13_canRestore_6 (by decide) (fun hc_2 => ?_) (fun hc_2 => ?_)
  · rw [if_pos hc_2] at hf
    refine lv_iconst (v := 0) hx hb dX13_canRestore_87 (by decide) ?_
    rw [← Option.some.inj hf]
    exact mc_retz (v := 0) hx hb hr rfl hlk hP hK hD hS dX13_canRestore_88
  · rw [if_neg hc_2] at hf
    refine lv_aload_n hx hb dX13_canRestore_9 rfl (lv_at hl 0 rfl) ?_
    refine va_get (D := D) (ci := 9) (v := .ref (q_this 22)) (C := RX13) (T := TX13) (N := 48) hx hb hUX13 (fun _ h9 => h9) hown hK hP 0 rfl rfl 46 (by decide) (hts (Cond.fieldLink RX13 81 "ReliefBuilderModel" "savedBy" "[I") (List.mem_of_getElem? (i := 2) rfl)) (fun _ h9 => h9) rfl dX13_canRestore_10 ?_
    refine lv_iconst (v := 4) hx hb dX13_canRestore_13 (by decide) ?_
    refine lv_iload_n hx hb dX13_canRestore_14 rfl (lv_at hl 1 rfl) ?_
    refine lv_imul hx hb dX13_canRestore_15 ?_
    obtain ⟨hi_3, hf⟩ := os_if hf
    refine va_iald hx hb hK hP 22 0 rfl rfl hi_3 dX13_canRestore_16 ?_
    refine lv_aload_n hx hb dX13_canRestore_17 rfl (lv_at hl 0 rfl) ?_
    refine va_get (D := D) (ci := 9) (v := .ref (q_this 2)) (C := RX13) (T := TX13) (N := 48) hx hb hUX13 (fun _ h9 => h9) hown hK hP 0 rfl rfl 13 (by decide) (hts (Cond.fieldLink RX13 20 "ReliefBuilderModel" "now" "[I") (List.mem_of_getElem? (i := 3) rfl)) (fun _ h9 => h9) rfl dX13_canRestore_18 ?_
    refine lv_iconst (v := 0) hx hb dX13_canRestore_21 (by decide) ?_
    obtain ⟨hi_4, hf⟩ := os_if hf
    refine va_iald hx hb hK hP 2 0 rfl rfl hi_4 dX13_canRestore_22 ?_
    refine lv_icmp_ne (tgt := 87) hx hb dX13_canRestore_23 (by decide) (fun hc_5 => ?_) (fun hc_5 => ?_)
    · rw [if_neg hc_5] at hf
      refine lv_iconst (v := 0) hx hb dX13_canRestore_87 (by decide) ?_
      rw [← Option.some.inj hf]
      exact mc_retz (v := 0) hx hb hr rfl hlk hP hK hD hS dX13_canRestore_88
    · rw [if_pos hc_5] at hf
      refine lv_aload_n hx hb dX13_canRestore_26 rfl (lv_at hl 0 rfl) ?_
      refine va_get (D := D) (ci := 9) (v := .ref (q_this 22)) (C := RX13) (T := TX13) (N := 48) hx hb hUX13 (fun _ h9 => h9) hown hK hP 0 rfl rfl 46 (by decide) (hts (Cond.fieldLink RX13 81 "ReliefBuilderModel" "savedBy" "[I") (List.mem_of_getElem? (i := 2) rfl)) (fun _ h9 => h9) rfl dX13_canRestore_27 ?_
      refine lv_iconst (v := 4) hx hb dX13_canRestore_30 (by decide) ?_
      refine lv_iload_n hx hb dX13_canRestore_31 rfl (lv_at hl 1 rfl) ?_
      refine lv_imul hx hb dX13_canRestore_32 ?_
      refine lv_iconst (v := 1) hx hb dX13_canRestore_33 (by decide) ?_
      refine lv_iadd hx hb dX13_canRestore_34 ?_
      obtain ⟨hi_6, hf⟩ := os_if hf
      refine va_iald hx hb hK hP 22 0 rfl rfl hi_6 dX13_canRestore_35 ?_
      refine lv_aload_n hx hb dX13_canRestore_36 rfl (lv_at hl 0 rfl) ?_
      refine va_get (D := D) (ci := 9) (v := .ref (q_this 2)) (C := RX13) (T := TX13) (N := 48) hx hb hUX13 (fun _ h9 => h9) hown hK hP 0 rfl rfl 13 (by decide) (hts (Cond.fieldLink RX13 20 "ReliefBuilderModel" "now" "[I") (List.mem_of_getElem? (i := 3) rfl)) (fun _ h9 => h9) rfl dX13_canRestore_37 ?_
      refine lv_iconst (v := 1) hx hb dX13_canRestore_40 (by decide) ?_
      obtain ⟨hi_7, hf⟩ := os_if hf
      refine va_iald hx hb hK hP 2 0 rfl rfl hi_7 dX13_canRestore_41 ?_
      refine lv_icmp_ne (tgt := 87) hx hb dX13_canRestore_42 (by decide) (fun hc_8 => ?_) (fun hc_8 => ?_)
      · rw [if_neg hc_8] at hf
        refine lv_iconst (v := 0) hx hb dX13_canRestore_87 (by decide) ?_
        rw [← Option.some.inj hf]
        exact mc_retz (v := 0) hx hb hr rfl hlk hP hK hD hS dX13_canRestore_88
      · rw [if_pos hc_8] at hf
        refine lv_aload_n hx hb dX13_canRestore_45 rfl (lv_at hl 0 rfl) ?_
        refine va_get (D := D) (ci := 9) (v := .ref (q_this 22)) (C := RX13) (T := TX13) (N := 48) hx hb hUX13 (fun _ h9 => h9) hown hK hP 0 rfl rfl 46 (by decide) (hts (Cond.fieldLink RX13 81 "ReliefBuilderModel" "savedBy" "[I") (List.mem_of_getElem? (i := 2) rfl)) (fun _ h9 => h9) rfl dX13_canRestore_46 ?_
        refine lv_iconst (v := 4) hx hb dX13_canRestore_49 (by decide) ?_
        refine lv_iload_n hx hb dX13_canRestore_50 rfl (lv_at hl 1 rfl) ?_
        refine lv_imul hx hb dX13_canRestore_51 ?_
        refine lv_iconst (v := 2) hx hb dX13_canRestore_52 (by decide) ?_
        refine lv_iadd hx hb dX13_canRestore_53 ?_
        obtain ⟨hi_9, hf⟩ := os_if hf
        refine va_iald hx hb hK hP 22 0 rfl rfl hi_9 dX13_canRestore_54 ?_
        refine lv_aload_n hx hb dX13_canRestore_55 rfl (lv_at hl 0 rfl) ?_
        refine va_get (D := D) (ci := 9) (v := .ref (q_this 2)) (C := RX13) (T := TX13) (N := 48) hx hb hUX13 (fun _ h9 => h9) hown hK hP 0 rfl rfl 13 (by decide) (hts (Cond.fieldLink RX13 20 "ReliefBuilderModel" "now" "[I") (List.mem_of_getElem? (i := 3) rfl)) (fun _ h9 => h9) rfl dX13_canRestore_56 ?_
        refine lv_iconst (v := 2) hx hb dX13_canRestore_59 (by decide) ?_
        obtain ⟨hi_10, hf⟩ := os_if hf
        refine va_iald hx hb hK hP 2 0 rfl rfl hi_10 dX13_canRestore_60 ?_
        refine lv_icmp_ne (tgt := 87) hx hb dX13_canRestore_61 (by decide) (fun hc_11 => ?_) (fun hc_11 => ?_)
        · rw [if_neg hc_11] at hf
          refine lv_iconst (v := 0) hx hb dX13_canRestore_87 (by decide) ?_
          rw [← Option.some.inj hf]
          exact mc_retz (v := 0) hx hb hr rfl hlk hP hK hD hS dX13_canRestore_88
        · rw [if_pos hc_11] at hf
          refine lv_aload_n hx hb dX13_canRestore_64 rfl (lv_at hl 0 rfl) ?_
          refine va_get (D := D) (ci := 9) (v := .ref (q_this 22)) (C := RX13) (T := TX13) (N := 48) hx hb hUX13 (fun _ h9 => h9) hown hK hP 0 rfl rfl 46 (by decide) (hts (Cond.fieldLink RX13 81 "ReliefBuilderModel" "savedBy" "[I") (List.mem_of_getElem? (i := 2) rfl)) (fun _ h9 => h9) rfl dX13_canRestore_65 ?_
          refine lv_iconst (v := 4) hx hb dX13_canRestore_68 (by decide) ?_
          refine lv_iload_n hx hb dX13_canRestore_69 rfl (lv_at hl 1 rfl) ?_
          refine lv_imul hx hb dX13_canRestore_70 ?_
          refine lv_iconst (v := 3) hx hb dX13_canRestore_71 (by decide) ?_
          refine lv_iadd hx hb dX13_canRestore_72 ?_
          obtain ⟨hi_12, hf⟩ := os_if hf
          refine va_iald hx hb hK hP 22 0 rfl rfl hi_12 dX13_canRestore_73 ?_
          refine lv_aload_n hx hb dX13_canRestore_74 rfl (lv_at hl 0 rfl) ?_
          refine va_get (D := D) (ci := 9) (v := .ref (q_this 2)) (C := RX13) (T := TX13) (N := 48) hx hb hUX13 (fun _ h9 => h9) hown hK hP 0 rfl rfl 13 (by decide) (hts (Cond.fieldLink RX13 20 "ReliefBuilderModel" "now" "[I") (List.mem_of_getElem? (i := 3) rfl)) (fun _ h9 => h9) rfl dX13_canRestore_75 ?_
          refine lv_iconst (v := 4) hx hb dX13_canRestore_78 (by decide) ?_
          obtain ⟨hi_13, hf⟩ := os_if hf
          refine va_iald hx hb hK hP 2 0 rfl rfl hi_13 dX13_canRestore_79 ?_
          refine lv_icmp_ne (tgt := 87) hx hb dX13_canRestore_80 (by decide) (fun hc_14 => ?_) (fun hc_14 => ?_)
          · rw [if_neg hc_14] at hf
            refine lv_iconst (v := 0) hx hb dX13_canRestore_87 (by decide) ?_
            rw [← Option.some.inj hf]
            exact mc_retz (v := 0) hx hb hr rfl hlk hP hK hD hS dX13_canRestore_88
          · rw [if_pos hc_14] at hf
            refine lv_iconst (v := 1) hx hb dX13_canRestore_83 (by decide) ?_
            refine lv_goto (tgt := 88) hx hb dX13_canRestore_84 (by decide) ?_
            rw [← Option.some.inj hf]
            exact mc_retz (v := 1) hx hb hr rfl hlk hP hK hD hS dX13_canRestore_88
def ff_X13_restore_b89 (N : Nat) (k52 : (os_T × Int32 × Int32 × Int32) → Option (Int32 × os_T)) (o_this : os_T) (x1 : Int32) (x4 : Int32) (t0 : Int32) (t1 : Int32) : Option (Int32 × os_T) :=
  ((ff_X13_truth N t0).bind fun u_14 => (if os_in (((192 : Int32) * x1) + x4) 384 then (if os_in x4 192 then k52 (ss_A o_this 4 (upd (os_A o_this 4) (Int32.toNatClampNeg x4) ((os_A o_this 20) (Int32.toNatClampNeg (((192 : Int32) * x1) + x4)))), x1, t1 + u_14, x4 + 1) else none) else none))
def ff_X13_restore_c52 (N : Nat) (k52 : (os_T × Int32 × Int32 × Int32) → Option (Int32 × os_T)) (o_this : os_T) (x1 : Int32) (x3 : Int32) (x4 : Int32) : Option (Int32 × os_T) :=
  (if (192 : Int32) ≤ x4 then some (x3, ss_I o_this 29 (0 : Int32)) else (if os_in x4 192 then (if os_in (((192 : Int32) * x1) + x4) 384 then (if ((os_A o_this 4) (Int32.toNatClampNeg x4)) = ((os_A o_this 20) (Int32.toNatClampNeg (((192 : Int32) * x1) + x4))) then ff_X13_restore_b89 N k52 o_this x1 x4 (0 : Int32) x3 else ff_X13_restore_b89 N k52 o_this x1 x4 (1 : Int32) x3) else none) else none))
def ff_X13_restore_l52 (N : Nat) : Nat → (os_T × Int32 × Int32 × Int32) → Option (Int32 × os_T) := os_loop (fun k52 s1 => ff_X13_restore_c52 N k52 s1.1 s1.2.1 s1.2.2.1 s1.2.2.2)
def ff_X13_restore_b35 (N : Nat) (o_this : os_T) (x1 : Int32) (t0 : Int32) : Option (Int32 × os_T) :=
  (if t0 ≤ 0 then ff_X13_restore_l52 N N (ss_I o_this 0 t0, x1, (0 : Int32), (0 : Int32)) else some ((0 : Int32), ss_I o_this 0 t0))
def ff_X13_restore_b30 (N : Nat) (o_this : os_T) (x1 : Int32) (t0 : Int32) : Option (Int32 × os_T) :=
  ((ff_X13_truth N t0).bind fun u_7 => ff_X13_restore_b35 N o_this x1 (u_7 * (2 : Int32)))
def ff_X13_restore (N : Nat) (o_this : os_T) (a1 : Int32) : Option (Int32 × os_T) :=
  ((ff_X13_isIn N (Int32.toInt64 a1) (0 : Int64) (1 : Int64)).bind fun u_1 => (if u_1 = 0 then ff_X13_restore_b35 N o_this a1 (1 : Int32) else ((ff_X13_canRestore N o_this a1).bind fun u_4 => (if u_4 = 0 then ff_X13_restore_b30 N o_this a1 (1 : Int32) else ff_X13_restore_b30 N o_this a1 (0 : Int32)))))
set_option maxHeartbeats 4000000 in
set_option maxRecDepth 100000 in
theorem mm_X13_restore (l : Launch) (D : va_G) (kA : Nat → ClassId) (N : Nat) (q_this : Nat → Nat) (o_this : os_T) (a1 : Int32) (out : (Int32 × os_T)) (hf : ff_X13_restore N o_this a1 = some out) : mc_C l D kA yX13_restore wsX13_restore ({ frames := 1, cells := 0, slots := 0, locals := 25 } : Room) [.ref (q_this 0), .int a1] (ce_X13 kA q_this o_this) (some (.int out.1)) (ce_X13 kA q_this out.2) := by
  refine mc_of (cc := cX13_restore) (maxL := 5) (ret := (some .int)) (by decide) rfl (Nat.le_of_ble_eq_true rfl) ?_
  intro p e s m below meth c A B hD hP hS ls hl
  obtain ⟨hx, hb, hr, hlk, hml, hown, hts, hK, hA, hnm⟩ := B
  have hown : s.vm.findClass RX13 = some m.cls := hown
  have hl : lv_has ls 5 [(0, .ref (q_this 0)), (1, .int a1)] := hl
  have hUX13 : ∀ w ∈ u_ws RX13 TX13 48, w.before [.ref (q_this 0), .int a1].toArray s = true := fun w h => hts w (List.mem_cons_of_mem _ (List.mem_append_right _ h))
  have hB89 : ∀ (k52 : (os_T × Int32 × Int32 × Int32) → Option (Int32 × os_T)), (∀ (o_this : os_T) (x1 : Int32) (x3 : Int32) (x4 : Int32) (H : Heap) (locs : List Loc) (ls : Array Slot), va_P D vwCl (ce_X13 kA q_this o_this) H → va_D A (ce_X13 kA q_this o_this) → va_S A s.heap H locs → lv_has ls 5 [(0, .ref (q_this 0)), (1, .int x1), (3, .int x3), (4, .int x4)] → k52 (o_this, x1, x3, x4) = some out → W p l e ({ frames := 1, cells := 0, slots := 0, locals := 25 } : Room) s m [.ref (q_this 0), .int a1].toArray below meth c H locs 0 0 (MQ below (mc_Q D kA A (some (.int out.1)) (ce_X13 kA q_this out.2)) [.ref (q_this 0), .int a1].toArray s 0 0 A) (F0 m 52 ls [])) → ∀ (o_this : os_T) (x1 : Int32) (x4 : Int32) (t0 : Int32) (t1 : Int32) (H : Heap) (locs : List Loc) (ls : Array Slot), va_P D vwCl (ce_X13 kA q_this o_this) H → va_D A (ce_X13 kA q_this o_this) → va_S A s.heap H locs → lv_has ls 5 [(0, .ref (q_this 0)), (1, .int x1), (4, .int x4)] → ff_X13_restore_b89 N k52 o_this x1 x4 t0 t1 = some out → W p l e ({ frames := 1, cells := 0, slots := 0, locals := 25 } : Room) s m [.ref (q_this 0), .int a1].toArray below meth c H locs 0 0 (MQ below (mc_Q D kA A (some (.int out.1)) (ce_X13 kA q_this out.2)) [.ref (q_this 0), .int a1].toArray s 0 0 A) (F0 m 89 ls [.int t0, .int t1]) := by
    intro k52 hk52 o_this x1 x4 t0 t1 H locs ls hP hD hS hl hf
    unfold ff_X13_restore_b89 at hf
    obtain ⟨u_14, he_15, hf⟩ := os_bd hf
    refine mc_callS ⟨hx, hb, hml, hown, hts⟩ (mm_X13_truth l D kA N t0 u_14 he_15) (va_cwS 1 hts gX13_restore_X13_truth rfl rfl rfl (by decide +kernel) ⟨Nat.le_of_ble_eq_true rfl, Nat.le_of_ble_eq_true rfl⟩) (wc := []) rfl hl.1 (As := [.int t0]) (rest := [.int t1]) rfl (Nat.le_of_ble_eq_true rfl) dX13_restore_89 ⟨Nat.le_of_ble_eq_true rfl, Nat.le_of_ble_eq_true rfl⟩ hK hP hD hS hA [] [0, 1, 2, 3, 4, 5, 6, 7, 8, 9, 10, 11, 12, 13, 14, 15, 16, 17, 18, 19, 20, 21, 22, 23] [0, 1, 2, 3, 4, 5, 6, 7, 8, 9, 10, 11, 12, 13, 14, 15, 16, 17, 18, 19, 20, 21, 22, 23] rfl (by decide) rfl (by decide) (by decide) rfl (by decide) (wr := (ce_X13 kA q_this o_this)) (w2 := (ce_X13 kA q_this o_this)) (fun H locs hP hD hS => ?_)
    have hP : va_P D vwCl (ce_X13 kA q_this o_this) H := hP
    refine lv_iadd hx hb dX13_restore_92 ?_
    refine lv_istore_n (lv' := [(3, .int (t1 + u_14)), (0, .ref (q_this 0)), (1, .int x1), (4, .int x4)]) hx hb dX13_restore_93 rfl hl (by decide) rfl (fun ls hl => ?_)
    refine lv_aload_n hx hb dX13_restore_94 rfl (lv_at hl 1 rfl) ?_
    refine va_get (D := D) (ci := 9) (v := .ref (q_this 5)) (C := RX13) (T := TX13) (N := 48) hx hb hUX13 (fun _ h9 => h9) hown hK hP 0 rfl rfl 16 (by decide) (hts (Cond.fieldLink RX13 29 "ReliefBuilderModel" "heights" "[I") (List.mem_of_getElem? (i := 2) rfl)) (fun _ h9 => h9) rfl dX13_restore_95 ?_
    refine lv_iload hx hb dX13_restore_98 (lv_at hl 3 rfl) ?_
    refine lv_aload_n hx hb dX13_restore_100 rfl (lv_at hl 1 rfl) ?_
    refine va_get (D := D) (ci := 9) (v := .ref (q_this 21)) (C := RX13) (T := TX13) (N := 48) hx hb hUX13 (fun _ h9 => h9) hown hK hP 0 rfl rfl 45 (by decide) (hts (Cond.fieldLink RX13 78 "ReliefBuilderModel" "saved" "[I") (List.mem_of_getElem? (i := 3) rfl)) (fun _ h9 => h9) rfl dX13_restore_101 ?_
    refine lv_sipush (v := 192) hx hb dX13_restore_104 (by decide) ?_
    refine lv_iload_n hx hb dX13_restore_107 rfl (lv_at hl 2 rfl) ?_
    refine lv_imul hx hb dX13_restore_108 ?_
    refine lv_iload hx hb dX13_restore_109 (lv_at hl 3 rfl) ?_
    refine lv_iadd hx hb dX13_restore_111 ?_
    obtain ⟨hi_16, hf⟩ := os_if hf
    refine va_iald hx hb hK hP 21 0 rfl rfl hi_16 dX13_restore_112 ?_
    obtain ⟨hi_17, hf⟩ := os_if hf
    refine va_iast hx hb hK hP hD hS 5 0 rfl rfl hi_17 dX13_restore_113 (fun H locs hP hD hS => ?_)
    have hP : va_P D vwCl (ce_X13 kA q_this (ss_A o_this 4 (upd (os_A o_this 4) (Int32.toNatClampNeg x4) ((os_A o_this 20) (Int32.toNatClampNeg (((192 : Int32) * x1) + x4)))))) H := hP
    have hD : va_D A (ce_X13 kA q_this (ss_A o_this 4 (upd (os_A o_this 4) (Int32.toNatClampNeg x4) ((os_A o_this 20) (Int32.toNatClampNeg (((192 : Int32) * x1) + x4)))))) := hD
    refine lv_iinc (v := x4 + 1) (lv' := [(4, .int (x4 + 1)), (3, .int (t1 + u_14)), (0, .ref (q_this 0)), (1, .int x1)]) hx hb dX13_restore_114 hl (k := 3) rfl rfl (by decide) rfl (fun ls hl => ?_)
    refine lv_goto (tgt := 52) hx hb dX13_restore_117 (by decide) ?_
    exact hk52 (ss_A o_this 4 (upd (os_A o_this 4) (Int32.toNatClampNeg x4) ((os_A o_this 20) (Int32.toNatClampNeg (((192 : Int32) * x1) + x4))))) x1 (t1 + u_14) (x4 + 1) _ _ _ hP hD hS (lv_sub hl [2, 3, 1, 0] rfl) hf
  have hL52 : ∀ (n : Nat) (o_this : os_T) (x1 : Int32) (x3 : Int32) (x4 : Int32) (H : Heap) (locs : List Loc) (ls : Array Slot), va_P D vwCl (ce_X13 kA q_this o_this) H → va_D A (ce_X13 kA q_this o_this) → va_S A s.heap H locs → lv_has ls 5 [(0, .ref (q_this 0)), (1, .int x1), (3, .int x3), (4, .int x4)] → ff_X13_restore_l52 N n (o_this, x1, x3, x4) = some out → W p l e ({ frames := 1, cells := 0, slots := 0, locals := 25 } : Room) s m [.ref (q_this 0), .int a1].toArray below meth c H locs 0 0 (MQ below (mc_Q D kA A (some (.int out.1)) (ce_X13 kA q_this out.2)) [.ref (q_this 0), .int a1].toArray s 0 0 A) (F0 m 52 ls []) := by
    intro n
    induction n with
    | zero => intro o_this x1 x3 x4 H locs ls _ _ _ _ hf; cases hf
    | succ n hk52 =>
      intro o_this x1 x3 x4 H locs ls hP hD hS hl hf
      have hf : ff_X13_restore_c52 N (ff_X13_restore_l52 N n) o_this x1 x3 x4 = some out := hf
      generalize hke : ff_X13_restore_l52 N n = k52 at hk52 hf
      unfold ff_X13_restore_c52 at hf
      refine lv_iload hx hb dX13_restore_52 (lv_at hl 3 rfl) ?_
      refine lv_sipush (v := 192) hx hb dX13_restore_54 (by decide) ?_
      refine lv_icmp_ge (tgt := 120) hx hb dX13_restore_57 (by decide) (fun hc_10 => ?_) (fun hc_10 => ?_)
      · rw [if_pos hc_10] at hf
        refine lv_aload_n hx hb dX13_restore_120 rfl (lv_at hl 0 rfl) ?_
        refine lv_iconst (v := 0) hx hb dX13_restore_121 (by decide) ?_
        refine va_put (D := D) (ci := 9) (v := .int (0 : Int32)) (ty := .int) (C := RX13) (T := TX13) (N := 48) hx hb hUX13 (fun _ h9 => h9) tyX13 tyX13_ok nmX13 hown hK hP hD hS 0 rfl rfl 29 (by decide) (hts (Cond.fieldLink RX13 207 "ReliefBuilderModel" "undos" "I") (List.mem_of_getElem? (i := 4) rfl)) (fun _ h9 => h9) rfl (tyX13_ok 29 (by decide)) rfl rfl (Nat.le_of_ble_eq_true rfl) dX13_restore_122 (fun H locs hP hD hS => ?_)
        have hP : va_P D vwCl (ce_X13 kA q_this (ss_I o_this 29 (0 : Int32))) H := hP
        have hD : va_D A (ce_X13 kA q_this (ss_I o_this 29 (0 : Int32))) := hD
        refine lv_iload_n hx hb dX13_restore_125 rfl (lv_at hl 2 rfl) ?_
        rw [← Option.some.inj hf]
        exact mc_reti hx hb hr hlk hP hK hD hS dX13_restore_126
      · rw [if_neg hc_10] at hf
        refine lv_iload_n hx hb dX13_restore_60 rfl (lv_at hl 2 rfl) ?_
        refine lv_aload_n hx hb dX13_restore_61 rfl (lv_at hl 0 rfl) ?_
        refine va_get (D := D) (ci := 9) (v := .ref (q_this 5)) (C := RX13) (T := TX13) (N := 48) hx hb hUX13 (fun _ h9 => h9) hown hK hP 0 rfl rfl 16 (by decide) (hts (Cond.fieldLink RX13 29 "ReliefBuilderModel" "heights" "[I") (List.mem_of_getElem? (i := 2) rfl)) (fun _ h9 => h9) rfl dX13_restore_62 ?_
        refine lv_iload hx hb dX13_restore_65 (lv_at hl 3 rfl) ?_
        obtain ⟨hi_11, hf⟩ := os_if hf
        refine va_iald hx hb hK hP 5 0 rfl rfl hi_11 dX13_restore_67 ?_
        refine lv_aload_n hx hb dX13_restore_68 rfl (lv_at hl 0 rfl) ?_
        refine va_get (D := D) (ci := 9) (v := .ref (q_this 21)) (C := RX13) (T := TX13) (N := 48) hx hb hUX13 (fun _ h9 => h9) hown hK hP 0 rfl rfl 45 (by decide) (hts (Cond.fieldLink RX13 78 "ReliefBuilderModel" "saved" "[I") (List.mem_of_getElem? (i := 3) rfl)) (fun _ h9 => h9) rfl dX13_restore_69 ?_
        refine lv_sipush (v := 192) hx hb dX13_restore_72 (by decide) ?_
        refine lv_iload_n hx hb dX13_restore_75 rfl (lv_at hl 1 rfl) ?_
        refine lv_imul hx hb dX13_restore_76 ?_
        refine lv_iload hx hb dX13_restore_77 (lv_at hl 3 rfl) ?_
        refine lv_iadd hx hb dX13_restore_79 ?_
        obtain ⟨hi_12, hf⟩ := os_if hf
        refine va_iald hx hb hK hP 21 0 rfl rfl hi_12 dX13_restore_80 ?_
        refine lv_icmp_eq (tgt := 88) hx hb dX13_restore_81 (by decide) (fun hc_13 => ?_) (fun hc_13 => ?_)
        · rw [if_pos hc_13] at hf
          refine lv_iconst (v := 0) hx hb dX13_restore_88 (by decide) ?_
          exact hB89 k52 hk52 o_this x1 x4 (0 : Int32) x3 _ _ _ hP hD hS (lv_sub hl [0, 1, 3] rfl) hf
        · rw [if_neg hc_13] at hf
          refine lv_iconst (v := 1) hx hb dX13_restore_84 (by decide) ?_
          refine lv_goto (tgt := 89) hx hb dX13_restore_85 (by decide) ?_
          exact hB89 k52 hk52 o_this x1 x4 (1 : Int32) x3 _ _ _ hP hD hS (lv_sub hl [0, 1, 3] rfl) hf
  have hB35 : ∀ (o_this : os_T) (x1 : Int32) (t0 : Int32) (H : Heap) (locs : List Loc) (ls : Array Slot), va_P D vwCl (ce_X13 kA q_this o_this) H → va_D A (ce_X13 kA q_this o_this) → va_S A s.heap H locs → lv_has ls 5 [(0, .ref (q_this 0)), (1, .int x1)] → ff_X13_restore_b35 N o_this x1 t0 = some out → W p l e ({ frames := 1, cells := 0, slots := 0, locals := 25 } : Room) s m [.ref (q_this 0), .int a1].toArray below meth c H locs 0 0 (MQ below (mc_Q D kA A (some (.int out.1)) (ce_X13 kA q_this out.2)) [.ref (q_this 0), .int a1].toArray s 0 0 A) (F0 m 35 ls [.int t0, .ref (q_this 0)]) := by
    intro o_this x1 t0 H locs ls hP hD hS hl hf
    unfold ff_X13_restore_b35 at hf
    refine va_put (D := D) (ci := 9) (v := .int t0) (ty := .int) (C := RX13) (T := TX13) (N := 48) hx hb hUX13 (fun _ h9 => h9) tyX13 tyX13_ok nmX13 hown hK hP hD hS 0 rfl rfl 0 (by decide) (hts (Cond.fieldLink RX13 93 "ReliefBuilderModel" "code" "I") (List.mem_of_getElem? (i := 1) rfl)) (fun _ h9 => h9) rfl (tyX13_ok 0 (by decide)) rfl rfl (Nat.le_of_ble_eq_true rfl) dX13_restore_35 (fun H locs hP hD hS => ?_)
    have hP : va_P D vwCl (ce_X13 kA q_this (ss_I o_this 0 t0)) H := hP
    have hD : va_D A (ce_X13 kA q_this (ss_I o_this 0 t0)) := hD
    refine lv_aload_n hx hb dX13_restore_38 rfl (lv_at hl 0 rfl) ?_
    refine va_get (D := D) (ci := 9) (v := .int t0) (C := RX13) (T := TX13) (N := 48) hx hb hUX13 (fun _ h9 => h9) hown hK hP 0 rfl rfl 0 (by decide) (hts (Cond.fieldLink RX13 93 "ReliefBuilderModel" "code" "I") (List.mem_of_getElem? (i := 1) rfl)) (fun _ h9 => h9) rfl dX13_restore_39 ?_
    refine lv_if_le (tgt := 47) hx hb dX13_restore_42 (by decide) (fun hc_9 => ?_) (fun hc_9 => ?_)
    · rw [if_pos hc_9] at hf
      refine lv_iconst (v := 0) hx hb dX13_restore_47 (by decide) ?_
      refine lv_istore_n (lv' := [(3, .int (0 : Int32)), (0, .ref (q_this 0)), (1, .int x1)]) hx hb dX13_restore_48 rfl hl (by decide) rfl (fun ls hl => ?_)
      refine lv_iconst (v := 0) hx hb dX13_restore_49 (by decide) ?_
      refine lv_istore (lv' := [(4, .int (0 : Int32)), (3, .int (0 : Int32)), (0, .ref (q_this 0)), (1, .int x1)]) hx hb dX13_restore_50 hl (by decide) rfl (fun ls hl => ?_)
      exact hL52 N (ss_I o_this 0 t0) x1 (0 : Int32) (0 : Int32) _ _ _ hP hD hS (lv_sub hl [2, 3, 1, 0] rfl) hf
    · rw [if_neg hc_9] at hf
      refine lv_iconst (v := 0) hx hb dX13_restore_45 (by decide) ?_
      rw [← Option.some.inj hf]
      exact mc_reti hx hb hr hlk hP hK hD hS dX13_restore_46
  have hB30 : ∀ (o_this : os_T) (x1 : Int32) (t0 : Int32) (H : Heap) (locs : List Loc) (ls : Array Slot), va_P D vwCl (ce_X13 kA q_this o_this) H → va_D A (ce_X13 kA q_this o_this) → va_S A s.heap H locs → lv_has ls 5 [(0, .ref (q_this 0)), (1, .int x1)] → ff_X13_restore_b30 N o_this x1 t0 = some out → W p l e ({ frames := 1, cells := 0, slots := 0, locals := 25 } : Room) s m [.ref (q_this 0), .int a1].toArray below meth c H locs 0 0 (MQ below (mc_Q D kA A (some (.int out.1)) (ce_X13 kA q_this out.2)) [.ref (q_this 0), .int a1].toArray s 0 0 A) (F0 m 30 ls [.int t0, .ref (q_this 0)]) := by
    intro o_this x1 t0 H locs ls hP hD hS hl hf
    unfold ff_X13_restore_b30 at hf
    obtain ⟨u_7, he_8, hf⟩ := os_bd hf
    refine mc_callS ⟨hx, hb, hml, hown, hts⟩ (mm_X13_truth l D kA N t0 u_7 he_8) (va_cwS 1 hts gX13_restore_X13_truth rfl rfl rfl (by decide +kernel) ⟨Nat.le_of_ble_eq_true rfl, Nat.le_of_ble_eq_true rfl⟩) (wc := []) rfl hl.1 (As := [.int t0]) (rest := [.ref (q_this 0)]) rfl (Nat.le_of_ble_eq_true rfl) dX13_restore_30 ⟨Nat.le_of_ble_eq_true rfl, Nat.le_of_ble_eq_true rfl⟩ hK hP hD hS hA [] [0, 1, 2, 3, 4, 5, 6, 7, 8, 9, 10, 11, 12, 13, 14, 15, 16, 17, 18, 19, 20, 21, 22, 23] [0, 1, 2, 3, 4, 5, 6, 7, 8, 9, 10, 11, 12, 13, 14, 15, 16, 17, 18, 19, 20, 21, 22, 23] rfl (by decide) rfl (by decide) (by decide) rfl (by decide) (wr := (ce_X13 kA q_this o_this)) (w2 := (ce_X13 kA q_this o_this)) (fun H locs hP hD hS => ?_)
    have hP : va_P D vwCl (ce_X13 kA q_this o_this) H := hP
    refine lv_iconst (v := 2) hx hb dX13_restore_33 (by decide) ?_
    refine lv_imul hx hb dX13_restore_34 ?_
    exact hB35 o_this x1 (u_7 * (2 : Int32)) _ _ _ hP hD hS (lv_sub hl [0, 1] rfl) hf
  unfold ff_X13_restore at hf
  refine lv_iload_n hx hb dX13_restore_0 rfl (lv_at hl 1 rfl) ?_
  refine lv_i2l hx hb dX13_restore_1 rfl ?_
  refine lv_lconst (v := 0) hx hb dX13_restore_2 (by decide) ?_
  refine lv_lconst (v := 1) hx hb dX13_restore_3 (by decide) ?_
  obtain ⟨u_1, he_2, hf⟩ := os_bd hf
  refine mc_callS ⟨hx, hb, hml, hown, hts⟩ (mm_X13_isIn l D kA N (Int32.toInt64 a1) (0 : Int64) (1 : Int64) u_1 he_2) (va_cwS 3 hts gX13_restore_X13_isIn rfl rfl rfl (by decide +kernel) ⟨Nat.le_of_ble_eq_true rfl, Nat.le_of_ble_eq_true rfl⟩) (wc := []) rfl hl.1 (As := [.long (Int32.toInt64 a1), .long (0 : Int64), .long (1 : Int64)]) (rest := []) rfl (Nat.le_of_ble_eq_true rfl) dX13_restore_4 ⟨Nat.le_of_ble_eq_true rfl, Nat.le_of_ble_eq_true rfl⟩ hK hP hD hS hA [] [0, 1, 2, 3, 4, 5, 6, 7, 8, 9, 10, 11, 12, 13, 14, 15, 16, 17, 18, 19, 20, 21, 22, 23] [0, 1, 2, 3, 4, 5, 6, 7, 8, 9, 10, 11, 12, 13, 14, 15, 16, 17, 18, 19, 20, 21, 22, 23] rfl (by decide) rfl (by decide) (by decide) rfl (by decide) (wr := (ce_X13 kA q_this o_this)) (w2 := (ce_X13 kA q_this o_this)) (fun H locs hP hD hS => ?_)
  have hP : va_P D vwCl (ce_X13 kA q_this o_this) H := hP
  refine lv_istore_n (lv' := [(2, .int u_1), (0, .ref (q_this 0)), (1, .int a1)]) hx hb dX13_restore_7 rfl hl (by decide) rfl (fun ls hl => ?_)
  refine lv_aload_n hx hb dX13_restore_8 rfl (lv_at hl 1 rfl) ?_
  refine lv_iload_n hx hb dX13_restore_9 rfl (lv_at hl 0 rfl) ?_
  refine lv_if_ne (tgt := 17) hx hb dX13_restore_10 (by decide) (fun hc_3 => ?_) (fun hc_3 => ?_)
  · rw [if_neg hc_3] at hf
    refine lv_aload_n hx hb dX13_restore_17 rfl (lv_at hl 1 rfl) ?_
    refine lv_iload_n hx hb dX13_restore_18 rfl (lv_at hl 2 rfl) ?_
    obtain ⟨u_4, he_5, hf⟩ := os_bd hf
    refine mc_callV ⟨hx, hb, hml, hown, hts⟩ (mm_X13_canRestore l D kA N q_this o_this a1 u_4 he_5) (cwV 1 hts gX13_restore_X13_canRestore rfl rfl rfl (by decide +kernel) ⟨Nat.le_of_ble_eq_true rfl, Nat.le_of_ble_eq_true rfl⟩) (wc := (ce_X13 kA q_this o_this)) (ci := 9) (q0 := 0) rfl rfl rfl hl.1 (As := [.int a1]) (rest := [.ref (q_this 0)]) rfl (Nat.le_of_ble_eq_true rfl) dX13_restore_19 ⟨Nat.le_of_ble_eq_true rfl, Nat.le_of_ble_eq_true rfl⟩ hK hP hD hS hA [0, 1, 2, 3, 4, 5, 6, 7, 8, 9, 10, 11, 12, 13, 14, 15, 16, 17, 18, 19, 20, 21, 22, 23] [] [0, 1, 2, 3, 4, 5, 6, 7, 8, 9, 10, 11, 12, 13, 14, 15, 16, 17, 18, 19, 20, 21, 22, 23] rfl (by decide) rfl (by decide) (by decide) rfl (by decide) (wr := []) (w2 := (ce_X13 kA q_this o_this)) (fun H locs hP hD hS => ?_)
    have hP : va_P D vwCl (ce_X13 kA q_this o_this) H := hP
    refine lv_if_ne (tgt := 29) hx hb dX13_restore_22 (by decide) (fun hc_6 => ?_) (fun hc_6 => ?_)
    · rw [if_neg hc_6] at hf
      refine lv_iconst (v := 0) hx hb dX13_restore_29 (by decide) ?_
      exact hB30 o_this a1 (0 : Int32) _ _ _ hP hD hS (lv_sub hl [1, 2] rfl) hf
    · rw [if_pos hc_6] at hf
      refine lv_iconst (v := 1) hx hb dX13_restore_25 (by decide) ?_
      refine lv_goto (tgt := 30) hx hb dX13_restore_26 (by decide) ?_
      exact hB30 o_this a1 (1 : Int32) _ _ _ hP hD hS (lv_sub hl [1, 2] rfl) hf
  · rw [if_pos hc_3] at hf
    refine lv_iconst (v := 1) hx hb dX13_restore_13 (by decide) ?_
    refine lv_goto (tgt := 35) hx hb dX13_restore_14 (by decide) ?_
    exact hB35 o_this a1 (1 : Int32) _ _ _ hP hD hS (lv_sub hl [1, 2] rfl) hf
