def ff_X13_thrown (N : Nat) (o_this : os_T) : Option Int32 :=
  some (os_I o_this 0)
set_option maxHeartbeats 4000000 in
set_option maxRecDepth 100000 in
theorem mm_X13_thrown (l : Launch) (D : va_G) (kA : Nat → ClassId) (N : Nat) (q_this : Nat → Nat) (o_this : os_T) (out : Int32) (hf : ff_X13_thrown N o_this = some out) : mc_C l D kA yX13_thrown wsX13_thrown ({ frames := 0, cells := 0, slots := 0, locals := 0 } : Room) [.ref (q_this 0)] (ce_X13 kA q_this o_this) (some (.int out)) (ce_X13 kA q_this o_this) := by
  refine mc_of (cc := cX13_thrown) (maxL := 1) (ret := (some .int)) (by decide) rfl (Nat.le_of_ble_eq_true rfl) ?_
  intro p e s m below meth c A B hD hP hS ls hl
  obtain ⟨hx, hb, hr, hlk, hml, hown, hts, hK, hA, hnm⟩ := B
  have hown : s.vm.findClass RX13 = some m.cls := hown
  have hl : lv_has ls 1 [(0, .ref (q_this 0))] := hl
  have hUX13 : ∀ w ∈ u_ws RX13 TX13 48, w.before [.ref (q_this 0)].toArray s = true := fun w h => hts w (List.mem_cons_of_mem _ (List.mem_append_right _ h))
  unfold ff_X13_thrown at hf
  refine lv_aload_n hx hb dX13_thrown_0 rfl (lv_at hl 0 rfl) ?_
  refine va_get (D := D) (ci := 9) (v := .int (os_I o_this 0)) (C := RX13) (T := TX13) (N := 48) hx hb hUX13 (fun _ h9 => h9) hown hK hP 0 rfl rfl 0 (by decide) (hts (Cond.fieldLink RX13 93 "ReliefBuilderModel" "code" "I") (List.mem_of_getElem? (i := 1) rfl)) (fun _ h9 => h9) rfl dX13_thrown_1 ?_
  rw [← Option.some.inj hf]
  exact mc_reti hx hb hr hlk hP hK hD hS dX13_thrown_4
def ff_X13_isIn (N : Nat) (a0 : Int64) (a2 : Int64) (a4 : Int64) : Option Int32 :=
  (if (lg_cmp a0 a2) < 0 then some (0 : Int32) else (if 0 < (lg_cmp a0 a4) then some (0 : Int32) else some (1 : Int32)))
set_option maxHeartbeats 4000000 in
set_option maxRecDepth 100000 in
theorem mm_X13_isIn (l : Launch) (D : va_G) (kA : Nat → ClassId) (N : Nat) (a0 : Int64) (a2 : Int64) (a4 : Int64) (out : Int32) (hf : ff_X13_isIn N a0 a2 a4 = some out) : mc_C l D kA yX13_isIn wsX13_isIn ({ frames := 0, cells := 0, slots := 0, locals := 0 } : Room) [.long a0, .long a2, .long a4] [] (some (.int out)) [] := by
  refine mc_of (cc := cX13_isIn) (maxL := 6) (ret := (some .boolean)) (by decide) rfl (Nat.le_of_ble_eq_true rfl) ?_
  intro p e s m below meth c A B hD hP hS ls hl
  obtain ⟨hx, hb, hr, hlk, hml, hown, hts, hK, hA, hnm⟩ := B
  have hown : s.vm.findClass RX13 = some m.cls := hown
  have hl : lv_has ls 6 [(0, .long a0), (2, .long a2), (4, .long a4)] := hl
  unfold ff_X13_isIn at hf
  refine lv_lload_n hx hb dX13_isIn_0 rfl (lv_at hl 0 rfl) ?_
  refine lv_lload_n hx hb dX13_isIn_1 rfl (lv_at hl 1 rfl) ?_
  refine W.lcmp hx hb dX13_isIn_2 ?_
  refine lv_if_lt (tgt := 17) hx hb dX13_isIn_3 (by decide) (fun hc_1 => ?_) (fun hc_1 => ?_)
  · rw [if_pos hc_1] at hf
    refine lv_iconst (v := 0) hx hb dX13_isIn_17 (by decide) ?_
    rw [← Option.some.inj hf]
    exact mc_retz (v := 0) hx hb hr rfl hlk hP hK hD hS dX13_isIn_18
  · rw [if_neg hc_1] at hf
    refine lv_lload_n hx hb dX13_isIn_6 rfl (lv_at hl 0 rfl) ?_
    refine lv_lload hx hb dX13_isIn_7 (lv_at hl 2 rfl) ?_
    refine W.lcmp hx hb dX13_isIn_9 ?_
    refine lv_if_gt (tgt := 17) hx hb dX13_isIn_10 (by decide) (fun hc_2 => ?_) (fun hc_2 => ?_)
    · rw [if_pos hc_2] at hf
      refine lv_iconst (v := 0) hx hb dX13_isIn_17 (by decide) ?_
      rw [← Option.some.inj hf]
      exact mc_retz (v := 0) hx hb hr rfl hlk hP hK hD hS dX13_isIn_18
    · rw [if_neg hc_2] at hf
      refine lv_iconst (v := 1) hx hb dX13_isIn_13 (by decide) ?_
      refine lv_goto (tgt := 18) hx hb dX13_isIn_14 (by decide) ?_
      rw [← Option.some.inj hf]
      exact mc_retz (v := 1) hx hb hr rfl hlk hP hK hD hS dX13_isIn_18
def ff_X13_truth (N : Nat) (a0 : Int32) : Option Int32 :=
  (if a0 = 0 then some (0 : Int32) else some (1 : Int32))
set_option maxHeartbeats 4000000 in
set_option maxRecDepth 100000 in
theorem mm_X13_truth (l : Launch) (D : va_G) (kA : Nat → ClassId) (N : Nat) (a0 : Int32) (out : Int32) (hf : ff_X13_truth N a0 = some out) : mc_C l D kA yX13_truth wsX13_truth ({ frames := 0, cells := 0, slots := 0, locals := 0 } : Room) [.int a0] [] (some (.int out)) [] := by
  refine mc_of (cc := cX13_truth) (maxL := 1) (ret := (some .int)) (by decide) rfl (Nat.le_of_ble_eq_true rfl) ?_
  intro p e s m below meth c A B hD hP hS ls hl
  obtain ⟨hx, hb, hr, hlk, hml, hown, hts, hK, hA, hnm⟩ := B
  have hown : s.vm.findClass RX13 = some m.cls := hown
  have hl : lv_has ls 1 [(0, .int a0)] := hl
  unfold ff_X13_truth at hf
  refine lv_iload_n hx hb dX13_truth_0 rfl (lv_at hl 0 rfl) ?_
  refine lv_if_eq (tgt := 8) hx hb dX13_truth_1 (by decide) (fun hc_1 => ?_) (fun hc_1 => ?_)
  · rw [if_pos hc_1] at hf
    refine lv_iconst (v := 0) hx hb dX13_truth_8 (by decide) ?_
    rw [← Option.some.inj hf]
    exact mc_reti hx hb hr hlk hP hK hD hS dX13_truth_9
  · rw [if_neg hc_1] at hf
    refine lv_iconst (v := 1) hx hb dX13_truth_4 (by decide) ?_
    refine lv_goto (tgt := 9) hx hb dX13_truth_5 (by decide) ?_
    rw [← Option.some.inj hf]
    exact mc_reti hx hb hr hlk hP hK hD hS dX13_truth_9
def ff_X13_less (N : Nat) (a0 : Int32) (a1 : Int32) : Option Int32 :=
  (if a1 ≤ a0 then some a1 else some a0)
set_option maxHeartbeats 4000000 in
set_option maxRecDepth 100000 in
theorem mm_X13_less (l : Launch) (D : va_G) (kA : Nat → ClassId) (N : Nat) (a0 : Int32) (a1 : Int32) (out : Int32) (hf : ff_X13_less N a0 a1 = some out) : mc_C l D kA yX13_less wsX13_less ({ frames := 0, cells := 0, slots := 0, locals := 0 } : Room) [.int a0, .int a1] [] (some (.int out)) [] := by
  refine mc_of (cc := cX13_less) (maxL := 2) (ret := (some .int)) (by decide) rfl (Nat.le_of_ble_eq_true rfl) ?_
  intro p e s m below meth c A B hD hP hS ls hl
  obtain ⟨hx, hb, hr, hlk, hml, hown, hts, hK, hA, hnm⟩ := B
  have hown : s.vm.findClass RX13 = some m.cls := hown
  have hl : lv_has ls 2 [(0, .int a0), (1, .int a1)] := hl
  unfold ff_X13_less at hf
  refine lv_iload_n hx hb dX13_less_0 rfl (lv_at hl 0 rfl) ?_
  refine lv_iload_n hx hb dX13_less_1 rfl (lv_at hl 1 rfl) ?_
  refine lv_icmp_ge (tgt := 9) hx hb dX13_less_2 (by decide) (fun hc_1 => ?_) (fun hc_1 => ?_)
  · rw [if_pos hc_1] at hf
    refine lv_iload_n hx hb dX13_less_9 rfl (lv_at hl 1 rfl) ?_
    rw [← Option.some.inj hf]
    exact mc_reti hx hb hr hlk hP hK hD hS dX13_less_10
  · rw [if_neg hc_1] at hf
    refine lv_iload_n hx hb dX13_less_5 rfl (lv_at hl 0 rfl) ?_
    refine lv_goto (tgt := 10) hx hb dX13_less_6 (by decide) ?_
    rw [← Option.some.inj hf]
    exact mc_reti hx hb hr hlk hP hK hD hS dX13_less_10
def ff_X13_more (N : Nat) (a0 : Int32) (a1 : Int32) : Option Int32 :=
  (if a0 ≤ a1 then some a1 else some a0)
set_option maxHeartbeats 4000000 in
set_option maxRecDepth 100000 in
theorem mm_X13_more (l : Launch) (D : va_G) (kA : Nat → ClassId) (N : Nat) (a0 : Int32) (a1 : Int32) (out : Int32) (hf : ff_X13_more N a0 a1 = some out) : mc_C l D kA yX13_more wsX13_more ({ frames := 0, cells := 0, slots := 0, locals := 0 } : Room) [.int a0, .int a1] [] (some (.int out)) [] := by
  refine mc_of (cc := cX13_more) (maxL := 2) (ret := (some .int)) (by decide) rfl (Nat.le_of_ble_eq_true rfl) ?_
  intro p e s m below meth c A B hD hP hS ls hl
  obtain ⟨hx, hb, hr, hlk, hml, hown, hts, hK, hA, hnm⟩ := B
  have hown : s.vm.findClass RX13 = some m.cls := hown
  have hl : lv_has ls 2 [(0, .int a0), (1, .int a1)] := hl
  unfold ff_X13_more at hf
  refine lv_iload_n hx hb dX13_more_0 rfl (lv_at hl 0 rfl) ?_
  refine lv_iload_n hx hb dX13_more_1 rfl (lv_at hl 1 rfl) ?_
  refine lv_icmp_le (tgt := 9) hx hb dX13_more_2 (by decide) (fun hc_1 => ?_) (fun hc_1 => ?_)
  · rw [if_pos hc_1] at hf
    refine lv_iload_n hx hb dX13_more_9 rfl (lv_at hl 1 rfl) ?_
    rw [← Option.some.inj hf]
    exact mc_reti hx hb hr hlk hP hK hD hS dX13_more_10
  · rw [if_neg hc_1] at hf
    refine lv_iload_n hx hb dX13_more_5 rfl (lv_at hl 0 rfl) ?_
    refine lv_goto (tgt := 10) hx hb dX13_more_6 (by decide) ?_
    rw [← Option.some.inj hf]
    exact mc_reti hx hb hr hlk hP hK hD hS dX13_more_10
def ff_X13_goes_b10 (N : Nat) (o_this : os_T) (x1 : Int32) (t0 : Int32) : Option (Int32 × os_T) :=
  ((ff_X13_truth N t0).bind fun u_2 => (if os_z x1 then some (x1, ss_I o_this 0 u_2) else none))
def ff_X13_goes (N : Nat) (o_this : os_T) (a1 : Int32) : Option (Int32 × os_T) :=
  (if a1 = 0 then ff_X13_goes_b10 N o_this a1 (1 : Int32) else ff_X13_goes_b10 N o_this a1 (0 : Int32))
set_option maxHeartbeats 4000000 in
set_option maxRecDepth 100000 in
theorem mm_X13_goes (l : Launch) (D : va_G) (kA : Nat → ClassId) (N : Nat) (q_this : Nat → Nat) (o_this : os_T) (a1 : Int32) (out : (Int32 × os_T)) (hf : ff_X13_goes N o_this a1 = some out) : mc_C l D kA yX13_goes wsX13_goes ({ frames := 1, cells := 0, slots := 0, locals := 20 } : Room) [.ref (q_this 0), .int a1] (ce_X13 kA q_this o_this) (some (.int out.1)) (ce_X13 kA q_this out.2) := by
  refine mc_of (cc := cX13_goes) (maxL := 2) (ret := (some .boolean)) (by decide) rfl (Nat.le_of_ble_eq_true rfl) ?_
  intro p e s m below meth c A B hD hP hS ls hl
  obtain ⟨hx, hb, hr, hlk, hml, hown, hts, hK, hA, hnm⟩ := B
  have hown : s.vm.findClass RX13 = some m.cls := hown
  have hl : lv_has ls 2 [(0, .ref (q_this 0)), (1, .int a1)] := hl
  have hUX13 : ∀ w ∈ u_ws RX13 TX13 48, w.before [.ref (q_this 0), .int a1].toArray s = true := fun w h => hts w (List.mem_cons_of_mem _ (List.mem_append_right _ h))
  have hB10 : ∀ (o_this : os_T) (x1 : Int32) (t0 : Int32) (H : Heap) (locs : List Loc) (ls : Array Slot), va_P D vwCl (ce_X13 kA q_this o_this) H → va_D A (ce_X13 kA q_this o_this) → va_S A s.heap H locs → lv_has ls 2 [(1, .int x1)] → ff_X13_goes_b10 N o_this x1 t0 = some out → W p l e ({ frames := 1, cells := 0, slots := 0, locals := 20 } : Room) s m [.ref (q_this 0), .int a1].toArray below meth c H locs 0 0 (MQ below (mc_Q D kA A (some (.int out.1)) (ce_X13 kA q_this out.2)) [.ref (q_this 0), .int a1].toArray s 0 0 A) (F0 m 10 ls [.int t0, .ref (q_this 0)]) := by
    intro o_this x1 t0 H locs ls hP hD hS hl hf
    unfold ff_X13_goes_b10 at hf
    obtain ⟨u_2, he_3, hf⟩ := os_bd hf
    refine mc_callS ⟨hx, hb, hml, hown, hts⟩ (mm_X13_truth l D kA N t0 u_2 he_3) (va_cwS 1 hts gX13_goes_X13_truth rfl rfl rfl (by decide +kernel) ⟨Nat.le_of_ble_eq_true rfl, Nat.le_of_ble_eq_true rfl⟩) (wc := []) rfl hl.1 (As := [.int t0]) (rest := [.ref (q_this 0)]) rfl (Nat.le_of_ble_eq_true rfl) dX13_goes_10 ⟨Nat.le_of_ble_eq_true rfl, Nat.le_of_ble_eq_true rfl⟩ hK hP hD hS hA [] [0, 1, 2, 3, 4, 5, 6, 7, 8, 9, 10, 11, 12, 13, 14, 15, 16, 17, 18, 19, 20, 21, 22, 23] [0, 1, 2, 3, 4, 5, 6, 7, 8, 9, 10, 11, 12, 13, 14, 15, 16, 17, 18, 19, 20, 21, 22, 23] rfl (by decide) rfl (by decide) (by decide) rfl (by decide) (wr := (ce_X13 kA q_this o_this)) (w2 := (ce_X13 kA q_this o_this)) (fun H locs hP hD hS => ?_)
    have hP : va_P D vwCl (ce_X13 kA q_this o_this) H := hP
    refine va_put (D := D) (ci := 9) (v := .int u_2) (ty := .int) (C := RX13) (T := TX13) (N := 48) hx hb hUX13 (fun _ h9 => h9) tyX13 tyX13_ok nmX13 hown hK hP hD hS 0 rfl rfl 0 (by decide) (hts (Cond.fieldLink RX13 93 "ReliefBuilderModel" "code" "I") (List.mem_of_getElem? (i := 1) rfl)) (fun _ h9 => h9) rfl (tyX13_ok 0 (by decide)) rfl rfl (Nat.le_of_ble_eq_true rfl) dX13_goes_13 (fun H locs hP hD hS => ?_)
    have hP : va_P D vwCl (ce_X13 kA q_this (ss_I o_this 0 u_2)) H := hP
    have hD : va_D A (ce_X13 kA q_this (ss_I o_this 0 u_2)) := hD
    refine lv_iload_n hx hb dX13_goes_16 rfl (lv_at hl 0 rfl) ?_
    obtain ⟨hz_4, hf⟩ := os_if hf
    rw [← Option.some.inj hf]
    exact mc_retz hx hb hr (os_z_n hz_4) hlk hP hK hD hS dX13_goes_17
  unfold ff_X13_goes at hf
  refine lv_aload_n hx hb dX13_goes_0 rfl (lv_at hl 0 rfl) ?_
  refine lv_iload_n hx hb dX13_goes_1 rfl (lv_at hl 1 rfl) ?_
  refine lv_if_ne (tgt := 9) hx hb dX13_goes_2 (by decide) (fun hc_1 => ?_) (fun hc_1 => ?_)
  · rw [if_neg hc_1] at hf
    refine lv_iconst (v := 0) hx hb dX13_goes_9 (by decide) ?_
    exact hB10 o_this a1 (0 : Int32) _ _ _ hP hD hS (lv_sub hl [1] rfl) hf
  · rw [if_pos hc_1] at hf
    refine lv_iconst (v := 1) hx hb dX13_goes_5 (by decide) ?_
    refine lv_goto (tgt := 10) hx hb dX13_goes_6 (by decide) ?_
    exact hB10 o_this a1 (1 : Int32) _ _ _ hP hD hS (lv_sub hl [1] rfl) hf
def ff_X13_four_c3 (N : Nat) (k3 : (os_T × Int32 × Int32) → Option os_T) (o_this : os_T) (x1 : Int32) (x2 : Int32) : Option os_T :=
  (if x2 < 0 then some o_this else (if os_in (os_I o_this 2) 900 then k3 (ss_I (ss_A o_this 0 (upd (os_A o_this 0) (Int32.toNatClampNeg (os_I o_this 2)) ((x1 >>> (x2 &&& 31)) &&& (255 : Int32)))) 2 ((os_I o_this 2) + (1 : Int32)), x1, x2 + (-8)) else none))
def ff_X13_four_l3 (N : Nat) : Nat → (os_T × Int32 × Int32) → Option os_T := os_loop (fun k3 s1 => ff_X13_four_c3 N k3 s1.1 s1.2.1 s1.2.2)
def ff_X13_four (N : Nat) (o_this : os_T) (a1 : Int32) : Option os_T :=
  ff_X13_four_l3 N N (o_this, a1, (24 : Int32))
set_option maxHeartbeats 4000000 in
set_option maxRecDepth 100000 in
theorem mm_X13_four (l : Launch) (D : va_G) (kA : Nat → ClassId) (N : Nat) (q_this : Nat → Nat) (o_this : os_T) (a1 : Int32) (out : os_T) (hf : ff_X13_four N o_this a1 = some out) : mc_C l D kA yX13_four wsX13_four ({ frames := 0, cells := 0, slots := 0, locals := 0 } : Room) [.ref (q_this 0), .int a1] (ce_X13 kA q_this o_this) none (ce_X13 kA q_this out) := by
  refine mc_of (cc := cX13_four) (maxL := 3) (ret := none) (by decide) rfl (Nat.le_of_ble_eq_true rfl) ?_
  intro p e s m below meth c A B hD hP hS ls hl
  obtain ⟨hx, hb, hr, hlk, hml, hown, hts, hK, hA, hnm⟩ := B
  have hown : s.vm.findClass RX13 = some m.cls := hown
  have hl : lv_has ls 3 [(0, .ref (q_this 0)), (1, .int a1)] := hl
  have hUX13 : ∀ w ∈ u_ws RX13 TX13 48, w.before [.ref (q_this 0), .int a1].toArray s = true := fun w h => hts w (List.mem_cons_of_mem _ (List.mem_append_right _ h))
  have hL3 : ∀ (n : Nat) (o_this : os_T) (x1 : Int32) (x2 : Int32) (H : Heap) (locs : List Loc) (ls : Array Slot), va_P D vwCl (ce_X13 kA q_this o_this) H → va_D A (ce_X13 kA q_this o_this) → va_S A s.heap H locs → lv_has ls 3 [(0, .ref (q_this 0)), (1, .int x1), (2, .int x2)] → ff_X13_four_l3 N n (o_this, x1, x2) = some out → W p l e ({ frames := 0, cells := 0, slots := 0, locals := 0 } : Room) s m [.ref (q_this 0), .int a1].toArray below meth c H locs 0 0 (MQ below (mc_Q D kA A none (ce_X13 kA q_this out)) [.ref (q_this 0), .int a1].toArray s 0 0 A) (F0 m 3 ls []) := by
    intro n
    induction n with
    | zero => intro o_this x1 x2 H locs ls _ _ _ _ hf; cases hf
    | succ n hk3 =>
      intro o_this x1 x2 H locs ls hP hD hS hl hf
      have hf : ff_X13_four_c3 N (ff_X13_four_l3 N n) o_this x1 x2 = some out := hf
      generalize hke : ff_X13_four_l3 N n = k3 at hk3 hf
      unfold ff_X13_four_c3 at hf
      refine lv_iload_n hx hb dX13_four_3 rfl (lv_at hl 2 rfl) ?_
      refine lv_if_lt (tgt := 39) hx hb dX13_four_4 (by decide) (fun hc_1 => ?_) (fun hc_1 => ?_)
      · rw [if_pos hc_1] at hf
        rw [← Option.some.inj hf]
        exact mc_retv hx hb hr hlk hP hK hD hS dX13_four_39
      · rw [if_neg hc_1] at hf
        refine lv_aload_n hx hb dX13_four_7 rfl (lv_at hl 0 rfl) ?_
        refine va_get (D := D) (ci := 9) (v := .ref (q_this 1)) (C := RX13) (T := TX13) (N := 48) hx hb hUX13 (fun _ h9 => h9) hown hK hP 0 rfl rfl 1 (by decide) (hts (Cond.fieldLink RX13 7 "ReliefBuilderModel" "buffer" "[I") (List.mem_of_getElem? (i := 1) rfl)) (fun _ h9 => h9) rfl dX13_four_8 ?_
        refine lv_aload_n hx hb dX13_four_11 rfl (lv_at hl 0 rfl) ?_
        refine va_get (D := D) (ci := 9) (v := .int (os_I o_this 2)) (C := RX13) (T := TX13) (N := 48) hx hb hUX13 (fun _ h9 => h9) hown hK hP 0 rfl rfl 2 (by decide) (hts (Cond.fieldLink RX13 100 "ReliefBuilderModel" "filled" "I") (List.mem_of_getElem? (i := 2) rfl)) (fun _ h9 => h9) rfl dX13_four_12 ?_
        refine lv_iload_n hx hb dX13_four_15 rfl (lv_at hl 1 rfl) ?_
        refine lv_iload_n hx hb dX13_four_16 rfl (lv_at hl 2 rfl) ?_
        refine lv_ishr hx hb dX13_four_17 ?_
        refine lv_sipush (v := 255) hx hb dX13_four_18 (by decide) ?_
        refine lv_iand hx hb dX13_four_21 ?_
        obtain ⟨hi_2, hf⟩ := os_if hf
        refine va_iast hx hb hK hP hD hS 1 0 rfl rfl hi_2 dX13_four_22 (fun H locs hP hD hS => ?_)
        have hP : va_P D vwCl (ce_X13 kA q_this (ss_A o_this 0 (upd (os_A o_this 0) (Int32.toNatClampNeg (os_I o_this 2)) ((x1 >>> (x2 &&& 31)) &&& (255 : Int32))))) H := hP
        have hD : va_D A (ce_X13 kA q_this (ss_A o_this 0 (upd (os_A o_this 0) (Int32.toNatClampNeg (os_I o_this 2)) ((x1 >>> (x2 &&& 31)) &&& (255 : Int32))))) := hD
        refine lv_aload_n hx hb dX13_four_23 rfl (lv_at hl 0 rfl) ?_
        refine lv_dup hx hb dX13_four_24 rfl ?_
        refine va_get (D := D) (ci := 9) (v := .int (os_I o_this 2)) (C := RX13) (T := TX13) (N := 48) hx hb hUX13 (fun _ h9 => h9) hown hK hP 0 rfl rfl 2 (by decide) (hts (Cond.fieldLink RX13 100 "ReliefBuilderModel" "filled" "I") (List.mem_of_getElem? (i := 2) rfl)) (fun _ h9 => h9) rfl dX13_four_25 ?_
        refine lv_iconst (v := 1) hx hb dX13_four_28 (by decide) ?_
        refine lv_iadd hx hb dX13_four_29 ?_
        refine va_put (D := D) (ci := 9) (v := .int ((os_I o_this 2) + (1 : Int32))) (ty := .int) (C := RX13) (T := TX13) (N := 48) hx hb hUX13 (fun _ h9 => h9) tyX13 tyX13_ok nmX13 hown hK hP hD hS 0 rfl rfl 2 (by decide) (hts (Cond.fieldLink RX13 100 "ReliefBuilderModel" "filled" "I") (List.mem_of_getElem? (i := 2) rfl)) (fun _ h9 => h9) rfl (tyX13_ok 2 (by decide)) rfl rfl (Nat.le_of_ble_eq_true rfl) dX13_four_30 (fun H locs hP hD hS => ?_)
        have hP : va_P D vwCl (ce_X13 kA q_this (ss_I (ss_A o_this 0 (upd (os_A o_this 0) (Int32.toNatClampNeg (os_I o_this 2)) ((x1 >>> (x2 &&& 31)) &&& (255 : Int32)))) 2 ((os_I o_this 2) + (1 : Int32)))) H := hP
        have hD : va_D A (ce_X13 kA q_this (ss_I (ss_A o_this 0 (upd (os_A o_this 0) (Int32.toNatClampNeg (os_I o_this 2)) ((x1 >>> (x2 &&& 31)) &&& (255 : Int32)))) 2 ((os_I o_this 2) + (1 : Int32)))) := hD
        refine lv_iinc (v := x2 + (-8)) (lv' := [(2, .int (x2 + (-8))), (0, .ref (q_this 0)), (1, .int x1)]) hx hb dX13_four_33 hl (k := 2) rfl rfl (by decide) rfl (fun ls hl => ?_)
        refine lv_goto (tgt := 3) hx hb dX13_four_36 (by decide) ?_
        exact hk3 (ss_I (ss_A o_this 0 (upd (os_A o_this 0) (Int32.toNatClampNeg (os_I o_this 2)) ((x1 >>> (x2 &&& 31)) &&& (255 : Int32)))) 2 ((os_I o_this 2) + (1 : Int32))) x1 (x2 + (-8)) _ _ _ hP hD hS (lv_sub hl [1, 2, 0] rfl) hf
  unfold ff_X13_four at hf
  refine lv_bipush (v := 24) hx hb dX13_four_0 (by decide) ?_
  refine lv_istore_n (lv' := [(2, .int (24 : Int32)), (0, .ref (q_this 0)), (1, .int a1)]) hx hb dX13_four_2 rfl hl (by decide) rfl (fun ls hl => ?_)
  exact hL3 N o_this a1 (24 : Int32) _ _ _ hP hD hS (lv_sub hl [1, 2, 0] rfl) hf
def ff_X13_feed_b19 (N : Nat) (o_this : os_T) (x1 : Int32) (x2 : Int32) (x3 : Int32) (x4 : Int32) (x5 : Int32) (t0 : Int32) : Option (Int32 × os_T) :=
  ((ff_X13_goes N o_this t0).bind fun u_2 => (if u_2.1 = 0 then some ((0 : Int32), u_2.2) else ((ff_X13_four N u_2.2 x1).bind fun u_5 => ((ff_X13_four N u_5 x2).bind fun u_7 => ((ff_X13_four N u_7 x3).bind fun u_9 => ((ff_X13_four N u_9 x4).bind fun u_11 => ((ff_X13_four N u_11 x5).bind fun u_13 => some (os_I u_13 2, u_13))))))))
def ff_X13_feed (N : Nat) (o_this : os_T) (a1 : Int32) (a2 : Int32) (a3 : Int32) (a4 : Int32) (a5 : Int32) : Option (Int32 × os_T) :=
  (if (900 : Int32) < ((os_I o_this 2) + (20 : Int32)) then ff_X13_feed_b19 N o_this a1 a2 a3 a4 a5 (0 : Int32) else ff_X13_feed_b19 N o_this a1 a2 a3 a4 a5 (1 : Int32))
set_option maxHeartbeats 4000000 in
set_option maxRecDepth 100000 in
theorem mm_X13_feed (l : Launch) (D : va_G) (kA : Nat → ClassId) (N : Nat) (q_this : Nat → Nat) (o_this : os_T) (a1 : Int32) (a2 : Int32) (a3 : Int32) (a4 : Int32) (a5 : Int32) (out : (Int32 × os_T)) (hf : ff_X13_feed N o_this a1 a2 a3 a4 a5 = some out) : mc_C l D kA yX13_feed wsX13_feed ({ frames := 2, cells := 0, slots := 0, locals := 41 } : Room) [.ref (q_this 0), .int a1, .int a2, .int a3, .int a4, .int a5] (ce_X13 kA q_this o_this) (some (.int out.1)) (ce_X13 kA q_this out.2) := by
  refine mc_of (cc := cX13_feed) (maxL := 6) (ret := (some .int)) (by decide) rfl (Nat.le_of_ble_eq_true rfl) ?_
  intro p e s m below meth c A B hD hP hS ls hl
  obtain ⟨hx, hb, hr, hlk, hml, hown, hts, hK, hA, hnm⟩ := B
  have hown : s.vm.findClass RX13 = some m.cls := hown
  have hl : lv_has ls 6 [(0, .ref (q_this 0)), (1, .int a1), (2, .int a2), (3, .int a3), (4, .int a4), (5, .int a5)] := hl
  have hUX13 : ∀ w ∈ u_ws RX13 TX13 48, w.before [.ref (q_this 0), .int a1, .int a2, .int a3, .int a4, .int a5].toArray s = true := fun w h => hts w (List.mem_cons_of_mem _ (List.mem_append_right _ h))
  have hB19 : ∀ (o_this : os_T) (x1 : Int32) (x2 : Int32) (x3 : Int32) (x4 : Int32) (x5 : Int32) (t0 : Int32) (H : Heap) (locs : List Loc) (ls : Array Slot), va_P D vwCl (ce_X13 kA q_this o_this) H → va_D A (ce_X13 kA q_this o_this) → va_S A s.heap H locs → lv_has ls 6 [(0, .ref (q_this 0)), (1, .int x1), (2, .int x2), (3, .int x3), (4, .int x4), (5, .int x5)] → ff_X13_feed_b19 N o_this x1 x2 x3 x4 x5 t0 = some out → W p l e ({ frames := 2, cells := 0, slots := 0, locals := 41 } : Room) s m [.ref (q_this 0), .int a1, .int a2, .int a3, .int a4, .int a5].toArray below meth c H locs 0 0 (MQ below (mc_Q D kA A (some (.int out.1)) (ce_X13 kA q_this out.2)) [.ref (q_this 0), .int a1, .int a2, .int a3, .int a4, .int a5].toArray s 0 0 A) (F0 m 19 ls [.int t0, .ref (q_this 0)]) := by
    intro o_this x1 x2 x3 x4 x5 t0 H locs ls hP hD hS hl hf
    unfold ff_X13_feed_b19 at hf
    obtain ⟨u_2, he_3, hf⟩ := os_bd hf
    refine mc_callV ⟨hx, hb, hml, hown, hts⟩ (mm_X13_goes l D kA N q_this o_this t0 u_2 he_3) (cwV 1 hts gX13_feed_X13_goes rfl rfl rfl (by decide +kernel) ⟨Nat.le_of_ble_eq_true rfl, Nat.le_of_ble_eq_true rfl⟩) (wc := (ce_X13 kA q_this o_this)) (ci := 9) (q0 := 0) rfl rfl rfl hl.1 (As := [.int t0]) (rest := []) rfl (Nat.le_of_ble_eq_true rfl) dX13_feed_19 ⟨Nat.le_of_ble_eq_true rfl, Nat.le_of_ble_eq_true rfl⟩ hK hP hD hS hA [0, 1, 2, 3, 4, 5, 6, 7, 8, 9, 10, 11, 12, 13, 14, 15, 16, 17, 18, 19, 20, 21, 22, 23] [] [0, 1, 2, 3, 4, 5, 6, 7, 8, 9, 10, 11, 12, 13, 14, 15, 16, 17, 18, 19, 20, 21, 22, 23] rfl (by decide) rfl (by decide) (by decide) rfl (by decide) (wr := []) (w2 := (ce_X13 kA q_this u_2.2)) (fun H locs hP hD hS => ?_)
    have hP : va_P D vwCl (ce_X13 kA q_this u_2.2) H := hP
    refine lv_if_ne (tgt := 27) hx hb dX13_feed_22 (by decide) (fun hc_4 => ?_) (fun hc_4 => ?_)
    · rw [if_neg hc_4] at hf
      refine lv_aload_n hx hb dX13_feed_27 rfl (lv_at hl 0 rfl) ?_
      refine lv_iload_n hx hb dX13_feed_28 rfl (lv_at hl 1 rfl) ?_
      obtain ⟨u_5, he_6, hf⟩ := os_bd hf
      refine mc_callV ⟨hx, hb, hml, hown, hts⟩ (mm_X13_four l D kA N q_this u_2.2 x1 u_5 he_6) (cwV 1 hts gX13_feed_X13_four rfl rfl rfl (by decide +kernel) ⟨Nat.le_of_ble_eq_true rfl, Nat.le_of_ble_eq_true rfl⟩) (wc := (ce_X13 kA q_this u_2.2)) (ci := 9) (q0 := 0) rfl rfl rfl hl.1 (As := [.int x1]) (rest := []) rfl (Nat.le_of_ble_eq_true rfl) dX13_feed_29 ⟨Nat.le_of_ble_eq_true rfl, Nat.le_of_ble_eq_true rfl⟩ hK hP hD hS hA [0, 1, 2, 3, 4, 5, 6, 7, 8, 9, 10, 11, 12, 13, 14, 15, 16, 17, 18, 19, 20, 21, 22, 23] [] [0, 1, 2, 3, 4, 5, 6, 7, 8, 9, 10, 11, 12, 13, 14, 15, 16, 17, 18, 19, 20, 21, 22, 23] rfl (by decide) rfl (by decide) (by decide) rfl (by decide) (wr := []) (w2 := (ce_X13 kA q_this u_5)) (fun H locs hP hD hS => ?_)
      have hP : va_P D vwCl (ce_X13 kA q_this u_5) H := hP
      refine lv_aload_n hx hb dX13_feed_32 rfl (lv_at hl 0 rfl) ?_
      refine lv_iload_n hx hb dX13_feed_33 rfl (lv_at hl 2 rfl) ?_
      obtain ⟨u_7, he_8, hf⟩ := os_bd hf
      refine mc_callV ⟨hx, hb, hml, hown, hts⟩ (mm_X13_four l D kA N q_this u_5 x2 u_7 he_8) (cwV 1 hts gX13_feed_X13_four rfl rfl rfl (by decide +kernel) ⟨Nat.le_of_ble_eq_true rfl, Nat.le_of_ble_eq_true rfl⟩) (wc := (ce_X13 kA q_this u_5)) (ci := 9) (q0 := 0) rfl rfl rfl hl.1 (As := [.int x2]) (rest := []) rfl (Nat.le_of_ble_eq_true rfl) dX13_feed_34 ⟨Nat.le_of_ble_eq_true rfl, Nat.le_of_ble_eq_true rfl⟩ hK hP hD hS hA [0, 1, 2, 3, 4, 5, 6, 7, 8, 9, 10, 11, 12, 13, 14, 15, 16, 17, 18, 19, 20, 21, 22, 23] [] [0, 1, 2, 3, 4, 5, 6, 7, 8, 9, 10, 11, 12, 13, 14, 15, 16, 17, 18, 19, 20, 21, 22, 23] rfl (by decide) rfl (by decide) (by decide) rfl (by decide) (wr := []) (w2 := (ce_X13 kA q_this u_7)) (fun H locs hP hD hS => ?_)
      have hP : va_P D vwCl (ce_X13 kA q_this u_7) H := hP
      refine lv_aload_n hx hb dX13_feed_37 rfl (lv_at hl 0 rfl) ?_
      refine lv_iload_n hx hb dX13_feed_38 rfl (lv_at hl 3 rfl) ?_
      obtain ⟨u_9, he_10, hf⟩ := os_bd hf
      refine mc_callV ⟨hx, hb, hml, hown, hts⟩ (mm_X13_four l D kA N q_this u_7 x3 u_9 he_10) (cwV 1 hts gX13_feed_X13_four rfl rfl rfl (by decide +kernel) ⟨Nat.le_of_ble_eq_true rfl, Nat.le_of_ble_eq_true rfl⟩) (wc := (ce_X13 kA q_this u_7)) (ci := 9) (q0 := 0) rfl rfl rfl hl.1 (As := [.int x3]) (rest := []) rfl (Nat.le_of_ble_eq_true rfl) dX13_feed_39 ⟨Nat.le_of_ble_eq_true rfl, Nat.le_of_ble_eq_true rfl⟩ hK hP hD hS hA [0, 1, 2, 3, 4, 5, 6, 7, 8, 9, 10, 11, 12, 13, 14, 15, 16, 17, 18, 19, 20, 21, 22, 23] [] [0, 1, 2, 3, 4, 5, 6, 7, 8, 9, 10, 11, 12, 13, 14, 15, 16, 17, 18, 19, 20, 21, 22, 23] rfl (by decide) rfl (by decide) (by decide) rfl (by decide) (wr := []) (w2 := (ce_X13 kA q_this u_9)) (fun H locs hP hD hS => ?_)
      have hP : va_P D vwCl (ce_X13 kA q_this u_9) H := hP
      refine lv_aload_n hx hb dX13_feed_42 rfl (lv_at hl 0 rfl) ?_
      refine lv_iload hx hb dX13_feed_43 (lv_at hl 4 rfl) ?_
      obtain ⟨u_11, he_12, hf⟩ := os_bd hf
      refine mc_callV ⟨hx, hb, hml, hown, hts⟩ (mm_X13_four l D kA N q_this u_9 x4 u_11 he_12) (cwV 1 hts gX13_feed_X13_four rfl rfl rfl (by decide +kernel) ⟨Nat.le_of_ble_eq_true rfl, Nat.le_of_ble_eq_true rfl⟩) (wc := (ce_X13 kA q_this u_9)) (ci := 9) (q0 := 0) rfl rfl rfl hl.1 (As := [.int x4]) (rest := []) rfl (Nat.le_of_ble_eq_true rfl) dX13_feed_45 ⟨Nat.le_of_ble_eq_true rfl, Nat.le_of_ble_eq_true rfl⟩ hK hP hD hS hA [0, 1, 2, 3, 4, 5, 6, 7, 8, 9, 10, 11, 12, 13, 14, 15, 16, 17, 18, 19, 20, 21, 22, 23] [] [0, 1, 2, 3, 4, 5, 6, 7, 8, 9, 10, 11, 12, 13, 14, 15, 16, 17, 18, 19, 20, 21, 22, 23] rfl (by decide) rfl (by decide) (by decide) rfl (by decide) (wr := []) (w2 := (ce_X13 kA q_this u_11)) (fun H locs hP hD hS => ?_)
      have hP : va_P D vwCl (ce_X13 kA q_this u_11) H := hP
      refine lv_aload_n hx hb dX13_feed_48 rfl (lv_at hl 0 rfl) ?_
      refine lv_iload hx hb dX13_feed_49 (lv_at hl 5 rfl) ?_
      obtain ⟨u_13, he_14, hf⟩ := os_bd hf
      refine mc_callV ⟨hx, hb, hml, hown, hts⟩ (mm_X13_four l D kA N q_this u_11 x5 u_13 he_14) (cwV 1 hts gX13_feed_X13_four rfl rfl rfl (by decide +kernel) ⟨Nat.le_of_ble_eq_true rfl, Nat.le_of_ble_eq_true rfl⟩) (wc := (ce_X13 kA q_this u_11)) (ci := 9) (q0 := 0) rfl rfl rfl hl.1 (As := [.int x5]) (rest := []) rfl (Nat.le_of_ble_eq_true rfl) dX13_feed_51 ⟨Nat.le_of_ble_eq_true rfl, Nat.le_of_ble_eq_true rfl⟩ hK hP hD hS hA [0, 1, 2, 3, 4, 5, 6, 7, 8, 9, 10, 11, 12, 13, 14, 15, 16, 17, 18, 19, 20, 21, 22, 23] [] [0, 1, 2, 3, 4, 5, 6, 7, 8, 9, 10, 11, 12, 13, 14, 15, 16, 17, 18, 19, 20, 21, 22, 23] rfl (by decide) rfl (by decide) (by decide) rfl (by decide) (wr := []) (w2 := (ce_X13 kA q_this u_13)) (fun H locs hP hD hS => ?_)
      have hP : va_P D vwCl (ce_X13 kA q_this u_13) H := hP
      refine lv_aload_n hx hb dX13_feed_54 rfl (lv_at hl 0 rfl) ?_
      refine va_get (D := D) (ci := 9) (v := .int (os_I u_13 2)) (C := RX13) (T := TX13) (N := 48) hx hb hUX13 (fun _ h9 => h9) hown hK hP 0 rfl rfl 2 (by decide) (hts (Cond.fieldLink RX13 100 "ReliefBuilderModel" "filled" "I") (List.mem_of_getElem? (i := 1) rfl)) (fun _ h9 => h9) rfl dX13_feed_55 ?_
      rw [← Option.some.inj hf]
      exact mc_reti hx hb hr hlk hP hK hD hS dX13_feed_58
    · rw [if_pos hc_4] at hf
      refine lv_iconst (v := 0) hx hb dX13_feed_25 (by decide) ?_
      rw [← Option.some.inj hf]
      exact mc_reti hx hb hr hlk hP hK hD hS dX13_feed_26
  unfold ff_X13_feed at hf
  refine lv_aload_n hx hb dX13_feed_0 rfl (lv_at hl 0 rfl) ?_
  refine lv_aload_n hx hb dX13_feed_1 rfl (lv_at hl 0 rfl) ?_
  refine va_get (D := D) (ci := 9) (v := .int (os_I o_this 2)) (C := RX13) (T := TX13) (N := 48) hx hb hUX13 (fun _ h9 => h9) hown hK hP 0 rfl rfl 2 (by decide) (hts (Cond.fieldLink RX13 100 "ReliefBuilderModel" "filled" "I") (List.mem_of_getElem? (i := 1) rfl)) (fun _ h9 => h9) rfl dX13_feed_2 ?_
  refine lv_bipush (v := 20) hx hb dX13_feed_5 (by decide) ?_
  refine lv_iadd hx hb dX13_feed_7 ?_
  refine lv_sipush (v := 900) hx hb dX13_feed_8 (by decide) ?_
  refine lv_icmp_gt (tgt := 18) hx hb dX13_feed_11 (by decide) (fun hc_1 => ?_) (fun hc_1 => ?_)
  · rw [if_pos hc_1] at hf
    refine lv_iconst (v := 0) hx hb dX13_feed_18 (by decide) ?_
    exact hB19 o_this a1 a2 a3 a4 a5 (0 : Int32) _ _ _ hP hD hS (lv_sub hl [0, 1, 2, 3, 4, 5] rfl) hf
  · rw [if_neg hc_1] at hf
    refine lv_iconst (v := 1) hx hb dX13_feed_14 (by decide) ?_
    refine lv_goto (tgt := 19) hx hb dX13_feed_15 (by decide) ?_
    exact hB19 o_this a1 a2 a3 a4 a5 (1 : Int32) _ _ _ hP hD hS (lv_sub hl [0, 1, 2, 3, 4, 5] rfl) hf
def ff_X13_truncate (N : Nat) (o_this : os_T) (a1 : Int32) : Option (Int32 × os_T) :=
  ((ff_X13_isIn N (Int32.toInt64 a1) (0 : Int64) (Int32.toInt64 (os_I o_this 2))).bind fun u_1 => ((ff_X13_goes N o_this u_1).bind fun u_3 => (if u_3.1 = 0 then some ((0 : Int32), u_3.2) else some (a1, ss_I u_3.2 2 a1))))
set_option maxHeartbeats 4000000 in
set_option maxRecDepth 100000 in
theorem mm_X13_truncate (l : Launch) (D : va_G) (kA : Nat → ClassId) (N : Nat) (q_this : Nat → Nat) (o_this : os_T) (a1 : Int32) (out : (Int32 × os_T)) (hf : ff_X13_truncate N o_this a1 = some out) : mc_C l D kA yX13_truncate wsX13_truncate ({ frames := 2, cells := 0, slots := 0, locals := 41 } : Room) [.ref (q_this 0), .int a1] (ce_X13 kA q_this o_this) (some (.int out.1)) (ce_X13 kA q_this out.2) := by
  refine mc_of (cc := cX13_truncate) (maxL := 2) (ret := (some .int)) (by decide) rfl (Nat.le_of_ble_eq_true rfl) ?_
  intro p e s m below meth c A B hD hP hS ls hl
  obtain ⟨hx, hb, hr, hlk, hml, hown, hts, hK, hA, hnm⟩ := B
  have hown : s.vm.findClass RX13 = some m.cls := hown
  have hl : lv_has ls 2 [(0, .ref (q_this 0)), (1, .int a1)] := hl
  have hUX13 : ∀ w ∈ u_ws RX13 TX13 48, w.before [.ref (q_this 0), .int a1].toArray s = true := fun w h => hts w (List.mem_cons_of_mem _ (List.mem_append_right _ h))
  unfold ff_X13_truncate at hf
  refine lv_aload_n hx hb dX13_truncate_0 rfl (lv_at hl 0 rfl) ?_
  refine lv_iload_n hx hb dX13_truncate_1 rfl (lv_at hl 1 rfl) ?_
  refine lv_i2l hx hb dX13_truncate_2 rfl ?_
  refine lv_lconst (v := 0) hx hb dX13_truncate_3 (by decide) ?_
  refine lv_aload_n hx hb dX13_truncate_4 rfl (lv_at hl 0 rfl) ?_
  refine va_get (D := D) (ci := 9) (v := .int (os_I o_this 2)) (C := RX13) (T := TX13) (N := 48) hx hb hUX13 (fun _ h9 => h9) hown hK hP 0 rfl rfl 2 (by decide) (hts (Cond.fieldLink RX13 100 "ReliefBuilderModel" "filled" "I") (List.mem_of_getElem? (i := 1) rfl)) (fun _ h9 => h9) rfl dX13_truncate_5 ?_
  refine lv_i2l hx hb dX13_truncate_8 rfl ?_
  obtain ⟨u_1, he_2, hf⟩ := os_bd hf
  refine mc_callS ⟨hx, hb, hml, hown, hts⟩ (mm_X13_isIn l D kA N (Int32.toInt64 a1) (0 : Int64) (Int32.toInt64 (os_I o_this 2)) u_1 he_2) (va_cwS 3 hts gX13_truncate_X13_isIn rfl rfl rfl (by decide +kernel) ⟨Nat.le_of_ble_eq_true rfl, Nat.le_of_ble_eq_true rfl⟩) (wc := []) rfl hl.1 (As := [.long (Int32.toInt64 a1), .long (0 : Int64), .long (Int32.toInt64 (os_I o_this 2))]) (rest := [.ref (q_this 0)]) rfl (Nat.le_of_ble_eq_true rfl) dX13_truncate_9 ⟨Nat.le_of_ble_eq_true rfl, Nat.le_of_ble_eq_true rfl⟩ hK hP hD hS hA [] [0, 1, 2, 3, 4, 5, 6, 7, 8, 9, 10, 11, 12, 13, 14, 15, 16, 17, 18, 19, 20, 21, 22, 23] [0, 1, 2, 3, 4, 5, 6, 7, 8, 9, 10, 11, 12, 13, 14, 15, 16, 17, 18, 19, 20, 21, 22, 23] rfl (by decide) rfl (by decide) (by decide) rfl (by decide) (wr := (ce_X13 kA q_this o_this)) (w2 := (ce_X13 kA q_this o_this)) (fun H locs hP hD hS => ?_)
  have hP : va_P D vwCl (ce_X13 kA q_this o_this) H := hP
  obtain ⟨u_3, he_4, hf⟩ := os_bd hf
  refine mc_callV ⟨hx, hb, hml, hown, hts⟩ (mm_X13_goes l D kA N q_this o_this u_1 u_3 he_4) (cwV 1 hts gX13_truncate_X13_goes rfl rfl rfl (by decide +kernel) ⟨Nat.le_of_ble_eq_true rfl, Nat.le_of_ble_eq_true rfl⟩) (wc := (ce_X13 kA q_this o_this)) (ci := 9) (q0 := 0) rfl rfl rfl hl.1 (As := [.int u_1]) (rest := []) rfl (Nat.le_of_ble_eq_true rfl) dX13_truncate_12 ⟨Nat.le_of_ble_eq_true rfl, Nat.le_of_ble_eq_true rfl⟩ hK hP hD hS hA [0, 1, 2, 3, 4, 5, 6, 7, 8, 9, 10, 11, 12, 13, 14, 15, 16, 17, 18, 19, 20, 21, 22, 23] [] [0, 1, 2, 3, 4, 5, 6, 7, 8, 9, 10, 11, 12, 13, 14, 15, 16, 17, 18, 19, 20, 21, 22, 23] rfl (by decide) rfl (by decide) (by decide) rfl (by decide) (wr := []) (w2 := (ce_X13 kA q_this u_3.2)) (fun H locs hP hD hS => ?_)
  have hP : va_P D vwCl (ce_X13 kA q_this u_3.2) H := hP
  refine lv_if_ne (tgt := 20) hx hb dX13_truncate_15 (by decide) (fun hc_5 => ?_) (fun hc_5 => ?_)
  · rw [if_neg hc_5] at hf
    refine lv_aload_n hx hb dX13_truncate_20 rfl (lv_at hl 0 rfl) ?_
    refine lv_iload_n hx hb dX13_truncate_21 rfl (lv_at hl 1 rfl) ?_
    refine va_put (D := D) (ci := 9) (v := .int a1) (ty := .int) (C := RX13) (T := TX13) (N := 48) hx hb hUX13 (fun _ h9 => h9) tyX13 tyX13_ok nmX13 hown hK hP hD hS 0 rfl rfl 2 (by decide) (hts (Cond.fieldLink RX13 100 "ReliefBuilderModel" "filled" "I") (List.mem_of_getElem? (i := 1) rfl)) (fun _ h9 => h9) rfl (tyX13_ok 2 (by decide)) rfl rfl (Nat.le_of_ble_eq_true rfl) dX13_truncate_22 (fun H locs hP hD hS => ?_)
    have hP : va_P D vwCl (ce_X13 kA q_this (ss_I u_3.2 2 a1)) H := hP
    have hD : va_D A (ce_X13 kA q_this (ss_I u_3.2 2 a1)) := hD
    refine lv_iload_n hx hb dX13_truncate_25 rfl (lv_at hl 1 rfl) ?_
    rw [← Option.some.inj hf]
    exact mc_reti hx hb hr hlk hP hK hD hS dX13_truncate_26
  · rw [if_pos hc_5] at hf
    refine lv_iconst (v := 0) hx hb dX13_truncate_18 (by decide) ?_
    rw [← Option.some.inj hf]
    exact mc_reti hx hb hr hlk hP hK hD hS dX13_truncate_19
def ff_X13_here (N : Nat) (o_this : os_T) (a1 : Int32) : Option Int32 :=
  (if (os_I o_this 3) ≤ ((os_I o_this 4) + a1) then some (-1 : Int32) else (if os_in ((os_I o_this 4) + a1) 900 then some ((os_A o_this 0) (Int32.toNatClampNeg ((os_I o_this 4) + a1))) else none))
set_option maxHeartbeats 4000000 in
set_option maxRecDepth 100000 in
theorem mm_X13_here (l : Launch) (D : va_G) (kA : Nat → ClassId) (N : Nat) (q_this : Nat → Nat) (o_this : os_T) (a1 : Int32) (out : Int32) (hf : ff_X13_here N o_this a1 = some out) : mc_C l D kA yX13_here wsX13_here ({ frames := 0, cells := 0, slots := 0, locals := 0 } : Room) [.ref (q_this 0), .int a1] (ce_X13 kA q_this o_this) (some (.int out)) (ce_X13 kA q_this o_this) := by
  refine mc_of (cc := cX13_here) (maxL := 2) (ret := (some .int)) (by decide) rfl (Nat.le_of_ble_eq_true rfl) ?_
  intro p e s m below meth c A B hD hP hS ls hl
  obtain ⟨hx, hb, hr, hlk, hml, hown, hts, hK, hA, hnm⟩ := B
  have hown : s.vm.findClass RX13 = some m.cls := hown
  have hl : lv_has ls 2 [(0, .ref (q_this 0)), (1, .int a1)] := hl
  have hUX13 : ∀ w ∈ u_ws RX13 TX13 48, w.before [.ref (q_this 0), .int a1].toArray s = true := fun w h => hts w (List.mem_cons_of_mem _ (List.mem_append_right _ h))
  unfold ff_X13_here at hf
  refine lv_aload_n hx hb dX13_here_0 rfl (lv_at hl 0 rfl) ?_
  refine va_get (D := D) (ci := 9) (v := .int (os_I o_this 4)) (C := RX13) (T := TX13) (N := 48) hx hb hUX13 (fun _ h9 => h9) hown hK hP 0 rfl rfl 4 (by decide) (hts (Cond.fieldLink RX13 115 "ReliefBuilderModel" "at" "I") (List.mem_of_getElem? (i := 1) rfl)) (fun _ h9 => h9) rfl dX13_here_1 ?_
  refine lv_iload_n hx hb dX13_here_4 rfl (lv_at hl 1 rfl) ?_
  refine lv_iadd hx hb dX13_here_5 ?_
  refine lv_aload_n hx hb dX13_here_6 rfl (lv_at hl 0 rfl) ?_
  refine va_get (D := D) (ci := 9) (v := .int (os_I o_this 3)) (C := RX13) (T := TX13) (N := 48) hx hb hUX13 (fun _ h9 => h9) hown hK hP 0 rfl rfl 3 (by decide) (hts (Cond.fieldLink RX13 118 "ReliefBuilderModel" "bytes" "I") (List.mem_of_getElem? (i := 2) rfl)) (fun _ h9 => h9) rfl dX13_here_7 ?_
  refine lv_icmp_ge (tgt := 27) hx hb dX13_here_10 (by decide) (fun hc_1 => ?_) (fun hc_1 => ?_)
  · rw [if_pos hc_1] at hf
    refine lv_iconst (v := (-1)) hx hb dX13_here_27 (by decide) ?_
    rw [← Option.some.inj hf]
    exact mc_reti hx hb hr hlk hP hK hD hS dX13_here_28
  · rw [if_neg hc_1] at hf
    refine lv_aload_n hx hb dX13_here_13 rfl (lv_at hl 0 rfl) ?_
    refine va_get (D := D) (ci := 9) (v := .ref (q_this 1)) (C := RX13) (T := TX13) (N := 48) hx hb hUX13 (fun _ h9 => h9) hown hK hP 0 rfl rfl 1 (by decide) (hts (Cond.fieldLink RX13 7 "ReliefBuilderModel" "buffer" "[I") (List.mem_of_getElem? (i := 3) rfl)) (fun _ h9 => h9) rfl dX13_here_14 ?_
    refine lv_aload_n hx hb dX13_here_17 rfl (lv_at hl 0 rfl) ?_
    refine va_get (D := D) (ci := 9) (v := .int (os_I o_this 4)) (C := RX13) (T := TX13) (N := 48) hx hb hUX13 (fun _ h9 => h9) hown hK hP 0 rfl rfl 4 (by decide) (hts (Cond.fieldLink RX13 115 "ReliefBuilderModel" "at" "I") (List.mem_of_getElem? (i := 1) rfl)) (fun _ h9 => h9) rfl dX13_here_18 ?_
    refine lv_iload_n hx hb dX13_here_21 rfl (lv_at hl 1 rfl) ?_
    refine lv_iadd hx hb dX13_here_22 ?_
    obtain ⟨hi_2, hf⟩ := os_if hf
    refine va_iald hx hb hK hP 1 0 rfl rfl hi_2 dX13_here_23 ?_
    refine lv_goto (tgt := 28) hx hb dX13_here_24 (by decide) ?_
    rw [← Option.some.inj hf]
    exact mc_reti hx hb hr hlk hP hK hD hS dX13_here_28
def ff_X13_isLetter (N : Nat) (a0 : Int32) : Option Int32 :=
  (if a0 < (97 : Int32) then some (0 : Int32) else (if (122 : Int32) < a0 then some (0 : Int32) else some (1 : Int32)))
set_option maxHeartbeats 4000000 in
set_option maxRecDepth 100000 in
theorem mm_X13_isLetter (l : Launch) (D : va_G) (kA : Nat → ClassId) (N : Nat) (a0 : Int32) (out : Int32) (hf : ff_X13_isLetter N a0 = some out) : mc_C l D kA yX13_isLetter wsX13_isLetter ({ frames := 0, cells := 0, slots := 0, locals := 0 } : Room) [.int a0] [] (some (.int out)) [] := by
  refine mc_of (cc := cX13_isLetter) (maxL := 1) (ret := (some .boolean)) (by decide) rfl (Nat.le_of_ble_eq_true rfl) ?_
  intro p e s m below meth c A B hD hP hS ls hl
  obtain ⟨hx, hb, hr, hlk, hml, hown, hts, hK, hA, hnm⟩ := B
  have hown : s.vm.findClass RX13 = some m.cls := hown
  have hl : lv_has ls 1 [(0, .int a0)] := hl
  unfold ff_X13_isLetter at hf
  refine lv_iload_n hx hb dX13_isLetter_0 rfl (lv_at hl 0 rfl) ?_
  refine lv_bipush (v := 97) hx hb dX13_isLetter_1 (by decide) ?_
  refine lv_icmp_lt (tgt := 16) hx hb dX13_isLetter_3 (by decide) (fun hc_1 => ?_) (fun hc_1 => ?_)
  · rw [if_pos hc_1] at hf
    refine lv_iconst (v := 0) hx hb dX13_isLetter_16 (by decide) ?_
    rw [← Option.some.inj hf]
    exact mc_retz (v := 0) hx hb hr rfl hlk hP hK hD hS dX13_isLetter_17
  · rw [if_neg hc_1] at hf
    refine lv_iload_n hx hb dX13_isLetter_6 rfl (lv_at hl 0 rfl) ?_
    refine lv_bipush (v := 122) hx hb dX13_isLetter_7 (by decide) ?_
    refine lv_icmp_gt (tgt := 16) hx hb dX13_isLetter_9 (by decide) (fun hc_2 => ?_) (fun hc_2 => ?_)
    · rw [if_pos hc_2] at hf
      refine lv_iconst (v := 0) hx hb dX13_isLetter_16 (by decide) ?_
      rw [← Option.some.inj hf]
      exact mc_retz (v := 0) hx hb hr rfl hlk hP hK hD hS dX13_isLetter_17
    · rw [if_neg hc_2] at hf
      refine lv_iconst (v := 1) hx hb dX13_isLetter_12 (by decide) ?_
      refine lv_goto (tgt := 17) hx hb dX13_isLetter_13 (by decide) ?_
      rw [← Option.some.inj hf]
      exact mc_retz (v := 1) hx hb hr rfl hlk hP hK hD hS dX13_isLetter_17
def ff_X13_isDigit (N : Nat) (a0 : Int32) : Option Int32 :=
  (if a0 < (48 : Int32) then some (0 : Int32) else (if (57 : Int32) < a0 then some (0 : Int32) else some (1 : Int32)))
set_option maxHeartbeats 4000000 in
set_option maxRecDepth 100000 in
theorem mm_X13_isDigit (l : Launch) (D : va_G) (kA : Nat → ClassId) (N : Nat) (a0 : Int32) (out : Int32) (hf : ff_X13_isDigit N a0 = some out) : mc_C l D kA yX13_isDigit wsX13_isDigit ({ frames := 0, cells := 0, slots := 0, locals := 0 } : Room) [.int a0] [] (some (.int out)) [] := by
  refine mc_of (cc := cX13_isDigit) (maxL := 1) (ret := (some .boolean)) (by decide) rfl (Nat.le_of_ble_eq_true rfl) ?_
  intro p e s m below meth c A B hD hP hS ls hl
  obtain ⟨hx, hb, hr, hlk, hml, hown, hts, hK, hA, hnm⟩ := B
  have hown : s.vm.findClass RX13 = some m.cls := hown
  have hl : lv_has ls 1 [(0, .int a0)] := hl
  unfold ff_X13_isDigit at hf
  refine lv_iload_n hx hb dX13_isDigit_0 rfl (lv_at hl 0 rfl) ?_
  refine lv_bipush (v := 48) hx hb dX13_isDigit_1 (by decide) ?_
  refine lv_icmp_lt (tgt := 16) hx hb dX13_isDigit_3 (by decide) (fun hc_1 => ?_) (fun hc_1 => ?_)
  · rw [if_pos hc_1] at hf
    refine lv_iconst (v := 0) hx hb dX13_isDigit_16 (by decide) ?_
    rw [← Option.some.inj hf]
    exact mc_retz (v := 0) hx hb hr rfl hlk hP hK hD hS dX13_isDigit_17
  · rw [if_neg hc_1] at hf
    refine lv_iload_n hx hb dX13_isDigit_6 rfl (lv_at hl 0 rfl) ?_
    refine lv_bipush (v := 57) hx hb dX13_isDigit_7 (by decide) ?_
    refine lv_icmp_gt (tgt := 16) hx hb dX13_isDigit_9 (by decide) (fun hc_2 => ?_) (fun hc_2 => ?_)
    · rw [if_pos hc_2] at hf
      refine lv_iconst (v := 0) hx hb dX13_isDigit_16 (by decide) ?_
      rw [← Option.some.inj hf]
      exact mc_retz (v := 0) hx hb hr rfl hlk hP hK hD hS dX13_isDigit_17
    · rw [if_neg hc_2] at hf
      refine lv_iconst (v := 1) hx hb dX13_isDigit_12 (by decide) ?_
      refine lv_goto (tgt := 17) hx hb dX13_isDigit_13 (by decide) ?_
      rw [← Option.some.inj hf]
      exact mc_retz (v := 1) hx hb hr rfl hlk hP hK hD hS dX13_isDigit_17
def ff_X13_goOn_b20 (N : Nat) (k0 : os_T → Option os_T) (o_this : os_T) : Option os_T :=
  k0 (ss_I o_this 4 ((os_I o_this 4) + (1 : Int32)))
def ff_X13_goOn_b239 (N : Nat) (o_this : os_T) (x2 : Int32) : Option os_T :=
  some (ss_I o_this 4 ((os_I o_this 4) + x2))
def ff_X13_goOn_b229 (N : Nat) (o_this : os_T) (x1 : Int32) (t0 : Int32) : Option os_T :=
  ff_X13_goOn_b239 N (ss_I (ss_I o_this 6 t0) 7 x1) (1 : Int32)
def ff_X13_goOn_b224 (N : Nat) (o_this : os_T) (x1 : Int32) : Option os_T :=
  ff_X13_goOn_b229 N o_this x1 (3 : Int32)
def ff_X13_goOn_b199 (N : Nat) (o_this : os_T) (x2 : Int32) (t0 : Int32) : Option os_T :=
  ff_X13_goOn_b239 N (ss_I o_this 6 t0) x2
def ff_X13_goOn_b182 (N : Nat) (k146 : (os_T × Int32) → Option os_T) (o_this : os_T) (x2 : Int32) : Option os_T :=
  k146 (o_this, x2 + 1)
def ff_X13_goOn_c146 (N : Nat) (k146 : (os_T × Int32) → Option os_T) (o_this : os_T) (x2 : Int32) : Option os_T :=
  ((ff_X13_here N o_this x2).bind fun u_19 => ((ff_X13_isDigit N u_19).bind fun u_21 => (if u_21 = 0 then (if x2 ≤ (4 : Int32) then ff_X13_goOn_b199 N o_this x2 (2 : Int32) else ff_X13_goOn_b199 N o_this x2 (4 : Int32)) else (if (4 : Int32) ≤ x2 then ff_X13_goOn_b182 N k146 o_this x2 else ((ff_X13_here N o_this x2).bind fun u_26 => ff_X13_goOn_b182 N k146 (ss_I o_this 7 ((((10 : Int32) * (os_I o_this 7)) + u_26) - (48 : Int32))) x2)))))
def ff_X13_goOn_l146 (N : Nat) : Nat → (os_T × Int32) → Option os_T := os_loop (fun k146 s1 => ff_X13_goOn_c146 N k146 s1.1 s1.2)
def ff_X13_goOn_b133 (N : Nat) (o_this : os_T) (x2 : Int32) (t0 : Int32) : Option os_T :=
  ff_X13_goOn_b239 N (ss_I o_this 6 t0) x2
def ff_X13_goOn_b115 (N : Nat) (k76 : (os_T × Int32) → Option os_T) (o_this : os_T) (x2 : Int32) : Option os_T :=
  k76 (o_this, x2 + 1)
def ff_X13_goOn_c76 (N : Nat) (k76 : (os_T × Int32) → Option os_T) (o_this : os_T) (x2 : Int32) : Option os_T :=
  ((ff_X13_here N o_this x2).bind fun u_28 => ((ff_X13_isLetter N u_28).bind fun u_30 => (if u_30 = 0 then (if x2 ≤ (8 : Int32) then ff_X13_goOn_b133 N o_this x2 (1 : Int32) else ff_X13_goOn_b133 N o_this x2 (4 : Int32)) else (if (8 : Int32) ≤ x2 then ff_X13_goOn_b115 N k76 o_this x2 else ((ff_X13_here N o_this x2).bind fun u_35 => ff_X13_goOn_b115 N k76 (ss_L o_this 12 (((os_L o_this 12) <<< (Int32.toInt64 (5 : Int32) &&& 63)) ||| (Int32.toInt64 ((u_35 - (97 : Int32)) + (1 : Int32))))) x2)))))
def ff_X13_goOn_l76 (N : Nat) : Nat → (os_T × Int32) → Option os_T := os_loop (fun k76 s1 => ff_X13_goOn_c76 N k76 s1.1 s1.2)
def ff_X13_goOn_c0 (N : Nat) (k0 : os_T → Option os_T) (o_this : os_T) : Option os_T :=
  ((ff_X13_here N o_this (0 : Int32)).bind fun u_1 => (if u_1 = (32 : Int32) then ff_X13_goOn_b20 N k0 o_this else ((ff_X13_here N o_this (0 : Int32)).bind fun u_4 => (if u_4 = (10 : Int32) then ff_X13_goOn_b20 N k0 o_this else ((ff_X13_here N (ss_I (ss_I (ss_L o_this 12 (0 : Int64)) 5 (os_I o_this 4)) 7 (0 : Int32)) (0 : Int32)).bind fun u_7 => (if 0 ≤ u_7 then ((ff_X13_isLetter N u_7).bind fun u_10 => (if u_10 = 0 then ((ff_X13_isDigit N u_7).bind fun u_13 => (if u_13 = 0 then (if u_7 = (59 : Int32) then ff_X13_goOn_b224 N (ss_I (ss_I (ss_L o_this 12 (0 : Int64)) 5 (os_I o_this 4)) 7 (0 : Int32)) u_7 else (if u_7 = (40 : Int32) then ff_X13_goOn_b224 N (ss_I (ss_I (ss_L o_this 12 (0 : Int64)) 5 (os_I o_this 4)) 7 (0 : Int32)) u_7 else (if u_7 = (41 : Int32) then ff_X13_goOn_b224 N (ss_I (ss_I (ss_L o_this 12 (0 : Int64)) 5 (os_I o_this 4)) 7 (0 : Int32)) u_7 else ff_X13_goOn_b229 N (ss_I (ss_I (ss_L o_this 12 (0 : Int64)) 5 (os_I o_this 4)) 7 (0 : Int32)) u_7 (4 : Int32)))) else ff_X13_goOn_l146 N N (ss_I (ss_I (ss_L o_this 12 (0 : Int64)) 5 (os_I o_this 4)) 7 (0 : Int32), (0 : Int32)))) else ff_X13_goOn_l76 N N (ss_I (ss_I (ss_L o_this 12 (0 : Int64)) 5 (os_I o_this 4)) 7 (0 : Int32), (0 : Int32)))) else some (ss_I (ss_I (ss_I (ss_L o_this 12 (0 : Int64)) 5 (os_I o_this 4)) 6 (0 : Int32)) 7 (0 : Int32))))))))
def ff_X13_goOn_l0 (N : Nat) : Nat → os_T → Option os_T := os_loop (fun k0 s1 => ff_X13_goOn_c0 N k0 s1)
def ff_X13_goOn (N : Nat) (o_this : os_T) : Option os_T :=
  ff_X13_goOn_l0 N N o_this
set_option maxHeartbeats 4000000 in
set_option maxRecDepth 100000 in
theorem mm_X13_goOn (l : Launch) (D : va_G) (kA : Nat → ClassId) (N : Nat) (q_this : Nat → Nat) (o_this : os_T) (out : os_T) (hf : ff_X13_goOn N o_this = some out) : mc_C l D kA yX13_goOn wsX13_goOn ({ frames := 1, cells := 0, slots := 0, locals := 21 } : Room) [.ref (q_this 0)] (ce_X13 kA q_this o_this) none (ce_X13 kA q_this out) := by
  refine mc_of (cc := cX13_goOn) (maxL := 3) (ret := none) (by decide) rfl (Nat.le_of_ble_eq_true rfl) ?_
  intro p e s m below meth c A B hD hP hS ls hl
  obtain ⟨hx, hb, hr, hlk, hml, hown, hts, hK, hA, hnm⟩ := B
  have hown : s.vm.findClass RX13 = some m.cls := hown
  have hl : lv_has ls 3 [(0, .ref (q_this 0))] := hl
  have hUX13 : ∀ w ∈ u_ws RX13 TX13 48, w.before [.ref (q_this 0)].toArray s = true := fun w h => hts w (List.mem_cons_of_mem _ (List.mem_append_right _ h))
  have hB20 : ∀ (k0 : os_T → Option os_T), (∀ (o_this : os_T) (H : Heap) (locs : List Loc) (ls : Array Slot), va_P D vwCl (ce_X13 kA q_this o_this) H → va_D A (ce_X13 kA q_this o_this) → va_S A s.heap H locs → lv_has ls 3 [(0, .ref (q_this 0))] → k0 o_this = some out → W p l e ({ frames := 1, cells := 0, slots := 0, locals := 21 } : Room) s m [.ref (q_this 0)].toArray below meth c H locs 0 0 (MQ below (mc_Q D kA A none (ce_X13 kA q_this out)) [.ref (q_this 0)].toArray s 0 0 A) (F0 m 0 ls [])) → ∀ (o_this : os_T) (H : Heap) (locs : List Loc) (ls : Array Slot), va_P D vwCl (ce_X13 kA q_this o_this) H → va_D A (ce_X13 kA q_this o_this) → va_S A s.heap H locs → lv_has ls 3 [(0, .ref (q_this 0))] → ff_X13_goOn_b20 N k0 o_this = some out → W p l e ({ frames := 1, cells := 0, slots := 0, locals := 21 } : Room) s m [.ref (q_this 0)].toArray below meth c H locs 0 0 (MQ below (mc_Q D kA A none (ce_X13 kA q_this out)) [.ref (q_this 0)].toArray s 0 0 A) (F0 m 20 ls []) := by
    intro k0 hk0 o_this H locs ls hP hD hS hl hf
    unfold ff_X13_goOn_b20 at hf
    refine lv_aload_n hx hb dX13_goOn_20 rfl (lv_at hl 0 rfl) ?_
    refine lv_dup hx hb dX13_goOn_21 rfl ?_
    refine va_get (D := D) (ci := 9) (v := .int (os_I o_this 4)) (C := RX13) (T := TX13) (N := 48) hx hb hUX13 (fun _ h9 => h9) hown hK hP 0 rfl rfl 4 (by decide) (hts (Cond.fieldLink RX13 115 "ReliefBuilderModel" "at" "I") (List.mem_of_getElem? (i := 1) rfl)) (fun _ h9 => h9) rfl dX13_goOn_22 ?_
    refine lv_iconst (v := 1) hx hb dX13_goOn_25 (by decide) ?_
    refine lv_iadd hx hb dX13_goOn_26 ?_
    refine va_put (D := D) (ci := 9) (v := .int ((os_I o_this 4) + (1 : Int32))) (ty := .int) (C := RX13) (T := TX13) (N := 48) hx hb hUX13 (fun _ h9 => h9) tyX13 tyX13_ok nmX13 hown hK hP hD hS 0 rfl rfl 4 (by decide) (hts (Cond.fieldLink RX13 115 "ReliefBuilderModel" "at" "I") (List.mem_of_getElem? (i := 1) rfl)) (fun _ h9 => h9) rfl (tyX13_ok 4 (by decide)) rfl rfl (Nat.le_of_ble_eq_true rfl) dX13_goOn_27 (fun H locs hP hD hS => ?_)
    have hP : va_P D vwCl (ce_X13 kA q_this (ss_I o_this 4 ((os_I o_this 4) + (1 : Int32)))) H := hP
    have hD : va_D A (ce_X13 kA q_this (ss_I o_this 4 ((os_I o_this 4) + (1 : Int32)))) := hD
    refine lv_goto (tgt := 0) hx hb dX13_goOn_30 (by decide) ?_
    exact hk0 (ss_I o_this 4 ((os_I o_this 4) + (1 : Int32))) _ _ _ hP hD hS (lv_sub hl [0] rfl) hf
  have hB239 : ∀ (o_this : os_T) (x2 : Int32) (H : Heap) (locs : List Loc) (ls : Array Slot), va_P D vwCl (ce_X13 kA q_this o_this) H → va_D A (ce_X13 kA q_this o_this) → va_S A s.heap H locs → lv_has ls 3 [(0, .ref (q_this 0)), (2, .int x2)] → ff_X13_goOn_b239 N o_this x2 = some out → W p l e ({ frames := 1, cells := 0, slots := 0, locals := 21 } : Room) s m [.ref (q_this 0)].toArray below meth c H locs 0 0 (MQ below (mc_Q D kA A none (ce_X13 kA q_this out)) [.ref (q_this 0)].toArray s 0 0 A) (F0 m 239 ls []) := by
    intro o_this x2 H locs ls hP hD hS hl hf
    unfold ff_X13_goOn_b239 at hf
    refine lv_aload_n hx hb dX13_goOn_239 rfl (lv_at hl 0 rfl) ?_
    refine lv_dup hx hb dX13_goOn_240 rfl ?_
    refine va_get (D := D) (ci := 9) (v := .int (os_I o_this 4)) (C := RX13) (T := TX13) (N := 48) hx hb hUX13 (fun _ h9 => h9) hown hK hP 0 rfl rfl 4 (by decide) (hts (Cond.fieldLink RX13 115 "ReliefBuilderModel" "at" "I") (List.mem_of_getElem? (i := 1) rfl)) (fun _ h9 => h9) rfl dX13_goOn_241 ?_
    refine lv_iload_n hx hb dX13_goOn_244 rfl (lv_at hl 1 rfl) ?_
    refine lv_iadd hx hb dX13_goOn_245 ?_
    refine va_put (D := D) (ci := 9) (v := .int ((os_I o_this 4) + x2)) (ty := .int) (C := RX13) (T := TX13) (N := 48) hx hb hUX13 (fun _ h9 => h9) tyX13 tyX13_ok nmX13 hown hK hP hD hS 0 rfl rfl 4 (by decide) (hts (Cond.fieldLink RX13 115 "ReliefBuilderModel" "at" "I") (List.mem_of_getElem? (i := 1) rfl)) (fun _ h9 => h9) rfl (tyX13_ok 4 (by decide)) rfl rfl (Nat.le_of_ble_eq_true rfl) dX13_goOn_246 (fun H locs hP hD hS => ?_)
    have hP : va_P D vwCl (ce_X13 kA q_this (ss_I o_this 4 ((os_I o_this 4) + x2))) H := hP
    have hD : va_D A (ce_X13 kA q_this (ss_I o_this 4 ((os_I o_this 4) + x2))) := hD
    rw [← Option.some.inj hf]
    exact mc_retv hx hb hr hlk hP hK hD hS dX13_goOn_249
  have hB229 : ∀ (o_this : os_T) (x1 : Int32) (t0 : Int32) (H : Heap) (locs : List Loc) (ls : Array Slot), va_P D vwCl (ce_X13 kA q_this o_this) H → va_D A (ce_X13 kA q_this o_this) → va_S A s.heap H locs → lv_has ls 3 [(0, .ref (q_this 0)), (1, .int x1)] → ff_X13_goOn_b229 N o_this x1 t0 = some out → W p l e ({ frames := 1, cells := 0, slots := 0, locals := 21 } : Room) s m [.ref (q_this 0)].toArray below meth c H locs 0 0 (MQ below (mc_Q D kA A none (ce_X13 kA q_this out)) [.ref (q_this 0)].toArray s 0 0 A) (F0 m 229 ls [.int t0, .ref (q_this 0)]) := by
    intro o_this x1 t0 H locs ls hP hD hS hl hf
    unfold ff_X13_goOn_b229 at hf
    refine va_put (D := D) (ci := 9) (v := .int t0) (ty := .int) (C := RX13) (T := TX13) (N := 48) hx hb hUX13 (fun _ h9 => h9) tyX13 tyX13_ok nmX13 hown hK hP hD hS 0 rfl rfl 6 (by decide) (hts (Cond.fieldLink RX13 135 "ReliefBuilderModel" "sort" "I") (List.mem_of_getElem? (i := 5) rfl)) (fun _ h9 => h9) rfl (tyX13_ok 6 (by decide)) rfl rfl (Nat.le_of_ble_eq_true rfl) dX13_goOn_229 (fun H locs hP hD hS => ?_)
    have hP : va_P D vwCl (ce_X13 kA q_this (ss_I o_this 6 t0)) H := hP
    have hD : va_D A (ce_X13 kA q_this (ss_I o_this 6 t0)) := hD
    refine lv_aload_n hx hb dX13_goOn_232 rfl (lv_at hl 0 rfl) ?_
    refine lv_iload_n hx hb dX13_goOn_233 rfl (lv_at hl 1 rfl) ?_
    refine va_put (D := D) (ci := 9) (v := .int x1) (ty := .int) (C := RX13) (T := TX13) (N := 48) hx hb hUX13 (fun _ h9 => h9) tyX13 tyX13_ok nmX13 hown hK hP hD hS 0 rfl rfl 7 (by decide) (hts (Cond.fieldLink RX13 132 "ReliefBuilderModel" "value" "I") (List.mem_of_getElem? (i := 4) rfl)) (fun _ h9 => h9) rfl (tyX13_ok 7 (by decide)) rfl rfl (Nat.le_of_ble_eq_true rfl) dX13_goOn_234 (fun H locs hP hD hS => ?_)
    have hP : va_P D vwCl (ce_X13 kA q_this (ss_I (ss_I o_this 6 t0) 7 x1)) H := hP
    have hD : va_D A (ce_X13 kA q_this (ss_I (ss_I o_this 6 t0) 7 x1)) := hD
    refine lv_iconst (v := 1) hx hb dX13_goOn_237 (by decide) ?_
    refine lv_istore_n (lv' := [(2, .int (1 : Int32)), (0, .ref (q_this 0)), (1, .int x1)]) hx hb dX13_goOn_238 rfl hl (by decide) rfl (fun ls hl => ?_)
    exact hB239 (ss_I (ss_I o_this 6 t0) 7 x1) (1 : Int32) _ _ _ hP hD hS (lv_sub hl [1, 0] rfl) hf
  have hB224 : ∀ (o_this : os_T) (x1 : Int32) (H : Heap) (locs : List Loc) (ls : Array Slot), va_P D vwCl (ce_X13 kA q_this o_this) H → va_D A (ce_X13 kA q_this o_this) → va_S A s.heap H locs → lv_has ls 3 [(0, .ref (q_this 0)), (1, .int x1)] → ff_X13_goOn_b224 N o_this x1 = some out → W p l e ({ frames := 1, cells := 0, slots := 0, locals := 21 } : Room) s m [.ref (q_this 0)].toArray below meth c H locs 0 0 (MQ below (mc_Q D kA A none (ce_X13 kA q_this out)) [.ref (q_this 0)].toArray s 0 0 A) (F0 m 224 ls [.ref (q_this 0)]) := by
    intro o_this x1 H locs ls hP hD hS hl hf
    unfold ff_X13_goOn_b224 at hf
    refine lv_iconst (v := 3) hx hb dX13_goOn_224 (by decide) ?_
    refine lv_goto (tgt := 229) hx hb dX13_goOn_225 (by decide) ?_
    exact hB229 o_this x1 (3 : Int32) _ _ _ hP hD hS (lv_sub hl [0, 1] rfl) hf
  have hB199 : ∀ (o_this : os_T) (x2 : Int32) (t0 : Int32) (H : Heap) (locs : List Loc) (ls : Array Slot), va_P D vwCl (ce_X13 kA q_this o_this) H → va_D A (ce_X13 kA q_this o_this) → va_S A s.heap H locs → lv_has ls 3 [(0, .ref (q_this 0)), (2, .int x2)] → ff_X13_goOn_b199 N o_this x2 t0 = some out → W p l e ({ frames := 1, cells := 0, slots := 0, locals := 21 } : Room) s m [.ref (q_this 0)].toArray below meth c H locs 0 0 (MQ below (mc_Q D kA A none (ce_X13 kA q_this out)) [.ref (q_this 0)].toArray s 0 0 A) (F0 m 199 ls [.int t0, .ref (q_this 0)]) := by
    intro o_this x2 t0 H locs ls hP hD hS hl hf
    unfold ff_X13_goOn_b199 at hf
    refine va_put (D := D) (ci := 9) (v := .int t0) (ty := .int) (C := RX13) (T := TX13) (N := 48) hx hb hUX13 (fun _ h9 => h9) tyX13 tyX13_ok nmX13 hown hK hP hD hS 0 rfl rfl 6 (by decide) (hts (Cond.fieldLink RX13 135 "ReliefBuilderModel" "sort" "I") (List.mem_of_getElem? (i := 5) rfl)) (fun _ h9 => h9) rfl (tyX13_ok 6 (by decide)) rfl rfl (Nat.le_of_ble_eq_true rfl) dX13_goOn_199 (fun H locs hP hD hS => ?_)
    have hP : va_P D vwCl (ce_X13 kA q_this (ss_I o_this 6 t0)) H := hP
    have hD : va_D A (ce_X13 kA q_this (ss_I o_this 6 t0)) := hD
    refine lv_goto (tgt := 239) hx hb dX13_goOn_202 (by decide) ?_
    exact hB239 (ss_I o_this 6 t0) x2 _ _ _ hP hD hS (lv_sub hl [0, 1] rfl) hf
  have hB182 : ∀ (k146 : (os_T × Int32) → Option os_T), (∀ (o_this : os_T) (x2 : Int32) (H : Heap) (locs : List Loc) (ls : Array Slot), va_P D vwCl (ce_X13 kA q_this o_this) H → va_D A (ce_X13 kA q_this o_this) → va_S A s.heap H locs → lv_has ls 3 [(0, .ref (q_this 0)), (2, .int x2)] → k146 (o_this, x2) = some out → W p l e ({ frames := 1, cells := 0, slots := 0, locals := 21 } : Room) s m [.ref (q_this 0)].toArray below meth c H locs 0 0 (MQ below (mc_Q D kA A none (ce_X13 kA q_this out)) [.ref (q_this 0)].toArray s 0 0 A) (F0 m 146 ls [])) → ∀ (o_this : os_T) (x2 : Int32) (H : Heap) (locs : List Loc) (ls : Array Slot), va_P D vwCl (ce_X13 kA q_this o_this) H → va_D A (ce_X13 kA q_this o_this) → va_S A s.heap H locs → lv_has ls 3 [(0, .ref (q_this 0)), (2, .int x2)] → ff_X13_goOn_b182 N k146 o_this x2 = some out → W p l e ({ frames := 1, cells := 0, slots := 0, locals := 21 } : Room) s m [.ref (q_this 0)].toArray below meth c H locs 0 0 (MQ below (mc_Q D kA A none (ce_X13 kA q_this out)) [.ref (q_this 0)].toArray s 0 0 A) (F0 m 182 ls []) := by
    intro k146 hk146 o_this x2 H locs ls hP hD hS hl hf
    unfold ff_X13_goOn_b182 at hf
    refine lv_iinc (v := x2 + 1) (lv' := [(2, .int (x2 + 1)), (0, .ref (q_this 0))]) hx hb dX13_goOn_182 hl (k := 1) rfl rfl (by decide) rfl (fun ls hl => ?_)
    refine lv_goto (tgt := 146) hx hb dX13_goOn_185 (by decide) ?_
    exact hk146 o_this (x2 + 1) _ _ _ hP hD hS (lv_sub hl [1, 0] rfl) hf
  have hL146 : ∀ (n : Nat) (o_this : os_T) (x2 : Int32) (H : Heap) (locs : List Loc) (ls : Array Slot), va_P D vwCl (ce_X13 kA q_this o_this) H → va_D A (ce_X13 kA q_this o_this) → va_S A s.heap H locs → lv_has ls 3 [(0, .ref (q_this 0)), (2, .int x2)] → ff_X13_goOn_l146 N n (o_this, x2) = some out → W p l e ({ frames := 1, cells := 0, slots := 0, locals := 21 } : Room) s m [.ref (q_this 0)].toArray below meth c H locs 0 0 (MQ below (mc_Q D kA A none (ce_X13 kA q_this out)) [.ref (q_this 0)].toArray s 0 0 A) (F0 m 146 ls []) := by
    intro n
    induction n with
    | zero => intro o_this x2 H locs ls _ _ _ _ hf; cases hf
    | succ n hk146 =>
      intro o_this x2 H locs ls hP hD hS hl hf
      have hf : ff_X13_goOn_c146 N (ff_X13_goOn_l146 N n) o_this x2 = some out := hf
      generalize hke : ff_X13_goOn_l146 N n = k146 at hk146 hf
      unfold ff_X13_goOn_c146 at hf
      refine lv_aload_n hx hb dX13_goOn_146 rfl (lv_at hl 0 rfl) ?_
      refine lv_iload_n hx hb dX13_goOn_147 rfl (lv_at hl 1 rfl) ?_
      obtain ⟨u_19, he_20, hf⟩ := os_bd hf
      refine mc_callV ⟨hx, hb, hml, hown, hts⟩ (mm_X13_here l D kA N q_this o_this x2 u_19 he_20) (cwV 1 hts gX13_goOn_X13_here rfl rfl rfl (by decide +kernel) ⟨Nat.le_of_ble_eq_true rfl, Nat.le_of_ble_eq_true rfl⟩) (wc := (ce_X13 kA q_this o_this)) (ci := 9) (q0 := 0) rfl rfl rfl hl.1 (As := [.int x2]) (rest := []) rfl (Nat.le_of_ble_eq_true rfl) dX13_goOn_148 ⟨Nat.le_of_ble_eq_true rfl, Nat.le_of_ble_eq_true rfl⟩ hK hP hD hS hA [0, 1, 2, 3, 4, 5, 6, 7, 8, 9, 10, 11, 12, 13, 14, 15, 16, 17, 18, 19, 20, 21, 22, 23] [] [0, 1, 2, 3, 4, 5, 6, 7, 8, 9, 10, 11, 12, 13, 14, 15, 16, 17, 18, 19, 20, 21, 22, 23] rfl (by decide) rfl (by decide) (by decide) rfl (by decide) (wr := []) (w2 := (ce_X13 kA q_this o_this)) (fun H locs hP hD hS => ?_)
      have hP : va_P D vwCl (ce_X13 kA q_this o_this) H := hP
      obtain ⟨u_21, he_22, hf⟩ := os_bd hf
      refine mc_callS ⟨hx, hb, hml, hown, hts⟩ (mm_X13_isDigit l D kA N u_19 u_21 he_22) (va_cwS 1 hts gX13_goOn_X13_isDigit rfl rfl rfl (by decide +kernel) ⟨Nat.le_of_ble_eq_true rfl, Nat.le_of_ble_eq_true rfl⟩) (wc := []) rfl hl.1 (As := [.int u_19]) (rest := []) rfl (Nat.le_of_ble_eq_true rfl) dX13_goOn_151 ⟨Nat.le_of_ble_eq_true rfl, Nat.le_of_ble_eq_true rfl⟩ hK hP hD hS hA [] [0, 1, 2, 3, 4, 5, 6, 7, 8, 9, 10, 11, 12, 13, 14, 15, 16, 17, 18, 19, 20, 21, 22, 23] [0, 1, 2, 3, 4, 5, 6, 7, 8, 9, 10, 11, 12, 13, 14, 15, 16, 17, 18, 19, 20, 21, 22, 23] rfl (by decide) rfl (by decide) (by decide) rfl (by decide) (wr := (ce_X13 kA q_this o_this)) (w2 := (ce_X13 kA q_this o_this)) (fun H locs hP hD hS => ?_)
      have hP : va_P D vwCl (ce_X13 kA q_this o_this) H := hP
      refine lv_if_eq (tgt := 188) hx hb dX13_goOn_154 (by decide) (fun hc_23 => ?_) (fun hc_23 => ?_)
      · rw [if_pos hc_23] at hf
        refine lv_aload_n hx hb dX13_goOn_188 rfl (lv_at hl 0 rfl) ?_
        refine lv_iload_n hx hb dX13_goOn_189 rfl (lv_at hl 1 rfl) ?_
        refine lv_iconst (v := 4) hx hb dX13_goOn_190 (by decide) ?_
        refine lv_icmp_le (tgt := 198) hx hb dX13_goOn_191 (by decide) (fun hc_24 => ?_) (fun hc_24 => ?_)
        · rw [if_pos hc_24] at hf
          refine lv_iconst (v := 2) hx hb dX13_goOn_198 (by decide) ?_
          exact hB199 o_this x2 (2 : Int32) _ _ _ hP hD hS (lv_sub hl [0, 1] rfl) hf
        · rw [if_neg hc_24] at hf
          refine lv_iconst (v := 4) hx hb dX13_goOn_194 (by decide) ?_
          refine lv_goto (tgt := 199) hx hb dX13_goOn_195 (by decide) ?_
          exact hB199 o_this x2 (4 : Int32) _ _ _ hP hD hS (lv_sub hl [0, 1] rfl) hf
      · rw [if_neg hc_23] at hf
        refine lv_iload_n hx hb dX13_goOn_157 rfl (lv_at hl 1 rfl) ?_
        refine lv_iconst (v := 4) hx hb dX13_goOn_158 (by decide) ?_
        refine lv_icmp_ge (tgt := 182) hx hb dX13_goOn_159 (by decide) (fun hc_25 => ?_) (fun hc_25 => ?_)
        · rw [if_pos hc_25] at hf
          exact hB182 k146 hk146 o_this x2 _ _ _ hP hD hS (lv_sub hl [0, 1] rfl) hf
        · rw [if_neg hc_25] at hf
          refine lv_aload_n hx hb dX13_goOn_162 rfl (lv_at hl 0 rfl) ?_
          refine lv_bipush (v := 10) hx hb dX13_goOn_163 (by decide) ?_
          refine lv_aload_n hx hb dX13_goOn_165 rfl (lv_at hl 0 rfl) ?_
          refine va_get (D := D) (ci := 9) (v := .int (os_I o_this 7)) (C := RX13) (T := TX13) (N := 48) hx hb hUX13 (fun _ h9 => h9) hown hK hP 0 rfl rfl 7 (by decide) (hts (Cond.fieldLink RX13 132 "ReliefBuilderModel" "value" "I") (List.mem_of_getElem? (i := 4) rfl)) (fun _ h9 => h9) rfl dX13_goOn_166 ?_
          refine lv_imul hx hb dX13_goOn_169 ?_
          refine lv_aload_n hx hb dX13_goOn_170 rfl (lv_at hl 0 rfl) ?_
          refine lv_iload_n hx hb dX13_goOn_171 rfl (lv_at hl 1 rfl) ?_
          obtain ⟨u_26, he_27, hf⟩ := os_bd hf
          refine mc_callV ⟨hx, hb, hml, hown, hts⟩ (mm_X13_here l D kA N q_this o_this x2 u_26 he_27) (cwV 1 hts gX13_goOn_X13_here rfl rfl rfl (by decide +kernel) ⟨Nat.le_of_ble_eq_true rfl, Nat.le_of_ble_eq_true rfl⟩) (wc := (ce_X13 kA q_this o_this)) (ci := 9) (q0 := 0) rfl rfl rfl hl.1 (As := [.int x2]) (rest := [.int ((10 : Int32) * (os_I o_this 7)), .ref (q_this 0)]) rfl (Nat.le_of_ble_eq_true rfl) dX13_goOn_172 ⟨Nat.le_of_ble_eq_true rfl, Nat.le_of_ble_eq_true rfl⟩ hK hP hD hS hA [0, 1, 2, 3, 4, 5, 6, 7, 8, 9, 10, 11, 12, 13, 14, 15, 16, 17, 18, 19, 20, 21, 22, 23] [] [0, 1, 2, 3, 4, 5, 6, 7, 8, 9, 10, 11, 12, 13, 14, 15, 16, 17, 18, 19, 20, 21, 22, 23] rfl (by decide) rfl (by decide) (by decide) rfl (by decide) (wr := []) (w2 := (ce_X13 kA q_this o_this)) (fun H locs hP hD hS => ?_)
          have hP : va_P D vwCl (ce_X13 kA q_this o_this) H := hP
          refine lv_iadd hx hb dX13_goOn_175 ?_
          refine lv_bipush (v := 48) hx hb dX13_goOn_176 (by decide) ?_
          refine lv_isub hx hb dX13_goOn_178 ?_
          refine va_put (D := D) (ci := 9) (v := .int ((((10 : Int32) * (os_I o_this 7)) + u_26) - (48 : Int32))) (ty := .int) (C := RX13) (T := TX13) (N := 48) hx hb hUX13 (fun _ h9 => h9) tyX13 tyX13_ok nmX13 hown hK hP hD hS 0 rfl rfl 7 (by decide) (hts (Cond.fieldLink RX13 132 "ReliefBuilderModel" "value" "I") (List.mem_of_getElem? (i := 4) rfl)) (fun _ h9 => h9) rfl (tyX13_ok 7 (by decide)) rfl rfl (Nat.le_of_ble_eq_true rfl) dX13_goOn_179 (fun H locs hP hD hS => ?_)
          have hP : va_P D vwCl (ce_X13 kA q_this (ss_I o_this 7 ((((10 : Int32) * (os_I o_this 7)) + u_26) - (48 : Int32)))) H := hP
          have hD : va_D A (ce_X13 kA q_this (ss_I o_this 7 ((((10 : Int32) * (os_I o_this 7)) + u_26) - (48 : Int32)))) := hD
          exact hB182 k146 hk146 (ss_I o_this 7 ((((10 : Int32) * (os_I o_this 7)) + u_26) - (48 : Int32))) x2 _ _ _ hP hD hS (lv_sub hl [0, 1] rfl) hf
  have hB133 : ∀ (o_this : os_T) (x2 : Int32) (t0 : Int32) (H : Heap) (locs : List Loc) (ls : Array Slot), va_P D vwCl (ce_X13 kA q_this o_this) H → va_D A (ce_X13 kA q_this o_this) → va_S A s.heap H locs → lv_has ls 3 [(0, .ref (q_this 0)), (2, .int x2)] → ff_X13_goOn_b133 N o_this x2 t0 = some out → W p l e ({ frames := 1, cells := 0, slots := 0, locals := 21 } : Room) s m [.ref (q_this 0)].toArray below meth c H locs 0 0 (MQ below (mc_Q D kA A none (ce_X13 kA q_this out)) [.ref (q_this 0)].toArray s 0 0 A) (F0 m 133 ls [.int t0, .ref (q_this 0)]) := by
    intro o_this x2 t0 H locs ls hP hD hS hl hf
    unfold ff_X13_goOn_b133 at hf
    refine va_put (D := D) (ci := 9) (v := .int t0) (ty := .int) (C := RX13) (T := TX13) (N := 48) hx hb hUX13 (fun _ h9 => h9) tyX13 tyX13_ok nmX13 hown hK hP hD hS 0 rfl rfl 6 (by decide) (hts (Cond.fieldLink RX13 135 "ReliefBuilderModel" "sort" "I") (List.mem_of_getElem? (i := 5) rfl)) (fun _ h9 => h9) rfl (tyX13_ok 6 (by decide)) rfl rfl (Nat.le_of_ble_eq_true rfl) dX13_goOn_133 (fun H locs hP hD hS => ?_)
    have hP : va_P D vwCl (ce_X13 kA q_this (ss_I o_this 6 t0)) H := hP
    have hD : va_D A (ce_X13 kA q_this (ss_I o_this 6 t0)) := hD
    refine lv_goto (tgt := 239) hx hb dX13_goOn_136 (by decide) ?_
    exact hB239 (ss_I o_this 6 t0) x2 _ _ _ hP hD hS (lv_sub hl [0, 1] rfl) hf
  have hB115 : ∀ (k76 : (os_T × Int32) → Option os_T), (∀ (o_this : os_T) (x2 : Int32) (H : Heap) (locs : List Loc) (ls : Array Slot), va_P D vwCl (ce_X13 kA q_this o_this) H → va_D A (ce_X13 kA q_this o_this) → va_S A s.heap H locs → lv_has ls 3 [(0, .ref (q_this 0)), (2, .int x2)] → k76 (o_this, x2) = some out → W p l e ({ frames := 1, cells := 0, slots := 0, locals := 21 } : Room) s m [.ref (q_this 0)].toArray below meth c H locs 0 0 (MQ below (mc_Q D kA A none (ce_X13 kA q_this out)) [.ref (q_this 0)].toArray s 0 0 A) (F0 m 76 ls [])) → ∀ (o_this : os_T) (x2 : Int32) (H : Heap) (locs : List Loc) (ls : Array Slot), va_P D vwCl (ce_X13 kA q_this o_this) H → va_D A (ce_X13 kA q_this o_this) → va_S A s.heap H locs → lv_has ls 3 [(0, .ref (q_this 0)), (2, .int x2)] → ff_X13_goOn_b115 N k76 o_this x2 = some out → W p l e ({ frames := 1, cells := 0, slots := 0, locals := 21 } : Room) s m [.ref (q_this 0)].toArray below meth c H locs 0 0 (MQ below (mc_Q D kA A none (ce_X13 kA q_this out)) [.ref (q_this 0)].toArray s 0 0 A) (F0 m 115 ls []) := by
    intro k76 hk76 o_this x2 H locs ls hP hD hS hl hf
    unfold ff_X13_goOn_b115 at hf
    refine lv_iinc (v := x2 + 1) (lv' := [(2, .int (x2 + 1)), (0, .ref (q_this 0))]) hx hb dX13_goOn_115 hl (k := 1) rfl rfl (by decide) rfl (fun ls hl => ?_)
    refine lv_goto (tgt := 76) hx hb dX13_goOn_118 (by decide) ?_
    exact hk76 o_this (x2 + 1) _ _ _ hP hD hS (lv_sub hl [1, 0] rfl) hf
  have hL76 : ∀ (n : Nat) (o_this : os_T) (x2 : Int32) (H : Heap) (locs : List Loc) (ls : Array Slot), va_P D vwCl (ce_X13 kA q_this o_this) H → va_D A (ce_X13 kA q_this o_this) → va_S A s.heap H locs → lv_has ls 3 [(0, .ref (q_this 0)), (2, .int x2)] → ff_X13_goOn_l76 N n (o_this, x2) = some out → W p l e ({ frames := 1, cells := 0, slots := 0, locals := 21 } : Room) s m [.ref (q_this 0)].toArray below meth c H locs 0 0 (MQ below (mc_Q D kA A none (ce_X13 kA q_this out)) [.ref (q_this 0)].toArray s 0 0 A) (F0 m 76 ls []) := by
    intro n
    induction n with
    | zero => intro o_this x2 H locs ls _ _ _ _ hf; cases hf
    | succ n hk76 =>
      intro o_this x2 H locs ls hP hD hS hl hf
      have hf : ff_X13_goOn_c76 N (ff_X13_goOn_l76 N n) o_this x2 = some out := hf
      generalize hke : ff_X13_goOn_l76 N n = k76 at hk76 hf
      unfold ff_X13_goOn_c76 at hf
      refine lv_aload_n hx hb dX13_goOn_76 rfl (lv_at hl 0 rfl) ?_
      refine lv_iload_n hx hb dX13_goOn_77 rfl (lv_at hl 1 rfl) ?_
      obtain ⟨u_28, he_29, hf⟩ := os_bd hf
      refine mc_callV ⟨hx, hb, hml, hown, hts⟩ (mm_X13_here l D kA N q_this o_this x2 u_28 he_29) (cwV 1 hts gX13_goOn_X13_here rfl rfl rfl (by decide +kernel) ⟨Nat.le_of_ble_eq_true rfl, Nat.le_of_ble_eq_true rfl⟩) (wc := (ce_X13 kA q_this o_this)) (ci := 9) (q0 := 0) rfl rfl rfl hl.1 (As := [.int x2]) (rest := []) rfl (Nat.le_of_ble_eq_true rfl) dX13_goOn_78 ⟨Nat.le_of_ble_eq_true rfl, Nat.le_of_ble_eq_true rfl⟩ hK hP hD hS hA [0, 1, 2, 3, 4, 5, 6, 7, 8, 9, 10, 11, 12, 13, 14, 15, 16, 17, 18, 19, 20, 21, 22, 23] [] [0, 1, 2, 3, 4, 5, 6, 7, 8, 9, 10, 11, 12, 13, 14, 15, 16, 17, 18, 19, 20, 21, 22, 23] rfl (by decide) rfl (by decide) (by decide) rfl (by decide) (wr := []) (w2 := (ce_X13 kA q_this o_this)) (fun H locs hP hD hS => ?_)
      have hP : va_P D vwCl (ce_X13 kA q_this o_this) H := hP
      obtain ⟨u_30, he_31, hf⟩ := os_bd hf
      refine mc_callS ⟨hx, hb, hml, hown, hts⟩ (mm_X13_isLetter l D kA N u_28 u_30 he_31) (va_cwS 1 hts gX13_goOn_X13_isLetter rfl rfl rfl (by decide +kernel) ⟨Nat.le_of_ble_eq_true rfl, Nat.le_of_ble_eq_true rfl⟩) (wc := []) rfl hl.1 (As := [.int u_28]) (rest := []) rfl (Nat.le_of_ble_eq_true rfl) dX13_goOn_81 ⟨Nat.le_of_ble_eq_true rfl, Nat.le_of_ble_eq_true rfl⟩ hK hP hD hS hA [] [0, 1, 2, 3, 4, 5, 6, 7, 8, 9, 10, 11, 12, 13, 14, 15, 16, 17, 18, 19, 20, 21, 22, 23] [0, 1, 2, 3, 4, 5, 6, 7, 8, 9, 10, 11, 12, 13, 14, 15, 16, 17, 18, 19, 20, 21, 22, 23] rfl (by decide) rfl (by decide) (by decide) rfl (by decide) (wr := (ce_X13 kA q_this o_this)) (w2 := (ce_X13 kA q_this o_this)) (fun H locs hP hD hS => ?_)
      have hP : va_P D vwCl (ce_X13 kA q_this o_this) H := hP
      refine lv_if_eq (tgt := 121) hx hb dX13_goOn_84 (by decide) (fun hc_32 => ?_) (fun hc_32 => ?_)
      · rw [if_pos hc_32] at hf
        refine lv_aload_n hx hb dX13_goOn_121 rfl (lv_at hl 0 rfl) ?_
        refine lv_iload_n hx hb dX13_goOn_122 rfl (lv_at hl 1 rfl) ?_
        refine lv_bipush (v := 8) hx hb dX13_goOn_123 (by decide) ?_
        refine lv_icmp_le (tgt := 132) hx hb dX13_goOn_125 (by decide) (fun hc_33 => ?_) (fun hc_33 => ?_)
        · rw [if_pos hc_33] at hf
          refine lv_iconst (v := 1) hx hb dX13_goOn_132 (by decide) ?_
          exact hB133 o_this x2 (1 : Int32) _ _ _ hP hD hS (lv_sub hl [0, 1] rfl) hf
        · rw [if_neg hc_33] at hf
          refine lv_iconst (v := 4) hx hb dX13_goOn_128 (by decide) ?_
          refine lv_goto (tgt := 133) hx hb dX13_goOn_129 (by decide) ?_
          exact hB133 o_this x2 (4 : Int32) _ _ _ hP hD hS (lv_sub hl [0, 1] rfl) hf
      · rw [if_neg hc_32] at hf
        refine lv_iload_n hx hb dX13_goOn_87 rfl (lv_at hl 1 rfl) ?_
        refine lv_bipush (v := 8) hx hb dX13_goOn_88 (by decide) ?_
        refine lv_icmp_ge (tgt := 115) hx hb dX13_goOn_90 (by decide) (fun hc_34 => ?_) (fun hc_34 => ?_)
        · rw [if_pos hc_34] at hf
          exact hB115 k76 hk76 o_this x2 _ _ _ hP hD hS (lv_sub hl [0, 1] rfl) hf
        · rw [if_neg hc_34] at hf
          refine lv_aload_n hx hb dX13_goOn_93 rfl (lv_at hl 0 rfl) ?_
          refine lv_aload_n hx hb dX13_goOn_94 rfl (lv_at hl 0 rfl) ?_
          refine va_get (D := D) (ci := 9) (v := .long (os_L o_this 12)) (C := RX13) (T := TX13) (N := 48) hx hb hUX13 (fun _ h9 => h9) hown hK hP 0 rfl rfl 12 (by decide) (hts (Cond.fieldLink RX13 128 "ReliefBuilderModel" "word" "J") (List.mem_of_getElem? (i := 3) rfl)) (fun _ h9 => h9) rfl dX13_goOn_95 ?_
          refine lv_iconst (v := 5) hx hb dX13_goOn_98 (by decide) ?_
          refine lv_lshl hx hb dX13_goOn_99 rfl ?_
          refine lv_aload_n hx hb dX13_goOn_100 rfl (lv_at hl 0 rfl) ?_
          refine lv_iload_n hx hb dX13_goOn_101 rfl (lv_at hl 1 rfl) ?_
          obtain ⟨u_35, he_36, hf⟩ := os_bd hf
          refine mc_callV ⟨hx, hb, hml, hown, hts⟩ (mm_X13_here l D kA N q_this o_this x2 u_35 he_36) (cwV 1 hts gX13_goOn_X13_here rfl rfl rfl (by decide +kernel) ⟨Nat.le_of_ble_eq_true rfl, Nat.le_of_ble_eq_true rfl⟩) (wc := (ce_X13 kA q_this o_this)) (ci := 9) (q0 := 0) rfl rfl rfl hl.1 (As := [.int x2]) (rest := [.long ((os_L o_this 12) <<< (Int32.toInt64 (5 : Int32) &&& 63)), .ref (q_this 0)]) rfl (Nat.le_of_ble_eq_true rfl) dX13_goOn_102 ⟨Nat.le_of_ble_eq_true rfl, Nat.le_of_ble_eq_true rfl⟩ hK hP hD hS hA [0, 1, 2, 3, 4, 5, 6, 7, 8, 9, 10, 11, 12, 13, 14, 15, 16, 17, 18, 19, 20, 21, 22, 23] [] [0, 1, 2, 3, 4, 5, 6, 7, 8, 9, 10, 11, 12, 13, 14, 15, 16, 17, 18, 19, 20, 21, 22, 23] rfl (by decide) rfl (by decide) (by decide) rfl (by decide) (wr := []) (w2 := (ce_X13 kA q_this o_this)) (fun H locs hP hD hS => ?_)
          have hP : va_P D vwCl (ce_X13 kA q_this o_this) H := hP
          refine lv_bipush (v := 97) hx hb dX13_goOn_105 (by decide) ?_
          refine lv_isub hx hb dX13_goOn_107 ?_
          refine lv_iconst (v := 1) hx hb dX13_goOn_108 (by decide) ?_
          refine lv_iadd hx hb dX13_goOn_109 ?_
          refine lv_i2l hx hb dX13_goOn_110 rfl ?_
          refine lv_lor hx hb dX13_goOn_111 ?_
          refine va_put (D := D) (ci := 9) (v := .long (((os_L o_this 12) <<< (Int32.toInt64 (5 : Int32) &&& 63)) ||| (Int32.toInt64 ((u_35 - (97 : Int32)) + (1 : Int32))))) (ty := .long) (C := RX13) (T := TX13) (N := 48) hx hb hUX13 (fun _ h9 => h9) tyX13 tyX13_ok nmX13 hown hK hP hD hS 0 rfl rfl 12 (by decide) (hts (Cond.fieldLink RX13 128 "ReliefBuilderModel" "word" "J") (List.mem_of_getElem? (i := 3) rfl)) (fun _ h9 => h9) rfl (tyX13_ok 12 (by decide)) rfl rfl (Nat.le_of_ble_eq_true rfl) dX13_goOn_112 (fun H locs hP hD hS => ?_)
          have hP : va_P D vwCl (ce_X13 kA q_this (ss_L o_this 12 (((os_L o_this 12) <<< (Int32.toInt64 (5 : Int32) &&& 63)) ||| (Int32.toInt64 ((u_35 - (97 : Int32)) + (1 : Int32)))))) H := hP
          have hD : va_D A (ce_X13 kA q_this (ss_L o_this 12 (((os_L o_this 12) <<< (Int32.toInt64 (5 : Int32) &&& 63)) ||| (Int32.toInt64 ((u_35 - (97 : Int32)) + (1 : Int32)))))) := hD
          exact hB115 k76 hk76 (ss_L o_this 12 (((os_L o_this 12) <<< (Int32.toInt64 (5 : Int32) &&& 63)) ||| (Int32.toInt64 ((u_35 - (97 : Int32)) + (1 : Int32))))) x2 _ _ _ hP hD hS (lv_sub hl [0, 1] rfl) hf
  have hL0 : ∀ (n : Nat) (o_this : os_T) (H : Heap) (locs : List Loc) (ls : Array Slot), va_P D vwCl (ce_X13 kA q_this o_this) H → va_D A (ce_X13 kA q_this o_this) → va_S A s.heap H locs → lv_has ls 3 [(0, .ref (q_this 0))] → ff_X13_goOn_l0 N n o_this = some out → W p l e ({ frames := 1, cells := 0, slots := 0, locals := 21 } : Room) s m [.ref (q_this 0)].toArray below meth c H locs 0 0 (MQ below (mc_Q D kA A none (ce_X13 kA q_this out)) [.ref (q_this 0)].toArray s 0 0 A) (F0 m 0 ls []) := by
    intro n
    induction n with
    | zero => intro o_this H locs ls _ _ _ _ hf; cases hf
    | succ n hk0 =>
      intro o_this H locs ls hP hD hS hl hf
      have hf : ff_X13_goOn_c0 N (ff_X13_goOn_l0 N n) o_this = some out := hf
      generalize hke : ff_X13_goOn_l0 N n = k0 at hk0 hf
      unfold ff_X13_goOn_c0 at hf
      refine lv_aload_n hx hb dX13_goOn_0 rfl (lv_at hl 0 rfl) ?_
      refine lv_iconst (v := 0) hx hb dX13_goOn_1 (by decide) ?_
      obtain ⟨u_1, he_2, hf⟩ := os_bd hf
      refine mc_callV ⟨hx, hb, hml, hown, hts⟩ (mm_X13_here l D kA N q_this o_this (0 : Int32) u_1 he_2) (cwV 1 hts gX13_goOn_X13_here rfl rfl rfl (by decide +kernel) ⟨Nat.le_of_ble_eq_true rfl, Nat.le_of_ble_eq_true rfl⟩) (wc := (ce_X13 kA q_this o_this)) (ci := 9) (q0 := 0) rfl rfl rfl hl.1 (As := [.int (0 : Int32)]) (rest := []) rfl (Nat.le_of_ble_eq_true rfl) dX13_goOn_2 ⟨Nat.le_of_ble_eq_true rfl, Nat.le_of_ble_eq_true rfl⟩ hK hP hD hS hA [0, 1, 2, 3, 4, 5, 6, 7, 8, 9, 10, 11, 12, 13, 14, 15, 16, 17, 18, 19, 20, 21, 22, 23] [] [0, 1, 2, 3, 4, 5, 6, 7, 8, 9, 10, 11, 12, 13, 14, 15, 16, 17, 18, 19, 20, 21, 22, 23] rfl (by decide) rfl (by decide) (by decide) rfl (by decide) (wr := []) (w2 := (ce_X13 kA q_this o_this)) (fun H locs hP hD hS => ?_)
      have hP : va_P D vwCl (ce_X13 kA q_this o_this) H := hP
      refine lv_bipush (v := 32) hx hb dX13_goOn_5 (by decide) ?_
      refine lv_icmp_eq (tgt := 20) hx hb dX13_goOn_7 (by decide) (fun hc_3 => ?_) (fun hc_3 => ?_)
      · rw [if_pos hc_3] at hf
        exact hB20 k0 hk0 o_this _ _ _ hP hD hS (lv_sub hl [0] rfl) hf
      · rw [if_neg hc_3] at hf
        refine lv_aload_n hx hb dX13_goOn_10 rfl (lv_at hl 0 rfl) ?_
        refine lv_iconst (v := 0) hx hb dX13_goOn_11 (by decide) ?_
        obtain ⟨u_4, he_5, hf⟩ := os_bd hf
        refine mc_callV ⟨hx, hb, hml, hown, hts⟩ (mm_X13_here l D kA N q_this o_this (0 : Int32) u_4 he_5) (cwV 1 hts gX13_goOn_X13_here rfl rfl rfl (by decide +kernel) ⟨Nat.le_of_ble_eq_true rfl, Nat.le_of_ble_eq_true rfl⟩) (wc := (ce_X13 kA q_this o_this)) (ci := 9) (q0 := 0) rfl rfl rfl hl.1 (As := [.int (0 : Int32)]) (rest := []) rfl (Nat.le_of_ble_eq_true rfl) dX13_goOn_12 ⟨Nat.le_of_ble_eq_true rfl, Nat.le_of_ble_eq_true rfl⟩ hK hP hD hS hA [0, 1, 2, 3, 4, 5, 6, 7, 8, 9, 10, 11, 12, 13, 14, 15, 16, 17, 18, 19, 20, 21, 22, 23] [] [0, 1, 2, 3, 4, 5, 6, 7, 8, 9, 10, 11, 12, 13, 14, 15, 16, 17, 18, 19, 20, 21, 22, 23] rfl (by decide) rfl (by decide) (by decide) rfl (by decide) (wr := []) (w2 := (ce_X13 kA q_this o_this)) (fun H locs hP hD hS => ?_)
        have hP : va_P D vwCl (ce_X13 kA q_this o_this) H := hP
        refine lv_bipush (v := 10) hx hb dX13_goOn_15 (by decide) ?_
        refine lv_icmp_ne (tgt := 33) hx hb dX13_goOn_17 (by decide) (fun hc_6 => ?_) (fun hc_6 => ?_)
        · rw [if_neg hc_6] at hf
          refine lv_aload_n hx hb dX13_goOn_33 rfl (lv_at hl 0 rfl) ?_
          refine lv_aload_n hx hb dX13_goOn_34 rfl (lv_at hl 0 rfl) ?_
          refine va_get (D := D) (ci := 9) (v := .int (os_I o_this 4)) (C := RX13) (T := TX13) (N := 48) hx hb hUX13 (fun _ h9 => h9) hown hK hP 0 rfl rfl 4 (by decide) (hts (Cond.fieldLink RX13 115 "ReliefBuilderModel" "at" "I") (List.mem_of_getElem? (i := 1) rfl)) (fun _ h9 => h9) rfl dX13_goOn_35 ?_
          refine va_put (D := D) (ci := 9) (v := .int (os_I o_this 4)) (ty := .int) (C := RX13) (T := TX13) (N := 48) hx hb hUX13 (fun _ h9 => h9) tyX13 tyX13_ok nmX13 hown hK hP hD hS 0 rfl rfl 5 (by decide) (hts (Cond.fieldLink RX13 125 "ReliefBuilderModel" "place" "I") (List.mem_of_getElem? (i := 2) rfl)) (fun _ h9 => h9) rfl (tyX13_ok 5 (by decide)) rfl rfl (Nat.le_of_ble_eq_true rfl) dX13_goOn_38 (fun H locs hP hD hS => ?_)
          have hP : va_P D vwCl (ce_X13 kA q_this (ss_I o_this 5 (os_I o_this 4))) H := hP
          have hD : va_D A (ce_X13 kA q_this (ss_I o_this 5 (os_I o_this 4))) := hD
          refine lv_aload_n hx hb dX13_goOn_41 rfl (lv_at hl 0 rfl) ?_
          refine lv_lconst (v := 0) hx hb dX13_goOn_42 (by decide) ?_
          refine va_put (D := D) (ci := 9) (v := .long (0 : Int64)) (ty := .long) (C := RX13) (T := TX13) (N := 48) hx hb hUX13 (fun _ h9 => h9) tyX13 tyX13_ok nmX13 hown hK hP hD hS 0 rfl rfl 12 (by decide) (hts (Cond.fieldLink RX13 128 "ReliefBuilderModel" "word" "J") (List.mem_of_getElem? (i := 3) rfl)) (fun _ h9 => h9) rfl (tyX13_ok 12 (by decide)) rfl rfl (Nat.le_of_ble_eq_true rfl) dX13_goOn_43 (fun H locs hP hD hS => ?_)
          have hP : va_P D vwCl (ce_X13 kA q_this (ss_I (ss_L o_this 12 (0 : Int64)) 5 (os_I o_this 4))) H := hP
          have hD : va_D A (ce_X13 kA q_this (ss_I (ss_L o_this 12 (0 : Int64)) 5 (os_I o_this 4))) := hD
          refine lv_aload_n hx hb dX13_goOn_46 rfl (lv_at hl 0 rfl) ?_
          refine lv_iconst (v := 0) hx hb dX13_goOn_47 (by decide) ?_
          refine va_put (D := D) (ci := 9) (v := .int (0 : Int32)) (ty := .int) (C := RX13) (T := TX13) (N := 48) hx hb hUX13 (fun _ h9 => h9) tyX13 tyX13_ok nmX13 hown hK hP hD hS 0 rfl rfl 7 (by decide) (hts (Cond.fieldLink RX13 132 "ReliefBuilderModel" "value" "I") (List.mem_of_getElem? (i := 4) rfl)) (fun _ h9 => h9) rfl (tyX13_ok 7 (by decide)) rfl rfl (Nat.le_of_ble_eq_true rfl) dX13_goOn_48 (fun H locs hP hD hS => ?_)
          have hP : va_P D vwCl (ce_X13 kA q_this (ss_I (ss_I (ss_L o_this 12 (0 : Int64)) 5 (os_I o_this 4)) 7 (0 : Int32))) H := hP
          have hD : va_D A (ce_X13 kA q_this (ss_I (ss_I (ss_L o_this 12 (0 : Int64)) 5 (os_I o_this 4)) 7 (0 : Int32))) := hD
          refine lv_aload_n hx hb dX13_goOn_51 rfl (lv_at hl 0 rfl) ?_
          refine lv_iconst (v := 0) hx hb dX13_goOn_52 (by decide) ?_
          obtain ⟨u_7, he_8, hf⟩ := os_bd hf
          refine mc_callV ⟨hx, hb, hml, hown, hts⟩ (mm_X13_here l D kA N q_this (ss_I (ss_I (ss_L o_this 12 (0 : Int64)) 5 (os_I o_this 4)) 7 (0 : Int32)) (0 : Int32) u_7 he_8) (cwV 1 hts gX13_goOn_X13_here rfl rfl rfl (by decide +kernel) ⟨Nat.le_of_ble_eq_true rfl, Nat.le_of_ble_eq_true rfl⟩) (wc := (ce_X13 kA q_this (ss_I (ss_I (ss_L o_this 12 (0 : Int64)) 5 (os_I o_this 4)) 7 (0 : Int32)))) (ci := 9) (q0 := 0) rfl rfl rfl hl.1 (As := [.int (0 : Int32)]) (rest := []) rfl (Nat.le_of_ble_eq_true rfl) dX13_goOn_53 ⟨Nat.le_of_ble_eq_true rfl, Nat.le_of_ble_eq_true rfl⟩ hK hP hD hS hA [0, 1, 2, 3, 4, 5, 6, 7, 8, 9, 10, 11, 12, 13, 14, 15, 16, 17, 18, 19, 20, 21, 22, 23] [] [0, 1, 2, 3, 4, 5, 6, 7, 8, 9, 10, 11, 12, 13, 14, 15, 16, 17, 18, 19, 20, 21, 22, 23] rfl (by decide) rfl (by decide) (by decide) rfl (by decide) (wr := []) (w2 := (ce_X13 kA q_this (ss_I (ss_I (ss_L o_this 12 (0 : Int64)) 5 (os_I o_this 4)) 7 (0 : Int32)))) (fun H locs hP hD hS => ?_)
          have hP : va_P D vwCl (ce_X13 kA q_this (ss_I (ss_I (ss_L o_this 12 (0 : Int64)) 5 (os_I o_this 4)) 7 (0 : Int32))) H := hP
          refine lv_istore_n (lv' := [(1, .int u_7), (0, .ref (q_this 0))]) hx hb dX13_goOn_56 rfl hl (by decide) rfl (fun ls hl => ?_)
          refine lv_iconst (v := 0) hx hb dX13_goOn_57 (by decide) ?_
          refine lv_istore_n (lv' := [(2, .int (0 : Int32)), (1, .int u_7), (0, .ref (q_this 0))]) hx hb dX13_goOn_58 rfl hl (by decide) rfl (fun ls hl => ?_)
          refine lv_iload_n hx hb dX13_goOn_59 rfl (lv_at hl 1 rfl) ?_
          refine lv_if_ge (tgt := 69) hx hb dX13_goOn_60 (by decide) (fun hc_9 => ?_) (fun hc_9 => ?_)
          · rw [if_pos hc_9] at hf
            refine lv_iload_n hx hb dX13_goOn_69 rfl (lv_at hl 1 rfl) ?_
            obtain ⟨u_10, he_11, hf⟩ := os_bd hf
            refine mc_callS ⟨hx, hb, hml, hown, hts⟩ (mm_X13_isLetter l D kA N u_7 u_10 he_11) (va_cwS 1 hts gX13_goOn_X13_isLetter rfl rfl rfl (by decide +kernel) ⟨Nat.le_of_ble_eq_true rfl, Nat.le_of_ble_eq_true rfl⟩) (wc := []) rfl hl.1 (As := [.int u_7]) (rest := []) rfl (Nat.le_of_ble_eq_true rfl) dX13_goOn_70 ⟨Nat.le_of_ble_eq_true rfl, Nat.le_of_ble_eq_true rfl⟩ hK hP hD hS hA [] [0, 1, 2, 3, 4, 5, 6, 7, 8, 9, 10, 11, 12, 13, 14, 15, 16, 17, 18, 19, 20, 21, 22, 23] [0, 1, 2, 3, 4, 5, 6, 7, 8, 9, 10, 11, 12, 13, 14, 15, 16, 17, 18, 19, 20, 21, 22, 23] rfl (by decide) rfl (by decide) (by decide) rfl (by decide) (wr := (ce_X13 kA q_this (ss_I (ss_I (ss_L o_this 12 (0 : Int64)) 5 (os_I o_this 4)) 7 (0 : Int32)))) (w2 := (ce_X13 kA q_this (ss_I (ss_I (ss_L o_this 12 (0 : Int64)) 5 (os_I o_this 4)) 7 (0 : Int32)))) (fun H locs hP hD hS => ?_)
            have hP : va_P D vwCl (ce_X13 kA q_this (ss_I (ss_I (ss_L o_this 12 (0 : Int64)) 5 (os_I o_this 4)) 7 (0 : Int32))) H := hP
            refine lv_if_eq (tgt := 139) hx hb dX13_goOn_73 (by decide) (fun hc_12 => ?_) (fun hc_12 => ?_)
            · rw [if_pos hc_12] at hf
              refine lv_iload_n hx hb dX13_goOn_139 rfl (lv_at hl 1 rfl) ?_
              obtain ⟨u_13, he_14, hf⟩ := os_bd hf
              refine mc_callS ⟨hx, hb, hml, hown, hts⟩ (mm_X13_isDigit l D kA N u_7 u_13 he_14) (va_cwS 1 hts gX13_goOn_X13_isDigit rfl rfl rfl (by decide +kernel) ⟨Nat.le_of_ble_eq_true rfl, Nat.le_of_ble_eq_true rfl⟩) (wc := []) rfl hl.1 (As := [.int u_7]) (rest := []) rfl (Nat.le_of_ble_eq_true rfl) dX13_goOn_140 ⟨Nat.le_of_ble_eq_true rfl, Nat.le_of_ble_eq_true rfl⟩ hK hP hD hS hA [] [0, 1, 2, 3, 4, 5, 6, 7, 8, 9, 10, 11, 12, 13, 14, 15, 16, 17, 18, 19, 20, 21, 22, 23] [0, 1, 2, 3, 4, 5, 6, 7, 8, 9, 10, 11, 12, 13, 14, 15, 16, 17, 18, 19, 20, 21, 22, 23] rfl (by decide) rfl (by decide) (by decide) rfl (by decide) (wr := (ce_X13 kA q_this (ss_I (ss_I (ss_L o_this 12 (0 : Int64)) 5 (os_I o_this 4)) 7 (0 : Int32)))) (w2 := (ce_X13 kA q_this (ss_I (ss_I (ss_L o_this 12 (0 : Int64)) 5 (os_I o_this 4)) 7 (0 : Int32)))) (fun H locs hP hD hS => ?_)
              have hP : va_P D vwCl (ce_X13 kA q_this (ss_I (ss_I (ss_L o_this 12 (0 : Int64)) 5 (os_I o_this 4)) 7 (0 : Int32))) H := hP
              refine lv_if_eq (tgt := 205) hx hb dX13_goOn_143 (by decide) (fun hc_15 => ?_) (fun hc_15 => ?_)
              · rw [if_pos hc_15] at hf
                refine lv_aload_n hx hb dX13_goOn_205 rfl (lv_at hl 2 rfl) ?_
                refine lv_iload_n hx hb dX13_goOn_206 rfl (lv_at hl 1 rfl) ?_
                refine lv_bipush (v := 59) hx hb dX13_goOn_207 (by decide) ?_
                refine lv_icmp_eq (tgt := 224) hx hb dX13_goOn_209 (by decide) (fun hc_16 => ?_) (fun hc_16 => ?_)
                · rw [if_pos hc_16] at hf
                  exact hB224 (ss_I (ss_I (ss_L o_this 12 (0 : Int64)) 5 (os_I o_this 4)) 7 (0 : Int32)) u_7 _ _ _ hP hD hS (lv_sub hl [2, 1] rfl) hf
                · rw [if_neg hc_16] at hf
                  refine lv_iload_n hx hb dX13_goOn_212 rfl (lv_at hl 1 rfl) ?_
                  refine lv_bipush (v := 40) hx hb dX13_goOn_213 (by decide) ?_
                  refine lv_icmp_eq (tgt := 224) hx hb dX13_goOn_215 (by decide) (fun hc_17 => ?_) (fun hc_17 => ?_)
                  · rw [if_pos hc_17] at hf
                    exact hB224 (ss_I (ss_I (ss_L o_this 12 (0 : Int64)) 5 (os_I o_this 4)) 7 (0 : Int32)) u_7 _ _ _ hP hD hS (lv_sub hl [2, 1] rfl) hf
                  · rw [if_neg hc_17] at hf
                    refine lv_iload_n hx hb dX13_goOn_218 rfl (lv_at hl 1 rfl) ?_
                    refine lv_bipush (v := 41) hx hb dX13_goOn_219 (by decide) ?_
                    refine lv_icmp_ne (tgt := 228) hx hb dX13_goOn_221 (by decide) (fun hc_18 => ?_) (fun hc_18 => ?_)
                    · rw [if_neg hc_18] at hf
                      refine lv_iconst (v := 4) hx hb dX13_goOn_228 (by decide) ?_
                      exact hB229 (ss_I (ss_I (ss_L o_this 12 (0 : Int64)) 5 (os_I o_this 4)) 7 (0 : Int32)) u_7 (4 : Int32) _ _ _ hP hD hS (lv_sub hl [2, 1] rfl) hf
                    · rw [if_pos hc_18] at hf
                      exact hB224 (ss_I (ss_I (ss_L o_this 12 (0 : Int64)) 5 (os_I o_this 4)) 7 (0 : Int32)) u_7 _ _ _ hP hD hS (lv_sub hl [2, 1] rfl) hf
              · rw [if_neg hc_15] at hf
                exact hL146 N (ss_I (ss_I (ss_L o_this 12 (0 : Int64)) 5 (os_I o_this 4)) 7 (0 : Int32)) (0 : Int32) _ _ _ hP hD hS (lv_sub hl [2, 0] rfl) hf
            · rw [if_neg hc_12] at hf
              exact hL76 N (ss_I (ss_I (ss_L o_this 12 (0 : Int64)) 5 (os_I o_this 4)) 7 (0 : Int32)) (0 : Int32) _ _ _ hP hD hS (lv_sub hl [2, 0] rfl) hf
          · rw [if_neg hc_9] at hf
            refine lv_aload_n hx hb dX13_goOn_63 rfl (lv_at hl 2 rfl) ?_
            refine lv_iconst (v := 0) hx hb dX13_goOn_64 (by decide) ?_
            refine va_put (D := D) (ci := 9) (v := .int (0 : Int32)) (ty := .int) (C := RX13) (T := TX13) (N := 48) hx hb hUX13 (fun _ h9 => h9) tyX13 tyX13_ok nmX13 hown hK hP hD hS 0 rfl rfl 6 (by decide) (hts (Cond.fieldLink RX13 135 "ReliefBuilderModel" "sort" "I") (List.mem_of_getElem? (i := 5) rfl)) (fun _ h9 => h9) rfl (tyX13_ok 6 (by decide)) rfl rfl (Nat.le_of_ble_eq_true rfl) dX13_goOn_65 (fun H locs hP hD hS => ?_)
            have hP : va_P D vwCl (ce_X13 kA q_this (ss_I (ss_I (ss_I (ss_L o_this 12 (0 : Int64)) 5 (os_I o_this 4)) 6 (0 : Int32)) 7 (0 : Int32))) H := hP
            have hD : va_D A (ce_X13 kA q_this (ss_I (ss_I (ss_I (ss_L o_this 12 (0 : Int64)) 5 (os_I o_this 4)) 6 (0 : Int32)) 7 (0 : Int32))) := hD
            rw [← Option.some.inj hf]
            exact mc_retv hx hb hr hlk hP hK hD hS dX13_goOn_68
        · rw [if_pos hc_6] at hf
          exact hB20 k0 hk0 o_this _ _ _ hP hD hS (lv_sub hl [0] rfl) hf
  unfold ff_X13_goOn at hf
  exact hL0 N o_this _ _ _ hP hD hS (lv_sub hl [0] rfl) hf
def ff_X13_wrong_b22 (N : Nat) (o_this : os_T) (t0 : Int32) : Option os_T :=
  some (ss_I (ss_I o_this 8 t0) 9 (os_I o_this 5))
def ff_X13_wrong (N : Nat) (o_this : os_T) (a1 : Int32) : Option os_T :=
  (if (os_I o_this 8) ≤ 0 then (if (os_I o_this 6) = (4 : Int32) then ff_X13_wrong_b22 N o_this (1 : Int32) else ff_X13_wrong_b22 N o_this a1) else some o_this)
set_option maxHeartbeats 4000000 in
set_option maxRecDepth 100000 in
theorem mm_X13_wrong (l : Launch) (D : va_G) (kA : Nat → ClassId) (N : Nat) (q_this : Nat → Nat) (o_this : os_T) (a1 : Int32) (out : os_T) (hf : ff_X13_wrong N o_this a1 = some out) : mc_C l D kA yX13_wrong wsX13_wrong ({ frames := 0, cells := 0, slots := 0, locals := 0 } : Room) [.ref (q_this 0), .int a1] (ce_X13 kA q_this o_this) none (ce_X13 kA q_this out) := by
  refine mc_of (cc := cX13_wrong) (maxL := 2) (ret := none) (by decide) rfl (Nat.le_of_ble_eq_true rfl) ?_
  intro p e s m below meth c A B hD hP hS ls hl
  obtain ⟨hx, hb, hr, hlk, hml, hown, hts, hK, hA, hnm⟩ := B
  have hown : s.vm.findClass RX13 = some m.cls := hown
  have hl : lv_has ls 2 [(0, .ref (q_this 0)), (1, .int a1)] := hl
  have hUX13 : ∀ w ∈ u_ws RX13 TX13 48, w.before [.ref (q_this 0), .int a1].toArray s = true := fun w h => hts w (List.mem_cons_of_mem _ (List.mem_append_right _ h))
  have hB22 : ∀ (o_this : os_T) (t0 : Int32) (H : Heap) (locs : List Loc) (ls : Array Slot), va_P D vwCl (ce_X13 kA q_this o_this) H → va_D A (ce_X13 kA q_this o_this) → va_S A s.heap H locs → lv_has ls 2 [(0, .ref (q_this 0))] → ff_X13_wrong_b22 N o_this t0 = some out → W p l e ({ frames := 0, cells := 0, slots := 0, locals := 0 } : Room) s m [.ref (q_this 0), .int a1].toArray below meth c H locs 0 0 (MQ below (mc_Q D kA A none (ce_X13 kA q_this out)) [.ref (q_this 0), .int a1].toArray s 0 0 A) (F0 m 22 ls [.int t0, .ref (q_this 0)]) := by
    intro o_this t0 H locs ls hP hD hS hl hf
    unfold ff_X13_wrong_b22 at hf
    refine va_put (D := D) (ci := 9) (v := .int t0) (ty := .int) (C := RX13) (T := TX13) (N := 48) hx hb hUX13 (fun _ h9 => h9) tyX13 tyX13_ok nmX13 hown hK hP hD hS 0 rfl rfl 8 (by decide) (hts (Cond.fieldLink RX13 145 "ReliefBuilderModel" "error" "I") (List.mem_of_getElem? (i := 1) rfl)) (fun _ h9 => h9) rfl (tyX13_ok 8 (by decide)) rfl rfl (Nat.le_of_ble_eq_true rfl) dX13_wrong_22 (fun H locs hP hD hS => ?_)
    have hP : va_P D vwCl (ce_X13 kA q_this (ss_I o_this 8 t0)) H := hP
    have hD : va_D A (ce_X13 kA q_this (ss_I o_this 8 t0)) := hD
    refine lv_aload_n hx hb dX13_wrong_25 rfl (lv_at hl 0 rfl) ?_
    refine lv_aload_n hx hb dX13_wrong_26 rfl (lv_at hl 0 rfl) ?_
    refine va_get (D := D) (ci := 9) (v := .int (os_I o_this 5)) (C := RX13) (T := TX13) (N := 48) hx hb hUX13 (fun _ h9 => h9) hown hK hP 0 rfl rfl 5 (by decide) (hts (Cond.fieldLink RX13 125 "ReliefBuilderModel" "place" "I") (List.mem_of_getElem? (i := 3) rfl)) (fun _ h9 => h9) rfl dX13_wrong_27 ?_
    refine va_put (D := D) (ci := 9) (v := .int (os_I o_this 5)) (ty := .int) (C := RX13) (T := TX13) (N := 48) hx hb hUX13 (fun _ h9 => h9) tyX13 tyX13_ok nmX13 hown hK hP hD hS 0 rfl rfl 9 (by decide) (hts (Cond.fieldLink RX13 13 "ReliefBuilderModel" "errorPlace" "I") (List.mem_of_getElem? (i := 4) rfl)) (fun _ h9 => h9) rfl (tyX13_ok 9 (by decide)) rfl rfl (Nat.le_of_ble_eq_true rfl) dX13_wrong_30 (fun H locs hP hD hS => ?_)
    have hP : va_P D vwCl (ce_X13 kA q_this (ss_I (ss_I o_this 8 t0) 9 (os_I o_this 5))) H := hP
    have hD : va_D A (ce_X13 kA q_this (ss_I (ss_I o_this 8 t0) 9 (os_I o_this 5))) := hD
    rw [← Option.some.inj hf]
    exact mc_retv hx hb hr hlk hP hK hD hS dX13_wrong_33
  unfold ff_X13_wrong at hf
  refine lv_aload_n hx hb dX13_wrong_0 rfl (lv_at hl 0 rfl) ?_
  refine va_get (D := D) (ci := 9) (v := .int (os_I o_this 8)) (C := RX13) (T := TX13) (N := 48) hx hb hUX13 (fun _ h9 => h9) hown hK hP 0 rfl rfl 8 (by decide) (hts (Cond.fieldLink RX13 145 "ReliefBuilderModel" "error" "I") (List.mem_of_getElem? (i := 1) rfl)) (fun _ h9 => h9) rfl dX13_wrong_1 ?_
  refine lv_if_le (tgt := 8) hx hb dX13_wrong_4 (by decide) (fun hc_1 => ?_) (fun hc_1 => ?_)
  · rw [if_pos hc_1] at hf
    refine lv_aload_n hx hb dX13_wrong_8 rfl (lv_at hl 0 rfl) ?_
    refine lv_aload_n hx hb dX13_wrong_9 rfl (lv_at hl 0 rfl) ?_
    refine va_get (D := D) (ci := 9) (v := .int (os_I o_this 6)) (C := RX13) (T := TX13) (N := 48) hx hb hUX13 (fun _ h9 => h9) hown hK hP 0 rfl rfl 6 (by decide) (hts (Cond.fieldLink RX13 135 "ReliefBuilderModel" "sort" "I") (List.mem_of_getElem? (i := 2) rfl)) (fun _ h9 => h9) rfl dX13_wrong_10 ?_
    refine lv_iconst (v := 4) hx hb dX13_wrong_13 (by decide) ?_
    refine lv_icmp_ne (tgt := 21) hx hb dX13_wrong_14 (by decide) (fun hc_2 => ?_) (fun hc_2 => ?_)
    · rw [if_neg hc_2] at hf
      refine lv_iload_n hx hb dX13_wrong_21 rfl (lv_at hl 1 rfl) ?_
      exact hB22 o_this a1 _ _ _ hP hD hS (lv_sub hl [0] rfl) hf
    · rw [if_pos hc_2] at hf
      refine lv_iconst (v := 1) hx hb dX13_wrong_17 (by decide) ?_
      refine lv_goto (tgt := 22) hx hb dX13_wrong_18 (by decide) ?_
      exact hB22 o_this (1 : Int32) _ _ _ hP hD hS (lv_sub hl [0] rfl) hf
  · rw [if_neg hc_1] at hf
    rw [← Option.some.inj hf]
    exact mc_retv hx hb hr hlk hP hK hD hS dX13_wrong_7
def ff_X13_isGood (N : Nat) (o_this : os_T) : Option Int32 :=
  (if (os_I o_this 8) = 0 then some (1 : Int32) else some (0 : Int32))
set_option maxHeartbeats 4000000 in
set_option maxRecDepth 100000 in
theorem mm_X13_isGood (l : Launch) (D : va_G) (kA : Nat → ClassId) (N : Nat) (q_this : Nat → Nat) (o_this : os_T) (out : Int32) (hf : ff_X13_isGood N o_this = some out) : mc_C l D kA yX13_isGood wsX13_isGood ({ frames := 0, cells := 0, slots := 0, locals := 0 } : Room) [.ref (q_this 0)] (ce_X13 kA q_this o_this) (some (.int out)) (ce_X13 kA q_this o_this) := by
  refine mc_of (cc := cX13_isGood) (maxL := 1) (ret := (some .boolean)) (by decide) rfl (Nat.le_of_ble_eq_true rfl) ?_
  intro p e s m below meth c A B hD hP hS ls hl
  obtain ⟨hx, hb, hr, hlk, hml, hown, hts, hK, hA, hnm⟩ := B
  have hown : s.vm.findClass RX13 = some m.cls := hown
  have hl : lv_has ls 1 [(0, .ref (q_this 0))] := hl
  have hUX13 : ∀ w ∈ u_ws RX13 TX13 48, w.before [.ref (q_this 0)].toArray s = true := fun w h => hts w (List.mem_cons_of_mem _ (List.mem_append_right _ h))
  unfold ff_X13_isGood at hf
  refine lv_aload_n hx hb dX13_isGood_0 rfl (lv_at hl 0 rfl) ?_
  refine va_get (D := D) (ci := 9) (v := .int (os_I o_this 8)) (C := RX13) (T := TX13) (N := 48) hx hb hUX13 (fun _ h9 => h9) hown hK hP 0 rfl rfl 8 (by decide) (hts (Cond.fieldLink RX13 145 "ReliefBuilderModel" "error" "I") (List.mem_of_getElem? (i := 1) rfl)) (fun _ h9 => h9) rfl dX13_isGood_1 ?_
  refine lv_if_ne (tgt := 11) hx hb dX13_isGood_4 (by decide) (fun hc_1 => ?_) (fun hc_1 => ?_)
  · rw [if_neg hc_1] at hf
    refine lv_iconst (v := 0) hx hb dX13_isGood_11 (by decide) ?_
    rw [← Option.some.inj hf]
    exact mc_retz (v := 0) hx hb hr rfl hlk hP hK hD hS dX13_isGood_12
  · rw [if_pos hc_1] at hf
    refine lv_iconst (v := 1) hx hb dX13_isGood_7 (by decide) ?_
    refine lv_goto (tgt := 12) hx hb dX13_isGood_8 (by decide) ?_
    rw [← Option.some.inj hf]
    exact mc_retz (v := 1) hx hb hr rfl hlk hP hK hD hS dX13_isGood_12
def ff_X13_isWord (N : Nat) (o_this : os_T) (a1 : Int64) : Option Int32 :=
  (if (os_I o_this 8) = 0 then (if (os_I o_this 6) = (1 : Int32) then (if (lg_cmp (os_L o_this 12) a1) = 0 then some (1 : Int32) else some (0 : Int32)) else some (0 : Int32)) else some (0 : Int32))
set_option maxHeartbeats 4000000 in
set_option maxRecDepth 100000 in
theorem mm_X13_isWord (l : Launch) (D : va_G) (kA : Nat → ClassId) (N : Nat) (q_this : Nat → Nat) (o_this : os_T) (a1 : Int64) (out : Int32) (hf : ff_X13_isWord N o_this a1 = some out) : mc_C l D kA yX13_isWord wsX13_isWord ({ frames := 0, cells := 0, slots := 0, locals := 0 } : Room) [.ref (q_this 0), .long a1] (ce_X13 kA q_this o_this) (some (.int out)) (ce_X13 kA q_this o_this) := by
  refine mc_of (cc := cX13_isWord) (maxL := 3) (ret := (some .boolean)) (by decide) rfl (Nat.le_of_ble_eq_true rfl) ?_
  intro p e s m below meth c A B hD hP hS ls hl
  obtain ⟨hx, hb, hr, hlk, hml, hown, hts, hK, hA, hnm⟩ := B
  have hown : s.vm.findClass RX13 = some m.cls := hown
  have hl : lv_has ls 3 [(0, .ref (q_this 0)), (1, .long a1)] := hl
  have hUX13 : ∀ w ∈ u_ws RX13 TX13 48, w.before [.ref (q_this 0), .long a1].toArray s = true := fun w h => hts w (List.mem_cons_of_mem _ (List.mem_append_right _ h))
  unfold ff_X13_isWord at hf
  refine lv_aload_n hx hb dX13_isWord_0 rfl (lv_at hl 0 rfl) ?_
  refine va_get (D := D) (ci := 9) (v := .int (os_I o_this 8)) (C := RX13) (T := TX13) (N := 48) hx hb hUX13 (fun _ h9 => h9) hown hK hP 0 rfl rfl 8 (by decide) (hts (Cond.fieldLink RX13 145 "ReliefBuilderModel" "error" "I") (List.mem_of_getElem? (i := 1) rfl)) (fun _ h9 => h9) rfl dX13_isWord_1 ?_
  refine lv_if_ne (tgt := 28) hx hb dX13_isWord_4 (by decide) (fun hc_1 => ?_) (fun hc_1 => ?_)
  · rw [if_neg hc_1] at hf
    refine lv_iconst (v := 0) hx hb dX13_isWord_28 (by decide) ?_
    rw [← Option.some.inj hf]
    exact mc_retz (v := 0) hx hb hr rfl hlk hP hK hD hS dX13_isWord_29
  · rw [if_pos hc_1] at hf
    refine lv_aload_n hx hb dX13_isWord_7 rfl (lv_at hl 0 rfl) ?_
    refine va_get (D := D) (ci := 9) (v := .int (os_I o_this 6)) (C := RX13) (T := TX13) (N := 48) hx hb hUX13 (fun _ h9 => h9) hown hK hP 0 rfl rfl 6 (by decide) (hts (Cond.fieldLink RX13 135 "ReliefBuilderModel" "sort" "I") (List.mem_of_getElem? (i := 2) rfl)) (fun _ h9 => h9) rfl dX13_isWord_8 ?_
    refine lv_iconst (v := 1) hx hb dX13_isWord_11 (by decide) ?_
    refine lv_icmp_ne (tgt := 28) hx hb dX13_isWord_12 (by decide) (fun hc_2 => ?_) (fun hc_2 => ?_)
    · rw [if_neg hc_2] at hf
      refine lv_iconst (v := 0) hx hb dX13_isWord_28 (by decide) ?_
      rw [← Option.some.inj hf]
      exact mc_retz (v := 0) hx hb hr rfl hlk hP hK hD hS dX13_isWord_29
    · rw [if_pos hc_2] at hf
      refine lv_aload_n hx hb dX13_isWord_15 rfl (lv_at hl 0 rfl) ?_
      refine va_get (D := D) (ci := 9) (v := .long (os_L o_this 12)) (C := RX13) (T := TX13) (N := 48) hx hb hUX13 (fun _ h9 => h9) hown hK hP 0 rfl rfl 12 (by decide) (hts (Cond.fieldLink RX13 128 "ReliefBuilderModel" "word" "J") (List.mem_of_getElem? (i := 3) rfl)) (fun _ h9 => h9) rfl dX13_isWord_16 ?_
      refine lv_lload_n hx hb dX13_isWord_19 rfl (lv_at hl 1 rfl) ?_
      refine W.lcmp hx hb dX13_isWord_20 ?_
      refine lv_if_ne (tgt := 28) hx hb dX13_isWord_21 (by decide) (fun hc_3 => ?_) (fun hc_3 => ?_)
      · rw [if_neg hc_3] at hf
        refine lv_iconst (v := 0) hx hb dX13_isWord_28 (by decide) ?_
        rw [← Option.some.inj hf]
        exact mc_retz (v := 0) hx hb hr rfl hlk hP hK hD hS dX13_isWord_29
      · rw [if_pos hc_3] at hf
        refine lv_iconst (v := 1) hx hb dX13_isWord_24 (by decide) ?_
        refine lv_goto (tgt := 29) hx hb dX13_isWord_25 (by decide) ?_
        rw [← Option.some.inj hf]
        exact mc_retz (v := 1) hx hb hr rfl hlk hP hK hD hS dX13_isWord_29
def ff_X13_isSign (N : Nat) (o_this : os_T) (a1 : Int32) : Option Int32 :=
  (if (os_I o_this 8) = 0 then (if (os_I o_this 6) = (3 : Int32) then (if (os_I o_this 7) = a1 then some (1 : Int32) else some (0 : Int32)) else some (0 : Int32)) else some (0 : Int32))
set_option maxHeartbeats 4000000 in
set_option maxRecDepth 100000 in
theorem mm_X13_isSign (l : Launch) (D : va_G) (kA : Nat → ClassId) (N : Nat) (q_this : Nat → Nat) (o_this : os_T) (a1 : Int32) (out : Int32) (hf : ff_X13_isSign N o_this a1 = some out) : mc_C l D kA yX13_isSign wsX13_isSign ({ frames := 0, cells := 0, slots := 0, locals := 0 } : Room) [.ref (q_this 0), .int a1] (ce_X13 kA q_this o_this) (some (.int out)) (ce_X13 kA q_this o_this) := by
  refine mc_of (cc := cX13_isSign) (maxL := 2) (ret := (some .boolean)) (by decide) rfl (Nat.le_of_ble_eq_true rfl) ?_
  intro p e s m below meth c A B hD hP hS ls hl
  obtain ⟨hx, hb, hr, hlk, hml, hown, hts, hK, hA, hnm⟩ := B
  have hown : s.vm.findClass RX13 = some m.cls := hown
  have hl : lv_has ls 2 [(0, .ref (q_this 0)), (1, .int a1)] := hl
  have hUX13 : ∀ w ∈ u_ws RX13 TX13 48, w.before [.ref (q_this 0), .int a1].toArray s = true := fun w h => hts w (List.mem_cons_of_mem _ (List.mem_append_right _ h))
  unfold ff_X13_isSign at hf
  refine lv_aload_n hx hb dX13_isSign_0 rfl (lv_at hl 0 rfl) ?_
  refine va_get (D := D) (ci := 9) (v := .int (os_I o_this 8)) (C := RX13) (T := TX13) (N := 48) hx hb hUX13 (fun _ h9 => h9) hown hK hP 0 rfl rfl 8 (by decide) (hts (Cond.fieldLink RX13 145 "ReliefBuilderModel" "error" "I") (List.mem_of_getElem? (i := 1) rfl)) (fun _ h9 => h9) rfl dX13_isSign_1 ?_
  refine lv_if_ne (tgt := 27) hx hb dX13_isSign_4 (by decide) (fun hc_1 => ?_) (fun hc_1 => ?_)
  · rw [if_neg hc_1] at hf
    refine lv_iconst (v := 0) hx hb dX13_isSign_27 (by decide) ?_
    rw [← Option.some.inj hf]
    exact mc_retz (v := 0) hx hb hr rfl hlk hP hK hD hS dX13_isSign_28
  · rw [if_pos hc_1] at hf
    refine lv_aload_n hx hb dX13_isSign_7 rfl (lv_at hl 0 rfl) ?_
    refine va_get (D := D) (ci := 9) (v := .int (os_I o_this 6)) (C := RX13) (T := TX13) (N := 48) hx hb hUX13 (fun _ h9 => h9) hown hK hP 0 rfl rfl 6 (by decide) (hts (Cond.fieldLink RX13 135 "ReliefBuilderModel" "sort" "I") (List.mem_of_getElem? (i := 2) rfl)) (fun _ h9 => h9) rfl dX13_isSign_8 ?_
    refine lv_iconst (v := 3) hx hb dX13_isSign_11 (by decide) ?_
    refine lv_icmp_ne (tgt := 27) hx hb dX13_isSign_12 (by decide) (fun hc_2 => ?_) (fun hc_2 => ?_)
    · rw [if_neg hc_2] at hf
      refine lv_iconst (v := 0) hx hb dX13_isSign_27 (by decide) ?_
      rw [← Option.some.inj hf]
      exact mc_retz (v := 0) hx hb hr rfl hlk hP hK hD hS dX13_isSign_28
    · rw [if_pos hc_2] at hf
      refine lv_aload_n hx hb dX13_isSign_15 rfl (lv_at hl 0 rfl) ?_
      refine va_get (D := D) (ci := 9) (v := .int (os_I o_this 7)) (C := RX13) (T := TX13) (N := 48) hx hb hUX13 (fun _ h9 => h9) hown hK hP 0 rfl rfl 7 (by decide) (hts (Cond.fieldLink RX13 132 "ReliefBuilderModel" "value" "I") (List.mem_of_getElem? (i := 3) rfl)) (fun _ h9 => h9) rfl dX13_isSign_16 ?_
      refine lv_iload_n hx hb dX13_isSign_19 rfl (lv_at hl 1 rfl) ?_
      refine lv_icmp_ne (tgt := 27) hx hb dX13_isSign_20 (by decide) (fun hc_3 => ?_) (fun hc_3 => ?_)
      · rw [if_neg hc_3] at hf
        refine lv_iconst (v := 0) hx hb dX13_isSign_27 (by decide) ?_
        rw [← Option.some.inj hf]
        exact mc_retz (v := 0) hx hb hr rfl hlk hP hK hD hS dX13_isSign_28
      · rw [if_pos hc_3] at hf
        refine lv_iconst (v := 1) hx hb dX13_isSign_23 (by decide) ?_
        refine lv_goto (tgt := 28) hx hb dX13_isSign_24 (by decide) ?_
        rw [← Option.some.inj hf]
        exact mc_retz (v := 1) hx hb hr rfl hlk hP hK hD hS dX13_isSign_28
def ff_X13_must_b20 (N : Nat) (o_this : os_T) : Option os_T :=
  ((ff_X13_isGood N o_this).bind fun u_9 => (if u_9 = 0 then some o_this else ((ff_X13_goOn N o_this).bind fun u_12 => some u_12)))
def ff_X13_must (N : Nat) (o_this : os_T) (a1 : Int64) : Option os_T :=
  ((ff_X13_isGood N o_this).bind fun u_1 => (if u_1 = 0 then ff_X13_must_b20 N o_this else ((ff_X13_isWord N o_this a1).bind fun u_4 => (if u_4 = 0 then ((ff_X13_wrong N o_this (1 : Int32)).bind fun u_7 => ff_X13_must_b20 N u_7) else ff_X13_must_b20 N o_this))))
set_option maxHeartbeats 4000000 in
set_option maxRecDepth 100000 in
theorem mm_X13_must (l : Launch) (D : va_G) (kA : Nat → ClassId) (N : Nat) (q_this : Nat → Nat) (o_this : os_T) (a1 : Int64) (out : os_T) (hf : ff_X13_must N o_this a1 = some out) : mc_C l D kA yX13_must wsX13_must ({ frames := 2, cells := 0, slots := 0, locals := 43 } : Room) [.ref (q_this 0), .long a1] (ce_X13 kA q_this o_this) none (ce_X13 kA q_this out) := by
  refine mc_of (cc := cX13_must) (maxL := 3) (ret := none) (by decide) rfl (Nat.le_of_ble_eq_true rfl) ?_
  intro p e s m below meth c A B hD hP hS ls hl
  obtain ⟨hx, hb, hr, hlk, hml, hown, hts, hK, hA, hnm⟩ := B
  have hown : s.vm.findClass RX13 = some m.cls := hown
  have hl : lv_has ls 3 [(0, .ref (q_this 0)), (1, .long a1)] := hl
  have hB20 : ∀ (o_this : os_T) (H : Heap) (locs : List Loc) (ls : Array Slot), va_P D vwCl (ce_X13 kA q_this o_this) H → va_D A (ce_X13 kA q_this o_this) → va_S A s.heap H locs → lv_has ls 3 [(0, .ref (q_this 0))] → ff_X13_must_b20 N o_this = some out → W p l e ({ frames := 2, cells := 0, slots := 0, locals := 43 } : Room) s m [.ref (q_this 0), .long a1].toArray below meth c H locs 0 0 (MQ below (mc_Q D kA A none (ce_X13 kA q_this out)) [.ref (q_this 0), .long a1].toArray s 0 0 A) (F0 m 20 ls []) := by
    intro o_this H locs ls hP hD hS hl hf
    unfold ff_X13_must_b20 at hf
    refine lv_aload_n hx hb dX13_must_20 rfl (lv_at hl 0 rfl) ?_
    obtain ⟨u_9, he_10, hf⟩ := os_bd hf
    refine mc_callV ⟨hx, hb, hml, hown, hts⟩ (mm_X13_isGood l D kA N q_this o_this u_9 he_10) (cwV 0 hts gX13_must_X13_isGood rfl rfl rfl (by decide +kernel) ⟨Nat.le_of_ble_eq_true rfl, Nat.le_of_ble_eq_true rfl⟩) (wc := (ce_X13 kA q_this o_this)) (ci := 9) (q0 := 0) rfl rfl rfl hl.1 (As := []) (rest := []) rfl (Nat.le_of_ble_eq_true rfl) dX13_must_21 ⟨Nat.le_of_ble_eq_true rfl, Nat.le_of_ble_eq_true rfl⟩ hK hP hD hS hA [0, 1, 2, 3, 4, 5, 6, 7, 8, 9, 10, 11, 12, 13, 14, 15, 16, 17, 18, 19, 20, 21, 22, 23] [] [0, 1, 2, 3, 4, 5, 6, 7, 8, 9, 10, 11, 12, 13, 14, 15, 16, 17, 18, 19, 20, 21, 22, 23] rfl (by decide) rfl (by decide) (by decide) rfl (by decide) (wr := []) (w2 := (ce_X13 kA q_this o_this)) (fun H locs hP hD hS => ?_)
    have hP : va_P D vwCl (ce_X13 kA q_this o_this) H := hP
    refine lv_if_eq (tgt := 31) hx hb dX13_must_24 (by decide) (fun hc_11 => ?_) (fun hc_11 => ?_)
    · rw [if_pos hc_11] at hf
      rw [← Option.some.inj hf]
      exact mc_retv hx hb hr hlk hP hK hD hS dX13_must_31
    · rw [if_neg hc_11] at hf
      refine lv_aload_n hx hb dX13_must_27 rfl (lv_at hl 0 rfl) ?_
      obtain ⟨u_12, he_13, hf⟩ := os_bd hf
      refine mc_callV ⟨hx, hb, hml, hown, hts⟩ (mm_X13_goOn l D kA N q_this o_this u_12 he_13) (cwV 0 hts gX13_must_X13_goOn rfl rfl rfl (by decide +kernel) ⟨Nat.le_of_ble_eq_true rfl, Nat.le_of_ble_eq_true rfl⟩) (wc := (ce_X13 kA q_this o_this)) (ci := 9) (q0 := 0) rfl rfl rfl hl.1 (As := []) (rest := []) rfl (Nat.le_of_ble_eq_true rfl) dX13_must_28 ⟨Nat.le_of_ble_eq_true rfl, Nat.le_of_ble_eq_true rfl⟩ hK hP hD hS hA [0, 1, 2, 3, 4, 5, 6, 7, 8, 9, 10, 11, 12, 13, 14, 15, 16, 17, 18, 19, 20, 21, 22, 23] [] [0, 1, 2, 3, 4, 5, 6, 7, 8, 9, 10, 11, 12, 13, 14, 15, 16, 17, 18, 19, 20, 21, 22, 23] rfl (by decide) rfl (by decide) (by decide) rfl (by decide) (wr := []) (w2 := (ce_X13 kA q_this u_12)) (fun H locs hP hD hS => ?_)
      have hP : va_P D vwCl (ce_X13 kA q_this u_12) H := hP
      rw [← Option.some.inj hf]
      exact mc_retv hx hb hr hlk hP hK hD hS dX13_must_31
  unfold ff_X13_must at hf
  refine lv_aload_n hx hb dX13_must_0 rfl (lv_at hl 0 rfl) ?_
  obtain ⟨u_1, he_2, hf⟩ := os_bd hf
  refine mc_callV ⟨hx, hb, hml, hown, hts⟩ (mm_X13_isGood l D kA N q_this o_this u_1 he_2) (cwV 0 hts gX13_must_X13_isGood rfl rfl rfl (by decide +kernel) ⟨Nat.le_of_ble_eq_true rfl, Nat.le_of_ble_eq_true rfl⟩) (wc := (ce_X13 kA q_this o_this)) (ci := 9) (q0 := 0) rfl rfl rfl hl.1 (As := []) (rest := []) rfl (Nat.le_of_ble_eq_true rfl) dX13_must_1 ⟨Nat.le_of_ble_eq_true rfl, Nat.le_of_ble_eq_true rfl⟩ hK hP hD hS hA [0, 1, 2, 3, 4, 5, 6, 7, 8, 9, 10, 11, 12, 13, 14, 15, 16, 17, 18, 19, 20, 21, 22, 23] [] [0, 1, 2, 3, 4, 5, 6, 7, 8, 9, 10, 11, 12, 13, 14, 15, 16, 17, 18, 19, 20, 21, 22, 23] rfl (by decide) rfl (by decide) (by decide) rfl (by decide) (wr := []) (w2 := (ce_X13 kA q_this o_this)) (fun H locs hP hD hS => ?_)
  have hP : va_P D vwCl (ce_X13 kA q_this o_this) H := hP
  refine lv_if_eq (tgt := 20) hx hb dX13_must_4 (by decide) (fun hc_3 => ?_) (fun hc_3 => ?_)
  · rw [if_pos hc_3] at hf
    exact hB20 o_this _ _ _ hP hD hS (lv_sub hl [0] rfl) hf
  · rw [if_neg hc_3] at hf
    refine lv_aload_n hx hb dX13_must_7 rfl (lv_at hl 0 rfl) ?_
    refine lv_lload_n hx hb dX13_must_8 rfl (lv_at hl 1 rfl) ?_
    obtain ⟨u_4, he_5, hf⟩ := os_bd hf
    refine mc_callV ⟨hx, hb, hml, hown, hts⟩ (mm_X13_isWord l D kA N q_this o_this a1 u_4 he_5) (cwV 1 hts gX13_must_X13_isWord rfl rfl rfl (by decide +kernel) ⟨Nat.le_of_ble_eq_true rfl, Nat.le_of_ble_eq_true rfl⟩) (wc := (ce_X13 kA q_this o_this)) (ci := 9) (q0 := 0) rfl rfl rfl hl.1 (As := [.long a1]) (rest := []) rfl (Nat.le_of_ble_eq_true rfl) dX13_must_9 ⟨Nat.le_of_ble_eq_true rfl, Nat.le_of_ble_eq_true rfl⟩ hK hP hD hS hA [0, 1, 2, 3, 4, 5, 6, 7, 8, 9, 10, 11, 12, 13, 14, 15, 16, 17, 18, 19, 20, 21, 22, 23] [] [0, 1, 2, 3, 4, 5, 6, 7, 8, 9, 10, 11, 12, 13, 14, 15, 16, 17, 18, 19, 20, 21, 22, 23] rfl (by decide) rfl (by decide) (by decide) rfl (by decide) (wr := []) (w2 := (ce_X13 kA q_this o_this)) (fun H locs hP hD hS => ?_)
    have hP : va_P D vwCl (ce_X13 kA q_this o_this) H := hP
    refine lv_if_ne (tgt := 20) hx hb dX13_must_12 (by decide) (fun hc_6 => ?_) (fun hc_6 => ?_)
    · rw [if_neg hc_6] at hf
      exact hB20 o_this _ _ _ hP hD hS (lv_sub hl [0] rfl) hf
    · rw [if_pos hc_6] at hf
      refine lv_aload_n hx hb dX13_must_15 rfl (lv_at hl 0 rfl) ?_
      refine lv_iconst (v := 1) hx hb dX13_must_16 (by decide) ?_
      obtain ⟨u_7, he_8, hf⟩ := os_bd hf
      refine mc_callV ⟨hx, hb, hml, hown, hts⟩ (mm_X13_wrong l D kA N q_this o_this (1 : Int32) u_7 he_8) (cwV 1 hts gX13_must_X13_wrong rfl rfl rfl (by decide +kernel) ⟨Nat.le_of_ble_eq_true rfl, Nat.le_of_ble_eq_true rfl⟩) (wc := (ce_X13 kA q_this o_this)) (ci := 9) (q0 := 0) rfl rfl rfl hl.1 (As := [.int (1 : Int32)]) (rest := []) rfl (Nat.le_of_ble_eq_true rfl) dX13_must_17 ⟨Nat.le_of_ble_eq_true rfl, Nat.le_of_ble_eq_true rfl⟩ hK hP hD hS hA [0, 1, 2, 3, 4, 5, 6, 7, 8, 9, 10, 11, 12, 13, 14, 15, 16, 17, 18, 19, 20, 21, 22, 23] [] [0, 1, 2, 3, 4, 5, 6, 7, 8, 9, 10, 11, 12, 13, 14, 15, 16, 17, 18, 19, 20, 21, 22, 23] rfl (by decide) rfl (by decide) (by decide) rfl (by decide) (wr := []) (w2 := (ce_X13 kA q_this u_7)) (fun H locs hP hD hS => ?_)
      have hP : va_P D vwCl (ce_X13 kA q_this u_7) H := hP
      exact hB20 u_7 _ _ _ hP hD hS (lv_sub hl [0] rfl) hf
def ff_X13_mustSign_b20 (N : Nat) (o_this : os_T) : Option os_T :=
  ((ff_X13_isGood N o_this).bind fun u_9 => (if u_9 = 0 then some o_this else ((ff_X13_goOn N o_this).bind fun u_12 => some u_12)))
def ff_X13_mustSign (N : Nat) (o_this : os_T) (a1 : Int32) : Option os_T :=
  ((ff_X13_isGood N o_this).bind fun u_1 => (if u_1 = 0 then ff_X13_mustSign_b20 N o_this else ((ff_X13_isSign N o_this a1).bind fun u_4 => (if u_4 = 0 then ((ff_X13_wrong N o_this (1 : Int32)).bind fun u_7 => ff_X13_mustSign_b20 N u_7) else ff_X13_mustSign_b20 N o_this))))
set_option maxHeartbeats 4000000 in
set_option maxRecDepth 100000 in
theorem mm_X13_mustSign (l : Launch) (D : va_G) (kA : Nat → ClassId) (N : Nat) (q_this : Nat → Nat) (o_this : os_T) (a1 : Int32) (out : os_T) (hf : ff_X13_mustSign N o_this a1 = some out) : mc_C l D kA yX13_mustSign wsX13_mustSign ({ frames := 2, cells := 0, slots := 0, locals := 43 } : Room) [.ref (q_this 0), .int a1] (ce_X13 kA q_this o_this) none (ce_X13 kA q_this out) := by
  refine mc_of (cc := cX13_mustSign) (maxL := 2) (ret := none) (by decide) rfl (Nat.le_of_ble_eq_true rfl) ?_
  intro p e s m below meth c A B hD hP hS ls hl
  obtain ⟨hx, hb, hr, hlk, hml, hown, hts, hK, hA, hnm⟩ := B
  have hown : s.vm.findClass RX13 = some m.cls := hown
  have hl : lv_has ls 2 [(0, .ref (q_this 0)), (1, .int a1)] := hl
  have hB20 : ∀ (o_this : os_T) (H : Heap) (locs : List Loc) (ls : Array Slot), va_P D vwCl (ce_X13 kA q_this o_this) H → va_D A (ce_X13 kA q_this o_this) → va_S A s.heap H locs → lv_has ls 2 [(0, .ref (q_this 0))] → ff_X13_mustSign_b20 N o_this = some out → W p l e ({ frames := 2, cells := 0, slots := 0, locals := 43 } : Room) s m [.ref (q_this 0), .int a1].toArray below meth c H locs 0 0 (MQ below (mc_Q D kA A none (ce_X13 kA q_this out)) [.ref (q_this 0), .int a1].toArray s 0 0 A) (F0 m 20 ls []) := by
    intro o_this H locs ls hP hD hS hl hf
    unfold ff_X13_mustSign_b20 at hf
    refine lv_aload_n hx hb dX13_mustSign_20 rfl (lv_at hl 0 rfl) ?_
    obtain ⟨u_9, he_10, hf⟩ := os_bd hf
    refine mc_callV ⟨hx, hb, hml, hown, hts⟩ (mm_X13_isGood l D kA N q_this o_this u_9 he_10) (cwV 0 hts gX13_mustSign_X13_isGood rfl rfl rfl (by decide +kernel) ⟨Nat.le_of_ble_eq_true rfl, Nat.le_of_ble_eq_true rfl⟩) (wc := (ce_X13 kA q_this o_this)) (ci := 9) (q0 := 0) rfl rfl rfl hl.1 (As := []) (rest := []) rfl (Nat.le_of_ble_eq_true rfl) dX13_mustSign_21 ⟨Nat.le_of_ble_eq_true rfl, Nat.le_of_ble_eq_true rfl⟩ hK hP hD hS hA [0, 1, 2, 3, 4, 5, 6, 7, 8, 9, 10, 11, 12, 13, 14, 15, 16, 17, 18, 19, 20, 21, 22, 23] [] [0, 1, 2, 3, 4, 5, 6, 7, 8, 9, 10, 11, 12, 13, 14, 15, 16, 17, 18, 19, 20, 21, 22, 23] rfl (by decide) rfl (by decide) (by decide) rfl (by decide) (wr := []) (w2 := (ce_X13 kA q_this o_this)) (fun H locs hP hD hS => ?_)
    have hP : va_P D vwCl (ce_X13 kA q_this o_this) H := hP
    refine lv_if_eq (tgt := 31) hx hb dX13_mustSign_24 (by decide) (fun hc_11 => ?_) (fun hc_11 => ?_)
    · rw [if_pos hc_11] at hf
      rw [← Option.some.inj hf]
      exact mc_retv hx hb hr hlk hP hK hD hS dX13_mustSign_31
    · rw [if_neg hc_11] at hf
      refine lv_aload_n hx hb dX13_mustSign_27 rfl (lv_at hl 0 rfl) ?_
      obtain ⟨u_12, he_13, hf⟩ := os_bd hf
      refine mc_callV ⟨hx, hb, hml, hown, hts⟩ (mm_X13_goOn l D kA N q_this o_this u_12 he_13) (cwV 0 hts gX13_mustSign_X13_goOn rfl rfl rfl (by decide +kernel) ⟨Nat.le_of_ble_eq_true rfl, Nat.le_of_ble_eq_true rfl⟩) (wc := (ce_X13 kA q_this o_this)) (ci := 9) (q0 := 0) rfl rfl rfl hl.1 (As := []) (rest := []) rfl (Nat.le_of_ble_eq_true rfl) dX13_mustSign_28 ⟨Nat.le_of_ble_eq_true rfl, Nat.le_of_ble_eq_true rfl⟩ hK hP hD hS hA [0, 1, 2, 3, 4, 5, 6, 7, 8, 9, 10, 11, 12, 13, 14, 15, 16, 17, 18, 19, 20, 21, 22, 23] [] [0, 1, 2, 3, 4, 5, 6, 7, 8, 9, 10, 11, 12, 13, 14, 15, 16, 17, 18, 19, 20, 21, 22, 23] rfl (by decide) rfl (by decide) (by decide) rfl (by decide) (wr := []) (w2 := (ce_X13 kA q_this u_12)) (fun H locs hP hD hS => ?_)
      have hP : va_P D vwCl (ce_X13 kA q_this u_12) H := hP
      rw [← Option.some.inj hf]
      exact mc_retv hx hb hr hlk hP hK hD hS dX13_mustSign_31
  unfold ff_X13_mustSign at hf
  refine lv_aload_n hx hb dX13_mustSign_0 rfl (lv_at hl 0 rfl) ?_
  obtain ⟨u_1, he_2, hf⟩ := os_bd hf
  refine mc_callV ⟨hx, hb, hml, hown, hts⟩ (mm_X13_isGood l D kA N q_this o_this u_1 he_2) (cwV 0 hts gX13_mustSign_X13_isGood rfl rfl rfl (by decide +kernel) ⟨Nat.le_of_ble_eq_true rfl, Nat.le_of_ble_eq_true rfl⟩) (wc := (ce_X13 kA q_this o_this)) (ci := 9) (q0 := 0) rfl rfl rfl hl.1 (As := []) (rest := []) rfl (Nat.le_of_ble_eq_true rfl) dX13_mustSign_1 ⟨Nat.le_of_ble_eq_true rfl, Nat.le_of_ble_eq_true rfl⟩ hK hP hD hS hA [0, 1, 2, 3, 4, 5, 6, 7, 8, 9, 10, 11, 12, 13, 14, 15, 16, 17, 18, 19, 20, 21, 22, 23] [] [0, 1, 2, 3, 4, 5, 6, 7, 8, 9, 10, 11, 12, 13, 14, 15, 16, 17, 18, 19, 20, 21, 22, 23] rfl (by decide) rfl (by decide) (by decide) rfl (by decide) (wr := []) (w2 := (ce_X13 kA q_this o_this)) (fun H locs hP hD hS => ?_)
  have hP : va_P D vwCl (ce_X13 kA q_this o_this) H := hP
  refine lv_if_eq (tgt := 20) hx hb dX13_mustSign_4 (by decide) (fun hc_3 => ?_) (fun hc_3 => ?_)
  · rw [if_pos hc_3] at hf
    exact hB20 o_this _ _ _ hP hD hS (lv_sub hl [0] rfl) hf
  · rw [if_neg hc_3] at hf
    refine lv_aload_n hx hb dX13_mustSign_7 rfl (lv_at hl 0 rfl) ?_
    refine lv_iload_n hx hb dX13_mustSign_8 rfl (lv_at hl 1 rfl) ?_
    obtain ⟨u_4, he_5, hf⟩ := os_bd hf
    refine mc_callV ⟨hx, hb, hml, hown, hts⟩ (mm_X13_isSign l D kA N q_this o_this a1 u_4 he_5) (cwV 1 hts gX13_mustSign_X13_isSign rfl rfl rfl (by decide +kernel) ⟨Nat.le_of_ble_eq_true rfl, Nat.le_of_ble_eq_true rfl⟩) (wc := (ce_X13 kA q_this o_this)) (ci := 9) (q0 := 0) rfl rfl rfl hl.1 (As := [.int a1]) (rest := []) rfl (Nat.le_of_ble_eq_true rfl) dX13_mustSign_9 ⟨Nat.le_of_ble_eq_true rfl, Nat.le_of_ble_eq_true rfl⟩ hK hP hD hS hA [0, 1, 2, 3, 4, 5, 6, 7, 8, 9, 10, 11, 12, 13, 14, 15, 16, 17, 18, 19, 20, 21, 22, 23] [] [0, 1, 2, 3, 4, 5, 6, 7, 8, 9, 10, 11, 12, 13, 14, 15, 16, 17, 18, 19, 20, 21, 22, 23] rfl (by decide) rfl (by decide) (by decide) rfl (by decide) (wr := []) (w2 := (ce_X13 kA q_this o_this)) (fun H locs hP hD hS => ?_)
    have hP : va_P D vwCl (ce_X13 kA q_this o_this) H := hP
    refine lv_if_ne (tgt := 20) hx hb dX13_mustSign_12 (by decide) (fun hc_6 => ?_) (fun hc_6 => ?_)
    · rw [if_neg hc_6] at hf
      exact hB20 o_this _ _ _ hP hD hS (lv_sub hl [0] rfl) hf
    · rw [if_pos hc_6] at hf
      refine lv_aload_n hx hb dX13_mustSign_15 rfl (lv_at hl 0 rfl) ?_
      refine lv_iconst (v := 1) hx hb dX13_mustSign_16 (by decide) ?_
      obtain ⟨u_7, he_8, hf⟩ := os_bd hf
      refine mc_callV ⟨hx, hb, hml, hown, hts⟩ (mm_X13_wrong l D kA N q_this o_this (1 : Int32) u_7 he_8) (cwV 1 hts gX13_mustSign_X13_wrong rfl rfl rfl (by decide +kernel) ⟨Nat.le_of_ble_eq_true rfl, Nat.le_of_ble_eq_true rfl⟩) (wc := (ce_X13 kA q_this o_this)) (ci := 9) (q0 := 0) rfl rfl rfl hl.1 (As := [.int (1 : Int32)]) (rest := []) rfl (Nat.le_of_ble_eq_true rfl) dX13_mustSign_17 ⟨Nat.le_of_ble_eq_true rfl, Nat.le_of_ble_eq_true rfl⟩ hK hP hD hS hA [0, 1, 2, 3, 4, 5, 6, 7, 8, 9, 10, 11, 12, 13, 14, 15, 16, 17, 18, 19, 20, 21, 22, 23] [] [0, 1, 2, 3, 4, 5, 6, 7, 8, 9, 10, 11, 12, 13, 14, 15, 16, 17, 18, 19, 20, 21, 22, 23] rfl (by decide) rfl (by decide) (by decide) rfl (by decide) (wr := []) (w2 := (ce_X13 kA q_this u_7)) (fun H locs hP hD hS => ?_)
      have hP : va_P D vwCl (ce_X13 kA q_this u_7) H := hP
      exact hB20 u_7 _ _ _ hP hD hS (lv_sub hl [0] rfl) hf
def ff_X13_number_b49 (N : Nat) (o_this : os_T) (x3 : Int32) : Option (Int32 × os_T) :=
  ((ff_X13_isGood N o_this).bind fun u_15 => (if u_15 = 0 then some (x3, o_this) else ((ff_X13_goOn N o_this).bind fun u_18 => some (x3, u_18))))
def ff_X13_number_b20 (N : Nat) (o_this : os_T) (x1 : Int32) (x2 : Int32) : Option (Int32 × os_T) :=
  ((ff_X13_isGood N o_this).bind fun u_7 => (if u_7 = 0 then ff_X13_number_b49 N o_this (os_I o_this 7) else ((ff_X13_isIn N (Int32.toInt64 (os_I o_this 7)) (Int32.toInt64 x1) (Int32.toInt64 x2)).bind fun u_10 => (if u_10 = 0 then ((ff_X13_wrong N o_this (2 : Int32)).bind fun u_13 => ff_X13_number_b49 N u_13 (os_I o_this 7)) else ff_X13_number_b49 N o_this (os_I o_this 7)))))
def ff_X13_number (N : Nat) (o_this : os_T) (a1 : Int32) (a2 : Int32) : Option (Int32 × os_T) :=
  ((ff_X13_isGood N o_this).bind fun u_1 => (if u_1 = 0 then ff_X13_number_b20 N o_this a1 a2 else (if (os_I o_this 6) = (2 : Int32) then ff_X13_number_b20 N o_this a1 a2 else ((ff_X13_wrong N o_this (1 : Int32)).bind fun u_5 => ff_X13_number_b20 N u_5 a1 a2))))
set_option maxHeartbeats 4000000 in
set_option maxRecDepth 100000 in
theorem mm_X13_number (l : Launch) (D : va_G) (kA : Nat → ClassId) (N : Nat) (q_this : Nat → Nat) (o_this : os_T) (a1 : Int32) (a2 : Int32) (out : (Int32 × os_T)) (hf : ff_X13_number N o_this a1 a2 = some out) : mc_C l D kA yX13_number wsX13_number ({ frames := 2, cells := 0, slots := 0, locals := 43 } : Room) [.ref (q_this 0), .int a1, .int a2] (ce_X13 kA q_this o_this) (some (.int out.1)) (ce_X13 kA q_this out.2) := by
  refine mc_of (cc := cX13_number) (maxL := 4) (ret := (some .int)) (by decide) rfl (Nat.le_of_ble_eq_true rfl) ?_
  intro p e s m below meth c A B hD hP hS ls hl
  obtain ⟨hx, hb, hr, hlk, hml, hown, hts, hK, hA, hnm⟩ := B
  have hown : s.vm.findClass RX13 = some m.cls := hown
  have hl : lv_has ls 4 [(0, .ref (q_this 0)), (1, .int a1), (2, .int a2)] := hl
  have hUX13 : ∀ w ∈ u_ws RX13 TX13 48, w.before [.ref (q_this 0), .int a1, .int a2].toArray s = true := fun w h => hts w (List.mem_cons_of_mem _ (List.mem_append_right _ h))
  have hB49 : ∀ (o_this : os_T) (x3 : Int32) (H : Heap) (locs : List Loc) (ls : Array Slot), va_P D vwCl (ce_X13 kA q_this o_this) H → va_D A (ce_X13 kA q_this o_this) → va_S A s.heap H locs → lv_has ls 4 [(0, .ref (q_this 0)), (3, .int x3)] → ff_X13_number_b49 N o_this x3 = some out → W p l e ({ frames := 2, cells := 0, slots := 0, locals := 43 } : Room) s m [.ref (q_this 0), .int a1, .int a2].toArray below meth c H locs 0 0 (MQ below (mc_Q D kA A (some (.int out.1)) (ce_X13 kA q_this out.2)) [.ref (q_this 0), .int a1, .int a2].toArray s 0 0 A) (F0 m 49 ls []) := by
    intro o_this x3 H locs ls hP hD hS hl hf
    unfold ff_X13_number_b49 at hf
    refine lv_aload_n hx hb dX13_number_49 rfl (lv_at hl 0 rfl) ?_
    obtain ⟨u_15, he_16, hf⟩ := os_bd hf
    refine mc_callV ⟨hx, hb, hml, hown, hts⟩ (mm_X13_isGood l D kA N q_this o_this u_15 he_16) (cwV 0 hts gX13_number_X13_isGood rfl rfl rfl (by decide +kernel) ⟨Nat.le_of_ble_eq_true rfl, Nat.le_of_ble_eq_true rfl⟩) (wc := (ce_X13 kA q_this o_this)) (ci := 9) (q0 := 0) rfl rfl rfl hl.1 (As := []) (rest := []) rfl (Nat.le_of_ble_eq_true rfl) dX13_number_50 ⟨Nat.le_of_ble_eq_true rfl, Nat.le_of_ble_eq_true rfl⟩ hK hP hD hS hA [0, 1, 2, 3, 4, 5, 6, 7, 8, 9, 10, 11, 12, 13, 14, 15, 16, 17, 18, 19, 20, 21, 22, 23] [] [0, 1, 2, 3, 4, 5, 6, 7, 8, 9, 10, 11, 12, 13, 14, 15, 16, 17, 18, 19, 20, 21, 22, 23] rfl (by decide) rfl (by decide) (by decide) rfl (by decide) (wr := []) (w2 := (ce_X13 kA q_this o_this)) (fun H locs hP hD hS => ?_)
    have hP : va_P D vwCl (ce_X13 kA q_this o_this) H := hP
    refine lv_if_eq (tgt := 60) hx hb dX13_number_53 (by decide) (fun hc_17 => ?_) (fun hc_17 => ?_)
    · rw [if_pos hc_17] at hf
      refine lv_iload_n hx hb dX13_number_60 rfl (lv_at hl 1 rfl) ?_
      rw [← Option.some.inj hf]
      exact mc_reti hx hb hr hlk hP hK hD hS dX13_number_61
    · rw [if_neg hc_17] at hf
      refine lv_aload_n hx hb dX13_number_56 rfl (lv_at hl 0 rfl) ?_
      obtain ⟨u_18, he_19, hf⟩ := os_bd hf
      refine mc_callV ⟨hx, hb, hml, hown, hts⟩ (mm_X13_goOn l D kA N q_this o_this u_18 he_19) (cwV 0 hts gX13_number_X13_goOn rfl rfl rfl (by decide +kernel) ⟨Nat.le_of_ble_eq_true rfl, Nat.le_of_ble_eq_true rfl⟩) (wc := (ce_X13 kA q_this o_this)) (ci := 9) (q0 := 0) rfl rfl rfl hl.1 (As := []) (rest := []) rfl (Nat.le_of_ble_eq_true rfl) dX13_number_57 ⟨Nat.le_of_ble_eq_true rfl, Nat.le_of_ble_eq_true rfl⟩ hK hP hD hS hA [0, 1, 2, 3, 4, 5, 6, 7, 8, 9, 10, 11, 12, 13, 14, 15, 16, 17, 18, 19, 20, 21, 22, 23] [] [0, 1, 2, 3, 4, 5, 6, 7, 8, 9, 10, 11, 12, 13, 14, 15, 16, 17, 18, 19, 20, 21, 22, 23] rfl (by decide) rfl (by decide) (by decide) rfl (by decide) (wr := []) (w2 := (ce_X13 kA q_this u_18)) (fun H locs hP hD hS => ?_)
      have hP : va_P D vwCl (ce_X13 kA q_this u_18) H := hP
      refine lv_iload_n hx hb dX13_number_60 rfl (lv_at hl 1 rfl) ?_
      rw [← Option.some.inj hf]
      exact mc_reti hx hb hr hlk hP hK hD hS dX13_number_61
  have hB20 : ∀ (o_this : os_T) (x1 : Int32) (x2 : Int32) (H : Heap) (locs : List Loc) (ls : Array Slot), va_P D vwCl (ce_X13 kA q_this o_this) H → va_D A (ce_X13 kA q_this o_this) → va_S A s.heap H locs → lv_has ls 4 [(0, .ref (q_this 0)), (1, .int x1), (2, .int x2)] → ff_X13_number_b20 N o_this x1 x2 = some out → W p l e ({ frames := 2, cells := 0, slots := 0, locals := 43 } : Room) s m [.ref (q_this 0), .int a1, .int a2].toArray below meth c H locs 0 0 (MQ below (mc_Q D kA A (some (.int out.1)) (ce_X13 kA q_this out.2)) [.ref (q_this 0), .int a1, .int a2].toArray s 0 0 A) (F0 m 20 ls []) := by
    intro o_this x1 x2 H locs ls hP hD hS hl hf
    unfold ff_X13_number_b20 at hf
    refine lv_aload_n hx hb dX13_number_20 rfl (lv_at hl 0 rfl) ?_
    refine va_get (D := D) (ci := 9) (v := .int (os_I o_this 7)) (C := RX13) (T := TX13) (N := 48) hx hb hUX13 (fun _ h9 => h9) hown hK hP 0 rfl rfl 7 (by decide) (hts (Cond.fieldLink RX13 132 "ReliefBuilderModel" "value" "I") (List.mem_of_getElem? (i := 2) rfl)) (fun _ h9 => h9) rfl dX13_number_21 ?_
    refine lv_istore_n (lv' := [(3, .int (os_I o_this 7)), (0, .ref (q_this 0)), (1, .int x1), (2, .int x2)]) hx hb dX13_number_24 rfl hl (by decide) rfl (fun ls hl => ?_)
    refine lv_aload_n hx hb dX13_number_25 rfl (lv_at hl 1 rfl) ?_
    obtain ⟨u_7, he_8, hf⟩ := os_bd hf
    refine mc_callV ⟨hx, hb, hml, hown, hts⟩ (mm_X13_isGood l D kA N q_this o_this u_7 he_8) (cwV 0 hts gX13_number_X13_isGood rfl rfl rfl (by decide +kernel) ⟨Nat.le_of_ble_eq_true rfl, Nat.le_of_ble_eq_true rfl⟩) (wc := (ce_X13 kA q_this o_this)) (ci := 9) (q0 := 0) rfl rfl rfl hl.1 (As := []) (rest := []) rfl (Nat.le_of_ble_eq_true rfl) dX13_number_26 ⟨Nat.le_of_ble_eq_true rfl, Nat.le_of_ble_eq_true rfl⟩ hK hP hD hS hA [0, 1, 2, 3, 4, 5, 6, 7, 8, 9, 10, 11, 12, 13, 14, 15, 16, 17, 18, 19, 20, 21, 22, 23] [] [0, 1, 2, 3, 4, 5, 6, 7, 8, 9, 10, 11, 12, 13, 14, 15, 16, 17, 18, 19, 20, 21, 22, 23] rfl (by decide) rfl (by decide) (by decide) rfl (by decide) (wr := []) (w2 := (ce_X13 kA q_this o_this)) (fun H locs hP hD hS => ?_)
    have hP : va_P D vwCl (ce_X13 kA q_this o_this) H := hP
    refine lv_if_eq (tgt := 49) hx hb dX13_number_29 (by decide) (fun hc_9 => ?_) (fun hc_9 => ?_)
    · rw [if_pos hc_9] at hf
      exact hB49 o_this (os_I o_this 7) _ _ _ hP hD hS (lv_sub hl [1, 0] rfl) hf
    · rw [if_neg hc_9] at hf
      refine lv_iload_n hx hb dX13_number_32 rfl (lv_at hl 0 rfl) ?_
      refine lv_i2l hx hb dX13_number_33 rfl ?_
      refine lv_iload_n hx hb dX13_number_34 rfl (lv_at hl 2 rfl) ?_
      refine lv_i2l hx hb dX13_number_35 rfl ?_
      refine lv_iload_n hx hb dX13_number_36 rfl (lv_at hl 3 rfl) ?_
      refine lv_i2l hx hb dX13_number_37 rfl ?_
      obtain ⟨u_10, he_11, hf⟩ := os_bd hf
      refine mc_callS ⟨hx, hb, hml, hown, hts⟩ (mm_X13_isIn l D kA N (Int32.toInt64 (os_I o_this 7)) (Int32.toInt64 x1) (Int32.toInt64 x2) u_10 he_11) (va_cwS 3 hts gX13_number_X13_isIn rfl rfl rfl (by decide +kernel) ⟨Nat.le_of_ble_eq_true rfl, Nat.le_of_ble_eq_true rfl⟩) (wc := []) rfl hl.1 (As := [.long (Int32.toInt64 (os_I o_this 7)), .long (Int32.toInt64 x1), .long (Int32.toInt64 x2)]) (rest := []) rfl (Nat.le_of_ble_eq_true rfl) dX13_number_38 ⟨Nat.le_of_ble_eq_true rfl, Nat.le_of_ble_eq_true rfl⟩ hK hP hD hS hA [] [0, 1, 2, 3, 4, 5, 6, 7, 8, 9, 10, 11, 12, 13, 14, 15, 16, 17, 18, 19, 20, 21, 22, 23] [0, 1, 2, 3, 4, 5, 6, 7, 8, 9, 10, 11, 12, 13, 14, 15, 16, 17, 18, 19, 20, 21, 22, 23] rfl (by decide) rfl (by decide) (by decide) rfl (by decide) (wr := (ce_X13 kA q_this o_this)) (w2 := (ce_X13 kA q_this o_this)) (fun H locs hP hD hS => ?_)
      have hP : va_P D vwCl (ce_X13 kA q_this o_this) H := hP
      refine lv_if_ne (tgt := 49) hx hb dX13_number_41 (by decide) (fun hc_12 => ?_) (fun hc_12 => ?_)
      · rw [if_neg hc_12] at hf
        exact hB49 o_this (os_I o_this 7) _ _ _ hP hD hS (lv_sub hl [1, 0] rfl) hf
      · rw [if_pos hc_12] at hf
        refine lv_aload_n hx hb dX13_number_44 rfl (lv_at hl 1 rfl) ?_
        refine lv_iconst (v := 2) hx hb dX13_number_45 (by decide) ?_
        obtain ⟨u_13, he_14, hf⟩ := os_bd hf
        refine mc_callV ⟨hx, hb, hml, hown, hts⟩ (mm_X13_wrong l D kA N q_this o_this (2 : Int32) u_13 he_14) (cwV 1 hts gX13_number_X13_wrong rfl rfl rfl (by decide +kernel) ⟨Nat.le_of_ble_eq_true rfl, Nat.le_of_ble_eq_true rfl⟩) (wc := (ce_X13 kA q_this o_this)) (ci := 9) (q0 := 0) rfl rfl rfl hl.1 (As := [.int (2 : Int32)]) (rest := []) rfl (Nat.le_of_ble_eq_true rfl) dX13_number_46 ⟨Nat.le_of_ble_eq_true rfl, Nat.le_of_ble_eq_true rfl⟩ hK hP hD hS hA [0, 1, 2, 3, 4, 5, 6, 7, 8, 9, 10, 11, 12, 13, 14, 15, 16, 17, 18, 19, 20, 21, 22, 23] [] [0, 1, 2, 3, 4, 5, 6, 7, 8, 9, 10, 11, 12, 13, 14, 15, 16, 17, 18, 19, 20, 21, 22, 23] rfl (by decide) rfl (by decide) (by decide) rfl (by decide) (wr := []) (w2 := (ce_X13 kA q_this u_13)) (fun H locs hP hD hS => ?_)
        have hP : va_P D vwCl (ce_X13 kA q_this u_13) H := hP
        exact hB49 u_13 (os_I o_this 7) _ _ _ hP hD hS (lv_sub hl [1, 0] rfl) hf
  unfold ff_X13_number at hf
  refine lv_aload_n hx hb dX13_number_0 rfl (lv_at hl 0 rfl) ?_
  obtain ⟨u_1, he_2, hf⟩ := os_bd hf
  refine mc_callV ⟨hx, hb, hml, hown, hts⟩ (mm_X13_isGood l D kA N q_this o_this u_1 he_2) (cwV 0 hts gX13_number_X13_isGood rfl rfl rfl (by decide +kernel) ⟨Nat.le_of_ble_eq_true rfl, Nat.le_of_ble_eq_true rfl⟩) (wc := (ce_X13 kA q_this o_this)) (ci := 9) (q0 := 0) rfl rfl rfl hl.1 (As := []) (rest := []) rfl (Nat.le_of_ble_eq_true rfl) dX13_number_1 ⟨Nat.le_of_ble_eq_true rfl, Nat.le_of_ble_eq_true rfl⟩ hK hP hD hS hA [0, 1, 2, 3, 4, 5, 6, 7, 8, 9, 10, 11, 12, 13, 14, 15, 16, 17, 18, 19, 20, 21, 22, 23] [] [0, 1, 2, 3, 4, 5, 6, 7, 8, 9, 10, 11, 12, 13, 14, 15, 16, 17, 18, 19, 20, 21, 22, 23] rfl (by decide) rfl (by decide) (by decide) rfl (by decide) (wr := []) (w2 := (ce_X13 kA q_this o_this)) (fun H locs hP hD hS => ?_)
  have hP : va_P D vwCl (ce_X13 kA q_this o_this) H := hP
  refine lv_if_eq (tgt := 20) hx hb dX13_number_4 (by decide) (fun hc_3 => ?_) (fun hc_3 => ?_)
  · rw [if_pos hc_3] at hf
    exact hB20 o_this a1 a2 _ _ _ hP hD hS (lv_sub hl [0, 1, 2] rfl) hf
  · rw [if_neg hc_3] at hf
    refine lv_aload_n hx hb dX13_number_7 rfl (lv_at hl 0 rfl) ?_
    refine va_get (D := D) (ci := 9) (v := .int (os_I o_this 6)) (C := RX13) (T := TX13) (N := 48) hx hb hUX13 (fun _ h9 => h9) hown hK hP 0 rfl rfl 6 (by decide) (hts (Cond.fieldLink RX13 135 "ReliefBuilderModel" "sort" "I") (List.mem_of_getElem? (i := 1) rfl)) (fun _ h9 => h9) rfl dX13_number_8 ?_
    refine lv_iconst (v := 2) hx hb dX13_number_11 (by decide) ?_
    refine lv_icmp_eq (tgt := 20) hx hb dX13_number_12 (by decide) (fun hc_4 => ?_) (fun hc_4 => ?_)
    · rw [if_pos hc_4] at hf
      exact hB20 o_this a1 a2 _ _ _ hP hD hS (lv_sub hl [0, 1, 2] rfl) hf
    · rw [if_neg hc_4] at hf
      refine lv_aload_n hx hb dX13_number_15 rfl (lv_at hl 0 rfl) ?_
      refine lv_iconst (v := 1) hx hb dX13_number_16 (by decide) ?_
      obtain ⟨u_5, he_6, hf⟩ := os_bd hf
      refine mc_callV ⟨hx, hb, hml, hown, hts⟩ (mm_X13_wrong l D kA N q_this o_this (1 : Int32) u_5 he_6) (cwV 1 hts gX13_number_X13_wrong rfl rfl rfl (by decide +kernel) ⟨Nat.le_of_ble_eq_true rfl, Nat.le_of_ble_eq_true rfl⟩) (wc := (ce_X13 kA q_this o_this)) (ci := 9) (q0 := 0) rfl rfl rfl hl.1 (As := [.int (1 : Int32)]) (rest := []) rfl (Nat.le_of_ble_eq_true rfl) dX13_number_17 ⟨Nat.le_of_ble_eq_true rfl, Nat.le_of_ble_eq_true rfl⟩ hK hP hD hS hA [0, 1, 2, 3, 4, 5, 6, 7, 8, 9, 10, 11, 12, 13, 14, 15, 16, 17, 18, 19, 20, 21, 22, 23] [] [0, 1, 2, 3, 4, 5, 6, 7, 8, 9, 10, 11, 12, 13, 14, 15, 16, 17, 18, 19, 20, 21, 22, 23] rfl (by decide) rfl (by decide) (by decide) rfl (by decide) (wr := []) (w2 := (ce_X13 kA q_this u_5)) (fun H locs hP hD hS => ?_)
      have hP : va_P D vwCl (ce_X13 kA q_this u_5) H := hP
      exact hB20 u_5 a1 a2 _ _ _ hP hD hS (lv_sub hl [0, 1, 2] rfl) hf
def ff_X13_numberBehind (N : Nat) (o_this : os_T) (a1 : Int64) (a3 : Int32) (a4 : Int32) : Option (Int32 × os_T) :=
  ((ff_X13_must N o_this a1).bind fun u_1 => ((ff_X13_number N u_1 a3 a4).bind fun u_3 => some (u_3.1, u_3.2)))
set_option maxHeartbeats 4000000 in
set_option maxRecDepth 100000 in
theorem mm_X13_numberBehind (l : Launch) (D : va_G) (kA : Nat → ClassId) (N : Nat) (q_this : Nat → Nat) (o_this : os_T) (a1 : Int64) (a3 : Int32) (a4 : Int32) (out : (Int32 × os_T)) (hf : ff_X13_numberBehind N o_this a1 a3 a4 = some out) : mc_C l D kA yX13_numberBehind wsX13_numberBehind ({ frames := 3, cells := 0, slots := 0, locals := 66 } : Room) [.ref (q_this 0), .long a1, .int a3, .int a4] (ce_X13 kA q_this o_this) (some (.int out.1)) (ce_X13 kA q_this out.2) := by
  refine mc_of (cc := cX13_numberBehind) (maxL := 5) (ret := (some .int)) (by decide) rfl (Nat.le_of_ble_eq_true rfl) ?_
  intro p e s m below meth c A B hD hP hS ls hl
  obtain ⟨hx, hb, hr, hlk, hml, hown, hts, hK, hA, hnm⟩ := B
  have hown : s.vm.findClass RX13 = some m.cls := hown
  have hl : lv_has ls 5 [(0, .ref (q_this 0)), (1, .long a1), (3, .int a3), (4, .int a4)] := hl
  unfold ff_X13_numberBehind at hf
  refine lv_aload_n hx hb dX13_numberBehind_0 rfl (lv_at hl 0 rfl) ?_
  refine lv_lload_n hx hb dX13_numberBehind_1 rfl (lv_at hl 1 rfl) ?_
  obtain ⟨u_1, he_2, hf⟩ := os_bd hf
  refine mc_callV ⟨hx, hb, hml, hown, hts⟩ (mm_X13_must l D kA N q_this o_this a1 u_1 he_2) (cwV 1 hts gX13_numberBehind_X13_must rfl rfl rfl (by decide +kernel) ⟨Nat.le_of_ble_eq_true rfl, Nat.le_of_ble_eq_true rfl⟩) (wc := (ce_X13 kA q_this o_this)) (ci := 9) (q0 := 0) rfl rfl rfl hl.1 (As := [.long a1]) (rest := []) rfl (Nat.le_of_ble_eq_true rfl) dX13_numberBehind_2 ⟨Nat.le_of_ble_eq_true rfl, Nat.le_of_ble_eq_true rfl⟩ hK hP hD hS hA [0, 1, 2, 3, 4, 5, 6, 7, 8, 9, 10, 11, 12, 13, 14, 15, 16, 17, 18, 19, 20, 21, 22, 23] [] [0, 1, 2, 3, 4, 5, 6, 7, 8, 9, 10, 11, 12, 13, 14, 15, 16, 17, 18, 19, 20, 21, 22, 23] rfl (by decide) rfl (by decide) (by decide) rfl (by decide) (wr := []) (w2 := (ce_X13 kA q_this u_1)) (fun H locs hP hD hS => ?_)
  have hP : va_P D vwCl (ce_X13 kA q_this u_1) H := hP
  refine lv_aload_n hx hb dX13_numberBehind_5 rfl (lv_at hl 0 rfl) ?_
  refine lv_iload_n hx hb dX13_numberBehind_6 rfl (lv_at hl 2 rfl) ?_
  refine lv_iload hx hb dX13_numberBehind_7 (lv_at hl 3 rfl) ?_
  obtain ⟨u_3, he_4, hf⟩ := os_bd hf
  refine mc_callV ⟨hx, hb, hml, hown, hts⟩ (mm_X13_number l D kA N q_this u_1 a3 a4 u_3 he_4) (cwV 2 hts gX13_numberBehind_X13_number rfl rfl rfl (by decide +kernel) ⟨Nat.le_of_ble_eq_true rfl, Nat.le_of_ble_eq_true rfl⟩) (wc := (ce_X13 kA q_this u_1)) (ci := 9) (q0 := 0) rfl rfl rfl hl.1 (As := [.int a3, .int a4]) (rest := []) rfl (Nat.le_of_ble_eq_true rfl) dX13_numberBehind_9 ⟨Nat.le_of_ble_eq_true rfl, Nat.le_of_ble_eq_true rfl⟩ hK hP hD hS hA [0, 1, 2, 3, 4, 5, 6, 7, 8, 9, 10, 11, 12, 13, 14, 15, 16, 17, 18, 19, 20, 21, 22, 23] [] [0, 1, 2, 3, 4, 5, 6, 7, 8, 9, 10, 11, 12, 13, 14, 15, 16, 17, 18, 19, 20, 21, 22, 23] rfl (by decide) rfl (by decide) (by decide) rfl (by decide) (wr := []) (w2 := (ce_X13 kA q_this u_3.2)) (fun H locs hP hD hS => ?_)
  have hP : va_P D vwCl (ce_X13 kA q_this u_3.2) H := hP
  rw [← Option.some.inj hf]
  exact mc_reti hx hb hr hlk hP hK hD hS dX13_numberBehind_12
def ff_X13_beginsText (N : Nat) (o_this : os_T) : Option os_T :=
  ((ff_X13_goOn N (ss_I (ss_I (ss_I (ss_I (ss_I o_this 2 (0 : Int32)) 3 (os_I o_this 2)) 4 (0 : Int32)) 8 (0 : Int32)) 9 (-1 : Int32))).bind fun u_1 => some u_1)
set_option maxHeartbeats 4000000 in
set_option maxRecDepth 100000 in
theorem mm_X13_beginsText (l : Launch) (D : va_G) (kA : Nat → ClassId) (N : Nat) (q_this : Nat → Nat) (o_this : os_T) (out : os_T) (hf : ff_X13_beginsText N o_this = some out) : mc_C l D kA yX13_beginsText wsX13_beginsText ({ frames := 2, cells := 0, slots := 0, locals := 43 } : Room) [.ref (q_this 0)] (ce_X13 kA q_this o_this) none (ce_X13 kA q_this out) := by
  refine mc_of (cc := cX13_beginsText) (maxL := 1) (ret := none) (by decide) rfl (Nat.le_of_ble_eq_true rfl) ?_
  intro p e s m below meth c A B hD hP hS ls hl
  obtain ⟨hx, hb, hr, hlk, hml, hown, hts, hK, hA, hnm⟩ := B
  have hown : s.vm.findClass RX13 = some m.cls := hown
  have hl : lv_has ls 1 [(0, .ref (q_this 0))] := hl
  have hUX13 : ∀ w ∈ u_ws RX13 TX13 48, w.before [.ref (q_this 0)].toArray s = true := fun w h => hts w (List.mem_cons_of_mem _ (List.mem_append_right _ h))
  unfold ff_X13_beginsText at hf
  refine lv_aload_n hx hb dX13_beginsText_0 rfl (lv_at hl 0 rfl) ?_
  refine lv_aload_n hx hb dX13_beginsText_1 rfl (lv_at hl 0 rfl) ?_
  refine va_get (D := D) (ci := 9) (v := .int (os_I o_this 2)) (C := RX13) (T := TX13) (N := 48) hx hb hUX13 (fun _ h9 => h9) hown hK hP 0 rfl rfl 2 (by decide) (hts (Cond.fieldLink RX13 100 "ReliefBuilderModel" "filled" "I") (List.mem_of_getElem? (i := 1) rfl)) (fun _ h9 => h9) rfl dX13_beginsText_2 ?_
  refine va_put (D := D) (ci := 9) (v := .int (os_I o_this 2)) (ty := .int) (C := RX13) (T := TX13) (N := 48) hx hb hUX13 (fun _ h9 => h9) tyX13 tyX13_ok nmX13 hown hK hP hD hS 0 rfl rfl 3 (by decide) (hts (Cond.fieldLink RX13 118 "ReliefBuilderModel" "bytes" "I") (List.mem_of_getElem? (i := 2) rfl)) (fun _ h9 => h9) rfl (tyX13_ok 3 (by decide)) rfl rfl (Nat.le_of_ble_eq_true rfl) dX13_beginsText_5 (fun H locs hP hD hS => ?_)
  have hP : va_P D vwCl (ce_X13 kA q_this (ss_I o_this 3 (os_I o_this 2))) H := hP
  have hD : va_D A (ce_X13 kA q_this (ss_I o_this 3 (os_I o_this 2))) := hD
  refine lv_aload_n hx hb dX13_beginsText_8 rfl (lv_at hl 0 rfl) ?_
  refine lv_iconst (v := 0) hx hb dX13_beginsText_9 (by decide) ?_
  refine va_put (D := D) (ci := 9) (v := .int (0 : Int32)) (ty := .int) (C := RX13) (T := TX13) (N := 48) hx hb hUX13 (fun _ h9 => h9) tyX13 tyX13_ok nmX13 hown hK hP hD hS 0 rfl rfl 2 (by decide) (hts (Cond.fieldLink RX13 100 "ReliefBuilderModel" "filled" "I") (List.mem_of_getElem? (i := 1) rfl)) (fun _ h9 => h9) rfl (tyX13_ok 2 (by decide)) rfl rfl (Nat.le_of_ble_eq_true rfl) dX13_beginsText_10 (fun H locs hP hD hS => ?_)
  have hP : va_P D vwCl (ce_X13 kA q_this (ss_I (ss_I o_this 2 (0 : Int32)) 3 (os_I o_this 2))) H := hP
  have hD : va_D A (ce_X13 kA q_this (ss_I (ss_I o_this 2 (0 : Int32)) 3 (os_I o_this 2))) := hD
  refine lv_aload_n hx hb dX13_beginsText_13 rfl (lv_at hl 0 rfl) ?_
  refine lv_iconst (v := 0) hx hb dX13_beginsText_14 (by decide) ?_
  refine va_put (D := D) (ci := 9) (v := .int (0 : Int32)) (ty := .int) (C := RX13) (T := TX13) (N := 48) hx hb hUX13 (fun _ h9 => h9) tyX13 tyX13_ok nmX13 hown hK hP hD hS 0 rfl rfl 4 (by decide) (hts (Cond.fieldLink RX13 115 "ReliefBuilderModel" "at" "I") (List.mem_of_getElem? (i := 3) rfl)) (fun _ h9 => h9) rfl (tyX13_ok 4 (by decide)) rfl rfl (Nat.le_of_ble_eq_true rfl) dX13_beginsText_15 (fun H locs hP hD hS => ?_)
  have hP : va_P D vwCl (ce_X13 kA q_this (ss_I (ss_I (ss_I o_this 2 (0 : Int32)) 3 (os_I o_this 2)) 4 (0 : Int32))) H := hP
  have hD : va_D A (ce_X13 kA q_this (ss_I (ss_I (ss_I o_this 2 (0 : Int32)) 3 (os_I o_this 2)) 4 (0 : Int32))) := hD
  refine lv_aload_n hx hb dX13_beginsText_18 rfl (lv_at hl 0 rfl) ?_
  refine lv_iconst (v := 0) hx hb dX13_beginsText_19 (by decide) ?_
  refine va_put (D := D) (ci := 9) (v := .int (0 : Int32)) (ty := .int) (C := RX13) (T := TX13) (N := 48) hx hb hUX13 (fun _ h9 => h9) tyX13 tyX13_ok nmX13 hown hK hP hD hS 0 rfl rfl 8 (by decide) (hts (Cond.fieldLink RX13 145 "ReliefBuilderModel" "error" "I") (List.mem_of_getElem? (i := 4) rfl)) (fun _ h9 => h9) rfl (tyX13_ok 8 (by decide)) rfl rfl (Nat.le_of_ble_eq_true rfl) dX13_beginsText_20 (fun H locs hP hD hS => ?_)
  have hP : va_P D vwCl (ce_X13 kA q_this (ss_I (ss_I (ss_I (ss_I o_this 2 (0 : Int32)) 3 (os_I o_this 2)) 4 (0 : Int32)) 8 (0 : Int32))) H := hP
  have hD : va_D A (ce_X13 kA q_this (ss_I (ss_I (ss_I (ss_I o_this 2 (0 : Int32)) 3 (os_I o_this 2)) 4 (0 : Int32)) 8 (0 : Int32))) := hD
  refine lv_aload_n hx hb dX13_beginsText_23 rfl (lv_at hl 0 rfl) ?_
  refine lv_iconst (v := (-1)) hx hb dX13_beginsText_24 (by decide) ?_
  refine va_put (D := D) (ci := 9) (v := .int (-1 : Int32)) (ty := .int) (C := RX13) (T := TX13) (N := 48) hx hb hUX13 (fun _ h9 => h9) tyX13 tyX13_ok nmX13 hown hK hP hD hS 0 rfl rfl 9 (by decide) (hts (Cond.fieldLink RX13 13 "ReliefBuilderModel" "errorPlace" "I") (List.mem_of_getElem? (i := 5) rfl)) (fun _ h9 => h9) rfl (tyX13_ok 9 (by decide)) rfl rfl (Nat.le_of_ble_eq_true rfl) dX13_beginsText_25 (fun H locs hP hD hS => ?_)
  have hP : va_P D vwCl (ce_X13 kA q_this (ss_I (ss_I (ss_I (ss_I (ss_I o_this 2 (0 : Int32)) 3 (os_I o_this 2)) 4 (0 : Int32)) 8 (0 : Int32)) 9 (-1 : Int32))) H := hP
  have hD : va_D A (ce_X13 kA q_this (ss_I (ss_I (ss_I (ss_I (ss_I o_this 2 (0 : Int32)) 3 (os_I o_this 2)) 4 (0 : Int32)) 8 (0 : Int32)) 9 (-1 : Int32))) := hD
  refine lv_aload_n hx hb dX13_beginsText_28 rfl (lv_at hl 0 rfl) ?_
  obtain ⟨u_1, he_2, hf⟩ := os_bd hf
  refine mc_callV ⟨hx, hb, hml, hown, hts⟩ (mm_X13_goOn l D kA N q_this (ss_I (ss_I (ss_I (ss_I (ss_I o_this 2 (0 : Int32)) 3 (os_I o_this 2)) 4 (0 : Int32)) 8 (0 : Int32)) 9 (-1 : Int32)) u_1 he_2) (cwV 0 hts gX13_beginsText_X13_goOn rfl rfl rfl (by decide +kernel) ⟨Nat.le_of_ble_eq_true rfl, Nat.le_of_ble_eq_true rfl⟩) (wc := (ce_X13 kA q_this (ss_I (ss_I (ss_I (ss_I (ss_I o_this 2 (0 : Int32)) 3 (os_I o_this 2)) 4 (0 : Int32)) 8 (0 : Int32)) 9 (-1 : Int32)))) (ci := 9) (q0 := 0) rfl rfl rfl hl.1 (As := []) (rest := []) rfl (Nat.le_of_ble_eq_true rfl) dX13_beginsText_29 ⟨Nat.le_of_ble_eq_true rfl, Nat.le_of_ble_eq_true rfl⟩ hK hP hD hS hA [0, 1, 2, 3, 4, 5, 6, 7, 8, 9, 10, 11, 12, 13, 14, 15, 16, 17, 18, 19, 20, 21, 22, 23] [] [0, 1, 2, 3, 4, 5, 6, 7, 8, 9, 10, 11, 12, 13, 14, 15, 16, 17, 18, 19, 20, 21, 22, 23] rfl (by decide) rfl (by decide) (by decide) rfl (by decide) (wr := []) (w2 := (ce_X13 kA q_this u_1)) (fun H locs hP hD hS => ?_)
  have hP : va_P D vwCl (ce_X13 kA q_this u_1) H := hP
  rw [← Option.some.inj hf]
  exact mc_retv hx hb hr hlk hP hK hD hS dX13_beginsText_32
def ff_X13_endsText_b29 (N : Nat) (o_this : os_T) (t0 : Int32) : Option (Int32 × os_T) :=
  ((ff_X13_goes N o_this t0).bind fun u_2 => (if os_z u_2.1 then some (u_2.1, u_2.2) else none))
def ff_X13_endsText (N : Nat) (o_this : os_T) : Option (Int32 × os_T) :=
  (if (os_I o_this 8) = 0 then ff_X13_endsText_b29 N (ss_I (ss_I o_this 10 (os_I o_this 8)) 11 (os_I o_this 9)) (1 : Int32) else ff_X13_endsText_b29 N (ss_I (ss_I o_this 10 (os_I o_this 8)) 11 (os_I o_this 9)) (0 : Int32))
set_option maxHeartbeats 4000000 in
set_option maxRecDepth 100000 in
theorem mm_X13_endsText (l : Launch) (D : va_G) (kA : Nat → ClassId) (N : Nat) (q_this : Nat → Nat) (o_this : os_T) (out : (Int32 × os_T)) (hf : ff_X13_endsText N o_this = some out) : mc_C l D kA yX13_endsText wsX13_endsText ({ frames := 2, cells := 0, slots := 0, locals := 41 } : Room) [.ref (q_this 0)] (ce_X13 kA q_this o_this) (some (.int out.1)) (ce_X13 kA q_this out.2) := by
  refine mc_of (cc := cX13_endsText) (maxL := 1) (ret := (some .boolean)) (by decide) rfl (Nat.le_of_ble_eq_true rfl) ?_
  intro p e s m below meth c A B hD hP hS ls hl
  obtain ⟨hx, hb, hr, hlk, hml, hown, hts, hK, hA, hnm⟩ := B
  have hown : s.vm.findClass RX13 = some m.cls := hown
  have hl : lv_has ls 1 [(0, .ref (q_this 0))] := hl
  have hUX13 : ∀ w ∈ u_ws RX13 TX13 48, w.before [.ref (q_this 0)].toArray s = true := fun w h => hts w (List.mem_cons_of_mem _ (List.mem_append_right _ h))
  have hB29 : ∀ (o_this : os_T) (t0 : Int32) (H : Heap) (locs : List Loc) (ls : Array Slot), va_P D vwCl (ce_X13 kA q_this o_this) H → va_D A (ce_X13 kA q_this o_this) → va_S A s.heap H locs → lv_has ls 1 [] → ff_X13_endsText_b29 N o_this t0 = some out → W p l e ({ frames := 2, cells := 0, slots := 0, locals := 41 } : Room) s m [.ref (q_this 0)].toArray below meth c H locs 0 0 (MQ below (mc_Q D kA A (some (.int out.1)) (ce_X13 kA q_this out.2)) [.ref (q_this 0)].toArray s 0 0 A) (F0 m 29 ls [.int t0, .ref (q_this 0)]) := by
    intro o_this t0 H locs ls hP hD hS hl hf
    unfold ff_X13_endsText_b29 at hf
    obtain ⟨u_2, he_3, hf⟩ := os_bd hf
    refine mc_callV ⟨hx, hb, hml, hown, hts⟩ (mm_X13_goes l D kA N q_this o_this t0 u_2 he_3) (cwV 1 hts gX13_endsText_X13_goes rfl rfl rfl (by decide +kernel) ⟨Nat.le_of_ble_eq_true rfl, Nat.le_of_ble_eq_true rfl⟩) (wc := (ce_X13 kA q_this o_this)) (ci := 9) (q0 := 0) rfl rfl rfl hl.1 (As := [.int t0]) (rest := []) rfl (Nat.le_of_ble_eq_true rfl) dX13_endsText_29 ⟨Nat.le_of_ble_eq_true rfl, Nat.le_of_ble_eq_true rfl⟩ hK hP hD hS hA [0, 1, 2, 3, 4, 5, 6, 7, 8, 9, 10, 11, 12, 13, 14, 15, 16, 17, 18, 19, 20, 21, 22, 23] [] [0, 1, 2, 3, 4, 5, 6, 7, 8, 9, 10, 11, 12, 13, 14, 15, 16, 17, 18, 19, 20, 21, 22, 23] rfl (by decide) rfl (by decide) (by decide) rfl (by decide) (wr := []) (w2 := (ce_X13 kA q_this u_2.2)) (fun H locs hP hD hS => ?_)
    have hP : va_P D vwCl (ce_X13 kA q_this u_2.2) H := hP
    obtain ⟨hz_4, hf⟩ := os_if hf
    rw [← Option.some.inj hf]
    exact mc_retz hx hb hr (os_z_n hz_4) hlk hP hK hD hS dX13_endsText_32
  unfold ff_X13_endsText at hf
  refine lv_aload_n hx hb dX13_endsText_0 rfl (lv_at hl 0 rfl) ?_
  refine lv_aload_n hx hb dX13_endsText_1 rfl (lv_at hl 0 rfl) ?_
  refine va_get (D := D) (ci := 9) (v := .int (os_I o_this 8)) (C := RX13) (T := TX13) (N := 48) hx hb hUX13 (fun _ h9 => h9) hown hK hP 0 rfl rfl 8 (by decide) (hts (Cond.fieldLink RX13 145 "ReliefBuilderModel" "error" "I") (List.mem_of_getElem? (i := 1) rfl)) (fun _ h9 => h9) rfl dX13_endsText_2 ?_
  refine va_put (D := D) (ci := 9) (v := .int (os_I o_this 8)) (ty := .int) (C := RX13) (T := TX13) (N := 48) hx hb hUX13 (fun _ h9 => h9) tyX13 tyX13_ok nmX13 hown hK hP hD hS 0 rfl rfl 10 (by decide) (hts (Cond.fieldLink RX13 173 "ReliefBuilderModel" "toldError" "I") (List.mem_of_getElem? (i := 2) rfl)) (fun _ h9 => h9) rfl (tyX13_ok 10 (by decide)) rfl rfl (Nat.le_of_ble_eq_true rfl) dX13_endsText_5 (fun H locs hP hD hS => ?_)
  have hP : va_P D vwCl (ce_X13 kA q_this (ss_I o_this 10 (os_I o_this 8))) H := hP
  have hD : va_D A (ce_X13 kA q_this (ss_I o_this 10 (os_I o_this 8))) := hD
  refine lv_aload_n hx hb dX13_endsText_8 rfl (lv_at hl 0 rfl) ?_
  refine lv_aload_n hx hb dX13_endsText_9 rfl (lv_at hl 0 rfl) ?_
  refine va_get (D := D) (ci := 9) (v := .int (os_I o_this 9)) (C := RX13) (T := TX13) (N := 48) hx hb hUX13 (fun _ h9 => h9) hown hK hP 0 rfl rfl 9 (by decide) (hts (Cond.fieldLink RX13 13 "ReliefBuilderModel" "errorPlace" "I") (List.mem_of_getElem? (i := 3) rfl)) (fun _ h9 => h9) rfl dX13_endsText_10 ?_
  refine va_put (D := D) (ci := 9) (v := .int (os_I o_this 9)) (ty := .int) (C := RX13) (T := TX13) (N := 48) hx hb hUX13 (fun _ h9 => h9) tyX13 tyX13_ok nmX13 hown hK hP hD hS 0 rfl rfl 11 (by decide) (hts (Cond.fieldLink RX13 17 "ReliefBuilderModel" "toldPlace" "I") (List.mem_of_getElem? (i := 4) rfl)) (fun _ h9 => h9) rfl (tyX13_ok 11 (by decide)) rfl rfl (Nat.le_of_ble_eq_true rfl) dX13_endsText_13 (fun H locs hP hD hS => ?_)
  have hP : va_P D vwCl (ce_X13 kA q_this (ss_I (ss_I o_this 10 (os_I o_this 8)) 11 (os_I o_this 9))) H := hP
  have hD : va_D A (ce_X13 kA q_this (ss_I (ss_I o_this 10 (os_I o_this 8)) 11 (os_I o_this 9))) := hD
  refine lv_aload_n hx hb dX13_endsText_16 rfl (lv_at hl 0 rfl) ?_
  refine lv_aload_n hx hb dX13_endsText_17 rfl (lv_at hl 0 rfl) ?_
  refine va_get (D := D) (ci := 9) (v := .int (os_I o_this 8)) (C := RX13) (T := TX13) (N := 48) hx hb hUX13 (fun _ h9 => h9) hown hK hP 0 rfl rfl 8 (by decide) (hts (Cond.fieldLink RX13 145 "ReliefBuilderModel" "error" "I") (List.mem_of_getElem? (i := 1) rfl)) (fun _ h9 => h9) rfl dX13_endsText_18 ?_
  refine lv_if_ne (tgt := 28) hx hb dX13_endsText_21 (by decide) (fun hc_1 => ?_) (fun hc_1 => ?_)
  · rw [if_neg hc_1] at hf
    refine lv_iconst (v := 0) hx hb dX13_endsText_28 (by decide) ?_
    exact hB29 (ss_I (ss_I o_this 10 (os_I o_this 8)) 11 (os_I o_this 9)) (0 : Int32) _ _ _ hP hD hS (lv_sub hl [] rfl) hf
  · rw [if_pos hc_1] at hf
    refine lv_iconst (v := 1) hx hb dX13_endsText_24 (by decide) ?_
    refine lv_goto (tgt := 29) hx hb dX13_endsText_25 (by decide) ?_
    exact hB29 (ss_I (ss_I o_this 10 (os_I o_this 8)) 11 (os_I o_this 9)) (1 : Int32) _ _ _ hP hD hS (lv_sub hl [] rfl) hf
def ff_X13_errorCode (N : Nat) (o_this : os_T) : Option (Int32 × os_T) :=
  some (os_I o_this 10, ss_I o_this 0 (0 : Int32))
set_option maxHeartbeats 4000000 in
set_option maxRecDepth 100000 in
theorem mm_X13_errorCode (l : Launch) (D : va_G) (kA : Nat → ClassId) (N : Nat) (q_this : Nat → Nat) (o_this : os_T) (out : (Int32 × os_T)) (hf : ff_X13_errorCode N o_this = some out) : mc_C l D kA yX13_errorCode wsX13_errorCode ({ frames := 0, cells := 0, slots := 0, locals := 0 } : Room) [.ref (q_this 0)] (ce_X13 kA q_this o_this) (some (.int out.1)) (ce_X13 kA q_this out.2) := by
  refine mc_of (cc := cX13_errorCode) (maxL := 1) (ret := (some .int)) (by decide) rfl (Nat.le_of_ble_eq_true rfl) ?_
  intro p e s m below meth c A B hD hP hS ls hl
  obtain ⟨hx, hb, hr, hlk, hml, hown, hts, hK, hA, hnm⟩ := B
  have hown : s.vm.findClass RX13 = some m.cls := hown
  have hl : lv_has ls 1 [(0, .ref (q_this 0))] := hl
  have hUX13 : ∀ w ∈ u_ws RX13 TX13 48, w.before [.ref (q_this 0)].toArray s = true := fun w h => hts w (List.mem_cons_of_mem _ (List.mem_append_right _ h))
  unfold ff_X13_errorCode at hf
  refine lv_aload_n hx hb dX13_errorCode_0 rfl (lv_at hl 0 rfl) ?_
  refine lv_iconst (v := 0) hx hb dX13_errorCode_1 (by decide) ?_
  refine va_put (D := D) (ci := 9) (v := .int (0 : Int32)) (ty := .int) (C := RX13) (T := TX13) (N := 48) hx hb hUX13 (fun _ h9 => h9) tyX13 tyX13_ok nmX13 hown hK hP hD hS 0 rfl rfl 0 (by decide) (hts (Cond.fieldLink RX13 93 "ReliefBuilderModel" "code" "I") (List.mem_of_getElem? (i := 1) rfl)) (fun _ h9 => h9) rfl (tyX13_ok 0 (by decide)) rfl rfl (Nat.le_of_ble_eq_true rfl) dX13_errorCode_2 (fun H locs hP hD hS => ?_)
  have hP : va_P D vwCl (ce_X13 kA q_this (ss_I o_this 0 (0 : Int32))) H := hP
  have hD : va_D A (ce_X13 kA q_this (ss_I o_this 0 (0 : Int32))) := hD
  refine lv_aload_n hx hb dX13_errorCode_5 rfl (lv_at hl 0 rfl) ?_
  refine va_get (D := D) (ci := 9) (v := .int (os_I o_this 10)) (C := RX13) (T := TX13) (N := 48) hx hb hUX13 (fun _ h9 => h9) hown hK hP 0 rfl rfl 10 (by decide) (hts (Cond.fieldLink RX13 173 "ReliefBuilderModel" "toldError" "I") (List.mem_of_getElem? (i := 2) rfl)) (fun _ h9 => h9) rfl dX13_errorCode_6 ?_
  rw [← Option.some.inj hf]
  exact mc_reti hx hb hr hlk hP hK hD hS dX13_errorCode_9
def ff_X13_errorPosition (N : Nat) (o_this : os_T) : Option (Int32 × os_T) :=
  some (os_I o_this 11, ss_I o_this 0 (0 : Int32))
set_option maxHeartbeats 4000000 in
set_option maxRecDepth 100000 in
theorem mm_X13_errorPosition (l : Launch) (D : va_G) (kA : Nat → ClassId) (N : Nat) (q_this : Nat → Nat) (o_this : os_T) (out : (Int32 × os_T)) (hf : ff_X13_errorPosition N o_this = some out) : mc_C l D kA yX13_errorPosition wsX13_errorPosition ({ frames := 0, cells := 0, slots := 0, locals := 0 } : Room) [.ref (q_this 0)] (ce_X13 kA q_this o_this) (some (.int out.1)) (ce_X13 kA q_this out.2) := by
  refine mc_of (cc := cX13_errorPosition) (maxL := 1) (ret := (some .int)) (by decide) rfl (Nat.le_of_ble_eq_true rfl) ?_
  intro p e s m below meth c A B hD hP hS ls hl
  obtain ⟨hx, hb, hr, hlk, hml, hown, hts, hK, hA, hnm⟩ := B
  have hown : s.vm.findClass RX13 = some m.cls := hown
  have hl : lv_has ls 1 [(0, .ref (q_this 0))] := hl
  have hUX13 : ∀ w ∈ u_ws RX13 TX13 48, w.before [.ref (q_this 0)].toArray s = true := fun w h => hts w (List.mem_cons_of_mem _ (List.mem_append_right _ h))
  unfold ff_X13_errorPosition at hf
  refine lv_aload_n hx hb dX13_errorPosition_0 rfl (lv_at hl 0 rfl) ?_
  refine lv_iconst (v := 0) hx hb dX13_errorPosition_1 (by decide) ?_
  refine va_put (D := D) (ci := 9) (v := .int (0 : Int32)) (ty := .int) (C := RX13) (T := TX13) (N := 48) hx hb hUX13 (fun _ h9 => h9) tyX13 tyX13_ok nmX13 hown hK hP hD hS 0 rfl rfl 0 (by decide) (hts (Cond.fieldLink RX13 93 "ReliefBuilderModel" "code" "I") (List.mem_of_getElem? (i := 1) rfl)) (fun _ h9 => h9) rfl (tyX13_ok 0 (by decide)) rfl rfl (Nat.le_of_ble_eq_true rfl) dX13_errorPosition_2 (fun H locs hP hD hS => ?_)
  have hP : va_P D vwCl (ce_X13 kA q_this (ss_I o_this 0 (0 : Int32))) H := hP
  have hD : va_D A (ce_X13 kA q_this (ss_I o_this 0 (0 : Int32))) := hD
  refine lv_aload_n hx hb dX13_errorPosition_5 rfl (lv_at hl 0 rfl) ?_
  refine va_get (D := D) (ci := 9) (v := .int (os_I o_this 11)) (C := RX13) (T := TX13) (N := 48) hx hb hUX13 (fun _ h9 => h9) hown hK hP 0 rfl rfl 11 (by decide) (hts (Cond.fieldLink RX13 17 "ReliefBuilderModel" "toldPlace" "I") (List.mem_of_getElem? (i := 2) rfl)) (fun _ h9 => h9) rfl dX13_errorPosition_6 ?_
  rw [← Option.some.inj hf]
  exact mc_reti hx hb hr hlk hP hK hD hS dX13_errorPosition_9
def ff_X13_begins_c54 (N : Nat) (k54 : (os_T × Int32) → Option os_T) (o_this : os_T) (x1 : Int32) : Option os_T :=
  (if (192 : Int32) ≤ x1 then some (ss_I (ss_I (ss_I (ss_I (ss_I (ss_I o_this 18 (0 : Int32)) 19 (0 : Int32)) 20 (0 : Int32)) 21 (0 : Int32)) 22 (0 : Int32)) 23 (0 : Int32)) else (if os_in x1 192 then k54 (ss_A o_this 5 (upd (os_A o_this 5) (Int32.toNatClampNeg x1) (255 : Int32)), x1 + 1) else none))
def ff_X13_begins_l54 (N : Nat) : Nat → (os_T × Int32) → Option os_T := os_loop (fun k54 s1 => ff_X13_begins_c54 N k54 s1.1 s1.2)
def ff_X13_begins (N : Nat) (o_this : os_T) : Option os_T :=
  (if os_in (0 : Int32) 7 then (if os_in (1 : Int32) 7 then (if os_in (2 : Int32) 7 then (if os_in (3 : Int32) 7 then (if os_in (4 : Int32) 7 then (if os_in (5 : Int32) 7 then (if os_in (6 : Int32) 7 then ff_X13_begins_l54 N N (ss_A o_this 2 (upd (upd (upd (upd (upd (upd (upd (os_A o_this 2) (Int32.toNatClampNeg (0 : Int32)) (4 : Int32)) (Int32.toNatClampNeg (1 : Int32)) (4 : Int32)) (Int32.toNatClampNeg (2 : Int32)) (8 : Int32)) (Int32.toNatClampNeg (3 : Int32)) (80 : Int32)) (Int32.toNatClampNeg (4 : Int32)) (1 : Int32)) (Int32.toNatClampNeg (5 : Int32)) (2 : Int32)) (Int32.toNatClampNeg (6 : Int32)) (1 : Int32)), (0 : Int32)) else none) else none) else none) else none) else none) else none) else none)
set_option maxHeartbeats 4000000 in
set_option maxRecDepth 100000 in
theorem mm_X13_begins (l : Launch) (D : va_G) (kA : Nat → ClassId) (N : Nat) (q_this : Nat → Nat) (o_this : os_T) (out : os_T) (hf : ff_X13_begins N o_this = some out) : mc_C l D kA yX13_begins wsX13_begins ({ frames := 0, cells := 0, slots := 0, locals := 0 } : Room) [.ref (q_this 0)] (ce_X13 kA q_this o_this) none (ce_X13 kA q_this out) := by
  refine mc_of (cc := cX13_begins) (maxL := 2) (ret := none) (by decide) rfl (Nat.le_of_ble_eq_true rfl) ?_
  intro p e s m below meth c A B hD hP hS ls hl
  obtain ⟨hx, hb, hr, hlk, hml, hown, hts, hK, hA, hnm⟩ := B
  have hown : s.vm.findClass RX13 = some m.cls := hown
  have hl : lv_has ls 2 [(0, .ref (q_this 0))] := hl
  have hUX13 : ∀ w ∈ u_ws RX13 TX13 48, w.before [.ref (q_this 0)].toArray s = true := fun w h => hts w (List.mem_cons_of_mem _ (List.mem_append_right _ h))
  have hL54 : ∀ (n : Nat) (o_this : os_T) (x1 : Int32) (H : Heap) (locs : List Loc) (ls : Array Slot), va_P D vwCl (ce_X13 kA q_this o_this) H → va_D A (ce_X13 kA q_this o_this) → va_S A s.heap H locs → lv_has ls 2 [(0, .ref (q_this 0)), (1, .int x1)] → ff_X13_begins_l54 N n (o_this, x1) = some out → W p l e ({ frames := 0, cells := 0, slots := 0, locals := 0 } : Room) s m [.ref (q_this 0)].toArray below meth c H locs 0 0 (MQ below (mc_Q D kA A none (ce_X13 kA q_this out)) [.ref (q_this 0)].toArray s 0 0 A) (F0 m 54 ls []) := by
    intro n
    induction n with
    | zero => intro o_this x1 H locs ls _ _ _ _ hf; cases hf
    | succ n hk54 =>
      intro o_this x1 H locs ls hP hD hS hl hf
      have hf : ff_X13_begins_c54 N (ff_X13_begins_l54 N n) o_this x1 = some out := hf
      generalize hke : ff_X13_begins_l54 N n = k54 at hk54 hf
      unfold ff_X13_begins_c54 at hf
      refine lv_iload_n hx hb dX13_begins_54 rfl (lv_at hl 1 rfl) ?_
      refine lv_sipush (v := 192) hx hb dX13_begins_55 (by decide) ?_
      refine lv_icmp_ge (tgt := 76) hx hb dX13_begins_58 (by decide) (fun hc_8 => ?_) (fun hc_8 => ?_)
      · rw [if_pos hc_8] at hf
        refine lv_aload_n hx hb dX13_begins_76 rfl (lv_at hl 0 rfl) ?_
        refine lv_iconst (v := 0) hx hb dX13_begins_77 (by decide) ?_
        refine va_put (D := D) (ci := 9) (v := .int (0 : Int32)) (ty := .boolean) (C := RX13) (T := TX13) (N := 48) hx hb hUX13 (fun _ h9 => h9) tyX13 tyX13_ok nmX13 hown hK hP hD hS 0 rfl rfl 18 (by decide) (hts (Cond.fieldLink RX13 176 "ReliefBuilderModel" "hasPanel" "Z") (List.mem_of_getElem? (i := 3) rfl)) (fun _ h9 => h9) rfl (tyX13_ok 18 (by decide)) rfl rfl (Nat.le_of_ble_eq_true rfl) dX13_begins_78 (fun H locs hP hD hS => ?_)
        have hP : va_P D vwCl (ce_X13 kA q_this (ss_I o_this 18 (0 : Int32))) H := hP
        have hD : va_D A (ce_X13 kA q_this (ss_I o_this 18 (0 : Int32))) := hD
        refine lv_aload_n hx hb dX13_begins_81 rfl (lv_at hl 0 rfl) ?_
        refine lv_iconst (v := 0) hx hb dX13_begins_82 (by decide) ?_
        refine va_put (D := D) (ci := 9) (v := .int (0 : Int32)) (ty := .boolean) (C := RX13) (T := TX13) (N := 48) hx hb hUX13 (fun _ h9 => h9) tyX13 tyX13_ok nmX13 hown hK hP hD hS 0 rfl rfl 19 (by decide) (hts (Cond.fieldLink RX13 180 "ReliefBuilderModel" "hasSteps" "Z") (List.mem_of_getElem? (i := 4) rfl)) (fun _ h9 => h9) rfl (tyX13_ok 19 (by decide)) rfl rfl (Nat.le_of_ble_eq_true rfl) dX13_begins_83 (fun H locs hP hD hS => ?_)
        have hP : va_P D vwCl (ce_X13 kA q_this (ss_I (ss_I o_this 18 (0 : Int32)) 19 (0 : Int32))) H := hP
        have hD : va_D A (ce_X13 kA q_this (ss_I (ss_I o_this 18 (0 : Int32)) 19 (0 : Int32))) := hD
        refine lv_aload_n hx hb dX13_begins_86 rfl (lv_at hl 0 rfl) ?_
        refine lv_iconst (v := 0) hx hb dX13_begins_87 (by decide) ?_
        refine va_put (D := D) (ci := 9) (v := .int (0 : Int32)) (ty := .boolean) (C := RX13) (T := TX13) (N := 48) hx hb hUX13 (fun _ h9 => h9) tyX13 tyX13_ok nmX13 hown hK hP hD hS 0 rfl rfl 20 (by decide) (hts (Cond.fieldLink RX13 183 "ReliefBuilderModel" "hasWall" "Z") (List.mem_of_getElem? (i := 5) rfl)) (fun _ h9 => h9) rfl (tyX13_ok 20 (by decide)) rfl rfl (Nat.le_of_ble_eq_true rfl) dX13_begins_88 (fun H locs hP hD hS => ?_)
        have hP : va_P D vwCl (ce_X13 kA q_this (ss_I (ss_I (ss_I o_this 18 (0 : Int32)) 19 (0 : Int32)) 20 (0 : Int32))) H := hP
        have hD : va_D A (ce_X13 kA q_this (ss_I (ss_I (ss_I o_this 18 (0 : Int32)) 19 (0 : Int32)) 20 (0 : Int32))) := hD
        refine lv_aload_n hx hb dX13_begins_91 rfl (lv_at hl 0 rfl) ?_
        refine lv_iconst (v := 0) hx hb dX13_begins_92 (by decide) ?_
        refine va_put (D := D) (ci := 9) (v := .int (0 : Int32)) (ty := .boolean) (C := RX13) (T := TX13) (N := 48) hx hb hUX13 (fun _ h9 => h9) tyX13 tyX13_ok nmX13 hown hK hP hD hS 0 rfl rfl 21 (by decide) (hts (Cond.fieldLink RX13 186 "ReliefBuilderModel" "hasSlope" "Z") (List.mem_of_getElem? (i := 6) rfl)) (fun _ h9 => h9) rfl (tyX13_ok 21 (by decide)) rfl rfl (Nat.le_of_ble_eq_true rfl) dX13_begins_93 (fun H locs hP hD hS => ?_)
        have hP : va_P D vwCl (ce_X13 kA q_this (ss_I (ss_I (ss_I (ss_I o_this 18 (0 : Int32)) 19 (0 : Int32)) 20 (0 : Int32)) 21 (0 : Int32))) H := hP
        have hD : va_D A (ce_X13 kA q_this (ss_I (ss_I (ss_I (ss_I o_this 18 (0 : Int32)) 19 (0 : Int32)) 20 (0 : Int32)) 21 (0 : Int32))) := hD
        refine lv_aload_n hx hb dX13_begins_96 rfl (lv_at hl 0 rfl) ?_
        refine lv_iconst (v := 0) hx hb dX13_begins_97 (by decide) ?_
        refine va_put (D := D) (ci := 9) (v := .int (0 : Int32)) (ty := .int) (C := RX13) (T := TX13) (N := 48) hx hb hUX13 (fun _ h9 => h9) tyX13 tyX13_ok nmX13 hown hK hP hD hS 0 rfl rfl 22 (by decide) (hts (Cond.fieldLink RX13 189 "ReliefBuilderModel" "rows" "I") (List.mem_of_getElem? (i := 7) rfl)) (fun _ h9 => h9) rfl (tyX13_ok 22 (by decide)) rfl rfl (Nat.le_of_ble_eq_true rfl) dX13_begins_98 (fun H locs hP hD hS => ?_)
        have hP : va_P D vwCl (ce_X13 kA q_this (ss_I (ss_I (ss_I (ss_I (ss_I o_this 18 (0 : Int32)) 19 (0 : Int32)) 20 (0 : Int32)) 21 (0 : Int32)) 22 (0 : Int32))) H := hP
        have hD : va_D A (ce_X13 kA q_this (ss_I (ss_I (ss_I (ss_I (ss_I o_this 18 (0 : Int32)) 19 (0 : Int32)) 20 (0 : Int32)) 21 (0 : Int32)) 22 (0 : Int32))) := hD
        refine lv_aload_n hx hb dX13_begins_101 rfl (lv_at hl 0 rfl) ?_
        refine lv_iconst (v := 0) hx hb dX13_begins_102 (by decide) ?_
        refine va_put (D := D) (ci := 9) (v := .int (0 : Int32)) (ty := .int) (C := RX13) (T := TX13) (N := 48) hx hb hUX13 (fun _ h9 => h9) tyX13 tyX13_ok nmX13 hown hK hP hD hS 0 rfl rfl 23 (by decide) (hts (Cond.fieldLink RX13 192 "ReliefBuilderModel" "statements" "I") (List.mem_of_getElem? (i := 8) rfl)) (fun _ h9 => h9) rfl (tyX13_ok 23 (by decide)) rfl rfl (Nat.le_of_ble_eq_true rfl) dX13_begins_103 (fun H locs hP hD hS => ?_)
        have hP : va_P D vwCl (ce_X13 kA q_this (ss_I (ss_I (ss_I (ss_I (ss_I (ss_I o_this 18 (0 : Int32)) 19 (0 : Int32)) 20 (0 : Int32)) 21 (0 : Int32)) 22 (0 : Int32)) 23 (0 : Int32))) H := hP
        have hD : va_D A (ce_X13 kA q_this (ss_I (ss_I (ss_I (ss_I (ss_I (ss_I o_this 18 (0 : Int32)) 19 (0 : Int32)) 20 (0 : Int32)) 21 (0 : Int32)) 22 (0 : Int32)) 23 (0 : Int32))) := hD
        rw [← Option.some.inj hf]
        exact mc_retv hx hb hr hlk hP hK hD hS dX13_begins_106
      · rw [if_neg hc_8] at hf
        refine lv_aload_n hx hb dX13_begins_61 rfl (lv_at hl 0 rfl) ?_
        refine va_get (D := D) (ci := 9) (v := .ref (q_this 6)) (C := RX13) (T := TX13) (N := 48) hx hb hUX13 (fun _ h9 => h9) hown hK hP 0 rfl rfl 17 (by decide) (hts (Cond.fieldLink RX13 32 "ReliefBuilderModel" "readTones" "[I") (List.mem_of_getElem? (i := 2) rfl)) (fun _ h9 => h9) rfl dX13_begins_62 ?_
        refine lv_iload_n hx hb dX13_begins_65 rfl (lv_at hl 1 rfl) ?_
        refine lv_sipush (v := 255) hx hb dX13_begins_66 (by decide) ?_
        obtain ⟨hi_9, hf⟩ := os_if hf
        refine va_iast hx hb hK hP hD hS 6 0 rfl rfl hi_9 dX13_begins_69 (fun H locs hP hD hS => ?_)
        have hP : va_P D vwCl (ce_X13 kA q_this (ss_A o_this 5 (upd (os_A o_this 5) (Int32.toNatClampNeg x1) (255 : Int32)))) H := hP
        have hD : va_D A (ce_X13 kA q_this (ss_A o_this 5 (upd (os_A o_this 5) (Int32.toNatClampNeg x1) (255 : Int32)))) := hD
        refine lv_iinc (v := x1 + 1) (lv' := [(1, .int (x1 + 1)), (0, .ref (q_this 0))]) hx hb dX13_begins_70 hl (k := 1) rfl rfl (by decide) rfl (fun ls hl => ?_)
        refine lv_goto (tgt := 54) hx hb dX13_begins_73 (by decide) ?_
        exact hk54 (ss_A o_this 5 (upd (os_A o_this 5) (Int32.toNatClampNeg x1) (255 : Int32))) (x1 + 1) _ _ _ hP hD hS (lv_sub hl [1, 0] rfl) hf
  unfold ff_X13_begins at hf
  refine lv_aload_n hx hb dX13_begins_0 rfl (lv_at hl 0 rfl) ?_
  refine va_get (D := D) (ci := 9) (v := .ref (q_this 3)) (C := RX13) (T := TX13) (N := 48) hx hb hUX13 (fun _ h9 => h9) hown hK hP 0 rfl rfl 14 (by decide) (hts (Cond.fieldLink RX13 23 "ReliefBuilderModel" "read" "[I") (List.mem_of_getElem? (i := 1) rfl)) (fun _ h9 => h9) rfl dX13_begins_1 ?_
  refine lv_iconst (v := 0) hx hb dX13_begins_4 (by decide) ?_
  refine lv_iconst (v := 4) hx hb dX13_begins_5 (by decide) ?_
  obtain ⟨hi_1, hf⟩ := os_if hf
  refine va_iast hx hb hK hP hD hS 3 0 rfl rfl hi_1 dX13_begins_6 (fun H locs hP hD hS => ?_)
  have hP : va_P D vwCl (ce_X13 kA q_this (ss_A o_this 2 (upd (os_A o_this 2) (Int32.toNatClampNeg (0 : Int32)) (4 : Int32)))) H := hP
  have hD : va_D A (ce_X13 kA q_this (ss_A o_this 2 (upd (os_A o_this 2) (Int32.toNatClampNeg (0 : Int32)) (4 : Int32)))) := hD
  refine lv_aload_n hx hb dX13_begins_7 rfl (lv_at hl 0 rfl) ?_
  refine va_get (D := D) (ci := 9) (v := .ref (q_this 3)) (C := RX13) (T := TX13) (N := 48) hx hb hUX13 (fun _ h9 => h9) hown hK hP 0 rfl rfl 14 (by decide) (hts (Cond.fieldLink RX13 23 "ReliefBuilderModel" "read" "[I") (List.mem_of_getElem? (i := 1) rfl)) (fun _ h9 => h9) rfl dX13_begins_8 ?_
  refine lv_iconst (v := 1) hx hb dX13_begins_11 (by decide) ?_
  refine lv_iconst (v := 4) hx hb dX13_begins_12 (by decide) ?_
  obtain ⟨hi_2, hf⟩ := os_if hf
  refine va_iast hx hb hK hP hD hS 3 0 rfl rfl hi_2 dX13_begins_13 (fun H locs hP hD hS => ?_)
  have hE9 : ∀ (y0 : Nat → Int32) (z9 : Nat → Int32), ((ce_X13 kA q_this (ss_A o_this 2 y0)) : va_W).set 3 (q_this 3, .inl (kA 0, 7, .inl z9)) = (ce_X13 kA q_this (ss_A o_this 2 z9)) := fun _ _ => rfl
  have hP : va_P D vwCl (ce_X13 kA q_this (ss_A o_this 2 (upd (upd (os_A o_this 2) (Int32.toNatClampNeg (0 : Int32)) (4 : Int32)) (Int32.toNatClampNeg (1 : Int32)) (4 : Int32)))) H := Eq.mp (congrArg (fun w9 => va_P D vwCl w9 H) (hE9 (upd (os_A o_this 2) (Int32.toNatClampNeg (0 : Int32)) (4 : Int32)) _)) hP
  have hD : va_D A (ce_X13 kA q_this (ss_A o_this 2 (upd (upd (os_A o_this 2) (Int32.toNatClampNeg (0 : Int32)) (4 : Int32)) (Int32.toNatClampNeg (1 : Int32)) (4 : Int32)))) := Eq.mp (congrArg (fun w9 => va_D A w9) (hE9 (upd (os_A o_this 2) (Int32.toNatClampNeg (0 : Int32)) (4 : Int32)) _)) hD
  refine lv_aload_n hx hb dX13_begins_14 rfl (lv_at hl 0 rfl) ?_
  refine va_get (D := D) (ci := 9) (v := .ref (q_this 3)) (C := RX13) (T := TX13) (N := 48) hx hb hUX13 (fun _ h9 => h9) hown hK hP 0 rfl rfl 14 (by decide) (hts (Cond.fieldLink RX13 23 "ReliefBuilderModel" "read" "[I") (List.mem_of_getElem? (i := 1) rfl)) (fun _ h9 => h9) rfl dX13_begins_15 ?_
  refine lv_iconst (v := 2) hx hb dX13_begins_18 (by decide) ?_
  refine lv_bipush (v := 8) hx hb dX13_begins_19 (by decide) ?_
  obtain ⟨hi_3, hf⟩ := os_if hf
  refine va_iast hx hb hK hP hD hS 3 0 rfl rfl hi_3 dX13_begins_21 (fun H locs hP hD hS => ?_)
  have hE9 : ∀ (y0 : Nat → Int32) (z9 : Nat → Int32), ((ce_X13 kA q_this (ss_A o_this 2 y0)) : va_W).set 3 (q_this 3, .inl (kA 0, 7, .inl z9)) = (ce_X13 kA q_this (ss_A o_this 2 z9)) := fun _ _ => rfl
  have hP : va_P D vwCl (ce_X13 kA q_this (ss_A o_this 2 (upd (upd (upd (os_A o_this 2) (Int32.toNatClampNeg (0 : Int32)) (4 : Int32)) (Int32.toNatClampNeg (1 : Int32)) (4 : Int32)) (Int32.toNatClampNeg (2 : Int32)) (8 : Int32)))) H := Eq.mp (congrArg (fun w9 => va_P D vwCl w9 H) (hE9 (upd (upd (os_A o_this 2) (Int32.toNatClampNeg (0 : Int32)) (4 : Int32)) (Int32.toNatClampNeg (1 : Int32)) (4 : Int32)) _)) hP
  have hD : va_D A (ce_X13 kA q_this (ss_A o_this 2 (upd (upd (upd (os_A o_this 2) (Int32.toNatClampNeg (0 : Int32)) (4 : Int32)) (Int32.toNatClampNeg (1 : Int32)) (4 : Int32)) (Int32.toNatClampNeg (2 : Int32)) (8 : Int32)))) := Eq.mp (congrArg (fun w9 => va_D A w9) (hE9 (upd (upd (os_A o_this 2) (Int32.toNatClampNeg (0 : Int32)) (4 : Int32)) (Int32.toNatClampNeg (1 : Int32)) (4 : Int32)) _)) hD
  refine lv_aload_n hx hb dX13_begins_22 rfl (lv_at hl 0 rfl) ?_
  refine va_get (D := D) (ci := 9) (v := .ref (q_this 3)) (C := RX13) (T := TX13) (N := 48) hx hb hUX13 (fun _ h9 => h9) hown hK hP 0 rfl rfl 14 (by decide) (hts (Cond.fieldLink RX13 23 "ReliefBuilderModel" "read" "[I") (List.mem_of_getElem? (i := 1) rfl)) (fun _ h9 => h9) rfl dX13_begins_23 ?_
  refine lv_iconst (v := 3) hx hb dX13_begins_26 (by decide) ?_
  refine lv_bipush (v := 80) hx hb dX13_begins_27 (by decide) ?_
  obtain ⟨hi_4, hf⟩ := os_if hf
  refine va_iast hx hb hK hP hD hS 3 0 rfl rfl hi_4 dX13_begins_29 (fun H locs hP hD hS => ?_)
  have hE9 : ∀ (y0 : Nat → Int32) (z9 : Nat → Int32), ((ce_X13 kA q_this (ss_A o_this 2 y0)) : va_W).set 3 (q_this 3, .inl (kA 0, 7, .inl z9)) = (ce_X13 kA q_this (ss_A o_this 2 z9)) := fun _ _ => rfl
  have hP : va_P D vwCl (ce_X13 kA q_this (ss_A o_this 2 (upd (upd (upd (upd (os_A o_this 2) (Int32.toNatClampNeg (0 : Int32)) (4 : Int32)) (Int32.toNatClampNeg (1 : Int32)) (4 : Int32)) (Int32.toNatClampNeg (2 : Int32)) (8 : Int32)) (Int32.toNatClampNeg (3 : Int32)) (80 : Int32)))) H := Eq.mp (congrArg (fun w9 => va_P D vwCl w9 H) (hE9 (upd (upd (upd (os_A o_this 2) (Int32.toNatClampNeg (0 : Int32)) (4 : Int32)) (Int32.toNatClampNeg (1 : Int32)) (4 : Int32)) (Int32.toNatClampNeg (2 : Int32)) (8 : Int32)) _)) hP
  have hD : va_D A (ce_X13 kA q_this (ss_A o_this 2 (upd (upd (upd (upd (os_A o_this 2) (Int32.toNatClampNeg (0 : Int32)) (4 : Int32)) (Int32.toNatClampNeg (1 : Int32)) (4 : Int32)) (Int32.toNatClampNeg (2 : Int32)) (8 : Int32)) (Int32.toNatClampNeg (3 : Int32)) (80 : Int32)))) := Eq.mp (congrArg (fun w9 => va_D A w9) (hE9 (upd (upd (upd (os_A o_this 2) (Int32.toNatClampNeg (0 : Int32)) (4 : Int32)) (Int32.toNatClampNeg (1 : Int32)) (4 : Int32)) (Int32.toNatClampNeg (2 : Int32)) (8 : Int32)) _)) hD
  refine lv_aload_n hx hb dX13_begins_30 rfl (lv_at hl 0 rfl) ?_
  refine va_get (D := D) (ci := 9) (v := .ref (q_this 3)) (C := RX13) (T := TX13) (N := 48) hx hb hUX13 (fun _ h9 => h9) hown hK hP 0 rfl rfl 14 (by decide) (hts (Cond.fieldLink RX13 23 "ReliefBuilderModel" "read" "[I") (List.mem_of_getElem? (i := 1) rfl)) (fun _ h9 => h9) rfl dX13_begins_31 ?_
  refine lv_iconst (v := 4) hx hb dX13_begins_34 (by decide) ?_
  refine lv_iconst (v := 1) hx hb dX13_begins_35 (by decide) ?_
  obtain ⟨hi_5, hf⟩ := os_if hf
  refine va_iast hx hb hK hP hD hS 3 0 rfl rfl hi_5 dX13_begins_36 (fun H locs hP hD hS => ?_)
  have hE9 : ∀ (y0 : Nat → Int32) (z9 : Nat → Int32), ((ce_X13 kA q_this (ss_A o_this 2 y0)) : va_W).set 3 (q_this 3, .inl (kA 0, 7, .inl z9)) = (ce_X13 kA q_this (ss_A o_this 2 z9)) := fun _ _ => rfl
  have hP : va_P D vwCl (ce_X13 kA q_this (ss_A o_this 2 (upd (upd (upd (upd (upd (os_A o_this 2) (Int32.toNatClampNeg (0 : Int32)) (4 : Int32)) (Int32.toNatClampNeg (1 : Int32)) (4 : Int32)) (Int32.toNatClampNeg (2 : Int32)) (8 : Int32)) (Int32.toNatClampNeg (3 : Int32)) (80 : Int32)) (Int32.toNatClampNeg (4 : Int32)) (1 : Int32)))) H := Eq.mp (congrArg (fun w9 => va_P D vwCl w9 H) (hE9 (upd (upd (upd (upd (os_A o_this 2) (Int32.toNatClampNeg (0 : Int32)) (4 : Int32)) (Int32.toNatClampNeg (1 : Int32)) (4 : Int32)) (Int32.toNatClampNeg (2 : Int32)) (8 : Int32)) (Int32.toNatClampNeg (3 : Int32)) (80 : Int32)) _)) hP
  have hD : va_D A (ce_X13 kA q_this (ss_A o_this 2 (upd (upd (upd (upd (upd (os_A o_this 2) (Int32.toNatClampNeg (0 : Int32)) (4 : Int32)) (Int32.toNatClampNeg (1 : Int32)) (4 : Int32)) (Int32.toNatClampNeg (2 : Int32)) (8 : Int32)) (Int32.toNatClampNeg (3 : Int32)) (80 : Int32)) (Int32.toNatClampNeg (4 : Int32)) (1 : Int32)))) := Eq.mp (congrArg (fun w9 => va_D A w9) (hE9 (upd (upd (upd (upd (os_A o_this 2) (Int32.toNatClampNeg (0 : Int32)) (4 : Int32)) (Int32.toNatClampNeg (1 : Int32)) (4 : Int32)) (Int32.toNatClampNeg (2 : Int32)) (8 : Int32)) (Int32.toNatClampNeg (3 : Int32)) (80 : Int32)) _)) hD
  refine lv_aload_n hx hb dX13_begins_37 rfl (lv_at hl 0 rfl) ?_
  refine va_get (D := D) (ci := 9) (v := .ref (q_this 3)) (C := RX13) (T := TX13) (N := 48) hx hb hUX13 (fun _ h9 => h9) hown hK hP 0 rfl rfl 14 (by decide) (hts (Cond.fieldLink RX13 23 "ReliefBuilderModel" "read" "[I") (List.mem_of_getElem? (i := 1) rfl)) (fun _ h9 => h9) rfl dX13_begins_38 ?_
  refine lv_iconst (v := 5) hx hb dX13_begins_41 (by decide) ?_
  refine lv_iconst (v := 2) hx hb dX13_begins_42 (by decide) ?_
  obtain ⟨hi_6, hf⟩ := os_if hf
  refine va_iast hx hb hK hP hD hS 3 0 rfl rfl hi_6 dX13_begins_43 (fun H locs hP hD hS => ?_)
  have hE9 : ∀ (y0 : Nat → Int32) (z9 : Nat → Int32), ((ce_X13 kA q_this (ss_A o_this 2 y0)) : va_W).set 3 (q_this 3, .inl (kA 0, 7, .inl z9)) = (ce_X13 kA q_this (ss_A o_this 2 z9)) := fun _ _ => rfl
  have hP : va_P D vwCl (ce_X13 kA q_this (ss_A o_this 2 (upd (upd (upd (upd (upd (upd (os_A o_this 2) (Int32.toNatClampNeg (0 : Int32)) (4 : Int32)) (Int32.toNatClampNeg (1 : Int32)) (4 : Int32)) (Int32.toNatClampNeg (2 : Int32)) (8 : Int32)) (Int32.toNatClampNeg (3 : Int32)) (80 : Int32)) (Int32.toNatClampNeg (4 : Int32)) (1 : Int32)) (Int32.toNatClampNeg (5 : Int32)) (2 : Int32)))) H := Eq.mp (congrArg (fun w9 => va_P D vwCl w9 H) (hE9 (upd (upd (upd (upd (upd (os_A o_this 2) (Int32.toNatClampNeg (0 : Int32)) (4 : Int32)) (Int32.toNatClampNeg (1 : Int32)) (4 : Int32)) (Int32.toNatClampNeg (2 : Int32)) (8 : Int32)) (Int32.toNatClampNeg (3 : Int32)) (80 : Int32)) (Int32.toNatClampNeg (4 : Int32)) (1 : Int32)) _)) hP
  have hD : va_D A (ce_X13 kA q_this (ss_A o_this 2 (upd (upd (upd (upd (upd (upd (os_A o_this 2) (Int32.toNatClampNeg (0 : Int32)) (4 : Int32)) (Int32.toNatClampNeg (1 : Int32)) (4 : Int32)) (Int32.toNatClampNeg (2 : Int32)) (8 : Int32)) (Int32.toNatClampNeg (3 : Int32)) (80 : Int32)) (Int32.toNatClampNeg (4 : Int32)) (1 : Int32)) (Int32.toNatClampNeg (5 : Int32)) (2 : Int32)))) := Eq.mp (congrArg (fun w9 => va_D A w9) (hE9 (upd (upd (upd (upd (upd (os_A o_this 2) (Int32.toNatClampNeg (0 : Int32)) (4 : Int32)) (Int32.toNatClampNeg (1 : Int32)) (4 : Int32)) (Int32.toNatClampNeg (2 : Int32)) (8 : Int32)) (Int32.toNatClampNeg (3 : Int32)) (80 : Int32)) (Int32.toNatClampNeg (4 : Int32)) (1 : Int32)) _)) hD
  refine lv_aload_n hx hb dX13_begins_44 rfl (lv_at hl 0 rfl) ?_
  refine va_get (D := D) (ci := 9) (v := .ref (q_this 3)) (C := RX13) (T := TX13) (N := 48) hx hb hUX13 (fun _ h9 => h9) hown hK hP 0 rfl rfl 14 (by decide) (hts (Cond.fieldLink RX13 23 "ReliefBuilderModel" "read" "[I") (List.mem_of_getElem? (i := 1) rfl)) (fun _ h9 => h9) rfl dX13_begins_45 ?_
  refine lv_bipush (v := 6) hx hb dX13_begins_48 (by decide) ?_
  refine lv_iconst (v := 1) hx hb dX13_begins_50 (by decide) ?_
  obtain ⟨hi_7, hf⟩ := os_if hf
  refine va_iast hx hb hK hP hD hS 3 0 rfl rfl hi_7 dX13_begins_51 (fun H locs hP hD hS => ?_)
  have hE9 : ∀ (y0 : Nat → Int32) (z9 : Nat → Int32), ((ce_X13 kA q_this (ss_A o_this 2 y0)) : va_W).set 3 (q_this 3, .inl (kA 0, 7, .inl z9)) = (ce_X13 kA q_this (ss_A o_this 2 z9)) := fun _ _ => rfl
  have hP : va_P D vwCl (ce_X13 kA q_this (ss_A o_this 2 (upd (upd (upd (upd (upd (upd (upd (os_A o_this 2) (Int32.toNatClampNeg (0 : Int32)) (4 : Int32)) (Int32.toNatClampNeg (1 : Int32)) (4 : Int32)) (Int32.toNatClampNeg (2 : Int32)) (8 : Int32)) (Int32.toNatClampNeg (3 : Int32)) (80 : Int32)) (Int32.toNatClampNeg (4 : Int32)) (1 : Int32)) (Int32.toNatClampNeg (5 : Int32)) (2 : Int32)) (Int32.toNatClampNeg (6 : Int32)) (1 : Int32)))) H := Eq.mp (congrArg (fun w9 => va_P D vwCl w9 H) (hE9 (upd (upd (upd (upd (upd (upd (os_A o_this 2) (Int32.toNatClampNeg (0 : Int32)) (4 : Int32)) (Int32.toNatClampNeg (1 : Int32)) (4 : Int32)) (Int32.toNatClampNeg (2 : Int32)) (8 : Int32)) (Int32.toNatClampNeg (3 : Int32)) (80 : Int32)) (Int32.toNatClampNeg (4 : Int32)) (1 : Int32)) (Int32.toNatClampNeg (5 : Int32)) (2 : Int32)) _)) hP
  have hD : va_D A (ce_X13 kA q_this (ss_A o_this 2 (upd (upd (upd (upd (upd (upd (upd (os_A o_this 2) (Int32.toNatClampNeg (0 : Int32)) (4 : Int32)) (Int32.toNatClampNeg (1 : Int32)) (4 : Int32)) (Int32.toNatClampNeg (2 : Int32)) (8 : Int32)) (Int32.toNatClampNeg (3 : Int32)) (80 : Int32)) (Int32.toNatClampNeg (4 : Int32)) (1 : Int32)) (Int32.toNatClampNeg (5 : Int32)) (2 : Int32)) (Int32.toNatClampNeg (6 : Int32)) (1 : Int32)))) := Eq.mp (congrArg (fun w9 => va_D A w9) (hE9 (upd (upd (upd (upd (upd (upd (os_A o_this 2) (Int32.toNatClampNeg (0 : Int32)) (4 : Int32)) (Int32.toNatClampNeg (1 : Int32)) (4 : Int32)) (Int32.toNatClampNeg (2 : Int32)) (8 : Int32)) (Int32.toNatClampNeg (3 : Int32)) (80 : Int32)) (Int32.toNatClampNeg (4 : Int32)) (1 : Int32)) (Int32.toNatClampNeg (5 : Int32)) (2 : Int32)) _)) hD
  refine lv_iconst (v := 0) hx hb dX13_begins_52 (by decide) ?_
  refine lv_istore_n (lv' := [(1, .int (0 : Int32)), (0, .ref (q_this 0))]) hx hb dX13_begins_53 rfl hl (by decide) rfl (fun ls hl => ?_)
  exact hL54 N (ss_A o_this 2 (upd (upd (upd (upd (upd (upd (upd (os_A o_this 2) (Int32.toNatClampNeg (0 : Int32)) (4 : Int32)) (Int32.toNatClampNeg (1 : Int32)) (4 : Int32)) (Int32.toNatClampNeg (2 : Int32)) (8 : Int32)) (Int32.toNatClampNeg (3 : Int32)) (80 : Int32)) (Int32.toNatClampNeg (4 : Int32)) (1 : Int32)) (Int32.toNatClampNeg (5 : Int32)) (2 : Int32)) (Int32.toNatClampNeg (6 : Int32)) (1 : Int32))) (0 : Int32) _ _ _ hP hD hS (lv_sub hl [1, 0] rfl) hf
def ff_X13_apart (N : Nat) (a0 : UInt32) : Option UInt32 :=
  (if 0 ≤ (Op.cmpValue (FP.fcmp a0 FP.fconst0) CmpOp.g) then some a0 else (if os_nn (FP.fsub FP.fconst0 a0) then some (FP.fsub FP.fconst0 a0) else none))
set_option maxHeartbeats 4000000 in
set_option maxRecDepth 100000 in
theorem mm_X13_apart (l : Launch) (D : va_G) (kA : Nat → ClassId) (N : Nat) (a0 : UInt32) (out : UInt32) (hf : ff_X13_apart N a0 = some out) : mc_C l D kA yX13_apart wsX13_apart ({ frames := 0, cells := 0, slots := 0, locals := 0 } : Room) [.float a0] [] (some (.float out)) [] := by
  refine mc_of (cc := cX13_apart) (maxL := 1) (ret := (some .float)) (by decide) rfl (Nat.le_of_ble_eq_true rfl) ?_
  intro p e s m below meth c A B hD hP hS ls hl
  obtain ⟨hx, hb, hr, hlk, hml, hown, hts, hK, hA, hnm⟩ := B
  have hown : s.vm.findClass RX13 = some m.cls := hown
  have hl : lv_has ls 1 [(0, .float a0)] := hl
  unfold ff_X13_apart at hf
  refine lv_fload_n hx hb dX13_apart_0 rfl (lv_at hl 0 rfl) ?_
  refine lv_fconst0 hx hb dX13_apart_1 ?_
  refine lv_fcmp hx hb dX13_apart_2 ?_
  refine lv_if_ge (tgt := 12) hx hb dX13_apart_3 (by decide) (fun hc_1 => ?_) (fun hc_1 => ?_)
  · rw [if_pos hc_1] at hf
    refine lv_fload_n hx hb dX13_apart_12 rfl (lv_at hl 0 rfl) ?_
    rw [← Option.some.inj hf]
    exact mc_retf hx hb hr hlk hP hK hD hS dX13_apart_13
  · rw [if_neg hc_1] at hf
    refine lv_fconst0 hx hb dX13_apart_6 ?_
    refine lv_fload_n hx hb dX13_apart_7 rfl (lv_at hl 0 rfl) ?_
    obtain ⟨hn_2, hf⟩ := os_if hf
    refine lv_fsub hx hb dX13_apart_8 hn_2 ?_
    refine lv_goto (tgt := 13) hx hb dX13_apart_9 (by decide) ?_
    rw [← Option.some.inj hf]
    exact mc_retf hx hb hr hlk hP hK hD hS dX13_apart_13
def ff_X13_lightOf_c17 (N : Nat) (o_this : os_T) (k17 : (Int32 × UInt32 × UInt32 × Int32) → Option UInt32) (x1 : Int32) (x2 : UInt32) (x3 : UInt32) (x4 : Int32) : Option UInt32 :=
  (if x1 ≤ x4 then some x3 else (if os_nn (FP.fmul x3 x2) then k17 (x1, x2, FP.fmul x3 x2, x4 + 1) else none))
def ff_X13_lightOf_l17 (N : Nat) (o_this : os_T) : Nat → (Int32 × UInt32 × UInt32 × Int32) → Option UInt32 := os_loop (fun k17 s1 => ff_X13_lightOf_c17 N o_this k17 s1.1 s1.2.1 s1.2.2.1 s1.2.2.2)
def ff_X13_lightOf (N : Nat) (o_this : os_T) (a1 : Int32) : Option UInt32 :=
  (if os_in (3 : Int32) 7 then (if os_nn (FP.fdiv (FP.i2f ((os_A o_this 1) (Int32.toNatClampNeg (3 : Int32)))) (1120403456 : UInt32)) then ff_X13_lightOf_l17 N o_this N (a1, FP.fdiv (FP.i2f ((os_A o_this 1) (Int32.toNatClampNeg (3 : Int32)))) (1120403456 : UInt32), FP.fconst1, (0 : Int32)) else none) else none)
set_option maxHeartbeats 4000000 in
set_option maxRecDepth 100000 in
theorem mm_X13_lightOf (l : Launch) (D : va_G) (kA : Nat → ClassId) (N : Nat) (q_this : Nat → Nat) (o_this : os_T) (a1 : Int32) (out : UInt32) (hf : ff_X13_lightOf N o_this a1 = some out) : mc_C l D kA yX13_lightOf wsX13_lightOf ({ frames := 0, cells := 0, slots := 0, locals := 0 } : Room) [.ref (q_this 0), .int a1] (ce_X13 kA q_this o_this) (some (.float out)) (ce_X13 kA q_this o_this) := by
  refine mc_of (cc := cX13_lightOf) (maxL := 5) (ret := (some .float)) (by decide) rfl (Nat.le_of_ble_eq_true rfl) ?_
  intro p e s m below meth c A B hD hP hS ls hl
  obtain ⟨hx, hb, hr, hlk, hml, hown, hts, hK, hA, hnm⟩ := B
  have hown : s.vm.findClass RX13 = some m.cls := hown
  have hl : lv_has ls 5 [(0, .ref (q_this 0)), (1, .int a1)] := hl
  have hUX13 : ∀ w ∈ u_ws RX13 TX13 48, w.before [.ref (q_this 0), .int a1].toArray s = true := fun w h => hts w (List.mem_cons_of_mem _ (List.mem_append_right _ h))
  have hL17 : ∀ (n : Nat) (x1 : Int32) (x2 : UInt32) (x3 : UInt32) (x4 : Int32) (H : Heap) (locs : List Loc) (ls : Array Slot), va_P D vwCl (ce_X13 kA q_this o_this) H → va_D A (ce_X13 kA q_this o_this) → va_S A s.heap H locs → lv_has ls 5 [(1, .int x1), (2, .float x2), (3, .float x3), (4, .int x4)] → ff_X13_lightOf_l17 N o_this n (x1, x2, x3, x4) = some out → W p l e ({ frames := 0, cells := 0, slots := 0, locals := 0 } : Room) s m [.ref (q_this 0), .int a1].toArray below meth c H locs 0 0 (MQ below (mc_Q D kA A (some (.float out)) (ce_X13 kA q_this o_this)) [.ref (q_this 0), .int a1].toArray s 0 0 A) (F0 m 17 ls []) := by
    intro n
    induction n with
    | zero => intro x1 x2 x3 x4 H locs ls _ _ _ _ hf; cases hf
    | succ n hk17 =>
      intro x1 x2 x3 x4 H locs ls hP hD hS hl hf
      have hf : ff_X13_lightOf_c17 N o_this (ff_X13_lightOf_l17 N o_this n) x1 x2 x3 x4 = some out := hf
      generalize hke : ff_X13_lightOf_l17 N o_this n = k17 at hk17 hf
      unfold ff_X13_lightOf_c17 at hf
      refine lv_iload hx hb dX13_lightOf_17 (lv_at hl 3 rfl) ?_
      refine lv_iload_n hx hb dX13_lightOf_19 rfl (lv_at hl 0 rfl) ?_
      refine lv_icmp_ge (tgt := 33) hx hb dX13_lightOf_20 (by decide) (fun hc_3 => ?_) (fun hc_3 => ?_)
      · rw [if_pos hc_3] at hf
        refine lv_fload_n hx hb dX13_lightOf_33 rfl (lv_at hl 2 rfl) ?_
        rw [← Option.some.inj hf]
        exact mc_retf hx hb hr hlk hP hK hD hS dX13_lightOf_34
      · rw [if_neg hc_3] at hf
        refine lv_fload_n hx hb dX13_lightOf_23 rfl (lv_at hl 2 rfl) ?_
        refine lv_fload_n hx hb dX13_lightOf_24 rfl (lv_at hl 1 rfl) ?_
        obtain ⟨hn_4, hf⟩ := os_if hf
        refine lv_fmul hx hb dX13_lightOf_25 hn_4 ?_
        refine lv_fstore_n (lv' := [(3, .float (FP.fmul x3 x2)), (1, .int x1), (2, .float x2), (4, .int x4)]) hx hb dX13_lightOf_26 rfl hl (by decide) rfl (fun ls hl => ?_)
        refine lv_iinc (v := x4 + 1) (lv' := [(4, .int (x4 + 1)), (3, .float (FP.fmul x3 x2)), (1, .int x1), (2, .float x2)]) hx hb dX13_lightOf_27 hl (k := 3) rfl rfl (by decide) rfl (fun ls hl => ?_)
        refine lv_goto (tgt := 17) hx hb dX13_lightOf_30 (by decide) ?_
        exact hk17 x1 x2 (FP.fmul x3 x2) (x4 + 1) _ _ _ hP hD hS (lv_sub hl [2, 3, 1, 0] rfl) hf
  unfold ff_X13_lightOf at hf
  refine lv_aload_n hx hb dX13_lightOf_0 rfl (lv_at hl 0 rfl) ?_
  refine va_get (D := D) (ci := 9) (v := .ref (q_this 2)) (C := RX13) (T := TX13) (N := 48) hx hb hUX13 (fun _ h9 => h9) hown hK hP 0 rfl rfl 13 (by decide) (hts (Cond.fieldLink RX13 20 "ReliefBuilderModel" "now" "[I") (List.mem_of_getElem? (i := 1) rfl)) (fun _ h9 => h9) rfl dX13_lightOf_1 ?_
  refine lv_iconst (v := 3) hx hb dX13_lightOf_4 (by decide) ?_
  obtain ⟨hi_1, hf⟩ := os_if hf
  refine va_iald hx hb hK hP 2 0 rfl rfl hi_1 dX13_lightOf_5 ?_
  refine lv_i2f hx hb dX13_lightOf_6 ?_
  refine lv_ldcwF hx hb hown (hts (Cond.constantFloat RX13 267 (1120403456)) (List.mem_of_getElem? (i := 2) rfl)) dX13_lightOf_7 ?_
  obtain ⟨hn_2, hf⟩ := os_if hf
  refine lv_fdiv hx hb dX13_lightOf_10 hn_2 ?_
  refine lv_fstore_n (lv' := [(2, .float (FP.fdiv (FP.i2f ((os_A o_this 1) (Int32.toNatClampNeg (3 : Int32)))) (1120403456 : UInt32))), (0, .ref (q_this 0)), (1, .int a1)]) hx hb dX13_lightOf_11 rfl hl (by decide) rfl (fun ls hl => ?_)
  refine lv_fconst1 hx hb dX13_lightOf_12 ?_
  refine lv_fstore_n (lv' := [(3, .float FP.fconst1), (2, .float (FP.fdiv (FP.i2f ((os_A o_this 1) (Int32.toNatClampNeg (3 : Int32)))) (1120403456 : UInt32))), (0, .ref (q_this 0)), (1, .int a1)]) hx hb dX13_lightOf_13 rfl hl (by decide) rfl (fun ls hl => ?_)
  refine lv_iconst (v := 0) hx hb dX13_lightOf_14 (by decide) ?_
  refine lv_istore (lv' := [(4, .int (0 : Int32)), (3, .float FP.fconst1), (2, .float (FP.fdiv (FP.i2f ((os_A o_this 1) (Int32.toNatClampNeg (3 : Int32)))) (1120403456 : UInt32))), (0, .ref (q_this 0)), (1, .int a1)]) hx hb dX13_lightOf_15 hl (by decide) rfl (fun ls hl => ?_)
  exact hL17 N a1 (FP.fdiv (FP.i2f ((os_A o_this 1) (Int32.toNatClampNeg (3 : Int32)))) (1120403456 : UInt32)) FP.fconst1 (0 : Int32) _ _ _ hP hD hS (lv_sub hl [4, 2, 1, 0] rfl) hf
def ff_X13_heightBy_b68 (N : Nat) (o_this : os_T) (k28 : (UInt32 × Int32 × UInt32 × Int32) → Option Int32) (x1 : UInt32) (x2 : Int32) (x3 : UInt32) (x4 : Int32) : Option Int32 :=
  k28 (x1, x2, x3, x4 + 1)
def ff_X13_heightBy_c28 (N : Nat) (o_this : os_T) (k28 : (UInt32 × Int32 × UInt32 × Int32) → Option Int32) (x1 : UInt32) (x2 : Int32) (x3 : UInt32) (x4 : Int32) : Option Int32 :=
  (if os_in (2 : Int32) 7 then (if ((os_A o_this 1) (Int32.toNatClampNeg (2 : Int32))) < x4 then some x2 else ((ff_X13_lightOf N o_this x4).bind fun u_10 => (if os_nn (FP.fsub u_10 x1) then ((ff_X13_apart N (FP.fsub u_10 x1)).bind fun u_13 => (if (Op.cmpValue (FP.fcmp u_13 x3) CmpOp.l) < 0 then ff_X13_heightBy_b68 N o_this k28 x1 x4 u_13 x4 else ff_X13_heightBy_b68 N o_this k28 x1 x2 x3 x4)) else none))) else none)
def ff_X13_heightBy_l28 (N : Nat) (o_this : os_T) : Nat → (UInt32 × Int32 × UInt32 × Int32) → Option Int32 := os_loop (fun k28 s1 => ff_X13_heightBy_c28 N o_this k28 s1.1 s1.2.1 s1.2.2.1 s1.2.2.2)
def ff_X13_heightBy (N : Nat) (o_this : os_T) (a1 : UInt32) : Option Int32 :=
  (if os_in (4 : Int32) 7 then ((ff_X13_lightOf N o_this ((os_A o_this 1) (Int32.toNatClampNeg (4 : Int32)))).bind fun u_2 => (if os_nn (FP.fsub u_2 a1) then ((ff_X13_apart N (FP.fsub u_2 a1)).bind fun u_5 => (if os_in (4 : Int32) 7 then ff_X13_heightBy_l28 N o_this N (a1, (os_A o_this 1) (Int32.toNatClampNeg (4 : Int32)), u_5, ((os_A o_this 1) (Int32.toNatClampNeg (4 : Int32))) + (1 : Int32)) else none)) else none)) else none)
set_option maxHeartbeats 4000000 in
set_option maxRecDepth 100000 in
theorem mm_X13_heightBy (l : Launch) (D : va_G) (kA : Nat → ClassId) (N : Nat) (q_this : Nat → Nat) (o_this : os_T) (a1 : UInt32) (out : Int32) (hf : ff_X13_heightBy N o_this a1 = some out) : mc_C l D kA yX13_heightBy wsX13_heightBy ({ frames := 1, cells := 0, slots := 0, locals := 24 } : Room) [.ref (q_this 0), .float a1] (ce_X13 kA q_this o_this) (some (.int out)) (ce_X13 kA q_this o_this) := by
  refine mc_of (cc := cX13_heightBy) (maxL := 6) (ret := (some .int)) (by decide) rfl (Nat.le_of_ble_eq_true rfl) ?_
  intro p e s m below meth c A B hD hP hS ls hl
  obtain ⟨hx, hb, hr, hlk, hml, hown, hts, hK, hA, hnm⟩ := B
  have hown : s.vm.findClass RX13 = some m.cls := hown
  have hl : lv_has ls 6 [(0, .ref (q_this 0)), (1, .float a1)] := hl
  have hUX13 : ∀ w ∈ u_ws RX13 TX13 48, w.before [.ref (q_this 0), .float a1].toArray s = true := fun w h => hts w (List.mem_cons_of_mem _ (List.mem_append_right _ h))
  have hB68 : ∀ (k28 : (UInt32 × Int32 × UInt32 × Int32) → Option Int32), (∀ (x1 : UInt32) (x2 : Int32) (x3 : UInt32) (x4 : Int32) (H : Heap) (locs : List Loc) (ls : Array Slot), va_P D vwCl (ce_X13 kA q_this o_this) H → va_D A (ce_X13 kA q_this o_this) → va_S A s.heap H locs → lv_has ls 6 [(0, .ref (q_this 0)), (1, .float x1), (2, .int x2), (3, .float x3), (4, .int x4)] → k28 (x1, x2, x3, x4) = some out → W p l e ({ frames := 1, cells := 0, slots := 0, locals := 24 } : Room) s m [.ref (q_this 0), .float a1].toArray below meth c H locs 0 0 (MQ below (mc_Q D kA A (some (.int out)) (ce_X13 kA q_this o_this)) [.ref (q_this 0), .float a1].toArray s 0 0 A) (F0 m 28 ls [])) → ∀ (x1 : UInt32) (x2 : Int32) (x3 : UInt32) (x4 : Int32) (H : Heap) (locs : List Loc) (ls : Array Slot), va_P D vwCl (ce_X13 kA q_this o_this) H → va_D A (ce_X13 kA q_this o_this) → va_S A s.heap H locs → lv_has ls 6 [(0, .ref (q_this 0)), (1, .float x1), (2, .int x2), (3, .float x3), (4, .int x4)] → ff_X13_heightBy_b68 N o_this k28 x1 x2 x3 x4 = some out → W p l e ({ frames := 1, cells := 0, slots := 0, locals := 24 } : Room) s m [.ref (q_this 0), .float a1].toArray below meth c H locs 0 0 (MQ below (mc_Q D kA A (some (.int out)) (ce_X13 kA q_this o_this)) [.ref (q_this 0), .float a1].toArray s 0 0 A) (F0 m 68 ls []) := by
    intro k28 hk28 x1 x2 x3 x4 H locs ls hP hD hS hl hf
    unfold ff_X13_heightBy_b68 at hf
    refine lv_iinc (v := x4 + 1) (lv' := [(4, .int (x4 + 1)), (0, .ref (q_this 0)), (1, .float x1), (2, .int x2), (3, .float x3)]) hx hb dX13_heightBy_68 hl (k := 4) rfl rfl (by decide) rfl (fun ls hl => ?_)
    refine lv_goto (tgt := 28) hx hb dX13_heightBy_71 (by decide) ?_
    exact hk28 x1 x2 x3 (x4 + 1) _ _ _ hP hD hS (lv_sub hl [1, 2, 3, 4, 0] rfl) hf
  have hL28 : ∀ (n : Nat) (x1 : UInt32) (x2 : Int32) (x3 : UInt32) (x4 : Int32) (H : Heap) (locs : List Loc) (ls : Array Slot), va_P D vwCl (ce_X13 kA q_this o_this) H → va_D A (ce_X13 kA q_this o_this) → va_S A s.heap H locs → lv_has ls 6 [(0, .ref (q_this 0)), (1, .float x1), (2, .int x2), (3, .float x3), (4, .int x4)] → ff_X13_heightBy_l28 N o_this n (x1, x2, x3, x4) = some out → W p l e ({ frames := 1, cells := 0, slots := 0, locals := 24 } : Room) s m [.ref (q_this 0), .float a1].toArray below meth c H locs 0 0 (MQ below (mc_Q D kA A (some (.int out)) (ce_X13 kA q_this o_this)) [.ref (q_this 0), .float a1].toArray s 0 0 A) (F0 m 28 ls []) := by
    intro n
    induction n with
    | zero => intro x1 x2 x3 x4 H locs ls _ _ _ _ hf; cases hf
    | succ n hk28 =>
      intro x1 x2 x3 x4 H locs ls hP hD hS hl hf
      have hf : ff_X13_heightBy_c28 N o_this (ff_X13_heightBy_l28 N o_this n) x1 x2 x3 x4 = some out := hf
      generalize hke : ff_X13_heightBy_l28 N o_this n = k28 at hk28 hf
      unfold ff_X13_heightBy_c28 at hf
      refine lv_iload hx hb dX13_heightBy_28 (lv_at hl 4 rfl) ?_
      refine lv_aload_n hx hb dX13_heightBy_30 rfl (lv_at hl 0 rfl) ?_
      refine va_get (D := D) (ci := 9) (v := .ref (q_this 2)) (C := RX13) (T := TX13) (N := 48) hx hb hUX13 (fun _ h9 => h9) hown hK hP 0 rfl rfl 13 (by decide) (hts (Cond.fieldLink RX13 20 "ReliefBuilderModel" "now" "[I") (List.mem_of_getElem? (i := 1) rfl)) (fun _ h9 => h9) rfl dX13_heightBy_31 ?_
      refine lv_iconst (v := 2) hx hb dX13_heightBy_34 (by decide) ?_
      obtain ⟨hi_8, hf⟩ := os_if hf
      refine va_iald hx hb hK hP 2 0 rfl rfl hi_8 dX13_heightBy_35 ?_
      refine lv_icmp_gt (tgt := 74) hx hb dX13_heightBy_36 (by decide) (fun hc_9 => ?_) (fun hc_9 => ?_)
      · rw [if_pos hc_9] at hf
        refine lv_iload_n hx hb dX13_heightBy_74 rfl (lv_at hl 2 rfl) ?_
        rw [← Option.some.inj hf]
        exact mc_reti hx hb hr hlk hP hK hD hS dX13_heightBy_75
      · rw [if_neg hc_9] at hf
        refine lv_aload_n hx hb dX13_heightBy_39 rfl (lv_at hl 0 rfl) ?_
        refine lv_iload hx hb dX13_heightBy_40 (lv_at hl 4 rfl) ?_
        obtain ⟨u_10, he_11, hf⟩ := os_bd hf
        refine mc_callV ⟨hx, hb, hml, hown, hts⟩ (mm_X13_lightOf l D kA N q_this o_this x4 u_10 he_11) (cwV 1 hts gX13_heightBy_X13_lightOf rfl rfl rfl (by decide +kernel) ⟨Nat.le_of_ble_eq_true rfl, Nat.le_of_ble_eq_true rfl⟩) (wc := (ce_X13 kA q_this o_this)) (ci := 9) (q0 := 0) rfl rfl rfl hl.1 (As := [.int x4]) (rest := []) rfl (Nat.le_of_ble_eq_true rfl) dX13_heightBy_42 ⟨Nat.le_of_ble_eq_true rfl, Nat.le_of_ble_eq_true rfl⟩ hK hP hD hS hA [0, 1, 2, 3, 4, 5, 6, 7, 8, 9, 10, 11, 12, 13, 14, 15, 16, 17, 18, 19, 20, 21, 22, 23] [] [0, 1, 2, 3, 4, 5, 6, 7, 8, 9, 10, 11, 12, 13, 14, 15, 16, 17, 18, 19, 20, 21, 22, 23] rfl (by decide) rfl (by decide) (by decide) rfl (by decide) (wr := []) (w2 := (ce_X13 kA q_this o_this)) (fun H locs hP hD hS => ?_)
        have hP : va_P D vwCl (ce_X13 kA q_this o_this) H := hP
        refine lv_fload_n hx hb dX13_heightBy_45 rfl (lv_at hl 1 rfl) ?_
        obtain ⟨hn_12, hf⟩ := os_if hf
        refine lv_fsub hx hb dX13_heightBy_46 hn_12 ?_
        obtain ⟨u_13, he_14, hf⟩ := os_bd hf
        refine mc_callS ⟨hx, hb, hml, hown, hts⟩ (mm_X13_apart l D kA N (FP.fsub u_10 x1) u_13 he_14) (va_cwS 1 hts gX13_heightBy_X13_apart rfl rfl rfl (by decide +kernel) ⟨Nat.le_of_ble_eq_true rfl, Nat.le_of_ble_eq_true rfl⟩) (wc := []) rfl hl.1 (As := [.float (FP.fsub u_10 x1)]) (rest := []) rfl (Nat.le_of_ble_eq_true rfl) dX13_heightBy_47 ⟨Nat.le_of_ble_eq_true rfl, Nat.le_of_ble_eq_true rfl⟩ hK hP hD hS hA [] [0, 1, 2, 3, 4, 5, 6, 7, 8, 9, 10, 11, 12, 13, 14, 15, 16, 17, 18, 19, 20, 21, 22, 23] [0, 1, 2, 3, 4, 5, 6, 7, 8, 9, 10, 11, 12, 13, 14, 15, 16, 17, 18, 19, 20, 21, 22, 23] rfl (by decide) rfl (by decide) (by decide) rfl (by decide) (wr := (ce_X13 kA q_this o_this)) (w2 := (ce_X13 kA q_this o_this)) (fun H locs hP hD hS => ?_)
        have hP : va_P D vwCl (ce_X13 kA q_this o_this) H := hP
        refine lv_fstore (lv' := [(5, .float u_13), (0, .ref (q_this 0)), (1, .float x1), (2, .int x2), (3, .float x3), (4, .int x4)]) hx hb dX13_heightBy_50 hl (by decide) rfl (fun ls hl => ?_)
        refine lv_fload hx hb dX13_heightBy_52 (lv_at hl 0 rfl) ?_
        refine lv_fload_n hx hb dX13_heightBy_54 rfl (lv_at hl 4 rfl) ?_
        refine lv_fcmp hx hb dX13_heightBy_55 ?_
        refine lv_if_lt (tgt := 62) hx hb dX13_heightBy_56 (by decide) (fun hc_15 => ?_) (fun hc_15 => ?_)
        · rw [if_pos hc_15] at hf
          refine lv_iload hx hb dX13_heightBy_62 (lv_at hl 5 rfl) ?_
          refine lv_istore_n (lv' := [(2, .int x4), (5, .float u_13), (0, .ref (q_this 0)), (1, .float x1), (3, .float x3), (4, .int x4)]) hx hb dX13_heightBy_64 rfl hl (by decide) rfl (fun ls hl => ?_)
          refine lv_fload hx hb dX13_heightBy_65 (lv_at hl 1 rfl) ?_
          refine lv_fstore_n (lv' := [(3, .float u_13), (2, .int x4), (5, .float u_13), (0, .ref (q_this 0)), (1, .float x1), (4, .int x4)]) hx hb dX13_heightBy_67 rfl hl (by decide) rfl (fun ls hl => ?_)
          exact hB68 k28 hk28 x1 x4 u_13 x4 _ _ _ hP hD hS (lv_sub hl [3, 4, 1, 0, 5] rfl) hf
        · rw [if_neg hc_15] at hf
          refine lv_goto (tgt := 68) hx hb dX13_heightBy_59 (by decide) ?_
          exact hB68 k28 hk28 x1 x2 x3 x4 _ _ _ hP hD hS (lv_sub hl [1, 2, 3, 4, 5] rfl) hf
  unfold ff_X13_heightBy at hf
  refine lv_aload_n hx hb dX13_heightBy_0 rfl (lv_at hl 0 rfl) ?_
  refine va_get (D := D) (ci := 9) (v := .ref (q_this 2)) (C := RX13) (T := TX13) (N := 48) hx hb hUX13 (fun _ h9 => h9) hown hK hP 0 rfl rfl 13 (by decide) (hts (Cond.fieldLink RX13 20 "ReliefBuilderModel" "now" "[I") (List.mem_of_getElem? (i := 1) rfl)) (fun _ h9 => h9) rfl dX13_heightBy_1 ?_
  refine lv_iconst (v := 4) hx hb dX13_heightBy_4 (by decide) ?_
  obtain ⟨hi_1, hf⟩ := os_if hf
  refine va_iald hx hb hK hP 2 0 rfl rfl hi_1 dX13_heightBy_5 ?_
  refine lv_istore_n (lv' := [(2, .int ((os_A o_this 1) (Int32.toNatClampNeg (4 : Int32)))), (0, .ref (q_this 0)), (1, .float a1)]) hx hb dX13_heightBy_6 rfl hl (by decide) rfl (fun ls hl => ?_)
  refine lv_aload_n hx hb dX13_heightBy_7 rfl (lv_at hl 1 rfl) ?_
  refine lv_iload_n hx hb dX13_heightBy_8 rfl (lv_at hl 0 rfl) ?_
  obtain ⟨u_2, he_3, hf⟩ := os_bd hf
  refine mc_callV ⟨hx, hb, hml, hown, hts⟩ (mm_X13_lightOf l D kA N q_this o_this ((os_A o_this 1) (Int32.toNatClampNeg (4 : Int32))) u_2 he_3) (cwV 1 hts gX13_heightBy_X13_lightOf rfl rfl rfl (by decide +kernel) ⟨Nat.le_of_ble_eq_true rfl, Nat.le_of_ble_eq_true rfl⟩) (wc := (ce_X13 kA q_this o_this)) (ci := 9) (q0 := 0) rfl rfl rfl hl.1 (As := [.int ((os_A o_this 1) (Int32.toNatClampNeg (4 : Int32)))]) (rest := []) rfl (Nat.le_of_ble_eq_true rfl) dX13_heightBy_9 ⟨Nat.le_of_ble_eq_true rfl, Nat.le_of_ble_eq_true rfl⟩ hK hP hD hS hA [0, 1, 2, 3, 4, 5, 6, 7, 8, 9, 10, 11, 12, 13, 14, 15, 16, 17, 18, 19, 20, 21, 22, 23] [] [0, 1, 2, 3, 4, 5, 6, 7, 8, 9, 10, 11, 12, 13, 14, 15, 16, 17, 18, 19, 20, 21, 22, 23] rfl (by decide) rfl (by decide) (by decide) rfl (by decide) (wr := []) (w2 := (ce_X13 kA q_this o_this)) (fun H locs hP hD hS => ?_)
  have hP : va_P D vwCl (ce_X13 kA q_this o_this) H := hP
  refine lv_fload_n hx hb dX13_heightBy_12 rfl (lv_at hl 2 rfl) ?_
  obtain ⟨hn_4, hf⟩ := os_if hf
  refine lv_fsub hx hb dX13_heightBy_13 hn_4 ?_
  obtain ⟨u_5, he_6, hf⟩ := os_bd hf
  refine mc_callS ⟨hx, hb, hml, hown, hts⟩ (mm_X13_apart l D kA N (FP.fsub u_2 a1) u_5 he_6) (va_cwS 1 hts gX13_heightBy_X13_apart rfl rfl rfl (by decide +kernel) ⟨Nat.le_of_ble_eq_true rfl, Nat.le_of_ble_eq_true rfl⟩) (wc := []) rfl hl.1 (As := [.float (FP.fsub u_2 a1)]) (rest := []) rfl (Nat.le_of_ble_eq_true rfl) dX13_heightBy_14 ⟨Nat.le_of_ble_eq_true rfl, Nat.le_of_ble_eq_true rfl⟩ hK hP hD hS hA [] [0, 1, 2, 3, 4, 5, 6, 7, 8, 9, 10, 11, 12, 13, 14, 15, 16, 17, 18, 19, 20, 21, 22, 23] [0, 1, 2, 3, 4, 5, 6, 7, 8, 9, 10, 11, 12, 13, 14, 15, 16, 17, 18, 19, 20, 21, 22, 23] rfl (by decide) rfl (by decide) (by decide) rfl (by decide) (wr := (ce_X13 kA q_this o_this)) (w2 := (ce_X13 kA q_this o_this)) (fun H locs hP hD hS => ?_)
  have hP : va_P D vwCl (ce_X13 kA q_this o_this) H := hP
  refine lv_fstore_n (lv' := [(3, .float u_5), (2, .int ((os_A o_this 1) (Int32.toNatClampNeg (4 : Int32)))), (0, .ref (q_this 0)), (1, .float a1)]) hx hb dX13_heightBy_17 rfl hl (by decide) rfl (fun ls hl => ?_)
  refine lv_aload_n hx hb dX13_heightBy_18 rfl (lv_at hl 2 rfl) ?_
  refine va_get (D := D) (ci := 9) (v := .ref (q_this 2)) (C := RX13) (T := TX13) (N := 48) hx hb hUX13 (fun _ h9 => h9) hown hK hP 0 rfl rfl 13 (by decide) (hts (Cond.fieldLink RX13 20 "ReliefBuilderModel" "now" "[I") (List.mem_of_getElem? (i := 1) rfl)) (fun _ h9 => h9) rfl dX13_heightBy_19 ?_
  refine lv_iconst (v := 4) hx hb dX13_heightBy_22 (by decide) ?_
  obtain ⟨hi_7, hf⟩ := os_if hf
  refine va_iald hx hb hK hP 2 0 rfl rfl hi_7 dX13_heightBy_23 ?_
  refine lv_iconst (v := 1) hx hb dX13_heightBy_24 (by decide) ?_
  refine lv_iadd hx hb dX13_heightBy_25 ?_
  refine lv_istore (lv' := [(4, .int (((os_A o_this 1) (Int32.toNatClampNeg (4 : Int32))) + (1 : Int32))), (3, .float u_5), (2, .int ((os_A o_this 1) (Int32.toNatClampNeg (4 : Int32)))), (0, .ref (q_this 0)), (1, .float a1)]) hx hb dX13_heightBy_26 hl (by decide) rfl (fun ls hl => ?_)
  exact hL28 N a1 ((os_A o_this 1) (Int32.toNatClampNeg (4 : Int32))) u_5 (((os_A o_this 1) (Int32.toNatClampNeg (4 : Int32))) + (1 : Int32)) _ _ _ hP hD hS (lv_sub hl [3, 4, 2, 1, 0] rfl) hf
def ff_X13_isCell (N : Nat) (o_this : os_T) (a1 : Int32) (a2 : Int32) : Option Int32 :=
  (if os_in (0 : Int32) 7 then ((ff_X13_isIn N (Int32.toInt64 a1) (0 : Int64) (Int32.toInt64 (((os_A o_this 1) (Int32.toNatClampNeg (0 : Int32))) - (1 : Int32)))).bind fun u_2 => (if u_2 = 0 then some (0 : Int32) else (if os_in (1 : Int32) 7 then ((ff_X13_isIn N (Int32.toInt64 a2) (0 : Int64) (Int32.toInt64 (((os_A o_this 1) (Int32.toNatClampNeg (1 : Int32))) - (1 : Int32)))).bind fun u_6 => (if u_6 = 0 then some (0 : Int32) else some (1 : Int32))) else none))) else none)
set_option maxHeartbeats 4000000 in
set_option maxRecDepth 100000 in
theorem mm_X13_isCell (l : Launch) (D : va_G) (kA : Nat → ClassId) (N : Nat) (q_this : Nat → Nat) (o_this : os_T) (a1 : Int32) (a2 : Int32) (out : Int32) (hf : ff_X13_isCell N o_this a1 a2 = some out) : mc_C l D kA yX13_isCell wsX13_isCell ({ frames := 1, cells := 0, slots := 0, locals := 25 } : Room) [.ref (q_this 0), .int a1, .int a2] (ce_X13 kA q_this o_this) (some (.int out)) (ce_X13 kA q_this o_this) := by
  refine mc_of (cc := cX13_isCell) (maxL := 3) (ret := (some .boolean)) (by decide) rfl (Nat.le_of_ble_eq_true rfl) ?_
  intro p e s m below meth c A B hD hP hS ls hl
  obtain ⟨hx, hb, hr, hlk, hml, hown, hts, hK, hA, hnm⟩ := B
  have hown : s.vm.findClass RX13 = some m.cls := hown
  have hl : lv_has ls 3 [(0, .ref (q_this 0)), (1, .int a1), (2, .int a2)] := hl
  have hUX13 : ∀ w ∈ u_ws RX13 TX13 48, w.before [.ref (q_this 0), .int a1, .int a2].toArray s = true := fun w h => hts w (List.mem_cons_of_mem _ (List.mem_append_right _ h))
  unfold ff_X13_isCell at hf
  refine lv_iload_n hx hb dX13_isCell_0 rfl (lv_at hl 1 rfl) ?_
  refine lv_i2l hx hb dX13_isCell_1 rfl ?_
  refine lv_lconst (v := 0) hx hb dX13_isCell_2 (by decide) ?_
  refine lv_aload_n hx hb dX13_isCell_3 rfl (lv_at hl 0 rfl) ?_
  refine va_get (D := D) (ci := 9) (v := .ref (q_this 2)) (C := RX13) (T := TX13) (N := 48) hx hb hUX13 (fun _ h9 => h9) hown hK hP 0 rfl rfl 13 (by decide) (hts (Cond.fieldLink RX13 20 "ReliefBuilderModel" "now" "[I") (List.mem_of_getElem? (i := 1) rfl)) (fun _ h9 => h9) rfl dX13_isCell_4 ?_
  refine lv_iconst (v := 0) hx hb dX13_isCell_7 (by decide) ?_
  obtain ⟨hi_1, hf⟩ := os_if hf
  refine va_iald hx hb hK hP 2 0 rfl rfl hi_1 dX13_isCell_8 ?_
  refine lv_iconst (v := 1) hx hb dX13_isCell_9 (by decide) ?_
  refine lv_isub hx hb dX13_isCell_10 ?_
  refine lv_i2l hx hb dX13_isCell_11 rfl ?_
  obtain ⟨u_2, he_3, hf⟩ := os_bd hf
  refine mc_callS ⟨hx, hb, hml, hown, hts⟩ (mm_X13_isIn l D kA N (Int32.toInt64 a1) (0 : Int64) (Int32.toInt64 (((os_A o_this 1) (Int32.toNatClampNeg (0 : Int32))) - (1 : Int32))) u_2 he_3) (va_cwS 3 hts gX13_isCell_X13_isIn rfl rfl rfl (by decide +kernel) ⟨Nat.le_of_ble_eq_true rfl, Nat.le_of_ble_eq_true rfl⟩) (wc := []) rfl hl.1 (As := [.long (Int32.toInt64 a1), .long (0 : Int64), .long (Int32.toInt64 (((os_A o_this 1) (Int32.toNatClampNeg (0 : Int32))) - (1 : Int32)))]) (rest := []) rfl (Nat.le_of_ble_eq_true rfl) dX13_isCell_12 ⟨Nat.le_of_ble_eq_true rfl, Nat.le_of_ble_eq_true rfl⟩ hK hP hD hS hA [] [0, 1, 2, 3, 4, 5, 6, 7, 8, 9, 10, 11, 12, 13, 14, 15, 16, 17, 18, 19, 20, 21, 22, 23] [0, 1, 2, 3, 4, 5, 6, 7, 8, 9, 10, 11, 12, 13, 14, 15, 16, 17, 18, 19, 20, 21, 22, 23] rfl (by decide) rfl (by decide) (by decide) rfl (by decide) (wr := (ce_X13 kA q_this o_this)) (w2 := (ce_X13 kA q_this o_this)) (fun H locs hP hD hS => ?_)
  have hP : va_P D vwCl (ce_X13 kA q_this o_this) H := hP
  refine lv_if_eq (tgt := 40) hx hb dX13_isCell_15 (by decide) (fun hc_4 => ?_) (fun hc_4 => ?_)
  · rw [if_pos hc_4] at hf
    refine lv_iconst (v := 0) hx hb dX13_isCell_40 (by decide) ?_
    rw [← Option.some.inj hf]
    exact mc_retz (v := 0) hx hb hr rfl hlk hP hK hD hS dX13_isCell_41
  · rw [if_neg hc_4] at hf
    refine lv_iload_n hx hb dX13_isCell_18 rfl (lv_at hl 2 rfl) ?_
    refine lv_i2l hx hb dX13_isCell_19 rfl ?_
    refine lv_lconst (v := 0) hx hb dX13_isCell_20 (by decide) ?_
    refine lv_aload_n hx hb dX13_isCell_21 rfl (lv_at hl 0 rfl) ?_
    refine va_get (D := D) (ci := 9) (v := .ref (q_this 2)) (C := RX13) (T := TX13) (N := 48) hx hb hUX13 (fun _ h9 => h9) hown hK hP 0 rfl rfl 13 (by decide) (hts (Cond.fieldLink RX13 20 "ReliefBuilderModel" "now" "[I") (List.mem_of_getElem? (i := 1) rfl)) (fun _ h9 => h9) rfl dX13_isCell_22 ?_
    refine lv_iconst (v := 1) hx hb dX13_isCell_25 (by decide) ?_
    obtain ⟨hi_5, hf⟩ := os_if hf
    refine va_iald hx hb hK hP 2 0 rfl rfl hi_5 dX13_isCell_26 ?_
    refine lv_iconst (v := 1) hx hb dX13_isCell_27 (by decide) ?_
    refine lv_isub hx hb dX13_isCell_28 ?_
    refine lv_i2l hx hb dX13_isCell_29 rfl ?_
    obtain ⟨u_6, he_7, hf⟩ := os_bd hf
    refine mc_callS ⟨hx, hb, hml, hown, hts⟩ (mm_X13_isIn l D kA N (Int32.toInt64 a2) (0 : Int64) (Int32.toInt64 (((os_A o_this 1) (Int32.toNatClampNeg (1 : Int32))) - (1 : Int32))) u_6 he_7) (va_cwS 3 hts gX13_isCell_X13_isIn rfl rfl rfl (by decide +kernel) ⟨Nat.le_of_ble_eq_true rfl, Nat.le_of_ble_eq_true rfl⟩) (wc := []) rfl hl.1 (As := [.long (Int32.toInt64 a2), .long (0 : Int64), .long (Int32.toInt64 (((os_A o_this 1) (Int32.toNatClampNeg (1 : Int32))) - (1 : Int32)))]) (rest := []) rfl (Nat.le_of_ble_eq_true rfl) dX13_isCell_30 ⟨Nat.le_of_ble_eq_true rfl, Nat.le_of_ble_eq_true rfl⟩ hK hP hD hS hA [] [0, 1, 2, 3, 4, 5, 6, 7, 8, 9, 10, 11, 12, 13, 14, 15, 16, 17, 18, 19, 20, 21, 22, 23] [0, 1, 2, 3, 4, 5, 6, 7, 8, 9, 10, 11, 12, 13, 14, 15, 16, 17, 18, 19, 20, 21, 22, 23] rfl (by decide) rfl (by decide) (by decide) rfl (by decide) (wr := (ce_X13 kA q_this o_this)) (w2 := (ce_X13 kA q_this o_this)) (fun H locs hP hD hS => ?_)
    have hP : va_P D vwCl (ce_X13 kA q_this o_this) H := hP
    refine lv_if_eq (tgt := 40) hx hb dX13_isCell_33 (by decide) (fun hc_8 => ?_) (fun hc_8 => ?_)
    · rw [if_pos hc_8] at hf
      refine lv_iconst (v := 0) hx hb dX13_isCell_40 (by decide) ?_
      rw [← Option.some.inj hf]
      exact mc_retz (v := 0) hx hb hr rfl hlk hP hK hD hS dX13_isCell_41
    · rw [if_neg hc_8] at hf
      refine lv_iconst (v := 1) hx hb dX13_isCell_36 (by decide) ?_
      refine lv_goto (tgt := 41) hx hb dX13_isCell_37 (by decide) ?_
      rw [← Option.some.inj hf]
      exact mc_retz (v := 1) hx hb hr rfl hlk hP hK hD hS dX13_isCell_41
def ff_X13_wantedBy (N : Nat) (a0 : Int32) : Option UInt32 :=
  (if os_nn (FP.fdiv (FP.i2f a0) (1132396544 : UInt32)) then some (FP.fdiv (FP.i2f a0) (1132396544 : UInt32)) else none)
set_option maxHeartbeats 4000000 in
set_option maxRecDepth 100000 in
theorem mm_X13_wantedBy (l : Launch) (D : va_G) (kA : Nat → ClassId) (N : Nat) (a0 : Int32) (out : UInt32) (hf : ff_X13_wantedBy N a0 = some out) : mc_C l D kA yX13_wantedBy wsX13_wantedBy ({ frames := 0, cells := 0, slots := 0, locals := 0 } : Room) [.int a0] [] (some (.float out)) [] := by
  refine mc_of (cc := cX13_wantedBy) (maxL := 1) (ret := (some .float)) (by decide) rfl (Nat.le_of_ble_eq_true rfl) ?_
  intro p e s m below meth c A B hD hP hS ls hl
  obtain ⟨hx, hb, hr, hlk, hml, hown, hts, hK, hA, hnm⟩ := B
  have hown : s.vm.findClass RX13 = some m.cls := hown
  have hl : lv_has ls 1 [(0, .int a0)] := hl
  unfold ff_X13_wantedBy at hf
  refine lv_iload_n hx hb dX13_wantedBy_0 rfl (lv_at hl 0 rfl) ?_
  refine lv_i2f hx hb dX13_wantedBy_1 ?_
  refine lv_ldcwF hx hb hown (hts (Cond.constantFloat RX13 268 (1132396544)) (List.mem_of_getElem? (i := 1) rfl)) dX13_wantedBy_2 ?_
  obtain ⟨hn_1, hf⟩ := os_if hf
  refine lv_fdiv hx hb dX13_wantedBy_5 hn_1 ?_
  rw [← Option.some.inj hf]
  exact mc_retf hx hb hr hlk hP hK hD hS dX13_wantedBy_6
def ff_X13_lays_b103 (N : Nat) (k62 : (os_T × Int32) → Option os_T) (o_this : os_T) (x1 : Int32) : Option os_T :=
  k62 (o_this, x1 + 1)
def ff_X13_lays_c62 (N : Nat) (k62 : (os_T × Int32) → Option os_T) (o_this : os_T) (x1 : Int32) : Option os_T :=
  (if (192 : Int32) ≤ x1 then some (ss_I o_this 29 (0 : Int32)) else ((ff_X13_isCell N o_this (x1 - x1 / (16 : Int32) * (16 : Int32)) (x1 / (16 : Int32))).bind fun u_9 => (if u_9 = 0 then ff_X13_lays_b103 N k62 o_this x1 else (if os_in x1 192 then ((ff_X13_wantedBy N ((os_A o_this 3) (Int32.toNatClampNeg x1))).bind fun u_13 => ((ff_X13_heightBy N o_this u_13).bind fun u_15 => (if os_in x1 192 then ff_X13_lays_b103 N k62 (ss_A o_this 4 (upd (os_A o_this 4) (Int32.toNatClampNeg x1) u_15)) x1 else none))) else none))))
def ff_X13_lays_l62 (N : Nat) : Nat → (os_T × Int32) → Option os_T := os_loop (fun k62 s1 => ff_X13_lays_c62 N k62 s1.1 s1.2)
def ff_X13_lays_c28 (N : Nat) (k28 : (os_T × Int32) → Option os_T) (o_this : os_T) (x1 : Int32) : Option os_T :=
  (if (192 : Int32) ≤ x1 then ff_X13_lays_l62 N N (o_this, (0 : Int32)) else (if os_in x1 192 then (if os_in x1 192 then (if os_in x1 192 then k28 (ss_A (ss_A o_this 3 (upd (os_A o_this 3) (Int32.toNatClampNeg x1) ((os_A o_this 5) (Int32.toNatClampNeg x1)))) 4 (upd (os_A o_this 4) (Int32.toNatClampNeg x1) (0 : Int32)), x1 + 1) else none) else none) else none))
def ff_X13_lays_l28 (N : Nat) : Nat → (os_T × Int32) → Option os_T := os_loop (fun k28 s1 => ff_X13_lays_c28 N k28 s1.1 s1.2)
def ff_X13_lays_c2 (N : Nat) (k2 : (os_T × Int32) → Option os_T) (o_this : os_T) (x1 : Int32) : Option os_T :=
  (if (7 : Int32) ≤ x1 then ff_X13_lays_l28 N N (o_this, (0 : Int32)) else (if os_in x1 7 then (if os_in x1 7 then k2 (ss_A o_this 1 (upd (os_A o_this 1) (Int32.toNatClampNeg x1) ((os_A o_this 2) (Int32.toNatClampNeg x1))), x1 + 1) else none) else none))
def ff_X13_lays_l2 (N : Nat) : Nat → (os_T × Int32) → Option os_T := os_loop (fun k2 s1 => ff_X13_lays_c2 N k2 s1.1 s1.2)
def ff_X13_lays (N : Nat) (o_this : os_T) : Option os_T :=
  ff_X13_lays_l2 N N (o_this, (0 : Int32))
set_option maxHeartbeats 4000000 in
set_option maxRecDepth 100000 in
theorem mm_X13_lays (l : Launch) (D : va_G) (kA : Nat → ClassId) (N : Nat) (q_this : Nat → Nat) (o_this : os_T) (out : os_T) (hf : ff_X13_lays N o_this = some out) : mc_C l D kA yX13_lays wsX13_lays ({ frames := 2, cells := 0, slots := 0, locals := 49 } : Room) [.ref (q_this 0)] (ce_X13 kA q_this o_this) none (ce_X13 kA q_this out) := by
  refine mc_of (cc := cX13_lays) (maxL := 2) (ret := none) (by decide) rfl (Nat.le_of_ble_eq_true rfl) ?_
  intro p e s m below meth c A B hD hP hS ls hl
  obtain ⟨hx, hb, hr, hlk, hml, hown, hts, hK, hA, hnm⟩ := B
  have hown : s.vm.findClass RX13 = some m.cls := hown
  have hl : lv_has ls 2 [(0, .ref (q_this 0))] := hl
  have hUX13 : ∀ w ∈ u_ws RX13 TX13 48, w.before [.ref (q_this 0)].toArray s = true := fun w h => hts w (List.mem_cons_of_mem _ (List.mem_append_right _ h))
  have hB103 : ∀ (k62 : (os_T × Int32) → Option os_T), (∀ (o_this : os_T) (x1 : Int32) (H : Heap) (locs : List Loc) (ls : Array Slot), va_P D vwCl (ce_X13 kA q_this o_this) H → va_D A (ce_X13 kA q_this o_this) → va_S A s.heap H locs → lv_has ls 2 [(0, .ref (q_this 0)), (1, .int x1)] → k62 (o_this, x1) = some out → W p l e ({ frames := 2, cells := 0, slots := 0, locals := 49 } : Room) s m [.ref (q_this 0)].toArray below meth c H locs 0 0 (MQ below (mc_Q D kA A none (ce_X13 kA q_this out)) [.ref (q_this 0)].toArray s 0 0 A) (F0 m 62 ls [])) → ∀ (o_this : os_T) (x1 : Int32) (H : Heap) (locs : List Loc) (ls : Array Slot), va_P D vwCl (ce_X13 kA q_this o_this) H → va_D A (ce_X13 kA q_this o_this) → va_S A s.heap H locs → lv_has ls 2 [(0, .ref (q_this 0)), (1, .int x1)] → ff_X13_lays_b103 N k62 o_this x1 = some out → W p l e ({ frames := 2, cells := 0, slots := 0, locals := 49 } : Room) s m [.ref (q_this 0)].toArray below meth c H locs 0 0 (MQ below (mc_Q D kA A none (ce_X13 kA q_this out)) [.ref (q_this 0)].toArray s 0 0 A) (F0 m 103 ls []) := by
    intro k62 hk62 o_this x1 H locs ls hP hD hS hl hf
    unfold ff_X13_lays_b103 at hf
    refine lv_iinc (v := x1 + 1) (lv' := [(1, .int (x1 + 1)), (0, .ref (q_this 0))]) hx hb dX13_lays_103 hl (k := 1) rfl rfl (by decide) rfl (fun ls hl => ?_)
    refine lv_goto (tgt := 62) hx hb dX13_lays_106 (by decide) ?_
    exact hk62 o_this (x1 + 1) _ _ _ hP hD hS (lv_sub hl [1, 0] rfl) hf
  have hL62 : ∀ (n : Nat) (o_this : os_T) (x1 : Int32) (H : Heap) (locs : List Loc) (ls : Array Slot), va_P D vwCl (ce_X13 kA q_this o_this) H → va_D A (ce_X13 kA q_this o_this) → va_S A s.heap H locs → lv_has ls 2 [(0, .ref (q_this 0)), (1, .int x1)] → ff_X13_lays_l62 N n (o_this, x1) = some out → W p l e ({ frames := 2, cells := 0, slots := 0, locals := 49 } : Room) s m [.ref (q_this 0)].toArray below meth c H locs 0 0 (MQ below (mc_Q D kA A none (ce_X13 kA q_this out)) [.ref (q_this 0)].toArray s 0 0 A) (F0 m 62 ls []) := by
    intro n
    induction n with
    | zero => intro o_this x1 H locs ls _ _ _ _ hf; cases hf
    | succ n hk62 =>
      intro o_this x1 H locs ls hP hD hS hl hf
      have hf : ff_X13_lays_c62 N (ff_X13_lays_l62 N n) o_this x1 = some out := hf
      generalize hke : ff_X13_lays_l62 N n = k62 at hk62 hf
      unfold ff_X13_lays_c62 at hf
      refine lv_iload_n hx hb dX13_lays_62 rfl (lv_at hl 1 rfl) ?_
      refine lv_sipush (v := 192) hx hb dX13_lays_63 (by decide) ?_
      refine lv_icmp_ge (tgt := 109) hx hb dX13_lays_66 (by decide) (fun hc_8 => ?_) (fun hc_8 => ?_)
      · rw [if_pos hc_8] at hf
        refine lv_aload_n hx hb dX13_lays_109 rfl (lv_at hl 0 rfl) ?_
        refine lv_iconst (v := 0) hx hb dX13_lays_110 (by decide) ?_
        refine va_put (D := D) (ci := 9) (v := .int (0 : Int32)) (ty := .int) (C := RX13) (T := TX13) (N := 48) hx hb hUX13 (fun _ h9 => h9) tyX13 tyX13_ok nmX13 hown hK hP hD hS 0 rfl rfl 29 (by decide) (hts (Cond.fieldLink RX13 207 "ReliefBuilderModel" "undos" "I") (List.mem_of_getElem? (i := 6) rfl)) (fun _ h9 => h9) rfl (tyX13_ok 29 (by decide)) rfl rfl (Nat.le_of_ble_eq_true rfl) dX13_lays_111 (fun H locs hP hD hS => ?_)
        have hP : va_P D vwCl (ce_X13 kA q_this (ss_I o_this 29 (0 : Int32))) H := hP
        have hD : va_D A (ce_X13 kA q_this (ss_I o_this 29 (0 : Int32))) := hD
        rw [← Option.some.inj hf]
        exact mc_retv hx hb hr hlk hP hK hD hS dX13_lays_114
      · rw [if_neg hc_8] at hf
        refine lv_aload_n hx hb dX13_lays_69 rfl (lv_at hl 0 rfl) ?_
        refine lv_iload_n hx hb dX13_lays_70 rfl (lv_at hl 1 rfl) ?_
        refine lv_bipush (v := 16) hx hb dX13_lays_71 (by decide) ?_
        refine lv_irem hx hb dX13_lays_73 (by decide) ?_
        refine lv_iload_n hx hb dX13_lays_74 rfl (lv_at hl 1 rfl) ?_
        refine lv_bipush (v := 16) hx hb dX13_lays_75 (by decide) ?_
        refine lv_idiv hx hb dX13_lays_77 (by decide) ?_
        obtain ⟨u_9, he_10, hf⟩ := os_bd hf
        refine mc_callV ⟨hx, hb, hml, hown, hts⟩ (mm_X13_isCell l D kA N q_this o_this (x1 - x1 / (16 : Int32) * (16 : Int32)) (x1 / (16 : Int32)) u_9 he_10) (cwV 2 hts gX13_lays_X13_isCell rfl rfl rfl (by decide +kernel) ⟨Nat.le_of_ble_eq_true rfl, Nat.le_of_ble_eq_true rfl⟩) (wc := (ce_X13 kA q_this o_this)) (ci := 9) (q0 := 0) rfl rfl rfl hl.1 (As := [.int (x1 - x1 / (16 : Int32) * (16 : Int32)), .int (x1 / (16 : Int32))]) (rest := []) rfl (Nat.le_of_ble_eq_true rfl) dX13_lays_78 ⟨Nat.le_of_ble_eq_true rfl, Nat.le_of_ble_eq_true rfl⟩ hK hP hD hS hA [0, 1, 2, 3, 4, 5, 6, 7, 8, 9, 10, 11, 12, 13, 14, 15, 16, 17, 18, 19, 20, 21, 22, 23] [] [0, 1, 2, 3, 4, 5, 6, 7, 8, 9, 10, 11, 12, 13, 14, 15, 16, 17, 18, 19, 20, 21, 22, 23] rfl (by decide) rfl (by decide) (by decide) rfl (by decide) (wr := []) (w2 := (ce_X13 kA q_this o_this)) (fun H locs hP hD hS => ?_)
        have hP : va_P D vwCl (ce_X13 kA q_this o_this) H := hP
        refine lv_if_eq (tgt := 103) hx hb dX13_lays_81 (by decide) (fun hc_11 => ?_) (fun hc_11 => ?_)
        · rw [if_pos hc_11] at hf
          exact hB103 k62 hk62 o_this x1 _ _ _ hP hD hS (lv_sub hl [0, 1] rfl) hf
        · rw [if_neg hc_11] at hf
          refine lv_aload_n hx hb dX13_lays_84 rfl (lv_at hl 0 rfl) ?_
          refine va_get (D := D) (ci := 9) (v := .ref (q_this 5)) (C := RX13) (T := TX13) (N := 48) hx hb hUX13 (fun _ h9 => h9) hown hK hP 0 rfl rfl 16 (by decide) (hts (Cond.fieldLink RX13 29 "ReliefBuilderModel" "heights" "[I") (List.mem_of_getElem? (i := 5) rfl)) (fun _ h9 => h9) rfl dX13_lays_85 ?_
          refine lv_iload_n hx hb dX13_lays_88 rfl (lv_at hl 1 rfl) ?_
          refine lv_aload_n hx hb dX13_lays_89 rfl (lv_at hl 0 rfl) ?_
          refine lv_aload_n hx hb dX13_lays_90 rfl (lv_at hl 0 rfl) ?_
          refine va_get (D := D) (ci := 9) (v := .ref (q_this 4)) (C := RX13) (T := TX13) (N := 48) hx hb hUX13 (fun _ h9 => h9) hown hK hP 0 rfl rfl 15 (by decide) (hts (Cond.fieldLink RX13 26 "ReliefBuilderModel" "tones" "[I") (List.mem_of_getElem? (i := 3) rfl)) (fun _ h9 => h9) rfl dX13_lays_91 ?_
          refine lv_iload_n hx hb dX13_lays_94 rfl (lv_at hl 1 rfl) ?_
          obtain ⟨hi_12, hf⟩ := os_if hf
          refine va_iald hx hb hK hP 4 0 rfl rfl hi_12 dX13_lays_95 ?_
          obtain ⟨u_13, he_14, hf⟩ := os_bd hf
          refine mc_callS ⟨hx, hb, hml, hown, hts⟩ (mm_X13_wantedBy l D kA N ((os_A o_this 3) (Int32.toNatClampNeg x1)) u_13 he_14) (va_cwS 1 hts gX13_lays_X13_wantedBy rfl rfl rfl (by decide +kernel) ⟨Nat.le_of_ble_eq_true rfl, Nat.le_of_ble_eq_true rfl⟩) (wc := []) rfl hl.1 (As := [.int ((os_A o_this 3) (Int32.toNatClampNeg x1))]) (rest := [.ref (q_this 0), .int x1, .ref (q_this 5)]) rfl (Nat.le_of_ble_eq_true rfl) dX13_lays_96 ⟨Nat.le_of_ble_eq_true rfl, Nat.le_of_ble_eq_true rfl⟩ hK hP hD hS hA [] [0, 1, 2, 3, 4, 5, 6, 7, 8, 9, 10, 11, 12, 13, 14, 15, 16, 17, 18, 19, 20, 21, 22, 23] [0, 1, 2, 3, 4, 5, 6, 7, 8, 9, 10, 11, 12, 13, 14, 15, 16, 17, 18, 19, 20, 21, 22, 23] rfl (by decide) rfl (by decide) (by decide) rfl (by decide) (wr := (ce_X13 kA q_this o_this)) (w2 := (ce_X13 kA q_this o_this)) (fun H locs hP hD hS => ?_)
          have hP : va_P D vwCl (ce_X13 kA q_this o_this) H := hP
          obtain ⟨u_15, he_16, hf⟩ := os_bd hf
          refine mc_callV ⟨hx, hb, hml, hown, hts⟩ (mm_X13_heightBy l D kA N q_this o_this u_13 u_15 he_16) (cwV 1 hts gX13_lays_X13_heightBy rfl rfl rfl (by decide +kernel) ⟨Nat.le_of_ble_eq_true rfl, Nat.le_of_ble_eq_true rfl⟩) (wc := (ce_X13 kA q_this o_this)) (ci := 9) (q0 := 0) rfl rfl rfl hl.1 (As := [.float u_13]) (rest := [.int x1, .ref (q_this 5)]) rfl (Nat.le_of_ble_eq_true rfl) dX13_lays_99 ⟨Nat.le_of_ble_eq_true rfl, Nat.le_of_ble_eq_true rfl⟩ hK hP hD hS hA [0, 1, 2, 3, 4, 5, 6, 7, 8, 9, 10, 11, 12, 13, 14, 15, 16, 17, 18, 19, 20, 21, 22, 23] [] [0, 1, 2, 3, 4, 5, 6, 7, 8, 9, 10, 11, 12, 13, 14, 15, 16, 17, 18, 19, 20, 21, 22, 23] rfl (by decide) rfl (by decide) (by decide) rfl (by decide) (wr := []) (w2 := (ce_X13 kA q_this o_this)) (fun H locs hP hD hS => ?_)
          have hP : va_P D vwCl (ce_X13 kA q_this o_this) H := hP
          obtain ⟨hi_17, hf⟩ := os_if hf
          refine va_iast hx hb hK hP hD hS 5 0 rfl rfl hi_17 dX13_lays_102 (fun H locs hP hD hS => ?_)
          have hP : va_P D vwCl (ce_X13 kA q_this (ss_A o_this 4 (upd (os_A o_this 4) (Int32.toNatClampNeg x1) u_15))) H := hP
          have hD : va_D A (ce_X13 kA q_this (ss_A o_this 4 (upd (os_A o_this 4) (Int32.toNatClampNeg x1) u_15))) := hD
          exact hB103 k62 hk62 (ss_A o_this 4 (upd (os_A o_this 4) (Int32.toNatClampNeg x1) u_15)) x1 _ _ _ hP hD hS (lv_sub hl [0, 1] rfl) hf
  have hL28 : ∀ (n : Nat) (o_this : os_T) (x1 : Int32) (H : Heap) (locs : List Loc) (ls : Array Slot), va_P D vwCl (ce_X13 kA q_this o_this) H → va_D A (ce_X13 kA q_this o_this) → va_S A s.heap H locs → lv_has ls 2 [(0, .ref (q_this 0)), (1, .int x1)] → ff_X13_lays_l28 N n (o_this, x1) = some out → W p l e ({ frames := 2, cells := 0, slots := 0, locals := 49 } : Room) s m [.ref (q_this 0)].toArray below meth c H locs 0 0 (MQ below (mc_Q D kA A none (ce_X13 kA q_this out)) [.ref (q_this 0)].toArray s 0 0 A) (F0 m 28 ls []) := by
    intro n
    induction n with
    | zero => intro o_this x1 H locs ls _ _ _ _ hf; cases hf
    | succ n hk28 =>
      intro o_this x1 H locs ls hP hD hS hl hf
      have hf : ff_X13_lays_c28 N (ff_X13_lays_l28 N n) o_this x1 = some out := hf
      generalize hke : ff_X13_lays_l28 N n = k28 at hk28 hf
      unfold ff_X13_lays_c28 at hf
      refine lv_iload_n hx hb dX13_lays_28 rfl (lv_at hl 1 rfl) ?_
      refine lv_sipush (v := 192) hx hb dX13_lays_29 (by decide) ?_
      refine lv_icmp_ge (tgt := 60) hx hb dX13_lays_32 (by decide) (fun hc_4 => ?_) (fun hc_4 => ?_)
      · rw [if_pos hc_4] at hf
        refine lv_iconst (v := 0) hx hb dX13_lays_60 (by decide) ?_
        refine lv_istore_n (lv' := [(1, .int (0 : Int32)), (0, .ref (q_this 0))]) hx hb dX13_lays_61 rfl hl (by decide) rfl (fun ls hl => ?_)
        exact hL62 N o_this (0 : Int32) _ _ _ hP hD hS (lv_sub hl [1, 0] rfl) hf
      · rw [if_neg hc_4] at hf
        refine lv_aload_n hx hb dX13_lays_35 rfl (lv_at hl 0 rfl) ?_
        refine va_get (D := D) (ci := 9) (v := .ref (q_this 4)) (C := RX13) (T := TX13) (N := 48) hx hb hUX13 (fun _ h9 => h9) hown hK hP 0 rfl rfl 15 (by decide) (hts (Cond.fieldLink RX13 26 "ReliefBuilderModel" "tones" "[I") (List.mem_of_getElem? (i := 3) rfl)) (fun _ h9 => h9) rfl dX13_lays_36 ?_
        refine lv_iload_n hx hb dX13_lays_39 rfl (lv_at hl 1 rfl) ?_
        refine lv_aload_n hx hb dX13_lays_40 rfl (lv_at hl 0 rfl) ?_
        refine va_get (D := D) (ci := 9) (v := .ref (q_this 6)) (C := RX13) (T := TX13) (N := 48) hx hb hUX13 (fun _ h9 => h9) hown hK hP 0 rfl rfl 17 (by decide) (hts (Cond.fieldLink RX13 32 "ReliefBuilderModel" "readTones" "[I") (List.mem_of_getElem? (i := 4) rfl)) (fun _ h9 => h9) rfl dX13_lays_41 ?_
        refine lv_iload_n hx hb dX13_lays_44 rfl (lv_at hl 1 rfl) ?_
        obtain ⟨hi_5, hf⟩ := os_if hf
        refine va_iald hx hb hK hP 6 0 rfl rfl hi_5 dX13_lays_45 ?_
        obtain ⟨hi_6, hf⟩ := os_if hf
        refine va_iast hx hb hK hP hD hS 4 0 rfl rfl hi_6 dX13_lays_46 (fun H locs hP hD hS => ?_)
        have hP : va_P D vwCl (ce_X13 kA q_this (ss_A o_this 3 (upd (os_A o_this 3) (Int32.toNatClampNeg x1) ((os_A o_this 5) (Int32.toNatClampNeg x1))))) H := hP
        have hD : va_D A (ce_X13 kA q_this (ss_A o_this 3 (upd (os_A o_this 3) (Int32.toNatClampNeg x1) ((os_A o_this 5) (Int32.toNatClampNeg x1))))) := hD
        refine lv_aload_n hx hb dX13_lays_47 rfl (lv_at hl 0 rfl) ?_
        refine va_get (D := D) (ci := 9) (v := .ref (q_this 5)) (C := RX13) (T := TX13) (N := 48) hx hb hUX13 (fun _ h9 => h9) hown hK hP 0 rfl rfl 16 (by decide) (hts (Cond.fieldLink RX13 29 "ReliefBuilderModel" "heights" "[I") (List.mem_of_getElem? (i := 5) rfl)) (fun _ h9 => h9) rfl dX13_lays_48 ?_
        refine lv_iload_n hx hb dX13_lays_51 rfl (lv_at hl 1 rfl) ?_
        refine lv_iconst (v := 0) hx hb dX13_lays_52 (by decide) ?_
        obtain ⟨hi_7, hf⟩ := os_if hf
        refine va_iast hx hb hK hP hD hS 5 0 rfl rfl hi_7 dX13_lays_53 (fun H locs hP hD hS => ?_)
        have hE9 : ∀ (y0 : Nat → Int32) (z9 : Nat → Int32), ((ce_X13 kA q_this (ss_A o_this 3 y0)) : va_W).set 5 (q_this 5, .inl (kA 0, 192, .inl z9)) = (ce_X13 kA q_this (ss_A (ss_A o_this 3 y0) 4 z9)) := fun _ _ => rfl
        have hP : va_P D vwCl (ce_X13 kA q_this (ss_A (ss_A o_this 3 (upd (os_A o_this 3) (Int32.toNatClampNeg x1) ((os_A o_this 5) (Int32.toNatClampNeg x1)))) 4 (upd (os_A o_this 4) (Int32.toNatClampNeg x1) (0 : Int32)))) H := Eq.mp (congrArg (fun w9 => va_P D vwCl w9 H) (hE9 (upd (os_A o_this 3) (Int32.toNatClampNeg x1) ((os_A o_this 5) (Int32.toNatClampNeg x1))) _)) hP
        have hD : va_D A (ce_X13 kA q_this (ss_A (ss_A o_this 3 (upd (os_A o_this 3) (Int32.toNatClampNeg x1) ((os_A o_this 5) (Int32.toNatClampNeg x1)))) 4 (upd (os_A o_this 4) (Int32.toNatClampNeg x1) (0 : Int32)))) := Eq.mp (congrArg (fun w9 => va_D A w9) (hE9 (upd (os_A o_this 3) (Int32.toNatClampNeg x1) ((os_A o_this 5) (Int32.toNatClampNeg x1))) _)) hD
        refine lv_iinc (v := x1 + 1) (lv' := [(1, .int (x1 + 1)), (0, .ref (q_this 0))]) hx hb dX13_lays_54 hl (k := 1) rfl rfl (by decide) rfl (fun ls hl => ?_)
        refine lv_goto (tgt := 28) hx hb dX13_lays_57 (by decide) ?_
        exact hk28 (ss_A (ss_A o_this 3 (upd (os_A o_this 3) (Int32.toNatClampNeg x1) ((os_A o_this 5) (Int32.toNatClampNeg x1)))) 4 (upd (os_A o_this 4) (Int32.toNatClampNeg x1) (0 : Int32))) (x1 + 1) _ _ _ hP hD hS (lv_sub hl [1, 0] rfl) hf
  have hL2 : ∀ (n : Nat) (o_this : os_T) (x1 : Int32) (H : Heap) (locs : List Loc) (ls : Array Slot), va_P D vwCl (ce_X13 kA q_this o_this) H → va_D A (ce_X13 kA q_this o_this) → va_S A s.heap H locs → lv_has ls 2 [(0, .ref (q_this 0)), (1, .int x1)] → ff_X13_lays_l2 N n (o_this, x1) = some out → W p l e ({ frames := 2, cells := 0, slots := 0, locals := 49 } : Room) s m [.ref (q_this 0)].toArray below meth c H locs 0 0 (MQ below (mc_Q D kA A none (ce_X13 kA q_this out)) [.ref (q_this 0)].toArray s 0 0 A) (F0 m 2 ls []) := by
    intro n
    induction n with
    | zero => intro o_this x1 H locs ls _ _ _ _ hf; cases hf
    | succ n hk2 =>
      intro o_this x1 H locs ls hP hD hS hl hf
      have hf : ff_X13_lays_c2 N (ff_X13_lays_l2 N n) o_this x1 = some out := hf
      generalize hke : ff_X13_lays_l2 N n = k2 at hk2 hf
      unfold ff_X13_lays_c2 at hf
      refine lv_iload_n hx hb dX13_lays_2 rfl (lv_at hl 1 rfl) ?_
      refine lv_bipush (v := 7) hx hb dX13_lays_3 (by decide) ?_
      refine lv_icmp_ge (tgt := 26) hx hb dX13_lays_5 (by decide) (fun hc_1 => ?_) (fun hc_1 => ?_)
      · rw [if_pos hc_1] at hf
        refine lv_iconst (v := 0) hx hb dX13_lays_26 (by decide) ?_
        refine lv_istore_n (lv' := [(1, .int (0 : Int32)), (0, .ref (q_this 0))]) hx hb dX13_lays_27 rfl hl (by decide) rfl (fun ls hl => ?_)
        exact hL28 N o_this (0 : Int32) _ _ _ hP hD hS (lv_sub hl [1, 0] rfl) hf
      · rw [if_neg hc_1] at hf
        refine lv_aload_n hx hb dX13_lays_8 rfl (lv_at hl 0 rfl) ?_
        refine va_get (D := D) (ci := 9) (v := .ref (q_this 2)) (C := RX13) (T := TX13) (N := 48) hx hb hUX13 (fun _ h9 => h9) hown hK hP 0 rfl rfl 13 (by decide) (hts (Cond.fieldLink RX13 20 "ReliefBuilderModel" "now" "[I") (List.mem_of_getElem? (i := 1) rfl)) (fun _ h9 => h9) rfl dX13_lays_9 ?_
        refine lv_iload_n hx hb dX13_lays_12 rfl (lv_at hl 1 rfl) ?_
        refine lv_aload_n hx hb dX13_lays_13 rfl (lv_at hl 0 rfl) ?_
        refine va_get (D := D) (ci := 9) (v := .ref (q_this 3)) (C := RX13) (T := TX13) (N := 48) hx hb hUX13 (fun _ h9 => h9) hown hK hP 0 rfl rfl 14 (by decide) (hts (Cond.fieldLink RX13 23 "ReliefBuilderModel" "read" "[I") (List.mem_of_getElem? (i := 2) rfl)) (fun _ h9 => h9) rfl dX13_lays_14 ?_
        refine lv_iload_n hx hb dX13_lays_17 rfl (lv_at hl 1 rfl) ?_
        obtain ⟨hi_2, hf⟩ := os_if hf
        refine va_iald hx hb hK hP 3 0 rfl rfl hi_2 dX13_lays_18 ?_
        obtain ⟨hi_3, hf⟩ := os_if hf
        refine va_iast hx hb hK hP hD hS 2 0 rfl rfl hi_3 dX13_lays_19 (fun H locs hP hD hS => ?_)
        have hP : va_P D vwCl (ce_X13 kA q_this (ss_A o_this 1 (upd (os_A o_this 1) (Int32.toNatClampNeg x1) ((os_A o_this 2) (Int32.toNatClampNeg x1))))) H := hP
        have hD : va_D A (ce_X13 kA q_this (ss_A o_this 1 (upd (os_A o_this 1) (Int32.toNatClampNeg x1) ((os_A o_this 2) (Int32.toNatClampNeg x1))))) := hD
        refine lv_iinc (v := x1 + 1) (lv' := [(1, .int (x1 + 1)), (0, .ref (q_this 0))]) hx hb dX13_lays_20 hl (k := 1) rfl rfl (by decide) rfl (fun ls hl => ?_)
        refine lv_goto (tgt := 2) hx hb dX13_lays_23 (by decide) ?_
        exact hk2 (ss_A o_this 1 (upd (os_A o_this 1) (Int32.toNatClampNeg x1) ((os_A o_this 2) (Int32.toNatClampNeg x1)))) (x1 + 1) _ _ _ hP hD hS (lv_sub hl [1, 0] rfl) hf
  unfold ff_X13_lays at hf
  refine lv_iconst (v := 0) hx hb dX13_lays_0 (by decide) ?_
  refine lv_istore_n (lv' := [(1, .int (0 : Int32)), (0, .ref (q_this 0))]) hx hb dX13_lays_1 rfl hl (by decide) rfl (fun ls hl => ?_)
  exact hL2 N o_this (0 : Int32) _ _ _ hP hD hS (lv_sub hl [1, 0] rfl) hf
def ff_X13_once_b9 (N : Nat) (o_this : os_T) : Option (Int32 × os_T) :=
  ((ff_X13_isGood N o_this).bind fun u_4 => (if u_4 = 0 then some ((1 : Int32), o_this) else ((ff_X13_goOn N o_this).bind fun u_7 => some ((1 : Int32), u_7))))
def ff_X13_once (N : Nat) (o_this : os_T) (a1 : Int32) : Option (Int32 × os_T) :=
  (if a1 = 0 then ff_X13_once_b9 N o_this else ((ff_X13_wrong N o_this (3 : Int32)).bind fun u_2 => ff_X13_once_b9 N u_2))
set_option maxHeartbeats 4000000 in
set_option maxRecDepth 100000 in
theorem mm_X13_once (l : Launch) (D : va_G) (kA : Nat → ClassId) (N : Nat) (q_this : Nat → Nat) (o_this : os_T) (a1 : Int32) (out : (Int32 × os_T)) (hf : ff_X13_once N o_this a1 = some out) : mc_C l D kA yX13_once wsX13_once ({ frames := 2, cells := 0, slots := 0, locals := 43 } : Room) [.ref (q_this 0), .int a1] (ce_X13 kA q_this o_this) (some (.int out.1)) (ce_X13 kA q_this out.2) := by
  refine mc_of (cc := cX13_once) (maxL := 2) (ret := (some .boolean)) (by decide) rfl (Nat.le_of_ble_eq_true rfl) ?_
  intro p e s m below meth c A B hD hP hS ls hl
  obtain ⟨hx, hb, hr, hlk, hml, hown, hts, hK, hA, hnm⟩ := B
  have hown : s.vm.findClass RX13 = some m.cls := hown
  have hl : lv_has ls 2 [(0, .ref (q_this 0)), (1, .int a1)] := hl
  have hB9 : ∀ (o_this : os_T) (H : Heap) (locs : List Loc) (ls : Array Slot), va_P D vwCl (ce_X13 kA q_this o_this) H → va_D A (ce_X13 kA q_this o_this) → va_S A s.heap H locs → lv_has ls 2 [(0, .ref (q_this 0))] → ff_X13_once_b9 N o_this = some out → W p l e ({ frames := 2, cells := 0, slots := 0, locals := 43 } : Room) s m [.ref (q_this 0), .int a1].toArray below meth c H locs 0 0 (MQ below (mc_Q D kA A (some (.int out.1)) (ce_X13 kA q_this out.2)) [.ref (q_this 0), .int a1].toArray s 0 0 A) (F0 m 9 ls []) := by
    intro o_this H locs ls hP hD hS hl hf
    unfold ff_X13_once_b9 at hf
    refine lv_aload_n hx hb dX13_once_9 rfl (lv_at hl 0 rfl) ?_
    obtain ⟨u_4, he_5, hf⟩ := os_bd hf
    refine mc_callV ⟨hx, hb, hml, hown, hts⟩ (mm_X13_isGood l D kA N q_this o_this u_4 he_5) (cwV 0 hts gX13_once_X13_isGood rfl rfl rfl (by decide +kernel) ⟨Nat.le_of_ble_eq_true rfl, Nat.le_of_ble_eq_true rfl⟩) (wc := (ce_X13 kA q_this o_this)) (ci := 9) (q0 := 0) rfl rfl rfl hl.1 (As := []) (rest := []) rfl (Nat.le_of_ble_eq_true rfl) dX13_once_10 ⟨Nat.le_of_ble_eq_true rfl, Nat.le_of_ble_eq_true rfl⟩ hK hP hD hS hA [0, 1, 2, 3, 4, 5, 6, 7, 8, 9, 10, 11, 12, 13, 14, 15, 16, 17, 18, 19, 20, 21, 22, 23] [] [0, 1, 2, 3, 4, 5, 6, 7, 8, 9, 10, 11, 12, 13, 14, 15, 16, 17, 18, 19, 20, 21, 22, 23] rfl (by decide) rfl (by decide) (by decide) rfl (by decide) (wr := []) (w2 := (ce_X13 kA q_this o_this)) (fun H locs hP hD hS => ?_)
    have hP : va_P D vwCl (ce_X13 kA q_this o_this) H := hP
    refine lv_if_eq (tgt := 20) hx hb dX13_once_13 (by decide) (fun hc_6 => ?_) (fun hc_6 => ?_)
    · rw [if_pos hc_6] at hf
      refine lv_iconst (v := 1) hx hb dX13_once_20 (by decide) ?_
      rw [← Option.some.inj hf]
      exact mc_retz (v := 1) hx hb hr rfl hlk hP hK hD hS dX13_once_21
    · rw [if_neg hc_6] at hf
      refine lv_aload_n hx hb dX13_once_16 rfl (lv_at hl 0 rfl) ?_
      obtain ⟨u_7, he_8, hf⟩ := os_bd hf
      refine mc_callV ⟨hx, hb, hml, hown, hts⟩ (mm_X13_goOn l D kA N q_this o_this u_7 he_8) (cwV 0 hts gX13_once_X13_goOn rfl rfl rfl (by decide +kernel) ⟨Nat.le_of_ble_eq_true rfl, Nat.le_of_ble_eq_true rfl⟩) (wc := (ce_X13 kA q_this o_this)) (ci := 9) (q0 := 0) rfl rfl rfl hl.1 (As := []) (rest := []) rfl (Nat.le_of_ble_eq_true rfl) dX13_once_17 ⟨Nat.le_of_ble_eq_true rfl, Nat.le_of_ble_eq_true rfl⟩ hK hP hD hS hA [0, 1, 2, 3, 4, 5, 6, 7, 8, 9, 10, 11, 12, 13, 14, 15, 16, 17, 18, 19, 20, 21, 22, 23] [] [0, 1, 2, 3, 4, 5, 6, 7, 8, 9, 10, 11, 12, 13, 14, 15, 16, 17, 18, 19, 20, 21, 22, 23] rfl (by decide) rfl (by decide) (by decide) rfl (by decide) (wr := []) (w2 := (ce_X13 kA q_this u_7)) (fun H locs hP hD hS => ?_)
      have hP : va_P D vwCl (ce_X13 kA q_this u_7) H := hP
      refine lv_iconst (v := 1) hx hb dX13_once_20 (by decide) ?_
      rw [← Option.some.inj hf]
      exact mc_retz (v := 1) hx hb hr rfl hlk hP hK hD hS dX13_once_21
  unfold ff_X13_once at hf
  refine lv_iload_n hx hb dX13_once_0 rfl (lv_at hl 1 rfl) ?_
  refine lv_if_eq (tgt := 9) hx hb dX13_once_1 (by decide) (fun hc_1 => ?_) (fun hc_1 => ?_)
  · rw [if_pos hc_1] at hf
    exact hB9 o_this _ _ _ hP hD hS (lv_sub hl [0] rfl) hf
  · rw [if_neg hc_1] at hf
    refine lv_aload_n hx hb dX13_once_4 rfl (lv_at hl 0 rfl) ?_
    refine lv_iconst (v := 3) hx hb dX13_once_5 (by decide) ?_
    obtain ⟨u_2, he_3, hf⟩ := os_bd hf
    refine mc_callV ⟨hx, hb, hml, hown, hts⟩ (mm_X13_wrong l D kA N q_this o_this (3 : Int32) u_2 he_3) (cwV 1 hts gX13_once_X13_wrong rfl rfl rfl (by decide +kernel) ⟨Nat.le_of_ble_eq_true rfl, Nat.le_of_ble_eq_true rfl⟩) (wc := (ce_X13 kA q_this o_this)) (ci := 9) (q0 := 0) rfl rfl rfl hl.1 (As := [.int (3 : Int32)]) (rest := []) rfl (Nat.le_of_ble_eq_true rfl) dX13_once_6 ⟨Nat.le_of_ble_eq_true rfl, Nat.le_of_ble_eq_true rfl⟩ hK hP hD hS hA [0, 1, 2, 3, 4, 5, 6, 7, 8, 9, 10, 11, 12, 13, 14, 15, 16, 17, 18, 19, 20, 21, 22, 23] [] [0, 1, 2, 3, 4, 5, 6, 7, 8, 9, 10, 11, 12, 13, 14, 15, 16, 17, 18, 19, 20, 21, 22, 23] rfl (by decide) rfl (by decide) (by decide) rfl (by decide) (wr := []) (w2 := (ce_X13 kA q_this u_2)) (fun H locs hP hD hS => ?_)
    have hP : va_P D vwCl (ce_X13 kA q_this u_2) H := hP
    exact hB9 u_2 _ _ _ hP hD hS (lv_sub hl [0] rfl) hf
def ff_X13_readsRow_c31 (N : Nat) (k31 : (os_T × Int32) → Option os_T) (o_this : os_T) (x1 : Int32) : Option os_T :=
  (if os_in (0 : Int32) 7 then (if ((os_A o_this 2) (Int32.toNatClampNeg (0 : Int32))) ≤ x1 then some (ss_I o_this 22 ((os_I o_this 22) + (1 : Int32))) else ((ff_X13_less N (os_I o_this 22) (11 : Int32)).bind fun u_12 => ((ff_X13_number N o_this (0 : Int32) (255 : Int32)).bind fun u_14 => (if os_in (((16 : Int32) * u_12) + x1) 192 then k31 (ss_A u_14.2 5 (upd (os_A u_14.2 5) (Int32.toNatClampNeg (((16 : Int32) * u_12) + x1)) u_14.1), x1 + 1) else none)))) else none)
def ff_X13_readsRow_l31 (N : Nat) : Nat → (os_T × Int32) → Option os_T := os_loop (fun k31 s1 => ff_X13_readsRow_c31 N k31 s1.1 s1.2)
def ff_X13_readsRow_b29 (N : Nat) (o_this : os_T) : Option os_T :=
  ff_X13_readsRow_l31 N N (o_this, (0 : Int32))
def ff_X13_readsRow_b18 (N : Nat) (o_this : os_T) : Option os_T :=
  ((ff_X13_isGood N o_this).bind fun u_5 => (if u_5 = 0 then ff_X13_readsRow_b29 N o_this else ((ff_X13_goOn N o_this).bind fun u_8 => ff_X13_readsRow_b29 N u_8)))
def ff_X13_readsRow (N : Nat) (o_this : os_T) : Option os_T :=
  (if os_in (1 : Int32) 7 then (if (os_I o_this 22) = ((os_A o_this 2) (Int32.toNatClampNeg (1 : Int32))) then ((ff_X13_wrong N o_this (5 : Int32)).bind fun u_3 => ff_X13_readsRow_b18 N u_3) else ff_X13_readsRow_b18 N o_this) else none)
set_option maxHeartbeats 4000000 in
set_option maxRecDepth 100000 in
theorem mm_X13_readsRow (l : Launch) (D : va_G) (kA : Nat → ClassId) (N : Nat) (q_this : Nat → Nat) (o_this : os_T) (out : os_T) (hf : ff_X13_readsRow N o_this = some out) : mc_C l D kA yX13_readsRow wsX13_readsRow ({ frames := 3, cells := 0, slots := 0, locals := 66 } : Room) [.ref (q_this 0)] (ce_X13 kA q_this o_this) none (ce_X13 kA q_this out) := by
  refine mc_of (cc := cX13_readsRow) (maxL := 2) (ret := none) (by decide) rfl (Nat.le_of_ble_eq_true rfl) ?_
  intro p e s m below meth c A B hD hP hS ls hl
  obtain ⟨hx, hb, hr, hlk, hml, hown, hts, hK, hA, hnm⟩ := B
  have hown : s.vm.findClass RX13 = some m.cls := hown
  have hl : lv_has ls 2 [(0, .ref (q_this 0))] := hl
  have hUX13 : ∀ w ∈ u_ws RX13 TX13 48, w.before [.ref (q_this 0)].toArray s = true := fun w h => hts w (List.mem_cons_of_mem _ (List.mem_append_right _ h))
  have hL31 : ∀ (n : Nat) (o_this : os_T) (x1 : Int32) (H : Heap) (locs : List Loc) (ls : Array Slot), va_P D vwCl (ce_X13 kA q_this o_this) H → va_D A (ce_X13 kA q_this o_this) → va_S A s.heap H locs → lv_has ls 2 [(0, .ref (q_this 0)), (1, .int x1)] → ff_X13_readsRow_l31 N n (o_this, x1) = some out → W p l e ({ frames := 3, cells := 0, slots := 0, locals := 66 } : Room) s m [.ref (q_this 0)].toArray below meth c H locs 0 0 (MQ below (mc_Q D kA A none (ce_X13 kA q_this out)) [.ref (q_this 0)].toArray s 0 0 A) (F0 m 31 ls []) := by
    intro n
    induction n with
    | zero => intro o_this x1 H locs ls _ _ _ _ hf; cases hf
    | succ n hk31 =>
      intro o_this x1 H locs ls hP hD hS hl hf
      have hf : ff_X13_readsRow_c31 N (ff_X13_readsRow_l31 N n) o_this x1 = some out := hf
      generalize hke : ff_X13_readsRow_l31 N n = k31 at hk31 hf
      unfold ff_X13_readsRow_c31 at hf
      refine lv_iload_n hx hb dX13_readsRow_31 rfl (lv_at hl 1 rfl) ?_
      refine lv_aload_n hx hb dX13_readsRow_32 rfl (lv_at hl 0 rfl) ?_
      refine va_get (D := D) (ci := 9) (v := .ref (q_this 3)) (C := RX13) (T := TX13) (N := 48) hx hb hUX13 (fun _ h9 => h9) hown hK hP 0 rfl rfl 14 (by decide) (hts (Cond.fieldLink RX13 23 "ReliefBuilderModel" "read" "[I") (List.mem_of_getElem? (i := 2) rfl)) (fun _ h9 => h9) rfl dX13_readsRow_33 ?_
      refine lv_iconst (v := 0) hx hb dX13_readsRow_36 (by decide) ?_
      obtain ⟨hi_10, hf⟩ := os_if hf
      refine va_iald hx hb hK hP 3 0 rfl rfl hi_10 dX13_readsRow_37 ?_
      refine lv_icmp_ge (tgt := 74) hx hb dX13_readsRow_38 (by decide) (fun hc_11 => ?_) (fun hc_11 => ?_)
      · rw [if_pos hc_11] at hf
        refine lv_aload_n hx hb dX13_readsRow_74 rfl (lv_at hl 0 rfl) ?_
        refine lv_dup hx hb dX13_readsRow_75 rfl ?_
        refine va_get (D := D) (ci := 9) (v := .int (os_I o_this 22)) (C := RX13) (T := TX13) (N := 48) hx hb hUX13 (fun _ h9 => h9) hown hK hP 0 rfl rfl 22 (by decide) (hts (Cond.fieldLink RX13 189 "ReliefBuilderModel" "rows" "I") (List.mem_of_getElem? (i := 1) rfl)) (fun _ h9 => h9) rfl dX13_readsRow_76 ?_
        refine lv_iconst (v := 1) hx hb dX13_readsRow_79 (by decide) ?_
        refine lv_iadd hx hb dX13_readsRow_80 ?_
        refine va_put (D := D) (ci := 9) (v := .int ((os_I o_this 22) + (1 : Int32))) (ty := .int) (C := RX13) (T := TX13) (N := 48) hx hb hUX13 (fun _ h9 => h9) tyX13 tyX13_ok nmX13 hown hK hP hD hS 0 rfl rfl 22 (by decide) (hts (Cond.fieldLink RX13 189 "ReliefBuilderModel" "rows" "I") (List.mem_of_getElem? (i := 1) rfl)) (fun _ h9 => h9) rfl (tyX13_ok 22 (by decide)) rfl rfl (Nat.le_of_ble_eq_true rfl) dX13_readsRow_81 (fun H locs hP hD hS => ?_)
        have hP : va_P D vwCl (ce_X13 kA q_this (ss_I o_this 22 ((os_I o_this 22) + (1 : Int32)))) H := hP
        have hD : va_D A (ce_X13 kA q_this (ss_I o_this 22 ((os_I o_this 22) + (1 : Int32)))) := hD
        rw [← Option.some.inj hf]
        exact mc_retv hx hb hr hlk hP hK hD hS dX13_readsRow_84
      · rw [if_neg hc_11] at hf
        refine lv_aload_n hx hb dX13_readsRow_41 rfl (lv_at hl 0 rfl) ?_
        refine va_get (D := D) (ci := 9) (v := .ref (q_this 6)) (C := RX13) (T := TX13) (N := 48) hx hb hUX13 (fun _ h9 => h9) hown hK hP 0 rfl rfl 17 (by decide) (hts (Cond.fieldLink RX13 32 "ReliefBuilderModel" "readTones" "[I") (List.mem_of_getElem? (i := 3) rfl)) (fun _ h9 => h9) rfl dX13_readsRow_42 ?_
        refine lv_bipush (v := 16) hx hb dX13_readsRow_45 (by decide) ?_
        refine lv_aload_n hx hb dX13_readsRow_47 rfl (lv_at hl 0 rfl) ?_
        refine va_get (D := D) (ci := 9) (v := .int (os_I o_this 22)) (C := RX13) (T := TX13) (N := 48) hx hb hUX13 (fun _ h9 => h9) hown hK hP 0 rfl rfl 22 (by decide) (hts (Cond.fieldLink RX13 189 "ReliefBuilderModel" "rows" "I") (List.mem_of_getElem? (i := 1) rfl)) (fun _ h9 => h9) rfl dX13_readsRow_48 ?_
        refine lv_bipush (v := 11) hx hb dX13_readsRow_51 (by decide) ?_
        obtain ⟨u_12, he_13, hf⟩ := os_bd hf
        refine mc_callS ⟨hx, hb, hml, hown, hts⟩ (mm_X13_less l D kA N (os_I o_this 22) (11 : Int32) u_12 he_13) (va_cwS 2 hts gX13_readsRow_X13_less rfl rfl rfl (by decide +kernel) ⟨Nat.le_of_ble_eq_true rfl, Nat.le_of_ble_eq_true rfl⟩) (wc := []) rfl hl.1 (As := [.int (os_I o_this 22), .int (11 : Int32)]) (rest := [.int (16 : Int32), .ref (q_this 6)]) rfl (Nat.le_of_ble_eq_true rfl) dX13_readsRow_53 ⟨Nat.le_of_ble_eq_true rfl, Nat.le_of_ble_eq_true rfl⟩ hK hP hD hS hA [] [0, 1, 2, 3, 4, 5, 6, 7, 8, 9, 10, 11, 12, 13, 14, 15, 16, 17, 18, 19, 20, 21, 22, 23] [0, 1, 2, 3, 4, 5, 6, 7, 8, 9, 10, 11, 12, 13, 14, 15, 16, 17, 18, 19, 20, 21, 22, 23] rfl (by decide) rfl (by decide) (by decide) rfl (by decide) (wr := (ce_X13 kA q_this o_this)) (w2 := (ce_X13 kA q_this o_this)) (fun H locs hP hD hS => ?_)
        have hP : va_P D vwCl (ce_X13 kA q_this o_this) H := hP
        refine lv_imul hx hb dX13_readsRow_56 ?_
        refine lv_iload_n hx hb dX13_readsRow_57 rfl (lv_at hl 1 rfl) ?_
        refine lv_iadd hx hb dX13_readsRow_58 ?_
        refine lv_aload_n hx hb dX13_readsRow_59 rfl (lv_at hl 0 rfl) ?_
        refine lv_iconst (v := 0) hx hb dX13_readsRow_60 (by decide) ?_
        refine lv_sipush (v := 255) hx hb dX13_readsRow_61 (by decide) ?_
        obtain ⟨u_14, he_15, hf⟩ := os_bd hf
        refine mc_callV ⟨hx, hb, hml, hown, hts⟩ (mm_X13_number l D kA N q_this o_this (0 : Int32) (255 : Int32) u_14 he_15) (cwV 2 hts gX13_readsRow_X13_number rfl rfl rfl (by decide +kernel) ⟨Nat.le_of_ble_eq_true rfl, Nat.le_of_ble_eq_true rfl⟩) (wc := (ce_X13 kA q_this o_this)) (ci := 9) (q0 := 0) rfl rfl rfl hl.1 (As := [.int (0 : Int32), .int (255 : Int32)]) (rest := [.int (((16 : Int32) * u_12) + x1), .ref (q_this 6)]) rfl (Nat.le_of_ble_eq_true rfl) dX13_readsRow_64 ⟨Nat.le_of_ble_eq_true rfl, Nat.le_of_ble_eq_true rfl⟩ hK hP hD hS hA [0, 1, 2, 3, 4, 5, 6, 7, 8, 9, 10, 11, 12, 13, 14, 15, 16, 17, 18, 19, 20, 21, 22, 23] [] [0, 1, 2, 3, 4, 5, 6, 7, 8, 9, 10, 11, 12, 13, 14, 15, 16, 17, 18, 19, 20, 21, 22, 23] rfl (by decide) rfl (by decide) (by decide) rfl (by decide) (wr := []) (w2 := (ce_X13 kA q_this u_14.2)) (fun H locs hP hD hS => ?_)
        have hP : va_P D vwCl (ce_X13 kA q_this u_14.2) H := hP
        obtain ⟨hi_16, hf⟩ := os_if hf
        refine va_iast hx hb hK hP hD hS 6 0 rfl rfl hi_16 dX13_readsRow_67 (fun H locs hP hD hS => ?_)
        have hP : va_P D vwCl (ce_X13 kA q_this (ss_A u_14.2 5 (upd (os_A u_14.2 5) (Int32.toNatClampNeg (((16 : Int32) * u_12) + x1)) u_14.1))) H := hP
        have hD : va_D A (ce_X13 kA q_this (ss_A u_14.2 5 (upd (os_A u_14.2 5) (Int32.toNatClampNeg (((16 : Int32) * u_12) + x1)) u_14.1))) := hD
        refine lv_iinc (v := x1 + 1) (lv' := [(1, .int (x1 + 1)), (0, .ref (q_this 0))]) hx hb dX13_readsRow_68 hl (k := 1) rfl rfl (by decide) rfl (fun ls hl => ?_)
        refine lv_goto (tgt := 31) hx hb dX13_readsRow_71 (by decide) ?_
        exact hk31 (ss_A u_14.2 5 (upd (os_A u_14.2 5) (Int32.toNatClampNeg (((16 : Int32) * u_12) + x1)) u_14.1)) (x1 + 1) _ _ _ hP hD hS (lv_sub hl [1, 0] rfl) hf
  have hB29 : ∀ (o_this : os_T) (H : Heap) (locs : List Loc) (ls : Array Slot), va_P D vwCl (ce_X13 kA q_this o_this) H → va_D A (ce_X13 kA q_this o_this) → va_S A s.heap H locs → lv_has ls 2 [(0, .ref (q_this 0))] → ff_X13_readsRow_b29 N o_this = some out → W p l e ({ frames := 3, cells := 0, slots := 0, locals := 66 } : Room) s m [.ref (q_this 0)].toArray below meth c H locs 0 0 (MQ below (mc_Q D kA A none (ce_X13 kA q_this out)) [.ref (q_this 0)].toArray s 0 0 A) (F0 m 29 ls []) := by
    intro o_this H locs ls hP hD hS hl hf
    unfold ff_X13_readsRow_b29 at hf
    refine lv_iconst (v := 0) hx hb dX13_readsRow_29 (by decide) ?_
    refine lv_istore_n (lv' := [(1, .int (0 : Int32)), (0, .ref (q_this 0))]) hx hb dX13_readsRow_30 rfl hl (by decide) rfl (fun ls hl => ?_)
    exact hL31 N o_this (0 : Int32) _ _ _ hP hD hS (lv_sub hl [1, 0] rfl) hf
  have hB18 : ∀ (o_this : os_T) (H : Heap) (locs : List Loc) (ls : Array Slot), va_P D vwCl (ce_X13 kA q_this o_this) H → va_D A (ce_X13 kA q_this o_this) → va_S A s.heap H locs → lv_has ls 2 [(0, .ref (q_this 0))] → ff_X13_readsRow_b18 N o_this = some out → W p l e ({ frames := 3, cells := 0, slots := 0, locals := 66 } : Room) s m [.ref (q_this 0)].toArray below meth c H locs 0 0 (MQ below (mc_Q D kA A none (ce_X13 kA q_this out)) [.ref (q_this 0)].toArray s 0 0 A) (F0 m 18 ls []) := by
    intro o_this H locs ls hP hD hS hl hf
    unfold ff_X13_readsRow_b18 at hf
    refine lv_aload_n hx hb dX13_readsRow_18 rfl (lv_at hl 0 rfl) ?_
    obtain ⟨u_5, he_6, hf⟩ := os_bd hf
    refine mc_callV ⟨hx, hb, hml, hown, hts⟩ (mm_X13_isGood l D kA N q_this o_this u_5 he_6) (cwV 0 hts gX13_readsRow_X13_isGood rfl rfl rfl (by decide +kernel) ⟨Nat.le_of_ble_eq_true rfl, Nat.le_of_ble_eq_true rfl⟩) (wc := (ce_X13 kA q_this o_this)) (ci := 9) (q0 := 0) rfl rfl rfl hl.1 (As := []) (rest := []) rfl (Nat.le_of_ble_eq_true rfl) dX13_readsRow_19 ⟨Nat.le_of_ble_eq_true rfl, Nat.le_of_ble_eq_true rfl⟩ hK hP hD hS hA [0, 1, 2, 3, 4, 5, 6, 7, 8, 9, 10, 11, 12, 13, 14, 15, 16, 17, 18, 19, 20, 21, 22, 23] [] [0, 1, 2, 3, 4, 5, 6, 7, 8, 9, 10, 11, 12, 13, 14, 15, 16, 17, 18, 19, 20, 21, 22, 23] rfl (by decide) rfl (by decide) (by decide) rfl (by decide) (wr := []) (w2 := (ce_X13 kA q_this o_this)) (fun H locs hP hD hS => ?_)
    have hP : va_P D vwCl (ce_X13 kA q_this o_this) H := hP
    refine lv_if_eq (tgt := 29) hx hb dX13_readsRow_22 (by decide) (fun hc_7 => ?_) (fun hc_7 => ?_)
    · rw [if_pos hc_7] at hf
      exact hB29 o_this _ _ _ hP hD hS (lv_sub hl [0] rfl) hf
    · rw [if_neg hc_7] at hf
      refine lv_aload_n hx hb dX13_readsRow_25 rfl (lv_at hl 0 rfl) ?_
      obtain ⟨u_8, he_9, hf⟩ := os_bd hf
      refine mc_callV ⟨hx, hb, hml, hown, hts⟩ (mm_X13_goOn l D kA N q_this o_this u_8 he_9) (cwV 0 hts gX13_readsRow_X13_goOn rfl rfl rfl (by decide +kernel) ⟨Nat.le_of_ble_eq_true rfl, Nat.le_of_ble_eq_true rfl⟩) (wc := (ce_X13 kA q_this o_this)) (ci := 9) (q0 := 0) rfl rfl rfl hl.1 (As := []) (rest := []) rfl (Nat.le_of_ble_eq_true rfl) dX13_readsRow_26 ⟨Nat.le_of_ble_eq_true rfl, Nat.le_of_ble_eq_true rfl⟩ hK hP hD hS hA [0, 1, 2, 3, 4, 5, 6, 7, 8, 9, 10, 11, 12, 13, 14, 15, 16, 17, 18, 19, 20, 21, 22, 23] [] [0, 1, 2, 3, 4, 5, 6, 7, 8, 9, 10, 11, 12, 13, 14, 15, 16, 17, 18, 19, 20, 21, 22, 23] rfl (by decide) rfl (by decide) (by decide) rfl (by decide) (wr := []) (w2 := (ce_X13 kA q_this u_8)) (fun H locs hP hD hS => ?_)
      have hP : va_P D vwCl (ce_X13 kA q_this u_8) H := hP
      exact hB29 u_8 _ _ _ hP hD hS (lv_sub hl [0] rfl) hf
  unfold ff_X13_readsRow at hf
  refine lv_aload_n hx hb dX13_readsRow_0 rfl (lv_at hl 0 rfl) ?_
  refine va_get (D := D) (ci := 9) (v := .int (os_I o_this 22)) (C := RX13) (T := TX13) (N := 48) hx hb hUX13 (fun _ h9 => h9) hown hK hP 0 rfl rfl 22 (by decide) (hts (Cond.fieldLink RX13 189 "ReliefBuilderModel" "rows" "I") (List.mem_of_getElem? (i := 1) rfl)) (fun _ h9 => h9) rfl dX13_readsRow_1 ?_
  refine lv_aload_n hx hb dX13_readsRow_4 rfl (lv_at hl 0 rfl) ?_
  refine va_get (D := D) (ci := 9) (v := .ref (q_this 3)) (C := RX13) (T := TX13) (N := 48) hx hb hUX13 (fun _ h9 => h9) hown hK hP 0 rfl rfl 14 (by decide) (hts (Cond.fieldLink RX13 23 "ReliefBuilderModel" "read" "[I") (List.mem_of_getElem? (i := 2) rfl)) (fun _ h9 => h9) rfl dX13_readsRow_5 ?_
  refine lv_iconst (v := 1) hx hb dX13_readsRow_8 (by decide) ?_
  obtain ⟨hi_1, hf⟩ := os_if hf
  refine va_iald hx hb hK hP 3 0 rfl rfl hi_1 dX13_readsRow_9 ?_
  refine lv_icmp_ne (tgt := 18) hx hb dX13_readsRow_10 (by decide) (fun hc_2 => ?_) (fun hc_2 => ?_)
  · rw [if_neg hc_2] at hf
    exact hB18 o_this _ _ _ hP hD hS (lv_sub hl [0] rfl) hf
  · rw [if_pos hc_2] at hf
    refine lv_aload_n hx hb dX13_readsRow_13 rfl (lv_at hl 0 rfl) ?_
    refine lv_iconst (v := 5) hx hb dX13_readsRow_14 (by decide) ?_
    obtain ⟨u_3, he_4, hf⟩ := os_bd hf
    refine mc_callV ⟨hx, hb, hml, hown, hts⟩ (mm_X13_wrong l D kA N q_this o_this (5 : Int32) u_3 he_4) (cwV 1 hts gX13_readsRow_X13_wrong rfl rfl rfl (by decide +kernel) ⟨Nat.le_of_ble_eq_true rfl, Nat.le_of_ble_eq_true rfl⟩) (wc := (ce_X13 kA q_this o_this)) (ci := 9) (q0 := 0) rfl rfl rfl hl.1 (As := [.int (5 : Int32)]) (rest := []) rfl (Nat.le_of_ble_eq_true rfl) dX13_readsRow_15 ⟨Nat.le_of_ble_eq_true rfl, Nat.le_of_ble_eq_true rfl⟩ hK hP hD hS hA [0, 1, 2, 3, 4, 5, 6, 7, 8, 9, 10, 11, 12, 13, 14, 15, 16, 17, 18, 19, 20, 21, 22, 23] [] [0, 1, 2, 3, 4, 5, 6, 7, 8, 9, 10, 11, 12, 13, 14, 15, 16, 17, 18, 19, 20, 21, 22, 23] rfl (by decide) rfl (by decide) (by decide) rfl (by decide) (wr := []) (w2 := (ce_X13 kA q_this u_3)) (fun H locs hP hD hS => ?_)
    have hP : va_P D vwCl (ce_X13 kA q_this u_3) H := hP
    exact hB18 u_3 _ _ _ hP hD hS (lv_sub hl [0] rfl) hf
def ff_X13_statement_b31 (N : Nat) (o_this : os_T) (t0 : Int32) : Option os_T :=
  ((ff_X13_once N o_this t0).bind fun u_47 => (if os_z u_47.1 then ((ff_X13_number N (ss_I u_47.2 18 u_47.1) (1 : Int32) (16 : Int32)).bind fun u_50 => (if os_in (0 : Int32) 7 then ((ff_X13_number N (ss_A u_50.2 2 (upd (os_A u_50.2 2) (Int32.toNatClampNeg (0 : Int32)) u_50.1)) (1 : Int32) (12 : Int32)).bind fun u_53 => (if os_in (1 : Int32) 7 then some (ss_A u_53.2 2 (upd (os_A u_53.2 2) (Int32.toNatClampNeg (1 : Int32)) u_53.1)) else none)) else none)) else none))
def ff_X13_statement_b26 (N : Nat) (o_this : os_T) : Option os_T :=
  ff_X13_statement_b31 N o_this (1 : Int32)
def ff_X13_statement (N : Nat) (o_this : os_T) : Option os_T :=
  ((ff_X13_isWord N o_this (16824492 : Int64)).bind fun u_1 => (if u_1 = 0 then ((ff_X13_isWord N o_this (20583955 : Int64)).bind fun u_4 => (if u_4 = 0 then ((ff_X13_isWord N o_this (755084 : Int64)).bind fun u_7 => (if u_7 = 0 then ((ff_X13_isWord N o_this (20332037 : Int64)).bind fun u_10 => (if u_10 = 0 then ((ff_X13_isWord N o_this (18935 : Int64)).bind fun u_13 => (if u_13 = 0 then ((ff_X13_wrong N o_this (1 : Int32)).bind fun u_16 => some u_16) else ((ff_X13_readsRow N o_this).bind fun u_18 => some u_18))) else ((ff_X13_once N o_this (os_I o_this 21)).bind fun u_20 => (if os_z u_20.1 then ((ff_X13_number N (ss_I u_20.2 21 u_20.1) (0 : Int32) (9 : Int32)).bind fun u_23 => (if os_in (6 : Int32) 7 then some (ss_A u_23.2 2 (upd (os_A u_23.2 2) (Int32.toNatClampNeg (6 : Int32)) u_23.1)) else none)) else none)))) else ((ff_X13_once N o_this (os_I o_this 20)).bind fun u_26 => (if os_z u_26.1 then ((ff_X13_number N (ss_I u_26.2 20 u_26.1) (1 : Int32) (4 : Int32)).bind fun u_29 => (if os_in (5 : Int32) 7 then some (ss_A u_29.2 2 (upd (os_A u_29.2 2) (Int32.toNatClampNeg (5 : Int32)) u_29.1)) else none)) else none)))) else ((ff_X13_once N o_this (os_I o_this 19)).bind fun u_32 => (if os_z u_32.1 then ((ff_X13_number N (ss_I u_32.2 19 u_32.1) (1 : Int32) (20 : Int32)).bind fun u_35 => (if os_in (2 : Int32) 7 then ((ff_X13_numberBehind N (ss_A u_35.2 2 (upd (os_A u_35.2 2) (Int32.toNatClampNeg (2 : Int32)) u_35.1)) (7734899 : Int64) (10 : Int32) (99 : Int32)).bind fun u_38 => (if os_in (3 : Int32) 7 then (if os_in (2 : Int32) 7 then ((ff_X13_numberBehind N (ss_A u_38.2 2 (upd (os_A u_38.2 2) (Int32.toNatClampNeg (3 : Int32)) u_38.1)) (67173 : Int64) (0 : Int32) ((upd (os_A u_38.2 2) (Int32.toNatClampNeg (3 : Int32)) u_38.1) (Int32.toNatClampNeg (2 : Int32)))).bind fun u_42 => (if os_in (4 : Int32) 7 then some (ss_A u_42.2 2 (upd (os_A u_42.2 2) (Int32.toNatClampNeg (4 : Int32)) u_42.1)) else none)) else none) else none)) else none)) else none)))) else (if (os_I o_this 18) = 0 then (if (os_I o_this 22) ≤ 0 then ff_X13_statement_b31 N o_this (0 : Int32) else ff_X13_statement_b26 N o_this) else ff_X13_statement_b26 N o_this)))
set_option maxHeartbeats 4000000 in
set_option maxRecDepth 100000 in
theorem mm_X13_statement (l : Launch) (D : va_G) (kA : Nat → ClassId) (N : Nat) (q_this : Nat → Nat) (o_this : os_T) (out : os_T) (hf : ff_X13_statement N o_this = some out) : mc_C l D kA yX13_statement wsX13_statement ({ frames := 4, cells := 0, slots := 0, locals := 90 } : Room) [.ref (q_this 0)] (ce_X13 kA q_this o_this) none (ce_X13 kA q_this out) := by
  refine mc_of (cc := cX13_statement) (maxL := 1) (ret := none) (by decide) rfl (Nat.le_of_ble_eq_true rfl) ?_
  intro p e s m below meth c A B hD hP hS ls hl
  obtain ⟨hx, hb, hr, hlk, hml, hown, hts, hK, hA, hnm⟩ := B
  have hown : s.vm.findClass RX13 = some m.cls := hown
  have hl : lv_has ls 1 [(0, .ref (q_this 0))] := hl
  have hUX13 : ∀ w ∈ u_ws RX13 TX13 48, w.before [.ref (q_this 0)].toArray s = true := fun w h => hts w (List.mem_cons_of_mem _ (List.mem_append_right _ h))
  have hB31 : ∀ (o_this : os_T) (t0 : Int32) (H : Heap) (locs : List Loc) (ls : Array Slot), va_P D vwCl (ce_X13 kA q_this o_this) H → va_D A (ce_X13 kA q_this o_this) → va_S A s.heap H locs → lv_has ls 1 [(0, .ref (q_this 0))] → ff_X13_statement_b31 N o_this t0 = some out → W p l e ({ frames := 4, cells := 0, slots := 0, locals := 90 } : Room) s m [.ref (q_this 0)].toArray below meth c H locs 0 0 (MQ below (mc_Q D kA A none (ce_X13 kA q_this out)) [.ref (q_this 0)].toArray s 0 0 A) (F0 m 31 ls [.int t0, .ref (q_this 0), .ref (q_this 0)]) := by
    intro o_this t0 H locs ls hP hD hS hl hf
    unfold ff_X13_statement_b31 at hf
    obtain ⟨u_47, he_48, hf⟩ := os_bd hf
    refine mc_callV ⟨hx, hb, hml, hown, hts⟩ (mm_X13_once l D kA N q_this o_this t0 u_47 he_48) (cwV 1 hts gX13_statement_X13_once rfl rfl rfl (by decide +kernel) ⟨Nat.le_of_ble_eq_true rfl, Nat.le_of_ble_eq_true rfl⟩) (wc := (ce_X13 kA q_this o_this)) (ci := 9) (q0 := 0) rfl rfl rfl hl.1 (As := [.int t0]) (rest := [.ref (q_this 0)]) rfl (Nat.le_of_ble_eq_true rfl) dX13_statement_31 ⟨Nat.le_of_ble_eq_true rfl, Nat.le_of_ble_eq_true rfl⟩ hK hP hD hS hA [0, 1, 2, 3, 4, 5, 6, 7, 8, 9, 10, 11, 12, 13, 14, 15, 16, 17, 18, 19, 20, 21, 22, 23] [] [0, 1, 2, 3, 4, 5, 6, 7, 8, 9, 10, 11, 12, 13, 14, 15, 16, 17, 18, 19, 20, 21, 22, 23] rfl (by decide) rfl (by decide) (by decide) rfl (by decide) (wr := []) (w2 := (ce_X13 kA q_this u_47.2)) (fun H locs hP hD hS => ?_)
    have hP : va_P D vwCl (ce_X13 kA q_this u_47.2) H := hP
    obtain ⟨hz_49, hf⟩ := os_if hf
    refine va_put (D := D) (ci := 9) (v := .int u_47.1) (ty := .boolean) (C := RX13) (T := TX13) (N := 48) hx hb hUX13 (fun _ h9 => h9) tyX13 tyX13_ok nmX13 hown hK hP hD hS 0 rfl rfl 18 (by decide) (hts (Cond.fieldLink RX13 176 "ReliefBuilderModel" "hasPanel" "Z") (List.mem_of_getElem? (i := 2) rfl)) (fun _ h9 => h9) rfl (tyX13_ok 18 (by decide)) (os_z_n hz_49) (os_z_f hz_49) (Nat.le_of_ble_eq_true rfl) dX13_statement_34 (fun H locs hP hD hS => ?_)
    have hP : va_P D vwCl (ce_X13 kA q_this (ss_I u_47.2 18 u_47.1)) H := hP
    have hD : va_D A (ce_X13 kA q_this (ss_I u_47.2 18 u_47.1)) := hD
    refine lv_aload_n hx hb dX13_statement_37 rfl (lv_at hl 0 rfl) ?_
    refine va_get (D := D) (ci := 9) (v := .ref (q_this 3)) (C := RX13) (T := TX13) (N := 48) hx hb hUX13 (fun _ h9 => h9) hown hK hP 0 rfl rfl 14 (by decide) (hts (Cond.fieldLink RX13 23 "ReliefBuilderModel" "read" "[I") (List.mem_of_getElem? (i := 4) rfl)) (fun _ h9 => h9) rfl dX13_statement_38 ?_
    refine lv_iconst (v := 0) hx hb dX13_statement_41 (by decide) ?_
    refine lv_aload_n hx hb dX13_statement_42 rfl (lv_at hl 0 rfl) ?_
    refine lv_iconst (v := 1) hx hb dX13_statement_43 (by decide) ?_
    refine lv_bipush (v := 16) hx hb dX13_statement_44 (by decide) ?_
    obtain ⟨u_50, he_51, hf⟩ := os_bd hf
    refine mc_callV ⟨hx, hb, hml, hown, hts⟩ (mm_X13_number l D kA N q_this (ss_I u_47.2 18 u_47.1) (1 : Int32) (16 : Int32) u_50 he_51) (cwV 2 hts gX13_statement_X13_number rfl rfl rfl (by decide +kernel) ⟨Nat.le_of_ble_eq_true rfl, Nat.le_of_ble_eq_true rfl⟩) (wc := (ce_X13 kA q_this (ss_I u_47.2 18 u_47.1))) (ci := 9) (q0 := 0) rfl rfl rfl hl.1 (As := [.int (1 : Int32), .int (16 : Int32)]) (rest := [.int (0 : Int32), .ref (q_this 3)]) rfl (Nat.le_of_ble_eq_true rfl) dX13_statement_46 ⟨Nat.le_of_ble_eq_true rfl, Nat.le_of_ble_eq_true rfl⟩ hK hP hD hS hA [0, 1, 2, 3, 4, 5, 6, 7, 8, 9, 10, 11, 12, 13, 14, 15, 16, 17, 18, 19, 20, 21, 22, 23] [] [0, 1, 2, 3, 4, 5, 6, 7, 8, 9, 10, 11, 12, 13, 14, 15, 16, 17, 18, 19, 20, 21, 22, 23] rfl (by decide) rfl (by decide) (by decide) rfl (by decide) (wr := []) (w2 := (ce_X13 kA q_this u_50.2)) (fun H locs hP hD hS => ?_)
    have hP : va_P D vwCl (ce_X13 kA q_this u_50.2) H := hP
    obtain ⟨hi_52, hf⟩ := os_if hf
    refine va_iast hx hb hK hP hD hS 3 0 rfl rfl hi_52 dX13_statement_49 (fun H locs hP hD hS => ?_)
    have hP : va_P D vwCl (ce_X13 kA q_this (ss_A u_50.2 2 (upd (os_A u_50.2 2) (Int32.toNatClampNeg (0 : Int32)) u_50.1))) H := hP
    have hD : va_D A (ce_X13 kA q_this (ss_A u_50.2 2 (upd (os_A u_50.2 2) (Int32.toNatClampNeg (0 : Int32)) u_50.1))) := hD
    refine lv_aload_n hx hb dX13_statement_50 rfl (lv_at hl 0 rfl) ?_
    refine va_get (D := D) (ci := 9) (v := .ref (q_this 3)) (C := RX13) (T := TX13) (N := 48) hx hb hUX13 (fun _ h9 => h9) hown hK hP 0 rfl rfl 14 (by decide) (hts (Cond.fieldLink RX13 23 "ReliefBuilderModel" "read" "[I") (List.mem_of_getElem? (i := 4) rfl)) (fun _ h9 => h9) rfl dX13_statement_51 ?_
    refine lv_iconst (v := 1) hx hb dX13_statement_54 (by decide) ?_
    refine lv_aload_n hx hb dX13_statement_55 rfl (lv_at hl 0 rfl) ?_
    refine lv_iconst (v := 1) hx hb dX13_statement_56 (by decide) ?_
    refine lv_bipush (v := 12) hx hb dX13_statement_57 (by decide) ?_
    obtain ⟨u_53, he_54, hf⟩ := os_bd hf
    refine mc_callV ⟨hx, hb, hml, hown, hts⟩ (mm_X13_number l D kA N q_this (ss_A u_50.2 2 (upd (os_A u_50.2 2) (Int32.toNatClampNeg (0 : Int32)) u_50.1)) (1 : Int32) (12 : Int32) u_53 he_54) (cwV 2 hts gX13_statement_X13_number rfl rfl rfl (by decide +kernel) ⟨Nat.le_of_ble_eq_true rfl, Nat.le_of_ble_eq_true rfl⟩) (wc := (ce_X13 kA q_this (ss_A u_50.2 2 (upd (os_A u_50.2 2) (Int32.toNatClampNeg (0 : Int32)) u_50.1)))) (ci := 9) (q0 := 0) rfl rfl rfl hl.1 (As := [.int (1 : Int32), .int (12 : Int32)]) (rest := [.int (1 : Int32), .ref (q_this 3)]) rfl (Nat.le_of_ble_eq_true rfl) dX13_statement_59 ⟨Nat.le_of_ble_eq_true rfl, Nat.le_of_ble_eq_true rfl⟩ hK hP hD hS hA [0, 1, 2, 3, 4, 5, 6, 7, 8, 9, 10, 11, 12, 13, 14, 15, 16, 17, 18, 19, 20, 21, 22, 23] [] [0, 1, 2, 3, 4, 5, 6, 7, 8, 9, 10, 11, 12, 13, 14, 15, 16, 17, 18, 19, 20, 21, 22, 23] rfl (by decide) rfl (by decide) (by decide) rfl (by decide) (wr := []) (w2 := (ce_X13 kA q_this u_53.2)) (fun H locs hP hD hS => ?_)
    have hP : va_P D vwCl (ce_X13 kA q_this u_53.2) H := hP
    obtain ⟨hi_55, hf⟩ := os_if hf
    refine va_iast hx hb hK hP hD hS 3 0 rfl rfl hi_55 dX13_statement_62 (fun H locs hP hD hS => ?_)
    have hP : va_P D vwCl (ce_X13 kA q_this (ss_A u_53.2 2 (upd (os_A u_53.2 2) (Int32.toNatClampNeg (1 : Int32)) u_53.1))) H := hP
    have hD : va_D A (ce_X13 kA q_this (ss_A u_53.2 2 (upd (os_A u_53.2 2) (Int32.toNatClampNeg (1 : Int32)) u_53.1))) := hD
    refine lv_goto (tgt := 239) hx hb dX13_statement_63 (by decide) ?_
    rw [← Option.some.inj hf]
    exact mc_retv hx hb hr hlk hP hK hD hS dX13_statement_239
  have hB26 : ∀ (o_this : os_T) (H : Heap) (locs : List Loc) (ls : Array Slot), va_P D vwCl (ce_X13 kA q_this o_this) H → va_D A (ce_X13 kA q_this o_this) → va_S A s.heap H locs → lv_has ls 1 [(0, .ref (q_this 0))] → ff_X13_statement_b26 N o_this = some out → W p l e ({ frames := 4, cells := 0, slots := 0, locals := 90 } : Room) s m [.ref (q_this 0)].toArray below meth c H locs 0 0 (MQ below (mc_Q D kA A none (ce_X13 kA q_this out)) [.ref (q_this 0)].toArray s 0 0 A) (F0 m 26 ls [.ref (q_this 0), .ref (q_this 0)]) := by
    intro o_this H locs ls hP hD hS hl hf
    unfold ff_X13_statement_b26 at hf
    refine lv_iconst (v := 1) hx hb dX13_statement_26 (by decide) ?_
    refine lv_goto (tgt := 31) hx hb dX13_statement_27 (by decide) ?_
    exact hB31 o_this (1 : Int32) _ _ _ hP hD hS (lv_sub hl [0] rfl) hf
  unfold ff_X13_statement at hf
  refine lv_aload_n hx hb dX13_statement_0 rfl (lv_at hl 0 rfl) ?_
  refine lv_ldc2 hx hb hown (hts (Cond.constantLong RX13 213 (16824492)) (List.mem_of_getElem? (i := 1) rfl)) dX13_statement_1 ?_
  obtain ⟨u_1, he_2, hf⟩ := os_bd hf
  refine mc_callV ⟨hx, hb, hml, hown, hts⟩ (mm_X13_isWord l D kA N q_this o_this (16824492 : Int64) u_1 he_2) (cwV 1 hts gX13_statement_X13_isWord rfl rfl rfl (by decide +kernel) ⟨Nat.le_of_ble_eq_true rfl, Nat.le_of_ble_eq_true rfl⟩) (wc := (ce_X13 kA q_this o_this)) (ci := 9) (q0 := 0) rfl rfl rfl hl.1 (As := [.long (16824492 : Int64)]) (rest := []) rfl (Nat.le_of_ble_eq_true rfl) dX13_statement_4 ⟨Nat.le_of_ble_eq_true rfl, Nat.le_of_ble_eq_true rfl⟩ hK hP hD hS hA [0, 1, 2, 3, 4, 5, 6, 7, 8, 9, 10, 11, 12, 13, 14, 15, 16, 17, 18, 19, 20, 21, 22, 23] [] [0, 1, 2, 3, 4, 5, 6, 7, 8, 9, 10, 11, 12, 13, 14, 15, 16, 17, 18, 19, 20, 21, 22, 23] rfl (by decide) rfl (by decide) (by decide) rfl (by decide) (wr := []) (w2 := (ce_X13 kA q_this o_this)) (fun H locs hP hD hS => ?_)
  have hP : va_P D vwCl (ce_X13 kA q_this o_this) H := hP
  refine lv_if_eq (tgt := 66) hx hb dX13_statement_7 (by decide) (fun hc_3 => ?_) (fun hc_3 => ?_)
  · rw [if_pos hc_3] at hf
    refine lv_aload_n hx hb dX13_statement_66 rfl (lv_at hl 0 rfl) ?_
    refine lv_ldc2 hx hb hown (hts (Cond.constantLong RX13 218 (20583955)) (List.mem_of_getElem? (i := 5) rfl)) dX13_statement_67 ?_
    obtain ⟨u_4, he_5, hf⟩ := os_bd hf
    refine mc_callV ⟨hx, hb, hml, hown, hts⟩ (mm_X13_isWord l D kA N q_this o_this (20583955 : Int64) u_4 he_5) (cwV 1 hts gX13_statement_X13_isWord rfl rfl rfl (by decide +kernel) ⟨Nat.le_of_ble_eq_true rfl, Nat.le_of_ble_eq_true rfl⟩) (wc := (ce_X13 kA q_this o_this)) (ci := 9) (q0 := 0) rfl rfl rfl hl.1 (As := [.long (20583955 : Int64)]) (rest := []) rfl (Nat.le_of_ble_eq_true rfl) dX13_statement_70 ⟨Nat.le_of_ble_eq_true rfl, Nat.le_of_ble_eq_true rfl⟩ hK hP hD hS hA [0, 1, 2, 3, 4, 5, 6, 7, 8, 9, 10, 11, 12, 13, 14, 15, 16, 17, 18, 19, 20, 21, 22, 23] [] [0, 1, 2, 3, 4, 5, 6, 7, 8, 9, 10, 11, 12, 13, 14, 15, 16, 17, 18, 19, 20, 21, 22, 23] rfl (by decide) rfl (by decide) (by decide) rfl (by decide) (wr := []) (w2 := (ce_X13 kA q_this o_this)) (fun H locs hP hD hS => ?_)
    have hP : va_P D vwCl (ce_X13 kA q_this o_this) H := hP
    refine lv_if_eq (tgt := 141) hx hb dX13_statement_73 (by decide) (fun hc_6 => ?_) (fun hc_6 => ?_)
    · rw [if_pos hc_6] at hf
      refine lv_aload_n hx hb dX13_statement_141 rfl (lv_at hl 0 rfl) ?_
      refine lv_ldc2 hx hb hown (hts (Cond.constantLong RX13 228 (755084)) (List.mem_of_getElem? (i := 9) rfl)) dX13_statement_142 ?_
      obtain ⟨u_7, he_8, hf⟩ := os_bd hf
      refine mc_callV ⟨hx, hb, hml, hown, hts⟩ (mm_X13_isWord l D kA N q_this o_this (755084 : Int64) u_7 he_8) (cwV 1 hts gX13_statement_X13_isWord rfl rfl rfl (by decide +kernel) ⟨Nat.le_of_ble_eq_true rfl, Nat.le_of_ble_eq_true rfl⟩) (wc := (ce_X13 kA q_this o_this)) (ci := 9) (q0 := 0) rfl rfl rfl hl.1 (As := [.long (755084 : Int64)]) (rest := []) rfl (Nat.le_of_ble_eq_true rfl) dX13_statement_145 ⟨Nat.le_of_ble_eq_true rfl, Nat.le_of_ble_eq_true rfl⟩ hK hP hD hS hA [0, 1, 2, 3, 4, 5, 6, 7, 8, 9, 10, 11, 12, 13, 14, 15, 16, 17, 18, 19, 20, 21, 22, 23] [] [0, 1, 2, 3, 4, 5, 6, 7, 8, 9, 10, 11, 12, 13, 14, 15, 16, 17, 18, 19, 20, 21, 22, 23] rfl (by decide) rfl (by decide) (by decide) rfl (by decide) (wr := []) (w2 := (ce_X13 kA q_this o_this)) (fun H locs hP hD hS => ?_)
      have hP : va_P D vwCl (ce_X13 kA q_this o_this) H := hP
      refine lv_if_eq (tgt := 178) hx hb dX13_statement_148 (by decide) (fun hc_9 => ?_) (fun hc_9 => ?_)
      · rw [if_pos hc_9] at hf
        refine lv_aload_n hx hb dX13_statement_178 rfl (lv_at hl 0 rfl) ?_
        refine lv_ldc2 hx hb hown (hts (Cond.constantLong RX13 230 (20332037)) (List.mem_of_getElem? (i := 11) rfl)) dX13_statement_179 ?_
        obtain ⟨u_10, he_11, hf⟩ := os_bd hf
        refine mc_callV ⟨hx, hb, hml, hown, hts⟩ (mm_X13_isWord l D kA N q_this o_this (20332037 : Int64) u_10 he_11) (cwV 1 hts gX13_statement_X13_isWord rfl rfl rfl (by decide +kernel) ⟨Nat.le_of_ble_eq_true rfl, Nat.le_of_ble_eq_true rfl⟩) (wc := (ce_X13 kA q_this o_this)) (ci := 9) (q0 := 0) rfl rfl rfl hl.1 (As := [.long (20332037 : Int64)]) (rest := []) rfl (Nat.le_of_ble_eq_true rfl) dX13_statement_182 ⟨Nat.le_of_ble_eq_true rfl, Nat.le_of_ble_eq_true rfl⟩ hK hP hD hS hA [0, 1, 2, 3, 4, 5, 6, 7, 8, 9, 10, 11, 12, 13, 14, 15, 16, 17, 18, 19, 20, 21, 22, 23] [] [0, 1, 2, 3, 4, 5, 6, 7, 8, 9, 10, 11, 12, 13, 14, 15, 16, 17, 18, 19, 20, 21, 22, 23] rfl (by decide) rfl (by decide) (by decide) rfl (by decide) (wr := []) (w2 := (ce_X13 kA q_this o_this)) (fun H locs hP hD hS => ?_)
        have hP : va_P D vwCl (ce_X13 kA q_this o_this) H := hP
        refine lv_if_eq (tgt := 217) hx hb dX13_statement_185 (by decide) (fun hc_12 => ?_) (fun hc_12 => ?_)
        · rw [if_pos hc_12] at hf
          refine lv_aload_n hx hb dX13_statement_217 rfl (lv_at hl 0 rfl) ?_
          refine lv_ldc2 hx hb hown (hts (Cond.constantLong RX13 232 (18935)) (List.mem_of_getElem? (i := 13) rfl)) dX13_statement_218 ?_
          obtain ⟨u_13, he_14, hf⟩ := os_bd hf
          refine mc_callV ⟨hx, hb, hml, hown, hts⟩ (mm_X13_isWord l D kA N q_this o_this (18935 : Int64) u_13 he_14) (cwV 1 hts gX13_statement_X13_isWord rfl rfl rfl (by decide +kernel) ⟨Nat.le_of_ble_eq_true rfl, Nat.le_of_ble_eq_true rfl⟩) (wc := (ce_X13 kA q_this o_this)) (ci := 9) (q0 := 0) rfl rfl rfl hl.1 (As := [.long (18935 : Int64)]) (rest := []) rfl (Nat.le_of_ble_eq_true rfl) dX13_statement_221 ⟨Nat.le_of_ble_eq_true rfl, Nat.le_of_ble_eq_true rfl⟩ hK hP hD hS hA [0, 1, 2, 3, 4, 5, 6, 7, 8, 9, 10, 11, 12, 13, 14, 15, 16, 17, 18, 19, 20, 21, 22, 23] [] [0, 1, 2, 3, 4, 5, 6, 7, 8, 9, 10, 11, 12, 13, 14, 15, 16, 17, 18, 19, 20, 21, 22, 23] rfl (by decide) rfl (by decide) (by decide) rfl (by decide) (wr := []) (w2 := (ce_X13 kA q_this o_this)) (fun H locs hP hD hS => ?_)
          have hP : va_P D vwCl (ce_X13 kA q_this o_this) H := hP
          refine lv_if_eq (tgt := 234) hx hb dX13_statement_224 (by decide) (fun hc_15 => ?_) (fun hc_15 => ?_)
          · rw [if_pos hc_15] at hf
            refine lv_aload_n hx hb dX13_statement_234 rfl (lv_at hl 0 rfl) ?_
            refine lv_iconst (v := 1) hx hb dX13_statement_235 (by decide) ?_
            obtain ⟨u_16, he_17, hf⟩ := os_bd hf
            refine mc_callV ⟨hx, hb, hml, hown, hts⟩ (mm_X13_wrong l D kA N q_this o_this (1 : Int32) u_16 he_17) (cwV 1 hts gX13_statement_X13_wrong rfl rfl rfl (by decide +kernel) ⟨Nat.le_of_ble_eq_true rfl, Nat.le_of_ble_eq_true rfl⟩) (wc := (ce_X13 kA q_this o_this)) (ci := 9) (q0 := 0) rfl rfl rfl hl.1 (As := [.int (1 : Int32)]) (rest := []) rfl (Nat.le_of_ble_eq_true rfl) dX13_statement_236 ⟨Nat.le_of_ble_eq_true rfl, Nat.le_of_ble_eq_true rfl⟩ hK hP hD hS hA [0, 1, 2, 3, 4, 5, 6, 7, 8, 9, 10, 11, 12, 13, 14, 15, 16, 17, 18, 19, 20, 21, 22, 23] [] [0, 1, 2, 3, 4, 5, 6, 7, 8, 9, 10, 11, 12, 13, 14, 15, 16, 17, 18, 19, 20, 21, 22, 23] rfl (by decide) rfl (by decide) (by decide) rfl (by decide) (wr := []) (w2 := (ce_X13 kA q_this u_16)) (fun H locs hP hD hS => ?_)
            have hP : va_P D vwCl (ce_X13 kA q_this u_16) H := hP
            rw [← Option.some.inj hf]
            exact mc_retv hx hb hr hlk hP hK hD hS dX13_statement_239
          · rw [if_neg hc_15] at hf
            refine lv_aload_n hx hb dX13_statement_227 rfl (lv_at hl 0 rfl) ?_
            obtain ⟨u_18, he_19, hf⟩ := os_bd hf
            refine mc_callV ⟨hx, hb, hml, hown, hts⟩ (mm_X13_readsRow l D kA N q_this o_this u_18 he_19) (cwV 0 hts gX13_statement_X13_readsRow rfl rfl rfl (by decide +kernel) ⟨Nat.le_of_ble_eq_true rfl, Nat.le_of_ble_eq_true rfl⟩) (wc := (ce_X13 kA q_this o_this)) (ci := 9) (q0 := 0) rfl rfl rfl hl.1 (As := []) (rest := []) rfl (Nat.le_of_ble_eq_true rfl) dX13_statement_228 ⟨Nat.le_of_ble_eq_true rfl, Nat.le_of_ble_eq_true rfl⟩ hK hP hD hS hA [0, 1, 2, 3, 4, 5, 6, 7, 8, 9, 10, 11, 12, 13, 14, 15, 16, 17, 18, 19, 20, 21, 22, 23] [] [0, 1, 2, 3, 4, 5, 6, 7, 8, 9, 10, 11, 12, 13, 14, 15, 16, 17, 18, 19, 20, 21, 22, 23] rfl (by decide) rfl (by decide) (by decide) rfl (by decide) (wr := []) (w2 := (ce_X13 kA q_this u_18)) (fun H locs hP hD hS => ?_)
            have hP : va_P D vwCl (ce_X13 kA q_this u_18) H := hP
            refine lv_goto (tgt := 239) hx hb dX13_statement_231 (by decide) ?_
            rw [← Option.some.inj hf]
            exact mc_retv hx hb hr hlk hP hK hD hS dX13_statement_239
        · rw [if_neg hc_12] at hf
          refine lv_aload_n hx hb dX13_statement_188 rfl (lv_at hl 0 rfl) ?_
          refine lv_aload_n hx hb dX13_statement_189 rfl (lv_at hl 0 rfl) ?_
          refine lv_aload_n hx hb dX13_statement_190 rfl (lv_at hl 0 rfl) ?_
          refine va_get (D := D) (ci := 9) (v := .int (os_I o_this 21)) (C := RX13) (T := TX13) (N := 48) hx hb hUX13 (fun _ h9 => h9) hown hK hP 0 rfl rfl 21 (by decide) (hts (Cond.fieldLink RX13 186 "ReliefBuilderModel" "hasSlope" "Z") (List.mem_of_getElem? (i := 12) rfl)) (fun _ h9 => h9) rfl dX13_statement_191 ?_
          obtain ⟨u_20, he_21, hf⟩ := os_bd hf
          refine mc_callV ⟨hx, hb, hml, hown, hts⟩ (mm_X13_once l D kA N q_this o_this (os_I o_this 21) u_20 he_21) (cwV 1 hts gX13_statement_X13_once rfl rfl rfl (by decide +kernel) ⟨Nat.le_of_ble_eq_true rfl, Nat.le_of_ble_eq_true rfl⟩) (wc := (ce_X13 kA q_this o_this)) (ci := 9) (q0 := 0) rfl rfl rfl hl.1 (As := [.int (os_I o_this 21)]) (rest := [.ref (q_this 0)]) rfl (Nat.le_of_ble_eq_true rfl) dX13_statement_194 ⟨Nat.le_of_ble_eq_true rfl, Nat.le_of_ble_eq_true rfl⟩ hK hP hD hS hA [0, 1, 2, 3, 4, 5, 6, 7, 8, 9, 10, 11, 12, 13, 14, 15, 16, 17, 18, 19, 20, 21, 22, 23] [] [0, 1, 2, 3, 4, 5, 6, 7, 8, 9, 10, 11, 12, 13, 14, 15, 16, 17, 18, 19, 20, 21, 22, 23] rfl (by decide) rfl (by decide) (by decide) rfl (by decide) (wr := []) (w2 := (ce_X13 kA q_this u_20.2)) (fun H locs hP hD hS => ?_)
          have hP : va_P D vwCl (ce_X13 kA q_this u_20.2) H := hP
          obtain ⟨hz_22, hf⟩ := os_if hf
          refine va_put (D := D) (ci := 9) (v := .int u_20.1) (ty := .boolean) (C := RX13) (T := TX13) (N := 48) hx hb hUX13 (fun _ h9 => h9) tyX13 tyX13_ok nmX13 hown hK hP hD hS 0 rfl rfl 21 (by decide) (hts (Cond.fieldLink RX13 186 "ReliefBuilderModel" "hasSlope" "Z") (List.mem_of_getElem? (i := 12) rfl)) (fun _ h9 => h9) rfl (tyX13_ok 21 (by decide)) (os_z_n hz_22) (os_z_f hz_22) (Nat.le_of_ble_eq_true rfl) dX13_statement_197 (fun H locs hP hD hS => ?_)
          have hP : va_P D vwCl (ce_X13 kA q_this (ss_I u_20.2 21 u_20.1)) H := hP
          have hD : va_D A (ce_X13 kA q_this (ss_I u_20.2 21 u_20.1)) := hD
          refine lv_aload_n hx hb dX13_statement_200 rfl (lv_at hl 0 rfl) ?_
          refine va_get (D := D) (ci := 9) (v := .ref (q_this 3)) (C := RX13) (T := TX13) (N := 48) hx hb hUX13 (fun _ h9 => h9) hown hK hP 0 rfl rfl 14 (by decide) (hts (Cond.fieldLink RX13 23 "ReliefBuilderModel" "read" "[I") (List.mem_of_getElem? (i := 4) rfl)) (fun _ h9 => h9) rfl dX13_statement_201 ?_
          refine lv_bipush (v := 6) hx hb dX13_statement_204 (by decide) ?_
          refine lv_aload_n hx hb dX13_statement_206 rfl (lv_at hl 0 rfl) ?_
          refine lv_iconst (v := 0) hx hb dX13_statement_207 (by decide) ?_
          refine lv_bipush (v := 9) hx hb dX13_statement_208 (by decide) ?_
          obtain ⟨u_23, he_24, hf⟩ := os_bd hf
          refine mc_callV ⟨hx, hb, hml, hown, hts⟩ (mm_X13_number l D kA N q_this (ss_I u_20.2 21 u_20.1) (0 : Int32) (9 : Int32) u_23 he_24) (cwV 2 hts gX13_statement_X13_number rfl rfl rfl (by decide +kernel) ⟨Nat.le_of_ble_eq_true rfl, Nat.le_of_ble_eq_true rfl⟩) (wc := (ce_X13 kA q_this (ss_I u_20.2 21 u_20.1))) (ci := 9) (q0 := 0) rfl rfl rfl hl.1 (As := [.int (0 : Int32), .int (9 : Int32)]) (rest := [.int (6 : Int32), .ref (q_this 3)]) rfl (Nat.le_of_ble_eq_true rfl) dX13_statement_210 ⟨Nat.le_of_ble_eq_true rfl, Nat.le_of_ble_eq_true rfl⟩ hK hP hD hS hA [0, 1, 2, 3, 4, 5, 6, 7, 8, 9, 10, 11, 12, 13, 14, 15, 16, 17, 18, 19, 20, 21, 22, 23] [] [0, 1, 2, 3, 4, 5, 6, 7, 8, 9, 10, 11, 12, 13, 14, 15, 16, 17, 18, 19, 20, 21, 22, 23] rfl (by decide) rfl (by decide) (by decide) rfl (by decide) (wr := []) (w2 := (ce_X13 kA q_this u_23.2)) (fun H locs hP hD hS => ?_)
          have hP : va_P D vwCl (ce_X13 kA q_this u_23.2) H := hP
          obtain ⟨hi_25, hf⟩ := os_if hf
          refine va_iast hx hb hK hP hD hS 3 0 rfl rfl hi_25 dX13_statement_213 (fun H locs hP hD hS => ?_)
          have hP : va_P D vwCl (ce_X13 kA q_this (ss_A u_23.2 2 (upd (os_A u_23.2 2) (Int32.toNatClampNeg (6 : Int32)) u_23.1))) H := hP
          have hD : va_D A (ce_X13 kA q_this (ss_A u_23.2 2 (upd (os_A u_23.2 2) (Int32.toNatClampNeg (6 : Int32)) u_23.1))) := hD
          refine lv_goto (tgt := 239) hx hb dX13_statement_214 (by decide) ?_
          rw [← Option.some.inj hf]
          exact mc_retv hx hb hr hlk hP hK hD hS dX13_statement_239
      · rw [if_neg hc_9] at hf
        refine lv_aload_n hx hb dX13_statement_151 rfl (lv_at hl 0 rfl) ?_
        refine lv_aload_n hx hb dX13_statement_152 rfl (lv_at hl 0 rfl) ?_
        refine lv_aload_n hx hb dX13_statement_153 rfl (lv_at hl 0 rfl) ?_
        refine va_get (D := D) (ci := 9) (v := .int (os_I o_this 20)) (C := RX13) (T := TX13) (N := 48) hx hb hUX13 (fun _ h9 => h9) hown hK hP 0 rfl rfl 20 (by decide) (hts (Cond.fieldLink RX13 183 "ReliefBuilderModel" "hasWall" "Z") (List.mem_of_getElem? (i := 10) rfl)) (fun _ h9 => h9) rfl dX13_statement_154 ?_
        obtain ⟨u_26, he_27, hf⟩ := os_bd hf
        refine mc_callV ⟨hx, hb, hml, hown, hts⟩ (mm_X13_once l D kA N q_this o_this (os_I o_this 20) u_26 he_27) (cwV 1 hts gX13_statement_X13_once rfl rfl rfl (by decide +kernel) ⟨Nat.le_of_ble_eq_true rfl, Nat.le_of_ble_eq_true rfl⟩) (wc := (ce_X13 kA q_this o_this)) (ci := 9) (q0 := 0) rfl rfl rfl hl.1 (As := [.int (os_I o_this 20)]) (rest := [.ref (q_this 0)]) rfl (Nat.le_of_ble_eq_true rfl) dX13_statement_157 ⟨Nat.le_of_ble_eq_true rfl, Nat.le_of_ble_eq_true rfl⟩ hK hP hD hS hA [0, 1, 2, 3, 4, 5, 6, 7, 8, 9, 10, 11, 12, 13, 14, 15, 16, 17, 18, 19, 20, 21, 22, 23] [] [0, 1, 2, 3, 4, 5, 6, 7, 8, 9, 10, 11, 12, 13, 14, 15, 16, 17, 18, 19, 20, 21, 22, 23] rfl (by decide) rfl (by decide) (by decide) rfl (by decide) (wr := []) (w2 := (ce_X13 kA q_this u_26.2)) (fun H locs hP hD hS => ?_)
        have hP : va_P D vwCl (ce_X13 kA q_this u_26.2) H := hP
        obtain ⟨hz_28, hf⟩ := os_if hf
        refine va_put (D := D) (ci := 9) (v := .int u_26.1) (ty := .boolean) (C := RX13) (T := TX13) (N := 48) hx hb hUX13 (fun _ h9 => h9) tyX13 tyX13_ok nmX13 hown hK hP hD hS 0 rfl rfl 20 (by decide) (hts (Cond.fieldLink RX13 183 "ReliefBuilderModel" "hasWall" "Z") (List.mem_of_getElem? (i := 10) rfl)) (fun _ h9 => h9) rfl (tyX13_ok 20 (by decide)) (os_z_n hz_28) (os_z_f hz_28) (Nat.le_of_ble_eq_true rfl) dX13_statement_160 (fun H locs hP hD hS => ?_)
        have hP : va_P D vwCl (ce_X13 kA q_this (ss_I u_26.2 20 u_26.1)) H := hP
        have hD : va_D A (ce_X13 kA q_this (ss_I u_26.2 20 u_26.1)) := hD
        refine lv_aload_n hx hb dX13_statement_163 rfl (lv_at hl 0 rfl) ?_
        refine va_get (D := D) (ci := 9) (v := .ref (q_this 3)) (C := RX13) (T := TX13) (N := 48) hx hb hUX13 (fun _ h9 => h9) hown hK hP 0 rfl rfl 14 (by decide) (hts (Cond.fieldLink RX13 23 "ReliefBuilderModel" "read" "[I") (List.mem_of_getElem? (i := 4) rfl)) (fun _ h9 => h9) rfl dX13_statement_164 ?_
        refine lv_iconst (v := 5) hx hb dX13_statement_167 (by decide) ?_
        refine lv_aload_n hx hb dX13_statement_168 rfl (lv_at hl 0 rfl) ?_
        refine lv_iconst (v := 1) hx hb dX13_statement_169 (by decide) ?_
        refine lv_iconst (v := 4) hx hb dX13_statement_170 (by decide) ?_
        obtain ⟨u_29, he_30, hf⟩ := os_bd hf
        refine mc_callV ⟨hx, hb, hml, hown, hts⟩ (mm_X13_number l D kA N q_this (ss_I u_26.2 20 u_26.1) (1 : Int32) (4 : Int32) u_29 he_30) (cwV 2 hts gX13_statement_X13_number rfl rfl rfl (by decide +kernel) ⟨Nat.le_of_ble_eq_true rfl, Nat.le_of_ble_eq_true rfl⟩) (wc := (ce_X13 kA q_this (ss_I u_26.2 20 u_26.1))) (ci := 9) (q0 := 0) rfl rfl rfl hl.1 (As := [.int (1 : Int32), .int (4 : Int32)]) (rest := [.int (5 : Int32), .ref (q_this 3)]) rfl (Nat.le_of_ble_eq_true rfl) dX13_statement_171 ⟨Nat.le_of_ble_eq_true rfl, Nat.le_of_ble_eq_true rfl⟩ hK hP hD hS hA [0, 1, 2, 3, 4, 5, 6, 7, 8, 9, 10, 11, 12, 13, 14, 15, 16, 17, 18, 19, 20, 21, 22, 23] [] [0, 1, 2, 3, 4, 5, 6, 7, 8, 9, 10, 11, 12, 13, 14, 15, 16, 17, 18, 19, 20, 21, 22, 23] rfl (by decide) rfl (by decide) (by decide) rfl (by decide) (wr := []) (w2 := (ce_X13 kA q_this u_29.2)) (fun H locs hP hD hS => ?_)
        have hP : va_P D vwCl (ce_X13 kA q_this u_29.2) H := hP
        obtain ⟨hi_31, hf⟩ := os_if hf
        refine va_iast hx hb hK hP hD hS 3 0 rfl rfl hi_31 dX13_statement_174 (fun H locs hP hD hS => ?_)
        have hP : va_P D vwCl (ce_X13 kA q_this (ss_A u_29.2 2 (upd (os_A u_29.2 2) (Int32.toNatClampNeg (5 : Int32)) u_29.1))) H := hP
        have hD : va_D A (ce_X13 kA q_this (ss_A u_29.2 2 (upd (os_A u_29.2 2) (Int32.toNatClampNeg (5 : Int32)) u_29.1))) := hD
        refine lv_goto (tgt := 239) hx hb dX13_statement_175 (by decide) ?_
        rw [← Option.some.inj hf]
        exact mc_retv hx hb hr hlk hP hK hD hS dX13_statement_239
    · rw [if_neg hc_6] at hf
      refine lv_aload_n hx hb dX13_statement_76 rfl (lv_at hl 0 rfl) ?_
      refine lv_aload_n hx hb dX13_statement_77 rfl (lv_at hl 0 rfl) ?_
      refine lv_aload_n hx hb dX13_statement_78 rfl (lv_at hl 0 rfl) ?_
      refine va_get (D := D) (ci := 9) (v := .int (os_I o_this 19)) (C := RX13) (T := TX13) (N := 48) hx hb hUX13 (fun _ h9 => h9) hown hK hP 0 rfl rfl 19 (by decide) (hts (Cond.fieldLink RX13 180 "ReliefBuilderModel" "hasSteps" "Z") (List.mem_of_getElem? (i := 6) rfl)) (fun _ h9 => h9) rfl dX13_statement_79 ?_
      obtain ⟨u_32, he_33, hf⟩ := os_bd hf
      refine mc_callV ⟨hx, hb, hml, hown, hts⟩ (mm_X13_once l D kA N q_this o_this (os_I o_this 19) u_32 he_33) (cwV 1 hts gX13_statement_X13_once rfl rfl rfl (by decide +kernel) ⟨Nat.le_of_ble_eq_true rfl, Nat.le_of_ble_eq_true rfl⟩) (wc := (ce_X13 kA q_this o_this)) (ci := 9) (q0 := 0) rfl rfl rfl hl.1 (As := [.int (os_I o_this 19)]) (rest := [.ref (q_this 0)]) rfl (Nat.le_of_ble_eq_true rfl) dX13_statement_82 ⟨Nat.le_of_ble_eq_true rfl, Nat.le_of_ble_eq_true rfl⟩ hK hP hD hS hA [0, 1, 2, 3, 4, 5, 6, 7, 8, 9, 10, 11, 12, 13, 14, 15, 16, 17, 18, 19, 20, 21, 22, 23] [] [0, 1, 2, 3, 4, 5, 6, 7, 8, 9, 10, 11, 12, 13, 14, 15, 16, 17, 18, 19, 20, 21, 22, 23] rfl (by decide) rfl (by decide) (by decide) rfl (by decide) (wr := []) (w2 := (ce_X13 kA q_this u_32.2)) (fun H locs hP hD hS => ?_)
      have hP : va_P D vwCl (ce_X13 kA q_this u_32.2) H := hP
      obtain ⟨hz_34, hf⟩ := os_if hf
      refine va_put (D := D) (ci := 9) (v := .int u_32.1) (ty := .boolean) (C := RX13) (T := TX13) (N := 48) hx hb hUX13 (fun _ h9 => h9) tyX13 tyX13_ok nmX13 hown hK hP hD hS 0 rfl rfl 19 (by decide) (hts (Cond.fieldLink RX13 180 "ReliefBuilderModel" "hasSteps" "Z") (List.mem_of_getElem? (i := 6) rfl)) (fun _ h9 => h9) rfl (tyX13_ok 19 (by decide)) (os_z_n hz_34) (os_z_f hz_34) (Nat.le_of_ble_eq_true rfl) dX13_statement_85 (fun H locs hP hD hS => ?_)
      have hP : va_P D vwCl (ce_X13 kA q_this (ss_I u_32.2 19 u_32.1)) H := hP
      have hD : va_D A (ce_X13 kA q_this (ss_I u_32.2 19 u_32.1)) := hD
      refine lv_aload_n hx hb dX13_statement_88 rfl (lv_at hl 0 rfl) ?_
      refine va_get (D := D) (ci := 9) (v := .ref (q_this 3)) (C := RX13) (T := TX13) (N := 48) hx hb hUX13 (fun _ h9 => h9) hown hK hP 0 rfl rfl 14 (by decide) (hts (Cond.fieldLink RX13 23 "ReliefBuilderModel" "read" "[I") (List.mem_of_getElem? (i := 4) rfl)) (fun _ h9 => h9) rfl dX13_statement_89 ?_
      refine lv_iconst (v := 2) hx hb dX13_statement_92 (by decide) ?_
      refine lv_aload_n hx hb dX13_statement_93 rfl (lv_at hl 0 rfl) ?_
      refine lv_iconst (v := 1) hx hb dX13_statement_94 (by decide) ?_
      refine lv_bipush (v := 20) hx hb dX13_statement_95 (by decide) ?_
      obtain ⟨u_35, he_36, hf⟩ := os_bd hf
      refine mc_callV ⟨hx, hb, hml, hown, hts⟩ (mm_X13_number l D kA N q_this (ss_I u_32.2 19 u_32.1) (1 : Int32) (20 : Int32) u_35 he_36) (cwV 2 hts gX13_statement_X13_number rfl rfl rfl (by decide +kernel) ⟨Nat.le_of_ble_eq_true rfl, Nat.le_of_ble_eq_true rfl⟩) (wc := (ce_X13 kA q_this (ss_I u_32.2 19 u_32.1))) (ci := 9) (q0 := 0) rfl rfl rfl hl.1 (As := [.int (1 : Int32), .int (20 : Int32)]) (rest := [.int (2 : Int32), .ref (q_this 3)]) rfl (Nat.le_of_ble_eq_true rfl) dX13_statement_97 ⟨Nat.le_of_ble_eq_true rfl, Nat.le_of_ble_eq_true rfl⟩ hK hP hD hS hA [0, 1, 2, 3, 4, 5, 6, 7, 8, 9, 10, 11, 12, 13, 14, 15, 16, 17, 18, 19, 20, 21, 22, 23] [] [0, 1, 2, 3, 4, 5, 6, 7, 8, 9, 10, 11, 12, 13, 14, 15, 16, 17, 18, 19, 20, 21, 22, 23] rfl (by decide) rfl (by decide) (by decide) rfl (by decide) (wr := []) (w2 := (ce_X13 kA q_this u_35.2)) (fun H locs hP hD hS => ?_)
      have hP : va_P D vwCl (ce_X13 kA q_this u_35.2) H := hP
      obtain ⟨hi_37, hf⟩ := os_if hf
      refine va_iast hx hb hK hP hD hS 3 0 rfl rfl hi_37 dX13_statement_100 (fun H locs hP hD hS => ?_)
      have hP : va_P D vwCl (ce_X13 kA q_this (ss_A u_35.2 2 (upd (os_A u_35.2 2) (Int32.toNatClampNeg (2 : Int32)) u_35.1))) H := hP
      have hD : va_D A (ce_X13 kA q_this (ss_A u_35.2 2 (upd (os_A u_35.2 2) (Int32.toNatClampNeg (2 : Int32)) u_35.1))) := hD
      refine lv_aload_n hx hb dX13_statement_101 rfl (lv_at hl 0 rfl) ?_
      refine va_get (D := D) (ci := 9) (v := .ref (q_this 3)) (C := RX13) (T := TX13) (N := 48) hx hb hUX13 (fun _ h9 => h9) hown hK hP 0 rfl rfl 14 (by decide) (hts (Cond.fieldLink RX13 23 "ReliefBuilderModel" "read" "[I") (List.mem_of_getElem? (i := 4) rfl)) (fun _ h9 => h9) rfl dX13_statement_102 ?_
      refine lv_iconst (v := 3) hx hb dX13_statement_105 (by decide) ?_
      refine lv_aload_n hx hb dX13_statement_106 rfl (lv_at hl 0 rfl) ?_
      refine lv_ldc2 hx hb hown (hts (Cond.constantLong RX13 220 (7734899)) (List.mem_of_getElem? (i := 7) rfl)) dX13_statement_107 ?_
      refine lv_bipush (v := 10) hx hb dX13_statement_110 (by decide) ?_
      refine lv_bipush (v := 99) hx hb dX13_statement_112 (by decide) ?_
      obtain ⟨u_38, he_39, hf⟩ := os_bd hf
      refine mc_callV ⟨hx, hb, hml, hown, hts⟩ (mm_X13_numberBehind l D kA N q_this (ss_A u_35.2 2 (upd (os_A u_35.2 2) (Int32.toNatClampNeg (2 : Int32)) u_35.1)) (7734899 : Int64) (10 : Int32) (99 : Int32) u_38 he_39) (cwV 3 hts gX13_statement_X13_numberBehind rfl rfl rfl (by decide +kernel) ⟨Nat.le_of_ble_eq_true rfl, Nat.le_of_ble_eq_true rfl⟩) (wc := (ce_X13 kA q_this (ss_A u_35.2 2 (upd (os_A u_35.2 2) (Int32.toNatClampNeg (2 : Int32)) u_35.1)))) (ci := 9) (q0 := 0) rfl rfl rfl hl.1 (As := [.long (7734899 : Int64), .int (10 : Int32), .int (99 : Int32)]) (rest := [.int (3 : Int32), .ref (q_this 3)]) rfl (Nat.le_of_ble_eq_true rfl) dX13_statement_114 ⟨Nat.le_of_ble_eq_true rfl, Nat.le_of_ble_eq_true rfl⟩ hK hP hD hS hA [0, 1, 2, 3, 4, 5, 6, 7, 8, 9, 10, 11, 12, 13, 14, 15, 16, 17, 18, 19, 20, 21, 22, 23] [] [0, 1, 2, 3, 4, 5, 6, 7, 8, 9, 10, 11, 12, 13, 14, 15, 16, 17, 18, 19, 20, 21, 22, 23] rfl (by decide) rfl (by decide) (by decide) rfl (by decide) (wr := []) (w2 := (ce_X13 kA q_this u_38.2)) (fun H locs hP hD hS => ?_)
      have hP : va_P D vwCl (ce_X13 kA q_this u_38.2) H := hP
      obtain ⟨hi_40, hf⟩ := os_if hf
      refine va_iast hx hb hK hP hD hS 3 0 rfl rfl hi_40 dX13_statement_117 (fun H locs hP hD hS => ?_)
      have hP : va_P D vwCl (ce_X13 kA q_this (ss_A u_38.2 2 (upd (os_A u_38.2 2) (Int32.toNatClampNeg (3 : Int32)) u_38.1))) H := hP
      have hD : va_D A (ce_X13 kA q_this (ss_A u_38.2 2 (upd (os_A u_38.2 2) (Int32.toNatClampNeg (3 : Int32)) u_38.1))) := hD
      refine lv_aload_n hx hb dX13_statement_118 rfl (lv_at hl 0 rfl) ?_
      refine va_get (D := D) (ci := 9) (v := .ref (q_this 3)) (C := RX13) (T := TX13) (N := 48) hx hb hUX13 (fun _ h9 => h9) hown hK hP 0 rfl rfl 14 (by decide) (hts (Cond.fieldLink RX13 23 "ReliefBuilderModel" "read" "[I") (List.mem_of_getElem? (i := 4) rfl)) (fun _ h9 => h9) rfl dX13_statement_119 ?_
      refine lv_iconst (v := 4) hx hb dX13_statement_122 (by decide) ?_
      refine lv_aload_n hx hb dX13_statement_123 rfl (lv_at hl 0 rfl) ?_
      refine lv_ldc2 hx hb hown (hts (Cond.constantLong RX13 226 (67173)) (List.mem_of_getElem? (i := 8) rfl)) dX13_statement_124 ?_
      refine lv_iconst (v := 0) hx hb dX13_statement_127 (by decide) ?_
      refine lv_aload_n hx hb dX13_statement_128 rfl (lv_at hl 0 rfl) ?_
      refine va_get (D := D) (ci := 9) (v := .ref (q_this 3)) (C := RX13) (T := TX13) (N := 48) hx hb hUX13 (fun _ h9 => h9) hown hK hP 0 rfl rfl 14 (by decide) (hts (Cond.fieldLink RX13 23 "ReliefBuilderModel" "read" "[I") (List.mem_of_getElem? (i := 4) rfl)) (fun _ h9 => h9) rfl dX13_statement_129 ?_
      refine lv_iconst (v := 2) hx hb dX13_statement_132 (by decide) ?_
      obtain ⟨hi_41, hf⟩ := os_if hf
      refine va_iald hx hb hK hP 3 0 rfl rfl hi_41 dX13_statement_133 ?_
      obtain ⟨u_42, he_43, hf⟩ := os_bd hf
      refine mc_callV ⟨hx, hb, hml, hown, hts⟩ (mm_X13_numberBehind l D kA N q_this (ss_A u_38.2 2 (upd (os_A u_38.2 2) (Int32.toNatClampNeg (3 : Int32)) u_38.1)) (67173 : Int64) (0 : Int32) ((upd (os_A u_38.2 2) (Int32.toNatClampNeg (3 : Int32)) u_38.1) (Int32.toNatClampNeg (2 : Int32))) u_42 he_43) (cwV 3 hts gX13_statement_X13_numberBehind rfl rfl rfl (by decide +kernel) ⟨Nat.le_of_ble_eq_true rfl, Nat.le_of_ble_eq_true rfl⟩) (wc := (ce_X13 kA q_this (ss_A u_38.2 2 (upd (os_A u_38.2 2) (Int32.toNatClampNeg (3 : Int32)) u_38.1)))) (ci := 9) (q0 := 0) rfl rfl rfl hl.1 (As := [.long (67173 : Int64), .int (0 : Int32), .int ((upd (os_A u_38.2 2) (Int32.toNatClampNeg (3 : Int32)) u_38.1) (Int32.toNatClampNeg (2 : Int32)))]) (rest := [.int (4 : Int32), .ref (q_this 3)]) rfl (Nat.le_of_ble_eq_true rfl) dX13_statement_134 ⟨Nat.le_of_ble_eq_true rfl, Nat.le_of_ble_eq_true rfl⟩ hK hP hD hS hA [0, 1, 2, 3, 4, 5, 6, 7, 8, 9, 10, 11, 12, 13, 14, 15, 16, 17, 18, 19, 20, 21, 22, 23] [] [0, 1, 2, 3, 4, 5, 6, 7, 8, 9, 10, 11, 12, 13, 14, 15, 16, 17, 18, 19, 20, 21, 22, 23] rfl (by decide) rfl (by decide) (by decide) rfl (by decide) (wr := []) (w2 := (ce_X13 kA q_this u_42.2)) (fun H locs hP hD hS => ?_)
      have hP : va_P D vwCl (ce_X13 kA q_this u_42.2) H := hP
      obtain ⟨hi_44, hf⟩ := os_if hf
      refine va_iast hx hb hK hP hD hS 3 0 rfl rfl hi_44 dX13_statement_137 (fun H locs hP hD hS => ?_)
      have hP : va_P D vwCl (ce_X13 kA q_this (ss_A u_42.2 2 (upd (os_A u_42.2 2) (Int32.toNatClampNeg (4 : Int32)) u_42.1))) H := hP
      have hD : va_D A (ce_X13 kA q_this (ss_A u_42.2 2 (upd (os_A u_42.2 2) (Int32.toNatClampNeg (4 : Int32)) u_42.1))) := hD
      refine lv_goto (tgt := 239) hx hb dX13_statement_138 (by decide) ?_
      rw [← Option.some.inj hf]
      exact mc_retv hx hb hr hlk hP hK hD hS dX13_statement_239
  · rw [if_neg hc_3] at hf
    refine lv_aload_n hx hb dX13_statement_10 rfl (lv_at hl 0 rfl) ?_
    refine lv_aload_n hx hb dX13_statement_11 rfl (lv_at hl 0 rfl) ?_
    refine lv_aload_n hx hb dX13_statement_12 rfl (lv_at hl 0 rfl) ?_
    refine va_get (D := D) (ci := 9) (v := .int (os_I o_this 18)) (C := RX13) (T := TX13) (N := 48) hx hb hUX13 (fun _ h9 => h9) hown hK hP 0 rfl rfl 18 (by decide) (hts (Cond.fieldLink RX13 176 "ReliefBuilderModel" "hasPanel" "Z") (List.mem_of_getElem? (i := 2) rfl)) (fun _ h9 => h9) rfl dX13_statement_13 ?_
    refine lv_if_ne (tgt := 26) hx hb dX13_statement_16 (by decide) (fun hc_45 => ?_) (fun hc_45 => ?_)
    · rw [if_neg hc_45] at hf
      exact hB26 o_this _ _ _ hP hD hS (lv_sub hl [0] rfl) hf
    · rw [if_pos hc_45] at hf
      refine lv_aload_n hx hb dX13_statement_19 rfl (lv_at hl 0 rfl) ?_
      refine va_get (D := D) (ci := 9) (v := .int (os_I o_this 22)) (C := RX13) (T := TX13) (N := 48) hx hb hUX13 (fun _ h9 => h9) hown hK hP 0 rfl rfl 22 (by decide) (hts (Cond.fieldLink RX13 189 "ReliefBuilderModel" "rows" "I") (List.mem_of_getElem? (i := 3) rfl)) (fun _ h9 => h9) rfl dX13_statement_20 ?_
      refine lv_if_le (tgt := 30) hx hb dX13_statement_23 (by decide) (fun hc_46 => ?_) (fun hc_46 => ?_)
      · rw [if_pos hc_46] at hf
        refine lv_iconst (v := 0) hx hb dX13_statement_30 (by decide) ?_
        exact hB31 o_this (0 : Int32) _ _ _ hP hD hS (lv_sub hl [0] rfl) hf
      · rw [if_neg hc_46] at hf
        exact hB26 o_this _ _ _ hP hD hS (lv_sub hl [0] rfl) hf
def ff_X13_readText_b45 (N : Nat) (o_this : os_T) : Option (Int32 × os_T) :=
  ((ff_X13_endsText N o_this).bind fun u_13 => (if u_13.1 = 0 then some ((0 : Int32), u_13.2) else ((ff_X13_lays N u_13.2).bind fun u_16 => some (os_I u_16 23, u_16))))
def ff_X13_readText_c8 (N : Nat) (k8 : os_T → Option (Int32 × os_T)) (o_this : os_T) : Option (Int32 × os_T) :=
  ((ff_X13_isGood N o_this).bind fun u_5 => (if u_5 = 0 then ff_X13_readText_b45 N o_this else (if (os_I o_this 6) = 0 then ff_X13_readText_b45 N o_this else ((ff_X13_statement N o_this).bind fun u_9 => ((ff_X13_mustSign N u_9 (59 : Int32)).bind fun u_11 => k8 (ss_I u_11 23 ((os_I u_11 23) + (1 : Int32))))))))
def ff_X13_readText_l8 (N : Nat) : Nat → os_T → Option (Int32 × os_T) := os_loop (fun k8 s1 => ff_X13_readText_c8 N k8 s1)
def ff_X13_readText (N : Nat) (o_this : os_T) : Option (Int32 × os_T) :=
  ((ff_X13_beginsText N o_this).bind fun u_1 => ((ff_X13_begins N u_1).bind fun u_3 => ff_X13_readText_l8 N N u_3))
set_option maxHeartbeats 4000000 in
set_option maxRecDepth 100000 in
theorem mm_X13_readText (l : Launch) (D : va_G) (kA : Nat → ClassId) (N : Nat) (q_this : Nat → Nat) (o_this : os_T) (out : (Int32 × os_T)) (hf : ff_X13_readText N o_this = some out) : mc_C l D kA yX13_readText wsX13_readText ({ frames := 5, cells := 0, slots := 0, locals := 110 } : Room) [.ref (q_this 0)] (ce_X13 kA q_this o_this) (some (.int out.1)) (ce_X13 kA q_this out.2) := by
  refine mc_of (cc := cX13_readText) (maxL := 1) (ret := (some .int)) (by decide) rfl (Nat.le_of_ble_eq_true rfl) ?_
  intro p e s m below meth c A B hD hP hS ls hl
  obtain ⟨hx, hb, hr, hlk, hml, hown, hts, hK, hA, hnm⟩ := B
  have hown : s.vm.findClass RX13 = some m.cls := hown
  have hl : lv_has ls 1 [(0, .ref (q_this 0))] := hl
  have hUX13 : ∀ w ∈ u_ws RX13 TX13 48, w.before [.ref (q_this 0)].toArray s = true := fun w h => hts w (List.mem_cons_of_mem _ (List.mem_append_right _ h))
  have hB45 : ∀ (o_this : os_T) (H : Heap) (locs : List Loc) (ls : Array Slot), va_P D vwCl (ce_X13 kA q_this o_this) H → va_D A (ce_X13 kA q_this o_this) → va_S A s.heap H locs → lv_has ls 1 [(0, .ref (q_this 0))] → ff_X13_readText_b45 N o_this = some out → W p l e ({ frames := 5, cells := 0, slots := 0, locals := 110 } : Room) s m [.ref (q_this 0)].toArray below meth c H locs 0 0 (MQ below (mc_Q D kA A (some (.int out.1)) (ce_X13 kA q_this out.2)) [.ref (q_this 0)].toArray s 0 0 A) (F0 m 45 ls []) := by
    intro o_this H locs ls hP hD hS hl hf
    unfold ff_X13_readText_b45 at hf
    refine lv_aload_n hx hb dX13_readText_45 rfl (lv_at hl 0 rfl) ?_
    obtain ⟨u_13, he_14, hf⟩ := os_bd hf
    refine mc_callV ⟨hx, hb, hml, hown, hts⟩ (mm_X13_endsText l D kA N q_this o_this u_13 he_14) (cwV 0 hts gX13_readText_X13_endsText rfl rfl rfl (by decide +kernel) ⟨Nat.le_of_ble_eq_true rfl, Nat.le_of_ble_eq_true rfl⟩) (wc := (ce_X13 kA q_this o_this)) (ci := 9) (q0 := 0) rfl rfl rfl hl.1 (As := []) (rest := []) rfl (Nat.le_of_ble_eq_true rfl) dX13_readText_46 ⟨Nat.le_of_ble_eq_true rfl, Nat.le_of_ble_eq_true rfl⟩ hK hP hD hS hA [0, 1, 2, 3, 4, 5, 6, 7, 8, 9, 10, 11, 12, 13, 14, 15, 16, 17, 18, 19, 20, 21, 22, 23] [] [0, 1, 2, 3, 4, 5, 6, 7, 8, 9, 10, 11, 12, 13, 14, 15, 16, 17, 18, 19, 20, 21, 22, 23] rfl (by decide) rfl (by decide) (by decide) rfl (by decide) (wr := []) (w2 := (ce_X13 kA q_this u_13.2)) (fun H locs hP hD hS => ?_)
    have hP : va_P D vwCl (ce_X13 kA q_this u_13.2) H := hP
    refine lv_if_ne (tgt := 54) hx hb dX13_readText_49 (by decide) (fun hc_15 => ?_) (fun hc_15 => ?_)
    · rw [if_neg hc_15] at hf
      refine lv_aload_n hx hb dX13_readText_54 rfl (lv_at hl 0 rfl) ?_
      obtain ⟨u_16, he_17, hf⟩ := os_bd hf
      refine mc_callV ⟨hx, hb, hml, hown, hts⟩ (mm_X13_lays l D kA N q_this u_13.2 u_16 he_17) (cwV 0 hts gX13_readText_X13_lays rfl rfl rfl (by decide +kernel) ⟨Nat.le_of_ble_eq_true rfl, Nat.le_of_ble_eq_true rfl⟩) (wc := (ce_X13 kA q_this u_13.2)) (ci := 9) (q0 := 0) rfl rfl rfl hl.1 (As := []) (rest := []) rfl (Nat.le_of_ble_eq_true rfl) dX13_readText_55 ⟨Nat.le_of_ble_eq_true rfl, Nat.le_of_ble_eq_true rfl⟩ hK hP hD hS hA [0, 1, 2, 3, 4, 5, 6, 7, 8, 9, 10, 11, 12, 13, 14, 15, 16, 17, 18, 19, 20, 21, 22, 23] [] [0, 1, 2, 3, 4, 5, 6, 7, 8, 9, 10, 11, 12, 13, 14, 15, 16, 17, 18, 19, 20, 21, 22, 23] rfl (by decide) rfl (by decide) (by decide) rfl (by decide) (wr := []) (w2 := (ce_X13 kA q_this u_16)) (fun H locs hP hD hS => ?_)
      have hP : va_P D vwCl (ce_X13 kA q_this u_16) H := hP
      refine lv_aload_n hx hb dX13_readText_58 rfl (lv_at hl 0 rfl) ?_
      refine va_get (D := D) (ci := 9) (v := .int (os_I u_16 23)) (C := RX13) (T := TX13) (N := 48) hx hb hUX13 (fun _ h9 => h9) hown hK hP 0 rfl rfl 23 (by decide) (hts (Cond.fieldLink RX13 192 "ReliefBuilderModel" "statements" "I") (List.mem_of_getElem? (i := 2) rfl)) (fun _ h9 => h9) rfl dX13_readText_59 ?_
      rw [← Option.some.inj hf]
      exact mc_reti hx hb hr hlk hP hK hD hS dX13_readText_62
    · rw [if_pos hc_15] at hf
      refine lv_iconst (v := 0) hx hb dX13_readText_52 (by decide) ?_
      rw [← Option.some.inj hf]
      exact mc_reti hx hb hr hlk hP hK hD hS dX13_readText_53
  have hL8 : ∀ (n : Nat) (o_this : os_T) (H : Heap) (locs : List Loc) (ls : Array Slot), va_P D vwCl (ce_X13 kA q_this o_this) H → va_D A (ce_X13 kA q_this o_this) → va_S A s.heap H locs → lv_has ls 1 [(0, .ref (q_this 0))] → ff_X13_readText_l8 N n o_this = some out → W p l e ({ frames := 5, cells := 0, slots := 0, locals := 110 } : Room) s m [.ref (q_this 0)].toArray below meth c H locs 0 0 (MQ below (mc_Q D kA A (some (.int out.1)) (ce_X13 kA q_this out.2)) [.ref (q_this 0)].toArray s 0 0 A) (F0 m 8 ls []) := by
    intro n
    induction n with
    | zero => intro o_this H locs ls _ _ _ _ hf; cases hf
    | succ n hk8 =>
      intro o_this H locs ls hP hD hS hl hf
      have hf : ff_X13_readText_c8 N (ff_X13_readText_l8 N n) o_this = some out := hf
      generalize hke : ff_X13_readText_l8 N n = k8 at hk8 hf
      unfold ff_X13_readText_c8 at hf
      refine lv_aload_n hx hb dX13_readText_8 rfl (lv_at hl 0 rfl) ?_
      obtain ⟨u_5, he_6, hf⟩ := os_bd hf
      refine mc_callV ⟨hx, hb, hml, hown, hts⟩ (mm_X13_isGood l D kA N q_this o_this u_5 he_6) (cwV 0 hts gX13_readText_X13_isGood rfl rfl rfl (by decide +kernel) ⟨Nat.le_of_ble_eq_true rfl, Nat.le_of_ble_eq_true rfl⟩) (wc := (ce_X13 kA q_this o_this)) (ci := 9) (q0 := 0) rfl rfl rfl hl.1 (As := []) (rest := []) rfl (Nat.le_of_ble_eq_true rfl) dX13_readText_9 ⟨Nat.le_of_ble_eq_true rfl, Nat.le_of_ble_eq_true rfl⟩ hK hP hD hS hA [0, 1, 2, 3, 4, 5, 6, 7, 8, 9, 10, 11, 12, 13, 14, 15, 16, 17, 18, 19, 20, 21, 22, 23] [] [0, 1, 2, 3, 4, 5, 6, 7, 8, 9, 10, 11, 12, 13, 14, 15, 16, 17, 18, 19, 20, 21, 22, 23] rfl (by decide) rfl (by decide) (by decide) rfl (by decide) (wr := []) (w2 := (ce_X13 kA q_this o_this)) (fun H locs hP hD hS => ?_)
      have hP : va_P D vwCl (ce_X13 kA q_this o_this) H := hP
      refine lv_if_eq (tgt := 45) hx hb dX13_readText_12 (by decide) (fun hc_7 => ?_) (fun hc_7 => ?_)
      · rw [if_pos hc_7] at hf
        exact hB45 o_this _ _ _ hP hD hS (lv_sub hl [0] rfl) hf
      · rw [if_neg hc_7] at hf
        refine lv_aload_n hx hb dX13_readText_15 rfl (lv_at hl 0 rfl) ?_
        refine va_get (D := D) (ci := 9) (v := .int (os_I o_this 6)) (C := RX13) (T := TX13) (N := 48) hx hb hUX13 (fun _ h9 => h9) hown hK hP 0 rfl rfl 6 (by decide) (hts (Cond.fieldLink RX13 135 "ReliefBuilderModel" "sort" "I") (List.mem_of_getElem? (i := 1) rfl)) (fun _ h9 => h9) rfl dX13_readText_16 ?_
        refine lv_if_eq (tgt := 45) hx hb dX13_readText_19 (by decide) (fun hc_8 => ?_) (fun hc_8 => ?_)
        · rw [if_pos hc_8] at hf
          exact hB45 o_this _ _ _ hP hD hS (lv_sub hl [0] rfl) hf
        · rw [if_neg hc_8] at hf
          refine lv_aload_n hx hb dX13_readText_22 rfl (lv_at hl 0 rfl) ?_
          obtain ⟨u_9, he_10, hf⟩ := os_bd hf
          refine mc_callV ⟨hx, hb, hml, hown, hts⟩ (mm_X13_statement l D kA N q_this o_this u_9 he_10) (cwV 0 hts gX13_readText_X13_statement rfl rfl rfl (by decide +kernel) ⟨Nat.le_of_ble_eq_true rfl, Nat.le_of_ble_eq_true rfl⟩) (wc := (ce_X13 kA q_this o_this)) (ci := 9) (q0 := 0) rfl rfl rfl hl.1 (As := []) (rest := []) rfl (Nat.le_of_ble_eq_true rfl) dX13_readText_23 ⟨Nat.le_of_ble_eq_true rfl, Nat.le_of_ble_eq_true rfl⟩ hK hP hD hS hA [0, 1, 2, 3, 4, 5, 6, 7, 8, 9, 10, 11, 12, 13, 14, 15, 16, 17, 18, 19, 20, 21, 22, 23] [] [0, 1, 2, 3, 4, 5, 6, 7, 8, 9, 10, 11, 12, 13, 14, 15, 16, 17, 18, 19, 20, 21, 22, 23] rfl (by decide) rfl (by decide) (by decide) rfl (by decide) (wr := []) (w2 := (ce_X13 kA q_this u_9)) (fun H locs hP hD hS => ?_)
          have hP : va_P D vwCl (ce_X13 kA q_this u_9) H := hP
          refine lv_aload_n hx hb dX13_readText_26 rfl (lv_at hl 0 rfl) ?_
          refine lv_bipush (v := 59) hx hb dX13_readText_27 (by decide) ?_
          obtain ⟨u_11, he_12, hf⟩ := os_bd hf
          refine mc_callV ⟨hx, hb, hml, hown, hts⟩ (mm_X13_mustSign l D kA N q_this u_9 (59 : Int32) u_11 he_12) (cwV 1 hts gX13_readText_X13_mustSign rfl rfl rfl (by decide +kernel) ⟨Nat.le_of_ble_eq_true rfl, Nat.le_of_ble_eq_true rfl⟩) (wc := (ce_X13 kA q_this u_9)) (ci := 9) (q0 := 0) rfl rfl rfl hl.1 (As := [.int (59 : Int32)]) (rest := []) rfl (Nat.le_of_ble_eq_true rfl) dX13_readText_29 ⟨Nat.le_of_ble_eq_true rfl, Nat.le_of_ble_eq_true rfl⟩ hK hP hD hS hA [0, 1, 2, 3, 4, 5, 6, 7, 8, 9, 10, 11, 12, 13, 14, 15, 16, 17, 18, 19, 20, 21, 22, 23] [] [0, 1, 2, 3, 4, 5, 6, 7, 8, 9, 10, 11, 12, 13, 14, 15, 16, 17, 18, 19, 20, 21, 22, 23] rfl (by decide) rfl (by decide) (by decide) rfl (by decide) (wr := []) (w2 := (ce_X13 kA q_this u_11)) (fun H locs hP hD hS => ?_)
          have hP : va_P D vwCl (ce_X13 kA q_this u_11) H := hP
          refine lv_aload_n hx hb dX13_readText_32 rfl (lv_at hl 0 rfl) ?_
          refine lv_dup hx hb dX13_readText_33 rfl ?_
          refine va_get (D := D) (ci := 9) (v := .int (os_I u_11 23)) (C := RX13) (T := TX13) (N := 48) hx hb hUX13 (fun _ h9 => h9) hown hK hP 0 rfl rfl 23 (by decide) (hts (Cond.fieldLink RX13 192 "ReliefBuilderModel" "statements" "I") (List.mem_of_getElem? (i := 2) rfl)) (fun _ h9 => h9) rfl dX13_readText_34 ?_
          refine lv_iconst (v := 1) hx hb dX13_readText_37 (by decide) ?_
          refine lv_iadd hx hb dX13_readText_38 ?_
          refine va_put (D := D) (ci := 9) (v := .int ((os_I u_11 23) + (1 : Int32))) (ty := .int) (C := RX13) (T := TX13) (N := 48) hx hb hUX13 (fun _ h9 => h9) tyX13 tyX13_ok nmX13 hown hK hP hD hS 0 rfl rfl 23 (by decide) (hts (Cond.fieldLink RX13 192 "ReliefBuilderModel" "statements" "I") (List.mem_of_getElem? (i := 2) rfl)) (fun _ h9 => h9) rfl (tyX13_ok 23 (by decide)) rfl rfl (Nat.le_of_ble_eq_true rfl) dX13_readText_39 (fun H locs hP hD hS => ?_)
          have hP : va_P D vwCl (ce_X13 kA q_this (ss_I u_11 23 ((os_I u_11 23) + (1 : Int32)))) H := hP
          have hD : va_D A (ce_X13 kA q_this (ss_I u_11 23 ((os_I u_11 23) + (1 : Int32)))) := hD
          refine lv_goto (tgt := 8) hx hb dX13_readText_42 (by decide) ?_
          exact hk8 (ss_I u_11 23 ((os_I u_11 23) + (1 : Int32))) _ _ _ hP hD hS (lv_sub hl [0] rfl) hf
  unfold ff_X13_readText at hf
  refine lv_aload_n hx hb dX13_readText_0 rfl (lv_at hl 0 rfl) ?_
  obtain ⟨u_1, he_2, hf⟩ := os_bd hf
  refine mc_callV ⟨hx, hb, hml, hown, hts⟩ (mm_X13_beginsText l D kA N q_this o_this u_1 he_2) (cwV 0 hts gX13_readText_X13_beginsText rfl rfl rfl (by decide +kernel) ⟨Nat.le_of_ble_eq_true rfl, Nat.le_of_ble_eq_true rfl⟩) (wc := (ce_X13 kA q_this o_this)) (ci := 9) (q0 := 0) rfl rfl rfl hl.1 (As := []) (rest := []) rfl (Nat.le_of_ble_eq_true rfl) dX13_readText_1 ⟨Nat.le_of_ble_eq_true rfl, Nat.le_of_ble_eq_true rfl⟩ hK hP hD hS hA [0, 1, 2, 3, 4, 5, 6, 7, 8, 9, 10, 11, 12, 13, 14, 15, 16, 17, 18, 19, 20, 21, 22, 23] [] [0, 1, 2, 3, 4, 5, 6, 7, 8, 9, 10, 11, 12, 13, 14, 15, 16, 17, 18, 19, 20, 21, 22, 23] rfl (by decide) rfl (by decide) (by decide) rfl (by decide) (wr := []) (w2 := (ce_X13 kA q_this u_1)) (fun H locs hP hD hS => ?_)
  have hP : va_P D vwCl (ce_X13 kA q_this u_1) H := hP
  refine lv_aload_n hx hb dX13_readText_4 rfl (lv_at hl 0 rfl) ?_
  obtain ⟨u_3, he_4, hf⟩ := os_bd hf
  refine mc_callV ⟨hx, hb, hml, hown, hts⟩ (mm_X13_begins l D kA N q_this u_1 u_3 he_4) (cwV 0 hts gX13_readText_X13_begins rfl rfl rfl (by decide +kernel) ⟨Nat.le_of_ble_eq_true rfl, Nat.le_of_ble_eq_true rfl⟩) (wc := (ce_X13 kA q_this u_1)) (ci := 9) (q0 := 0) rfl rfl rfl hl.1 (As := []) (rest := []) rfl (Nat.le_of_ble_eq_true rfl) dX13_readText_5 ⟨Nat.le_of_ble_eq_true rfl, Nat.le_of_ble_eq_true rfl⟩ hK hP hD hS hA [0, 1, 2, 3, 4, 5, 6, 7, 8, 9, 10, 11, 12, 13, 14, 15, 16, 17, 18, 19, 20, 21, 22, 23] [] [0, 1, 2, 3, 4, 5, 6, 7, 8, 9, 10, 11, 12, 13, 14, 15, 16, 17, 18, 19, 20, 21, 22, 23] rfl (by decide) rfl (by decide) (by decide) rfl (by decide) (wr := []) (w2 := (ce_X13 kA q_this u_3)) (fun H locs hP hD hS => ?_)
  have hP : va_P D vwCl (ce_X13 kA q_this u_3) H := hP
  exact hL8 N u_3 _ _ _ hP hD hS (lv_sub hl [0] rfl) hf
