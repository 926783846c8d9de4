def ff_X4_countOfCells_b50 (N : Nat) (o_this : os_T) (o_this_panel : os_T) (k4 : (Int32 × Int32 × Int32) → Option Int32) (k18 : (Int32 × Int32 × Int32 × Int32) → Option Int32) (x1 : Int32) (x3 : Int32) (x4 : Int32) (t0 : Int32) (t1 : Int32) : Option Int32 :=
  k18 (x1, t1 + t0, x3, x4 + 1)
def ff_X4_countOfCells_c18 (N : Nat) (o_this : os_T) (o_this_panel : os_T) (k4 : (Int32 × Int32 × Int32) → Option Int32) (k18 : (Int32 × Int32 × Int32 × Int32) → Option Int32) (x1 : Int32) (x2 : Int32) (x3 : Int32) (x4 : Int32) : Option Int32 :=
  (if (os_I o_this_panel 0) ≤ x4 then k4 (x1, x2, x3 + 1) else ((ff_X5_reaches N o_this_panel x4 x3 x1).bind fun u_3 => (if u_3 = 0 then ff_X4_countOfCells_b50 N o_this o_this_panel k4 k18 x1 x3 x4 (0 : Int32) x2 else ff_X4_countOfCells_b50 N o_this o_this_panel k4 k18 x1 x3 x4 (1 : Int32) x2)))
def ff_X4_countOfCells_l18 (N : Nat) (o_this : os_T) (o_this_panel : os_T) (k4 : (Int32 × Int32 × Int32) → Option Int32) : Nat → (Int32 × Int32 × Int32 × Int32) → Option Int32 := os_loop (fun k18 s1 => ff_X4_countOfCells_c18 N o_this o_this_panel k4 k18 s1.1 s1.2.1 s1.2.2.1 s1.2.2.2)
def ff_X4_countOfCells_c4 (N : Nat) (o_this : os_T) (o_this_panel : os_T) (k4 : (Int32 × Int32 × Int32) → Option Int32) (x1 : Int32) (x2 : Int32) (x3 : Int32) : Option Int32 :=
  (if (os_I o_this_panel 1) ≤ x3 then some x2 else ff_X4_countOfCells_l18 N o_this o_this_panel k4 N (x1, x2, x3, (0 : Int32)))
def ff_X4_countOfCells_l4 (N : Nat) (o_this : os_T) (o_this_panel : os_T) : Nat → (Int32 × Int32 × Int32) → Option Int32 := os_loop (fun k4 s1 => ff_X4_countOfCells_c4 N o_this o_this_panel k4 s1.1 s1.2.1 s1.2.2)
def ff_X4_countOfCells (N : Nat) (o_this : os_T) (o_this_panel : os_T) (a1 : Int32) : Option Int32 :=
  ff_X4_countOfCells_l4 N o_this o_this_panel N (a1, (0 : Int32), (0 : Int32))
set_option maxHeartbeats 4000000 in
set_option maxRecDepth 100000 in
theorem mm_X4_countOfCells (l : Launch) (D : va_G) (kA : Nat → ClassId) (N : Nat) (q_this : Nat → Nat) (q_this_panel : Nat → Nat) (o_this : os_T) (o_this_panel : os_T) (a1 : Int32) (out : Int32) (hf : ff_X4_countOfCells N o_this o_this_panel a1 = some out) : mc_C l D kA yX4_countOfCells wsX4_countOfCells ({ frames := 1, cells := 0, slots := 0, locals := 23 } : Room) [.ref (q_this 0), .int a1] (ce_X4 kA q_this q_this_panel o_this ++ (ce_X5 kA q_this_panel o_this_panel)) (some (.int out)) (ce_X4 kA q_this q_this_panel o_this ++ (ce_X5 kA q_this_panel o_this_panel)) := by
  refine mc_of (cc := cX4_countOfCells) (maxL := 5) (ret := (some .int)) (by decide) rfl (Nat.le_of_ble_eq_true rfl) ?_
  intro p e s m below meth c A B hD hP hS ls hl
  obtain ⟨hx, hb, hr, hlk, hml, hown, hts, hK, hA, hnm⟩ := B
  have hown : s.vm.findClass RX4 = some m.cls := hown
  have hl : lv_has ls 5 [(0, .ref (q_this 0)), (1, .int a1)] := hl
  have hUX4 : ∀ w ∈ u_ws RX4 TX4 4, w.before [.ref (q_this 0), .int a1].toArray s = true := fun w h => hts w (List.mem_cons_of_mem _ (List.mem_append_left _ (List.mem_append_right _ h)))
  have hUX5 : ∀ w ∈ u_ws RX5 TX5 10, w.before [.ref (q_this 0), .int a1].toArray s = true := fun w h => hts w (List.mem_cons_of_mem _ (List.mem_append_right _ h))
  have hB50 : ∀ (k4 : (Int32 × Int32 × Int32) → Option Int32), (∀ (x1 : Int32) (x2 : Int32) (x3 : Int32) (H : Heap) (locs : List Loc) (ls : Array Slot), va_P D vwCl (ce_X4 kA q_this q_this_panel o_this ++ (ce_X5 kA q_this_panel o_this_panel)) H → va_D A (ce_X4 kA q_this q_this_panel o_this ++ (ce_X5 kA q_this_panel o_this_panel)) → va_S A s.heap H locs → lv_has ls 5 [(0, .ref (q_this 0)), (1, .int x1), (2, .int x2), (3, .int x3)] → k4 (x1, x2, x3) = some out → W p l e ({ frames := 1, cells := 0, slots := 0, locals := 23 } : Room) s m [.ref (q_this 0), .int a1].toArray below meth c H locs 0 0 (MQ below (mc_Q D kA A (some (.int out)) (ce_X4 kA q_this q_this_panel o_this ++ (ce_X5 kA q_this_panel o_this_panel))) [.ref (q_this 0), .int a1].toArray s 0 0 A) (F0 m 4 ls [])) → ∀ (k18 : (Int32 × Int32 × Int32 × Int32) → Option Int32), (∀ (x1 : Int32) (x2 : Int32) (x3 : Int32) (x4 : Int32) (H : Heap) (locs : List Loc) (ls : Array Slot), va_P D vwCl (ce_X4 kA q_this q_this_panel o_this ++ (ce_X5 kA q_this_panel o_this_panel)) H → va_D A (ce_X4 kA q_this q_this_panel o_this ++ (ce_X5 kA q_this_panel o_this_panel)) → va_S A s.heap H locs → lv_has ls 5 [(0, .ref (q_this 0)), (1, .int x1), (2, .int x2), (3, .int x3), (4, .int x4)] → k18 (x1, x2, x3, x4) = some out → W p l e ({ frames := 1, cells := 0, slots := 0, locals := 23 } : Room) s m [.ref (q_this 0), .int a1].toArray below meth c H locs 0 0 (MQ below (mc_Q D kA A (some (.int out)) (ce_X4 kA q_this q_this_panel o_this ++ (ce_X5 kA q_this_panel o_this_panel))) [.ref (q_this 0), .int a1].toArray s 0 0 A) (F0 m 18 ls [])) → ∀ (x1 : Int32) (x3 : Int32) (x4 : Int32) (t0 : Int32) (t1 : Int32) (H : Heap) (locs : List Loc) (ls : Array Slot), va_P D vwCl (ce_X4 kA q_this q_this_panel o_this ++ (ce_X5 kA q_this_panel o_this_panel)) H → va_D A (ce_X4 kA q_this q_this_panel o_this ++ (ce_X5 kA q_this_panel o_this_panel)) → va_S A s.heap H locs → lv_has ls 5 [(0, .ref (q_this 0)), (1, .int x1), (3, .int x3), (4, .int x4)] → ff_X4_countOfCells_b50 N o_this o_this_panel k4 k18 x1 x3 x4 t0 t1 = some out → W p l e ({ frames := 1, cells := 0, slots := 0, locals := 23 } : Room) s m [.ref (q_this 0), .int a1].toArray below meth c H locs 0 0 (MQ below (mc_Q D kA A (some (.int out)) (ce_X4 kA q_this q_this_panel o_this ++ (ce_X5 kA q_this_panel o_this_panel))) [.ref (q_this 0), .int a1].toArray s 0 0 A) (F0 m 50 ls [.int t0, .int t1]) := by
    intro k4 hk4 k18 hk18 x1 x3 x4 t0 t1 H locs ls hP hD hS hl hf
    unfold ff_X4_countOfCells_b50 at hf
    refine lv_iadd hx hb dX4_countOfCells_50 ?_
    refine lv_istore_n (lv' := [(2, .int (t1 + t0)), (0, .ref (q_this 0)), (1, .int x1), (3, .int x3), (4, .int x4)]) hx hb dX4_countOfCells_51 rfl hl (by decide) rfl (fun ls hl => ?_)
    refine lv_iinc (v := x4 + 1) (lv' := [(4, .int (x4 + 1)), (2, .int (t1 + t0)), (0, .ref (q_this 0)), (1, .int x1), (3, .int x3)]) hx hb dX4_countOfCells_52 hl (k := 4) rfl rfl (by decide) rfl (fun ls hl => ?_)
    refine lv_goto (tgt := 18) hx hb dX4_countOfCells_55 (by decide) ?_
    exact hk18 x1 (t1 + t0) x3 (x4 + 1) _ _ _ hP hD hS (lv_sub hl [2, 3, 1, 4, 0] rfl) hf
  have hL18 : ∀ (k4 : (Int32 × Int32 × Int32) → Option Int32), (∀ (x1 : Int32) (x2 : Int32) (x3 : Int32) (H : Heap) (locs : List Loc) (ls : Array Slot), va_P D vwCl (ce_X4 kA q_this q_this_panel o_this ++ (ce_X5 kA q_this_panel o_this_panel)) H → va_D A (ce_X4 kA q_this q_this_panel o_this ++ (ce_X5 kA q_this_panel o_this_panel)) → va_S A s.heap H locs → lv_has ls 5 [(0, .ref (q_this 0)), (1, .int x1), (2, .int x2), (3, .int x3)] → k4 (x1, x2, x3) = some out → W p l e ({ frames := 1, cells := 0, slots := 0, locals := 23 } : Room) s m [.ref (q_this 0), .int a1].toArray below meth c H locs 0 0 (MQ below (mc_Q D kA A (some (.int out)) (ce_X4 kA q_this q_this_panel o_this ++ (ce_X5 kA q_this_panel o_this_panel))) [.ref (q_this 0), .int a1].toArray s 0 0 A) (F0 m 4 ls [])) → ∀ (n : Nat) (x1 : Int32) (x2 : Int32) (x3 : Int32) (x4 : Int32) (H : Heap) (locs : List Loc) (ls : Array Slot), va_P D vwCl (ce_X4 kA q_this q_this_panel o_this ++ (ce_X5 kA q_this_panel o_this_panel)) H → va_D A (ce_X4 kA q_this q_this_panel o_this ++ (ce_X5 kA q_this_panel o_this_panel)) → va_S A s.heap H locs → lv_has ls 5 [(0, .ref (q_this 0)), (1, .int x1), (2, .int x2), (3, .int x3), (4, .int x4)] → ff_X4_countOfCells_l18 N o_this o_this_panel k4 n (x1, x2, x3, x4) = some out → W p l e ({ frames := 1, cells := 0, slots := 0, locals := 23 } : Room) s m [.ref (q_this 0), .int a1].toArray below meth c H locs 0 0 (MQ below (mc_Q D kA A (some (.int out)) (ce_X4 kA q_this q_this_panel o_this ++ (ce_X5 kA q_this_panel o_this_panel))) [.ref (q_this 0), .int a1].toArray s 0 0 A) (F0 m 18 ls []) := by
    intro k4 hk4 n
    induction n with
    | zero => intro x1 x2 x3 x4 H locs ls _ _ _ _ hf; cases hf
    | succ n hk18 =>
      intro x1 x2 x3 x4 H locs ls hP hD hS hl hf
      have hf : ff_X4_countOfCells_c18 N o_this o_this_panel k4 (ff_X4_countOfCells_l18 N o_this o_this_panel k4 n) x1 x2 x3 x4 = some out := hf
      generalize hke : ff_X4_countOfCells_l18 N o_this o_this_panel k4 n = k18 at hk18 hf
      unfold ff_X4_countOfCells_c18 at hf
      refine lv_iload hx hb dX4_countOfCells_18 (lv_at hl 4 rfl) ?_
      refine lv_aload_n hx hb dX4_countOfCells_20 rfl (lv_at hl 0 rfl) ?_
      refine va_get (D := D) (ci := 3) (v := .ref (q_this_panel 0)) (C := RX4) (T := TX4) (N := 4) hx hb hUX4 (fun _ h9 => h9) hown hK hP 0 rfl rfl 0 (by decide) (hts (Cond.fieldLink RX4 19 "ReliefBuilder$Layers" "panel" "LReliefBuilder$Panel;") (List.mem_of_getElem? (i := 1) rfl)) (fun _ h9 => h9) rfl dX4_countOfCells_21 ?_
      refine va_get (D := D) (ci := 4) (v := .int (os_I o_this_panel 0)) (C := RX5) (T := TX5) (N := 10) hx hb hUX5 (fun _ h9 => h9) hown hK hP 3 rfl rfl 0 (by decide) (hts (Cond.fieldLink RX4 29 "ReliefBuilder$Panel" "width" "I") (List.mem_of_getElem? (i := 3) rfl)) (fun _ h9 => h9) rfl dX4_countOfCells_24 ?_
      refine lv_icmp_ge (tgt := 58) hx hb dX4_countOfCells_27 (by decide) (fun hc_2 => ?_) (fun hc_2 => ?_)
      · rw [if_pos hc_2] at hf
        refine lv_iinc (v := x3 + 1) (lv' := [(3, .int (x3 + 1)), (0, .ref (q_this 0)), (1, .int x1), (2, .int x2), (4, .int x4)]) hx hb dX4_countOfCells_58 hl (k := 3) rfl rfl (by decide) rfl (fun ls hl => ?_)
        refine lv_goto (tgt := 4) hx hb dX4_countOfCells_61 (by decide) ?_
        exact hk4 x1 x2 (x3 + 1) _ _ _ hP hD hS (lv_sub hl [1, 2, 3, 0] rfl) hf
      · rw [if_neg hc_2] at hf
        refine lv_iload_n hx hb dX4_countOfCells_30 rfl (lv_at hl 2 rfl) ?_
        refine lv_aload_n hx hb dX4_countOfCells_31 rfl (lv_at hl 0 rfl) ?_
        refine va_get (D := D) (ci := 3) (v := .ref (q_this_panel 0)) (C := RX4) (T := TX4) (N := 4) hx hb hUX4 (fun _ h9 => h9) hown hK hP 0 rfl rfl 0 (by decide) (hts (Cond.fieldLink RX4 19 "ReliefBuilder$Layers" "panel" "LReliefBuilder$Panel;") (List.mem_of_getElem? (i := 1) rfl)) (fun _ h9 => h9) rfl dX4_countOfCells_32 ?_
        refine lv_iload hx hb dX4_countOfCells_35 (lv_at hl 4 rfl) ?_
        refine lv_iload_n hx hb dX4_countOfCells_37 rfl (lv_at hl 3 rfl) ?_
        refine lv_iload_n hx hb dX4_countOfCells_38 rfl (lv_at hl 1 rfl) ?_
        obtain ⟨u_3, he_4, hf⟩ := os_bd hf
        refine mc_callV ⟨hx, hb, hml, hown, hts⟩ (mm_X5_reaches l D kA N q_this_panel o_this_panel x4 x3 x1 u_3 he_4) (cwV 3 hts gX4_countOfCells_X5_reaches rfl rfl rfl (by decide +kernel) ⟨Nat.le_of_ble_eq_true rfl, Nat.le_of_ble_eq_true rfl⟩) (wc := (ce_X5 kA q_this_panel o_this_panel)) (ci := 4) (q0 := 0) rfl rfl rfl hl.1 (As := [.int x4, .int x3, .int x1]) (rest := [.int x2]) rfl (Nat.le_of_ble_eq_true rfl) dX4_countOfCells_39 ⟨Nat.le_of_ble_eq_true rfl, Nat.le_of_ble_eq_true rfl⟩ hK hP hD hS hA [3, 4, 5, 6] [0, 1, 2] [0, 1, 2, 3, 4, 5, 6] rfl (by decide) rfl (by decide) (by decide) rfl (by decide) (wr := (ce_X4 kA q_this q_this_panel o_this)) (w2 := (ce_X4 kA q_this q_this_panel o_this ++ (ce_X5 kA q_this_panel o_this_panel))) (fun H locs hP hD hS => ?_)
        have hP : va_P D vwCl (ce_X4 kA q_this q_this_panel o_this ++ (ce_X5 kA q_this_panel o_this_panel)) H := hP
        refine lv_if_eq (tgt := 49) hx hb dX4_countOfCells_42 (by decide) (fun hc_5 => ?_) (fun hc_5 => ?_)
        · rw [if_pos hc_5] at hf
          refine lv_iconst (v := 0) hx hb dX4_countOfCells_49 (by decide) ?_
          exact hB50 k4 hk4 k18 hk18 x1 x3 x4 (0 : Int32) x2 _ _ _ hP hD hS (lv_sub hl [0, 1, 3, 4] rfl) hf
        · rw [if_neg hc_5] at hf
          refine lv_iconst (v := 1) hx hb dX4_countOfCells_45 (by decide) ?_
          refine lv_goto (tgt := 50) hx hb dX4_countOfCells_46 (by decide) ?_
          exact hB50 k4 hk4 k18 hk18 x1 x3 x4 (1 : Int32) x2 _ _ _ hP hD hS (lv_sub hl [0, 1, 3, 4] rfl) hf
  have hL4 : ∀ (n : Nat) (x1 : Int32) (x2 : Int32) (x3 : Int32) (H : Heap) (locs : List Loc) (ls : Array Slot), va_P D vwCl (ce_X4 kA q_this q_this_panel o_this ++ (ce_X5 kA q_this_panel o_this_panel)) H → va_D A (ce_X4 kA q_this q_this_panel o_this ++ (ce_X5 kA q_this_panel o_this_panel)) → va_S A s.heap H locs → lv_has ls 5 [(0, .ref (q_this 0)), (1, .int x1), (2, .int x2), (3, .int x3)] → ff_X4_countOfCells_l4 N o_this o_this_panel n (x1, x2, x3) = some out → W p l e ({ frames := 1, cells := 0, slots := 0, locals := 23 } : Room) s m [.ref (q_this 0), .int a1].toArray below meth c H locs 0 0 (MQ below (mc_Q D kA A (some (.int out)) (ce_X4 kA q_this q_this_panel o_this ++ (ce_X5 kA q_this_panel o_this_panel))) [.ref (q_this 0), .int a1].toArray s 0 0 A) (F0 m 4 ls []) := by
    intro n
    induction n with
    | zero => intro x1 x2 x3 H locs ls _ _ _ _ hf; cases hf
    | succ n hk4 =>
      intro x1 x2 x3 H locs ls hP hD hS hl hf
      have hf : ff_X4_countOfCells_c4 N o_this o_this_panel (ff_X4_countOfCells_l4 N o_this o_this_panel n) x1 x2 x3 = some out := hf
      generalize hke : ff_X4_countOfCells_l4 N o_this o_this_panel n = k4 at hk4 hf
      unfold ff_X4_countOfCells_c4 at hf
      refine lv_iload_n hx hb dX4_countOfCells_4 rfl (lv_at hl 3 rfl) ?_
      refine lv_aload_n hx hb dX4_countOfCells_5 rfl (lv_at hl 0 rfl) ?_
      refine va_get (D := D) (ci := 3) (v := .ref (q_this_panel 0)) (C := RX4) (T := TX4) (N := 4) hx hb hUX4 (fun _ h9 => h9) hown hK hP 0 rfl rfl 0 (by decide) (hts (Cond.fieldLink RX4 19 "ReliefBuilder$Layers" "panel" "LReliefBuilder$Panel;") (List.mem_of_getElem? (i := 1) rfl)) (fun _ h9 => h9) rfl dX4_countOfCells_6 ?_
      refine va_get (D := D) (ci := 4) (v := .int (os_I o_this_panel 1)) (C := RX5) (T := TX5) (N := 10) hx hb hUX5 (fun _ h9 => h9) hown hK hP 3 rfl rfl 1 (by decide) (hts (Cond.fieldLink RX4 23 "ReliefBuilder$Panel" "rows" "I") (List.mem_of_getElem? (i := 2) rfl)) (fun _ h9 => h9) rfl dX4_countOfCells_9 ?_
      refine lv_icmp_ge (tgt := 64) hx hb dX4_countOfCells_12 (by decide) (fun hc_1 => ?_) (fun hc_1 => ?_)
      · rw [if_pos hc_1] at hf
        refine lv_iload_n hx hb dX4_countOfCells_64 rfl (lv_at hl 2 rfl) ?_
        rw [← Option.some.inj hf]
        exact mc_reti hx hb hr hlk hP hK hD hS dX4_countOfCells_65
      · rw [if_neg hc_1] at hf
        refine lv_iconst (v := 0) hx hb dX4_countOfCells_15 (by decide) ?_
        refine lv_istore (lv' := [(4, .int (0 : Int32)), (0, .ref (q_this 0)), (1, .int x1), (2, .int x2), (3, .int x3)]) hx hb dX4_countOfCells_16 hl (by decide) rfl (fun ls hl => ?_)
        exact hL18 k4 hk4 N x1 x2 x3 (0 : Int32) _ _ _ hP hD hS (lv_sub hl [1, 2, 3, 4, 0] rfl) hf
  unfold ff_X4_countOfCells at hf
  refine lv_iconst (v := 0) hx hb dX4_countOfCells_0 (by decide) ?_
  refine lv_istore_n (lv' := [(2, .int (0 : Int32)), (0, .ref (q_this 0)), (1, .int a1)]) hx hb dX4_countOfCells_1 rfl hl (by decide) rfl (fun ls hl => ?_)
  refine lv_iconst (v := 0) hx hb dX4_countOfCells_2 (by decide) ?_
  refine lv_istore_n (lv' := [(3, .int (0 : Int32)), (2, .int (0 : Int32)), (0, .ref (q_this 0)), (1, .int a1)]) hx hb dX4_countOfCells_3 rfl hl (by decide) rfl (fun ls hl => ?_)
  exact hL4 N a1 (0 : Int32) (0 : Int32) _ _ _ hP hD hS (lv_sub hl [2, 3, 1, 0] rfl) hf
def ff_X4_beginsRun (N : Nat) (o_this : os_T) (o_this_panel : os_T) (a1 : Int32) (a2 : Int32) (a3 : Int32) : Option Int32 :=
  ((ff_X5_reaches N o_this_panel a2 a3 a1).bind fun u_1 => (if u_1 = 0 then some (0 : Int32) else ((ff_X5_reaches N o_this_panel (a2 - (1 : Int32)) a3 a1).bind fun u_4 => (if u_4 = 0 then some (1 : Int32) else some (0 : Int32)))))
set_option maxHeartbeats 4000000 in
set_option maxRecDepth 100000 in
theorem mm_X4_beginsRun (l : Launch) (D : va_G) (kA : Nat → ClassId) (N : Nat) (q_this : Nat → Nat) (q_this_panel : Nat → Nat) (o_this : os_T) (o_this_panel : os_T) (a1 : Int32) (a2 : Int32) (a3 : Int32) (out : Int32) (hf : ff_X4_beginsRun N o_this o_this_panel a1 a2 a3 = some out) : mc_C l D kA yX4_beginsRun wsX4_beginsRun ({ frames := 1, cells := 0, slots := 0, locals := 23 } : Room) [.ref (q_this 0), .int a1, .int a2, .int a3] (ce_X4 kA q_this q_this_panel o_this ++ (ce_X5 kA q_this_panel o_this_panel)) (some (.int out)) (ce_X4 kA q_this q_this_panel o_this ++ (ce_X5 kA q_this_panel o_this_panel)) := by
  refine mc_of (cc := cX4_beginsRun) (maxL := 4) (ret := (some .boolean)) (by decide) rfl (Nat.le_of_ble_eq_true rfl) ?_
  intro p e s m below meth c A B hD hP hS ls hl
  obtain ⟨hx, hb, hr, hlk, hml, hown, hts, hK, hA, hnm⟩ := B
  have hown : s.vm.findClass RX4 = some m.cls := hown
  have hl : lv_has ls 4 [(0, .ref (q_this 0)), (1, .int a1), (2, .int a2), (3, .int a3)] := hl
  have hUX4 : ∀ w ∈ u_ws RX4 TX4 4, w.before [.ref (q_this 0), .int a1, .int a2, .int a3].toArray s = true := fun w h => hts w (List.mem_cons_of_mem _ (List.mem_append_left _ (List.mem_append_right _ h)))
  unfold ff_X4_beginsRun at hf
  refine lv_aload_n hx hb dX4_beginsRun_0 rfl (lv_at hl 0 rfl) ?_
  refine va_get (D := D) (ci := 3) (v := .ref (q_this_panel 0)) (C := RX4) (T := TX4) (N := 4) hx hb hUX4 (fun _ h9 => h9) hown hK hP 0 rfl rfl 0 (by decide) (hts (Cond.fieldLink RX4 19 "ReliefBuilder$Layers" "panel" "LReliefBuilder$Panel;") (List.mem_of_getElem? (i := 1) rfl)) (fun _ h9 => h9) rfl dX4_beginsRun_1 ?_
  refine lv_iload_n hx hb dX4_beginsRun_4 rfl (lv_at hl 2 rfl) ?_
  refine lv_iload_n hx hb dX4_beginsRun_5 rfl (lv_at hl 3 rfl) ?_
  refine lv_iload_n hx hb dX4_beginsRun_6 rfl (lv_at hl 1 rfl) ?_
  obtain ⟨u_1, he_2, hf⟩ := os_bd hf
  refine mc_callV ⟨hx, hb, hml, hown, hts⟩ (mm_X5_reaches l D kA N q_this_panel o_this_panel a2 a3 a1 u_1 he_2) (cwV 3 hts gX4_beginsRun_X5_reaches rfl rfl rfl (by decide +kernel) ⟨Nat.le_of_ble_eq_true rfl, Nat.le_of_ble_eq_true rfl⟩) (wc := (ce_X5 kA q_this_panel o_this_panel)) (ci := 4) (q0 := 0) rfl rfl rfl hl.1 (As := [.int a2, .int a3, .int a1]) (rest := []) rfl (Nat.le_of_ble_eq_true rfl) dX4_beginsRun_7 ⟨Nat.le_of_ble_eq_true rfl, Nat.le_of_ble_eq_true rfl⟩ hK hP hD hS hA [3, 4, 5, 6] [0, 1, 2] [0, 1, 2, 3, 4, 5, 6] rfl (by decide) rfl (by decide) (by decide) rfl (by decide) (wr := (ce_X4 kA q_this q_this_panel o_this)) (w2 := (ce_X4 kA q_this q_this_panel o_this ++ (ce_X5 kA q_this_panel o_this_panel))) (fun H locs hP hD hS => ?_)
  have hP : va_P D vwCl (ce_X4 kA q_this q_this_panel o_this ++ (ce_X5 kA q_this_panel o_this_panel)) H := hP
  refine lv_if_eq (tgt := 32) hx hb dX4_beginsRun_10 (by decide) (fun hc_3 => ?_) (fun hc_3 => ?_)
  · rw [if_pos hc_3] at hf
    refine lv_iconst (v := 0) hx hb dX4_beginsRun_32 (by decide) ?_
    rw [← Option.some.inj hf]
    exact mc_retz (v := 0) hx hb hr rfl hlk hP hK hD hS dX4_beginsRun_33
  · rw [if_neg hc_3] at hf
    refine lv_aload_n hx hb dX4_beginsRun_13 rfl (lv_at hl 0 rfl) ?_
    refine va_get (D := D) (ci := 3) (v := .ref (q_this_panel 0)) (C := RX4) (T := TX4) (N := 4) hx hb hUX4 (fun _ h9 => h9) hown hK hP 0 rfl rfl 0 (by decide) (hts (Cond.fieldLink RX4 19 "ReliefBuilder$Layers" "panel" "LReliefBuilder$Panel;") (List.mem_of_getElem? (i := 1) rfl)) (fun _ h9 => h9) rfl dX4_beginsRun_14 ?_
    refine lv_iload_n hx hb dX4_beginsRun_17 rfl (lv_at hl 2 rfl) ?_
    refine lv_iconst (v := 1) hx hb dX4_beginsRun_18 (by decide) ?_
    refine lv_isub hx hb dX4_beginsRun_19 ?_
    refine lv_iload_n hx hb dX4_beginsRun_20 rfl (lv_at hl 3 rfl) ?_
    refine lv_iload_n hx hb dX4_beginsRun_21 rfl (lv_at hl 1 rfl) ?_
    obtain ⟨u_4, he_5, hf⟩ := os_bd hf
    refine mc_callV ⟨hx, hb, hml, hown, hts⟩ (mm_X5_reaches l D kA N q_this_panel o_this_panel (a2 - (1 : Int32)) a3 a1 u_4 he_5) (cwV 3 hts gX4_beginsRun_X5_reaches rfl rfl rfl (by decide +kernel) ⟨Nat.le_of_ble_eq_true rfl, Nat.le_of_ble_eq_true rfl⟩) (wc := (ce_X5 kA q_this_panel o_this_panel)) (ci := 4) (q0 := 0) rfl rfl rfl hl.1 (As := [.int (a2 - (1 : Int32)), .int a3, .int a1]) (rest := []) rfl (Nat.le_of_ble_eq_true rfl) dX4_beginsRun_22 ⟨Nat.le_of_ble_eq_true rfl, Nat.le_of_ble_eq_true rfl⟩ hK hP hD hS hA [3, 4, 5, 6] [0, 1, 2] [0, 1, 2, 3, 4, 5, 6] rfl (by decide) rfl (by decide) (by decide) rfl (by decide) (wr := (ce_X4 kA q_this q_this_panel o_this)) (w2 := (ce_X4 kA q_this q_this_panel o_this ++ (ce_X5 kA q_this_panel o_this_panel))) (fun H locs hP hD hS => ?_)
    have hP : va_P D vwCl (ce_X4 kA q_this q_this_panel o_this ++ (ce_X5 kA q_this_panel o_this_panel)) H := hP
    refine lv_if_ne (tgt := 32) hx hb dX4_beginsRun_25 (by decide) (fun hc_6 => ?_) (fun hc_6 => ?_)
    · rw [if_neg hc_6] at hf
      refine lv_iconst (v := 0) hx hb dX4_beginsRun_32 (by decide) ?_
      rw [← Option.some.inj hf]
      exact mc_retz (v := 0) hx hb hr rfl hlk hP hK hD hS dX4_beginsRun_33
    · rw [if_pos hc_6] at hf
      refine lv_iconst (v := 1) hx hb dX4_beginsRun_28 (by decide) ?_
      refine lv_goto (tgt := 33) hx hb dX4_beginsRun_29 (by decide) ?_
      rw [← Option.some.inj hf]
      exact mc_retz (v := 1) hx hb hr rfl hlk hP hK hD hS dX4_beginsRun_33
def ff_X4_runFrom_b36 (N : Nat) (o_this : os_T) (o_this_panel : os_T) (x2 : Int32) (x4 : Int32) : Option Int32 :=
  some (x4 - x2)
def ff_X4_runFrom_c6 (N : Nat) (o_this : os_T) (o_this_panel : os_T) (k6 : (Int32 × Int32 × Int32 × Int32 × Int32) → Option Int32) (x1 : Int32) (x2 : Int32) (x3 : Int32) (x4 : Int32) (x5 : Int32) : Option Int32 :=
  (if (16 : Int32) ≤ x5 then ff_X4_runFrom_b36 N o_this o_this_panel x2 x4 else ((ff_X5_reaches N o_this_panel x4 x3 x1).bind fun u_2 => (if u_2 = 0 then ff_X4_runFrom_b36 N o_this o_this_panel x2 x4 else k6 (x1, x2, x3, x4 + 1, x5 + 1))))
def ff_X4_runFrom_l6 (N : Nat) (o_this : os_T) (o_this_panel : os_T) : Nat → (Int32 × Int32 × Int32 × Int32 × Int32) → Option Int32 := os_loop (fun k6 s1 => ff_X4_runFrom_c6 N o_this o_this_panel k6 s1.1 s1.2.1 s1.2.2.1 s1.2.2.2.1 s1.2.2.2.2)
def ff_X4_runFrom (N : Nat) (o_this : os_T) (o_this_panel : os_T) (a1 : Int32) (a2 : Int32) (a3 : Int32) : Option Int32 :=
  ff_X4_runFrom_l6 N o_this o_this_panel N (a1, a2, a3, a2, (0 : Int32))
set_option maxHeartbeats 4000000 in
set_option maxRecDepth 100000 in
theorem mm_X4_runFrom (l : Launch) (D : va_G) (kA : Nat → ClassId) (N : Nat) (q_this : Nat → Nat) (q_this_panel : Nat → Nat) (o_this : os_T) (o_this_panel : os_T) (a1 : Int32) (a2 : Int32) (a3 : Int32) (out : Int32) (hf : ff_X4_runFrom N o_this o_this_panel a1 a2 a3 = some out) : mc_C l D kA yX4_runFrom wsX4_runFrom ({ frames := 1, cells := 0, slots := 0, locals := 23 } : Room) [.ref (q_this 0), .int a1, .int a2, .int a3] (ce_X4 kA q_this q_this_panel o_this ++ (ce_X5 kA q_this_panel o_this_panel)) (some (.int out)) (ce_X4 kA q_this q_this_panel o_this ++ (ce_X5 kA q_this_panel o_this_panel)) := by
  refine mc_of (cc := cX4_runFrom) (maxL := 6) (ret := (some .int)) (by decide) rfl (Nat.le_of_ble_eq_true rfl) ?_
  intro p e s m below meth c A B hD hP hS ls hl
  obtain ⟨hx, hb, hr, hlk, hml, hown, hts, hK, hA, hnm⟩ := B
  have hown : s.vm.findClass RX4 = some m.cls := hown
  have hl : lv_has ls 6 [(0, .ref (q_this 0)), (1, .int a1), (2, .int a2), (3, .int a3)] := hl
  have hUX4 : ∀ w ∈ u_ws RX4 TX4 4, w.before [.ref (q_this 0), .int a1, .int a2, .int a3].toArray s = true := fun w h => hts w (List.mem_cons_of_mem _ (List.mem_append_left _ (List.mem_append_right _ h)))
  have hB36 : ∀ (x2 : Int32) (x4 : Int32) (H : Heap) (locs : List Loc) (ls : Array Slot), va_P D vwCl (ce_X4 kA q_this q_this_panel o_this ++ (ce_X5 kA q_this_panel o_this_panel)) H → va_D A (ce_X4 kA q_this q_this_panel o_this ++ (ce_X5 kA q_this_panel o_this_panel)) → va_S A s.heap H locs → lv_has ls 6 [(2, .int x2), (4, .int x4)] → ff_X4_runFrom_b36 N o_this o_this_panel x2 x4 = some out → W p l e ({ frames := 1, cells := 0, slots := 0, locals := 23 } : Room) s m [.ref (q_this 0), .int a1, .int a2, .int a3].toArray below meth c H locs 0 0 (MQ below (mc_Q D kA A (some (.int out)) (ce_X4 kA q_this q_this_panel o_this ++ (ce_X5 kA q_this_panel o_this_panel))) [.ref (q_this 0), .int a1, .int a2, .int a3].toArray s 0 0 A) (F0 m 36 ls []) := by
    intro x2 x4 H locs ls hP hD hS hl hf
    unfold ff_X4_runFrom_b36 at hf
    refine lv_iload hx hb dX4_runFrom_36 (lv_at hl 1 rfl) ?_
    refine lv_iload_n hx hb dX4_runFrom_38 rfl (lv_at hl 0 rfl) ?_
    refine lv_isub hx hb dX4_runFrom_39 ?_
    rw [← Option.some.inj hf]
    exact mc_reti hx hb hr hlk hP hK hD hS dX4_runFrom_40
  have hL6 : ∀ (n : Nat) (x1 : Int32) (x2 : Int32) (x3 : Int32) (x4 : Int32) (x5 : Int32) (H : Heap) (locs : List Loc) (ls : Array Slot), va_P D vwCl (ce_X4 kA q_this q_this_panel o_this ++ (ce_X5 kA q_this_panel o_this_panel)) H → va_D A (ce_X4 kA q_this q_this_panel o_this ++ (ce_X5 kA q_this_panel o_this_panel)) → va_S A s.heap H locs → lv_has ls 6 [(0, .ref (q_this 0)), (1, .int x1), (2, .int x2), (3, .int x3), (4, .int x4), (5, .int x5)] → ff_X4_runFrom_l6 N o_this o_this_panel n (x1, x2, x3, x4, x5) = some out → W p l e ({ frames := 1, cells := 0, slots := 0, locals := 23 } : Room) s m [.ref (q_this 0), .int a1, .int a2, .int a3].toArray below meth c H locs 0 0 (MQ below (mc_Q D kA A (some (.int out)) (ce_X4 kA q_this q_this_panel o_this ++ (ce_X5 kA q_this_panel o_this_panel))) [.ref (q_this 0), .int a1, .int a2, .int a3].toArray s 0 0 A) (F0 m 6 ls []) := by
    intro n
    induction n with
    | zero => intro x1 x2 x3 x4 x5 H locs ls _ _ _ _ hf; cases hf
    | succ n hk6 =>
      intro x1 x2 x3 x4 x5 H locs ls hP hD hS hl hf
      have hf : ff_X4_runFrom_c6 N o_this o_this_panel (ff_X4_runFrom_l6 N o_this o_this_panel n) x1 x2 x3 x4 x5 = some out := hf
      generalize hke : ff_X4_runFrom_l6 N o_this o_this_panel n = k6 at hk6 hf
      unfold ff_X4_runFrom_c6 at hf
      refine lv_iload hx hb dX4_runFrom_6 (lv_at hl 5 rfl) ?_
      refine lv_bipush (v := 16) hx hb dX4_runFrom_8 (by decide) ?_
      refine lv_icmp_ge (tgt := 36) hx hb dX4_runFrom_10 (by decide) (fun hc_1 => ?_) (fun hc_1 => ?_)
      · rw [if_pos hc_1] at hf
        exact hB36 x2 x4 _ _ _ hP hD hS (lv_sub hl [2, 4] rfl) hf
      · rw [if_neg hc_1] at hf
        refine lv_aload_n hx hb dX4_runFrom_13 rfl (lv_at hl 0 rfl) ?_
        refine va_get (D := D) (ci := 3) (v := .ref (q_this_panel 0)) (C := RX4) (T := TX4) (N := 4) hx hb hUX4 (fun _ h9 => h9) hown hK hP 0 rfl rfl 0 (by decide) (hts (Cond.fieldLink RX4 19 "ReliefBuilder$Layers" "panel" "LReliefBuilder$Panel;") (List.mem_of_getElem? (i := 1) rfl)) (fun _ h9 => h9) rfl dX4_runFrom_14 ?_
        refine lv_iload hx hb dX4_runFrom_17 (lv_at hl 4 rfl) ?_
        refine lv_iload_n hx hb dX4_runFrom_19 rfl (lv_at hl 3 rfl) ?_
        refine lv_iload_n hx hb dX4_runFrom_20 rfl (lv_at hl 1 rfl) ?_
        obtain ⟨u_2, he_3, hf⟩ := os_bd hf
        refine mc_callV ⟨hx, hb, hml, hown, hts⟩ (mm_X5_reaches l D kA N q_this_panel o_this_panel x4 x3 x1 u_2 he_3) (cwV 3 hts gX4_runFrom_X5_reaches rfl rfl rfl (by decide +kernel) ⟨Nat.le_of_ble_eq_true rfl, Nat.le_of_ble_eq_true rfl⟩) (wc := (ce_X5 kA q_this_panel o_this_panel)) (ci := 4) (q0 := 0) rfl rfl rfl hl.1 (As := [.int x4, .int x3, .int x1]) (rest := []) rfl (Nat.le_of_ble_eq_true rfl) dX4_runFrom_21 ⟨Nat.le_of_ble_eq_true rfl, Nat.le_of_ble_eq_true rfl⟩ hK hP hD hS hA [3, 4, 5, 6] [0, 1, 2] [0, 1, 2, 3, 4, 5, 6] rfl (by decide) rfl (by decide) (by decide) rfl (by decide) (wr := (ce_X4 kA q_this q_this_panel o_this)) (w2 := (ce_X4 kA q_this q_this_panel o_this ++ (ce_X5 kA q_this_panel o_this_panel))) (fun H locs hP hD hS => ?_)
        have hP : va_P D vwCl (ce_X4 kA q_this q_this_panel o_this ++ (ce_X5 kA q_this_panel o_this_panel)) H := hP
        refine lv_if_eq (tgt := 36) hx hb dX4_runFrom_24 (by decide) (fun hc_4 => ?_) (fun hc_4 => ?_)
        · rw [if_pos hc_4] at hf
          exact hB36 x2 x4 _ _ _ hP hD hS (lv_sub hl [2, 4] rfl) hf
        · rw [if_neg hc_4] at hf
          refine lv_iinc (v := x4 + 1) (lv' := [(4, .int (x4 + 1)), (0, .ref (q_this 0)), (1, .int x1), (2, .int x2), (3, .int x3), (5, .int x5)]) hx hb dX4_runFrom_27 hl (k := 4) rfl rfl (by decide) rfl (fun ls hl => ?_)
          refine lv_iinc (v := x5 + 1) (lv' := [(5, .int (x5 + 1)), (4, .int (x4 + 1)), (0, .ref (q_this 0)), (1, .int x1), (2, .int x2), (3, .int x3)]) hx hb dX4_runFrom_30 hl (k := 5) rfl rfl (by decide) rfl (fun ls hl => ?_)
          refine lv_goto (tgt := 6) hx hb dX4_runFrom_33 (by decide) ?_
          exact hk6 x1 x2 x3 (x4 + 1) (x5 + 1) _ _ _ hP hD hS (lv_sub hl [2, 3, 4, 5, 1, 0] rfl) hf
  unfold ff_X4_runFrom at hf
  refine lv_iload_n hx hb dX4_runFrom_0 rfl (lv_at hl 2 rfl) ?_
  refine lv_istore (lv' := [(4, .int a2), (0, .ref (q_this 0)), (1, .int a1), (2, .int a2), (3, .int a3)]) hx hb dX4_runFrom_1 hl (by decide) rfl (fun ls hl => ?_)
  refine lv_iconst (v := 0) hx hb dX4_runFrom_3 (by decide) ?_
  refine lv_istore (lv' := [(5, .int (0 : Int32)), (4, .int a2), (0, .ref (q_this 0)), (1, .int a1), (2, .int a2), (3, .int a3)]) hx hb dX4_runFrom_4 hl (by decide) rfl (fun ls hl => ?_)
  exact hL6 N a1 a2 a3 a2 (0 : Int32) _ _ _ hP hD hS (lv_sub hl [2, 3, 4, 5, 1, 0] rfl) hf
def ff_X4_countOfRuns_b47 (N : Nat) (o_this : os_T) (o_this_panel : os_T) (k4 : (Int32 × Int32 × Int32) → Option Int32) (k18 : (Int32 × Int32 × Int32 × Int32) → Option Int32) (x1 : Int32) (x3 : Int32) (x4 : Int32) (t0 : Int32) (t1 : Int32) : Option Int32 :=
  k18 (x1, t1 + t0, x3, x4 + 1)
def ff_X4_countOfRuns_c18 (N : Nat) (o_this : os_T) (o_this_panel : os_T) (k4 : (Int32 × Int32 × Int32) → Option Int32) (k18 : (Int32 × Int32 × Int32 × Int32) → Option Int32) (x1 : Int32) (x2 : Int32) (x3 : Int32) (x4 : Int32) : Option Int32 :=
  (if (os_I o_this_panel 0) ≤ x4 then k4 (x1, x2, x3 + 1) else ((ff_X4_beginsRun N o_this o_this_panel x1 x4 x3).bind fun u_3 => (if u_3 = 0 then ff_X4_countOfRuns_b47 N o_this o_this_panel k4 k18 x1 x3 x4 (0 : Int32) x2 else ff_X4_countOfRuns_b47 N o_this o_this_panel k4 k18 x1 x3 x4 (1 : Int32) x2)))
def ff_X4_countOfRuns_l18 (N : Nat) (o_this : os_T) (o_this_panel : os_T) (k4 : (Int32 × Int32 × Int32) → Option Int32) : Nat → (Int32 × Int32 × Int32 × Int32) → Option Int32 := os_loop (fun k18 s1 => ff_X4_countOfRuns_c18 N o_this o_this_panel k4 k18 s1.1 s1.2.1 s1.2.2.1 s1.2.2.2)
def ff_X4_countOfRuns_c4 (N : Nat) (o_this : os_T) (o_this_panel : os_T) (k4 : (Int32 × Int32 × Int32) → Option Int32) (x1 : Int32) (x2 : Int32) (x3 : Int32) : Option Int32 :=
  (if (os_I o_this_panel 1) ≤ x3 then some x2 else ff_X4_countOfRuns_l18 N o_this o_this_panel k4 N (x1, x2, x3, (0 : Int32)))
def ff_X4_countOfRuns_l4 (N : Nat) (o_this : os_T) (o_this_panel : os_T) : Nat → (Int32 × Int32 × Int32) → Option Int32 := os_loop (fun k4 s1 => ff_X4_countOfRuns_c4 N o_this o_this_panel k4 s1.1 s1.2.1 s1.2.2)
def ff_X4_countOfRuns (N : Nat) (o_this : os_T) (o_this_panel : os_T) (a1 : Int32) : Option Int32 :=
  ff_X4_countOfRuns_l4 N o_this o_this_panel N (a1, (0 : Int32), (0 : Int32))
set_option maxHeartbeats 4000000 in
set_option maxRecDepth 100000 in
theorem mm_X4_countOfRuns (l : Launch) (D : va_G) (kA : Nat → ClassId) (N : Nat) (q_this : Nat → Nat) (q_this_panel : Nat → Nat) (o_this : os_T) (o_this_panel : os_T) (a1 : Int32) (out : Int32) (hf : ff_X4_countOfRuns N o_this o_this_panel a1 = some out) : mc_C l D kA yX4_countOfRuns wsX4_countOfRuns ({ frames := 2, cells := 0, slots := 0, locals := 46 } : Room) [.ref (q_this 0), .int a1] (ce_X4 kA q_this q_this_panel o_this ++ (ce_X5 kA q_this_panel o_this_panel)) (some (.int out)) (ce_X4 kA q_this q_this_panel o_this ++ (ce_X5 kA q_this_panel o_this_panel)) := by
  refine mc_of (cc := cX4_countOfRuns) (maxL := 5) (ret := (some .int)) (by decide) rfl (Nat.le_of_ble_eq_true rfl) ?_
  intro p e s m below meth c A B hD hP hS ls hl
  obtain ⟨hx, hb, hr, hlk, hml, hown, hts, hK, hA, hnm⟩ := B
  have hown : s.vm.findClass RX4 = some m.cls := hown
  have hl : lv_has ls 5 [(0, .ref (q_this 0)), (1, .int a1)] := hl
  have hUX4 : ∀ w ∈ u_ws RX4 TX4 4, w.before [.ref (q_this 0), .int a1].toArray s = true := fun w h => hts w (List.mem_cons_of_mem _ (List.mem_append_left _ (List.mem_append_right _ h)))
  have hUX5 : ∀ w ∈ u_ws RX5 TX5 10, w.before [.ref (q_this 0), .int a1].toArray s = true := fun w h => hts w (List.mem_cons_of_mem _ (List.mem_append_right _ h))
  have hB47 : ∀ (k4 : (Int32 × Int32 × Int32) → Option Int32), (∀ (x1 : Int32) (x2 : Int32) (x3 : Int32) (H : Heap) (locs : List Loc) (ls : Array Slot), va_P D vwCl (ce_X4 kA q_this q_this_panel o_this ++ (ce_X5 kA q_this_panel o_this_panel)) H → va_D A (ce_X4 kA q_this q_this_panel o_this ++ (ce_X5 kA q_this_panel o_this_panel)) → va_S A s.heap H locs → lv_has ls 5 [(0, .ref (q_this 0)), (1, .int x1), (2, .int x2), (3, .int x3)] → k4 (x1, x2, x3) = some out → W p l e ({ frames := 2, cells := 0, slots := 0, locals := 46 } : Room) s m [.ref (q_this 0), .int a1].toArray below meth c H locs 0 0 (MQ below (mc_Q D kA A (some (.int out)) (ce_X4 kA q_this q_this_panel o_this ++ (ce_X5 kA q_this_panel o_this_panel))) [.ref (q_this 0), .int a1].toArray s 0 0 A) (F0 m 4 ls [])) → ∀ (k18 : (Int32 × Int32 × Int32 × Int32) → Option Int32), (∀ (x1 : Int32) (x2 : Int32) (x3 : Int32) (x4 : Int32) (H : Heap) (locs : List Loc) (ls : Array Slot), va_P D vwCl (ce_X4 kA q_this q_this_panel o_this ++ (ce_X5 kA q_this_panel o_this_panel)) H → va_D A (ce_X4 kA q_this q_this_panel o_this ++ (ce_X5 kA q_this_panel o_this_panel)) → va_S A s.heap H locs → lv_has ls 5 [(0, .ref (q_this 0)), (1, .int x1), (2, .int x2), (3, .int x3), (4, .int x4)] → k18 (x1, x2, x3, x4) = some out → W p l e ({ frames := 2, cells := 0, slots := 0, locals := 46 } : Room) s m [.ref (q_this 0), .int a1].toArray below meth c H locs 0 0 (MQ below (mc_Q D kA A (some (.int out)) (ce_X4 kA q_this q_this_panel o_this ++ (ce_X5 kA q_this_panel o_this_panel))) [.ref (q_this 0), .int a1].toArray s 0 0 A) (F0 m 18 ls [])) → ∀ (x1 : Int32) (x3 : Int32) (x4 : Int32) (t0 : Int32) (t1 : Int32) (H : Heap) (locs : List Loc) (ls : Array Slot), va_P D vwCl (ce_X4 kA q_this q_this_panel o_this ++ (ce_X5 kA q_this_panel o_this_panel)) H → va_D A (ce_X4 kA q_this q_this_panel o_this ++ (ce_X5 kA q_this_panel o_this_panel)) → va_S A s.heap H locs → lv_has ls 5 [(0, .ref (q_this 0)), (1, .int x1), (3, .int x3), (4, .int x4)] → ff_X4_countOfRuns_b47 N o_this o_this_panel k4 k18 x1 x3 x4 t0 t1 = some out → W p l e ({ frames := 2, cells := 0, slots := 0, locals := 46 } : Room) s m [.ref (q_this 0), .int a1].toArray below meth c H locs 0 0 (MQ below (mc_Q D kA A (some (.int out)) (ce_X4 kA q_this q_this_panel o_this ++ (ce_X5 kA q_this_panel o_this_panel))) [.ref (q_this 0), .int a1].toArray s 0 0 A) (F0 m 47 ls [.int t0, .int t1]) := by
    intro k4 hk4 k18 hk18 x1 x3 x4 t0 t1 H locs ls hP hD hS hl hf
    unfold ff_X4_countOfRuns_b47 at hf
    refine lv_iadd hx hb dX4_countOfRuns_47 ?_
    refine lv_istore_n (lv' := [(2, .int (t1 + t0)), (0, .ref (q_this 0)), (1, .int x1), (3, .int x3), (4, .int x4)]) hx hb dX4_countOfRuns_48 rfl hl (by decide) rfl (fun ls hl => ?_)
    refine lv_iinc (v := x4 + 1) (lv' := [(4, .int (x4 + 1)), (2, .int (t1 + t0)), (0, .ref (q_this 0)), (1, .int x1), (3, .int x3)]) hx hb dX4_countOfRuns_49 hl (k := 4) rfl rfl (by decide) rfl (fun ls hl => ?_)
    refine lv_goto (tgt := 18) hx hb dX4_countOfRuns_52 (by decide) ?_
    exact hk18 x1 (t1 + t0) x3 (x4 + 1) _ _ _ hP hD hS (lv_sub hl [2, 3, 1, 4, 0] rfl) hf
  have hL18 : ∀ (k4 : (Int32 × Int32 × Int32) → Option Int32), (∀ (x1 : Int32) (x2 : Int32) (x3 : Int32) (H : Heap) (locs : List Loc) (ls : Array Slot), va_P D vwCl (ce_X4 kA q_this q_this_panel o_this ++ (ce_X5 kA q_this_panel o_this_panel)) H → va_D A (ce_X4 kA q_this q_this_panel o_this ++ (ce_X5 kA q_this_panel o_this_panel)) → va_S A s.heap H locs → lv_has ls 5 [(0, .ref (q_this 0)), (1, .int x1), (2, .int x2), (3, .int x3)] → k4 (x1, x2, x3) = some out → W p l e ({ frames := 2, cells := 0, slots := 0, locals := 46 } : Room) s m [.ref (q_this 0), .int a1].toArray below meth c H locs 0 0 (MQ below (mc_Q D kA A (some (.int out)) (ce_X4 kA q_this q_this_panel o_this ++ (ce_X5 kA q_this_panel o_this_panel))) [.ref (q_this 0), .int a1].toArray s 0 0 A) (F0 m 4 ls [])) → ∀ (n : Nat) (x1 : Int32) (x2 : Int32) (x3 : Int32) (x4 : Int32) (H : Heap) (locs : List Loc) (ls : Array Slot), va_P D vwCl (ce_X4 kA q_this q_this_panel o_this ++ (ce_X5 kA q_this_panel o_this_panel)) H → va_D A (ce_X4 kA q_this q_this_panel o_this ++ (ce_X5 kA q_this_panel o_this_panel)) → va_S A s.heap H locs → lv_has ls 5 [(0, .ref (q_this 0)), (1, .int x1), (2, .int x2), (3, .int x3), (4, .int x4)] → ff_X4_countOfRuns_l18 N o_this o_this_panel k4 n (x1, x2, x3, x4) = some out → W p l e ({ frames := 2, cells := 0, slots := 0, locals := 46 } : Room) s m [.ref (q_this 0), .int a1].toArray below meth c H locs 0 0 (MQ below (mc_Q D kA A (some (.int out)) (ce_X4 kA q_this q_this_panel o_this ++ (ce_X5 kA q_this_panel o_this_panel))) [.ref (q_this 0), .int a1].toArray s 0 0 A) (F0 m 18 ls []) := by
    intro k4 hk4 n
    induction n with
    | zero => intro x1 x2 x3 x4 H locs ls _ _ _ _ hf; cases hf
    | succ n hk18 =>
      intro x1 x2 x3 x4 H locs ls hP hD hS hl hf
      have hf : ff_X4_countOfRuns_c18 N o_this o_this_panel k4 (ff_X4_countOfRuns_l18 N o_this o_this_panel k4 n) x1 x2 x3 x4 = some out := hf
      generalize hke : ff_X4_countOfRuns_l18 N o_this o_this_panel k4 n = k18 at hk18 hf
      unfold ff_X4_countOfRuns_c18 at hf
      refine lv_iload hx hb dX4_countOfRuns_18 (lv_at hl 4 rfl) ?_
      refine lv_aload_n hx hb dX4_countOfRuns_20 rfl (lv_at hl 0 rfl) ?_
      refine va_get (D := D) (ci := 3) (v := .ref (q_this_panel 0)) (C := RX4) (T := TX4) (N := 4) hx hb hUX4 (fun _ h9 => h9) hown hK hP 0 rfl rfl 0 (by decide) (hts (Cond.fieldLink RX4 19 "ReliefBuilder$Layers" "panel" "LReliefBuilder$Panel;") (List.mem_of_getElem? (i := 1) rfl)) (fun _ h9 => h9) rfl dX4_countOfRuns_21 ?_
      refine va_get (D := D) (ci := 4) (v := .int (os_I o_this_panel 0)) (C := RX5) (T := TX5) (N := 10) hx hb hUX5 (fun _ h9 => h9) hown hK hP 3 rfl rfl 0 (by decide) (hts (Cond.fieldLink RX4 29 "ReliefBuilder$Panel" "width" "I") (List.mem_of_getElem? (i := 3) rfl)) (fun _ h9 => h9) rfl dX4_countOfRuns_24 ?_
      refine lv_icmp_ge (tgt := 55) hx hb dX4_countOfRuns_27 (by decide) (fun hc_2 => ?_) (fun hc_2 => ?_)
      · rw [if_pos hc_2] at hf
        refine lv_iinc (v := x3 + 1) (lv' := [(3, .int (x3 + 1)), (0, .ref (q_this 0)), (1, .int x1), (2, .int x2), (4, .int x4)]) hx hb dX4_countOfRuns_55 hl (k := 3) rfl rfl (by decide) rfl (fun ls hl => ?_)
        refine lv_goto (tgt := 4) hx hb dX4_countOfRuns_58 (by decide) ?_
        exact hk4 x1 x2 (x3 + 1) _ _ _ hP hD hS (lv_sub hl [1, 2, 3, 0] rfl) hf
      · rw [if_neg hc_2] at hf
        refine lv_iload_n hx hb dX4_countOfRuns_30 rfl (lv_at hl 2 rfl) ?_
        refine lv_aload_n hx hb dX4_countOfRuns_31 rfl (lv_at hl 0 rfl) ?_
        refine lv_iload_n hx hb dX4_countOfRuns_32 rfl (lv_at hl 1 rfl) ?_
        refine lv_iload hx hb dX4_countOfRuns_33 (lv_at hl 4 rfl) ?_
        refine lv_iload_n hx hb dX4_countOfRuns_35 rfl (lv_at hl 3 rfl) ?_
        obtain ⟨u_3, he_4, hf⟩ := os_bd hf
        refine mc_callV ⟨hx, hb, hml, hown, hts⟩ (mm_X4_beginsRun l D kA N q_this q_this_panel o_this o_this_panel x1 x4 x3 u_3 he_4) (cwV 3 hts gX4_countOfRuns_X4_beginsRun rfl rfl rfl (by decide +kernel) ⟨Nat.le_of_ble_eq_true rfl, Nat.le_of_ble_eq_true rfl⟩) (wc := (ce_X4 kA q_this q_this_panel o_this ++ (ce_X5 kA q_this_panel o_this_panel))) (ci := 3) (q0 := 0) rfl rfl rfl hl.1 (As := [.int x1, .int x4, .int x3]) (rest := [.int x2]) rfl (Nat.le_of_ble_eq_true rfl) dX4_countOfRuns_36 ⟨Nat.le_of_ble_eq_true rfl, Nat.le_of_ble_eq_true rfl⟩ hK hP hD hS hA [0, 1, 2, 3, 4, 5, 6] [] [0, 1, 2, 3, 4, 5, 6] rfl (by decide) rfl (by decide) (by decide) rfl (by decide) (wr := []) (w2 := (ce_X4 kA q_this q_this_panel o_this ++ (ce_X5 kA q_this_panel o_this_panel))) (fun H locs hP hD hS => ?_)
        have hP : va_P D vwCl (ce_X4 kA q_this q_this_panel o_this ++ (ce_X5 kA q_this_panel o_this_panel)) H := hP
        refine lv_if_eq (tgt := 46) hx hb dX4_countOfRuns_39 (by decide) (fun hc_5 => ?_) (fun hc_5 => ?_)
        · rw [if_pos hc_5] at hf
          refine lv_iconst (v := 0) hx hb dX4_countOfRuns_46 (by decide) ?_
          exact hB47 k4 hk4 k18 hk18 x1 x3 x4 (0 : Int32) x2 _ _ _ hP hD hS (lv_sub hl [0, 1, 3, 4] rfl) hf
        · rw [if_neg hc_5] at hf
          refine lv_iconst (v := 1) hx hb dX4_countOfRuns_42 (by decide) ?_
          refine lv_goto (tgt := 47) hx hb dX4_countOfRuns_43 (by decide) ?_
          exact hB47 k4 hk4 k18 hk18 x1 x3 x4 (1 : Int32) x2 _ _ _ hP hD hS (lv_sub hl [0, 1, 3, 4] rfl) hf
  have hL4 : ∀ (n : Nat) (x1 : Int32) (x2 : Int32) (x3 : Int32) (H : Heap) (locs : List Loc) (ls : Array Slot), va_P D vwCl (ce_X4 kA q_this q_this_panel o_this ++ (ce_X5 kA q_this_panel o_this_panel)) H → va_D A (ce_X4 kA q_this q_this_panel o_this ++ (ce_X5 kA q_this_panel o_this_panel)) → va_S A s.heap H locs → lv_has ls 5 [(0, .ref (q_this 0)), (1, .int x1), (2, .int x2), (3, .int x3)] → ff_X4_countOfRuns_l4 N o_this o_this_panel n (x1, x2, x3) = some out → W p l e ({ frames := 2, cells := 0, slots := 0, locals := 46 } : Room) s m [.ref (q_this 0), .int a1].toArray below meth c H locs 0 0 (MQ below (mc_Q D kA A (some (.int out)) (ce_X4 kA q_this q_this_panel o_this ++ (ce_X5 kA q_this_panel o_this_panel))) [.ref (q_this 0), .int a1].toArray s 0 0 A) (F0 m 4 ls []) := by
    intro n
    induction n with
    | zero => intro x1 x2 x3 H locs ls _ _ _ _ hf; cases hf
    | succ n hk4 =>
      intro x1 x2 x3 H locs ls hP hD hS hl hf
      have hf : ff_X4_countOfRuns_c4 N o_this o_this_panel (ff_X4_countOfRuns_l4 N o_this o_this_panel n) x1 x2 x3 = some out := hf
      generalize hke : ff_X4_countOfRuns_l4 N o_this o_this_panel n = k4 at hk4 hf
      unfold ff_X4_countOfRuns_c4 at hf
      refine lv_iload_n hx hb dX4_countOfRuns_4 rfl (lv_at hl 3 rfl) ?_
      refine lv_aload_n hx hb dX4_countOfRuns_5 rfl (lv_at hl 0 rfl) ?_
      refine va_get (D := D) (ci := 3) (v := .ref (q_this_panel 0)) (C := RX4) (T := TX4) (N := 4) hx hb hUX4 (fun _ h9 => h9) hown hK hP 0 rfl rfl 0 (by decide) (hts (Cond.fieldLink RX4 19 "ReliefBuilder$Layers" "panel" "LReliefBuilder$Panel;") (List.mem_of_getElem? (i := 1) rfl)) (fun _ h9 => h9) rfl dX4_countOfRuns_6 ?_
      refine va_get (D := D) (ci := 4) (v := .int (os_I o_this_panel 1)) (C := RX5) (T := TX5) (N := 10) hx hb hUX5 (fun _ h9 => h9) hown hK hP 3 rfl rfl 1 (by decide) (hts (Cond.fieldLink RX4 23 "ReliefBuilder$Panel" "rows" "I") (List.mem_of_getElem? (i := 2) rfl)) (fun _ h9 => h9) rfl dX4_countOfRuns_9 ?_
      refine lv_icmp_ge (tgt := 61) hx hb dX4_countOfRuns_12 (by decide) (fun hc_1 => ?_) (fun hc_1 => ?_)
      · rw [if_pos hc_1] at hf
        refine lv_iload_n hx hb dX4_countOfRuns_61 rfl (lv_at hl 2 rfl) ?_
        rw [← Option.some.inj hf]
        exact mc_reti hx hb hr hlk hP hK hD hS dX4_countOfRuns_62
      · rw [if_neg hc_1] at hf
        refine lv_iconst (v := 0) hx hb dX4_countOfRuns_15 (by decide) ?_
        refine lv_istore (lv' := [(4, .int (0 : Int32)), (0, .ref (q_this 0)), (1, .int x1), (2, .int x2), (3, .int x3)]) hx hb dX4_countOfRuns_16 hl (by decide) rfl (fun ls hl => ?_)
        exact hL18 k4 hk4 N x1 x2 x3 (0 : Int32) _ _ _ hP hD hS (lv_sub hl [1, 2, 3, 4, 0] rfl) hf
  unfold ff_X4_countOfRuns at hf
  refine lv_iconst (v := 0) hx hb dX4_countOfRuns_0 (by decide) ?_
  refine lv_istore_n (lv' := [(2, .int (0 : Int32)), (0, .ref (q_this 0)), (1, .int a1)]) hx hb dX4_countOfRuns_1 rfl hl (by decide) rfl (fun ls hl => ?_)
  refine lv_iconst (v := 0) hx hb dX4_countOfRuns_2 (by decide) ?_
  refine lv_istore_n (lv' := [(3, .int (0 : Int32)), (2, .int (0 : Int32)), (0, .ref (q_this 0)), (1, .int a1)]) hx hb dX4_countOfRuns_3 rfl hl (by decide) rfl (fun ls hl => ?_)
  exact hL4 N a1 (0 : Int32) (0 : Int32) _ _ _ hP hD hS (lv_sub hl [2, 3, 1, 0] rfl) hf
def ff_X4_isRun (N : Nat) (o_this : os_T) (o_this_panel : os_T) (a1 : Int32) (a2 : Int32) (a3 : Int32) (a4 : Int32) : Option Int32 :=
  ((ff_X4_beginsRun N o_this o_this_panel a1 a2 a3).bind fun u_1 => (if u_1 = 0 then some (0 : Int32) else ((ff_X4_runFrom N o_this o_this_panel a1 a2 a3).bind fun u_4 => (if u_4 = a4 then some (1 : Int32) else some (0 : Int32)))))
set_option maxHeartbeats 4000000 in
set_option maxRecDepth 100000 in
theorem mm_X4_isRun (l : Launch) (D : va_G) (kA : Nat → ClassId) (N : Nat) (q_this : Nat → Nat) (q_this_panel : Nat → Nat) (o_this : os_T) (o_this_panel : os_T) (a1 : Int32) (a2 : Int32) (a3 : Int32) (a4 : Int32) (out : Int32) (hf : ff_X4_isRun N o_this o_this_panel a1 a2 a3 a4 = some out) : mc_C l D kA yX4_isRun wsX4_isRun ({ frames := 2, cells := 0, slots := 0, locals := 48 } : Room) [.ref (q_this 0), .int a1, .int a2, .int a3, .int a4] (ce_X4 kA q_this q_this_panel o_this ++ (ce_X5 kA q_this_panel o_this_panel)) (some (.int out)) (ce_X4 kA q_this q_this_panel o_this ++ (ce_X5 kA q_this_panel o_this_panel)) := by
  refine mc_of (cc := cX4_isRun) (maxL := 5) (ret := (some .boolean)) (by decide) rfl (Nat.le_of_ble_eq_true rfl) ?_
  intro p e s m below meth c A B hD hP hS ls hl
  obtain ⟨hx, hb, hr, hlk, hml, hown, hts, hK, hA, hnm⟩ := B
  have hown : s.vm.findClass RX4 = some m.cls := hown
  have hl : lv_has ls 5 [(0, .ref (q_this 0)), (1, .int a1), (2, .int a2), (3, .int a3), (4, .int a4)] := hl
  unfold ff_X4_isRun at hf
  refine lv_aload_n hx hb dX4_isRun_0 rfl (lv_at hl 0 rfl) ?_
  refine lv_iload_n hx hb dX4_isRun_1 rfl (lv_at hl 1 rfl) ?_
  refine lv_iload_n hx hb dX4_isRun_2 rfl (lv_at hl 2 rfl) ?_
  refine lv_iload_n hx hb dX4_isRun_3 rfl (lv_at hl 3 rfl) ?_
  obtain ⟨u_1, he_2, hf⟩ := os_bd hf
  refine mc_callV ⟨hx, hb, hml, hown, hts⟩ (mm_X4_beginsRun l D kA N q_this q_this_panel o_this o_this_panel a1 a2 a3 u_1 he_2) (cwV 3 hts gX4_isRun_X4_beginsRun rfl rfl rfl (by decide +kernel) ⟨Nat.le_of_ble_eq_true rfl, Nat.le_of_ble_eq_true rfl⟩) (wc := (ce_X4 kA q_this q_this_panel o_this ++ (ce_X5 kA q_this_panel o_this_panel))) (ci := 3) (q0 := 0) rfl rfl rfl hl.1 (As := [.int a1, .int a2, .int a3]) (rest := []) rfl (Nat.le_of_ble_eq_true rfl) dX4_isRun_4 ⟨Nat.le_of_ble_eq_true rfl, Nat.le_of_ble_eq_true rfl⟩ hK hP hD hS hA [0, 1, 2, 3, 4, 5, 6] [] [0, 1, 2, 3, 4, 5, 6] rfl (by decide) rfl (by decide) (by decide) rfl (by decide) (wr := []) (w2 := (ce_X4 kA q_this q_this_panel o_this ++ (ce_X5 kA q_this_panel o_this_panel))) (fun H locs hP hD hS => ?_)
  have hP : va_P D vwCl (ce_X4 kA q_this q_this_panel o_this ++ (ce_X5 kA q_this_panel o_this_panel)) H := hP
  refine lv_if_eq (tgt := 26) hx hb dX4_isRun_7 (by decide) (fun hc_3 => ?_) (fun hc_3 => ?_)
  · rw [if_pos hc_3] at hf
    refine lv_iconst (v := 0) hx hb dX4_isRun_26 (by decide) ?_
    rw [← Option.some.inj hf]
    exact mc_retz (v := 0) hx hb hr rfl hlk hP hK hD hS dX4_isRun_27
  · rw [if_neg hc_3] at hf
    refine lv_aload_n hx hb dX4_isRun_10 rfl (lv_at hl 0 rfl) ?_
    refine lv_iload_n hx hb dX4_isRun_11 rfl (lv_at hl 1 rfl) ?_
    refine lv_iload_n hx hb dX4_isRun_12 rfl (lv_at hl 2 rfl) ?_
    refine lv_iload_n hx hb dX4_isRun_13 rfl (lv_at hl 3 rfl) ?_
    obtain ⟨u_4, he_5, hf⟩ := os_bd hf
    refine mc_callV ⟨hx, hb, hml, hown, hts⟩ (mm_X4_runFrom l D kA N q_this q_this_panel o_this o_this_panel a1 a2 a3 u_4 he_5) (cwV 3 hts gX4_isRun_X4_runFrom rfl rfl rfl (by decide +kernel) ⟨Nat.le_of_ble_eq_true rfl, Nat.le_of_ble_eq_true rfl⟩) (wc := (ce_X4 kA q_this q_this_panel o_this ++ (ce_X5 kA q_this_panel o_this_panel))) (ci := 3) (q0 := 0) rfl rfl rfl hl.1 (As := [.int a1, .int a2, .int a3]) (rest := []) rfl (Nat.le_of_ble_eq_true rfl) dX4_isRun_14 ⟨Nat.le_of_ble_eq_true rfl, Nat.le_of_ble_eq_true rfl⟩ hK hP hD hS hA [0, 1, 2, 3, 4, 5, 6] [] [0, 1, 2, 3, 4, 5, 6] rfl (by decide) rfl (by decide) (by decide) rfl (by decide) (wr := []) (w2 := (ce_X4 kA q_this q_this_panel o_this ++ (ce_X5 kA q_this_panel o_this_panel))) (fun H locs hP hD hS => ?_)
    have hP : va_P D vwCl (ce_X4 kA q_this q_this_panel o_this ++ (ce_X5 kA q_this_panel o_this_panel)) H := hP
    refine lv_iload hx hb dX4_isRun_17 (lv_at hl 4 rfl) ?_
    refine lv_icmp_ne (tgt := 26) hx hb dX4_isRun_19 (by decide) (fun hc_6 => ?_) (fun hc_6 => ?_)
    · rw [if_neg hc_6] at hf
      refine lv_iconst (v := 0) hx hb dX4_isRun_26 (by decide) ?_
      rw [← Option.some.inj hf]
      exact mc_retz (v := 0) hx hb hr rfl hlk hP hK hD hS dX4_isRun_27
    · rw [if_pos hc_6] at hf
      refine lv_iconst (v := 1) hx hb dX4_isRun_22 (by decide) ?_
      refine lv_goto (tgt := 27) hx hb dX4_isRun_23 (by decide) ?_
      rw [← Option.some.inj hf]
      exact mc_retz (v := 1) hx hb hr rfl hlk hP hK hD hS dX4_isRun_27
def ff_X4_beginsBlock (N : Nat) (o_this : os_T) (o_this_panel : os_T) (a1 : Int32) (a2 : Int32) (a3 : Int32) : Option Int32 :=
  ((ff_X4_beginsRun N o_this o_this_panel a1 a2 a3).bind fun u_1 => (if u_1 = 0 then some (0 : Int32) else ((ff_X4_runFrom N o_this o_this_panel a1 a2 a3).bind fun u_4 => ((ff_X4_isRun N o_this o_this_panel a1 a2 (a3 - (1 : Int32)) u_4).bind fun u_6 => (if u_6 = 0 then some (1 : Int32) else some (0 : Int32))))))
set_option maxHeartbeats 4000000 in
set_option maxRecDepth 100000 in
theorem mm_X4_beginsBlock (l : Launch) (D : va_G) (kA : Nat → ClassId) (N : Nat) (q_this : Nat → Nat) (q_this_panel : Nat → Nat) (o_this : os_T) (o_this_panel : os_T) (a1 : Int32) (a2 : Int32) (a3 : Int32) (out : Int32) (hf : ff_X4_beginsBlock N o_this o_this_panel a1 a2 a3 = some out) : mc_C l D kA yX4_beginsBlock wsX4_beginsBlock ({ frames := 3, cells := 0, slots := 0, locals := 72 } : Room) [.ref (q_this 0), .int a1, .int a2, .int a3] (ce_X4 kA q_this q_this_panel o_this ++ (ce_X5 kA q_this_panel o_this_panel)) (some (.int out)) (ce_X4 kA q_this q_this_panel o_this ++ (ce_X5 kA q_this_panel o_this_panel)) := by
  refine mc_of (cc := cX4_beginsBlock) (maxL := 4) (ret := (some .boolean)) (by decide) rfl (Nat.le_of_ble_eq_true rfl) ?_
  intro p e s m below meth c A B hD hP hS ls hl
  obtain ⟨hx, hb, hr, hlk, hml, hown, hts, hK, hA, hnm⟩ := B
  have hown : s.vm.findClass RX4 = some m.cls := hown
  have hl : lv_has ls 4 [(0, .ref (q_this 0)), (1, .int a1), (2, .int a2), (3, .int a3)] := hl
  unfold ff_X4_beginsBlock at hf
  refine lv_aload_n hx hb dX4_beginsBlock_0 rfl (lv_at hl 0 rfl) ?_
  refine lv_iload_n hx hb dX4_beginsBlock_1 rfl (lv_at hl 1 rfl) ?_
  refine lv_iload_n hx hb dX4_beginsBlock_2 rfl (lv_at hl 2 rfl) ?_
  refine lv_iload_n hx hb dX4_beginsBlock_3 rfl (lv_at hl 3 rfl) ?_
  obtain ⟨u_1, he_2, hf⟩ := os_bd hf
  refine mc_callV ⟨hx, hb, hml, hown, hts⟩ (mm_X4_beginsRun l D kA N q_this q_this_panel o_this o_this_panel a1 a2 a3 u_1 he_2) (cwV 3 hts gX4_beginsBlock_X4_beginsRun rfl rfl rfl (by decide +kernel) ⟨Nat.le_of_ble_eq_true rfl, Nat.le_of_ble_eq_true rfl⟩) (wc := (ce_X4 kA q_this q_this_panel o_this ++ (ce_X5 kA q_this_panel o_this_panel))) (ci := 3) (q0 := 0) rfl rfl rfl hl.1 (As := [.int a1, .int a2, .int a3]) (rest := []) rfl (Nat.le_of_ble_eq_true rfl) dX4_beginsBlock_4 ⟨Nat.le_of_ble_eq_true rfl, Nat.le_of_ble_eq_true rfl⟩ hK hP hD hS hA [0, 1, 2, 3, 4, 5, 6] [] [0, 1, 2, 3, 4, 5, 6] rfl (by decide) rfl (by decide) (by decide) rfl (by decide) (wr := []) (w2 := (ce_X4 kA q_this q_this_panel o_this ++ (ce_X5 kA q_this_panel o_this_panel))) (fun H locs hP hD hS => ?_)
  have hP : va_P D vwCl (ce_X4 kA q_this q_this_panel o_this ++ (ce_X5 kA q_this_panel o_this_panel)) H := hP
  refine lv_if_eq (tgt := 33) hx hb dX4_beginsBlock_7 (by decide) (fun hc_3 => ?_) (fun hc_3 => ?_)
  · rw [if_pos hc_3] at hf
    refine lv_iconst (v := 0) hx hb dX4_beginsBlock_33 (by decide) ?_
    rw [← Option.some.inj hf]
    exact mc_retz (v := 0) hx hb hr rfl hlk hP hK hD hS dX4_beginsBlock_34
  · rw [if_neg hc_3] at hf
    refine lv_aload_n hx hb dX4_beginsBlock_10 rfl (lv_at hl 0 rfl) ?_
    refine lv_iload_n hx hb dX4_beginsBlock_11 rfl (lv_at hl 1 rfl) ?_
    refine lv_iload_n hx hb dX4_beginsBlock_12 rfl (lv_at hl 2 rfl) ?_
    refine lv_iload_n hx hb dX4_beginsBlock_13 rfl (lv_at hl 3 rfl) ?_
    refine lv_iconst (v := 1) hx hb dX4_beginsBlock_14 (by decide) ?_
    refine lv_isub hx hb dX4_beginsBlock_15 ?_
    refine lv_aload_n hx hb dX4_beginsBlock_16 rfl (lv_at hl 0 rfl) ?_
    refine lv_iload_n hx hb dX4_beginsBlock_17 rfl (lv_at hl 1 rfl) ?_
    refine lv_iload_n hx hb dX4_beginsBlock_18 rfl (lv_at hl 2 rfl) ?_
    refine lv_iload_n hx hb dX4_beginsBlock_19 rfl (lv_at hl 3 rfl) ?_
    obtain ⟨u_4, he_5, hf⟩ := os_bd hf
    refine mc_callV ⟨hx, hb, hml, hown, hts⟩ (mm_X4_runFrom l D kA N q_this q_this_panel o_this o_this_panel a1 a2 a3 u_4 he_5) (cwV 3 hts gX4_beginsBlock_X4_runFrom rfl rfl rfl (by decide +kernel) ⟨Nat.le_of_ble_eq_true rfl, Nat.le_of_ble_eq_true rfl⟩) (wc := (ce_X4 kA q_this q_this_panel o_this ++ (ce_X5 kA q_this_panel o_this_panel))) (ci := 3) (q0 := 0) rfl rfl rfl hl.1 (As := [.int a1, .int a2, .int a3]) (rest := [.int (a3 - (1 : Int32)), .int a2, .int a1, .ref (q_this 0)]) rfl (Nat.le_of_ble_eq_true rfl) dX4_beginsBlock_20 ⟨Nat.le_of_ble_eq_true rfl, Nat.le_of_ble_eq_true rfl⟩ hK hP hD hS hA [0, 1, 2, 3, 4, 5, 6] [] [0, 1, 2, 3, 4, 5, 6] rfl (by decide) rfl (by decide) (by decide) rfl (by decide) (wr := []) (w2 := (ce_X4 kA q_this q_this_panel o_this ++ (ce_X5 kA q_this_panel o_this_panel))) (fun H locs hP hD hS => ?_)
    have hP : va_P D vwCl (ce_X4 kA q_this q_this_panel o_this ++ (ce_X5 kA q_this_panel o_this_panel)) H := hP
    obtain ⟨u_6, he_7, hf⟩ := os_bd hf
    refine mc_callV ⟨hx, hb, hml, hown, hts⟩ (mm_X4_isRun l D kA N q_this q_this_panel o_this o_this_panel a1 a2 (a3 - (1 : Int32)) u_4 u_6 he_7) (cwV 4 hts gX4_beginsBlock_X4_isRun rfl rfl rfl (by decide +kernel) ⟨Nat.le_of_ble_eq_true rfl, Nat.le_of_ble_eq_true rfl⟩) (wc := (ce_X4 kA q_this q_this_panel o_this ++ (ce_X5 kA q_this_panel o_this_panel))) (ci := 3) (q0 := 0) rfl rfl rfl hl.1 (As := [.int a1, .int a2, .int (a3 - (1 : Int32)), .int u_4]) (rest := []) rfl (Nat.le_of_ble_eq_true rfl) dX4_beginsBlock_23 ⟨Nat.le_of_ble_eq_true rfl, Nat.le_of_ble_eq_true rfl⟩ hK hP hD hS hA [0, 1, 2, 3, 4, 5, 6] [] [0, 1, 2, 3, 4, 5, 6] rfl (by decide) rfl (by decide) (by decide) rfl (by decide) (wr := []) (w2 := (ce_X4 kA q_this q_this_panel o_this ++ (ce_X5 kA q_this_panel o_this_panel))) (fun H locs hP hD hS => ?_)
    have hP : va_P D vwCl (ce_X4 kA q_this q_this_panel o_this ++ (ce_X5 kA q_this_panel o_this_panel)) H := hP
    refine lv_if_ne (tgt := 33) hx hb dX4_beginsBlock_26 (by decide) (fun hc_8 => ?_) (fun hc_8 => ?_)
    · rw [if_neg hc_8] at hf
      refine lv_iconst (v := 0) hx hb dX4_beginsBlock_33 (by decide) ?_
      rw [← Option.some.inj hf]
      exact mc_retz (v := 0) hx hb hr rfl hlk hP hK hD hS dX4_beginsBlock_34
    · rw [if_pos hc_8] at hf
      refine lv_iconst (v := 1) hx hb dX4_beginsBlock_29 (by decide) ?_
      refine lv_goto (tgt := 34) hx hb dX4_beginsBlock_30 (by decide) ?_
      rw [← Option.some.inj hf]
      exact mc_retz (v := 1) hx hb hr rfl hlk hP hK hD hS dX4_beginsBlock_34
def ff_X4_blocksAhead_b60 (N : Nat) (o_this : os_T) (o_this_panel : os_T) (k6 : (Int32 × Int32 × Int32 × Int32 × Int32) → Option Int32) (k34 : (Int32 × Int32 × Int32 × Int32 × Int32 × Int32 × Int32) → Option Int32) (x1 : Int32) (x2 : Int32) (x3 : Int32) (x5 : Int32) (x6 : Int32) (x7 : Int32) (t0 : Int32) (t1 : Int32) : Option Int32 :=
  k34 (x1, x2, x3, t1 + t0, x5, x6, x7 + 1)
def ff_X4_blocksAhead_c34 (N : Nat) (o_this : os_T) (o_this_panel : os_T) (k6 : (Int32 × Int32 × Int32 × Int32 × Int32) → Option Int32) (k34 : (Int32 × Int32 × Int32 × Int32 × Int32 × Int32 × Int32) → Option Int32) (x1 : Int32) (x2 : Int32) (x3 : Int32) (x4 : Int32) (x5 : Int32) (x6 : Int32) (x7 : Int32) : Option Int32 :=
  (if x6 ≤ x7 then k6 (x1, x2, x3, x4, x5 + 1) else ((ff_X4_beginsBlock N o_this o_this_panel x1 x7 x5).bind fun u_4 => (if u_4 = 0 then ff_X4_blocksAhead_b60 N o_this o_this_panel k6 k34 x1 x2 x3 x5 x6 x7 (0 : Int32) x4 else ff_X4_blocksAhead_b60 N o_this o_this_panel k6 k34 x1 x2 x3 x5 x6 x7 (1 : Int32) x4)))
def ff_X4_blocksAhead_l34 (N : Nat) (o_this : os_T) (o_this_panel : os_T) (k6 : (Int32 × Int32 × Int32 × Int32 × Int32) → Option Int32) : Nat → (Int32 × Int32 × Int32 × Int32 × Int32 × Int32 × Int32) → Option Int32 := os_loop (fun k34 s1 => ff_X4_blocksAhead_c34 N o_this o_this_panel k6 k34 s1.1 s1.2.1 s1.2.2.1 s1.2.2.2.1 s1.2.2.2.2.1 s1.2.2.2.2.2.1 s1.2.2.2.2.2.2)
def ff_X4_blocksAhead_b29 (N : Nat) (o_this : os_T) (o_this_panel : os_T) (k6 : (Int32 × Int32 × Int32 × Int32 × Int32) → Option Int32) (x1 : Int32) (x2 : Int32) (x3 : Int32) (x4 : Int32) (x5 : Int32) (t0 : Int32) : Option Int32 :=
  ff_X4_blocksAhead_l34 N o_this o_this_panel k6 N (x1, x2, x3, x4, x5, t0, (0 : Int32))
def ff_X4_blocksAhead_c6 (N : Nat) (o_this : os_T) (o_this_panel : os_T) (k6 : (Int32 × Int32 × Int32 × Int32 × Int32) → Option Int32) (x1 : Int32) (x2 : Int32) (x3 : Int32) (x4 : Int32) (x5 : Int32) : Option Int32 :=
  (if x3 < x5 then some x4 else (if x3 ≤ x5 then ff_X4_blocksAhead_b29 N o_this o_this_panel k6 x1 x2 x3 x4 x5 x2 else ff_X4_blocksAhead_b29 N o_this o_this_panel k6 x1 x2 x3 x4 x5 (os_I o_this_panel 0)))
def ff_X4_blocksAhead_l6 (N : Nat) (o_this : os_T) (o_this_panel : os_T) : Nat → (Int32 × Int32 × Int32 × Int32 × Int32) → Option Int32 := os_loop (fun k6 s1 => ff_X4_blocksAhead_c6 N o_this o_this_panel k6 s1.1 s1.2.1 s1.2.2.1 s1.2.2.2.1 s1.2.2.2.2)
def ff_X4_blocksAhead (N : Nat) (o_this : os_T) (o_this_panel : os_T) (a1 : Int32) (a2 : Int32) (a3 : Int32) : Option Int32 :=
  ff_X4_blocksAhead_l6 N o_this o_this_panel N (a1, a2, a3, (0 : Int32), (0 : Int32))
set_option maxHeartbeats 4000000 in
set_option maxRecDepth 100000 in
theorem mm_X4_blocksAhead (l : Launch) (D : va_G) (kA : Nat → ClassId) (N : Nat) (q_this : Nat → Nat) (q_this_panel : Nat → Nat) (o_this : os_T) (o_this_panel : os_T) (a1 : Int32) (a2 : Int32) (a3 : Int32) (out : Int32) (hf : ff_X4_blocksAhead N o_this o_this_panel a1 a2 a3 = some out) : mc_C l D kA yX4_blocksAhead wsX4_blocksAhead ({ frames := 4, cells := 0, slots := 0, locals := 95 } : Room) [.ref (q_this 0), .int a1, .int a2, .int a3] (ce_X4 kA q_this q_this_panel o_this ++ (ce_X5 kA q_this_panel o_this_panel)) (some (.int out)) (ce_X4 kA q_this q_this_panel o_this ++ (ce_X5 kA q_this_panel o_this_panel)) := by
  refine mc_of (cc := cX4_blocksAhead) (maxL := 8) (ret := (some .int)) (by decide) rfl (Nat.le_of_ble_eq_true rfl) ?_
  intro p e s m below meth c A B hD hP hS ls hl
  obtain ⟨hx, hb, hr, hlk, hml, hown, hts, hK, hA, hnm⟩ := B
  have hown : s.vm.findClass RX4 = some m.cls := hown
  have hl : lv_has ls 8 [(0, .ref (q_this 0)), (1, .int a1), (2, .int a2), (3, .int a3)] := hl
  have hUX4 : ∀ w ∈ u_ws RX4 TX4 4, w.before [.ref (q_this 0), .int a1, .int a2, .int a3].toArray s = true := fun w h => hts w (List.mem_cons_of_mem _ (List.mem_append_left _ (List.mem_append_right _ h)))
  have hUX5 : ∀ w ∈ u_ws RX5 TX5 10, w.before [.ref (q_this 0), .int a1, .int a2, .int a3].toArray s = true := fun w h => hts w (List.mem_cons_of_mem _ (List.mem_append_right _ h))
  have hB60 : ∀ (k6 : (Int32 × Int32 × Int32 × Int32 × Int32) → Option Int32), (∀ (x1 : Int32) (x2 : Int32) (x3 : Int32) (x4 : Int32) (x5 : Int32) (H : Heap) (locs : List Loc) (ls : Array Slot), va_P D vwCl (ce_X4 kA q_this q_this_panel o_this ++ (ce_X5 kA q_this_panel o_this_panel)) H → va_D A (ce_X4 kA q_this q_this_panel o_this ++ (ce_X5 kA q_this_panel o_this_panel)) → va_S A s.heap H locs → lv_has ls 8 [(0, .ref (q_this 0)), (1, .int x1), (2, .int x2), (3, .int x3), (4, .int x4), (5, .int x5)] → k6 (x1, x2, x3, x4, x5) = some out → W p l e ({ frames := 4, cells := 0, slots := 0, locals := 95 } : Room) s m [.ref (q_this 0), .int a1, .int a2, .int a3].toArray below meth c H locs 0 0 (MQ below (mc_Q D kA A (some (.int out)) (ce_X4 kA q_this q_this_panel o_this ++ (ce_X5 kA q_this_panel o_this_panel))) [.ref (q_this 0), .int a1, .int a2, .int a3].toArray s 0 0 A) (F0 m 6 ls [])) → ∀ (k34 : (Int32 × Int32 × Int32 × Int32 × Int32 × Int32 × Int32) → Option Int32), (∀ (x1 : Int32) (x2 : Int32) (x3 : Int32) (x4 : Int32) (x5 : Int32) (x6 : Int32) (x7 : Int32) (H : Heap) (locs : List Loc) (ls : Array Slot), va_P D vwCl (ce_X4 kA q_this q_this_panel o_this ++ (ce_X5 kA q_this_panel o_this_panel)) H → va_D A (ce_X4 kA q_this q_this_panel o_this ++ (ce_X5 kA q_this_panel o_this_panel)) → va_S A s.heap H locs → lv_has ls 8 [(0, .ref (q_this 0)), (1, .int x1), (2, .int x2), (3, .int x3), (4, .int x4), (5, .int x5), (6, .int x6), (7, .int x7)] → k34 (x1, x2, x3, x4, x5, x6, x7) = some out → W p l e ({ frames := 4, cells := 0, slots := 0, locals := 95 } : Room) s m [.ref (q_this 0), .int a1, .int a2, .int a3].toArray below meth c H locs 0 0 (MQ below (mc_Q D kA A (some (.int out)) (ce_X4 kA q_this q_this_panel o_this ++ (ce_X5 kA q_this_panel o_this_panel))) [.ref (q_this 0), .int a1, .int a2, .int a3].toArray s 0 0 A) (F0 m 34 ls [])) → ∀ (x1 : Int32) (x2 : Int32) (x3 : Int32) (x5 : Int32) (x6 : Int32) (x7 : Int32) (t0 : Int32) (t1 : Int32) (H : Heap) (locs : List Loc) (ls : Array Slot), va_P D vwCl (ce_X4 kA q_this q_this_panel o_this ++ (ce_X5 kA q_this_panel o_this_panel)) H → va_D A (ce_X4 kA q_this q_this_panel o_this ++ (ce_X5 kA q_this_panel o_this_panel)) → va_S A s.heap H locs → lv_has ls 8 [(0, .ref (q_this 0)), (1, .int x1), (2, .int x2), (3, .int x3), (5, .int x5), (6, .int x6), (7, .int x7)] → ff_X4_blocksAhead_b60 N o_this o_this_panel k6 k34 x1 x2 x3 x5 x6 x7 t0 t1 = some out → W p l e ({ frames := 4, cells := 0, slots := 0, locals := 95 } : Room) s m [.ref (q_this 0), .int a1, .int a2, .int a3].toArray below meth c H locs 0 0 (MQ below (mc_Q D kA A (some (.int out)) (ce_X4 kA q_this q_this_panel o_this ++ (ce_X5 kA q_this_panel o_this_panel))) [.ref (q_this 0), .int a1, .int a2, .int a3].toArray s 0 0 A) (F0 m 60 ls [.int t0, .int t1]) := by
    intro k6 hk6 k34 hk34 x1 x2 x3 x5 x6 x7 t0 t1 H locs ls hP hD hS hl hf
    unfold ff_X4_blocksAhead_b60 at hf
    refine lv_iadd hx hb dX4_blocksAhead_60 ?_
    refine lv_istore (lv' := [(4, .int (t1 + t0)), (0, .ref (q_this 0)), (1, .int x1), (2, .int x2), (3, .int x3), (5, .int x5), (6, .int x6), (7, .int x7)]) hx hb dX4_blocksAhead_61 hl (by decide) rfl (fun ls hl => ?_)
    refine lv_iinc (v := x7 + 1) (lv' := [(7, .int (x7 + 1)), (4, .int (t1 + t0)), (0, .ref (q_this 0)), (1, .int x1), (2, .int x2), (3, .int x3), (5, .int x5), (6, .int x6)]) hx hb dX4_blocksAhead_63 hl (k := 7) rfl rfl (by decide) rfl (fun ls hl => ?_)
    refine lv_goto (tgt := 34) hx hb dX4_blocksAhead_66 (by decide) ?_
    exact hk34 x1 x2 x3 (t1 + t0) x5 x6 (x7 + 1) _ _ _ hP hD hS (lv_sub hl [2, 3, 4, 5, 1, 6, 7, 0] rfl) hf
  have hL34 : ∀ (k6 : (Int32 × Int32 × Int32 × Int32 × Int32) → Option Int32), (∀ (x1 : Int32) (x2 : Int32) (x3 : Int32) (x4 : Int32) (x5 : Int32) (H : Heap) (locs : List Loc) (ls : Array Slot), va_P D vwCl (ce_X4 kA q_this q_this_panel o_this ++ (ce_X5 kA q_this_panel o_this_panel)) H → va_D A (ce_X4 kA q_this q_this_panel o_this ++ (ce_X5 kA q_this_panel o_this_panel)) → va_S A s.heap H locs → lv_has ls 8 [(0, .ref (q_this 0)), (1, .int x1), (2, .int x2), (3, .int x3), (4, .int x4), (5, .int x5)] → k6 (x1, x2, x3, x4, x5) = some out → W p l e ({ frames := 4, cells := 0, slots := 0, locals := 95 } : Room) s m [.ref (q_this 0), .int a1, .int a2, .int a3].toArray below meth c H locs 0 0 (MQ below (mc_Q D kA A (some (.int out)) (ce_X4 kA q_this q_this_panel o_this ++ (ce_X5 kA q_this_panel o_this_panel))) [.ref (q_this 0), .int a1, .int a2, .int a3].toArray s 0 0 A) (F0 m 6 ls [])) → ∀ (n : Nat) (x1 : Int32) (x2 : Int32) (x3 : Int32) (x4 : Int32) (x5 : Int32) (x6 : Int32) (x7 : Int32) (H : Heap) (locs : List Loc) (ls : Array Slot), va_P D vwCl (ce_X4 kA q_this q_this_panel o_this ++ (ce_X5 kA q_this_panel o_this_panel)) H → va_D A (ce_X4 kA q_this q_this_panel o_this ++ (ce_X5 kA q_this_panel o_this_panel)) → va_S A s.heap H locs → lv_has ls 8 [(0, .ref (q_this 0)), (1, .int x1), (2, .int x2), (3, .int x3), (4, .int x4), (5, .int x5), (6, .int x6), (7, .int x7)] → ff_X4_blocksAhead_l34 N o_this o_this_panel k6 n (x1, x2, x3, x4, x5, x6, x7) = some out → W p l e ({ frames := 4, cells := 0, slots := 0, locals := 95 } : Room) s m [.ref (q_this 0), .int a1, .int a2, .int a3].toArray below meth c H locs 0 0 (MQ below (mc_Q D kA A (some (.int out)) (ce_X4 kA q_this q_this_panel o_this ++ (ce_X5 kA q_this_panel o_this_panel))) [.ref (q_this 0), .int a1, .int a2, .int a3].toArray s 0 0 A) (F0 m 34 ls []) := by
    intro k6 hk6 n
    induction n with
    | zero => intro x1 x2 x3 x4 x5 x6 x7 H locs ls _ _ _ _ hf; cases hf
    | succ n hk34 =>
      intro x1 x2 x3 x4 x5 x6 x7 H locs ls hP hD hS hl hf
      have hf : ff_X4_blocksAhead_c34 N o_this o_this_panel k6 (ff_X4_blocksAhead_l34 N o_this o_this_panel k6 n) x1 x2 x3 x4 x5 x6 x7 = some out := hf
      generalize hke : ff_X4_blocksAhead_l34 N o_this o_this_panel k6 n = k34 at hk34 hf
      unfold ff_X4_blocksAhead_c34 at hf
      refine lv_iload hx hb dX4_blocksAhead_34 (lv_at hl 7 rfl) ?_
      refine lv_iload hx hb dX4_blocksAhead_36 (lv_at hl 6 rfl) ?_
      refine lv_icmp_ge (tgt := 69) hx hb dX4_blocksAhead_38 (by decide) (fun hc_3 => ?_) (fun hc_3 => ?_)
      · rw [if_pos hc_3] at hf
        refine lv_iinc (v := x5 + 1) (lv' := [(5, .int (x5 + 1)), (0, .ref (q_this 0)), (1, .int x1), (2, .int x2), (3, .int x3), (4, .int x4), (6, .int x6), (7, .int x7)]) hx hb dX4_blocksAhead_69 hl (k := 5) rfl rfl (by decide) rfl (fun ls hl => ?_)
        refine lv_goto (tgt := 6) hx hb dX4_blocksAhead_72 (by decide) ?_
        exact hk6 x1 x2 x3 x4 (x5 + 1) _ _ _ hP hD hS (lv_sub hl [1, 2, 3, 4, 5, 0] rfl) hf
      · rw [if_neg hc_3] at hf
        refine lv_iload hx hb dX4_blocksAhead_41 (lv_at hl 4 rfl) ?_
        refine lv_aload_n hx hb dX4_blocksAhead_43 rfl (lv_at hl 0 rfl) ?_
        refine lv_iload_n hx hb dX4_blocksAhead_44 rfl (lv_at hl 1 rfl) ?_
        refine lv_iload hx hb dX4_blocksAhead_45 (lv_at hl 7 rfl) ?_
        refine lv_iload hx hb dX4_blocksAhead_47 (lv_at hl 5 rfl) ?_
        obtain ⟨u_4, he_5, hf⟩ := os_bd hf
        refine mc_callV ⟨hx, hb, hml, hown, hts⟩ (mm_X4_beginsBlock l D kA N q_this q_this_panel o_this o_this_panel x1 x7 x5 u_4 he_5) (cwV 3 hts gX4_blocksAhead_X4_beginsBlock rfl rfl rfl (by decide +kernel) ⟨Nat.le_of_ble_eq_true rfl, Nat.le_of_ble_eq_true rfl⟩) (wc := (ce_X4 kA q_this q_this_panel o_this ++ (ce_X5 kA q_this_panel o_this_panel))) (ci := 3) (q0 := 0) rfl rfl rfl hl.1 (As := [.int x1, .int x7, .int x5]) (rest := [.int x4]) rfl (Nat.le_of_ble_eq_true rfl) dX4_blocksAhead_49 ⟨Nat.le_of_ble_eq_true rfl, Nat.le_of_ble_eq_true rfl⟩ hK hP hD hS hA [0, 1, 2, 3, 4, 5, 6] [] [0, 1, 2, 3, 4, 5, 6] rfl (by decide) rfl (by decide) (by decide) rfl (by decide) (wr := []) (w2 := (ce_X4 kA q_this q_this_panel o_this ++ (ce_X5 kA q_this_panel o_this_panel))) (fun H locs hP hD hS => ?_)
        have hP : va_P D vwCl (ce_X4 kA q_this q_this_panel o_this ++ (ce_X5 kA q_this_panel o_this_panel)) H := hP
        refine lv_if_eq (tgt := 59) hx hb dX4_blocksAhead_52 (by decide) (fun hc_6 => ?_) (fun hc_6 => ?_)
        · rw [if_pos hc_6] at hf
          refine lv_iconst (v := 0) hx hb dX4_blocksAhead_59 (by decide) ?_
          exact hB60 k6 hk6 k34 hk34 x1 x2 x3 x5 x6 x7 (0 : Int32) x4 _ _ _ hP hD hS (lv_sub hl [0, 1, 2, 3, 5, 6, 7] rfl) hf
        · rw [if_neg hc_6] at hf
          refine lv_iconst (v := 1) hx hb dX4_blocksAhead_55 (by decide) ?_
          refine lv_goto (tgt := 60) hx hb dX4_blocksAhead_56 (by decide) ?_
          exact hB60 k6 hk6 k34 hk34 x1 x2 x3 x5 x6 x7 (1 : Int32) x4 _ _ _ hP hD hS (lv_sub hl [0, 1, 2, 3, 5, 6, 7] rfl) hf
  have hB29 : ∀ (k6 : (Int32 × Int32 × Int32 × Int32 × Int32) → Option Int32), (∀ (x1 : Int32) (x2 : Int32) (x3 : Int32) (x4 : Int32) (x5 : Int32) (H : Heap) (locs : List Loc) (ls : Array Slot), va_P D vwCl (ce_X4 kA q_this q_this_panel o_this ++ (ce_X5 kA q_this_panel o_this_panel)) H → va_D A (ce_X4 kA q_this q_this_panel o_this ++ (ce_X5 kA q_this_panel o_this_panel)) → va_S A s.heap H locs → lv_has ls 8 [(0, .ref (q_this 0)), (1, .int x1), (2, .int x2), (3, .int x3), (4, .int x4), (5, .int x5)] → k6 (x1, x2, x3, x4, x5) = some out → W p l e ({ frames := 4, cells := 0, slots := 0, locals := 95 } : Room) s m [.ref (q_this 0), .int a1, .int a2, .int a3].toArray below meth c H locs 0 0 (MQ below (mc_Q D kA A (some (.int out)) (ce_X4 kA q_this q_this_panel o_this ++ (ce_X5 kA q_this_panel o_this_panel))) [.ref (q_this 0), .int a1, .int a2, .int a3].toArray s 0 0 A) (F0 m 6 ls [])) → ∀ (x1 : Int32) (x2 : Int32) (x3 : Int32) (x4 : Int32) (x5 : Int32) (t0 : Int32) (H : Heap) (locs : List Loc) (ls : Array Slot), va_P D vwCl (ce_X4 kA q_this q_this_panel o_this ++ (ce_X5 kA q_this_panel o_this_panel)) H → va_D A (ce_X4 kA q_this q_this_panel o_this ++ (ce_X5 kA q_this_panel o_this_panel)) → va_S A s.heap H locs → lv_has ls 8 [(0, .ref (q_this 0)), (1, .int x1), (2, .int x2), (3, .int x3), (4, .int x4), (5, .int x5)] → ff_X4_blocksAhead_b29 N o_this o_this_panel k6 x1 x2 x3 x4 x5 t0 = some out → W p l e ({ frames := 4, cells := 0, slots := 0, locals := 95 } : Room) s m [.ref (q_this 0), .int a1, .int a2, .int a3].toArray below meth c H locs 0 0 (MQ below (mc_Q D kA A (some (.int out)) (ce_X4 kA q_this q_this_panel o_this ++ (ce_X5 kA q_this_panel o_this_panel))) [.ref (q_this 0), .int a1, .int a2, .int a3].toArray s 0 0 A) (F0 m 29 ls [.int t0]) := by
    intro k6 hk6 x1 x2 x3 x4 x5 t0 H locs ls hP hD hS hl hf
    unfold ff_X4_blocksAhead_b29 at hf
    refine lv_istore (lv' := [(6, .int t0), (0, .ref (q_this 0)), (1, .int x1), (2, .int x2), (3, .int x3), (4, .int x4), (5, .int x5)]) hx hb dX4_blocksAhead_29 hl (by decide) rfl (fun ls hl => ?_)
    refine lv_iconst (v := 0) hx hb dX4_blocksAhead_31 (by decide) ?_
    refine lv_istore (lv' := [(7, .int (0 : Int32)), (6, .int t0), (0, .ref (q_this 0)), (1, .int x1), (2, .int x2), (3, .int x3), (4, .int x4), (5, .int x5)]) hx hb dX4_blocksAhead_32 hl (by decide) rfl (fun ls hl => ?_)
    exact hL34 k6 hk6 N x1 x2 x3 x4 x5 t0 (0 : Int32) _ _ _ hP hD hS (lv_sub hl [2, 3, 4, 5, 6, 7, 1, 0] rfl) hf
  have hL6 : ∀ (n : Nat) (x1 : Int32) (x2 : Int32) (x3 : Int32) (x4 : Int32) (x5 : Int32) (H : Heap) (locs : List Loc) (ls : Array Slot), va_P D vwCl (ce_X4 kA q_this q_this_panel o_this ++ (ce_X5 kA q_this_panel o_this_panel)) H → va_D A (ce_X4 kA q_this q_this_panel o_this ++ (ce_X5 kA q_this_panel o_this_panel)) → va_S A s.heap H locs → lv_has ls 8 [(0, .ref (q_this 0)), (1, .int x1), (2, .int x2), (3, .int x3), (4, .int x4), (5, .int x5)] → ff_X4_blocksAhead_l6 N o_this o_this_panel n (x1, x2, x3, x4, x5) = some out → W p l e ({ frames := 4, cells := 0, slots := 0, locals := 95 } : Room) s m [.ref (q_this 0), .int a1, .int a2, .int a3].toArray below meth c H locs 0 0 (MQ below (mc_Q D kA A (some (.int out)) (ce_X4 kA q_this q_this_panel o_this ++ (ce_X5 kA q_this_panel o_this_panel))) [.ref (q_this 0), .int a1, .int a2, .int a3].toArray s 0 0 A) (F0 m 6 ls []) := by
    intro n
    induction n with
    | zero => intro x1 x2 x3 x4 x5 H locs ls _ _ _ _ hf; cases hf
    | succ n hk6 =>
      intro x1 x2 x3 x4 x5 H locs ls hP hD hS hl hf
      have hf : ff_X4_blocksAhead_c6 N o_this o_this_panel (ff_X4_blocksAhead_l6 N o_this o_this_panel n) x1 x2 x3 x4 x5 = some out := hf
      generalize hke : ff_X4_blocksAhead_l6 N o_this o_this_panel n = k6 at hk6 hf
      unfold ff_X4_blocksAhead_c6 at hf
      refine lv_iload hx hb dX4_blocksAhead_6 (lv_at hl 5 rfl) ?_
      refine lv_iload_n hx hb dX4_blocksAhead_8 rfl (lv_at hl 3 rfl) ?_
      refine lv_icmp_gt (tgt := 75) hx hb dX4_blocksAhead_9 (by decide) (fun hc_1 => ?_) (fun hc_1 => ?_)
      · rw [if_pos hc_1] at hf
        refine lv_iload hx hb dX4_blocksAhead_75 (lv_at hl 4 rfl) ?_
        rw [← Option.some.inj hf]
        exact mc_reti hx hb hr hlk hP hK hD hS dX4_blocksAhead_77
      · rw [if_neg hc_1] at hf
        refine lv_iload hx hb dX4_blocksAhead_12 (lv_at hl 5 rfl) ?_
        refine lv_iload_n hx hb dX4_blocksAhead_14 rfl (lv_at hl 3 rfl) ?_
        refine lv_icmp_ge (tgt := 28) hx hb dX4_blocksAhead_15 (by decide) (fun hc_2 => ?_) (fun hc_2 => ?_)
        · rw [if_pos hc_2] at hf
          refine lv_iload_n hx hb dX4_blocksAhead_28 rfl (lv_at hl 2 rfl) ?_
          exact hB29 k6 hk6 x1 x2 x3 x4 x5 x2 _ _ _ hP hD hS (lv_sub hl [0, 1, 2, 3, 4, 5] rfl) hf
        · rw [if_neg hc_2] at hf
          refine lv_aload_n hx hb dX4_blocksAhead_18 rfl (lv_at hl 0 rfl) ?_
          refine va_get (D := D) (ci := 3) (v := .ref (q_this_panel 0)) (C := RX4) (T := TX4) (N := 4) hx hb hUX4 (fun _ h9 => h9) hown hK hP 0 rfl rfl 0 (by decide) (hts (Cond.fieldLink RX4 19 "ReliefBuilder$Layers" "panel" "LReliefBuilder$Panel;") (List.mem_of_getElem? (i := 1) rfl)) (fun _ h9 => h9) rfl dX4_blocksAhead_19 ?_
          refine va_get (D := D) (ci := 4) (v := .int (os_I o_this_panel 0)) (C := RX5) (T := TX5) (N := 10) hx hb hUX5 (fun _ h9 => h9) hown hK hP 3 rfl rfl 0 (by decide) (hts (Cond.fieldLink RX4 29 "ReliefBuilder$Panel" "width" "I") (List.mem_of_getElem? (i := 2) rfl)) (fun _ h9 => h9) rfl dX4_blocksAhead_22 ?_
          refine lv_goto (tgt := 29) hx hb dX4_blocksAhead_25 (by decide) ?_
          exact hB29 k6 hk6 x1 x2 x3 x4 x5 (os_I o_this_panel 0) _ _ _ hP hD hS (lv_sub hl [0, 1, 2, 3, 4, 5] rfl) hf
  unfold ff_X4_blocksAhead at hf
  refine lv_iconst (v := 0) hx hb dX4_blocksAhead_0 (by decide) ?_
  refine lv_istore (lv' := [(4, .int (0 : Int32)), (0, .ref (q_this 0)), (1, .int a1), (2, .int a2), (3, .int a3)]) hx hb dX4_blocksAhead_1 hl (by decide) rfl (fun ls hl => ?_)
  refine lv_iconst (v := 0) hx hb dX4_blocksAhead_3 (by decide) ?_
  refine lv_istore (lv' := [(5, .int (0 : Int32)), (4, .int (0 : Int32)), (0, .ref (q_this 0)), (1, .int a1), (2, .int a2), (3, .int a3)]) hx hb dX4_blocksAhead_4 hl (by decide) rfl (fun ls hl => ?_)
  exact hL6 N a1 a2 a3 (0 : Int32) (0 : Int32) _ _ _ hP hD hS (lv_sub hl [2, 3, 4, 5, 1, 0] rfl) hf
def ff_X4_countOfBlocks (N : Nat) (o_this : os_T) (o_this_panel : os_T) (a1 : Int32) : Option Int32 :=
  ((ff_X4_blocksAhead N o_this o_this_panel a1 (os_I o_this_panel 0) ((os_I o_this_panel 1) - (1 : Int32))).bind fun u_1 => some u_1)
set_option maxHeartbeats 4000000 in
set_option maxRecDepth 100000 in
theorem mm_X4_countOfBlocks (l : Launch) (D : va_G) (kA : Nat → ClassId) (N : Nat) (q_this : Nat → Nat) (q_this_panel : Nat → Nat) (o_this : os_T) (o_this_panel : os_T) (a1 : Int32) (out : Int32) (hf : ff_X4_countOfBlocks N o_this o_this_panel a1 = some out) : mc_C l D kA yX4_countOfBlocks wsX4_countOfBlocks ({ frames := 5, cells := 0, slots := 0, locals := 122 } : Room) [.ref (q_this 0), .int a1] (ce_X4 kA q_this q_this_panel o_this ++ (ce_X5 kA q_this_panel o_this_panel)) (some (.int out)) (ce_X4 kA q_this q_this_panel o_this ++ (ce_X5 kA q_this_panel o_this_panel)) := by
  refine mc_of (cc := cX4_countOfBlocks) (maxL := 2) (ret := (some .int)) (by decide) rfl (Nat.le_of_ble_eq_true rfl) ?_
  intro p e s m below meth c A B hD hP hS ls hl
  obtain ⟨hx, hb, hr, hlk, hml, hown, hts, hK, hA, hnm⟩ := B
  have hown : s.vm.findClass RX4 = some m.cls := hown
  have hl : lv_has ls 2 [(0, .ref (q_this 0)), (1, .int a1)] := hl
  have hUX4 : ∀ w ∈ u_ws RX4 TX4 4, w.before [.ref (q_this 0), .int a1].toArray s = true := fun w h => hts w (List.mem_cons_of_mem _ (List.mem_append_left _ (List.mem_append_right _ h)))
  have hUX5 : ∀ w ∈ u_ws RX5 TX5 10, w.before [.ref (q_this 0), .int a1].toArray s = true := fun w h => hts w (List.mem_cons_of_mem _ (List.mem_append_right _ h))
  unfold ff_X4_countOfBlocks at hf
  refine lv_aload_n hx hb dX4_countOfBlocks_0 rfl (lv_at hl 0 rfl) ?_
  refine lv_iload_n hx hb dX4_countOfBlocks_1 rfl (lv_at hl 1 rfl) ?_
  refine lv_aload_n hx hb dX4_countOfBlocks_2 rfl (lv_at hl 0 rfl) ?_
  refine va_get (D := D) (ci := 3) (v := .ref (q_this_panel 0)) (C := RX4) (T := TX4) (N := 4) hx hb hUX4 (fun _ h9 => h9) hown hK hP 0 rfl rfl 0 (by decide) (hts (Cond.fieldLink RX4 19 "ReliefBuilder$Layers" "panel" "LReliefBuilder$Panel;") (List.mem_of_getElem? (i := 1) rfl)) (fun _ h9 => h9) rfl dX4_countOfBlocks_3 ?_
  refine va_get (D := D) (ci := 4) (v := .int (os_I o_this_panel 0)) (C := RX5) (T := TX5) (N := 10) hx hb hUX5 (fun _ h9 => h9) hown hK hP 3 rfl rfl 0 (by decide) (hts (Cond.fieldLink RX4 29 "ReliefBuilder$Panel" "width" "I") (List.mem_of_getElem? (i := 2) rfl)) (fun _ h9 => h9) rfl dX4_countOfBlocks_6 ?_
  refine lv_aload_n hx hb dX4_countOfBlocks_9 rfl (lv_at hl 0 rfl) ?_
  refine va_get (D := D) (ci := 3) (v := .ref (q_this_panel 0)) (C := RX4) (T := TX4) (N := 4) hx hb hUX4 (fun _ h9 => h9) hown hK hP 0 rfl rfl 0 (by decide) (hts (Cond.fieldLink RX4 19 "ReliefBuilder$Layers" "panel" "LReliefBuilder$Panel;") (List.mem_of_getElem? (i := 1) rfl)) (fun _ h9 => h9) rfl dX4_countOfBlocks_10 ?_
  refine va_get (D := D) (ci := 4) (v := .int (os_I o_this_panel 1)) (C := RX5) (T := TX5) (N := 10) hx hb hUX5 (fun _ h9 => h9) hown hK hP 3 rfl rfl 1 (by decide) (hts (Cond.fieldLink RX4 23 "ReliefBuilder$Panel" "rows" "I") (List.mem_of_getElem? (i := 3) rfl)) (fun _ h9 => h9) rfl dX4_countOfBlocks_13 ?_
  refine lv_iconst (v := 1) hx hb dX4_countOfBlocks_16 (by decide) ?_
  refine lv_isub hx hb dX4_countOfBlocks_17 ?_
  obtain ⟨u_1, he_2, hf⟩ := os_bd hf
  refine mc_callV ⟨hx, hb, hml, hown, hts⟩ (mm_X4_blocksAhead l D kA N q_this q_this_panel o_this o_this_panel a1 (os_I o_this_panel 0) ((os_I o_this_panel 1) - (1 : Int32)) u_1 he_2) (cwV 3 hts gX4_countOfBlocks_X4_blocksAhead rfl rfl rfl (by decide +kernel) ⟨Nat.le_of_ble_eq_true rfl, Nat.le_of_ble_eq_true rfl⟩) (wc := (ce_X4 kA q_this q_this_panel o_this ++ (ce_X5 kA q_this_panel o_this_panel))) (ci := 3) (q0 := 0) rfl rfl rfl hl.1 (As := [.int a1, .int (os_I o_this_panel 0), .int ((os_I o_this_panel 1) - (1 : Int32))]) (rest := []) rfl (Nat.le_of_ble_eq_true rfl) dX4_countOfBlocks_18 ⟨Nat.le_of_ble_eq_true rfl, Nat.le_of_ble_eq_true rfl⟩ hK hP hD hS hA [0, 1, 2, 3, 4, 5, 6] [] [0, 1, 2, 3, 4, 5, 6] rfl (by decide) rfl (by decide) (by decide) rfl (by decide) (wr := []) (w2 := (ce_X4 kA q_this q_this_panel o_this ++ (ce_X5 kA q_this_panel o_this_panel))) (fun H locs hP hD hS => ?_)
  have hP : va_P D vwCl (ce_X4 kA q_this q_this_panel o_this ++ (ce_X5 kA q_this_panel o_this_panel)) H := hP
  rw [← Option.some.inj hf]
  exact mc_reti hx hb hr hlk hP hK hD hS dX4_countOfBlocks_21
def ff_X4_freeSides_b86 (N : Nat) (o_this : os_T) (o_this_panel : os_T) (x4 : Int32) (x5 : Int32) (x6 : Int32) (t0 : Int32) : Option Int32 :=
  some (((x4 + x5) + x6) + t0)
def ff_X4_freeSides_b64 (N : Nat) (o_this : os_T) (o_this_panel : os_T) (x1 : Int32) (x2 : Int32) (x3 : Int32) (x4 : Int32) (x5 : Int32) (t0 : Int32) : Option Int32 :=
  ((ff_X5_reaches N o_this_panel x2 (x3 + (1 : Int32)) x1).bind fun u_10 => (if u_10 = 0 then ff_X4_freeSides_b86 N o_this o_this_panel x4 x5 t0 (1 : Int32) else ff_X4_freeSides_b86 N o_this o_this_panel x4 x5 t0 (0 : Int32)))
def ff_X4_freeSides_b42 (N : Nat) (o_this : os_T) (o_this_panel : os_T) (x1 : Int32) (x2 : Int32) (x3 : Int32) (x4 : Int32) (t0 : Int32) : Option Int32 :=
  ((ff_X5_reaches N o_this_panel x2 (x3 - (1 : Int32)) x1).bind fun u_7 => (if u_7 = 0 then ff_X4_freeSides_b64 N o_this o_this_panel x1 x2 x3 x4 t0 (1 : Int32) else ff_X4_freeSides_b64 N o_this o_this_panel x1 x2 x3 x4 t0 (0 : Int32)))
def ff_X4_freeSides_b20 (N : Nat) (o_this : os_T) (o_this_panel : os_T) (x1 : Int32) (x2 : Int32) (x3 : Int32) (t0 : Int32) : Option Int32 :=
  ((ff_X5_reaches N o_this_panel (x2 + (1 : Int32)) x3 x1).bind fun u_4 => (if u_4 = 0 then ff_X4_freeSides_b42 N o_this o_this_panel x1 x2 x3 t0 (1 : Int32) else ff_X4_freeSides_b42 N o_this o_this_panel x1 x2 x3 t0 (0 : Int32)))
def ff_X4_freeSides (N : Nat) (o_this : os_T) (o_this_panel : os_T) (a1 : Int32) (a2 : Int32) (a3 : Int32) : Option Int32 :=
  ((ff_X5_reaches N o_this_panel (a2 - (1 : Int32)) a3 a1).bind fun u_1 => (if u_1 = 0 then ff_X4_freeSides_b20 N o_this o_this_panel a1 a2 a3 (1 : Int32) else ff_X4_freeSides_b20 N o_this o_this_panel a1 a2 a3 (0 : Int32)))
set_option maxHeartbeats 4000000 in
set_option maxRecDepth 100000 in
theorem mm_X4_freeSides (l : Launch) (D : va_G) (kA : Nat → ClassId) (N : Nat) (q_this : Nat → Nat) (q_this_panel : Nat → Nat) (o_this : os_T) (o_this_panel : os_T) (a1 : Int32) (a2 : Int32) (a3 : Int32) (out : Int32) (hf : ff_X4_freeSides N o_this o_this_panel a1 a2 a3 = some out) : mc_C l D kA yX4_freeSides wsX4_freeSides ({ frames := 1, cells := 0, slots := 0, locals := 23 } : Room) [.ref (q_this 0), .int a1, .int a2, .int a3] (ce_X4 kA q_this q_this_panel o_this ++ (ce_X5 kA q_this_panel o_this_panel)) (some (.int out)) (ce_X4 kA q_this q_this_panel o_this ++ (ce_X5 kA q_this_panel o_this_panel)) := by
  refine mc_of (cc := cX4_freeSides) (maxL := 8) (ret := (some .int)) (by decide) rfl (Nat.le_of_ble_eq_true rfl) ?_
  intro p e s m below meth c A B hD hP hS ls hl
  obtain ⟨hx, hb, hr, hlk, hml, hown, hts, hK, hA, hnm⟩ := B
  have hown : s.vm.findClass RX4 = some m.cls := hown
  have hl : lv_has ls 8 [(0, .ref (q_this 0)), (1, .int a1), (2, .int a2), (3, .int a3)] := hl
  have hUX4 : ∀ w ∈ u_ws RX4 TX4 4, w.before [.ref (q_this 0), .int a1, .int a2, .int a3].toArray s = true := fun w h => hts w (List.mem_cons_of_mem _ (List.mem_append_left _ (List.mem_append_right _ h)))
  have hB86 : ∀ (x4 : Int32) (x5 : Int32) (x6 : Int32) (t0 : Int32) (H : Heap) (locs : List Loc) (ls : Array Slot), va_P D vwCl (ce_X4 kA q_this q_this_panel o_this ++ (ce_X5 kA q_this_panel o_this_panel)) H → va_D A (ce_X4 kA q_this q_this_panel o_this ++ (ce_X5 kA q_this_panel o_this_panel)) → va_S A s.heap H locs → lv_has ls 8 [(4, .int x4), (5, .int x5), (6, .int x6)] → ff_X4_freeSides_b86 N o_this o_this_panel x4 x5 x6 t0 = some out → W p l e ({ frames := 1, cells := 0, slots := 0, locals := 23 } : Room) s m [.ref (q_this 0), .int a1, .int a2, .int a3].toArray below meth c H locs 0 0 (MQ below (mc_Q D kA A (some (.int out)) (ce_X4 kA q_this q_this_panel o_this ++ (ce_X5 kA q_this_panel o_this_panel))) [.ref (q_this 0), .int a1, .int a2, .int a3].toArray s 0 0 A) (F0 m 86 ls [.int t0]) := by
    intro x4 x5 x6 t0 H locs ls hP hD hS hl hf
    unfold ff_X4_freeSides_b86 at hf
    refine lv_istore (lv' := [(7, .int t0), (4, .int x4), (5, .int x5), (6, .int x6)]) hx hb dX4_freeSides_86 hl (by decide) rfl (fun ls hl => ?_)
    refine lv_iload hx hb dX4_freeSides_88 (lv_at hl 1 rfl) ?_
    refine lv_iload hx hb dX4_freeSides_90 (lv_at hl 2 rfl) ?_
    refine lv_iadd hx hb dX4_freeSides_92 ?_
    refine lv_iload hx hb dX4_freeSides_93 (lv_at hl 3 rfl) ?_
    refine lv_iadd hx hb dX4_freeSides_95 ?_
    refine lv_iload hx hb dX4_freeSides_96 (lv_at hl 0 rfl) ?_
    refine lv_iadd hx hb dX4_freeSides_98 ?_
    rw [← Option.some.inj hf]
    exact mc_reti hx hb hr hlk hP hK hD hS dX4_freeSides_99
  have hB64 : ∀ (x1 : Int32) (x2 : Int32) (x3 : Int32) (x4 : Int32) (x5 : Int32) (t0 : Int32) (H : Heap) (locs : List Loc) (ls : Array Slot), va_P D vwCl (ce_X4 kA q_this q_this_panel o_this ++ (ce_X5 kA q_this_panel o_this_panel)) H → va_D A (ce_X4 kA q_this q_this_panel o_this ++ (ce_X5 kA q_this_panel o_this_panel)) → va_S A s.heap H locs → lv_has ls 8 [(0, .ref (q_this 0)), (1, .int x1), (2, .int x2), (3, .int x3), (4, .int x4), (5, .int x5)] → ff_X4_freeSides_b64 N o_this o_this_panel x1 x2 x3 x4 x5 t0 = some out → W p l e ({ frames := 1, cells := 0, slots := 0, locals := 23 } : Room) s m [.ref (q_this 0), .int a1, .int a2, .int a3].toArray below meth c H locs 0 0 (MQ below (mc_Q D kA A (some (.int out)) (ce_X4 kA q_this q_this_panel o_this ++ (ce_X5 kA q_this_panel o_this_panel))) [.ref (q_this 0), .int a1, .int a2, .int a3].toArray s 0 0 A) (F0 m 64 ls [.int t0]) := by
    intro x1 x2 x3 x4 x5 t0 H locs ls hP hD hS hl hf
    unfold ff_X4_freeSides_b64 at hf
    refine lv_istore (lv' := [(6, .int t0), (0, .ref (q_this 0)), (1, .int x1), (2, .int x2), (3, .int x3), (4, .int x4), (5, .int x5)]) hx hb dX4_freeSides_64 hl (by decide) rfl (fun ls hl => ?_)
    refine lv_aload_n hx hb dX4_freeSides_66 rfl (lv_at hl 1 rfl) ?_
    refine va_get (D := D) (ci := 3) (v := .ref (q_this_panel 0)) (C := RX4) (T := TX4) (N := 4) hx hb hUX4 (fun _ h9 => h9) hown hK hP 0 rfl rfl 0 (by decide) (hts (Cond.fieldLink RX4 19 "ReliefBuilder$Layers" "panel" "LReliefBuilder$Panel;") (List.mem_of_getElem? (i := 1) rfl)) (fun _ h9 => h9) rfl dX4_freeSides_67 ?_
    refine lv_iload_n hx hb dX4_freeSides_70 rfl (lv_at hl 3 rfl) ?_
    refine lv_iload_n hx hb dX4_freeSides_71 rfl (lv_at hl 4 rfl) ?_
    refine lv_iconst (v := 1) hx hb dX4_freeSides_72 (by decide) ?_
    refine lv_iadd hx hb dX4_freeSides_73 ?_
    refine lv_iload_n hx hb dX4_freeSides_74 rfl (lv_at hl 2 rfl) ?_
    obtain ⟨u_10, he_11, hf⟩ := os_bd hf
    refine mc_callV ⟨hx, hb, hml, hown, hts⟩ (mm_X5_reaches l D kA N q_this_panel o_this_panel x2 (x3 + (1 : Int32)) x1 u_10 he_11) (cwV 3 hts gX4_freeSides_X5_reaches rfl rfl rfl (by decide +kernel) ⟨Nat.le_of_ble_eq_true rfl, Nat.le_of_ble_eq_true rfl⟩) (wc := (ce_X5 kA q_this_panel o_this_panel)) (ci := 4) (q0 := 0) rfl rfl rfl hl.1 (As := [.int x2, .int (x3 + (1 : Int32)), .int x1]) (rest := []) rfl (Nat.le_of_ble_eq_true rfl) dX4_freeSides_75 ⟨Nat.le_of_ble_eq_true rfl, Nat.le_of_ble_eq_true rfl⟩ hK hP hD hS hA [3, 4, 5, 6] [0, 1, 2] [0, 1, 2, 3, 4, 5, 6] rfl (by decide) rfl (by decide) (by decide) rfl (by decide) (wr := (ce_X4 kA q_this q_this_panel o_this)) (w2 := (ce_X4 kA q_this q_this_panel o_this ++ (ce_X5 kA q_this_panel o_this_panel))) (fun H locs hP hD hS => ?_)
    have hP : va_P D vwCl (ce_X4 kA q_this q_this_panel o_this ++ (ce_X5 kA q_this_panel o_this_panel)) H := hP
    refine lv_if_eq (tgt := 85) hx hb dX4_freeSides_78 (by decide) (fun hc_12 => ?_) (fun hc_12 => ?_)
    · rw [if_pos hc_12] at hf
      refine lv_iconst (v := 1) hx hb dX4_freeSides_85 (by decide) ?_
      exact hB86 x4 x5 t0 (1 : Int32) _ _ _ hP hD hS (lv_sub hl [5, 6, 0] rfl) hf
    · rw [if_neg hc_12] at hf
      refine lv_iconst (v := 0) hx hb dX4_freeSides_81 (by decide) ?_
      refine lv_goto (tgt := 86) hx hb dX4_freeSides_82 (by decide) ?_
      exact hB86 x4 x5 t0 (0 : Int32) _ _ _ hP hD hS (lv_sub hl [5, 6, 0] rfl) hf
  have hB42 : ∀ (x1 : Int32) (x2 : Int32) (x3 : Int32) (x4 : Int32) (t0 : Int32) (H : Heap) (locs : List Loc) (ls : Array Slot), va_P D vwCl (ce_X4 kA q_this q_this_panel o_this ++ (ce_X5 kA q_this_panel o_this_panel)) H → va_D A (ce_X4 kA q_this q_this_panel o_this ++ (ce_X5 kA q_this_panel o_this_panel)) → va_S A s.heap H locs → lv_has ls 8 [(0, .ref (q_this 0)), (1, .int x1), (2, .int x2), (3, .int x3), (4, .int x4)] → ff_X4_freeSides_b42 N o_this o_this_panel x1 x2 x3 x4 t0 = some out → W p l e ({ frames := 1, cells := 0, slots := 0, locals := 23 } : Room) s m [.ref (q_this 0), .int a1, .int a2, .int a3].toArray below meth c H locs 0 0 (MQ below (mc_Q D kA A (some (.int out)) (ce_X4 kA q_this q_this_panel o_this ++ (ce_X5 kA q_this_panel o_this_panel))) [.ref (q_this 0), .int a1, .int a2, .int a3].toArray s 0 0 A) (F0 m 42 ls [.int t0]) := by
    intro x1 x2 x3 x4 t0 H locs ls hP hD hS hl hf
    unfold ff_X4_freeSides_b42 at hf
    refine lv_istore (lv' := [(5, .int t0), (0, .ref (q_this 0)), (1, .int x1), (2, .int x2), (3, .int x3), (4, .int x4)]) hx hb dX4_freeSides_42 hl (by decide) rfl (fun ls hl => ?_)
    refine lv_aload_n hx hb dX4_freeSides_44 rfl (lv_at hl 1 rfl) ?_
    refine va_get (D := D) (ci := 3) (v := .ref (q_this_panel 0)) (C := RX4) (T := TX4) (N := 4) hx hb hUX4 (fun _ h9 => h9) hown hK hP 0 rfl rfl 0 (by decide) (hts (Cond.fieldLink RX4 19 "ReliefBuilder$Layers" "panel" "LReliefBuilder$Panel;") (List.mem_of_getElem? (i := 1) rfl)) (fun _ h9 => h9) rfl dX4_freeSides_45 ?_
    refine lv_iload_n hx hb dX4_freeSides_48 rfl (lv_at hl 3 rfl) ?_
    refine lv_iload_n hx hb dX4_freeSides_49 rfl (lv_at hl 4 rfl) ?_
    refine lv_iconst (v := 1) hx hb dX4_freeSides_50 (by decide) ?_
    refine lv_isub hx hb dX4_freeSides_51 ?_
    refine lv_iload_n hx hb dX4_freeSides_52 rfl (lv_at hl 2 rfl) ?_
    obtain ⟨u_7, he_8, hf⟩ := os_bd hf
    refine mc_callV ⟨hx, hb, hml, hown, hts⟩ (mm_X5_reaches l D kA N q_this_panel o_this_panel x2 (x3 - (1 : Int32)) x1 u_7 he_8) (cwV 3 hts gX4_freeSides_X5_reaches rfl rfl rfl (by decide +kernel) ⟨Nat.le_of_ble_eq_true rfl, Nat.le_of_ble_eq_true rfl⟩) (wc := (ce_X5 kA q_this_panel o_this_panel)) (ci := 4) (q0 := 0) rfl rfl rfl hl.1 (As := [.int x2, .int (x3 - (1 : Int32)), .int x1]) (rest := []) rfl (Nat.le_of_ble_eq_true rfl) dX4_freeSides_53 ⟨Nat.le_of_ble_eq_true rfl, Nat.le_of_ble_eq_true rfl⟩ hK hP hD hS hA [3, 4, 5, 6] [0, 1, 2] [0, 1, 2, 3, 4, 5, 6] rfl (by decide) rfl (by decide) (by decide) rfl (by decide) (wr := (ce_X4 kA q_this q_this_panel o_this)) (w2 := (ce_X4 kA q_this q_this_panel o_this ++ (ce_X5 kA q_this_panel o_this_panel))) (fun H locs hP hD hS => ?_)
    have hP : va_P D vwCl (ce_X4 kA q_this q_this_panel o_this ++ (ce_X5 kA q_this_panel o_this_panel)) H := hP
    refine lv_if_eq (tgt := 63) hx hb dX4_freeSides_56 (by decide) (fun hc_9 => ?_) (fun hc_9 => ?_)
    · rw [if_pos hc_9] at hf
      refine lv_iconst (v := 1) hx hb dX4_freeSides_63 (by decide) ?_
      exact hB64 x1 x2 x3 x4 t0 (1 : Int32) _ _ _ hP hD hS (lv_sub hl [1, 2, 3, 4, 5, 0] rfl) hf
    · rw [if_neg hc_9] at hf
      refine lv_iconst (v := 0) hx hb dX4_freeSides_59 (by decide) ?_
      refine lv_goto (tgt := 64) hx hb dX4_freeSides_60 (by decide) ?_
      exact hB64 x1 x2 x3 x4 t0 (0 : Int32) _ _ _ hP hD hS (lv_sub hl [1, 2, 3, 4, 5, 0] rfl) hf
  have hB20 : ∀ (x1 : Int32) (x2 : Int32) (x3 : Int32) (t0 : Int32) (H : Heap) (locs : List Loc) (ls : Array Slot), va_P D vwCl (ce_X4 kA q_this q_this_panel o_this ++ (ce_X5 kA q_this_panel o_this_panel)) H → va_D A (ce_X4 kA q_this q_this_panel o_this ++ (ce_X5 kA q_this_panel o_this_panel)) → va_S A s.heap H locs → lv_has ls 8 [(0, .ref (q_this 0)), (1, .int x1), (2, .int x2), (3, .int x3)] → ff_X4_freeSides_b20 N o_this o_this_panel x1 x2 x3 t0 = some out → W p l e ({ frames := 1, cells := 0, slots := 0, locals := 23 } : Room) s m [.ref (q_this 0), .int a1, .int a2, .int a3].toArray below meth c H locs 0 0 (MQ below (mc_Q D kA A (some (.int out)) (ce_X4 kA q_this q_this_panel o_this ++ (ce_X5 kA q_this_panel o_this_panel))) [.ref (q_this 0), .int a1, .int a2, .int a3].toArray s 0 0 A) (F0 m 20 ls [.int t0]) := by
    intro x1 x2 x3 t0 H locs ls hP hD hS hl hf
    unfold ff_X4_freeSides_b20 at hf
    refine lv_istore (lv' := [(4, .int t0), (0, .ref (q_this 0)), (1, .int x1), (2, .int x2), (3, .int x3)]) hx hb dX4_freeSides_20 hl (by decide) rfl (fun ls hl => ?_)
    refine lv_aload_n hx hb dX4_freeSides_22 rfl (lv_at hl 1 rfl) ?_
    refine va_get (D := D) (ci := 3) (v := .ref (q_this_panel 0)) (C := RX4) (T := TX4) (N := 4) hx hb hUX4 (fun _ h9 => h9) hown hK hP 0 rfl rfl 0 (by decide) (hts (Cond.fieldLink RX4 19 "ReliefBuilder$Layers" "panel" "LReliefBuilder$Panel;") (List.mem_of_getElem? (i := 1) rfl)) (fun _ h9 => h9) rfl dX4_freeSides_23 ?_
    refine lv_iload_n hx hb dX4_freeSides_26 rfl (lv_at hl 3 rfl) ?_
    refine lv_iconst (v := 1) hx hb dX4_freeSides_27 (by decide) ?_
    refine lv_iadd hx hb dX4_freeSides_28 ?_
    refine lv_iload_n hx hb dX4_freeSides_29 rfl (lv_at hl 4 rfl) ?_
    refine lv_iload_n hx hb dX4_freeSides_30 rfl (lv_at hl 2 rfl) ?_
    obtain ⟨u_4, he_5, hf⟩ := os_bd hf
    refine mc_callV ⟨hx, hb, hml, hown, hts⟩ (mm_X5_reaches l D kA N q_this_panel o_this_panel (x2 + (1 : Int32)) x3 x1 u_4 he_5) (cwV 3 hts gX4_freeSides_X5_reaches rfl rfl rfl (by decide +kernel) ⟨Nat.le_of_ble_eq_true rfl, Nat.le_of_ble_eq_true rfl⟩) (wc := (ce_X5 kA q_this_panel o_this_panel)) (ci := 4) (q0 := 0) rfl rfl rfl hl.1 (As := [.int (x2 + (1 : Int32)), .int x3, .int x1]) (rest := []) rfl (Nat.le_of_ble_eq_true rfl) dX4_freeSides_31 ⟨Nat.le_of_ble_eq_true rfl, Nat.le_of_ble_eq_true rfl⟩ hK hP hD hS hA [3, 4, 5, 6] [0, 1, 2] [0, 1, 2, 3, 4, 5, 6] rfl (by decide) rfl (by decide) (by decide) rfl (by decide) (wr := (ce_X4 kA q_this q_this_panel o_this)) (w2 := (ce_X4 kA q_this q_this_panel o_this ++ (ce_X5 kA q_this_panel o_this_panel))) (fun H locs hP hD hS => ?_)
    have hP : va_P D vwCl (ce_X4 kA q_this q_this_panel o_this ++ (ce_X5 kA q_this_panel o_this_panel)) H := hP
    refine lv_if_eq (tgt := 41) hx hb dX4_freeSides_34 (by decide) (fun hc_6 => ?_) (fun hc_6 => ?_)
    · rw [if_pos hc_6] at hf
      refine lv_iconst (v := 1) hx hb dX4_freeSides_41 (by decide) ?_
      exact hB42 x1 x2 x3 t0 (1 : Int32) _ _ _ hP hD hS (lv_sub hl [1, 2, 3, 4, 0] rfl) hf
    · rw [if_neg hc_6] at hf
      refine lv_iconst (v := 0) hx hb dX4_freeSides_37 (by decide) ?_
      refine lv_goto (tgt := 42) hx hb dX4_freeSides_38 (by decide) ?_
      exact hB42 x1 x2 x3 t0 (0 : Int32) _ _ _ hP hD hS (lv_sub hl [1, 2, 3, 4, 0] rfl) hf
  unfold ff_X4_freeSides at hf
  refine lv_aload_n hx hb dX4_freeSides_0 rfl (lv_at hl 0 rfl) ?_
  refine va_get (D := D) (ci := 3) (v := .ref (q_this_panel 0)) (C := RX4) (T := TX4) (N := 4) hx hb hUX4 (fun _ h9 => h9) hown hK hP 0 rfl rfl 0 (by decide) (hts (Cond.fieldLink RX4 19 "ReliefBuilder$Layers" "panel" "LReliefBuilder$Panel;") (List.mem_of_getElem? (i := 1) rfl)) (fun _ h9 => h9) rfl dX4_freeSides_1 ?_
  refine lv_iload_n hx hb dX4_freeSides_4 rfl (lv_at hl 2 rfl) ?_
  refine lv_iconst (v := 1) hx hb dX4_freeSides_5 (by decide) ?_
  refine lv_isub hx hb dX4_freeSides_6 ?_
  refine lv_iload_n hx hb dX4_freeSides_7 rfl (lv_at hl 3 rfl) ?_
  refine lv_iload_n hx hb dX4_freeSides_8 rfl (lv_at hl 1 rfl) ?_
  obtain ⟨u_1, he_2, hf⟩ := os_bd hf
  refine mc_callV ⟨hx, hb, hml, hown, hts⟩ (mm_X5_reaches l D kA N q_this_panel o_this_panel (a2 - (1 : Int32)) a3 a1 u_1 he_2) (cwV 3 hts gX4_freeSides_X5_reaches rfl rfl rfl (by decide +kernel) ⟨Nat.le_of_ble_eq_true rfl, Nat.le_of_ble_eq_true rfl⟩) (wc := (ce_X5 kA q_this_panel o_this_panel)) (ci := 4) (q0 := 0) rfl rfl rfl hl.1 (As := [.int (a2 - (1 : Int32)), .int a3, .int a1]) (rest := []) rfl (Nat.le_of_ble_eq_true rfl) dX4_freeSides_9 ⟨Nat.le_of_ble_eq_true rfl, Nat.le_of_ble_eq_true rfl⟩ hK hP hD hS hA [3, 4, 5, 6] [0, 1, 2] [0, 1, 2, 3, 4, 5, 6] rfl (by decide) rfl (by decide) (by decide) rfl (by decide) (wr := (ce_X4 kA q_this q_this_panel o_this)) (w2 := (ce_X4 kA q_this q_this_panel o_this ++ (ce_X5 kA q_this_panel o_this_panel))) (fun H locs hP hD hS => ?_)
  have hP : va_P D vwCl (ce_X4 kA q_this q_this_panel o_this ++ (ce_X5 kA q_this_panel o_this_panel)) H := hP
  refine lv_if_eq (tgt := 19) hx hb dX4_freeSides_12 (by decide) (fun hc_3 => ?_) (fun hc_3 => ?_)
  · rw [if_pos hc_3] at hf
    refine lv_iconst (v := 1) hx hb dX4_freeSides_19 (by decide) ?_
    exact hB20 a1 a2 a3 (1 : Int32) _ _ _ hP hD hS (lv_sub hl [0, 1, 2, 3] rfl) hf
  · rw [if_neg hc_3] at hf
    refine lv_iconst (v := 0) hx hb dX4_freeSides_15 (by decide) ?_
    refine lv_goto (tgt := 20) hx hb dX4_freeSides_16 (by decide) ?_
    exact hB20 a1 a2 a3 (0 : Int32) _ _ _ hP hD hS (lv_sub hl [0, 1, 2, 3] rfl) hf
def ff_X4_countOfSides_b57 (N : Nat) (o_this : os_T) (o_this_panel : os_T) (k4 : (Int32 × Int32 × Int32) → Option Int32) (k18 : (Int32 × Int32 × Int32 × Int32) → Option Int32) (x1 : Int32) (x3 : Int32) (x4 : Int32) (t0 : Int32) (t1 : Int32) : Option Int32 :=
  k18 (x1, t1 + t0, x3, x4 + 1)
def ff_X4_countOfSides_c18 (N : Nat) (o_this : os_T) (o_this_panel : os_T) (k4 : (Int32 × Int32 × Int32) → Option Int32) (k18 : (Int32 × Int32 × Int32 × Int32) → Option Int32) (x1 : Int32) (x2 : Int32) (x3 : Int32) (x4 : Int32) : Option Int32 :=
  (if (os_I o_this_panel 0) ≤ x4 then k4 (x1, x2, x3 + 1) else ((ff_X5_reaches N o_this_panel x4 x3 x1).bind fun u_3 => (if u_3 = 0 then ff_X4_countOfSides_b57 N o_this o_this_panel k4 k18 x1 x3 x4 (0 : Int32) x2 else ((ff_X4_freeSides N o_this o_this_panel x1 x4 x3).bind fun u_6 => ff_X4_countOfSides_b57 N o_this o_this_panel k4 k18 x1 x3 x4 u_6 x2))))
def ff_X4_countOfSides_l18 (N : Nat) (o_this : os_T) (o_this_panel : os_T) (k4 : (Int32 × Int32 × Int32) → Option Int32) : Nat → (Int32 × Int32 × Int32 × Int32) → Option Int32 := os_loop (fun k18 s1 => ff_X4_countOfSides_c18 N o_this o_this_panel k4 k18 s1.1 s1.2.1 s1.2.2.1 s1.2.2.2)
def ff_X4_countOfSides_c4 (N : Nat) (o_this : os_T) (o_this_panel : os_T) (k4 : (Int32 × Int32 × Int32) → Option Int32) (x1 : Int32) (x2 : Int32) (x3 : Int32) : Option Int32 :=
  (if (os_I o_this_panel 1) ≤ x3 then some x2 else ff_X4_countOfSides_l18 N o_this o_this_panel k4 N (x1, x2, x3, (0 : Int32)))
def ff_X4_countOfSides_l4 (N : Nat) (o_this : os_T) (o_this_panel : os_T) : Nat → (Int32 × Int32 × Int32) → Option Int32 := os_loop (fun k4 s1 => ff_X4_countOfSides_c4 N o_this o_this_panel k4 s1.1 s1.2.1 s1.2.2)
def ff_X4_countOfSides (N : Nat) (o_this : os_T) (o_this_panel : os_T) (a1 : Int32) : Option Int32 :=
  ff_X4_countOfSides_l4 N o_this o_this_panel N (a1, (0 : Int32), (0 : Int32))
set_option maxHeartbeats 4000000 in
set_option maxRecDepth 100000 in
theorem mm_X4_countOfSides (l : Launch) (D : va_G) (kA : Nat → ClassId) (N : Nat) (q_this : Nat → Nat) (q_this_panel : Nat → Nat) (o_this : os_T) (o_this_panel : os_T) (a1 : Int32) (out : Int32) (hf : ff_X4_countOfSides N o_this o_this_panel a1 = some out) : mc_C l D kA yX4_countOfSides wsX4_countOfSides ({ frames := 2, cells := 0, slots := 0, locals := 50 } : Room) [.ref (q_this 0), .int a1] (ce_X4 kA q_this q_this_panel o_this ++ (ce_X5 kA q_this_panel o_this_panel)) (some (.int out)) (ce_X4 kA q_this q_this_panel o_this ++ (ce_X5 kA q_this_panel o_this_panel)) := by
  refine mc_of (cc := cX4_countOfSides) (maxL := 5) (ret := (some .int)) (by decide) rfl (Nat.le_of_ble_eq_true rfl) ?_
  intro p e s m below meth c A B hD hP hS ls hl
  obtain ⟨hx, hb, hr, hlk, hml, hown, hts, hK, hA, hnm⟩ := B
  have hown : s.vm.findClass RX4 = some m.cls := hown
  have hl : lv_has ls 5 [(0, .ref (q_this 0)), (1, .int a1)] := hl
  have hUX4 : ∀ w ∈ u_ws RX4 TX4 4, w.before [.ref (q_this 0), .int a1].toArray s = true := fun w h => hts w (List.mem_cons_of_mem _ (List.mem_append_left _ (List.mem_append_right _ h)))
  have hUX5 : ∀ w ∈ u_ws RX5 TX5 10, w.before [.ref (q_this 0), .int a1].toArray s = true := fun w h => hts w (List.mem_cons_of_mem _ (List.mem_append_right _ h))
  have hB57 : ∀ (k4 : (Int32 × Int32 × Int32) → Option Int32), (∀ (x1 : Int32) (x2 : Int32) (x3 : Int32) (H : Heap) (locs : List Loc) (ls : Array Slot), va_P D vwCl (ce_X4 kA q_this q_this_panel o_this ++ (ce_X5 kA q_this_panel o_this_panel)) H → va_D A (ce_X4 kA q_this q_this_panel o_this ++ (ce_X5 kA q_this_panel o_this_panel)) → va_S A s.heap H locs → lv_has ls 5 [(0, .ref (q_this 0)), (1, .int x1), (2, .int x2), (3, .int x3)] → k4 (x1, x2, x3) = some out → W p l e ({ frames := 2, cells := 0, slots := 0, locals := 50 } : Room) s m [.ref (q_this 0), .int a1].toArray below meth c H locs 0 0 (MQ below (mc_Q D kA A (some (.int out)) (ce_X4 kA q_this q_this_panel o_this ++ (ce_X5 kA q_this_panel o_this_panel))) [.ref (q_this 0), .int a1].toArray s 0 0 A) (F0 m 4 ls [])) → ∀ (k18 : (Int32 × Int32 × Int32 × Int32) → Option Int32), (∀ (x1 : Int32) (x2 : Int32) (x3 : Int32) (x4 : Int32) (H : Heap) (locs : List Loc) (ls : Array Slot), va_P D vwCl (ce_X4 kA q_this q_this_panel o_this ++ (ce_X5 kA q_this_panel o_this_panel)) H → va_D A (ce_X4 kA q_this q_this_panel o_this ++ (ce_X5 kA q_this_panel o_this_panel)) → va_S A s.heap H locs → lv_has ls 5 [(0, .ref (q_this 0)), (1, .int x1), (2, .int x2), (3, .int x3), (4, .int x4)] → k18 (x1, x2, x3, x4) = some out → W p l e ({ frames := 2, cells := 0, slots := 0, locals := 50 } : Room) s m [.ref (q_this 0), .int a1].toArray below meth c H locs 0 0 (MQ below (mc_Q D kA A (some (.int out)) (ce_X4 kA q_this q_this_panel o_this ++ (ce_X5 kA q_this_panel o_this_panel))) [.ref (q_this 0), .int a1].toArray s 0 0 A) (F0 m 18 ls [])) → ∀ (x1 : Int32) (x3 : Int32) (x4 : Int32) (t0 : Int32) (t1 : Int32) (H : Heap) (locs : List Loc) (ls : Array Slot), va_P D vwCl (ce_X4 kA q_this q_this_panel o_this ++ (ce_X5 kA q_this_panel o_this_panel)) H → va_D A (ce_X4 kA q_this q_this_panel o_this ++ (ce_X5 kA q_this_panel o_this_panel)) → va_S A s.heap H locs → lv_has ls 5 [(0, .ref (q_this 0)), (1, .int x1), (3, .int x3), (4, .int x4)] → ff_X4_countOfSides_b57 N o_this o_this_panel k4 k18 x1 x3 x4 t0 t1 = some out → W p l e ({ frames := 2, cells := 0, slots := 0, locals := 50 } : Room) s m [.ref (q_this 0), .int a1].toArray below meth c H locs 0 0 (MQ below (mc_Q D kA A (some (.int out)) (ce_X4 kA q_this q_this_panel o_this ++ (ce_X5 kA q_this_panel o_this_panel))) [.ref (q_this 0), .int a1].toArray s 0 0 A) (F0 m 57 ls [.int t0, .int t1]) := by
    intro k4 hk4 k18 hk18 x1 x3 x4 t0 t1 H locs ls hP hD hS hl hf
    unfold ff_X4_countOfSides_b57 at hf
    refine lv_iadd hx hb dX4_countOfSides_57 ?_
    refine lv_istore_n (lv' := [(2, .int (t1 + t0)), (0, .ref (q_this 0)), (1, .int x1), (3, .int x3), (4, .int x4)]) hx hb dX4_countOfSides_58 rfl hl (by decide) rfl (fun ls hl => ?_)
    refine lv_iinc (v := x4 + 1) (lv' := [(4, .int (x4 + 1)), (2, .int (t1 + t0)), (0, .ref (q_this 0)), (1, .int x1), (3, .int x3)]) hx hb dX4_countOfSides_59 hl (k := 4) rfl rfl (by decide) rfl (fun ls hl => ?_)
    refine lv_goto (tgt := 18) hx hb dX4_countOfSides_62 (by decide) ?_
    exact hk18 x1 (t1 + t0) x3 (x4 + 1) _ _ _ hP hD hS (lv_sub hl [2, 3, 1, 4, 0] rfl) hf
  have hL18 : ∀ (k4 : (Int32 × Int32 × Int32) → Option Int32), (∀ (x1 : Int32) (x2 : Int32) (x3 : Int32) (H : Heap) (locs : List Loc) (ls : Array Slot), va_P D vwCl (ce_X4 kA q_this q_this_panel o_this ++ (ce_X5 kA q_this_panel o_this_panel)) H → va_D A (ce_X4 kA q_this q_this_panel o_this ++ (ce_X5 kA q_this_panel o_this_panel)) → va_S A s.heap H locs → lv_has ls 5 [(0, .ref (q_this 0)), (1, .int x1), (2, .int x2), (3, .int x3)] → k4 (x1, x2, x3) = some out → W p l e ({ frames := 2, cells := 0, slots := 0, locals := 50 } : Room) s m [.ref (q_this 0), .int a1].toArray below meth c H locs 0 0 (MQ below (mc_Q D kA A (some (.int out)) (ce_X4 kA q_this q_this_panel o_this ++ (ce_X5 kA q_this_panel o_this_panel))) [.ref (q_this 0), .int a1].toArray s 0 0 A) (F0 m 4 ls [])) → ∀ (n : Nat) (x1 : Int32) (x2 : Int32) (x3 : Int32) (x4 : Int32) (H : Heap) (locs : List Loc) (ls : Array Slot), va_P D vwCl (ce_X4 kA q_this q_this_panel o_this ++ (ce_X5 kA q_this_panel o_this_panel)) H → va_D A (ce_X4 kA q_this q_this_panel o_this ++ (ce_X5 kA q_this_panel o_this_panel)) → va_S A s.heap H locs → lv_has ls 5 [(0, .ref (q_this 0)), (1, .int x1), (2, .int x2), (3, .int x3), (4, .int x4)] → ff_X4_countOfSides_l18 N o_this o_this_panel k4 n (x1, x2, x3, x4) = some out → W p l e ({ frames := 2, cells := 0, slots := 0, locals := 50 } : Room) s m [.ref (q_this 0), .int a1].toArray below meth c H locs 0 0 (MQ below (mc_Q D kA A (some (.int out)) (ce_X4 kA q_this q_this_panel o_this ++ (ce_X5 kA q_this_panel o_this_panel))) [.ref (q_this 0), .int a1].toArray s 0 0 A) (F0 m 18 ls []) := by
    intro k4 hk4 n
    induction n with
    | zero => intro x1 x2 x3 x4 H locs ls _ _ _ _ hf; cases hf
    | succ n hk18 =>
      intro x1 x2 x3 x4 H locs ls hP hD hS hl hf
      have hf : ff_X4_countOfSides_c18 N o_this o_this_panel k4 (ff_X4_countOfSides_l18 N o_this o_this_panel k4 n) x1 x2 x3 x4 = some out := hf
      generalize hke : ff_X4_countOfSides_l18 N o_this o_this_panel k4 n = k18 at hk18 hf
      unfold ff_X4_countOfSides_c18 at hf
      refine lv_iload hx hb dX4_countOfSides_18 (lv_at hl 4 rfl) ?_
      refine lv_aload_n hx hb dX4_countOfSides_20 rfl (lv_at hl 0 rfl) ?_
      refine va_get (D := D) (ci := 3) (v := .ref (q_this_panel 0)) (C := RX4) (T := TX4) (N := 4) hx hb hUX4 (fun _ h9 => h9) hown hK hP 0 rfl rfl 0 (by decide) (hts (Cond.fieldLink RX4 19 "ReliefBuilder$Layers" "panel" "LReliefBuilder$Panel;") (List.mem_of_getElem? (i := 1) rfl)) (fun _ h9 => h9) rfl dX4_countOfSides_21 ?_
      refine va_get (D := D) (ci := 4) (v := .int (os_I o_this_panel 0)) (C := RX5) (T := TX5) (N := 10) hx hb hUX5 (fun _ h9 => h9) hown hK hP 3 rfl rfl 0 (by decide) (hts (Cond.fieldLink RX4 29 "ReliefBuilder$Panel" "width" "I") (List.mem_of_getElem? (i := 3) rfl)) (fun _ h9 => h9) rfl dX4_countOfSides_24 ?_
      refine lv_icmp_ge (tgt := 65) hx hb dX4_countOfSides_27 (by decide) (fun hc_2 => ?_) (fun hc_2 => ?_)
      · rw [if_pos hc_2] at hf
        refine lv_iinc (v := x3 + 1) (lv' := [(3, .int (x3 + 1)), (0, .ref (q_this 0)), (1, .int x1), (2, .int x2), (4, .int x4)]) hx hb dX4_countOfSides_65 hl (k := 3) rfl rfl (by decide) rfl (fun ls hl => ?_)
        refine lv_goto (tgt := 4) hx hb dX4_countOfSides_68 (by decide) ?_
        exact hk4 x1 x2 (x3 + 1) _ _ _ hP hD hS (lv_sub hl [1, 2, 3, 0] rfl) hf
      · rw [if_neg hc_2] at hf
        refine lv_iload_n hx hb dX4_countOfSides_30 rfl (lv_at hl 2 rfl) ?_
        refine lv_aload_n hx hb dX4_countOfSides_31 rfl (lv_at hl 0 rfl) ?_
        refine va_get (D := D) (ci := 3) (v := .ref (q_this_panel 0)) (C := RX4) (T := TX4) (N := 4) hx hb hUX4 (fun _ h9 => h9) hown hK hP 0 rfl rfl 0 (by decide) (hts (Cond.fieldLink RX4 19 "ReliefBuilder$Layers" "panel" "LReliefBuilder$Panel;") (List.mem_of_getElem? (i := 1) rfl)) (fun _ h9 => h9) rfl dX4_countOfSides_32 ?_
        refine lv_iload hx hb dX4_countOfSides_35 (lv_at hl 4 rfl) ?_
        refine lv_iload_n hx hb dX4_countOfSides_37 rfl (lv_at hl 3 rfl) ?_
        refine lv_iload_n hx hb dX4_countOfSides_38 rfl (lv_at hl 1 rfl) ?_
        obtain ⟨u_3, he_4, hf⟩ := os_bd hf
        refine mc_callV ⟨hx, hb, hml, hown, hts⟩ (mm_X5_reaches l D kA N q_this_panel o_this_panel x4 x3 x1 u_3 he_4) (cwV 3 hts gX4_countOfSides_X5_reaches rfl rfl rfl (by decide +kernel) ⟨Nat.le_of_ble_eq_true rfl, Nat.le_of_ble_eq_true rfl⟩) (wc := (ce_X5 kA q_this_panel o_this_panel)) (ci := 4) (q0 := 0) rfl rfl rfl hl.1 (As := [.int x4, .int x3, .int x1]) (rest := [.int x2]) rfl (Nat.le_of_ble_eq_true rfl) dX4_countOfSides_39 ⟨Nat.le_of_ble_eq_true rfl, Nat.le_of_ble_eq_true rfl⟩ hK hP hD hS hA [3, 4, 5, 6] [0, 1, 2] [0, 1, 2, 3, 4, 5, 6] rfl (by decide) rfl (by decide) (by decide) rfl (by decide) (wr := (ce_X4 kA q_this q_this_panel o_this)) (w2 := (ce_X4 kA q_this q_this_panel o_this ++ (ce_X5 kA q_this_panel o_this_panel))) (fun H locs hP hD hS => ?_)
        have hP : va_P D vwCl (ce_X4 kA q_this q_this_panel o_this ++ (ce_X5 kA q_this_panel o_this_panel)) H := hP
        refine lv_if_eq (tgt := 56) hx hb dX4_countOfSides_42 (by decide) (fun hc_5 => ?_) (fun hc_5 => ?_)
        · rw [if_pos hc_5] at hf
          refine lv_iconst (v := 0) hx hb dX4_countOfSides_56 (by decide) ?_
          exact hB57 k4 hk4 k18 hk18 x1 x3 x4 (0 : Int32) x2 _ _ _ hP hD hS (lv_sub hl [0, 1, 3, 4] rfl) hf
        · rw [if_neg hc_5] at hf
          refine lv_aload_n hx hb dX4_countOfSides_45 rfl (lv_at hl 0 rfl) ?_
          refine lv_iload_n hx hb dX4_countOfSides_46 rfl (lv_at hl 1 rfl) ?_
          refine lv_iload hx hb dX4_countOfSides_47 (lv_at hl 4 rfl) ?_
          refine lv_iload_n hx hb dX4_countOfSides_49 rfl (lv_at hl 3 rfl) ?_
          obtain ⟨u_6, he_7, hf⟩ := os_bd hf
          refine mc_callV ⟨hx, hb, hml, hown, hts⟩ (mm_X4_freeSides l D kA N q_this q_this_panel o_this o_this_panel x1 x4 x3 u_6 he_7) (cwV 3 hts gX4_countOfSides_X4_freeSides rfl rfl rfl (by decide +kernel) ⟨Nat.le_of_ble_eq_true rfl, Nat.le_of_ble_eq_true rfl⟩) (wc := (ce_X4 kA q_this q_this_panel o_this ++ (ce_X5 kA q_this_panel o_this_panel))) (ci := 3) (q0 := 0) rfl rfl rfl hl.1 (As := [.int x1, .int x4, .int x3]) (rest := [.int x2]) rfl (Nat.le_of_ble_eq_true rfl) dX4_countOfSides_50 ⟨Nat.le_of_ble_eq_true rfl, Nat.le_of_ble_eq_true rfl⟩ hK hP hD hS hA [0, 1, 2, 3, 4, 5, 6] [] [0, 1, 2, 3, 4, 5, 6] rfl (by decide) rfl (by decide) (by decide) rfl (by decide) (wr := []) (w2 := (ce_X4 kA q_this q_this_panel o_this ++ (ce_X5 kA q_this_panel o_this_panel))) (fun H locs hP hD hS => ?_)
          have hP : va_P D vwCl (ce_X4 kA q_this q_this_panel o_this ++ (ce_X5 kA q_this_panel o_this_panel)) H := hP
          refine lv_goto (tgt := 57) hx hb dX4_countOfSides_53 (by decide) ?_
          exact hB57 k4 hk4 k18 hk18 x1 x3 x4 u_6 x2 _ _ _ hP hD hS (lv_sub hl [0, 1, 3, 4] rfl) hf
  have hL4 : ∀ (n : Nat) (x1 : Int32) (x2 : Int32) (x3 : Int32) (H : Heap) (locs : List Loc) (ls : Array Slot), va_P D vwCl (ce_X4 kA q_this q_this_panel o_this ++ (ce_X5 kA q_this_panel o_this_panel)) H → va_D A (ce_X4 kA q_this q_this_panel o_this ++ (ce_X5 kA q_this_panel o_this_panel)) → va_S A s.heap H locs → lv_has ls 5 [(0, .ref (q_this 0)), (1, .int x1), (2, .int x2), (3, .int x3)] → ff_X4_countOfSides_l4 N o_this o_this_panel n (x1, x2, x3) = some out → W p l e ({ frames := 2, cells := 0, slots := 0, locals := 50 } : Room) s m [.ref (q_this 0), .int a1].toArray below meth c H locs 0 0 (MQ below (mc_Q D kA A (some (.int out)) (ce_X4 kA q_this q_this_panel o_this ++ (ce_X5 kA q_this_panel o_this_panel))) [.ref (q_this 0), .int a1].toArray s 0 0 A) (F0 m 4 ls []) := by
    intro n
    induction n with
    | zero => intro x1 x2 x3 H locs ls _ _ _ _ hf; cases hf
    | succ n hk4 =>
      intro x1 x2 x3 H locs ls hP hD hS hl hf
      have hf : ff_X4_countOfSides_c4 N o_this o_this_panel (ff_X4_countOfSides_l4 N o_this o_this_panel n) x1 x2 x3 = some out := hf
      generalize hke : ff_X4_countOfSides_l4 N o_this o_this_panel n = k4 at hk4 hf
      unfold ff_X4_countOfSides_c4 at hf
      refine lv_iload_n hx hb dX4_countOfSides_4 rfl (lv_at hl 3 rfl) ?_
      refine lv_aload_n hx hb dX4_countOfSides_5 rfl (lv_at hl 0 rfl) ?_
      refine va_get (D := D) (ci := 3) (v := .ref (q_this_panel 0)) (C := RX4) (T := TX4) (N := 4) hx hb hUX4 (fun _ h9 => h9) hown hK hP 0 rfl rfl 0 (by decide) (hts (Cond.fieldLink RX4 19 "ReliefBuilder$Layers" "panel" "LReliefBuilder$Panel;") (List.mem_of_getElem? (i := 1) rfl)) (fun _ h9 => h9) rfl dX4_countOfSides_6 ?_
      refine va_get (D := D) (ci := 4) (v := .int (os_I o_this_panel 1)) (C := RX5) (T := TX5) (N := 10) hx hb hUX5 (fun _ h9 => h9) hown hK hP 3 rfl rfl 1 (by decide) (hts (Cond.fieldLink RX4 23 "ReliefBuilder$Panel" "rows" "I") (List.mem_of_getElem? (i := 2) rfl)) (fun _ h9 => h9) rfl dX4_countOfSides_9 ?_
      refine lv_icmp_ge (tgt := 71) hx hb dX4_countOfSides_12 (by decide) (fun hc_1 => ?_) (fun hc_1 => ?_)
      · rw [if_pos hc_1] at hf
        refine lv_iload_n hx hb dX4_countOfSides_71 rfl (lv_at hl 2 rfl) ?_
        rw [← Option.some.inj hf]
        exact mc_reti hx hb hr hlk hP hK hD hS dX4_countOfSides_72
      · rw [if_neg hc_1] at hf
        refine lv_iconst (v := 0) hx hb dX4_countOfSides_15 (by decide) ?_
        refine lv_istore (lv' := [(4, .int (0 : Int32)), (0, .ref (q_this 0)), (1, .int x1), (2, .int x2), (3, .int x3)]) hx hb dX4_countOfSides_16 hl (by decide) rfl (fun ls hl => ?_)
        exact hL18 k4 hk4 N x1 x2 x3 (0 : Int32) _ _ _ hP hD hS (lv_sub hl [1, 2, 3, 4, 0] rfl) hf
  unfold ff_X4_countOfSides at hf
  refine lv_iconst (v := 0) hx hb dX4_countOfSides_0 (by decide) ?_
  refine lv_istore_n (lv' := [(2, .int (0 : Int32)), (0, .ref (q_this 0)), (1, .int a1)]) hx hb dX4_countOfSides_1 rfl hl (by decide) rfl (fun ls hl => ?_)
  refine lv_iconst (v := 0) hx hb dX4_countOfSides_2 (by decide) ?_
  refine lv_istore_n (lv' := [(3, .int (0 : Int32)), (2, .int (0 : Int32)), (0, .ref (q_this 0)), (1, .int a1)]) hx hb dX4_countOfSides_3 rfl hl (by decide) rfl (fun ls hl => ?_)
  exact hL4 N a1 (0 : Int32) (0 : Int32) _ _ _ hP hD hS (lv_sub hl [2, 3, 1, 0] rfl) hf
def ff_X4_isAtEdge_b34 (N : Nat) (o_this : os_T) (o_this_panel : os_T) : Option Int32 :=
  some (1 : Int32)
def ff_X4_isAtEdge (N : Nat) (o_this : os_T) (o_this_panel : os_T) (a1 : Int32) (a2 : Int32) : Option Int32 :=
  (if a1 = 0 then ff_X4_isAtEdge_b34 N o_this o_this_panel else (if a2 = 0 then ff_X4_isAtEdge_b34 N o_this o_this_panel else (if a1 = ((os_I o_this_panel 0) - (1 : Int32)) then ff_X4_isAtEdge_b34 N o_this o_this_panel else (if a2 = ((os_I o_this_panel 1) - (1 : Int32)) then ff_X4_isAtEdge_b34 N o_this o_this_panel else some (0 : Int32)))))
set_option maxHeartbeats 4000000 in
set_option maxRecDepth 100000 in
theorem mm_X4_isAtEdge (l : Launch) (D : va_G) (kA : Nat → ClassId) (N : Nat) (q_this : Nat → Nat) (q_this_panel : Nat → Nat) (o_this : os_T) (o_this_panel : os_T) (a1 : Int32) (a2 : Int32) (out : Int32) (hf : ff_X4_isAtEdge N o_this o_this_panel a1 a2 = some out) : mc_C l D kA yX4_isAtEdge wsX4_isAtEdge ({ frames := 0, cells := 0, slots := 0, locals := 0 } : Room) [.ref (q_this 0), .int a1, .int a2] (ce_X4 kA q_this q_this_panel o_this ++ (ce_X5 kA q_this_panel o_this_panel)) (some (.int out)) (ce_X4 kA q_this q_this_panel o_this ++ (ce_X5 kA q_this_panel o_this_panel)) := by
  refine mc_of (cc := cX4_isAtEdge) (maxL := 3) (ret := (some .boolean)) (by decide) rfl (Nat.le_of_ble_eq_true rfl) ?_
  intro p e s m below meth c A B hD hP hS ls hl
  obtain ⟨hx, hb, hr, hlk, hml, hown, hts, hK, hA, hnm⟩ := B
  have hown : s.vm.findClass RX4 = some m.cls := hown
  have hl : lv_has ls 3 [(0, .ref (q_this 0)), (1, .int a1), (2, .int a2)] := hl
  have hUX4 : ∀ w ∈ u_ws RX4 TX4 4, w.before [.ref (q_this 0), .int a1, .int a2].toArray s = true := fun w h => hts w (List.mem_cons_of_mem _ (List.mem_append_left _ (List.mem_append_right _ h)))
  have hUX5 : ∀ w ∈ u_ws RX5 TX5 10, w.before [.ref (q_this 0), .int a1, .int a2].toArray s = true := fun w h => hts w (List.mem_cons_of_mem _ (List.mem_append_right _ h))
  have hB34 : ∀ (H : Heap) (locs : List Loc) (ls : Array Slot), va_P D vwCl (ce_X4 kA q_this q_this_panel o_this ++ (ce_X5 kA q_this_panel o_this_panel)) H → va_D A (ce_X4 kA q_this q_this_panel o_this ++ (ce_X5 kA q_this_panel o_this_panel)) → va_S A s.heap H locs → lv_has ls 3 [] → ff_X4_isAtEdge_b34 N o_this o_this_panel = some out → W p l e ({ frames := 0, cells := 0, slots := 0, locals := 0 } : Room) s m [.ref (q_this 0), .int a1, .int a2].toArray below meth c H locs 0 0 (MQ below (mc_Q D kA A (some (.int out)) (ce_X4 kA q_this q_this_panel o_this ++ (ce_X5 kA q_this_panel o_this_panel))) [.ref (q_this 0), .int a1, .int a2].toArray s 0 0 A) (F0 m 34 ls []) := by
    intro H locs ls hP hD hS hl hf
    unfold ff_X4_isAtEdge_b34 at hf
    refine lv_iconst (v := 1) hx hb dX4_isAtEdge_34 (by decide) ?_
    refine lv_goto (tgt := 39) hx hb dX4_isAtEdge_35 (by decide) ?_
    rw [← Option.some.inj hf]
    exact mc_retz (v := 1) hx hb hr rfl hlk hP hK hD hS dX4_isAtEdge_39
  unfold ff_X4_isAtEdge at hf
  refine lv_iload_n hx hb dX4_isAtEdge_0 rfl (lv_at hl 1 rfl) ?_
  refine lv_if_eq (tgt := 34) hx hb dX4_isAtEdge_1 (by decide) (fun hc_1 => ?_) (fun hc_1 => ?_)
  · rw [if_pos hc_1] at hf
    exact hB34 _ _ _ hP hD hS (lv_sub hl [] rfl) hf
  · rw [if_neg hc_1] at hf
    refine lv_iload_n hx hb dX4_isAtEdge_4 rfl (lv_at hl 2 rfl) ?_
    refine lv_if_eq (tgt := 34) hx hb dX4_isAtEdge_5 (by decide) (fun hc_2 => ?_) (fun hc_2 => ?_)
    · rw [if_pos hc_2] at hf
      exact hB34 _ _ _ hP hD hS (lv_sub hl [] rfl) hf
    · rw [if_neg hc_2] at hf
      refine lv_iload_n hx hb dX4_isAtEdge_8 rfl (lv_at hl 1 rfl) ?_
      refine lv_aload_n hx hb dX4_isAtEdge_9 rfl (lv_at hl 0 rfl) ?_
      refine va_get (D := D) (ci := 3) (v := .ref (q_this_panel 0)) (C := RX4) (T := TX4) (N := 4) hx hb hUX4 (fun _ h9 => h9) hown hK hP 0 rfl rfl 0 (by decide) (hts (Cond.fieldLink RX4 19 "ReliefBuilder$Layers" "panel" "LReliefBuilder$Panel;") (List.mem_of_getElem? (i := 1) rfl)) (fun _ h9 => h9) rfl dX4_isAtEdge_10 ?_
      refine va_get (D := D) (ci := 4) (v := .int (os_I o_this_panel 0)) (C := RX5) (T := TX5) (N := 10) hx hb hUX5 (fun _ h9 => h9) hown hK hP 3 rfl rfl 0 (by decide) (hts (Cond.fieldLink RX4 29 "ReliefBuilder$Panel" "width" "I") (List.mem_of_getElem? (i := 2) rfl)) (fun _ h9 => h9) rfl dX4_isAtEdge_13 ?_
      refine lv_iconst (v := 1) hx hb dX4_isAtEdge_16 (by decide) ?_
      refine lv_isub hx hb dX4_isAtEdge_17 ?_
      refine lv_icmp_eq (tgt := 34) hx hb dX4_isAtEdge_18 (by decide) (fun hc_3 => ?_) (fun hc_3 => ?_)
      · rw [if_pos hc_3] at hf
        exact hB34 _ _ _ hP hD hS (lv_sub hl [] rfl) hf
      · rw [if_neg hc_3] at hf
        refine lv_iload_n hx hb dX4_isAtEdge_21 rfl (lv_at hl 2 rfl) ?_
        refine lv_aload_n hx hb dX4_isAtEdge_22 rfl (lv_at hl 0 rfl) ?_
        refine va_get (D := D) (ci := 3) (v := .ref (q_this_panel 0)) (C := RX4) (T := TX4) (N := 4) hx hb hUX4 (fun _ h9 => h9) hown hK hP 0 rfl rfl 0 (by decide) (hts (Cond.fieldLink RX4 19 "ReliefBuilder$Layers" "panel" "LReliefBuilder$Panel;") (List.mem_of_getElem? (i := 1) rfl)) (fun _ h9 => h9) rfl dX4_isAtEdge_23 ?_
        refine va_get (D := D) (ci := 4) (v := .int (os_I o_this_panel 1)) (C := RX5) (T := TX5) (N := 10) hx hb hUX5 (fun _ h9 => h9) hown hK hP 3 rfl rfl 1 (by decide) (hts (Cond.fieldLink RX4 23 "ReliefBuilder$Panel" "rows" "I") (List.mem_of_getElem? (i := 3) rfl)) (fun _ h9 => h9) rfl dX4_isAtEdge_26 ?_
        refine lv_iconst (v := 1) hx hb dX4_isAtEdge_29 (by decide) ?_
        refine lv_isub hx hb dX4_isAtEdge_30 ?_
        refine lv_icmp_ne (tgt := 38) hx hb dX4_isAtEdge_31 (by decide) (fun hc_4 => ?_) (fun hc_4 => ?_)
        · rw [if_neg hc_4] at hf
          refine lv_iconst (v := 0) hx hb dX4_isAtEdge_38 (by decide) ?_
          rw [← Option.some.inj hf]
          exact mc_retz (v := 0) hx hb hr rfl hlk hP hK hD hS dX4_isAtEdge_39
        · rw [if_pos hc_4] at hf
          exact hB34 _ _ _ hP hD hS (lv_sub hl [] rfl) hf
def ff_X4_wasQueued (N : Nat) (o_this : os_T) (a1 : Int32) (a2 : Int32) : Option Int32 :=
  (if ((a2 * (16 : Int32)) + a1) < 0 then some (0 : Int32) else (if (192 : Int32) ≤ ((a2 * (16 : Int32)) + a1) then some (0 : Int32) else (if os_in ((a2 * (16 : Int32)) + a1) 192 then (if ((os_A o_this 1) (Int32.toNatClampNeg ((a2 * (16 : Int32)) + a1))) = 0 then some (0 : Int32) else some (1 : Int32)) else none)))
set_option maxHeartbeats 4000000 in
set_option maxRecDepth 100000 in
theorem mm_X4_wasQueued (l : Launch) (D : va_G) (kA : Nat → ClassId) (N : Nat) (q_this : Nat → Nat) (q_this_panel : Nat → Nat) (o_this : os_T) (a1 : Int32) (a2 : Int32) (out : Int32) (hf : ff_X4_wasQueued N o_this a1 a2 = some out) : mc_C l D kA yX4_wasQueued wsX4_wasQueued ({ frames := 0, cells := 0, slots := 0, locals := 0 } : Room) [.ref (q_this 0), .int a1, .int a2] (ce_X4 kA q_this q_this_panel o_this) (some (.int out)) (ce_X4 kA q_this q_this_panel o_this) := by
  refine mc_of (cc := cX4_wasQueued) (maxL := 4) (ret := (some .boolean)) (by decide) rfl (Nat.le_of_ble_eq_true rfl) ?_
  intro p e s m below meth c A B hD hP hS ls hl
  obtain ⟨hx, hb, hr, hlk, hml, hown, hts, hK, hA, hnm⟩ := B
  have hown : s.vm.findClass RX4 = some m.cls := hown
  have hl : lv_has ls 4 [(0, .ref (q_this 0)), (1, .int a1), (2, .int a2)] := hl
  have hUX4 : ∀ w ∈ u_ws RX4 TX4 4, w.before [.ref (q_this 0), .int a1, .int a2].toArray s = true := fun w h => hts w (List.mem_cons_of_mem _ (List.mem_append_right _ h))
  unfold ff_X4_wasQueued at hf
  refine lv_iload_n hx hb dX4_wasQueued_0 rfl (lv_at hl 2 rfl) ?_
  refine lv_bipush (v := 16) hx hb dX4_wasQueued_1 (by decide) ?_
  refine lv_imul hx hb dX4_wasQueued_3 ?_
  refine lv_iload_n hx hb dX4_wasQueued_4 rfl (lv_at hl 1 rfl) ?_
  refine lv_iadd hx hb dX4_wasQueued_5 ?_
  refine lv_istore_n (lv' := [(3, .int ((a2 * (16 : Int32)) + a1)), (0, .ref (q_this 0)), (1, .int a1), (2, .int a2)]) hx hb dX4_wasQueued_6 rfl hl (by decide) rfl (fun ls hl => ?_)
  refine lv_iload_n hx hb dX4_wasQueued_7 rfl (lv_at hl 0 rfl) ?_
  refine lv_if_lt (tgt := 33) hx hb dX4_wasQueued_8 (by decide) (fun hc_1 => ?_) (fun hc_1 => ?_)
  · rw [if_pos hc_1] at hf
    refine lv_iconst (v := 0) hx hb dX4_wasQueued_33 (by decide) ?_
    rw [← Option.some.inj hf]
    exact mc_retz (v := 0) hx hb hr rfl hlk hP hK hD hS dX4_wasQueued_34
  · rw [if_neg hc_1] at hf
    refine lv_iload_n hx hb dX4_wasQueued_11 rfl (lv_at hl 0 rfl) ?_
    refine lv_aload_n hx hb dX4_wasQueued_12 rfl (lv_at hl 1 rfl) ?_
    refine va_get (D := D) (ci := 3) (v := .ref (q_this 2)) (C := RX4) (T := TX4) (N := 4) hx hb hUX4 (fun _ h9 => h9) hown hK hP 0 rfl rfl 2 (by decide) (hts (Cond.fieldLink RX4 15 "ReliefBuilder$Layers" "isQueued" "[Z") (List.mem_of_getElem? (i := 1) rfl)) (fun _ h9 => h9) rfl dX4_wasQueued_13 ?_
    refine va_alen (v := 192) hx hb hK hP 2 1 rfl rfl rfl dX4_wasQueued_16 ?_
    refine lv_icmp_ge (tgt := 33) hx hb dX4_wasQueued_17 (by decide) (fun hc_2 => ?_) (fun hc_2 => ?_)
    · rw [if_pos hc_2] at hf
      refine lv_iconst (v := 0) hx hb dX4_wasQueued_33 (by decide) ?_
      rw [← Option.some.inj hf]
      exact mc_retz (v := 0) hx hb hr rfl hlk hP hK hD hS dX4_wasQueued_34
    · rw [if_neg hc_2] at hf
      refine lv_aload_n hx hb dX4_wasQueued_20 rfl (lv_at hl 1 rfl) ?_
      refine va_get (D := D) (ci := 3) (v := .ref (q_this 2)) (C := RX4) (T := TX4) (N := 4) hx hb hUX4 (fun _ h9 => h9) hown hK hP 0 rfl rfl 2 (by decide) (hts (Cond.fieldLink RX4 15 "ReliefBuilder$Layers" "isQueued" "[Z") (List.mem_of_getElem? (i := 1) rfl)) (fun _ h9 => h9) rfl dX4_wasQueued_21 ?_
      refine lv_iload_n hx hb dX4_wasQueued_24 rfl (lv_at hl 0 rfl) ?_
      obtain ⟨hi_3, hf⟩ := os_if hf
      refine va_zald hx hb hK hP 2 1 rfl rfl hi_3 dX4_wasQueued_25 ?_
      refine lv_if_eq (tgt := 33) hx hb dX4_wasQueued_26 (by decide) (fun hc_4 => ?_) (fun hc_4 => ?_)
      · rw [if_pos hc_4] at hf
        refine lv_iconst (v := 0) hx hb dX4_wasQueued_33 (by decide) ?_
        rw [← Option.some.inj hf]
        exact mc_retz (v := 0) hx hb hr rfl hlk hP hK hD hS dX4_wasQueued_34
      · rw [if_neg hc_4] at hf
        refine lv_iconst (v := 1) hx hb dX4_wasQueued_29 (by decide) ?_
        refine lv_goto (tgt := 34) hx hb dX4_wasQueued_30 (by decide) ?_
        rw [← Option.some.inj hf]
        exact mc_retz (v := 1) hx hb hr rfl hlk hP hK hD hS dX4_wasQueued_34
def ff_X4_visit (N : Nat) (o_this : os_T) (o_this_panel : os_T) (a1 : Int32) (a2 : Int32) (a3 : Int32) (a4 : Int32) : Option os_T :=
  ((ff_X5_has N o_this_panel a2 a3).bind fun u_1 => (if u_1 = 0 then some o_this else ((ff_X5_reaches N o_this_panel a2 a3 a1).bind fun u_4 => (if u_4 = a4 then ((ff_X4_wasQueued N o_this a2 a3).bind fun u_7 => (if u_7 = 0 then (if (os_I o_this 3) < 0 then some o_this else (if (192 : Int32) ≤ (os_I o_this 3) then some o_this else (if ((a3 * (16 : Int32)) + a2) < 0 then some o_this else (if (192 : Int32) ≤ ((a3 * (16 : Int32)) + a2) then some o_this else (if os_in ((a3 * (16 : Int32)) + a2) 192 then (if os_in (os_I o_this 3) 192 then some (ss_I (ss_A (ss_A o_this 0 (upd (os_A o_this 0) (Int32.toNatClampNeg (os_I o_this 3)) ((a3 * (16 : Int32)) + a2))) 1 (upd (os_A o_this 1) (Int32.toNatClampNeg ((a3 * (16 : Int32)) + a2)) (vp_nar .boolean (1 : Int32)))) 3 ((os_I o_this 3) + (1 : Int32))) else none) else none))))) else some o_this)) else some o_this))))
set_option maxHeartbeats 4000000 in
set_option maxRecDepth 100000 in
theorem mm_X4_visit (l : Launch) (D : va_G) (kA : Nat → ClassId) (N : Nat) (q_this : Nat → Nat) (q_this_panel : Nat → Nat) (o_this : os_T) (o_this_panel : os_T) (a1 : Int32) (a2 : Int32) (a3 : Int32) (a4 : Int32) (out : os_T) (hf : ff_X4_visit N o_this o_this_panel a1 a2 a3 a4 = some out) : mc_C l D kA yX4_visit wsX4_visit ({ frames := 1, cells := 0, slots := 0, locals := 23 } : Room) [.ref (q_this 0), .int a1, .int a2, .int a3, .int a4] (ce_X4 kA q_this q_this_panel o_this ++ (ce_X5 kA q_this_panel o_this_panel)) none (ce_X4 kA q_this q_this_panel out ++ (ce_X5 kA q_this_panel o_this_panel)) := by
  refine mc_of (cc := cX4_visit) (maxL := 6) (ret := none) (by decide) rfl (Nat.le_of_ble_eq_true rfl) ?_
  intro p e s m below meth c A B hD hP hS ls hl
  obtain ⟨hx, hb, hr, hlk, hml, hown, hts, hK, hA, hnm⟩ := B
  have hown : s.vm.findClass RX4 = some m.cls := hown
  have hl : lv_has ls 6 [(0, .ref (q_this 0)), (1, .int a1), (2, .int a2), (3, .int a3), (4, .int a4)] := hl
  have hUX4 : ∀ w ∈ u_ws RX4 TX4 4, w.before [.ref (q_this 0), .int a1, .int a2, .int a3, .int a4].toArray s = true := fun w h => hts w (List.mem_cons_of_mem _ (List.mem_append_left _ (List.mem_append_right _ h)))
  unfold ff_X4_visit at hf
  refine lv_aload_n hx hb dX4_visit_0 rfl (lv_at hl 0 rfl) ?_
  refine va_get (D := D) (ci := 3) (v := .ref (q_this_panel 0)) (C := RX4) (T := TX4) (N := 4) hx hb hUX4 (fun _ h9 => h9) hown hK hP 0 rfl rfl 0 (by decide) (hts (Cond.fieldLink RX4 19 "ReliefBuilder$Layers" "panel" "LReliefBuilder$Panel;") (List.mem_of_getElem? (i := 1) rfl)) (fun _ h9 => h9) rfl dX4_visit_1 ?_
  refine lv_iload_n hx hb dX4_visit_4 rfl (lv_at hl 2 rfl) ?_
  refine lv_iload_n hx hb dX4_visit_5 rfl (lv_at hl 3 rfl) ?_
  obtain ⟨u_1, he_2, hf⟩ := os_bd hf
  refine mc_callV ⟨hx, hb, hml, hown, hts⟩ (mm_X5_has l D kA N q_this_panel o_this_panel a2 a3 u_1 he_2) (cwV 2 hts gX4_visit_X5_has rfl rfl rfl (by decide +kernel) ⟨Nat.le_of_ble_eq_true rfl, Nat.le_of_ble_eq_true rfl⟩) (wc := (ce_X5 kA q_this_panel o_this_panel)) (ci := 4) (q0 := 0) rfl rfl rfl hl.1 (As := [.int a2, .int a3]) (rest := []) rfl (Nat.le_of_ble_eq_true rfl) dX4_visit_6 ⟨Nat.le_of_ble_eq_true rfl, Nat.le_of_ble_eq_true rfl⟩ hK hP hD hS hA [3, 4, 5, 6] [0, 1, 2] [0, 1, 2, 3, 4, 5, 6] rfl (by decide) rfl (by decide) (by decide) rfl (by decide) (wr := (ce_X4 kA q_this q_this_panel o_this)) (w2 := (ce_X4 kA q_this q_this_panel o_this ++ (ce_X5 kA q_this_panel o_this_panel))) (fun H locs hP hD hS => ?_)
  have hP : va_P D vwCl (ce_X4 kA q_this q_this_panel o_this ++ (ce_X5 kA q_this_panel o_this_panel)) H := hP
  refine lv_if_eq (tgt := 36) hx hb dX4_visit_9 (by decide) (fun hc_3 => ?_) (fun hc_3 => ?_)
  · rw [if_pos hc_3] at hf
    rw [← Option.some.inj hf]
    exact mc_retv hx hb hr hlk hP hK hD hS dX4_visit_36
  · rw [if_neg hc_3] at hf
    refine lv_aload_n hx hb dX4_visit_12 rfl (lv_at hl 0 rfl) ?_
    refine va_get (D := D) (ci := 3) (v := .ref (q_this_panel 0)) (C := RX4) (T := TX4) (N := 4) hx hb hUX4 (fun _ h9 => h9) hown hK hP 0 rfl rfl 0 (by decide) (hts (Cond.fieldLink RX4 19 "ReliefBuilder$Layers" "panel" "LReliefBuilder$Panel;") (List.mem_of_getElem? (i := 1) rfl)) (fun _ h9 => h9) rfl dX4_visit_13 ?_
    refine lv_iload_n hx hb dX4_visit_16 rfl (lv_at hl 2 rfl) ?_
    refine lv_iload_n hx hb dX4_visit_17 rfl (lv_at hl 3 rfl) ?_
    refine lv_iload_n hx hb dX4_visit_18 rfl (lv_at hl 1 rfl) ?_
    obtain ⟨u_4, he_5, hf⟩ := os_bd hf
    refine mc_callV ⟨hx, hb, hml, hown, hts⟩ (mm_X5_reaches l D kA N q_this_panel o_this_panel a2 a3 a1 u_4 he_5) (cwV 3 hts gX4_visit_X5_reaches rfl rfl rfl (by decide +kernel) ⟨Nat.le_of_ble_eq_true rfl, Nat.le_of_ble_eq_true rfl⟩) (wc := (ce_X5 kA q_this_panel o_this_panel)) (ci := 4) (q0 := 0) rfl rfl rfl hl.1 (As := [.int a2, .int a3, .int a1]) (rest := []) rfl (Nat.le_of_ble_eq_true rfl) dX4_visit_19 ⟨Nat.le_of_ble_eq_true rfl, Nat.le_of_ble_eq_true rfl⟩ hK hP hD hS hA [3, 4, 5, 6] [0, 1, 2] [0, 1, 2, 3, 4, 5, 6] rfl (by decide) rfl (by decide) (by decide) rfl (by decide) (wr := (ce_X4 kA q_this q_this_panel o_this)) (w2 := (ce_X4 kA q_this q_this_panel o_this ++ (ce_X5 kA q_this_panel o_this_panel))) (fun H locs hP hD hS => ?_)
    have hP : va_P D vwCl (ce_X4 kA q_this q_this_panel o_this ++ (ce_X5 kA q_this_panel o_this_panel)) H := hP
    refine lv_iload hx hb dX4_visit_22 (lv_at hl 4 rfl) ?_
    refine lv_icmp_ne (tgt := 36) hx hb dX4_visit_24 (by decide) (fun hc_6 => ?_) (fun hc_6 => ?_)
    · rw [if_neg hc_6] at hf
      rw [← Option.some.inj hf]
      exact mc_retv hx hb hr hlk hP hK hD hS dX4_visit_36
    · rw [if_pos hc_6] at hf
      refine lv_aload_n hx hb dX4_visit_27 rfl (lv_at hl 0 rfl) ?_
      refine lv_iload_n hx hb dX4_visit_28 rfl (lv_at hl 2 rfl) ?_
      refine lv_iload_n hx hb dX4_visit_29 rfl (lv_at hl 3 rfl) ?_
      obtain ⟨u_7, he_8, hf⟩ := os_bd hf
      refine mc_callV ⟨hx, hb, hml, hown, hts⟩ (mm_X4_wasQueued l D kA N q_this q_this_panel o_this a2 a3 u_7 he_8) (cwV 2 hts gX4_visit_X4_wasQueued rfl rfl rfl (by decide +kernel) ⟨Nat.le_of_ble_eq_true rfl, Nat.le_of_ble_eq_true rfl⟩) (wc := (ce_X4 kA q_this q_this_panel o_this)) (ci := 3) (q0 := 0) rfl rfl rfl hl.1 (As := [.int a2, .int a3]) (rest := []) rfl (Nat.le_of_ble_eq_true rfl) dX4_visit_30 ⟨Nat.le_of_ble_eq_true rfl, Nat.le_of_ble_eq_true rfl⟩ hK hP hD hS hA [0, 1, 2] [3, 4, 5, 6] [4, 5, 6, 0, 1, 2, 3] rfl (by decide) rfl (by decide) (by decide) rfl (by decide) (wr := (ce_X5 kA q_this_panel o_this_panel)) (w2 := (ce_X4 kA q_this q_this_panel o_this ++ (ce_X5 kA q_this_panel o_this_panel))) (fun H locs hP hD hS => ?_)
      have hP : va_P D vwCl (ce_X4 kA q_this q_this_panel o_this ++ (ce_X5 kA q_this_panel o_this_panel)) H := hP
      refine lv_if_eq (tgt := 37) hx hb dX4_visit_33 (by decide) (fun hc_9 => ?_) (fun hc_9 => ?_)
      · rw [if_pos hc_9] at hf
        refine lv_iload_n hx hb dX4_visit_37 rfl (lv_at hl 3 rfl) ?_
        refine lv_bipush (v := 16) hx hb dX4_visit_38 (by decide) ?_
        refine lv_imul hx hb dX4_visit_40 ?_
        refine lv_iload_n hx hb dX4_visit_41 rfl (lv_at hl 2 rfl) ?_
        refine lv_iadd hx hb dX4_visit_42 ?_
        refine lv_istore (lv' := [(5, .int ((a3 * (16 : Int32)) + a2)), (0, .ref (q_this 0)), (1, .int a1), (2, .int a2), (3, .int a3), (4, .int a4)]) hx hb dX4_visit_43 hl (by decide) rfl (fun ls hl => ?_)
        refine lv_aload_n hx hb dX4_visit_45 rfl (lv_at hl 1 rfl) ?_
        refine va_get (D := D) (ci := 3) (v := .int (os_I o_this 3)) (C := RX4) (T := TX4) (N := 4) hx hb hUX4 (fun _ h9 => h9) hown hK hP 0 rfl rfl 3 (by decide) (hts (Cond.fieldLink RX4 77 "ReliefBuilder$Layers" "queued" "I") (List.mem_of_getElem? (i := 2) rfl)) (fun _ h9 => h9) rfl dX4_visit_46 ?_
        refine lv_if_lt (tgt := 108) hx hb dX4_visit_49 (by decide) (fun hc_10 => ?_) (fun hc_10 => ?_)
        · rw [if_pos hc_10] at hf
          rw [← Option.some.inj hf]
          exact mc_retv hx hb hr hlk hP hK hD hS dX4_visit_108
        · rw [if_neg hc_10] at hf
          refine lv_aload_n hx hb dX4_visit_52 rfl (lv_at hl 1 rfl) ?_
          refine va_get (D := D) (ci := 3) (v := .int (os_I o_this 3)) (C := RX4) (T := TX4) (N := 4) hx hb hUX4 (fun _ h9 => h9) hown hK hP 0 rfl rfl 3 (by decide) (hts (Cond.fieldLink RX4 77 "ReliefBuilder$Layers" "queued" "I") (List.mem_of_getElem? (i := 2) rfl)) (fun _ h9 => h9) rfl dX4_visit_53 ?_
          refine lv_aload_n hx hb dX4_visit_56 rfl (lv_at hl 1 rfl) ?_
          refine va_get (D := D) (ci := 3) (v := .ref (q_this 1)) (C := RX4) (T := TX4) (N := 4) hx hb hUX4 (fun _ h9 => h9) hown hK hP 0 rfl rfl 1 (by decide) (hts (Cond.fieldLink RX4 9 "ReliefBuilder$Layers" "queue" "[I") (List.mem_of_getElem? (i := 3) rfl)) (fun _ h9 => h9) rfl dX4_visit_57 ?_
          refine va_alen (v := 192) hx hb hK hP 1 0 rfl rfl rfl dX4_visit_60 ?_
          refine lv_icmp_ge (tgt := 108) hx hb dX4_visit_61 (by decide) (fun hc_11 => ?_) (fun hc_11 => ?_)
          · rw [if_pos hc_11] at hf
            rw [← Option.some.inj hf]
            exact mc_retv hx hb hr hlk hP hK hD hS dX4_visit_108
          · rw [if_neg hc_11] at hf
            refine lv_iload hx hb dX4_visit_64 (lv_at hl 0 rfl) ?_
            refine lv_if_lt (tgt := 108) hx hb dX4_visit_66 (by decide) (fun hc_12 => ?_) (fun hc_12 => ?_)
            · rw [if_pos hc_12] at hf
              rw [← Option.some.inj hf]
              exact mc_retv hx hb hr hlk hP hK hD hS dX4_visit_108
            · rw [if_neg hc_12] at hf
              refine lv_iload hx hb dX4_visit_69 (lv_at hl 0 rfl) ?_
              refine lv_aload_n hx hb dX4_visit_71 rfl (lv_at hl 1 rfl) ?_
              refine va_get (D := D) (ci := 3) (v := .ref (q_this 2)) (C := RX4) (T := TX4) (N := 4) hx hb hUX4 (fun _ h9 => h9) hown hK hP 0 rfl rfl 2 (by decide) (hts (Cond.fieldLink RX4 15 "ReliefBuilder$Layers" "isQueued" "[Z") (List.mem_of_getElem? (i := 4) rfl)) (fun _ h9 => h9) rfl dX4_visit_72 ?_
              refine va_alen (v := 192) hx hb hK hP 2 1 rfl rfl rfl dX4_visit_75 ?_
              refine lv_icmp_ge (tgt := 108) hx hb dX4_visit_76 (by decide) (fun hc_13 => ?_) (fun hc_13 => ?_)
              · rw [if_pos hc_13] at hf
                rw [← Option.some.inj hf]
                exact mc_retv hx hb hr hlk hP hK hD hS dX4_visit_108
              · rw [if_neg hc_13] at hf
                refine lv_aload_n hx hb dX4_visit_79 rfl (lv_at hl 1 rfl) ?_
                refine va_get (D := D) (ci := 3) (v := .ref (q_this 2)) (C := RX4) (T := TX4) (N := 4) hx hb hUX4 (fun _ h9 => h9) hown hK hP 0 rfl rfl 2 (by decide) (hts (Cond.fieldLink RX4 15 "ReliefBuilder$Layers" "isQueued" "[Z") (List.mem_of_getElem? (i := 4) rfl)) (fun _ h9 => h9) rfl dX4_visit_80 ?_
                refine lv_iload hx hb dX4_visit_83 (lv_at hl 0 rfl) ?_
                refine lv_iconst (v := 1) hx hb dX4_visit_85 (by decide) ?_
                obtain ⟨hi_14, hf⟩ := os_if hf
                refine va_zast hx hb hK hP hD hS 2 1 rfl rfl hi_14 dX4_visit_86 (fun H locs hP hD hS => ?_)
                have hP : va_P D vwCl (ce_X4 kA q_this q_this_panel (ss_A o_this 1 (upd (os_A o_this 1) (Int32.toNatClampNeg ((a3 * (16 : Int32)) + a2)) (vp_nar .boolean (1 : Int32)))) ++ (ce_X5 kA q_this_panel o_this_panel)) H := hP
                have hD : va_D A (ce_X4 kA q_this q_this_panel (ss_A o_this 1 (upd (os_A o_this 1) (Int32.toNatClampNeg ((a3 * (16 : Int32)) + a2)) (vp_nar .boolean (1 : Int32)))) ++ (ce_X5 kA q_this_panel o_this_panel)) := hD
                refine lv_aload_n hx hb dX4_visit_87 rfl (lv_at hl 1 rfl) ?_
                refine va_get (D := D) (ci := 3) (v := .ref (q_this 1)) (C := RX4) (T := TX4) (N := 4) hx hb hUX4 (fun _ h9 => h9) hown hK hP 0 rfl rfl 1 (by decide) (hts (Cond.fieldLink RX4 9 "ReliefBuilder$Layers" "queue" "[I") (List.mem_of_getElem? (i := 3) rfl)) (fun _ h9 => h9) rfl dX4_visit_88 ?_
                refine lv_aload_n hx hb dX4_visit_91 rfl (lv_at hl 1 rfl) ?_
                refine va_get (D := D) (ci := 3) (v := .int (os_I o_this 3)) (C := RX4) (T := TX4) (N := 4) hx hb hUX4 (fun _ h9 => h9) hown hK hP 0 rfl rfl 3 (by decide) (hts (Cond.fieldLink RX4 77 "ReliefBuilder$Layers" "queued" "I") (List.mem_of_getElem? (i := 2) rfl)) (fun _ h9 => h9) rfl dX4_visit_92 ?_
                refine lv_iload hx hb dX4_visit_95 (lv_at hl 0 rfl) ?_
                obtain ⟨hi_15, hf⟩ := os_if hf
                refine va_iast hx hb hK hP hD hS 1 0 rfl rfl hi_15 dX4_visit_97 (fun H locs hP hD hS => ?_)
                have hE9 : ∀ (y0 : Nat → Int32) (z9 : Nat → Int32), ((ce_X4 kA q_this q_this_panel (ss_A o_this 1 y0) ++ (ce_X5 kA q_this_panel o_this_panel)) : va_W).set 1 (q_this 1, .inl (kA 0, 192, .inl z9)) = (ce_X4 kA q_this q_this_panel (ss_A (ss_A o_this 0 z9) 1 y0) ++ (ce_X5 kA q_this_panel o_this_panel)) := fun _ _ => rfl
                have hP : va_P D vwCl (ce_X4 kA q_this q_this_panel (ss_A (ss_A o_this 0 (upd (os_A o_this 0) (Int32.toNatClampNeg (os_I o_this 3)) ((a3 * (16 : Int32)) + a2))) 1 (upd (os_A o_this 1) (Int32.toNatClampNeg ((a3 * (16 : Int32)) + a2)) (vp_nar .boolean (1 : Int32)))) ++ (ce_X5 kA q_this_panel o_this_panel)) H := Eq.mp (congrArg (fun w9 => va_P D vwCl w9 H) (hE9 (upd (os_A o_this 1) (Int32.toNatClampNeg ((a3 * (16 : Int32)) + a2)) (vp_nar .boolean (1 : Int32))) _)) hP
                have hD : va_D A (ce_X4 kA q_this q_this_panel (ss_A (ss_A o_this 0 (upd (os_A o_this 0) (Int32.toNatClampNeg (os_I o_this 3)) ((a3 * (16 : Int32)) + a2))) 1 (upd (os_A o_this 1) (Int32.toNatClampNeg ((a3 * (16 : Int32)) + a2)) (vp_nar .boolean (1 : Int32)))) ++ (ce_X5 kA q_this_panel o_this_panel)) := Eq.mp (congrArg (fun w9 => va_D A w9) (hE9 (upd (os_A o_this 1) (Int32.toNatClampNeg ((a3 * (16 : Int32)) + a2)) (vp_nar .boolean (1 : Int32))) _)) hD
                refine lv_aload_n hx hb dX4_visit_98 rfl (lv_at hl 1 rfl) ?_
                refine lv_dup hx hb dX4_visit_99 rfl ?_
                refine va_get (D := D) (ci := 3) (v := .int (os_I o_this 3)) (C := RX4) (T := TX4) (N := 4) hx hb hUX4 (fun _ h9 => h9) hown hK hP 0 rfl rfl 3 (by decide) (hts (Cond.fieldLink RX4 77 "ReliefBuilder$Layers" "queued" "I") (List.mem_of_getElem? (i := 2) rfl)) (fun _ h9 => h9) rfl dX4_visit_100 ?_
                refine lv_iconst (v := 1) hx hb dX4_visit_103 (by decide) ?_
                refine lv_iadd hx hb dX4_visit_104 ?_
                refine va_put (D := D) (ci := 3) (v := .int ((os_I o_this 3) + (1 : Int32))) (ty := .int) (C := RX4) (T := TX4) (N := 4) hx hb hUX4 (fun _ h9 => h9) tyX4 tyX4_ok nmX4 hown hK hP hD hS 0 rfl rfl 3 (by decide) (hts (Cond.fieldLink RX4 77 "ReliefBuilder$Layers" "queued" "I") (List.mem_of_getElem? (i := 2) rfl)) (fun _ h9 => h9) rfl (tyX4_ok 3 (by decide)) rfl rfl (Nat.le_of_ble_eq_true rfl) dX4_visit_105 (fun H locs hP hD hS => ?_)
                have hP : va_P D vwCl (ce_X4 kA q_this q_this_panel (ss_I (ss_A (ss_A o_this 0 (upd (os_A o_this 0) (Int32.toNatClampNeg (os_I o_this 3)) ((a3 * (16 : Int32)) + a2))) 1 (upd (os_A o_this 1) (Int32.toNatClampNeg ((a3 * (16 : Int32)) + a2)) (vp_nar .boolean (1 : Int32)))) 3 ((os_I o_this 3) + (1 : Int32))) ++ (ce_X5 kA q_this_panel o_this_panel)) H := hP
                have hD : va_D A (ce_X4 kA q_this q_this_panel (ss_I (ss_A (ss_A o_this 0 (upd (os_A o_this 0) (Int32.toNatClampNeg (os_I o_this 3)) ((a3 * (16 : Int32)) + a2))) 1 (upd (os_A o_this 1) (Int32.toNatClampNeg ((a3 * (16 : Int32)) + a2)) (vp_nar .boolean (1 : Int32)))) 3 ((os_I o_this 3) + (1 : Int32))) ++ (ce_X5 kA q_this_panel o_this_panel)) := hD
                rw [← Option.some.inj hf]
                exact mc_retv hx hb hr hlk hP hK hD hS dX4_visit_108
      · rw [if_neg hc_9] at hf
        rw [← Option.some.inj hf]
        exact mc_retv hx hb hr hlk hP hK hD hS dX4_visit_36
def ff_X4_visitGroup_b84 (N : Nat) (o_this_panel : os_T) (k20 : (os_T × Int32 × Int32 × Int32 × Int32) → Option (Int32 × os_T)) (o_this : os_T) (x1 : Int32) (x4 : Int32) (x6 : Int32) (x7 : Int32) (x8 : Int32) (t0 : Int32) : Option (Int32 × os_T) :=
  ((ff_X4_visit N o_this o_this_panel x1 (x7 - (1 : Int32)) x8 x4).bind fun u_13 => ((ff_X4_visit N u_13 o_this_panel x1 (x7 + (1 : Int32)) x8 x4).bind fun u_15 => ((ff_X4_visit N u_15 o_this_panel x1 x7 (x8 - (1 : Int32)) x4).bind fun u_17 => ((ff_X4_visit N u_17 o_this_panel x1 x7 (x8 + (1 : Int32)) x4).bind fun u_19 => k20 (u_19, x1, x4, t0, x6 + 1)))))
def ff_X4_visitGroup_b79 (N : Nat) (o_this_panel : os_T) (k20 : (os_T × Int32 × Int32 × Int32 × Int32) → Option (Int32 × os_T)) (o_this : os_T) (x1 : Int32) (x4 : Int32) (x6 : Int32) (x7 : Int32) (x8 : Int32) : Option (Int32 × os_T) :=
  ff_X4_visitGroup_b84 N o_this_panel k20 o_this x1 x4 x6 x7 x8 (1 : Int32)
def ff_X4_visitGroup_c20 (N : Nat) (o_this_panel : os_T) (k20 : (os_T × Int32 × Int32 × Int32 × Int32) → Option (Int32 × os_T)) (o_this : os_T) (x1 : Int32) (x4 : Int32) (x5 : Int32) (x6 : Int32) : Option (Int32 × os_T) :=
  (if (os_I o_this 3) ≤ x6 then (if os_z x5 then some (x5, o_this) else none) else (if (192 : Int32) ≤ x6 then (if os_z x5 then some (x5, o_this) else none) else (if os_in x6 192 then (if os_in x6 192 then (if x5 = 0 then ((ff_X4_isAtEdge N o_this o_this_panel (((os_A o_this 0) (Int32.toNatClampNeg x6)) - ((os_A o_this 0) (Int32.toNatClampNeg x6)) / (16 : Int32) * (16 : Int32)) (((os_A o_this 0) (Int32.toNatClampNeg x6)) / (16 : Int32))).bind fun u_10 => (if u_10 = 0 then ff_X4_visitGroup_b84 N o_this_panel k20 o_this x1 x4 x6 (((os_A o_this 0) (Int32.toNatClampNeg x6)) - ((os_A o_this 0) (Int32.toNatClampNeg x6)) / (16 : Int32) * (16 : Int32)) (((os_A o_this 0) (Int32.toNatClampNeg x6)) / (16 : Int32)) (0 : Int32) else ff_X4_visitGroup_b79 N o_this_panel k20 o_this x1 x4 x6 (((os_A o_this 0) (Int32.toNatClampNeg x6)) - ((os_A o_this 0) (Int32.toNatClampNeg x6)) / (16 : Int32) * (16 : Int32)) (((os_A o_this 0) (Int32.toNatClampNeg x6)) / (16 : Int32)))) else ff_X4_visitGroup_b79 N o_this_panel k20 o_this x1 x4 x6 (((os_A o_this 0) (Int32.toNatClampNeg x6)) - ((os_A o_this 0) (Int32.toNatClampNeg x6)) / (16 : Int32) * (16 : Int32)) (((os_A o_this 0) (Int32.toNatClampNeg x6)) / (16 : Int32))) else none) else none)))
def ff_X4_visitGroup_l20 (N : Nat) (o_this_panel : os_T) : Nat → (os_T × Int32 × Int32 × Int32 × Int32) → Option (Int32 × os_T) := os_loop (fun k20 s1 => ff_X4_visitGroup_c20 N o_this_panel k20 s1.1 s1.2.1 s1.2.2.1 s1.2.2.2.1 s1.2.2.2.2)
def ff_X4_visitGroup (N : Nat) (o_this : os_T) (o_this_panel : os_T) (a1 : Int32) (a2 : Int32) (a3 : Int32) (a4 : Int32) : Option (Int32 × os_T) :=
  ((ff_X4_visit N (ss_I o_this 3 (0 : Int32)) o_this_panel a1 a2 a3 a4).bind fun u_1 => ff_X4_visitGroup_l20 N o_this_panel N (u_1, a1, a4, (0 : Int32), (0 : Int32)))
set_option maxHeartbeats 4000000 in
set_option maxRecDepth 100000 in
theorem mm_X4_visitGroup (l : Launch) (D : va_G) (kA : Nat → ClassId) (N : Nat) (q_this : Nat → Nat) (q_this_panel : Nat → Nat) (o_this : os_T) (o_this_panel : os_T) (a1 : Int32) (a2 : Int32) (a3 : Int32) (a4 : Int32) (out : (Int32 × os_T)) (hf : ff_X4_visitGroup N o_this o_this_panel a1 a2 a3 a4 = some out) : mc_C l D kA yX4_visitGroup wsX4_visitGroup ({ frames := 2, cells := 0, slots := 0, locals := 48 } : Room) [.ref (q_this 0), .int a1, .int a2, .int a3, .int a4] (ce_X4 kA q_this q_this_panel o_this ++ (ce_X5 kA q_this_panel o_this_panel)) (some (.int out.1)) (ce_X4 kA q_this q_this_panel out.2 ++ (ce_X5 kA q_this_panel o_this_panel)) := by
  refine mc_of (cc := cX4_visitGroup) (maxL := 9) (ret := (some .boolean)) (by decide) rfl (Nat.le_of_ble_eq_true rfl) ?_
  intro p e s m below meth c A B hD hP hS ls hl
  obtain ⟨hx, hb, hr, hlk, hml, hown, hts, hK, hA, hnm⟩ := B
  have hown : s.vm.findClass RX4 = some m.cls := hown
  have hl : lv_has ls 9 [(0, .ref (q_this 0)), (1, .int a1), (2, .int a2), (3, .int a3), (4, .int a4)] := hl
  have hUX4 : ∀ w ∈ u_ws RX4 TX4 4, w.before [.ref (q_this 0), .int a1, .int a2, .int a3, .int a4].toArray s = true := fun w h => hts w (List.mem_cons_of_mem _ (List.mem_append_left _ (List.mem_append_right _ h)))
  have hB84 : ∀ (k20 : (os_T × Int32 × Int32 × Int32 × Int32) → Option (Int32 × os_T)), (∀ (o_this : os_T) (x1 : Int32) (x4 : Int32) (x5 : Int32) (x6 : Int32) (H : Heap) (locs : List Loc) (ls : Array Slot), va_P D vwCl (ce_X4 kA q_this q_this_panel o_this ++ (ce_X5 kA q_this_panel o_this_panel)) H → va_D A (ce_X4 kA q_this q_this_panel o_this ++ (ce_X5 kA q_this_panel o_this_panel)) → va_S A s.heap H locs → lv_has ls 9 [(0, .ref (q_this 0)), (1, .int x1), (4, .int x4), (5, .int x5), (6, .int x6)] → k20 (o_this, x1, x4, x5, x6) = some out → W p l e ({ frames := 2, cells := 0, slots := 0, locals := 48 } : Room) s m [.ref (q_this 0), .int a1, .int a2, .int a3, .int a4].toArray below meth c H locs 0 0 (MQ below (mc_Q D kA A (some (.int out.1)) (ce_X4 kA q_this q_this_panel out.2 ++ (ce_X5 kA q_this_panel o_this_panel))) [.ref (q_this 0), .int a1, .int a2, .int a3, .int a4].toArray s 0 0 A) (F0 m 20 ls [])) → ∀ (o_this : os_T) (x1 : Int32) (x4 : Int32) (x6 : Int32) (x7 : Int32) (x8 : Int32) (t0 : Int32) (H : Heap) (locs : List Loc) (ls : Array Slot), va_P D vwCl (ce_X4 kA q_this q_this_panel o_this ++ (ce_X5 kA q_this_panel o_this_panel)) H → va_D A (ce_X4 kA q_this q_this_panel o_this ++ (ce_X5 kA q_this_panel o_this_panel)) → va_S A s.heap H locs → lv_has ls 9 [(0, .ref (q_this 0)), (1, .int x1), (4, .int x4), (6, .int x6), (7, .int x7), (8, .int x8)] → ff_X4_visitGroup_b84 N o_this_panel k20 o_this x1 x4 x6 x7 x8 t0 = some out → W p l e ({ frames := 2, cells := 0, slots := 0, locals := 48 } : Room) s m [.ref (q_this 0), .int a1, .int a2, .int a3, .int a4].toArray below meth c H locs 0 0 (MQ below (mc_Q D kA A (some (.int out.1)) (ce_X4 kA q_this q_this_panel out.2 ++ (ce_X5 kA q_this_panel o_this_panel))) [.ref (q_this 0), .int a1, .int a2, .int a3, .int a4].toArray s 0 0 A) (F0 m 84 ls [.int t0]) := by
    intro k20 hk20 o_this x1 x4 x6 x7 x8 t0 H locs ls hP hD hS hl hf
    unfold ff_X4_visitGroup_b84 at hf
    refine lv_istore (lv' := [(5, .int t0), (0, .ref (q_this 0)), (1, .int x1), (4, .int x4), (6, .int x6), (7, .int x7), (8, .int x8)]) hx hb dX4_visitGroup_84 hl (by decide) rfl (fun ls hl => ?_)
    refine lv_aload_n hx hb dX4_visitGroup_86 rfl (lv_at hl 1 rfl) ?_
    refine lv_iload_n hx hb dX4_visitGroup_87 rfl (lv_at hl 2 rfl) ?_
    refine lv_iload hx hb dX4_visitGroup_88 (lv_at hl 5 rfl) ?_
    refine lv_iconst (v := 1) hx hb dX4_visitGroup_90 (by decide) ?_
    refine lv_isub hx hb dX4_visitGroup_91 ?_
    refine lv_iload hx hb dX4_visitGroup_92 (lv_at hl 6 rfl) ?_
    refine lv_iload hx hb dX4_visitGroup_94 (lv_at hl 3 rfl) ?_
    obtain ⟨u_13, he_14, hf⟩ := os_bd hf
    refine mc_callV ⟨hx, hb, hml, hown, hts⟩ (mm_X4_visit l D kA N q_this q_this_panel o_this o_this_panel x1 (x7 - (1 : Int32)) x8 x4 u_13 he_14) (cwV 4 hts gX4_visitGroup_X4_visit rfl rfl rfl (by decide +kernel) ⟨Nat.le_of_ble_eq_true rfl, Nat.le_of_ble_eq_true rfl⟩) (wc := (ce_X4 kA q_this q_this_panel o_this ++ (ce_X5 kA q_this_panel o_this_panel))) (ci := 3) (q0 := 0) rfl rfl rfl hl.1 (As := [.int x1, .int (x7 - (1 : Int32)), .int x8, .int x4]) (rest := []) rfl (Nat.le_of_ble_eq_true rfl) dX4_visitGroup_96 ⟨Nat.le_of_ble_eq_true rfl, Nat.le_of_ble_eq_true rfl⟩ hK hP hD hS hA [0, 1, 2, 3, 4, 5, 6] [] [0, 1, 2, 3, 4, 5, 6] rfl (by decide) rfl (by decide) (by decide) rfl (by decide) (wr := []) (w2 := (ce_X4 kA q_this q_this_panel u_13 ++ (ce_X5 kA q_this_panel o_this_panel))) (fun H locs hP hD hS => ?_)
    have hP : va_P D vwCl (ce_X4 kA q_this q_this_panel u_13 ++ (ce_X5 kA q_this_panel o_this_panel)) H := hP
    refine lv_aload_n hx hb dX4_visitGroup_99 rfl (lv_at hl 1 rfl) ?_
    refine lv_iload_n hx hb dX4_visitGroup_100 rfl (lv_at hl 2 rfl) ?_
    refine lv_iload hx hb dX4_visitGroup_101 (lv_at hl 5 rfl) ?_
    refine lv_iconst (v := 1) hx hb dX4_visitGroup_103 (by decide) ?_
    refine lv_iadd hx hb dX4_visitGroup_104 ?_
    refine lv_iload hx hb dX4_visitGroup_105 (lv_at hl 6 rfl) ?_
    refine lv_iload hx hb dX4_visitGroup_107 (lv_at hl 3 rfl) ?_
    obtain ⟨u_15, he_16, hf⟩ := os_bd hf
    refine mc_callV ⟨hx, hb, hml, hown, hts⟩ (mm_X4_visit l D kA N q_this q_this_panel u_13 o_this_panel x1 (x7 + (1 : Int32)) x8 x4 u_15 he_16) (cwV 4 hts gX4_visitGroup_X4_visit rfl rfl rfl (by decide +kernel) ⟨Nat.le_of_ble_eq_true rfl, Nat.le_of_ble_eq_true rfl⟩) (wc := (ce_X4 kA q_this q_this_panel u_13 ++ (ce_X5 kA q_this_panel o_this_panel))) (ci := 3) (q0 := 0) rfl rfl rfl hl.1 (As := [.int x1, .int (x7 + (1 : Int32)), .int x8, .int x4]) (rest := []) rfl (Nat.le_of_ble_eq_true rfl) dX4_visitGroup_109 ⟨Nat.le_of_ble_eq_true rfl, Nat.le_of_ble_eq_true rfl⟩ hK hP hD hS hA [0, 1, 2, 3, 4, 5, 6] [] [0, 1, 2, 3, 4, 5, 6] rfl (by decide) rfl (by decide) (by decide) rfl (by decide) (wr := []) (w2 := (ce_X4 kA q_this q_this_panel u_15 ++ (ce_X5 kA q_this_panel o_this_panel))) (fun H locs hP hD hS => ?_)
    have hP : va_P D vwCl (ce_X4 kA q_this q_this_panel u_15 ++ (ce_X5 kA q_this_panel o_this_panel)) H := hP
    refine lv_aload_n hx hb dX4_visitGroup_112 rfl (lv_at hl 1 rfl) ?_
    refine lv_iload_n hx hb dX4_visitGroup_113 rfl (lv_at hl 2 rfl) ?_
    refine lv_iload hx hb dX4_visitGroup_114 (lv_at hl 5 rfl) ?_
    refine lv_iload hx hb dX4_visitGroup_116 (lv_at hl 6 rfl) ?_
    refine lv_iconst (v := 1) hx hb dX4_visitGroup_118 (by decide) ?_
    refine lv_isub hx hb dX4_visitGroup_119 ?_
    refine lv_iload hx hb dX4_visitGroup_120 (lv_at hl 3 rfl) ?_
    obtain ⟨u_17, he_18, hf⟩ := os_bd hf
    refine mc_callV ⟨hx, hb, hml, hown, hts⟩ (mm_X4_visit l D kA N q_this q_this_panel u_15 o_this_panel x1 x7 (x8 - (1 : Int32)) x4 u_17 he_18) (cwV 4 hts gX4_visitGroup_X4_visit rfl rfl rfl (by decide +kernel) ⟨Nat.le_of_ble_eq_true rfl, Nat.le_of_ble_eq_true rfl⟩) (wc := (ce_X4 kA q_this q_this_panel u_15 ++ (ce_X5 kA q_this_panel o_this_panel))) (ci := 3) (q0 := 0) rfl rfl rfl hl.1 (As := [.int x1, .int x7, .int (x8 - (1 : Int32)), .int x4]) (rest := []) rfl (Nat.le_of_ble_eq_true rfl) dX4_visitGroup_122 ⟨Nat.le_of_ble_eq_true rfl, Nat.le_of_ble_eq_true rfl⟩ hK hP hD hS hA [0, 1, 2, 3, 4, 5, 6] [] [0, 1, 2, 3, 4, 5, 6] rfl (by decide) rfl (by decide) (by decide) rfl (by decide) (wr := []) (w2 := (ce_X4 kA q_this q_this_panel u_17 ++ (ce_X5 kA q_this_panel o_this_panel))) (fun H locs hP hD hS => ?_)
    have hP : va_P D vwCl (ce_X4 kA q_this q_this_panel u_17 ++ (ce_X5 kA q_this_panel o_this_panel)) H := hP
    refine lv_aload_n hx hb dX4_visitGroup_125 rfl (lv_at hl 1 rfl) ?_
    refine lv_iload_n hx hb dX4_visitGroup_126 rfl (lv_at hl 2 rfl) ?_
    refine lv_iload hx hb dX4_visitGroup_127 (lv_at hl 5 rfl) ?_
    refine lv_iload hx hb dX4_visitGroup_129 (lv_at hl 6 rfl) ?_
    refine lv_iconst (v := 1) hx hb dX4_visitGroup_131 (by decide) ?_
    refine lv_iadd hx hb dX4_visitGroup_132 ?_
    refine lv_iload hx hb dX4_visitGroup_133 (lv_at hl 3 rfl) ?_
    obtain ⟨u_19, he_20, hf⟩ := os_bd hf
    refine mc_callV ⟨hx, hb, hml, hown, hts⟩ (mm_X4_visit l D kA N q_this q_this_panel u_17 o_this_panel x1 x7 (x8 + (1 : Int32)) x4 u_19 he_20) (cwV 4 hts gX4_visitGroup_X4_visit rfl rfl rfl (by decide +kernel) ⟨Nat.le_of_ble_eq_true rfl, Nat.le_of_ble_eq_true rfl⟩) (wc := (ce_X4 kA q_this q_this_panel u_17 ++ (ce_X5 kA q_this_panel o_this_panel))) (ci := 3) (q0 := 0) rfl rfl rfl hl.1 (As := [.int x1, .int x7, .int (x8 + (1 : Int32)), .int x4]) (rest := []) rfl (Nat.le_of_ble_eq_true rfl) dX4_visitGroup_135 ⟨Nat.le_of_ble_eq_true rfl, Nat.le_of_ble_eq_true rfl⟩ hK hP hD hS hA [0, 1, 2, 3, 4, 5, 6] [] [0, 1, 2, 3, 4, 5, 6] rfl (by decide) rfl (by decide) (by decide) rfl (by decide) (wr := []) (w2 := (ce_X4 kA q_this q_this_panel u_19 ++ (ce_X5 kA q_this_panel o_this_panel))) (fun H locs hP hD hS => ?_)
    have hP : va_P D vwCl (ce_X4 kA q_this q_this_panel u_19 ++ (ce_X5 kA q_this_panel o_this_panel)) H := hP
    refine lv_iinc (v := x6 + 1) (lv' := [(6, .int (x6 + 1)), (5, .int t0), (0, .ref (q_this 0)), (1, .int x1), (4, .int x4), (7, .int x7), (8, .int x8)]) hx hb dX4_visitGroup_138 hl (k := 4) rfl rfl (by decide) rfl (fun ls hl => ?_)
    refine lv_goto (tgt := 20) hx hb dX4_visitGroup_141 (by decide) ?_
    exact hk20 u_19 x1 x4 t0 (x6 + 1) _ _ _ hP hD hS (lv_sub hl [2, 3, 4, 1, 0] rfl) hf
  have hB79 : ∀ (k20 : (os_T × Int32 × Int32 × Int32 × Int32) → Option (Int32 × os_T)), (∀ (o_this : os_T) (x1 : Int32) (x4 : Int32) (x5 : Int32) (x6 : Int32) (H : Heap) (locs : List Loc) (ls : Array Slot), va_P D vwCl (ce_X4 kA q_this q_this_panel o_this ++ (ce_X5 kA q_this_panel o_this_panel)) H → va_D A (ce_X4 kA q_this q_this_panel o_this ++ (ce_X5 kA q_this_panel o_this_panel)) → va_S A s.heap H locs → lv_has ls 9 [(0, .ref (q_this 0)), (1, .int x1), (4, .int x4), (5, .int x5), (6, .int x6)] → k20 (o_this, x1, x4, x5, x6) = some out → W p l e ({ frames := 2, cells := 0, slots := 0, locals := 48 } : Room) s m [.ref (q_this 0), .int a1, .int a2, .int a3, .int a4].toArray below meth c H locs 0 0 (MQ below (mc_Q D kA A (some (.int out.1)) (ce_X4 kA q_this q_this_panel out.2 ++ (ce_X5 kA q_this_panel o_this_panel))) [.ref (q_this 0), .int a1, .int a2, .int a3, .int a4].toArray s 0 0 A) (F0 m 20 ls [])) → ∀ (o_this : os_T) (x1 : Int32) (x4 : Int32) (x6 : Int32) (x7 : Int32) (x8 : Int32) (H : Heap) (locs : List Loc) (ls : Array Slot), va_P D vwCl (ce_X4 kA q_this q_this_panel o_this ++ (ce_X5 kA q_this_panel o_this_panel)) H → va_D A (ce_X4 kA q_this q_this_panel o_this ++ (ce_X5 kA q_this_panel o_this_panel)) → va_S A s.heap H locs → lv_has ls 9 [(0, .ref (q_this 0)), (1, .int x1), (4, .int x4), (6, .int x6), (7, .int x7), (8, .int x8)] → ff_X4_visitGroup_b79 N o_this_panel k20 o_this x1 x4 x6 x7 x8 = some out → W p l e ({ frames := 2, cells := 0, slots := 0, locals := 48 } : Room) s m [.ref (q_this 0), .int a1, .int a2, .int a3, .int a4].toArray below meth c H locs 0 0 (MQ below (mc_Q D kA A (some (.int out.1)) (ce_X4 kA q_this q_this_panel out.2 ++ (ce_X5 kA q_this_panel o_this_panel))) [.ref (q_this 0), .int a1, .int a2, .int a3, .int a4].toArray s 0 0 A) (F0 m 79 ls []) := by
    intro k20 hk20 o_this x1 x4 x6 x7 x8 H locs ls hP hD hS hl hf
    unfold ff_X4_visitGroup_b79 at hf
    refine lv_iconst (v := 1) hx hb dX4_visitGroup_79 (by decide) ?_
    refine lv_goto (tgt := 84) hx hb dX4_visitGroup_80 (by decide) ?_
    exact hB84 k20 hk20 o_this x1 x4 x6 x7 x8 (1 : Int32) _ _ _ hP hD hS (lv_sub hl [0, 1, 2, 3, 4, 5] rfl) hf
  have hL20 : ∀ (n : Nat) (o_this : os_T) (x1 : Int32) (x4 : Int32) (x5 : Int32) (x6 : Int32) (H : Heap) (locs : List Loc) (ls : Array Slot), va_P D vwCl (ce_X4 kA q_this q_this_panel o_this ++ (ce_X5 kA q_this_panel o_this_panel)) H → va_D A (ce_X4 kA q_this q_this_panel o_this ++ (ce_X5 kA q_this_panel o_this_panel)) → va_S A s.heap H locs → lv_has ls 9 [(0, .ref (q_this 0)), (1, .int x1), (4, .int x4), (5, .int x5), (6, .int x6)] → ff_X4_visitGroup_l20 N o_this_panel n (o_this, x1, x4, x5, x6) = some out → W p l e ({ frames := 2, cells := 0, slots := 0, locals := 48 } : Room) s m [.ref (q_this 0), .int a1, .int a2, .int a3, .int a4].toArray below meth c H locs 0 0 (MQ below (mc_Q D kA A (some (.int out.1)) (ce_X4 kA q_this q_this_panel out.2 ++ (ce_X5 kA q_this_panel o_this_panel))) [.ref (q_this 0), .int a1, .int a2, .int a3, .int a4].toArray s 0 0 A) (F0 m 20 ls []) := by
    intro n
    induction n with
    | zero => intro o_this x1 x4 x5 x6 H locs ls _ _ _ _ hf; cases hf
    | succ n hk20 =>
      intro o_this x1 x4 x5 x6 H locs ls hP hD hS hl hf
      have hf : ff_X4_visitGroup_c20 N o_this_panel (ff_X4_visitGroup_l20 N o_this_panel n) o_this x1 x4 x5 x6 = some out := hf
      generalize hke : ff_X4_visitGroup_l20 N o_this_panel n = k20 at hk20 hf
      unfold ff_X4_visitGroup_c20 at hf
      refine lv_iload hx hb dX4_visitGroup_20 (lv_at hl 4 rfl) ?_
      refine lv_aload_n hx hb dX4_visitGroup_22 rfl (lv_at hl 0 rfl) ?_
      refine va_get (D := D) (ci := 3) (v := .int (os_I o_this 3)) (C := RX4) (T := TX4) (N := 4) hx hb hUX4 (fun _ h9 => h9) hown hK hP 0 rfl rfl 3 (by decide) (hts (Cond.fieldLink RX4 77 "ReliefBuilder$Layers" "queued" "I") (List.mem_of_getElem? (i := 1) rfl)) (fun _ h9 => h9) rfl dX4_visitGroup_23 ?_
      refine lv_icmp_ge (tgt := 144) hx hb dX4_visitGroup_26 (by decide) (fun hc_3 => ?_) (fun hc_3 => ?_)
      · rw [if_pos hc_3] at hf
        refine lv_iload hx hb dX4_visitGroup_144 (lv_at hl 3 rfl) ?_
        obtain ⟨hz_4, hf⟩ := os_if hf
        rw [← Option.some.inj hf]
        exact mc_retz hx hb hr (os_z_n hz_4) hlk hP hK hD hS dX4_visitGroup_146
      · rw [if_neg hc_3] at hf
        refine lv_iload hx hb dX4_visitGroup_29 (lv_at hl 4 rfl) ?_
        refine lv_aload_n hx hb dX4_visitGroup_31 rfl (lv_at hl 0 rfl) ?_
        refine va_get (D := D) (ci := 3) (v := .ref (q_this 1)) (C := RX4) (T := TX4) (N := 4) hx hb hUX4 (fun _ h9 => h9) hown hK hP 0 rfl rfl 1 (by decide) (hts (Cond.fieldLink RX4 9 "ReliefBuilder$Layers" "queue" "[I") (List.mem_of_getElem? (i := 2) rfl)) (fun _ h9 => h9) rfl dX4_visitGroup_32 ?_
        refine va_alen (v := 192) hx hb hK hP 1 0 rfl rfl rfl dX4_visitGroup_35 ?_
        refine lv_icmp_ge (tgt := 144) hx hb dX4_visitGroup_36 (by decide) (fun hc_5 => ?_) (fun hc_5 => ?_)
        · rw [if_pos hc_5] at hf
          refine lv_iload hx hb dX4_visitGroup_144 (lv_at hl 3 rfl) ?_
          obtain ⟨hz_6, hf⟩ := os_if hf
          rw [← Option.some.inj hf]
          exact mc_retz hx hb hr (os_z_n hz_6) hlk hP hK hD hS dX4_visitGroup_146
        · rw [if_neg hc_5] at hf
          refine lv_aload_n hx hb dX4_visitGroup_39 rfl (lv_at hl 0 rfl) ?_
          refine va_get (D := D) (ci := 3) (v := .ref (q_this 1)) (C := RX4) (T := TX4) (N := 4) hx hb hUX4 (fun _ h9 => h9) hown hK hP 0 rfl rfl 1 (by decide) (hts (Cond.fieldLink RX4 9 "ReliefBuilder$Layers" "queue" "[I") (List.mem_of_getElem? (i := 2) rfl)) (fun _ h9 => h9) rfl dX4_visitGroup_40 ?_
          refine lv_iload hx hb dX4_visitGroup_43 (lv_at hl 4 rfl) ?_
          obtain ⟨hi_7, hf⟩ := os_if hf
          refine va_iald hx hb hK hP 1 0 rfl rfl hi_7 dX4_visitGroup_45 ?_
          refine lv_bipush (v := 16) hx hb dX4_visitGroup_46 (by decide) ?_
          refine lv_irem hx hb dX4_visitGroup_48 (by decide) ?_
          refine lv_istore (lv' := [(7, .int (((os_A o_this 0) (Int32.toNatClampNeg x6)) - ((os_A o_this 0) (Int32.toNatClampNeg x6)) / (16 : Int32) * (16 : Int32))), (0, .ref (q_this 0)), (1, .int x1), (4, .int x4), (5, .int x5), (6, .int x6)]) hx hb dX4_visitGroup_49 hl (by decide) rfl (fun ls hl => ?_)
          refine lv_aload_n hx hb dX4_visitGroup_51 rfl (lv_at hl 1 rfl) ?_
          refine va_get (D := D) (ci := 3) (v := .ref (q_this 1)) (C := RX4) (T := TX4) (N := 4) hx hb hUX4 (fun _ h9 => h9) hown hK hP 0 rfl rfl 1 (by decide) (hts (Cond.fieldLink RX4 9 "ReliefBuilder$Layers" "queue" "[I") (List.mem_of_getElem? (i := 2) rfl)) (fun _ h9 => h9) rfl dX4_visitGroup_52 ?_
          refine lv_iload hx hb dX4_visitGroup_55 (lv_at hl 5 rfl) ?_
          obtain ⟨hi_8, hf⟩ := os_if hf
          refine va_iald hx hb hK hP 1 0 rfl rfl hi_8 dX4_visitGroup_57 ?_
          refine lv_bipush (v := 16) hx hb dX4_visitGroup_58 (by decide) ?_
          refine lv_idiv hx hb dX4_visitGroup_60 (by decide) ?_
          refine lv_istore (lv' := [(8, .int (((os_A o_this 0) (Int32.toNatClampNeg x6)) / (16 : Int32))), (7, .int (((os_A o_this 0) (Int32.toNatClampNeg x6)) - ((os_A o_this 0) (Int32.toNatClampNeg x6)) / (16 : Int32) * (16 : Int32))), (0, .ref (q_this 0)), (1, .int x1), (4, .int x4), (5, .int x5), (6, .int x6)]) hx hb dX4_visitGroup_61 hl (by decide) rfl (fun ls hl => ?_)
          refine lv_iload hx hb dX4_visitGroup_63 (lv_at hl 5 rfl) ?_
          refine lv_if_ne (tgt := 79) hx hb dX4_visitGroup_65 (by decide) (fun hc_9 => ?_) (fun hc_9 => ?_)
          · rw [if_neg hc_9] at hf
            exact hB79 k20 hk20 o_this x1 x4 x6 (((os_A o_this 0) (Int32.toNatClampNeg x6)) - ((os_A o_this 0) (Int32.toNatClampNeg x6)) / (16 : Int32) * (16 : Int32)) (((os_A o_this 0) (Int32.toNatClampNeg x6)) / (16 : Int32)) _ _ _ hP hD hS (lv_sub hl [2, 3, 4, 6, 1, 0] rfl) hf
          · rw [if_pos hc_9] at hf
            refine lv_aload_n hx hb dX4_visitGroup_68 rfl (lv_at hl 2 rfl) ?_
            refine lv_iload hx hb dX4_visitGroup_69 (lv_at hl 1 rfl) ?_
            refine lv_iload hx hb dX4_visitGroup_71 (lv_at hl 0 rfl) ?_
            obtain ⟨u_10, he_11, hf⟩ := os_bd hf
            refine mc_callV ⟨hx, hb, hml, hown, hts⟩ (mm_X4_isAtEdge l D kA N q_this q_this_panel o_this o_this_panel (((os_A o_this 0) (Int32.toNatClampNeg x6)) - ((os_A o_this 0) (Int32.toNatClampNeg x6)) / (16 : Int32) * (16 : Int32)) (((os_A o_this 0) (Int32.toNatClampNeg x6)) / (16 : Int32)) u_10 he_11) (cwV 2 hts gX4_visitGroup_X4_isAtEdge rfl rfl rfl (by decide +kernel) ⟨Nat.le_of_ble_eq_true rfl, Nat.le_of_ble_eq_true rfl⟩) (wc := (ce_X4 kA q_this q_this_panel o_this ++ (ce_X5 kA q_this_panel o_this_panel))) (ci := 3) (q0 := 0) rfl rfl rfl hl.1 (As := [.int (((os_A o_this 0) (Int32.toNatClampNeg x6)) - ((os_A o_this 0) (Int32.toNatClampNeg x6)) / (16 : Int32) * (16 : Int32)), .int (((os_A o_this 0) (Int32.toNatClampNeg x6)) / (16 : Int32))]) (rest := []) rfl (Nat.le_of_ble_eq_true rfl) dX4_visitGroup_73 ⟨Nat.le_of_ble_eq_true rfl, Nat.le_of_ble_eq_true rfl⟩ hK hP hD hS hA [0, 1, 2, 3, 4, 5, 6] [] [0, 1, 2, 3, 4, 5, 6] rfl (by decide) rfl (by decide) (by decide) rfl (by decide) (wr := []) (w2 := (ce_X4 kA q_this q_this_panel o_this ++ (ce_X5 kA q_this_panel o_this_panel))) (fun H locs hP hD hS => ?_)
            have hP : va_P D vwCl (ce_X4 kA q_this q_this_panel o_this ++ (ce_X5 kA q_this_panel o_this_panel)) H := hP
            refine lv_if_eq (tgt := 83) hx hb dX4_visitGroup_76 (by decide) (fun hc_12 => ?_) (fun hc_12 => ?_)
            · rw [if_pos hc_12] at hf
              refine lv_iconst (v := 0) hx hb dX4_visitGroup_83 (by decide) ?_
              exact hB84 k20 hk20 o_this x1 x4 x6 (((os_A o_this 0) (Int32.toNatClampNeg x6)) - ((os_A o_this 0) (Int32.toNatClampNeg x6)) / (16 : Int32) * (16 : Int32)) (((os_A o_this 0) (Int32.toNatClampNeg x6)) / (16 : Int32)) (0 : Int32) _ _ _ hP hD hS (lv_sub hl [2, 3, 4, 6, 1, 0] rfl) hf
            · rw [if_neg hc_12] at hf
              exact hB79 k20 hk20 o_this x1 x4 x6 (((os_A o_this 0) (Int32.toNatClampNeg x6)) - ((os_A o_this 0) (Int32.toNatClampNeg x6)) / (16 : Int32) * (16 : Int32)) (((os_A o_this 0) (Int32.toNatClampNeg x6)) / (16 : Int32)) _ _ _ hP hD hS (lv_sub hl [2, 3, 4, 6, 1, 0] rfl) hf
  unfold ff_X4_visitGroup at hf
  refine lv_iconst (v := 0) hx hb dX4_visitGroup_0 (by decide) ?_
  refine lv_istore (lv' := [(5, .int (0 : Int32)), (0, .ref (q_this 0)), (1, .int a1), (2, .int a2), (3, .int a3), (4, .int a4)]) hx hb dX4_visitGroup_1 hl (by decide) rfl (fun ls hl => ?_)
  refine lv_aload_n hx hb dX4_visitGroup_3 rfl (lv_at hl 1 rfl) ?_
  refine lv_iconst (v := 0) hx hb dX4_visitGroup_4 (by decide) ?_
  refine va_put (D := D) (ci := 3) (v := .int (0 : Int32)) (ty := .int) (C := RX4) (T := TX4) (N := 4) hx hb hUX4 (fun _ h9 => h9) tyX4 tyX4_ok nmX4 hown hK hP hD hS 0 rfl rfl 3 (by decide) (hts (Cond.fieldLink RX4 77 "ReliefBuilder$Layers" "queued" "I") (List.mem_of_getElem? (i := 1) rfl)) (fun _ h9 => h9) rfl (tyX4_ok 3 (by decide)) rfl rfl (Nat.le_of_ble_eq_true rfl) dX4_visitGroup_5 (fun H locs hP hD hS => ?_)
  have hP : va_P D vwCl (ce_X4 kA q_this q_this_panel (ss_I o_this 3 (0 : Int32)) ++ (ce_X5 kA q_this_panel o_this_panel)) H := hP
  have hD : va_D A (ce_X4 kA q_this q_this_panel (ss_I o_this 3 (0 : Int32)) ++ (ce_X5 kA q_this_panel o_this_panel)) := hD
  refine lv_aload_n hx hb dX4_visitGroup_8 rfl (lv_at hl 1 rfl) ?_
  refine lv_iload_n hx hb dX4_visitGroup_9 rfl (lv_at hl 2 rfl) ?_
  refine lv_iload_n hx hb dX4_visitGroup_10 rfl (lv_at hl 3 rfl) ?_
  refine lv_iload_n hx hb dX4_visitGroup_11 rfl (lv_at hl 4 rfl) ?_
  refine lv_iload hx hb dX4_visitGroup_12 (lv_at hl 5 rfl) ?_
  obtain ⟨u_1, he_2, hf⟩ := os_bd hf
  refine mc_callV ⟨hx, hb, hml, hown, hts⟩ (mm_X4_visit l D kA N q_this q_this_panel (ss_I o_this 3 (0 : Int32)) o_this_panel a1 a2 a3 a4 u_1 he_2) (cwV 4 hts gX4_visitGroup_X4_visit rfl rfl rfl (by decide +kernel) ⟨Nat.le_of_ble_eq_true rfl, Nat.le_of_ble_eq_true rfl⟩) (wc := (ce_X4 kA q_this q_this_panel (ss_I o_this 3 (0 : Int32)) ++ (ce_X5 kA q_this_panel o_this_panel))) (ci := 3) (q0 := 0) rfl rfl rfl hl.1 (As := [.int a1, .int a2, .int a3, .int a4]) (rest := []) rfl (Nat.le_of_ble_eq_true rfl) dX4_visitGroup_14 ⟨Nat.le_of_ble_eq_true rfl, Nat.le_of_ble_eq_true rfl⟩ hK hP hD hS hA [0, 1, 2, 3, 4, 5, 6] [] [0, 1, 2, 3, 4, 5, 6] rfl (by decide) rfl (by decide) (by decide) rfl (by decide) (wr := []) (w2 := (ce_X4 kA q_this q_this_panel u_1 ++ (ce_X5 kA q_this_panel o_this_panel))) (fun H locs hP hD hS => ?_)
  have hP : va_P D vwCl (ce_X4 kA q_this q_this_panel u_1 ++ (ce_X5 kA q_this_panel o_this_panel)) H := hP
  refine lv_iconst (v := 0) hx hb dX4_visitGroup_17 (by decide) ?_
  refine lv_istore (lv' := [(6, .int (0 : Int32)), (5, .int (0 : Int32)), (0, .ref (q_this 0)), (1, .int a1), (2, .int a2), (3, .int a3), (4, .int a4)]) hx hb dX4_visitGroup_18 hl (by decide) rfl (fun ls hl => ?_)
  exact hL20 N u_1 a1 a4 (0 : Int32) (0 : Int32) _ _ _ hP hD hS (lv_sub hl [2, 3, 6, 1, 0] rfl) hf
def ff_X4_countOfGroups_b112 (N : Nat) (o_this_panel : os_T) (k29 : (os_T × Int32 × Int32 × Int32 × Int32) → Option (Int32 × os_T)) (k44 : (os_T × Int32 × Int32 × Int32 × Int32 × Int32) → Option (Int32 × os_T)) (o_this : os_T) (x1 : Int32) (x2 : Int32) (x3 : Int32) (x4 : Int32) (x5 : Int32) : Option (Int32 × os_T) :=
  k44 (o_this, x1, x2, x3, x4, x5 + 1)
def ff_X4_countOfGroups_b110 (N : Nat) (o_this_panel : os_T) (k29 : (os_T × Int32 × Int32 × Int32 × Int32) → Option (Int32 × os_T)) (k44 : (os_T × Int32 × Int32 × Int32 × Int32 × Int32) → Option (Int32 × os_T)) (o_this : os_T) (x1 : Int32) (x2 : Int32) (x4 : Int32) (x5 : Int32) (t0 : Int32) (t1 : Int32) : Option (Int32 × os_T) :=
  ff_X4_countOfGroups_b112 N o_this_panel k29 k44 o_this x1 x2 (t1 + t0) x4 x5
def ff_X4_countOfGroups_b105 (N : Nat) (o_this_panel : os_T) (k29 : (os_T × Int32 × Int32 × Int32 × Int32) → Option (Int32 × os_T)) (k44 : (os_T × Int32 × Int32 × Int32 × Int32 × Int32) → Option (Int32 × os_T)) (o_this : os_T) (x1 : Int32) (x2 : Int32) (x4 : Int32) (x5 : Int32) (t0 : Int32) : Option (Int32 × os_T) :=
  ff_X4_countOfGroups_b110 N o_this_panel k29 k44 o_this x1 x2 x4 x5 (1 : Int32) t0
def ff_X4_countOfGroups_c44 (N : Nat) (o_this_panel : os_T) (k29 : (os_T × Int32 × Int32 × Int32 × Int32) → Option (Int32 × os_T)) (k44 : (os_T × Int32 × Int32 × Int32 × Int32 × Int32) → Option (Int32 × os_T)) (o_this : os_T) (x1 : Int32) (x2 : Int32) (x3 : Int32) (x4 : Int32) (x5 : Int32) : Option (Int32 × os_T) :=
  (if (os_I o_this_panel 0) ≤ x5 then k29 (o_this, x1, x2, x3, x4 + 1) else ((ff_X5_reaches N o_this_panel x5 x4 x1).bind fun u_5 => (if u_5 = x2 then ((ff_X4_wasQueued N o_this x5 x4).bind fun u_8 => (if u_8 = 0 then ((ff_X4_visitGroup N o_this o_this_panel x1 x5 x4 x2).bind fun u_11 => (if x2 = 0 then (if u_11.1 = 0 then ff_X4_countOfGroups_b105 N o_this_panel k29 k44 u_11.2 x1 x2 x4 x5 x3 else ff_X4_countOfGroups_b110 N o_this_panel k29 k44 u_11.2 x1 x2 x4 x5 (0 : Int32) x3) else ff_X4_countOfGroups_b105 N o_this_panel k29 k44 u_11.2 x1 x2 x4 x5 x3)) else ff_X4_countOfGroups_b112 N o_this_panel k29 k44 o_this x1 x2 x3 x4 x5)) else ff_X4_countOfGroups_b112 N o_this_panel k29 k44 o_this x1 x2 x3 x4 x5)))
def ff_X4_countOfGroups_l44 (N : Nat) (o_this_panel : os_T) (k29 : (os_T × Int32 × Int32 × Int32 × Int32) → Option (Int32 × os_T)) : Nat → (os_T × Int32 × Int32 × Int32 × Int32 × Int32) → Option (Int32 × os_T) := os_loop (fun k44 s1 => ff_X4_countOfGroups_c44 N o_this_panel k29 k44 s1.1 s1.2.1 s1.2.2.1 s1.2.2.2.1 s1.2.2.2.2.1 s1.2.2.2.2.2)
def ff_X4_countOfGroups_c29 (N : Nat) (o_this_panel : os_T) (k29 : (os_T × Int32 × Int32 × Int32 × Int32) → Option (Int32 × os_T)) (o_this : os_T) (x1 : Int32) (x2 : Int32) (x3 : Int32) (x4 : Int32) : Option (Int32 × os_T) :=
  (if (os_I o_this_panel 1) ≤ x4 then some (x3, o_this) else ff_X4_countOfGroups_l44 N o_this_panel k29 N (o_this, x1, x2, x3, x4, (0 : Int32)))
def ff_X4_countOfGroups_l29 (N : Nat) (o_this_panel : os_T) : Nat → (os_T × Int32 × Int32 × Int32 × Int32) → Option (Int32 × os_T) := os_loop (fun k29 s1 => ff_X4_countOfGroups_c29 N o_this_panel k29 s1.1 s1.2.1 s1.2.2.1 s1.2.2.2.1 s1.2.2.2.2)
def ff_X4_countOfGroups_c2 (N : Nat) (o_this_panel : os_T) (k2 : (os_T × Int32 × Int32 × Int32) → Option (Int32 × os_T)) (o_this : os_T) (x1 : Int32) (x2 : Int32) (x3 : Int32) : Option (Int32 × os_T) :=
  (if (192 : Int32) ≤ x3 then ff_X4_countOfGroups_l29 N o_this_panel N (o_this, x1, x2, (0 : Int32), (0 : Int32)) else (if os_in x3 192 then k2 (ss_A o_this 1 (upd (os_A o_this 1) (Int32.toNatClampNeg x3) (vp_nar .boolean (0 : Int32))), x1, x2, x3 + 1) else none))
def ff_X4_countOfGroups_l2 (N : Nat) (o_this_panel : os_T) : Nat → (os_T × Int32 × Int32 × Int32) → Option (Int32 × os_T) := os_loop (fun k2 s1 => ff_X4_countOfGroups_c2 N o_this_panel k2 s1.1 s1.2.1 s1.2.2.1 s1.2.2.2)
def ff_X4_countOfGroups (N : Nat) (o_this : os_T) (o_this_panel : os_T) (a1 : Int32) (a2 : Int32) : Option (Int32 × os_T) :=
  ff_X4_countOfGroups_l2 N o_this_panel N (o_this, a1, a2, (0 : Int32))
set_option maxHeartbeats 4000000 in
set_option maxRecDepth 100000 in
theorem mm_X4_countOfGroups (l : Launch) (D : va_G) (kA : Nat → ClassId) (N : Nat) (q_this : Nat → Nat) (q_this_panel : Nat → Nat) (o_this : os_T) (o_this_panel : os_T) (a1 : Int32) (a2 : Int32) (out : (Int32 × os_T)) (hf : ff_X4_countOfGroups N o_this o_this_panel a1 a2 = some out) : mc_C l D kA yX4_countOfGroups wsX4_countOfGroups ({ frames := 3, cells := 0, slots := 0, locals := 76 } : Room) [.ref (q_this 0), .int a1, .int a2] (ce_X4 kA q_this q_this_panel o_this ++ (ce_X5 kA q_this_panel o_this_panel)) (some (.int out.1)) (ce_X4 kA q_this q_this_panel out.2 ++ (ce_X5 kA q_this_panel o_this_panel)) := by
  refine mc_of (cc := cX4_countOfGroups) (maxL := 7) (ret := (some .int)) (by decide) rfl (Nat.le_of_ble_eq_true rfl) ?_
  intro p e s m below meth c A B hD hP hS ls hl
  obtain ⟨hx, hb, hr, hlk, hml, hown, hts, hK, hA, hnm⟩ := B
  have hown : s.vm.findClass RX4 = some m.cls := hown
  have hl : lv_has ls 7 [(0, .ref (q_this 0)), (1, .int a1), (2, .int a2)] := hl
  have hUX4 : ∀ w ∈ u_ws RX4 TX4 4, w.before [.ref (q_this 0), .int a1, .int a2].toArray s = true := fun w h => hts w (List.mem_cons_of_mem _ (List.mem_append_left _ (List.mem_append_right _ h)))
  have hUX5 : ∀ w ∈ u_ws RX5 TX5 10, w.before [.ref (q_this 0), .int a1, .int a2].toArray s = true := fun w h => hts w (List.mem_cons_of_mem _ (List.mem_append_right _ h))
  have hB112 : ∀ (k29 : (os_T × Int32 × Int32 × Int32 × Int32) → Option (Int32 × os_T)), (∀ (o_this : os_T) (x1 : Int32) (x2 : Int32) (x3 : Int32) (x4 : Int32) (H : Heap) (locs : List Loc) (ls : Array Slot), va_P D vwCl (ce_X4 kA q_this q_this_panel o_this ++ (ce_X5 kA q_this_panel o_this_panel)) H → va_D A (ce_X4 kA q_this q_this_panel o_this ++ (ce_X5 kA q_this_panel o_this_panel)) → va_S A s.heap H locs → lv_has ls 7 [(0, .ref (q_this 0)), (1, .int x1), (2, .int x2), (3, .int x3), (4, .int x4)] → k29 (o_this, x1, x2, x3, x4) = some out → W p l e ({ frames := 3, cells := 0, slots := 0, locals := 76 } : Room) s m [.ref (q_this 0), .int a1, .int a2].toArray below meth c H locs 0 0 (MQ below (mc_Q D kA A (some (.int out.1)) (ce_X4 kA q_this q_this_panel out.2 ++ (ce_X5 kA q_this_panel o_this_panel))) [.ref (q_this 0), .int a1, .int a2].toArray s 0 0 A) (F0 m 29 ls [])) → ∀ (k44 : (os_T × Int32 × Int32 × Int32 × Int32 × Int32) → Option (Int32 × os_T)), (∀ (o_this : os_T) (x1 : Int32) (x2 : Int32) (x3 : Int32) (x4 : Int32) (x5 : Int32) (H : Heap) (locs : List Loc) (ls : Array Slot), va_P D vwCl (ce_X4 kA q_this q_this_panel o_this ++ (ce_X5 kA q_this_panel o_this_panel)) H → va_D A (ce_X4 kA q_this q_this_panel o_this ++ (ce_X5 kA q_this_panel o_this_panel)) → va_S A s.heap H locs → lv_has ls 7 [(0, .ref (q_this 0)), (1, .int x1), (2, .int x2), (3, .int x3), (4, .int x4), (5, .int x5)] → k44 (o_this, x1, x2, x3, x4, x5) = some out → W p l e ({ frames := 3, cells := 0, slots := 0, locals := 76 } : Room) s m [.ref (q_this 0), .int a1, .int a2].toArray below meth c H locs 0 0 (MQ below (mc_Q D kA A (some (.int out.1)) (ce_X4 kA q_this q_this_panel out.2 ++ (ce_X5 kA q_this_panel o_this_panel))) [.ref (q_this 0), .int a1, .int a2].toArray s 0 0 A) (F0 m 44 ls [])) → ∀ (o_this : os_T) (x1 : Int32) (x2 : Int32) (x3 : Int32) (x4 : Int32) (x5 : Int32) (H : Heap) (locs : List Loc) (ls : Array Slot), va_P D vwCl (ce_X4 kA q_this q_this_panel o_this ++ (ce_X5 kA q_this_panel o_this_panel)) H → va_D A (ce_X4 kA q_this q_this_panel o_this ++ (ce_X5 kA q_this_panel o_this_panel)) → va_S A s.heap H locs → lv_has ls 7 [(0, .ref (q_this 0)), (1, .int x1), (2, .int x2), (3, .int x3), (4, .int x4), (5, .int x5)] → ff_X4_countOfGroups_b112 N o_this_panel k29 k44 o_this x1 x2 x3 x4 x5 = some out → W p l e ({ frames := 3, cells := 0, slots := 0, locals := 76 } : Room) s m [.ref (q_this 0), .int a1, .int a2].toArray below meth c H locs 0 0 (MQ below (mc_Q D kA A (some (.int out.1)) (ce_X4 kA q_this q_this_panel out.2 ++ (ce_X5 kA q_this_panel o_this_panel))) [.ref (q_this 0), .int a1, .int a2].toArray s 0 0 A) (F0 m 112 ls []) := by
    intro k29 hk29 k44 hk44 o_this x1 x2 x3 x4 x5 H locs ls hP hD hS hl hf
    unfold ff_X4_countOfGroups_b112 at hf
    refine lv_iinc (v := x5 + 1) (lv' := [(5, .int (x5 + 1)), (0, .ref (q_this 0)), (1, .int x1), (2, .int x2), (3, .int x3), (4, .int x4)]) hx hb dX4_countOfGroups_112 hl (k := 5) rfl rfl (by decide) rfl (fun ls hl => ?_)
    refine lv_goto (tgt := 44) hx hb dX4_countOfGroups_115 (by decide) ?_
    exact hk44 o_this x1 x2 x3 x4 (x5 + 1) _ _ _ hP hD hS (lv_sub hl [1, 2, 3, 4, 5, 0] rfl) hf
  have hB110 : ∀ (k29 : (os_T × Int32 × Int32 × Int32 × Int32) → Option (Int32 × os_T)), (∀ (o_this : os_T) (x1 : Int32) (x2 : Int32) (x3 : Int32) (x4 : Int32) (H : Heap) (locs : List Loc) (ls : Array Slot), va_P D vwCl (ce_X4 kA q_this q_this_panel o_this ++ (ce_X5 kA q_this_panel o_this_panel)) H → va_D A (ce_X4 kA q_this q_this_panel o_this ++ (ce_X5 kA q_this_panel o_this_panel)) → va_S A s.heap H locs → lv_has ls 7 [(0, .ref (q_this 0)), (1, .int x1), (2, .int x2), (3, .int x3), (4, .int x4)] → k29 (o_this, x1, x2, x3, x4) = some out → W p l e ({ frames := 3, cells := 0, slots := 0, locals := 76 } : Room) s m [.ref (q_this 0), .int a1, .int a2].toArray below meth c H locs 0 0 (MQ below (mc_Q D kA A (some (.int out.1)) (ce_X4 kA q_this q_this_panel out.2 ++ (ce_X5 kA q_this_panel o_this_panel))) [.ref (q_this 0), .int a1, .int a2].toArray s 0 0 A) (F0 m 29 ls [])) → ∀ (k44 : (os_T × Int32 × Int32 × Int32 × Int32 × Int32) → Option (Int32 × os_T)), (∀ (o_this : os_T) (x1 : Int32) (x2 : Int32) (x3 : Int32) (x4 : Int32) (x5 : Int32) (H : Heap) (locs : List Loc) (ls : Array Slot), va_P D vwCl (ce_X4 kA q_this q_this_panel o_this ++ (ce_X5 kA q_this_panel o_this_panel)) H → va_D A (ce_X4 kA q_this q_this_panel o_this ++ (ce_X5 kA q_this_panel o_this_panel)) → va_S A s.heap H locs → lv_has ls 7 [(0, .ref (q_this 0)), (1, .int x1), (2, .int x2), (3, .int x3), (4, .int x4), (5, .int x5)] → k44 (o_this, x1, x2, x3, x4, x5) = some out → W p l e ({ frames := 3, cells := 0, slots := 0, locals := 76 } : Room) s m [.ref (q_this 0), .int a1, .int a2].toArray below meth c H locs 0 0 (MQ below (mc_Q D kA A (some (.int out.1)) (ce_X4 kA q_this q_this_panel out.2 ++ (ce_X5 kA q_this_panel o_this_panel))) [.ref (q_this 0), .int a1, .int a2].toArray s 0 0 A) (F0 m 44 ls [])) → ∀ (o_this : os_T) (x1 : Int32) (x2 : Int32) (x4 : Int32) (x5 : Int32) (t0 : Int32) (t1 : Int32) (H : Heap) (locs : List Loc) (ls : Array Slot), va_P D vwCl (ce_X4 kA q_this q_this_panel o_this ++ (ce_X5 kA q_this_panel o_this_panel)) H → va_D A (ce_X4 kA q_this q_this_panel o_this ++ (ce_X5 kA q_this_panel o_this_panel)) → va_S A s.heap H locs → lv_has ls 7 [(0, .ref (q_this 0)), (1, .int x1), (2, .int x2), (4, .int x4), (5, .int x5)] → ff_X4_countOfGroups_b110 N o_this_panel k29 k44 o_this x1 x2 x4 x5 t0 t1 = some out → W p l e ({ frames := 3, cells := 0, slots := 0, locals := 76 } : Room) s m [.ref (q_this 0), .int a1, .int a2].toArray below meth c H locs 0 0 (MQ below (mc_Q D kA A (some (.int out.1)) (ce_X4 kA q_this q_this_panel out.2 ++ (ce_X5 kA q_this_panel o_this_panel))) [.ref (q_this 0), .int a1, .int a2].toArray s 0 0 A) (F0 m 110 ls [.int t0, .int t1]) := by
    intro k29 hk29 k44 hk44 o_this x1 x2 x4 x5 t0 t1 H locs ls hP hD hS hl hf
    unfold ff_X4_countOfGroups_b110 at hf
    refine lv_iadd hx hb dX4_countOfGroups_110 ?_
    refine lv_istore_n (lv' := [(3, .int (t1 + t0)), (0, .ref (q_this 0)), (1, .int x1), (2, .int x2), (4, .int x4), (5, .int x5)]) hx hb dX4_countOfGroups_111 rfl hl (by decide) rfl (fun ls hl => ?_)
    exact hB112 k29 hk29 k44 hk44 o_this x1 x2 (t1 + t0) x4 x5 _ _ _ hP hD hS (lv_sub hl [1, 2, 3, 0, 4, 5] rfl) hf
  have hB105 : ∀ (k29 : (os_T × Int32 × Int32 × Int32 × Int32) → Option (Int32 × os_T)), (∀ (o_this : os_T) (x1 : Int32) (x2 : Int32) (x3 : Int32) (x4 : Int32) (H : Heap) (locs : List Loc) (ls : Array Slot), va_P D vwCl (ce_X4 kA q_this q_this_panel o_this ++ (ce_X5 kA q_this_panel o_this_panel)) H → va_D A (ce_X4 kA q_this q_this_panel o_this ++ (ce_X5 kA q_this_panel o_this_panel)) → va_S A s.heap H locs → lv_has ls 7 [(0, .ref (q_this 0)), (1, .int x1), (2, .int x2), (3, .int x3), (4, .int x4)] → k29 (o_this, x1, x2, x3, x4) = some out → W p l e ({ frames := 3, cells := 0, slots := 0, locals := 76 } : Room) s m [.ref (q_this 0), .int a1, .int a2].toArray below meth c H locs 0 0 (MQ below (mc_Q D kA A (some (.int out.1)) (ce_X4 kA q_this q_this_panel out.2 ++ (ce_X5 kA q_this_panel o_this_panel))) [.ref (q_this 0), .int a1, .int a2].toArray s 0 0 A) (F0 m 29 ls [])) → ∀ (k44 : (os_T × Int32 × Int32 × Int32 × Int32 × Int32) → Option (Int32 × os_T)), (∀ (o_this : os_T) (x1 : Int32) (x2 : Int32) (x3 : Int32) (x4 : Int32) (x5 : Int32) (H : Heap) (locs : List Loc) (ls : Array Slot), va_P D vwCl (ce_X4 kA q_this q_this_panel o_this ++ (ce_X5 kA q_this_panel o_this_panel)) H → va_D A (ce_X4 kA q_this q_this_panel o_this ++ (ce_X5 kA q_this_panel o_this_panel)) → va_S A s.heap H locs → lv_has ls 7 [(0, .ref (q_this 0)), (1, .int x1), (2, .int x2), (3, .int x3), (4, .int x4), (5, .int x5)] → k44 (o_this, x1, x2, x3, x4, x5) = some out → W p l e ({ frames := 3, cells := 0, slots := 0, locals := 76 } : Room) s m [.ref (q_this 0), .int a1, .int a2].toArray below meth c H locs 0 0 (MQ below (mc_Q D kA A (some (.int out.1)) (ce_X4 kA q_this q_this_panel out.2 ++ (ce_X5 kA q_this_panel o_this_panel))) [.ref (q_this 0), .int a1, .int a2].toArray s 0 0 A) (F0 m 44 ls [])) → ∀ (o_this : os_T) (x1 : Int32) (x2 : Int32) (x4 : Int32) (x5 : Int32) (t0 : Int32) (H : Heap) (locs : List Loc) (ls : Array Slot), va_P D vwCl (ce_X4 kA q_this q_this_panel o_this ++ (ce_X5 kA q_this_panel o_this_panel)) H → va_D A (ce_X4 kA q_this q_this_panel o_this ++ (ce_X5 kA q_this_panel o_this_panel)) → va_S A s.heap H locs → lv_has ls 7 [(0, .ref (q_this 0)), (1, .int x1), (2, .int x2), (4, .int x4), (5, .int x5)] → ff_X4_countOfGroups_b105 N o_this_panel k29 k44 o_this x1 x2 x4 x5 t0 = some out → W p l e ({ frames := 3, cells := 0, slots := 0, locals := 76 } : Room) s m [.ref (q_this 0), .int a1, .int a2].toArray below meth c H locs 0 0 (MQ below (mc_Q D kA A (some (.int out.1)) (ce_X4 kA q_this q_this_panel out.2 ++ (ce_X5 kA q_this_panel o_this_panel))) [.ref (q_this 0), .int a1, .int a2].toArray s 0 0 A) (F0 m 105 ls [.int t0]) := by
    intro k29 hk29 k44 hk44 o_this x1 x2 x4 x5 t0 H locs ls hP hD hS hl hf
    unfold ff_X4_countOfGroups_b105 at hf
    refine lv_iconst (v := 1) hx hb dX4_countOfGroups_105 (by decide) ?_
    refine lv_goto (tgt := 110) hx hb dX4_countOfGroups_106 (by decide) ?_
    exact hB110 k29 hk29 k44 hk44 o_this x1 x2 x4 x5 (1 : Int32) t0 _ _ _ hP hD hS (lv_sub hl [0, 1, 2, 3, 4] rfl) hf
  have hL44 : ∀ (k29 : (os_T × Int32 × Int32 × Int32 × Int32) → Option (Int32 × os_T)), (∀ (o_this : os_T) (x1 : Int32) (x2 : Int32) (x3 : Int32) (x4 : Int32) (H : Heap) (locs : List Loc) (ls : Array Slot), va_P D vwCl (ce_X4 kA q_this q_this_panel o_this ++ (ce_X5 kA q_this_panel o_this_panel)) H → va_D A (ce_X4 kA q_this q_this_panel o_this ++ (ce_X5 kA q_this_panel o_this_panel)) → va_S A s.heap H locs → lv_has ls 7 [(0, .ref (q_this 0)), (1, .int x1), (2, .int x2), (3, .int x3), (4, .int x4)] → k29 (o_this, x1, x2, x3, x4) = some out → W p l e ({ frames := 3, cells := 0, slots := 0, locals := 76 } : Room) s m [.ref (q_this 0), .int a1, .int a2].toArray below meth c H locs 0 0 (MQ below (mc_Q D kA A (some (.int out.1)) (ce_X4 kA q_this q_this_panel out.2 ++ (ce_X5 kA q_this_panel o_this_panel))) [.ref (q_this 0), .int a1, .int a2].toArray s 0 0 A) (F0 m 29 ls [])) → ∀ (n : Nat) (o_this : os_T) (x1 : Int32) (x2 : Int32) (x3 : Int32) (x4 : Int32) (x5 : Int32) (H : Heap) (locs : List Loc) (ls : Array Slot), va_P D vwCl (ce_X4 kA q_this q_this_panel o_this ++ (ce_X5 kA q_this_panel o_this_panel)) H → va_D A (ce_X4 kA q_this q_this_panel o_this ++ (ce_X5 kA q_this_panel o_this_panel)) → va_S A s.heap H locs → lv_has ls 7 [(0, .ref (q_this 0)), (1, .int x1), (2, .int x2), (3, .int x3), (4, .int x4), (5, .int x5)] → ff_X4_countOfGroups_l44 N o_this_panel k29 n (o_this, x1, x2, x3, x4, x5) = some out → W p l e ({ frames := 3, cells := 0, slots := 0, locals := 76 } : Room) s m [.ref (q_this 0), .int a1, .int a2].toArray below meth c H locs 0 0 (MQ below (mc_Q D kA A (some (.int out.1)) (ce_X4 kA q_this q_this_panel out.2 ++ (ce_X5 kA q_this_panel o_this_panel))) [.ref (q_this 0), .int a1, .int a2].toArray s 0 0 A) (F0 m 44 ls []) := by
    intro k29 hk29 n
    induction n with
    | zero => intro o_this x1 x2 x3 x4 x5 H locs ls _ _ _ _ hf; cases hf
    | succ n hk44 =>
      intro o_this x1 x2 x3 x4 x5 H locs ls hP hD hS hl hf
      have hf : ff_X4_countOfGroups_c44 N o_this_panel k29 (ff_X4_countOfGroups_l44 N o_this_panel k29 n) o_this x1 x2 x3 x4 x5 = some out := hf
      generalize hke : ff_X4_countOfGroups_l44 N o_this_panel k29 n = k44 at hk44 hf
      unfold ff_X4_countOfGroups_c44 at hf
      refine lv_iload hx hb dX4_countOfGroups_44 (lv_at hl 5 rfl) ?_
      refine lv_aload_n hx hb dX4_countOfGroups_46 rfl (lv_at hl 0 rfl) ?_
      refine va_get (D := D) (ci := 3) (v := .ref (q_this_panel 0)) (C := RX4) (T := TX4) (N := 4) hx hb hUX4 (fun _ h9 => h9) hown hK hP 0 rfl rfl 0 (by decide) (hts (Cond.fieldLink RX4 19 "ReliefBuilder$Layers" "panel" "LReliefBuilder$Panel;") (List.mem_of_getElem? (i := 2) rfl)) (fun _ h9 => h9) rfl dX4_countOfGroups_47 ?_
      refine va_get (D := D) (ci := 4) (v := .int (os_I o_this_panel 0)) (C := RX5) (T := TX5) (N := 10) hx hb hUX5 (fun _ h9 => h9) hown hK hP 3 rfl rfl 0 (by decide) (hts (Cond.fieldLink RX4 29 "ReliefBuilder$Panel" "width" "I") (List.mem_of_getElem? (i := 4) rfl)) (fun _ h9 => h9) rfl dX4_countOfGroups_50 ?_
      refine lv_icmp_ge (tgt := 118) hx hb dX4_countOfGroups_53 (by decide) (fun hc_4 => ?_) (fun hc_4 => ?_)
      · rw [if_pos hc_4] at hf
        refine lv_iinc (v := x4 + 1) (lv' := [(4, .int (x4 + 1)), (0, .ref (q_this 0)), (1, .int x1), (2, .int x2), (3, .int x3), (5, .int x5)]) hx hb dX4_countOfGroups_118 hl (k := 4) rfl rfl (by decide) rfl (fun ls hl => ?_)
        refine lv_goto (tgt := 29) hx hb dX4_countOfGroups_121 (by decide) ?_
        exact hk29 o_this x1 x2 x3 (x4 + 1) _ _ _ hP hD hS (lv_sub hl [1, 2, 3, 4, 0] rfl) hf
      · rw [if_neg hc_4] at hf
        refine lv_aload_n hx hb dX4_countOfGroups_56 rfl (lv_at hl 0 rfl) ?_
        refine va_get (D := D) (ci := 3) (v := .ref (q_this_panel 0)) (C := RX4) (T := TX4) (N := 4) hx hb hUX4 (fun _ h9 => h9) hown hK hP 0 rfl rfl 0 (by decide) (hts (Cond.fieldLink RX4 19 "ReliefBuilder$Layers" "panel" "LReliefBuilder$Panel;") (List.mem_of_getElem? (i := 2) rfl)) (fun _ h9 => h9) rfl dX4_countOfGroups_57 ?_
        refine lv_iload hx hb dX4_countOfGroups_60 (lv_at hl 5 rfl) ?_
        refine lv_iload hx hb dX4_countOfGroups_62 (lv_at hl 4 rfl) ?_
        refine lv_iload_n hx hb dX4_countOfGroups_64 rfl (lv_at hl 1 rfl) ?_
        obtain ⟨u_5, he_6, hf⟩ := os_bd hf
        refine mc_callV ⟨hx, hb, hml, hown, hts⟩ (mm_X5_reaches l D kA N q_this_panel o_this_panel x5 x4 x1 u_5 he_6) (cwV 3 hts gX4_countOfGroups_X5_reaches rfl rfl rfl (by decide +kernel) ⟨Nat.le_of_ble_eq_true rfl, Nat.le_of_ble_eq_true rfl⟩) (wc := (ce_X5 kA q_this_panel o_this_panel)) (ci := 4) (q0 := 0) rfl rfl rfl hl.1 (As := [.int x5, .int x4, .int x1]) (rest := []) rfl (Nat.le_of_ble_eq_true rfl) dX4_countOfGroups_65 ⟨Nat.le_of_ble_eq_true rfl, Nat.le_of_ble_eq_true rfl⟩ hK hP hD hS hA [3, 4, 5, 6] [0, 1, 2] [0, 1, 2, 3, 4, 5, 6] rfl (by decide) rfl (by decide) (by decide) rfl (by decide) (wr := (ce_X4 kA q_this q_this_panel o_this)) (w2 := (ce_X4 kA q_this q_this_panel o_this ++ (ce_X5 kA q_this_panel o_this_panel))) (fun H locs hP hD hS => ?_)
        have hP : va_P D vwCl (ce_X4 kA q_this q_this_panel o_this ++ (ce_X5 kA q_this_panel o_this_panel)) H := hP
        refine lv_iload_n hx hb dX4_countOfGroups_68 rfl (lv_at hl 2 rfl) ?_
        refine lv_icmp_ne (tgt := 112) hx hb dX4_countOfGroups_69 (by decide) (fun hc_7 => ?_) (fun hc_7 => ?_)
        · rw [if_neg hc_7] at hf
          exact hB112 k29 hk29 k44 hk44 o_this x1 x2 x3 x4 x5 _ _ _ hP hD hS (lv_sub hl [0, 1, 2, 3, 4, 5] rfl) hf
        · rw [if_pos hc_7] at hf
          refine lv_aload_n hx hb dX4_countOfGroups_72 rfl (lv_at hl 0 rfl) ?_
          refine lv_iload hx hb dX4_countOfGroups_73 (lv_at hl 5 rfl) ?_
          refine lv_iload hx hb dX4_countOfGroups_75 (lv_at hl 4 rfl) ?_
          obtain ⟨u_8, he_9, hf⟩ := os_bd hf
          refine mc_callV ⟨hx, hb, hml, hown, hts⟩ (mm_X4_wasQueued l D kA N q_this q_this_panel o_this x5 x4 u_8 he_9) (cwV 2 hts gX4_countOfGroups_X4_wasQueued rfl rfl rfl (by decide +kernel) ⟨Nat.le_of_ble_eq_true rfl, Nat.le_of_ble_eq_true rfl⟩) (wc := (ce_X4 kA q_this q_this_panel o_this)) (ci := 3) (q0 := 0) rfl rfl rfl hl.1 (As := [.int x5, .int x4]) (rest := []) rfl (Nat.le_of_ble_eq_true rfl) dX4_countOfGroups_77 ⟨Nat.le_of_ble_eq_true rfl, Nat.le_of_ble_eq_true rfl⟩ hK hP hD hS hA [0, 1, 2] [3, 4, 5, 6] [4, 5, 6, 0, 1, 2, 3] rfl (by decide) rfl (by decide) (by decide) rfl (by decide) (wr := (ce_X5 kA q_this_panel o_this_panel)) (w2 := (ce_X4 kA q_this q_this_panel o_this ++ (ce_X5 kA q_this_panel o_this_panel))) (fun H locs hP hD hS => ?_)
          have hP : va_P D vwCl (ce_X4 kA q_this q_this_panel o_this ++ (ce_X5 kA q_this_panel o_this_panel)) H := hP
          refine lv_if_ne (tgt := 112) hx hb dX4_countOfGroups_80 (by decide) (fun hc_10 => ?_) (fun hc_10 => ?_)
          · rw [if_neg hc_10] at hf
            exact hB112 k29 hk29 k44 hk44 o_this x1 x2 x3 x4 x5 _ _ _ hP hD hS (lv_sub hl [0, 1, 2, 3, 4, 5] rfl) hf
          · rw [if_pos hc_10] at hf
            refine lv_aload_n hx hb dX4_countOfGroups_83 rfl (lv_at hl 0 rfl) ?_
            refine lv_iload_n hx hb dX4_countOfGroups_84 rfl (lv_at hl 1 rfl) ?_
            refine lv_iload hx hb dX4_countOfGroups_85 (lv_at hl 5 rfl) ?_
            refine lv_iload hx hb dX4_countOfGroups_87 (lv_at hl 4 rfl) ?_
            refine lv_iload_n hx hb dX4_countOfGroups_89 rfl (lv_at hl 2 rfl) ?_
            obtain ⟨u_11, he_12, hf⟩ := os_bd hf
            refine mc_callV ⟨hx, hb, hml, hown, hts⟩ (mm_X4_visitGroup l D kA N q_this q_this_panel o_this o_this_panel x1 x5 x4 x2 u_11 he_12) (cwV 4 hts gX4_countOfGroups_X4_visitGroup rfl rfl rfl (by decide +kernel) ⟨Nat.le_of_ble_eq_true rfl, Nat.le_of_ble_eq_true rfl⟩) (wc := (ce_X4 kA q_this q_this_panel o_this ++ (ce_X5 kA q_this_panel o_this_panel))) (ci := 3) (q0 := 0) rfl rfl rfl hl.1 (As := [.int x1, .int x5, .int x4, .int x2]) (rest := []) rfl (Nat.le_of_ble_eq_true rfl) dX4_countOfGroups_90 ⟨Nat.le_of_ble_eq_true rfl, Nat.le_of_ble_eq_true rfl⟩ hK hP hD hS hA [0, 1, 2, 3, 4, 5, 6] [] [0, 1, 2, 3, 4, 5, 6] rfl (by decide) rfl (by decide) (by decide) rfl (by decide) (wr := []) (w2 := (ce_X4 kA q_this q_this_panel u_11.2 ++ (ce_X5 kA q_this_panel o_this_panel))) (fun H locs hP hD hS => ?_)
            have hP : va_P D vwCl (ce_X4 kA q_this q_this_panel u_11.2 ++ (ce_X5 kA q_this_panel o_this_panel)) H := hP
            refine lv_istore (lv' := [(6, .int u_11.1), (0, .ref (q_this 0)), (1, .int x1), (2, .int x2), (3, .int x3), (4, .int x4), (5, .int x5)]) hx hb dX4_countOfGroups_93 hl (by decide) rfl (fun ls hl => ?_)
            refine lv_iload_n hx hb dX4_countOfGroups_95 rfl (lv_at hl 4 rfl) ?_
            refine lv_iload_n hx hb dX4_countOfGroups_96 rfl (lv_at hl 3 rfl) ?_
            refine lv_if_ne (tgt := 105) hx hb dX4_countOfGroups_97 (by decide) (fun hc_13 => ?_) (fun hc_13 => ?_)
            · rw [if_neg hc_13] at hf
              exact hB105 k29 hk29 k44 hk44 u_11.2 x1 x2 x4 x5 x3 _ _ _ hP hD hS (lv_sub hl [1, 2, 3, 5, 6] rfl) hf
            · rw [if_pos hc_13] at hf
              refine lv_iload hx hb dX4_countOfGroups_100 (lv_at hl 0 rfl) ?_
              refine lv_if_ne (tgt := 109) hx hb dX4_countOfGroups_102 (by decide) (fun hc_14 => ?_) (fun hc_14 => ?_)
              · rw [if_neg hc_14] at hf
                refine lv_iconst (v := 0) hx hb dX4_countOfGroups_109 (by decide) ?_
                exact hB110 k29 hk29 k44 hk44 u_11.2 x1 x2 x4 x5 (0 : Int32) x3 _ _ _ hP hD hS (lv_sub hl [1, 2, 3, 5, 6] rfl) hf
              · rw [if_pos hc_14] at hf
                exact hB105 k29 hk29 k44 hk44 u_11.2 x1 x2 x4 x5 x3 _ _ _ hP hD hS (lv_sub hl [1, 2, 3, 5, 6] rfl) hf
  have hL29 : ∀ (n : Nat) (o_this : os_T) (x1 : Int32) (x2 : Int32) (x3 : Int32) (x4 : Int32) (H : Heap) (locs : List Loc) (ls : Array Slot), va_P D vwCl (ce_X4 kA q_this q_this_panel o_this ++ (ce_X5 kA q_this_panel o_this_panel)) H → va_D A (ce_X4 kA q_this q_this_panel o_this ++ (ce_X5 kA q_this_panel o_this_panel)) → va_S A s.heap H locs → lv_has ls 7 [(0, .ref (q_this 0)), (1, .int x1), (2, .int x2), (3, .int x3), (4, .int x4)] → ff_X4_countOfGroups_l29 N o_this_panel n (o_this, x1, x2, x3, x4) = some out → W p l e ({ frames := 3, cells := 0, slots := 0, locals := 76 } : Room) s m [.ref (q_this 0), .int a1, .int a2].toArray below meth c H locs 0 0 (MQ below (mc_Q D kA A (some (.int out.1)) (ce_X4 kA q_this q_this_panel out.2 ++ (ce_X5 kA q_this_panel o_this_panel))) [.ref (q_this 0), .int a1, .int a2].toArray s 0 0 A) (F0 m 29 ls []) := by
    intro n
    induction n with
    | zero => intro o_this x1 x2 x3 x4 H locs ls _ _ _ _ hf; cases hf
    | succ n hk29 =>
      intro o_this x1 x2 x3 x4 H locs ls hP hD hS hl hf
      have hf : ff_X4_countOfGroups_c29 N o_this_panel (ff_X4_countOfGroups_l29 N o_this_panel n) o_this x1 x2 x3 x4 = some out := hf
      generalize hke : ff_X4_countOfGroups_l29 N o_this_panel n = k29 at hk29 hf
      unfold ff_X4_countOfGroups_c29 at hf
      refine lv_iload hx hb dX4_countOfGroups_29 (lv_at hl 4 rfl) ?_
      refine lv_aload_n hx hb dX4_countOfGroups_31 rfl (lv_at hl 0 rfl) ?_
      refine va_get (D := D) (ci := 3) (v := .ref (q_this_panel 0)) (C := RX4) (T := TX4) (N := 4) hx hb hUX4 (fun _ h9 => h9) hown hK hP 0 rfl rfl 0 (by decide) (hts (Cond.fieldLink RX4 19 "ReliefBuilder$Layers" "panel" "LReliefBuilder$Panel;") (List.mem_of_getElem? (i := 2) rfl)) (fun _ h9 => h9) rfl dX4_countOfGroups_32 ?_
      refine va_get (D := D) (ci := 4) (v := .int (os_I o_this_panel 1)) (C := RX5) (T := TX5) (N := 10) hx hb hUX5 (fun _ h9 => h9) hown hK hP 3 rfl rfl 1 (by decide) (hts (Cond.fieldLink RX4 23 "ReliefBuilder$Panel" "rows" "I") (List.mem_of_getElem? (i := 3) rfl)) (fun _ h9 => h9) rfl dX4_countOfGroups_35 ?_
      refine lv_icmp_ge (tgt := 124) hx hb dX4_countOfGroups_38 (by decide) (fun hc_3 => ?_) (fun hc_3 => ?_)
      · rw [if_pos hc_3] at hf
        refine lv_iload_n hx hb dX4_countOfGroups_124 rfl (lv_at hl 3 rfl) ?_
        rw [← Option.some.inj hf]
        exact mc_reti hx hb hr hlk hP hK hD hS dX4_countOfGroups_125
      · rw [if_neg hc_3] at hf
        refine lv_iconst (v := 0) hx hb dX4_countOfGroups_41 (by decide) ?_
        refine lv_istore (lv' := [(5, .int (0 : Int32)), (0, .ref (q_this 0)), (1, .int x1), (2, .int x2), (3, .int x3), (4, .int x4)]) hx hb dX4_countOfGroups_42 hl (by decide) rfl (fun ls hl => ?_)
        exact hL44 k29 hk29 N o_this x1 x2 x3 x4 (0 : Int32) _ _ _ hP hD hS (lv_sub hl [1, 2, 3, 4, 5, 0] rfl) hf
  have hL2 : ∀ (n : Nat) (o_this : os_T) (x1 : Int32) (x2 : Int32) (x3 : Int32) (H : Heap) (locs : List Loc) (ls : Array Slot), va_P D vwCl (ce_X4 kA q_this q_this_panel o_this ++ (ce_X5 kA q_this_panel o_this_panel)) H → va_D A (ce_X4 kA q_this q_this_panel o_this ++ (ce_X5 kA q_this_panel o_this_panel)) → va_S A s.heap H locs → lv_has ls 7 [(0, .ref (q_this 0)), (1, .int x1), (2, .int x2), (3, .int x3)] → ff_X4_countOfGroups_l2 N o_this_panel n (o_this, x1, x2, x3) = some out → W p l e ({ frames := 3, cells := 0, slots := 0, locals := 76 } : Room) s m [.ref (q_this 0), .int a1, .int a2].toArray below meth c H locs 0 0 (MQ below (mc_Q D kA A (some (.int out.1)) (ce_X4 kA q_this q_this_panel out.2 ++ (ce_X5 kA q_this_panel o_this_panel))) [.ref (q_this 0), .int a1, .int a2].toArray s 0 0 A) (F0 m 2 ls []) := by
    intro n
    induction n with
    | zero => intro o_this x1 x2 x3 H locs ls _ _ _ _ hf; cases hf
    | succ n hk2 =>
      intro o_this x1 x2 x3 H locs ls hP hD hS hl hf
      have hf : ff_X4_countOfGroups_c2 N o_this_panel (ff_X4_countOfGroups_l2 N o_this_panel n) o_this x1 x2 x3 = some out := hf
      generalize hke : ff_X4_countOfGroups_l2 N o_this_panel n = k2 at hk2 hf
      unfold ff_X4_countOfGroups_c2 at hf
      refine lv_iload_n hx hb dX4_countOfGroups_2 rfl (lv_at hl 3 rfl) ?_
      refine lv_aload_n hx hb dX4_countOfGroups_3 rfl (lv_at hl 0 rfl) ?_
      refine va_get (D := D) (ci := 3) (v := .ref (q_this 2)) (C := RX4) (T := TX4) (N := 4) hx hb hUX4 (fun _ h9 => h9) hown hK hP 0 rfl rfl 2 (by decide) (hts (Cond.fieldLink RX4 15 "ReliefBuilder$Layers" "isQueued" "[Z") (List.mem_of_getElem? (i := 1) rfl)) (fun _ h9 => h9) rfl dX4_countOfGroups_4 ?_
      refine va_alen (v := 192) hx hb hK hP 2 1 rfl rfl rfl dX4_countOfGroups_7 ?_
      refine lv_icmp_ge (tgt := 24) hx hb dX4_countOfGroups_8 (by decide) (fun hc_1 => ?_) (fun hc_1 => ?_)
      · rw [if_pos hc_1] at hf
        refine lv_iconst (v := 0) hx hb dX4_countOfGroups_24 (by decide) ?_
        refine lv_istore_n (lv' := [(3, .int (0 : Int32)), (0, .ref (q_this 0)), (1, .int x1), (2, .int x2)]) hx hb dX4_countOfGroups_25 rfl hl (by decide) rfl (fun ls hl => ?_)
        refine lv_iconst (v := 0) hx hb dX4_countOfGroups_26 (by decide) ?_
        refine lv_istore (lv' := [(4, .int (0 : Int32)), (3, .int (0 : Int32)), (0, .ref (q_this 0)), (1, .int x1), (2, .int x2)]) hx hb dX4_countOfGroups_27 hl (by decide) rfl (fun ls hl => ?_)
        exact hL29 N o_this x1 x2 (0 : Int32) (0 : Int32) _ _ _ hP hD hS (lv_sub hl [2, 3, 4, 1, 0] rfl) hf
      · rw [if_neg hc_1] at hf
        refine lv_aload_n hx hb dX4_countOfGroups_11 rfl (lv_at hl 0 rfl) ?_
        refine va_get (D := D) (ci := 3) (v := .ref (q_this 2)) (C := RX4) (T := TX4) (N := 4) hx hb hUX4 (fun _ h9 => h9) hown hK hP 0 rfl rfl 2 (by decide) (hts (Cond.fieldLink RX4 15 "ReliefBuilder$Layers" "isQueued" "[Z") (List.mem_of_getElem? (i := 1) rfl)) (fun _ h9 => h9) rfl dX4_countOfGroups_12 ?_
        refine lv_iload_n hx hb dX4_countOfGroups_15 rfl (lv_at hl 3 rfl) ?_
        refine lv_iconst (v := 0) hx hb dX4_countOfGroups_16 (by decide) ?_
        obtain ⟨hi_2, hf⟩ := os_if hf
        refine va_zast hx hb hK hP hD hS 2 1 rfl rfl hi_2 dX4_countOfGroups_17 (fun H locs hP hD hS => ?_)
        have hP : va_P D vwCl (ce_X4 kA q_this q_this_panel (ss_A o_this 1 (upd (os_A o_this 1) (Int32.toNatClampNeg x3) (vp_nar .boolean (0 : Int32)))) ++ (ce_X5 kA q_this_panel o_this_panel)) H := hP
        have hD : va_D A (ce_X4 kA q_this q_this_panel (ss_A o_this 1 (upd (os_A o_this 1) (Int32.toNatClampNeg x3) (vp_nar .boolean (0 : Int32)))) ++ (ce_X5 kA q_this_panel o_this_panel)) := hD
        refine lv_iinc (v := x3 + 1) (lv' := [(3, .int (x3 + 1)), (0, .ref (q_this 0)), (1, .int x1), (2, .int x2)]) hx hb dX4_countOfGroups_18 hl (k := 3) rfl rfl (by decide) rfl (fun ls hl => ?_)
        refine lv_goto (tgt := 2) hx hb dX4_countOfGroups_21 (by decide) ?_
        exact hk2 (ss_A o_this 1 (upd (os_A o_this 1) (Int32.toNatClampNeg x3) (vp_nar .boolean (0 : Int32)))) x1 x2 (x3 + 1) _ _ _ hP hD hS (lv_sub hl [1, 2, 3, 0] rfl) hf
  unfold ff_X4_countOfGroups at hf
  refine lv_iconst (v := 0) hx hb dX4_countOfGroups_0 (by decide) ?_
  refine lv_istore_n (lv' := [(3, .int (0 : Int32)), (0, .ref (q_this 0)), (1, .int a1), (2, .int a2)]) hx hb dX4_countOfGroups_1 rfl hl (by decide) rfl (fun ls hl => ?_)
  exact hL2 N o_this a1 a2 (0 : Int32) _ _ _ hP hD hS (lv_sub hl [1, 2, 3, 0] rfl) hf
def ff_X4_countOfParts (N : Nat) (o_this : os_T) (o_this_panel : os_T) (a1 : Int32) : Option (Int32 × os_T) :=
  ((ff_X4_countOfGroups N o_this o_this_panel a1 (1 : Int32)).bind fun u_1 => some (u_1.1, u_1.2))
set_option maxHeartbeats 4000000 in
set_option maxRecDepth 100000 in
theorem mm_X4_countOfParts (l : Launch) (D : va_G) (kA : Nat → ClassId) (N : Nat) (q_this : Nat → Nat) (q_this_panel : Nat → Nat) (o_this : os_T) (o_this_panel : os_T) (a1 : Int32) (out : (Int32 × os_T)) (hf : ff_X4_countOfParts N o_this o_this_panel a1 = some out) : mc_C l D kA yX4_countOfParts wsX4_countOfParts ({ frames := 4, cells := 0, slots := 0, locals := 102 } : Room) [.ref (q_this 0), .int a1] (ce_X4 kA q_this q_this_panel o_this ++ (ce_X5 kA q_this_panel o_this_panel)) (some (.int out.1)) (ce_X4 kA q_this q_this_panel out.2 ++ (ce_X5 kA q_this_panel o_this_panel)) := by
  refine mc_of (cc := cX4_countOfParts) (maxL := 2) (ret := (some .int)) (by decide) rfl (Nat.le_of_ble_eq_true rfl) ?_
  intro p e s m below meth c A B hD hP hS ls hl
  obtain ⟨hx, hb, hr, hlk, hml, hown, hts, hK, hA, hnm⟩ := B
  have hown : s.vm.findClass RX4 = some m.cls := hown
  have hl : lv_has ls 2 [(0, .ref (q_this 0)), (1, .int a1)] := hl
  unfold ff_X4_countOfParts at hf
  refine lv_aload_n hx hb dX4_countOfParts_0 rfl (lv_at hl 0 rfl) ?_
  refine lv_iload_n hx hb dX4_countOfParts_1 rfl (lv_at hl 1 rfl) ?_
  refine lv_iconst (v := 1) hx hb dX4_countOfParts_2 (by decide) ?_
  obtain ⟨u_1, he_2, hf⟩ := os_bd hf
  refine mc_callV ⟨hx, hb, hml, hown, hts⟩ (mm_X4_countOfGroups l D kA N q_this q_this_panel o_this o_this_panel a1 (1 : Int32) u_1 he_2) (cwV 2 hts gX4_countOfParts_X4_countOfGroups rfl rfl rfl (by decide +kernel) ⟨Nat.le_of_ble_eq_true rfl, Nat.le_of_ble_eq_true rfl⟩) (wc := (ce_X4 kA q_this q_this_panel o_this ++ (ce_X5 kA q_this_panel o_this_panel))) (ci := 3) (q0 := 0) rfl rfl rfl hl.1 (As := [.int a1, .int (1 : Int32)]) (rest := []) rfl (Nat.le_of_ble_eq_true rfl) dX4_countOfParts_3 ⟨Nat.le_of_ble_eq_true rfl, Nat.le_of_ble_eq_true rfl⟩ hK hP hD hS hA [0, 1, 2, 3, 4, 5, 6] [] [0, 1, 2, 3, 4, 5, 6] rfl (by decide) rfl (by decide) (by decide) rfl (by decide) (wr := []) (w2 := (ce_X4 kA q_this q_this_panel u_1.2 ++ (ce_X5 kA q_this_panel o_this_panel))) (fun H locs hP hD hS => ?_)
  have hP : va_P D vwCl (ce_X4 kA q_this q_this_panel u_1.2 ++ (ce_X5 kA q_this_panel o_this_panel)) H := hP
  rw [← Option.some.inj hf]
  exact mc_reti hx hb hr hlk hP hK hD hS dX4_countOfParts_6
