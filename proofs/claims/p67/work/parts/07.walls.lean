def ff_X9_excess (N : Nat) (o_p0 : os_T) (a1 : Int32) (a2 : Int32) : Option Int32 :=
  (if 0 < a2 then ((ff_X5_heightAt N o_p0 a1 a2).bind fun u_2 => ((ff_X5_heightAt N o_p0 a1 (a2 - (1 : Int32))).bind fun u_4 => some (if (0 : Int32) < (u_2 - (u_4 + (os_I o_p0 6))) then (u_2 - (u_4 + (os_I o_p0 6))) else (0 : Int32)))) else some (0 : Int32))
set_option maxHeartbeats 4000000 in
set_option maxRecDepth 100000 in
theorem mm_X9_excess (l : Launch) (D : va_G) (kA : Nat → ClassId) (N : Nat) (q_p0 : Nat → Nat) (o_p0 : os_T) (a1 : Int32) (a2 : Int32) (out : Int32) (hf : ff_X9_excess N o_p0 a1 a2 = some out) : mc_C l D kA yX9_excess wsX9_excess ({ frames := 1, cells := 0, slots := 0, locals := 22 } : Room) [.ref (q_p0 0), .int a1, .int a2] (ce_X5 kA q_p0 o_p0) (some (.int out)) (ce_X5 kA q_p0 o_p0) := by
  refine mc_of (cc := cX9_excess) (maxL := 3) (ret := (some .int)) (by decide) rfl (Nat.le_of_ble_eq_true rfl) ?_
  intro p e s m below meth c A B hD hP hS ls hl
  obtain ⟨hx, hb, hr, hlk, hml, hown, hts, hK, hA, hnm⟩ := B
  have hown : s.vm.findClass RX9 = some m.cls := hown
  have hl : lv_has ls 3 [(0, .ref (q_p0 0)), (1, .int a1), (2, .int a2)] := hl
  have hUX5 : ∀ w ∈ u_ws RX5 TX5 10, w.before [.ref (q_p0 0), .int a1, .int a2].toArray s = true := fun w h => hts w (List.mem_cons_of_mem _ (List.mem_append_right _ h))
  unfold ff_X9_excess at hf
  refine lv_iload_n hx hb dX9_excess_0 rfl (lv_at hl 2 rfl) ?_
  refine lv_if_gt (tgt := 6) hx hb dX9_excess_1 (by decide) (fun hc_1 => ?_) (fun hc_1 => ?_)
  · rw [if_pos hc_1] at hf
    refine lv_iconst (v := 0) hx hb dX9_excess_6 (by decide) ?_
    refine lv_aload_n hx hb dX9_excess_7 rfl (lv_at hl 0 rfl) ?_
    refine lv_iload_n hx hb dX9_excess_8 rfl (lv_at hl 1 rfl) ?_
    refine lv_iload_n hx hb dX9_excess_9 rfl (lv_at hl 2 rfl) ?_
    obtain ⟨u_2, he_3, hf⟩ := os_bd hf
    refine mc_callV ⟨hx, hb, hml, hown, hts⟩ (mm_X5_heightAt l D kA N q_p0 o_p0 a1 a2 u_2 he_3) (cwV 2 hts gX9_excess_X5_heightAt rfl rfl rfl (by decide +kernel) ⟨Nat.le_of_ble_eq_true rfl, Nat.le_of_ble_eq_true rfl⟩) (wc := (ce_X5 kA q_p0 o_p0)) (ci := 4) (q0 := 0) rfl rfl rfl hl.1 (As := [.int a1, .int a2]) (rest := [.int (0 : Int32)]) rfl (Nat.le_of_ble_eq_true rfl) dX9_excess_10 ⟨Nat.le_of_ble_eq_true rfl, Nat.le_of_ble_eq_true rfl⟩ hK hP hD hS hA [0, 1, 2, 3] [] [0, 1, 2, 3] rfl (by decide) rfl (by decide) (by decide) rfl (by decide) (wr := []) (w2 := (ce_X5 kA q_p0 o_p0)) (fun H locs hP hD hS => ?_)
    have hP : va_P D vwCl (ce_X5 kA q_p0 o_p0) H := hP
    refine lv_aload_n hx hb dX9_excess_13 rfl (lv_at hl 0 rfl) ?_
    refine lv_iload_n hx hb dX9_excess_14 rfl (lv_at hl 1 rfl) ?_
    refine lv_iload_n hx hb dX9_excess_15 rfl (lv_at hl 2 rfl) ?_
    refine lv_iconst (v := 1) hx hb dX9_excess_16 (by decide) ?_
    refine lv_isub hx hb dX9_excess_17 ?_
    obtain ⟨u_4, he_5, hf⟩ := os_bd hf
    refine mc_callV ⟨hx, hb, hml, hown, hts⟩ (mm_X5_heightAt l D kA N q_p0 o_p0 a1 (a2 - (1 : Int32)) u_4 he_5) (cwV 2 hts gX9_excess_X5_heightAt rfl rfl rfl (by decide +kernel) ⟨Nat.le_of_ble_eq_true rfl, Nat.le_of_ble_eq_true rfl⟩) (wc := (ce_X5 kA q_p0 o_p0)) (ci := 4) (q0 := 0) rfl rfl rfl hl.1 (As := [.int a1, .int (a2 - (1 : Int32))]) (rest := [.int u_2, .int (0 : Int32)]) rfl (Nat.le_of_ble_eq_true rfl) dX9_excess_18 ⟨Nat.le_of_ble_eq_true rfl, Nat.le_of_ble_eq_true rfl⟩ hK hP hD hS hA [0, 1, 2, 3] [] [0, 1, 2, 3] rfl (by decide) rfl (by decide) (by decide) rfl (by decide) (wr := []) (w2 := (ce_X5 kA q_p0 o_p0)) (fun H locs hP hD hS => ?_)
    have hP : va_P D vwCl (ce_X5 kA q_p0 o_p0) H := hP
    refine lv_aload_n hx hb dX9_excess_21 rfl (lv_at hl 0 rfl) ?_
    refine va_get (D := D) (ci := 4) (v := .int (os_I o_p0 6)) (C := RX5) (T := TX5) (N := 10) hx hb hUX5 (fun _ h9 => h9) hown hK hP 0 rfl rfl 6 (by decide) (hts (Cond.fieldLink RX9 13 "ReliefBuilder$Panel" "slope" "I") (List.mem_of_getElem? (i := 1) rfl)) (fun _ h9 => h9) rfl dX9_excess_22 ?_
    refine lv_iadd hx hb dX9_excess_25 ?_
    refine lv_isub hx hb dX9_excess_26 ?_
    refine va_mmax hx hb (hml.trans hl.1.symm) hown (hts (Cond.methodLink RX9 17 Lib.Math.max.name) (List.mem_of_getElem? (i := 2) rfl)) (hts (Cond.static Lib.Math.max.name) (List.mem_of_getElem? (i := 3) rfl)) (hts (Cond.initialized "java/lang/Math") (List.mem_of_getElem? (i := 4) rfl)) (hts (Cond.code Lib.Math.max.name Lib.Math.max.code 2 (some .int)) (List.mem_of_getElem? (i := 5) rfl)) (Nat.le_of_ble_eq_true rfl) (Nat.le_of_ble_eq_true rfl) (Nat.le_of_ble_eq_true rfl) (Nat.le_of_ble_eq_true rfl) dX9_excess_27 ?_
    rw [← Option.some.inj hf]
    exact mc_reti hx hb hr hlk hP hK hD hS dX9_excess_30
  · rw [if_neg hc_1] at hf
    refine lv_iconst (v := 0) hx hb dX9_excess_4 (by decide) ?_
    rw [← Option.some.inj hf]
    exact mc_reti hx hb hr hlk hP hK hD hS dX9_excess_5
def ff_X9_lengthOf_c27 (N : Nat) (o_p0 : os_T) (k27 : (Int32 × Int32 × Int32 × Int32) → Option Int32) (x1 : Int32) (x3 : Int32) (x4 : Int32) (x5 : Int32) : Option Int32 :=
  (if x5 < 0 then some x4 else ((ff_X5_heightAt N o_p0 x1 x5).bind fun u_7 => (if x3 ≤ u_7 then some x4 else k27 (x1, x3, x4 + 1, x5 + (-1)))))
def ff_X9_lengthOf_l27 (N : Nat) (o_p0 : os_T) : Nat → (Int32 × Int32 × Int32 × Int32) → Option Int32 := os_loop (fun k27 s1 => ff_X9_lengthOf_c27 N o_p0 k27 s1.1 s1.2.1 s1.2.2.1 s1.2.2.2)
def ff_X9_lengthOf (N : Nat) (o_p0 : os_T) (a1 : Int32) (a2 : Int32) (a3 : Int32) : Option Int32 :=
  ((ff_X5_heightAt N o_p0 a1 a2).bind fun u_1 => ((ff_X9_excess N o_p0 a1 a2).bind fun u_3 => (if (u_1 - u_3) < a3 then ff_X9_lengthOf_l27 N o_p0 N (a1, a3, (0 : Int32), a2 - (1 : Int32)) else some (0 : Int32))))
set_option maxHeartbeats 4000000 in
set_option maxRecDepth 100000 in
theorem mm_X9_lengthOf (l : Launch) (D : va_G) (kA : Nat → ClassId) (N : Nat) (q_p0 : Nat → Nat) (o_p0 : os_T) (a1 : Int32) (a2 : Int32) (a3 : Int32) (out : Int32) (hf : ff_X9_lengthOf N o_p0 a1 a2 a3 = some out) : mc_C l D kA yX9_lengthOf wsX9_lengthOf ({ frames := 2, cells := 0, slots := 0, locals := 44 } : Room) [.ref (q_p0 0), .int a1, .int a2, .int a3] (ce_X5 kA q_p0 o_p0) (some (.int out)) (ce_X5 kA q_p0 o_p0) := by
  refine mc_of (cc := cX9_lengthOf) (maxL := 6) (ret := (some .int)) (by decide) rfl (Nat.le_of_ble_eq_true rfl) ?_
  intro p e s m below meth c A B hD hP hS ls hl
  obtain ⟨hx, hb, hr, hlk, hml, hown, hts, hK, hA, hnm⟩ := B
  have hown : s.vm.findClass RX9 = some m.cls := hown
  have hl : lv_has ls 6 [(0, .ref (q_p0 0)), (1, .int a1), (2, .int a2), (3, .int a3)] := hl
  have hL27 : ∀ (n : Nat) (x1 : Int32) (x3 : Int32) (x4 : Int32) (x5 : Int32) (H : Heap) (locs : List Loc) (ls : Array Slot), va_P D vwCl (ce_X5 kA q_p0 o_p0) H → va_D A (ce_X5 kA q_p0 o_p0) → va_S A s.heap H locs → lv_has ls 6 [(0, .ref (q_p0 0)), (1, .int x1), (3, .int x3), (4, .int x4), (5, .int x5)] → ff_X9_lengthOf_l27 N o_p0 n (x1, x3, x4, x5) = some out → W p l e ({ frames := 2, cells := 0, slots := 0, locals := 44 } : Room) s m [.ref (q_p0 0), .int a1, .int a2, .int a3].toArray below meth c H locs 0 0 (MQ below (mc_Q D kA A (some (.int out)) (ce_X5 kA q_p0 o_p0)) [.ref (q_p0 0), .int a1, .int a2, .int a3].toArray s 0 0 A) (F0 m 27 ls []) := by
    intro n
    induction n with
    | zero => intro x1 x3 x4 x5 H locs ls _ _ _ _ hf; cases hf
    | succ n hk27 =>
      intro x1 x3 x4 x5 H locs ls hP hD hS hl hf
      have hf : ff_X9_lengthOf_c27 N o_p0 (ff_X9_lengthOf_l27 N o_p0 n) x1 x3 x4 x5 = some out := hf
      generalize hke : ff_X9_lengthOf_l27 N o_p0 n = k27 at hk27 hf
      unfold ff_X9_lengthOf_c27 at hf
      refine lv_iload hx hb dX9_lengthOf_27 (lv_at hl 4 rfl) ?_
      refine lv_if_lt (tgt := 52) hx hb dX9_lengthOf_29 (by decide) (fun hc_6 => ?_) (fun hc_6 => ?_)
      · rw [if_pos hc_6] at hf
        refine lv_iload hx hb dX9_lengthOf_52 (lv_at hl 3 rfl) ?_
        rw [← Option.some.inj hf]
        exact mc_reti hx hb hr hlk hP hK hD hS dX9_lengthOf_54
      · rw [if_neg hc_6] at hf
        refine lv_aload_n hx hb dX9_lengthOf_32 rfl (lv_at hl 0 rfl) ?_
        refine lv_iload_n hx hb dX9_lengthOf_33 rfl (lv_at hl 1 rfl) ?_
        refine lv_iload hx hb dX9_lengthOf_34 (lv_at hl 4 rfl) ?_
        obtain ⟨u_7, he_8, hf⟩ := os_bd hf
        refine mc_callV ⟨hx, hb, hml, hown, hts⟩ (mm_X5_heightAt l D kA N q_p0 o_p0 x1 x5 u_7 he_8) (cwV 2 hts gX9_lengthOf_X5_heightAt rfl rfl rfl (by decide +kernel) ⟨Nat.le_of_ble_eq_true rfl, Nat.le_of_ble_eq_true rfl⟩) (wc := (ce_X5 kA q_p0 o_p0)) (ci := 4) (q0 := 0) rfl rfl rfl hl.1 (As := [.int x1, .int x5]) (rest := []) rfl (Nat.le_of_ble_eq_true rfl) dX9_lengthOf_36 ⟨Nat.le_of_ble_eq_true rfl, Nat.le_of_ble_eq_true rfl⟩ hK hP hD hS hA [0, 1, 2, 3] [] [0, 1, 2, 3] rfl (by decide) rfl (by decide) (by decide) rfl (by decide) (wr := []) (w2 := (ce_X5 kA q_p0 o_p0)) (fun H locs hP hD hS => ?_)
        have hP : va_P D vwCl (ce_X5 kA q_p0 o_p0) H := hP
        refine lv_iload_n hx hb dX9_lengthOf_39 rfl (lv_at hl 2 rfl) ?_
        refine lv_icmp_ge (tgt := 52) hx hb dX9_lengthOf_40 (by decide) (fun hc_9 => ?_) (fun hc_9 => ?_)
        · rw [if_pos hc_9] at hf
          refine lv_iload hx hb dX9_lengthOf_52 (lv_at hl 3 rfl) ?_
          rw [← Option.some.inj hf]
          exact mc_reti hx hb hr hlk hP hK hD hS dX9_lengthOf_54
        · rw [if_neg hc_9] at hf
          refine lv_iinc (v := x4 + 1) (lv' := [(4, .int (x4 + 1)), (0, .ref (q_p0 0)), (1, .int x1), (3, .int x3), (5, .int x5)]) hx hb dX9_lengthOf_43 hl (k := 3) rfl rfl (by decide) rfl (fun ls hl => ?_)
          refine lv_iinc (v := x5 + (-1)) (lv' := [(5, .int (x5 + (-1))), (4, .int (x4 + 1)), (0, .ref (q_p0 0)), (1, .int x1), (3, .int x3)]) hx hb dX9_lengthOf_46 hl (k := 4) rfl rfl (by decide) rfl (fun ls hl => ?_)
          refine lv_goto (tgt := 27) hx hb dX9_lengthOf_49 (by decide) ?_
          exact hk27 x1 x3 (x4 + 1) (x5 + (-1)) _ _ _ hP hD hS (lv_sub hl [2, 3, 4, 1, 0] rfl) hf
  unfold ff_X9_lengthOf at hf
  refine lv_iload_n hx hb dX9_lengthOf_0 rfl (lv_at hl 3 rfl) ?_
  refine lv_aload_n hx hb dX9_lengthOf_1 rfl (lv_at hl 0 rfl) ?_
  refine lv_iload_n hx hb dX9_lengthOf_2 rfl (lv_at hl 1 rfl) ?_
  refine lv_iload_n hx hb dX9_lengthOf_3 rfl (lv_at hl 2 rfl) ?_
  obtain ⟨u_1, he_2, hf⟩ := os_bd hf
  refine mc_callV ⟨hx, hb, hml, hown, hts⟩ (mm_X5_heightAt l D kA N q_p0 o_p0 a1 a2 u_1 he_2) (cwV 2 hts gX9_lengthOf_X5_heightAt rfl rfl rfl (by decide +kernel) ⟨Nat.le_of_ble_eq_true rfl, Nat.le_of_ble_eq_true rfl⟩) (wc := (ce_X5 kA q_p0 o_p0)) (ci := 4) (q0 := 0) rfl rfl rfl hl.1 (As := [.int a1, .int a2]) (rest := [.int a3]) rfl (Nat.le_of_ble_eq_true rfl) dX9_lengthOf_4 ⟨Nat.le_of_ble_eq_true rfl, Nat.le_of_ble_eq_true rfl⟩ hK hP hD hS hA [0, 1, 2, 3] [] [0, 1, 2, 3] rfl (by decide) rfl (by decide) (by decide) rfl (by decide) (wr := []) (w2 := (ce_X5 kA q_p0 o_p0)) (fun H locs hP hD hS => ?_)
  have hP : va_P D vwCl (ce_X5 kA q_p0 o_p0) H := hP
  refine lv_aload_n hx hb dX9_lengthOf_7 rfl (lv_at hl 0 rfl) ?_
  refine lv_iload_n hx hb dX9_lengthOf_8 rfl (lv_at hl 1 rfl) ?_
  refine lv_iload_n hx hb dX9_lengthOf_9 rfl (lv_at hl 2 rfl) ?_
  obtain ⟨u_3, he_4, hf⟩ := os_bd hf
  refine mc_callS ⟨hx, hb, hml, hown, hts⟩ (mm_X9_excess l D kA N q_p0 o_p0 a1 a2 u_3 he_4) (va_cwS 3 hts gX9_lengthOf_X9_excess rfl rfl rfl (by decide +kernel) ⟨Nat.le_of_ble_eq_true rfl, Nat.le_of_ble_eq_true rfl⟩) (wc := (ce_X5 kA q_p0 o_p0)) rfl hl.1 (As := [.ref (q_p0 0), .int a1, .int a2]) (rest := [.int u_1, .int a3]) rfl (Nat.le_of_ble_eq_true rfl) dX9_lengthOf_10 ⟨Nat.le_of_ble_eq_true rfl, Nat.le_of_ble_eq_true rfl⟩ hK hP hD hS hA [0, 1, 2, 3] [] [0, 1, 2, 3] rfl (by decide) rfl (by decide) (by decide) rfl (by decide) (wr := []) (w2 := (ce_X5 kA q_p0 o_p0)) (fun H locs hP hD hS => ?_)
  have hP : va_P D vwCl (ce_X5 kA q_p0 o_p0) H := hP
  refine lv_isub hx hb dX9_lengthOf_13 ?_
  refine lv_icmp_gt (tgt := 19) hx hb dX9_lengthOf_14 (by decide) (fun hc_5 => ?_) (fun hc_5 => ?_)
  · rw [if_pos hc_5] at hf
    refine lv_iconst (v := 0) hx hb dX9_lengthOf_19 (by decide) ?_
    refine lv_istore (lv' := [(4, .int (0 : Int32)), (0, .ref (q_p0 0)), (1, .int a1), (2, .int a2), (3, .int a3)]) hx hb dX9_lengthOf_20 hl (by decide) rfl (fun ls hl => ?_)
    refine lv_iload_n hx hb dX9_lengthOf_22 rfl (lv_at hl 3 rfl) ?_
    refine lv_iconst (v := 1) hx hb dX9_lengthOf_23 (by decide) ?_
    refine lv_isub hx hb dX9_lengthOf_24 ?_
    refine lv_istore (lv' := [(5, .int (a2 - (1 : Int32))), (4, .int (0 : Int32)), (0, .ref (q_p0 0)), (1, .int a1), (2, .int a2), (3, .int a3)]) hx hb dX9_lengthOf_25 hl (by decide) rfl (fun ls hl => ?_)
    exact hL27 N a1 a3 (0 : Int32) (a2 - (1 : Int32)) _ _ _ hP hD hS (lv_sub hl [2, 3, 5, 1, 0] rfl) hf
  · rw [if_neg hc_5] at hf
    refine lv_iconst (v := 0) hx hb dX9_lengthOf_17 (by decide) ?_
    rw [← Option.some.inj hf]
    exact mc_reti hx hb hr hlk hP hK hD hS dX9_lengthOf_18
def ff_X9_countOfCells_b37 (N : Nat) (o_p0 : os_T) (k4 : (Int32 × Int32) → Option Int32) (k14 : (Int32 × Int32 × Int32) → Option Int32) (x2 : Int32) (x3 : Int32) (t0 : Int32) (t1 : Int32) : Option Int32 :=
  k14 (t1 + t0, x2, x3 + 1)
def ff_X9_countOfCells_c14 (N : Nat) (o_p0 : os_T) (k4 : (Int32 × Int32) → Option Int32) (k14 : (Int32 × Int32 × Int32) → Option Int32) (x1 : Int32) (x2 : Int32) (x3 : Int32) : Option Int32 :=
  (if (os_I o_p0 0) ≤ x3 then k4 (x1, x2 + 1) else ((ff_X9_excess N o_p0 x3 x2).bind fun u_3 => (if u_3 ≤ 0 then ff_X9_countOfCells_b37 N o_p0 k4 k14 x2 x3 (0 : Int32) x1 else ff_X9_countOfCells_b37 N o_p0 k4 k14 x2 x3 (1 : Int32) x1)))
def ff_X9_countOfCells_l14 (N : Nat) (o_p0 : os_T) (k4 : (Int32 × Int32) → Option Int32) : Nat → (Int32 × Int32 × Int32) → Option Int32 := os_loop (fun k14 s1 => ff_X9_countOfCells_c14 N o_p0 k4 k14 s1.1 s1.2.1 s1.2.2)
def ff_X9_countOfCells_c4 (N : Nat) (o_p0 : os_T) (k4 : (Int32 × Int32) → Option Int32) (x1 : Int32) (x2 : Int32) : Option Int32 :=
  (if (os_I o_p0 1) ≤ x2 then some x1 else ff_X9_countOfCells_l14 N o_p0 k4 N (x1, x2, (0 : Int32)))
def ff_X9_countOfCells_l4 (N : Nat) (o_p0 : os_T) : Nat → (Int32 × Int32) → Option Int32 := os_loop (fun k4 s1 => ff_X9_countOfCells_c4 N o_p0 k4 s1.1 s1.2)
def ff_X9_countOfCells (N : Nat) (o_p0 : os_T) : Option Int32 :=
  ff_X9_countOfCells_l4 N o_p0 N ((0 : Int32), (1 : Int32))
set_option maxHeartbeats 4000000 in
set_option maxRecDepth 100000 in
theorem mm_X9_countOfCells (l : Launch) (D : va_G) (kA : Nat → ClassId) (N : Nat) (q_p0 : Nat → Nat) (o_p0 : os_T) (out : Int32) (hf : ff_X9_countOfCells N o_p0 = some out) : mc_C l D kA yX9_countOfCells wsX9_countOfCells ({ frames := 2, cells := 0, slots := 0, locals := 44 } : Room) [.ref (q_p0 0)] (ce_X5 kA q_p0 o_p0) (some (.int out)) (ce_X5 kA q_p0 o_p0) := by
  refine mc_of (cc := cX9_countOfCells) (maxL := 4) (ret := (some .int)) (by decide) rfl (Nat.le_of_ble_eq_true rfl) ?_
  intro p e s m below meth c A B hD hP hS ls hl
  obtain ⟨hx, hb, hr, hlk, hml, hown, hts, hK, hA, hnm⟩ := B
  have hown : s.vm.findClass RX9 = some m.cls := hown
  have hl : lv_has ls 4 [(0, .ref (q_p0 0))] := hl
  have hUX5 : ∀ w ∈ u_ws RX5 TX5 10, w.before [.ref (q_p0 0)].toArray s = true := fun w h => hts w (List.mem_cons_of_mem _ (List.mem_append_right _ h))
  have hB37 : ∀ (k4 : (Int32 × Int32) → Option Int32), (∀ (x1 : Int32) (x2 : Int32) (H : Heap) (locs : List Loc) (ls : Array Slot), va_P D vwCl (ce_X5 kA q_p0 o_p0) H → va_D A (ce_X5 kA q_p0 o_p0) → va_S A s.heap H locs → lv_has ls 4 [(0, .ref (q_p0 0)), (1, .int x1), (2, .int x2)] → k4 (x1, x2) = some out → W p l e ({ frames := 2, cells := 0, slots := 0, locals := 44 } : Room) s m [.ref (q_p0 0)].toArray below meth c H locs 0 0 (MQ below (mc_Q D kA A (some (.int out)) (ce_X5 kA q_p0 o_p0)) [.ref (q_p0 0)].toArray s 0 0 A) (F0 m 4 ls [])) → ∀ (k14 : (Int32 × Int32 × Int32) → Option Int32), (∀ (x1 : Int32) (x2 : Int32) (x3 : Int32) (H : Heap) (locs : List Loc) (ls : Array Slot), va_P D vwCl (ce_X5 kA q_p0 o_p0) H → va_D A (ce_X5 kA q_p0 o_p0) → va_S A s.heap H locs → lv_has ls 4 [(0, .ref (q_p0 0)), (1, .int x1), (2, .int x2), (3, .int x3)] → k14 (x1, x2, x3) = some out → W p l e ({ frames := 2, cells := 0, slots := 0, locals := 44 } : Room) s m [.ref (q_p0 0)].toArray below meth c H locs 0 0 (MQ below (mc_Q D kA A (some (.int out)) (ce_X5 kA q_p0 o_p0)) [.ref (q_p0 0)].toArray s 0 0 A) (F0 m 14 ls [])) → ∀ (x2 : Int32) (x3 : Int32) (t0 : Int32) (t1 : Int32) (H : Heap) (locs : List Loc) (ls : Array Slot), va_P D vwCl (ce_X5 kA q_p0 o_p0) H → va_D A (ce_X5 kA q_p0 o_p0) → va_S A s.heap H locs → lv_has ls 4 [(0, .ref (q_p0 0)), (2, .int x2), (3, .int x3)] → ff_X9_countOfCells_b37 N o_p0 k4 k14 x2 x3 t0 t1 = some out → W p l e ({ frames := 2, cells := 0, slots := 0, locals := 44 } : Room) s m [.ref (q_p0 0)].toArray below meth c H locs 0 0 (MQ below (mc_Q D kA A (some (.int out)) (ce_X5 kA q_p0 o_p0)) [.ref (q_p0 0)].toArray s 0 0 A) (F0 m 37 ls [.int t0, .int t1]) := by
    intro k4 hk4 k14 hk14 x2 x3 t0 t1 H locs ls hP hD hS hl hf
    unfold ff_X9_countOfCells_b37 at hf
    refine lv_iadd hx hb dX9_countOfCells_37 ?_
    refine lv_istore_n (lv' := [(1, .int (t1 + t0)), (0, .ref (q_p0 0)), (2, .int x2), (3, .int x3)]) hx hb dX9_countOfCells_38 rfl hl (by decide) rfl (fun ls hl => ?_)
    refine lv_iinc (v := x3 + 1) (lv' := [(3, .int (x3 + 1)), (1, .int (t1 + t0)), (0, .ref (q_p0 0)), (2, .int x2)]) hx hb dX9_countOfCells_39 hl (k := 3) rfl rfl (by decide) rfl (fun ls hl => ?_)
    refine lv_goto (tgt := 14) hx hb dX9_countOfCells_42 (by decide) ?_
    exact hk14 (t1 + t0) x2 (x3 + 1) _ _ _ hP hD hS (lv_sub hl [2, 1, 3, 0] rfl) hf
  have hL14 : ∀ (k4 : (Int32 × Int32) → Option Int32), (∀ (x1 : Int32) (x2 : Int32) (H : Heap) (locs : List Loc) (ls : Array Slot), va_P D vwCl (ce_X5 kA q_p0 o_p0) H → va_D A (ce_X5 kA q_p0 o_p0) → va_S A s.heap H locs → lv_has ls 4 [(0, .ref (q_p0 0)), (1, .int x1), (2, .int x2)] → k4 (x1, x2) = some out → W p l e ({ frames := 2, cells := 0, slots := 0, locals := 44 } : Room) s m [.ref (q_p0 0)].toArray below meth c H locs 0 0 (MQ below (mc_Q D kA A (some (.int out)) (ce_X5 kA q_p0 o_p0)) [.ref (q_p0 0)].toArray s 0 0 A) (F0 m 4 ls [])) → ∀ (n : Nat) (x1 : Int32) (x2 : Int32) (x3 : Int32) (H : Heap) (locs : List Loc) (ls : Array Slot), va_P D vwCl (ce_X5 kA q_p0 o_p0) H → va_D A (ce_X5 kA q_p0 o_p0) → va_S A s.heap H locs → lv_has ls 4 [(0, .ref (q_p0 0)), (1, .int x1), (2, .int x2), (3, .int x3)] → ff_X9_countOfCells_l14 N o_p0 k4 n (x1, x2, x3) = some out → W p l e ({ frames := 2, cells := 0, slots := 0, locals := 44 } : Room) s m [.ref (q_p0 0)].toArray below meth c H locs 0 0 (MQ below (mc_Q D kA A (some (.int out)) (ce_X5 kA q_p0 o_p0)) [.ref (q_p0 0)].toArray s 0 0 A) (F0 m 14 ls []) := by
    intro k4 hk4 n
    induction n with
    | zero => intro x1 x2 x3 H locs ls _ _ _ _ hf; cases hf
    | succ n hk14 =>
      intro x1 x2 x3 H locs ls hP hD hS hl hf
      have hf : ff_X9_countOfCells_c14 N o_p0 k4 (ff_X9_countOfCells_l14 N o_p0 k4 n) x1 x2 x3 = some out := hf
      generalize hke : ff_X9_countOfCells_l14 N o_p0 k4 n = k14 at hk14 hf
      unfold ff_X9_countOfCells_c14 at hf
      refine lv_iload_n hx hb dX9_countOfCells_14 rfl (lv_at hl 3 rfl) ?_
      refine lv_aload_n hx hb dX9_countOfCells_15 rfl (lv_at hl 0 rfl) ?_
      refine va_get (D := D) (ci := 4) (v := .int (os_I o_p0 0)) (C := RX5) (T := TX5) (N := 10) hx hb hUX5 (fun _ h9 => h9) hown hK hP 0 rfl rfl 0 (by decide) (hts (Cond.fieldLink RX9 31 "ReliefBuilder$Panel" "width" "I") (List.mem_of_getElem? (i := 2) rfl)) (fun _ h9 => h9) rfl dX9_countOfCells_16 ?_
      refine lv_icmp_ge (tgt := 45) hx hb dX9_countOfCells_19 (by decide) (fun hc_2 => ?_) (fun hc_2 => ?_)
      · rw [if_pos hc_2] at hf
        refine lv_iinc (v := x2 + 1) (lv' := [(2, .int (x2 + 1)), (0, .ref (q_p0 0)), (1, .int x1), (3, .int x3)]) hx hb dX9_countOfCells_45 hl (k := 2) rfl rfl (by decide) rfl (fun ls hl => ?_)
        refine lv_goto (tgt := 4) hx hb dX9_countOfCells_48 (by decide) ?_
        exact hk4 x1 (x2 + 1) _ _ _ hP hD hS (lv_sub hl [1, 2, 0] rfl) hf
      · rw [if_neg hc_2] at hf
        refine lv_iload_n hx hb dX9_countOfCells_22 rfl (lv_at hl 1 rfl) ?_
        refine lv_aload_n hx hb dX9_countOfCells_23 rfl (lv_at hl 0 rfl) ?_
        refine lv_iload_n hx hb dX9_countOfCells_24 rfl (lv_at hl 3 rfl) ?_
        refine lv_iload_n hx hb dX9_countOfCells_25 rfl (lv_at hl 2 rfl) ?_
        obtain ⟨u_3, he_4, hf⟩ := os_bd hf
        refine mc_callS ⟨hx, hb, hml, hown, hts⟩ (mm_X9_excess l D kA N q_p0 o_p0 x3 x2 u_3 he_4) (va_cwS 3 hts gX9_countOfCells_X9_excess rfl rfl rfl (by decide +kernel) ⟨Nat.le_of_ble_eq_true rfl, Nat.le_of_ble_eq_true rfl⟩) (wc := (ce_X5 kA q_p0 o_p0)) rfl hl.1 (As := [.ref (q_p0 0), .int x3, .int x2]) (rest := [.int x1]) rfl (Nat.le_of_ble_eq_true rfl) dX9_countOfCells_26 ⟨Nat.le_of_ble_eq_true rfl, Nat.le_of_ble_eq_true rfl⟩ hK hP hD hS hA [0, 1, 2, 3] [] [0, 1, 2, 3] rfl (by decide) rfl (by decide) (by decide) rfl (by decide) (wr := []) (w2 := (ce_X5 kA q_p0 o_p0)) (fun H locs hP hD hS => ?_)
        have hP : va_P D vwCl (ce_X5 kA q_p0 o_p0) H := hP
        refine lv_if_le (tgt := 36) hx hb dX9_countOfCells_29 (by decide) (fun hc_5 => ?_) (fun hc_5 => ?_)
        · rw [if_pos hc_5] at hf
          refine lv_iconst (v := 0) hx hb dX9_countOfCells_36 (by decide) ?_
          exact hB37 k4 hk4 k14 hk14 x2 x3 (0 : Int32) x1 _ _ _ hP hD hS (lv_sub hl [0, 2, 3] rfl) hf
        · rw [if_neg hc_5] at hf
          refine lv_iconst (v := 1) hx hb dX9_countOfCells_32 (by decide) ?_
          refine lv_goto (tgt := 37) hx hb dX9_countOfCells_33 (by decide) ?_
          exact hB37 k4 hk4 k14 hk14 x2 x3 (1 : Int32) x1 _ _ _ hP hD hS (lv_sub hl [0, 2, 3] rfl) hf
  have hL4 : ∀ (n : Nat) (x1 : Int32) (x2 : Int32) (H : Heap) (locs : List Loc) (ls : Array Slot), va_P D vwCl (ce_X5 kA q_p0 o_p0) H → va_D A (ce_X5 kA q_p0 o_p0) → va_S A s.heap H locs → lv_has ls 4 [(0, .ref (q_p0 0)), (1, .int x1), (2, .int x2)] → ff_X9_countOfCells_l4 N o_p0 n (x1, x2) = some out → W p l e ({ frames := 2, cells := 0, slots := 0, locals := 44 } : Room) s m [.ref (q_p0 0)].toArray below meth c H locs 0 0 (MQ below (mc_Q D kA A (some (.int out)) (ce_X5 kA q_p0 o_p0)) [.ref (q_p0 0)].toArray s 0 0 A) (F0 m 4 ls []) := by
    intro n
    induction n with
    | zero => intro x1 x2 H locs ls _ _ _ _ hf; cases hf
    | succ n hk4 =>
      intro x1 x2 H locs ls hP hD hS hl hf
      have hf : ff_X9_countOfCells_c4 N o_p0 (ff_X9_countOfCells_l4 N o_p0 n) x1 x2 = some out := hf
      generalize hke : ff_X9_countOfCells_l4 N o_p0 n = k4 at hk4 hf
      unfold ff_X9_countOfCells_c4 at hf
      refine lv_iload_n hx hb dX9_countOfCells_4 rfl (lv_at hl 2 rfl) ?_
      refine lv_aload_n hx hb dX9_countOfCells_5 rfl (lv_at hl 0 rfl) ?_
      refine va_get (D := D) (ci := 4) (v := .int (os_I o_p0 1)) (C := RX5) (T := TX5) (N := 10) hx hb hUX5 (fun _ h9 => h9) hown hK hP 0 rfl rfl 1 (by decide) (hts (Cond.fieldLink RX9 28 "ReliefBuilder$Panel" "rows" "I") (List.mem_of_getElem? (i := 1) rfl)) (fun _ h9 => h9) rfl dX9_countOfCells_6 ?_
      refine lv_icmp_ge (tgt := 51) hx hb dX9_countOfCells_9 (by decide) (fun hc_1 => ?_) (fun hc_1 => ?_)
      · rw [if_pos hc_1] at hf
        refine lv_iload_n hx hb dX9_countOfCells_51 rfl (lv_at hl 1 rfl) ?_
        rw [← Option.some.inj hf]
        exact mc_reti hx hb hr hlk hP hK hD hS dX9_countOfCells_52
      · rw [if_neg hc_1] at hf
        refine lv_iconst (v := 0) hx hb dX9_countOfCells_12 (by decide) ?_
        refine lv_istore_n (lv' := [(3, .int (0 : Int32)), (0, .ref (q_p0 0)), (1, .int x1), (2, .int x2)]) hx hb dX9_countOfCells_13 rfl hl (by decide) rfl (fun ls hl => ?_)
        exact hL14 k4 hk4 N x1 x2 (0 : Int32) _ _ _ hP hD hS (lv_sub hl [1, 2, 3, 0] rfl) hf
  unfold ff_X9_countOfCells at hf
  refine lv_iconst (v := 0) hx hb dX9_countOfCells_0 (by decide) ?_
  refine lv_istore_n (lv' := [(1, .int (0 : Int32)), (0, .ref (q_p0 0))]) hx hb dX9_countOfCells_1 rfl hl (by decide) rfl (fun ls hl => ?_)
  refine lv_iconst (v := 1) hx hb dX9_countOfCells_2 (by decide) ?_
  refine lv_istore_n (lv' := [(2, .int (1 : Int32)), (1, .int (0 : Int32)), (0, .ref (q_p0 0))]) hx hb dX9_countOfCells_3 rfl hl (by decide) rfl (fun ls hl => ?_)
  exact hL4 N (0 : Int32) (1 : Int32) _ _ _ hP hD hS (lv_sub hl [2, 1, 0] rfl) hf
def ff_X9_sumOfCell_c23 (N : Nat) (o_p0 : os_T) (k23 : (Int32 × Int32 × Int32 × Int32 × Int32) → Option Int32) (x1 : Int32) (x2 : Int32) (x3 : Int32) (x4 : Int32) (x5 : Int32) : Option Int32 :=
  (if x4 < x5 then some x3 else ((ff_X9_lengthOf N o_p0 x1 x2 x5).bind fun u_6 => k23 (x1, x2, x3 + u_6, x4, x5 + 1)))
def ff_X9_sumOfCell_l23 (N : Nat) (o_p0 : os_T) : Nat → (Int32 × Int32 × Int32 × Int32 × Int32) → Option Int32 := os_loop (fun k23 s1 => ff_X9_sumOfCell_c23 N o_p0 k23 s1.1 s1.2.1 s1.2.2.1 s1.2.2.2.1 s1.2.2.2.2)
def ff_X9_sumOfCell (N : Nat) (o_p0 : os_T) (a1 : Int32) (a2 : Int32) : Option Int32 :=
  ((ff_X5_heightAt N o_p0 a1 a2).bind fun u_1 => ((ff_X9_excess N o_p0 a1 a2).bind fun u_3 => ff_X9_sumOfCell_l23 N o_p0 N (a1, a2, (0 : Int32), u_1, (u_1 - u_3) + (1 : Int32))))
set_option maxHeartbeats 4000000 in
set_option maxRecDepth 100000 in
theorem mm_X9_sumOfCell (l : Launch) (D : va_G) (kA : Nat → ClassId) (N : Nat) (q_p0 : Nat → Nat) (o_p0 : os_T) (a1 : Int32) (a2 : Int32) (out : Int32) (hf : ff_X9_sumOfCell N o_p0 a1 a2 = some out) : mc_C l D kA yX9_sumOfCell wsX9_sumOfCell ({ frames := 3, cells := 0, slots := 0, locals := 69 } : Room) [.ref (q_p0 0), .int a1, .int a2] (ce_X5 kA q_p0 o_p0) (some (.int out)) (ce_X5 kA q_p0 o_p0) := by
  refine mc_of (cc := cX9_sumOfCell) (maxL := 6) (ret := (some .int)) (by decide) rfl (Nat.le_of_ble_eq_true rfl) ?_
  intro p e s m below meth c A B hD hP hS ls hl
  obtain ⟨hx, hb, hr, hlk, hml, hown, hts, hK, hA, hnm⟩ := B
  have hown : s.vm.findClass RX9 = some m.cls := hown
  have hl : lv_has ls 6 [(0, .ref (q_p0 0)), (1, .int a1), (2, .int a2)] := hl
  have hL23 : ∀ (n : Nat) (x1 : Int32) (x2 : Int32) (x3 : Int32) (x4 : Int32) (x5 : Int32) (H : Heap) (locs : List Loc) (ls : Array Slot), va_P D vwCl (ce_X5 kA q_p0 o_p0) H → va_D A (ce_X5 kA q_p0 o_p0) → va_S A s.heap H locs → lv_has ls 6 [(0, .ref (q_p0 0)), (1, .int x1), (2, .int x2), (3, .int x3), (4, .int x4), (5, .int x5)] → ff_X9_sumOfCell_l23 N o_p0 n (x1, x2, x3, x4, x5) = some out → W p l e ({ frames := 3, cells := 0, slots := 0, locals := 69 } : Room) s m [.ref (q_p0 0), .int a1, .int a2].toArray below meth c H locs 0 0 (MQ below (mc_Q D kA A (some (.int out)) (ce_X5 kA q_p0 o_p0)) [.ref (q_p0 0), .int a1, .int a2].toArray s 0 0 A) (F0 m 23 ls []) := by
    intro n
    induction n with
    | zero => intro x1 x2 x3 x4 x5 H locs ls _ _ _ _ hf; cases hf
    | succ n hk23 =>
      intro x1 x2 x3 x4 x5 H locs ls hP hD hS hl hf
      have hf : ff_X9_sumOfCell_c23 N o_p0 (ff_X9_sumOfCell_l23 N o_p0 n) x1 x2 x3 x4 x5 = some out := hf
      generalize hke : ff_X9_sumOfCell_l23 N o_p0 n = k23 at hk23 hf
      unfold ff_X9_sumOfCell_c23 at hf
      refine lv_iload hx hb dX9_sumOfCell_23 (lv_at hl 5 rfl) ?_
      refine lv_iload hx hb dX9_sumOfCell_25 (lv_at hl 4 rfl) ?_
      refine lv_icmp_gt (tgt := 47) hx hb dX9_sumOfCell_27 (by decide) (fun hc_5 => ?_) (fun hc_5 => ?_)
      · rw [if_pos hc_5] at hf
        refine lv_iload_n hx hb dX9_sumOfCell_47 rfl (lv_at hl 3 rfl) ?_
        rw [← Option.some.inj hf]
        exact mc_reti hx hb hr hlk hP hK hD hS dX9_sumOfCell_48
      · rw [if_neg hc_5] at hf
        refine lv_iload_n hx hb dX9_sumOfCell_30 rfl (lv_at hl 3 rfl) ?_
        refine lv_aload_n hx hb dX9_sumOfCell_31 rfl (lv_at hl 0 rfl) ?_
        refine lv_iload_n hx hb dX9_sumOfCell_32 rfl (lv_at hl 1 rfl) ?_
        refine lv_iload_n hx hb dX9_sumOfCell_33 rfl (lv_at hl 2 rfl) ?_
        refine lv_iload hx hb dX9_sumOfCell_34 (lv_at hl 5 rfl) ?_
        obtain ⟨u_6, he_7, hf⟩ := os_bd hf
        refine mc_callS ⟨hx, hb, hml, hown, hts⟩ (mm_X9_lengthOf l D kA N q_p0 o_p0 x1 x2 x5 u_6 he_7) (va_cwS 4 hts gX9_sumOfCell_X9_lengthOf rfl rfl rfl (by decide +kernel) ⟨Nat.le_of_ble_eq_true rfl, Nat.le_of_ble_eq_true rfl⟩) (wc := (ce_X5 kA q_p0 o_p0)) rfl hl.1 (As := [.ref (q_p0 0), .int x1, .int x2, .int x5]) (rest := [.int x3]) rfl (Nat.le_of_ble_eq_true rfl) dX9_sumOfCell_36 ⟨Nat.le_of_ble_eq_true rfl, Nat.le_of_ble_eq_true rfl⟩ hK hP hD hS hA [0, 1, 2, 3] [] [0, 1, 2, 3] rfl (by decide) rfl (by decide) (by decide) rfl (by decide) (wr := []) (w2 := (ce_X5 kA q_p0 o_p0)) (fun H locs hP hD hS => ?_)
        have hP : va_P D vwCl (ce_X5 kA q_p0 o_p0) H := hP
        refine lv_iadd hx hb dX9_sumOfCell_39 ?_
        refine lv_istore_n (lv' := [(3, .int (x3 + u_6)), (0, .ref (q_p0 0)), (1, .int x1), (2, .int x2), (4, .int x4), (5, .int x5)]) hx hb dX9_sumOfCell_40 rfl hl (by decide) rfl (fun ls hl => ?_)
        refine lv_iinc (v := x5 + 1) (lv' := [(5, .int (x5 + 1)), (3, .int (x3 + u_6)), (0, .ref (q_p0 0)), (1, .int x1), (2, .int x2), (4, .int x4)]) hx hb dX9_sumOfCell_41 hl (k := 5) rfl rfl (by decide) rfl (fun ls hl => ?_)
        refine lv_goto (tgt := 23) hx hb dX9_sumOfCell_44 (by decide) ?_
        exact hk23 x1 x2 (x3 + u_6) x4 (x5 + 1) _ _ _ hP hD hS (lv_sub hl [2, 3, 4, 1, 5, 0] rfl) hf
  unfold ff_X9_sumOfCell at hf
  refine lv_iconst (v := 0) hx hb dX9_sumOfCell_0 (by decide) ?_
  refine lv_istore_n (lv' := [(3, .int (0 : Int32)), (0, .ref (q_p0 0)), (1, .int a1), (2, .int a2)]) hx hb dX9_sumOfCell_1 rfl hl (by decide) rfl (fun ls hl => ?_)
  refine lv_aload_n hx hb dX9_sumOfCell_2 rfl (lv_at hl 1 rfl) ?_
  refine lv_iload_n hx hb dX9_sumOfCell_3 rfl (lv_at hl 2 rfl) ?_
  refine lv_iload_n hx hb dX9_sumOfCell_4 rfl (lv_at hl 3 rfl) ?_
  obtain ⟨u_1, he_2, hf⟩ := os_bd hf
  refine mc_callV ⟨hx, hb, hml, hown, hts⟩ (mm_X5_heightAt l D kA N q_p0 o_p0 a1 a2 u_1 he_2) (cwV 2 hts gX9_sumOfCell_X5_heightAt rfl rfl rfl (by decide +kernel) ⟨Nat.le_of_ble_eq_true rfl, Nat.le_of_ble_eq_true rfl⟩) (wc := (ce_X5 kA q_p0 o_p0)) (ci := 4) (q0 := 0) rfl rfl rfl hl.1 (As := [.int a1, .int a2]) (rest := []) rfl (Nat.le_of_ble_eq_true rfl) dX9_sumOfCell_5 ⟨Nat.le_of_ble_eq_true rfl, Nat.le_of_ble_eq_true rfl⟩ hK hP hD hS hA [0, 1, 2, 3] [] [0, 1, 2, 3] rfl (by decide) rfl (by decide) (by decide) rfl (by decide) (wr := []) (w2 := (ce_X5 kA q_p0 o_p0)) (fun H locs hP hD hS => ?_)
  have hP : va_P D vwCl (ce_X5 kA q_p0 o_p0) H := hP
  refine lv_istore (lv' := [(4, .int u_1), (3, .int (0 : Int32)), (0, .ref (q_p0 0)), (1, .int a1), (2, .int a2)]) hx hb dX9_sumOfCell_8 hl (by decide) rfl (fun ls hl => ?_)
  refine lv_iload hx hb dX9_sumOfCell_10 (lv_at hl 0 rfl) ?_
  refine lv_aload_n hx hb dX9_sumOfCell_12 rfl (lv_at hl 2 rfl) ?_
  refine lv_iload_n hx hb dX9_sumOfCell_13 rfl (lv_at hl 3 rfl) ?_
  refine lv_iload_n hx hb dX9_sumOfCell_14 rfl (lv_at hl 4 rfl) ?_
  obtain ⟨u_3, he_4, hf⟩ := os_bd hf
  refine mc_callS ⟨hx, hb, hml, hown, hts⟩ (mm_X9_excess l D kA N q_p0 o_p0 a1 a2 u_3 he_4) (va_cwS 3 hts gX9_sumOfCell_X9_excess rfl rfl rfl (by decide +kernel) ⟨Nat.le_of_ble_eq_true rfl, Nat.le_of_ble_eq_true rfl⟩) (wc := (ce_X5 kA q_p0 o_p0)) rfl hl.1 (As := [.ref (q_p0 0), .int a1, .int a2]) (rest := [.int u_1]) rfl (Nat.le_of_ble_eq_true rfl) dX9_sumOfCell_15 ⟨Nat.le_of_ble_eq_true rfl, Nat.le_of_ble_eq_true rfl⟩ hK hP hD hS hA [0, 1, 2, 3] [] [0, 1, 2, 3] rfl (by decide) rfl (by decide) (by decide) rfl (by decide) (wr := []) (w2 := (ce_X5 kA q_p0 o_p0)) (fun H locs hP hD hS => ?_)
  have hP : va_P D vwCl (ce_X5 kA q_p0 o_p0) H := hP
  refine lv_isub hx hb dX9_sumOfCell_18 ?_
  refine lv_iconst (v := 1) hx hb dX9_sumOfCell_19 (by decide) ?_
  refine lv_iadd hx hb dX9_sumOfCell_20 ?_
  refine lv_istore (lv' := [(5, .int ((u_1 - u_3) + (1 : Int32))), (4, .int u_1), (3, .int (0 : Int32)), (0, .ref (q_p0 0)), (1, .int a1), (2, .int a2)]) hx hb dX9_sumOfCell_21 hl (by decide) rfl (fun ls hl => ?_)
  exact hL23 N a1 a2 (0 : Int32) u_1 ((u_1 - u_3) + (1 : Int32)) _ _ _ hP hD hS (lv_sub hl [3, 4, 5, 2, 1, 0] rfl) hf
def ff_X9_sumOfLengths_c14 (N : Nat) (o_p0 : os_T) (k4 : (Int32 × Int32) → Option Int32) (k14 : (Int32 × Int32 × Int32) → Option Int32) (x1 : Int32) (x2 : Int32) (x3 : Int32) : Option Int32 :=
  (if (os_I o_p0 0) ≤ x3 then k4 (x1, x2 + 1) else ((ff_X9_sumOfCell N o_p0 x3 x2).bind fun u_3 => k14 (x1 + u_3, x2, x3 + 1)))
def ff_X9_sumOfLengths_l14 (N : Nat) (o_p0 : os_T) (k4 : (Int32 × Int32) → Option Int32) : Nat → (Int32 × Int32 × Int32) → Option Int32 := os_loop (fun k14 s1 => ff_X9_sumOfLengths_c14 N o_p0 k4 k14 s1.1 s1.2.1 s1.2.2)
def ff_X9_sumOfLengths_c4 (N : Nat) (o_p0 : os_T) (k4 : (Int32 × Int32) → Option Int32) (x1 : Int32) (x2 : Int32) : Option Int32 :=
  (if (os_I o_p0 1) ≤ x2 then some x1 else ff_X9_sumOfLengths_l14 N o_p0 k4 N (x1, x2, (0 : Int32)))
def ff_X9_sumOfLengths_l4 (N : Nat) (o_p0 : os_T) : Nat → (Int32 × Int32) → Option Int32 := os_loop (fun k4 s1 => ff_X9_sumOfLengths_c4 N o_p0 k4 s1.1 s1.2)
def ff_X9_sumOfLengths (N : Nat) (o_p0 : os_T) : Option Int32 :=
  ff_X9_sumOfLengths_l4 N o_p0 N ((0 : Int32), (1 : Int32))
set_option maxHeartbeats 4000000 in
set_option maxRecDepth 100000 in
theorem mm_X9_sumOfLengths (l : Launch) (D : va_G) (kA : Nat → ClassId) (N : Nat) (q_p0 : Nat → Nat) (o_p0 : os_T) (out : Int32) (hf : ff_X9_sumOfLengths N o_p0 = some out) : mc_C l D kA yX9_sumOfLengths wsX9_sumOfLengths ({ frames := 4, cells := 0, slots := 0, locals := 94 } : Room) [.ref (q_p0 0)] (ce_X5 kA q_p0 o_p0) (some (.int out)) (ce_X5 kA q_p0 o_p0) := by
  refine mc_of (cc := cX9_sumOfLengths) (maxL := 4) (ret := (some .int)) (by decide) rfl (Nat.le_of_ble_eq_true rfl) ?_
  intro p e s m below meth c A B hD hP hS ls hl
  obtain ⟨hx, hb, hr, hlk, hml, hown, hts, hK, hA, hnm⟩ := B
  have hown : s.vm.findClass RX9 = some m.cls := hown
  have hl : lv_has ls 4 [(0, .ref (q_p0 0))] := hl
  have hUX5 : ∀ w ∈ u_ws RX5 TX5 10, w.before [.ref (q_p0 0)].toArray s = true := fun w h => hts w (List.mem_cons_of_mem _ (List.mem_append_right _ h))
  have hL14 : ∀ (k4 : (Int32 × Int32) → Option Int32), (∀ (x1 : Int32) (x2 : Int32) (H : Heap) (locs : List Loc) (ls : Array Slot), va_P D vwCl (ce_X5 kA q_p0 o_p0) H → va_D A (ce_X5 kA q_p0 o_p0) → va_S A s.heap H locs → lv_has ls 4 [(0, .ref (q_p0 0)), (1, .int x1), (2, .int x2)] → k4 (x1, x2) = some out → W p l e ({ frames := 4, cells := 0, slots := 0, locals := 94 } : Room) s m [.ref (q_p0 0)].toArray below meth c H locs 0 0 (MQ below (mc_Q D kA A (some (.int out)) (ce_X5 kA q_p0 o_p0)) [.ref (q_p0 0)].toArray s 0 0 A) (F0 m 4 ls [])) → ∀ (n : Nat) (x1 : Int32) (x2 : Int32) (x3 : Int32) (H : Heap) (locs : List Loc) (ls : Array Slot), va_P D vwCl (ce_X5 kA q_p0 o_p0) H → va_D A (ce_X5 kA q_p0 o_p0) → va_S A s.heap H locs → lv_has ls 4 [(0, .ref (q_p0 0)), (1, .int x1), (2, .int x2), (3, .int x3)] → ff_X9_sumOfLengths_l14 N o_p0 k4 n (x1, x2, x3) = some out → W p l e ({ frames := 4, cells := 0, slots := 0, locals := 94 } : Room) s m [.ref (q_p0 0)].toArray below meth c H locs 0 0 (MQ below (mc_Q D kA A (some (.int out)) (ce_X5 kA q_p0 o_p0)) [.ref (q_p0 0)].toArray s 0 0 A) (F0 m 14 ls []) := by
    intro k4 hk4 n
    induction n with
    | zero => intro x1 x2 x3 H locs ls _ _ _ _ hf; cases hf
    | succ n hk14 =>
      intro x1 x2 x3 H locs ls hP hD hS hl hf
      have hf : ff_X9_sumOfLengths_c14 N o_p0 k4 (ff_X9_sumOfLengths_l14 N o_p0 k4 n) x1 x2 x3 = some out := hf
      generalize hke : ff_X9_sumOfLengths_l14 N o_p0 k4 n = k14 at hk14 hf
      unfold ff_X9_sumOfLengths_c14 at hf
      refine lv_iload_n hx hb dX9_sumOfLengths_14 rfl (lv_at hl 3 rfl) ?_
      refine lv_aload_n hx hb dX9_sumOfLengths_15 rfl (lv_at hl 0 rfl) ?_
      refine va_get (D := D) (ci := 4) (v := .int (os_I o_p0 0)) (C := RX5) (T := TX5) (N := 10) hx hb hUX5 (fun _ h9 => h9) hown hK hP 0 rfl rfl 0 (by decide) (hts (Cond.fieldLink RX9 31 "ReliefBuilder$Panel" "width" "I") (List.mem_of_getElem? (i := 2) rfl)) (fun _ h9 => h9) rfl dX9_sumOfLengths_16 ?_
      refine lv_icmp_ge (tgt := 37) hx hb dX9_sumOfLengths_19 (by decide) (fun hc_2 => ?_) (fun hc_2 => ?_)
      · rw [if_pos hc_2] at hf
        refine lv_iinc (v := x2 + 1) (lv' := [(2, .int (x2 + 1)), (0, .ref (q_p0 0)), (1, .int x1), (3, .int x3)]) hx hb dX9_sumOfLengths_37 hl (k := 2) rfl rfl (by decide) rfl (fun ls hl => ?_)
        refine lv_goto (tgt := 4) hx hb dX9_sumOfLengths_40 (by decide) ?_
        exact hk4 x1 (x2 + 1) _ _ _ hP hD hS (lv_sub hl [1, 2, 0] rfl) hf
      · rw [if_neg hc_2] at hf
        refine lv_iload_n hx hb dX9_sumOfLengths_22 rfl (lv_at hl 1 rfl) ?_
        refine lv_aload_n hx hb dX9_sumOfLengths_23 rfl (lv_at hl 0 rfl) ?_
        refine lv_iload_n hx hb dX9_sumOfLengths_24 rfl (lv_at hl 3 rfl) ?_
        refine lv_iload_n hx hb dX9_sumOfLengths_25 rfl (lv_at hl 2 rfl) ?_
        obtain ⟨u_3, he_4, hf⟩ := os_bd hf
        refine mc_callS ⟨hx, hb, hml, hown, hts⟩ (mm_X9_sumOfCell l D kA N q_p0 o_p0 x3 x2 u_3 he_4) (va_cwS 3 hts gX9_sumOfLengths_X9_sumOfCell rfl rfl rfl (by decide +kernel) ⟨Nat.le_of_ble_eq_true rfl, Nat.le_of_ble_eq_true rfl⟩) (wc := (ce_X5 kA q_p0 o_p0)) rfl hl.1 (As := [.ref (q_p0 0), .int x3, .int x2]) (rest := [.int x1]) rfl (Nat.le_of_ble_eq_true rfl) dX9_sumOfLengths_26 ⟨Nat.le_of_ble_eq_true rfl, Nat.le_of_ble_eq_true rfl⟩ hK hP hD hS hA [0, 1, 2, 3] [] [0, 1, 2, 3] rfl (by decide) rfl (by decide) (by decide) rfl (by decide) (wr := []) (w2 := (ce_X5 kA q_p0 o_p0)) (fun H locs hP hD hS => ?_)
        have hP : va_P D vwCl (ce_X5 kA q_p0 o_p0) H := hP
        refine lv_iadd hx hb dX9_sumOfLengths_29 ?_
        refine lv_istore_n (lv' := [(1, .int (x1 + u_3)), (0, .ref (q_p0 0)), (2, .int x2), (3, .int x3)]) hx hb dX9_sumOfLengths_30 rfl hl (by decide) rfl (fun ls hl => ?_)
        refine lv_iinc (v := x3 + 1) (lv' := [(3, .int (x3 + 1)), (1, .int (x1 + u_3)), (0, .ref (q_p0 0)), (2, .int x2)]) hx hb dX9_sumOfLengths_31 hl (k := 3) rfl rfl (by decide) rfl (fun ls hl => ?_)
        refine lv_goto (tgt := 14) hx hb dX9_sumOfLengths_34 (by decide) ?_
        exact hk14 (x1 + u_3) x2 (x3 + 1) _ _ _ hP hD hS (lv_sub hl [2, 1, 3, 0] rfl) hf
  have hL4 : ∀ (n : Nat) (x1 : Int32) (x2 : Int32) (H : Heap) (locs : List Loc) (ls : Array Slot), va_P D vwCl (ce_X5 kA q_p0 o_p0) H → va_D A (ce_X5 kA q_p0 o_p0) → va_S A s.heap H locs → lv_has ls 4 [(0, .ref (q_p0 0)), (1, .int x1), (2, .int x2)] → ff_X9_sumOfLengths_l4 N o_p0 n (x1, x2) = some out → W p l e ({ frames := 4, cells := 0, slots := 0, locals := 94 } : Room) s m [.ref (q_p0 0)].toArray below meth c H locs 0 0 (MQ below (mc_Q D kA A (some (.int out)) (ce_X5 kA q_p0 o_p0)) [.ref (q_p0 0)].toArray s 0 0 A) (F0 m 4 ls []) := by
    intro n
    induction n with
    | zero => intro x1 x2 H locs ls _ _ _ _ hf; cases hf
    | succ n hk4 =>
      intro x1 x2 H locs ls hP hD hS hl hf
      have hf : ff_X9_sumOfLengths_c4 N o_p0 (ff_X9_sumOfLengths_l4 N o_p0 n) x1 x2 = some out := hf
      generalize hke : ff_X9_sumOfLengths_l4 N o_p0 n = k4 at hk4 hf
      unfold ff_X9_sumOfLengths_c4 at hf
      refine lv_iload_n hx hb dX9_sumOfLengths_4 rfl (lv_at hl 2 rfl) ?_
      refine lv_aload_n hx hb dX9_sumOfLengths_5 rfl (lv_at hl 0 rfl) ?_
      refine va_get (D := D) (ci := 4) (v := .int (os_I o_p0 1)) (C := RX5) (T := TX5) (N := 10) hx hb hUX5 (fun _ h9 => h9) hown hK hP 0 rfl rfl 1 (by decide) (hts (Cond.fieldLink RX9 28 "ReliefBuilder$Panel" "rows" "I") (List.mem_of_getElem? (i := 1) rfl)) (fun _ h9 => h9) rfl dX9_sumOfLengths_6 ?_
      refine lv_icmp_ge (tgt := 43) hx hb dX9_sumOfLengths_9 (by decide) (fun hc_1 => ?_) (fun hc_1 => ?_)
      · rw [if_pos hc_1] at hf
        refine lv_iload_n hx hb dX9_sumOfLengths_43 rfl (lv_at hl 1 rfl) ?_
        rw [← Option.some.inj hf]
        exact mc_reti hx hb hr hlk hP hK hD hS dX9_sumOfLengths_44
      · rw [if_neg hc_1] at hf
        refine lv_iconst (v := 0) hx hb dX9_sumOfLengths_12 (by decide) ?_
        refine lv_istore_n (lv' := [(3, .int (0 : Int32)), (0, .ref (q_p0 0)), (1, .int x1), (2, .int x2)]) hx hb dX9_sumOfLengths_13 rfl hl (by decide) rfl (fun ls hl => ?_)
        exact hL14 k4 hk4 N x1 x2 (0 : Int32) _ _ _ hP hD hS (lv_sub hl [1, 2, 3, 0] rfl) hf
  unfold ff_X9_sumOfLengths at hf
  refine lv_iconst (v := 0) hx hb dX9_sumOfLengths_0 (by decide) ?_
  refine lv_istore_n (lv' := [(1, .int (0 : Int32)), (0, .ref (q_p0 0))]) hx hb dX9_sumOfLengths_1 rfl hl (by decide) rfl (fun ls hl => ?_)
  refine lv_iconst (v := 1) hx hb dX9_sumOfLengths_2 (by decide) ?_
  refine lv_istore_n (lv' := [(2, .int (1 : Int32)), (1, .int (0 : Int32)), (0, .ref (q_p0 0))]) hx hb dX9_sumOfLengths_3 rfl hl (by decide) rfl (fun ls hl => ?_)
  exact hL4 N (0 : Int32) (1 : Int32) _ _ _ hP hD hS (lv_sub hl [2, 1, 0] rfl) hf
def ff_X9_settle_c14 (N : Nat) (k4 : (os_T × Int32 × Int32) → Option (Int32 × os_T)) (k14 : (os_T × Int32 × Int32 × Int32) → Option (Int32 × os_T)) (o_p0 : os_T) (x1 : Int32) (x2 : Int32) (x3 : Int32) : Option (Int32 × os_T) :=
  (if (os_I o_p0 0) ≤ x3 then k4 (o_p0, x1, x2 + 1) else ((ff_X5_heightAt N o_p0 x3 x2).bind fun u_3 => ((ff_X9_excess N o_p0 x3 x2).bind fun u_5 => ((ff_X5_build N o_p0 x3 x2 (u_3 - u_5)).bind fun u_7 => k14 (u_7.2, x1 + u_7.1, x2, x3 + 1)))))
def ff_X9_settle_l14 (N : Nat) (k4 : (os_T × Int32 × Int32) → Option (Int32 × os_T)) : Nat → (os_T × Int32 × Int32 × Int32) → Option (Int32 × os_T) := os_loop (fun k14 s1 => ff_X9_settle_c14 N k4 k14 s1.1 s1.2.1 s1.2.2.1 s1.2.2.2)
def ff_X9_settle_c4 (N : Nat) (k4 : (os_T × Int32 × Int32) → Option (Int32 × os_T)) (o_p0 : os_T) (x1 : Int32) (x2 : Int32) : Option (Int32 × os_T) :=
  (if (os_I o_p0 1) ≤ x2 then some (x1, o_p0) else ff_X9_settle_l14 N k4 N (o_p0, x1, x2, (0 : Int32)))
def ff_X9_settle_l4 (N : Nat) : Nat → (os_T × Int32 × Int32) → Option (Int32 × os_T) := os_loop (fun k4 s1 => ff_X9_settle_c4 N k4 s1.1 s1.2.1 s1.2.2)
def ff_X9_settle (N : Nat) (o_p0 : os_T) : Option (Int32 × os_T) :=
  ff_X9_settle_l4 N N (o_p0, (0 : Int32), (1 : Int32))
set_option maxHeartbeats 4000000 in
set_option maxRecDepth 100000 in
theorem mm_X9_settle (l : Launch) (D : va_G) (kA : Nat → ClassId) (N : Nat) (q_p0 : Nat → Nat) (o_p0 : os_T) (out : (Int32 × os_T)) (hf : ff_X9_settle N o_p0 = some out) : mc_C l D kA yX9_settle wsX9_settle ({ frames := 2, cells := 0, slots := 0, locals := 45 } : Room) [.ref (q_p0 0)] (ce_X5 kA q_p0 o_p0) (some (.int out.1)) (ce_X5 kA q_p0 out.2) := by
  refine mc_of (cc := cX9_settle) (maxL := 4) (ret := (some .int)) (by decide) rfl (Nat.le_of_ble_eq_true rfl) ?_
  intro p e s m below meth c A B hD hP hS ls hl
  obtain ⟨hx, hb, hr, hlk, hml, hown, hts, hK, hA, hnm⟩ := B
  have hown : s.vm.findClass RX9 = some m.cls := hown
  have hl : lv_has ls 4 [(0, .ref (q_p0 0))] := hl
  have hUX5 : ∀ w ∈ u_ws RX5 TX5 10, w.before [.ref (q_p0 0)].toArray s = true := fun w h => hts w (List.mem_cons_of_mem _ (List.mem_append_right _ h))
  have hL14 : ∀ (k4 : (os_T × Int32 × Int32) → Option (Int32 × os_T)), (∀ (o_p0 : os_T) (x1 : Int32) (x2 : Int32) (H : Heap) (locs : List Loc) (ls : Array Slot), va_P D vwCl (ce_X5 kA q_p0 o_p0) H → va_D A (ce_X5 kA q_p0 o_p0) → va_S A s.heap H locs → lv_has ls 4 [(0, .ref (q_p0 0)), (1, .int x1), (2, .int x2)] → k4 (o_p0, x1, x2) = some out → W p l e ({ frames := 2, cells := 0, slots := 0, locals := 45 } : Room) s m [.ref (q_p0 0)].toArray below meth c H locs 0 0 (MQ below (mc_Q D kA A (some (.int out.1)) (ce_X5 kA q_p0 out.2)) [.ref (q_p0 0)].toArray s 0 0 A) (F0 m 4 ls [])) → ∀ (n : Nat) (o_p0 : os_T) (x1 : Int32) (x2 : Int32) (x3 : Int32) (H : Heap) (locs : List Loc) (ls : Array Slot), va_P D vwCl (ce_X5 kA q_p0 o_p0) H → va_D A (ce_X5 kA q_p0 o_p0) → va_S A s.heap H locs → lv_has ls 4 [(0, .ref (q_p0 0)), (1, .int x1), (2, .int x2), (3, .int x3)] → ff_X9_settle_l14 N k4 n (o_p0, x1, x2, x3) = some out → W p l e ({ frames := 2, cells := 0, slots := 0, locals := 45 } : Room) s m [.ref (q_p0 0)].toArray below meth c H locs 0 0 (MQ below (mc_Q D kA A (some (.int out.1)) (ce_X5 kA q_p0 out.2)) [.ref (q_p0 0)].toArray s 0 0 A) (F0 m 14 ls []) := by
    intro k4 hk4 n
    induction n with
    | zero => intro o_p0 x1 x2 x3 H locs ls _ _ _ _ hf; cases hf
    | succ n hk14 =>
      intro o_p0 x1 x2 x3 H locs ls hP hD hS hl hf
      have hf : ff_X9_settle_c14 N k4 (ff_X9_settle_l14 N k4 n) o_p0 x1 x2 x3 = some out := hf
      generalize hke : ff_X9_settle_l14 N k4 n = k14 at hk14 hf
      unfold ff_X9_settle_c14 at hf
      refine lv_iload_n hx hb dX9_settle_14 rfl (lv_at hl 3 rfl) ?_
      refine lv_aload_n hx hb dX9_settle_15 rfl (lv_at hl 0 rfl) ?_
      refine va_get (D := D) (ci := 4) (v := .int (os_I o_p0 0)) (C := RX5) (T := TX5) (N := 10) hx hb hUX5 (fun _ h9 => h9) hown hK hP 0 rfl rfl 0 (by decide) (hts (Cond.fieldLink RX9 31 "ReliefBuilder$Panel" "width" "I") (List.mem_of_getElem? (i := 2) rfl)) (fun _ h9 => h9) rfl dX9_settle_16 ?_
      refine lv_icmp_ge (tgt := 50) hx hb dX9_settle_19 (by decide) (fun hc_2 => ?_) (fun hc_2 => ?_)
      · rw [if_pos hc_2] at hf
        refine lv_iinc (v := x2 + 1) (lv' := [(2, .int (x2 + 1)), (0, .ref (q_p0 0)), (1, .int x1), (3, .int x3)]) hx hb dX9_settle_50 hl (k := 2) rfl rfl (by decide) rfl (fun ls hl => ?_)
        refine lv_goto (tgt := 4) hx hb dX9_settle_53 (by decide) ?_
        exact hk4 o_p0 x1 (x2 + 1) _ _ _ hP hD hS (lv_sub hl [1, 2, 0] rfl) hf
      · rw [if_neg hc_2] at hf
        refine lv_iload_n hx hb dX9_settle_22 rfl (lv_at hl 1 rfl) ?_
        refine lv_aload_n hx hb dX9_settle_23 rfl (lv_at hl 0 rfl) ?_
        refine lv_iload_n hx hb dX9_settle_24 rfl (lv_at hl 3 rfl) ?_
        refine lv_iload_n hx hb dX9_settle_25 rfl (lv_at hl 2 rfl) ?_
        refine lv_aload_n hx hb dX9_settle_26 rfl (lv_at hl 0 rfl) ?_
        refine lv_iload_n hx hb dX9_settle_27 rfl (lv_at hl 3 rfl) ?_
        refine lv_iload_n hx hb dX9_settle_28 rfl (lv_at hl 2 rfl) ?_
        obtain ⟨u_3, he_4, hf⟩ := os_bd hf
        refine mc_callV ⟨hx, hb, hml, hown, hts⟩ (mm_X5_heightAt l D kA N q_p0 o_p0 x3 x2 u_3 he_4) (cwV 2 hts gX9_settle_X5_heightAt rfl rfl rfl (by decide +kernel) ⟨Nat.le_of_ble_eq_true rfl, Nat.le_of_ble_eq_true rfl⟩) (wc := (ce_X5 kA q_p0 o_p0)) (ci := 4) (q0 := 0) rfl rfl rfl hl.1 (As := [.int x3, .int x2]) (rest := [.int x2, .int x3, .ref (q_p0 0), .int x1]) rfl (Nat.le_of_ble_eq_true rfl) dX9_settle_29 ⟨Nat.le_of_ble_eq_true rfl, Nat.le_of_ble_eq_true rfl⟩ hK hP hD hS hA [0, 1, 2, 3] [] [0, 1, 2, 3] rfl (by decide) rfl (by decide) (by decide) rfl (by decide) (wr := []) (w2 := (ce_X5 kA q_p0 o_p0)) (fun H locs hP hD hS => ?_)
        have hP : va_P D vwCl (ce_X5 kA q_p0 o_p0) H := hP
        refine lv_aload_n hx hb dX9_settle_32 rfl (lv_at hl 0 rfl) ?_
        refine lv_iload_n hx hb dX9_settle_33 rfl (lv_at hl 3 rfl) ?_
        refine lv_iload_n hx hb dX9_settle_34 rfl (lv_at hl 2 rfl) ?_
        obtain ⟨u_5, he_6, hf⟩ := os_bd hf
        refine mc_callS ⟨hx, hb, hml, hown, hts⟩ (mm_X9_excess l D kA N q_p0 o_p0 x3 x2 u_5 he_6) (va_cwS 3 hts gX9_settle_X9_excess rfl rfl rfl (by decide +kernel) ⟨Nat.le_of_ble_eq_true rfl, Nat.le_of_ble_eq_true rfl⟩) (wc := (ce_X5 kA q_p0 o_p0)) rfl hl.1 (As := [.ref (q_p0 0), .int x3, .int x2]) (rest := [.int u_3, .int x2, .int x3, .ref (q_p0 0), .int x1]) rfl (Nat.le_of_ble_eq_true rfl) dX9_settle_35 ⟨Nat.le_of_ble_eq_true rfl, Nat.le_of_ble_eq_true rfl⟩ hK hP hD hS hA [0, 1, 2, 3] [] [0, 1, 2, 3] rfl (by decide) rfl (by decide) (by decide) rfl (by decide) (wr := []) (w2 := (ce_X5 kA q_p0 o_p0)) (fun H locs hP hD hS => ?_)
        have hP : va_P D vwCl (ce_X5 kA q_p0 o_p0) H := hP
        refine lv_isub hx hb dX9_settle_38 ?_
        obtain ⟨u_7, he_8, hf⟩ := os_bd hf
        refine mc_callV ⟨hx, hb, hml, hown, hts⟩ (mm_X5_build l D kA N q_p0 o_p0 x3 x2 (u_3 - u_5) u_7 he_8) (cwV 3 hts gX9_settle_X5_build rfl rfl rfl (by decide +kernel) ⟨Nat.le_of_ble_eq_true rfl, Nat.le_of_ble_eq_true rfl⟩) (wc := (ce_X5 kA q_p0 o_p0)) (ci := 4) (q0 := 0) rfl rfl rfl hl.1 (As := [.int x3, .int x2, .int (u_3 - u_5)]) (rest := [.int x1]) rfl (Nat.le_of_ble_eq_true rfl) dX9_settle_39 ⟨Nat.le_of_ble_eq_true rfl, Nat.le_of_ble_eq_true rfl⟩ hK hP hD hS hA [0, 1, 2, 3] [] [0, 1, 2, 3] rfl (by decide) rfl (by decide) (by decide) rfl (by decide) (wr := []) (w2 := (ce_X5 kA q_p0 u_7.2)) (fun H locs hP hD hS => ?_)
        have hP : va_P D vwCl (ce_X5 kA q_p0 u_7.2) H := hP
        refine lv_iadd hx hb dX9_settle_42 ?_
        refine lv_istore_n (lv' := [(1, .int (x1 + u_7.1)), (0, .ref (q_p0 0)), (2, .int x2), (3, .int x3)]) hx hb dX9_settle_43 rfl hl (by decide) rfl (fun ls hl => ?_)
        refine lv_iinc (v := x3 + 1) (lv' := [(3, .int (x3 + 1)), (1, .int (x1 + u_7.1)), (0, .ref (q_p0 0)), (2, .int x2)]) hx hb dX9_settle_44 hl (k := 3) rfl rfl (by decide) rfl (fun ls hl => ?_)
        refine lv_goto (tgt := 14) hx hb dX9_settle_47 (by decide) ?_
        exact hk14 u_7.2 (x1 + u_7.1) x2 (x3 + 1) _ _ _ hP hD hS (lv_sub hl [2, 1, 3, 0] rfl) hf
  have hL4 : ∀ (n : Nat) (o_p0 : os_T) (x1 : Int32) (x2 : Int32) (H : Heap) (locs : List Loc) (ls : Array Slot), va_P D vwCl (ce_X5 kA q_p0 o_p0) H → va_D A (ce_X5 kA q_p0 o_p0) → va_S A s.heap H locs → lv_has ls 4 [(0, .ref (q_p0 0)), (1, .int x1), (2, .int x2)] → ff_X9_settle_l4 N n (o_p0, x1, x2) = some out → W p l e ({ frames := 2, cells := 0, slots := 0, locals := 45 } : Room) s m [.ref (q_p0 0)].toArray below meth c H locs 0 0 (MQ below (mc_Q D kA A (some (.int out.1)) (ce_X5 kA q_p0 out.2)) [.ref (q_p0 0)].toArray s 0 0 A) (F0 m 4 ls []) := by
    intro n
    induction n with
    | zero => intro o_p0 x1 x2 H locs ls _ _ _ _ hf; cases hf
    | succ n hk4 =>
      intro o_p0 x1 x2 H locs ls hP hD hS hl hf
      have hf : ff_X9_settle_c4 N (ff_X9_settle_l4 N n) o_p0 x1 x2 = some out := hf
      generalize hke : ff_X9_settle_l4 N n = k4 at hk4 hf
      unfold ff_X9_settle_c4 at hf
      refine lv_iload_n hx hb dX9_settle_4 rfl (lv_at hl 2 rfl) ?_
      refine lv_aload_n hx hb dX9_settle_5 rfl (lv_at hl 0 rfl) ?_
      refine va_get (D := D) (ci := 4) (v := .int (os_I o_p0 1)) (C := RX5) (T := TX5) (N := 10) hx hb hUX5 (fun _ h9 => h9) hown hK hP 0 rfl rfl 1 (by decide) (hts (Cond.fieldLink RX9 28 "ReliefBuilder$Panel" "rows" "I") (List.mem_of_getElem? (i := 1) rfl)) (fun _ h9 => h9) rfl dX9_settle_6 ?_
      refine lv_icmp_ge (tgt := 56) hx hb dX9_settle_9 (by decide) (fun hc_1 => ?_) (fun hc_1 => ?_)
      · rw [if_pos hc_1] at hf
        refine lv_iload_n hx hb dX9_settle_56 rfl (lv_at hl 1 rfl) ?_
        rw [← Option.some.inj hf]
        exact mc_reti hx hb hr hlk hP hK hD hS dX9_settle_57
      · rw [if_neg hc_1] at hf
        refine lv_iconst (v := 0) hx hb dX9_settle_12 (by decide) ?_
        refine lv_istore_n (lv' := [(3, .int (0 : Int32)), (0, .ref (q_p0 0)), (1, .int x1), (2, .int x2)]) hx hb dX9_settle_13 rfl hl (by decide) rfl (fun ls hl => ?_)
        exact hL14 k4 hk4 N o_p0 x1 x2 (0 : Int32) _ _ _ hP hD hS (lv_sub hl [1, 2, 3, 0] rfl) hf
  unfold ff_X9_settle at hf
  refine lv_iconst (v := 0) hx hb dX9_settle_0 (by decide) ?_
  refine lv_istore_n (lv' := [(1, .int (0 : Int32)), (0, .ref (q_p0 0))]) hx hb dX9_settle_1 rfl hl (by decide) rfl (fun ls hl => ?_)
  refine lv_iconst (v := 1) hx hb dX9_settle_2 (by decide) ?_
  refine lv_istore_n (lv' := [(2, .int (1 : Int32)), (1, .int (0 : Int32)), (0, .ref (q_p0 0))]) hx hb dX9_settle_3 rfl hl (by decide) rfl (fun ls hl => ?_)
  exact hL4 N o_p0 (0 : Int32) (1 : Int32) _ _ _ hP hD hS (lv_sub hl [2, 1, 0] rfl) hf
def ff_X9_leastSlope_c14 (N : Nat) (o_p0 : os_T) (k4 : (Int32 × Int32) → Option Int32) (k14 : (Int32 × Int32 × Int32) → Option Int32) (x1 : Int32) (x2 : Int32) (x3 : Int32) : Option Int32 :=
  (if (os_I o_p0 0) ≤ x3 then k4 (x1, x2 + 1) else ((ff_X5_heightAt N o_p0 x3 x2).bind fun u_3 => ((ff_X5_heightAt N o_p0 x3 (x2 - (1 : Int32))).bind fun u_5 => k14 ((if x1 < (u_3 - u_5) then (u_3 - u_5) else x1), x2, x3 + 1))))
def ff_X9_leastSlope_l14 (N : Nat) (o_p0 : os_T) (k4 : (Int32 × Int32) → Option Int32) : Nat → (Int32 × Int32 × Int32) → Option Int32 := os_loop (fun k14 s1 => ff_X9_leastSlope_c14 N o_p0 k4 k14 s1.1 s1.2.1 s1.2.2)
def ff_X9_leastSlope_c4 (N : Nat) (o_p0 : os_T) (k4 : (Int32 × Int32) → Option Int32) (x1 : Int32) (x2 : Int32) : Option Int32 :=
  (if (os_I o_p0 1) ≤ x2 then some x1 else ff_X9_leastSlope_l14 N o_p0 k4 N (x1, x2, (0 : Int32)))
def ff_X9_leastSlope_l4 (N : Nat) (o_p0 : os_T) : Nat → (Int32 × Int32) → Option Int32 := os_loop (fun k4 s1 => ff_X9_leastSlope_c4 N o_p0 k4 s1.1 s1.2)
def ff_X9_leastSlope (N : Nat) (o_p0 : os_T) : Option Int32 :=
  ff_X9_leastSlope_l4 N o_p0 N ((0 : Int32), (1 : Int32))
set_option maxHeartbeats 4000000 in
set_option maxRecDepth 100000 in
theorem mm_X9_leastSlope (l : Launch) (D : va_G) (kA : Nat → ClassId) (N : Nat) (q_p0 : Nat → Nat) (o_p0 : os_T) (out : Int32) (hf : ff_X9_leastSlope N o_p0 = some out) : mc_C l D kA yX9_leastSlope wsX9_leastSlope ({ frames := 1, cells := 0, slots := 0, locals := 22 } : Room) [.ref (q_p0 0)] (ce_X5 kA q_p0 o_p0) (some (.int out)) (ce_X5 kA q_p0 o_p0) := by
  refine mc_of (cc := cX9_leastSlope) (maxL := 4) (ret := (some .int)) (by decide) rfl (Nat.le_of_ble_eq_true rfl) ?_
  intro p e s m below meth c A B hD hP hS ls hl
  obtain ⟨hx, hb, hr, hlk, hml, hown, hts, hK, hA, hnm⟩ := B
  have hown : s.vm.findClass RX9 = some m.cls := hown
  have hl : lv_has ls 4 [(0, .ref (q_p0 0))] := hl
  have hUX5 : ∀ w ∈ u_ws RX5 TX5 10, w.before [.ref (q_p0 0)].toArray s = true := fun w h => hts w (List.mem_cons_of_mem _ (List.mem_append_right _ h))
  have hL14 : ∀ (k4 : (Int32 × Int32) → Option Int32), (∀ (x1 : Int32) (x2 : Int32) (H : Heap) (locs : List Loc) (ls : Array Slot), va_P D vwCl (ce_X5 kA q_p0 o_p0) H → va_D A (ce_X5 kA q_p0 o_p0) → va_S A s.heap H locs → lv_has ls 4 [(0, .ref (q_p0 0)), (1, .int x1), (2, .int x2)] → k4 (x1, x2) = some out → W p l e ({ frames := 1, cells := 0, slots := 0, locals := 22 } : Room) s m [.ref (q_p0 0)].toArray below meth c H locs 0 0 (MQ below (mc_Q D kA A (some (.int out)) (ce_X5 kA q_p0 o_p0)) [.ref (q_p0 0)].toArray s 0 0 A) (F0 m 4 ls [])) → ∀ (n : Nat) (x1 : Int32) (x2 : Int32) (x3 : Int32) (H : Heap) (locs : List Loc) (ls : Array Slot), va_P D vwCl (ce_X5 kA q_p0 o_p0) H → va_D A (ce_X5 kA q_p0 o_p0) → va_S A s.heap H locs → lv_has ls 4 [(0, .ref (q_p0 0)), (1, .int x1), (2, .int x2), (3, .int x3)] → ff_X9_leastSlope_l14 N o_p0 k4 n (x1, x2, x3) = some out → W p l e ({ frames := 1, cells := 0, slots := 0, locals := 22 } : Room) s m [.ref (q_p0 0)].toArray below meth c H locs 0 0 (MQ below (mc_Q D kA A (some (.int out)) (ce_X5 kA q_p0 o_p0)) [.ref (q_p0 0)].toArray s 0 0 A) (F0 m 14 ls []) := by
    intro k4 hk4 n
    induction n with
    | zero => intro x1 x2 x3 H locs ls _ _ _ _ hf; cases hf
    | succ n hk14 =>
      intro x1 x2 x3 H locs ls hP hD hS hl hf
      have hf : ff_X9_leastSlope_c14 N o_p0 k4 (ff_X9_leastSlope_l14 N o_p0 k4 n) x1 x2 x3 = some out := hf
      generalize hke : ff_X9_leastSlope_l14 N o_p0 k4 n = k14 at hk14 hf
      unfold ff_X9_leastSlope_c14 at hf
      refine lv_iload_n hx hb dX9_leastSlope_14 rfl (lv_at hl 3 rfl) ?_
      refine lv_aload_n hx hb dX9_leastSlope_15 rfl (lv_at hl 0 rfl) ?_
      refine va_get (D := D) (ci := 4) (v := .int (os_I o_p0 0)) (C := RX5) (T := TX5) (N := 10) hx hb hUX5 (fun _ h9 => h9) hown hK hP 0 rfl rfl 0 (by decide) (hts (Cond.fieldLink RX9 31 "ReliefBuilder$Panel" "width" "I") (List.mem_of_getElem? (i := 2) rfl)) (fun _ h9 => h9) rfl dX9_leastSlope_16 ?_
      refine lv_icmp_ge (tgt := 48) hx hb dX9_leastSlope_19 (by decide) (fun hc_2 => ?_) (fun hc_2 => ?_)
      · rw [if_pos hc_2] at hf
        refine lv_iinc (v := x2 + 1) (lv' := [(2, .int (x2 + 1)), (0, .ref (q_p0 0)), (1, .int x1), (3, .int x3)]) hx hb dX9_leastSlope_48 hl (k := 2) rfl rfl (by decide) rfl (fun ls hl => ?_)
        refine lv_goto (tgt := 4) hx hb dX9_leastSlope_51 (by decide) ?_
        exact hk4 x1 (x2 + 1) _ _ _ hP hD hS (lv_sub hl [1, 2, 0] rfl) hf
      · rw [if_neg hc_2] at hf
        refine lv_iload_n hx hb dX9_leastSlope_22 rfl (lv_at hl 1 rfl) ?_
        refine lv_aload_n hx hb dX9_leastSlope_23 rfl (lv_at hl 0 rfl) ?_
        refine lv_iload_n hx hb dX9_leastSlope_24 rfl (lv_at hl 3 rfl) ?_
        refine lv_iload_n hx hb dX9_leastSlope_25 rfl (lv_at hl 2 rfl) ?_
        obtain ⟨u_3, he_4, hf⟩ := os_bd hf
        refine mc_callV ⟨hx, hb, hml, hown, hts⟩ (mm_X5_heightAt l D kA N q_p0 o_p0 x3 x2 u_3 he_4) (cwV 2 hts gX9_leastSlope_X5_heightAt rfl rfl rfl (by decide +kernel) ⟨Nat.le_of_ble_eq_true rfl, Nat.le_of_ble_eq_true rfl⟩) (wc := (ce_X5 kA q_p0 o_p0)) (ci := 4) (q0 := 0) rfl rfl rfl hl.1 (As := [.int x3, .int x2]) (rest := [.int x1]) rfl (Nat.le_of_ble_eq_true rfl) dX9_leastSlope_26 ⟨Nat.le_of_ble_eq_true rfl, Nat.le_of_ble_eq_true rfl⟩ hK hP hD hS hA [0, 1, 2, 3] [] [0, 1, 2, 3] rfl (by decide) rfl (by decide) (by decide) rfl (by decide) (wr := []) (w2 := (ce_X5 kA q_p0 o_p0)) (fun H locs hP hD hS => ?_)
        have hP : va_P D vwCl (ce_X5 kA q_p0 o_p0) H := hP
        refine lv_aload_n hx hb dX9_leastSlope_29 rfl (lv_at hl 0 rfl) ?_
        refine lv_iload_n hx hb dX9_leastSlope_30 rfl (lv_at hl 3 rfl) ?_
        refine lv_iload_n hx hb dX9_leastSlope_31 rfl (lv_at hl 2 rfl) ?_
        refine lv_iconst (v := 1) hx hb dX9_leastSlope_32 (by decide) ?_
        refine lv_isub hx hb dX9_leastSlope_33 ?_
        obtain ⟨u_5, he_6, hf⟩ := os_bd hf
        refine mc_callV ⟨hx, hb, hml, hown, hts⟩ (mm_X5_heightAt l D kA N q_p0 o_p0 x3 (x2 - (1 : Int32)) u_5 he_6) (cwV 2 hts gX9_leastSlope_X5_heightAt rfl rfl rfl (by decide +kernel) ⟨Nat.le_of_ble_eq_true rfl, Nat.le_of_ble_eq_true rfl⟩) (wc := (ce_X5 kA q_p0 o_p0)) (ci := 4) (q0 := 0) rfl rfl rfl hl.1 (As := [.int x3, .int (x2 - (1 : Int32))]) (rest := [.int u_3, .int x1]) rfl (Nat.le_of_ble_eq_true rfl) dX9_leastSlope_34 ⟨Nat.le_of_ble_eq_true rfl, Nat.le_of_ble_eq_true rfl⟩ hK hP hD hS hA [0, 1, 2, 3] [] [0, 1, 2, 3] rfl (by decide) rfl (by decide) (by decide) rfl (by decide) (wr := []) (w2 := (ce_X5 kA q_p0 o_p0)) (fun H locs hP hD hS => ?_)
        have hP : va_P D vwCl (ce_X5 kA q_p0 o_p0) H := hP
        refine lv_isub hx hb dX9_leastSlope_37 ?_
        refine va_mmax hx hb (hml.trans hl.1.symm) hown (hts (Cond.methodLink RX9 17 Lib.Math.max.name) (List.mem_of_getElem? (i := 3) rfl)) (hts (Cond.static Lib.Math.max.name) (List.mem_of_getElem? (i := 4) rfl)) (hts (Cond.initialized "java/lang/Math") (List.mem_of_getElem? (i := 5) rfl)) (hts (Cond.code Lib.Math.max.name Lib.Math.max.code 2 (some .int)) (List.mem_of_getElem? (i := 6) rfl)) (Nat.le_of_ble_eq_true rfl) (Nat.le_of_ble_eq_true rfl) (Nat.le_of_ble_eq_true rfl) (Nat.le_of_ble_eq_true rfl) dX9_leastSlope_38 ?_
        refine lv_istore_n (lv' := [(1, .int (if x1 < (u_3 - u_5) then (u_3 - u_5) else x1)), (0, .ref (q_p0 0)), (2, .int x2), (3, .int x3)]) hx hb dX9_leastSlope_41 rfl hl (by decide) rfl (fun ls hl => ?_)
        refine lv_iinc (v := x3 + 1) (lv' := [(3, .int (x3 + 1)), (1, .int (if x1 < (u_3 - u_5) then (u_3 - u_5) else x1)), (0, .ref (q_p0 0)), (2, .int x2)]) hx hb dX9_leastSlope_42 hl (k := 3) rfl rfl (by decide) rfl (fun ls hl => ?_)
        refine lv_goto (tgt := 14) hx hb dX9_leastSlope_45 (by decide) ?_
        exact hk14 (if x1 < (u_3 - u_5) then (u_3 - u_5) else x1) x2 (x3 + 1) _ _ _ hP hD hS (lv_sub hl [2, 1, 3, 0] rfl) hf
  have hL4 : ∀ (n : Nat) (x1 : Int32) (x2 : Int32) (H : Heap) (locs : List Loc) (ls : Array Slot), va_P D vwCl (ce_X5 kA q_p0 o_p0) H → va_D A (ce_X5 kA q_p0 o_p0) → va_S A s.heap H locs → lv_has ls 4 [(0, .ref (q_p0 0)), (1, .int x1), (2, .int x2)] → ff_X9_leastSlope_l4 N o_p0 n (x1, x2) = some out → W p l e ({ frames := 1, cells := 0, slots := 0, locals := 22 } : Room) s m [.ref (q_p0 0)].toArray below meth c H locs 0 0 (MQ below (mc_Q D kA A (some (.int out)) (ce_X5 kA q_p0 o_p0)) [.ref (q_p0 0)].toArray s 0 0 A) (F0 m 4 ls []) := by
    intro n
    induction n with
    | zero => intro x1 x2 H locs ls _ _ _ _ hf; cases hf
    | succ n hk4 =>
      intro x1 x2 H locs ls hP hD hS hl hf
      have hf : ff_X9_leastSlope_c4 N o_p0 (ff_X9_leastSlope_l4 N o_p0 n) x1 x2 = some out := hf
      generalize hke : ff_X9_leastSlope_l4 N o_p0 n = k4 at hk4 hf
      unfold ff_X9_leastSlope_c4 at hf
      refine lv_iload_n hx hb dX9_leastSlope_4 rfl (lv_at hl 2 rfl) ?_
      refine lv_aload_n hx hb dX9_leastSlope_5 rfl (lv_at hl 0 rfl) ?_
      refine va_get (D := D) (ci := 4) (v := .int (os_I o_p0 1)) (C := RX5) (T := TX5) (N := 10) hx hb hUX5 (fun _ h9 => h9) hown hK hP 0 rfl rfl 1 (by decide) (hts (Cond.fieldLink RX9 28 "ReliefBuilder$Panel" "rows" "I") (List.mem_of_getElem? (i := 1) rfl)) (fun _ h9 => h9) rfl dX9_leastSlope_6 ?_
      refine lv_icmp_ge (tgt := 54) hx hb dX9_leastSlope_9 (by decide) (fun hc_1 => ?_) (fun hc_1 => ?_)
      · rw [if_pos hc_1] at hf
        refine lv_iload_n hx hb dX9_leastSlope_54 rfl (lv_at hl 1 rfl) ?_
        rw [← Option.some.inj hf]
        exact mc_reti hx hb hr hlk hP hK hD hS dX9_leastSlope_55
      · rw [if_neg hc_1] at hf
        refine lv_iconst (v := 0) hx hb dX9_leastSlope_12 (by decide) ?_
        refine lv_istore_n (lv' := [(3, .int (0 : Int32)), (0, .ref (q_p0 0)), (1, .int x1), (2, .int x2)]) hx hb dX9_leastSlope_13 rfl hl (by decide) rfl (fun ls hl => ?_)
        exact hL14 k4 hk4 N x1 x2 (0 : Int32) _ _ _ hP hD hS (lv_sub hl [1, 2, 3, 0] rfl) hf
  unfold ff_X9_leastSlope at hf
  refine lv_iconst (v := 0) hx hb dX9_leastSlope_0 (by decide) ?_
  refine lv_istore_n (lv' := [(1, .int (0 : Int32)), (0, .ref (q_p0 0))]) hx hb dX9_leastSlope_1 rfl hl (by decide) rfl (fun ls hl => ?_)
  refine lv_iconst (v := 1) hx hb dX9_leastSlope_2 (by decide) ?_
  refine lv_istore_n (lv' := [(2, .int (1 : Int32)), (1, .int (0 : Int32)), (0, .ref (q_p0 0))]) hx hb dX9_leastSlope_3 rfl hl (by decide) rfl (fun ls hl => ?_)
  exact hL4 N (0 : Int32) (1 : Int32) _ _ _ hP hD hS (lv_sub hl [2, 1, 0] rfl) hf
def ff_X11_runThrough_c57 (N : Nat) (o_p0 : os_T) (k57 : (Int32 × Int32 × Int32 × Int32 × Int32 × Int32 × Int32) → Option Int32) (x1 : Int32) (x2 : Int32) (x3 : Int32) (x4 : Int32) (x5 : Int32) (x6 : Int32) (x7 : Int32) : Option Int32 :=
  (if (os_I o_p0 5) ≤ x7 then some x6 else ((ff_X5_reaches N o_p0 (x1 - (x7 * x3)) (x2 - (x7 * x4)) x5).bind fun u_8 => (if u_8 = 0 then some x6 else k57 (x1, x2, x3, x4, x5, x6 + 1, x7 + 1))))
def ff_X11_runThrough_l57 (N : Nat) (o_p0 : os_T) : Nat → (Int32 × Int32 × Int32 × Int32 × Int32 × Int32 × Int32) → Option Int32 := os_loop (fun k57 s1 => ff_X11_runThrough_c57 N o_p0 k57 s1.1 s1.2.1 s1.2.2.1 s1.2.2.2.1 s1.2.2.2.2.1 s1.2.2.2.2.2.1 s1.2.2.2.2.2.2)
def ff_X11_runThrough_b54 (N : Nat) (o_p0 : os_T) (x1 : Int32) (x2 : Int32) (x3 : Int32) (x4 : Int32) (x5 : Int32) (x6 : Int32) : Option Int32 :=
  ff_X11_runThrough_l57 N o_p0 N (x1, x2, x3, x4, x5, x6, (1 : Int32))
def ff_X11_runThrough_c14 (N : Nat) (o_p0 : os_T) (k14 : (Int32 × Int32 × Int32 × Int32 × Int32 × Int32 × Int32) → Option Int32) (x1 : Int32) (x2 : Int32) (x3 : Int32) (x4 : Int32) (x5 : Int32) (x6 : Int32) (x7 : Int32) : Option Int32 :=
  (if (os_I o_p0 5) ≤ x7 then ff_X11_runThrough_b54 N o_p0 x1 x2 x3 x4 x5 x6 else ((ff_X5_reaches N o_p0 (x1 + (x7 * x3)) (x2 + (x7 * x4)) x5).bind fun u_4 => (if u_4 = 0 then ff_X11_runThrough_b54 N o_p0 x1 x2 x3 x4 x5 x6 else k14 (x1, x2, x3, x4, x5, x6 + 1, x7 + 1))))
def ff_X11_runThrough_l14 (N : Nat) (o_p0 : os_T) : Nat → (Int32 × Int32 × Int32 × Int32 × Int32 × Int32 × Int32) → Option Int32 := os_loop (fun k14 s1 => ff_X11_runThrough_c14 N o_p0 k14 s1.1 s1.2.1 s1.2.2.1 s1.2.2.2.1 s1.2.2.2.2.1 s1.2.2.2.2.2.1 s1.2.2.2.2.2.2)
def ff_X11_runThrough (N : Nat) (o_p0 : os_T) (a1 : Int32) (a2 : Int32) (a3 : Int32) (a4 : Int32) : Option Int32 :=
  ((ff_X5_heightAt N o_p0 a1 a2).bind fun u_1 => ff_X11_runThrough_l14 N o_p0 N (a1, a2, a3, a4, u_1, (1 : Int32), (1 : Int32)))
set_option maxHeartbeats 4000000 in
set_option maxRecDepth 100000 in
theorem mm_X11_runThrough (l : Launch) (D : va_G) (kA : Nat → ClassId) (N : Nat) (q_p0 : Nat → Nat) (o_p0 : os_T) (a1 : Int32) (a2 : Int32) (a3 : Int32) (a4 : Int32) (out : Int32) (hf : ff_X11_runThrough N o_p0 a1 a2 a3 a4 = some out) : mc_C l D kA yX11_runThrough wsX11_runThrough ({ frames := 1, cells := 0, slots := 0, locals := 23 } : Room) [.ref (q_p0 0), .int a1, .int a2, .int a3, .int a4] (ce_X5 kA q_p0 o_p0) (some (.int out)) (ce_X5 kA q_p0 o_p0) := by
  refine mc_of (cc := cX11_runThrough) (maxL := 8) (ret := (some .int)) (by decide) rfl (Nat.le_of_ble_eq_true rfl) ?_
  intro p e s m below meth c A B hD hP hS ls hl
  obtain ⟨hx, hb, hr, hlk, hml, hown, hts, hK, hA, hnm⟩ := B
  have hown : s.vm.findClass RX11 = some m.cls := hown
  have hl : lv_has ls 8 [(0, .ref (q_p0 0)), (1, .int a1), (2, .int a2), (3, .int a3), (4, .int a4)] := hl
  have hUX5 : ∀ w ∈ u_ws RX5 TX5 10, w.before [.ref (q_p0 0), .int a1, .int a2, .int a3, .int a4].toArray s = true := fun w h => hts w (List.mem_cons_of_mem _ (List.mem_append_right _ h))
  have hL57 : ∀ (n : Nat) (x1 : Int32) (x2 : Int32) (x3 : Int32) (x4 : Int32) (x5 : Int32) (x6 : Int32) (x7 : Int32) (H : Heap) (locs : List Loc) (ls : Array Slot), va_P D vwCl (ce_X5 kA q_p0 o_p0) H → va_D A (ce_X5 kA q_p0 o_p0) → va_S A s.heap H locs → lv_has ls 8 [(0, .ref (q_p0 0)), (1, .int x1), (2, .int x2), (3, .int x3), (4, .int x4), (5, .int x5), (6, .int x6), (7, .int x7)] → ff_X11_runThrough_l57 N o_p0 n (x1, x2, x3, x4, x5, x6, x7) = some out → W p l e ({ frames := 1, cells := 0, slots := 0, locals := 23 } : Room) s m [.ref (q_p0 0), .int a1, .int a2, .int a3, .int a4].toArray below meth c H locs 0 0 (MQ below (mc_Q D kA A (some (.int out)) (ce_X5 kA q_p0 o_p0)) [.ref (q_p0 0), .int a1, .int a2, .int a3, .int a4].toArray s 0 0 A) (F0 m 57 ls []) := by
    intro n
    induction n with
    | zero => intro x1 x2 x3 x4 x5 x6 x7 H locs ls _ _ _ _ hf; cases hf
    | succ n hk57 =>
      intro x1 x2 x3 x4 x5 x6 x7 H locs ls hP hD hS hl hf
      have hf : ff_X11_runThrough_c57 N o_p0 (ff_X11_runThrough_l57 N o_p0 n) x1 x2 x3 x4 x5 x6 x7 = some out := hf
      generalize hke : ff_X11_runThrough_l57 N o_p0 n = k57 at hk57 hf
      unfold ff_X11_runThrough_c57 at hf
      refine lv_iload hx hb dX11_runThrough_57 (lv_at hl 7 rfl) ?_
      refine lv_aload_n hx hb dX11_runThrough_59 rfl (lv_at hl 0 rfl) ?_
      refine va_get (D := D) (ci := 4) (v := .int (os_I o_p0 5)) (C := RX5) (T := TX5) (N := 10) hx hb hUX5 (fun _ h9 => h9) hown hK hP 0 rfl rfl 5 (by decide) (hts (Cond.fieldLink RX11 29 "ReliefBuilder$Panel" "wall" "I") (List.mem_of_getElem? (i := 1) rfl)) (fun _ h9 => h9) rfl dX11_runThrough_60 ?_
      refine lv_icmp_ge (tgt := 97) hx hb dX11_runThrough_63 (by decide) (fun hc_7 => ?_) (fun hc_7 => ?_)
      · rw [if_pos hc_7] at hf
        refine lv_iload hx hb dX11_runThrough_97 (lv_at hl 6 rfl) ?_
        rw [← Option.some.inj hf]
        exact mc_reti hx hb hr hlk hP hK hD hS dX11_runThrough_99
      · rw [if_neg hc_7] at hf
        refine lv_aload_n hx hb dX11_runThrough_66 rfl (lv_at hl 0 rfl) ?_
        refine lv_iload_n hx hb dX11_runThrough_67 rfl (lv_at hl 1 rfl) ?_
        refine lv_iload hx hb dX11_runThrough_68 (lv_at hl 7 rfl) ?_
        refine lv_iload_n hx hb dX11_runThrough_70 rfl (lv_at hl 3 rfl) ?_
        refine lv_imul hx hb dX11_runThrough_71 ?_
        refine lv_isub hx hb dX11_runThrough_72 ?_
        refine lv_iload_n hx hb dX11_runThrough_73 rfl (lv_at hl 2 rfl) ?_
        refine lv_iload hx hb dX11_runThrough_74 (lv_at hl 7 rfl) ?_
        refine lv_iload hx hb dX11_runThrough_76 (lv_at hl 4 rfl) ?_
        refine lv_imul hx hb dX11_runThrough_78 ?_
        refine lv_isub hx hb dX11_runThrough_79 ?_
        refine lv_iload hx hb dX11_runThrough_80 (lv_at hl 5 rfl) ?_
        obtain ⟨u_8, he_9, hf⟩ := os_bd hf
        refine mc_callV ⟨hx, hb, hml, hown, hts⟩ (mm_X5_reaches l D kA N q_p0 o_p0 (x1 - (x7 * x3)) (x2 - (x7 * x4)) x5 u_8 he_9) (cwV 3 hts gX11_runThrough_X5_reaches rfl rfl rfl (by decide +kernel) ⟨Nat.le_of_ble_eq_true rfl, Nat.le_of_ble_eq_true rfl⟩) (wc := (ce_X5 kA q_p0 o_p0)) (ci := 4) (q0 := 0) rfl rfl rfl hl.1 (As := [.int (x1 - (x7 * x3)), .int (x2 - (x7 * x4)), .int x5]) (rest := []) rfl (Nat.le_of_ble_eq_true rfl) dX11_runThrough_82 ⟨Nat.le_of_ble_eq_true rfl, Nat.le_of_ble_eq_true rfl⟩ hK hP hD hS hA [0, 1, 2, 3] [] [0, 1, 2, 3] rfl (by decide) rfl (by decide) (by decide) rfl (by decide) (wr := []) (w2 := (ce_X5 kA q_p0 o_p0)) (fun H locs hP hD hS => ?_)
        have hP : va_P D vwCl (ce_X5 kA q_p0 o_p0) H := hP
        refine lv_if_eq (tgt := 97) hx hb dX11_runThrough_85 (by decide) (fun hc_10 => ?_) (fun hc_10 => ?_)
        · rw [if_pos hc_10] at hf
          refine lv_iload hx hb dX11_runThrough_97 (lv_at hl 6 rfl) ?_
          rw [← Option.some.inj hf]
          exact mc_reti hx hb hr hlk hP hK hD hS dX11_runThrough_99
        · rw [if_neg hc_10] at hf
          refine lv_iinc (v := x6 + 1) (lv' := [(6, .int (x6 + 1)), (0, .ref (q_p0 0)), (1, .int x1), (2, .int x2), (3, .int x3), (4, .int x4), (5, .int x5), (7, .int x7)]) hx hb dX11_runThrough_88 hl (k := 6) rfl rfl (by decide) rfl (fun ls hl => ?_)
          refine lv_iinc (v := x7 + 1) (lv' := [(7, .int (x7 + 1)), (6, .int (x6 + 1)), (0, .ref (q_p0 0)), (1, .int x1), (2, .int x2), (3, .int x3), (4, .int x4), (5, .int x5)]) hx hb dX11_runThrough_91 hl (k := 7) rfl rfl (by decide) rfl (fun ls hl => ?_)
          refine lv_goto (tgt := 57) hx hb dX11_runThrough_94 (by decide) ?_
          exact hk57 x1 x2 x3 x4 x5 (x6 + 1) (x7 + 1) _ _ _ hP hD hS (lv_sub hl [2, 3, 4, 5, 6, 7, 1, 0] rfl) hf
  have hB54 : ∀ (x1 : Int32) (x2 : Int32) (x3 : Int32) (x4 : Int32) (x5 : Int32) (x6 : Int32) (H : Heap) (locs : List Loc) (ls : Array Slot), va_P D vwCl (ce_X5 kA q_p0 o_p0) H → va_D A (ce_X5 kA q_p0 o_p0) → va_S A s.heap H locs → lv_has ls 8 [(0, .ref (q_p0 0)), (1, .int x1), (2, .int x2), (3, .int x3), (4, .int x4), (5, .int x5), (6, .int x6)] → ff_X11_runThrough_b54 N o_p0 x1 x2 x3 x4 x5 x6 = some out → W p l e ({ frames := 1, cells := 0, slots := 0, locals := 23 } : Room) s m [.ref (q_p0 0), .int a1, .int a2, .int a3, .int a4].toArray below meth c H locs 0 0 (MQ below (mc_Q D kA A (some (.int out)) (ce_X5 kA q_p0 o_p0)) [.ref (q_p0 0), .int a1, .int a2, .int a3, .int a4].toArray s 0 0 A) (F0 m 54 ls []) := by
    intro x1 x2 x3 x4 x5 x6 H locs ls hP hD hS hl hf
    unfold ff_X11_runThrough_b54 at hf
    refine lv_iconst (v := 1) hx hb dX11_runThrough_54 (by decide) ?_
    refine lv_istore (lv' := [(7, .int (1 : Int32)), (0, .ref (q_p0 0)), (1, .int x1), (2, .int x2), (3, .int x3), (4, .int x4), (5, .int x5), (6, .int x6)]) hx hb dX11_runThrough_55 hl (by decide) rfl (fun ls hl => ?_)
    exact hL57 N x1 x2 x3 x4 x5 x6 (1 : Int32) _ _ _ hP hD hS (lv_sub hl [1, 2, 3, 4, 5, 6, 7, 0] rfl) hf
  have hL14 : ∀ (n : Nat) (x1 : Int32) (x2 : Int32) (x3 : Int32) (x4 : Int32) (x5 : Int32) (x6 : Int32) (x7 : Int32) (H : Heap) (locs : List Loc) (ls : Array Slot), va_P D vwCl (ce_X5 kA q_p0 o_p0) H → va_D A (ce_X5 kA q_p0 o_p0) → va_S A s.heap H locs → lv_has ls 8 [(0, .ref (q_p0 0)), (1, .int x1), (2, .int x2), (3, .int x3), (4, .int x4), (5, .int x5), (6, .int x6), (7, .int x7)] → ff_X11_runThrough_l14 N o_p0 n (x1, x2, x3, x4, x5, x6, x7) = some out → W p l e ({ frames := 1, cells := 0, slots := 0, locals := 23 } : Room) s m [.ref (q_p0 0), .int a1, .int a2, .int a3, .int a4].toArray below meth c H locs 0 0 (MQ below (mc_Q D kA A (some (.int out)) (ce_X5 kA q_p0 o_p0)) [.ref (q_p0 0), .int a1, .int a2, .int a3, .int a4].toArray s 0 0 A) (F0 m 14 ls []) := by
    intro n
    induction n with
    | zero => intro x1 x2 x3 x4 x5 x6 x7 H locs ls _ _ _ _ hf; cases hf
    | succ n hk14 =>
      intro x1 x2 x3 x4 x5 x6 x7 H locs ls hP hD hS hl hf
      have hf : ff_X11_runThrough_c14 N o_p0 (ff_X11_runThrough_l14 N o_p0 n) x1 x2 x3 x4 x5 x6 x7 = some out := hf
      generalize hke : ff_X11_runThrough_l14 N o_p0 n = k14 at hk14 hf
      unfold ff_X11_runThrough_c14 at hf
      refine lv_iload hx hb dX11_runThrough_14 (lv_at hl 7 rfl) ?_
      refine lv_aload_n hx hb dX11_runThrough_16 rfl (lv_at hl 0 rfl) ?_
      refine va_get (D := D) (ci := 4) (v := .int (os_I o_p0 5)) (C := RX5) (T := TX5) (N := 10) hx hb hUX5 (fun _ h9 => h9) hown hK hP 0 rfl rfl 5 (by decide) (hts (Cond.fieldLink RX11 29 "ReliefBuilder$Panel" "wall" "I") (List.mem_of_getElem? (i := 1) rfl)) (fun _ h9 => h9) rfl dX11_runThrough_17 ?_
      refine lv_icmp_ge (tgt := 54) hx hb dX11_runThrough_20 (by decide) (fun hc_3 => ?_) (fun hc_3 => ?_)
      · rw [if_pos hc_3] at hf
        exact hB54 x1 x2 x3 x4 x5 x6 _ _ _ hP hD hS (lv_sub hl [0, 1, 2, 3, 4, 5, 6] rfl) hf
      · rw [if_neg hc_3] at hf
        refine lv_aload_n hx hb dX11_runThrough_23 rfl (lv_at hl 0 rfl) ?_
        refine lv_iload_n hx hb dX11_runThrough_24 rfl (lv_at hl 1 rfl) ?_
        refine lv_iload hx hb dX11_runThrough_25 (lv_at hl 7 rfl) ?_
        refine lv_iload_n hx hb dX11_runThrough_27 rfl (lv_at hl 3 rfl) ?_
        refine lv_imul hx hb dX11_runThrough_28 ?_
        refine lv_iadd hx hb dX11_runThrough_29 ?_
        refine lv_iload_n hx hb dX11_runThrough_30 rfl (lv_at hl 2 rfl) ?_
        refine lv_iload hx hb dX11_runThrough_31 (lv_at hl 7 rfl) ?_
        refine lv_iload hx hb dX11_runThrough_33 (lv_at hl 4 rfl) ?_
        refine lv_imul hx hb dX11_runThrough_35 ?_
        refine lv_iadd hx hb dX11_runThrough_36 ?_
        refine lv_iload hx hb dX11_runThrough_37 (lv_at hl 5 rfl) ?_
        obtain ⟨u_4, he_5, hf⟩ := os_bd hf
        refine mc_callV ⟨hx, hb, hml, hown, hts⟩ (mm_X5_reaches l D kA N q_p0 o_p0 (x1 + (x7 * x3)) (x2 + (x7 * x4)) x5 u_4 he_5) (cwV 3 hts gX11_runThrough_X5_reaches rfl rfl rfl (by decide +kernel) ⟨Nat.le_of_ble_eq_true rfl, Nat.le_of_ble_eq_true rfl⟩) (wc := (ce_X5 kA q_p0 o_p0)) (ci := 4) (q0 := 0) rfl rfl rfl hl.1 (As := [.int (x1 + (x7 * x3)), .int (x2 + (x7 * x4)), .int x5]) (rest := []) rfl (Nat.le_of_ble_eq_true rfl) dX11_runThrough_39 ⟨Nat.le_of_ble_eq_true rfl, Nat.le_of_ble_eq_true rfl⟩ hK hP hD hS hA [0, 1, 2, 3] [] [0, 1, 2, 3] rfl (by decide) rfl (by decide) (by decide) rfl (by decide) (wr := []) (w2 := (ce_X5 kA q_p0 o_p0)) (fun H locs hP hD hS => ?_)
        have hP : va_P D vwCl (ce_X5 kA q_p0 o_p0) H := hP
        refine lv_if_eq (tgt := 54) hx hb dX11_runThrough_42 (by decide) (fun hc_6 => ?_) (fun hc_6 => ?_)
        · rw [if_pos hc_6] at hf
          exact hB54 x1 x2 x3 x4 x5 x6 _ _ _ hP hD hS (lv_sub hl [0, 1, 2, 3, 4, 5, 6] rfl) hf
        · rw [if_neg hc_6] at hf
          refine lv_iinc (v := x6 + 1) (lv' := [(6, .int (x6 + 1)), (0, .ref (q_p0 0)), (1, .int x1), (2, .int x2), (3, .int x3), (4, .int x4), (5, .int x5), (7, .int x7)]) hx hb dX11_runThrough_45 hl (k := 6) rfl rfl (by decide) rfl (fun ls hl => ?_)
          refine lv_iinc (v := x7 + 1) (lv' := [(7, .int (x7 + 1)), (6, .int (x6 + 1)), (0, .ref (q_p0 0)), (1, .int x1), (2, .int x2), (3, .int x3), (4, .int x4), (5, .int x5)]) hx hb dX11_runThrough_48 hl (k := 7) rfl rfl (by decide) rfl (fun ls hl => ?_)
          refine lv_goto (tgt := 14) hx hb dX11_runThrough_51 (by decide) ?_
          exact hk14 x1 x2 x3 x4 x5 (x6 + 1) (x7 + 1) _ _ _ hP hD hS (lv_sub hl [2, 3, 4, 5, 6, 7, 1, 0] rfl) hf
  unfold ff_X11_runThrough at hf
  refine lv_aload_n hx hb dX11_runThrough_0 rfl (lv_at hl 0 rfl) ?_
  refine lv_iload_n hx hb dX11_runThrough_1 rfl (lv_at hl 1 rfl) ?_
  refine lv_iload_n hx hb dX11_runThrough_2 rfl (lv_at hl 2 rfl) ?_
  obtain ⟨u_1, he_2, hf⟩ := os_bd hf
  refine mc_callV ⟨hx, hb, hml, hown, hts⟩ (mm_X5_heightAt l D kA N q_p0 o_p0 a1 a2 u_1 he_2) (cwV 2 hts gX11_runThrough_X5_heightAt rfl rfl rfl (by decide +kernel) ⟨Nat.le_of_ble_eq_true rfl, Nat.le_of_ble_eq_true rfl⟩) (wc := (ce_X5 kA q_p0 o_p0)) (ci := 4) (q0 := 0) rfl rfl rfl hl.1 (As := [.int a1, .int a2]) (rest := []) rfl (Nat.le_of_ble_eq_true rfl) dX11_runThrough_3 ⟨Nat.le_of_ble_eq_true rfl, Nat.le_of_ble_eq_true rfl⟩ hK hP hD hS hA [0, 1, 2, 3] [] [0, 1, 2, 3] rfl (by decide) rfl (by decide) (by decide) rfl (by decide) (wr := []) (w2 := (ce_X5 kA q_p0 o_p0)) (fun H locs hP hD hS => ?_)
  have hP : va_P D vwCl (ce_X5 kA q_p0 o_p0) H := hP
  refine lv_istore (lv' := [(5, .int u_1), (0, .ref (q_p0 0)), (1, .int a1), (2, .int a2), (3, .int a3), (4, .int a4)]) hx hb dX11_runThrough_6 hl (by decide) rfl (fun ls hl => ?_)
  refine lv_iconst (v := 1) hx hb dX11_runThrough_8 (by decide) ?_
  refine lv_istore (lv' := [(6, .int (1 : Int32)), (5, .int u_1), (0, .ref (q_p0 0)), (1, .int a1), (2, .int a2), (3, .int a3), (4, .int a4)]) hx hb dX11_runThrough_9 hl (by decide) rfl (fun ls hl => ?_)
  refine lv_iconst (v := 1) hx hb dX11_runThrough_11 (by decide) ?_
  refine lv_istore (lv' := [(7, .int (1 : Int32)), (6, .int (1 : Int32)), (5, .int u_1), (0, .ref (q_p0 0)), (1, .int a1), (2, .int a2), (3, .int a3), (4, .int a4)]) hx hb dX11_runThrough_12 hl (by decide) rfl (fun ls hl => ?_)
  exact hL14 N a1 a2 a3 a4 u_1 (1 : Int32) (1 : Int32) _ _ _ hP hD hS (lv_sub hl [3, 4, 5, 6, 7, 2, 1, 0] rfl) hf
def ff_X11_isNarrow (N : Nat) (o_p0 : os_T) (a1 : Int32) (a2 : Int32) : Option Int32 :=
  ((ff_X5_heightAt N o_p0 a1 a2).bind fun u_1 => (if u_1 ≤ (os_I o_p0 4) then some (0 : Int32) else ((ff_X11_runThrough N o_p0 a1 a2 (1 : Int32) (0 : Int32)).bind fun u_4 => (if (os_I o_p0 5) ≤ u_4 then some (0 : Int32) else ((ff_X11_runThrough N o_p0 a1 a2 (0 : Int32) (1 : Int32)).bind fun u_7 => (if (os_I o_p0 5) ≤ u_7 then some (0 : Int32) else some (1 : Int32)))))))
set_option maxHeartbeats 4000000 in
set_option maxRecDepth 100000 in
theorem mm_X11_isNarrow (l : Launch) (D : va_G) (kA : Nat → ClassId) (N : Nat) (q_p0 : Nat → Nat) (o_p0 : os_T) (a1 : Int32) (a2 : Int32) (out : Int32) (hf : ff_X11_isNarrow N o_p0 a1 a2 = some out) : mc_C l D kA yX11_isNarrow wsX11_isNarrow ({ frames := 2, cells := 0, slots := 0, locals := 50 } : Room) [.ref (q_p0 0), .int a1, .int a2] (ce_X5 kA q_p0 o_p0) (some (.int out)) (ce_X5 kA q_p0 o_p0) := by
  refine mc_of (cc := cX11_isNarrow) (maxL := 3) (ret := (some .boolean)) (by decide) rfl (Nat.le_of_ble_eq_true rfl) ?_
  intro p e s m below meth c A B hD hP hS ls hl
  obtain ⟨hx, hb, hr, hlk, hml, hown, hts, hK, hA, hnm⟩ := B
  have hown : s.vm.findClass RX11 = some m.cls := hown
  have hl : lv_has ls 3 [(0, .ref (q_p0 0)), (1, .int a1), (2, .int a2)] := hl
  have hUX5 : ∀ w ∈ u_ws RX5 TX5 10, w.before [.ref (q_p0 0), .int a1, .int a2].toArray s = true := fun w h => hts w (List.mem_cons_of_mem _ (List.mem_append_right _ h))
  unfold ff_X11_isNarrow at hf
  refine lv_aload_n hx hb dX11_isNarrow_0 rfl (lv_at hl 0 rfl) ?_
  refine lv_iload_n hx hb dX11_isNarrow_1 rfl (lv_at hl 1 rfl) ?_
  refine lv_iload_n hx hb dX11_isNarrow_2 rfl (lv_at hl 2 rfl) ?_
  obtain ⟨u_1, he_2, hf⟩ := os_bd hf
  refine mc_callV ⟨hx, hb, hml, hown, hts⟩ (mm_X5_heightAt l D kA N q_p0 o_p0 a1 a2 u_1 he_2) (cwV 2 hts gX11_isNarrow_X5_heightAt rfl rfl rfl (by decide +kernel) ⟨Nat.le_of_ble_eq_true rfl, Nat.le_of_ble_eq_true rfl⟩) (wc := (ce_X5 kA q_p0 o_p0)) (ci := 4) (q0 := 0) rfl rfl rfl hl.1 (As := [.int a1, .int a2]) (rest := []) rfl (Nat.le_of_ble_eq_true rfl) dX11_isNarrow_3 ⟨Nat.le_of_ble_eq_true rfl, Nat.le_of_ble_eq_true rfl⟩ hK hP hD hS hA [0, 1, 2, 3] [] [0, 1, 2, 3] rfl (by decide) rfl (by decide) (by decide) rfl (by decide) (wr := []) (w2 := (ce_X5 kA q_p0 o_p0)) (fun H locs hP hD hS => ?_)
  have hP : va_P D vwCl (ce_X5 kA q_p0 o_p0) H := hP
  refine lv_aload_n hx hb dX11_isNarrow_6 rfl (lv_at hl 0 rfl) ?_
  refine va_get (D := D) (ci := 4) (v := .int (os_I o_p0 4)) (C := RX5) (T := TX5) (N := 10) hx hb hUX5 (fun _ h9 => h9) hown hK hP 0 rfl rfl 4 (by decide) (hts (Cond.fieldLink RX11 21 "ReliefBuilder$Panel" "base" "I") (List.mem_of_getElem? (i := 1) rfl)) (fun _ h9 => h9) rfl dX11_isNarrow_7 ?_
  refine lv_icmp_le (tgt := 47) hx hb dX11_isNarrow_10 (by decide) (fun hc_3 => ?_) (fun hc_3 => ?_)
  · rw [if_pos hc_3] at hf
    refine lv_iconst (v := 0) hx hb dX11_isNarrow_47 (by decide) ?_
    rw [← Option.some.inj hf]
    exact mc_retz (v := 0) hx hb hr rfl hlk hP hK hD hS dX11_isNarrow_48
  · rw [if_neg hc_3] at hf
    refine lv_aload_n hx hb dX11_isNarrow_13 rfl (lv_at hl 0 rfl) ?_
    refine lv_iload_n hx hb dX11_isNarrow_14 rfl (lv_at hl 1 rfl) ?_
    refine lv_iload_n hx hb dX11_isNarrow_15 rfl (lv_at hl 2 rfl) ?_
    refine lv_iconst (v := 1) hx hb dX11_isNarrow_16 (by decide) ?_
    refine lv_iconst (v := 0) hx hb dX11_isNarrow_17 (by decide) ?_
    obtain ⟨u_4, he_5, hf⟩ := os_bd hf
    refine mc_callS ⟨hx, hb, hml, hown, hts⟩ (mm_X11_runThrough l D kA N q_p0 o_p0 a1 a2 (1 : Int32) (0 : Int32) u_4 he_5) (va_cwS 5 hts gX11_isNarrow_X11_runThrough rfl rfl rfl (by decide +kernel) ⟨Nat.le_of_ble_eq_true rfl, Nat.le_of_ble_eq_true rfl⟩) (wc := (ce_X5 kA q_p0 o_p0)) rfl hl.1 (As := [.ref (q_p0 0), .int a1, .int a2, .int (1 : Int32), .int (0 : Int32)]) (rest := []) rfl (Nat.le_of_ble_eq_true rfl) dX11_isNarrow_18 ⟨Nat.le_of_ble_eq_true rfl, Nat.le_of_ble_eq_true rfl⟩ hK hP hD hS hA [0, 1, 2, 3] [] [0, 1, 2, 3] rfl (by decide) rfl (by decide) (by decide) rfl (by decide) (wr := []) (w2 := (ce_X5 kA q_p0 o_p0)) (fun H locs hP hD hS => ?_)
    have hP : va_P D vwCl (ce_X5 kA q_p0 o_p0) H := hP
    refine lv_aload_n hx hb dX11_isNarrow_21 rfl (lv_at hl 0 rfl) ?_
    refine va_get (D := D) (ci := 4) (v := .int (os_I o_p0 5)) (C := RX5) (T := TX5) (N := 10) hx hb hUX5 (fun _ h9 => h9) hown hK hP 0 rfl rfl 5 (by decide) (hts (Cond.fieldLink RX11 29 "ReliefBuilder$Panel" "wall" "I") (List.mem_of_getElem? (i := 2) rfl)) (fun _ h9 => h9) rfl dX11_isNarrow_22 ?_
    refine lv_icmp_ge (tgt := 47) hx hb dX11_isNarrow_25 (by decide) (fun hc_6 => ?_) (fun hc_6 => ?_)
    · rw [if_pos hc_6] at hf
      refine lv_iconst (v := 0) hx hb dX11_isNarrow_47 (by decide) ?_
      rw [← Option.some.inj hf]
      exact mc_retz (v := 0) hx hb hr rfl hlk hP hK hD hS dX11_isNarrow_48
    · rw [if_neg hc_6] at hf
      refine lv_aload_n hx hb dX11_isNarrow_28 rfl (lv_at hl 0 rfl) ?_
      refine lv_iload_n hx hb dX11_isNarrow_29 rfl (lv_at hl 1 rfl) ?_
      refine lv_iload_n hx hb dX11_isNarrow_30 rfl (lv_at hl 2 rfl) ?_
      refine lv_iconst (v := 0) hx hb dX11_isNarrow_31 (by decide) ?_
      refine lv_iconst (v := 1) hx hb dX11_isNarrow_32 (by decide) ?_
      obtain ⟨u_7, he_8, hf⟩ := os_bd hf
      refine mc_callS ⟨hx, hb, hml, hown, hts⟩ (mm_X11_runThrough l D kA N q_p0 o_p0 a1 a2 (0 : Int32) (1 : Int32) u_7 he_8) (va_cwS 5 hts gX11_isNarrow_X11_runThrough rfl rfl rfl (by decide +kernel) ⟨Nat.le_of_ble_eq_true rfl, Nat.le_of_ble_eq_true rfl⟩) (wc := (ce_X5 kA q_p0 o_p0)) rfl hl.1 (As := [.ref (q_p0 0), .int a1, .int a2, .int (0 : Int32), .int (1 : Int32)]) (rest := []) rfl (Nat.le_of_ble_eq_true rfl) dX11_isNarrow_33 ⟨Nat.le_of_ble_eq_true rfl, Nat.le_of_ble_eq_true rfl⟩ hK hP hD hS hA [0, 1, 2, 3] [] [0, 1, 2, 3] rfl (by decide) rfl (by decide) (by decide) rfl (by decide) (wr := []) (w2 := (ce_X5 kA q_p0 o_p0)) (fun H locs hP hD hS => ?_)
      have hP : va_P D vwCl (ce_X5 kA q_p0 o_p0) H := hP
      refine lv_aload_n hx hb dX11_isNarrow_36 rfl (lv_at hl 0 rfl) ?_
      refine va_get (D := D) (ci := 4) (v := .int (os_I o_p0 5)) (C := RX5) (T := TX5) (N := 10) hx hb hUX5 (fun _ h9 => h9) hown hK hP 0 rfl rfl 5 (by decide) (hts (Cond.fieldLink RX11 29 "ReliefBuilder$Panel" "wall" "I") (List.mem_of_getElem? (i := 2) rfl)) (fun _ h9 => h9) rfl dX11_isNarrow_37 ?_
      refine lv_icmp_ge (tgt := 47) hx hb dX11_isNarrow_40 (by decide) (fun hc_9 => ?_) (fun hc_9 => ?_)
      · rw [if_pos hc_9] at hf
        refine lv_iconst (v := 0) hx hb dX11_isNarrow_47 (by decide) ?_
        rw [← Option.some.inj hf]
        exact mc_retz (v := 0) hx hb hr rfl hlk hP hK hD hS dX11_isNarrow_48
      · rw [if_neg hc_9] at hf
        refine lv_iconst (v := 1) hx hb dX11_isNarrow_43 (by decide) ?_
        refine lv_goto (tgt := 48) hx hb dX11_isNarrow_44 (by decide) ?_
        rw [← Option.some.inj hf]
        exact mc_retz (v := 1) hx hb hr rfl hlk hP hK hD hS dX11_isNarrow_48
def ff_X11_setMark (N : Nat) (o_this : os_T) (a1 : Int32) (a2 : Int32) (a3 : Int32) : Option os_T :=
  (if ((a2 * (16 : Int32)) + a1) < 0 then some o_this else (if (192 : Int32) ≤ ((a2 * (16 : Int32)) + a1) then some o_this else (if os_in ((a2 * (16 : Int32)) + a1) 192 then some (ss_A o_this 0 (upd (os_A o_this 0) (Int32.toNatClampNeg ((a2 * (16 : Int32)) + a1)) (vp_nar .boolean a3))) else none)))
set_option maxHeartbeats 4000000 in
set_option maxRecDepth 100000 in
theorem mm_X11_setMark (l : Launch) (D : va_G) (kA : Nat → ClassId) (N : Nat) (q_this : Nat → Nat) (o_this : os_T) (a1 : Int32) (a2 : Int32) (a3 : Int32) (out : os_T) (hf : ff_X11_setMark N o_this a1 a2 a3 = some out) : mc_C l D kA yX11_setMark wsX11_setMark ({ frames := 0, cells := 0, slots := 0, locals := 0 } : Room) [.ref (q_this 0), .int a1, .int a2, .int a3] (ce_X11 kA q_this o_this) none (ce_X11 kA q_this out) := by
  refine mc_of (cc := cX11_setMark) (maxL := 5) (ret := none) (by decide) rfl (Nat.le_of_ble_eq_true rfl) ?_
  intro p e s m below meth c A B hD hP hS ls hl
  obtain ⟨hx, hb, hr, hlk, hml, hown, hts, hK, hA, hnm⟩ := B
  have hown : s.vm.findClass RX11 = some m.cls := hown
  have hl : lv_has ls 5 [(0, .ref (q_this 0)), (1, .int a1), (2, .int a2), (3, .int a3)] := hl
  have hUX11 : ∀ w ∈ u_ws RX11 TX11 1, w.before [.ref (q_this 0), .int a1, .int a2, .int a3].toArray s = true := fun w h => hts w (List.mem_cons_of_mem _ (List.mem_append_right _ h))
  unfold ff_X11_setMark at hf
  refine lv_iload_n hx hb dX11_setMark_0 rfl (lv_at hl 2 rfl) ?_
  refine lv_bipush (v := 16) hx hb dX11_setMark_1 (by decide) ?_
  refine lv_imul hx hb dX11_setMark_3 ?_
  refine lv_iload_n hx hb dX11_setMark_4 rfl (lv_at hl 1 rfl) ?_
  refine lv_iadd hx hb dX11_setMark_5 ?_
  refine lv_istore (lv' := [(4, .int ((a2 * (16 : Int32)) + a1)), (0, .ref (q_this 0)), (1, .int a1), (2, .int a2), (3, .int a3)]) hx hb dX11_setMark_6 hl (by decide) rfl (fun ls hl => ?_)
  refine lv_iload hx hb dX11_setMark_8 (lv_at hl 0 rfl) ?_
  refine lv_if_lt (tgt := 31) hx hb dX11_setMark_10 (by decide) (fun hc_1 => ?_) (fun hc_1 => ?_)
  · rw [if_pos hc_1] at hf
    rw [← Option.some.inj hf]
    exact mc_retv hx hb hr hlk hP hK hD hS dX11_setMark_31
  · rw [if_neg hc_1] at hf
    refine lv_iload hx hb dX11_setMark_13 (lv_at hl 0 rfl) ?_
    refine lv_aload_n hx hb dX11_setMark_15 rfl (lv_at hl 1 rfl) ?_
    refine va_get (D := D) (ci := 9) (v := .ref (q_this 1)) (C := RX11) (T := TX11) (N := 1) hx hb hUX11 (fun _ h9 => h9) hown hK hP 0 rfl rfl 0 (by decide) (hts (Cond.fieldLink RX11 9 "ReliefBuilder$Walls" "marks" "[Z") (List.mem_of_getElem? (i := 1) rfl)) (fun _ h9 => h9) rfl dX11_setMark_16 ?_
    refine va_alen (v := 192) hx hb hK hP 1 1 rfl rfl rfl dX11_setMark_19 ?_
    refine lv_icmp_ge (tgt := 31) hx hb dX11_setMark_20 (by decide) (fun hc_2 => ?_) (fun hc_2 => ?_)
    · rw [if_pos hc_2] at hf
      rw [← Option.some.inj hf]
      exact mc_retv hx hb hr hlk hP hK hD hS dX11_setMark_31
    · rw [if_neg hc_2] at hf
      refine lv_aload_n hx hb dX11_setMark_23 rfl (lv_at hl 1 rfl) ?_
      refine va_get (D := D) (ci := 9) (v := .ref (q_this 1)) (C := RX11) (T := TX11) (N := 1) hx hb hUX11 (fun _ h9 => h9) hown hK hP 0 rfl rfl 0 (by decide) (hts (Cond.fieldLink RX11 9 "ReliefBuilder$Walls" "marks" "[Z") (List.mem_of_getElem? (i := 1) rfl)) (fun _ h9 => h9) rfl dX11_setMark_24 ?_
      refine lv_iload hx hb dX11_setMark_27 (lv_at hl 0 rfl) ?_
      refine lv_iload_n hx hb dX11_setMark_29 rfl (lv_at hl 4 rfl) ?_
      obtain ⟨hi_3, hf⟩ := os_if hf
      refine va_zast hx hb hK hP hD hS 1 1 rfl rfl hi_3 dX11_setMark_30 (fun H locs hP hD hS => ?_)
      have hP : va_P D vwCl (ce_X11 kA q_this (ss_A o_this 0 (upd (os_A o_this 0) (Int32.toNatClampNeg ((a2 * (16 : Int32)) + a1)) (vp_nar .boolean a3)))) H := hP
      have hD : va_D A (ce_X11 kA q_this (ss_A o_this 0 (upd (os_A o_this 0) (Int32.toNatClampNeg ((a2 * (16 : Int32)) + a1)) (vp_nar .boolean a3)))) := hD
      rw [← Option.some.inj hf]
      exact mc_retv hx hb hr hlk hP hK hD hS dX11_setMark_31
def ff_X11_mark_b53 (N : Nat) (o_p1 : os_T) (k4 : (os_T × Int32 × Int32) → Option (Int32 × os_T)) (k15 : (os_T × Int32 × Int32 × Int32) → Option (Int32 × os_T)) (o_this : os_T) (x3 : Int32) (x4 : Int32) (t0 : Int32) (t1 : Int32) : Option (Int32 × os_T) :=
  k15 (o_this, t1 + t0, x3, x4 + 1)
def ff_X11_mark_c15 (N : Nat) (o_p1 : os_T) (k4 : (os_T × Int32 × Int32) → Option (Int32 × os_T)) (k15 : (os_T × Int32 × Int32 × Int32) → Option (Int32 × os_T)) (o_this : os_T) (x2 : Int32) (x3 : Int32) (x4 : Int32) : Option (Int32 × os_T) :=
  (if (os_I o_p1 0) ≤ x4 then k4 (o_this, x2, x3 + 1) else ((ff_X11_isNarrow N o_p1 x4 x3).bind fun u_3 => ((ff_X11_setMark N o_this x4 x3 u_3).bind fun u_5 => (if u_3 = 0 then ff_X11_mark_b53 N o_p1 k4 k15 u_5 x3 x4 (0 : Int32) x2 else ff_X11_mark_b53 N o_p1 k4 k15 u_5 x3 x4 (1 : Int32) x2))))
def ff_X11_mark_l15 (N : Nat) (o_p1 : os_T) (k4 : (os_T × Int32 × Int32) → Option (Int32 × os_T)) : Nat → (os_T × Int32 × Int32 × Int32) → Option (Int32 × os_T) := os_loop (fun k15 s1 => ff_X11_mark_c15 N o_p1 k4 k15 s1.1 s1.2.1 s1.2.2.1 s1.2.2.2)
def ff_X11_mark_c4 (N : Nat) (o_p1 : os_T) (k4 : (os_T × Int32 × Int32) → Option (Int32 × os_T)) (o_this : os_T) (x2 : Int32) (x3 : Int32) : Option (Int32 × os_T) :=
  (if (os_I o_p1 1) ≤ x3 then some (x2, o_this) else ff_X11_mark_l15 N o_p1 k4 N (o_this, x2, x3, (0 : Int32)))
def ff_X11_mark_l4 (N : Nat) (o_p1 : os_T) : Nat → (os_T × Int32 × Int32) → Option (Int32 × os_T) := os_loop (fun k4 s1 => ff_X11_mark_c4 N o_p1 k4 s1.1 s1.2.1 s1.2.2)
def ff_X11_mark (N : Nat) (o_this : os_T) (o_p1 : os_T) : Option (Int32 × os_T) :=
  ff_X11_mark_l4 N o_p1 N (o_this, (0 : Int32), (0 : Int32))
set_option maxHeartbeats 4000000 in
set_option maxRecDepth 100000 in
theorem mm_X11_mark (l : Launch) (D : va_G) (kA : Nat → ClassId) (N : Nat) (q_this : Nat → Nat) (q_p1 : Nat → Nat) (o_this : os_T) (o_p1 : os_T) (out : (Int32 × os_T)) (hf : ff_X11_mark N o_this o_p1 = some out) : mc_C l D kA yX11_mark wsX11_mark ({ frames := 3, cells := 0, slots := 0, locals := 72 } : Room) [.ref (q_this 0), .ref (q_p1 0)] (ce_X11 kA q_this o_this ++ (ce_X5 kA q_p1 o_p1)) (some (.int out.1)) (ce_X11 kA q_this out.2 ++ (ce_X5 kA q_p1 o_p1)) := by
  refine mc_of (cc := cX11_mark) (maxL := 6) (ret := (some .int)) (by decide) rfl (Nat.le_of_ble_eq_true rfl) ?_
  intro p e s m below meth c A B hD hP hS ls hl
  obtain ⟨hx, hb, hr, hlk, hml, hown, hts, hK, hA, hnm⟩ := B
  have hown : s.vm.findClass RX11 = some m.cls := hown
  have hl : lv_has ls 6 [(0, .ref (q_this 0)), (1, .ref (q_p1 0))] := hl
  have hUX5 : ∀ w ∈ u_ws RX5 TX5 10, w.before [.ref (q_this 0), .ref (q_p1 0)].toArray s = true := fun w h => hts w (List.mem_cons_of_mem _ (List.mem_append_left _ (List.mem_append_right _ h)))
  have hB53 : ∀ (k4 : (os_T × Int32 × Int32) → Option (Int32 × os_T)), (∀ (o_this : os_T) (x2 : Int32) (x3 : Int32) (H : Heap) (locs : List Loc) (ls : Array Slot), va_P D vwCl (ce_X11 kA q_this o_this ++ (ce_X5 kA q_p1 o_p1)) H → va_D A (ce_X11 kA q_this o_this ++ (ce_X5 kA q_p1 o_p1)) → va_S A s.heap H locs → lv_has ls 6 [(0, .ref (q_this 0)), (1, .ref (q_p1 0)), (2, .int x2), (3, .int x3)] → k4 (o_this, x2, x3) = some out → W p l e ({ frames := 3, cells := 0, slots := 0, locals := 72 } : Room) s m [.ref (q_this 0), .ref (q_p1 0)].toArray below meth c H locs 0 0 (MQ below (mc_Q D kA A (some (.int out.1)) (ce_X11 kA q_this out.2 ++ (ce_X5 kA q_p1 o_p1))) [.ref (q_this 0), .ref (q_p1 0)].toArray s 0 0 A) (F0 m 4 ls [])) → ∀ (k15 : (os_T × Int32 × Int32 × Int32) → Option (Int32 × os_T)), (∀ (o_this : os_T) (x2 : Int32) (x3 : Int32) (x4 : Int32) (H : Heap) (locs : List Loc) (ls : Array Slot), va_P D vwCl (ce_X11 kA q_this o_this ++ (ce_X5 kA q_p1 o_p1)) H → va_D A (ce_X11 kA q_this o_this ++ (ce_X5 kA q_p1 o_p1)) → va_S A s.heap H locs → lv_has ls 6 [(0, .ref (q_this 0)), (1, .ref (q_p1 0)), (2, .int x2), (3, .int x3), (4, .int x4)] → k15 (o_this, x2, x3, x4) = some out → W p l e ({ frames := 3, cells := 0, slots := 0, locals := 72 } : Room) s m [.ref (q_this 0), .ref (q_p1 0)].toArray below meth c H locs 0 0 (MQ below (mc_Q D kA A (some (.int out.1)) (ce_X11 kA q_this out.2 ++ (ce_X5 kA q_p1 o_p1))) [.ref (q_this 0), .ref (q_p1 0)].toArray s 0 0 A) (F0 m 15 ls [])) → ∀ (o_this : os_T) (x3 : Int32) (x4 : Int32) (t0 : Int32) (t1 : Int32) (H : Heap) (locs : List Loc) (ls : Array Slot), va_P D vwCl (ce_X11 kA q_this o_this ++ (ce_X5 kA q_p1 o_p1)) H → va_D A (ce_X11 kA q_this o_this ++ (ce_X5 kA q_p1 o_p1)) → va_S A s.heap H locs → lv_has ls 6 [(0, .ref (q_this 0)), (1, .ref (q_p1 0)), (3, .int x3), (4, .int x4)] → ff_X11_mark_b53 N o_p1 k4 k15 o_this x3 x4 t0 t1 = some out → W p l e ({ frames := 3, cells := 0, slots := 0, locals := 72 } : Room) s m [.ref (q_this 0), .ref (q_p1 0)].toArray below meth c H locs 0 0 (MQ below (mc_Q D kA A (some (.int out.1)) (ce_X11 kA q_this out.2 ++ (ce_X5 kA q_p1 o_p1))) [.ref (q_this 0), .ref (q_p1 0)].toArray s 0 0 A) (F0 m 53 ls [.int t0, .int t1]) := by
    intro k4 hk4 k15 hk15 o_this x3 x4 t0 t1 H locs ls hP hD hS hl hf
    unfold ff_X11_mark_b53 at hf
    refine lv_iadd hx hb dX11_mark_53 ?_
    refine lv_istore_n (lv' := [(2, .int (t1 + t0)), (0, .ref (q_this 0)), (1, .ref (q_p1 0)), (3, .int x3), (4, .int x4)]) hx hb dX11_mark_54 rfl hl (by decide) rfl (fun ls hl => ?_)
    refine lv_iinc (v := x4 + 1) (lv' := [(4, .int (x4 + 1)), (2, .int (t1 + t0)), (0, .ref (q_this 0)), (1, .ref (q_p1 0)), (3, .int x3)]) hx hb dX11_mark_55 hl (k := 4) rfl rfl (by decide) rfl (fun ls hl => ?_)
    refine lv_goto (tgt := 15) hx hb dX11_mark_58 (by decide) ?_
    exact hk15 o_this (t1 + t0) x3 (x4 + 1) _ _ _ hP hD hS (lv_sub hl [2, 3, 1, 4, 0] rfl) hf
  have hL15 : ∀ (k4 : (os_T × Int32 × Int32) → Option (Int32 × os_T)), (∀ (o_this : os_T) (x2 : Int32) (x3 : Int32) (H : Heap) (locs : List Loc) (ls : Array Slot), va_P D vwCl (ce_X11 kA q_this o_this ++ (ce_X5 kA q_p1 o_p1)) H → va_D A (ce_X11 kA q_this o_this ++ (ce_X5 kA q_p1 o_p1)) → va_S A s.heap H locs → lv_has ls 6 [(0, .ref (q_this 0)), (1, .ref (q_p1 0)), (2, .int x2), (3, .int x3)] → k4 (o_this, x2, x3) = some out → W p l e ({ frames := 3, cells := 0, slots := 0, locals := 72 } : Room) s m [.ref (q_this 0), .ref (q_p1 0)].toArray below meth c H locs 0 0 (MQ below (mc_Q D kA A (some (.int out.1)) (ce_X11 kA q_this out.2 ++ (ce_X5 kA q_p1 o_p1))) [.ref (q_this 0), .ref (q_p1 0)].toArray s 0 0 A) (F0 m 4 ls [])) → ∀ (n : Nat) (o_this : os_T) (x2 : Int32) (x3 : Int32) (x4 : Int32) (H : Heap) (locs : List Loc) (ls : Array Slot), va_P D vwCl (ce_X11 kA q_this o_this ++ (ce_X5 kA q_p1 o_p1)) H → va_D A (ce_X11 kA q_this o_this ++ (ce_X5 kA q_p1 o_p1)) → va_S A s.heap H locs → lv_has ls 6 [(0, .ref (q_this 0)), (1, .ref (q_p1 0)), (2, .int x2), (3, .int x3), (4, .int x4)] → ff_X11_mark_l15 N o_p1 k4 n (o_this, x2, x3, x4) = some out → W p l e ({ frames := 3, cells := 0, slots := 0, locals := 72 } : Room) s m [.ref (q_this 0), .ref (q_p1 0)].toArray below meth c H locs 0 0 (MQ below (mc_Q D kA A (some (.int out.1)) (ce_X11 kA q_this out.2 ++ (ce_X5 kA q_p1 o_p1))) [.ref (q_this 0), .ref (q_p1 0)].toArray s 0 0 A) (F0 m 15 ls []) := by
    intro k4 hk4 n
    induction n with
    | zero => intro o_this x2 x3 x4 H locs ls _ _ _ _ hf; cases hf
    | succ n hk15 =>
      intro o_this x2 x3 x4 H locs ls hP hD hS hl hf
      have hf : ff_X11_mark_c15 N o_p1 k4 (ff_X11_mark_l15 N o_p1 k4 n) o_this x2 x3 x4 = some out := hf
      generalize hke : ff_X11_mark_l15 N o_p1 k4 n = k15 at hk15 hf
      unfold ff_X11_mark_c15 at hf
      refine lv_iload hx hb dX11_mark_15 (lv_at hl 4 rfl) ?_
      refine lv_aload_n hx hb dX11_mark_17 rfl (lv_at hl 1 rfl) ?_
      refine va_get (D := D) (ci := 4) (v := .int (os_I o_p1 0)) (C := RX5) (T := TX5) (N := 10) hx hb hUX5 (fun _ h9 => h9) hown hK hP 2 rfl rfl 0 (by decide) (hts (Cond.fieldLink RX11 39 "ReliefBuilder$Panel" "width" "I") (List.mem_of_getElem? (i := 2) rfl)) (fun _ h9 => h9) rfl dX11_mark_18 ?_
      refine lv_icmp_ge (tgt := 61) hx hb dX11_mark_21 (by decide) (fun hc_2 => ?_) (fun hc_2 => ?_)
      · rw [if_pos hc_2] at hf
        refine lv_iinc (v := x3 + 1) (lv' := [(3, .int (x3 + 1)), (0, .ref (q_this 0)), (1, .ref (q_p1 0)), (2, .int x2), (4, .int x4)]) hx hb dX11_mark_61 hl (k := 3) rfl rfl (by decide) rfl (fun ls hl => ?_)
        refine lv_goto (tgt := 4) hx hb dX11_mark_64 (by decide) ?_
        exact hk4 o_this x2 (x3 + 1) _ _ _ hP hD hS (lv_sub hl [1, 2, 3, 0] rfl) hf
      · rw [if_neg hc_2] at hf
        refine lv_aload_n hx hb dX11_mark_24 rfl (lv_at hl 1 rfl) ?_
        refine lv_iload hx hb dX11_mark_25 (lv_at hl 4 rfl) ?_
        refine lv_iload_n hx hb dX11_mark_27 rfl (lv_at hl 3 rfl) ?_
        obtain ⟨u_3, he_4, hf⟩ := os_bd hf
        refine mc_callS ⟨hx, hb, hml, hown, hts⟩ (mm_X11_isNarrow l D kA N q_p1 o_p1 x4 x3 u_3 he_4) (va_cwS 3 hts gX11_mark_X11_isNarrow rfl rfl rfl (by decide +kernel) ⟨Nat.le_of_ble_eq_true rfl, Nat.le_of_ble_eq_true rfl⟩) (wc := (ce_X5 kA q_p1 o_p1)) rfl hl.1 (As := [.ref (q_p1 0), .int x4, .int x3]) (rest := []) rfl (Nat.le_of_ble_eq_true rfl) dX11_mark_28 ⟨Nat.le_of_ble_eq_true rfl, Nat.le_of_ble_eq_true rfl⟩ hK hP hD hS hA [2, 3, 4, 5] [0, 1] [0, 1, 2, 3, 4, 5] rfl (by decide) rfl (by decide) (by decide) rfl (by decide) (wr := (ce_X11 kA q_this o_this)) (w2 := (ce_X11 kA q_this o_this ++ (ce_X5 kA q_p1 o_p1))) (fun H locs hP hD hS => ?_)
        have hP : va_P D vwCl (ce_X11 kA q_this o_this ++ (ce_X5 kA q_p1 o_p1)) H := hP
        refine lv_istore (lv' := [(5, .int u_3), (0, .ref (q_this 0)), (1, .ref (q_p1 0)), (2, .int x2), (3, .int x3), (4, .int x4)]) hx hb dX11_mark_31 hl (by decide) rfl (fun ls hl => ?_)
        refine lv_aload_n hx hb dX11_mark_33 rfl (lv_at hl 1 rfl) ?_
        refine lv_iload hx hb dX11_mark_34 (lv_at hl 5 rfl) ?_
        refine lv_iload_n hx hb dX11_mark_36 rfl (lv_at hl 4 rfl) ?_
        refine lv_iload hx hb dX11_mark_37 (lv_at hl 0 rfl) ?_
        obtain ⟨u_5, he_6, hf⟩ := os_bd hf
        refine mc_callV ⟨hx, hb, hml, hown, hts⟩ (mm_X11_setMark l D kA N q_this o_this x4 x3 u_3 u_5 he_6) (cwV 3 hts gX11_mark_X11_setMark rfl rfl rfl (by decide +kernel) ⟨Nat.le_of_ble_eq_true rfl, Nat.le_of_ble_eq_true rfl⟩) (wc := (ce_X11 kA q_this o_this)) (ci := 9) (q0 := 0) rfl rfl rfl hl.1 (As := [.int x4, .int x3, .int u_3]) (rest := []) rfl (Nat.le_of_ble_eq_true rfl) dX11_mark_39 ⟨Nat.le_of_ble_eq_true rfl, Nat.le_of_ble_eq_true rfl⟩ hK hP hD hS hA [0, 1] [2, 3, 4, 5] [4, 5, 0, 1, 2, 3] rfl (by decide) rfl (by decide) (by decide) rfl (by decide) (wr := (ce_X5 kA q_p1 o_p1)) (w2 := (ce_X11 kA q_this u_5 ++ (ce_X5 kA q_p1 o_p1))) (fun H locs hP hD hS => ?_)
        have hP : va_P D vwCl (ce_X11 kA q_this u_5 ++ (ce_X5 kA q_p1 o_p1)) H := hP
        refine lv_iload_n hx hb dX11_mark_42 rfl (lv_at hl 3 rfl) ?_
        refine lv_iload hx hb dX11_mark_43 (lv_at hl 0 rfl) ?_
        refine lv_if_eq (tgt := 52) hx hb dX11_mark_45 (by decide) (fun hc_7 => ?_) (fun hc_7 => ?_)
        · rw [if_pos hc_7] at hf
          refine lv_iconst (v := 0) hx hb dX11_mark_52 (by decide) ?_
          exact hB53 k4 hk4 k15 hk15 u_5 x3 x4 (0 : Int32) x2 _ _ _ hP hD hS (lv_sub hl [1, 2, 4, 5] rfl) hf
        · rw [if_neg hc_7] at hf
          refine lv_iconst (v := 1) hx hb dX11_mark_48 (by decide) ?_
          refine lv_goto (tgt := 53) hx hb dX11_mark_49 (by decide) ?_
          exact hB53 k4 hk4 k15 hk15 u_5 x3 x4 (1 : Int32) x2 _ _ _ hP hD hS (lv_sub hl [1, 2, 4, 5] rfl) hf
  have hL4 : ∀ (n : Nat) (o_this : os_T) (x2 : Int32) (x3 : Int32) (H : Heap) (locs : List Loc) (ls : Array Slot), va_P D vwCl (ce_X11 kA q_this o_this ++ (ce_X5 kA q_p1 o_p1)) H → va_D A (ce_X11 kA q_this o_this ++ (ce_X5 kA q_p1 o_p1)) → va_S A s.heap H locs → lv_has ls 6 [(0, .ref (q_this 0)), (1, .ref (q_p1 0)), (2, .int x2), (3, .int x3)] → ff_X11_mark_l4 N o_p1 n (o_this, x2, x3) = some out → W p l e ({ frames := 3, cells := 0, slots := 0, locals := 72 } : Room) s m [.ref (q_this 0), .ref (q_p1 0)].toArray below meth c H locs 0 0 (MQ below (mc_Q D kA A (some (.int out.1)) (ce_X11 kA q_this out.2 ++ (ce_X5 kA q_p1 o_p1))) [.ref (q_this 0), .ref (q_p1 0)].toArray s 0 0 A) (F0 m 4 ls []) := by
    intro n
    induction n with
    | zero => intro o_this x2 x3 H locs ls _ _ _ _ hf; cases hf
    | succ n hk4 =>
      intro o_this x2 x3 H locs ls hP hD hS hl hf
      have hf : ff_X11_mark_c4 N o_p1 (ff_X11_mark_l4 N o_p1 n) o_this x2 x3 = some out := hf
      generalize hke : ff_X11_mark_l4 N o_p1 n = k4 at hk4 hf
      unfold ff_X11_mark_c4 at hf
      refine lv_iload_n hx hb dX11_mark_4 rfl (lv_at hl 3 rfl) ?_
      refine lv_aload_n hx hb dX11_mark_5 rfl (lv_at hl 1 rfl) ?_
      refine va_get (D := D) (ci := 4) (v := .int (os_I o_p1 1)) (C := RX5) (T := TX5) (N := 10) hx hb hUX5 (fun _ h9 => h9) hown hK hP 2 rfl rfl 1 (by decide) (hts (Cond.fieldLink RX11 36 "ReliefBuilder$Panel" "rows" "I") (List.mem_of_getElem? (i := 1) rfl)) (fun _ h9 => h9) rfl dX11_mark_6 ?_
      refine lv_icmp_ge (tgt := 67) hx hb dX11_mark_9 (by decide) (fun hc_1 => ?_) (fun hc_1 => ?_)
      · rw [if_pos hc_1] at hf
        refine lv_iload_n hx hb dX11_mark_67 rfl (lv_at hl 2 rfl) ?_
        rw [← Option.some.inj hf]
        exact mc_reti hx hb hr hlk hP hK hD hS dX11_mark_68
      · rw [if_neg hc_1] at hf
        refine lv_iconst (v := 0) hx hb dX11_mark_12 (by decide) ?_
        refine lv_istore (lv' := [(4, .int (0 : Int32)), (0, .ref (q_this 0)), (1, .ref (q_p1 0)), (2, .int x2), (3, .int x3)]) hx hb dX11_mark_13 hl (by decide) rfl (fun ls hl => ?_)
        exact hL15 k4 hk4 N o_this x2 x3 (0 : Int32) _ _ _ hP hD hS (lv_sub hl [1, 2, 3, 4, 0] rfl) hf
  unfold ff_X11_mark at hf
  refine lv_iconst (v := 0) hx hb dX11_mark_0 (by decide) ?_
  refine lv_istore_n (lv' := [(2, .int (0 : Int32)), (0, .ref (q_this 0)), (1, .ref (q_p1 0))]) hx hb dX11_mark_1 rfl hl (by decide) rfl (fun ls hl => ?_)
  refine lv_iconst (v := 0) hx hb dX11_mark_2 (by decide) ?_
  refine lv_istore_n (lv' := [(3, .int (0 : Int32)), (2, .int (0 : Int32)), (0, .ref (q_this 0)), (1, .ref (q_p1 0))]) hx hb dX11_mark_3 rfl hl (by decide) rfl (fun ls hl => ?_)
  exact hL4 N o_this (0 : Int32) (0 : Int32) _ _ _ hP hD hS (lv_sub hl [2, 3, 1, 0] rfl) hf
def ff_X11_hasMark (N : Nat) (o_this : os_T) (a1 : Int32) (a2 : Int32) : Option Int32 :=
  (if ((a2 * (16 : Int32)) + a1) < 0 then some (0 : Int32) else (if (192 : Int32) ≤ ((a2 * (16 : Int32)) + a1) then some (0 : Int32) else (if os_in ((a2 * (16 : Int32)) + a1) 192 then (if ((os_A o_this 0) (Int32.toNatClampNeg ((a2 * (16 : Int32)) + a1))) = 0 then some (0 : Int32) else some (1 : Int32)) else none)))
set_option maxHeartbeats 4000000 in
set_option maxRecDepth 100000 in
theorem mm_X11_hasMark (l : Launch) (D : va_G) (kA : Nat → ClassId) (N : Nat) (q_this : Nat → Nat) (o_this : os_T) (a1 : Int32) (a2 : Int32) (out : Int32) (hf : ff_X11_hasMark N o_this a1 a2 = some out) : mc_C l D kA yX11_hasMark wsX11_hasMark ({ frames := 0, cells := 0, slots := 0, locals := 0 } : Room) [.ref (q_this 0), .int a1, .int a2] (ce_X11 kA q_this o_this) (some (.int out)) (ce_X11 kA q_this o_this) := by
  refine mc_of (cc := cX11_hasMark) (maxL := 4) (ret := (some .boolean)) (by decide) rfl (Nat.le_of_ble_eq_true rfl) ?_
  intro p e s m below meth c A B hD hP hS ls hl
  obtain ⟨hx, hb, hr, hlk, hml, hown, hts, hK, hA, hnm⟩ := B
  have hown : s.vm.findClass RX11 = some m.cls := hown
  have hl : lv_has ls 4 [(0, .ref (q_this 0)), (1, .int a1), (2, .int a2)] := hl
  have hUX11 : ∀ w ∈ u_ws RX11 TX11 1, w.before [.ref (q_this 0), .int a1, .int a2].toArray s = true := fun w h => hts w (List.mem_cons_of_mem _ (List.mem_append_right _ h))
  unfold ff_X11_hasMark at hf
  refine lv_iload_n hx hb dX11_hasMark_0 rfl (lv_at hl 2 rfl) ?_
  refine lv_bipush (v := 16) hx hb dX11_hasMark_1 (by decide) ?_
  refine lv_imul hx hb dX11_hasMark_3 ?_
  refine lv_iload_n hx hb dX11_hasMark_4 rfl (lv_at hl 1 rfl) ?_
  refine lv_iadd hx hb dX11_hasMark_5 ?_
  refine lv_istore_n (lv' := [(3, .int ((a2 * (16 : Int32)) + a1)), (0, .ref (q_this 0)), (1, .int a1), (2, .int a2)]) hx hb dX11_hasMark_6 rfl hl (by decide) rfl (fun ls hl => ?_)
  refine lv_iload_n hx hb dX11_hasMark_7 rfl (lv_at hl 0 rfl) ?_
  refine lv_if_lt (tgt := 33) hx hb dX11_hasMark_8 (by decide) (fun hc_1 => ?_) (fun hc_1 => ?_)
  · rw [if_pos hc_1] at hf
    refine lv_iconst (v := 0) hx hb dX11_hasMark_33 (by decide) ?_
    rw [← Option.some.inj hf]
    exact mc_retz (v := 0) hx hb hr rfl hlk hP hK hD hS dX11_hasMark_34
  · rw [if_neg hc_1] at hf
    refine lv_iload_n hx hb dX11_hasMark_11 rfl (lv_at hl 0 rfl) ?_
    refine lv_aload_n hx hb dX11_hasMark_12 rfl (lv_at hl 1 rfl) ?_
    refine va_get (D := D) (ci := 9) (v := .ref (q_this 1)) (C := RX11) (T := TX11) (N := 1) hx hb hUX11 (fun _ h9 => h9) hown hK hP 0 rfl rfl 0 (by decide) (hts (Cond.fieldLink RX11 9 "ReliefBuilder$Walls" "marks" "[Z") (List.mem_of_getElem? (i := 1) rfl)) (fun _ h9 => h9) rfl dX11_hasMark_13 ?_
    refine va_alen (v := 192) hx hb hK hP 1 1 rfl rfl rfl dX11_hasMark_16 ?_
    refine lv_icmp_ge (tgt := 33) hx hb dX11_hasMark_17 (by decide) (fun hc_2 => ?_) (fun hc_2 => ?_)
    · rw [if_pos hc_2] at hf
      refine lv_iconst (v := 0) hx hb dX11_hasMark_33 (by decide) ?_
      rw [← Option.some.inj hf]
      exact mc_retz (v := 0) hx hb hr rfl hlk hP hK hD hS dX11_hasMark_34
    · rw [if_neg hc_2] at hf
      refine lv_aload_n hx hb dX11_hasMark_20 rfl (lv_at hl 1 rfl) ?_
      refine va_get (D := D) (ci := 9) (v := .ref (q_this 1)) (C := RX11) (T := TX11) (N := 1) hx hb hUX11 (fun _ h9 => h9) hown hK hP 0 rfl rfl 0 (by decide) (hts (Cond.fieldLink RX11 9 "ReliefBuilder$Walls" "marks" "[Z") (List.mem_of_getElem? (i := 1) rfl)) (fun _ h9 => h9) rfl dX11_hasMark_21 ?_
      refine lv_iload_n hx hb dX11_hasMark_24 rfl (lv_at hl 0 rfl) ?_
      obtain ⟨hi_3, hf⟩ := os_if hf
      refine va_zald hx hb hK hP 1 1 rfl rfl hi_3 dX11_hasMark_25 ?_
      refine lv_if_eq (tgt := 33) hx hb dX11_hasMark_26 (by decide) (fun hc_4 => ?_) (fun hc_4 => ?_)
      · rw [if_pos hc_4] at hf
        refine lv_iconst (v := 0) hx hb dX11_hasMark_33 (by decide) ?_
        rw [← Option.some.inj hf]
        exact mc_retz (v := 0) hx hb hr rfl hlk hP hK hD hS dX11_hasMark_34
      · rw [if_neg hc_4] at hf
        refine lv_iconst (v := 1) hx hb dX11_hasMark_29 (by decide) ?_
        refine lv_goto (tgt := 34) hx hb dX11_hasMark_30 (by decide) ?_
        rw [← Option.some.inj hf]
        exact mc_retz (v := 1) hx hb hr rfl hlk hP hK hD hS dX11_hasMark_34
def ff_X11_lowerMarked_b44 (N : Nat) (o_this : os_T) (k2 : (os_T × Int32) → Option os_T) (k12 : (os_T × Int32 × Int32) → Option os_T) (o_p1 : os_T) (x2 : Int32) (x3 : Int32) : Option os_T :=
  k12 (o_p1, x2, x3 + 1)
def ff_X11_lowerMarked_c12 (N : Nat) (o_this : os_T) (k2 : (os_T × Int32) → Option os_T) (k12 : (os_T × Int32 × Int32) → Option os_T) (o_p1 : os_T) (x2 : Int32) (x3 : Int32) : Option os_T :=
  (if (os_I o_p1 0) ≤ x3 then k2 (o_p1, x2 + 1) else ((ff_X11_hasMark N o_this x3 x2).bind fun u_3 => (if u_3 = 0 then ff_X11_lowerMarked_b44 N o_this k2 k12 o_p1 x2 x3 else ((ff_X5_heightAt N o_p1 x3 x2).bind fun u_6 => ((ff_X5_build N o_p1 x3 x2 (u_6 - (1 : Int32))).bind fun u_8 => ff_X11_lowerMarked_b44 N o_this k2 k12 u_8.2 x2 x3)))))
def ff_X11_lowerMarked_l12 (N : Nat) (o_this : os_T) (k2 : (os_T × Int32) → Option os_T) : Nat → (os_T × Int32 × Int32) → Option os_T := os_loop (fun k12 s1 => ff_X11_lowerMarked_c12 N o_this k2 k12 s1.1 s1.2.1 s1.2.2)
def ff_X11_lowerMarked_c2 (N : Nat) (o_this : os_T) (k2 : (os_T × Int32) → Option os_T) (o_p1 : os_T) (x2 : Int32) : Option os_T :=
  (if (os_I o_p1 1) ≤ x2 then some o_p1 else ff_X11_lowerMarked_l12 N o_this k2 N (o_p1, x2, (0 : Int32)))
def ff_X11_lowerMarked_l2 (N : Nat) (o_this : os_T) : Nat → (os_T × Int32) → Option os_T := os_loop (fun k2 s1 => ff_X11_lowerMarked_c2 N o_this k2 s1.1 s1.2)
def ff_X11_lowerMarked (N : Nat) (o_this : os_T) (o_p1 : os_T) : Option os_T :=
  ff_X11_lowerMarked_l2 N o_this N (o_p1, (0 : Int32))
set_option maxHeartbeats 4000000 in
set_option maxRecDepth 100000 in
theorem mm_X11_lowerMarked (l : Launch) (D : va_G) (kA : Nat → ClassId) (N : Nat) (q_this : Nat → Nat) (q_p1 : Nat → Nat) (o_this : os_T) (o_p1 : os_T) (out : os_T) (hf : ff_X11_lowerMarked N o_this o_p1 = some out) : mc_C l D kA yX11_lowerMarked wsX11_lowerMarked ({ frames := 2, cells := 0, slots := 0, locals := 45 } : Room) [.ref (q_this 0), .ref (q_p1 0)] (ce_X11 kA q_this o_this ++ (ce_X5 kA q_p1 o_p1)) none (ce_X11 kA q_this o_this ++ (ce_X5 kA q_p1 out)) := by
  refine mc_of (cc := cX11_lowerMarked) (maxL := 4) (ret := none) (by decide) rfl (Nat.le_of_ble_eq_true rfl) ?_
  intro p e s m below meth c A B hD hP hS ls hl
  obtain ⟨hx, hb, hr, hlk, hml, hown, hts, hK, hA, hnm⟩ := B
  have hown : s.vm.findClass RX11 = some m.cls := hown
  have hl : lv_has ls 4 [(0, .ref (q_this 0)), (1, .ref (q_p1 0))] := hl
  have hUX5 : ∀ w ∈ u_ws RX5 TX5 10, w.before [.ref (q_this 0), .ref (q_p1 0)].toArray s = true := fun w h => hts w (List.mem_cons_of_mem _ (List.mem_append_left _ (List.mem_append_right _ h)))
  have hB44 : ∀ (k2 : (os_T × Int32) → Option os_T), (∀ (o_p1 : os_T) (x2 : Int32) (H : Heap) (locs : List Loc) (ls : Array Slot), va_P D vwCl (ce_X11 kA q_this o_this ++ (ce_X5 kA q_p1 o_p1)) H → va_D A (ce_X11 kA q_this o_this ++ (ce_X5 kA q_p1 o_p1)) → va_S A s.heap H locs → lv_has ls 4 [(0, .ref (q_this 0)), (1, .ref (q_p1 0)), (2, .int x2)] → k2 (o_p1, x2) = some out → W p l e ({ frames := 2, cells := 0, slots := 0, locals := 45 } : Room) s m [.ref (q_this 0), .ref (q_p1 0)].toArray below meth c H locs 0 0 (MQ below (mc_Q D kA A none (ce_X11 kA q_this o_this ++ (ce_X5 kA q_p1 out))) [.ref (q_this 0), .ref (q_p1 0)].toArray s 0 0 A) (F0 m 2 ls [])) → ∀ (k12 : (os_T × Int32 × Int32) → Option os_T), (∀ (o_p1 : os_T) (x2 : Int32) (x3 : Int32) (H : Heap) (locs : List Loc) (ls : Array Slot), va_P D vwCl (ce_X11 kA q_this o_this ++ (ce_X5 kA q_p1 o_p1)) H → va_D A (ce_X11 kA q_this o_this ++ (ce_X5 kA q_p1 o_p1)) → va_S A s.heap H locs → lv_has ls 4 [(0, .ref (q_this 0)), (1, .ref (q_p1 0)), (2, .int x2), (3, .int x3)] → k12 (o_p1, x2, x3) = some out → W p l e ({ frames := 2, cells := 0, slots := 0, locals := 45 } : Room) s m [.ref (q_this 0), .ref (q_p1 0)].toArray below meth c H locs 0 0 (MQ below (mc_Q D kA A none (ce_X11 kA q_this o_this ++ (ce_X5 kA q_p1 out))) [.ref (q_this 0), .ref (q_p1 0)].toArray s 0 0 A) (F0 m 12 ls [])) → ∀ (o_p1 : os_T) (x2 : Int32) (x3 : Int32) (H : Heap) (locs : List Loc) (ls : Array Slot), va_P D vwCl (ce_X11 kA q_this o_this ++ (ce_X5 kA q_p1 o_p1)) H → va_D A (ce_X11 kA q_this o_this ++ (ce_X5 kA q_p1 o_p1)) → va_S A s.heap H locs → lv_has ls 4 [(0, .ref (q_this 0)), (1, .ref (q_p1 0)), (2, .int x2), (3, .int x3)] → ff_X11_lowerMarked_b44 N o_this k2 k12 o_p1 x2 x3 = some out → W p l e ({ frames := 2, cells := 0, slots := 0, locals := 45 } : Room) s m [.ref (q_this 0), .ref (q_p1 0)].toArray below meth c H locs 0 0 (MQ below (mc_Q D kA A none (ce_X11 kA q_this o_this ++ (ce_X5 kA q_p1 out))) [.ref (q_this 0), .ref (q_p1 0)].toArray s 0 0 A) (F0 m 44 ls []) := by
    intro k2 hk2 k12 hk12 o_p1 x2 x3 H locs ls hP hD hS hl hf
    unfold ff_X11_lowerMarked_b44 at hf
    refine lv_iinc (v := x3 + 1) (lv' := [(3, .int (x3 + 1)), (0, .ref (q_this 0)), (1, .ref (q_p1 0)), (2, .int x2)]) hx hb dX11_lowerMarked_44 hl (k := 3) rfl rfl (by decide) rfl (fun ls hl => ?_)
    refine lv_goto (tgt := 12) hx hb dX11_lowerMarked_47 (by decide) ?_
    exact hk12 o_p1 x2 (x3 + 1) _ _ _ hP hD hS (lv_sub hl [1, 2, 3, 0] rfl) hf
  have hL12 : ∀ (k2 : (os_T × Int32) → Option os_T), (∀ (o_p1 : os_T) (x2 : Int32) (H : Heap) (locs : List Loc) (ls : Array Slot), va_P D vwCl (ce_X11 kA q_this o_this ++ (ce_X5 kA q_p1 o_p1)) H → va_D A (ce_X11 kA q_this o_this ++ (ce_X5 kA q_p1 o_p1)) → va_S A s.heap H locs → lv_has ls 4 [(0, .ref (q_this 0)), (1, .ref (q_p1 0)), (2, .int x2)] → k2 (o_p1, x2) = some out → W p l e ({ frames := 2, cells := 0, slots := 0, locals := 45 } : Room) s m [.ref (q_this 0), .ref (q_p1 0)].toArray below meth c H locs 0 0 (MQ below (mc_Q D kA A none (ce_X11 kA q_this o_this ++ (ce_X5 kA q_p1 out))) [.ref (q_this 0), .ref (q_p1 0)].toArray s 0 0 A) (F0 m 2 ls [])) → ∀ (n : Nat) (o_p1 : os_T) (x2 : Int32) (x3 : Int32) (H : Heap) (locs : List Loc) (ls : Array Slot), va_P D vwCl (ce_X11 kA q_this o_this ++ (ce_X5 kA q_p1 o_p1)) H → va_D A (ce_X11 kA q_this o_this ++ (ce_X5 kA q_p1 o_p1)) → va_S A s.heap H locs → lv_has ls 4 [(0, .ref (q_this 0)), (1, .ref (q_p1 0)), (2, .int x2), (3, .int x3)] → ff_X11_lowerMarked_l12 N o_this k2 n (o_p1, x2, x3) = some out → W p l e ({ frames := 2, cells := 0, slots := 0, locals := 45 } : Room) s m [.ref (q_this 0), .ref (q_p1 0)].toArray below meth c H locs 0 0 (MQ below (mc_Q D kA A none (ce_X11 kA q_this o_this ++ (ce_X5 kA q_p1 out))) [.ref (q_this 0), .ref (q_p1 0)].toArray s 0 0 A) (F0 m 12 ls []) := by
    intro k2 hk2 n
    induction n with
    | zero => intro o_p1 x2 x3 H locs ls _ _ _ _ hf; cases hf
    | succ n hk12 =>
      intro o_p1 x2 x3 H locs ls hP hD hS hl hf
      have hf : ff_X11_lowerMarked_c12 N o_this k2 (ff_X11_lowerMarked_l12 N o_this k2 n) o_p1 x2 x3 = some out := hf
      generalize hke : ff_X11_lowerMarked_l12 N o_this k2 n = k12 at hk12 hf
      unfold ff_X11_lowerMarked_c12 at hf
      refine lv_iload_n hx hb dX11_lowerMarked_12 rfl (lv_at hl 3 rfl) ?_
      refine lv_aload_n hx hb dX11_lowerMarked_13 rfl (lv_at hl 1 rfl) ?_
      refine va_get (D := D) (ci := 4) (v := .int (os_I o_p1 0)) (C := RX5) (T := TX5) (N := 10) hx hb hUX5 (fun _ h9 => h9) hown hK hP 2 rfl rfl 0 (by decide) (hts (Cond.fieldLink RX11 39 "ReliefBuilder$Panel" "width" "I") (List.mem_of_getElem? (i := 2) rfl)) (fun _ h9 => h9) rfl dX11_lowerMarked_14 ?_
      refine lv_icmp_ge (tgt := 50) hx hb dX11_lowerMarked_17 (by decide) (fun hc_2 => ?_) (fun hc_2 => ?_)
      · rw [if_pos hc_2] at hf
        refine lv_iinc (v := x2 + 1) (lv' := [(2, .int (x2 + 1)), (0, .ref (q_this 0)), (1, .ref (q_p1 0)), (3, .int x3)]) hx hb dX11_lowerMarked_50 hl (k := 2) rfl rfl (by decide) rfl (fun ls hl => ?_)
        refine lv_goto (tgt := 2) hx hb dX11_lowerMarked_53 (by decide) ?_
        exact hk2 o_p1 (x2 + 1) _ _ _ hP hD hS (lv_sub hl [1, 2, 0] rfl) hf
      · rw [if_neg hc_2] at hf
        refine lv_aload_n hx hb dX11_lowerMarked_20 rfl (lv_at hl 0 rfl) ?_
        refine lv_iload_n hx hb dX11_lowerMarked_21 rfl (lv_at hl 3 rfl) ?_
        refine lv_iload_n hx hb dX11_lowerMarked_22 rfl (lv_at hl 2 rfl) ?_
        obtain ⟨u_3, he_4, hf⟩ := os_bd hf
        refine mc_callV ⟨hx, hb, hml, hown, hts⟩ (mm_X11_hasMark l D kA N q_this o_this x3 x2 u_3 he_4) (cwV 2 hts gX11_lowerMarked_X11_hasMark rfl rfl rfl (by decide +kernel) ⟨Nat.le_of_ble_eq_true rfl, Nat.le_of_ble_eq_true rfl⟩) (wc := (ce_X11 kA q_this o_this)) (ci := 9) (q0 := 0) rfl rfl rfl hl.1 (As := [.int x3, .int x2]) (rest := []) rfl (Nat.le_of_ble_eq_true rfl) dX11_lowerMarked_23 ⟨Nat.le_of_ble_eq_true rfl, Nat.le_of_ble_eq_true rfl⟩ hK hP hD hS hA [0, 1] [2, 3, 4, 5] [4, 5, 0, 1, 2, 3] rfl (by decide) rfl (by decide) (by decide) rfl (by decide) (wr := (ce_X5 kA q_p1 o_p1)) (w2 := (ce_X11 kA q_this o_this ++ (ce_X5 kA q_p1 o_p1))) (fun H locs hP hD hS => ?_)
        have hP : va_P D vwCl (ce_X11 kA q_this o_this ++ (ce_X5 kA q_p1 o_p1)) H := hP
        refine lv_if_eq (tgt := 44) hx hb dX11_lowerMarked_26 (by decide) (fun hc_5 => ?_) (fun hc_5 => ?_)
        · rw [if_pos hc_5] at hf
          exact hB44 k2 hk2 k12 hk12 o_p1 x2 x3 _ _ _ hP hD hS (lv_sub hl [0, 1, 2, 3] rfl) hf
        · rw [if_neg hc_5] at hf
          refine lv_aload_n hx hb dX11_lowerMarked_29 rfl (lv_at hl 1 rfl) ?_
          refine lv_iload_n hx hb dX11_lowerMarked_30 rfl (lv_at hl 3 rfl) ?_
          refine lv_iload_n hx hb dX11_lowerMarked_31 rfl (lv_at hl 2 rfl) ?_
          refine lv_aload_n hx hb dX11_lowerMarked_32 rfl (lv_at hl 1 rfl) ?_
          refine lv_iload_n hx hb dX11_lowerMarked_33 rfl (lv_at hl 3 rfl) ?_
          refine lv_iload_n hx hb dX11_lowerMarked_34 rfl (lv_at hl 2 rfl) ?_
          obtain ⟨u_6, he_7, hf⟩ := os_bd hf
          refine mc_callV ⟨hx, hb, hml, hown, hts⟩ (mm_X5_heightAt l D kA N q_p1 o_p1 x3 x2 u_6 he_7) (cwV 2 hts gX11_lowerMarked_X5_heightAt rfl rfl rfl (by decide +kernel) ⟨Nat.le_of_ble_eq_true rfl, Nat.le_of_ble_eq_true rfl⟩) (wc := (ce_X5 kA q_p1 o_p1)) (ci := 4) (q0 := 0) rfl rfl rfl hl.1 (As := [.int x3, .int x2]) (rest := [.int x2, .int x3, .ref (q_p1 0)]) rfl (Nat.le_of_ble_eq_true rfl) dX11_lowerMarked_35 ⟨Nat.le_of_ble_eq_true rfl, Nat.le_of_ble_eq_true rfl⟩ hK hP hD hS hA [2, 3, 4, 5] [0, 1] [0, 1, 2, 3, 4, 5] rfl (by decide) rfl (by decide) (by decide) rfl (by decide) (wr := (ce_X11 kA q_this o_this)) (w2 := (ce_X11 kA q_this o_this ++ (ce_X5 kA q_p1 o_p1))) (fun H locs hP hD hS => ?_)
          have hP : va_P D vwCl (ce_X11 kA q_this o_this ++ (ce_X5 kA q_p1 o_p1)) H := hP
          refine lv_iconst (v := 1) hx hb dX11_lowerMarked_38 (by decide) ?_
          refine lv_isub hx hb dX11_lowerMarked_39 ?_
          obtain ⟨u_8, he_9, hf⟩ := os_bd hf
          refine mc_callV ⟨hx, hb, hml, hown, hts⟩ (mm_X5_build l D kA N q_p1 o_p1 x3 x2 (u_6 - (1 : Int32)) u_8 he_9) (cwV 3 hts gX11_lowerMarked_X5_build rfl rfl rfl (by decide +kernel) ⟨Nat.le_of_ble_eq_true rfl, Nat.le_of_ble_eq_true rfl⟩) (wc := (ce_X5 kA q_p1 o_p1)) (ci := 4) (q0 := 0) rfl rfl rfl hl.1 (As := [.int x3, .int x2, .int (u_6 - (1 : Int32))]) (rest := []) rfl (Nat.le_of_ble_eq_true rfl) dX11_lowerMarked_40 ⟨Nat.le_of_ble_eq_true rfl, Nat.le_of_ble_eq_true rfl⟩ hK hP hD hS hA [2, 3, 4, 5] [0, 1] [0, 1, 2, 3, 4, 5] rfl (by decide) rfl (by decide) (by decide) rfl (by decide) (wr := (ce_X11 kA q_this o_this)) (w2 := (ce_X11 kA q_this o_this ++ (ce_X5 kA q_p1 u_8.2))) (fun H locs hP hD hS => ?_)
          have hP : va_P D vwCl (ce_X11 kA q_this o_this ++ (ce_X5 kA q_p1 u_8.2)) H := hP
          refine lv_pop hx hb dX11_lowerMarked_43 rfl ?_
          exact hB44 k2 hk2 k12 hk12 u_8.2 x2 x3 _ _ _ hP hD hS (lv_sub hl [0, 1, 2, 3] rfl) hf
  have hL2 : ∀ (n : Nat) (o_p1 : os_T) (x2 : Int32) (H : Heap) (locs : List Loc) (ls : Array Slot), va_P D vwCl (ce_X11 kA q_this o_this ++ (ce_X5 kA q_p1 o_p1)) H → va_D A (ce_X11 kA q_this o_this ++ (ce_X5 kA q_p1 o_p1)) → va_S A s.heap H locs → lv_has ls 4 [(0, .ref (q_this 0)), (1, .ref (q_p1 0)), (2, .int x2)] → ff_X11_lowerMarked_l2 N o_this n (o_p1, x2) = some out → W p l e ({ frames := 2, cells := 0, slots := 0, locals := 45 } : Room) s m [.ref (q_this 0), .ref (q_p1 0)].toArray below meth c H locs 0 0 (MQ below (mc_Q D kA A none (ce_X11 kA q_this o_this ++ (ce_X5 kA q_p1 out))) [.ref (q_this 0), .ref (q_p1 0)].toArray s 0 0 A) (F0 m 2 ls []) := by
    intro n
    induction n with
    | zero => intro o_p1 x2 H locs ls _ _ _ _ hf; cases hf
    | succ n hk2 =>
      intro o_p1 x2 H locs ls hP hD hS hl hf
      have hf : ff_X11_lowerMarked_c2 N o_this (ff_X11_lowerMarked_l2 N o_this n) o_p1 x2 = some out := hf
      generalize hke : ff_X11_lowerMarked_l2 N o_this n = k2 at hk2 hf
      unfold ff_X11_lowerMarked_c2 at hf
      refine lv_iload_n hx hb dX11_lowerMarked_2 rfl (lv_at hl 2 rfl) ?_
      refine lv_aload_n hx hb dX11_lowerMarked_3 rfl (lv_at hl 1 rfl) ?_
      refine va_get (D := D) (ci := 4) (v := .int (os_I o_p1 1)) (C := RX5) (T := TX5) (N := 10) hx hb hUX5 (fun _ h9 => h9) hown hK hP 2 rfl rfl 1 (by decide) (hts (Cond.fieldLink RX11 36 "ReliefBuilder$Panel" "rows" "I") (List.mem_of_getElem? (i := 1) rfl)) (fun _ h9 => h9) rfl dX11_lowerMarked_4 ?_
      refine lv_icmp_ge (tgt := 56) hx hb dX11_lowerMarked_7 (by decide) (fun hc_1 => ?_) (fun hc_1 => ?_)
      · rw [if_pos hc_1] at hf
        rw [← Option.some.inj hf]
        exact mc_retv hx hb hr hlk hP hK hD hS dX11_lowerMarked_56
      · rw [if_neg hc_1] at hf
        refine lv_iconst (v := 0) hx hb dX11_lowerMarked_10 (by decide) ?_
        refine lv_istore_n (lv' := [(3, .int (0 : Int32)), (0, .ref (q_this 0)), (1, .ref (q_p1 0)), (2, .int x2)]) hx hb dX11_lowerMarked_11 rfl hl (by decide) rfl (fun ls hl => ?_)
        exact hL12 k2 hk2 N o_p1 x2 (0 : Int32) _ _ _ hP hD hS (lv_sub hl [1, 2, 3, 0] rfl) hf
  unfold ff_X11_lowerMarked at hf
  refine lv_iconst (v := 0) hx hb dX11_lowerMarked_0 (by decide) ?_
  refine lv_istore_n (lv' := [(2, .int (0 : Int32)), (0, .ref (q_this 0)), (1, .ref (q_p1 0))]) hx hb dX11_lowerMarked_1 rfl hl (by decide) rfl (fun ls hl => ?_)
  exact hL2 N o_p1 (0 : Int32) _ _ _ hP hD hS (lv_sub hl [1, 2, 0] rfl) hf
def ff_X11_takeDown_c4 (N : Nat) (k4 : (os_T × os_T × Int32 × Int32) → Option (Int32 × os_T × os_T)) (o_this : os_T) (o_p1 : os_T) (x2 : Int32) (x3 : Int32) : Option (Int32 × os_T × os_T) :=
  (if (3840 : Int32) ≤ x3 then some (x2, o_this, o_p1) else ((ff_X11_mark N o_this o_p1).bind fun u_2 => (if u_2.1 ≤ 0 then some (x2, u_2.2, o_p1) else ((ff_X11_lowerMarked N u_2.2 o_p1).bind fun u_5 => k4 (u_2.2, u_5, x2 + 1, x3 + 1)))))
def ff_X11_takeDown_l4 (N : Nat) : Nat → (os_T × os_T × Int32 × Int32) → Option (Int32 × os_T × os_T) := os_loop (fun k4 s1 => ff_X11_takeDown_c4 N k4 s1.1 s1.2.1 s1.2.2.1 s1.2.2.2)
def ff_X11_takeDown (N : Nat) (o_this : os_T) (o_p1 : os_T) : Option (Int32 × os_T × os_T) :=
  ff_X11_takeDown_l4 N N (o_this, o_p1, (0 : Int32), (0 : Int32))
set_option maxHeartbeats 4000000 in
set_option maxRecDepth 100000 in
theorem mm_X11_takeDown (l : Launch) (D : va_G) (kA : Nat → ClassId) (N : Nat) (q_this : Nat → Nat) (q_p1 : Nat → Nat) (o_this : os_T) (o_p1 : os_T) (out : (Int32 × os_T × os_T)) (hf : ff_X11_takeDown N o_this o_p1 = some out) : mc_C l D kA yX11_takeDown wsX11_takeDown ({ frames := 4, cells := 0, slots := 0, locals := 97 } : Room) [.ref (q_this 0), .ref (q_p1 0)] (ce_X11 kA q_this o_this ++ (ce_X5 kA q_p1 o_p1)) (some (.int out.1)) (ce_X11 kA q_this out.2.1 ++ (ce_X5 kA q_p1 out.2.2)) := by
  refine mc_of (cc := cX11_takeDown) (maxL := 4) (ret := (some .int)) (by decide) rfl (Nat.le_of_ble_eq_true rfl) ?_
  intro p e s m below meth c A B hD hP hS ls hl
  obtain ⟨hx, hb, hr, hlk, hml, hown, hts, hK, hA, hnm⟩ := B
  have hown : s.vm.findClass RX11 = some m.cls := hown
  have hl : lv_has ls 4 [(0, .ref (q_this 0)), (1, .ref (q_p1 0))] := hl
  have hL4 : ∀ (n : Nat) (o_this : os_T) (o_p1 : os_T) (x2 : Int32) (x3 : Int32) (H : Heap) (locs : List Loc) (ls : Array Slot), va_P D vwCl (ce_X11 kA q_this o_this ++ (ce_X5 kA q_p1 o_p1)) H → va_D A (ce_X11 kA q_this o_this ++ (ce_X5 kA q_p1 o_p1)) → va_S A s.heap H locs → lv_has ls 4 [(0, .ref (q_this 0)), (1, .ref (q_p1 0)), (2, .int x2), (3, .int x3)] → ff_X11_takeDown_l4 N n (o_this, o_p1, x2, x3) = some out → W p l e ({ frames := 4, cells := 0, slots := 0, locals := 97 } : Room) s m [.ref (q_this 0), .ref (q_p1 0)].toArray below meth c H locs 0 0 (MQ below (mc_Q D kA A (some (.int out.1)) (ce_X11 kA q_this out.2.1 ++ (ce_X5 kA q_p1 out.2.2))) [.ref (q_this 0), .ref (q_p1 0)].toArray s 0 0 A) (F0 m 4 ls []) := by
    intro n
    induction n with
    | zero => intro o_this o_p1 x2 x3 H locs ls _ _ _ _ hf; cases hf
    | succ n hk4 =>
      intro o_this o_p1 x2 x3 H locs ls hP hD hS hl hf
      have hf : ff_X11_takeDown_c4 N (ff_X11_takeDown_l4 N n) o_this o_p1 x2 x3 = some out := hf
      generalize hke : ff_X11_takeDown_l4 N n = k4 at hk4 hf
      unfold ff_X11_takeDown_c4 at hf
      refine lv_iload_n hx hb dX11_takeDown_4 rfl (lv_at hl 3 rfl) ?_
      refine lv_sipush (v := 3840) hx hb dX11_takeDown_5 (by decide) ?_
      refine lv_icmp_ge (tgt := 33) hx hb dX11_takeDown_8 (by decide) (fun hc_1 => ?_) (fun hc_1 => ?_)
      · rw [if_pos hc_1] at hf
        refine lv_iload_n hx hb dX11_takeDown_33 rfl (lv_at hl 2 rfl) ?_
        rw [← Option.some.inj hf]
        exact mc_reti hx hb hr hlk hP hK hD hS dX11_takeDown_34
      · rw [if_neg hc_1] at hf
        refine lv_aload_n hx hb dX11_takeDown_11 rfl (lv_at hl 0 rfl) ?_
        refine lv_aload_n hx hb dX11_takeDown_12 rfl (lv_at hl 1 rfl) ?_
        obtain ⟨u_2, he_3, hf⟩ := os_bd hf
        refine mc_callV ⟨hx, hb, hml, hown, hts⟩ (mm_X11_mark l D kA N q_this q_p1 o_this o_p1 u_2 he_3) (cwV 1 hts gX11_takeDown_X11_mark rfl rfl rfl (by decide +kernel) ⟨Nat.le_of_ble_eq_true rfl, Nat.le_of_ble_eq_true rfl⟩) (wc := (ce_X11 kA q_this o_this ++ (ce_X5 kA q_p1 o_p1))) (ci := 9) (q0 := 0) rfl rfl rfl hl.1 (As := [.ref (q_p1 0)]) (rest := []) rfl (Nat.le_of_ble_eq_true rfl) dX11_takeDown_13 ⟨Nat.le_of_ble_eq_true rfl, Nat.le_of_ble_eq_true rfl⟩ hK hP hD hS hA [0, 1, 2, 3, 4, 5] [] [0, 1, 2, 3, 4, 5] rfl (by decide) rfl (by decide) (by decide) rfl (by decide) (wr := []) (w2 := (ce_X11 kA q_this u_2.2 ++ (ce_X5 kA q_p1 o_p1))) (fun H locs hP hD hS => ?_)
        have hP : va_P D vwCl (ce_X11 kA q_this u_2.2 ++ (ce_X5 kA q_p1 o_p1)) H := hP
        refine lv_if_le (tgt := 33) hx hb dX11_takeDown_16 (by decide) (fun hc_4 => ?_) (fun hc_4 => ?_)
        · rw [if_pos hc_4] at hf
          refine lv_iload_n hx hb dX11_takeDown_33 rfl (lv_at hl 2 rfl) ?_
          rw [← Option.some.inj hf]
          exact mc_reti hx hb hr hlk hP hK hD hS dX11_takeDown_34
        · rw [if_neg hc_4] at hf
          refine lv_aload_n hx hb dX11_takeDown_19 rfl (lv_at hl 0 rfl) ?_
          refine lv_aload_n hx hb dX11_takeDown_20 rfl (lv_at hl 1 rfl) ?_
          obtain ⟨u_5, he_6, hf⟩ := os_bd hf
          refine mc_callV ⟨hx, hb, hml, hown, hts⟩ (mm_X11_lowerMarked l D kA N q_this q_p1 u_2.2 o_p1 u_5 he_6) (cwV 1 hts gX11_takeDown_X11_lowerMarked rfl rfl rfl (by decide +kernel) ⟨Nat.le_of_ble_eq_true rfl, Nat.le_of_ble_eq_true rfl⟩) (wc := (ce_X11 kA q_this u_2.2 ++ (ce_X5 kA q_p1 o_p1))) (ci := 9) (q0 := 0) rfl rfl rfl hl.1 (As := [.ref (q_p1 0)]) (rest := []) rfl (Nat.le_of_ble_eq_true rfl) dX11_takeDown_21 ⟨Nat.le_of_ble_eq_true rfl, Nat.le_of_ble_eq_true rfl⟩ hK hP hD hS hA [0, 1, 2, 3, 4, 5] [] [0, 1, 2, 3, 4, 5] rfl (by decide) rfl (by decide) (by decide) rfl (by decide) (wr := []) (w2 := (ce_X11 kA q_this u_2.2 ++ (ce_X5 kA q_p1 u_5))) (fun H locs hP hD hS => ?_)
          have hP : va_P D vwCl (ce_X11 kA q_this u_2.2 ++ (ce_X5 kA q_p1 u_5)) H := hP
          refine lv_iinc (v := x2 + 1) (lv' := [(2, .int (x2 + 1)), (0, .ref (q_this 0)), (1, .ref (q_p1 0)), (3, .int x3)]) hx hb dX11_takeDown_24 hl (k := 2) rfl rfl (by decide) rfl (fun ls hl => ?_)
          refine lv_iinc (v := x3 + 1) (lv' := [(3, .int (x3 + 1)), (2, .int (x2 + 1)), (0, .ref (q_this 0)), (1, .ref (q_p1 0))]) hx hb dX11_takeDown_27 hl (k := 3) rfl rfl (by decide) rfl (fun ls hl => ?_)
          refine lv_goto (tgt := 4) hx hb dX11_takeDown_30 (by decide) ?_
          exact hk4 u_2.2 u_5 (x2 + 1) (x3 + 1) _ _ _ hP hD hS (lv_sub hl [2, 3, 1, 0] rfl) hf
  unfold ff_X11_takeDown at hf
  refine lv_iconst (v := 0) hx hb dX11_takeDown_0 (by decide) ?_
  refine lv_istore_n (lv' := [(2, .int (0 : Int32)), (0, .ref (q_this 0)), (1, .ref (q_p1 0))]) hx hb dX11_takeDown_1 rfl hl (by decide) rfl (fun ls hl => ?_)
  refine lv_iconst (v := 0) hx hb dX11_takeDown_2 (by decide) ?_
  refine lv_istore_n (lv' := [(3, .int (0 : Int32)), (2, .int (0 : Int32)), (0, .ref (q_this 0)), (1, .ref (q_p1 0))]) hx hb dX11_takeDown_3 rfl hl (by decide) rfl (fun ls hl => ?_)
  exact hL4 N o_this o_p1 (0 : Int32) (0 : Int32) _ _ _ hP hD hS (lv_sub hl [2, 3, 1, 0] rfl) hf
def ff_X11_isLimit (N : Nat) (a0 : Int32) : Option Int32 :=
  (if a0 < (1 : Int32) then some (0 : Int32) else (if (20 : Int32) < a0 then some (0 : Int32) else some (1 : Int32)))
set_option maxHeartbeats 4000000 in
set_option maxRecDepth 100000 in
theorem mm_X11_isLimit (l : Launch) (D : va_G) (kA : Nat → ClassId) (N : Nat) (a0 : Int32) (out : Int32) (hf : ff_X11_isLimit N a0 = some out) : mc_C l D kA yX11_isLimit wsX11_isLimit ({ frames := 0, cells := 0, slots := 0, locals := 0 } : Room) [.int a0] [] (some (.int out)) [] := by
  refine mc_of (cc := cX11_isLimit) (maxL := 1) (ret := (some .boolean)) (by decide) rfl (Nat.le_of_ble_eq_true rfl) ?_
  intro p e s m below meth c A B hD hP hS ls hl
  obtain ⟨hx, hb, hr, hlk, hml, hown, hts, hK, hA, hnm⟩ := B
  have hown : s.vm.findClass RX11 = some m.cls := hown
  have hl : lv_has ls 1 [(0, .int a0)] := hl
  unfold ff_X11_isLimit at hf
  refine lv_iload_n hx hb dX11_isLimit_0 rfl (lv_at hl 0 rfl) ?_
  refine lv_iconst (v := 1) hx hb dX11_isLimit_1 (by decide) ?_
  refine lv_icmp_lt (tgt := 15) hx hb dX11_isLimit_2 (by decide) (fun hc_1 => ?_) (fun hc_1 => ?_)
  · rw [if_pos hc_1] at hf
    refine lv_iconst (v := 0) hx hb dX11_isLimit_15 (by decide) ?_
    rw [← Option.some.inj hf]
    exact mc_retz (v := 0) hx hb hr rfl hlk hP hK hD hS dX11_isLimit_16
  · rw [if_neg hc_1] at hf
    refine lv_iload_n hx hb dX11_isLimit_5 rfl (lv_at hl 0 rfl) ?_
    refine lv_bipush (v := 20) hx hb dX11_isLimit_6 (by decide) ?_
    refine lv_icmp_gt (tgt := 15) hx hb dX11_isLimit_8 (by decide) (fun hc_2 => ?_) (fun hc_2 => ?_)
    · rw [if_pos hc_2] at hf
      refine lv_iconst (v := 0) hx hb dX11_isLimit_15 (by decide) ?_
      rw [← Option.some.inj hf]
      exact mc_retz (v := 0) hx hb hr rfl hlk hP hK hD hS dX11_isLimit_16
    · rw [if_neg hc_2] at hf
      refine lv_iconst (v := 1) hx hb dX11_isLimit_11 (by decide) ?_
      refine lv_goto (tgt := 16) hx hb dX11_isLimit_12 (by decide) ?_
      rw [← Option.some.inj hf]
      exact mc_retz (v := 1) hx hb hr rfl hlk hP hK hD hS dX11_isLimit_16
def ff_X11_raiseBeside (N : Nat) (o_p0 : os_T) (a1 : Int32) (a2 : Int32) (a3 : Int32) (a4 : Int32) (a5 : Int32) : Option os_T :=
  ((ff_X5_has N o_p0 a3 a4).bind fun u_1 => (if u_1 = 0 then some o_p0 else ((ff_X5_heightAt N o_p0 a3 a4).bind fun u_4 => ((ff_X5_heightAt N o_p0 a1 a2).bind fun u_6 => ((ff_X5_build N o_p0 a1 a2 (if u_6 < (u_4 - a5) then (u_4 - a5) else u_6)).bind fun u_8 => some u_8.2)))))
set_option maxHeartbeats 4000000 in
set_option maxRecDepth 100000 in
theorem mm_X11_raiseBeside (l : Launch) (D : va_G) (kA : Nat → ClassId) (N : Nat) (q_p0 : Nat → Nat) (o_p0 : os_T) (a1 : Int32) (a2 : Int32) (a3 : Int32) (a4 : Int32) (a5 : Int32) (out : os_T) (hf : ff_X11_raiseBeside N o_p0 a1 a2 a3 a4 a5 = some out) : mc_C l D kA yX11_raiseBeside wsX11_raiseBeside ({ frames := 2, cells := 0, slots := 0, locals := 45 } : Room) [.ref (q_p0 0), .int a1, .int a2, .int a3, .int a4, .int a5] (ce_X5 kA q_p0 o_p0) none (ce_X5 kA q_p0 out) := by
  refine mc_of (cc := cX11_raiseBeside) (maxL := 7) (ret := none) (by decide) rfl (Nat.le_of_ble_eq_true rfl) ?_
  intro p e s m below meth c A B hD hP hS ls hl
  obtain ⟨hx, hb, hr, hlk, hml, hown, hts, hK, hA, hnm⟩ := B
  have hown : s.vm.findClass RX11 = some m.cls := hown
  have hl : lv_has ls 7 [(0, .ref (q_p0 0)), (1, .int a1), (2, .int a2), (3, .int a3), (4, .int a4), (5, .int a5)] := hl
  unfold ff_X11_raiseBeside at hf
  refine lv_aload_n hx hb dX11_raiseBeside_0 rfl (lv_at hl 0 rfl) ?_
  refine lv_iload_n hx hb dX11_raiseBeside_1 rfl (lv_at hl 3 rfl) ?_
  refine lv_iload hx hb dX11_raiseBeside_2 (lv_at hl 4 rfl) ?_
  obtain ⟨u_1, he_2, hf⟩ := os_bd hf
  refine mc_callV ⟨hx, hb, hml, hown, hts⟩ (mm_X5_has l D kA N q_p0 o_p0 a3 a4 u_1 he_2) (cwV 2 hts gX11_raiseBeside_X5_has rfl rfl rfl (by decide +kernel) ⟨Nat.le_of_ble_eq_true rfl, Nat.le_of_ble_eq_true rfl⟩) (wc := (ce_X5 kA q_p0 o_p0)) (ci := 4) (q0 := 0) rfl rfl rfl hl.1 (As := [.int a3, .int a4]) (rest := []) rfl (Nat.le_of_ble_eq_true rfl) dX11_raiseBeside_4 ⟨Nat.le_of_ble_eq_true rfl, Nat.le_of_ble_eq_true rfl⟩ hK hP hD hS hA [0, 1, 2, 3] [] [0, 1, 2, 3] rfl (by decide) rfl (by decide) (by decide) rfl (by decide) (wr := []) (w2 := (ce_X5 kA q_p0 o_p0)) (fun H locs hP hD hS => ?_)
  have hP : va_P D vwCl (ce_X5 kA q_p0 o_p0) H := hP
  refine lv_if_eq (tgt := 40) hx hb dX11_raiseBeside_7 (by decide) (fun hc_3 => ?_) (fun hc_3 => ?_)
  · rw [if_pos hc_3] at hf
    rw [← Option.some.inj hf]
    exact mc_retv hx hb hr hlk hP hK hD hS dX11_raiseBeside_40
  · rw [if_neg hc_3] at hf
    refine lv_aload_n hx hb dX11_raiseBeside_10 rfl (lv_at hl 0 rfl) ?_
    refine lv_iload_n hx hb dX11_raiseBeside_11 rfl (lv_at hl 3 rfl) ?_
    refine lv_iload hx hb dX11_raiseBeside_12 (lv_at hl 4 rfl) ?_
    obtain ⟨u_4, he_5, hf⟩ := os_bd hf
    refine mc_callV ⟨hx, hb, hml, hown, hts⟩ (mm_X5_heightAt l D kA N q_p0 o_p0 a3 a4 u_4 he_5) (cwV 2 hts gX11_raiseBeside_X5_heightAt rfl rfl rfl (by decide +kernel) ⟨Nat.le_of_ble_eq_true rfl, Nat.le_of_ble_eq_true rfl⟩) (wc := (ce_X5 kA q_p0 o_p0)) (ci := 4) (q0 := 0) rfl rfl rfl hl.1 (As := [.int a3, .int a4]) (rest := []) rfl (Nat.le_of_ble_eq_true rfl) dX11_raiseBeside_14 ⟨Nat.le_of_ble_eq_true rfl, Nat.le_of_ble_eq_true rfl⟩ hK hP hD hS hA [0, 1, 2, 3] [] [0, 1, 2, 3] rfl (by decide) rfl (by decide) (by decide) rfl (by decide) (wr := []) (w2 := (ce_X5 kA q_p0 o_p0)) (fun H locs hP hD hS => ?_)
    have hP : va_P D vwCl (ce_X5 kA q_p0 o_p0) H := hP
    refine lv_iload hx hb dX11_raiseBeside_17 (lv_at hl 5 rfl) ?_
    refine lv_isub hx hb dX11_raiseBeside_19 ?_
    refine lv_istore (lv' := [(6, .int (u_4 - a5)), (0, .ref (q_p0 0)), (1, .int a1), (2, .int a2), (3, .int a3), (4, .int a4), (5, .int a5)]) hx hb dX11_raiseBeside_20 hl (by decide) rfl (fun ls hl => ?_)
    refine lv_aload_n hx hb dX11_raiseBeside_22 rfl (lv_at hl 1 rfl) ?_
    refine lv_iload_n hx hb dX11_raiseBeside_23 rfl (lv_at hl 2 rfl) ?_
    refine lv_iload_n hx hb dX11_raiseBeside_24 rfl (lv_at hl 3 rfl) ?_
    refine lv_aload_n hx hb dX11_raiseBeside_25 rfl (lv_at hl 1 rfl) ?_
    refine lv_iload_n hx hb dX11_raiseBeside_26 rfl (lv_at hl 2 rfl) ?_
    refine lv_iload_n hx hb dX11_raiseBeside_27 rfl (lv_at hl 3 rfl) ?_
    obtain ⟨u_6, he_7, hf⟩ := os_bd hf
    refine mc_callV ⟨hx, hb, hml, hown, hts⟩ (mm_X5_heightAt l D kA N q_p0 o_p0 a1 a2 u_6 he_7) (cwV 2 hts gX11_raiseBeside_X5_heightAt rfl rfl rfl (by decide +kernel) ⟨Nat.le_of_ble_eq_true rfl, Nat.le_of_ble_eq_true rfl⟩) (wc := (ce_X5 kA q_p0 o_p0)) (ci := 4) (q0 := 0) rfl rfl rfl hl.1 (As := [.int a1, .int a2]) (rest := [.int a2, .int a1, .ref (q_p0 0)]) rfl (Nat.le_of_ble_eq_true rfl) dX11_raiseBeside_28 ⟨Nat.le_of_ble_eq_true rfl, Nat.le_of_ble_eq_true rfl⟩ hK hP hD hS hA [0, 1, 2, 3] [] [0, 1, 2, 3] rfl (by decide) rfl (by decide) (by decide) rfl (by decide) (wr := []) (w2 := (ce_X5 kA q_p0 o_p0)) (fun H locs hP hD hS => ?_)
    have hP : va_P D vwCl (ce_X5 kA q_p0 o_p0) H := hP
    refine lv_iload hx hb dX11_raiseBeside_31 (lv_at hl 0 rfl) ?_
    refine va_mmax hx hb (hml.trans hl.1.symm) hown (hts (Cond.methodLink RX11 79 Lib.Math.max.name) (List.mem_of_getElem? (i := 1) rfl)) (hts (Cond.static Lib.Math.max.name) (List.mem_of_getElem? (i := 2) rfl)) (hts (Cond.initialized "java/lang/Math") (List.mem_of_getElem? (i := 3) rfl)) (hts (Cond.code Lib.Math.max.name Lib.Math.max.code 2 (some .int)) (List.mem_of_getElem? (i := 4) rfl)) (Nat.le_of_ble_eq_true rfl) (Nat.le_of_ble_eq_true rfl) (Nat.le_of_ble_eq_true rfl) (Nat.le_of_ble_eq_true rfl) dX11_raiseBeside_33 ?_
    obtain ⟨u_8, he_9, hf⟩ := os_bd hf
    refine mc_callV ⟨hx, hb, hml, hown, hts⟩ (mm_X5_build l D kA N q_p0 o_p0 a1 a2 (if u_6 < (u_4 - a5) then (u_4 - a5) else u_6) u_8 he_9) (cwV 3 hts gX11_raiseBeside_X5_build rfl rfl rfl (by decide +kernel) ⟨Nat.le_of_ble_eq_true rfl, Nat.le_of_ble_eq_true rfl⟩) (wc := (ce_X5 kA q_p0 o_p0)) (ci := 4) (q0 := 0) rfl rfl rfl hl.1 (As := [.int a1, .int a2, .int (if u_6 < (u_4 - a5) then (u_4 - a5) else u_6)]) (rest := []) rfl (Nat.le_of_ble_eq_true rfl) dX11_raiseBeside_36 ⟨Nat.le_of_ble_eq_true rfl, Nat.le_of_ble_eq_true rfl⟩ hK hP hD hS hA [0, 1, 2, 3] [] [0, 1, 2, 3] rfl (by decide) rfl (by decide) (by decide) rfl (by decide) (wr := []) (w2 := (ce_X5 kA q_p0 u_8.2)) (fun H locs hP hD hS => ?_)
    have hP : va_P D vwCl (ce_X5 kA q_p0 u_8.2) H := hP
    refine lv_pop hx hb dX11_raiseBeside_39 rfl ?_
    rw [← Option.some.inj hf]
    exact mc_retv hx hb hr hlk hP hK hD hS dX11_raiseBeside_40
def ff_X11_flatten_c84 (N : Nat) (k72 : (os_T × os_T × Int32 × Int32) → Option (Int32 × os_T × os_T)) (k84 : (os_T × os_T × Int32 × Int32 × Int32) → Option (Int32 × os_T × os_T)) (o_p0 : os_T) (o_p1 : os_T) (x2 : Int32) (x3 : Int32) (x4 : Int32) : Option (Int32 × os_T × os_T) :=
  (if x4 < 0 then k72 (o_p0, o_p1, x2, x3 + (-1)) else ((ff_X11_raiseBeside N o_p0 x4 x3 (x4 + (1 : Int32)) x3 x2).bind fun u_13 => ((ff_X11_raiseBeside N u_13 x4 x3 x4 (x3 + (1 : Int32)) x2).bind fun u_15 => k84 (u_15, o_p1, x2, x3, x4 + (-1)))))
def ff_X11_flatten_l84 (N : Nat) (k72 : (os_T × os_T × Int32 × Int32) → Option (Int32 × os_T × os_T)) : Nat → (os_T × os_T × Int32 × Int32 × Int32) → Option (Int32 × os_T × os_T) := os_loop (fun k84 s1 => ff_X11_flatten_c84 N k72 k84 s1.1 s1.2.1 s1.2.2.1 s1.2.2.2.1 s1.2.2.2.2)
def ff_X11_flatten_c72 (N : Nat) (k72 : (os_T × os_T × Int32 × Int32) → Option (Int32 × os_T × os_T)) (o_p0 : os_T) (o_p1 : os_T) (x2 : Int32) (x3 : Int32) : Option (Int32 × os_T × os_T) :=
  (if x3 < 0 then ((ff_X5_differencesTo N o_p0 o_p1).bind fun u_5 => some (u_5, o_p0, o_p1)) else ff_X11_flatten_l84 N k72 N (o_p0, o_p1, x2, x3, (os_I o_p0 0) - (1 : Int32)))
def ff_X11_flatten_l72 (N : Nat) : Nat → (os_T × os_T × Int32 × Int32) → Option (Int32 × os_T × os_T) := os_loop (fun k72 s1 => ff_X11_flatten_c72 N k72 s1.1 s1.2.1 s1.2.2.1 s1.2.2.2)
def ff_X11_flatten_c18 (N : Nat) (k7 : (os_T × os_T × Int32 × Int32) → Option (Int32 × os_T × os_T)) (k18 : (os_T × os_T × Int32 × Int32 × Int32) → Option (Int32 × os_T × os_T)) (o_p0 : os_T) (o_p1 : os_T) (x2 : Int32) (x3 : Int32) (x4 : Int32) : Option (Int32 × os_T × os_T) :=
  (if (os_I o_p0 0) ≤ x4 then k7 (o_p0, o_p1, x2, x3 + 1) else ((ff_X11_raiseBeside N o_p0 x4 x3 (x4 - (1 : Int32)) x3 x2).bind fun u_8 => ((ff_X11_raiseBeside N u_8 x4 x3 x4 (x3 - (1 : Int32)) x2).bind fun u_10 => k18 (u_10, o_p1, x2, x3, x4 + 1))))
def ff_X11_flatten_l18 (N : Nat) (k7 : (os_T × os_T × Int32 × Int32) → Option (Int32 × os_T × os_T)) : Nat → (os_T × os_T × Int32 × Int32 × Int32) → Option (Int32 × os_T × os_T) := os_loop (fun k18 s1 => ff_X11_flatten_c18 N k7 k18 s1.1 s1.2.1 s1.2.2.1 s1.2.2.2.1 s1.2.2.2.2)
def ff_X11_flatten_c7 (N : Nat) (k7 : (os_T × os_T × Int32 × Int32) → Option (Int32 × os_T × os_T)) (o_p0 : os_T) (o_p1 : os_T) (x2 : Int32) (x3 : Int32) : Option (Int32 × os_T × os_T) :=
  (if (os_I o_p0 1) ≤ x3 then ff_X11_flatten_l72 N N (o_p0, o_p1, x2, (os_I o_p0 1) - (1 : Int32)) else ff_X11_flatten_l18 N k7 N (o_p0, o_p1, x2, x3, (0 : Int32)))
def ff_X11_flatten_l7 (N : Nat) : Nat → (os_T × os_T × Int32 × Int32) → Option (Int32 × os_T × os_T) := os_loop (fun k7 s1 => ff_X11_flatten_c7 N k7 s1.1 s1.2.1 s1.2.2.1 s1.2.2.2)
def ff_X11_flatten (N : Nat) (o_p0 : os_T) (o_p1 : os_T) (a2 : Int32) : Option (Int32 × os_T × os_T) :=
  ((ff_X5_copyFrom N o_p1 o_p0).bind fun u_1 => ff_X11_flatten_l7 N N (o_p0, u_1, a2, (0 : Int32)))
set_option maxHeartbeats 4000000 in
set_option maxRecDepth 100000 in
theorem mm_X11_flatten (l : Launch) (D : va_G) (kA : Nat → ClassId) (N : Nat) (q_p0 : Nat → Nat) (q_p1 : Nat → Nat) (o_p0 : os_T) (o_p1 : os_T) (a2 : Int32) (out : (Int32 × os_T × os_T)) (hf : ff_X11_flatten N o_p0 o_p1 a2 = some out) : mc_C l D kA yX11_flatten wsX11_flatten ({ frames := 3, cells := 0, slots := 0, locals := 102 } : Room) [.ref (q_p0 0), .ref (q_p1 0), .int a2] (ce_X5 kA q_p0 o_p0 ++ (ce_X5 kA q_p1 o_p1)) (some (.int out.1)) (ce_X5 kA q_p0 out.2.1 ++ (ce_X5 kA q_p1 out.2.2)) := by
  refine mc_of (cc := cX11_flatten) (maxL := 5) (ret := (some .int)) (by decide) rfl (Nat.le_of_ble_eq_true rfl) ?_
  intro p e s m below meth c A B hD hP hS ls hl
  obtain ⟨hx, hb, hr, hlk, hml, hown, hts, hK, hA, hnm⟩ := B
  have hown : s.vm.findClass RX11 = some m.cls := hown
  have hl : lv_has ls 5 [(0, .ref (q_p0 0)), (1, .ref (q_p1 0)), (2, .int a2)] := hl
  have hUX5 : ∀ w ∈ u_ws RX5 TX5 10, w.before [.ref (q_p0 0), .ref (q_p1 0), .int a2].toArray s = true := fun w h => hts w (List.mem_cons_of_mem _ (List.mem_append_right _ h))
  have hL84 : ∀ (k72 : (os_T × os_T × Int32 × Int32) → Option (Int32 × os_T × os_T)), (∀ (o_p0 : os_T) (o_p1 : os_T) (x2 : Int32) (x3 : Int32) (H : Heap) (locs : List Loc) (ls : Array Slot), va_P D vwCl (ce_X5 kA q_p0 o_p0 ++ (ce_X5 kA q_p1 o_p1)) H → va_D A (ce_X5 kA q_p0 o_p0 ++ (ce_X5 kA q_p1 o_p1)) → va_S A s.heap H locs → lv_has ls 5 [(0, .ref (q_p0 0)), (1, .ref (q_p1 0)), (2, .int x2), (3, .int x3)] → k72 (o_p0, o_p1, x2, x3) = some out → W p l e ({ frames := 3, cells := 0, slots := 0, locals := 102 } : Room) s m [.ref (q_p0 0), .ref (q_p1 0), .int a2].toArray below meth c H locs 0 0 (MQ below (mc_Q D kA A (some (.int out.1)) (ce_X5 kA q_p0 out.2.1 ++ (ce_X5 kA q_p1 out.2.2))) [.ref (q_p0 0), .ref (q_p1 0), .int a2].toArray s 0 0 A) (F0 m 72 ls [])) → ∀ (n : Nat) (o_p0 : os_T) (o_p1 : os_T) (x2 : Int32) (x3 : Int32) (x4 : Int32) (H : Heap) (locs : List Loc) (ls : Array Slot), va_P D vwCl (ce_X5 kA q_p0 o_p0 ++ (ce_X5 kA q_p1 o_p1)) H → va_D A (ce_X5 kA q_p0 o_p0 ++ (ce_X5 kA q_p1 o_p1)) → va_S A s.heap H locs → lv_has ls 5 [(0, .ref (q_p0 0)), (1, .ref (q_p1 0)), (2, .int x2), (3, .int x3), (4, .int x4)] → ff_X11_flatten_l84 N k72 n (o_p0, o_p1, x2, x3, x4) = some out → W p l e ({ frames := 3, cells := 0, slots := 0, locals := 102 } : Room) s m [.ref (q_p0 0), .ref (q_p1 0), .int a2].toArray below meth c H locs 0 0 (MQ below (mc_Q D kA A (some (.int out.1)) (ce_X5 kA q_p0 out.2.1 ++ (ce_X5 kA q_p1 out.2.2))) [.ref (q_p0 0), .ref (q_p1 0), .int a2].toArray s 0 0 A) (F0 m 84 ls []) := by
    intro k72 hk72 n
    induction n with
    | zero => intro o_p0 o_p1 x2 x3 x4 H locs ls _ _ _ _ hf; cases hf
    | succ n hk84 =>
      intro o_p0 o_p1 x2 x3 x4 H locs ls hP hD hS hl hf
      have hf : ff_X11_flatten_c84 N k72 (ff_X11_flatten_l84 N k72 n) o_p0 o_p1 x2 x3 x4 = some out := hf
      generalize hke : ff_X11_flatten_l84 N k72 n = k84 at hk84 hf
      unfold ff_X11_flatten_c84 at hf
      refine lv_iload hx hb dX11_flatten_84 (lv_at hl 4 rfl) ?_
      refine lv_if_lt (tgt := 121) hx hb dX11_flatten_86 (by decide) (fun hc_12 => ?_) (fun hc_12 => ?_)
      · rw [if_pos hc_12] at hf
        refine lv_iinc (v := x3 + (-1)) (lv' := [(3, .int (x3 + (-1))), (0, .ref (q_p0 0)), (1, .ref (q_p1 0)), (2, .int x2), (4, .int x4)]) hx hb dX11_flatten_121 hl (k := 3) rfl rfl (by decide) rfl (fun ls hl => ?_)
        refine lv_goto (tgt := 72) hx hb dX11_flatten_124 (by decide) ?_
        exact hk72 o_p0 o_p1 x2 (x3 + (-1)) _ _ _ hP hD hS (lv_sub hl [1, 2, 3, 0] rfl) hf
      · rw [if_neg hc_12] at hf
        refine lv_aload_n hx hb dX11_flatten_89 rfl (lv_at hl 0 rfl) ?_
        refine lv_iload hx hb dX11_flatten_90 (lv_at hl 4 rfl) ?_
        refine lv_iload_n hx hb dX11_flatten_92 rfl (lv_at hl 3 rfl) ?_
        refine lv_iload hx hb dX11_flatten_93 (lv_at hl 4 rfl) ?_
        refine lv_iconst (v := 1) hx hb dX11_flatten_95 (by decide) ?_
        refine lv_iadd hx hb dX11_flatten_96 ?_
        refine lv_iload_n hx hb dX11_flatten_97 rfl (lv_at hl 3 rfl) ?_
        refine lv_iload_n hx hb dX11_flatten_98 rfl (lv_at hl 2 rfl) ?_
        obtain ⟨u_13, he_14, hf⟩ := os_bd hf
        refine mc_callS ⟨hx, hb, hml, hown, hts⟩ (mm_X11_raiseBeside l D kA N q_p0 o_p0 x4 x3 (x4 + (1 : Int32)) x3 x2 u_13 he_14) (va_cwS 6 hts gX11_flatten_X11_raiseBeside rfl rfl rfl (by decide +kernel) ⟨Nat.le_of_ble_eq_true rfl, Nat.le_of_ble_eq_true rfl⟩) (wc := (ce_X5 kA q_p0 o_p0)) rfl hl.1 (As := [.ref (q_p0 0), .int x4, .int x3, .int (x4 + (1 : Int32)), .int x3, .int x2]) (rest := []) rfl (Nat.le_of_ble_eq_true rfl) dX11_flatten_99 ⟨Nat.le_of_ble_eq_true rfl, Nat.le_of_ble_eq_true rfl⟩ hK hP hD hS hA [0, 1, 2, 3] [4, 5, 6, 7] [4, 5, 6, 7, 0, 1, 2, 3] rfl (by decide) rfl (by decide) (by decide) rfl (by decide) (wr := (ce_X5 kA q_p1 o_p1)) (w2 := (ce_X5 kA q_p0 u_13 ++ (ce_X5 kA q_p1 o_p1))) (fun H locs hP hD hS => ?_)
        have hP : va_P D vwCl (ce_X5 kA q_p0 u_13 ++ (ce_X5 kA q_p1 o_p1)) H := hP
        refine lv_aload_n hx hb dX11_flatten_102 rfl (lv_at hl 0 rfl) ?_
        refine lv_iload hx hb dX11_flatten_103 (lv_at hl 4 rfl) ?_
        refine lv_iload_n hx hb dX11_flatten_105 rfl (lv_at hl 3 rfl) ?_
        refine lv_iload hx hb dX11_flatten_106 (lv_at hl 4 rfl) ?_
        refine lv_iload_n hx hb dX11_flatten_108 rfl (lv_at hl 3 rfl) ?_
        refine lv_iconst (v := 1) hx hb dX11_flatten_109 (by decide) ?_
        refine lv_iadd hx hb dX11_flatten_110 ?_
        refine lv_iload_n hx hb dX11_flatten_111 rfl (lv_at hl 2 rfl) ?_
        obtain ⟨u_15, he_16, hf⟩ := os_bd hf
        refine mc_callS ⟨hx, hb, hml, hown, hts⟩ (mm_X11_raiseBeside l D kA N q_p0 u_13 x4 x3 x4 (x3 + (1 : Int32)) x2 u_15 he_16) (va_cwS 6 hts gX11_flatten_X11_raiseBeside rfl rfl rfl (by decide +kernel) ⟨Nat.le_of_ble_eq_true rfl, Nat.le_of_ble_eq_true rfl⟩) (wc := (ce_X5 kA q_p0 u_13)) rfl hl.1 (As := [.ref (q_p0 0), .int x4, .int x3, .int x4, .int (x3 + (1 : Int32)), .int x2]) (rest := []) rfl (Nat.le_of_ble_eq_true rfl) dX11_flatten_112 ⟨Nat.le_of_ble_eq_true rfl, Nat.le_of_ble_eq_true rfl⟩ hK hP hD hS hA [0, 1, 2, 3] [4, 5, 6, 7] [4, 5, 6, 7, 0, 1, 2, 3] rfl (by decide) rfl (by decide) (by decide) rfl (by decide) (wr := (ce_X5 kA q_p1 o_p1)) (w2 := (ce_X5 kA q_p0 u_15 ++ (ce_X5 kA q_p1 o_p1))) (fun H locs hP hD hS => ?_)
        have hP : va_P D vwCl (ce_X5 kA q_p0 u_15 ++ (ce_X5 kA q_p1 o_p1)) H := hP
        refine lv_iinc (v := x4 + (-1)) (lv' := [(4, .int (x4 + (-1))), (0, .ref (q_p0 0)), (1, .ref (q_p1 0)), (2, .int x2), (3, .int x3)]) hx hb dX11_flatten_115 hl (k := 4) rfl rfl (by decide) rfl (fun ls hl => ?_)
        refine lv_goto (tgt := 84) hx hb dX11_flatten_118 (by decide) ?_
        exact hk84 u_15 o_p1 x2 x3 (x4 + (-1)) _ _ _ hP hD hS (lv_sub hl [1, 2, 3, 4, 0] rfl) hf
  have hL72 : ∀ (n : Nat) (o_p0 : os_T) (o_p1 : os_T) (x2 : Int32) (x3 : Int32) (H : Heap) (locs : List Loc) (ls : Array Slot), va_P D vwCl (ce_X5 kA q_p0 o_p0 ++ (ce_X5 kA q_p1 o_p1)) H → va_D A (ce_X5 kA q_p0 o_p0 ++ (ce_X5 kA q_p1 o_p1)) → va_S A s.heap H locs → lv_has ls 5 [(0, .ref (q_p0 0)), (1, .ref (q_p1 0)), (2, .int x2), (3, .int x3)] → ff_X11_flatten_l72 N n (o_p0, o_p1, x2, x3) = some out → W p l e ({ frames := 3, cells := 0, slots := 0, locals := 102 } : Room) s m [.ref (q_p0 0), .ref (q_p1 0), .int a2].toArray below meth c H locs 0 0 (MQ below (mc_Q D kA A (some (.int out.1)) (ce_X5 kA q_p0 out.2.1 ++ (ce_X5 kA q_p1 out.2.2))) [.ref (q_p0 0), .ref (q_p1 0), .int a2].toArray s 0 0 A) (F0 m 72 ls []) := by
    intro n
    induction n with
    | zero => intro o_p0 o_p1 x2 x3 H locs ls _ _ _ _ hf; cases hf
    | succ n hk72 =>
      intro o_p0 o_p1 x2 x3 H locs ls hP hD hS hl hf
      have hf : ff_X11_flatten_c72 N (ff_X11_flatten_l72 N n) o_p0 o_p1 x2 x3 = some out := hf
      generalize hke : ff_X11_flatten_l72 N n = k72 at hk72 hf
      unfold ff_X11_flatten_c72 at hf
      refine lv_iload_n hx hb dX11_flatten_72 rfl (lv_at hl 3 rfl) ?_
      refine lv_if_lt (tgt := 127) hx hb dX11_flatten_73 (by decide) (fun hc_4 => ?_) (fun hc_4 => ?_)
      · rw [if_pos hc_4] at hf
        refine lv_aload_n hx hb dX11_flatten_127 rfl (lv_at hl 0 rfl) ?_
        refine lv_aload_n hx hb dX11_flatten_128 rfl (lv_at hl 1 rfl) ?_
        obtain ⟨u_5, he_6, hf⟩ := os_bd hf
        refine mc_callV ⟨hx, hb, hml, hown, hts⟩ (mm_X5_differencesTo l D kA N q_p0 q_p1 o_p0 o_p1 u_5 he_6) (cwV 1 hts gX11_flatten_X5_differencesTo rfl rfl rfl (by decide +kernel) ⟨Nat.le_of_ble_eq_true rfl, Nat.le_of_ble_eq_true rfl⟩) (wc := (ce_X5 kA q_p0 o_p0 ++ (ce_X5 kA q_p1 o_p1))) (ci := 4) (q0 := 0) rfl rfl rfl hl.1 (As := [.ref (q_p1 0)]) (rest := []) rfl (Nat.le_of_ble_eq_true rfl) dX11_flatten_129 ⟨Nat.le_of_ble_eq_true rfl, Nat.le_of_ble_eq_true rfl⟩ hK hP hD hS hA [0, 1, 2, 3, 4, 5, 6, 7] [] [0, 1, 2, 3, 4, 5, 6, 7] rfl (by decide) rfl (by decide) (by decide) rfl (by decide) (wr := []) (w2 := (ce_X5 kA q_p0 o_p0 ++ (ce_X5 kA q_p1 o_p1))) (fun H locs hP hD hS => ?_)
        have hP : va_P D vwCl (ce_X5 kA q_p0 o_p0 ++ (ce_X5 kA q_p1 o_p1)) H := hP
        rw [← Option.some.inj hf]
        exact mc_reti hx hb hr hlk hP hK hD hS dX11_flatten_132
      · rw [if_neg hc_4] at hf
        refine lv_aload_n hx hb dX11_flatten_76 rfl (lv_at hl 0 rfl) ?_
        refine va_get (D := D) (ci := 4) (v := .int (os_I o_p0 0)) (C := RX5) (T := TX5) (N := 10) hx hb hUX5 (fun _ h9 => h9) hown hK hP 0 rfl rfl 0 (by decide) (hts (Cond.fieldLink RX11 39 "ReliefBuilder$Panel" "width" "I") (List.mem_of_getElem? (i := 2) rfl)) (fun _ h9 => h9) rfl dX11_flatten_77 ?_
        refine lv_iconst (v := 1) hx hb dX11_flatten_80 (by decide) ?_
        refine lv_isub hx hb dX11_flatten_81 ?_
        refine lv_istore (lv' := [(4, .int ((os_I o_p0 0) - (1 : Int32))), (0, .ref (q_p0 0)), (1, .ref (q_p1 0)), (2, .int x2), (3, .int x3)]) hx hb dX11_flatten_82 hl (by decide) rfl (fun ls hl => ?_)
        exact hL84 k72 hk72 N o_p0 o_p1 x2 x3 ((os_I o_p0 0) - (1 : Int32)) _ _ _ hP hD hS (lv_sub hl [1, 2, 3, 4, 0] rfl) hf
  have hL18 : ∀ (k7 : (os_T × os_T × Int32 × Int32) → Option (Int32 × os_T × os_T)), (∀ (o_p0 : os_T) (o_p1 : os_T) (x2 : Int32) (x3 : Int32) (H : Heap) (locs : List Loc) (ls : Array Slot), va_P D vwCl (ce_X5 kA q_p0 o_p0 ++ (ce_X5 kA q_p1 o_p1)) H → va_D A (ce_X5 kA q_p0 o_p0 ++ (ce_X5 kA q_p1 o_p1)) → va_S A s.heap H locs → lv_has ls 5 [(0, .ref (q_p0 0)), (1, .ref (q_p1 0)), (2, .int x2), (3, .int x3)] → k7 (o_p0, o_p1, x2, x3) = some out → W p l e ({ frames := 3, cells := 0, slots := 0, locals := 102 } : Room) s m [.ref (q_p0 0), .ref (q_p1 0), .int a2].toArray below meth c H locs 0 0 (MQ below (mc_Q D kA A (some (.int out.1)) (ce_X5 kA q_p0 out.2.1 ++ (ce_X5 kA q_p1 out.2.2))) [.ref (q_p0 0), .ref (q_p1 0), .int a2].toArray s 0 0 A) (F0 m 7 ls [])) → ∀ (n : Nat) (o_p0 : os_T) (o_p1 : os_T) (x2 : Int32) (x3 : Int32) (x4 : Int32) (H : Heap) (locs : List Loc) (ls : Array Slot), va_P D vwCl (ce_X5 kA q_p0 o_p0 ++ (ce_X5 kA q_p1 o_p1)) H → va_D A (ce_X5 kA q_p0 o_p0 ++ (ce_X5 kA q_p1 o_p1)) → va_S A s.heap H locs → lv_has ls 5 [(0, .ref (q_p0 0)), (1, .ref (q_p1 0)), (2, .int x2), (3, .int x3), (4, .int x4)] → ff_X11_flatten_l18 N k7 n (o_p0, o_p1, x2, x3, x4) = some out → W p l e ({ frames := 3, cells := 0, slots := 0, locals := 102 } : Room) s m [.ref (q_p0 0), .ref (q_p1 0), .int a2].toArray below meth c H locs 0 0 (MQ below (mc_Q D kA A (some (.int out.1)) (ce_X5 kA q_p0 out.2.1 ++ (ce_X5 kA q_p1 out.2.2))) [.ref (q_p0 0), .ref (q_p1 0), .int a2].toArray s 0 0 A) (F0 m 18 ls []) := by
    intro k7 hk7 n
    induction n with
    | zero => intro o_p0 o_p1 x2 x3 x4 H locs ls _ _ _ _ hf; cases hf
    | succ n hk18 =>
      intro o_p0 o_p1 x2 x3 x4 H locs ls hP hD hS hl hf
      have hf : ff_X11_flatten_c18 N k7 (ff_X11_flatten_l18 N k7 n) o_p0 o_p1 x2 x3 x4 = some out := hf
      generalize hke : ff_X11_flatten_l18 N k7 n = k18 at hk18 hf
      unfold ff_X11_flatten_c18 at hf
      refine lv_iload hx hb dX11_flatten_18 (lv_at hl 4 rfl) ?_
      refine lv_aload_n hx hb dX11_flatten_20 rfl (lv_at hl 0 rfl) ?_
      refine va_get (D := D) (ci := 4) (v := .int (os_I o_p0 0)) (C := RX5) (T := TX5) (N := 10) hx hb hUX5 (fun _ h9 => h9) hown hK hP 0 rfl rfl 0 (by decide) (hts (Cond.fieldLink RX11 39 "ReliefBuilder$Panel" "width" "I") (List.mem_of_getElem? (i := 2) rfl)) (fun _ h9 => h9) rfl dX11_flatten_21 ?_
      refine lv_icmp_ge (tgt := 59) hx hb dX11_flatten_24 (by decide) (fun hc_7 => ?_) (fun hc_7 => ?_)
      · rw [if_pos hc_7] at hf
        refine lv_iinc (v := x3 + 1) (lv' := [(3, .int (x3 + 1)), (0, .ref (q_p0 0)), (1, .ref (q_p1 0)), (2, .int x2), (4, .int x4)]) hx hb dX11_flatten_59 hl (k := 3) rfl rfl (by decide) rfl (fun ls hl => ?_)
        refine lv_goto (tgt := 7) hx hb dX11_flatten_62 (by decide) ?_
        exact hk7 o_p0 o_p1 x2 (x3 + 1) _ _ _ hP hD hS (lv_sub hl [1, 2, 3, 0] rfl) hf
      · rw [if_neg hc_7] at hf
        refine lv_aload_n hx hb dX11_flatten_27 rfl (lv_at hl 0 rfl) ?_
        refine lv_iload hx hb dX11_flatten_28 (lv_at hl 4 rfl) ?_
        refine lv_iload_n hx hb dX11_flatten_30 rfl (lv_at hl 3 rfl) ?_
        refine lv_iload hx hb dX11_flatten_31 (lv_at hl 4 rfl) ?_
        refine lv_iconst (v := 1) hx hb dX11_flatten_33 (by decide) ?_
        refine lv_isub hx hb dX11_flatten_34 ?_
        refine lv_iload_n hx hb dX11_flatten_35 rfl (lv_at hl 3 rfl) ?_
        refine lv_iload_n hx hb dX11_flatten_36 rfl (lv_at hl 2 rfl) ?_
        obtain ⟨u_8, he_9, hf⟩ := os_bd hf
        refine mc_callS ⟨hx, hb, hml, hown, hts⟩ (mm_X11_raiseBeside l D kA N q_p0 o_p0 x4 x3 (x4 - (1 : Int32)) x3 x2 u_8 he_9) (va_cwS 6 hts gX11_flatten_X11_raiseBeside rfl rfl rfl (by decide +kernel) ⟨Nat.le_of_ble_eq_true rfl, Nat.le_of_ble_eq_true rfl⟩) (wc := (ce_X5 kA q_p0 o_p0)) rfl hl.1 (As := [.ref (q_p0 0), .int x4, .int x3, .int (x4 - (1 : Int32)), .int x3, .int x2]) (rest := []) rfl (Nat.le_of_ble_eq_true rfl) dX11_flatten_37 ⟨Nat.le_of_ble_eq_true rfl, Nat.le_of_ble_eq_true rfl⟩ hK hP hD hS hA [0, 1, 2, 3] [4, 5, 6, 7] [4, 5, 6, 7, 0, 1, 2, 3] rfl (by decide) rfl (by decide) (by decide) rfl (by decide) (wr := (ce_X5 kA q_p1 o_p1)) (w2 := (ce_X5 kA q_p0 u_8 ++ (ce_X5 kA q_p1 o_p1))) (fun H locs hP hD hS => ?_)
        have hP : va_P D vwCl (ce_X5 kA q_p0 u_8 ++ (ce_X5 kA q_p1 o_p1)) H := hP
        refine lv_aload_n hx hb dX11_flatten_40 rfl (lv_at hl 0 rfl) ?_
        refine lv_iload hx hb dX11_flatten_41 (lv_at hl 4 rfl) ?_
        refine lv_iload_n hx hb dX11_flatten_43 rfl (lv_at hl 3 rfl) ?_
        refine lv_iload hx hb dX11_flatten_44 (lv_at hl 4 rfl) ?_
        refine lv_iload_n hx hb dX11_flatten_46 rfl (lv_at hl 3 rfl) ?_
        refine lv_iconst (v := 1) hx hb dX11_flatten_47 (by decide) ?_
        refine lv_isub hx hb dX11_flatten_48 ?_
        refine lv_iload_n hx hb dX11_flatten_49 rfl (lv_at hl 2 rfl) ?_
        obtain ⟨u_10, he_11, hf⟩ := os_bd hf
        refine mc_callS ⟨hx, hb, hml, hown, hts⟩ (mm_X11_raiseBeside l D kA N q_p0 u_8 x4 x3 x4 (x3 - (1 : Int32)) x2 u_10 he_11) (va_cwS 6 hts gX11_flatten_X11_raiseBeside rfl rfl rfl (by decide +kernel) ⟨Nat.le_of_ble_eq_true rfl, Nat.le_of_ble_eq_true rfl⟩) (wc := (ce_X5 kA q_p0 u_8)) rfl hl.1 (As := [.ref (q_p0 0), .int x4, .int x3, .int x4, .int (x3 - (1 : Int32)), .int x2]) (rest := []) rfl (Nat.le_of_ble_eq_true rfl) dX11_flatten_50 ⟨Nat.le_of_ble_eq_true rfl, Nat.le_of_ble_eq_true rfl⟩ hK hP hD hS hA [0, 1, 2, 3] [4, 5, 6, 7] [4, 5, 6, 7, 0, 1, 2, 3] rfl (by decide) rfl (by decide) (by decide) rfl (by decide) (wr := (ce_X5 kA q_p1 o_p1)) (w2 := (ce_X5 kA q_p0 u_10 ++ (ce_X5 kA q_p1 o_p1))) (fun H locs hP hD hS => ?_)
        have hP : va_P D vwCl (ce_X5 kA q_p0 u_10 ++ (ce_X5 kA q_p1 o_p1)) H := hP
        refine lv_iinc (v := x4 + 1) (lv' := [(4, .int (x4 + 1)), (0, .ref (q_p0 0)), (1, .ref (q_p1 0)), (2, .int x2), (3, .int x3)]) hx hb dX11_flatten_53 hl (k := 4) rfl rfl (by decide) rfl (fun ls hl => ?_)
        refine lv_goto (tgt := 18) hx hb dX11_flatten_56 (by decide) ?_
        exact hk18 u_10 o_p1 x2 x3 (x4 + 1) _ _ _ hP hD hS (lv_sub hl [1, 2, 3, 4, 0] rfl) hf
  have hL7 : ∀ (n : Nat) (o_p0 : os_T) (o_p1 : os_T) (x2 : Int32) (x3 : Int32) (H : Heap) (locs : List Loc) (ls : Array Slot), va_P D vwCl (ce_X5 kA q_p0 o_p0 ++ (ce_X5 kA q_p1 o_p1)) H → va_D A (ce_X5 kA q_p0 o_p0 ++ (ce_X5 kA q_p1 o_p1)) → va_S A s.heap H locs → lv_has ls 5 [(0, .ref (q_p0 0)), (1, .ref (q_p1 0)), (2, .int x2), (3, .int x3)] → ff_X11_flatten_l7 N n (o_p0, o_p1, x2, x3) = some out → W p l e ({ frames := 3, cells := 0, slots := 0, locals := 102 } : Room) s m [.ref (q_p0 0), .ref (q_p1 0), .int a2].toArray below meth c H locs 0 0 (MQ below (mc_Q D kA A (some (.int out.1)) (ce_X5 kA q_p0 out.2.1 ++ (ce_X5 kA q_p1 out.2.2))) [.ref (q_p0 0), .ref (q_p1 0), .int a2].toArray s 0 0 A) (F0 m 7 ls []) := by
    intro n
    induction n with
    | zero => intro o_p0 o_p1 x2 x3 H locs ls _ _ _ _ hf; cases hf
    | succ n hk7 =>
      intro o_p0 o_p1 x2 x3 H locs ls hP hD hS hl hf
      have hf : ff_X11_flatten_c7 N (ff_X11_flatten_l7 N n) o_p0 o_p1 x2 x3 = some out := hf
      generalize hke : ff_X11_flatten_l7 N n = k7 at hk7 hf
      unfold ff_X11_flatten_c7 at hf
      refine lv_iload_n hx hb dX11_flatten_7 rfl (lv_at hl 3 rfl) ?_
      refine lv_aload_n hx hb dX11_flatten_8 rfl (lv_at hl 0 rfl) ?_
      refine va_get (D := D) (ci := 4) (v := .int (os_I o_p0 1)) (C := RX5) (T := TX5) (N := 10) hx hb hUX5 (fun _ h9 => h9) hown hK hP 0 rfl rfl 1 (by decide) (hts (Cond.fieldLink RX11 36 "ReliefBuilder$Panel" "rows" "I") (List.mem_of_getElem? (i := 1) rfl)) (fun _ h9 => h9) rfl dX11_flatten_9 ?_
      refine lv_icmp_ge (tgt := 65) hx hb dX11_flatten_12 (by decide) (fun hc_3 => ?_) (fun hc_3 => ?_)
      · rw [if_pos hc_3] at hf
        refine lv_aload_n hx hb dX11_flatten_65 rfl (lv_at hl 0 rfl) ?_
        refine va_get (D := D) (ci := 4) (v := .int (os_I o_p0 1)) (C := RX5) (T := TX5) (N := 10) hx hb hUX5 (fun _ h9 => h9) hown hK hP 0 rfl rfl 1 (by decide) (hts (Cond.fieldLink RX11 36 "ReliefBuilder$Panel" "rows" "I") (List.mem_of_getElem? (i := 1) rfl)) (fun _ h9 => h9) rfl dX11_flatten_66 ?_
        refine lv_iconst (v := 1) hx hb dX11_flatten_69 (by decide) ?_
        refine lv_isub hx hb dX11_flatten_70 ?_
        refine lv_istore_n (lv' := [(3, .int ((os_I o_p0 1) - (1 : Int32))), (0, .ref (q_p0 0)), (1, .ref (q_p1 0)), (2, .int x2)]) hx hb dX11_flatten_71 rfl hl (by decide) rfl (fun ls hl => ?_)
        exact hL72 N o_p0 o_p1 x2 ((os_I o_p0 1) - (1 : Int32)) _ _ _ hP hD hS (lv_sub hl [1, 2, 3, 0] rfl) hf
      · rw [if_neg hc_3] at hf
        refine lv_iconst (v := 0) hx hb dX11_flatten_15 (by decide) ?_
        refine lv_istore (lv' := [(4, .int (0 : Int32)), (0, .ref (q_p0 0)), (1, .ref (q_p1 0)), (2, .int x2), (3, .int x3)]) hx hb dX11_flatten_16 hl (by decide) rfl (fun ls hl => ?_)
        exact hL18 k7 hk7 N o_p0 o_p1 x2 x3 (0 : Int32) _ _ _ hP hD hS (lv_sub hl [1, 2, 3, 4, 0] rfl) hf
  unfold ff_X11_flatten at hf
  refine lv_aload_n hx hb dX11_flatten_0 rfl (lv_at hl 1 rfl) ?_
  refine lv_aload_n hx hb dX11_flatten_1 rfl (lv_at hl 0 rfl) ?_
  obtain ⟨u_1, he_2, hf⟩ := os_bd hf
  refine mc_callV ⟨hx, hb, hml, hown, hts⟩ (mm_X5_copyFrom l D kA N q_p1 q_p0 o_p1 o_p0 u_1 he_2) (cwV 1 hts gX11_flatten_X5_copyFrom rfl rfl rfl (by decide +kernel) ⟨Nat.le_of_ble_eq_true rfl, Nat.le_of_ble_eq_true rfl⟩) (wc := (ce_X5 kA q_p1 o_p1 ++ (ce_X5 kA q_p0 o_p0))) (ci := 4) (q0 := 0) rfl rfl rfl hl.1 (As := [.ref (q_p0 0)]) (rest := []) rfl (Nat.le_of_ble_eq_true rfl) dX11_flatten_2 ⟨Nat.le_of_ble_eq_true rfl, Nat.le_of_ble_eq_true rfl⟩ hK hP hD hS hA [4, 5, 6, 7, 0, 1, 2, 3] [] [4, 5, 6, 7, 0, 1, 2, 3] rfl (by decide) rfl (by decide) (by decide) rfl (by decide) (wr := []) (w2 := (ce_X5 kA q_p0 o_p0 ++ (ce_X5 kA q_p1 u_1))) (fun H locs hP hD hS => ?_)
  have hP : va_P D vwCl (ce_X5 kA q_p0 o_p0 ++ (ce_X5 kA q_p1 u_1)) H := hP
  refine lv_iconst (v := 0) hx hb dX11_flatten_5 (by decide) ?_
  refine lv_istore_n (lv' := [(3, .int (0 : Int32)), (0, .ref (q_p0 0)), (1, .ref (q_p1 0)), (2, .int a2)]) hx hb dX11_flatten_6 rfl hl (by decide) rfl (fun ls hl => ?_)
  exact hL7 N o_p0 u_1 a2 (0 : Int32) _ _ _ hP hD hS (lv_sub hl [1, 2, 3, 0] rfl) hf
