def ff_X13_next (zz : Nat → Nat → Nat) (N : Nat) (o_this : os_T) (a1 : Int32) : Option (Int32 × os_T) :=
  ((ff_L_pick zz N ((os_I o_this 12) + (1 : Int32)) a1).bind fun u_1 => some (u_1, ss_I o_this 12 ((os_I o_this 12) + (1 : Int32))))
set_option maxHeartbeats 4000000 in
set_option maxRecDepth 100000 in
theorem mm_X13_next (l : Launch) (hst : l.stackTraces = false) (zz : Nat → Nat → Nat) (D : va_G) (kA : Nat → ClassId) (N : Nat) (at_this : Nat) (ah_this : Nat) (x_this : Nat) (a_this : Nat) (o_this : os_T) (a1 : Int32) (out : Int32 × os_T) (hf : ff_X13_next zz N o_this a1 = some out) : mg_C l zz D kA yX13_next wsX13_next ({ frames := 2, cells := 0, slots := 0, locals := 43 } : Room) [.ref a_this, .int a1] (fl ([ce_X13 a_this at_this ah_this x_this (zz 4 0) o_this] : List va_W)) (fun rv w1 => rv = some (.int out.1) ∧ w1 = (fl ([ce_X13 a_this at_this ah_this x_this (zz 4 0) out.2] : List va_W))) := by
  refine mg_of (cc := cX13_next) (maxL := 2) (ret := (some .int)) (by decide) rfl (Nat.le_of_ble_eq_true rfl) ?_
  intro p e s m below meth c A B hZ hD hP hS ls hl
  obtain ⟨hx, hb, hr, hlk, hml, hown, hts, hK, hA, hnm⟩ := B
  have hown : s.vm.findClass RX13 = some m.cls := hown
  have hl : lv_has ls 2 [(0, .ref a_this), (1, .int a1)] := hl
  have hP : va_P D vwCl (fl ([ce_X13 a_this at_this ah_this x_this (zz 4 0) o_this] : List va_W)) s.heap := hP
  have hUX13 : ∀ w ∈ u_ws RX13 TX13 13, w.before [.ref a_this, .int a1].toArray s = true := fun w h => hts w (List.mem_cons_of_mem _ (List.mem_append_right _ h))
  unfold ff_X13_next at hf
  refine lv_aload_n hx hb dX13_next_0 rfl (lv_at hl 0 rfl) ?_
  refine lv_dup hx hb dX13_next_1 rfl ?_
  refine va_get (D := D) (ci := 11) (v := .int (os_I o_this 12)) (C := RX13) (T := TX13) (N := 13) hx hb hUX13 (fun _ h9 => h9) hown hK hP (pl [ce_X13 a_this at_this ah_this x_this (zz 4 0) o_this] 0 0) (sg_get rfl rfl) rfl 12 (by decide) (hts (Cond.fieldLink RX13 49 "ReliefBuilderLaw$World" "at" "I") (List.mem_of_getElem? (i := 1) rfl)) (fun _ h9 => h9) rfl dX13_next_2 ?_
  refine lv_iconst (v := 1) hx hb dX13_next_5 (by decide) ?_
  refine lv_iadd hx hb dX13_next_6 ?_
  refine va_put (D := D) (ci := 11) (v := .int ((os_I o_this 12) + (1 : Int32))) (ty := .int) (C := RX13) (T := TX13) (N := 13) hx hb hUX13 (fun _ h9 => h9) tyX13 tyX13_ok nmX13 hown hK hP hD hS (pl [ce_X13 a_this at_this ah_this x_this (zz 4 0) o_this] 0 0) (sg_get rfl rfl) rfl 12 (by decide) (hts (Cond.fieldLink RX13 49 "ReliefBuilderLaw$World" "at" "I") (List.mem_of_getElem? (i := 1) rfl)) (fun _ h9 => h9) rfl (tyX13_ok 12 (by decide)) rfl rfl (Nat.le_of_ble_eq_true rfl) dX13_next_7 (fun H locs hP hD hS => ?_)
  have hP : va_P D vwCl (fl ([ce_X13 a_this at_this ah_this x_this (zz 4 0) (ss_I o_this 12 ((os_I o_this 12) + (1 : Int32)))] : List va_W)) _ := sg_P rfl (Nat.le_of_ble_eq_true rfl) rfl hP
  have hD : va_D A (fl ([ce_X13 a_this at_this ah_this x_this (zz 4 0) (ss_I o_this 12 ((os_I o_this 12) + (1 : Int32)))] : List va_W)) := sg_D rfl (Nat.le_of_ble_eq_true rfl) rfl hD
  refine lv_aload_n hx hb dX13_next_10 rfl (lv_at hl 0 rfl) ?_
  refine va_get (D := D) (ci := 11) (v := .ref (zz 4 0)) (C := RX13) (T := TX13) (N := 13) hx hb hUX13 (fun _ h9 => h9) hown hK hP (pl [ce_X13 a_this at_this ah_this x_this (zz 4 0) (ss_I o_this 12 ((os_I o_this 12) + (1 : Int32)))] 0 0) (sg_get rfl rfl) rfl 11 (by decide) (hts (Cond.fieldLink RX13 46 "ReliefBuilderLaw$World" "s" "[I") (List.mem_of_getElem? (i := 2) rfl)) (fun _ h9 => h9) rfl dX13_next_11 ?_
  refine lv_aload_n hx hb dX13_next_14 rfl (lv_at hl 0 rfl) ?_
  refine va_get (D := D) (ci := 11) (v := .int ((os_I o_this 12) + (1 : Int32))) (C := RX13) (T := TX13) (N := 13) hx hb hUX13 (fun _ h9 => h9) hown hK hP (pl [ce_X13 a_this at_this ah_this x_this (zz 4 0) (ss_I o_this 12 ((os_I o_this 12) + (1 : Int32)))] 0 0) (sg_get rfl rfl) rfl 12 (by decide) (hts (Cond.fieldLink RX13 49 "ReliefBuilderLaw$World" "at" "I") (List.mem_of_getElem? (i := 1) rfl)) (fun _ h9 => h9) rfl dX13_next_15 ?_
  refine lv_iload_n hx hb dX13_next_18 rfl (lv_at hl 1 rfl) ?_
  obtain ⟨u_1, he_2, hf⟩ := os_bd hf
  refine mg_callSN (wcs := []) (wrs := [ce_X13 a_this at_this ah_this x_this (zz 4 0) (ss_I o_this 12 ((os_I o_this 12) + (1 : Int32)))]) (ss := [ce_X13 a_this at_this ah_this x_this (zz 4 0) (ss_I o_this 12 ((os_I o_this 12) + (1 : Int32)))]) ⟨hx, hb, hml, hown, hts⟩ (mm_L_pick l hst zz D kA N ((os_I o_this 12) + (1 : Int32)) a1 u_1 he_2) ⟨va_cnB 3 hts gX13_next_L_pick_n52 rfl rfl rfl hZ.2.2.1.2.2.2.2.2.2.2.2.2.2 (hts (Cond.initialized RL) (List.mem_of_getElem? (i := 4) rfl)) (by decide +kernel) ⟨Nat.le_of_ble_eq_true rfl, Nat.le_of_ble_eq_true rfl⟩, hts (Cond.static yL_pick) (List.mem_of_getElem? (i := 3) rfl), trivial⟩ rfl hl.1 (As := [.ref (zz 4 0), .int ((os_I o_this 12) + (1 : Int32)), .int a1]) (rest := []) rfl (Nat.le_of_ble_eq_true rfl) dX13_next_19 ⟨(by show 0 + 0 ≤ 0; omega), (by show 0 + 0 ≤ 0; omega)⟩ hK hP hD hS hA hZ (pm_seg [ce_X13 a_this at_this ah_this x_this (zz 4 0) (ss_I o_this 12 ((os_I o_this 12) + (1 : Int32)))] ([] ++ [ce_X13 a_this at_this ah_this x_this (zz 4 0) (ss_I o_this 12 ((os_I o_this 12) + (1 : Int32)))]) [0] 1 rfl (by decide) rfl (by decide)) (fun rv w1 H locs hq hP hD hS => ?_)
  obtain ⟨rfl, rfl⟩ := hq
  refine W.widen (k := 0) (n := 0) (by show _ + 0 ≤ _; omega) (by show _ + 0 ≤ _; omega) ?_
  have hP : va_P D vwCl (fl ([ce_X13 a_this at_this ah_this x_this (zz 4 0) (ss_I o_this 12 ((os_I o_this 12) + (1 : Int32)))] : List va_W)) _ := (show va_P D vwCl (fl ([] ++ [ce_X13 a_this at_this ah_this x_this (zz 4 0) (ss_I o_this 12 ((os_I o_this 12) + (1 : Int32)))] : List va_W)) _ from (by rw [fl_app]; exact hP))
  have hD : va_D A (fl ([ce_X13 a_this at_this ah_this x_this (zz 4 0) (ss_I o_this 12 ((os_I o_this 12) + (1 : Int32)))] : List va_W)) := (show va_D A (fl ([] ++ [ce_X13 a_this at_this ah_this x_this (zz 4 0) (ss_I o_this 12 ((os_I o_this 12) + (1 : Int32)))] : List va_W)) from (by rw [fl_app]; exact hD))
  refine W.eq (g2 := F0 m 22 ls [.int u_1]) rfl ?_
  have hP : va_P D vwCl (fl ([ce_X13 a_this at_this ah_this x_this (zz 4 0) (ss_I o_this 12 ((os_I o_this 12) + (1 : Int32)))] : List va_W)) _ := hP
  have hD : va_D A (fl ([ce_X13 a_this at_this ah_this x_this (zz 4 0) (ss_I o_this 12 ((os_I o_this 12) + (1 : Int32)))] : List va_W)) := hD
  rw [← Option.some.inj hf]
  exact mg_reti ⟨rfl, rfl⟩ (by show _ ≤ 0; omega) (by show _ ≤ 0; omega) hx hb hr hlk hP hK hD hS dX13_next_22
def ff_X13_end_b28 (N : Nat) (o_this : os_T) (o_p1 : os_T) (o_p1_value : os_T) (t0 : Nat) : Option (os_T × os_T × os_T) :=
  ((ff_J4_append_15ec4 N o_p1 o_p1_value t0).bind fun u_2 => some (o_this, u_2.1, u_2.2))
def ff_X13_end (N : Nat) (o_this : os_T) (o_p1 : os_T) (o_p1_value : os_T) : Option (os_T × os_T × os_T) :=
  (if (((os_I o_this 7) + (1 : Int32)) - ((os_I o_this 7) + (1 : Int32)) / (4 : Int32) * (4 : Int32)) = (2 : Int32) then ff_X13_end_b28 N (ss_I o_this 7 ((os_I o_this 7) + (1 : Int32))) o_p1 o_p1_value 10 else ff_X13_end_b28 N (ss_I o_this 7 ((os_I o_this 7) + (1 : Int32))) o_p1 o_p1_value 11)
set_option maxHeartbeats 4000000 in
set_option maxRecDepth 100000 in
theorem mm_X13_end (l : Launch) (hst : l.stackTraces = false) (zz : Nat → Nat → Nat) (D : va_G) (kA : Nat → ClassId) (N : Nat) (at_this : Nat) (ah_this : Nat) (x_this : Nat) (a_this : Nat) (a_p1 : Nat) (a_p1_value : Nat) (o_this : os_T) (o_p1 : os_T) (o_p1_value : os_T) (out : os_T × os_T × os_T) (hf : ff_X13_end N o_this o_p1 o_p1_value = some out) : mg_C l zz D kA yX13_end wsX13_end ({ frames := 6, cells := 1, slots := 1000, locals := 148 } : Room) [.ref a_this, .ref a_p1] (fl ([ce_X13 a_this at_this ah_this x_this (zz 4 0) o_this, ce_K4 a_p1 a_p1_value o_p1, ce_BA kA a_p1_value o_p1_value] : List va_W)) (fun rv w1 => ∃ e_p1_value : Nat, rv = none ∧ w1 = (fl ([ce_X13 a_this at_this ah_this x_this (zz 4 0) out.1, ce_K4 a_p1 e_p1_value out.2.1, ce_BA kA e_p1_value out.2.2] : List va_W))) := by
  refine mg_of (cc := cX13_end) (maxL := 2) (ret := none) (by decide) rfl (Nat.le_of_ble_eq_true rfl) ?_
  intro p e s m below meth c A B hZ hD hP hS ls hl
  obtain ⟨hx, hb, hr, hlk, hml, hown, hts, hK, hA, hnm⟩ := B
  have hown : s.vm.findClass RX13 = some m.cls := hown
  have hl : lv_has ls 2 [(0, .ref a_this), (1, .ref a_p1)] := hl
  have hP : va_P D vwCl (fl ([ce_X13 a_this at_this ah_this x_this (zz 4 0) o_this, ce_K4 a_p1 a_p1_value o_p1, ce_BA kA a_p1_value o_p1_value] : List va_W)) s.heap := hP
  have hUX13 : ∀ w ∈ u_ws RX13 TX13 13, w.before [.ref a_this, .ref a_p1].toArray s = true := fun w h => hts w (List.mem_cons_of_mem _ (List.mem_append_left _ (List.mem_append_left _ (List.mem_append_right _ h))))
  have hB28 : ∀ (o_this : os_T) (o_p1 : os_T) (o_p1_value : os_T) (t0 : Nat) (a_p1_value : Nat) (H : Heap) (locs : List Loc) (ls : Array Slot), va_P D vwCl (fl ([ce_X13 a_this at_this ah_this x_this (zz 4 0) o_this, ce_K4 a_p1 a_p1_value o_p1, ce_BA kA a_p1_value o_p1_value] : List va_W)) H → va_D A (fl ([ce_X13 a_this at_this ah_this x_this (zz 4 0) o_this, ce_K4 a_p1 a_p1_value o_p1, ce_BA kA a_p1_value o_p1_value] : List va_W)) → va_S A s.heap H locs → lv_has ls 2 [] → ff_X13_end_b28 N o_this o_p1 o_p1_value t0 = some out → W p l e ({ frames := 6, cells := 1, slots := 1000, locals := 148 } : Room) s m [.ref a_this, .ref a_p1].toArray below meth c H locs 0 0 (MQ below (mg_Q D kA A (fun rv w1 => ∃ e_p1_value : Nat, rv = none ∧ w1 = (fl ([ce_X13 a_this at_this ah_this x_this (zz 4 0) out.1, ce_K4 a_p1 e_p1_value out.2.1, ce_BA kA e_p1_value out.2.2] : List va_W)))) [.ref a_this, .ref a_p1].toArray s 1 1000 A) (F0 m 28 ls [.ref (zz 0 t0), .ref a_p1]) := by
    intro o_this o_p1 o_p1_value t0 a_p1_value H locs ls hP hD hS hl hf
    unfold ff_X13_end_b28 at hf
    obtain ⟨u_2, he_3, hf⟩ := os_bd hf
    refine mg_callV (wcs := [ce_K4 a_p1 a_p1_value o_p1, ce_BA kA a_p1_value o_p1_value]) (wrs := [ce_X13 a_this at_this ah_this x_this (zz 4 0) o_this]) (ss := [ce_X13 a_this at_this ah_this x_this (zz 4 0) o_this, ce_K4 a_p1 a_p1_value o_p1, ce_BA kA a_p1_value o_p1_value]) ⟨hx, hb, hml, hown, hts⟩ (mm_J4_append_15ec4 l hst zz D kA N a_p1 a_p1_value o_p1 o_p1_value t0 u_2 he_3) (cwV 1 hts gX13_end_J4_append_15ec4 rfl rfl rfl (by decide +kernel) ⟨Nat.le_of_ble_eq_true rfl, Nat.le_of_ble_eq_true rfl⟩) (va_recv hK hP (q0 := pl [ce_X13 a_this at_this ah_this x_this (zz 4 0) o_this, ce_K4 a_p1 a_p1_value o_p1, ce_BA kA a_p1_value o_p1_value] 1 0) rfl (sg_get rfl rfl)) rfl hl.1 (As := [.ref (zz 0 t0)]) (rest := []) rfl (Nat.le_of_ble_eq_true rfl) dX13_end_28 ⟨(by show 0 + 1 ≤ 1; omega), (by show 0 + 1000 ≤ 1000; omega)⟩ hK hP hD hS hA hZ (pm_seg [ce_X13 a_this at_this ah_this x_this (zz 4 0) o_this, ce_K4 a_p1 a_p1_value o_p1, ce_BA kA a_p1_value o_p1_value] ([ce_K4 a_p1 a_p1_value o_p1, ce_BA kA a_p1_value o_p1_value] ++ [ce_X13 a_this at_this ah_this x_this (zz 4 0) o_this]) [1, 2, 0] 3 rfl (by decide) rfl (by decide)) (fun rv w1 H locs hq hP hD hS => ?_)
    obtain ⟨e_this_value_4, rfl, rfl⟩ := hq
    refine W.widen (k := 1) (n := 1000) (by show _ + 1 ≤ _; omega) (by show _ + 1000 ≤ _; omega) ?_
    have hP : va_P D vwCl (fl ([ce_K4 a_p1 e_this_value_4 u_2.1, ce_BA kA e_this_value_4 u_2.2, ce_X13 a_this at_this ah_this x_this (zz 4 0) o_this] : List va_W)) _ := (show va_P D vwCl (fl ([ce_K4 a_p1 e_this_value_4 u_2.1, ce_BA kA e_this_value_4 u_2.2] ++ [ce_X13 a_this at_this ah_this x_this (zz 4 0) o_this] : List va_W)) _ from (by rw [fl_app]; exact hP))
    have hD : va_D A (fl ([ce_K4 a_p1 e_this_value_4 u_2.1, ce_BA kA e_this_value_4 u_2.2, ce_X13 a_this at_this ah_this x_this (zz 4 0) o_this] : List va_W)) := (show va_D A (fl ([ce_K4 a_p1 e_this_value_4 u_2.1, ce_BA kA e_this_value_4 u_2.2] ++ [ce_X13 a_this at_this ah_this x_this (zz 4 0) o_this] : List va_W)) from (by rw [fl_app]; exact hD))
    refine W.eq (g2 := F0 m 31 ls [.ref a_p1]) rfl ?_
    refine lv_pop hx hb dX13_end_31 rfl ?_
    have hP : va_P D vwCl (fl ([ce_X13 a_this at_this ah_this x_this (zz 4 0) o_this, ce_K4 a_p1 e_this_value_4 u_2.1, ce_BA kA e_this_value_4 u_2.2] : List va_W)) _ := hP.pm (pm_seg [ce_K4 a_p1 e_this_value_4 u_2.1, ce_BA kA e_this_value_4 u_2.2, ce_X13 a_this at_this ah_this x_this (zz 4 0) o_this] [ce_X13 a_this at_this ah_this x_this (zz 4 0) o_this, ce_K4 a_p1 e_this_value_4 u_2.1, ce_BA kA e_this_value_4 u_2.2] [2, 0, 1] 3 rfl (by decide) rfl (by decide))
    have hD : va_D A (fl ([ce_X13 a_this at_this ah_this x_this (zz 4 0) o_this, ce_K4 a_p1 e_this_value_4 u_2.1, ce_BA kA e_this_value_4 u_2.2] : List va_W)) := hD.pm (pm_seg [ce_K4 a_p1 e_this_value_4 u_2.1, ce_BA kA e_this_value_4 u_2.2, ce_X13 a_this at_this ah_this x_this (zz 4 0) o_this] [ce_X13 a_this at_this ah_this x_this (zz 4 0) o_this, ce_K4 a_p1 e_this_value_4 u_2.1, ce_BA kA e_this_value_4 u_2.2] [2, 0, 1] 3 rfl (by decide) rfl (by decide))
    have hP : va_P D vwCl (fl ([ce_X13 a_this at_this ah_this x_this (zz 4 0) o_this, ce_K4 a_p1 e_this_value_4 u_2.1, ce_BA kA e_this_value_4 u_2.2] : List va_W)) _ := hP
    have hD : va_D A (fl ([ce_X13 a_this at_this ah_this x_this (zz 4 0) o_this, ce_K4 a_p1 e_this_value_4 u_2.1, ce_BA kA e_this_value_4 u_2.2] : List va_W)) := hD
    rw [← Option.some.inj hf]
    exact mg_retv ⟨e_this_value_4, rfl, rfl⟩ (by show _ ≤ 1; omega) (by show _ ≤ 1000; omega) hx hb hr hlk hP hK hD hS dX13_end_32
  unfold ff_X13_end at hf
  refine lv_aload_n hx hb dX13_end_0 rfl (lv_at hl 0 rfl) ?_
  refine lv_dup hx hb dX13_end_1 rfl ?_
  refine va_get (D := D) (ci := 11) (v := .int (os_I o_this 7)) (C := RX13) (T := TX13) (N := 13) hx hb hUX13 (fun _ h9 => h9) hown hK hP (pl [ce_X13 a_this at_this ah_this x_this (zz 4 0) o_this, ce_K4 a_p1 a_p1_value o_p1, ce_BA kA a_p1_value o_p1_value] 0 0) (sg_get rfl rfl) rfl 7 (by decide) (hts (Cond.fieldLink RX13 58 "ReliefBuilderLaw$World" "statements" "I") (List.mem_of_getElem? (i := 1) rfl)) (fun _ h9 => h9) rfl dX13_end_2 ?_
  refine lv_iconst (v := 1) hx hb dX13_end_5 (by decide) ?_
  refine lv_iadd hx hb dX13_end_6 ?_
  refine va_put (D := D) (ci := 11) (v := .int ((os_I o_this 7) + (1 : Int32))) (ty := .int) (C := RX13) (T := TX13) (N := 13) hx hb hUX13 (fun _ h9 => h9) tyX13 tyX13_ok nmX13 hown hK hP hD hS (pl [ce_X13 a_this at_this ah_this x_this (zz 4 0) o_this, ce_K4 a_p1 a_p1_value o_p1, ce_BA kA a_p1_value o_p1_value] 0 0) (sg_get rfl rfl) rfl 7 (by decide) (hts (Cond.fieldLink RX13 58 "ReliefBuilderLaw$World" "statements" "I") (List.mem_of_getElem? (i := 1) rfl)) (fun _ h9 => h9) rfl (tyX13_ok 7 (by decide)) rfl rfl (Nat.le_of_ble_eq_true rfl) dX13_end_7 (fun H locs hP hD hS => ?_)
  have hP : va_P D vwCl (fl ([ce_X13 a_this at_this ah_this x_this (zz 4 0) (ss_I o_this 7 ((os_I o_this 7) + (1 : Int32))), ce_K4 a_p1 a_p1_value o_p1, ce_BA kA a_p1_value o_p1_value] : List va_W)) _ := sg_P rfl (Nat.le_of_ble_eq_true rfl) rfl hP
  have hD : va_D A (fl ([ce_X13 a_this at_this ah_this x_this (zz 4 0) (ss_I o_this 7 ((os_I o_this 7) + (1 : Int32))), ce_K4 a_p1 a_p1_value o_p1, ce_BA kA a_p1_value o_p1_value] : List va_W)) := sg_D rfl (Nat.le_of_ble_eq_true rfl) rfl hD
  refine lv_aload_n hx hb dX13_end_10 rfl (lv_at hl 1 rfl) ?_
  refine lv_aload_n hx hb dX13_end_11 rfl (lv_at hl 0 rfl) ?_
  refine va_get (D := D) (ci := 11) (v := .int ((os_I o_this 7) + (1 : Int32))) (C := RX13) (T := TX13) (N := 13) hx hb hUX13 (fun _ h9 => h9) hown hK hP (pl [ce_X13 a_this at_this ah_this x_this (zz 4 0) (ss_I o_this 7 ((os_I o_this 7) + (1 : Int32))), ce_K4 a_p1 a_p1_value o_p1, ce_BA kA a_p1_value o_p1_value] 0 0) (sg_get rfl rfl) rfl 7 (by decide) (hts (Cond.fieldLink RX13 58 "ReliefBuilderLaw$World" "statements" "I") (List.mem_of_getElem? (i := 1) rfl)) (fun _ h9 => h9) rfl dX13_end_12 ?_
  refine lv_iconst (v := 4) hx hb dX13_end_15 (by decide) ?_
  refine lv_irem hx hb dX13_end_16 (by decide) ?_
  refine lv_iconst (v := 2) hx hb dX13_end_17 (by decide) ?_
  refine lv_icmp_ne (tgt := 26) hx hb dX13_end_18 (by decide) (fun hc_1 => ?_) (fun hc_1 => ?_)
  · rw [if_neg (show ¬ ((((os_I o_this 7) + (1 : Int32)) - ((os_I o_this 7) + (1 : Int32)) / (4 : Int32) * (4 : Int32)) = (2 : Int32)) from hc_1)] at hf
    refine va_ldcS hx hb hown (hZ.2.2.2.2.2.2.2.1 4 (by decide)) dX13_end_26 ?_
    exact hB28 (ss_I o_this 7 ((os_I o_this 7) + (1 : Int32))) o_p1 o_p1_value 11 a_p1_value _ _ _ hP hD hS (lv_sub hl [] rfl) hf
  · rw [if_pos (show (((os_I o_this 7) + (1 : Int32)) - ((os_I o_this 7) + (1 : Int32)) / (4 : Int32) * (4 : Int32)) = (2 : Int32) from hc_1)] at hf
    refine va_ldcS hx hb hown (hZ.2.2.2.2.2.2.2.1 3 (by decide)) dX13_end_21 ?_
    refine lv_goto (tgt := 28) hx hb dX13_end_23 (by decide) ?_
    exact hB28 (ss_I o_this 7 ((os_I o_this 7) + (1 : Int32))) o_p1 o_p1_value 10 a_p1_value _ _ _ hP hD hS (lv_sub hl [] rfl) hf
def ff_X13_has (N : Nat) (o_this : os_T) (a1 : Int32) (a2 : Int32) : Option Int32 :=
  (if a1 < 0 then some (0 : Int32) else (if a2 < 0 then some (0 : Int32) else (if (os_I o_this 0) ≤ a1 then some (0 : Int32) else (if (os_I o_this 1) ≤ a2 then some (0 : Int32) else some (1 : Int32)))))
set_option maxHeartbeats 4000000 in
set_option maxRecDepth 100000 in
theorem mm_X13_has (l : Launch) (hst : l.stackTraces = false) (zz : Nat → Nat → Nat) (D : va_G) (kA : Nat → ClassId) (N : Nat) (at_this : Nat) (ah_this : Nat) (s_this : Nat) (x_this : Nat) (a_this : Nat) (o_this : os_T) (a1 : Int32) (a2 : Int32) (out : Int32) (hf : ff_X13_has N o_this a1 a2 = some out) : mg_C l zz D kA yX13_has wsX13_has ({ frames := 0, cells := 0, slots := 0, locals := 0 } : Room) [.ref a_this, .int a1, .int a2] (fl ([ce_X13 a_this at_this ah_this x_this s_this o_this] : List va_W)) (fun rv w1 => rv = some (.int out) ∧ w1 = (fl ([ce_X13 a_this at_this ah_this x_this s_this o_this] : List va_W))) := by
  refine mg_of (cc := cX13_has) (maxL := 3) (ret := (some .boolean)) (by decide) rfl (Nat.le_of_ble_eq_true rfl) ?_
  intro p e s m below meth c A B hZ hD hP hS ls hl
  obtain ⟨hx, hb, hr, hlk, hml, hown, hts, hK, hA, hnm⟩ := B
  have hown : s.vm.findClass RX13 = some m.cls := hown
  have hl : lv_has ls 3 [(0, .ref a_this), (1, .int a1), (2, .int a2)] := hl
  have hP : va_P D vwCl (fl ([ce_X13 a_this at_this ah_this x_this s_this o_this] : List va_W)) s.heap := hP
  have hUX13 : ∀ w ∈ u_ws RX13 TX13 13, w.before [.ref a_this, .int a1, .int a2].toArray s = true := fun w h => hts w (List.mem_cons_of_mem _ (List.mem_append_right _ h))
  unfold ff_X13_has at hf
  refine lv_iload_n hx hb dX13_has_0 rfl (lv_at hl 1 rfl) ?_
  refine lv_if_lt (tgt := 28) hx hb dX13_has_1 (by decide) (fun hc_1 => ?_) (fun hc_1 => ?_)
  · rw [if_pos (show a1 < 0 from hc_1)] at hf
    refine lv_iconst (v := 0) hx hb dX13_has_28 (by decide) ?_
    have hP : va_P D vwCl (fl ([ce_X13 a_this at_this ah_this x_this s_this o_this] : List va_W)) _ := hP
    have hD : va_D A (fl ([ce_X13 a_this at_this ah_this x_this s_this o_this] : List va_W)) := hD
    rw [← Option.some.inj hf]
    exact mg_retz ⟨rfl, rfl⟩ (by show _ ≤ 0; omega) (by show _ ≤ 0; omega) hx hb hr rfl hlk hP hK hD hS dX13_has_29
  · rw [if_neg (show ¬ (a1 < 0) from hc_1)] at hf
    refine lv_iload_n hx hb dX13_has_4 rfl (lv_at hl 2 rfl) ?_
    refine lv_if_lt (tgt := 28) hx hb dX13_has_5 (by decide) (fun hc_2 => ?_) (fun hc_2 => ?_)
    · rw [if_pos (show a2 < 0 from hc_2)] at hf
      refine lv_iconst (v := 0) hx hb dX13_has_28 (by decide) ?_
      have hP : va_P D vwCl (fl ([ce_X13 a_this at_this ah_this x_this s_this o_this] : List va_W)) _ := hP
      have hD : va_D A (fl ([ce_X13 a_this at_this ah_this x_this s_this o_this] : List va_W)) := hD
      rw [← Option.some.inj hf]
      exact mg_retz ⟨rfl, rfl⟩ (by show _ ≤ 0; omega) (by show _ ≤ 0; omega) hx hb hr rfl hlk hP hK hD hS dX13_has_29
    · rw [if_neg (show ¬ (a2 < 0) from hc_2)] at hf
      refine lv_iload_n hx hb dX13_has_8 rfl (lv_at hl 1 rfl) ?_
      refine lv_aload_n hx hb dX13_has_9 rfl (lv_at hl 0 rfl) ?_
      refine va_get (D := D) (ci := 11) (v := .int (os_I o_this 0)) (C := RX13) (T := TX13) (N := 13) hx hb hUX13 (fun _ h9 => h9) hown hK hP (pl [ce_X13 a_this at_this ah_this x_this s_this o_this] 0 0) (sg_get rfl rfl) rfl 0 (by decide) (hts (Cond.fieldLink RX13 7 "ReliefBuilderLaw$World" "wide" "I") (List.mem_of_getElem? (i := 1) rfl)) (fun _ h9 => h9) rfl dX13_has_10 ?_
      refine lv_icmp_ge (tgt := 28) hx hb dX13_has_13 (by decide) (fun hc_3 => ?_) (fun hc_3 => ?_)
      · rw [if_pos (show (os_I o_this 0) ≤ a1 from hc_3)] at hf
        refine lv_iconst (v := 0) hx hb dX13_has_28 (by decide) ?_
        have hP : va_P D vwCl (fl ([ce_X13 a_this at_this ah_this x_this s_this o_this] : List va_W)) _ := hP
        have hD : va_D A (fl ([ce_X13 a_this at_this ah_this x_this s_this o_this] : List va_W)) := hD
        rw [← Option.some.inj hf]
        exact mg_retz ⟨rfl, rfl⟩ (by show _ ≤ 0; omega) (by show _ ≤ 0; omega) hx hb hr rfl hlk hP hK hD hS dX13_has_29
      · rw [if_neg (show ¬ ((os_I o_this 0) ≤ a1) from hc_3)] at hf
        refine lv_iload_n hx hb dX13_has_16 rfl (lv_at hl 2 rfl) ?_
        refine lv_aload_n hx hb dX13_has_17 rfl (lv_at hl 0 rfl) ?_
        refine va_get (D := D) (ci := 11) (v := .int (os_I o_this 1)) (C := RX13) (T := TX13) (N := 13) hx hb hUX13 (fun _ h9 => h9) hown hK hP (pl [ce_X13 a_this at_this ah_this x_this s_this o_this] 0 0) (sg_get rfl rfl) rfl 1 (by decide) (hts (Cond.fieldLink RX13 13 "ReliefBuilderLaw$World" "high" "I") (List.mem_of_getElem? (i := 2) rfl)) (fun _ h9 => h9) rfl dX13_has_18 ?_
        refine lv_icmp_ge (tgt := 28) hx hb dX13_has_21 (by decide) (fun hc_4 => ?_) (fun hc_4 => ?_)
        · rw [if_pos (show (os_I o_this 1) ≤ a2 from hc_4)] at hf
          refine lv_iconst (v := 0) hx hb dX13_has_28 (by decide) ?_
          have hP : va_P D vwCl (fl ([ce_X13 a_this at_this ah_this x_this s_this o_this] : List va_W)) _ := hP
          have hD : va_D A (fl ([ce_X13 a_this at_this ah_this x_this s_this o_this] : List va_W)) := hD
          rw [← Option.some.inj hf]
          exact mg_retz ⟨rfl, rfl⟩ (by show _ ≤ 0; omega) (by show _ ≤ 0; omega) hx hb hr rfl hlk hP hK hD hS dX13_has_29
        · rw [if_neg (show ¬ ((os_I o_this 1) ≤ a2) from hc_4)] at hf
          refine lv_iconst (v := 1) hx hb dX13_has_24 (by decide) ?_
          refine lv_goto (tgt := 29) hx hb dX13_has_25 (by decide) ?_
          have hP : va_P D vwCl (fl ([ce_X13 a_this at_this ah_this x_this s_this o_this] : List va_W)) _ := hP
          have hD : va_D A (fl ([ce_X13 a_this at_this ah_this x_this s_this o_this] : List va_W)) := hD
          rw [← Option.some.inj hf]
          exact mg_retz ⟨rfl, rfl⟩ (by show _ ≤ 0; omega) (by show _ ≤ 0; omega) hx hb hr rfl hlk hP hK hD hS dX13_has_29
def ff_X13_light_f : Nat → os_T → Int32 → Option UInt32
  | 0, _, _ => none
  | n + 1, o, a => if a = (0 : Int32) then some FP.fconst1 else (ff_X13_light_f n o (a - (1 : Int32))).bind fun r => if os_nn (FP.fdiv (FP.i2f (os_I o 3)) (1120403456 : UInt32)) then (if os_nn (FP.fmul r (FP.fdiv (FP.i2f (os_I o 3)) (1120403456 : UInt32))) then some (FP.fmul r (FP.fdiv (FP.i2f (os_I o 3)) (1120403456 : UInt32))) else none) else none
def ff_X13_light (N : Nat) (o_this : os_T) (a1 : Int32) : Option UInt32 := ff_X13_light_f 25 o_this a1
set_option maxHeartbeats 4000000 in
set_option maxRecDepth 100000 in
theorem mm_X13_light_f (l : Launch) (hst : l.stackTraces = false) (zz : Nat → Nat → Nat) (D : va_G) (kA : Nat → ClassId) (at_this ah_this s_this x_this a_this : Nat) (o_this : os_T) : ∀ (n : Nat) (a1 : Int32) (out : UInt32) (hf : ff_X13_light_f n o_this a1 = some out), mg_C l zz D kA yX13_light wsX13_light ({ frames := n, cells := 0, slots := 0, locals := n * 21 } : Room) [.ref a_this, .int a1] (fl ([ce_X13 a_this at_this ah_this x_this s_this o_this] : List va_W)) (fun rv w1 => rv = some (.float out) ∧ w1 = (fl ([ce_X13 a_this at_this ah_this x_this s_this o_this] : List va_W))) := by
  intro n
  induction n with
  | zero => intro a1 out hf; cases hf
  | succ n ih =>
    intro a1 out hf
    refine mg_of (cc := cX13_light) (maxL := 2) (ret := (some .float)) (by decide) rfl (Nat.le_of_ble_eq_true rfl) ?_
    intro p e s m below meth c A B hZ hD hP hS ls hl
    obtain ⟨hx, hb, hr, hlk, hml, hown, hts, hK, hA, hnm⟩ := B
    have hown : s.vm.findClass RX13 = some m.cls := hown
    have hl : lv_has ls 2 [(0, .ref a_this), (1, .int a1)] := hl
    have hUX13 : ∀ w ∈ u_ws RX13 TX13 13, w.before ([.ref a_this, .int a1] : List Value).toArray s = true := fun w h => hts w (List.mem_cons_of_mem _ (List.mem_append_right _ h))
    have hf : (if a1 = (0 : Int32) then some FP.fconst1 else (ff_X13_light_f n o_this (a1 - (1 : Int32))).bind fun r => if os_nn (FP.fdiv (FP.i2f (os_I o_this 3)) (1120403456 : UInt32)) then (if os_nn (FP.fmul r (FP.fdiv (FP.i2f (os_I o_this 3)) (1120403456 : UInt32))) then some (FP.fmul r (FP.fdiv (FP.i2f (os_I o_this 3)) (1120403456 : UInt32))) else none) else none) = some out := hf
    refine lv_iload_n hx hb dX13_light_0 rfl (lv_at hl 1 rfl) ?_
    refine lv_if_ne (tgt := 8) hx hb dX13_light_1 (by decide) (fun h0 => ?_) (fun h0 => ?_)
    · rw [if_neg (show ¬ (a1 = (0 : Int32)) from h0)] at hf
      obtain ⟨r, he, hf⟩ := os_bd hf
      obtain ⟨hn1, hf⟩ := os_if hf
      obtain ⟨hn2, hf⟩ := os_if hf
      refine lv_aload_n hx hb dX13_light_8 rfl (lv_at hl 0 rfl) ?_
      refine lv_iload_n hx hb dX13_light_9 rfl (lv_at hl 1 rfl) ?_
      refine lv_iconst (v := 1) hx hb dX13_light_10 (by decide) ?_
      refine lv_isub hx hb dX13_light_11 ?_
      refine mg_callV (wcs := [ce_X13 a_this at_this ah_this x_this s_this o_this]) (wrs := []) (ss := [ce_X13 a_this at_this ah_this x_this s_this o_this]) ⟨hx, hb, hml, hown, hts⟩ (ih _ r he) (cwV 1 hts gX13_light_X13_light rfl rfl rfl (by decide +kernel) ⟨Nat.le_refl _, by show 8 + (2 + 11) + n * 21 ≤ (n + 1) * 21; omega⟩) (va_recv hK hP (q0 := pl [ce_X13 a_this at_this ah_this x_this s_this o_this] 0 0) rfl (sg_get rfl rfl)) rfl hl.1 (As := [.int (a1 - (1 : Int32))]) (rest := []) rfl (Nat.le_of_ble_eq_true rfl) dX13_light_12 ⟨Nat.le_refl _, Nat.le_refl _⟩ hK hP hD hS hA hZ (List.Perm.refl _) (fun rv w1 H locs hq hP hD hS => ?_)
      obtain ⟨rfl, rfl⟩ := hq
      have hP : va_P D vwCl (fl ([ce_X13 a_this at_this ah_this x_this s_this o_this] : List va_W)) H := hP
      have hD : va_D A (fl ([ce_X13 a_this at_this ah_this x_this s_this o_this] : List va_W)) := hD
      refine W.eq (g2 := F0 m 15 ls [.float r]) rfl ?_
      refine lv_aload_n hx hb dX13_light_15 rfl (lv_at hl 0 rfl) ?_
      refine va_get (D := D) (ci := 11) (v := .int (os_I o_this 3)) (C := RX13) (T := TX13) (N := 13) hx hb hUX13 (fun _ h9 => h9) hown hK hP (pl [ce_X13 a_this at_this ah_this x_this s_this o_this] 0 0) (sg_get rfl rfl) rfl 3 (by decide) (hts (Cond.fieldLink RX13 19 "ReliefBuilderLaw$World" "glass" "I") (List.mem_of_getElem? (i := 1) rfl)) (fun _ h9 => h9) rfl dX13_light_16 ?_
      refine lv_i2f hx hb dX13_light_19 ?_
      refine lv_ldcf hx hb hown (hts (Cond.constantFloat RX13 130 (1120403456)) (List.mem_of_getElem? (i := 2) rfl)) dX13_light_20 ?_
      refine lv_fdiv hx hb dX13_light_22 hn1 ?_
      refine lv_fmul hx hb dX13_light_23 hn2 ?_
      rw [← Option.some.inj hf]
      exact mg_retf ⟨rfl, rfl⟩ (Nat.le_refl _) (Nat.le_refl _) hx hb hr hlk hP hK hD hS dX13_light_24
    · rw [if_pos (show a1 = (0 : Int32) from h0)] at hf
      rw [← Option.some.inj hf]
      refine lv_fconst1 hx hb dX13_light_4 ?_
      refine lv_goto (tgt := 24) hx hb dX13_light_5 (by decide) ?_
      exact mg_retf ⟨rfl, rfl⟩ (Nat.le_refl _) (Nat.le_refl _) hx hb hr hlk hP hK hD hS dX13_light_24
theorem mm_X13_light (l : Launch) (hst : l.stackTraces = false) (zz : Nat → Nat → Nat) (D : va_G) (kA : Nat → ClassId) (N : Nat) (at_this ah_this s_this x_this a_this : Nat) (o_this : os_T) (a1 : Int32) (out : UInt32) (hf : ff_X13_light N o_this a1 = some out) : mg_C l zz D kA yX13_light wsX13_light ({ frames := 25, cells := 0, slots := 0, locals := 525 } : Room) [.ref a_this, .int a1] (fl ([ce_X13 a_this at_this ah_this x_this s_this o_this] : List va_W)) (fun rv w1 => rv = some (.float out) ∧ w1 = (fl ([ce_X13 a_this at_this ah_this x_this s_this o_this] : List va_W))) := mm_X13_light_f l hst zz D kA at_this ah_this s_this x_this a_this o_this 25 a1 out hf
def ff_X13_heightFor_b44 (N : Nat) (o_this : os_T) (k10 : (UInt32 × Int32 × Int32) → Option Int32) (x1 : UInt32) (x2 : Int32) (x3 : Int32) : Option Int32 :=
  k10 (x1, x2, x3 + 1)
def ff_X13_heightFor_c10 (N : Nat) (o_this : os_T) (k10 : (UInt32 × Int32 × Int32) → Option Int32) (x1 : UInt32) (x2 : Int32) (x3 : Int32) : Option Int32 :=
  (if (os_I o_this 2) < x3 then some x2 else ((ff_X13_light N o_this x3).bind fun u_2 => (if os_nn (FP.fsub u_2 x1) then (if os_nn (FP.fsub u_2 x1) then ((ff_X13_light N o_this x2).bind fun u_6 => (if os_nn (FP.fsub u_6 x1) then (if os_nn (FP.fsub u_6 x1) then (if 0 ≤ (Op.cmpValue (FP.fcmp ((FP.fsub u_2 x1) &&& 0x7fffffff) ((FP.fsub u_6 x1) &&& 0x7fffffff)) CmpOp.g) then ff_X13_heightFor_b44 N o_this k10 x1 x2 x3 else ff_X13_heightFor_b44 N o_this k10 x1 x3 x3) else none) else none)) else none) else none)))
def ff_X13_heightFor_l10 (N : Nat) (o_this : os_T) : Nat → (UInt32 × Int32 × Int32) → Option Int32 := os_loop (fun k10 s1 => ff_X13_heightFor_c10 N o_this k10 s1.1 s1.2.1 s1.2.2)
def ff_X13_heightFor (N : Nat) (o_this : os_T) (a1 : UInt32) : Option Int32 :=
  ff_X13_heightFor_l10 N o_this N (a1, os_I o_this 4, os_I o_this 4)
set_option maxHeartbeats 4000000 in
set_option maxRecDepth 100000 in
theorem mm_X13_heightFor (l : Launch) (hst : l.stackTraces = false) (zz : Nat → Nat → Nat) (D : va_G) (kA : Nat → ClassId) (N : Nat) (at_this : Nat) (ah_this : Nat) (s_this : Nat) (x_this : Nat) (a_this : Nat) (o_this : os_T) (a1 : UInt32) (out : Int32) (hf : ff_X13_heightFor N o_this a1 = some out) : mg_C l zz D kA yX13_heightFor wsX13_heightFor ({ frames := 26, cells := 0, slots := 0, locals := 546 } : Room) [.ref a_this, .float a1] (fl ([ce_X13 a_this at_this ah_this x_this s_this o_this] : List va_W)) (fun rv w1 => rv = some (.int out) ∧ w1 = (fl ([ce_X13 a_this at_this ah_this x_this s_this o_this] : List va_W))) := by
  refine mg_of (cc := cX13_heightFor) (maxL := 4) (ret := (some .int)) (by decide) rfl (Nat.le_of_ble_eq_true rfl) ?_
  intro p e s m below meth c A B hZ hD hP hS ls hl
  obtain ⟨hx, hb, hr, hlk, hml, hown, hts, hK, hA, hnm⟩ := B
  have hown : s.vm.findClass RX13 = some m.cls := hown
  have hl : lv_has ls 4 [(0, .ref a_this), (1, .float a1)] := hl
  have hP : va_P D vwCl (fl ([ce_X13 a_this at_this ah_this x_this s_this o_this] : List va_W)) s.heap := hP
  have hUX13 : ∀ w ∈ u_ws RX13 TX13 13, w.before [.ref a_this, .float a1].toArray s = true := fun w h => hts w (List.mem_cons_of_mem _ (List.mem_append_right _ h))
  have hB44 : ∀ (k10 : (UInt32 × Int32 × Int32) → Option Int32), (∀ (x1 : UInt32) (x2 : Int32) (x3 : Int32) (H : Heap) (locs : List Loc) (ls : Array Slot), va_P D vwCl (fl ([ce_X13 a_this at_this ah_this x_this s_this o_this] : List va_W)) H → va_D A (fl ([ce_X13 a_this at_this ah_this x_this s_this o_this] : List va_W)) → va_S A s.heap H locs → lv_has ls 4 [(0, .ref a_this), (1, .float x1), (2, .int x2), (3, .int x3)] → k10 (x1, x2, x3) = some out → W p l e ({ frames := 26, cells := 0, slots := 0, locals := 546 } : Room) s m [.ref a_this, .float a1].toArray below meth c H locs 0 0 (MQ below (mg_Q D kA A (fun rv w1 => rv = some (.int out) ∧ w1 = (fl ([ce_X13 a_this at_this ah_this x_this s_this o_this] : List va_W)))) [.ref a_this, .float a1].toArray s 0 0 A) (F0 m 10 ls [])) → ∀ (x1 : UInt32) (x2 : Int32) (x3 : Int32) (H : Heap) (locs : List Loc) (ls : Array Slot), va_P D vwCl (fl ([ce_X13 a_this at_this ah_this x_this s_this o_this] : List va_W)) H → va_D A (fl ([ce_X13 a_this at_this ah_this x_this s_this o_this] : List va_W)) → va_S A s.heap H locs → lv_has ls 4 [(0, .ref a_this), (1, .float x1), (2, .int x2), (3, .int x3)] → ff_X13_heightFor_b44 N o_this k10 x1 x2 x3 = some out → W p l e ({ frames := 26, cells := 0, slots := 0, locals := 546 } : Room) s m [.ref a_this, .float a1].toArray below meth c H locs 0 0 (MQ below (mg_Q D kA A (fun rv w1 => rv = some (.int out) ∧ w1 = (fl ([ce_X13 a_this at_this ah_this x_this s_this o_this] : List va_W)))) [.ref a_this, .float a1].toArray s 0 0 A) (F0 m 44 ls []) := by
    intro k10 hk10 x1 x2 x3 H locs ls hP hD hS hl hf
    unfold ff_X13_heightFor_b44 at hf
    refine lv_iinc (v := x3 + 1) (lv' := [(3, .int (x3 + 1)), (0, .ref a_this), (1, .float x1), (2, .int x2)]) hx hb dX13_heightFor_44 hl (k := 3) rfl rfl (by decide) rfl (fun ls hl => ?_)
    refine lv_goto (tgt := 10) hx hb dX13_heightFor_47 (by decide) ?_
    exact hk10 x1 x2 (x3 + 1) _ _ _ hP hD hS (lv_sub hl [1, 2, 3, 0] rfl) hf
  have hL10 : ∀ (n : Nat) (x1 : UInt32) (x2 : Int32) (x3 : Int32) (H : Heap) (locs : List Loc) (ls : Array Slot), va_P D vwCl (fl ([ce_X13 a_this at_this ah_this x_this s_this o_this] : List va_W)) H → va_D A (fl ([ce_X13 a_this at_this ah_this x_this s_this o_this] : List va_W)) → va_S A s.heap H locs → lv_has ls 4 [(0, .ref a_this), (1, .float x1), (2, .int x2), (3, .int x3)] → ff_X13_heightFor_l10 N o_this n (x1, x2, x3) = some out → W p l e ({ frames := 26, cells := 0, slots := 0, locals := 546 } : Room) s m [.ref a_this, .float a1].toArray below meth c H locs 0 0 (MQ below (mg_Q D kA A (fun rv w1 => rv = some (.int out) ∧ w1 = (fl ([ce_X13 a_this at_this ah_this x_this s_this o_this] : List va_W)))) [.ref a_this, .float a1].toArray s 0 0 A) (F0 m 10 ls []) := by
    intro n
    induction n with
    | zero => intro x1 x2 x3 H locs ls _ _ _ _ hf; cases hf
    | succ n hk10 =>
      intro x1 x2 x3 H locs ls hP hD hS hl hf
      have hf : ff_X13_heightFor_c10 N o_this (ff_X13_heightFor_l10 N o_this n) x1 x2 x3 = some out := hf
      generalize hke : ff_X13_heightFor_l10 N o_this n = k10 at hk10 hf
      unfold ff_X13_heightFor_c10 at hf
      refine lv_iload_n hx hb dX13_heightFor_10 rfl (lv_at hl 3 rfl) ?_
      refine lv_aload_n hx hb dX13_heightFor_11 rfl (lv_at hl 0 rfl) ?_
      refine va_get (D := D) (ci := 11) (v := .int (os_I o_this 2)) (C := RX13) (T := TX13) (N := 13) hx hb hUX13 (fun _ h9 => h9) hown hK hP (pl [ce_X13 a_this at_this ah_this x_this s_this o_this] 0 0) (sg_get rfl rfl) rfl 2 (by decide) (hts (Cond.fieldLink RX13 16 "ReliefBuilderLaw$World" "top" "I") (List.mem_of_getElem? (i := 2) rfl)) (fun _ h9 => h9) rfl dX13_heightFor_12 ?_
      refine lv_icmp_gt (tgt := 50) hx hb dX13_heightFor_15 (by decide) (fun hc_1 => ?_) (fun hc_1 => ?_)
      · rw [if_pos (show (os_I o_this 2) < x3 from hc_1)] at hf
        refine lv_iload_n hx hb dX13_heightFor_50 rfl (lv_at hl 2 rfl) ?_
        have hP : va_P D vwCl (fl ([ce_X13 a_this at_this ah_this x_this s_this o_this] : List va_W)) _ := hP
        have hD : va_D A (fl ([ce_X13 a_this at_this ah_this x_this s_this o_this] : List va_W)) := hD
        rw [← Option.some.inj hf]
        exact mg_reti ⟨rfl, rfl⟩ (by show _ ≤ 0; omega) (by show _ ≤ 0; omega) hx hb hr hlk hP hK hD hS dX13_heightFor_51
      · rw [if_neg (show ¬ ((os_I o_this 2) < x3) from hc_1)] at hf
        refine lv_aload_n hx hb dX13_heightFor_18 rfl (lv_at hl 0 rfl) ?_
        refine lv_iload_n hx hb dX13_heightFor_19 rfl (lv_at hl 3 rfl) ?_
        obtain ⟨u_2, he_3, hf⟩ := os_bd hf
        refine mg_callV (wcs := [ce_X13 a_this at_this ah_this x_this s_this o_this]) (wrs := []) (ss := [ce_X13 a_this at_this ah_this x_this s_this o_this]) ⟨hx, hb, hml, hown, hts⟩ (mm_X13_light l hst zz D kA N at_this ah_this s_this x_this a_this o_this x3 u_2 he_3) (cwV 1 hts gX13_heightFor_X13_light rfl rfl rfl (by decide +kernel) ⟨Nat.le_of_ble_eq_true rfl, Nat.le_of_ble_eq_true rfl⟩) (va_recv hK hP (q0 := pl [ce_X13 a_this at_this ah_this x_this s_this o_this] 0 0) rfl (sg_get rfl rfl)) rfl hl.1 (As := [.int x3]) (rest := []) rfl (Nat.le_of_ble_eq_true rfl) dX13_heightFor_20 ⟨(by show 0 + 0 ≤ 0; omega), (by show 0 + 0 ≤ 0; omega)⟩ hK hP hD hS hA hZ (pm_seg [ce_X13 a_this at_this ah_this x_this s_this o_this] ([ce_X13 a_this at_this ah_this x_this s_this o_this] ++ []) [0] 1 rfl (by decide) rfl (by decide)) (fun rv w1 H locs hq hP hD hS => ?_)
        obtain ⟨rfl, rfl⟩ := hq
        refine W.widen (k := 0) (n := 0) (by show _ + 0 ≤ _; omega) (by show _ + 0 ≤ _; omega) ?_
        have hP : va_P D vwCl (fl ([ce_X13 a_this at_this ah_this x_this s_this o_this] : List va_W)) _ := (show va_P D vwCl (fl ([ce_X13 a_this at_this ah_this x_this s_this o_this] ++ [] : List va_W)) _ from (by rw [fl_app]; exact hP))
        have hD : va_D A (fl ([ce_X13 a_this at_this ah_this x_this s_this o_this] : List va_W)) := (show va_D A (fl ([ce_X13 a_this at_this ah_this x_this s_this o_this] ++ [] : List va_W)) from (by rw [fl_app]; exact hD))
        refine W.eq (g2 := F0 m 23 ls [.float u_2]) rfl ?_
        refine lv_fload_n hx hb dX13_heightFor_23 rfl (lv_at hl 1 rfl) ?_
        obtain ⟨hn_4, hf⟩ := os_if hf
        refine lv_fsub hx hb dX13_heightFor_24 hn_4 ?_
        obtain ⟨hn_5, hf⟩ := os_if hf
        refine lv_fabs hx hb (hml.trans hl.1.symm) hown (hts (Cond.methodLink RX13 131 yJ9_abs_f6c48) (List.mem_of_getElem? (i := 10) rfl)) (hts (Cond.static yJ9_abs_f6c48) (List.mem_of_getElem? (i := 11) rfl)) (hts (Cond.initialized RJ9) (List.mem_of_getElem? (i := 12) rfl)) (hts (Cond.code yJ9_abs_f6c48 cJ9_abs_f6c48 1 (some .float)) (List.mem_of_getElem? (i := 13) rfl)) hn_5 (Nat.le_of_ble_eq_true rfl) (Nat.le_of_ble_eq_true rfl) (Nat.le_of_ble_eq_true rfl) (by show 0 ≤ 0; omega) (by show 0 ≤ 0; omega) dX13_heightFor_25 ?_
        refine lv_aload_n hx hb dX13_heightFor_28 rfl (lv_at hl 0 rfl) ?_
        refine lv_iload_n hx hb dX13_heightFor_29 rfl (lv_at hl 2 rfl) ?_
        obtain ⟨u_6, he_7, hf⟩ := os_bd hf
        refine mg_callV (wcs := [ce_X13 a_this at_this ah_this x_this s_this o_this]) (wrs := []) (ss := [ce_X13 a_this at_this ah_this x_this s_this o_this]) ⟨hx, hb, hml, hown, hts⟩ (mm_X13_light l hst zz D kA N at_this ah_this s_this x_this a_this o_this x2 u_6 he_7) (cwV 1 hts gX13_heightFor_X13_light rfl rfl rfl (by decide +kernel) ⟨Nat.le_of_ble_eq_true rfl, Nat.le_of_ble_eq_true rfl⟩) (va_recv hK hP (q0 := pl [ce_X13 a_this at_this ah_this x_this s_this o_this] 0 0) rfl (sg_get rfl rfl)) rfl hl.1 (As := [.int x2]) (rest := [.float ((FP.fsub u_2 x1) &&& 0x7fffffff)]) rfl (Nat.le_of_ble_eq_true rfl) dX13_heightFor_30 ⟨(by show 0 + 0 ≤ 0; omega), (by show 0 + 0 ≤ 0; omega)⟩ hK hP hD hS hA hZ (pm_seg [ce_X13 a_this at_this ah_this x_this s_this o_this] ([ce_X13 a_this at_this ah_this x_this s_this o_this] ++ []) [0] 1 rfl (by decide) rfl (by decide)) (fun rv w1 H locs hq hP hD hS => ?_)
        obtain ⟨rfl, rfl⟩ := hq
        refine W.widen (k := 0) (n := 0) (by show _ + 0 ≤ _; omega) (by show _ + 0 ≤ _; omega) ?_
        have hP : va_P D vwCl (fl ([ce_X13 a_this at_this ah_this x_this s_this o_this] : List va_W)) _ := (show va_P D vwCl (fl ([ce_X13 a_this at_this ah_this x_this s_this o_this] ++ [] : List va_W)) _ from (by rw [fl_app]; exact hP))
        have hD : va_D A (fl ([ce_X13 a_this at_this ah_this x_this s_this o_this] : List va_W)) := (show va_D A (fl ([ce_X13 a_this at_this ah_this x_this s_this o_this] ++ [] : List va_W)) from (by rw [fl_app]; exact hD))
        refine W.eq (g2 := F0 m 33 ls [.float u_6, .float ((FP.fsub u_2 x1) &&& 0x7fffffff)]) rfl ?_
        refine lv_fload_n hx hb dX13_heightFor_33 rfl (lv_at hl 1 rfl) ?_
        obtain ⟨hn_8, hf⟩ := os_if hf
        refine lv_fsub hx hb dX13_heightFor_34 hn_8 ?_
        obtain ⟨hn_9, hf⟩ := os_if hf
        refine lv_fabs hx hb (hml.trans hl.1.symm) hown (hts (Cond.methodLink RX13 131 yJ9_abs_f6c48) (List.mem_of_getElem? (i := 10) rfl)) (hts (Cond.static yJ9_abs_f6c48) (List.mem_of_getElem? (i := 11) rfl)) (hts (Cond.initialized RJ9) (List.mem_of_getElem? (i := 12) rfl)) (hts (Cond.code yJ9_abs_f6c48 cJ9_abs_f6c48 1 (some .float)) (List.mem_of_getElem? (i := 13) rfl)) hn_9 (Nat.le_of_ble_eq_true rfl) (Nat.le_of_ble_eq_true rfl) (Nat.le_of_ble_eq_true rfl) (by show 0 ≤ 0; omega) (by show 0 ≤ 0; omega) dX13_heightFor_35 ?_
        refine lv_fcmp hx hb dX13_heightFor_38 ?_
        refine lv_if_ge (tgt := 44) hx hb dX13_heightFor_39 (by decide) (fun hc_10 => ?_) (fun hc_10 => ?_)
        · rw [if_pos (show 0 ≤ (Op.cmpValue (FP.fcmp ((FP.fsub u_2 x1) &&& 0x7fffffff) ((FP.fsub u_6 x1) &&& 0x7fffffff)) CmpOp.g) from hc_10)] at hf
          exact hB44 k10 hk10 x1 x2 x3 _ _ _ hP hD hS (lv_sub hl [0, 1, 2, 3] rfl) hf
        · rw [if_neg (show ¬ (0 ≤ (Op.cmpValue (FP.fcmp ((FP.fsub u_2 x1) &&& 0x7fffffff) ((FP.fsub u_6 x1) &&& 0x7fffffff)) CmpOp.g)) from hc_10)] at hf
          refine lv_iload_n hx hb dX13_heightFor_42 rfl (lv_at hl 3 rfl) ?_
          refine lv_istore_n (lv' := [(2, .int x3), (0, .ref a_this), (1, .float x1), (3, .int x3)]) hx hb dX13_heightFor_43 rfl hl (by decide) rfl (fun ls hl => ?_)
          exact hB44 k10 hk10 x1 x3 x3 _ _ _ hP hD hS (lv_sub hl [1, 2, 0, 3] rfl) hf
  unfold ff_X13_heightFor at hf
  refine lv_aload_n hx hb dX13_heightFor_0 rfl (lv_at hl 0 rfl) ?_
  refine va_get (D := D) (ci := 11) (v := .int (os_I o_this 4)) (C := RX13) (T := TX13) (N := 13) hx hb hUX13 (fun _ h9 => h9) hown hK hP (pl [ce_X13 a_this at_this ah_this x_this s_this o_this] 0 0) (sg_get rfl rfl) rfl 4 (by decide) (hts (Cond.fieldLink RX13 22 "ReliefBuilderLaw$World" "base" "I") (List.mem_of_getElem? (i := 1) rfl)) (fun _ h9 => h9) rfl dX13_heightFor_1 ?_
  refine lv_istore_n (lv' := [(2, .int (os_I o_this 4)), (0, .ref a_this), (1, .float a1)]) hx hb dX13_heightFor_4 rfl hl (by decide) rfl (fun ls hl => ?_)
  refine lv_aload_n hx hb dX13_heightFor_5 rfl (lv_at hl 1 rfl) ?_
  refine va_get (D := D) (ci := 11) (v := .int (os_I o_this 4)) (C := RX13) (T := TX13) (N := 13) hx hb hUX13 (fun _ h9 => h9) hown hK hP (pl [ce_X13 a_this at_this ah_this x_this s_this o_this] 0 0) (sg_get rfl rfl) rfl 4 (by decide) (hts (Cond.fieldLink RX13 22 "ReliefBuilderLaw$World" "base" "I") (List.mem_of_getElem? (i := 1) rfl)) (fun _ h9 => h9) rfl dX13_heightFor_6 ?_
  refine lv_istore_n (lv' := [(3, .int (os_I o_this 4)), (2, .int (os_I o_this 4)), (0, .ref a_this), (1, .float a1)]) hx hb dX13_heightFor_9 rfl hl (by decide) rfl (fun ls hl => ?_)
  exact hL10 N a1 (os_I o_this 4) (os_I o_this 4) _ _ _ hP hD hS (lv_sub hl [2, 3, 1, 0] rfl) hf
def ff_X13_lightAt (N : Nat) (o_this : os_T) (o_this_heights : os_T) (a1 : Int32) (a2 : Int32) (a3 : UInt32) : Option UInt32 :=
  ((ff_X13_has N o_this a1 a2).bind fun u_1 => (if u_1 = 0 then some a3 else (if os_in a2 (cm_n o_this_heights) then (if Int32.toNatClampNeg a2 < cm_b o_this_heights then (if os_in a1 (cm_c o_this_heights) then ((ff_X13_light N o_this (os_A o_this_heights (Int32.toNatClampNeg a2) (Int32.toNatClampNeg a1))).bind fun u_7 => some u_7) else none) else none) else none)))
set_option maxHeartbeats 4000000 in
set_option maxRecDepth 100000 in
theorem mm_X13_lightAt (l : Launch) (hst : l.stackTraces = false) (zz : Nat → Nat → Nat) (D : va_G) (kA : Nat → ClassId) (N : Nat) (at_this : Nat) (s_this : Nat) (x_this : Nat) (a_this : Nat) (a_this_heights : Nat) (r_this_heights : Nat → Nat) (o_this : os_T) (o_this_heights : os_T) (a1 : Int32) (a2 : Int32) (a3 : UInt32) (out : UInt32) (hf : ff_X13_lightAt N o_this o_this_heights a1 a2 a3 = some out) : mg_C l zz D kA yX13_lightAt wsX13_lightAt ({ frames := 26, cells := 0, slots := 0, locals := 546 } : Room) [.ref a_this, .int a1, .int a2, .float a3] (fl ([ce_X13 a_this at_this a_this_heights x_this s_this o_this, ce_M kA a_this_heights r_this_heights o_this_heights] : List va_W)) (fun rv w1 => rv = some (.float out) ∧ w1 = (fl ([ce_X13 a_this at_this a_this_heights x_this s_this o_this, ce_M kA a_this_heights r_this_heights o_this_heights] : List va_W))) := by
  refine mg_of (cc := cX13_lightAt) (maxL := 4) (ret := (some .float)) (by decide) rfl (Nat.le_of_ble_eq_true rfl) ?_
  intro p e s m below meth c A B hZ hD hP hS ls hl
  obtain ⟨hx, hb, hr, hlk, hml, hown, hts, hK, hA, hnm⟩ := B
  have hown : s.vm.findClass RX13 = some m.cls := hown
  have hl : lv_has ls 4 [(0, .ref a_this), (1, .int a1), (2, .int a2), (3, .float a3)] := hl
  have hP : va_P D vwCl (fl ([ce_X13 a_this at_this a_this_heights x_this s_this o_this, ce_M kA a_this_heights r_this_heights o_this_heights] : List va_W)) s.heap := hP
  have hUX13 : ∀ w ∈ u_ws RX13 TX13 13, w.before [.ref a_this, .int a1, .int a2, .float a3].toArray s = true := fun w h => hts w (List.mem_cons_of_mem _ (List.mem_append_right _ h))
  unfold ff_X13_lightAt at hf
  refine lv_aload_n hx hb dX13_lightAt_0 rfl (lv_at hl 0 rfl) ?_
  refine lv_iload_n hx hb dX13_lightAt_1 rfl (lv_at hl 1 rfl) ?_
  refine lv_iload_n hx hb dX13_lightAt_2 rfl (lv_at hl 2 rfl) ?_
  obtain ⟨u_1, he_2, hf⟩ := os_bd hf
  refine mg_callV (wcs := [ce_X13 a_this at_this a_this_heights x_this s_this o_this]) (wrs := [ce_M kA a_this_heights r_this_heights o_this_heights]) (ss := [ce_X13 a_this at_this a_this_heights x_this s_this o_this, ce_M kA a_this_heights r_this_heights o_this_heights]) ⟨hx, hb, hml, hown, hts⟩ (mm_X13_has l hst zz D kA N at_this a_this_heights s_this x_this a_this o_this a1 a2 u_1 he_2) (cwV 2 hts gX13_lightAt_X13_has rfl rfl rfl (by decide +kernel) ⟨Nat.le_of_ble_eq_true rfl, Nat.le_of_ble_eq_true rfl⟩) (va_recv hK hP (q0 := pl [ce_X13 a_this at_this a_this_heights x_this s_this o_this, ce_M kA a_this_heights r_this_heights o_this_heights] 0 0) rfl (sg_get rfl rfl)) rfl hl.1 (As := [.int a1, .int a2]) (rest := []) rfl (Nat.le_of_ble_eq_true rfl) dX13_lightAt_3 ⟨(by show 0 + 0 ≤ 0; omega), (by show 0 + 0 ≤ 0; omega)⟩ hK hP hD hS hA hZ (pm_seg [ce_X13 a_this at_this a_this_heights x_this s_this o_this, ce_M kA a_this_heights r_this_heights o_this_heights] ([ce_X13 a_this at_this a_this_heights x_this s_this o_this] ++ [ce_M kA a_this_heights r_this_heights o_this_heights]) [0, 1] 2 rfl (by decide) rfl (by decide)) (fun rv w1 H locs hq hP hD hS => ?_)
  obtain ⟨rfl, rfl⟩ := hq
  refine W.widen (k := 0) (n := 0) (by show _ + 0 ≤ _; omega) (by show _ + 0 ≤ _; omega) ?_
  have hP : va_P D vwCl (fl ([ce_X13 a_this at_this a_this_heights x_this s_this o_this, ce_M kA a_this_heights r_this_heights o_this_heights] : List va_W)) _ := (show va_P D vwCl (fl ([ce_X13 a_this at_this a_this_heights x_this s_this o_this] ++ [ce_M kA a_this_heights r_this_heights o_this_heights] : List va_W)) _ from (by rw [fl_app]; exact hP))
  have hD : va_D A (fl ([ce_X13 a_this at_this a_this_heights x_this s_this o_this, ce_M kA a_this_heights r_this_heights o_this_heights] : List va_W)) := (show va_D A (fl ([ce_X13 a_this at_this a_this_heights x_this s_this o_this] ++ [ce_M kA a_this_heights r_this_heights o_this_heights] : List va_W)) from (by rw [fl_app]; exact hD))
  refine W.eq (g2 := F0 m 6 ls [.int u_1]) rfl ?_
  refine lv_if_eq (tgt := 24) hx hb dX13_lightAt_6 (by decide) (fun hc_3 => ?_) (fun hc_3 => ?_)
  · rw [if_pos (show u_1 = 0 from hc_3)] at hf
    refine lv_fload_n hx hb dX13_lightAt_24 rfl (lv_at hl 3 rfl) ?_
    have hP : va_P D vwCl (fl ([ce_X13 a_this at_this a_this_heights x_this s_this o_this, ce_M kA a_this_heights r_this_heights o_this_heights] : List va_W)) _ := hP
    have hD : va_D A (fl ([ce_X13 a_this at_this a_this_heights x_this s_this o_this, ce_M kA a_this_heights r_this_heights o_this_heights] : List va_W)) := hD
    rw [← Option.some.inj hf]
    exact mg_retf ⟨rfl, rfl⟩ (by show _ ≤ 0; omega) (by show _ ≤ 0; omega) hx hb hr hlk hP hK hD hS dX13_lightAt_25
  · rw [if_neg (show ¬ (u_1 = 0) from hc_3)] at hf
    refine lv_aload_n hx hb dX13_lightAt_9 rfl (lv_at hl 0 rfl) ?_
    refine lv_aload_n hx hb dX13_lightAt_10 rfl (lv_at hl 0 rfl) ?_
    refine va_get (D := D) (ci := 11) (v := .ref a_this_heights) (C := RX13) (T := TX13) (N := 13) hx hb hUX13 (fun _ h9 => h9) hown hK hP (pl [ce_X13 a_this at_this a_this_heights x_this s_this o_this, ce_M kA a_this_heights r_this_heights o_this_heights] 0 0) (sg_get rfl rfl) rfl 9 (by decide) (hts (Cond.fieldLink RX13 37 "ReliefBuilderLaw$World" "heights" "[[I") (List.mem_of_getElem? (i := 1) rfl)) (fun _ h9 => h9) rfl dX13_lightAt_11 ?_
    refine lv_iload_n hx hb dX13_lightAt_14 rfl (lv_at hl 2 rfl) ?_
    obtain ⟨hi_4, hf⟩ := os_if hf
    obtain ⟨hy_5, hf⟩ := os_if hf
    refine sg_aald hx hb hK hP (pl [ce_X13 a_this at_this a_this_heights x_this s_this o_this, ce_M kA a_this_heights r_this_heights o_this_heights] 1 0) (sg_get rfl cm_0) hi_4 (if_pos hy_5) dX13_lightAt_15 ?_
    refine lv_iload_n hx hb dX13_lightAt_16 rfl (lv_at hl 1 rfl) ?_
    obtain ⟨hi_6, hf⟩ := os_if hf
    refine va_iald hx hb hK hP (pl [ce_X13 a_this at_this a_this_heights x_this s_this o_this, ce_M kA a_this_heights r_this_heights o_this_heights] 1 (Int32.toNatClampNeg a2 + 1)) 0 (sg_get rfl (cm_row hy_5)) rfl hi_6 dX13_lightAt_17 ?_
    obtain ⟨u_7, he_8, hf⟩ := os_bd hf
    refine mg_callV (wcs := [ce_X13 a_this at_this a_this_heights x_this s_this o_this]) (wrs := [ce_M kA a_this_heights r_this_heights o_this_heights]) (ss := [ce_X13 a_this at_this a_this_heights x_this s_this o_this, ce_M kA a_this_heights r_this_heights o_this_heights]) ⟨hx, hb, hml, hown, hts⟩ (mm_X13_light l hst zz D kA N at_this a_this_heights s_this x_this a_this o_this (os_A o_this_heights (Int32.toNatClampNeg a2) (Int32.toNatClampNeg a1)) u_7 he_8) (cwV 1 hts gX13_lightAt_X13_light rfl rfl rfl (by decide +kernel) ⟨Nat.le_of_ble_eq_true rfl, Nat.le_of_ble_eq_true rfl⟩) (va_recv hK hP (q0 := pl [ce_X13 a_this at_this a_this_heights x_this s_this o_this, ce_M kA a_this_heights r_this_heights o_this_heights] 0 0) rfl (sg_get rfl rfl)) rfl hl.1 (As := [.int (os_A o_this_heights (Int32.toNatClampNeg a2) (Int32.toNatClampNeg a1))]) (rest := []) rfl (Nat.le_of_ble_eq_true rfl) dX13_lightAt_18 ⟨(by show 0 + 0 ≤ 0; omega), (by show 0 + 0 ≤ 0; omega)⟩ hK hP hD hS hA hZ (pm_seg [ce_X13 a_this at_this a_this_heights x_this s_this o_this, ce_M kA a_this_heights r_this_heights o_this_heights] ([ce_X13 a_this at_this a_this_heights x_this s_this o_this] ++ [ce_M kA a_this_heights r_this_heights o_this_heights]) [0, 1] 2 rfl (by decide) rfl (by decide)) (fun rv w1 H locs hq hP hD hS => ?_)
    obtain ⟨rfl, rfl⟩ := hq
    refine W.widen (k := 0) (n := 0) (by show _ + 0 ≤ _; omega) (by show _ + 0 ≤ _; omega) ?_
    have hP : va_P D vwCl (fl ([ce_X13 a_this at_this a_this_heights x_this s_this o_this, ce_M kA a_this_heights r_this_heights o_this_heights] : List va_W)) _ := (show va_P D vwCl (fl ([ce_X13 a_this at_this a_this_heights x_this s_this o_this] ++ [ce_M kA a_this_heights r_this_heights o_this_heights] : List va_W)) _ from (by rw [fl_app]; exact hP))
    have hD : va_D A (fl ([ce_X13 a_this at_this a_this_heights x_this s_this o_this, ce_M kA a_this_heights r_this_heights o_this_heights] : List va_W)) := (show va_D A (fl ([ce_X13 a_this at_this a_this_heights x_this s_this o_this] ++ [ce_M kA a_this_heights r_this_heights o_this_heights] : List va_W)) from (by rw [fl_app]; exact hD))
    refine W.eq (g2 := F0 m 21 ls [.float u_7]) rfl ?_
    refine lv_goto (tgt := 25) hx hb dX13_lightAt_21 (by decide) ?_
    have hP : va_P D vwCl (fl ([ce_X13 a_this at_this a_this_heights x_this s_this o_this, ce_M kA a_this_heights r_this_heights o_this_heights] : List va_W)) _ := hP
    have hD : va_D A (fl ([ce_X13 a_this at_this a_this_heights x_this s_this o_this, ce_M kA a_this_heights r_this_heights o_this_heights] : List va_W)) := hD
    rw [← Option.some.inj hf]
    exact mg_retf ⟨rfl, rfl⟩ (by show _ ≤ 0; omega) (by show _ ≤ 0; omega) hx hb hr hlk hP hK hD hS dX13_lightAt_25
def ff_X13_estimate (N : Nat) (o_this : os_T) (o_this_heights : os_T) (a1 : Int32) (a2 : Int32) : Option UInt32 :=
  (if os_in a2 (cm_n o_this_heights) then (if Int32.toNatClampNeg a2 < cm_b o_this_heights then (if os_in a1 (cm_c o_this_heights) then ((ff_X13_light N o_this (os_A o_this_heights (Int32.toNatClampNeg a2) (Int32.toNatClampNeg a1))).bind fun u_4 => (if os_nn (FP.fmul u_4 (1082130432 : UInt32)) then ((ff_X13_lightAt N o_this o_this_heights (a1 - (1 : Int32)) a2 u_4).bind fun u_7 => (if os_nn (FP.fadd (FP.fmul u_4 (1082130432 : UInt32)) u_7) then ((ff_X13_lightAt N o_this o_this_heights (a1 + (1 : Int32)) a2 u_4).bind fun u_10 => (if os_nn (FP.fadd (FP.fadd (FP.fmul u_4 (1082130432 : UInt32)) u_7) u_10) then ((ff_X13_lightAt N o_this o_this_heights a1 (a2 - (1 : Int32)) u_4).bind fun u_13 => (if os_nn (FP.fadd (FP.fadd (FP.fadd (FP.fmul u_4 (1082130432 : UInt32)) u_7) u_10) u_13) then ((ff_X13_lightAt N o_this o_this_heights a1 (a2 + (1 : Int32)) u_4).bind fun u_16 => (if os_nn (FP.fadd (FP.fadd (FP.fadd (FP.fadd (FP.fmul u_4 (1082130432 : UInt32)) u_7) u_10) u_13) u_16) then (if os_nn (FP.fdiv (FP.fadd (FP.fadd (FP.fadd (FP.fadd (FP.fmul u_4 (1082130432 : UInt32)) u_7) u_10) u_13) u_16) (1090519040 : UInt32)) then some (FP.fdiv (FP.fadd (FP.fadd (FP.fadd (FP.fadd (FP.fmul u_4 (1082130432 : UInt32)) u_7) u_10) u_13) u_16) (1090519040 : UInt32)) else none) else none)) else none)) else none)) else none)) else none)) else none) else none) else none)
set_option maxHeartbeats 4000000 in
set_option maxRecDepth 100000 in
theorem mm_X13_estimate (l : Launch) (hst : l.stackTraces = false) (zz : Nat → Nat → Nat) (D : va_G) (kA : Nat → ClassId) (N : Nat) (at_this : Nat) (s_this : Nat) (x_this : Nat) (a_this : Nat) (a_this_heights : Nat) (r_this_heights : Nat → Nat) (o_this : os_T) (o_this_heights : os_T) (a1 : Int32) (a2 : Int32) (out : UInt32) (hf : ff_X13_estimate N o_this o_this_heights a1 a2 = some out) : mg_C l zz D kA yX13_estimate wsX13_estimate ({ frames := 27, cells := 0, slots := 0, locals := 569 } : Room) [.ref a_this, .int a1, .int a2] (fl ([ce_X13 a_this at_this a_this_heights x_this s_this o_this, ce_M kA a_this_heights r_this_heights o_this_heights] : List va_W)) (fun rv w1 => rv = some (.float out) ∧ w1 = (fl ([ce_X13 a_this at_this a_this_heights x_this s_this o_this, ce_M kA a_this_heights r_this_heights o_this_heights] : List va_W))) := by
  refine mg_of (cc := cX13_estimate) (maxL := 4) (ret := (some .float)) (by decide) rfl (Nat.le_of_ble_eq_true rfl) ?_
  intro p e s m below meth c A B hZ hD hP hS ls hl
  obtain ⟨hx, hb, hr, hlk, hml, hown, hts, hK, hA, hnm⟩ := B
  have hown : s.vm.findClass RX13 = some m.cls := hown
  have hl : lv_has ls 4 [(0, .ref a_this), (1, .int a1), (2, .int a2)] := hl
  have hP : va_P D vwCl (fl ([ce_X13 a_this at_this a_this_heights x_this s_this o_this, ce_M kA a_this_heights r_this_heights o_this_heights] : List va_W)) s.heap := hP
  have hUX13 : ∀ w ∈ u_ws RX13 TX13 13, w.before [.ref a_this, .int a1, .int a2].toArray s = true := fun w h => hts w (List.mem_cons_of_mem _ (List.mem_append_right _ h))
  unfold ff_X13_estimate at hf
  refine lv_aload_n hx hb dX13_estimate_0 rfl (lv_at hl 0 rfl) ?_
  refine lv_aload_n hx hb dX13_estimate_1 rfl (lv_at hl 0 rfl) ?_
  refine va_get (D := D) (ci := 11) (v := .ref a_this_heights) (C := RX13) (T := TX13) (N := 13) hx hb hUX13 (fun _ h9 => h9) hown hK hP (pl [ce_X13 a_this at_this a_this_heights x_this s_this o_this, ce_M kA a_this_heights r_this_heights o_this_heights] 0 0) (sg_get rfl rfl) rfl 9 (by decide) (hts (Cond.fieldLink RX13 37 "ReliefBuilderLaw$World" "heights" "[[I") (List.mem_of_getElem? (i := 1) rfl)) (fun _ h9 => h9) rfl dX13_estimate_2 ?_
  refine lv_iload_n hx hb dX13_estimate_5 rfl (lv_at hl 2 rfl) ?_
  obtain ⟨hi_1, hf⟩ := os_if hf
  obtain ⟨hy_2, hf⟩ := os_if hf
  refine sg_aald hx hb hK hP (pl [ce_X13 a_this at_this a_this_heights x_this s_this o_this, ce_M kA a_this_heights r_this_heights o_this_heights] 1 0) (sg_get rfl cm_0) hi_1 (if_pos hy_2) dX13_estimate_6 ?_
  refine lv_iload_n hx hb dX13_estimate_7 rfl (lv_at hl 1 rfl) ?_
  obtain ⟨hi_3, hf⟩ := os_if hf
  refine va_iald hx hb hK hP (pl [ce_X13 a_this at_this a_this_heights x_this s_this o_this, ce_M kA a_this_heights r_this_heights o_this_heights] 1 (Int32.toNatClampNeg a2 + 1)) 0 (sg_get rfl (cm_row hy_2)) rfl hi_3 dX13_estimate_8 ?_
  obtain ⟨u_4, he_5, hf⟩ := os_bd hf
  refine mg_callV (wcs := [ce_X13 a_this at_this a_this_heights x_this s_this o_this]) (wrs := [ce_M kA a_this_heights r_this_heights o_this_heights]) (ss := [ce_X13 a_this at_this a_this_heights x_this s_this o_this, ce_M kA a_this_heights r_this_heights o_this_heights]) ⟨hx, hb, hml, hown, hts⟩ (mm_X13_light l hst zz D kA N at_this a_this_heights s_this x_this a_this o_this (os_A o_this_heights (Int32.toNatClampNeg a2) (Int32.toNatClampNeg a1)) u_4 he_5) (cwV 1 hts gX13_estimate_X13_light rfl rfl rfl (by decide +kernel) ⟨Nat.le_of_ble_eq_true rfl, Nat.le_of_ble_eq_true rfl⟩) (va_recv hK hP (q0 := pl [ce_X13 a_this at_this a_this_heights x_this s_this o_this, ce_M kA a_this_heights r_this_heights o_this_heights] 0 0) rfl (sg_get rfl rfl)) rfl hl.1 (As := [.int (os_A o_this_heights (Int32.toNatClampNeg a2) (Int32.toNatClampNeg a1))]) (rest := []) rfl (Nat.le_of_ble_eq_true rfl) dX13_estimate_9 ⟨(by show 0 + 0 ≤ 0; omega), (by show 0 + 0 ≤ 0; omega)⟩ hK hP hD hS hA hZ (pm_seg [ce_X13 a_this at_this a_this_heights x_this s_this o_this, ce_M kA a_this_heights r_this_heights o_this_heights] ([ce_X13 a_this at_this a_this_heights x_this s_this o_this] ++ [ce_M kA a_this_heights r_this_heights o_this_heights]) [0, 1] 2 rfl (by decide) rfl (by decide)) (fun rv w1 H locs hq hP hD hS => ?_)
  obtain ⟨rfl, rfl⟩ := hq
  refine W.widen (k := 0) (n := 0) (by show _ + 0 ≤ _; omega) (by show _ + 0 ≤ _; omega) ?_
  have hP : va_P D vwCl (fl ([ce_X13 a_this at_this a_this_heights x_this s_this o_this, ce_M kA a_this_heights r_this_heights o_this_heights] : List va_W)) _ := (show va_P D vwCl (fl ([ce_X13 a_this at_this a_this_heights x_this s_this o_this] ++ [ce_M kA a_this_heights r_this_heights o_this_heights] : List va_W)) _ from (by rw [fl_app]; exact hP))
  have hD : va_D A (fl ([ce_X13 a_this at_this a_this_heights x_this s_this o_this, ce_M kA a_this_heights r_this_heights o_this_heights] : List va_W)) := (show va_D A (fl ([ce_X13 a_this at_this a_this_heights x_this s_this o_this] ++ [ce_M kA a_this_heights r_this_heights o_this_heights] : List va_W)) from (by rw [fl_app]; exact hD))
  refine W.eq (g2 := F0 m 12 ls [.float u_4]) rfl ?_
  refine lv_fstore_n (lv' := [(3, .float u_4), (0, .ref a_this), (1, .int a1), (2, .int a2)]) hx hb dX13_estimate_12 rfl hl (by decide) rfl (fun ls hl => ?_)
  refine lv_fload_n hx hb dX13_estimate_13 rfl (lv_at hl 0 rfl) ?_
  refine lv_ldcf hx hb hown (hts (Cond.constantFloat RX13 139 (1082130432)) (List.mem_of_getElem? (i := 2) rfl)) dX13_estimate_14 ?_
  obtain ⟨hn_6, hf⟩ := os_if hf
  refine lv_fmul hx hb dX13_estimate_16 hn_6 ?_
  refine lv_aload_n hx hb dX13_estimate_17 rfl (lv_at hl 1 rfl) ?_
  refine lv_iload_n hx hb dX13_estimate_18 rfl (lv_at hl 2 rfl) ?_
  refine lv_iconst (v := 1) hx hb dX13_estimate_19 (by decide) ?_
  refine lv_isub hx hb dX13_estimate_20 ?_
  refine lv_iload_n hx hb dX13_estimate_21 rfl (lv_at hl 3 rfl) ?_
  refine lv_fload_n hx hb dX13_estimate_22 rfl (lv_at hl 0 rfl) ?_
  obtain ⟨u_7, he_8, hf⟩ := os_bd hf
  refine mg_callV (wcs := [ce_X13 a_this at_this a_this_heights x_this s_this o_this, ce_M kA a_this_heights r_this_heights o_this_heights]) (wrs := []) (ss := [ce_X13 a_this at_this a_this_heights x_this s_this o_this, ce_M kA a_this_heights r_this_heights o_this_heights]) ⟨hx, hb, hml, hown, hts⟩ (mm_X13_lightAt l hst zz D kA N at_this s_this x_this a_this a_this_heights r_this_heights o_this o_this_heights (a1 - (1 : Int32)) a2 u_4 u_7 he_8) (cwV 3 hts gX13_estimate_X13_lightAt rfl rfl rfl (by decide +kernel) ⟨Nat.le_of_ble_eq_true rfl, Nat.le_of_ble_eq_true rfl⟩) (va_recv hK hP (q0 := pl [ce_X13 a_this at_this a_this_heights x_this s_this o_this, ce_M kA a_this_heights r_this_heights o_this_heights] 0 0) rfl (sg_get rfl rfl)) rfl hl.1 (As := [.int (a1 - (1 : Int32)), .int a2, .float u_4]) (rest := [.float (FP.fmul u_4 (1082130432 : UInt32))]) rfl (Nat.le_of_ble_eq_true rfl) dX13_estimate_23 ⟨(by show 0 + 0 ≤ 0; omega), (by show 0 + 0 ≤ 0; omega)⟩ hK hP hD hS hA hZ (pm_seg [ce_X13 a_this at_this a_this_heights x_this s_this o_this, ce_M kA a_this_heights r_this_heights o_this_heights] ([ce_X13 a_this at_this a_this_heights x_this s_this o_this, ce_M kA a_this_heights r_this_heights o_this_heights] ++ []) [0, 1] 2 rfl (by decide) rfl (by decide)) (fun rv w1 H locs hq hP hD hS => ?_)
  obtain ⟨rfl, rfl⟩ := hq
  refine W.widen (k := 0) (n := 0) (by show _ + 0 ≤ _; omega) (by show _ + 0 ≤ _; omega) ?_
  have hP : va_P D vwCl (fl ([ce_X13 a_this at_this a_this_heights x_this s_this o_this, ce_M kA a_this_heights r_this_heights o_this_heights] : List va_W)) _ := (show va_P D vwCl (fl ([ce_X13 a_this at_this a_this_heights x_this s_this o_this, ce_M kA a_this_heights r_this_heights o_this_heights] ++ [] : List va_W)) _ from (by rw [fl_app]; exact hP))
  have hD : va_D A (fl ([ce_X13 a_this at_this a_this_heights x_this s_this o_this, ce_M kA a_this_heights r_this_heights o_this_heights] : List va_W)) := (show va_D A (fl ([ce_X13 a_this at_this a_this_heights x_this s_this o_this, ce_M kA a_this_heights r_this_heights o_this_heights] ++ [] : List va_W)) from (by rw [fl_app]; exact hD))
  refine W.eq (g2 := F0 m 26 ls [.float u_7, .float (FP.fmul u_4 (1082130432 : UInt32))]) rfl ?_
  obtain ⟨hn_9, hf⟩ := os_if hf
  refine lv_fadd hx hb dX13_estimate_26 hn_9 ?_
  refine lv_aload_n hx hb dX13_estimate_27 rfl (lv_at hl 1 rfl) ?_
  refine lv_iload_n hx hb dX13_estimate_28 rfl (lv_at hl 2 rfl) ?_
  refine lv_iconst (v := 1) hx hb dX13_estimate_29 (by decide) ?_
  refine lv_iadd hx hb dX13_estimate_30 ?_
  refine lv_iload_n hx hb dX13_estimate_31 rfl (lv_at hl 3 rfl) ?_
  refine lv_fload_n hx hb dX13_estimate_32 rfl (lv_at hl 0 rfl) ?_
  obtain ⟨u_10, he_11, hf⟩ := os_bd hf
  refine mg_callV (wcs := [ce_X13 a_this at_this a_this_heights x_this s_this o_this, ce_M kA a_this_heights r_this_heights o_this_heights]) (wrs := []) (ss := [ce_X13 a_this at_this a_this_heights x_this s_this o_this, ce_M kA a_this_heights r_this_heights o_this_heights]) ⟨hx, hb, hml, hown, hts⟩ (mm_X13_lightAt l hst zz D kA N at_this s_this x_this a_this a_this_heights r_this_heights o_this o_this_heights (a1 + (1 : Int32)) a2 u_4 u_10 he_11) (cwV 3 hts gX13_estimate_X13_lightAt rfl rfl rfl (by decide +kernel) ⟨Nat.le_of_ble_eq_true rfl, Nat.le_of_ble_eq_true rfl⟩) (va_recv hK hP (q0 := pl [ce_X13 a_this at_this a_this_heights x_this s_this o_this, ce_M kA a_this_heights r_this_heights o_this_heights] 0 0) rfl (sg_get rfl rfl)) rfl hl.1 (As := [.int (a1 + (1 : Int32)), .int a2, .float u_4]) (rest := [.float (FP.fadd (FP.fmul u_4 (1082130432 : UInt32)) u_7)]) rfl (Nat.le_of_ble_eq_true rfl) dX13_estimate_33 ⟨(by show 0 + 0 ≤ 0; omega), (by show 0 + 0 ≤ 0; omega)⟩ hK hP hD hS hA hZ (pm_seg [ce_X13 a_this at_this a_this_heights x_this s_this o_this, ce_M kA a_this_heights r_this_heights o_this_heights] ([ce_X13 a_this at_this a_this_heights x_this s_this o_this, ce_M kA a_this_heights r_this_heights o_this_heights] ++ []) [0, 1] 2 rfl (by decide) rfl (by decide)) (fun rv w1 H locs hq hP hD hS => ?_)
  obtain ⟨rfl, rfl⟩ := hq
  refine W.widen (k := 0) (n := 0) (by show _ + 0 ≤ _; omega) (by show _ + 0 ≤ _; omega) ?_
  have hP : va_P D vwCl (fl ([ce_X13 a_this at_this a_this_heights x_this s_this o_this, ce_M kA a_this_heights r_this_heights o_this_heights] : List va_W)) _ := (show va_P D vwCl (fl ([ce_X13 a_this at_this a_this_heights x_this s_this o_this, ce_M kA a_this_heights r_this_heights o_this_heights] ++ [] : List va_W)) _ from (by rw [fl_app]; exact hP))
  have hD : va_D A (fl ([ce_X13 a_this at_this a_this_heights x_this s_this o_this, ce_M kA a_this_heights r_this_heights o_this_heights] : List va_W)) := (show va_D A (fl ([ce_X13 a_this at_this a_this_heights x_this s_this o_this, ce_M kA a_this_heights r_this_heights o_this_heights] ++ [] : List va_W)) from (by rw [fl_app]; exact hD))
  refine W.eq (g2 := F0 m 36 ls [.float u_10, .float (FP.fadd (FP.fmul u_4 (1082130432 : UInt32)) u_7)]) rfl ?_
  obtain ⟨hn_12, hf⟩ := os_if hf
  refine lv_fadd hx hb dX13_estimate_36 hn_12 ?_
  refine lv_aload_n hx hb dX13_estimate_37 rfl (lv_at hl 1 rfl) ?_
  refine lv_iload_n hx hb dX13_estimate_38 rfl (lv_at hl 2 rfl) ?_
  refine lv_iload_n hx hb dX13_estimate_39 rfl (lv_at hl 3 rfl) ?_
  refine lv_iconst (v := 1) hx hb dX13_estimate_40 (by decide) ?_
  refine lv_isub hx hb dX13_estimate_41 ?_
  refine lv_fload_n hx hb dX13_estimate_42 rfl (lv_at hl 0 rfl) ?_
  obtain ⟨u_13, he_14, hf⟩ := os_bd hf
  refine mg_callV (wcs := [ce_X13 a_this at_this a_this_heights x_this s_this o_this, ce_M kA a_this_heights r_this_heights o_this_heights]) (wrs := []) (ss := [ce_X13 a_this at_this a_this_heights x_this s_this o_this, ce_M kA a_this_heights r_this_heights o_this_heights]) ⟨hx, hb, hml, hown, hts⟩ (mm_X13_lightAt l hst zz D kA N at_this s_this x_this a_this a_this_heights r_this_heights o_this o_this_heights a1 (a2 - (1 : Int32)) u_4 u_13 he_14) (cwV 3 hts gX13_estimate_X13_lightAt rfl rfl rfl (by decide +kernel) ⟨Nat.le_of_ble_eq_true rfl, Nat.le_of_ble_eq_true rfl⟩) (va_recv hK hP (q0 := pl [ce_X13 a_this at_this a_this_heights x_this s_this o_this, ce_M kA a_this_heights r_this_heights o_this_heights] 0 0) rfl (sg_get rfl rfl)) rfl hl.1 (As := [.int a1, .int (a2 - (1 : Int32)), .float u_4]) (rest := [.float (FP.fadd (FP.fadd (FP.fmul u_4 (1082130432 : UInt32)) u_7) u_10)]) rfl (Nat.le_of_ble_eq_true rfl) dX13_estimate_43 ⟨(by show 0 + 0 ≤ 0; omega), (by show 0 + 0 ≤ 0; omega)⟩ hK hP hD hS hA hZ (pm_seg [ce_X13 a_this at_this a_this_heights x_this s_this o_this, ce_M kA a_this_heights r_this_heights o_this_heights] ([ce_X13 a_this at_this a_this_heights x_this s_this o_this, ce_M kA a_this_heights r_this_heights o_this_heights] ++ []) [0, 1] 2 rfl (by decide) rfl (by decide)) (fun rv w1 H locs hq hP hD hS => ?_)
  obtain ⟨rfl, rfl⟩ := hq
  refine W.widen (k := 0) (n := 0) (by show _ + 0 ≤ _; omega) (by show _ + 0 ≤ _; omega) ?_
  have hP : va_P D vwCl (fl ([ce_X13 a_this at_this a_this_heights x_this s_this o_this, ce_M kA a_this_heights r_this_heights o_this_heights] : List va_W)) _ := (show va_P D vwCl (fl ([ce_X13 a_this at_this a_this_heights x_this s_this o_this, ce_M kA a_this_heights r_this_heights o_this_heights] ++ [] : List va_W)) _ from (by rw [fl_app]; exact hP))
  have hD : va_D A (fl ([ce_X13 a_this at_this a_this_heights x_this s_this o_this, ce_M kA a_this_heights r_this_heights o_this_heights] : List va_W)) := (show va_D A (fl ([ce_X13 a_this at_this a_this_heights x_this s_this o_this, ce_M kA a_this_heights r_this_heights o_this_heights] ++ [] : List va_W)) from (by rw [fl_app]; exact hD))
  refine W.eq (g2 := F0 m 46 ls [.float u_13, .float (FP.fadd (FP.fadd (FP.fmul u_4 (1082130432 : UInt32)) u_7) u_10)]) rfl ?_
  obtain ⟨hn_15, hf⟩ := os_if hf
  refine lv_fadd hx hb dX13_estimate_46 hn_15 ?_
  refine lv_aload_n hx hb dX13_estimate_47 rfl (lv_at hl 1 rfl) ?_
  refine lv_iload_n hx hb dX13_estimate_48 rfl (lv_at hl 2 rfl) ?_
  refine lv_iload_n hx hb dX13_estimate_49 rfl (lv_at hl 3 rfl) ?_
  refine lv_iconst (v := 1) hx hb dX13_estimate_50 (by decide) ?_
  refine lv_iadd hx hb dX13_estimate_51 ?_
  refine lv_fload_n hx hb dX13_estimate_52 rfl (lv_at hl 0 rfl) ?_
  obtain ⟨u_16, he_17, hf⟩ := os_bd hf
  refine mg_callV (wcs := [ce_X13 a_this at_this a_this_heights x_this s_this o_this, ce_M kA a_this_heights r_this_heights o_this_heights]) (wrs := []) (ss := [ce_X13 a_this at_this a_this_heights x_this s_this o_this, ce_M kA a_this_heights r_this_heights o_this_heights]) ⟨hx, hb, hml, hown, hts⟩ (mm_X13_lightAt l hst zz D kA N at_this s_this x_this a_this a_this_heights r_this_heights o_this o_this_heights a1 (a2 + (1 : Int32)) u_4 u_16 he_17) (cwV 3 hts gX13_estimate_X13_lightAt rfl rfl rfl (by decide +kernel) ⟨Nat.le_of_ble_eq_true rfl, Nat.le_of_ble_eq_true rfl⟩) (va_recv hK hP (q0 := pl [ce_X13 a_this at_this a_this_heights x_this s_this o_this, ce_M kA a_this_heights r_this_heights o_this_heights] 0 0) rfl (sg_get rfl rfl)) rfl hl.1 (As := [.int a1, .int (a2 + (1 : Int32)), .float u_4]) (rest := [.float (FP.fadd (FP.fadd (FP.fadd (FP.fmul u_4 (1082130432 : UInt32)) u_7) u_10) u_13)]) rfl (Nat.le_of_ble_eq_true rfl) dX13_estimate_53 ⟨(by show 0 + 0 ≤ 0; omega), (by show 0 + 0 ≤ 0; omega)⟩ hK hP hD hS hA hZ (pm_seg [ce_X13 a_this at_this a_this_heights x_this s_this o_this, ce_M kA a_this_heights r_this_heights o_this_heights] ([ce_X13 a_this at_this a_this_heights x_this s_this o_this, ce_M kA a_this_heights r_this_heights o_this_heights] ++ []) [0, 1] 2 rfl (by decide) rfl (by decide)) (fun rv w1 H locs hq hP hD hS => ?_)
  obtain ⟨rfl, rfl⟩ := hq
  refine W.widen (k := 0) (n := 0) (by show _ + 0 ≤ _; omega) (by show _ + 0 ≤ _; omega) ?_
  have hP : va_P D vwCl (fl ([ce_X13 a_this at_this a_this_heights x_this s_this o_this, ce_M kA a_this_heights r_this_heights o_this_heights] : List va_W)) _ := (show va_P D vwCl (fl ([ce_X13 a_this at_this a_this_heights x_this s_this o_this, ce_M kA a_this_heights r_this_heights o_this_heights] ++ [] : List va_W)) _ from (by rw [fl_app]; exact hP))
  have hD : va_D A (fl ([ce_X13 a_this at_this a_this_heights x_this s_this o_this, ce_M kA a_this_heights r_this_heights o_this_heights] : List va_W)) := (show va_D A (fl ([ce_X13 a_this at_this a_this_heights x_this s_this o_this, ce_M kA a_this_heights r_this_heights o_this_heights] ++ [] : List va_W)) from (by rw [fl_app]; exact hD))
  refine W.eq (g2 := F0 m 56 ls [.float u_16, .float (FP.fadd (FP.fadd (FP.fadd (FP.fmul u_4 (1082130432 : UInt32)) u_7) u_10) u_13)]) rfl ?_
  obtain ⟨hn_18, hf⟩ := os_if hf
  refine lv_fadd hx hb dX13_estimate_56 hn_18 ?_
  refine lv_ldcf hx hb hown (hts (Cond.constantFloat RX13 144 (1090519040)) (List.mem_of_getElem? (i := 3) rfl)) dX13_estimate_57 ?_
  obtain ⟨hn_19, hf⟩ := os_if hf
  refine lv_fdiv hx hb dX13_estimate_59 hn_19 ?_
  have hP : va_P D vwCl (fl ([ce_X13 a_this at_this a_this_heights x_this s_this o_this, ce_M kA a_this_heights r_this_heights o_this_heights] : List va_W)) _ := hP
  have hD : va_D A (fl ([ce_X13 a_this at_this a_this_heights x_this s_this o_this, ce_M kA a_this_heights r_this_heights o_this_heights] : List va_W)) := hD
  rw [← Option.some.inj hf]
  exact mg_retf ⟨rfl, rfl⟩ (by show _ ≤ 0; omega) (by show _ ≤ 0; omega) hx hb hr hlk hP hK hD hS dX13_estimate_60
def ff_X13_error (N : Nat) (o_this : os_T) (o_this_tones : os_T) (o_this_heights : os_T) (a1 : Int32) (a2 : Int32) : Option UInt32 :=
  ((ff_X13_estimate N o_this o_this_heights a1 a2).bind fun u_1 => (if os_in a2 (cm_n o_this_tones) then (if Int32.toNatClampNeg a2 < cm_b o_this_tones then (if os_in a1 (cm_c o_this_tones) then (if os_nn (FP.fdiv (FP.i2f (os_A o_this_tones (Int32.toNatClampNeg a2) (Int32.toNatClampNeg a1))) (1132396544 : UInt32)) then (if os_nn (FP.fsub u_1 (FP.fdiv (FP.i2f (os_A o_this_tones (Int32.toNatClampNeg a2) (Int32.toNatClampNeg a1))) (1132396544 : UInt32))) then some (FP.fsub u_1 (FP.fdiv (FP.i2f (os_A o_this_tones (Int32.toNatClampNeg a2) (Int32.toNatClampNeg a1))) (1132396544 : UInt32))) else none) else none) else none) else none) else none))
set_option maxHeartbeats 4000000 in
set_option maxRecDepth 100000 in
theorem mm_X13_error (l : Launch) (hst : l.stackTraces = false) (zz : Nat → Nat → Nat) (D : va_G) (kA : Nat → ClassId) (N : Nat) (s_this : Nat) (x_this : Nat) (a_this : Nat) (a_this_tones : Nat) (a_this_heights : Nat) (r_this_tones : Nat → Nat) (r_this_heights : Nat → Nat) (o_this : os_T) (o_this_tones : os_T) (o_this_heights : os_T) (a1 : Int32) (a2 : Int32) (out : UInt32) (hf : ff_X13_error N o_this o_this_tones o_this_heights a1 a2 = some out) : mg_C l zz D kA yX13_error wsX13_error ({ frames := 28, cells := 0, slots := 0, locals := 592 } : Room) [.ref a_this, .int a1, .int a2] (fl ([ce_X13 a_this a_this_tones a_this_heights x_this s_this o_this, ce_M kA a_this_tones r_this_tones o_this_tones, ce_M kA a_this_heights r_this_heights o_this_heights] : List va_W)) (fun rv w1 => rv = some (.float out) ∧ w1 = (fl ([ce_X13 a_this a_this_tones a_this_heights x_this s_this o_this, ce_M kA a_this_tones r_this_tones o_this_tones, ce_M kA a_this_heights r_this_heights o_this_heights] : List va_W))) := by
  refine mg_of (cc := cX13_error) (maxL := 3) (ret := (some .float)) (by decide) rfl (Nat.le_of_ble_eq_true rfl) ?_
  intro p e s m below meth c A B hZ hD hP hS ls hl
  obtain ⟨hx, hb, hr, hlk, hml, hown, hts, hK, hA, hnm⟩ := B
  have hown : s.vm.findClass RX13 = some m.cls := hown
  have hl : lv_has ls 3 [(0, .ref a_this), (1, .int a1), (2, .int a2)] := hl
  have hP : va_P D vwCl (fl ([ce_X13 a_this a_this_tones a_this_heights x_this s_this o_this, ce_M kA a_this_tones r_this_tones o_this_tones, ce_M kA a_this_heights r_this_heights o_this_heights] : List va_W)) s.heap := hP
  have hUX13 : ∀ w ∈ u_ws RX13 TX13 13, w.before [.ref a_this, .int a1, .int a2].toArray s = true := fun w h => hts w (List.mem_cons_of_mem _ (List.mem_append_right _ h))
  unfold ff_X13_error at hf
  refine lv_aload_n hx hb dX13_error_0 rfl (lv_at hl 0 rfl) ?_
  refine lv_iload_n hx hb dX13_error_1 rfl (lv_at hl 1 rfl) ?_
  refine lv_iload_n hx hb dX13_error_2 rfl (lv_at hl 2 rfl) ?_
  obtain ⟨u_1, he_2, hf⟩ := os_bd hf
  refine mg_callV (wcs := [ce_X13 a_this a_this_tones a_this_heights x_this s_this o_this, ce_M kA a_this_heights r_this_heights o_this_heights]) (wrs := [ce_M kA a_this_tones r_this_tones o_this_tones]) (ss := [ce_X13 a_this a_this_tones a_this_heights x_this s_this o_this, ce_M kA a_this_tones r_this_tones o_this_tones, ce_M kA a_this_heights r_this_heights o_this_heights]) ⟨hx, hb, hml, hown, hts⟩ (mm_X13_estimate l hst zz D kA N a_this_tones s_this x_this a_this a_this_heights r_this_heights o_this o_this_heights a1 a2 u_1 he_2) (cwV 2 hts gX13_error_X13_estimate rfl rfl rfl (by decide +kernel) ⟨Nat.le_of_ble_eq_true rfl, Nat.le_of_ble_eq_true rfl⟩) (va_recv hK hP (q0 := pl [ce_X13 a_this a_this_tones a_this_heights x_this s_this o_this, ce_M kA a_this_tones r_this_tones o_this_tones, ce_M kA a_this_heights r_this_heights o_this_heights] 0 0) rfl (sg_get rfl rfl)) rfl hl.1 (As := [.int a1, .int a2]) (rest := []) rfl (Nat.le_of_ble_eq_true rfl) dX13_error_3 ⟨(by show 0 + 0 ≤ 0; omega), (by show 0 + 0 ≤ 0; omega)⟩ hK hP hD hS hA hZ (pm_seg [ce_X13 a_this a_this_tones a_this_heights x_this s_this o_this, ce_M kA a_this_tones r_this_tones o_this_tones, ce_M kA a_this_heights r_this_heights o_this_heights] ([ce_X13 a_this a_this_tones a_this_heights x_this s_this o_this, ce_M kA a_this_heights r_this_heights o_this_heights] ++ [ce_M kA a_this_tones r_this_tones o_this_tones]) [0, 2, 1] 3 rfl (by decide) rfl (by decide)) (fun rv w1 H locs hq hP hD hS => ?_)
  obtain ⟨rfl, rfl⟩ := hq
  refine W.widen (k := 0) (n := 0) (by show _ + 0 ≤ _; omega) (by show _ + 0 ≤ _; omega) ?_
  have hP : va_P D vwCl (fl ([ce_X13 a_this a_this_tones a_this_heights x_this s_this o_this, ce_M kA a_this_heights r_this_heights o_this_heights, ce_M kA a_this_tones r_this_tones o_this_tones] : List va_W)) _ := (show va_P D vwCl (fl ([ce_X13 a_this a_this_tones a_this_heights x_this s_this o_this, ce_M kA a_this_heights r_this_heights o_this_heights] ++ [ce_M kA a_this_tones r_this_tones o_this_tones] : List va_W)) _ from (by rw [fl_app]; exact hP))
  have hD : va_D A (fl ([ce_X13 a_this a_this_tones a_this_heights x_this s_this o_this, ce_M kA a_this_heights r_this_heights o_this_heights, ce_M kA a_this_tones r_this_tones o_this_tones] : List va_W)) := (show va_D A (fl ([ce_X13 a_this a_this_tones a_this_heights x_this s_this o_this, ce_M kA a_this_heights r_this_heights o_this_heights] ++ [ce_M kA a_this_tones r_this_tones o_this_tones] : List va_W)) from (by rw [fl_app]; exact hD))
  refine W.eq (g2 := F0 m 6 ls [.float u_1]) rfl ?_
  refine lv_aload_n hx hb dX13_error_6 rfl (lv_at hl 0 rfl) ?_
  refine va_get (D := D) (ci := 11) (v := .ref a_this_tones) (C := RX13) (T := TX13) (N := 13) hx hb hUX13 (fun _ h9 => h9) hown hK hP (pl [ce_X13 a_this a_this_tones a_this_heights x_this s_this o_this, ce_M kA a_this_heights r_this_heights o_this_heights, ce_M kA a_this_tones r_this_tones o_this_tones] 0 0) (sg_get rfl rfl) rfl 8 (by decide) (hts (Cond.fieldLink RX13 33 "ReliefBuilderLaw$World" "tones" "[[I") (List.mem_of_getElem? (i := 1) rfl)) (fun _ h9 => h9) rfl dX13_error_7 ?_
  refine lv_iload_n hx hb dX13_error_10 rfl (lv_at hl 2 rfl) ?_
  obtain ⟨hi_3, hf⟩ := os_if hf
  obtain ⟨hy_4, hf⟩ := os_if hf
  refine sg_aald hx hb hK hP (pl [ce_X13 a_this a_this_tones a_this_heights x_this s_this o_this, ce_M kA a_this_heights r_this_heights o_this_heights, ce_M kA a_this_tones r_this_tones o_this_tones] 2 0) (sg_get rfl cm_0) hi_3 (if_pos hy_4) dX13_error_11 ?_
  refine lv_iload_n hx hb dX13_error_12 rfl (lv_at hl 1 rfl) ?_
  obtain ⟨hi_5, hf⟩ := os_if hf
  refine va_iald hx hb hK hP (pl [ce_X13 a_this a_this_tones a_this_heights x_this s_this o_this, ce_M kA a_this_heights r_this_heights o_this_heights, ce_M kA a_this_tones r_this_tones o_this_tones] 2 (Int32.toNatClampNeg a2 + 1)) 0 (sg_get rfl (cm_row hy_4)) rfl hi_5 dX13_error_13 ?_
  refine lv_i2f hx hb dX13_error_14 ?_
  refine lv_ldcf hx hb hown (hts (Cond.constantFloat RX13 121 (1132396544)) (List.mem_of_getElem? (i := 2) rfl)) dX13_error_15 ?_
  obtain ⟨hn_6, hf⟩ := os_if hf
  refine lv_fdiv hx hb dX13_error_17 hn_6 ?_
  obtain ⟨hn_7, hf⟩ := os_if hf
  refine lv_fsub hx hb dX13_error_18 hn_7 ?_
  have hP : va_P D vwCl (fl ([ce_X13 a_this a_this_tones a_this_heights x_this s_this o_this, ce_M kA a_this_tones r_this_tones o_this_tones, ce_M kA a_this_heights r_this_heights o_this_heights] : List va_W)) _ := hP.pm (pm_seg [ce_X13 a_this a_this_tones a_this_heights x_this s_this o_this, ce_M kA a_this_heights r_this_heights o_this_heights, ce_M kA a_this_tones r_this_tones o_this_tones] [ce_X13 a_this a_this_tones a_this_heights x_this s_this o_this, ce_M kA a_this_tones r_this_tones o_this_tones, ce_M kA a_this_heights r_this_heights o_this_heights] [0, 2, 1] 3 rfl (by decide) rfl (by decide))
  have hD : va_D A (fl ([ce_X13 a_this a_this_tones a_this_heights x_this s_this o_this, ce_M kA a_this_tones r_this_tones o_this_tones, ce_M kA a_this_heights r_this_heights o_this_heights] : List va_W)) := hD.pm (pm_seg [ce_X13 a_this a_this_tones a_this_heights x_this s_this o_this, ce_M kA a_this_heights r_this_heights o_this_heights, ce_M kA a_this_tones r_this_tones o_this_tones] [ce_X13 a_this a_this_tones a_this_heights x_this s_this o_this, ce_M kA a_this_tones r_this_tones o_this_tones, ce_M kA a_this_heights r_this_heights o_this_heights] [0, 2, 1] 3 rfl (by decide) rfl (by decide))
  have hP : va_P D vwCl (fl ([ce_X13 a_this a_this_tones a_this_heights x_this s_this o_this, ce_M kA a_this_tones r_this_tones o_this_tones, ce_M kA a_this_heights r_this_heights o_this_heights] : List va_W)) _ := hP
  have hD : va_D A (fl ([ce_X13 a_this a_this_tones a_this_heights x_this s_this o_this, ce_M kA a_this_tones r_this_tones o_this_tones, ce_M kA a_this_heights r_this_heights o_this_heights] : List va_W)) := hD
  rw [← Option.some.inj hf]
  exact mg_retf ⟨rfl, rfl⟩ (by show _ ≤ 0; omega) (by show _ ≤ 0; omega) hx hb hr hlk hP hK hD hS dX13_error_19
def ff_X13_run_b137 (N : Nat) (o_this : os_T) (o_this_heights : os_T) (k22 : (Int32 × Int32 × Int32 × Int32 × Int32 × Int32 × Int32 × Int32) → Option Int32) (x1 : Int32) (x2 : Int32) (x3 : Int32) (x4 : Int32) (x6 : Int32) (x7 : Int32) (x8 : Int32) (t0 : Int32) : Option Int32 :=
  k22 (x1, x2, x3, x4, t0, x6, x7, x8 + 1)
def ff_X13_run_b123 (N : Nat) (o_this : os_T) (o_this_heights : os_T) (k22 : (Int32 × Int32 × Int32 × Int32 × Int32 × Int32 × Int32 × Int32) → Option Int32) (x1 : Int32) (x2 : Int32) (x3 : Int32) (x4 : Int32) (x5 : Int32) (x6 : Int32) (x8 : Int32) (t0 : Int32) : Option Int32 :=
  (if t0 = 0 then ff_X13_run_b137 N o_this o_this_heights k22 x1 x2 x3 x4 x6 t0 x8 x5 else ff_X13_run_b137 N o_this o_this_heights k22 x1 x2 x3 x4 x6 t0 x8 x6)
def ff_X13_run_b122 (N : Nat) (o_this : os_T) (o_this_heights : os_T) (k22 : (Int32 × Int32 × Int32 × Int32 × Int32 × Int32 × Int32 × Int32) → Option Int32) (x1 : Int32) (x2 : Int32) (x3 : Int32) (x4 : Int32) (x5 : Int32) (x6 : Int32) (x8 : Int32) : Option Int32 :=
  ff_X13_run_b123 N o_this o_this_heights k22 x1 x2 x3 x4 x5 x6 x8 (0 : Int32)
def ff_X13_run_b118 (N : Nat) (o_this : os_T) (o_this_heights : os_T) (k22 : (Int32 × Int32 × Int32 × Int32 × Int32 × Int32 × Int32 × Int32) → Option Int32) (x1 : Int32) (x2 : Int32) (x3 : Int32) (x4 : Int32) (x5 : Int32) (x6 : Int32) (x8 : Int32) : Option Int32 :=
  ff_X13_run_b123 N o_this o_this_heights k22 x1 x2 x3 x4 x5 x6 x8 (1 : Int32)
def ff_X13_run_b115 (N : Nat) (o_this : os_T) (o_this_heights : os_T) (k22 : (Int32 × Int32 × Int32 × Int32 × Int32 × Int32 × Int32 × Int32) → Option Int32) (x1 : Int32) (x2 : Int32) (x3 : Int32) (x4 : Int32) (x5 : Int32) (x6 : Int32) (x8 : Int32) (t0 : Int32) (t1 : Int32) : Option Int32 :=
  (if t1 = t0 then ff_X13_run_b118 N o_this o_this_heights k22 x1 x2 x3 x4 x5 x6 x8 else ff_X13_run_b122 N o_this o_this_heights k22 x1 x2 x3 x4 x5 x6 x8)
def ff_X13_run_b92 (N : Nat) (o_this : os_T) (o_this_heights : os_T) (k22 : (Int32 × Int32 × Int32 × Int32 × Int32 × Int32 × Int32 × Int32) → Option Int32) (x1 : Int32) (x2 : Int32) (x3 : Int32) (x4 : Int32) (x5 : Int32) (x7 : Int32) (x8 : Int32) (x9 : Int32) (t0 : Int32) : Option Int32 :=
  (if x9 = 0 then ff_X13_run_b122 N o_this o_this_heights k22 x1 x2 x3 x4 x5 t0 x8 else (if x7 = 0 then (if x3 = 0 then ff_X13_run_b115 N o_this o_this_heights k22 x1 x2 x3 x4 x5 t0 x8 x2 x8 else ff_X13_run_b115 N o_this o_this_heights k22 x1 x2 x3 x4 x5 t0 x8 x1 x8) else ff_X13_run_b118 N o_this o_this_heights k22 x1 x2 x3 x4 x5 t0 x8))
def ff_X13_run_b77 (N : Nat) (o_this : os_T) (o_this_heights : os_T) (k22 : (Int32 × Int32 × Int32 × Int32 × Int32 × Int32 × Int32 × Int32) → Option Int32) (x1 : Int32) (x2 : Int32) (x3 : Int32) (x4 : Int32) (x5 : Int32) (x6 : Int32) (x7 : Int32) (x8 : Int32) (t0 : Int32) : Option Int32 :=
  (if t0 = 0 then ff_X13_run_b92 N o_this o_this_heights k22 x1 x2 x3 x4 x5 x7 x8 t0 (0 : Int32) else ff_X13_run_b92 N o_this o_this_heights k22 x1 x2 x3 x4 x5 x7 x8 t0 (x6 + (1 : Int32)))
def ff_X13_run_b67 (N : Nat) (o_this : os_T) (o_this_heights : os_T) (k22 : (Int32 × Int32 × Int32 × Int32 × Int32 × Int32 × Int32 × Int32) → Option Int32) (x1 : Int32) (x2 : Int32) (x3 : Int32) (x4 : Int32) (x5 : Int32) (x6 : Int32) (x7 : Int32) (x8 : Int32) (t0 : Int32) : Option Int32 :=
  (if t0 < x4 then ff_X13_run_b77 N o_this o_this_heights k22 x1 x2 x3 x4 x5 x6 x7 x8 (0 : Int32) else ff_X13_run_b77 N o_this o_this_heights k22 x1 x2 x3 x4 x5 x6 x7 x8 (1 : Int32))
def ff_X13_run_b39 (N : Nat) (o_this : os_T) (o_this_heights : os_T) (k22 : (Int32 × Int32 × Int32 × Int32 × Int32 × Int32 × Int32 × Int32) → Option Int32) (x1 : Int32) (x2 : Int32) (x3 : Int32) (x4 : Int32) (x5 : Int32) (x6 : Int32) (x7 : Int32) (x8 : Int32) (t0 : Int32) (t1 : Int32) : Option Int32 :=
  (if t0 ≤ t1 then some x5 else (if x3 = 0 then (if os_in x8 (cm_n o_this_heights) then (if Int32.toNatClampNeg x8 < cm_b o_this_heights then (if os_in x1 (cm_c o_this_heights) then ff_X13_run_b67 N o_this o_this_heights k22 x1 x2 x3 x4 x5 x6 x7 x8 (os_A o_this_heights (Int32.toNatClampNeg x8) (Int32.toNatClampNeg x1)) else none) else none) else none) else (if os_in x2 (cm_n o_this_heights) then (if Int32.toNatClampNeg x2 < cm_b o_this_heights then (if os_in x8 (cm_c o_this_heights) then ff_X13_run_b67 N o_this o_this_heights k22 x1 x2 x3 x4 x5 x6 x7 x8 (os_A o_this_heights (Int32.toNatClampNeg x2) (Int32.toNatClampNeg x8)) else none) else none) else none)))
def ff_X13_run_c22 (N : Nat) (o_this : os_T) (o_this_heights : os_T) (k22 : (Int32 × Int32 × Int32 × Int32 × Int32 × Int32 × Int32 × Int32) → Option Int32) (x1 : Int32) (x2 : Int32) (x3 : Int32) (x4 : Int32) (x5 : Int32) (x6 : Int32) (x7 : Int32) (x8 : Int32) : Option Int32 :=
  (if x3 = 0 then ff_X13_run_b39 N o_this o_this_heights k22 x1 x2 x3 x4 x5 x6 x7 x8 (os_I o_this 1) x8 else ff_X13_run_b39 N o_this o_this_heights k22 x1 x2 x3 x4 x5 x6 x7 x8 (os_I o_this 0) x8)
def ff_X13_run_l22 (N : Nat) (o_this : os_T) (o_this_heights : os_T) : Nat → (Int32 × Int32 × Int32 × Int32 × Int32 × Int32 × Int32 × Int32) → Option Int32 := os_loop (fun k22 s1 => ff_X13_run_c22 N o_this o_this_heights k22 s1.1 s1.2.1 s1.2.2.1 s1.2.2.2.1 s1.2.2.2.2.1 s1.2.2.2.2.2.1 s1.2.2.2.2.2.2.1 s1.2.2.2.2.2.2.2)
def ff_X13_run (N : Nat) (o_this : os_T) (o_this_heights : os_T) (a1 : Int32) (a2 : Int32) (a3 : Int32) : Option Int32 :=
  (if os_in a2 (cm_n o_this_heights) then (if Int32.toNatClampNeg a2 < cm_b o_this_heights then (if os_in a1 (cm_c o_this_heights) then ff_X13_run_l22 N o_this o_this_heights N (a1, a2, a3, os_A o_this_heights (Int32.toNatClampNeg a2) (Int32.toNatClampNeg a1), (0 : Int32), (0 : Int32), (0 : Int32), (0 : Int32)) else none) else none) else none)
set_option maxHeartbeats 4000000 in
set_option maxRecDepth 100000 in
theorem mm_X13_run (l : Launch) (hst : l.stackTraces = false) (zz : Nat → Nat → Nat) (D : va_G) (kA : Nat → ClassId) (N : Nat) (at_this : Nat) (s_this : Nat) (x_this : Nat) (a_this : Nat) (a_this_heights : Nat) (r_this_heights : Nat → Nat) (o_this : os_T) (o_this_heights : os_T) (a1 : Int32) (a2 : Int32) (a3 : Int32) (out : Int32) (hf : ff_X13_run N o_this o_this_heights a1 a2 a3 = some out) : mg_C l zz D kA yX13_run wsX13_run ({ frames := 0, cells := 0, slots := 0, locals := 0 } : Room) [.ref a_this, .int a1, .int a2, .int a3] (fl ([ce_X13 a_this at_this a_this_heights x_this s_this o_this, ce_M kA a_this_heights r_this_heights o_this_heights] : List va_W)) (fun rv w1 => rv = some (.int out) ∧ w1 = (fl ([ce_X13 a_this at_this a_this_heights x_this s_this o_this, ce_M kA a_this_heights r_this_heights o_this_heights] : List va_W))) := by
  refine mg_of (cc := cX13_run) (maxL := 10) (ret := (some .int)) (by decide) rfl (Nat.le_of_ble_eq_true rfl) ?_
  intro p e s m below meth c A B hZ hD hP hS ls hl
  obtain ⟨hx, hb, hr, hlk, hml, hown, hts, hK, hA, hnm⟩ := B
  have hown : s.vm.findClass RX13 = some m.cls := hown
  have hl : lv_has ls 10 [(0, .ref a_this), (1, .int a1), (2, .int a2), (3, .int a3)] := hl
  have hP : va_P D vwCl (fl ([ce_X13 a_this at_this a_this_heights x_this s_this o_this, ce_M kA a_this_heights r_this_heights o_this_heights] : List va_W)) s.heap := hP
  have hUX13 : ∀ w ∈ u_ws RX13 TX13 13, w.before [.ref a_this, .int a1, .int a2, .int a3].toArray s = true := fun w h => hts w (List.mem_cons_of_mem _ (List.mem_append_right _ h))
  have hB137 : ∀ (k22 : (Int32 × Int32 × Int32 × Int32 × Int32 × Int32 × Int32 × Int32) → Option Int32), (∀ (x1 : Int32) (x2 : Int32) (x3 : Int32) (x4 : Int32) (x5 : Int32) (x6 : Int32) (x7 : Int32) (x8 : Int32) (H : Heap) (locs : List Loc) (ls : Array Slot), va_P D vwCl (fl ([ce_X13 a_this at_this a_this_heights x_this s_this o_this, ce_M kA a_this_heights r_this_heights o_this_heights] : List va_W)) H → va_D A (fl ([ce_X13 a_this at_this a_this_heights x_this s_this o_this, ce_M kA a_this_heights r_this_heights o_this_heights] : List va_W)) → va_S A s.heap H locs → lv_has ls 10 [(0, .ref a_this), (1, .int x1), (2, .int x2), (3, .int x3), (4, .int x4), (5, .int x5), (6, .int x6), (7, .int x7), (8, .int x8)] → k22 (x1, x2, x3, x4, x5, x6, x7, x8) = some out → W p l e ({ frames := 0, cells := 0, slots := 0, locals := 0 } : Room) s m [.ref a_this, .int a1, .int a2, .int a3].toArray below meth c H locs 0 0 (MQ below (mg_Q D kA A (fun rv w1 => rv = some (.int out) ∧ w1 = (fl ([ce_X13 a_this at_this a_this_heights x_this s_this o_this, ce_M kA a_this_heights r_this_heights o_this_heights] : List va_W)))) [.ref a_this, .int a1, .int a2, .int a3].toArray s 0 0 A) (F0 m 22 ls [])) → ∀ (x1 : Int32) (x2 : Int32) (x3 : Int32) (x4 : Int32) (x6 : Int32) (x7 : Int32) (x8 : Int32) (t0 : Int32) (H : Heap) (locs : List Loc) (ls : Array Slot), va_P D vwCl (fl ([ce_X13 a_this at_this a_this_heights x_this s_this o_this, ce_M kA a_this_heights r_this_heights o_this_heights] : List va_W)) H → va_D A (fl ([ce_X13 a_this at_this a_this_heights x_this s_this o_this, ce_M kA a_this_heights r_this_heights o_this_heights] : List va_W)) → va_S A s.heap H locs → lv_has ls 10 [(0, .ref a_this), (1, .int x1), (2, .int x2), (3, .int x3), (4, .int x4), (6, .int x6), (7, .int x7), (8, .int x8)] → ff_X13_run_b137 N o_this o_this_heights k22 x1 x2 x3 x4 x6 x7 x8 t0 = some out → W p l e ({ frames := 0, cells := 0, slots := 0, locals := 0 } : Room) s m [.ref a_this, .int a1, .int a2, .int a3].toArray below meth c H locs 0 0 (MQ below (mg_Q D kA A (fun rv w1 => rv = some (.int out) ∧ w1 = (fl ([ce_X13 a_this at_this a_this_heights x_this s_this o_this, ce_M kA a_this_heights r_this_heights o_this_heights] : List va_W)))) [.ref a_this, .int a1, .int a2, .int a3].toArray s 0 0 A) (F0 m 137 ls [.int t0]) := by
    intro k22 hk22 x1 x2 x3 x4 x6 x7 x8 t0 H locs ls hP hD hS hl hf
    unfold ff_X13_run_b137 at hf
    refine lv_istore (lv' := [(5, .int t0), (0, .ref a_this), (1, .int x1), (2, .int x2), (3, .int x3), (4, .int x4), (6, .int x6), (7, .int x7), (8, .int x8)]) hx hb dX13_run_137 hl (by decide) rfl (fun ls hl => ?_)
    refine lv_iinc (v := x8 + 1) (lv' := [(8, .int (x8 + 1)), (5, .int t0), (0, .ref a_this), (1, .int x1), (2, .int x2), (3, .int x3), (4, .int x4), (6, .int x6), (7, .int x7)]) hx hb dX13_run_139 hl (k := 8) rfl rfl (by decide) rfl (fun ls hl => ?_)
    refine lv_goto (tgt := 22) hx hb dX13_run_142 (by decide) ?_
    exact hk22 x1 x2 x3 x4 t0 x6 x7 (x8 + 1) _ _ _ hP hD hS (lv_sub hl [2, 3, 4, 5, 6, 1, 7, 8, 0] rfl) hf
  have hB123 : ∀ (k22 : (Int32 × Int32 × Int32 × Int32 × Int32 × Int32 × Int32 × Int32) → Option Int32), (∀ (x1 : Int32) (x2 : Int32) (x3 : Int32) (x4 : Int32) (x5 : Int32) (x6 : Int32) (x7 : Int32) (x8 : Int32) (H : Heap) (locs : List Loc) (ls : Array Slot), va_P D vwCl (fl ([ce_X13 a_this at_this a_this_heights x_this s_this o_this, ce_M kA a_this_heights r_this_heights o_this_heights] : List va_W)) H → va_D A (fl ([ce_X13 a_this at_this a_this_heights x_this s_this o_this, ce_M kA a_this_heights r_this_heights o_this_heights] : List va_W)) → va_S A s.heap H locs → lv_has ls 10 [(0, .ref a_this), (1, .int x1), (2, .int x2), (3, .int x3), (4, .int x4), (5, .int x5), (6, .int x6), (7, .int x7), (8, .int x8)] → k22 (x1, x2, x3, x4, x5, x6, x7, x8) = some out → W p l e ({ frames := 0, cells := 0, slots := 0, locals := 0 } : Room) s m [.ref a_this, .int a1, .int a2, .int a3].toArray below meth c H locs 0 0 (MQ below (mg_Q D kA A (fun rv w1 => rv = some (.int out) ∧ w1 = (fl ([ce_X13 a_this at_this a_this_heights x_this s_this o_this, ce_M kA a_this_heights r_this_heights o_this_heights] : List va_W)))) [.ref a_this, .int a1, .int a2, .int a3].toArray s 0 0 A) (F0 m 22 ls [])) → ∀ (x1 : Int32) (x2 : Int32) (x3 : Int32) (x4 : Int32) (x5 : Int32) (x6 : Int32) (x8 : Int32) (t0 : Int32) (H : Heap) (locs : List Loc) (ls : Array Slot), va_P D vwCl (fl ([ce_X13 a_this at_this a_this_heights x_this s_this o_this, ce_M kA a_this_heights r_this_heights o_this_heights] : List va_W)) H → va_D A (fl ([ce_X13 a_this at_this a_this_heights x_this s_this o_this, ce_M kA a_this_heights r_this_heights o_this_heights] : List va_W)) → va_S A s.heap H locs → lv_has ls 10 [(0, .ref a_this), (1, .int x1), (2, .int x2), (3, .int x3), (4, .int x4), (5, .int x5), (6, .int x6), (8, .int x8)] → ff_X13_run_b123 N o_this o_this_heights k22 x1 x2 x3 x4 x5 x6 x8 t0 = some out → W p l e ({ frames := 0, cells := 0, slots := 0, locals := 0 } : Room) s m [.ref a_this, .int a1, .int a2, .int a3].toArray below meth c H locs 0 0 (MQ below (mg_Q D kA A (fun rv w1 => rv = some (.int out) ∧ w1 = (fl ([ce_X13 a_this at_this a_this_heights x_this s_this o_this, ce_M kA a_this_heights r_this_heights o_this_heights] : List va_W)))) [.ref a_this, .int a1, .int a2, .int a3].toArray s 0 0 A) (F0 m 123 ls [.int t0]) := by
    intro k22 hk22 x1 x2 x3 x4 x5 x6 x8 t0 H locs ls hP hD hS hl hf
    unfold ff_X13_run_b123 at hf
    refine lv_istore (lv' := [(7, .int t0), (0, .ref a_this), (1, .int x1), (2, .int x2), (3, .int x3), (4, .int x4), (5, .int x5), (6, .int x6), (8, .int x8)]) hx hb dX13_run_123 hl (by decide) rfl (fun ls hl => ?_)
    refine lv_iload hx hb dX13_run_125 (lv_at hl 0 rfl) ?_
    refine lv_if_eq (tgt := 135) hx hb dX13_run_127 (by decide) (fun hc_19 => ?_) (fun hc_19 => ?_)
    · rw [if_pos (show t0 = 0 from hc_19)] at hf
      refine lv_iload hx hb dX13_run_135 (lv_at hl 6 rfl) ?_
      exact hB137 k22 hk22 x1 x2 x3 x4 x6 t0 x8 x5 _ _ _ hP hD hS (lv_sub hl [1, 2, 3, 4, 5, 7, 0, 8] rfl) hf
    · rw [if_neg (show ¬ (t0 = 0) from hc_19)] at hf
      refine lv_iload hx hb dX13_run_130 (lv_at hl 7 rfl) ?_
      refine lv_goto (tgt := 137) hx hb dX13_run_132 (by decide) ?_
      exact hB137 k22 hk22 x1 x2 x3 x4 x6 t0 x8 x6 _ _ _ hP hD hS (lv_sub hl [1, 2, 3, 4, 5, 7, 0, 8] rfl) hf
  have hB122 : ∀ (k22 : (Int32 × Int32 × Int32 × Int32 × Int32 × Int32 × Int32 × Int32) → Option Int32), (∀ (x1 : Int32) (x2 : Int32) (x3 : Int32) (x4 : Int32) (x5 : Int32) (x6 : Int32) (x7 : Int32) (x8 : Int32) (H : Heap) (locs : List Loc) (ls : Array Slot), va_P D vwCl (fl ([ce_X13 a_this at_this a_this_heights x_this s_this o_this, ce_M kA a_this_heights r_this_heights o_this_heights] : List va_W)) H → va_D A (fl ([ce_X13 a_this at_this a_this_heights x_this s_this o_this, ce_M kA a_this_heights r_this_heights o_this_heights] : List va_W)) → va_S A s.heap H locs → lv_has ls 10 [(0, .ref a_this), (1, .int x1), (2, .int x2), (3, .int x3), (4, .int x4), (5, .int x5), (6, .int x6), (7, .int x7), (8, .int x8)] → k22 (x1, x2, x3, x4, x5, x6, x7, x8) = some out → W p l e ({ frames := 0, cells := 0, slots := 0, locals := 0 } : Room) s m [.ref a_this, .int a1, .int a2, .int a3].toArray below meth c H locs 0 0 (MQ below (mg_Q D kA A (fun rv w1 => rv = some (.int out) ∧ w1 = (fl ([ce_X13 a_this at_this a_this_heights x_this s_this o_this, ce_M kA a_this_heights r_this_heights o_this_heights] : List va_W)))) [.ref a_this, .int a1, .int a2, .int a3].toArray s 0 0 A) (F0 m 22 ls [])) → ∀ (x1 : Int32) (x2 : Int32) (x3 : Int32) (x4 : Int32) (x5 : Int32) (x6 : Int32) (x8 : Int32) (H : Heap) (locs : List Loc) (ls : Array Slot), va_P D vwCl (fl ([ce_X13 a_this at_this a_this_heights x_this s_this o_this, ce_M kA a_this_heights r_this_heights o_this_heights] : List va_W)) H → va_D A (fl ([ce_X13 a_this at_this a_this_heights x_this s_this o_this, ce_M kA a_this_heights r_this_heights o_this_heights] : List va_W)) → va_S A s.heap H locs → lv_has ls 10 [(0, .ref a_this), (1, .int x1), (2, .int x2), (3, .int x3), (4, .int x4), (5, .int x5), (6, .int x6), (8, .int x8)] → ff_X13_run_b122 N o_this o_this_heights k22 x1 x2 x3 x4 x5 x6 x8 = some out → W p l e ({ frames := 0, cells := 0, slots := 0, locals := 0 } : Room) s m [.ref a_this, .int a1, .int a2, .int a3].toArray below meth c H locs 0 0 (MQ below (mg_Q D kA A (fun rv w1 => rv = some (.int out) ∧ w1 = (fl ([ce_X13 a_this at_this a_this_heights x_this s_this o_this, ce_M kA a_this_heights r_this_heights o_this_heights] : List va_W)))) [.ref a_this, .int a1, .int a2, .int a3].toArray s 0 0 A) (F0 m 122 ls []) := by
    intro k22 hk22 x1 x2 x3 x4 x5 x6 x8 H locs ls hP hD hS hl hf
    unfold ff_X13_run_b122 at hf
    refine lv_iconst (v := 0) hx hb dX13_run_122 (by decide) ?_
    exact hB123 k22 hk22 x1 x2 x3 x4 x5 x6 x8 (0 : Int32) _ _ _ hP hD hS (lv_sub hl [0, 1, 2, 3, 4, 5, 6, 7] rfl) hf
  have hB118 : ∀ (k22 : (Int32 × Int32 × Int32 × Int32 × Int32 × Int32 × Int32 × Int32) → Option Int32), (∀ (x1 : Int32) (x2 : Int32) (x3 : Int32) (x4 : Int32) (x5 : Int32) (x6 : Int32) (x7 : Int32) (x8 : Int32) (H : Heap) (locs : List Loc) (ls : Array Slot), va_P D vwCl (fl ([ce_X13 a_this at_this a_this_heights x_this s_this o_this, ce_M kA a_this_heights r_this_heights o_this_heights] : List va_W)) H → va_D A (fl ([ce_X13 a_this at_this a_this_heights x_this s_this o_this, ce_M kA a_this_heights r_this_heights o_this_heights] : List va_W)) → va_S A s.heap H locs → lv_has ls 10 [(0, .ref a_this), (1, .int x1), (2, .int x2), (3, .int x3), (4, .int x4), (5, .int x5), (6, .int x6), (7, .int x7), (8, .int x8)] → k22 (x1, x2, x3, x4, x5, x6, x7, x8) = some out → W p l e ({ frames := 0, cells := 0, slots := 0, locals := 0 } : Room) s m [.ref a_this, .int a1, .int a2, .int a3].toArray below meth c H locs 0 0 (MQ below (mg_Q D kA A (fun rv w1 => rv = some (.int out) ∧ w1 = (fl ([ce_X13 a_this at_this a_this_heights x_this s_this o_this, ce_M kA a_this_heights r_this_heights o_this_heights] : List va_W)))) [.ref a_this, .int a1, .int a2, .int a3].toArray s 0 0 A) (F0 m 22 ls [])) → ∀ (x1 : Int32) (x2 : Int32) (x3 : Int32) (x4 : Int32) (x5 : Int32) (x6 : Int32) (x8 : Int32) (H : Heap) (locs : List Loc) (ls : Array Slot), va_P D vwCl (fl ([ce_X13 a_this at_this a_this_heights x_this s_this o_this, ce_M kA a_this_heights r_this_heights o_this_heights] : List va_W)) H → va_D A (fl ([ce_X13 a_this at_this a_this_heights x_this s_this o_this, ce_M kA a_this_heights r_this_heights o_this_heights] : List va_W)) → va_S A s.heap H locs → lv_has ls 10 [(0, .ref a_this), (1, .int x1), (2, .int x2), (3, .int x3), (4, .int x4), (5, .int x5), (6, .int x6), (8, .int x8)] → ff_X13_run_b118 N o_this o_this_heights k22 x1 x2 x3 x4 x5 x6 x8 = some out → W p l e ({ frames := 0, cells := 0, slots := 0, locals := 0 } : Room) s m [.ref a_this, .int a1, .int a2, .int a3].toArray below meth c H locs 0 0 (MQ below (mg_Q D kA A (fun rv w1 => rv = some (.int out) ∧ w1 = (fl ([ce_X13 a_this at_this a_this_heights x_this s_this o_this, ce_M kA a_this_heights r_this_heights o_this_heights] : List va_W)))) [.ref a_this, .int a1, .int a2, .int a3].toArray s 0 0 A) (F0 m 118 ls []) := by
    intro k22 hk22 x1 x2 x3 x4 x5 x6 x8 H locs ls hP hD hS hl hf
    unfold ff_X13_run_b118 at hf
    refine lv_iconst (v := 1) hx hb dX13_run_118 (by decide) ?_
    refine lv_goto (tgt := 123) hx hb dX13_run_119 (by decide) ?_
    exact hB123 k22 hk22 x1 x2 x3 x4 x5 x6 x8 (1 : Int32) _ _ _ hP hD hS (lv_sub hl [0, 1, 2, 3, 4, 5, 6, 7] rfl) hf
  have hB115 : ∀ (k22 : (Int32 × Int32 × Int32 × Int32 × Int32 × Int32 × Int32 × Int32) → Option Int32), (∀ (x1 : Int32) (x2 : Int32) (x3 : Int32) (x4 : Int32) (x5 : Int32) (x6 : Int32) (x7 : Int32) (x8 : Int32) (H : Heap) (locs : List Loc) (ls : Array Slot), va_P D vwCl (fl ([ce_X13 a_this at_this a_this_heights x_this s_this o_this, ce_M kA a_this_heights r_this_heights o_this_heights] : List va_W)) H → va_D A (fl ([ce_X13 a_this at_this a_this_heights x_this s_this o_this, ce_M kA a_this_heights r_this_heights o_this_heights] : List va_W)) → va_S A s.heap H locs → lv_has ls 10 [(0, .ref a_this), (1, .int x1), (2, .int x2), (3, .int x3), (4, .int x4), (5, .int x5), (6, .int x6), (7, .int x7), (8, .int x8)] → k22 (x1, x2, x3, x4, x5, x6, x7, x8) = some out → W p l e ({ frames := 0, cells := 0, slots := 0, locals := 0 } : Room) s m [.ref a_this, .int a1, .int a2, .int a3].toArray below meth c H locs 0 0 (MQ below (mg_Q D kA A (fun rv w1 => rv = some (.int out) ∧ w1 = (fl ([ce_X13 a_this at_this a_this_heights x_this s_this o_this, ce_M kA a_this_heights r_this_heights o_this_heights] : List va_W)))) [.ref a_this, .int a1, .int a2, .int a3].toArray s 0 0 A) (F0 m 22 ls [])) → ∀ (x1 : Int32) (x2 : Int32) (x3 : Int32) (x4 : Int32) (x5 : Int32) (x6 : Int32) (x8 : Int32) (t0 : Int32) (t1 : Int32) (H : Heap) (locs : List Loc) (ls : Array Slot), va_P D vwCl (fl ([ce_X13 a_this at_this a_this_heights x_this s_this o_this, ce_M kA a_this_heights r_this_heights o_this_heights] : List va_W)) H → va_D A (fl ([ce_X13 a_this at_this a_this_heights x_this s_this o_this, ce_M kA a_this_heights r_this_heights o_this_heights] : List va_W)) → va_S A s.heap H locs → lv_has ls 10 [(0, .ref a_this), (1, .int x1), (2, .int x2), (3, .int x3), (4, .int x4), (5, .int x5), (6, .int x6), (8, .int x8)] → ff_X13_run_b115 N o_this o_this_heights k22 x1 x2 x3 x4 x5 x6 x8 t0 t1 = some out → W p l e ({ frames := 0, cells := 0, slots := 0, locals := 0 } : Room) s m [.ref a_this, .int a1, .int a2, .int a3].toArray below meth c H locs 0 0 (MQ below (mg_Q D kA A (fun rv w1 => rv = some (.int out) ∧ w1 = (fl ([ce_X13 a_this at_this a_this_heights x_this s_this o_this, ce_M kA a_this_heights r_this_heights o_this_heights] : List va_W)))) [.ref a_this, .int a1, .int a2, .int a3].toArray s 0 0 A) (F0 m 115 ls [.int t0, .int t1]) := by
    intro k22 hk22 x1 x2 x3 x4 x5 x6 x8 t0 t1 H locs ls hP hD hS hl hf
    unfold ff_X13_run_b115 at hf
    refine lv_icmp_ne (tgt := 122) hx hb dX13_run_115 (by decide) (fun hc_18 => ?_) (fun hc_18 => ?_)
    · rw [if_neg (show ¬ (t1 = t0) from hc_18)] at hf
      exact hB122 k22 hk22 x1 x2 x3 x4 x5 x6 x8 _ _ _ hP hD hS (lv_sub hl [0, 1, 2, 3, 4, 5, 6, 7] rfl) hf
    · rw [if_pos (show t1 = t0 from hc_18)] at hf
      exact hB118 k22 hk22 x1 x2 x3 x4 x5 x6 x8 _ _ _ hP hD hS (lv_sub hl [0, 1, 2, 3, 4, 5, 6, 7] rfl) hf
  have hB92 : ∀ (k22 : (Int32 × Int32 × Int32 × Int32 × Int32 × Int32 × Int32 × Int32) → Option Int32), (∀ (x1 : Int32) (x2 : Int32) (x3 : Int32) (x4 : Int32) (x5 : Int32) (x6 : Int32) (x7 : Int32) (x8 : Int32) (H : Heap) (locs : List Loc) (ls : Array Slot), va_P D vwCl (fl ([ce_X13 a_this at_this a_this_heights x_this s_this o_this, ce_M kA a_this_heights r_this_heights o_this_heights] : List va_W)) H → va_D A (fl ([ce_X13 a_this at_this a_this_heights x_this s_this o_this, ce_M kA a_this_heights r_this_heights o_this_heights] : List va_W)) → va_S A s.heap H locs → lv_has ls 10 [(0, .ref a_this), (1, .int x1), (2, .int x2), (3, .int x3), (4, .int x4), (5, .int x5), (6, .int x6), (7, .int x7), (8, .int x8)] → k22 (x1, x2, x3, x4, x5, x6, x7, x8) = some out → W p l e ({ frames := 0, cells := 0, slots := 0, locals := 0 } : Room) s m [.ref a_this, .int a1, .int a2, .int a3].toArray below meth c H locs 0 0 (MQ below (mg_Q D kA A (fun rv w1 => rv = some (.int out) ∧ w1 = (fl ([ce_X13 a_this at_this a_this_heights x_this s_this o_this, ce_M kA a_this_heights r_this_heights o_this_heights] : List va_W)))) [.ref a_this, .int a1, .int a2, .int a3].toArray s 0 0 A) (F0 m 22 ls [])) → ∀ (x1 : Int32) (x2 : Int32) (x3 : Int32) (x4 : Int32) (x5 : Int32) (x7 : Int32) (x8 : Int32) (x9 : Int32) (t0 : Int32) (H : Heap) (locs : List Loc) (ls : Array Slot), va_P D vwCl (fl ([ce_X13 a_this at_this a_this_heights x_this s_this o_this, ce_M kA a_this_heights r_this_heights o_this_heights] : List va_W)) H → va_D A (fl ([ce_X13 a_this at_this a_this_heights x_this s_this o_this, ce_M kA a_this_heights r_this_heights o_this_heights] : List va_W)) → va_S A s.heap H locs → lv_has ls 10 [(0, .ref a_this), (1, .int x1), (2, .int x2), (3, .int x3), (4, .int x4), (5, .int x5), (7, .int x7), (8, .int x8), (9, .int x9)] → ff_X13_run_b92 N o_this o_this_heights k22 x1 x2 x3 x4 x5 x7 x8 x9 t0 = some out → W p l e ({ frames := 0, cells := 0, slots := 0, locals := 0 } : Room) s m [.ref a_this, .int a1, .int a2, .int a3].toArray below meth c H locs 0 0 (MQ below (mg_Q D kA A (fun rv w1 => rv = some (.int out) ∧ w1 = (fl ([ce_X13 a_this at_this a_this_heights x_this s_this o_this, ce_M kA a_this_heights r_this_heights o_this_heights] : List va_W)))) [.ref a_this, .int a1, .int a2, .int a3].toArray s 0 0 A) (F0 m 92 ls [.int t0]) := by
    intro k22 hk22 x1 x2 x3 x4 x5 x7 x8 x9 t0 H locs ls hP hD hS hl hf
    unfold ff_X13_run_b92 at hf
    refine lv_istore (lv' := [(6, .int t0), (0, .ref a_this), (1, .int x1), (2, .int x2), (3, .int x3), (4, .int x4), (5, .int x5), (7, .int x7), (8, .int x8), (9, .int x9)]) hx hb dX13_run_92 hl (by decide) rfl (fun ls hl => ?_)
    refine lv_iload hx hb dX13_run_94 (lv_at hl 9 rfl) ?_
    refine lv_if_eq (tgt := 122) hx hb dX13_run_96 (by decide) (fun hc_15 => ?_) (fun hc_15 => ?_)
    · rw [if_pos (show x9 = 0 from hc_15)] at hf
      exact hB122 k22 hk22 x1 x2 x3 x4 x5 t0 x8 _ _ _ hP hD hS (lv_sub hl [1, 2, 3, 4, 5, 6, 0, 8] rfl) hf
    · rw [if_neg (show ¬ (x9 = 0) from hc_15)] at hf
      refine lv_iload hx hb dX13_run_99 (lv_at hl 7 rfl) ?_
      refine lv_if_ne (tgt := 118) hx hb dX13_run_101 (by decide) (fun hc_16 => ?_) (fun hc_16 => ?_)
      · rw [if_neg (show ¬ (x7 = 0) from hc_16)] at hf
        exact hB118 k22 hk22 x1 x2 x3 x4 x5 t0 x8 _ _ _ hP hD hS (lv_sub hl [1, 2, 3, 4, 5, 6, 0, 8] rfl) hf
      · rw [if_pos (show x7 = 0 from hc_16)] at hf
        refine lv_iload hx hb dX13_run_104 (lv_at hl 8 rfl) ?_
        refine lv_iload_n hx hb dX13_run_106 rfl (lv_at hl 4 rfl) ?_
        refine lv_if_eq (tgt := 114) hx hb dX13_run_107 (by decide) (fun hc_17 => ?_) (fun hc_17 => ?_)
        · rw [if_pos (show x3 = 0 from hc_17)] at hf
          refine lv_iload_n hx hb dX13_run_114 rfl (lv_at hl 3 rfl) ?_
          exact hB115 k22 hk22 x1 x2 x3 x4 x5 t0 x8 x2 x8 _ _ _ hP hD hS (lv_sub hl [1, 2, 3, 4, 5, 6, 0, 8] rfl) hf
        · rw [if_neg (show ¬ (x3 = 0) from hc_17)] at hf
          refine lv_iload_n hx hb dX13_run_110 rfl (lv_at hl 2 rfl) ?_
          refine lv_goto (tgt := 115) hx hb dX13_run_111 (by decide) ?_
          exact hB115 k22 hk22 x1 x2 x3 x4 x5 t0 x8 x1 x8 _ _ _ hP hD hS (lv_sub hl [1, 2, 3, 4, 5, 6, 0, 8] rfl) hf
  have hB77 : ∀ (k22 : (Int32 × Int32 × Int32 × Int32 × Int32 × Int32 × Int32 × Int32) → Option Int32), (∀ (x1 : Int32) (x2 : Int32) (x3 : Int32) (x4 : Int32) (x5 : Int32) (x6 : Int32) (x7 : Int32) (x8 : Int32) (H : Heap) (locs : List Loc) (ls : Array Slot), va_P D vwCl (fl ([ce_X13 a_this at_this a_this_heights x_this s_this o_this, ce_M kA a_this_heights r_this_heights o_this_heights] : List va_W)) H → va_D A (fl ([ce_X13 a_this at_this a_this_heights x_this s_this o_this, ce_M kA a_this_heights r_this_heights o_this_heights] : List va_W)) → va_S A s.heap H locs → lv_has ls 10 [(0, .ref a_this), (1, .int x1), (2, .int x2), (3, .int x3), (4, .int x4), (5, .int x5), (6, .int x6), (7, .int x7), (8, .int x8)] → k22 (x1, x2, x3, x4, x5, x6, x7, x8) = some out → W p l e ({ frames := 0, cells := 0, slots := 0, locals := 0 } : Room) s m [.ref a_this, .int a1, .int a2, .int a3].toArray below meth c H locs 0 0 (MQ below (mg_Q D kA A (fun rv w1 => rv = some (.int out) ∧ w1 = (fl ([ce_X13 a_this at_this a_this_heights x_this s_this o_this, ce_M kA a_this_heights r_this_heights o_this_heights] : List va_W)))) [.ref a_this, .int a1, .int a2, .int a3].toArray s 0 0 A) (F0 m 22 ls [])) → ∀ (x1 : Int32) (x2 : Int32) (x3 : Int32) (x4 : Int32) (x5 : Int32) (x6 : Int32) (x7 : Int32) (x8 : Int32) (t0 : Int32) (H : Heap) (locs : List Loc) (ls : Array Slot), va_P D vwCl (fl ([ce_X13 a_this at_this a_this_heights x_this s_this o_this, ce_M kA a_this_heights r_this_heights o_this_heights] : List va_W)) H → va_D A (fl ([ce_X13 a_this at_this a_this_heights x_this s_this o_this, ce_M kA a_this_heights r_this_heights o_this_heights] : List va_W)) → va_S A s.heap H locs → lv_has ls 10 [(0, .ref a_this), (1, .int x1), (2, .int x2), (3, .int x3), (4, .int x4), (5, .int x5), (6, .int x6), (7, .int x7), (8, .int x8)] → ff_X13_run_b77 N o_this o_this_heights k22 x1 x2 x3 x4 x5 x6 x7 x8 t0 = some out → W p l e ({ frames := 0, cells := 0, slots := 0, locals := 0 } : Room) s m [.ref a_this, .int a1, .int a2, .int a3].toArray below meth c H locs 0 0 (MQ below (mg_Q D kA A (fun rv w1 => rv = some (.int out) ∧ w1 = (fl ([ce_X13 a_this at_this a_this_heights x_this s_this o_this, ce_M kA a_this_heights r_this_heights o_this_heights] : List va_W)))) [.ref a_this, .int a1, .int a2, .int a3].toArray s 0 0 A) (F0 m 77 ls [.int t0]) := by
    intro k22 hk22 x1 x2 x3 x4 x5 x6 x7 x8 t0 H locs ls hP hD hS hl hf
    unfold ff_X13_run_b77 at hf
    refine lv_istore (lv' := [(9, .int t0), (0, .ref a_this), (1, .int x1), (2, .int x2), (3, .int x3), (4, .int x4), (5, .int x5), (6, .int x6), (7, .int x7), (8, .int x8)]) hx hb dX13_run_77 hl (by decide) rfl (fun ls hl => ?_)
    refine lv_iload hx hb dX13_run_79 (lv_at hl 0 rfl) ?_
    refine lv_if_eq (tgt := 91) hx hb dX13_run_81 (by decide) (fun hc_14 => ?_) (fun hc_14 => ?_)
    · rw [if_pos (show t0 = 0 from hc_14)] at hf
      refine lv_iconst (v := 0) hx hb dX13_run_91 (by decide) ?_
      exact hB92 k22 hk22 x1 x2 x3 x4 x5 x7 x8 t0 (0 : Int32) _ _ _ hP hD hS (lv_sub hl [1, 2, 3, 4, 5, 6, 8, 9, 0] rfl) hf
    · rw [if_neg (show ¬ (t0 = 0) from hc_14)] at hf
      refine lv_iload hx hb dX13_run_84 (lv_at hl 7 rfl) ?_
      refine lv_iconst (v := 1) hx hb dX13_run_86 (by decide) ?_
      refine lv_iadd hx hb dX13_run_87 ?_
      refine lv_goto (tgt := 92) hx hb dX13_run_88 (by decide) ?_
      exact hB92 k22 hk22 x1 x2 x3 x4 x5 x7 x8 t0 (x6 + (1 : Int32)) _ _ _ hP hD hS (lv_sub hl [1, 2, 3, 4, 5, 6, 8, 9, 0] rfl) hf
  have hB67 : ∀ (k22 : (Int32 × Int32 × Int32 × Int32 × Int32 × Int32 × Int32 × Int32) → Option Int32), (∀ (x1 : Int32) (x2 : Int32) (x3 : Int32) (x4 : Int32) (x5 : Int32) (x6 : Int32) (x7 : Int32) (x8 : Int32) (H : Heap) (locs : List Loc) (ls : Array Slot), va_P D vwCl (fl ([ce_X13 a_this at_this a_this_heights x_this s_this o_this, ce_M kA a_this_heights r_this_heights o_this_heights] : List va_W)) H → va_D A (fl ([ce_X13 a_this at_this a_this_heights x_this s_this o_this, ce_M kA a_this_heights r_this_heights o_this_heights] : List va_W)) → va_S A s.heap H locs → lv_has ls 10 [(0, .ref a_this), (1, .int x1), (2, .int x2), (3, .int x3), (4, .int x4), (5, .int x5), (6, .int x6), (7, .int x7), (8, .int x8)] → k22 (x1, x2, x3, x4, x5, x6, x7, x8) = some out → W p l e ({ frames := 0, cells := 0, slots := 0, locals := 0 } : Room) s m [.ref a_this, .int a1, .int a2, .int a3].toArray below meth c H locs 0 0 (MQ below (mg_Q D kA A (fun rv w1 => rv = some (.int out) ∧ w1 = (fl ([ce_X13 a_this at_this a_this_heights x_this s_this o_this, ce_M kA a_this_heights r_this_heights o_this_heights] : List va_W)))) [.ref a_this, .int a1, .int a2, .int a3].toArray s 0 0 A) (F0 m 22 ls [])) → ∀ (x1 : Int32) (x2 : Int32) (x3 : Int32) (x4 : Int32) (x5 : Int32) (x6 : Int32) (x7 : Int32) (x8 : Int32) (t0 : Int32) (H : Heap) (locs : List Loc) (ls : Array Slot), va_P D vwCl (fl ([ce_X13 a_this at_this a_this_heights x_this s_this o_this, ce_M kA a_this_heights r_this_heights o_this_heights] : List va_W)) H → va_D A (fl ([ce_X13 a_this at_this a_this_heights x_this s_this o_this, ce_M kA a_this_heights r_this_heights o_this_heights] : List va_W)) → va_S A s.heap H locs → lv_has ls 10 [(0, .ref a_this), (1, .int x1), (2, .int x2), (3, .int x3), (4, .int x4), (5, .int x5), (6, .int x6), (7, .int x7), (8, .int x8)] → ff_X13_run_b67 N o_this o_this_heights k22 x1 x2 x3 x4 x5 x6 x7 x8 t0 = some out → W p l e ({ frames := 0, cells := 0, slots := 0, locals := 0 } : Room) s m [.ref a_this, .int a1, .int a2, .int a3].toArray below meth c H locs 0 0 (MQ below (mg_Q D kA A (fun rv w1 => rv = some (.int out) ∧ w1 = (fl ([ce_X13 a_this at_this a_this_heights x_this s_this o_this, ce_M kA a_this_heights r_this_heights o_this_heights] : List va_W)))) [.ref a_this, .int a1, .int a2, .int a3].toArray s 0 0 A) (F0 m 67 ls [.int t0]) := by
    intro k22 hk22 x1 x2 x3 x4 x5 x6 x7 x8 t0 H locs ls hP hD hS hl hf
    unfold ff_X13_run_b67 at hf
    refine lv_iload hx hb dX13_run_67 (lv_at hl 4 rfl) ?_
    refine lv_icmp_lt (tgt := 76) hx hb dX13_run_69 (by decide) (fun hc_13 => ?_) (fun hc_13 => ?_)
    · rw [if_pos (show t0 < x4 from hc_13)] at hf
      refine lv_iconst (v := 0) hx hb dX13_run_76 (by decide) ?_
      exact hB77 k22 hk22 x1 x2 x3 x4 x5 x6 x7 x8 (0 : Int32) _ _ _ hP hD hS (lv_sub hl [0, 1, 2, 3, 4, 5, 6, 7, 8] rfl) hf
    · rw [if_neg (show ¬ (t0 < x4) from hc_13)] at hf
      refine lv_iconst (v := 1) hx hb dX13_run_72 (by decide) ?_
      refine lv_goto (tgt := 77) hx hb dX13_run_73 (by decide) ?_
      exact hB77 k22 hk22 x1 x2 x3 x4 x5 x6 x7 x8 (1 : Int32) _ _ _ hP hD hS (lv_sub hl [0, 1, 2, 3, 4, 5, 6, 7, 8] rfl) hf
  have hB39 : ∀ (k22 : (Int32 × Int32 × Int32 × Int32 × Int32 × Int32 × Int32 × Int32) → Option Int32), (∀ (x1 : Int32) (x2 : Int32) (x3 : Int32) (x4 : Int32) (x5 : Int32) (x6 : Int32) (x7 : Int32) (x8 : Int32) (H : Heap) (locs : List Loc) (ls : Array Slot), va_P D vwCl (fl ([ce_X13 a_this at_this a_this_heights x_this s_this o_this, ce_M kA a_this_heights r_this_heights o_this_heights] : List va_W)) H → va_D A (fl ([ce_X13 a_this at_this a_this_heights x_this s_this o_this, ce_M kA a_this_heights r_this_heights o_this_heights] : List va_W)) → va_S A s.heap H locs → lv_has ls 10 [(0, .ref a_this), (1, .int x1), (2, .int x2), (3, .int x3), (4, .int x4), (5, .int x5), (6, .int x6), (7, .int x7), (8, .int x8)] → k22 (x1, x2, x3, x4, x5, x6, x7, x8) = some out → W p l e ({ frames := 0, cells := 0, slots := 0, locals := 0 } : Room) s m [.ref a_this, .int a1, .int a2, .int a3].toArray below meth c H locs 0 0 (MQ below (mg_Q D kA A (fun rv w1 => rv = some (.int out) ∧ w1 = (fl ([ce_X13 a_this at_this a_this_heights x_this s_this o_this, ce_M kA a_this_heights r_this_heights o_this_heights] : List va_W)))) [.ref a_this, .int a1, .int a2, .int a3].toArray s 0 0 A) (F0 m 22 ls [])) → ∀ (x1 : Int32) (x2 : Int32) (x3 : Int32) (x4 : Int32) (x5 : Int32) (x6 : Int32) (x7 : Int32) (x8 : Int32) (t0 : Int32) (t1 : Int32) (H : Heap) (locs : List Loc) (ls : Array Slot), va_P D vwCl (fl ([ce_X13 a_this at_this a_this_heights x_this s_this o_this, ce_M kA a_this_heights r_this_heights o_this_heights] : List va_W)) H → va_D A (fl ([ce_X13 a_this at_this a_this_heights x_this s_this o_this, ce_M kA a_this_heights r_this_heights o_this_heights] : List va_W)) → va_S A s.heap H locs → lv_has ls 10 [(0, .ref a_this), (1, .int x1), (2, .int x2), (3, .int x3), (4, .int x4), (5, .int x5), (6, .int x6), (7, .int x7), (8, .int x8)] → ff_X13_run_b39 N o_this o_this_heights k22 x1 x2 x3 x4 x5 x6 x7 x8 t0 t1 = some out → W p l e ({ frames := 0, cells := 0, slots := 0, locals := 0 } : Room) s m [.ref a_this, .int a1, .int a2, .int a3].toArray below meth c H locs 0 0 (MQ below (mg_Q D kA A (fun rv w1 => rv = some (.int out) ∧ w1 = (fl ([ce_X13 a_this at_this a_this_heights x_this s_this o_this, ce_M kA a_this_heights r_this_heights o_this_heights] : List va_W)))) [.ref a_this, .int a1, .int a2, .int a3].toArray s 0 0 A) (F0 m 39 ls [.int t0, .int t1]) := by
    intro k22 hk22 x1 x2 x3 x4 x5 x6 x7 x8 t0 t1 H locs ls hP hD hS hl hf
    unfold ff_X13_run_b39 at hf
    refine lv_icmp_ge (tgt := 145) hx hb dX13_run_39 (by decide) (fun hc_5 => ?_) (fun hc_5 => ?_)
    · rw [if_pos (show t0 ≤ t1 from hc_5)] at hf
      refine lv_iload hx hb dX13_run_145 (lv_at hl 5 rfl) ?_
      have hP : va_P D vwCl (fl ([ce_X13 a_this at_this a_this_heights x_this s_this o_this, ce_M kA a_this_heights r_this_heights o_this_heights] : List va_W)) _ := hP
      have hD : va_D A (fl ([ce_X13 a_this at_this a_this_heights x_this s_this o_this, ce_M kA a_this_heights r_this_heights o_this_heights] : List va_W)) := hD
      rw [← Option.some.inj hf]
      exact mg_reti ⟨rfl, rfl⟩ (by show _ ≤ 0; omega) (by show _ ≤ 0; omega) hx hb hr hlk hP hK hD hS dX13_run_147
    · rw [if_neg (show ¬ (t0 ≤ t1) from hc_5)] at hf
      refine lv_iload_n hx hb dX13_run_42 rfl (lv_at hl 3 rfl) ?_
      refine lv_if_eq (tgt := 58) hx hb dX13_run_43 (by decide) (fun hc_6 => ?_) (fun hc_6 => ?_)
      · rw [if_pos (show x3 = 0 from hc_6)] at hf
        refine lv_aload_n hx hb dX13_run_58 rfl (lv_at hl 0 rfl) ?_
        refine va_get (D := D) (ci := 11) (v := .ref a_this_heights) (C := RX13) (T := TX13) (N := 13) hx hb hUX13 (fun _ h9 => h9) hown hK hP (pl [ce_X13 a_this at_this a_this_heights x_this s_this o_this, ce_M kA a_this_heights r_this_heights o_this_heights] 0 0) (sg_get rfl rfl) rfl 9 (by decide) (hts (Cond.fieldLink RX13 37 "ReliefBuilderLaw$World" "heights" "[[I") (List.mem_of_getElem? (i := 1) rfl)) (fun _ h9 => h9) rfl dX13_run_59 ?_
        refine lv_iload hx hb dX13_run_62 (lv_at hl 8 rfl) ?_
        obtain ⟨hi_7, hf⟩ := os_if hf
        obtain ⟨hy_8, hf⟩ := os_if hf
        refine sg_aald hx hb hK hP (pl [ce_X13 a_this at_this a_this_heights x_this s_this o_this, ce_M kA a_this_heights r_this_heights o_this_heights] 1 0) (sg_get rfl cm_0) hi_7 (if_pos hy_8) dX13_run_64 ?_
        refine lv_iload_n hx hb dX13_run_65 rfl (lv_at hl 1 rfl) ?_
        obtain ⟨hi_9, hf⟩ := os_if hf
        refine va_iald hx hb hK hP (pl [ce_X13 a_this at_this a_this_heights x_this s_this o_this, ce_M kA a_this_heights r_this_heights o_this_heights] 1 (Int32.toNatClampNeg x8 + 1)) 0 (sg_get rfl (cm_row hy_8)) rfl hi_9 dX13_run_66 ?_
        exact hB67 k22 hk22 x1 x2 x3 x4 x5 x6 x7 x8 (os_A o_this_heights (Int32.toNatClampNeg x8) (Int32.toNatClampNeg x1)) _ _ _ hP hD hS (lv_sub hl [0, 1, 2, 3, 4, 5, 6, 7, 8] rfl) hf
      · rw [if_neg (show ¬ (x3 = 0) from hc_6)] at hf
        refine lv_aload_n hx hb dX13_run_46 rfl (lv_at hl 0 rfl) ?_
        refine va_get (D := D) (ci := 11) (v := .ref a_this_heights) (C := RX13) (T := TX13) (N := 13) hx hb hUX13 (fun _ h9 => h9) hown hK hP (pl [ce_X13 a_this at_this a_this_heights x_this s_this o_this, ce_M kA a_this_heights r_this_heights o_this_heights] 0 0) (sg_get rfl rfl) rfl 9 (by decide) (hts (Cond.fieldLink RX13 37 "ReliefBuilderLaw$World" "heights" "[[I") (List.mem_of_getElem? (i := 1) rfl)) (fun _ h9 => h9) rfl dX13_run_47 ?_
        refine lv_iload_n hx hb dX13_run_50 rfl (lv_at hl 2 rfl) ?_
        obtain ⟨hi_10, hf⟩ := os_if hf
        obtain ⟨hy_11, hf⟩ := os_if hf
        refine sg_aald hx hb hK hP (pl [ce_X13 a_this at_this a_this_heights x_this s_this o_this, ce_M kA a_this_heights r_this_heights o_this_heights] 1 0) (sg_get rfl cm_0) hi_10 (if_pos hy_11) dX13_run_51 ?_
        refine lv_iload hx hb dX13_run_52 (lv_at hl 8 rfl) ?_
        obtain ⟨hi_12, hf⟩ := os_if hf
        refine va_iald hx hb hK hP (pl [ce_X13 a_this at_this a_this_heights x_this s_this o_this, ce_M kA a_this_heights r_this_heights o_this_heights] 1 (Int32.toNatClampNeg x2 + 1)) 0 (sg_get rfl (cm_row hy_11)) rfl hi_12 dX13_run_54 ?_
        refine lv_goto (tgt := 67) hx hb dX13_run_55 (by decide) ?_
        exact hB67 k22 hk22 x1 x2 x3 x4 x5 x6 x7 x8 (os_A o_this_heights (Int32.toNatClampNeg x2) (Int32.toNatClampNeg x8)) _ _ _ hP hD hS (lv_sub hl [0, 1, 2, 3, 4, 5, 6, 7, 8] rfl) hf
  have hL22 : ∀ (n : Nat) (x1 : Int32) (x2 : Int32) (x3 : Int32) (x4 : Int32) (x5 : Int32) (x6 : Int32) (x7 : Int32) (x8 : Int32) (H : Heap) (locs : List Loc) (ls : Array Slot), va_P D vwCl (fl ([ce_X13 a_this at_this a_this_heights x_this s_this o_this, ce_M kA a_this_heights r_this_heights o_this_heights] : List va_W)) H → va_D A (fl ([ce_X13 a_this at_this a_this_heights x_this s_this o_this, ce_M kA a_this_heights r_this_heights o_this_heights] : List va_W)) → va_S A s.heap H locs → lv_has ls 10 [(0, .ref a_this), (1, .int x1), (2, .int x2), (3, .int x3), (4, .int x4), (5, .int x5), (6, .int x6), (7, .int x7), (8, .int x8)] → ff_X13_run_l22 N o_this o_this_heights n (x1, x2, x3, x4, x5, x6, x7, x8) = some out → W p l e ({ frames := 0, cells := 0, slots := 0, locals := 0 } : Room) s m [.ref a_this, .int a1, .int a2, .int a3].toArray below meth c H locs 0 0 (MQ below (mg_Q D kA A (fun rv w1 => rv = some (.int out) ∧ w1 = (fl ([ce_X13 a_this at_this a_this_heights x_this s_this o_this, ce_M kA a_this_heights r_this_heights o_this_heights] : List va_W)))) [.ref a_this, .int a1, .int a2, .int a3].toArray s 0 0 A) (F0 m 22 ls []) := by
    intro n
    induction n with
    | zero => intro x1 x2 x3 x4 x5 x6 x7 x8 H locs ls _ _ _ _ hf; cases hf
    | succ n hk22 =>
      intro x1 x2 x3 x4 x5 x6 x7 x8 H locs ls hP hD hS hl hf
      have hf : ff_X13_run_c22 N o_this o_this_heights (ff_X13_run_l22 N o_this o_this_heights n) x1 x2 x3 x4 x5 x6 x7 x8 = some out := hf
      generalize hke : ff_X13_run_l22 N o_this o_this_heights n = k22 at hk22 hf
      unfold ff_X13_run_c22 at hf
      refine lv_iload hx hb dX13_run_22 (lv_at hl 8 rfl) ?_
      refine lv_iload_n hx hb dX13_run_24 rfl (lv_at hl 3 rfl) ?_
      refine lv_if_eq (tgt := 35) hx hb dX13_run_25 (by decide) (fun hc_4 => ?_) (fun hc_4 => ?_)
      · rw [if_pos (show x3 = 0 from hc_4)] at hf
        refine lv_aload_n hx hb dX13_run_35 rfl (lv_at hl 0 rfl) ?_
        refine va_get (D := D) (ci := 11) (v := .int (os_I o_this 1)) (C := RX13) (T := TX13) (N := 13) hx hb hUX13 (fun _ h9 => h9) hown hK hP (pl [ce_X13 a_this at_this a_this_heights x_this s_this o_this, ce_M kA a_this_heights r_this_heights o_this_heights] 0 0) (sg_get rfl rfl) rfl 1 (by decide) (hts (Cond.fieldLink RX13 13 "ReliefBuilderLaw$World" "high" "I") (List.mem_of_getElem? (i := 3) rfl)) (fun _ h9 => h9) rfl dX13_run_36 ?_
        exact hB39 k22 hk22 x1 x2 x3 x4 x5 x6 x7 x8 (os_I o_this 1) x8 _ _ _ hP hD hS (lv_sub hl [0, 1, 2, 3, 4, 5, 6, 7, 8] rfl) hf
      · rw [if_neg (show ¬ (x3 = 0) from hc_4)] at hf
        refine lv_aload_n hx hb dX13_run_28 rfl (lv_at hl 0 rfl) ?_
        refine va_get (D := D) (ci := 11) (v := .int (os_I o_this 0)) (C := RX13) (T := TX13) (N := 13) hx hb hUX13 (fun _ h9 => h9) hown hK hP (pl [ce_X13 a_this at_this a_this_heights x_this s_this o_this, ce_M kA a_this_heights r_this_heights o_this_heights] 0 0) (sg_get rfl rfl) rfl 0 (by decide) (hts (Cond.fieldLink RX13 7 "ReliefBuilderLaw$World" "wide" "I") (List.mem_of_getElem? (i := 2) rfl)) (fun _ h9 => h9) rfl dX13_run_29 ?_
        refine lv_goto (tgt := 39) hx hb dX13_run_32 (by decide) ?_
        exact hB39 k22 hk22 x1 x2 x3 x4 x5 x6 x7 x8 (os_I o_this 0) x8 _ _ _ hP hD hS (lv_sub hl [0, 1, 2, 3, 4, 5, 6, 7, 8] rfl) hf
  unfold ff_X13_run at hf
  refine lv_aload_n hx hb dX13_run_0 rfl (lv_at hl 0 rfl) ?_
  refine va_get (D := D) (ci := 11) (v := .ref a_this_heights) (C := RX13) (T := TX13) (N := 13) hx hb hUX13 (fun _ h9 => h9) hown hK hP (pl [ce_X13 a_this at_this a_this_heights x_this s_this o_this, ce_M kA a_this_heights r_this_heights o_this_heights] 0 0) (sg_get rfl rfl) rfl 9 (by decide) (hts (Cond.fieldLink RX13 37 "ReliefBuilderLaw$World" "heights" "[[I") (List.mem_of_getElem? (i := 1) rfl)) (fun _ h9 => h9) rfl dX13_run_1 ?_
  refine lv_iload_n hx hb dX13_run_4 rfl (lv_at hl 2 rfl) ?_
  obtain ⟨hi_1, hf⟩ := os_if hf
  obtain ⟨hy_2, hf⟩ := os_if hf
  refine sg_aald hx hb hK hP (pl [ce_X13 a_this at_this a_this_heights x_this s_this o_this, ce_M kA a_this_heights r_this_heights o_this_heights] 1 0) (sg_get rfl cm_0) hi_1 (if_pos hy_2) dX13_run_5 ?_
  refine lv_iload_n hx hb dX13_run_6 rfl (lv_at hl 1 rfl) ?_
  obtain ⟨hi_3, hf⟩ := os_if hf
  refine va_iald hx hb hK hP (pl [ce_X13 a_this at_this a_this_heights x_this s_this o_this, ce_M kA a_this_heights r_this_heights o_this_heights] 1 (Int32.toNatClampNeg a2 + 1)) 0 (sg_get rfl (cm_row hy_2)) rfl hi_3 dX13_run_7 ?_
  refine lv_istore (lv' := [(4, .int (os_A o_this_heights (Int32.toNatClampNeg a2) (Int32.toNatClampNeg a1))), (0, .ref a_this), (1, .int a1), (2, .int a2), (3, .int a3)]) hx hb dX13_run_8 hl (by decide) rfl (fun ls hl => ?_)
  refine lv_iconst (v := 0) hx hb dX13_run_10 (by decide) ?_
  refine lv_istore (lv' := [(5, .int (0 : Int32)), (4, .int (os_A o_this_heights (Int32.toNatClampNeg a2) (Int32.toNatClampNeg a1))), (0, .ref a_this), (1, .int a1), (2, .int a2), (3, .int a3)]) hx hb dX13_run_11 hl (by decide) rfl (fun ls hl => ?_)
  refine lv_iconst (v := 0) hx hb dX13_run_13 (by decide) ?_
  refine lv_istore (lv' := [(6, .int (0 : Int32)), (5, .int (0 : Int32)), (4, .int (os_A o_this_heights (Int32.toNatClampNeg a2) (Int32.toNatClampNeg a1))), (0, .ref a_this), (1, .int a1), (2, .int a2), (3, .int a3)]) hx hb dX13_run_14 hl (by decide) rfl (fun ls hl => ?_)
  refine lv_iconst (v := 0) hx hb dX13_run_16 (by decide) ?_
  refine lv_istore (lv' := [(7, .int (0 : Int32)), (6, .int (0 : Int32)), (5, .int (0 : Int32)), (4, .int (os_A o_this_heights (Int32.toNatClampNeg a2) (Int32.toNatClampNeg a1))), (0, .ref a_this), (1, .int a1), (2, .int a2), (3, .int a3)]) hx hb dX13_run_17 hl (by decide) rfl (fun ls hl => ?_)
  refine lv_iconst (v := 0) hx hb dX13_run_19 (by decide) ?_
  refine lv_istore (lv' := [(8, .int (0 : Int32)), (7, .int (0 : Int32)), (6, .int (0 : Int32)), (5, .int (0 : Int32)), (4, .int (os_A o_this_heights (Int32.toNatClampNeg a2) (Int32.toNatClampNeg a1))), (0, .ref a_this), (1, .int a1), (2, .int a2), (3, .int a3)]) hx hb dX13_run_20 hl (by decide) rfl (fun ls hl => ?_)
  exact hL22 N a1 a2 a3 (os_A o_this_heights (Int32.toNatClampNeg a2) (Int32.toNatClampNeg a1)) (0 : Int32) (0 : Int32) (0 : Int32) (0 : Int32) _ _ _ hP hD hS (lv_sub hl [5, 6, 7, 8, 4, 3, 2, 1, 0] rfl) hf
def ff_X13_isThin (N : Nat) (o_this : os_T) (o_this_heights : os_T) (a1 : Int32) (a2 : Int32) : Option Int32 :=
  (if os_in a2 (cm_n o_this_heights) then (if Int32.toNatClampNeg a2 < cm_b o_this_heights then (if os_in a1 (cm_c o_this_heights) then (if (os_A o_this_heights (Int32.toNatClampNeg a2) (Int32.toNatClampNeg a1)) ≤ (os_I o_this 4) then some (0 : Int32) else ((ff_X13_run N o_this o_this_heights a1 a2 (1 : Int32)).bind fun u_5 => (if (os_I o_this 5) ≤ u_5 then some (0 : Int32) else ((ff_X13_run N o_this o_this_heights a1 a2 (0 : Int32)).bind fun u_8 => (if (os_I o_this 5) ≤ u_8 then some (0 : Int32) else some (1 : Int32)))))) else none) else none) else none)
set_option maxHeartbeats 4000000 in
set_option maxRecDepth 100000 in
theorem mm_X13_isThin (l : Launch) (hst : l.stackTraces = false) (zz : Nat → Nat → Nat) (D : va_G) (kA : Nat → ClassId) (N : Nat) (at_this : Nat) (s_this : Nat) (x_this : Nat) (a_this : Nat) (a_this_heights : Nat) (r_this_heights : Nat → Nat) (o_this : os_T) (o_this_heights : os_T) (a1 : Int32) (a2 : Int32) (out : Int32) (hf : ff_X13_isThin N o_this o_this_heights a1 a2 = some out) : mg_C l zz D kA yX13_isThin wsX13_isThin ({ frames := 1, cells := 0, slots := 0, locals := 29 } : Room) [.ref a_this, .int a1, .int a2] (fl ([ce_X13 a_this at_this a_this_heights x_this s_this o_this, ce_M kA a_this_heights r_this_heights o_this_heights] : List va_W)) (fun rv w1 => rv = some (.int out) ∧ w1 = (fl ([ce_X13 a_this at_this a_this_heights x_this s_this o_this, ce_M kA a_this_heights r_this_heights o_this_heights] : List va_W))) := by
  refine mg_of (cc := cX13_isThin) (maxL := 3) (ret := (some .boolean)) (by decide) rfl (Nat.le_of_ble_eq_true rfl) ?_
  intro p e s m below meth c A B hZ hD hP hS ls hl
  obtain ⟨hx, hb, hr, hlk, hml, hown, hts, hK, hA, hnm⟩ := B
  have hown : s.vm.findClass RX13 = some m.cls := hown
  have hl : lv_has ls 3 [(0, .ref a_this), (1, .int a1), (2, .int a2)] := hl
  have hP : va_P D vwCl (fl ([ce_X13 a_this at_this a_this_heights x_this s_this o_this, ce_M kA a_this_heights r_this_heights o_this_heights] : List va_W)) s.heap := hP
  have hUX13 : ∀ w ∈ u_ws RX13 TX13 13, w.before [.ref a_this, .int a1, .int a2].toArray s = true := fun w h => hts w (List.mem_cons_of_mem _ (List.mem_append_right _ h))
  unfold ff_X13_isThin at hf
  refine lv_aload_n hx hb dX13_isThin_0 rfl (lv_at hl 0 rfl) ?_
  refine va_get (D := D) (ci := 11) (v := .ref a_this_heights) (C := RX13) (T := TX13) (N := 13) hx hb hUX13 (fun _ h9 => h9) hown hK hP (pl [ce_X13 a_this at_this a_this_heights x_this s_this o_this, ce_M kA a_this_heights r_this_heights o_this_heights] 0 0) (sg_get rfl rfl) rfl 9 (by decide) (hts (Cond.fieldLink RX13 37 "ReliefBuilderLaw$World" "heights" "[[I") (List.mem_of_getElem? (i := 1) rfl)) (fun _ h9 => h9) rfl dX13_isThin_1 ?_
  refine lv_iload_n hx hb dX13_isThin_4 rfl (lv_at hl 2 rfl) ?_
  obtain ⟨hi_1, hf⟩ := os_if hf
  obtain ⟨hy_2, hf⟩ := os_if hf
  refine sg_aald hx hb hK hP (pl [ce_X13 a_this at_this a_this_heights x_this s_this o_this, ce_M kA a_this_heights r_this_heights o_this_heights] 1 0) (sg_get rfl cm_0) hi_1 (if_pos hy_2) dX13_isThin_5 ?_
  refine lv_iload_n hx hb dX13_isThin_6 rfl (lv_at hl 1 rfl) ?_
  obtain ⟨hi_3, hf⟩ := os_if hf
  refine va_iald hx hb hK hP (pl [ce_X13 a_this at_this a_this_heights x_this s_this o_this, ce_M kA a_this_heights r_this_heights o_this_heights] 1 (Int32.toNatClampNeg a2 + 1)) 0 (sg_get rfl (cm_row hy_2)) rfl hi_3 dX13_isThin_7 ?_
  refine lv_aload_n hx hb dX13_isThin_8 rfl (lv_at hl 0 rfl) ?_
  refine va_get (D := D) (ci := 11) (v := .int (os_I o_this 4)) (C := RX13) (T := TX13) (N := 13) hx hb hUX13 (fun _ h9 => h9) hown hK hP (pl [ce_X13 a_this at_this a_this_heights x_this s_this o_this, ce_M kA a_this_heights r_this_heights o_this_heights] 0 0) (sg_get rfl rfl) rfl 4 (by decide) (hts (Cond.fieldLink RX13 22 "ReliefBuilderLaw$World" "base" "I") (List.mem_of_getElem? (i := 2) rfl)) (fun _ h9 => h9) rfl dX13_isThin_9 ?_
  refine lv_icmp_le (tgt := 47) hx hb dX13_isThin_12 (by decide) (fun hc_4 => ?_) (fun hc_4 => ?_)
  · rw [if_pos (show (os_A o_this_heights (Int32.toNatClampNeg a2) (Int32.toNatClampNeg a1)) ≤ (os_I o_this 4) from hc_4)] at hf
    refine lv_iconst (v := 0) hx hb dX13_isThin_47 (by decide) ?_
    have hP : va_P D vwCl (fl ([ce_X13 a_this at_this a_this_heights x_this s_this o_this, ce_M kA a_this_heights r_this_heights o_this_heights] : List va_W)) _ := hP
    have hD : va_D A (fl ([ce_X13 a_this at_this a_this_heights x_this s_this o_this, ce_M kA a_this_heights r_this_heights o_this_heights] : List va_W)) := hD
    rw [← Option.some.inj hf]
    exact mg_retz ⟨rfl, rfl⟩ (by show _ ≤ 0; omega) (by show _ ≤ 0; omega) hx hb hr rfl hlk hP hK hD hS dX13_isThin_48
  · rw [if_neg (show ¬ ((os_A o_this_heights (Int32.toNatClampNeg a2) (Int32.toNatClampNeg a1)) ≤ (os_I o_this 4)) from hc_4)] at hf
    refine lv_aload_n hx hb dX13_isThin_15 rfl (lv_at hl 0 rfl) ?_
    refine lv_iload_n hx hb dX13_isThin_16 rfl (lv_at hl 1 rfl) ?_
    refine lv_iload_n hx hb dX13_isThin_17 rfl (lv_at hl 2 rfl) ?_
    refine lv_iconst (v := 1) hx hb dX13_isThin_18 (by decide) ?_
    obtain ⟨u_5, he_6, hf⟩ := os_bd hf
    refine mg_callV (wcs := [ce_X13 a_this at_this a_this_heights x_this s_this o_this, ce_M kA a_this_heights r_this_heights o_this_heights]) (wrs := []) (ss := [ce_X13 a_this at_this a_this_heights x_this s_this o_this, ce_M kA a_this_heights r_this_heights o_this_heights]) ⟨hx, hb, hml, hown, hts⟩ (mm_X13_run l hst zz D kA N at_this s_this x_this a_this a_this_heights r_this_heights o_this o_this_heights a1 a2 (1 : Int32) u_5 he_6) (cwV 3 hts gX13_isThin_X13_run rfl rfl rfl (by decide +kernel) ⟨Nat.le_of_ble_eq_true rfl, Nat.le_of_ble_eq_true rfl⟩) (va_recv hK hP (q0 := pl [ce_X13 a_this at_this a_this_heights x_this s_this o_this, ce_M kA a_this_heights r_this_heights o_this_heights] 0 0) rfl (sg_get rfl rfl)) rfl hl.1 (As := [.int a1, .int a2, .int (1 : Int32)]) (rest := []) rfl (Nat.le_of_ble_eq_true rfl) dX13_isThin_19 ⟨(by show 0 + 0 ≤ 0; omega), (by show 0 + 0 ≤ 0; omega)⟩ hK hP hD hS hA hZ (pm_seg [ce_X13 a_this at_this a_this_heights x_this s_this o_this, ce_M kA a_this_heights r_this_heights o_this_heights] ([ce_X13 a_this at_this a_this_heights x_this s_this o_this, ce_M kA a_this_heights r_this_heights o_this_heights] ++ []) [0, 1] 2 rfl (by decide) rfl (by decide)) (fun rv w1 H locs hq hP hD hS => ?_)
    obtain ⟨rfl, rfl⟩ := hq
    refine W.widen (k := 0) (n := 0) (by show _ + 0 ≤ _; omega) (by show _ + 0 ≤ _; omega) ?_
    have hP : va_P D vwCl (fl ([ce_X13 a_this at_this a_this_heights x_this s_this o_this, ce_M kA a_this_heights r_this_heights o_this_heights] : List va_W)) _ := (show va_P D vwCl (fl ([ce_X13 a_this at_this a_this_heights x_this s_this o_this, ce_M kA a_this_heights r_this_heights o_this_heights] ++ [] : List va_W)) _ from (by rw [fl_app]; exact hP))
    have hD : va_D A (fl ([ce_X13 a_this at_this a_this_heights x_this s_this o_this, ce_M kA a_this_heights r_this_heights o_this_heights] : List va_W)) := (show va_D A (fl ([ce_X13 a_this at_this a_this_heights x_this s_this o_this, ce_M kA a_this_heights r_this_heights o_this_heights] ++ [] : List va_W)) from (by rw [fl_app]; exact hD))
    refine W.eq (g2 := F0 m 22 ls [.int u_5]) rfl ?_
    refine lv_aload_n hx hb dX13_isThin_22 rfl (lv_at hl 0 rfl) ?_
    refine va_get (D := D) (ci := 11) (v := .int (os_I o_this 5)) (C := RX13) (T := TX13) (N := 13) hx hb hUX13 (fun _ h9 => h9) hown hK hP (pl [ce_X13 a_this at_this a_this_heights x_this s_this o_this, ce_M kA a_this_heights r_this_heights o_this_heights] 0 0) (sg_get rfl rfl) rfl 5 (by decide) (hts (Cond.fieldLink RX13 25 "ReliefBuilderLaw$World" "wall" "I") (List.mem_of_getElem? (i := 3) rfl)) (fun _ h9 => h9) rfl dX13_isThin_23 ?_
    refine lv_icmp_ge (tgt := 47) hx hb dX13_isThin_26 (by decide) (fun hc_7 => ?_) (fun hc_7 => ?_)
    · rw [if_pos (show (os_I o_this 5) ≤ u_5 from hc_7)] at hf
      refine lv_iconst (v := 0) hx hb dX13_isThin_47 (by decide) ?_
      have hP : va_P D vwCl (fl ([ce_X13 a_this at_this a_this_heights x_this s_this o_this, ce_M kA a_this_heights r_this_heights o_this_heights] : List va_W)) _ := hP
      have hD : va_D A (fl ([ce_X13 a_this at_this a_this_heights x_this s_this o_this, ce_M kA a_this_heights r_this_heights o_this_heights] : List va_W)) := hD
      rw [← Option.some.inj hf]
      exact mg_retz ⟨rfl, rfl⟩ (by show _ ≤ 0; omega) (by show _ ≤ 0; omega) hx hb hr rfl hlk hP hK hD hS dX13_isThin_48
    · rw [if_neg (show ¬ ((os_I o_this 5) ≤ u_5) from hc_7)] at hf
      refine lv_aload_n hx hb dX13_isThin_29 rfl (lv_at hl 0 rfl) ?_
      refine lv_iload_n hx hb dX13_isThin_30 rfl (lv_at hl 1 rfl) ?_
      refine lv_iload_n hx hb dX13_isThin_31 rfl (lv_at hl 2 rfl) ?_
      refine lv_iconst (v := 0) hx hb dX13_isThin_32 (by decide) ?_
      obtain ⟨u_8, he_9, hf⟩ := os_bd hf
      refine mg_callV (wcs := [ce_X13 a_this at_this a_this_heights x_this s_this o_this, ce_M kA a_this_heights r_this_heights o_this_heights]) (wrs := []) (ss := [ce_X13 a_this at_this a_this_heights x_this s_this o_this, ce_M kA a_this_heights r_this_heights o_this_heights]) ⟨hx, hb, hml, hown, hts⟩ (mm_X13_run l hst zz D kA N at_this s_this x_this a_this a_this_heights r_this_heights o_this o_this_heights a1 a2 (0 : Int32) u_8 he_9) (cwV 3 hts gX13_isThin_X13_run rfl rfl rfl (by decide +kernel) ⟨Nat.le_of_ble_eq_true rfl, Nat.le_of_ble_eq_true rfl⟩) (va_recv hK hP (q0 := pl [ce_X13 a_this at_this a_this_heights x_this s_this o_this, ce_M kA a_this_heights r_this_heights o_this_heights] 0 0) rfl (sg_get rfl rfl)) rfl hl.1 (As := [.int a1, .int a2, .int (0 : Int32)]) (rest := []) rfl (Nat.le_of_ble_eq_true rfl) dX13_isThin_33 ⟨(by show 0 + 0 ≤ 0; omega), (by show 0 + 0 ≤ 0; omega)⟩ hK hP hD hS hA hZ (pm_seg [ce_X13 a_this at_this a_this_heights x_this s_this o_this, ce_M kA a_this_heights r_this_heights o_this_heights] ([ce_X13 a_this at_this a_this_heights x_this s_this o_this, ce_M kA a_this_heights r_this_heights o_this_heights] ++ []) [0, 1] 2 rfl (by decide) rfl (by decide)) (fun rv w1 H locs hq hP hD hS => ?_)
      obtain ⟨rfl, rfl⟩ := hq
      refine W.widen (k := 0) (n := 0) (by show _ + 0 ≤ _; omega) (by show _ + 0 ≤ _; omega) ?_
      have hP : va_P D vwCl (fl ([ce_X13 a_this at_this a_this_heights x_this s_this o_this, ce_M kA a_this_heights r_this_heights o_this_heights] : List va_W)) _ := (show va_P D vwCl (fl ([ce_X13 a_this at_this a_this_heights x_this s_this o_this, ce_M kA a_this_heights r_this_heights o_this_heights] ++ [] : List va_W)) _ from (by rw [fl_app]; exact hP))
      have hD : va_D A (fl ([ce_X13 a_this at_this a_this_heights x_this s_this o_this, ce_M kA a_this_heights r_this_heights o_this_heights] : List va_W)) := (show va_D A (fl ([ce_X13 a_this at_this a_this_heights x_this s_this o_this, ce_M kA a_this_heights r_this_heights o_this_heights] ++ [] : List va_W)) from (by rw [fl_app]; exact hD))
      refine W.eq (g2 := F0 m 36 ls [.int u_8]) rfl ?_
      refine lv_aload_n hx hb dX13_isThin_36 rfl (lv_at hl 0 rfl) ?_
      refine va_get (D := D) (ci := 11) (v := .int (os_I o_this 5)) (C := RX13) (T := TX13) (N := 13) hx hb hUX13 (fun _ h9 => h9) hown hK hP (pl [ce_X13 a_this at_this a_this_heights x_this s_this o_this, ce_M kA a_this_heights r_this_heights o_this_heights] 0 0) (sg_get rfl rfl) rfl 5 (by decide) (hts (Cond.fieldLink RX13 25 "ReliefBuilderLaw$World" "wall" "I") (List.mem_of_getElem? (i := 3) rfl)) (fun _ h9 => h9) rfl dX13_isThin_37 ?_
      refine lv_icmp_ge (tgt := 47) hx hb dX13_isThin_40 (by decide) (fun hc_10 => ?_) (fun hc_10 => ?_)
      · rw [if_pos (show (os_I o_this 5) ≤ u_8 from hc_10)] at hf
        refine lv_iconst (v := 0) hx hb dX13_isThin_47 (by decide) ?_
        have hP : va_P D vwCl (fl ([ce_X13 a_this at_this a_this_heights x_this s_this o_this, ce_M kA a_this_heights r_this_heights o_this_heights] : List va_W)) _ := hP
        have hD : va_D A (fl ([ce_X13 a_this at_this a_this_heights x_this s_this o_this, ce_M kA a_this_heights r_this_heights o_this_heights] : List va_W)) := hD
        rw [← Option.some.inj hf]
        exact mg_retz ⟨rfl, rfl⟩ (by show _ ≤ 0; omega) (by show _ ≤ 0; omega) hx hb hr rfl hlk hP hK hD hS dX13_isThin_48
      · rw [if_neg (show ¬ ((os_I o_this 5) ≤ u_8) from hc_10)] at hf
        refine lv_iconst (v := 1) hx hb dX13_isThin_43 (by decide) ?_
        refine lv_goto (tgt := 48) hx hb dX13_isThin_44 (by decide) ?_
        have hP : va_P D vwCl (fl ([ce_X13 a_this at_this a_this_heights x_this s_this o_this, ce_M kA a_this_heights r_this_heights o_this_heights] : List va_W)) _ := hP
        have hD : va_D A (fl ([ce_X13 a_this at_this a_this_heights x_this s_this o_this, ce_M kA a_this_heights r_this_heights o_this_heights] : List va_W)) := hD
        rw [← Option.some.inj hf]
        exact mg_retz ⟨rfl, rfl⟩ (by show _ ≤ 0; omega) (by show _ ≤ 0; omega) hx hb hr rfl hlk hP hK hD hS dX13_isThin_48
def ff_X13_overhang (N : Nat) (o_this : os_T) (o_this_heights : os_T) (a1 : Int32) (a2 : Int32) : Option Int32 :=
  (if a2 = 0 then some (0 : Int32) else (if os_in a2 (cm_n o_this_heights) then (if Int32.toNatClampNeg a2 < cm_b o_this_heights then (if os_in a1 (cm_c o_this_heights) then (if os_in (a2 - (1 : Int32)) (cm_n o_this_heights) then (if Int32.toNatClampNeg (a2 - (1 : Int32)) < cm_b o_this_heights then (if os_in a1 (cm_c o_this_heights) then some (if (0 : Int32) < ((os_A o_this_heights (Int32.toNatClampNeg a2) (Int32.toNatClampNeg a1)) - ((os_A o_this_heights (Int32.toNatClampNeg (a2 - (1 : Int32))) (Int32.toNatClampNeg a1)) + (os_I o_this 6))) then ((os_A o_this_heights (Int32.toNatClampNeg a2) (Int32.toNatClampNeg a1)) - ((os_A o_this_heights (Int32.toNatClampNeg (a2 - (1 : Int32))) (Int32.toNatClampNeg a1)) + (os_I o_this 6))) else (0 : Int32)) else none) else none) else none) else none) else none) else none))
set_option maxHeartbeats 4000000 in
set_option maxRecDepth 100000 in
theorem mm_X13_overhang (l : Launch) (hst : l.stackTraces = false) (zz : Nat → Nat → Nat) (D : va_G) (kA : Nat → ClassId) (N : Nat) (at_this : Nat) (s_this : Nat) (x_this : Nat) (a_this : Nat) (a_this_heights : Nat) (r_this_heights : Nat → Nat) (o_this : os_T) (o_this_heights : os_T) (a1 : Int32) (a2 : Int32) (out : Int32) (hf : ff_X13_overhang N o_this o_this_heights a1 a2 = some out) : mg_C l zz D kA yX13_overhang wsX13_overhang ({ frames := 1, cells := 0, slots := 0, locals := 21 } : Room) [.ref a_this, .int a1, .int a2] (fl ([ce_X13 a_this at_this a_this_heights x_this s_this o_this, ce_M kA a_this_heights r_this_heights o_this_heights] : List va_W)) (fun rv w1 => rv = some (.int out) ∧ w1 = (fl ([ce_X13 a_this at_this a_this_heights x_this s_this o_this, ce_M kA a_this_heights r_this_heights o_this_heights] : List va_W))) := by
  refine mg_of (cc := cX13_overhang) (maxL := 3) (ret := (some .int)) (by decide) rfl (Nat.le_of_ble_eq_true rfl) ?_
  intro p e s m below meth c A B hZ hD hP hS ls hl
  obtain ⟨hx, hb, hr, hlk, hml, hown, hts, hK, hA, hnm⟩ := B
  have hown : s.vm.findClass RX13 = some m.cls := hown
  have hl : lv_has ls 3 [(0, .ref a_this), (1, .int a1), (2, .int a2)] := hl
  have hP : va_P D vwCl (fl ([ce_X13 a_this at_this a_this_heights x_this s_this o_this, ce_M kA a_this_heights r_this_heights o_this_heights] : List va_W)) s.heap := hP
  have hUX13 : ∀ w ∈ u_ws RX13 TX13 13, w.before [.ref a_this, .int a1, .int a2].toArray s = true := fun w h => hts w (List.mem_cons_of_mem _ (List.mem_append_right _ h))
  unfold ff_X13_overhang at hf
  refine lv_iload_n hx hb dX13_overhang_0 rfl (lv_at hl 2 rfl) ?_
  refine lv_if_ne (tgt := 8) hx hb dX13_overhang_1 (by decide) (fun hc_1 => ?_) (fun hc_1 => ?_)
  · rw [if_neg (show ¬ (a2 = 0) from hc_1)] at hf
    refine lv_iconst (v := 0) hx hb dX13_overhang_8 (by decide) ?_
    refine lv_aload_n hx hb dX13_overhang_9 rfl (lv_at hl 0 rfl) ?_
    refine va_get (D := D) (ci := 11) (v := .ref a_this_heights) (C := RX13) (T := TX13) (N := 13) hx hb hUX13 (fun _ h9 => h9) hown hK hP (pl [ce_X13 a_this at_this a_this_heights x_this s_this o_this, ce_M kA a_this_heights r_this_heights o_this_heights] 0 0) (sg_get rfl rfl) rfl 9 (by decide) (hts (Cond.fieldLink RX13 37 "ReliefBuilderLaw$World" "heights" "[[I") (List.mem_of_getElem? (i := 1) rfl)) (fun _ h9 => h9) rfl dX13_overhang_10 ?_
    refine lv_iload_n hx hb dX13_overhang_13 rfl (lv_at hl 2 rfl) ?_
    obtain ⟨hi_2, hf⟩ := os_if hf
    obtain ⟨hy_3, hf⟩ := os_if hf
    refine sg_aald hx hb hK hP (pl [ce_X13 a_this at_this a_this_heights x_this s_this o_this, ce_M kA a_this_heights r_this_heights o_this_heights] 1 0) (sg_get rfl cm_0) hi_2 (if_pos hy_3) dX13_overhang_14 ?_
    refine lv_iload_n hx hb dX13_overhang_15 rfl (lv_at hl 1 rfl) ?_
    obtain ⟨hi_4, hf⟩ := os_if hf
    refine va_iald hx hb hK hP (pl [ce_X13 a_this at_this a_this_heights x_this s_this o_this, ce_M kA a_this_heights r_this_heights o_this_heights] 1 (Int32.toNatClampNeg a2 + 1)) 0 (sg_get rfl (cm_row hy_3)) rfl hi_4 dX13_overhang_16 ?_
    refine lv_aload_n hx hb dX13_overhang_17 rfl (lv_at hl 0 rfl) ?_
    refine va_get (D := D) (ci := 11) (v := .ref a_this_heights) (C := RX13) (T := TX13) (N := 13) hx hb hUX13 (fun _ h9 => h9) hown hK hP (pl [ce_X13 a_this at_this a_this_heights x_this s_this o_this, ce_M kA a_this_heights r_this_heights o_this_heights] 0 0) (sg_get rfl rfl) rfl 9 (by decide) (hts (Cond.fieldLink RX13 37 "ReliefBuilderLaw$World" "heights" "[[I") (List.mem_of_getElem? (i := 1) rfl)) (fun _ h9 => h9) rfl dX13_overhang_18 ?_
    refine lv_iload_n hx hb dX13_overhang_21 rfl (lv_at hl 2 rfl) ?_
    refine lv_iconst (v := 1) hx hb dX13_overhang_22 (by decide) ?_
    refine lv_isub hx hb dX13_overhang_23 ?_
    obtain ⟨hi_5, hf⟩ := os_if hf
    obtain ⟨hy_6, hf⟩ := os_if hf
    refine sg_aald hx hb hK hP (pl [ce_X13 a_this at_this a_this_heights x_this s_this o_this, ce_M kA a_this_heights r_this_heights o_this_heights] 1 0) (sg_get rfl cm_0) hi_5 (if_pos hy_6) dX13_overhang_24 ?_
    refine lv_iload_n hx hb dX13_overhang_25 rfl (lv_at hl 1 rfl) ?_
    obtain ⟨hi_7, hf⟩ := os_if hf
    refine va_iald hx hb hK hP (pl [ce_X13 a_this at_this a_this_heights x_this s_this o_this, ce_M kA a_this_heights r_this_heights o_this_heights] 1 (Int32.toNatClampNeg (a2 - (1 : Int32)) + 1)) 0 (sg_get rfl (cm_row hy_6)) rfl hi_7 dX13_overhang_26 ?_
    refine lv_aload_n hx hb dX13_overhang_27 rfl (lv_at hl 0 rfl) ?_
    refine va_get (D := D) (ci := 11) (v := .int (os_I o_this 6)) (C := RX13) (T := TX13) (N := 13) hx hb hUX13 (fun _ h9 => h9) hown hK hP (pl [ce_X13 a_this at_this a_this_heights x_this s_this o_this, ce_M kA a_this_heights r_this_heights o_this_heights] 0 0) (sg_get rfl rfl) rfl 6 (by decide) (hts (Cond.fieldLink RX13 28 "ReliefBuilderLaw$World" "slope" "I") (List.mem_of_getElem? (i := 2) rfl)) (fun _ h9 => h9) rfl dX13_overhang_28 ?_
    refine lv_iadd hx hb dX13_overhang_31 ?_
    refine lv_isub hx hb dX13_overhang_32 ?_
    refine va_mmax hx hb (hml.trans hl.1.symm) hown (hts (Cond.methodLink RX13 156 Lib.Math.max.name) (List.mem_of_getElem? (i := 3) rfl)) (hts (Cond.static Lib.Math.max.name) (List.mem_of_getElem? (i := 4) rfl)) (hts (Cond.initialized "java/lang/Math") (List.mem_of_getElem? (i := 5) rfl)) (hts (Cond.code Lib.Math.max.name Lib.Math.max.code 2 (some .int)) (List.mem_of_getElem? (i := 6) rfl)) (Nat.le_of_ble_eq_true rfl) (Nat.le_of_ble_eq_true rfl) (Nat.le_of_ble_eq_true rfl) (Nat.le_of_ble_eq_true rfl) dX13_overhang_33 ?_
    have hP : va_P D vwCl (fl ([ce_X13 a_this at_this a_this_heights x_this s_this o_this, ce_M kA a_this_heights r_this_heights o_this_heights] : List va_W)) _ := hP
    have hD : va_D A (fl ([ce_X13 a_this at_this a_this_heights x_this s_this o_this, ce_M kA a_this_heights r_this_heights o_this_heights] : List va_W)) := hD
    rw [← Option.some.inj hf]
    exact mg_reti ⟨rfl, rfl⟩ (by show _ ≤ 0; omega) (by show _ ≤ 0; omega) hx hb hr hlk hP hK hD hS dX13_overhang_36
  · rw [if_pos (show a2 = 0 from hc_1)] at hf
    refine lv_iconst (v := 0) hx hb dX13_overhang_4 (by decide) ?_
    refine lv_goto (tgt := 36) hx hb dX13_overhang_5 (by decide) ?_
    have hP : va_P D vwCl (fl ([ce_X13 a_this at_this a_this_heights x_this s_this o_this, ce_M kA a_this_heights r_this_heights o_this_heights] : List va_W)) _ := hP
    have hD : va_D A (fl ([ce_X13 a_this at_this a_this_heights x_this s_this o_this, ce_M kA a_this_heights r_this_heights o_this_heights] : List va_W)) := hD
    rw [← Option.some.inj hf]
    exact mg_reti ⟨rfl, rfl⟩ (by show _ ≤ 0; omega) (by show _ ≤ 0; omega) hx hb hr hlk hP hK hD hS dX13_overhang_36
def ff_X13_relights_c12 (N : Nat) (o_this : os_T) (o_this_tones : os_T) (k2 : (os_T × Int32) → Option os_T) (k12 : (os_T × Int32 × Int32) → Option os_T) (o_this_heights : os_T) (x1 : Int32) (x2 : Int32) : Option os_T :=
  (if (os_I o_this 0) ≤ x2 then k2 (o_this_heights, x1 + 1) else (if os_in x1 (cm_n o_this_heights) then (if Int32.toNatClampNeg x1 < cm_b o_this_heights then (if os_in x1 (cm_n o_this_tones) then (if Int32.toNatClampNeg x1 < cm_b o_this_tones then (if os_in x2 (cm_c o_this_tones) then (if os_nn (FP.fdiv (FP.i2f (os_A o_this_tones (Int32.toNatClampNeg x1) (Int32.toNatClampNeg x2))) (1132396544 : UInt32)) then ((ff_X13_heightFor N o_this (FP.fdiv (FP.i2f (os_A o_this_tones (Int32.toNatClampNeg x1) (Int32.toNatClampNeg x2))) (1132396544 : UInt32))).bind fun u_9 => (if os_in x2 (cm_c o_this_heights) then k12 (ss_A o_this_heights (Int32.toNatClampNeg x1) (upd (os_A o_this_heights (Int32.toNatClampNeg x1)) (Int32.toNatClampNeg x2) u_9), x1, x2 + 1) else none)) else none) else none) else none) else none) else none) else none))
def ff_X13_relights_l12 (N : Nat) (o_this : os_T) (o_this_tones : os_T) (k2 : (os_T × Int32) → Option os_T) : Nat → (os_T × Int32 × Int32) → Option os_T := os_loop (fun k12 s1 => ff_X13_relights_c12 N o_this o_this_tones k2 k12 s1.1 s1.2.1 s1.2.2)
def ff_X13_relights_c2 (N : Nat) (o_this : os_T) (o_this_tones : os_T) (k2 : (os_T × Int32) → Option os_T) (o_this_heights : os_T) (x1 : Int32) : Option os_T :=
  (if (os_I o_this 1) ≤ x1 then some o_this_heights else ff_X13_relights_l12 N o_this o_this_tones k2 N (o_this_heights, x1, (0 : Int32)))
def ff_X13_relights_l2 (N : Nat) (o_this : os_T) (o_this_tones : os_T) : Nat → (os_T × Int32) → Option os_T := os_loop (fun k2 s1 => ff_X13_relights_c2 N o_this o_this_tones k2 s1.1 s1.2)
def ff_X13_relights (N : Nat) (o_this : os_T) (o_this_tones : os_T) (o_this_heights : os_T) : Option os_T :=
  ff_X13_relights_l2 N o_this o_this_tones N (o_this_heights, (0 : Int32))
set_option maxHeartbeats 4000000 in
set_option maxRecDepth 100000 in
theorem mm_X13_relights (l : Launch) (hst : l.stackTraces = false) (zz : Nat → Nat → Nat) (D : va_G) (kA : Nat → ClassId) (N : Nat) (s_this : Nat) (x_this : Nat) (a_this : Nat) (a_this_tones : Nat) (a_this_heights : Nat) (r_this_tones : Nat → Nat) (r_this_heights : Nat → Nat) (o_this : os_T) (o_this_tones : os_T) (o_this_heights : os_T) (out : os_T) (hf : ff_X13_relights N o_this o_this_tones o_this_heights = some out) : mg_C l zz D kA yX13_relights wsX13_relights ({ frames := 27, cells := 0, slots := 0, locals := 569 } : Room) [.ref a_this] (fl ([ce_X13 a_this a_this_tones a_this_heights x_this s_this o_this, ce_M kA a_this_tones r_this_tones o_this_tones, ce_M kA a_this_heights r_this_heights o_this_heights] : List va_W)) (fun rv w1 => rv = none ∧ w1 = (fl ([ce_X13 a_this a_this_tones a_this_heights x_this s_this o_this, ce_M kA a_this_tones r_this_tones o_this_tones, ce_M kA a_this_heights r_this_heights out] : List va_W))) := by
  refine mg_of (cc := cX13_relights) (maxL := 3) (ret := none) (by decide) rfl (Nat.le_of_ble_eq_true rfl) ?_
  intro p e s m below meth c A B hZ hD hP hS ls hl
  obtain ⟨hx, hb, hr, hlk, hml, hown, hts, hK, hA, hnm⟩ := B
  have hown : s.vm.findClass RX13 = some m.cls := hown
  have hl : lv_has ls 3 [(0, .ref a_this)] := hl
  have hP : va_P D vwCl (fl ([ce_X13 a_this a_this_tones a_this_heights x_this s_this o_this, ce_M kA a_this_tones r_this_tones o_this_tones, ce_M kA a_this_heights r_this_heights o_this_heights] : List va_W)) s.heap := hP
  have hUX13 : ∀ w ∈ u_ws RX13 TX13 13, w.before [.ref a_this].toArray s = true := fun w h => hts w (List.mem_cons_of_mem _ (List.mem_append_right _ h))
  have hL12 : ∀ (k2 : (os_T × Int32) → Option os_T), (∀ (o_this_heights : os_T) (x1 : Int32) (H : Heap) (locs : List Loc) (ls : Array Slot), va_P D vwCl (fl ([ce_X13 a_this a_this_tones a_this_heights x_this s_this o_this, ce_M kA a_this_heights r_this_heights o_this_heights, ce_M kA a_this_tones r_this_tones o_this_tones] : List va_W)) H → va_D A (fl ([ce_X13 a_this a_this_tones a_this_heights x_this s_this o_this, ce_M kA a_this_heights r_this_heights o_this_heights, ce_M kA a_this_tones r_this_tones o_this_tones] : List va_W)) → va_S A s.heap H locs → lv_has ls 3 [(0, .ref a_this), (1, .int x1)] → k2 (o_this_heights, x1) = some out → W p l e ({ frames := 27, cells := 0, slots := 0, locals := 569 } : Room) s m [.ref a_this].toArray below meth c H locs 0 0 (MQ below (mg_Q D kA A (fun rv w1 => rv = none ∧ w1 = (fl ([ce_X13 a_this a_this_tones a_this_heights x_this s_this o_this, ce_M kA a_this_tones r_this_tones o_this_tones, ce_M kA a_this_heights r_this_heights out] : List va_W)))) [.ref a_this].toArray s 0 0 A) (F0 m 2 ls [])) → ∀ (n : Nat) (o_this_heights : os_T) (x1 : Int32) (x2 : Int32) (H : Heap) (locs : List Loc) (ls : Array Slot), va_P D vwCl (fl ([ce_X13 a_this a_this_tones a_this_heights x_this s_this o_this, ce_M kA a_this_heights r_this_heights o_this_heights, ce_M kA a_this_tones r_this_tones o_this_tones] : List va_W)) H → va_D A (fl ([ce_X13 a_this a_this_tones a_this_heights x_this s_this o_this, ce_M kA a_this_heights r_this_heights o_this_heights, ce_M kA a_this_tones r_this_tones o_this_tones] : List va_W)) → va_S A s.heap H locs → lv_has ls 3 [(0, .ref a_this), (1, .int x1), (2, .int x2)] → ff_X13_relights_l12 N o_this o_this_tones k2 n (o_this_heights, x1, x2) = some out → W p l e ({ frames := 27, cells := 0, slots := 0, locals := 569 } : Room) s m [.ref a_this].toArray below meth c H locs 0 0 (MQ below (mg_Q D kA A (fun rv w1 => rv = none ∧ w1 = (fl ([ce_X13 a_this a_this_tones a_this_heights x_this s_this o_this, ce_M kA a_this_tones r_this_tones o_this_tones, ce_M kA a_this_heights r_this_heights out] : List va_W)))) [.ref a_this].toArray s 0 0 A) (F0 m 12 ls []) := by
    intro k2 hk2 n
    induction n with
    | zero => intro o_this_heights x1 x2 H locs ls _ _ _ _ hf; cases hf
    | succ n hk12 =>
      intro o_this_heights x1 x2 H locs ls hP hD hS hl hf
      have hf : ff_X13_relights_c12 N o_this o_this_tones k2 (ff_X13_relights_l12 N o_this o_this_tones k2 n) o_this_heights x1 x2 = some out := hf
      generalize hke : ff_X13_relights_l12 N o_this o_this_tones k2 n = k12 at hk12 hf
      unfold ff_X13_relights_c12 at hf
      refine lv_iload_n hx hb dX13_relights_12 rfl (lv_at hl 2 rfl) ?_
      refine lv_aload_n hx hb dX13_relights_13 rfl (lv_at hl 0 rfl) ?_
      refine va_get (D := D) (ci := 11) (v := .int (os_I o_this 0)) (C := RX13) (T := TX13) (N := 13) hx hb hUX13 (fun _ h9 => h9) hown hK hP (pl [ce_X13 a_this a_this_tones a_this_heights x_this s_this o_this, ce_M kA a_this_heights r_this_heights o_this_heights, ce_M kA a_this_tones r_this_tones o_this_tones] 0 0) (sg_get rfl rfl) rfl 0 (by decide) (hts (Cond.fieldLink RX13 7 "ReliefBuilderLaw$World" "wide" "I") (List.mem_of_getElem? (i := 2) rfl)) (fun _ h9 => h9) rfl dX13_relights_14 ?_
      refine lv_icmp_ge (tgt := 50) hx hb dX13_relights_17 (by decide) (fun hc_2 => ?_) (fun hc_2 => ?_)
      · rw [if_pos (show (os_I o_this 0) ≤ x2 from hc_2)] at hf
        refine lv_iinc (v := x1 + 1) (lv' := [(1, .int (x1 + 1)), (0, .ref a_this), (2, .int x2)]) hx hb dX13_relights_50 hl (k := 1) rfl rfl (by decide) rfl (fun ls hl => ?_)
        refine lv_goto (tgt := 2) hx hb dX13_relights_53 (by decide) ?_
        exact hk2 o_this_heights (x1 + 1) _ _ _ hP hD hS (lv_sub hl [1, 0] rfl) hf
      · rw [if_neg (show ¬ ((os_I o_this 0) ≤ x2) from hc_2)] at hf
        refine lv_aload_n hx hb dX13_relights_20 rfl (lv_at hl 0 rfl) ?_
        refine va_get (D := D) (ci := 11) (v := .ref a_this_heights) (C := RX13) (T := TX13) (N := 13) hx hb hUX13 (fun _ h9 => h9) hown hK hP (pl [ce_X13 a_this a_this_tones a_this_heights x_this s_this o_this, ce_M kA a_this_heights r_this_heights o_this_heights, ce_M kA a_this_tones r_this_tones o_this_tones] 0 0) (sg_get rfl rfl) rfl 9 (by decide) (hts (Cond.fieldLink RX13 37 "ReliefBuilderLaw$World" "heights" "[[I") (List.mem_of_getElem? (i := 3) rfl)) (fun _ h9 => h9) rfl dX13_relights_21 ?_
        refine lv_iload_n hx hb dX13_relights_24 rfl (lv_at hl 1 rfl) ?_
        obtain ⟨hi_3, hf⟩ := os_if hf
        obtain ⟨hy_4, hf⟩ := os_if hf
        refine sg_aald hx hb hK hP (pl [ce_X13 a_this a_this_tones a_this_heights x_this s_this o_this, ce_M kA a_this_heights r_this_heights o_this_heights, ce_M kA a_this_tones r_this_tones o_this_tones] 1 0) (sg_get rfl cm_0) hi_3 (if_pos hy_4) dX13_relights_25 ?_
        refine lv_iload_n hx hb dX13_relights_26 rfl (lv_at hl 2 rfl) ?_
        refine lv_aload_n hx hb dX13_relights_27 rfl (lv_at hl 0 rfl) ?_
        refine lv_aload_n hx hb dX13_relights_28 rfl (lv_at hl 0 rfl) ?_
        refine va_get (D := D) (ci := 11) (v := .ref a_this_tones) (C := RX13) (T := TX13) (N := 13) hx hb hUX13 (fun _ h9 => h9) hown hK hP (pl [ce_X13 a_this a_this_tones a_this_heights x_this s_this o_this, ce_M kA a_this_heights r_this_heights o_this_heights, ce_M kA a_this_tones r_this_tones o_this_tones] 0 0) (sg_get rfl rfl) rfl 8 (by decide) (hts (Cond.fieldLink RX13 33 "ReliefBuilderLaw$World" "tones" "[[I") (List.mem_of_getElem? (i := 4) rfl)) (fun _ h9 => h9) rfl dX13_relights_29 ?_
        refine lv_iload_n hx hb dX13_relights_32 rfl (lv_at hl 1 rfl) ?_
        obtain ⟨hi_5, hf⟩ := os_if hf
        obtain ⟨hy_6, hf⟩ := os_if hf
        refine sg_aald hx hb hK hP (pl [ce_X13 a_this a_this_tones a_this_heights x_this s_this o_this, ce_M kA a_this_heights r_this_heights o_this_heights, ce_M kA a_this_tones r_this_tones o_this_tones] 2 0) (sg_get rfl cm_0) hi_5 (if_pos hy_6) dX13_relights_33 ?_
        refine lv_iload_n hx hb dX13_relights_34 rfl (lv_at hl 2 rfl) ?_
        obtain ⟨hi_7, hf⟩ := os_if hf
        refine va_iald hx hb hK hP (pl [ce_X13 a_this a_this_tones a_this_heights x_this s_this o_this, ce_M kA a_this_heights r_this_heights o_this_heights, ce_M kA a_this_tones r_this_tones o_this_tones] 2 (Int32.toNatClampNeg x1 + 1)) 0 (sg_get rfl (cm_row hy_6)) rfl hi_7 dX13_relights_35 ?_
        refine lv_i2f hx hb dX13_relights_36 ?_
        refine lv_ldcf hx hb hown (hts (Cond.constantFloat RX13 121 (1132396544)) (List.mem_of_getElem? (i := 5) rfl)) dX13_relights_37 ?_
        obtain ⟨hn_8, hf⟩ := os_if hf
        refine lv_fdiv hx hb dX13_relights_39 hn_8 ?_
        obtain ⟨u_9, he_10, hf⟩ := os_bd hf
        refine mg_callV (wcs := [ce_X13 a_this a_this_tones a_this_heights x_this s_this o_this]) (wrs := [ce_M kA a_this_heights r_this_heights o_this_heights, ce_M kA a_this_tones r_this_tones o_this_tones]) (ss := [ce_X13 a_this a_this_tones a_this_heights x_this s_this o_this, ce_M kA a_this_heights r_this_heights o_this_heights, ce_M kA a_this_tones r_this_tones o_this_tones]) ⟨hx, hb, hml, hown, hts⟩ (mm_X13_heightFor l hst zz D kA N a_this_tones a_this_heights s_this x_this a_this o_this (FP.fdiv (FP.i2f (os_A o_this_tones (Int32.toNatClampNeg x1) (Int32.toNatClampNeg x2))) (1132396544 : UInt32)) u_9 he_10) (cwV 1 hts gX13_relights_X13_heightFor rfl rfl rfl (by decide +kernel) ⟨Nat.le_of_ble_eq_true rfl, Nat.le_of_ble_eq_true rfl⟩) (va_recv hK hP (q0 := pl [ce_X13 a_this a_this_tones a_this_heights x_this s_this o_this, ce_M kA a_this_heights r_this_heights o_this_heights, ce_M kA a_this_tones r_this_tones o_this_tones] 0 0) rfl (sg_get rfl rfl)) rfl hl.1 (As := [.float (FP.fdiv (FP.i2f (os_A o_this_tones (Int32.toNatClampNeg x1) (Int32.toNatClampNeg x2))) (1132396544 : UInt32))]) (rest := [.int x2, .ref (r_this_heights (Int32.toNatClampNeg x1))]) rfl (Nat.le_of_ble_eq_true rfl) dX13_relights_40 ⟨(by show 0 + 0 ≤ 0; omega), (by show 0 + 0 ≤ 0; omega)⟩ hK hP hD hS hA hZ (pm_seg [ce_X13 a_this a_this_tones a_this_heights x_this s_this o_this, ce_M kA a_this_heights r_this_heights o_this_heights, ce_M kA a_this_tones r_this_tones o_this_tones] ([ce_X13 a_this a_this_tones a_this_heights x_this s_this o_this] ++ [ce_M kA a_this_heights r_this_heights o_this_heights, ce_M kA a_this_tones r_this_tones o_this_tones]) [0, 1, 2] 3 rfl (by decide) rfl (by decide)) (fun rv w1 H locs hq hP hD hS => ?_)
        obtain ⟨rfl, rfl⟩ := hq
        refine W.widen (k := 0) (n := 0) (by show _ + 0 ≤ _; omega) (by show _ + 0 ≤ _; omega) ?_
        have hP : va_P D vwCl (fl ([ce_X13 a_this a_this_tones a_this_heights x_this s_this o_this, ce_M kA a_this_heights r_this_heights o_this_heights, ce_M kA a_this_tones r_this_tones o_this_tones] : List va_W)) _ := (show va_P D vwCl (fl ([ce_X13 a_this a_this_tones a_this_heights x_this s_this o_this] ++ [ce_M kA a_this_heights r_this_heights o_this_heights, ce_M kA a_this_tones r_this_tones o_this_tones] : List va_W)) _ from (by rw [fl_app]; exact hP))
        have hD : va_D A (fl ([ce_X13 a_this a_this_tones a_this_heights x_this s_this o_this, ce_M kA a_this_heights r_this_heights o_this_heights, ce_M kA a_this_tones r_this_tones o_this_tones] : List va_W)) := (show va_D A (fl ([ce_X13 a_this a_this_tones a_this_heights x_this s_this o_this] ++ [ce_M kA a_this_heights r_this_heights o_this_heights, ce_M kA a_this_tones r_this_tones o_this_tones] : List va_W)) from (by rw [fl_app]; exact hD))
        refine W.eq (g2 := F0 m 43 ls [.int u_9, .int x2, .ref (r_this_heights (Int32.toNatClampNeg x1))]) rfl ?_
        obtain ⟨hi_11, hf⟩ := os_if hf
        refine va_iast hx hb hK hP hD hS (pl [ce_X13 a_this a_this_tones a_this_heights x_this s_this o_this, ce_M kA a_this_heights r_this_heights o_this_heights, ce_M kA a_this_tones r_this_tones o_this_tones] 1 (Int32.toNatClampNeg x1 + 1)) 0 (sg_get rfl (cm_row hy_4)) rfl hi_11 dX13_relights_43 (fun H locs hP hD hS => ?_)
        have hP : va_P D vwCl (fl ([ce_X13 a_this a_this_tones a_this_heights x_this s_this o_this, ce_M kA a_this_heights r_this_heights (ss_A o_this_heights (Int32.toNatClampNeg x1) (upd (os_A o_this_heights (Int32.toNatClampNeg x1)) (Int32.toNatClampNeg x2) u_9)), ce_M kA a_this_tones r_this_tones o_this_tones] : List va_W)) _ := sg_P rfl (cm_lt hy_4) (congrArg (List.set _ _) (cm_set hy_4 _)) hP
        have hD : va_D A (fl ([ce_X13 a_this a_this_tones a_this_heights x_this s_this o_this, ce_M kA a_this_heights r_this_heights (ss_A o_this_heights (Int32.toNatClampNeg x1) (upd (os_A o_this_heights (Int32.toNatClampNeg x1)) (Int32.toNatClampNeg x2) u_9)), ce_M kA a_this_tones r_this_tones o_this_tones] : List va_W)) := sg_D rfl (cm_lt hy_4) (congrArg (List.set _ _) (cm_set hy_4 _)) hD
        refine lv_iinc (v := x2 + 1) (lv' := [(2, .int (x2 + 1)), (0, .ref a_this), (1, .int x1)]) hx hb dX13_relights_44 hl (k := 2) rfl rfl (by decide) rfl (fun ls hl => ?_)
        refine lv_goto (tgt := 12) hx hb dX13_relights_47 (by decide) ?_
        exact hk12 (ss_A o_this_heights (Int32.toNatClampNeg x1) (upd (os_A o_this_heights (Int32.toNatClampNeg x1)) (Int32.toNatClampNeg x2) u_9)) x1 (x2 + 1) _ _ _ hP hD hS (lv_sub hl [1, 2, 0] rfl) hf
  have hL2 : ∀ (n : Nat) (o_this_heights : os_T) (x1 : Int32) (H : Heap) (locs : List Loc) (ls : Array Slot), va_P D vwCl (fl ([ce_X13 a_this a_this_tones a_this_heights x_this s_this o_this, ce_M kA a_this_heights r_this_heights o_this_heights, ce_M kA a_this_tones r_this_tones o_this_tones] : List va_W)) H → va_D A (fl ([ce_X13 a_this a_this_tones a_this_heights x_this s_this o_this, ce_M kA a_this_heights r_this_heights o_this_heights, ce_M kA a_this_tones r_this_tones o_this_tones] : List va_W)) → va_S A s.heap H locs → lv_has ls 3 [(0, .ref a_this), (1, .int x1)] → ff_X13_relights_l2 N o_this o_this_tones n (o_this_heights, x1) = some out → W p l e ({ frames := 27, cells := 0, slots := 0, locals := 569 } : Room) s m [.ref a_this].toArray below meth c H locs 0 0 (MQ below (mg_Q D kA A (fun rv w1 => rv = none ∧ w1 = (fl ([ce_X13 a_this a_this_tones a_this_heights x_this s_this o_this, ce_M kA a_this_tones r_this_tones o_this_tones, ce_M kA a_this_heights r_this_heights out] : List va_W)))) [.ref a_this].toArray s 0 0 A) (F0 m 2 ls []) := by
    intro n
    induction n with
    | zero => intro o_this_heights x1 H locs ls _ _ _ _ hf; cases hf
    | succ n hk2 =>
      intro o_this_heights x1 H locs ls hP hD hS hl hf
      have hf : ff_X13_relights_c2 N o_this o_this_tones (ff_X13_relights_l2 N o_this o_this_tones n) o_this_heights x1 = some out := hf
      generalize hke : ff_X13_relights_l2 N o_this o_this_tones n = k2 at hk2 hf
      unfold ff_X13_relights_c2 at hf
      refine lv_iload_n hx hb dX13_relights_2 rfl (lv_at hl 1 rfl) ?_
      refine lv_aload_n hx hb dX13_relights_3 rfl (lv_at hl 0 rfl) ?_
      refine va_get (D := D) (ci := 11) (v := .int (os_I o_this 1)) (C := RX13) (T := TX13) (N := 13) hx hb hUX13 (fun _ h9 => h9) hown hK hP (pl [ce_X13 a_this a_this_tones a_this_heights x_this s_this o_this, ce_M kA a_this_heights r_this_heights o_this_heights, ce_M kA a_this_tones r_this_tones o_this_tones] 0 0) (sg_get rfl rfl) rfl 1 (by decide) (hts (Cond.fieldLink RX13 13 "ReliefBuilderLaw$World" "high" "I") (List.mem_of_getElem? (i := 1) rfl)) (fun _ h9 => h9) rfl dX13_relights_4 ?_
      refine lv_icmp_ge (tgt := 56) hx hb dX13_relights_7 (by decide) (fun hc_1 => ?_) (fun hc_1 => ?_)
      · rw [if_pos (show (os_I o_this 1) ≤ x1 from hc_1)] at hf
        have hP : va_P D vwCl (fl ([ce_X13 a_this a_this_tones a_this_heights x_this s_this o_this, ce_M kA a_this_tones r_this_tones o_this_tones, ce_M kA a_this_heights r_this_heights o_this_heights] : List va_W)) _ := hP.pm (pm_seg [ce_X13 a_this a_this_tones a_this_heights x_this s_this o_this, ce_M kA a_this_heights r_this_heights o_this_heights, ce_M kA a_this_tones r_this_tones o_this_tones] [ce_X13 a_this a_this_tones a_this_heights x_this s_this o_this, ce_M kA a_this_tones r_this_tones o_this_tones, ce_M kA a_this_heights r_this_heights o_this_heights] [0, 2, 1] 3 rfl (by decide) rfl (by decide))
        have hD : va_D A (fl ([ce_X13 a_this a_this_tones a_this_heights x_this s_this o_this, ce_M kA a_this_tones r_this_tones o_this_tones, ce_M kA a_this_heights r_this_heights o_this_heights] : List va_W)) := hD.pm (pm_seg [ce_X13 a_this a_this_tones a_this_heights x_this s_this o_this, ce_M kA a_this_heights r_this_heights o_this_heights, ce_M kA a_this_tones r_this_tones o_this_tones] [ce_X13 a_this a_this_tones a_this_heights x_this s_this o_this, ce_M kA a_this_tones r_this_tones o_this_tones, ce_M kA a_this_heights r_this_heights o_this_heights] [0, 2, 1] 3 rfl (by decide) rfl (by decide))
        have hP : va_P D vwCl (fl ([ce_X13 a_this a_this_tones a_this_heights x_this s_this o_this, ce_M kA a_this_tones r_this_tones o_this_tones, ce_M kA a_this_heights r_this_heights o_this_heights] : List va_W)) _ := hP
        have hD : va_D A (fl ([ce_X13 a_this a_this_tones a_this_heights x_this s_this o_this, ce_M kA a_this_tones r_this_tones o_this_tones, ce_M kA a_this_heights r_this_heights o_this_heights] : List va_W)) := hD
        rw [← Option.some.inj hf]
        exact mg_retv ⟨rfl, rfl⟩ (by show _ ≤ 0; omega) (by show _ ≤ 0; omega) hx hb hr hlk hP hK hD hS dX13_relights_56
      · rw [if_neg (show ¬ ((os_I o_this 1) ≤ x1) from hc_1)] at hf
        refine lv_iconst (v := 0) hx hb dX13_relights_10 (by decide) ?_
        refine lv_istore_n (lv' := [(2, .int (0 : Int32)), (0, .ref a_this), (1, .int x1)]) hx hb dX13_relights_11 rfl hl (by decide) rfl (fun ls hl => ?_)
        exact hL12 k2 hk2 N o_this_heights x1 (0 : Int32) _ _ _ hP hD hS (lv_sub hl [1, 2, 0] rfl) hf
  unfold ff_X13_relights at hf
  refine lv_iconst (v := 0) hx hb dX13_relights_0 (by decide) ?_
  refine lv_istore_n (lv' := [(1, .int (0 : Int32)), (0, .ref a_this)]) hx hb dX13_relights_1 rfl hl (by decide) rfl (fun ls hl => ?_)
  have hP : va_P D vwCl (fl ([ce_X13 a_this a_this_tones a_this_heights x_this s_this o_this, ce_M kA a_this_heights r_this_heights o_this_heights, ce_M kA a_this_tones r_this_tones o_this_tones] : List va_W)) _ := hP.pm (pm_seg [ce_X13 a_this a_this_tones a_this_heights x_this s_this o_this, ce_M kA a_this_tones r_this_tones o_this_tones, ce_M kA a_this_heights r_this_heights o_this_heights] [ce_X13 a_this a_this_tones a_this_heights x_this s_this o_this, ce_M kA a_this_heights r_this_heights o_this_heights, ce_M kA a_this_tones r_this_tones o_this_tones] [0, 2, 1] 3 rfl (by decide) rfl (by decide))
  have hD : va_D A (fl ([ce_X13 a_this a_this_tones a_this_heights x_this s_this o_this, ce_M kA a_this_heights r_this_heights o_this_heights, ce_M kA a_this_tones r_this_tones o_this_tones] : List va_W)) := hD.pm (pm_seg [ce_X13 a_this a_this_tones a_this_heights x_this s_this o_this, ce_M kA a_this_tones r_this_tones o_this_tones, ce_M kA a_this_heights r_this_heights o_this_heights] [ce_X13 a_this a_this_tones a_this_heights x_this s_this o_this, ce_M kA a_this_heights r_this_heights o_this_heights, ce_M kA a_this_tones r_this_tones o_this_tones] [0, 2, 1] 3 rfl (by decide) rfl (by decide))
  exact hL2 N o_this_heights (0 : Int32) _ _ _ hP hD hS (lv_sub hl [1, 0] rfl) hf
