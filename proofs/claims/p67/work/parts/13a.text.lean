def ff_L_cell (zz : Nat → Nat → Nat) (N : Nat) (a1 : Int32) : Option Int32 :=
  (if (Int32.ofNat (zz 4 1)) ≤ a1 then some (((1664525 : Int32) * a1) + (15259 : Int32)) else (if os_in a1 (zz 4 1) then some (Int32.ofNat (zz 5 (Int32.toNatClampNeg a1))) else none))
set_option maxHeartbeats 4000000 in
set_option maxRecDepth 100000 in
theorem mm_L_cell (l : Launch) (hst : l.stackTraces = false) (zz : Nat → Nat → Nat) (D : va_G) (kA : Nat → ClassId) (N : Nat) (a1 : Int32) (out : Int32) (hf : ff_L_cell zz N a1 = some out) : mg_C l zz D kA yL_cell wsL_cell ({ frames := 0, cells := 0, slots := 0, locals := 0 } : Room) [.ref (zz 4 0), .int a1] (fl ([] : List va_W)) (fun rv w1 => rv = some (.int out) ∧ w1 = (fl ([] : List va_W))) := by
  refine mg_of (cc := cL_cell) (maxL := 2) (ret := (some .int)) (by decide) rfl (Nat.le_of_ble_eq_true rfl) ?_
  intro p e s m below meth c A B hZ hD hP hS ls hl
  obtain ⟨hx, hb, hr, hlk, hml, hown, hts, hK, hA, hnm⟩ := B
  have hown : s.vm.findClass RL = some m.cls := hown
  have hl : lv_has ls 2 [(0, .ref (zz 4 0)), (1, .int a1)] := hl
  have hP : va_P D vwCl (fl ([] : List va_W)) s.heap := hP
  unfold ff_L_cell at hf
  refine lv_iload_n hx hb dL_cell_0 rfl (lv_at hl 1 rfl) ?_
  refine lv_aload_n hx hb dL_cell_1 rfl (lv_at hl 0 rfl) ?_
  refine va_tlen hx hb hZ.2.2.2.2.2.2.2.2 hS rfl dL_cell_2 ?_
  refine lv_icmp_ge (tgt := 12) hx hb dL_cell_3 (by decide) (fun hc_1 => ?_) (fun hc_1 => ?_)
  · rw [if_pos (show (Int32.ofNat (zz 4 1)) ≤ a1 from hc_1)] at hf
    refine lv_ldc hx hb hown (hts (Cond.constant RL 7 (1664525)) (List.mem_of_getElem? (i := 1) rfl)) dL_cell_12 ?_
    refine lv_iload_n hx hb dL_cell_14 rfl (lv_at hl 1 rfl) ?_
    refine lv_imul hx hb dL_cell_15 ?_
    refine lv_sipush (v := 15259) hx hb dL_cell_16 (by decide) ?_
    refine lv_iadd hx hb dL_cell_19 ?_
    have hP : va_P D vwCl (fl ([] : List va_W)) _ := hP
    have hD : va_D A (fl ([] : List va_W)) := hD
    rw [← Option.some.inj hf]
    exact mg_reti ⟨rfl, rfl⟩ (by show _ ≤ 0; omega) (by show _ ≤ 0; omega) hx hb hr hlk hP hK hD hS dL_cell_20
  · rw [if_neg (show ¬ ((Int32.ofNat (zz 4 1)) ≤ a1) from hc_1)] at hf
    refine lv_aload_n hx hb dL_cell_6 rfl (lv_at hl 0 rfl) ?_
    refine lv_iload_n hx hb dL_cell_7 rfl (lv_at hl 1 rfl) ?_
    obtain ⟨hi_2, hf⟩ := os_if hf
    refine va_ti hx hb hZ.2.2.2.2.2.2.2.2 hS hi_2 rfl dL_cell_8 ?_
    refine lv_goto (tgt := 20) hx hb dL_cell_9 (by decide) ?_
    have hP : va_P D vwCl (fl ([] : List va_W)) _ := hP
    have hD : va_D A (fl ([] : List va_W)) := hD
    rw [← Option.some.inj hf]
    exact mg_reti ⟨rfl, rfl⟩ (by show _ ≤ 0; omega) (by show _ ≤ 0; omega) hx hb hr hlk hP hK hD hS dL_cell_20
def ff_L_pick (zz : Nat → Nat → Nat) (N : Nat) (a1 : Int32) (a2 : Int32) : Option Int32 :=
  ((ff_L_cell zz N a1).bind fun u_1 => (if ¬ a2 = 0 then some ((u_1 &&& (2147483647 : Int32)) - (u_1 &&& (2147483647 : Int32)) / a2 * a2) else none))
set_option maxHeartbeats 4000000 in
set_option maxRecDepth 100000 in
theorem mm_L_pick (l : Launch) (hst : l.stackTraces = false) (zz : Nat → Nat → Nat) (D : va_G) (kA : Nat → ClassId) (N : Nat) (a1 : Int32) (a2 : Int32) (out : Int32) (hf : ff_L_pick zz N a1 a2 = some out) : mg_C l zz D kA yL_pick wsL_pick ({ frames := 1, cells := 0, slots := 0, locals := 21 } : Room) [.ref (zz 4 0), .int a1, .int a2] (fl ([] : List va_W)) (fun rv w1 => rv = some (.int out) ∧ w1 = (fl ([] : List va_W))) := by
  refine mg_of (cc := cL_pick) (maxL := 3) (ret := (some .int)) (by decide) rfl (Nat.le_of_ble_eq_true rfl) ?_
  intro p e s m below meth c A B hZ hD hP hS ls hl
  obtain ⟨hx, hb, hr, hlk, hml, hown, hts, hK, hA, hnm⟩ := B
  have hown : s.vm.findClass RL = some m.cls := hown
  have hl : lv_has ls 3 [(0, .ref (zz 4 0)), (1, .int a1), (2, .int a2)] := hl
  have hP : va_P D vwCl (fl ([] : List va_W)) s.heap := hP
  unfold ff_L_pick at hf
  refine lv_aload_n hx hb dL_pick_0 rfl (lv_at hl 0 rfl) ?_
  refine lv_iload_n hx hb dL_pick_1 rfl (lv_at hl 1 rfl) ?_
  obtain ⟨u_1, he_2, hf⟩ := os_bd hf
  refine mg_callS (wcs := []) (wrs := []) (ss := []) ⟨hx, hb, hml, hown, hts⟩ (mm_L_cell l hst zz D kA N a1 u_1 he_2) (va_cwS 2 hts gL_pick_L_cell rfl rfl rfl (by decide +kernel) ⟨Nat.le_of_ble_eq_true rfl, Nat.le_of_ble_eq_true rfl⟩) rfl hl.1 (As := [.ref (zz 4 0), .int a1]) (rest := []) rfl (Nat.le_of_ble_eq_true rfl) dL_pick_2 ⟨(by show 0 + 0 ≤ 0; omega), (by show 0 + 0 ≤ 0; omega)⟩ hK hP hD hS hA hZ (pm_seg [] ([] ++ []) [] 0 rfl (by decide) rfl (by decide)) (fun rv w1 H locs hq hP hD hS => ?_)
  obtain ⟨rfl, rfl⟩ := hq
  refine W.widen (k := 0) (n := 0) (by show _ + 0 ≤ _; omega) (by show _ + 0 ≤ _; omega) ?_
  have hP : va_P D vwCl (fl ([] : List va_W)) _ := (show va_P D vwCl (fl ([] ++ [] : List va_W)) _ from (by rw [fl_app]; exact hP))
  have hD : va_D A (fl ([] : List va_W)) := (show va_D A (fl ([] ++ [] : List va_W)) from (by rw [fl_app]; exact hD))
  refine W.eq (g2 := F0 m 5 ls [.int u_1]) rfl ?_
  refine lv_ldc hx hb hown (hts (Cond.constant RL 14 (2147483647)) (List.mem_of_getElem? (i := 1) rfl)) dL_pick_5 ?_
  refine lv_iand hx hb dL_pick_7 ?_
  refine lv_iload_n hx hb dL_pick_8 rfl (lv_at hl 2 rfl) ?_
  obtain ⟨hz_3, hf⟩ := os_if hf
  refine lv_irem hx hb dL_pick_9 hz_3 ?_
  have hP : va_P D vwCl (fl ([] : List va_W)) _ := hP
  have hD : va_D A (fl ([] : List va_W)) := hD
  rw [← Option.some.inj hf]
  exact mg_reti ⟨rfl, rfl⟩ (by show _ ≤ 0; omega) (by show _ ≤ 0; omega) hx hb hr hlk hP hK hD hS dL_pick_10
def ff_J5_init_d00df (N : Nat) (a1 : Int32) : Option (os_T × os_T) :=
  (if ¬ a1 < 0 ∧ Int32.toNatClampNeg a1 ≤ 1000 then some (os_zero, ss_I os_zero 0 a1) else none)
set_option maxHeartbeats 4000000 in
set_option maxRecDepth 100000 in
theorem mm_J5_init_d00df (l : Launch) (hst : l.stackTraces = false) (zz : Nat → Nat → Nat) (D : va_G) (kA : Nat → ClassId) (N : Nat) (a_this : Nat) (a1 : Int32) (out : os_T × os_T) (hf : ff_J5_init_d00df N a1 = some out) : mg_C l zz D kA yJ5_init_d00df wsJ5_init_d00df ({ frames := 1, cells := 1, slots := 1000, locals := 30 } : Room) [.ref a_this, .int a1] (fl ([[(a_this, .inr (1, [.null, .int (0 : Int32), .int (0 : Int32), .int (0 : Int32)]))]] : List va_W)) (fun rv w1 => ∃ e_this_value : Nat, rv = none ∧ w1 = (fl ([ce_K4 a_this e_this_value out.1, ce_BA kA e_this_value out.2] : List va_W))) := by
  refine mg_of (cc := cJ5_init_d00df) (maxL := 2) (ret := none) (by decide) rfl (Nat.le_of_ble_eq_true rfl) ?_
  intro p e s m below meth c A B hZ hD hP hS ls hl
  obtain ⟨hx, hb, hr, hlk, hml, hown, hts, hK, hA, hnm⟩ := B
  have hown : s.vm.findClass RJ5 = some m.cls := hown
  have hnm : meth.name = "<init>" := hnm
  have hl : lv_has ls 2 [(0, .ref a_this), (1, .int a1)] := hl
  have hP : va_P D vwCl (fl ([[(a_this, .inr (1, [.null, .int (0 : Int32), .int (0 : Int32), .int (0 : Int32)]))]] : List va_W)) s.heap := hP
  have hUJ4 : ∀ w ∈ u_ws RJ4 TJ4 4, w.before [.ref a_this, .int a1].toArray s = true := fun w h => hts w (List.mem_cons_of_mem _ (List.mem_append_right _ h))
  unfold ff_J5_init_d00df at hf
  refine lv_aload_n hx hb dJ5_init_d00df_0 rfl (lv_at hl 0 rfl) ?_
  refine W.objInit hx hb hown (hts (Cond.methodLink RJ5 3 objectInit) (List.mem_of_getElem? (i := 1) rfl)) (hts (Cond.instanceMethod objectInit) (List.mem_of_getElem? (i := 2) rfl)) (hts (Cond.code objectInit ⟨#[0xb1]⟩ 1 none) (List.mem_of_getElem? (i := 3) rfl)) rfl (by rw [hml]; exact hl.1) rfl dJ5_init_d00df_1 (Nat.le_of_ble_eq_true rfl) (Nat.le_of_ble_eq_true rfl) ?_
  refine W.eq (g2 := F0 m 4 ls []) rfl ?_
  refine va_gets hx hb hZ.2.2.1.1 hS hown (hts (Cond.fieldLink RJ5 18 "java/lang/String" "COMPACT_STRINGS" "Z") (List.mem_of_getElem? (i := 4) rfl)) (fun _ h9 => h9) dJ5_init_d00df_4 ?_
  refine lv_if_eq (tgt := 25) hx hb dJ5_init_d00df_7 (by decide) (fun h9 => absurd h9 (by decide)) (fun _ => ?_)
  refine lv_aload_n hx hb dJ5_init_d00df_10 rfl (lv_at hl 0 rfl) ?_
  refine lv_iload_n hx hb dJ5_init_d00df_11 rfl (lv_at hl 1 rfl) ?_
  obtain ⟨hn_2, hf⟩ := os_if hf
  refine mi_newa (atype := .byte) (ty := .byte) (a0 := (Int32.toNatClampNeg a1, .inl (fun _ => 0))) 2 hx hb (hts (Cond.arrayClass .byte) (List.mem_of_getElem? (i := 5) rfl)) rfl rfl (fun c0 h9 => ⟨_, rfl, va_nm_byte h9⟩) hK hP hD hS hA (fun _ => rfl) hn_2.1 rfl (by have := hn_2.2; show _ * 1 ≤ _; omega) (by show 0 + 1 ≤ 1; omega) (by have := hn_2.2; show 0 + _ ≤ 1000; omega) dJ5_init_d00df_12 (fun q_1 H hP hD hS => ?_)
  refine W.widen (k := 1) (n := 1000) (by omega) (by have := hn_2.2; omega) ?_
  have hP : va_P D vwCl (fl ([[(a_this, .inr (1, [.null, .int (0 : Int32), .int (0 : Int32), .int (0 : Int32)]))], ce_BA kA q_1 (ss_I os_zero 0 a1)] : List va_W)) _ := sg_Pn hP
  have hD : va_D A (fl ([[(a_this, .inr (1, [.null, .int (0 : Int32), .int (0 : Int32), .int (0 : Int32)]))], ce_BA kA q_1 (ss_I os_zero 0 a1)] : List va_W)) := sg_Dn hD
  refine va_put (D := D) (ci := 1) (v := .ref q_1) (ty := .array .byte) (C := RJ4) (T := TJ4) (N := 4) hx hb hUJ4 (fun _ h9 => h9) tyJ4 tyJ4_ok nmJ4 hown hK hP hD hS (pl [[(a_this, .inr (1, [.null, .int (0 : Int32), .int (0 : Int32), .int (0 : Int32)]))], ce_BA kA q_1 (ss_I os_zero 0 a1)] 0 0) (sg_get rfl rfl) rfl 0 (by decide) (hts (Cond.fieldLink RJ5 15 "java/lang/AbstractStringBuilder" "value" "[B") (List.mem_of_getElem? (i := 6) rfl)) (fun _ h9 => h9) rfl (tyJ4_ok 0 (by decide)) rfl rfl (Nat.le_of_ble_eq_true rfl) dJ5_init_d00df_14 (fun H locs hP hD hS => ?_)
  have hP : va_P D vwCl (fl ([[(a_this, .inr (1, [.ref q_1, .int (0 : Int32), .int (0 : Int32), .int (0 : Int32)]))], ce_BA kA q_1 (ss_I os_zero 0 a1)] : List va_W)) _ := sg_P rfl (Nat.le_of_ble_eq_true rfl) rfl hP
  have hD : va_D A (fl ([[(a_this, .inr (1, [.ref q_1, .int (0 : Int32), .int (0 : Int32), .int (0 : Int32)]))], ce_BA kA q_1 (ss_I os_zero 0 a1)] : List va_W)) := sg_D rfl (Nat.le_of_ble_eq_true rfl) rfl hD
  refine lv_aload_n hx hb dJ5_init_d00df_17 rfl (lv_at hl 0 rfl) ?_
  refine lv_iconst (v := 0) hx hb dJ5_init_d00df_18 (by decide) ?_
  refine va_put (D := D) (ci := 1) (v := .int (0 : Int32)) (ty := .byte) (C := RJ4) (T := TJ4) (N := 4) hx hb hUJ4 (fun _ h9 => h9) tyJ4 tyJ4_ok nmJ4 hown hK hP hD hS (pl [[(a_this, .inr (1, [.ref q_1, .int (0 : Int32), .int (0 : Int32), .int (0 : Int32)]))], ce_BA kA q_1 (ss_I os_zero 0 a1)] 0 0) (sg_get rfl rfl) rfl 1 (by decide) (hts (Cond.fieldLink RJ5 22 "java/lang/AbstractStringBuilder" "coder" "B") (List.mem_of_getElem? (i := 7) rfl)) (fun _ h9 => h9) rfl (tyJ4_ok 1 (by decide)) rfl rfl (Nat.le_of_ble_eq_true rfl) dJ5_init_d00df_19 (fun H locs hP hD hS => ?_)
  have hP : va_P D vwCl (fl ([[(a_this, .inr (1, [.ref q_1, .int (0 : Int32), .int (0 : Int32), .int (0 : Int32)]))], ce_BA kA q_1 (ss_I os_zero 0 a1)] : List va_W)) _ := sg_P rfl (Nat.le_of_ble_eq_true rfl) rfl hP
  have hD : va_D A (fl ([[(a_this, .inr (1, [.ref q_1, .int (0 : Int32), .int (0 : Int32), .int (0 : Int32)]))], ce_BA kA q_1 (ss_I os_zero 0 a1)] : List va_W)) := sg_D rfl (Nat.le_of_ble_eq_true rfl) rfl hD
  refine lv_goto (tgt := 38) hx hb dJ5_init_d00df_22 (by decide) ?_
  have hP : va_P D vwCl (fl ([ce_K4 a_this q_1 os_zero, ce_BA kA q_1 (ss_I os_zero 0 a1)] : List va_W)) _ := hP
  have hD : va_D A (fl ([ce_K4 a_this q_1 os_zero, ce_BA kA q_1 (ss_I os_zero 0 a1)] : List va_W)) := hD
  rw [← Option.some.inj hf]
  exact mg_retv ⟨q_1, rfl, rfl⟩ (by show _ ≤ 1; omega) (by show _ ≤ 1000; omega) hx hb hr hlk hP hK hD hS dJ5_init_d00df_38
def ff_J4_init_da8c8 (N : Nat) : Option (os_T × os_T) :=
  ((ff_J5_init_d00df N (16 : Int32)).bind fun u_1 => some (u_1.1, u_1.2))
set_option maxHeartbeats 4000000 in
set_option maxRecDepth 100000 in
theorem mm_J4_init_da8c8 (l : Launch) (hst : l.stackTraces = false) (zz : Nat → Nat → Nat) (D : va_G) (kA : Nat → ClassId) (N : Nat) (a_this : Nat) (out : os_T × os_T) (hf : ff_J4_init_da8c8 N = some out) : mg_C l zz D kA yJ4_init_da8c8 wsJ4_init_da8c8 ({ frames := 2, cells := 1, slots := 1000, locals := 51 } : Room) [.ref a_this] (fl ([[(a_this, .inr (1, [.null, .int (0 : Int32), .int (0 : Int32), .int (0 : Int32)]))]] : List va_W)) (fun rv w1 => ∃ e_this_value : Nat, rv = none ∧ w1 = (fl ([ce_K4 a_this e_this_value out.1, ce_BA kA e_this_value out.2] : List va_W))) := by
  refine mg_of (cc := cJ4_init_da8c8) (maxL := 1) (ret := none) (by decide) rfl (Nat.le_of_ble_eq_true rfl) ?_
  intro p e s m below meth c A B hZ hD hP hS ls hl
  obtain ⟨hx, hb, hr, hlk, hml, hown, hts, hK, hA, hnm⟩ := B
  have hown : s.vm.findClass RJ4 = some m.cls := hown
  have hnm : meth.name = "<init>" := hnm
  have hl : lv_has ls 1 [(0, .ref a_this)] := hl
  have hP : va_P D vwCl (fl ([[(a_this, .inr (1, [.null, .int (0 : Int32), .int (0 : Int32), .int (0 : Int32)]))]] : List va_W)) s.heap := hP
  unfold ff_J4_init_da8c8 at hf
  refine lv_aload_n hx hb dJ4_init_da8c8_0 rfl (lv_at hl 0 rfl) ?_
  refine lv_bipush (v := 16) hx hb dJ4_init_da8c8_1 (by decide) ?_
  obtain ⟨u_1, he_2, hf⟩ := os_bd hf
  refine mg_callI (wcs := [[(a_this, .inr (1, [.null, .int (0 : Int32), .int (0 : Int32), .int (0 : Int32)]))]]) (wrs := []) (ss := [[(a_this, .inr (1, [.null, .int (0 : Int32), .int (0 : Int32), .int (0 : Int32)]))]]) ⟨hx, hb, hml, hown, hts⟩ (mm_J5_init_d00df l hst zz D kA N a_this (16 : Int32) u_1 he_2) (cwI 1 hts gJ4_init_da8c8_J5_init_d00df rfl rfl rfl (hts (Cond.initialized RJ5) (List.mem_of_getElem? (i := 3) rfl)) (hts (Cond.methodLink RJ4 1 yJ5_init_d00df) (List.mem_of_getElem? (i := 1) rfl)) (hts (Cond.instanceMethod yJ5_init_d00df) (List.mem_of_getElem? (i := 2) rfl)) rfl (by decide +kernel) ⟨Nat.le_of_ble_eq_true rfl, Nat.le_of_ble_eq_true rfl⟩) rfl hl.1 (As := [.int (16 : Int32)]) (rest := []) rfl (Nat.le_of_ble_eq_true rfl) dJ4_init_da8c8_3 ⟨(by show 0 + 1 ≤ 1; omega), (by show 0 + 1000 ≤ 1000; omega)⟩ hK hP hD hS hA hZ (pm_seg [[(a_this, .inr (1, [.null, .int (0 : Int32), .int (0 : Int32), .int (0 : Int32)]))]] ([[(a_this, .inr (1, [.null, .int (0 : Int32), .int (0 : Int32), .int (0 : Int32)]))]] ++ []) [0] 1 rfl (by decide) rfl (by decide)) (fun rv w1 H locs hq hP hD hS => ?_)
  obtain ⟨e_this_value_3, rfl, rfl⟩ := hq
  refine W.widen (k := 1) (n := 1000) (by show _ + 1 ≤ _; omega) (by show _ + 1000 ≤ _; omega) ?_
  have hP : va_P D vwCl (fl ([ce_K4 a_this e_this_value_3 u_1.1, ce_BA kA e_this_value_3 u_1.2] : List va_W)) _ := (show va_P D vwCl (fl ([ce_K4 a_this e_this_value_3 u_1.1, ce_BA kA e_this_value_3 u_1.2] ++ [] : List va_W)) _ from (by rw [fl_app]; exact hP))
  have hD : va_D A (fl ([ce_K4 a_this e_this_value_3 u_1.1, ce_BA kA e_this_value_3 u_1.2] : List va_W)) := (show va_D A (fl ([ce_K4 a_this e_this_value_3 u_1.1, ce_BA kA e_this_value_3 u_1.2] ++ [] : List va_W)) from (by rw [fl_app]; exact hD))
  refine W.eq (g2 := F0 m 6 ls []) rfl ?_
  have hP : va_P D vwCl (fl ([ce_K4 a_this e_this_value_3 u_1.1, ce_BA kA e_this_value_3 u_1.2] : List va_W)) _ := hP
  have hD : va_D A (fl ([ce_K4 a_this e_this_value_3 u_1.1, ce_BA kA e_this_value_3 u_1.2] : List va_W)) := hD
  rw [← Option.some.inj hf]
  exact mg_retv ⟨e_this_value_3, rfl, rfl⟩ (by show _ ≤ 1; omega) (by show _ ≤ 1000; omega) hx hb hr hlk hP hK hD hS dJ4_init_da8c8_6
def ff_J5_isLatin1_aae02 (N : Nat) (o_this : os_T) : Option Int32 :=
  some (1 : Int32)
set_option maxHeartbeats 4000000 in
set_option maxRecDepth 100000 in
theorem mm_J5_isLatin1_aae02 (l : Launch) (hst : l.stackTraces = false) (zz : Nat → Nat → Nat) (D : va_G) (kA : Nat → ClassId) (N : Nat) (v_this : Nat) (a_this : Nat) (o_this : os_T) (out : Int32) (hf : ff_J5_isLatin1_aae02 N o_this = some out) : mg_C l zz D kA yJ5_isLatin1_aae02 wsJ5_isLatin1_aae02 ({ frames := 0, cells := 0, slots := 0, locals := 0 } : Room) [.ref a_this] (fl ([ce_K4 a_this v_this o_this] : List va_W)) (fun rv w1 => rv = some (.int out) ∧ w1 = (fl ([ce_K4 a_this v_this o_this] : List va_W))) := by
  refine mg_of (cc := cJ5_isLatin1_aae02) (maxL := 1) (ret := (some .boolean)) (by decide) rfl (Nat.le_of_ble_eq_true rfl) ?_
  intro p e s m below meth c A B hZ hD hP hS ls hl
  obtain ⟨hx, hb, hr, hlk, hml, hown, hts, hK, hA, hnm⟩ := B
  have hown : s.vm.findClass RJ5 = some m.cls := hown
  have hl : lv_has ls 1 [(0, .ref a_this)] := hl
  have hP : va_P D vwCl (fl ([ce_K4 a_this v_this o_this] : List va_W)) s.heap := hP
  have hUJ4 : ∀ w ∈ u_ws RJ4 TJ4 4, w.before [.ref a_this].toArray s = true := fun w h => hts w (List.mem_cons_of_mem _ (List.mem_append_right _ h))
  unfold ff_J5_isLatin1_aae02 at hf
  refine va_gets hx hb hZ.2.2.1.1 hS hown (hts (Cond.fieldLink RJ5 18 "java/lang/String" "COMPACT_STRINGS" "Z") (List.mem_of_getElem? (i := 1) rfl)) (fun _ h9 => h9) dJ5_isLatin1_aae02_0 ?_
  refine lv_if_eq (tgt := 17) hx hb dJ5_isLatin1_aae02_3 (by decide) (fun h9 => absurd h9 (by decide)) (fun _ => ?_)
  refine lv_aload_n hx hb dJ5_isLatin1_aae02_6 rfl (lv_at hl 0 rfl) ?_
  refine va_get (D := D) (ci := 1) (v := .int (0 : Int32)) (C := RJ4) (T := TJ4) (N := 4) hx hb hUJ4 (fun _ h9 => h9) hown hK hP (pl [ce_K4 a_this v_this o_this] 0 0) (sg_get rfl rfl) rfl 1 (by decide) (hts (Cond.fieldLink RJ5 22 "java/lang/AbstractStringBuilder" "coder" "B") (List.mem_of_getElem? (i := 2) rfl)) (fun _ h9 => h9) rfl dJ5_isLatin1_aae02_7 ?_
  refine lv_if_ne (tgt := 17) hx hb dJ5_isLatin1_aae02_10 (by decide) (fun h9 => absurd h9 (by decide)) (fun _ => ?_)
  refine lv_iconst (v := 1) hx hb dJ5_isLatin1_aae02_13 (by decide) ?_
  refine lv_goto (tgt := 18) hx hb dJ5_isLatin1_aae02_14 (by decide) ?_
  have hP : va_P D vwCl (fl ([ce_K4 a_this v_this o_this] : List va_W)) _ := hP
  have hD : va_D A (fl ([ce_K4 a_this v_this o_this] : List va_W)) := hD
  rw [← Option.some.inj hf]
  exact mg_retz ⟨rfl, rfl⟩ (by show _ ≤ 0; omega) (by show _ ≤ 0; omega) hx hb hr rfl hlk hP hK hD hS dJ5_isLatin1_aae02_18
def ff_J8_newLength_cabcc_b21 (N : Nat) (x0 : Int32) (x1 : Int32) : Option Int32 :=
  none
def ff_J8_newLength_cabcc (N : Nat) (a0 : Int32) (a1 : Int32) (a2 : Int32) : Option Int32 :=
  (if (a0 + (if a1 < a2 then a2 else a1)) ≤ (0 : Int32) then ff_J8_newLength_cabcc_b21 N a0 a1 else (if (2147483639 : Int32) < (a0 + (if a1 < a2 then a2 else a1)) then ff_J8_newLength_cabcc_b21 N a0 a1 else some (a0 + (if a1 < a2 then a2 else a1))))
set_option maxHeartbeats 4000000 in
set_option maxRecDepth 100000 in
theorem mm_J8_newLength_cabcc (l : Launch) (hst : l.stackTraces = false) (zz : Nat → Nat → Nat) (D : va_G) (kA : Nat → ClassId) (N : Nat) (a0 : Int32) (a1 : Int32) (a2 : Int32) (out : Int32) (hf : ff_J8_newLength_cabcc N a0 a1 a2 = some out) : mg_C l zz D kA yJ8_newLength_cabcc wsJ8_newLength_cabcc ({ frames := 1, cells := 0, slots := 0, locals := 21 } : Room) [.int a0, .int a1, .int a2] (fl ([] : List va_W)) (fun rv w1 => rv = some (.int out) ∧ w1 = (fl ([] : List va_W))) := by
  refine mg_of (cc := cJ8_newLength_cabcc) (maxL := 4) (ret := (some .int)) (by decide) rfl (Nat.le_of_ble_eq_true rfl) ?_
  intro p e s m below meth c A B hZ hD hP hS ls hl
  obtain ⟨hx, hb, hr, hlk, hml, hown, hts, hK, hA, hnm⟩ := B
  have hown : s.vm.findClass RJ8 = some m.cls := hown
  have hl : lv_has ls 4 [(0, .int a0), (1, .int a1), (2, .int a2)] := hl
  have hP : va_P D vwCl (fl ([] : List va_W)) s.heap := hP
  have hB21 : ∀ (x0 : Int32) (x1 : Int32) (H : Heap) (locs : List Loc) (ls : Array Slot), va_P D vwCl (fl ([] : List va_W)) H → va_D A (fl ([] : List va_W)) → va_S A s.heap H locs → lv_has ls 4 [(0, .int x0), (1, .int x1)] → ff_J8_newLength_cabcc_b21 N x0 x1 = some out → W p l e ({ frames := 1, cells := 0, slots := 0, locals := 21 } : Room) s m [.int a0, .int a1, .int a2].toArray below meth c H locs 0 0 (MQ below (mg_Q D kA A (fun rv w1 => rv = some (.int out) ∧ w1 = (fl ([] : List va_W)))) [.int a0, .int a1, .int a2].toArray s 0 0 A) (F0 m 21 ls []) := by
    intro x0 x1 H locs ls hP hD hS hl hf
    unfold ff_J8_newLength_cabcc_b21 at hf
    cases hf
  unfold ff_J8_newLength_cabcc at hf
  refine lv_iload_n hx hb dJ8_newLength_cabcc_0 rfl (lv_at hl 0 rfl) ?_
  refine lv_iload_n hx hb dJ8_newLength_cabcc_1 rfl (lv_at hl 1 rfl) ?_
  refine lv_iload_n hx hb dJ8_newLength_cabcc_2 rfl (lv_at hl 2 rfl) ?_
  refine va_mmax hx hb (hml.trans hl.1.symm) hown (hts (Cond.methodLink RJ8 194 Lib.Math.max.name) (List.mem_of_getElem? (i := 1) rfl)) (hts (Cond.static Lib.Math.max.name) (List.mem_of_getElem? (i := 2) rfl)) (hts (Cond.initialized "java/lang/Math") (List.mem_of_getElem? (i := 3) rfl)) (hts (Cond.code Lib.Math.max.name Lib.Math.max.code 2 (some .int)) (List.mem_of_getElem? (i := 4) rfl)) (Nat.le_of_ble_eq_true rfl) (Nat.le_of_ble_eq_true rfl) (Nat.le_of_ble_eq_true rfl) (Nat.le_of_ble_eq_true rfl) dJ8_newLength_cabcc_3 ?_
  refine lv_iadd hx hb dJ8_newLength_cabcc_6 ?_
  refine lv_istore_n (lv' := [(3, .int (a0 + (if a1 < a2 then a2 else a1))), (0, .int a0), (1, .int a1), (2, .int a2)]) hx hb dJ8_newLength_cabcc_7 rfl hl (by decide) rfl (fun ls hl => ?_)
  refine lv_iconst (v := 0) hx hb dJ8_newLength_cabcc_8 (by decide) ?_
  refine lv_iload_n hx hb dJ8_newLength_cabcc_9 rfl (lv_at hl 0 rfl) ?_
  refine lv_icmp_ge (tgt := 21) hx hb dJ8_newLength_cabcc_10 (by decide) (fun hc_1 => ?_) (fun hc_1 => ?_)
  · rw [if_pos (show (a0 + (if a1 < a2 then a2 else a1)) ≤ (0 : Int32) from hc_1)] at hf
    exact hB21 a0 a1 _ _ _ hP hD hS (lv_sub hl [1, 2] rfl) hf
  · rw [if_neg (show ¬ ((a0 + (if a1 < a2 then a2 else a1)) ≤ (0 : Int32)) from hc_1)] at hf
    refine lv_iload_n hx hb dJ8_newLength_cabcc_13 rfl (lv_at hl 0 rfl) ?_
    refine lv_ldc hx hb hown (hts (Cond.constant RJ8 200 (2147483639)) (List.mem_of_getElem? (i := 5) rfl)) dJ8_newLength_cabcc_14 ?_
    refine lv_icmp_gt (tgt := 21) hx hb dJ8_newLength_cabcc_16 (by decide) (fun hc_2 => ?_) (fun hc_2 => ?_)
    · rw [if_pos (show (2147483639 : Int32) < (a0 + (if a1 < a2 then a2 else a1)) from hc_2)] at hf
      exact hB21 a0 a1 _ _ _ hP hD hS (lv_sub hl [1, 2] rfl) hf
    · rw [if_neg (show ¬ ((2147483639 : Int32) < (a0 + (if a1 < a2 then a2 else a1))) from hc_2)] at hf
      refine lv_iload_n hx hb dJ8_newLength_cabcc_19 rfl (lv_at hl 0 rfl) ?_
      have hP : va_P D vwCl (fl ([] : List va_W)) _ := hP
      have hD : va_D A (fl ([] : List va_W)) := hD
      rw [← Option.some.inj hf]
      exact mg_reti ⟨rfl, rfl⟩ (by show _ ≤ 0; omega) (by show _ ≤ 0; omega) hx hb hr hlk hP hK hD hS dJ8_newLength_cabcc_20
def ff_J5_newCapacity_0f7a4 (N : Nat) (o_this : os_T) (o_this_value : os_T) (a1 : Int32) : Option Int32 :=
  ((ff_J8_newLength_cabcc N (Int32.ofNat (ci_n o_this_value)) ((a1 <<< ((0 : Int32) &&& 31)) - (Int32.ofNat (ci_n o_this_value))) ((Int32.ofNat (ci_n o_this_value)) + ((2 : Int32) <<< ((0 : Int32) &&& 31)))).bind fun u_1 => (if u_1 = (2147483647 : Int32) then none else some (u_1 >>> ((0 : Int32) &&& 31))))
set_option maxHeartbeats 4000000 in
set_option maxRecDepth 100000 in
theorem mm_J5_newCapacity_0f7a4 (l : Launch) (hst : l.stackTraces = false) (zz : Nat → Nat → Nat) (D : va_G) (kA : Nat → ClassId) (N : Nat) (a_this : Nat) (a_this_value : Nat) (o_this : os_T) (o_this_value : os_T) (a1 : Int32) (out : Int32) (hf : ff_J5_newCapacity_0f7a4 N o_this o_this_value a1 = some out) : mg_C l zz D kA yJ5_newCapacity_0f7a4 wsJ5_newCapacity_0f7a4 ({ frames := 2, cells := 0, slots := 0, locals := 44 } : Room) [.ref a_this, .int a1] (fl ([ce_K4 a_this a_this_value o_this, ce_BA kA a_this_value o_this_value] : List va_W)) (fun rv w1 => rv = some (.int out) ∧ w1 = (fl ([ce_K4 a_this a_this_value o_this, ce_BA kA a_this_value o_this_value] : List va_W))) := by
  refine mg_of (cc := cJ5_newCapacity_0f7a4) (maxL := 6) (ret := (some .int)) (by decide) rfl (Nat.le_of_ble_eq_true rfl) ?_
  intro p e s m below meth c A B hZ hD hP hS ls hl
  obtain ⟨hx, hb, hr, hlk, hml, hown, hts, hK, hA, hnm⟩ := B
  have hown : s.vm.findClass RJ5 = some m.cls := hown
  have hl : lv_has ls 6 [(0, .ref a_this), (1, .int a1)] := hl
  have hP : va_P D vwCl (fl ([ce_K4 a_this a_this_value o_this, ce_BA kA a_this_value o_this_value] : List va_W)) s.heap := hP
  have hUJ4 : ∀ w ∈ u_ws RJ4 TJ4 4, w.before [.ref a_this, .int a1].toArray s = true := fun w h => hts w (List.mem_cons_of_mem _ (List.mem_append_right _ h))
  unfold ff_J5_newCapacity_0f7a4 at hf
  refine lv_aload_n hx hb dJ5_newCapacity_0f7a4_0 rfl (lv_at hl 0 rfl) ?_
  refine va_get (D := D) (ci := 1) (v := .ref a_this_value) (C := RJ4) (T := TJ4) (N := 4) hx hb hUJ4 (fun _ h9 => h9) hown hK hP (pl [ce_K4 a_this a_this_value o_this, ce_BA kA a_this_value o_this_value] 0 0) (sg_get rfl rfl) rfl 0 (by decide) (hts (Cond.fieldLink RJ5 15 "java/lang/AbstractStringBuilder" "value" "[B") (List.mem_of_getElem? (i := 1) rfl)) (fun _ h9 => h9) rfl dJ5_newCapacity_0f7a4_1 ?_
  refine va_alen (v := Int32.ofNat (ci_n o_this_value)) hx hb hK hP (pl [ce_K4 a_this a_this_value o_this, ce_BA kA a_this_value o_this_value] 1 0) 2 (sg_get rfl rfl) rfl rfl dJ5_newCapacity_0f7a4_4 ?_
  refine lv_istore_n (lv' := [(2, .int (Int32.ofNat (ci_n o_this_value))), (0, .ref a_this), (1, .int a1)]) hx hb dJ5_newCapacity_0f7a4_5 rfl hl (by decide) rfl (fun ls hl => ?_)
  refine lv_iload_n hx hb dJ5_newCapacity_0f7a4_6 rfl (lv_at hl 2 rfl) ?_
  refine lv_aload_n hx hb dJ5_newCapacity_0f7a4_7 rfl (lv_at hl 1 rfl) ?_
  refine va_get (D := D) (ci := 1) (v := .int (0 : Int32)) (C := RJ4) (T := TJ4) (N := 4) hx hb hUJ4 (fun _ h9 => h9) hown hK hP (pl [ce_K4 a_this a_this_value o_this, ce_BA kA a_this_value o_this_value] 0 0) (sg_get rfl rfl) rfl 1 (by decide) (hts (Cond.fieldLink RJ5 22 "java/lang/AbstractStringBuilder" "coder" "B") (List.mem_of_getElem? (i := 2) rfl)) (fun _ h9 => h9) rfl dJ5_newCapacity_0f7a4_8 ?_
  refine lv_ishl hx hb dJ5_newCapacity_0f7a4_11 ?_
  refine lv_istore_n (lv' := [(3, .int (a1 <<< ((0 : Int32) &&& 31))), (2, .int (Int32.ofNat (ci_n o_this_value))), (0, .ref a_this), (1, .int a1)]) hx hb dJ5_newCapacity_0f7a4_12 rfl hl (by decide) rfl (fun ls hl => ?_)
  refine lv_iload_n hx hb dJ5_newCapacity_0f7a4_13 rfl (lv_at hl 0 rfl) ?_
  refine lv_iload_n hx hb dJ5_newCapacity_0f7a4_14 rfl (lv_at hl 1 rfl) ?_
  refine lv_isub hx hb dJ5_newCapacity_0f7a4_15 ?_
  refine lv_istore (lv' := [(4, .int ((a1 <<< ((0 : Int32) &&& 31)) - (Int32.ofNat (ci_n o_this_value)))), (3, .int (a1 <<< ((0 : Int32) &&& 31))), (2, .int (Int32.ofNat (ci_n o_this_value))), (0, .ref a_this), (1, .int a1)]) hx hb dJ5_newCapacity_0f7a4_16 hl (by decide) rfl (fun ls hl => ?_)
  refine lv_iload_n hx hb dJ5_newCapacity_0f7a4_18 rfl (lv_at hl 2 rfl) ?_
  refine lv_iload hx hb dJ5_newCapacity_0f7a4_19 (lv_at hl 0 rfl) ?_
  refine lv_iload_n hx hb dJ5_newCapacity_0f7a4_21 rfl (lv_at hl 2 rfl) ?_
  refine lv_iconst (v := 2) hx hb dJ5_newCapacity_0f7a4_22 (by decide) ?_
  refine lv_aload_n hx hb dJ5_newCapacity_0f7a4_23 rfl (lv_at hl 3 rfl) ?_
  refine va_get (D := D) (ci := 1) (v := .int (0 : Int32)) (C := RJ4) (T := TJ4) (N := 4) hx hb hUJ4 (fun _ h9 => h9) hown hK hP (pl [ce_K4 a_this a_this_value o_this, ce_BA kA a_this_value o_this_value] 0 0) (sg_get rfl rfl) rfl 1 (by decide) (hts (Cond.fieldLink RJ5 22 "java/lang/AbstractStringBuilder" "coder" "B") (List.mem_of_getElem? (i := 2) rfl)) (fun _ h9 => h9) rfl dJ5_newCapacity_0f7a4_24 ?_
  refine lv_ishl hx hb dJ5_newCapacity_0f7a4_27 ?_
  refine lv_iadd hx hb dJ5_newCapacity_0f7a4_28 ?_
  obtain ⟨u_1, he_2, hf⟩ := os_bd hf
  refine mg_callS (wcs := []) (wrs := [ce_K4 a_this a_this_value o_this, ce_BA kA a_this_value o_this_value]) (ss := [ce_K4 a_this a_this_value o_this, ce_BA kA a_this_value o_this_value]) ⟨hx, hb, hml, hown, hts⟩ (mm_J8_newLength_cabcc l hst zz D kA N (Int32.ofNat (ci_n o_this_value)) ((a1 <<< ((0 : Int32) &&& 31)) - (Int32.ofNat (ci_n o_this_value))) ((Int32.ofNat (ci_n o_this_value)) + ((2 : Int32) <<< ((0 : Int32) &&& 31))) u_1 he_2) (va_cwS 3 hts gJ5_newCapacity_0f7a4_J8_newLength_cabcc rfl rfl rfl (by decide +kernel) ⟨Nat.le_of_ble_eq_true rfl, Nat.le_of_ble_eq_true rfl⟩) rfl hl.1 (As := [.int (Int32.ofNat (ci_n o_this_value)), .int ((a1 <<< ((0 : Int32) &&& 31)) - (Int32.ofNat (ci_n o_this_value))), .int ((Int32.ofNat (ci_n o_this_value)) + ((2 : Int32) <<< ((0 : Int32) &&& 31)))]) (rest := []) rfl (Nat.le_of_ble_eq_true rfl) dJ5_newCapacity_0f7a4_29 ⟨(by show 0 + 0 ≤ 0; omega), (by show 0 + 0 ≤ 0; omega)⟩ hK hP hD hS hA hZ (pm_seg [ce_K4 a_this a_this_value o_this, ce_BA kA a_this_value o_this_value] ([] ++ [ce_K4 a_this a_this_value o_this, ce_BA kA a_this_value o_this_value]) [0, 1] 2 rfl (by decide) rfl (by decide)) (fun rv w1 H locs hq hP hD hS => ?_)
  obtain ⟨rfl, rfl⟩ := hq
  refine W.widen (k := 0) (n := 0) (by show _ + 0 ≤ _; omega) (by show _ + 0 ≤ _; omega) ?_
  have hP : va_P D vwCl (fl ([ce_K4 a_this a_this_value o_this, ce_BA kA a_this_value o_this_value] : List va_W)) _ := (show va_P D vwCl (fl ([] ++ [ce_K4 a_this a_this_value o_this, ce_BA kA a_this_value o_this_value] : List va_W)) _ from (by rw [fl_app]; exact hP))
  have hD : va_D A (fl ([ce_K4 a_this a_this_value o_this, ce_BA kA a_this_value o_this_value] : List va_W)) := (show va_D A (fl ([] ++ [ce_K4 a_this a_this_value o_this, ce_BA kA a_this_value o_this_value] : List va_W)) from (by rw [fl_app]; exact hD))
  refine W.eq (g2 := F0 m 32 ls [.int u_1]) rfl ?_
  refine lv_istore (lv' := [(5, .int u_1), (4, .int ((a1 <<< ((0 : Int32) &&& 31)) - (Int32.ofNat (ci_n o_this_value)))), (3, .int (a1 <<< ((0 : Int32) &&& 31))), (2, .int (Int32.ofNat (ci_n o_this_value))), (0, .ref a_this), (1, .int a1)]) hx hb dJ5_newCapacity_0f7a4_32 hl (by decide) rfl (fun ls hl => ?_)
  refine lv_iload hx hb dJ5_newCapacity_0f7a4_34 (lv_at hl 0 rfl) ?_
  refine lv_ldc hx hb hown (hts (Cond.constant RJ5 39 (2147483647)) (List.mem_of_getElem? (i := 3) rfl)) dJ5_newCapacity_0f7a4_36 ?_
  refine lv_icmp_ne (tgt := 51) hx hb dJ5_newCapacity_0f7a4_38 (by decide) (fun hc_3 => ?_) (fun hc_3 => ?_)
  · rw [if_neg (show ¬ (u_1 = (2147483647 : Int32)) from hc_3)] at hf
    refine lv_iload hx hb dJ5_newCapacity_0f7a4_51 (lv_at hl 0 rfl) ?_
    refine lv_aload_n hx hb dJ5_newCapacity_0f7a4_53 rfl (lv_at hl 4 rfl) ?_
    refine va_get (D := D) (ci := 1) (v := .int (0 : Int32)) (C := RJ4) (T := TJ4) (N := 4) hx hb hUJ4 (fun _ h9 => h9) hown hK hP (pl [ce_K4 a_this a_this_value o_this, ce_BA kA a_this_value o_this_value] 0 0) (sg_get rfl rfl) rfl 1 (by decide) (hts (Cond.fieldLink RJ5 22 "java/lang/AbstractStringBuilder" "coder" "B") (List.mem_of_getElem? (i := 2) rfl)) (fun _ h9 => h9) rfl dJ5_newCapacity_0f7a4_54 ?_
    refine lv_ishr hx hb dJ5_newCapacity_0f7a4_57 ?_
    have hP : va_P D vwCl (fl ([ce_K4 a_this a_this_value o_this, ce_BA kA a_this_value o_this_value] : List va_W)) _ := hP
    have hD : va_D A (fl ([ce_K4 a_this a_this_value o_this, ce_BA kA a_this_value o_this_value] : List va_W)) := hD
    rw [← Option.some.inj hf]
    exact mg_reti ⟨rfl, rfl⟩ (by show _ ≤ 0; omega) (by show _ ≤ 0; omega) hx hb hr hlk hP hK hD hS dJ5_newCapacity_0f7a4_58
  · rw [if_pos (show u_1 = (2147483647 : Int32) from hc_3)] at hf
    cases hf
def ff_J7_copyOf_9075b (N : Nat) (o_p0 : os_T) (a1 : Int32) : Option os_T :=
  (if a1 = (Int32.ofNat (ci_n o_p0)) then none else (if ¬ a1 < 0 ∧ Int32.toNatClampNeg a1 ≤ 1000 then (if ((¬ (0 : Int32) < 0 ∧ ¬ (0 : Int32) < 0) ∧ ¬ (if a1 < (Int32.ofNat (ci_n o_p0)) then a1 else (Int32.ofNat (ci_n o_p0))) < 0) ∧ (Int32.toNatClampNeg (0 : Int32) + Int32.toNatClampNeg (if a1 < (Int32.ofNat (ci_n o_p0)) then a1 else (Int32.ofNat (ci_n o_p0))) ≤ ci_n o_p0 ∧ Int32.toNatClampNeg (0 : Int32) + Int32.toNatClampNeg (if a1 < (Int32.ofNat (ci_n o_p0)) then a1 else (Int32.ofNat (ci_n o_p0))) ≤ ci_n (ss_I os_zero 0 a1)) ∧ ∀ i, i < Int32.toNatClampNeg (if a1 < (Int32.ofNat (ci_n o_p0)) then a1 else (Int32.ofNat (ci_n o_p0))) → fits .byte (.int ((os_A o_p0 0) (Int32.toNatClampNeg (0 : Int32) + i))) = true then some (ss_A (ss_I os_zero 0 a1) 0 (va_cpy (os_A o_p0 0) (os_A (ss_I os_zero 0 a1) 0) (Int32.toNatClampNeg (0 : Int32)) (Int32.toNatClampNeg (0 : Int32)) (Int32.toNatClampNeg (if a1 < (Int32.ofNat (ci_n o_p0)) then a1 else (Int32.ofNat (ci_n o_p0)))))) else none) else none))
set_option maxHeartbeats 4000000 in
set_option maxRecDepth 100000 in
theorem mm_J7_copyOf_9075b (l : Launch) (hst : l.stackTraces = false) (zz : Nat → Nat → Nat) (D : va_G) (kA : Nat → ClassId) (N : Nat) (a_p0 : Nat) (o_p0 : os_T) (a1 : Int32) (out : os_T) (hf : ff_J7_copyOf_9075b N o_p0 a1 = some out) : mg_C l zz D kA yJ7_copyOf_9075b wsJ7_copyOf_9075b ({ frames := 1, cells := 1, slots := 1000, locals := 60 } : Room) [.ref a_p0, .int a1] (fl ([ce_BA kA a_p0 o_p0] : List va_W)) (fun rv w1 => ∃ e_ret : Nat, rv = some (.ref e_ret) ∧ w1 = (fl ([ce_BA kA a_p0 o_p0, ce_BA kA e_ret out] : List va_W))) := by
  refine mg_of (cc := cJ7_copyOf_9075b) (maxL := 3) (ret := (some (.array .byte))) (by decide) rfl (Nat.le_of_ble_eq_true rfl) ?_
  intro p e s m below meth c A B hZ hD hP hS ls hl
  obtain ⟨hx, hb, hr, hlk, hml, hown, hts, hK, hA, hnm⟩ := B
  have hown : s.vm.findClass RJ7 = some m.cls := hown
  have hl : lv_has ls 3 [(0, .ref a_p0), (1, .int a1)] := hl
  have hP : va_P D vwCl (fl ([ce_BA kA a_p0 o_p0] : List va_W)) s.heap := hP
  unfold ff_J7_copyOf_9075b at hf
  refine lv_iload_n hx hb dJ7_copyOf_9075b_0 rfl (lv_at hl 1 rfl) ?_
  refine lv_aload_n hx hb dJ7_copyOf_9075b_1 rfl (lv_at hl 0 rfl) ?_
  refine va_alen (v := Int32.ofNat (ci_n o_p0)) hx hb hK hP (pl [ce_BA kA a_p0 o_p0] 0 0) 2 (sg_get rfl rfl) rfl rfl dJ7_copyOf_9075b_2 ?_
  refine lv_icmp_ne (tgt := 14) hx hb dJ7_copyOf_9075b_3 (by decide) (fun hc_1 => ?_) (fun hc_1 => ?_)
  · rw [if_neg (show ¬ (a1 = (Int32.ofNat (ci_n o_p0))) from hc_1)] at hf
    refine lv_iload_n hx hb dJ7_copyOf_9075b_14 rfl (lv_at hl 1 rfl) ?_
    obtain ⟨hn_3, hf⟩ := os_if hf
    refine mi_newa (atype := .byte) (ty := .byte) (a0 := (Int32.toNatClampNeg a1, .inl (fun _ => 0))) 2 hx hb (hts (Cond.arrayClass .byte) (List.mem_of_getElem? (i := 7) rfl)) rfl rfl (fun c0 h9 => ⟨_, rfl, va_nm_byte h9⟩) hK hP hD hS hA (fun _ => rfl) hn_3.1 rfl (by have := hn_3.2; show _ * 1 ≤ _; omega) (by show 0 + 1 ≤ 1; omega) (by have := hn_3.2; show 0 + _ ≤ 1000; omega) dJ7_copyOf_9075b_15 (fun q_2 H hP hD hS => ?_)
    refine W.widen (k := 1) (n := 1000) (by omega) (by have := hn_3.2; omega) ?_
    have hP : va_P D vwCl (fl ([ce_BA kA a_p0 o_p0, ce_BA kA q_2 (ss_I os_zero 0 a1)] : List va_W)) _ := sg_Pn hP
    have hD : va_D A (fl ([ce_BA kA a_p0 o_p0, ce_BA kA q_2 (ss_I os_zero 0 a1)] : List va_W)) := sg_Dn hD
    refine lv_astore_n (lv' := [(2, .ref q_2), (0, .ref a_p0), (1, .int a1)]) hx hb dJ7_copyOf_9075b_17 rfl hl (by decide) rfl (fun ls hl => ?_)
    refine lv_aload_n hx hb dJ7_copyOf_9075b_18 rfl (lv_at hl 1 rfl) ?_
    refine lv_iconst (v := 0) hx hb dJ7_copyOf_9075b_19 (by decide) ?_
    refine lv_aload_n hx hb dJ7_copyOf_9075b_20 rfl (lv_at hl 0 rfl) ?_
    refine lv_iconst (v := 0) hx hb dJ7_copyOf_9075b_21 (by decide) ?_
    refine lv_aload_n hx hb dJ7_copyOf_9075b_22 rfl (lv_at hl 1 rfl) ?_
    refine va_alen (v := Int32.ofNat (ci_n o_p0)) hx hb hK hP (pl [ce_BA kA a_p0 o_p0, ce_BA kA q_2 (ss_I os_zero 0 a1)] 0 0) 2 (sg_get rfl rfl) rfl rfl dJ7_copyOf_9075b_23 ?_
    refine lv_iload_n hx hb dJ7_copyOf_9075b_24 rfl (lv_at hl 2 rfl) ?_
    refine va_mmin hx hb (hml.trans hl.1.symm) hown (hts (Cond.methodLink RJ7 304 Lib.Math.min.name) (List.mem_of_getElem? (i := 8) rfl)) (hts (Cond.static Lib.Math.min.name) (List.mem_of_getElem? (i := 9) rfl)) (hts (Cond.initialized "java/lang/Math") (List.mem_of_getElem? (i := 10) rfl)) (hts (Cond.code Lib.Math.min.name Lib.Math.min.code 2 (some .int)) (List.mem_of_getElem? (i := 11) rfl)) (Nat.le_of_ble_eq_true rfl) (Nat.le_of_ble_eq_true rfl) (Nat.le_of_ble_eq_true rfl) (Nat.le_of_ble_eq_true rfl) dJ7_copyOf_9075b_25 ?_
    obtain ⟨hc_4, hf⟩ := os_if hf
    refine va_copyi hx hb (hml.trans hl.1.symm) hown (hts (Cond.methodLink RJ7 150 arraycopyName) (List.mem_of_getElem? (i := 12) rfl)) (hts (Cond.native arraycopyName) (List.mem_of_getElem? (i := 13) rfl)) (hts (Cond.static arraycopyName) (List.mem_of_getElem? (i := 14) rfl)) (hts (Cond.initialized "java/lang/System") (List.mem_of_getElem? (i := 15) rfl)) hK hP hD hS (pl [ce_BA kA a_p0 o_p0, ce_BA kA q_2 (ss_I os_zero 0 a1)] 0 0) (pl [ce_BA kA a_p0 o_p0, ce_BA kA q_2 (ss_I os_zero 0 a1)] 1 0) 2 2 (ty := .byte) (sg_get rfl rfl) (sg_get rfl rfl) rfl rfl rfl hc_4.1.1.1 hc_4.1.1.2 hc_4.1.2 hc_4.2.1.1 hc_4.2.1.2 hc_4.2.2 (Nat.le_of_ble_eq_true rfl) (Nat.le_of_ble_eq_true rfl) dJ7_copyOf_9075b_28 (fun H locs hP hD hS => ?_)
    have hP : va_P D vwCl (fl ([ce_BA kA a_p0 o_p0, ce_BA kA q_2 (ss_A (ss_I os_zero 0 a1) 0 (va_cpy (os_A o_p0 0) (os_A (ss_I os_zero 0 a1) 0) (Int32.toNatClampNeg (0 : Int32)) (Int32.toNatClampNeg (0 : Int32)) (Int32.toNatClampNeg (if a1 < (Int32.ofNat (ci_n o_p0)) then a1 else (Int32.ofNat (ci_n o_p0))))))] : List va_W)) _ := sg_P rfl (Nat.le_of_ble_eq_true rfl) rfl hP
    have hD : va_D A (fl ([ce_BA kA a_p0 o_p0, ce_BA kA q_2 (ss_A (ss_I os_zero 0 a1) 0 (va_cpy (os_A o_p0 0) (os_A (ss_I os_zero 0 a1) 0) (Int32.toNatClampNeg (0 : Int32)) (Int32.toNatClampNeg (0 : Int32)) (Int32.toNatClampNeg (if a1 < (Int32.ofNat (ci_n o_p0)) then a1 else (Int32.ofNat (ci_n o_p0))))))] : List va_W)) := sg_D rfl (Nat.le_of_ble_eq_true rfl) rfl hD
    refine lv_aload_n hx hb dJ7_copyOf_9075b_31 rfl (lv_at hl 0 rfl) ?_
    have hP : va_P D vwCl (fl ([ce_BA kA a_p0 o_p0, ce_BA kA q_2 (ss_A (ss_I os_zero 0 a1) 0 (va_cpy (os_A o_p0 0) (os_A (ss_I os_zero 0 a1) 0) (Int32.toNatClampNeg (0 : Int32)) (Int32.toNatClampNeg (0 : Int32)) (Int32.toNatClampNeg (if a1 < (Int32.ofNat (ci_n o_p0)) then a1 else (Int32.ofNat (ci_n o_p0))))))] : List va_W)) _ := hP
    have hD : va_D A (fl ([ce_BA kA a_p0 o_p0, ce_BA kA q_2 (ss_A (ss_I os_zero 0 a1) 0 (va_cpy (os_A o_p0 0) (os_A (ss_I os_zero 0 a1) 0) (Int32.toNatClampNeg (0 : Int32)) (Int32.toNatClampNeg (0 : Int32)) (Int32.toNatClampNeg (if a1 < (Int32.ofNat (ci_n o_p0)) then a1 else (Int32.ofNat (ci_n o_p0))))))] : List va_W)) := hD
    rw [← Option.some.inj hf]
    exact mg_reta ⟨q_2, rfl, rfl⟩ (by show _ ≤ 1; omega) (by show _ ≤ 1000; omega) hx hb hr (by first | exact Or.inl ⟨_, rfl⟩ | exact Or.inr ⟨_, rfl⟩) hlk hP hK hD hS dJ7_copyOf_9075b_32
  · rw [if_pos (show a1 = (Int32.ofNat (ci_n o_p0)) from hc_1)] at hf
    cases hf
def ff_J5_ensureCapacityInternal_d00df (N : Nat) (o_this : os_T) (o_this_value : os_T) (a1 : Int32) : Option (os_T × os_T) :=
  (if (a1 - ((Int32.ofNat (ci_n o_this_value)) >>> ((0 : Int32) &&& 31))) ≤ 0 then some (o_this, o_this_value) else ((ff_J5_newCapacity_0f7a4 N o_this o_this_value a1).bind fun u_2 => ((ff_J7_copyOf_9075b N o_this_value (u_2 <<< ((0 : Int32) &&& 31))).bind fun u_4 => some (o_this, u_4))))
set_option maxHeartbeats 4000000 in
set_option maxRecDepth 100000 in
theorem mm_J5_ensureCapacityInternal_d00df (l : Launch) (hst : l.stackTraces = false) (zz : Nat → Nat → Nat) (D : va_G) (kA : Nat → ClassId) (N : Nat) (a_this : Nat) (a_this_value : Nat) (o_this : os_T) (o_this_value : os_T) (a1 : Int32) (out : os_T × os_T) (hf : ff_J5_ensureCapacityInternal_d00df N o_this o_this_value a1 = some out) : mg_C l zz D kA yJ5_ensureCapacityInternal_d00df wsJ5_ensureCapacityInternal_d00df ({ frames := 3, cells := 1, slots := 1000, locals := 82 } : Room) [.ref a_this, .int a1] (fl ([ce_K4 a_this a_this_value o_this, ce_BA kA a_this_value o_this_value] : List va_W)) (fun rv w1 => ∃ e_this_value : Nat, rv = none ∧ w1 = (fl ([ce_K4 a_this e_this_value out.1, ce_BA kA e_this_value out.2] : List va_W))) := by
  refine mg_of (cc := cJ5_ensureCapacityInternal_d00df) (maxL := 3) (ret := none) (by decide) rfl (Nat.le_of_ble_eq_true rfl) ?_
  intro p e s m below meth c A B hZ hD hP hS ls hl
  obtain ⟨hx, hb, hr, hlk, hml, hown, hts, hK, hA, hnm⟩ := B
  have hown : s.vm.findClass RJ5 = some m.cls := hown
  have hl : lv_has ls 3 [(0, .ref a_this), (1, .int a1)] := hl
  have hP : va_P D vwCl (fl ([ce_K4 a_this a_this_value o_this, ce_BA kA a_this_value o_this_value] : List va_W)) s.heap := hP
  have hUJ4 : ∀ w ∈ u_ws RJ4 TJ4 4, w.before [.ref a_this, .int a1].toArray s = true := fun w h => hts w (List.mem_cons_of_mem _ (List.mem_append_right _ h))
  unfold ff_J5_ensureCapacityInternal_d00df at hf
  refine lv_aload_n hx hb dJ5_ensureCapacityInternal_d00df_0 rfl (lv_at hl 0 rfl) ?_
  refine va_get (D := D) (ci := 1) (v := .ref a_this_value) (C := RJ4) (T := TJ4) (N := 4) hx hb hUJ4 (fun _ h9 => h9) hown hK hP (pl [ce_K4 a_this a_this_value o_this, ce_BA kA a_this_value o_this_value] 0 0) (sg_get rfl rfl) rfl 0 (by decide) (hts (Cond.fieldLink RJ5 15 "java/lang/AbstractStringBuilder" "value" "[B") (List.mem_of_getElem? (i := 1) rfl)) (fun _ h9 => h9) rfl dJ5_ensureCapacityInternal_d00df_1 ?_
  refine va_alen (v := Int32.ofNat (ci_n o_this_value)) hx hb hK hP (pl [ce_K4 a_this a_this_value o_this, ce_BA kA a_this_value o_this_value] 1 0) 2 (sg_get rfl rfl) rfl rfl dJ5_ensureCapacityInternal_d00df_4 ?_
  refine lv_aload_n hx hb dJ5_ensureCapacityInternal_d00df_5 rfl (lv_at hl 0 rfl) ?_
  refine va_get (D := D) (ci := 1) (v := .int (0 : Int32)) (C := RJ4) (T := TJ4) (N := 4) hx hb hUJ4 (fun _ h9 => h9) hown hK hP (pl [ce_K4 a_this a_this_value o_this, ce_BA kA a_this_value o_this_value] 0 0) (sg_get rfl rfl) rfl 1 (by decide) (hts (Cond.fieldLink RJ5 22 "java/lang/AbstractStringBuilder" "coder" "B") (List.mem_of_getElem? (i := 2) rfl)) (fun _ h9 => h9) rfl dJ5_ensureCapacityInternal_d00df_6 ?_
  refine lv_ishr hx hb dJ5_ensureCapacityInternal_d00df_9 ?_
  refine lv_istore_n (lv' := [(2, .int ((Int32.ofNat (ci_n o_this_value)) >>> ((0 : Int32) &&& 31))), (0, .ref a_this), (1, .int a1)]) hx hb dJ5_ensureCapacityInternal_d00df_10 rfl hl (by decide) rfl (fun ls hl => ?_)
  refine lv_iload_n hx hb dJ5_ensureCapacityInternal_d00df_11 rfl (lv_at hl 2 rfl) ?_
  refine lv_iload_n hx hb dJ5_ensureCapacityInternal_d00df_12 rfl (lv_at hl 0 rfl) ?_
  refine lv_isub hx hb dJ5_ensureCapacityInternal_d00df_13 ?_
  refine lv_if_le (tgt := 38) hx hb dJ5_ensureCapacityInternal_d00df_14 (by decide) (fun hc_1 => ?_) (fun hc_1 => ?_)
  · rw [if_pos (show (a1 - ((Int32.ofNat (ci_n o_this_value)) >>> ((0 : Int32) &&& 31))) ≤ 0 from hc_1)] at hf
    have hP : va_P D vwCl (fl ([ce_K4 a_this a_this_value o_this, ce_BA kA a_this_value o_this_value] : List va_W)) _ := hP
    have hD : va_D A (fl ([ce_K4 a_this a_this_value o_this, ce_BA kA a_this_value o_this_value] : List va_W)) := hD
    rw [← Option.some.inj hf]
    exact mg_retv ⟨a_this_value, rfl, rfl⟩ (by show _ ≤ 1; omega) (by show _ ≤ 1000; omega) hx hb hr hlk hP hK hD hS dJ5_ensureCapacityInternal_d00df_38
  · rw [if_neg (show ¬ ((a1 - ((Int32.ofNat (ci_n o_this_value)) >>> ((0 : Int32) &&& 31))) ≤ 0) from hc_1)] at hf
    refine lv_aload_n hx hb dJ5_ensureCapacityInternal_d00df_17 rfl (lv_at hl 1 rfl) ?_
    refine lv_aload_n hx hb dJ5_ensureCapacityInternal_d00df_18 rfl (lv_at hl 1 rfl) ?_
    refine va_get (D := D) (ci := 1) (v := .ref a_this_value) (C := RJ4) (T := TJ4) (N := 4) hx hb hUJ4 (fun _ h9 => h9) hown hK hP (pl [ce_K4 a_this a_this_value o_this, ce_BA kA a_this_value o_this_value] 0 0) (sg_get rfl rfl) rfl 0 (by decide) (hts (Cond.fieldLink RJ5 15 "java/lang/AbstractStringBuilder" "value" "[B") (List.mem_of_getElem? (i := 1) rfl)) (fun _ h9 => h9) rfl dJ5_ensureCapacityInternal_d00df_19 ?_
    refine lv_aload_n hx hb dJ5_ensureCapacityInternal_d00df_22 rfl (lv_at hl 1 rfl) ?_
    refine lv_iload_n hx hb dJ5_ensureCapacityInternal_d00df_23 rfl (lv_at hl 2 rfl) ?_
    obtain ⟨u_2, he_3, hf⟩ := os_bd hf
    refine mg_callU (wcs := [ce_K4 a_this a_this_value o_this, ce_BA kA a_this_value o_this_value]) (wrs := []) (ss := [ce_K4 a_this a_this_value o_this, ce_BA kA a_this_value o_this_value]) ⟨hx, hb, hml, hown, hts⟩ (mm_J5_newCapacity_0f7a4 l hst zz D kA N a_this a_this_value o_this o_this_value a1 u_2 he_3) (va_cwU 1 hts gJ5_ensureCapacityInternal_d00df_J5_newCapacity_0f7a4_u104J4 rfl rfl rfl rfl (by decide +kernel) ⟨Nat.le_of_ble_eq_true rfl, Nat.le_of_ble_eq_true rfl⟩) (va_recv hK hP (q0 := pl [ce_K4 a_this a_this_value o_this, ce_BA kA a_this_value o_this_value] 0 0) rfl (sg_get rfl rfl)) rfl hl.1 (As := [.int a1]) (rest := [.ref a_this_value, .ref a_this]) rfl (Nat.le_of_ble_eq_true rfl) dJ5_ensureCapacityInternal_d00df_24 ⟨(by show 0 + 0 ≤ 1; omega), (by show 0 + 0 ≤ 1000; omega)⟩ hK hP hD hS hA hZ (pm_seg [ce_K4 a_this a_this_value o_this, ce_BA kA a_this_value o_this_value] ([ce_K4 a_this a_this_value o_this, ce_BA kA a_this_value o_this_value] ++ []) [0, 1] 2 rfl (by decide) rfl (by decide)) (fun rv w1 H locs hq hP hD hS => ?_)
    obtain ⟨rfl, rfl⟩ := hq
    refine W.widen (k := 0) (n := 0) (by show _ + 0 ≤ _; omega) (by show _ + 0 ≤ _; omega) ?_
    have hP : va_P D vwCl (fl ([ce_K4 a_this a_this_value o_this, ce_BA kA a_this_value o_this_value] : List va_W)) _ := (show va_P D vwCl (fl ([ce_K4 a_this a_this_value o_this, ce_BA kA a_this_value o_this_value] ++ [] : List va_W)) _ from (by rw [fl_app]; exact hP))
    have hD : va_D A (fl ([ce_K4 a_this a_this_value o_this, ce_BA kA a_this_value o_this_value] : List va_W)) := (show va_D A (fl ([ce_K4 a_this a_this_value o_this, ce_BA kA a_this_value o_this_value] ++ [] : List va_W)) from (by rw [fl_app]; exact hD))
    refine W.eq (g2 := F0 m 27 ls [.int u_2, .ref a_this_value, .ref a_this]) rfl ?_
    refine lv_aload_n hx hb dJ5_ensureCapacityInternal_d00df_27 rfl (lv_at hl 1 rfl) ?_
    refine va_get (D := D) (ci := 1) (v := .int (0 : Int32)) (C := RJ4) (T := TJ4) (N := 4) hx hb hUJ4 (fun _ h9 => h9) hown hK hP (pl [ce_K4 a_this a_this_value o_this, ce_BA kA a_this_value o_this_value] 0 0) (sg_get rfl rfl) rfl 1 (by decide) (hts (Cond.fieldLink RJ5 22 "java/lang/AbstractStringBuilder" "coder" "B") (List.mem_of_getElem? (i := 2) rfl)) (fun _ h9 => h9) rfl dJ5_ensureCapacityInternal_d00df_28 ?_
    refine lv_ishl hx hb dJ5_ensureCapacityInternal_d00df_31 ?_
    obtain ⟨u_4, he_5, hf⟩ := os_bd hf
    refine mg_callS (wcs := [ce_BA kA a_this_value o_this_value]) (wrs := [ce_K4 a_this a_this_value o_this]) (ss := [ce_K4 a_this a_this_value o_this, ce_BA kA a_this_value o_this_value]) ⟨hx, hb, hml, hown, hts⟩ (mm_J7_copyOf_9075b l hst zz D kA N a_this_value o_this_value (u_2 <<< ((0 : Int32) &&& 31)) u_4 he_5) (va_cwS 2 hts gJ5_ensureCapacityInternal_d00df_J7_copyOf_9075b rfl rfl rfl (by decide +kernel) ⟨Nat.le_of_ble_eq_true rfl, Nat.le_of_ble_eq_true rfl⟩) rfl hl.1 (As := [.ref a_this_value, .int (u_2 <<< ((0 : Int32) &&& 31))]) (rest := [.ref a_this]) rfl (Nat.le_of_ble_eq_true rfl) dJ5_ensureCapacityInternal_d00df_32 ⟨(by show 0 + 1 ≤ 1; omega), (by show 0 + 1000 ≤ 1000; omega)⟩ hK hP hD hS hA hZ (pm_seg [ce_K4 a_this a_this_value o_this, ce_BA kA a_this_value o_this_value] ([ce_BA kA a_this_value o_this_value] ++ [ce_K4 a_this a_this_value o_this]) [1, 0] 2 rfl (by decide) rfl (by decide)) (fun rv w1 H locs hq hP hD hS => ?_)
    obtain ⟨e_ret_6, rfl, rfl⟩ := hq
    refine W.widen (k := 1) (n := 1000) (by show _ + 1 ≤ _; omega) (by show _ + 1000 ≤ _; omega) ?_
    have hP : va_P D vwCl (fl ([ce_BA kA a_this_value o_this_value, ce_BA kA e_ret_6 u_4, ce_K4 a_this a_this_value o_this] : List va_W)) _ := (show va_P D vwCl (fl ([ce_BA kA a_this_value o_this_value, ce_BA kA e_ret_6 u_4] ++ [ce_K4 a_this a_this_value o_this] : List va_W)) _ from (by rw [fl_app]; exact hP))
    have hD : va_D A (fl ([ce_BA kA a_this_value o_this_value, ce_BA kA e_ret_6 u_4, ce_K4 a_this a_this_value o_this] : List va_W)) := (show va_D A (fl ([ce_BA kA a_this_value o_this_value, ce_BA kA e_ret_6 u_4] ++ [ce_K4 a_this a_this_value o_this] : List va_W)) from (by rw [fl_app]; exact hD))
    refine W.eq (g2 := F0 m 35 ls [.ref e_ret_6, .ref a_this]) rfl ?_
    refine va_put (D := D) (ci := 1) (v := .ref e_ret_6) (ty := .array .byte) (C := RJ4) (T := TJ4) (N := 4) hx hb hUJ4 (fun _ h9 => h9) tyJ4 tyJ4_ok nmJ4 hown hK hP hD hS (pl [ce_BA kA a_this_value o_this_value, ce_BA kA e_ret_6 u_4, ce_K4 a_this a_this_value o_this] 2 0) (sg_get rfl rfl) rfl 0 (by decide) (hts (Cond.fieldLink RJ5 15 "java/lang/AbstractStringBuilder" "value" "[B") (List.mem_of_getElem? (i := 1) rfl)) (fun _ h9 => h9) rfl (tyJ4_ok 0 (by decide)) rfl rfl (Nat.le_of_ble_eq_true rfl) dJ5_ensureCapacityInternal_d00df_35 (fun H locs hP hD hS => ?_)
    have hP : va_P D vwCl (fl ([ce_BA kA a_this_value o_this_value, ce_BA kA e_ret_6 u_4, ce_K4 a_this e_ret_6 o_this] : List va_W)) _ := sg_P rfl (Nat.le_of_ble_eq_true rfl) rfl hP
    have hD : va_D A (fl ([ce_BA kA a_this_value o_this_value, ce_BA kA e_ret_6 u_4, ce_K4 a_this e_ret_6 o_this] : List va_W)) := sg_D rfl (Nat.le_of_ble_eq_true rfl) rfl hD
    have hP : va_P D vwCl (fl ([ce_BA kA e_ret_6 u_4, ce_K4 a_this e_ret_6 o_this] : List va_W)) _ := hP.sl (sl_d (sl_k (sl_k sl_0)))
    have hD : va_D A (fl ([ce_BA kA e_ret_6 u_4, ce_K4 a_this e_ret_6 o_this] : List va_W)) := hD.sl (sl_d (sl_k (sl_k sl_0)))
    have hP : va_P D vwCl (fl ([ce_K4 a_this e_ret_6 o_this, ce_BA kA e_ret_6 u_4] : List va_W)) _ := hP.pm (pm_seg [ce_BA kA e_ret_6 u_4, ce_K4 a_this e_ret_6 o_this] [ce_K4 a_this e_ret_6 o_this, ce_BA kA e_ret_6 u_4] [1, 0] 2 rfl (by decide) rfl (by decide))
    have hD : va_D A (fl ([ce_K4 a_this e_ret_6 o_this, ce_BA kA e_ret_6 u_4] : List va_W)) := hD.pm (pm_seg [ce_BA kA e_ret_6 u_4, ce_K4 a_this e_ret_6 o_this] [ce_K4 a_this e_ret_6 o_this, ce_BA kA e_ret_6 u_4] [1, 0] 2 rfl (by decide) rfl (by decide))
    have hP : va_P D vwCl (fl ([ce_K4 a_this e_ret_6 o_this, ce_BA kA e_ret_6 u_4] : List va_W)) _ := hP
    have hD : va_D A (fl ([ce_K4 a_this e_ret_6 o_this, ce_BA kA e_ret_6 u_4] : List va_W)) := hD
    rw [← Option.some.inj hf]
    exact mg_retv ⟨e_ret_6, rfl, rfl⟩ (by show _ ≤ 1; omega) (by show _ ≤ 1000; omega) hx hb hr hlk hP hK hD hS dJ5_ensureCapacityInternal_d00df_38
def ff_J5_inflateIfNeededFor_a7421 (N : Nat) (o_this : os_T) (a1 : Nat) : Option Unit :=
  (if a1 < 18 then ((ff_J0_coder_7d493 N a1).bind fun u_1 => (if u_1.1 = 0 then (if (0 : Int32) = u_1.2 then some () else none) else none)) else none)
set_option maxHeartbeats 4000000 in
set_option maxRecDepth 100000 in
theorem mm_J5_inflateIfNeededFor_a7421 (l : Launch) (hst : l.stackTraces = false) (zz : Nat → Nat → Nat) (D : va_G) (kA : Nat → ClassId) (N : Nat) (v_this : Nat) (a_this : Nat) (o_this : os_T) (a1 : Nat) (out : Unit) (hf : ff_J5_inflateIfNeededFor_a7421 N o_this a1 = some out) : mg_C l zz D kA yJ5_inflateIfNeededFor_a7421 wsJ5_inflateIfNeededFor_a7421 ({ frames := 1, cells := 0, slots := 0, locals := 20 } : Room) [.ref a_this, .ref (zz 0 a1)] (fl ([ce_K4 a_this v_this o_this] : List va_W)) (fun rv w1 => rv = none ∧ w1 = (fl ([ce_K4 a_this v_this o_this] : List va_W))) := by
  refine mg_of (cc := cJ5_inflateIfNeededFor_a7421) (maxL := 2) (ret := none) (by decide) rfl (Nat.le_of_ble_eq_true rfl) ?_
  intro p e s m below meth c A B hZ hD hP hS ls hl
  obtain ⟨hx, hb, hr, hlk, hml, hown, hts, hK, hA, hnm⟩ := B
  have hown : s.vm.findClass RJ5 = some m.cls := hown
  have hl : lv_has ls 2 [(0, .ref a_this), (1, .ref (zz 0 a1))] := hl
  have hP : va_P D vwCl (fl ([ce_K4 a_this v_this o_this] : List va_W)) s.heap := hP
  have hUJ4 : ∀ w ∈ u_ws RJ4 TJ4 4, w.before [.ref a_this, .ref (zz 0 a1)].toArray s = true := fun w h => hts w (List.mem_cons_of_mem _ (List.mem_append_left _ (List.mem_append_right _ h)))
  unfold ff_J5_inflateIfNeededFor_a7421 at hf
  refine va_gets hx hb hZ.2.2.1.1 hS hown (hts (Cond.fieldLink RJ5 18 "java/lang/String" "COMPACT_STRINGS" "Z") (List.mem_of_getElem? (i := 1) rfl)) (fun _ h9 => h9) dJ5_inflateIfNeededFor_a7421_0 ?_
  refine lv_if_eq (tgt := 21) hx hb dJ5_inflateIfNeededFor_a7421_3 (by decide) (fun h9 => absurd h9 (by decide)) (fun _ => ?_)
  refine lv_aload_n hx hb dJ5_inflateIfNeededFor_a7421_6 rfl (lv_at hl 0 rfl) ?_
  refine va_get (D := D) (ci := 1) (v := .int (0 : Int32)) (C := RJ4) (T := TJ4) (N := 4) hx hb hUJ4 (fun _ h9 => h9) hown hK hP (pl [ce_K4 a_this v_this o_this] 0 0) (sg_get rfl rfl) rfl 1 (by decide) (hts (Cond.fieldLink RJ5 22 "java/lang/AbstractStringBuilder" "coder" "B") (List.mem_of_getElem? (i := 2) rfl)) (fun _ h9 => h9) rfl dJ5_inflateIfNeededFor_a7421_7 ?_
  refine lv_aload_n hx hb dJ5_inflateIfNeededFor_a7421_10 rfl (lv_at hl 1 rfl) ?_
  obtain ⟨hk_3, hf⟩ := os_if hf
  obtain ⟨u_1, he_2, hf⟩ := os_bd hf
  obtain ⟨h0_4, hf⟩ := os_if hf
  refine mg_callVx (wcs := []) (wrs := [ce_K4 a_this v_this o_this]) (ss := [ce_K4 a_this v_this o_this]) ⟨hx, hb, hml, hown, hts⟩ (mm_J0_coder_7d493 l hst zz D kA N a1 u_1 he_2) h0_4 (by simp [fl]) (cwV 0 hts gJ5_inflateIfNeededFor_a7421_J0_coder_7d493 rfl rfl rfl (by decide +kernel) ⟨Nat.le_of_ble_eq_true rfl, Nat.le_of_ble_eq_true rfl⟩) (vs_recv hZ.2.2.2.1 hk_3 hS) rfl hl.1 (As := []) (rest := [.int (0 : Int32)]) rfl (Nat.le_of_ble_eq_true rfl) dJ5_inflateIfNeededFor_a7421_11 ⟨(by show 0 + 0 ≤ 0; omega), (by show 0 + 0 ≤ 0; omega)⟩ hK hP hD hS hA hZ (pm_seg [ce_K4 a_this v_this o_this] ([] ++ [ce_K4 a_this v_this o_this]) [0] 1 rfl (by decide) rfl (by decide)) (fun H locs hP hD hS => ?_)
  refine W.widen (k := 0) (n := 0) (by show _ + 0 ≤ _; omega) (by show _ + 0 ≤ _; omega) ?_
  have hP : va_P D vwCl (fl ([ce_K4 a_this v_this o_this] : List va_W)) _ := hP
  have hD : va_D A (fl ([ce_K4 a_this v_this o_this] : List va_W)) := hD
  refine W.eq (g2 := F0 m 14 ls [.int u_1.2, .int (0 : Int32)]) rfl ?_
  refine lv_icmp_eq (tgt := 21) hx hb dJ5_inflateIfNeededFor_a7421_14 (by decide) (fun hc_5 => ?_) (fun hc_5 => ?_)
  · rw [if_pos (show (0 : Int32) = u_1.2 from hc_5)] at hf
    have hP : va_P D vwCl (fl ([ce_K4 a_this v_this o_this] : List va_W)) _ := hP
    have hD : va_D A (fl ([ce_K4 a_this v_this o_this] : List va_W)) := hD
    exact mg_retv ⟨rfl, rfl⟩ (by show _ ≤ 0; omega) (by show _ ≤ 0; omega) hx hb hr hlk hP hK hD hS dJ5_inflateIfNeededFor_a7421_21
  · rw [if_neg (show ¬ ((0 : Int32) = u_1.2) from hc_5)] at hf
    cases hf
def ff_J0_getBytes_840e7 (N : Nat) (o_p1 : os_T) (a0 : Nat) (a2 : Int32) (a3 : Int32) : Option os_T :=
  (if a0 < 18 then ((ff_J0_coder_7d493 N a0).bind fun u_1 => (if u_1.1 = 0 then (if u_1.2 = a3 then (if a0 < 18 then (if a0 < 18 then (if a0 < 18 then (if a0 < 18 then (if ((¬ (0 : Int32) < 0 ∧ ¬ (a2 <<< (a3 &&& 31)) < 0) ∧ ¬ (Int32.ofNat (st_len.getD a0 0)) < 0) ∧ (Int32.toNatClampNeg (0 : Int32) + Int32.toNatClampNeg (Int32.ofNat (st_len.getD a0 0)) ≤ st_len.getD a0 0 ∧ Int32.toNatClampNeg (a2 <<< (a3 &&& 31)) + Int32.toNatClampNeg (Int32.ofNat (st_len.getD a0 0)) ≤ ci_n o_p1) ∧ ∀ i, i < Int32.toNatClampNeg (Int32.ofNat (st_len.getD a0 0)) → fits .byte (.int ((fun j => (st_byt.getD a0 []).getD j 0) (Int32.toNatClampNeg (0 : Int32) + i))) = true then some (ss_A o_p1 0 (va_cpy (fun j => (st_byt.getD a0 []).getD j 0) (os_A o_p1 0) (Int32.toNatClampNeg (0 : Int32)) (Int32.toNatClampNeg (a2 <<< (a3 &&& 31))) (Int32.toNatClampNeg (Int32.ofNat (st_len.getD a0 0))))) else none) else none) else none) else none) else none) else none) else none)) else none)
set_option maxHeartbeats 4000000 in
set_option maxRecDepth 100000 in
theorem mm_J0_getBytes_840e7 (l : Launch) (hst : l.stackTraces = false) (zz : Nat → Nat → Nat) (D : va_G) (kA : Nat → ClassId) (N : Nat) (a_p1 : Nat) (o_p1 : os_T) (a0 : Nat) (a2 : Int32) (a3 : Int32) (out : os_T) (hf : ff_J0_getBytes_840e7 N o_p1 a0 a2 a3 = some out) : mg_C l zz D kA yJ0_getBytes_840e7 wsJ0_getBytes_840e7 ({ frames := 1, cells := 0, slots := 0, locals := 60 } : Room) [.ref (zz 0 a0), .ref a_p1, .int a2, .int a3] (fl ([ce_BA kA a_p1 o_p1] : List va_W)) (fun rv w1 => rv = none ∧ w1 = (fl ([ce_BA kA a_p1 out] : List va_W))) := by
  refine mg_of (cc := cJ0_getBytes_840e7) (maxL := 4) (ret := none) (by decide) rfl (Nat.le_of_ble_eq_true rfl) ?_
  intro p e s m below meth c A B hZ hD hP hS ls hl
  obtain ⟨hx, hb, hr, hlk, hml, hown, hts, hK, hA, hnm⟩ := B
  have hown : s.vm.findClass RJ0 = some m.cls := hown
  have hl : lv_has ls 4 [(0, .ref (zz 0 a0)), (1, .ref a_p1), (2, .int a2), (3, .int a3)] := hl
  have hP : va_P D vwCl (fl ([ce_BA kA a_p1 o_p1] : List va_W)) s.heap := hP
  unfold ff_J0_getBytes_840e7 at hf
  refine lv_aload_n hx hb dJ0_getBytes_840e7_0 rfl (lv_at hl 0 rfl) ?_
  obtain ⟨hk_3, hf⟩ := os_if hf
  obtain ⟨u_1, he_2, hf⟩ := os_bd hf
  obtain ⟨h0_4, hf⟩ := os_if hf
  refine mg_callVx (wcs := []) (wrs := [ce_BA kA a_p1 o_p1]) (ss := [ce_BA kA a_p1 o_p1]) ⟨hx, hb, hml, hown, hts⟩ (mm_J0_coder_7d493 l hst zz D kA N a0 u_1 he_2) h0_4 (by simp [fl]) (cwV 0 hts gJ0_getBytes_840e7_J0_coder_7d493 rfl rfl rfl (by decide +kernel) ⟨Nat.le_of_ble_eq_true rfl, Nat.le_of_ble_eq_true rfl⟩) (vs_recv hZ.2.2.2.1 hk_3 hS) rfl hl.1 (As := []) (rest := []) rfl (Nat.le_of_ble_eq_true rfl) dJ0_getBytes_840e7_1 ⟨(by show 0 + 0 ≤ 0; omega), (by show 0 + 0 ≤ 0; omega)⟩ hK hP hD hS hA hZ (pm_seg [ce_BA kA a_p1 o_p1] ([] ++ [ce_BA kA a_p1 o_p1]) [0] 1 rfl (by decide) rfl (by decide)) (fun H locs hP hD hS => ?_)
  refine W.widen (k := 0) (n := 0) (by show _ + 0 ≤ _; omega) (by show _ + 0 ≤ _; omega) ?_
  have hP : va_P D vwCl (fl ([ce_BA kA a_p1 o_p1] : List va_W)) _ := hP
  have hD : va_D A (fl ([ce_BA kA a_p1 o_p1] : List va_W)) := hD
  refine W.eq (g2 := F0 m 4 ls [.int u_1.2]) rfl ?_
  refine lv_iload_n hx hb dJ0_getBytes_840e7_4 rfl (lv_at hl 3 rfl) ?_
  refine lv_icmp_ne (tgt := 28) hx hb dJ0_getBytes_840e7_5 (by decide) (fun hc_5 => ?_) (fun hc_5 => ?_)
  · rw [if_neg (show ¬ (u_1.2 = a3) from hc_5)] at hf
    cases hf
  · rw [if_pos (show u_1.2 = a3 from hc_5)] at hf
    refine lv_aload_n hx hb dJ0_getBytes_840e7_8 rfl (lv_at hl 0 rfl) ?_
    obtain ⟨hk_6, hf⟩ := os_if hf
    refine vk_getf hx hb ((hZ.2.2.2.1.1 _ hk_6).2.2.1) hS hown (hts (Cond.fieldLink RJ0 9 "java/lang/String" "value" "[B") (List.mem_of_getElem? (i := 1) rfl)) (fun _ h9 => h9) dJ0_getBytes_840e7_9 ?_
    refine lv_iconst (v := 0) hx hb dJ0_getBytes_840e7_12 (by decide) ?_
    refine lv_aload_n hx hb dJ0_getBytes_840e7_13 rfl (lv_at hl 1 rfl) ?_
    refine lv_iload_n hx hb dJ0_getBytes_840e7_14 rfl (lv_at hl 2 rfl) ?_
    refine lv_iload_n hx hb dJ0_getBytes_840e7_15 rfl (lv_at hl 3 rfl) ?_
    refine lv_ishl hx hb dJ0_getBytes_840e7_16 ?_
    refine lv_aload_n hx hb dJ0_getBytes_840e7_17 rfl (lv_at hl 0 rfl) ?_
    obtain ⟨hk_7, hf⟩ := os_if hf
    refine vk_getf hx hb ((hZ.2.2.2.1.1 _ hk_7).2.2.1) hS hown (hts (Cond.fieldLink RJ0 9 "java/lang/String" "value" "[B") (List.mem_of_getElem? (i := 1) rfl)) (fun _ h9 => h9) dJ0_getBytes_840e7_18 ?_
    obtain ⟨hk_8, hf⟩ := os_if hf
    refine va_tlen hx hb (hZ.2.2.2.1.1 _ hk_8).2.2.2 hS rfl dJ0_getBytes_840e7_21 ?_
    obtain ⟨hk_10, hf⟩ := os_if hf
    obtain ⟨hc_9, hf⟩ := os_if hf
    refine vk_copyt hx hb (hml.trans hl.1.symm) hown (hts (Cond.methodLink RJ0 212 arraycopyName) (List.mem_of_getElem? (i := 2) rfl)) (hts (Cond.native arraycopyName) (List.mem_of_getElem? (i := 3) rfl)) (hts (Cond.static arraycopyName) (List.mem_of_getElem? (i := 4) rfl)) (hts (Cond.initialized "java/lang/System") (List.mem_of_getElem? (i := 5) rfl)) hK hP hD hS (hZ.2.2.2.1.1 _ hk_10).2.2.2 (pl [ce_BA kA a_p1 o_p1] 0 0) 2 (sg_get rfl rfl) rfl hc_9.1.1.1 hc_9.1.1.2 hc_9.1.2 hc_9.2.1.1 hc_9.2.1.2 hc_9.2.2 (Nat.le_of_ble_eq_true rfl) (Nat.le_of_ble_eq_true rfl) dJ0_getBytes_840e7_22 (fun H locs hP hD hS => ?_)
    have hP : va_P D vwCl (fl ([ce_BA kA a_p1 (ss_A o_p1 0 (va_cpy (fun j => (st_byt.getD a0 []).getD j 0) (os_A o_p1 0) (Int32.toNatClampNeg (0 : Int32)) (Int32.toNatClampNeg (a2 <<< (a3 &&& 31))) (Int32.toNatClampNeg (Int32.ofNat (st_len.getD a0 0)))))] : List va_W)) _ := sg_P rfl (Nat.le_of_ble_eq_true rfl) rfl hP
    have hD : va_D A (fl ([ce_BA kA a_p1 (ss_A o_p1 0 (va_cpy (fun j => (st_byt.getD a0 []).getD j 0) (os_A o_p1 0) (Int32.toNatClampNeg (0 : Int32)) (Int32.toNatClampNeg (a2 <<< (a3 &&& 31))) (Int32.toNatClampNeg (Int32.ofNat (st_len.getD a0 0)))))] : List va_W)) := sg_D rfl (Nat.le_of_ble_eq_true rfl) rfl hD
    refine lv_goto (tgt := 43) hx hb dJ0_getBytes_840e7_25 (by decide) ?_
    have hP : va_P D vwCl (fl ([ce_BA kA a_p1 (ss_A o_p1 0 (va_cpy (fun j => (st_byt.getD a0 []).getD j 0) (os_A o_p1 0) (Int32.toNatClampNeg (0 : Int32)) (Int32.toNatClampNeg (a2 <<< (a3 &&& 31))) (Int32.toNatClampNeg (Int32.ofNat (st_len.getD a0 0)))))] : List va_W)) _ := hP
    have hD : va_D A (fl ([ce_BA kA a_p1 (ss_A o_p1 0 (va_cpy (fun j => (st_byt.getD a0 []).getD j 0) (os_A o_p1 0) (Int32.toNatClampNeg (0 : Int32)) (Int32.toNatClampNeg (a2 <<< (a3 &&& 31))) (Int32.toNatClampNeg (Int32.ofNat (st_len.getD a0 0)))))] : List va_W)) := hD
    rw [← Option.some.inj hf]
    exact mg_retv ⟨rfl, rfl⟩ (by show _ ≤ 0; omega) (by show _ ≤ 0; omega) hx hb hr hlk hP hK hD hS dJ0_getBytes_840e7_43
def ff_J5_putStringAt_47b60 (N : Nat) (o_this : os_T) (o_this_value : os_T) (a1 : Int32) (a2 : Nat) : Option os_T :=
  ((ff_J5_inflateIfNeededFor_a7421 N o_this a2).bind fun u_1 => (if a2 < 18 then ((ff_J0_getBytes_840e7 N o_this_value a2 a1 (0 : Int32)).bind fun u_3 => some u_3) else none))
set_option maxHeartbeats 4000000 in
set_option maxRecDepth 100000 in
theorem mm_J5_putStringAt_47b60 (l : Launch) (hst : l.stackTraces = false) (zz : Nat → Nat → Nat) (D : va_G) (kA : Nat → ClassId) (N : Nat) (a_this : Nat) (a_this_value : Nat) (o_this : os_T) (o_this_value : os_T) (a1 : Int32) (a2 : Nat) (out : os_T) (hf : ff_J5_putStringAt_47b60 N o_this o_this_value a1 a2 = some out) : mg_C l zz D kA yJ5_putStringAt_47b60 wsJ5_putStringAt_47b60 ({ frames := 2, cells := 0, slots := 0, locals := 83 } : Room) [.ref a_this, .int a1, .ref (zz 0 a2)] (fl ([ce_K4 a_this a_this_value o_this, ce_BA kA a_this_value o_this_value] : List va_W)) (fun rv w1 => rv = none ∧ w1 = (fl ([ce_K4 a_this a_this_value o_this, ce_BA kA a_this_value out] : List va_W))) := by
  refine mg_of (cc := cJ5_putStringAt_47b60) (maxL := 3) (ret := none) (by decide) rfl (Nat.le_of_ble_eq_true rfl) ?_
  intro p e s m below meth c A B hZ hD hP hS ls hl
  obtain ⟨hx, hb, hr, hlk, hml, hown, hts, hK, hA, hnm⟩ := B
  have hown : s.vm.findClass RJ5 = some m.cls := hown
  have hl : lv_has ls 3 [(0, .ref a_this), (1, .int a1), (2, .ref (zz 0 a2))] := hl
  have hP : va_P D vwCl (fl ([ce_K4 a_this a_this_value o_this, ce_BA kA a_this_value o_this_value] : List va_W)) s.heap := hP
  have hUJ4 : ∀ w ∈ u_ws RJ4 TJ4 4, w.before [.ref a_this, .int a1, .ref (zz 0 a2)].toArray s = true := fun w h => hts w (List.mem_cons_of_mem _ (List.mem_append_left _ (List.mem_append_right _ h)))
  unfold ff_J5_putStringAt_47b60 at hf
  refine lv_aload_n hx hb dJ5_putStringAt_47b60_0 rfl (lv_at hl 0 rfl) ?_
  refine lv_aload_n hx hb dJ5_putStringAt_47b60_1 rfl (lv_at hl 2 rfl) ?_
  obtain ⟨u_1, he_2, hf⟩ := os_bd hf
  refine mg_callU (wcs := [ce_K4 a_this a_this_value o_this]) (wrs := [ce_BA kA a_this_value o_this_value]) (ss := [ce_K4 a_this a_this_value o_this, ce_BA kA a_this_value o_this_value]) ⟨hx, hb, hml, hown, hts⟩ (mm_J5_inflateIfNeededFor_a7421 l hst zz D kA N a_this_value a_this o_this a2 u_1 he_2) (va_cwU 1 hts gJ5_putStringAt_47b60_J5_inflateIfNeededFor_a7421_u397J4 rfl rfl rfl rfl (by decide +kernel) ⟨Nat.le_of_ble_eq_true rfl, Nat.le_of_ble_eq_true rfl⟩) (va_recv hK hP (q0 := pl [ce_K4 a_this a_this_value o_this, ce_BA kA a_this_value o_this_value] 0 0) rfl (sg_get rfl rfl)) rfl hl.1 (As := [.ref (zz 0 a2)]) (rest := []) rfl (Nat.le_of_ble_eq_true rfl) dJ5_putStringAt_47b60_2 ⟨(by show 0 + 0 ≤ 0; omega), (by show 0 + 0 ≤ 0; omega)⟩ hK hP hD hS hA hZ (pm_seg [ce_K4 a_this a_this_value o_this, ce_BA kA a_this_value o_this_value] ([ce_K4 a_this a_this_value o_this] ++ [ce_BA kA a_this_value o_this_value]) [0, 1] 2 rfl (by decide) rfl (by decide)) (fun rv w1 H locs hq hP hD hS => ?_)
  obtain ⟨rfl, rfl⟩ := hq
  refine W.widen (k := 0) (n := 0) (by show _ + 0 ≤ _; omega) (by show _ + 0 ≤ _; omega) ?_
  have hP : va_P D vwCl (fl ([ce_K4 a_this a_this_value o_this, ce_BA kA a_this_value o_this_value] : List va_W)) _ := (show va_P D vwCl (fl ([ce_K4 a_this a_this_value o_this] ++ [ce_BA kA a_this_value o_this_value] : List va_W)) _ from (by rw [fl_app]; exact hP))
  have hD : va_D A (fl ([ce_K4 a_this a_this_value o_this, ce_BA kA a_this_value o_this_value] : List va_W)) := (show va_D A (fl ([ce_K4 a_this a_this_value o_this] ++ [ce_BA kA a_this_value o_this_value] : List va_W)) from (by rw [fl_app]; exact hD))
  refine W.eq (g2 := F0 m 5 ls []) rfl ?_
  refine lv_aload_n hx hb dJ5_putStringAt_47b60_5 rfl (lv_at hl 2 rfl) ?_
  refine lv_aload_n hx hb dJ5_putStringAt_47b60_6 rfl (lv_at hl 0 rfl) ?_
  refine va_get (D := D) (ci := 1) (v := .ref a_this_value) (C := RJ4) (T := TJ4) (N := 4) hx hb hUJ4 (fun _ h9 => h9) hown hK hP (pl [ce_K4 a_this a_this_value o_this, ce_BA kA a_this_value o_this_value] 0 0) (sg_get rfl rfl) rfl 0 (by decide) (hts (Cond.fieldLink RJ5 15 "java/lang/AbstractStringBuilder" "value" "[B") (List.mem_of_getElem? (i := 1) rfl)) (fun _ h9 => h9) rfl dJ5_putStringAt_47b60_7 ?_
  refine lv_iload_n hx hb dJ5_putStringAt_47b60_10 rfl (lv_at hl 1 rfl) ?_
  refine lv_aload_n hx hb dJ5_putStringAt_47b60_11 rfl (lv_at hl 0 rfl) ?_
  refine va_get (D := D) (ci := 1) (v := .int (0 : Int32)) (C := RJ4) (T := TJ4) (N := 4) hx hb hUJ4 (fun _ h9 => h9) hown hK hP (pl [ce_K4 a_this a_this_value o_this, ce_BA kA a_this_value o_this_value] 0 0) (sg_get rfl rfl) rfl 1 (by decide) (hts (Cond.fieldLink RJ5 22 "java/lang/AbstractStringBuilder" "coder" "B") (List.mem_of_getElem? (i := 2) rfl)) (fun _ h9 => h9) rfl dJ5_putStringAt_47b60_12 ?_
  obtain ⟨hk_5, hf⟩ := os_if hf
  obtain ⟨u_3, he_4, hf⟩ := os_bd hf
  refine mg_callV (wcs := [ce_BA kA a_this_value o_this_value]) (wrs := [ce_K4 a_this a_this_value o_this]) (ss := [ce_K4 a_this a_this_value o_this, ce_BA kA a_this_value o_this_value]) ⟨hx, hb, hml, hown, hts⟩ (mm_J0_getBytes_840e7 l hst zz D kA N a_this_value o_this_value a2 a1 (0 : Int32) u_3 he_4) (cwV 3 hts gJ5_putStringAt_47b60_J0_getBytes_840e7 rfl rfl rfl (by decide +kernel) ⟨Nat.le_of_ble_eq_true rfl, Nat.le_of_ble_eq_true rfl⟩) (vs_recv hZ.2.2.2.1 hk_5 hS) rfl hl.1 (As := [.ref a_this_value, .int a1, .int (0 : Int32)]) (rest := []) rfl (Nat.le_of_ble_eq_true rfl) dJ5_putStringAt_47b60_15 ⟨(by show 0 + 0 ≤ 0; omega), (by show 0 + 0 ≤ 0; omega)⟩ hK hP hD hS hA hZ (pm_seg [ce_K4 a_this a_this_value o_this, ce_BA kA a_this_value o_this_value] ([ce_BA kA a_this_value o_this_value] ++ [ce_K4 a_this a_this_value o_this]) [1, 0] 2 rfl (by decide) rfl (by decide)) (fun rv w1 H locs hq hP hD hS => ?_)
  obtain ⟨rfl, rfl⟩ := hq
  refine W.widen (k := 0) (n := 0) (by show _ + 0 ≤ _; omega) (by show _ + 0 ≤ _; omega) ?_
  have hP : va_P D vwCl (fl ([ce_BA kA a_this_value u_3, ce_K4 a_this a_this_value o_this] : List va_W)) _ := (show va_P D vwCl (fl ([ce_BA kA a_this_value u_3] ++ [ce_K4 a_this a_this_value o_this] : List va_W)) _ from (by rw [fl_app]; exact hP))
  have hD : va_D A (fl ([ce_BA kA a_this_value u_3, ce_K4 a_this a_this_value o_this] : List va_W)) := (show va_D A (fl ([ce_BA kA a_this_value u_3] ++ [ce_K4 a_this a_this_value o_this] : List va_W)) from (by rw [fl_app]; exact hD))
  refine W.eq (g2 := F0 m 18 ls []) rfl ?_
  have hP : va_P D vwCl (fl ([ce_K4 a_this a_this_value o_this, ce_BA kA a_this_value u_3] : List va_W)) _ := hP.pm (pm_seg [ce_BA kA a_this_value u_3, ce_K4 a_this a_this_value o_this] [ce_K4 a_this a_this_value o_this, ce_BA kA a_this_value u_3] [1, 0] 2 rfl (by decide) rfl (by decide))
  have hD : va_D A (fl ([ce_K4 a_this a_this_value o_this, ce_BA kA a_this_value u_3] : List va_W)) := hD.pm (pm_seg [ce_BA kA a_this_value u_3, ce_K4 a_this a_this_value o_this] [ce_K4 a_this a_this_value o_this, ce_BA kA a_this_value u_3] [1, 0] 2 rfl (by decide) rfl (by decide))
  have hP : va_P D vwCl (fl ([ce_K4 a_this a_this_value o_this, ce_BA kA a_this_value u_3] : List va_W)) _ := hP
  have hD : va_D A (fl ([ce_K4 a_this a_this_value o_this, ce_BA kA a_this_value u_3] : List va_W)) := hD
  rw [← Option.some.inj hf]
  exact mg_retv ⟨rfl, rfl⟩ (by show _ ≤ 0; omega) (by show _ ≤ 0; omega) hx hb hr hlk hP hK hD hS dJ5_putStringAt_47b60_18
def ff_J5_append_cf1ce (N : Nat) (o_this : os_T) (o_this_value : os_T) (a1 : Nat) : Option (os_T × os_T) :=
  (if a1 < 18 then ((ff_J0_length_8abf5 N a1).bind fun u_1 => (if u_1.1 = 0 then ((ff_J5_ensureCapacityInternal_d00df N o_this o_this_value ((os_I o_this 3) + u_1.2)).bind fun u_5 => ((ff_J5_putStringAt_47b60 N u_5.1 u_5.2 (os_I u_5.1 3) a1).bind fun u_8 => some (ss_I u_5.1 3 ((os_I u_5.1 3) + u_1.2), u_8))) else none)) else none)
set_option maxHeartbeats 4000000 in
set_option maxRecDepth 100000 in
theorem mm_J5_append_cf1ce (l : Launch) (hst : l.stackTraces = false) (zz : Nat → Nat → Nat) (D : va_G) (kA : Nat → ClassId) (N : Nat) (a_this : Nat) (a_this_value : Nat) (o_this : os_T) (o_this_value : os_T) (a1 : Nat) (out : os_T × os_T) (hf : ff_J5_append_cf1ce N o_this o_this_value a1 = some out) : mg_C l zz D kA yJ5_append_cf1ce wsJ5_append_cf1ce ({ frames := 4, cells := 1, slots := 1000, locals := 105 } : Room) [.ref a_this, .ref (zz 0 a1)] (fl ([ce_K4 a_this a_this_value o_this, ce_BA kA a_this_value o_this_value] : List va_W)) (fun rv w1 => ∃ e_this_value : Nat, rv = some (.ref a_this) ∧ w1 = (fl ([ce_K4 a_this e_this_value out.1, ce_BA kA e_this_value out.2] : List va_W))) := by
  refine mg_of (cc := cJ5_append_cf1ce) (maxL := 3) (ret := (some (.object "java/lang/AbstractStringBuilder"))) (by decide) rfl (Nat.le_of_ble_eq_true rfl) ?_
  intro p e s m below meth c A B hZ hD hP hS ls hl
  obtain ⟨hx, hb, hr, hlk, hml, hown, hts, hK, hA, hnm⟩ := B
  have hown : s.vm.findClass RJ5 = some m.cls := hown
  have hl : lv_has ls 3 [(0, .ref a_this), (1, .ref (zz 0 a1))] := hl
  have hP : va_P D vwCl (fl ([ce_K4 a_this a_this_value o_this, ce_BA kA a_this_value o_this_value] : List va_W)) s.heap := hP
  have hUJ4 : ∀ w ∈ u_ws RJ4 TJ4 4, w.before [.ref a_this, .ref (zz 0 a1)].toArray s = true := fun w h => hts w (List.mem_cons_of_mem _ (List.mem_append_left _ (List.mem_append_right _ h)))
  unfold ff_J5_append_cf1ce at hf
  refine lv_aload_n hx hb dJ5_append_cf1ce_0 rfl (lv_at hl 1 rfl) ?_
  refine lv_ifnonnull (tgt := 9) hx hb dJ5_append_cf1ce_1 (by decide) ?_
  refine lv_aload_n hx hb dJ5_append_cf1ce_9 rfl (lv_at hl 1 rfl) ?_
  obtain ⟨hk_3, hf⟩ := os_if hf
  obtain ⟨u_1, he_2, hf⟩ := os_bd hf
  obtain ⟨h0_4, hf⟩ := os_if hf
  refine mg_callVx (wcs := []) (wrs := [ce_K4 a_this a_this_value o_this, ce_BA kA a_this_value o_this_value]) (ss := [ce_K4 a_this a_this_value o_this, ce_BA kA a_this_value o_this_value]) ⟨hx, hb, hml, hown, hts⟩ (mm_J0_length_8abf5 l hst zz D kA N a1 u_1 he_2) h0_4 (by simp [fl]) (cwV 0 hts gJ5_append_cf1ce_J0_length_8abf5 rfl rfl rfl (by decide +kernel) ⟨Nat.le_of_ble_eq_true rfl, Nat.le_of_ble_eq_true rfl⟩) (vs_recv hZ.2.2.2.1 hk_3 hS) rfl hl.1 (As := []) (rest := []) rfl (Nat.le_of_ble_eq_true rfl) dJ5_append_cf1ce_10 ⟨(by show 0 + 0 ≤ 1; omega), (by show 0 + 0 ≤ 1000; omega)⟩ hK hP hD hS hA hZ (pm_seg [ce_K4 a_this a_this_value o_this, ce_BA kA a_this_value o_this_value] ([] ++ [ce_K4 a_this a_this_value o_this, ce_BA kA a_this_value o_this_value]) [0, 1] 2 rfl (by decide) rfl (by decide)) (fun H locs hP hD hS => ?_)
  refine W.widen (k := 0) (n := 0) (by show _ + 0 ≤ _; omega) (by show _ + 0 ≤ _; omega) ?_
  have hP : va_P D vwCl (fl ([ce_K4 a_this a_this_value o_this, ce_BA kA a_this_value o_this_value] : List va_W)) _ := hP
  have hD : va_D A (fl ([ce_K4 a_this a_this_value o_this, ce_BA kA a_this_value o_this_value] : List va_W)) := hD
  refine W.eq (g2 := F0 m 13 ls [.int u_1.2]) rfl ?_
  refine lv_istore_n (lv' := [(2, .int u_1.2), (0, .ref a_this), (1, .ref (zz 0 a1))]) hx hb dJ5_append_cf1ce_13 rfl hl (by decide) rfl (fun ls hl => ?_)
  refine lv_aload_n hx hb dJ5_append_cf1ce_14 rfl (lv_at hl 1 rfl) ?_
  refine lv_aload_n hx hb dJ5_append_cf1ce_15 rfl (lv_at hl 1 rfl) ?_
  refine va_get (D := D) (ci := 1) (v := .int (os_I o_this 3)) (C := RJ4) (T := TJ4) (N := 4) hx hb hUJ4 (fun _ h9 => h9) hown hK hP (pl [ce_K4 a_this a_this_value o_this, ce_BA kA a_this_value o_this_value] 0 0) (sg_get rfl rfl) rfl 3 (by decide) (hts (Cond.fieldLink RJ5 79 "java/lang/AbstractStringBuilder" "count" "I") (List.mem_of_getElem? (i := 1) rfl)) (fun _ h9 => h9) rfl dJ5_append_cf1ce_16 ?_
  refine lv_iload_n hx hb dJ5_append_cf1ce_19 rfl (lv_at hl 0 rfl) ?_
  refine lv_iadd hx hb dJ5_append_cf1ce_20 ?_
  obtain ⟨u_5, he_6, hf⟩ := os_bd hf
  refine mg_callU (wcs := [ce_K4 a_this a_this_value o_this, ce_BA kA a_this_value o_this_value]) (wrs := []) (ss := [ce_K4 a_this a_this_value o_this, ce_BA kA a_this_value o_this_value]) ⟨hx, hb, hml, hown, hts⟩ (mm_J5_ensureCapacityInternal_d00df l hst zz D kA N a_this a_this_value o_this o_this_value ((os_I o_this 3) + u_1.2) u_5 he_6) (va_cwU 1 hts gJ5_append_cf1ce_J5_ensureCapacityInternal_d00df_u100J4 rfl rfl rfl rfl (by decide +kernel) ⟨Nat.le_of_ble_eq_true rfl, Nat.le_of_ble_eq_true rfl⟩) (va_recv hK hP (q0 := pl [ce_K4 a_this a_this_value o_this, ce_BA kA a_this_value o_this_value] 0 0) rfl (sg_get rfl rfl)) rfl hl.1 (As := [.int ((os_I o_this 3) + u_1.2)]) (rest := []) rfl (Nat.le_of_ble_eq_true rfl) dJ5_append_cf1ce_21 ⟨(by show 0 + 1 ≤ 1; omega), (by show 0 + 1000 ≤ 1000; omega)⟩ hK hP hD hS hA hZ (pm_seg [ce_K4 a_this a_this_value o_this, ce_BA kA a_this_value o_this_value] ([ce_K4 a_this a_this_value o_this, ce_BA kA a_this_value o_this_value] ++ []) [0, 1] 2 rfl (by decide) rfl (by decide)) (fun rv w1 H locs hq hP hD hS => ?_)
  obtain ⟨e_this_value_7, rfl, rfl⟩ := hq
  refine W.widen (k := 1) (n := 1000) (by show _ + 1 ≤ _; omega) (by show _ + 1000 ≤ _; omega) ?_
  have hP : va_P D vwCl (fl ([ce_K4 a_this e_this_value_7 u_5.1, ce_BA kA e_this_value_7 u_5.2] : List va_W)) _ := (show va_P D vwCl (fl ([ce_K4 a_this e_this_value_7 u_5.1, ce_BA kA e_this_value_7 u_5.2] ++ [] : List va_W)) _ from (by rw [fl_app]; exact hP))
  have hD : va_D A (fl ([ce_K4 a_this e_this_value_7 u_5.1, ce_BA kA e_this_value_7 u_5.2] : List va_W)) := (show va_D A (fl ([ce_K4 a_this e_this_value_7 u_5.1, ce_BA kA e_this_value_7 u_5.2] ++ [] : List va_W)) from (by rw [fl_app]; exact hD))
  refine W.eq (g2 := F0 m 24 ls []) rfl ?_
  refine lv_aload_n hx hb dJ5_append_cf1ce_24 rfl (lv_at hl 1 rfl) ?_
  refine lv_aload_n hx hb dJ5_append_cf1ce_25 rfl (lv_at hl 1 rfl) ?_
  refine va_get (D := D) (ci := 1) (v := .int (os_I u_5.1 3)) (C := RJ4) (T := TJ4) (N := 4) hx hb hUJ4 (fun _ h9 => h9) hown hK hP (pl [ce_K4 a_this e_this_value_7 u_5.1, ce_BA kA e_this_value_7 u_5.2] 0 0) (sg_get rfl rfl) rfl 3 (by decide) (hts (Cond.fieldLink RJ5 79 "java/lang/AbstractStringBuilder" "count" "I") (List.mem_of_getElem? (i := 1) rfl)) (fun _ h9 => h9) rfl dJ5_append_cf1ce_26 ?_
  refine lv_aload_n hx hb dJ5_append_cf1ce_29 rfl (lv_at hl 2 rfl) ?_
  obtain ⟨u_8, he_9, hf⟩ := os_bd hf
  refine mg_callU (wcs := [ce_K4 a_this e_this_value_7 u_5.1, ce_BA kA e_this_value_7 u_5.2]) (wrs := []) (ss := [ce_K4 a_this e_this_value_7 u_5.1, ce_BA kA e_this_value_7 u_5.2]) ⟨hx, hb, hml, hown, hts⟩ (mm_J5_putStringAt_47b60 l hst zz D kA N a_this e_this_value_7 u_5.1 u_5.2 (os_I u_5.1 3) a1 u_8 he_9) (va_cwU 2 hts gJ5_append_cf1ce_J5_putStringAt_47b60_u208J4 rfl rfl rfl rfl (by decide +kernel) ⟨Nat.le_of_ble_eq_true rfl, Nat.le_of_ble_eq_true rfl⟩) (va_recv hK hP (q0 := pl [ce_K4 a_this e_this_value_7 u_5.1, ce_BA kA e_this_value_7 u_5.2] 0 0) rfl (sg_get rfl rfl)) rfl hl.1 (As := [.int (os_I u_5.1 3), .ref (zz 0 a1)]) (rest := []) rfl (Nat.le_of_ble_eq_true rfl) dJ5_append_cf1ce_30 ⟨(by show 1 + 0 ≤ 1; omega), (by show 1000 + 0 ≤ 1000; omega)⟩ hK hP hD hS hA hZ (pm_seg [ce_K4 a_this e_this_value_7 u_5.1, ce_BA kA e_this_value_7 u_5.2] ([ce_K4 a_this e_this_value_7 u_5.1, ce_BA kA e_this_value_7 u_5.2] ++ []) [0, 1] 2 rfl (by decide) rfl (by decide)) (fun rv w1 H locs hq hP hD hS => ?_)
  obtain ⟨rfl, rfl⟩ := hq
  refine W.widen (k := 1) (n := 1000) (by show _ + 0 ≤ _; omega) (by show _ + 0 ≤ _; omega) ?_
  have hP : va_P D vwCl (fl ([ce_K4 a_this e_this_value_7 u_5.1, ce_BA kA e_this_value_7 u_8] : List va_W)) _ := (show va_P D vwCl (fl ([ce_K4 a_this e_this_value_7 u_5.1, ce_BA kA e_this_value_7 u_8] ++ [] : List va_W)) _ from (by rw [fl_app]; exact hP))
  have hD : va_D A (fl ([ce_K4 a_this e_this_value_7 u_5.1, ce_BA kA e_this_value_7 u_8] : List va_W)) := (show va_D A (fl ([ce_K4 a_this e_this_value_7 u_5.1, ce_BA kA e_this_value_7 u_8] ++ [] : List va_W)) from (by rw [fl_app]; exact hD))
  refine W.eq (g2 := F0 m 33 ls []) rfl ?_
  refine lv_aload_n hx hb dJ5_append_cf1ce_33 rfl (lv_at hl 1 rfl) ?_
  refine lv_dup hx hb dJ5_append_cf1ce_34 rfl ?_
  refine va_get (D := D) (ci := 1) (v := .int (os_I u_5.1 3)) (C := RJ4) (T := TJ4) (N := 4) hx hb hUJ4 (fun _ h9 => h9) hown hK hP (pl [ce_K4 a_this e_this_value_7 u_5.1, ce_BA kA e_this_value_7 u_8] 0 0) (sg_get rfl rfl) rfl 3 (by decide) (hts (Cond.fieldLink RJ5 79 "java/lang/AbstractStringBuilder" "count" "I") (List.mem_of_getElem? (i := 1) rfl)) (fun _ h9 => h9) rfl dJ5_append_cf1ce_35 ?_
  refine lv_iload_n hx hb dJ5_append_cf1ce_38 rfl (lv_at hl 0 rfl) ?_
  refine lv_iadd hx hb dJ5_append_cf1ce_39 ?_
  refine va_put (D := D) (ci := 1) (v := .int ((os_I u_5.1 3) + u_1.2)) (ty := .int) (C := RJ4) (T := TJ4) (N := 4) hx hb hUJ4 (fun _ h9 => h9) tyJ4 tyJ4_ok nmJ4 hown hK hP hD hS (pl [ce_K4 a_this e_this_value_7 u_5.1, ce_BA kA e_this_value_7 u_8] 0 0) (sg_get rfl rfl) rfl 3 (by decide) (hts (Cond.fieldLink RJ5 79 "java/lang/AbstractStringBuilder" "count" "I") (List.mem_of_getElem? (i := 1) rfl)) (fun _ h9 => h9) rfl (tyJ4_ok 3 (by decide)) rfl rfl (Nat.le_of_ble_eq_true rfl) dJ5_append_cf1ce_40 (fun H locs hP hD hS => ?_)
  have hP : va_P D vwCl (fl ([ce_K4 a_this e_this_value_7 (ss_I u_5.1 3 ((os_I u_5.1 3) + u_1.2)), ce_BA kA e_this_value_7 u_8] : List va_W)) _ := sg_P rfl (Nat.le_of_ble_eq_true rfl) rfl hP
  have hD : va_D A (fl ([ce_K4 a_this e_this_value_7 (ss_I u_5.1 3 ((os_I u_5.1 3) + u_1.2)), ce_BA kA e_this_value_7 u_8] : List va_W)) := sg_D rfl (Nat.le_of_ble_eq_true rfl) rfl hD
  refine lv_aload_n hx hb dJ5_append_cf1ce_43 rfl (lv_at hl 1 rfl) ?_
  have hP : va_P D vwCl (fl ([ce_K4 a_this e_this_value_7 (ss_I u_5.1 3 ((os_I u_5.1 3) + u_1.2)), ce_BA kA e_this_value_7 u_8] : List va_W)) _ := hP
  have hD : va_D A (fl ([ce_K4 a_this e_this_value_7 (ss_I u_5.1 3 ((os_I u_5.1 3) + u_1.2)), ce_BA kA e_this_value_7 u_8] : List va_W)) := hD
  rw [← Option.some.inj hf]
  exact mg_reta ⟨e_this_value_7, rfl, rfl⟩ (by show _ ≤ 1; omega) (by show _ ≤ 1000; omega) hx hb hr (by first | exact Or.inl ⟨_, rfl⟩ | exact Or.inr ⟨_, rfl⟩) hlk hP hK hD hS dJ5_append_cf1ce_44
def ff_J4_append_15ec4 (N : Nat) (o_this : os_T) (o_this_value : os_T) (a1 : Nat) : Option (os_T × os_T) :=
  ((ff_J5_append_cf1ce N o_this o_this_value a1).bind fun u_1 => some (u_1.1, u_1.2))
set_option maxHeartbeats 4000000 in
set_option maxRecDepth 100000 in
theorem mm_J4_append_15ec4 (l : Launch) (hst : l.stackTraces = false) (zz : Nat → Nat → Nat) (D : va_G) (kA : Nat → ClassId) (N : Nat) (a_this : Nat) (a_this_value : Nat) (o_this : os_T) (o_this_value : os_T) (a1 : Nat) (out : os_T × os_T) (hf : ff_J4_append_15ec4 N o_this o_this_value a1 = some out) : mg_C l zz D kA yJ4_append_15ec4 wsJ4_append_15ec4 ({ frames := 5, cells := 1, slots := 1000, locals := 127 } : Room) [.ref a_this, .ref (zz 0 a1)] (fl ([ce_K4 a_this a_this_value o_this, ce_BA kA a_this_value o_this_value] : List va_W)) (fun rv w1 => ∃ e_this_value : Nat, rv = some (.ref a_this) ∧ w1 = (fl ([ce_K4 a_this e_this_value out.1, ce_BA kA e_this_value out.2] : List va_W))) := by
  refine mg_of (cc := cJ4_append_15ec4) (maxL := 2) (ret := (some (.object "java/lang/StringBuilder"))) (by decide) rfl (Nat.le_of_ble_eq_true rfl) ?_
  intro p e s m below meth c A B hZ hD hP hS ls hl
  obtain ⟨hx, hb, hr, hlk, hml, hown, hts, hK, hA, hnm⟩ := B
  have hown : s.vm.findClass RJ4 = some m.cls := hown
  have hl : lv_has ls 2 [(0, .ref a_this), (1, .ref (zz 0 a1))] := hl
  have hP : va_P D vwCl (fl ([ce_K4 a_this a_this_value o_this, ce_BA kA a_this_value o_this_value] : List va_W)) s.heap := hP
  unfold ff_J4_append_15ec4 at hf
  refine lv_aload_n hx hb dJ4_append_15ec4_0 rfl (lv_at hl 0 rfl) ?_
  refine lv_aload_n hx hb dJ4_append_15ec4_1 rfl (lv_at hl 1 rfl) ?_
  obtain ⟨u_1, he_2, hf⟩ := os_bd hf
  refine mg_callSU (wcs := [ce_K4 a_this a_this_value o_this, ce_BA kA a_this_value o_this_value]) (wrs := []) (ss := [ce_K4 a_this a_this_value o_this, ce_BA kA a_this_value o_this_value]) (hK.1 1 _ rfl).2 ⟨hx, hb, hml, hown, hts⟩ (mm_J5_append_cf1ce l hst zz D kA N a_this a_this_value o_this o_this_value a1 u_1 he_2) (va_cwSU 1 hts gJ4_append_15ec4_J5_append_cf1ce_s29 rfl rfl rfl (by decide +kernel) ⟨Nat.le_of_ble_eq_true rfl, Nat.le_of_ble_eq_true rfl⟩) (va_recv hK hP (q0 := pl [ce_K4 a_this a_this_value o_this, ce_BA kA a_this_value o_this_value] 0 0) rfl (sg_get rfl rfl)) rfl hl.1 (As := [.ref (zz 0 a1)]) (rest := []) rfl (Nat.le_of_ble_eq_true rfl) dJ4_append_15ec4_2 ⟨(by show 0 + 1 ≤ 1; omega), (by show 0 + 1000 ≤ 1000; omega)⟩ hK hP hD hS hA hZ (pm_seg [ce_K4 a_this a_this_value o_this, ce_BA kA a_this_value o_this_value] ([ce_K4 a_this a_this_value o_this, ce_BA kA a_this_value o_this_value] ++ []) [0, 1] 2 rfl (by decide) rfl (by decide)) (fun rv w1 H locs hq hP hD hS => ?_)
  obtain ⟨e_this_value_3, rfl, rfl⟩ := hq
  refine W.widen (k := 1) (n := 1000) (by show _ + 1 ≤ _; omega) (by show _ + 1000 ≤ _; omega) ?_
  have hP : va_P D vwCl (fl ([ce_K4 a_this e_this_value_3 u_1.1, ce_BA kA e_this_value_3 u_1.2] : List va_W)) _ := (show va_P D vwCl (fl ([ce_K4 a_this e_this_value_3 u_1.1, ce_BA kA e_this_value_3 u_1.2] ++ [] : List va_W)) _ from (by rw [fl_app]; exact hP))
  have hD : va_D A (fl ([ce_K4 a_this e_this_value_3 u_1.1, ce_BA kA e_this_value_3 u_1.2] : List va_W)) := (show va_D A (fl ([ce_K4 a_this e_this_value_3 u_1.1, ce_BA kA e_this_value_3 u_1.2] ++ [] : List va_W)) from (by rw [fl_app]; exact hD))
  refine W.eq (g2 := F0 m 5 ls [.ref a_this]) rfl ?_
  refine lv_pop hx hb dJ4_append_15ec4_5 rfl ?_
  refine lv_aload_n hx hb dJ4_append_15ec4_6 rfl (lv_at hl 0 rfl) ?_
  have hP : va_P D vwCl (fl ([ce_K4 a_this e_this_value_3 u_1.1, ce_BA kA e_this_value_3 u_1.2] : List va_W)) _ := hP
  have hD : va_D A (fl ([ce_K4 a_this e_this_value_3 u_1.1, ce_BA kA e_this_value_3 u_1.2] : List va_W)) := hD
  rw [← Option.some.inj hf]
  exact mg_reta ⟨e_this_value_3, rfl, rfl⟩ (by show _ ≤ 1; omega) (by show _ ≤ 1000; omega) hx hb hr (by first | exact Or.inl ⟨_, rfl⟩ | exact Or.inr ⟨_, rfl⟩) hlk hP hK hD hS dJ4_append_15ec4_7
def ff_J1_canEncode_fc78d (N : Nat) (a0 : Int32) : Option Int32 :=
  (if (255 : Int32) < a0 then some (0 : Int32) else some (1 : Int32))
set_option maxHeartbeats 4000000 in
set_option maxRecDepth 100000 in
theorem mm_J1_canEncode_fc78d (l : Launch) (hst : l.stackTraces = false) (zz : Nat → Nat → Nat) (D : va_G) (kA : Nat → ClassId) (N : Nat) (a0 : Int32) (out : Int32) (hf : ff_J1_canEncode_fc78d N a0 = some out) : mg_C l zz D kA yJ1_canEncode_fc78d wsJ1_canEncode_fc78d ({ frames := 0, cells := 0, slots := 0, locals := 0 } : Room) [.int a0] (fl ([] : List va_W)) (fun rv w1 => rv = some (.int out) ∧ w1 = (fl ([] : List va_W))) := by
  refine mg_of (cc := cJ1_canEncode_fc78d) (maxL := 1) (ret := (some .boolean)) (by decide) rfl (Nat.le_of_ble_eq_true rfl) ?_
  intro p e s m below meth c A B hZ hD hP hS ls hl
  obtain ⟨hx, hb, hr, hlk, hml, hown, hts, hK, hA, hnm⟩ := B
  have hown : s.vm.findClass RJ1 = some m.cls := hown
  have hl : lv_has ls 1 [(0, .int a0)] := hl
  have hP : va_P D vwCl (fl ([] : List va_W)) s.heap := hP
  unfold ff_J1_canEncode_fc78d at hf
  refine lv_iload_n hx hb dJ1_canEncode_fc78d_0 rfl (lv_at hl 0 rfl) ?_
  refine lv_sipush (v := 255) hx hb dJ1_canEncode_fc78d_1 (by decide) ?_
  refine lv_icmp_gt (tgt := 11) hx hb dJ1_canEncode_fc78d_4 (by decide) (fun hc_1 => ?_) (fun hc_1 => ?_)
  · rw [if_pos (show (255 : Int32) < a0 from hc_1)] at hf
    refine lv_iconst (v := 0) hx hb dJ1_canEncode_fc78d_11 (by decide) ?_
    have hP : va_P D vwCl (fl ([] : List va_W)) _ := hP
    have hD : va_D A (fl ([] : List va_W)) := hD
    rw [← Option.some.inj hf]
    exact mg_retz ⟨rfl, rfl⟩ (by show _ ≤ 0; omega) (by show _ ≤ 0; omega) hx hb hr rfl hlk hP hK hD hS dJ1_canEncode_fc78d_12
  · rw [if_neg (show ¬ ((255 : Int32) < a0) from hc_1)] at hf
    refine lv_iconst (v := 1) hx hb dJ1_canEncode_fc78d_7 (by decide) ?_
    refine lv_goto (tgt := 12) hx hb dJ1_canEncode_fc78d_8 (by decide) ?_
    have hP : va_P D vwCl (fl ([] : List va_W)) _ := hP
    have hD : va_D A (fl ([] : List va_W)) := hD
    rw [← Option.some.inj hf]
    exact mg_retz ⟨rfl, rfl⟩ (by show _ ≤ 0; omega) (by show _ ≤ 0; omega) hx hb hr rfl hlk hP hK hD hS dJ1_canEncode_fc78d_12
def ff_J5_append_3fe6f_b56 (N : Nat) (o_this : os_T) (o_this_value : os_T) (x1 : Int32) : Option (os_T × os_T) :=
  none
def ff_J5_append_3fe6f_b45 (N : Nat) (o_this : os_T) (o_this_value : os_T) (x1 : Int32) : Option (os_T × os_T) :=
  ((ff_J5_isLatin1_aae02 N o_this).bind fun u_11 => (if u_11 = 0 then ff_J5_append_3fe6f_b56 N o_this o_this_value x1 else none))
def ff_J5_append_3fe6f_b75 (N : Nat) (o_this : os_T) (o_this_value : os_T) : Option (os_T × os_T) :=
  some (o_this, o_this_value)
def ff_J5_append_3fe6f (N : Nat) (o_this : os_T) (o_this_value : os_T) (a1 : Int32) : Option (os_T × os_T) :=
  ((ff_J5_ensureCapacityInternal_d00df N o_this o_this_value ((os_I o_this 3) + (1 : Int32))).bind fun u_1 => ((ff_J5_isLatin1_aae02 N u_1.1).bind fun u_4 => (if u_4 = 0 then ff_J5_append_3fe6f_b45 N u_1.1 u_1.2 a1 else ((ff_J1_canEncode_fc78d N a1).bind fun u_7 => (if u_7 = 0 then ff_J5_append_3fe6f_b45 N u_1.1 u_1.2 a1 else (if os_in (os_I u_1.1 3) (ci_n u_1.2) then ff_J5_append_3fe6f_b75 N (ss_I u_1.1 3 ((os_I u_1.1 3) + (1 : Int32))) (ss_A u_1.2 0 (upd (os_A u_1.2 0) (Int32.toNatClampNeg (os_I u_1.1 3)) (vp_nar .byte ((Int32.toInt8 a1).toInt32)))) else none))))))
set_option maxHeartbeats 4000000 in
set_option maxRecDepth 100000 in
theorem mm_J5_append_3fe6f (l : Launch) (hst : l.stackTraces = false) (zz : Nat → Nat → Nat) (D : va_G) (kA : Nat → ClassId) (N : Nat) (a_this : Nat) (a_this_value : Nat) (o_this : os_T) (o_this_value : os_T) (a1 : Int32) (out : os_T × os_T) (hf : ff_J5_append_3fe6f N o_this o_this_value a1 = some out) : mg_C l zz D kA yJ5_append_3fe6f wsJ5_append_3fe6f ({ frames := 4, cells := 1, slots := 1000, locals := 104 } : Room) [.ref a_this, .int a1] (fl ([ce_K4 a_this a_this_value o_this, ce_BA kA a_this_value o_this_value] : List va_W)) (fun rv w1 => ∃ e_this_value : Nat, rv = some (.ref a_this) ∧ w1 = (fl ([ce_K4 a_this e_this_value out.1, ce_BA kA e_this_value out.2] : List va_W))) := by
  refine mg_of (cc := cJ5_append_3fe6f) (maxL := 2) (ret := (some (.object "java/lang/AbstractStringBuilder"))) (by decide) rfl (Nat.le_of_ble_eq_true rfl) ?_
  intro p e s m below meth c A B hZ hD hP hS ls hl
  obtain ⟨hx, hb, hr, hlk, hml, hown, hts, hK, hA, hnm⟩ := B
  have hown : s.vm.findClass RJ5 = some m.cls := hown
  have hl : lv_has ls 2 [(0, .ref a_this), (1, .int a1)] := hl
  have hP : va_P D vwCl (fl ([ce_K4 a_this a_this_value o_this, ce_BA kA a_this_value o_this_value] : List va_W)) s.heap := hP
  have hUJ4 : ∀ w ∈ u_ws RJ4 TJ4 4, w.before [.ref a_this, .int a1].toArray s = true := fun w h => hts w (List.mem_cons_of_mem _ (List.mem_append_right _ h))
  have hB56 : ∀ (o_this : os_T) (o_this_value : os_T) (x1 : Int32) (a_this_value : Nat) (H : Heap) (locs : List Loc) (ls : Array Slot), va_P D vwCl (fl ([ce_K4 a_this a_this_value o_this, ce_BA kA a_this_value o_this_value] : List va_W)) H → va_D A (fl ([ce_K4 a_this a_this_value o_this, ce_BA kA a_this_value o_this_value] : List va_W)) → va_S A s.heap H locs → lv_has ls 2 [(0, .ref a_this), (1, .int x1)] → ff_J5_append_3fe6f_b56 N o_this o_this_value x1 = some out → W p l e ({ frames := 4, cells := 1, slots := 1000, locals := 104 } : Room) s m [.ref a_this, .int a1].toArray below meth c H locs 1 1000 (MQ below (mg_Q D kA A (fun rv w1 => ∃ e_this_value : Nat, rv = some (.ref a_this) ∧ w1 = (fl ([ce_K4 a_this e_this_value out.1, ce_BA kA e_this_value out.2] : List va_W)))) [.ref a_this, .int a1].toArray s 1 1000 A) (F0 m 56 ls []) := by
    intro o_this o_this_value x1 a_this_value H locs ls hP hD hS hl hf
    unfold ff_J5_append_3fe6f_b56 at hf
    cases hf
  have hB45 : ∀ (o_this : os_T) (o_this_value : os_T) (x1 : Int32) (a_this_value : Nat) (H : Heap) (locs : List Loc) (ls : Array Slot), va_P D vwCl (fl ([ce_K4 a_this a_this_value o_this, ce_BA kA a_this_value o_this_value] : List va_W)) H → va_D A (fl ([ce_K4 a_this a_this_value o_this, ce_BA kA a_this_value o_this_value] : List va_W)) → va_S A s.heap H locs → lv_has ls 2 [(0, .ref a_this), (1, .int x1)] → ff_J5_append_3fe6f_b45 N o_this o_this_value x1 = some out → W p l e ({ frames := 4, cells := 1, slots := 1000, locals := 104 } : Room) s m [.ref a_this, .int a1].toArray below meth c H locs 1 1000 (MQ below (mg_Q D kA A (fun rv w1 => ∃ e_this_value : Nat, rv = some (.ref a_this) ∧ w1 = (fl ([ce_K4 a_this e_this_value out.1, ce_BA kA e_this_value out.2] : List va_W)))) [.ref a_this, .int a1].toArray s 1 1000 A) (F0 m 45 ls []) := by
    intro o_this o_this_value x1 a_this_value H locs ls hP hD hS hl hf
    unfold ff_J5_append_3fe6f_b45 at hf
    refine lv_aload_n hx hb dJ5_append_3fe6f_45 rfl (lv_at hl 0 rfl) ?_
    obtain ⟨u_11, he_12, hf⟩ := os_bd hf
    refine mg_callU (wcs := [ce_K4 a_this a_this_value o_this]) (wrs := [ce_BA kA a_this_value o_this_value]) (ss := [ce_K4 a_this a_this_value o_this, ce_BA kA a_this_value o_this_value]) ⟨hx, hb, hml, hown, hts⟩ (mm_J5_isLatin1_aae02 l hst zz D kA N a_this_value a_this o_this u_11 he_12) (va_cwU 0 hts gJ5_append_3fe6f_J5_isLatin1_aae02_u83J4 rfl rfl rfl rfl (by decide +kernel) ⟨Nat.le_of_ble_eq_true rfl, Nat.le_of_ble_eq_true rfl⟩) (va_recv hK hP (q0 := pl [ce_K4 a_this a_this_value o_this, ce_BA kA a_this_value o_this_value] 0 0) rfl (sg_get rfl rfl)) rfl hl.1 (As := []) (rest := []) rfl (Nat.le_of_ble_eq_true rfl) dJ5_append_3fe6f_46 ⟨(by show 1 + 0 ≤ 1; omega), (by show 1000 + 0 ≤ 1000; omega)⟩ hK hP hD hS hA hZ (pm_seg [ce_K4 a_this a_this_value o_this, ce_BA kA a_this_value o_this_value] ([ce_K4 a_this a_this_value o_this] ++ [ce_BA kA a_this_value o_this_value]) [0, 1] 2 rfl (by decide) rfl (by decide)) (fun rv w1 H locs hq hP hD hS => ?_)
    obtain ⟨rfl, rfl⟩ := hq
    refine W.widen (k := 1) (n := 1000) (by show _ + 0 ≤ _; omega) (by show _ + 0 ≤ _; omega) ?_
    have hP : va_P D vwCl (fl ([ce_K4 a_this a_this_value o_this, ce_BA kA a_this_value o_this_value] : List va_W)) _ := (show va_P D vwCl (fl ([ce_K4 a_this a_this_value o_this] ++ [ce_BA kA a_this_value o_this_value] : List va_W)) _ from (by rw [fl_app]; exact hP))
    have hD : va_D A (fl ([ce_K4 a_this a_this_value o_this, ce_BA kA a_this_value o_this_value] : List va_W)) := (show va_D A (fl ([ce_K4 a_this a_this_value o_this] ++ [ce_BA kA a_this_value o_this_value] : List va_W)) from (by rw [fl_app]; exact hD))
    refine W.eq (g2 := F0 m 49 ls [.int u_11]) rfl ?_
    refine lv_if_eq (tgt := 56) hx hb dJ5_append_3fe6f_49 (by decide) (fun hc_13 => ?_) (fun hc_13 => ?_)
    · rw [if_pos (show u_11 = 0 from hc_13)] at hf
      exact hB56 o_this o_this_value x1 a_this_value _ _ _ hP hD hS (lv_sub hl [0, 1] rfl) hf
    · rw [if_neg (show ¬ (u_11 = 0) from hc_13)] at hf
      cases hf
  have hB75 : ∀ (o_this : os_T) (o_this_value : os_T) (a_this_value : Nat) (H : Heap) (locs : List Loc) (ls : Array Slot), va_P D vwCl (fl ([ce_K4 a_this a_this_value o_this, ce_BA kA a_this_value o_this_value] : List va_W)) H → va_D A (fl ([ce_K4 a_this a_this_value o_this, ce_BA kA a_this_value o_this_value] : List va_W)) → va_S A s.heap H locs → lv_has ls 2 [(0, .ref a_this)] → ff_J5_append_3fe6f_b75 N o_this o_this_value = some out → W p l e ({ frames := 4, cells := 1, slots := 1000, locals := 104 } : Room) s m [.ref a_this, .int a1].toArray below meth c H locs 1 1000 (MQ below (mg_Q D kA A (fun rv w1 => ∃ e_this_value : Nat, rv = some (.ref a_this) ∧ w1 = (fl ([ce_K4 a_this e_this_value out.1, ce_BA kA e_this_value out.2] : List va_W)))) [.ref a_this, .int a1].toArray s 1 1000 A) (F0 m 75 ls []) := by
    intro o_this o_this_value a_this_value H locs ls hP hD hS hl hf
    unfold ff_J5_append_3fe6f_b75 at hf
    refine lv_aload_n hx hb dJ5_append_3fe6f_75 rfl (lv_at hl 0 rfl) ?_
    have hP : va_P D vwCl (fl ([ce_K4 a_this a_this_value o_this, ce_BA kA a_this_value o_this_value] : List va_W)) _ := hP
    have hD : va_D A (fl ([ce_K4 a_this a_this_value o_this, ce_BA kA a_this_value o_this_value] : List va_W)) := hD
    rw [← Option.some.inj hf]
    exact mg_reta ⟨a_this_value, rfl, rfl⟩ (by show _ ≤ 1; omega) (by show _ ≤ 1000; omega) hx hb hr (by first | exact Or.inl ⟨_, rfl⟩ | exact Or.inr ⟨_, rfl⟩) hlk hP hK hD hS dJ5_append_3fe6f_76
  unfold ff_J5_append_3fe6f at hf
  refine lv_aload_n hx hb dJ5_append_3fe6f_0 rfl (lv_at hl 0 rfl) ?_
  refine lv_aload_n hx hb dJ5_append_3fe6f_1 rfl (lv_at hl 0 rfl) ?_
  refine va_get (D := D) (ci := 1) (v := .int (os_I o_this 3)) (C := RJ4) (T := TJ4) (N := 4) hx hb hUJ4 (fun _ h9 => h9) hown hK hP (pl [ce_K4 a_this a_this_value o_this, ce_BA kA a_this_value o_this_value] 0 0) (sg_get rfl rfl) rfl 3 (by decide) (hts (Cond.fieldLink RJ5 79 "java/lang/AbstractStringBuilder" "count" "I") (List.mem_of_getElem? (i := 1) rfl)) (fun _ h9 => h9) rfl dJ5_append_3fe6f_2 ?_
  refine lv_iconst (v := 1) hx hb dJ5_append_3fe6f_5 (by decide) ?_
  refine lv_iadd hx hb dJ5_append_3fe6f_6 ?_
  obtain ⟨u_1, he_2, hf⟩ := os_bd hf
  refine mg_callU (wcs := [ce_K4 a_this a_this_value o_this, ce_BA kA a_this_value o_this_value]) (wrs := []) (ss := [ce_K4 a_this a_this_value o_this, ce_BA kA a_this_value o_this_value]) ⟨hx, hb, hml, hown, hts⟩ (mm_J5_ensureCapacityInternal_d00df l hst zz D kA N a_this a_this_value o_this o_this_value ((os_I o_this 3) + (1 : Int32)) u_1 he_2) (va_cwU 1 hts gJ5_append_3fe6f_J5_ensureCapacityInternal_d00df_u100J4 rfl rfl rfl rfl (by decide +kernel) ⟨Nat.le_of_ble_eq_true rfl, Nat.le_of_ble_eq_true rfl⟩) (va_recv hK hP (q0 := pl [ce_K4 a_this a_this_value o_this, ce_BA kA a_this_value o_this_value] 0 0) rfl (sg_get rfl rfl)) rfl hl.1 (As := [.int ((os_I o_this 3) + (1 : Int32))]) (rest := []) rfl (Nat.le_of_ble_eq_true rfl) dJ5_append_3fe6f_7 ⟨(by show 0 + 1 ≤ 1; omega), (by show 0 + 1000 ≤ 1000; omega)⟩ hK hP hD hS hA hZ (pm_seg [ce_K4 a_this a_this_value o_this, ce_BA kA a_this_value o_this_value] ([ce_K4 a_this a_this_value o_this, ce_BA kA a_this_value o_this_value] ++ []) [0, 1] 2 rfl (by decide) rfl (by decide)) (fun rv w1 H locs hq hP hD hS => ?_)
  obtain ⟨e_this_value_3, rfl, rfl⟩ := hq
  refine W.widen (k := 1) (n := 1000) (by show _ + 1 ≤ _; omega) (by show _ + 1000 ≤ _; omega) ?_
  have hP : va_P D vwCl (fl ([ce_K4 a_this e_this_value_3 u_1.1, ce_BA kA e_this_value_3 u_1.2] : List va_W)) _ := (show va_P D vwCl (fl ([ce_K4 a_this e_this_value_3 u_1.1, ce_BA kA e_this_value_3 u_1.2] ++ [] : List va_W)) _ from (by rw [fl_app]; exact hP))
  have hD : va_D A (fl ([ce_K4 a_this e_this_value_3 u_1.1, ce_BA kA e_this_value_3 u_1.2] : List va_W)) := (show va_D A (fl ([ce_K4 a_this e_this_value_3 u_1.1, ce_BA kA e_this_value_3 u_1.2] ++ [] : List va_W)) from (by rw [fl_app]; exact hD))
  refine W.eq (g2 := F0 m 10 ls []) rfl ?_
  refine lv_aload_n hx hb dJ5_append_3fe6f_10 rfl (lv_at hl 0 rfl) ?_
  obtain ⟨u_4, he_5, hf⟩ := os_bd hf
  refine mg_callU (wcs := [ce_K4 a_this e_this_value_3 u_1.1]) (wrs := [ce_BA kA e_this_value_3 u_1.2]) (ss := [ce_K4 a_this e_this_value_3 u_1.1, ce_BA kA e_this_value_3 u_1.2]) ⟨hx, hb, hml, hown, hts⟩ (mm_J5_isLatin1_aae02 l hst zz D kA N e_this_value_3 a_this u_1.1 u_4 he_5) (va_cwU 0 hts gJ5_append_3fe6f_J5_isLatin1_aae02_u83J4 rfl rfl rfl rfl (by decide +kernel) ⟨Nat.le_of_ble_eq_true rfl, Nat.le_of_ble_eq_true rfl⟩) (va_recv hK hP (q0 := pl [ce_K4 a_this e_this_value_3 u_1.1, ce_BA kA e_this_value_3 u_1.2] 0 0) rfl (sg_get rfl rfl)) rfl hl.1 (As := []) (rest := []) rfl (Nat.le_of_ble_eq_true rfl) dJ5_append_3fe6f_11 ⟨(by show 1 + 0 ≤ 1; omega), (by show 1000 + 0 ≤ 1000; omega)⟩ hK hP hD hS hA hZ (pm_seg [ce_K4 a_this e_this_value_3 u_1.1, ce_BA kA e_this_value_3 u_1.2] ([ce_K4 a_this e_this_value_3 u_1.1] ++ [ce_BA kA e_this_value_3 u_1.2]) [0, 1] 2 rfl (by decide) rfl (by decide)) (fun rv w1 H locs hq hP hD hS => ?_)
  obtain ⟨rfl, rfl⟩ := hq
  refine W.widen (k := 1) (n := 1000) (by show _ + 0 ≤ _; omega) (by show _ + 0 ≤ _; omega) ?_
  have hP : va_P D vwCl (fl ([ce_K4 a_this e_this_value_3 u_1.1, ce_BA kA e_this_value_3 u_1.2] : List va_W)) _ := (show va_P D vwCl (fl ([ce_K4 a_this e_this_value_3 u_1.1] ++ [ce_BA kA e_this_value_3 u_1.2] : List va_W)) _ from (by rw [fl_app]; exact hP))
  have hD : va_D A (fl ([ce_K4 a_this e_this_value_3 u_1.1, ce_BA kA e_this_value_3 u_1.2] : List va_W)) := (show va_D A (fl ([ce_K4 a_this e_this_value_3 u_1.1] ++ [ce_BA kA e_this_value_3 u_1.2] : List va_W)) from (by rw [fl_app]; exact hD))
  refine W.eq (g2 := F0 m 14 ls [.int u_4]) rfl ?_
  refine lv_if_eq (tgt := 45) hx hb dJ5_append_3fe6f_14 (by decide) (fun hc_6 => ?_) (fun hc_6 => ?_)
  · rw [if_pos (show u_4 = 0 from hc_6)] at hf
    exact hB45 u_1.1 u_1.2 a1 e_this_value_3 _ _ _ hP hD hS (lv_sub hl [0, 1] rfl) hf
  · rw [if_neg (show ¬ (u_4 = 0) from hc_6)] at hf
    refine lv_iload_n hx hb dJ5_append_3fe6f_17 rfl (lv_at hl 1 rfl) ?_
    obtain ⟨u_7, he_8, hf⟩ := os_bd hf
    refine mg_callS (wcs := []) (wrs := [ce_K4 a_this e_this_value_3 u_1.1, ce_BA kA e_this_value_3 u_1.2]) (ss := [ce_K4 a_this e_this_value_3 u_1.1, ce_BA kA e_this_value_3 u_1.2]) ⟨hx, hb, hml, hown, hts⟩ (mm_J1_canEncode_fc78d l hst zz D kA N a1 u_7 he_8) (va_cwS 1 hts gJ5_append_3fe6f_J1_canEncode_fc78d rfl rfl rfl (by decide +kernel) ⟨Nat.le_of_ble_eq_true rfl, Nat.le_of_ble_eq_true rfl⟩) rfl hl.1 (As := [.int a1]) (rest := []) rfl (Nat.le_of_ble_eq_true rfl) dJ5_append_3fe6f_18 ⟨(by show 1 + 0 ≤ 1; omega), (by show 1000 + 0 ≤ 1000; omega)⟩ hK hP hD hS hA hZ (pm_seg [ce_K4 a_this e_this_value_3 u_1.1, ce_BA kA e_this_value_3 u_1.2] ([] ++ [ce_K4 a_this e_this_value_3 u_1.1, ce_BA kA e_this_value_3 u_1.2]) [0, 1] 2 rfl (by decide) rfl (by decide)) (fun rv w1 H locs hq hP hD hS => ?_)
    obtain ⟨rfl, rfl⟩ := hq
    refine W.widen (k := 1) (n := 1000) (by show _ + 0 ≤ _; omega) (by show _ + 0 ≤ _; omega) ?_
    have hP : va_P D vwCl (fl ([ce_K4 a_this e_this_value_3 u_1.1, ce_BA kA e_this_value_3 u_1.2] : List va_W)) _ := (show va_P D vwCl (fl ([] ++ [ce_K4 a_this e_this_value_3 u_1.1, ce_BA kA e_this_value_3 u_1.2] : List va_W)) _ from (by rw [fl_app]; exact hP))
    have hD : va_D A (fl ([ce_K4 a_this e_this_value_3 u_1.1, ce_BA kA e_this_value_3 u_1.2] : List va_W)) := (show va_D A (fl ([] ++ [ce_K4 a_this e_this_value_3 u_1.1, ce_BA kA e_this_value_3 u_1.2] : List va_W)) from (by rw [fl_app]; exact hD))
    refine W.eq (g2 := F0 m 21 ls [.int u_7]) rfl ?_
    refine lv_if_eq (tgt := 45) hx hb dJ5_append_3fe6f_21 (by decide) (fun hc_9 => ?_) (fun hc_9 => ?_)
    · rw [if_pos (show u_7 = 0 from hc_9)] at hf
      exact hB45 u_1.1 u_1.2 a1 e_this_value_3 _ _ _ hP hD hS (lv_sub hl [0, 1] rfl) hf
    · rw [if_neg (show ¬ (u_7 = 0) from hc_9)] at hf
      refine lv_aload_n hx hb dJ5_append_3fe6f_24 rfl (lv_at hl 0 rfl) ?_
      refine va_get (D := D) (ci := 1) (v := .ref e_this_value_3) (C := RJ4) (T := TJ4) (N := 4) hx hb hUJ4 (fun _ h9 => h9) hown hK hP (pl [ce_K4 a_this e_this_value_3 u_1.1, ce_BA kA e_this_value_3 u_1.2] 0 0) (sg_get rfl rfl) rfl 0 (by decide) (hts (Cond.fieldLink RJ5 15 "java/lang/AbstractStringBuilder" "value" "[B") (List.mem_of_getElem? (i := 2) rfl)) (fun _ h9 => h9) rfl dJ5_append_3fe6f_25 ?_
      refine lv_aload_n hx hb dJ5_append_3fe6f_28 rfl (lv_at hl 0 rfl) ?_
      refine lv_dup hx hb dJ5_append_3fe6f_29 rfl ?_
      refine va_get (D := D) (ci := 1) (v := .int (os_I u_1.1 3)) (C := RJ4) (T := TJ4) (N := 4) hx hb hUJ4 (fun _ h9 => h9) hown hK hP (pl [ce_K4 a_this e_this_value_3 u_1.1, ce_BA kA e_this_value_3 u_1.2] 0 0) (sg_get rfl rfl) rfl 3 (by decide) (hts (Cond.fieldLink RJ5 79 "java/lang/AbstractStringBuilder" "count" "I") (List.mem_of_getElem? (i := 1) rfl)) (fun _ h9 => h9) rfl dJ5_append_3fe6f_30 ?_
      refine lv_dup_x1 hx hb dJ5_append_3fe6f_33 rfl rfl ?_
      refine lv_iconst (v := 1) hx hb dJ5_append_3fe6f_34 (by decide) ?_
      refine lv_iadd hx hb dJ5_append_3fe6f_35 ?_
      refine va_put (D := D) (ci := 1) (v := .int ((os_I u_1.1 3) + (1 : Int32))) (ty := .int) (C := RJ4) (T := TJ4) (N := 4) hx hb hUJ4 (fun _ h9 => h9) tyJ4 tyJ4_ok nmJ4 hown hK hP hD hS (pl [ce_K4 a_this e_this_value_3 u_1.1, ce_BA kA e_this_value_3 u_1.2] 0 0) (sg_get rfl rfl) rfl 3 (by decide) (hts (Cond.fieldLink RJ5 79 "java/lang/AbstractStringBuilder" "count" "I") (List.mem_of_getElem? (i := 1) rfl)) (fun _ h9 => h9) rfl (tyJ4_ok 3 (by decide)) rfl rfl (Nat.le_of_ble_eq_true rfl) dJ5_append_3fe6f_36 (fun H locs hP hD hS => ?_)
      have hP : va_P D vwCl (fl ([ce_K4 a_this e_this_value_3 (ss_I u_1.1 3 ((os_I u_1.1 3) + (1 : Int32))), ce_BA kA e_this_value_3 u_1.2] : List va_W)) _ := sg_P rfl (Nat.le_of_ble_eq_true rfl) rfl hP
      have hD : va_D A (fl ([ce_K4 a_this e_this_value_3 (ss_I u_1.1 3 ((os_I u_1.1 3) + (1 : Int32))), ce_BA kA e_this_value_3 u_1.2] : List va_W)) := sg_D rfl (Nat.le_of_ble_eq_true rfl) rfl hD
      refine lv_iload_n hx hb dJ5_append_3fe6f_39 rfl (lv_at hl 1 rfl) ?_
      refine lv_i2b hx hb dJ5_append_3fe6f_40 rfl ?_
      obtain ⟨hi_10, hf⟩ := os_if hf
      refine va_bast hx hb hK hP hD hS (pl [ce_K4 a_this e_this_value_3 (ss_I u_1.1 3 ((os_I u_1.1 3) + (1 : Int32))), ce_BA kA e_this_value_3 u_1.2] 1 0) 2 (sg_get rfl rfl) rfl hi_10 dJ5_append_3fe6f_41 (fun H locs hP hD hS => ?_)
      have hP : va_P D vwCl (fl ([ce_K4 a_this e_this_value_3 (ss_I u_1.1 3 ((os_I u_1.1 3) + (1 : Int32))), ce_BA kA e_this_value_3 (ss_A u_1.2 0 (upd (os_A u_1.2 0) (Int32.toNatClampNeg (os_I u_1.1 3)) (vp_nar .byte ((Int32.toInt8 a1).toInt32))))] : List va_W)) _ := sg_P rfl (Nat.le_of_ble_eq_true rfl) rfl hP
      have hD : va_D A (fl ([ce_K4 a_this e_this_value_3 (ss_I u_1.1 3 ((os_I u_1.1 3) + (1 : Int32))), ce_BA kA e_this_value_3 (ss_A u_1.2 0 (upd (os_A u_1.2 0) (Int32.toNatClampNeg (os_I u_1.1 3)) (vp_nar .byte ((Int32.toInt8 a1).toInt32))))] : List va_W)) := sg_D rfl (Nat.le_of_ble_eq_true rfl) rfl hD
      refine lv_goto (tgt := 75) hx hb dJ5_append_3fe6f_42 (by decide) ?_
      exact hB75 (ss_I u_1.1 3 ((os_I u_1.1 3) + (1 : Int32))) (ss_A u_1.2 0 (upd (os_A u_1.2 0) (Int32.toNatClampNeg (os_I u_1.1 3)) (vp_nar .byte ((Int32.toInt8 a1).toInt32)))) e_this_value_3 _ _ _ hP hD hS (lv_sub hl [0] rfl) hf
def ff_J4_append_cf468 (N : Nat) (o_this : os_T) (o_this_value : os_T) (a1 : Int32) : Option (os_T × os_T) :=
  ((ff_J5_append_3fe6f N o_this o_this_value a1).bind fun u_1 => some (u_1.1, u_1.2))
set_option maxHeartbeats 4000000 in
set_option maxRecDepth 100000 in
theorem mm_J4_append_cf468 (l : Launch) (hst : l.stackTraces = false) (zz : Nat → Nat → Nat) (D : va_G) (kA : Nat → ClassId) (N : Nat) (a_this : Nat) (a_this_value : Nat) (o_this : os_T) (o_this_value : os_T) (a1 : Int32) (out : os_T × os_T) (hf : ff_J4_append_cf468 N o_this o_this_value a1 = some out) : mg_C l zz D kA yJ4_append_cf468 wsJ4_append_cf468 ({ frames := 5, cells := 1, slots := 1000, locals := 125 } : Room) [.ref a_this, .int a1] (fl ([ce_K4 a_this a_this_value o_this, ce_BA kA a_this_value o_this_value] : List va_W)) (fun rv w1 => ∃ e_this_value : Nat, rv = some (.ref a_this) ∧ w1 = (fl ([ce_K4 a_this e_this_value out.1, ce_BA kA e_this_value out.2] : List va_W))) := by
  refine mg_of (cc := cJ4_append_cf468) (maxL := 2) (ret := (some (.object "java/lang/StringBuilder"))) (by decide) rfl (Nat.le_of_ble_eq_true rfl) ?_
  intro p e s m below meth c A B hZ hD hP hS ls hl
  obtain ⟨hx, hb, hr, hlk, hml, hown, hts, hK, hA, hnm⟩ := B
  have hown : s.vm.findClass RJ4 = some m.cls := hown
  have hl : lv_has ls 2 [(0, .ref a_this), (1, .int a1)] := hl
  have hP : va_P D vwCl (fl ([ce_K4 a_this a_this_value o_this, ce_BA kA a_this_value o_this_value] : List va_W)) s.heap := hP
  unfold ff_J4_append_cf468 at hf
  refine lv_aload_n hx hb dJ4_append_cf468_0 rfl (lv_at hl 0 rfl) ?_
  refine lv_iload_n hx hb dJ4_append_cf468_1 rfl (lv_at hl 1 rfl) ?_
  obtain ⟨u_1, he_2, hf⟩ := os_bd hf
  refine mg_callSU (wcs := [ce_K4 a_this a_this_value o_this, ce_BA kA a_this_value o_this_value]) (wrs := []) (ss := [ce_K4 a_this a_this_value o_this, ce_BA kA a_this_value o_this_value]) (hK.1 1 _ rfl).2 ⟨hx, hb, hml, hown, hts⟩ (mm_J5_append_3fe6f l hst zz D kA N a_this a_this_value o_this o_this_value a1 u_1 he_2) (va_cwSU 1 hts gJ4_append_cf468_J5_append_3fe6f_s50 rfl rfl rfl (by decide +kernel) ⟨Nat.le_of_ble_eq_true rfl, Nat.le_of_ble_eq_true rfl⟩) (va_recv hK hP (q0 := pl [ce_K4 a_this a_this_value o_this, ce_BA kA a_this_value o_this_value] 0 0) rfl (sg_get rfl rfl)) rfl hl.1 (As := [.int a1]) (rest := []) rfl (Nat.le_of_ble_eq_true rfl) dJ4_append_cf468_2 ⟨(by show 0 + 1 ≤ 1; omega), (by show 0 + 1000 ≤ 1000; omega)⟩ hK hP hD hS hA hZ (pm_seg [ce_K4 a_this a_this_value o_this, ce_BA kA a_this_value o_this_value] ([ce_K4 a_this a_this_value o_this, ce_BA kA a_this_value o_this_value] ++ []) [0, 1] 2 rfl (by decide) rfl (by decide)) (fun rv w1 H locs hq hP hD hS => ?_)
  obtain ⟨e_this_value_3, rfl, rfl⟩ := hq
  refine W.widen (k := 1) (n := 1000) (by show _ + 1 ≤ _; omega) (by show _ + 1000 ≤ _; omega) ?_
  have hP : va_P D vwCl (fl ([ce_K4 a_this e_this_value_3 u_1.1, ce_BA kA e_this_value_3 u_1.2] : List va_W)) _ := (show va_P D vwCl (fl ([ce_K4 a_this e_this_value_3 u_1.1, ce_BA kA e_this_value_3 u_1.2] ++ [] : List va_W)) _ from (by rw [fl_app]; exact hP))
  have hD : va_D A (fl ([ce_K4 a_this e_this_value_3 u_1.1, ce_BA kA e_this_value_3 u_1.2] : List va_W)) := (show va_D A (fl ([ce_K4 a_this e_this_value_3 u_1.1, ce_BA kA e_this_value_3 u_1.2] ++ [] : List va_W)) from (by rw [fl_app]; exact hD))
  refine W.eq (g2 := F0 m 5 ls [.ref a_this]) rfl ?_
  refine lv_pop hx hb dJ4_append_cf468_5 rfl ?_
  refine lv_aload_n hx hb dJ4_append_cf468_6 rfl (lv_at hl 0 rfl) ?_
  have hP : va_P D vwCl (fl ([ce_K4 a_this e_this_value_3 u_1.1, ce_BA kA e_this_value_3 u_1.2] : List va_W)) _ := hP
  have hD : va_D A (fl ([ce_K4 a_this e_this_value_3 u_1.1, ce_BA kA e_this_value_3 u_1.2] : List va_W)) := hD
  rw [← Option.some.inj hf]
  exact mg_reta ⟨e_this_value_3, rfl, rfl⟩ (by show _ ≤ 1; omega) (by show _ ≤ 1000; omega) hx hb hr (by first | exact Or.inl ⟨_, rfl⟩ | exact Or.inr ⟨_, rfl⟩) hlk hP hK hD hS dJ4_append_cf468_7
def ff_J6_stringSize_0f7a4_c16 (N : Nat) (k16 : (Int32 × Int32 × Int32 × Int32) → Option Int32) (x0 : Int32) (x1 : Int32) (x2 : Int32) (x3 : Int32) : Option Int32 :=
  (if (10 : Int32) ≤ x3 then some ((10 : Int32) + x1) else (if x0 ≤ x2 then k16 (x0, x1, (10 : Int32) * x2, x3 + 1) else some (x3 + x1)))
def ff_J6_stringSize_0f7a4_l16 (N : Nat) : Nat → (Int32 × Int32 × Int32 × Int32) → Option Int32 := os_loop (fun k16 s1 => ff_J6_stringSize_0f7a4_c16 N k16 s1.1 s1.2.1 s1.2.2.1 s1.2.2.2)
def ff_J6_stringSize_0f7a4_b11 (N : Nat) (x0 : Int32) (x1 : Int32) : Option Int32 :=
  ff_J6_stringSize_0f7a4_l16 N N (x0, x1, (-10 : Int32), (1 : Int32))
def ff_J6_stringSize_0f7a4 (N : Nat) (a0 : Int32) : Option Int32 :=
  (if a0 < 0 then ff_J6_stringSize_0f7a4_b11 N a0 (1 : Int32) else ff_J6_stringSize_0f7a4_b11 N (0 - a0) (0 : Int32))
set_option maxHeartbeats 4000000 in
set_option maxRecDepth 100000 in
theorem mm_J6_stringSize_0f7a4 (l : Launch) (hst : l.stackTraces = false) (zz : Nat → Nat → Nat) (D : va_G) (kA : Nat → ClassId) (N : Nat) (a0 : Int32) (out : Int32) (hf : ff_J6_stringSize_0f7a4 N a0 = some out) : mg_C l zz D kA yJ6_stringSize_0f7a4 wsJ6_stringSize_0f7a4 ({ frames := 0, cells := 0, slots := 0, locals := 0 } : Room) [.int a0] (fl ([] : List va_W)) (fun rv w1 => rv = some (.int out) ∧ w1 = (fl ([] : List va_W))) := by
  refine mg_of (cc := cJ6_stringSize_0f7a4) (maxL := 4) (ret := (some .int)) (by decide) rfl (Nat.le_of_ble_eq_true rfl) ?_
  intro p e s m below meth c A B hZ hD hP hS ls hl
  obtain ⟨hx, hb, hr, hlk, hml, hown, hts, hK, hA, hnm⟩ := B
  have hown : s.vm.findClass RJ6 = some m.cls := hown
  have hl : lv_has ls 4 [(0, .int a0)] := hl
  have hP : va_P D vwCl (fl ([] : List va_W)) s.heap := hP
  have hL16 : ∀ (n : Nat) (x0 : Int32) (x1 : Int32) (x2 : Int32) (x3 : Int32) (H : Heap) (locs : List Loc) (ls : Array Slot), va_P D vwCl (fl ([] : List va_W)) H → va_D A (fl ([] : List va_W)) → va_S A s.heap H locs → lv_has ls 4 [(0, .int x0), (1, .int x1), (2, .int x2), (3, .int x3)] → ff_J6_stringSize_0f7a4_l16 N n (x0, x1, x2, x3) = some out → W p l e ({ frames := 0, cells := 0, slots := 0, locals := 0 } : Room) s m [.int a0].toArray below meth c H locs 0 0 (MQ below (mg_Q D kA A (fun rv w1 => rv = some (.int out) ∧ w1 = (fl ([] : List va_W)))) [.int a0].toArray s 0 0 A) (F0 m 16 ls []) := by
    intro n
    induction n with
    | zero => intro x0 x1 x2 x3 H locs ls _ _ _ _ hf; cases hf
    | succ n hk16 =>
      intro x0 x1 x2 x3 H locs ls hP hD hS hl hf
      have hf : ff_J6_stringSize_0f7a4_c16 N (ff_J6_stringSize_0f7a4_l16 N n) x0 x1 x2 x3 = some out := hf
      generalize hke : ff_J6_stringSize_0f7a4_l16 N n = k16 at hk16 hf
      unfold ff_J6_stringSize_0f7a4_c16 at hf
      refine lv_iload_n hx hb dJ6_stringSize_0f7a4_16 rfl (lv_at hl 3 rfl) ?_
      refine lv_bipush (v := 10) hx hb dJ6_stringSize_0f7a4_17 (by decide) ?_
      refine lv_icmp_ge (tgt := 42) hx hb dJ6_stringSize_0f7a4_19 (by decide) (fun hc_2 => ?_) (fun hc_2 => ?_)
      · rw [if_pos (show (10 : Int32) ≤ x3 from hc_2)] at hf
        refine lv_bipush (v := 10) hx hb dJ6_stringSize_0f7a4_42 (by decide) ?_
        refine lv_iload_n hx hb dJ6_stringSize_0f7a4_44 rfl (lv_at hl 1 rfl) ?_
        refine lv_iadd hx hb dJ6_stringSize_0f7a4_45 ?_
        have hP : va_P D vwCl (fl ([] : List va_W)) _ := hP
        have hD : va_D A (fl ([] : List va_W)) := hD
        rw [← Option.some.inj hf]
        exact mg_reti ⟨rfl, rfl⟩ (by show _ ≤ 0; omega) (by show _ ≤ 0; omega) hx hb hr hlk hP hK hD hS dJ6_stringSize_0f7a4_46
      · rw [if_neg (show ¬ ((10 : Int32) ≤ x3) from hc_2)] at hf
        refine lv_iload_n hx hb dJ6_stringSize_0f7a4_22 rfl (lv_at hl 0 rfl) ?_
        refine lv_iload_n hx hb dJ6_stringSize_0f7a4_23 rfl (lv_at hl 2 rfl) ?_
        refine lv_icmp_le (tgt := 31) hx hb dJ6_stringSize_0f7a4_24 (by decide) (fun hc_3 => ?_) (fun hc_3 => ?_)
        · rw [if_pos (show x0 ≤ x2 from hc_3)] at hf
          refine lv_bipush (v := 10) hx hb dJ6_stringSize_0f7a4_31 (by decide) ?_
          refine lv_iload_n hx hb dJ6_stringSize_0f7a4_33 rfl (lv_at hl 2 rfl) ?_
          refine lv_imul hx hb dJ6_stringSize_0f7a4_34 ?_
          refine lv_istore_n (lv' := [(2, .int ((10 : Int32) * x2)), (0, .int x0), (1, .int x1), (3, .int x3)]) hx hb dJ6_stringSize_0f7a4_35 rfl hl (by decide) rfl (fun ls hl => ?_)
          refine lv_iinc (v := x3 + 1) (lv' := [(3, .int (x3 + 1)), (2, .int ((10 : Int32) * x2)), (0, .int x0), (1, .int x1)]) hx hb dJ6_stringSize_0f7a4_36 hl (k := 3) rfl rfl (by decide) rfl (fun ls hl => ?_)
          refine lv_goto (tgt := 16) hx hb dJ6_stringSize_0f7a4_39 (by decide) ?_
          exact hk16 x0 x1 ((10 : Int32) * x2) (x3 + 1) _ _ _ hP hD hS (lv_sub hl [2, 3, 1, 0] rfl) hf
        · rw [if_neg (show ¬ (x0 ≤ x2) from hc_3)] at hf
          refine lv_iload_n hx hb dJ6_stringSize_0f7a4_27 rfl (lv_at hl 3 rfl) ?_
          refine lv_iload_n hx hb dJ6_stringSize_0f7a4_28 rfl (lv_at hl 1 rfl) ?_
          refine lv_iadd hx hb dJ6_stringSize_0f7a4_29 ?_
          have hP : va_P D vwCl (fl ([] : List va_W)) _ := hP
          have hD : va_D A (fl ([] : List va_W)) := hD
          rw [← Option.some.inj hf]
          exact mg_reti ⟨rfl, rfl⟩ (by show _ ≤ 0; omega) (by show _ ≤ 0; omega) hx hb hr hlk hP hK hD hS dJ6_stringSize_0f7a4_30
  have hB11 : ∀ (x0 : Int32) (x1 : Int32) (H : Heap) (locs : List Loc) (ls : Array Slot), va_P D vwCl (fl ([] : List va_W)) H → va_D A (fl ([] : List va_W)) → va_S A s.heap H locs → lv_has ls 4 [(0, .int x0), (1, .int x1)] → ff_J6_stringSize_0f7a4_b11 N x0 x1 = some out → W p l e ({ frames := 0, cells := 0, slots := 0, locals := 0 } : Room) s m [.int a0].toArray below meth c H locs 0 0 (MQ below (mg_Q D kA A (fun rv w1 => rv = some (.int out) ∧ w1 = (fl ([] : List va_W)))) [.int a0].toArray s 0 0 A) (F0 m 11 ls []) := by
    intro x0 x1 H locs ls hP hD hS hl hf
    unfold ff_J6_stringSize_0f7a4_b11 at hf
    refine lv_bipush (v := (-10)) hx hb dJ6_stringSize_0f7a4_11 (by decide) ?_
    refine lv_istore_n (lv' := [(2, .int (-10 : Int32)), (0, .int x0), (1, .int x1)]) hx hb dJ6_stringSize_0f7a4_13 rfl hl (by decide) rfl (fun ls hl => ?_)
    refine lv_iconst (v := 1) hx hb dJ6_stringSize_0f7a4_14 (by decide) ?_
    refine lv_istore_n (lv' := [(3, .int (1 : Int32)), (2, .int (-10 : Int32)), (0, .int x0), (1, .int x1)]) hx hb dJ6_stringSize_0f7a4_15 rfl hl (by decide) rfl (fun ls hl => ?_)
    exact hL16 N x0 x1 (-10 : Int32) (1 : Int32) _ _ _ hP hD hS (lv_sub hl [2, 3, 1, 0] rfl) hf
  unfold ff_J6_stringSize_0f7a4 at hf
  refine lv_iconst (v := 1) hx hb dJ6_stringSize_0f7a4_0 (by decide) ?_
  refine lv_istore_n (lv' := [(1, .int (1 : Int32)), (0, .int a0)]) hx hb dJ6_stringSize_0f7a4_1 rfl hl (by decide) rfl (fun ls hl => ?_)
  refine lv_iload_n hx hb dJ6_stringSize_0f7a4_2 rfl (lv_at hl 1 rfl) ?_
  refine lv_if_lt (tgt := 11) hx hb dJ6_stringSize_0f7a4_3 (by decide) (fun hc_1 => ?_) (fun hc_1 => ?_)
  · rw [if_pos (show a0 < 0 from hc_1)] at hf
    exact hB11 a0 (1 : Int32) _ _ _ hP hD hS (lv_sub hl [1, 0] rfl) hf
  · rw [if_neg (show ¬ (a0 < 0) from hc_1)] at hf
    refine lv_iconst (v := 0) hx hb dJ6_stringSize_0f7a4_6 (by decide) ?_
    refine lv_istore_n (lv' := [(1, .int (0 : Int32)), (0, .int a0)]) hx hb dJ6_stringSize_0f7a4_7 rfl hl (by decide) rfl (fun ls hl => ?_)
    refine lv_iload_n hx hb dJ6_stringSize_0f7a4_8 rfl (lv_at hl 1 rfl) ?_
    refine lv_ineg hx hb dJ6_stringSize_0f7a4_9 ?_
    refine lv_istore_n (lv' := [(0, .int (0 - a0)), (1, .int (0 : Int32))]) hx hb dJ6_stringSize_0f7a4_10 rfl hl (by decide) rfl (fun ls hl => ?_)
    exact hB11 (0 - a0) (0 : Int32) _ _ _ hP hD hS (lv_sub hl [0, 1] rfl) hf
def ff_J6_getChars_ba4f3_b104 (N : Nat) (o_p2 : os_T) (x5 : Int32) (x6 : Int32) : Option (Int32 × os_T) :=
  (if x6 = 0 then some (x5, o_p2) else (if os_in (x5 + (-1)) (ci_n o_p2) then some (x5 + (-1), ss_A o_p2 0 (upd (os_A o_p2 0) (Int32.toNatClampNeg (x5 + (-1))) (vp_nar .byte (45 : Int32)))) else none))
def ff_J6_getChars_ba4f3_c22 (N : Nat) (k22 : (os_T × Int32 × Int32 × Int32) → Option (Int32 × os_T)) (o_p2 : os_T) (x0 : Int32) (x5 : Int32) (x6 : Int32) : Option (Int32 × os_T) :=
  (if (-100 : Int32) < x0 then (if os_in (0 - x0) 100 then (if os_in (x5 + (-1)) (ci_n o_p2) then (if (-9 : Int32) ≤ x0 then ff_J6_getChars_ba4f3_b104 N (ss_A o_p2 0 (upd (os_A o_p2 0) (Int32.toNatClampNeg (x5 + (-1))) (vp_nar .byte (Int32.ofNat (48 + Int32.toNatClampNeg (0 - x0) % 10))))) (x5 + (-1)) x6 else (if os_in (0 - x0) 100 then (if os_in ((x5 + (-1)) + (-1)) (ci_n (ss_A o_p2 0 (upd (os_A o_p2 0) (Int32.toNatClampNeg (x5 + (-1))) (vp_nar .byte (Int32.ofNat (48 + Int32.toNatClampNeg (0 - x0) % 10)))))) then ff_J6_getChars_ba4f3_b104 N (ss_A o_p2 0 (upd (upd (os_A o_p2 0) (Int32.toNatClampNeg (x5 + (-1))) (vp_nar .byte (Int32.ofNat (48 + Int32.toNatClampNeg (0 - x0) % 10)))) (Int32.toNatClampNeg ((x5 + (-1)) + (-1))) (vp_nar .byte (Int32.ofNat (48 + Int32.toNatClampNeg (0 - x0) / 10))))) ((x5 + (-1)) + (-1)) x6 else none) else none)) else none) else none) else (if os_in (((x0 / (100 : Int32)) * (100 : Int32)) - x0) 100 then (if os_in (x5 + (-1)) (ci_n o_p2) then (if os_in (((x0 / (100 : Int32)) * (100 : Int32)) - x0) 100 then (if os_in ((x5 + (-1)) + (-1)) (ci_n (ss_A o_p2 0 (upd (os_A o_p2 0) (Int32.toNatClampNeg (x5 + (-1))) (vp_nar .byte (Int32.ofNat (48 + Int32.toNatClampNeg (((x0 / (100 : Int32)) * (100 : Int32)) - x0) % 10)))))) then k22 (ss_A o_p2 0 (upd (upd (os_A o_p2 0) (Int32.toNatClampNeg (x5 + (-1))) (vp_nar .byte (Int32.ofNat (48 + Int32.toNatClampNeg (((x0 / (100 : Int32)) * (100 : Int32)) - x0) % 10)))) (Int32.toNatClampNeg ((x5 + (-1)) + (-1))) (vp_nar .byte (Int32.ofNat (48 + Int32.toNatClampNeg (((x0 / (100 : Int32)) * (100 : Int32)) - x0) / 10)))), x0 / (100 : Int32), (x5 + (-1)) + (-1), x6) else none) else none) else none) else none))
def ff_J6_getChars_ba4f3_l22 (N : Nat) : Nat → (os_T × Int32 × Int32 × Int32) → Option (Int32 × os_T) := os_loop (fun k22 s1 => ff_J6_getChars_ba4f3_c22 N k22 s1.1 s1.2.1 s1.2.2.1 s1.2.2.2)
def ff_J6_getChars_ba4f3_b12 (N : Nat) (o_p2 : os_T) (x0 : Int32) (x5 : Int32) (t0 : Int32) : Option (Int32 × os_T) :=
  (if t0 = 0 then ff_J6_getChars_ba4f3_l22 N N (o_p2, 0 - x0, x5, t0) else ff_J6_getChars_ba4f3_l22 N N (o_p2, x0, x5, t0))
def ff_J6_getChars_ba4f3 (N : Nat) (o_p2 : os_T) (a0 : Int32) (a1 : Int32) : Option (Int32 × os_T) :=
  (if 0 ≤ a0 then ff_J6_getChars_ba4f3_b12 N o_p2 a0 a1 (0 : Int32) else ff_J6_getChars_ba4f3_b12 N o_p2 a0 a1 (1 : Int32))
set_option maxHeartbeats 4000000 in
set_option maxRecDepth 100000 in
theorem mm_J6_getChars_ba4f3 (l : Launch) (hst : l.stackTraces = false) (zz : Nat → Nat → Nat) (D : va_G) (kA : Nat → ClassId) (N : Nat) (a_p2 : Nat) (o_p2 : os_T) (a0 : Int32) (a1 : Int32) (out : Int32 × os_T) (hf : ff_J6_getChars_ba4f3 N o_p2 a0 a1 = some out) : mg_C l zz D kA yJ6_getChars_ba4f3 wsJ6_getChars_ba4f3 ({ frames := 0, cells := 0, slots := 0, locals := 0 } : Room) [.int a0, .int a1, .ref a_p2] (fl ([ce_BA kA a_p2 o_p2] : List va_W)) (fun rv w1 => rv = some (.int out.1) ∧ w1 = (fl ([ce_BA kA a_p2 out.2] : List va_W))) := by
  refine mg_of (cc := cJ6_getChars_ba4f3) (maxL := 7) (ret := (some .int)) (by decide) rfl (Nat.le_of_ble_eq_true rfl) ?_
  intro p e s m below meth c A B hZ hD hP hS ls hl
  obtain ⟨hx, hb, hr, hlk, hml, hown, hts, hK, hA, hnm⟩ := B
  have hown : s.vm.findClass RJ6 = some m.cls := hown
  have hl : lv_has ls 7 [(0, .int a0), (1, .int a1), (2, .ref a_p2)] := hl
  have hP : va_P D vwCl (fl ([ce_BA kA a_p2 o_p2] : List va_W)) s.heap := hP
  have hB104 : ∀ (o_p2 : os_T) (x5 : Int32) (x6 : Int32) (H : Heap) (locs : List Loc) (ls : Array Slot), va_P D vwCl (fl ([ce_BA kA a_p2 o_p2] : List va_W)) H → va_D A (fl ([ce_BA kA a_p2 o_p2] : List va_W)) → va_S A s.heap H locs → lv_has ls 7 [(2, .ref a_p2), (5, .int x5), (6, .int x6)] → ff_J6_getChars_ba4f3_b104 N o_p2 x5 x6 = some out → W p l e ({ frames := 0, cells := 0, slots := 0, locals := 0 } : Room) s m [.int a0, .int a1, .ref a_p2].toArray below meth c H locs 0 0 (MQ below (mg_Q D kA A (fun rv w1 => rv = some (.int out.1) ∧ w1 = (fl ([ce_BA kA a_p2 out.2] : List va_W)))) [.int a0, .int a1, .ref a_p2].toArray s 0 0 A) (F0 m 104 ls []) := by
    intro o_p2 x5 x6 H locs ls hP hD hS hl hf
    unfold ff_J6_getChars_ba4f3_b104 at hf
    refine lv_iload hx hb dJ6_getChars_ba4f3_104 (lv_at hl 2 rfl) ?_
    refine lv_if_eq (tgt := 118) hx hb dJ6_getChars_ba4f3_106 (by decide) (fun hc_13 => ?_) (fun hc_13 => ?_)
    · rw [if_pos (show x6 = 0 from hc_13)] at hf
      refine lv_iload hx hb dJ6_getChars_ba4f3_118 (lv_at hl 1 rfl) ?_
      have hP : va_P D vwCl (fl ([ce_BA kA a_p2 o_p2] : List va_W)) _ := hP
      have hD : va_D A (fl ([ce_BA kA a_p2 o_p2] : List va_W)) := hD
      rw [← Option.some.inj hf]
      exact mg_reti ⟨rfl, rfl⟩ (by show _ ≤ 0; omega) (by show _ ≤ 0; omega) hx hb hr hlk hP hK hD hS dJ6_getChars_ba4f3_120
    · rw [if_neg (show ¬ (x6 = 0) from hc_13)] at hf
      refine lv_aload_n hx hb dJ6_getChars_ba4f3_109 rfl (lv_at hl 0 rfl) ?_
      refine lv_iinc (v := x5 + (-1)) (lv' := [(5, .int (x5 + (-1))), (2, .ref a_p2), (6, .int x6)]) hx hb dJ6_getChars_ba4f3_110 hl (k := 1) rfl rfl (by decide) rfl (fun ls hl => ?_)
      refine lv_iload hx hb dJ6_getChars_ba4f3_113 (lv_at hl 0 rfl) ?_
      refine lv_bipush (v := 45) hx hb dJ6_getChars_ba4f3_115 (by decide) ?_
      obtain ⟨hi_14, hf⟩ := os_if hf
      refine va_bast hx hb hK hP hD hS (pl [ce_BA kA a_p2 o_p2] 0 0) 2 (sg_get rfl rfl) rfl hi_14 dJ6_getChars_ba4f3_117 (fun H locs hP hD hS => ?_)
      have hP : va_P D vwCl (fl ([ce_BA kA a_p2 (ss_A o_p2 0 (upd (os_A o_p2 0) (Int32.toNatClampNeg (x5 + (-1))) (vp_nar .byte (45 : Int32))))] : List va_W)) _ := sg_P rfl (Nat.le_of_ble_eq_true rfl) rfl hP
      have hD : va_D A (fl ([ce_BA kA a_p2 (ss_A o_p2 0 (upd (os_A o_p2 0) (Int32.toNatClampNeg (x5 + (-1))) (vp_nar .byte (45 : Int32))))] : List va_W)) := sg_D rfl (Nat.le_of_ble_eq_true rfl) rfl hD
      refine lv_iload hx hb dJ6_getChars_ba4f3_118 (lv_at hl 0 rfl) ?_
      have hP : va_P D vwCl (fl ([ce_BA kA a_p2 (ss_A o_p2 0 (upd (os_A o_p2 0) (Int32.toNatClampNeg (x5 + (-1))) (vp_nar .byte (45 : Int32))))] : List va_W)) _ := hP
      have hD : va_D A (fl ([ce_BA kA a_p2 (ss_A o_p2 0 (upd (os_A o_p2 0) (Int32.toNatClampNeg (x5 + (-1))) (vp_nar .byte (45 : Int32))))] : List va_W)) := hD
      rw [← Option.some.inj hf]
      exact mg_reti ⟨rfl, rfl⟩ (by show _ ≤ 0; omega) (by show _ ≤ 0; omega) hx hb hr hlk hP hK hD hS dJ6_getChars_ba4f3_120
  have hL22 : ∀ (n : Nat) (o_p2 : os_T) (x0 : Int32) (x5 : Int32) (x6 : Int32) (H : Heap) (locs : List Loc) (ls : Array Slot), va_P D vwCl (fl ([ce_BA kA a_p2 o_p2] : List va_W)) H → va_D A (fl ([ce_BA kA a_p2 o_p2] : List va_W)) → va_S A s.heap H locs → lv_has ls 7 [(0, .int x0), (2, .ref a_p2), (5, .int x5), (6, .int x6)] → ff_J6_getChars_ba4f3_l22 N n (o_p2, x0, x5, x6) = some out → W p l e ({ frames := 0, cells := 0, slots := 0, locals := 0 } : Room) s m [.int a0, .int a1, .ref a_p2].toArray below meth c H locs 0 0 (MQ below (mg_Q D kA A (fun rv w1 => rv = some (.int out.1) ∧ w1 = (fl ([ce_BA kA a_p2 out.2] : List va_W)))) [.int a0, .int a1, .ref a_p2].toArray s 0 0 A) (F0 m 22 ls []) := by
    intro n
    induction n with
    | zero => intro o_p2 x0 x5 x6 H locs ls _ _ _ _ hf; cases hf
    | succ n hk22 =>
      intro o_p2 x0 x5 x6 H locs ls hP hD hS hl hf
      have hf : ff_J6_getChars_ba4f3_c22 N (ff_J6_getChars_ba4f3_l22 N n) o_p2 x0 x5 x6 = some out := hf
      generalize hke : ff_J6_getChars_ba4f3_l22 N n = k22 at hk22 hf
      unfold ff_J6_getChars_ba4f3_c22 at hf
      refine lv_iload_n hx hb dJ6_getChars_ba4f3_22 rfl (lv_at hl 0 rfl) ?_
      refine lv_bipush (v := (-100)) hx hb dJ6_getChars_ba4f3_23 (by decide) ?_
      refine lv_icmp_gt (tgt := 72) hx hb dJ6_getChars_ba4f3_25 (by decide) (fun hc_3 => ?_) (fun hc_3 => ?_)
      · rw [if_pos (show (-100 : Int32) < x0 from hc_3)] at hf
        refine lv_aload_n hx hb dJ6_getChars_ba4f3_72 rfl (lv_at hl 1 rfl) ?_
        refine lv_iinc (v := x5 + (-1)) (lv' := [(5, .int (x5 + (-1))), (0, .int x0), (2, .ref a_p2), (6, .int x6)]) hx hb dJ6_getChars_ba4f3_73 hl (k := 2) rfl rfl (by decide) rfl (fun ls hl => ?_)
        refine lv_iload hx hb dJ6_getChars_ba4f3_76 (lv_at hl 0 rfl) ?_
        refine va_gets hx hb hZ.2.2.2.2.1.1 hS hown (hts (Cond.fieldLink RJ6 83 "java/lang/Integer" "DigitOnes" "[B") (List.mem_of_getElem? (i := 1) rfl)) (fun _ h9 => h9) dJ6_getChars_ba4f3_78 ?_
        refine lv_iload_n hx hb dJ6_getChars_ba4f3_81 rfl (lv_at hl 1 rfl) ?_
        refine lv_ineg hx hb dJ6_getChars_ba4f3_82 ?_
        obtain ⟨hi_4, hf⟩ := os_if hf
        refine va_tb hx hb hZ.2.2.2.2.1.2 hS hi_4 rfl dJ6_getChars_ba4f3_83 ?_
        obtain ⟨hi_5, hf⟩ := os_if hf
        refine va_bast hx hb hK hP hD hS (pl [ce_BA kA a_p2 o_p2] 0 0) 2 (sg_get rfl rfl) rfl hi_5 dJ6_getChars_ba4f3_84 (fun H locs hP hD hS => ?_)
        have hP : va_P D vwCl (fl ([ce_BA kA a_p2 (ss_A o_p2 0 (upd (os_A o_p2 0) (Int32.toNatClampNeg (x5 + (-1))) (vp_nar .byte (Int32.ofNat (48 + Int32.toNatClampNeg (0 - x0) % 10)))))] : List va_W)) _ := sg_P rfl (Nat.le_of_ble_eq_true rfl) rfl hP
        have hD : va_D A (fl ([ce_BA kA a_p2 (ss_A o_p2 0 (upd (os_A o_p2 0) (Int32.toNatClampNeg (x5 + (-1))) (vp_nar .byte (Int32.ofNat (48 + Int32.toNatClampNeg (0 - x0) % 10)))))] : List va_W)) := sg_D rfl (Nat.le_of_ble_eq_true rfl) rfl hD
        refine lv_iload_n hx hb dJ6_getChars_ba4f3_85 rfl (lv_at hl 1 rfl) ?_
        refine lv_bipush (v := (-9)) hx hb dJ6_getChars_ba4f3_86 (by decide) ?_
        refine lv_icmp_ge (tgt := 104) hx hb dJ6_getChars_ba4f3_88 (by decide) (fun hc_6 => ?_) (fun hc_6 => ?_)
        · rw [if_pos (show (-9 : Int32) ≤ x0 from hc_6)] at hf
          exact hB104 (ss_A o_p2 0 (upd (os_A o_p2 0) (Int32.toNatClampNeg (x5 + (-1))) (vp_nar .byte (Int32.ofNat (48 + Int32.toNatClampNeg (0 - x0) % 10))))) (x5 + (-1)) x6 _ _ _ hP hD hS (lv_sub hl [2, 0, 3] rfl) hf
        · rw [if_neg (show ¬ ((-9 : Int32) ≤ x0) from hc_6)] at hf
          refine lv_aload_n hx hb dJ6_getChars_ba4f3_91 rfl (lv_at hl 2 rfl) ?_
          refine lv_iinc (v := (x5 + (-1)) + (-1)) (lv' := [(5, .int ((x5 + (-1)) + (-1))), (0, .int x0), (2, .ref a_p2), (6, .int x6)]) hx hb dJ6_getChars_ba4f3_92 hl (k := 0) rfl rfl (by decide) rfl (fun ls hl => ?_)
          refine lv_iload hx hb dJ6_getChars_ba4f3_95 (lv_at hl 0 rfl) ?_
          refine va_gets hx hb hZ.2.2.2.2.2.1.1 hS hown (hts (Cond.fieldLink RJ6 87 "java/lang/Integer" "DigitTens" "[B") (List.mem_of_getElem? (i := 2) rfl)) (fun _ h9 => h9) dJ6_getChars_ba4f3_97 ?_
          refine lv_iload_n hx hb dJ6_getChars_ba4f3_100 rfl (lv_at hl 1 rfl) ?_
          refine lv_ineg hx hb dJ6_getChars_ba4f3_101 ?_
          obtain ⟨hi_7, hf⟩ := os_if hf
          refine va_tb hx hb hZ.2.2.2.2.2.1.2 hS hi_7 rfl dJ6_getChars_ba4f3_102 ?_
          obtain ⟨hi_8, hf⟩ := os_if hf
          refine va_bast hx hb hK hP hD hS (pl [ce_BA kA a_p2 (ss_A o_p2 0 (upd (os_A o_p2 0) (Int32.toNatClampNeg (x5 + (-1))) (vp_nar .byte (Int32.ofNat (48 + Int32.toNatClampNeg (0 - x0) % 10)))))] 0 0) 2 (sg_get rfl rfl) rfl hi_8 dJ6_getChars_ba4f3_103 (fun H locs hP hD hS => ?_)
          have hP : va_P D vwCl (fl ([ce_BA kA a_p2 (ss_A o_p2 0 (upd (upd (os_A o_p2 0) (Int32.toNatClampNeg (x5 + (-1))) (vp_nar .byte (Int32.ofNat (48 + Int32.toNatClampNeg (0 - x0) % 10)))) (Int32.toNatClampNeg ((x5 + (-1)) + (-1))) (vp_nar .byte (Int32.ofNat (48 + Int32.toNatClampNeg (0 - x0) / 10)))))] : List va_W)) _ := sg_P rfl (Nat.le_of_ble_eq_true rfl) rfl hP
          have hD : va_D A (fl ([ce_BA kA a_p2 (ss_A o_p2 0 (upd (upd (os_A o_p2 0) (Int32.toNatClampNeg (x5 + (-1))) (vp_nar .byte (Int32.ofNat (48 + Int32.toNatClampNeg (0 - x0) % 10)))) (Int32.toNatClampNeg ((x5 + (-1)) + (-1))) (vp_nar .byte (Int32.ofNat (48 + Int32.toNatClampNeg (0 - x0) / 10)))))] : List va_W)) := sg_D rfl (Nat.le_of_ble_eq_true rfl) rfl hD
          exact hB104 (ss_A o_p2 0 (upd (upd (os_A o_p2 0) (Int32.toNatClampNeg (x5 + (-1))) (vp_nar .byte (Int32.ofNat (48 + Int32.toNatClampNeg (0 - x0) % 10)))) (Int32.toNatClampNeg ((x5 + (-1)) + (-1))) (vp_nar .byte (Int32.ofNat (48 + Int32.toNatClampNeg (0 - x0) / 10))))) ((x5 + (-1)) + (-1)) x6 _ _ _ hP hD hS (lv_sub hl [2, 0, 3] rfl) hf
      · rw [if_neg (show ¬ ((-100 : Int32) < x0) from hc_3)] at hf
        refine lv_iload_n hx hb dJ6_getChars_ba4f3_28 rfl (lv_at hl 0 rfl) ?_
        refine lv_bipush (v := 100) hx hb dJ6_getChars_ba4f3_29 (by decide) ?_
        refine lv_idiv hx hb dJ6_getChars_ba4f3_31 (by decide) ?_
        refine lv_istore_n (lv' := [(3, .int (x0 / (100 : Int32))), (0, .int x0), (2, .ref a_p2), (5, .int x5), (6, .int x6)]) hx hb dJ6_getChars_ba4f3_32 rfl hl (by decide) rfl (fun ls hl => ?_)
        refine lv_iload_n hx hb dJ6_getChars_ba4f3_33 rfl (lv_at hl 0 rfl) ?_
        refine lv_bipush (v := 100) hx hb dJ6_getChars_ba4f3_34 (by decide) ?_
        refine lv_imul hx hb dJ6_getChars_ba4f3_36 ?_
        refine lv_iload_n hx hb dJ6_getChars_ba4f3_37 rfl (lv_at hl 1 rfl) ?_
        refine lv_isub hx hb dJ6_getChars_ba4f3_38 ?_
        refine lv_istore (lv' := [(4, .int (((x0 / (100 : Int32)) * (100 : Int32)) - x0)), (3, .int (x0 / (100 : Int32))), (0, .int x0), (2, .ref a_p2), (5, .int x5), (6, .int x6)]) hx hb dJ6_getChars_ba4f3_39 hl (by decide) rfl (fun ls hl => ?_)
        refine lv_iload_n hx hb dJ6_getChars_ba4f3_41 rfl (lv_at hl 1 rfl) ?_
        refine lv_istore_n (lv' := [(0, .int (x0 / (100 : Int32))), (4, .int (((x0 / (100 : Int32)) * (100 : Int32)) - x0)), (3, .int (x0 / (100 : Int32))), (2, .ref a_p2), (5, .int x5), (6, .int x6)]) hx hb dJ6_getChars_ba4f3_42 rfl hl (by decide) rfl (fun ls hl => ?_)
        refine lv_aload_n hx hb dJ6_getChars_ba4f3_43 rfl (lv_at hl 3 rfl) ?_
        refine lv_iinc (v := x5 + (-1)) (lv' := [(5, .int (x5 + (-1))), (0, .int (x0 / (100 : Int32))), (4, .int (((x0 / (100 : Int32)) * (100 : Int32)) - x0)), (3, .int (x0 / (100 : Int32))), (2, .ref a_p2), (6, .int x6)]) hx hb dJ6_getChars_ba4f3_44 hl (k := 4) rfl rfl (by decide) rfl (fun ls hl => ?_)
        refine lv_iload hx hb dJ6_getChars_ba4f3_47 (lv_at hl 0 rfl) ?_
        refine va_gets hx hb hZ.2.2.2.2.1.1 hS hown (hts (Cond.fieldLink RJ6 83 "java/lang/Integer" "DigitOnes" "[B") (List.mem_of_getElem? (i := 1) rfl)) (fun _ h9 => h9) dJ6_getChars_ba4f3_49 ?_
        refine lv_iload hx hb dJ6_getChars_ba4f3_52 (lv_at hl 2 rfl) ?_
        obtain ⟨hi_9, hf⟩ := os_if hf
        refine va_tb hx hb hZ.2.2.2.2.1.2 hS hi_9 rfl dJ6_getChars_ba4f3_54 ?_
        obtain ⟨hi_10, hf⟩ := os_if hf
        refine va_bast hx hb hK hP hD hS (pl [ce_BA kA a_p2 o_p2] 0 0) 2 (sg_get rfl rfl) rfl hi_10 dJ6_getChars_ba4f3_55 (fun H locs hP hD hS => ?_)
        have hP : va_P D vwCl (fl ([ce_BA kA a_p2 (ss_A o_p2 0 (upd (os_A o_p2 0) (Int32.toNatClampNeg (x5 + (-1))) (vp_nar .byte (Int32.ofNat (48 + Int32.toNatClampNeg (((x0 / (100 : Int32)) * (100 : Int32)) - x0) % 10)))))] : List va_W)) _ := sg_P rfl (Nat.le_of_ble_eq_true rfl) rfl hP
        have hD : va_D A (fl ([ce_BA kA a_p2 (ss_A o_p2 0 (upd (os_A o_p2 0) (Int32.toNatClampNeg (x5 + (-1))) (vp_nar .byte (Int32.ofNat (48 + Int32.toNatClampNeg (((x0 / (100 : Int32)) * (100 : Int32)) - x0) % 10)))))] : List va_W)) := sg_D rfl (Nat.le_of_ble_eq_true rfl) rfl hD
        refine lv_aload_n hx hb dJ6_getChars_ba4f3_56 rfl (lv_at hl 4 rfl) ?_
        refine lv_iinc (v := (x5 + (-1)) + (-1)) (lv' := [(5, .int ((x5 + (-1)) + (-1))), (0, .int (x0 / (100 : Int32))), (4, .int (((x0 / (100 : Int32)) * (100 : Int32)) - x0)), (3, .int (x0 / (100 : Int32))), (2, .ref a_p2), (6, .int x6)]) hx hb dJ6_getChars_ba4f3_57 hl (k := 0) rfl rfl (by decide) rfl (fun ls hl => ?_)
        refine lv_iload hx hb dJ6_getChars_ba4f3_60 (lv_at hl 0 rfl) ?_
        refine va_gets hx hb hZ.2.2.2.2.2.1.1 hS hown (hts (Cond.fieldLink RJ6 87 "java/lang/Integer" "DigitTens" "[B") (List.mem_of_getElem? (i := 2) rfl)) (fun _ h9 => h9) dJ6_getChars_ba4f3_62 ?_
        refine lv_iload hx hb dJ6_getChars_ba4f3_65 (lv_at hl 2 rfl) ?_
        obtain ⟨hi_11, hf⟩ := os_if hf
        refine va_tb hx hb hZ.2.2.2.2.2.1.2 hS hi_11 rfl dJ6_getChars_ba4f3_67 ?_
        obtain ⟨hi_12, hf⟩ := os_if hf
        refine va_bast hx hb hK hP hD hS (pl [ce_BA kA a_p2 (ss_A o_p2 0 (upd (os_A o_p2 0) (Int32.toNatClampNeg (x5 + (-1))) (vp_nar .byte (Int32.ofNat (48 + Int32.toNatClampNeg (((x0 / (100 : Int32)) * (100 : Int32)) - x0) % 10)))))] 0 0) 2 (sg_get rfl rfl) rfl hi_12 dJ6_getChars_ba4f3_68 (fun H locs hP hD hS => ?_)
        have hP : va_P D vwCl (fl ([ce_BA kA a_p2 (ss_A o_p2 0 (upd (upd (os_A o_p2 0) (Int32.toNatClampNeg (x5 + (-1))) (vp_nar .byte (Int32.ofNat (48 + Int32.toNatClampNeg (((x0 / (100 : Int32)) * (100 : Int32)) - x0) % 10)))) (Int32.toNatClampNeg ((x5 + (-1)) + (-1))) (vp_nar .byte (Int32.ofNat (48 + Int32.toNatClampNeg (((x0 / (100 : Int32)) * (100 : Int32)) - x0) / 10)))))] : List va_W)) _ := sg_P rfl (Nat.le_of_ble_eq_true rfl) rfl hP
        have hD : va_D A (fl ([ce_BA kA a_p2 (ss_A o_p2 0 (upd (upd (os_A o_p2 0) (Int32.toNatClampNeg (x5 + (-1))) (vp_nar .byte (Int32.ofNat (48 + Int32.toNatClampNeg (((x0 / (100 : Int32)) * (100 : Int32)) - x0) % 10)))) (Int32.toNatClampNeg ((x5 + (-1)) + (-1))) (vp_nar .byte (Int32.ofNat (48 + Int32.toNatClampNeg (((x0 / (100 : Int32)) * (100 : Int32)) - x0) / 10)))))] : List va_W)) := sg_D rfl (Nat.le_of_ble_eq_true rfl) rfl hD
        refine lv_goto (tgt := 22) hx hb dJ6_getChars_ba4f3_69 (by decide) ?_
        exact hk22 (ss_A o_p2 0 (upd (upd (os_A o_p2 0) (Int32.toNatClampNeg (x5 + (-1))) (vp_nar .byte (Int32.ofNat (48 + Int32.toNatClampNeg (((x0 / (100 : Int32)) * (100 : Int32)) - x0) % 10)))) (Int32.toNatClampNeg ((x5 + (-1)) + (-1))) (vp_nar .byte (Int32.ofNat (48 + Int32.toNatClampNeg (((x0 / (100 : Int32)) * (100 : Int32)) - x0) / 10))))) (x0 / (100 : Int32)) ((x5 + (-1)) + (-1)) x6 _ _ _ hP hD hS (lv_sub hl [1, 4, 0, 5] rfl) hf
  have hB12 : ∀ (o_p2 : os_T) (x0 : Int32) (x5 : Int32) (t0 : Int32) (H : Heap) (locs : List Loc) (ls : Array Slot), va_P D vwCl (fl ([ce_BA kA a_p2 o_p2] : List va_W)) H → va_D A (fl ([ce_BA kA a_p2 o_p2] : List va_W)) → va_S A s.heap H locs → lv_has ls 7 [(0, .int x0), (2, .ref a_p2), (5, .int x5)] → ff_J6_getChars_ba4f3_b12 N o_p2 x0 x5 t0 = some out → W p l e ({ frames := 0, cells := 0, slots := 0, locals := 0 } : Room) s m [.int a0, .int a1, .ref a_p2].toArray below meth c H locs 0 0 (MQ below (mg_Q D kA A (fun rv w1 => rv = some (.int out.1) ∧ w1 = (fl ([ce_BA kA a_p2 out.2] : List va_W)))) [.int a0, .int a1, .ref a_p2].toArray s 0 0 A) (F0 m 12 ls [.int t0]) := by
    intro o_p2 x0 x5 t0 H locs ls hP hD hS hl hf
    unfold ff_J6_getChars_ba4f3_b12 at hf
    refine lv_istore (lv' := [(6, .int t0), (0, .int x0), (2, .ref a_p2), (5, .int x5)]) hx hb dJ6_getChars_ba4f3_12 hl (by decide) rfl (fun ls hl => ?_)
    refine lv_iload hx hb dJ6_getChars_ba4f3_14 (lv_at hl 0 rfl) ?_
    refine lv_if_ne (tgt := 22) hx hb dJ6_getChars_ba4f3_16 (by decide) (fun hc_2 => ?_) (fun hc_2 => ?_)
    · rw [if_neg (show ¬ (t0 = 0) from hc_2)] at hf
      exact hL22 N o_p2 x0 x5 t0 _ _ _ hP hD hS (lv_sub hl [1, 2, 3, 0] rfl) hf
    · rw [if_pos (show t0 = 0 from hc_2)] at hf
      refine lv_iload_n hx hb dJ6_getChars_ba4f3_19 rfl (lv_at hl 1 rfl) ?_
      refine lv_ineg hx hb dJ6_getChars_ba4f3_20 ?_
      refine lv_istore_n (lv' := [(0, .int (0 - x0)), (6, .int t0), (2, .ref a_p2), (5, .int x5)]) hx hb dJ6_getChars_ba4f3_21 rfl hl (by decide) rfl (fun ls hl => ?_)
      exact hL22 N o_p2 (0 - x0) x5 t0 _ _ _ hP hD hS (lv_sub hl [0, 2, 3, 1] rfl) hf
  unfold ff_J6_getChars_ba4f3 at hf
  refine lv_iload_n hx hb dJ6_getChars_ba4f3_0 rfl (lv_at hl 1 rfl) ?_
  refine lv_istore (lv' := [(5, .int a1), (0, .int a0), (1, .int a1), (2, .ref a_p2)]) hx hb dJ6_getChars_ba4f3_1 hl (by decide) rfl (fun ls hl => ?_)
  refine lv_iload_n hx hb dJ6_getChars_ba4f3_3 rfl (lv_at hl 1 rfl) ?_
  refine lv_if_ge (tgt := 11) hx hb dJ6_getChars_ba4f3_4 (by decide) (fun hc_1 => ?_) (fun hc_1 => ?_)
  · rw [if_pos (show 0 ≤ a0 from hc_1)] at hf
    refine lv_iconst (v := 0) hx hb dJ6_getChars_ba4f3_11 (by decide) ?_
    exact hB12 o_p2 a0 a1 (0 : Int32) _ _ _ hP hD hS (lv_sub hl [1, 3, 0] rfl) hf
  · rw [if_neg (show ¬ (0 ≤ a0) from hc_1)] at hf
    refine lv_iconst (v := 1) hx hb dJ6_getChars_ba4f3_7 (by decide) ?_
    refine lv_goto (tgt := 12) hx hb dJ6_getChars_ba4f3_8 (by decide) ?_
    exact hB12 o_p2 a0 a1 (1 : Int32) _ _ _ hP hD hS (lv_sub hl [1, 3, 0] rfl) hf
def ff_J5_append_c97b9_b48 (N : Nat) (o_this : os_T) (o_this_value : os_T) (x3 : Int32) : Option (os_T × os_T) :=
  some (ss_I o_this 3 x3, o_this_value)
def ff_J5_append_c97b9 (N : Nat) (o_this : os_T) (o_this_value : os_T) (a1 : Int32) : Option (os_T × os_T) :=
  ((ff_J6_stringSize_0f7a4 N a1).bind fun u_1 => ((ff_J5_ensureCapacityInternal_d00df N o_this o_this_value ((os_I o_this 3) + u_1)).bind fun u_3 => ((ff_J5_isLatin1_aae02 N u_3.1).bind fun u_6 => (if u_6 = 0 then none else ((ff_J6_getChars_ba4f3 N u_3.2 a1 ((os_I o_this 3) + u_1)).bind fun u_9 => ff_J5_append_c97b9_b48 N u_3.1 u_9.2 ((os_I o_this 3) + u_1))))))
set_option maxHeartbeats 4000000 in
set_option maxRecDepth 100000 in
theorem mm_J5_append_c97b9 (l : Launch) (hst : l.stackTraces = false) (zz : Nat → Nat → Nat) (D : va_G) (kA : Nat → ClassId) (N : Nat) (a_this : Nat) (a_this_value : Nat) (o_this : os_T) (o_this_value : os_T) (a1 : Int32) (out : os_T × os_T) (hf : ff_J5_append_c97b9 N o_this o_this_value a1 = some out) : mg_C l zz D kA yJ5_append_c97b9 wsJ5_append_c97b9 ({ frames := 4, cells := 1, slots := 1000, locals := 104 } : Room) [.ref a_this, .int a1] (fl ([ce_K4 a_this a_this_value o_this, ce_BA kA a_this_value o_this_value] : List va_W)) (fun rv w1 => ∃ e_this_value : Nat, rv = some (.ref a_this) ∧ w1 = (fl ([ce_K4 a_this e_this_value out.1, ce_BA kA e_this_value out.2] : List va_W))) := by
  refine mg_of (cc := cJ5_append_c97b9) (maxL := 4) (ret := (some (.object "java/lang/AbstractStringBuilder"))) (by decide) rfl (Nat.le_of_ble_eq_true rfl) ?_
  intro p e s m below meth c A B hZ hD hP hS ls hl
  obtain ⟨hx, hb, hr, hlk, hml, hown, hts, hK, hA, hnm⟩ := B
  have hown : s.vm.findClass RJ5 = some m.cls := hown
  have hl : lv_has ls 4 [(0, .ref a_this), (1, .int a1)] := hl
  have hP : va_P D vwCl (fl ([ce_K4 a_this a_this_value o_this, ce_BA kA a_this_value o_this_value] : List va_W)) s.heap := hP
  have hUJ4 : ∀ w ∈ u_ws RJ4 TJ4 4, w.before [.ref a_this, .int a1].toArray s = true := fun w h => hts w (List.mem_cons_of_mem _ (List.mem_append_right _ h))
  have hB48 : ∀ (o_this : os_T) (o_this_value : os_T) (x3 : Int32) (a_this_value : Nat) (H : Heap) (locs : List Loc) (ls : Array Slot), va_P D vwCl (fl ([ce_K4 a_this a_this_value o_this, ce_BA kA a_this_value o_this_value] : List va_W)) H → va_D A (fl ([ce_K4 a_this a_this_value o_this, ce_BA kA a_this_value o_this_value] : List va_W)) → va_S A s.heap H locs → lv_has ls 4 [(0, .ref a_this), (3, .int x3)] → ff_J5_append_c97b9_b48 N o_this o_this_value x3 = some out → W p l e ({ frames := 4, cells := 1, slots := 1000, locals := 104 } : Room) s m [.ref a_this, .int a1].toArray below meth c H locs 1 1000 (MQ below (mg_Q D kA A (fun rv w1 => ∃ e_this_value : Nat, rv = some (.ref a_this) ∧ w1 = (fl ([ce_K4 a_this e_this_value out.1, ce_BA kA e_this_value out.2] : List va_W)))) [.ref a_this, .int a1].toArray s 1 1000 A) (F0 m 48 ls []) := by
    intro o_this o_this_value x3 a_this_value H locs ls hP hD hS hl hf
    unfold ff_J5_append_c97b9_b48 at hf
    refine lv_aload_n hx hb dJ5_append_c97b9_48 rfl (lv_at hl 0 rfl) ?_
    refine lv_iload_n hx hb dJ5_append_c97b9_49 rfl (lv_at hl 1 rfl) ?_
    refine va_put (D := D) (ci := 1) (v := .int x3) (ty := .int) (C := RJ4) (T := TJ4) (N := 4) hx hb hUJ4 (fun _ h9 => h9) tyJ4 tyJ4_ok nmJ4 hown hK hP hD hS (pl [ce_K4 a_this a_this_value o_this, ce_BA kA a_this_value o_this_value] 0 0) (sg_get rfl rfl) rfl 3 (by decide) (hts (Cond.fieldLink RJ5 79 "java/lang/AbstractStringBuilder" "count" "I") (List.mem_of_getElem? (i := 1) rfl)) (fun _ h9 => h9) rfl (tyJ4_ok 3 (by decide)) rfl rfl (Nat.le_of_ble_eq_true rfl) dJ5_append_c97b9_50 (fun H locs hP hD hS => ?_)
    have hP : va_P D vwCl (fl ([ce_K4 a_this a_this_value (ss_I o_this 3 x3), ce_BA kA a_this_value o_this_value] : List va_W)) _ := sg_P rfl (Nat.le_of_ble_eq_true rfl) rfl hP
    have hD : va_D A (fl ([ce_K4 a_this a_this_value (ss_I o_this 3 x3), ce_BA kA a_this_value o_this_value] : List va_W)) := sg_D rfl (Nat.le_of_ble_eq_true rfl) rfl hD
    refine lv_aload_n hx hb dJ5_append_c97b9_53 rfl (lv_at hl 0 rfl) ?_
    have hP : va_P D vwCl (fl ([ce_K4 a_this a_this_value (ss_I o_this 3 x3), ce_BA kA a_this_value o_this_value] : List va_W)) _ := hP
    have hD : va_D A (fl ([ce_K4 a_this a_this_value (ss_I o_this 3 x3), ce_BA kA a_this_value o_this_value] : List va_W)) := hD
    rw [← Option.some.inj hf]
    exact mg_reta ⟨a_this_value, rfl, rfl⟩ (by show _ ≤ 1; omega) (by show _ ≤ 1000; omega) hx hb hr (by first | exact Or.inl ⟨_, rfl⟩ | exact Or.inr ⟨_, rfl⟩) hlk hP hK hD hS dJ5_append_c97b9_54
  unfold ff_J5_append_c97b9 at hf
  refine lv_aload_n hx hb dJ5_append_c97b9_0 rfl (lv_at hl 0 rfl) ?_
  refine va_get (D := D) (ci := 1) (v := .int (os_I o_this 3)) (C := RJ4) (T := TJ4) (N := 4) hx hb hUJ4 (fun _ h9 => h9) hown hK hP (pl [ce_K4 a_this a_this_value o_this, ce_BA kA a_this_value o_this_value] 0 0) (sg_get rfl rfl) rfl 3 (by decide) (hts (Cond.fieldLink RJ5 79 "java/lang/AbstractStringBuilder" "count" "I") (List.mem_of_getElem? (i := 1) rfl)) (fun _ h9 => h9) rfl dJ5_append_c97b9_1 ?_
  refine lv_istore_n (lv' := [(2, .int (os_I o_this 3)), (0, .ref a_this), (1, .int a1)]) hx hb dJ5_append_c97b9_4 rfl hl (by decide) rfl (fun ls hl => ?_)
  refine lv_iload_n hx hb dJ5_append_c97b9_5 rfl (lv_at hl 0 rfl) ?_
  refine lv_iload_n hx hb dJ5_append_c97b9_6 rfl (lv_at hl 2 rfl) ?_
  obtain ⟨u_1, he_2, hf⟩ := os_bd hf
  refine mg_callS (wcs := []) (wrs := [ce_K4 a_this a_this_value o_this, ce_BA kA a_this_value o_this_value]) (ss := [ce_K4 a_this a_this_value o_this, ce_BA kA a_this_value o_this_value]) ⟨hx, hb, hml, hown, hts⟩ (mm_J6_stringSize_0f7a4 l hst zz D kA N a1 u_1 he_2) (va_cwS 1 hts gJ5_append_c97b9_J6_stringSize_0f7a4 rfl rfl rfl (by decide +kernel) ⟨Nat.le_of_ble_eq_true rfl, Nat.le_of_ble_eq_true rfl⟩) rfl hl.1 (As := [.int a1]) (rest := [.int (os_I o_this 3)]) rfl (Nat.le_of_ble_eq_true rfl) dJ5_append_c97b9_7 ⟨(by show 0 + 0 ≤ 1; omega), (by show 0 + 0 ≤ 1000; omega)⟩ hK hP hD hS hA hZ (pm_seg [ce_K4 a_this a_this_value o_this, ce_BA kA a_this_value o_this_value] ([] ++ [ce_K4 a_this a_this_value o_this, ce_BA kA a_this_value o_this_value]) [0, 1] 2 rfl (by decide) rfl (by decide)) (fun rv w1 H locs hq hP hD hS => ?_)
  obtain ⟨rfl, rfl⟩ := hq
  refine W.widen (k := 0) (n := 0) (by show _ + 0 ≤ _; omega) (by show _ + 0 ≤ _; omega) ?_
  have hP : va_P D vwCl (fl ([ce_K4 a_this a_this_value o_this, ce_BA kA a_this_value o_this_value] : List va_W)) _ := (show va_P D vwCl (fl ([] ++ [ce_K4 a_this a_this_value o_this, ce_BA kA a_this_value o_this_value] : List va_W)) _ from (by rw [fl_app]; exact hP))
  have hD : va_D A (fl ([ce_K4 a_this a_this_value o_this, ce_BA kA a_this_value o_this_value] : List va_W)) := (show va_D A (fl ([] ++ [ce_K4 a_this a_this_value o_this, ce_BA kA a_this_value o_this_value] : List va_W)) from (by rw [fl_app]; exact hD))
  refine W.eq (g2 := F0 m 10 ls [.int u_1, .int (os_I o_this 3)]) rfl ?_
  refine lv_iadd hx hb dJ5_append_c97b9_10 ?_
  refine lv_istore_n (lv' := [(3, .int ((os_I o_this 3) + u_1)), (2, .int (os_I o_this 3)), (0, .ref a_this), (1, .int a1)]) hx hb dJ5_append_c97b9_11 rfl hl (by decide) rfl (fun ls hl => ?_)
  refine lv_aload_n hx hb dJ5_append_c97b9_12 rfl (lv_at hl 2 rfl) ?_
  refine lv_iload_n hx hb dJ5_append_c97b9_13 rfl (lv_at hl 0 rfl) ?_
  obtain ⟨u_3, he_4, hf⟩ := os_bd hf
  refine mg_callU (wcs := [ce_K4 a_this a_this_value o_this, ce_BA kA a_this_value o_this_value]) (wrs := []) (ss := [ce_K4 a_this a_this_value o_this, ce_BA kA a_this_value o_this_value]) ⟨hx, hb, hml, hown, hts⟩ (mm_J5_ensureCapacityInternal_d00df l hst zz D kA N a_this a_this_value o_this o_this_value ((os_I o_this 3) + u_1) u_3 he_4) (va_cwU 1 hts gJ5_append_c97b9_J5_ensureCapacityInternal_d00df_u100J4 rfl rfl rfl rfl (by decide +kernel) ⟨Nat.le_of_ble_eq_true rfl, Nat.le_of_ble_eq_true rfl⟩) (va_recv hK hP (q0 := pl [ce_K4 a_this a_this_value o_this, ce_BA kA a_this_value o_this_value] 0 0) rfl (sg_get rfl rfl)) rfl hl.1 (As := [.int ((os_I o_this 3) + u_1)]) (rest := []) rfl (Nat.le_of_ble_eq_true rfl) dJ5_append_c97b9_14 ⟨(by show 0 + 1 ≤ 1; omega), (by show 0 + 1000 ≤ 1000; omega)⟩ hK hP hD hS hA hZ (pm_seg [ce_K4 a_this a_this_value o_this, ce_BA kA a_this_value o_this_value] ([ce_K4 a_this a_this_value o_this, ce_BA kA a_this_value o_this_value] ++ []) [0, 1] 2 rfl (by decide) rfl (by decide)) (fun rv w1 H locs hq hP hD hS => ?_)
  obtain ⟨e_this_value_5, rfl, rfl⟩ := hq
  refine W.widen (k := 1) (n := 1000) (by show _ + 1 ≤ _; omega) (by show _ + 1000 ≤ _; omega) ?_
  have hP : va_P D vwCl (fl ([ce_K4 a_this e_this_value_5 u_3.1, ce_BA kA e_this_value_5 u_3.2] : List va_W)) _ := (show va_P D vwCl (fl ([ce_K4 a_this e_this_value_5 u_3.1, ce_BA kA e_this_value_5 u_3.2] ++ [] : List va_W)) _ from (by rw [fl_app]; exact hP))
  have hD : va_D A (fl ([ce_K4 a_this e_this_value_5 u_3.1, ce_BA kA e_this_value_5 u_3.2] : List va_W)) := (show va_D A (fl ([ce_K4 a_this e_this_value_5 u_3.1, ce_BA kA e_this_value_5 u_3.2] ++ [] : List va_W)) from (by rw [fl_app]; exact hD))
  refine W.eq (g2 := F0 m 17 ls []) rfl ?_
  refine lv_aload_n hx hb dJ5_append_c97b9_17 rfl (lv_at hl 2 rfl) ?_
  obtain ⟨u_6, he_7, hf⟩ := os_bd hf
  refine mg_callU (wcs := [ce_K4 a_this e_this_value_5 u_3.1]) (wrs := [ce_BA kA e_this_value_5 u_3.2]) (ss := [ce_K4 a_this e_this_value_5 u_3.1, ce_BA kA e_this_value_5 u_3.2]) ⟨hx, hb, hml, hown, hts⟩ (mm_J5_isLatin1_aae02 l hst zz D kA N e_this_value_5 a_this u_3.1 u_6 he_7) (va_cwU 0 hts gJ5_append_c97b9_J5_isLatin1_aae02_u83J4 rfl rfl rfl rfl (by decide +kernel) ⟨Nat.le_of_ble_eq_true rfl, Nat.le_of_ble_eq_true rfl⟩) (va_recv hK hP (q0 := pl [ce_K4 a_this e_this_value_5 u_3.1, ce_BA kA e_this_value_5 u_3.2] 0 0) rfl (sg_get rfl rfl)) rfl hl.1 (As := []) (rest := []) rfl (Nat.le_of_ble_eq_true rfl) dJ5_append_c97b9_18 ⟨(by show 1 + 0 ≤ 1; omega), (by show 1000 + 0 ≤ 1000; omega)⟩ hK hP hD hS hA hZ (pm_seg [ce_K4 a_this e_this_value_5 u_3.1, ce_BA kA e_this_value_5 u_3.2] ([ce_K4 a_this e_this_value_5 u_3.1] ++ [ce_BA kA e_this_value_5 u_3.2]) [0, 1] 2 rfl (by decide) rfl (by decide)) (fun rv w1 H locs hq hP hD hS => ?_)
  obtain ⟨rfl, rfl⟩ := hq
  refine W.widen (k := 1) (n := 1000) (by show _ + 0 ≤ _; omega) (by show _ + 0 ≤ _; omega) ?_
  have hP : va_P D vwCl (fl ([ce_K4 a_this e_this_value_5 u_3.1, ce_BA kA e_this_value_5 u_3.2] : List va_W)) _ := (show va_P D vwCl (fl ([ce_K4 a_this e_this_value_5 u_3.1] ++ [ce_BA kA e_this_value_5 u_3.2] : List va_W)) _ from (by rw [fl_app]; exact hP))
  have hD : va_D A (fl ([ce_K4 a_this e_this_value_5 u_3.1, ce_BA kA e_this_value_5 u_3.2] : List va_W)) := (show va_D A (fl ([ce_K4 a_this e_this_value_5 u_3.1] ++ [ce_BA kA e_this_value_5 u_3.2] : List va_W)) from (by rw [fl_app]; exact hD))
  refine W.eq (g2 := F0 m 21 ls [.int u_6]) rfl ?_
  refine lv_if_eq (tgt := 37) hx hb dJ5_append_c97b9_21 (by decide) (fun hc_8 => ?_) (fun hc_8 => ?_)
  · rw [if_pos (show u_6 = 0 from hc_8)] at hf
    cases hf
  · rw [if_neg (show ¬ (u_6 = 0) from hc_8)] at hf
    refine lv_iload_n hx hb dJ5_append_c97b9_24 rfl (lv_at hl 3 rfl) ?_
    refine lv_iload_n hx hb dJ5_append_c97b9_25 rfl (lv_at hl 0 rfl) ?_
    refine lv_aload_n hx hb dJ5_append_c97b9_26 rfl (lv_at hl 2 rfl) ?_
    refine va_get (D := D) (ci := 1) (v := .ref e_this_value_5) (C := RJ4) (T := TJ4) (N := 4) hx hb hUJ4 (fun _ h9 => h9) hown hK hP (pl [ce_K4 a_this e_this_value_5 u_3.1, ce_BA kA e_this_value_5 u_3.2] 0 0) (sg_get rfl rfl) rfl 0 (by decide) (hts (Cond.fieldLink RJ5 15 "java/lang/AbstractStringBuilder" "value" "[B") (List.mem_of_getElem? (i := 2) rfl)) (fun _ h9 => h9) rfl dJ5_append_c97b9_27 ?_
    obtain ⟨u_9, he_10, hf⟩ := os_bd hf
    refine mg_callS (wcs := [ce_BA kA e_this_value_5 u_3.2]) (wrs := [ce_K4 a_this e_this_value_5 u_3.1]) (ss := [ce_K4 a_this e_this_value_5 u_3.1, ce_BA kA e_this_value_5 u_3.2]) ⟨hx, hb, hml, hown, hts⟩ (mm_J6_getChars_ba4f3 l hst zz D kA N e_this_value_5 u_3.2 a1 ((os_I o_this 3) + u_1) u_9 he_10) (va_cwS 3 hts gJ5_append_c97b9_J6_getChars_ba4f3 rfl rfl rfl (by decide +kernel) ⟨Nat.le_of_ble_eq_true rfl, Nat.le_of_ble_eq_true rfl⟩) rfl hl.1 (As := [.int a1, .int ((os_I o_this 3) + u_1), .ref e_this_value_5]) (rest := []) rfl (Nat.le_of_ble_eq_true rfl) dJ5_append_c97b9_30 ⟨(by show 1 + 0 ≤ 1; omega), (by show 1000 + 0 ≤ 1000; omega)⟩ hK hP hD hS hA hZ (pm_seg [ce_K4 a_this e_this_value_5 u_3.1, ce_BA kA e_this_value_5 u_3.2] ([ce_BA kA e_this_value_5 u_3.2] ++ [ce_K4 a_this e_this_value_5 u_3.1]) [1, 0] 2 rfl (by decide) rfl (by decide)) (fun rv w1 H locs hq hP hD hS => ?_)
    obtain ⟨rfl, rfl⟩ := hq
    refine W.widen (k := 1) (n := 1000) (by show _ + 0 ≤ _; omega) (by show _ + 0 ≤ _; omega) ?_
    have hP : va_P D vwCl (fl ([ce_BA kA e_this_value_5 u_9.2, ce_K4 a_this e_this_value_5 u_3.1] : List va_W)) _ := (show va_P D vwCl (fl ([ce_BA kA e_this_value_5 u_9.2] ++ [ce_K4 a_this e_this_value_5 u_3.1] : List va_W)) _ from (by rw [fl_app]; exact hP))
    have hD : va_D A (fl ([ce_BA kA e_this_value_5 u_9.2, ce_K4 a_this e_this_value_5 u_3.1] : List va_W)) := (show va_D A (fl ([ce_BA kA e_this_value_5 u_9.2] ++ [ce_K4 a_this e_this_value_5 u_3.1] : List va_W)) from (by rw [fl_app]; exact hD))
    refine W.eq (g2 := F0 m 33 ls [.int u_9.1]) rfl ?_
    refine lv_pop hx hb dJ5_append_c97b9_33 rfl ?_
    refine lv_goto (tgt := 48) hx hb dJ5_append_c97b9_34 (by decide) ?_
    have hP : va_P D vwCl (fl ([ce_K4 a_this e_this_value_5 u_3.1, ce_BA kA e_this_value_5 u_9.2] : List va_W)) _ := hP.pm (pm_seg [ce_BA kA e_this_value_5 u_9.2, ce_K4 a_this e_this_value_5 u_3.1] [ce_K4 a_this e_this_value_5 u_3.1, ce_BA kA e_this_value_5 u_9.2] [1, 0] 2 rfl (by decide) rfl (by decide))
    have hD : va_D A (fl ([ce_K4 a_this e_this_value_5 u_3.1, ce_BA kA e_this_value_5 u_9.2] : List va_W)) := hD.pm (pm_seg [ce_BA kA e_this_value_5 u_9.2, ce_K4 a_this e_this_value_5 u_3.1] [ce_K4 a_this e_this_value_5 u_3.1, ce_BA kA e_this_value_5 u_9.2] [1, 0] 2 rfl (by decide) rfl (by decide))
    exact hB48 u_3.1 u_9.2 ((os_I o_this 3) + u_1) e_this_value_5 _ _ _ hP hD hS (lv_sub hl [2, 0] rfl) hf
def ff_J4_append_bf812 (N : Nat) (o_this : os_T) (o_this_value : os_T) (a1 : Int32) : Option (os_T × os_T) :=
  ((ff_J5_append_c97b9 N o_this o_this_value a1).bind fun u_1 => some (u_1.1, u_1.2))
set_option maxHeartbeats 4000000 in
set_option maxRecDepth 100000 in
theorem mm_J4_append_bf812 (l : Launch) (hst : l.stackTraces = false) (zz : Nat → Nat → Nat) (D : va_G) (kA : Nat → ClassId) (N : Nat) (a_this : Nat) (a_this_value : Nat) (o_this : os_T) (o_this_value : os_T) (a1 : Int32) (out : os_T × os_T) (hf : ff_J4_append_bf812 N o_this o_this_value a1 = some out) : mg_C l zz D kA yJ4_append_bf812 wsJ4_append_bf812 ({ frames := 5, cells := 1, slots := 1000, locals := 127 } : Room) [.ref a_this, .int a1] (fl ([ce_K4 a_this a_this_value o_this, ce_BA kA a_this_value o_this_value] : List va_W)) (fun rv w1 => ∃ e_this_value : Nat, rv = some (.ref a_this) ∧ w1 = (fl ([ce_K4 a_this e_this_value out.1, ce_BA kA e_this_value out.2] : List va_W))) := by
  refine mg_of (cc := cJ4_append_bf812) (maxL := 2) (ret := (some (.object "java/lang/StringBuilder"))) (by decide) rfl (Nat.le_of_ble_eq_true rfl) ?_
  intro p e s m below meth c A B hZ hD hP hS ls hl
  obtain ⟨hx, hb, hr, hlk, hml, hown, hts, hK, hA, hnm⟩ := B
  have hown : s.vm.findClass RJ4 = some m.cls := hown
  have hl : lv_has ls 2 [(0, .ref a_this), (1, .int a1)] := hl
  have hP : va_P D vwCl (fl ([ce_K4 a_this a_this_value o_this, ce_BA kA a_this_value o_this_value] : List va_W)) s.heap := hP
  unfold ff_J4_append_bf812 at hf
  refine lv_aload_n hx hb dJ4_append_bf812_0 rfl (lv_at hl 0 rfl) ?_
  refine lv_iload_n hx hb dJ4_append_bf812_1 rfl (lv_at hl 1 rfl) ?_
  obtain ⟨u_1, he_2, hf⟩ := os_bd hf
  refine mg_callSU (wcs := [ce_K4 a_this a_this_value o_this, ce_BA kA a_this_value o_this_value]) (wrs := []) (ss := [ce_K4 a_this a_this_value o_this, ce_BA kA a_this_value o_this_value]) (hK.1 1 _ rfl).2 ⟨hx, hb, hml, hown, hts⟩ (mm_J5_append_c97b9 l hst zz D kA N a_this a_this_value o_this o_this_value a1 u_1 he_2) (va_cwSU 1 hts gJ4_append_bf812_J5_append_c97b9_s53 rfl rfl rfl (by decide +kernel) ⟨Nat.le_of_ble_eq_true rfl, Nat.le_of_ble_eq_true rfl⟩) (va_recv hK hP (q0 := pl [ce_K4 a_this a_this_value o_this, ce_BA kA a_this_value o_this_value] 0 0) rfl (sg_get rfl rfl)) rfl hl.1 (As := [.int a1]) (rest := []) rfl (Nat.le_of_ble_eq_true rfl) dJ4_append_bf812_2 ⟨(by show 0 + 1 ≤ 1; omega), (by show 0 + 1000 ≤ 1000; omega)⟩ hK hP hD hS hA hZ (pm_seg [ce_K4 a_this a_this_value o_this, ce_BA kA a_this_value o_this_value] ([ce_K4 a_this a_this_value o_this, ce_BA kA a_this_value o_this_value] ++ []) [0, 1] 2 rfl (by decide) rfl (by decide)) (fun rv w1 H locs hq hP hD hS => ?_)
  obtain ⟨e_this_value_3, rfl, rfl⟩ := hq
  refine W.widen (k := 1) (n := 1000) (by show _ + 1 ≤ _; omega) (by show _ + 1000 ≤ _; omega) ?_
  have hP : va_P D vwCl (fl ([ce_K4 a_this e_this_value_3 u_1.1, ce_BA kA e_this_value_3 u_1.2] : List va_W)) _ := (show va_P D vwCl (fl ([ce_K4 a_this e_this_value_3 u_1.1, ce_BA kA e_this_value_3 u_1.2] ++ [] : List va_W)) _ from (by rw [fl_app]; exact hP))
  have hD : va_D A (fl ([ce_K4 a_this e_this_value_3 u_1.1, ce_BA kA e_this_value_3 u_1.2] : List va_W)) := (show va_D A (fl ([ce_K4 a_this e_this_value_3 u_1.1, ce_BA kA e_this_value_3 u_1.2] ++ [] : List va_W)) from (by rw [fl_app]; exact hD))
  refine W.eq (g2 := F0 m 5 ls [.ref a_this]) rfl ?_
  refine lv_pop hx hb dJ4_append_bf812_5 rfl ?_
  refine lv_aload_n hx hb dJ4_append_bf812_6 rfl (lv_at hl 0 rfl) ?_
  have hP : va_P D vwCl (fl ([ce_K4 a_this e_this_value_3 u_1.1, ce_BA kA e_this_value_3 u_1.2] : List va_W)) _ := hP
  have hD : va_D A (fl ([ce_K4 a_this e_this_value_3 u_1.1, ce_BA kA e_this_value_3 u_1.2] : List va_W)) := hD
  rw [← Option.some.inj hf]
  exact mg_reta ⟨e_this_value_3, rfl, rfl⟩ (by show _ ≤ 1; omega) (by show _ ≤ 1000; omega) hx hb hr (by first | exact Or.inl ⟨_, rfl⟩ | exact Or.inr ⟨_, rfl⟩) hlk hP hK hD hS dJ4_append_bf812_7
