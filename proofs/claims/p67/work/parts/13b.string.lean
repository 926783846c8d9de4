def ff_J5_getValue_6d5f1 (N : Nat) (o_this : os_T) (o_this_value : os_T) : Option Unit :=
  some ()
set_option maxHeartbeats 4000000 in
set_option maxRecDepth 100000 in
theorem mm_J5_getValue_6d5f1 (l : Launch) (hst : l.stackTraces = false) (zz : Nat → Nat → Nat) (D : va_G) (kA : Nat → ClassId) (N : Nat) (a_this : Nat) (a_this_value : Nat) (o_this : os_T) (o_this_value : os_T) (out : Unit) (hf : ff_J5_getValue_6d5f1 N o_this o_this_value = some out) : mg_C l zz D kA yJ5_getValue_6d5f1 wsJ5_getValue_6d5f1 ({ frames := 0, cells := 0, slots := 0, locals := 0 } : Room) [.ref a_this] (fl ([ce_K4 a_this a_this_value o_this, ce_BA kA a_this_value o_this_value] : List va_W)) (fun rv w1 => rv = some (.ref a_this_value) ∧ w1 = (fl ([ce_K4 a_this a_this_value o_this, ce_BA kA a_this_value o_this_value] : List va_W))) := by
  refine mg_of (cc := cJ5_getValue_6d5f1) (maxL := 1) (ret := (some (.array .byte))) (by decide) rfl (Nat.le_of_ble_eq_true rfl) ?_
  intro p e s m below meth c A B hZ hD hP hS ls hl
  obtain ⟨hx, hb, hr, hlk, hml, hown, hts, hK, hA, hnm⟩ := B
  have hown : s.vm.findClass RJ5 = some m.cls := hown
  have hl : lv_has ls 1 [(0, .ref a_this)] := hl
  have hP : va_P D vwCl (fl ([ce_K4 a_this a_this_value o_this, ce_BA kA a_this_value o_this_value] : List va_W)) s.heap := hP
  have hUJ4 : ∀ w ∈ u_ws RJ4 TJ4 4, w.before [.ref a_this].toArray s = true := fun w h => hts w (List.mem_cons_of_mem _ (List.mem_append_right _ h))
  unfold ff_J5_getValue_6d5f1 at hf
  refine lv_aload_n hx hb dJ5_getValue_6d5f1_0 rfl (lv_at hl 0 rfl) ?_
  refine va_get (D := D) (ci := 1) (v := .ref a_this_value) (C := RJ4) (T := TJ4) (N := 4) hx hb hUJ4 (fun _ h9 => h9) hown hK hP (pl [ce_K4 a_this a_this_value o_this, ce_BA kA a_this_value o_this_value] 0 0) (sg_get rfl rfl) rfl 0 (by decide) (hts (Cond.fieldLink RJ5 15 "java/lang/AbstractStringBuilder" "value" "[B") (List.mem_of_getElem? (i := 1) rfl)) (fun _ h9 => h9) rfl dJ5_getValue_6d5f1_1 ?_
  have hP : va_P D vwCl (fl ([ce_K4 a_this a_this_value o_this, ce_BA kA a_this_value o_this_value] : List va_W)) _ := hP
  have hD : va_D A (fl ([ce_K4 a_this a_this_value o_this, ce_BA kA a_this_value o_this_value] : List va_W)) := hD
  exact mg_reta ⟨rfl, rfl⟩ (by show _ ≤ 0; omega) (by show _ ≤ 0; omega) hx hb hr (by first | exact Or.inl ⟨_, rfl⟩ | exact Or.inr ⟨_, rfl⟩) hlk hP hK hD hS dJ5_getValue_6d5f1_4
def ff_J5_length_8abf5 (N : Nat) (o_this : os_T) : Option Int32 :=
  some (os_I o_this 3)
set_option maxHeartbeats 4000000 in
set_option maxRecDepth 100000 in
theorem mm_J5_length_8abf5 (l : Launch) (hst : l.stackTraces = false) (zz : Nat → Nat → Nat) (D : va_G) (kA : Nat → ClassId) (N : Nat) (v_this : Nat) (a_this : Nat) (o_this : os_T) (out : Int32) (hf : ff_J5_length_8abf5 N o_this = some out) : mg_C l zz D kA yJ5_length_8abf5 wsJ5_length_8abf5 ({ frames := 0, cells := 0, slots := 0, locals := 0 } : Room) [.ref a_this] (fl ([ce_K4 a_this v_this o_this] : List va_W)) (fun rv w1 => rv = some (.int out) ∧ w1 = (fl ([ce_K4 a_this v_this o_this] : List va_W))) := by
  refine mg_of (cc := cJ5_length_8abf5) (maxL := 1) (ret := (some .int)) (by decide) rfl (Nat.le_of_ble_eq_true rfl) ?_
  intro p e s m below meth c A B hZ hD hP hS ls hl
  obtain ⟨hx, hb, hr, hlk, hml, hown, hts, hK, hA, hnm⟩ := B
  have hown : s.vm.findClass RJ5 = some m.cls := hown
  have hl : lv_has ls 1 [(0, .ref a_this)] := hl
  have hP : va_P D vwCl (fl ([ce_K4 a_this v_this o_this] : List va_W)) s.heap := hP
  have hUJ4 : ∀ w ∈ u_ws RJ4 TJ4 4, w.before [.ref a_this].toArray s = true := fun w h => hts w (List.mem_cons_of_mem _ (List.mem_append_right _ h))
  unfold ff_J5_length_8abf5 at hf
  refine lv_aload_n hx hb dJ5_length_8abf5_0 rfl (lv_at hl 0 rfl) ?_
  refine va_get (D := D) (ci := 1) (v := .int (os_I o_this 3)) (C := RJ4) (T := TJ4) (N := 4) hx hb hUJ4 (fun _ h9 => h9) hown hK hP (pl [ce_K4 a_this v_this o_this] 0 0) (sg_get rfl rfl) rfl 3 (by decide) (hts (Cond.fieldLink RJ5 79 "java/lang/AbstractStringBuilder" "count" "I") (List.mem_of_getElem? (i := 1) rfl)) (fun _ h9 => h9) rfl dJ5_length_8abf5_1 ?_
  have hP : va_P D vwCl (fl ([ce_K4 a_this v_this o_this] : List va_W)) _ := hP
  have hD : va_D A (fl ([ce_K4 a_this v_this o_this] : List va_W)) := hD
  rw [← Option.some.inj hf]
  exact mg_reti ⟨rfl, rfl⟩ (by show _ ≤ 0; omega) (by show _ ≤ 0; omega) hx hb hr hlk hP hK hD hS dJ5_length_8abf5_4
def ff_J4_length_8abf5 (N : Nat) (o_this : os_T) : Option Int32 :=
  ((ff_J5_length_8abf5 N o_this).bind fun u_1 => some u_1)
set_option maxHeartbeats 4000000 in
set_option maxRecDepth 100000 in
theorem mm_J4_length_8abf5 (l : Launch) (hst : l.stackTraces = false) (zz : Nat → Nat → Nat) (D : va_G) (kA : Nat → ClassId) (N : Nat) (v_this : Nat) (a_this : Nat) (o_this : os_T) (out : Int32) (hf : ff_J4_length_8abf5 N o_this = some out) : mg_C l zz D kA yJ4_length_8abf5 wsJ4_length_8abf5 ({ frames := 1, cells := 0, slots := 0, locals := 20 } : Room) [.ref a_this] (fl ([ce_K4 a_this v_this o_this] : List va_W)) (fun rv w1 => rv = some (.int out) ∧ w1 = (fl ([ce_K4 a_this v_this o_this] : List va_W))) := by
  refine mg_of (cc := cJ4_length_8abf5) (maxL := 1) (ret := (some .int)) (by decide) rfl (Nat.le_of_ble_eq_true rfl) ?_
  intro p e s m below meth c A B hZ hD hP hS ls hl
  obtain ⟨hx, hb, hr, hlk, hml, hown, hts, hK, hA, hnm⟩ := B
  have hown : s.vm.findClass RJ4 = some m.cls := hown
  have hl : lv_has ls 1 [(0, .ref a_this)] := hl
  have hP : va_P D vwCl (fl ([ce_K4 a_this v_this o_this] : List va_W)) s.heap := hP
  unfold ff_J4_length_8abf5 at hf
  refine lv_aload_n hx hb dJ4_length_8abf5_0 rfl (lv_at hl 0 rfl) ?_
  obtain ⟨u_1, he_2, hf⟩ := os_bd hf
  refine mg_callSU (wcs := [ce_K4 a_this v_this o_this]) (wrs := []) (ss := [ce_K4 a_this v_this o_this]) (hK.1 1 _ rfl).2 ⟨hx, hb, hml, hown, hts⟩ (mm_J5_length_8abf5 l hst zz D kA N v_this a_this o_this u_1 he_2) (va_cwSU 0 hts gJ4_length_8abf5_J5_length_8abf5_s343 rfl rfl rfl (by decide +kernel) ⟨Nat.le_of_ble_eq_true rfl, Nat.le_of_ble_eq_true rfl⟩) (va_recv hK hP (q0 := pl [ce_K4 a_this v_this o_this] 0 0) rfl (sg_get rfl rfl)) rfl hl.1 (As := []) (rest := []) rfl (Nat.le_of_ble_eq_true rfl) dJ4_length_8abf5_1 ⟨(by show 0 + 0 ≤ 0; omega), (by show 0 + 0 ≤ 0; omega)⟩ hK hP hD hS hA hZ (pm_seg [ce_K4 a_this v_this o_this] ([ce_K4 a_this v_this o_this] ++ []) [0] 1 rfl (by decide) rfl (by decide)) (fun rv w1 H locs hq hP hD hS => ?_)
  obtain ⟨rfl, rfl⟩ := hq
  refine W.widen (k := 0) (n := 0) (by show _ + 0 ≤ _; omega) (by show _ + 0 ≤ _; omega) ?_
  have hP : va_P D vwCl (fl ([ce_K4 a_this v_this o_this] : List va_W)) _ := (show va_P D vwCl (fl ([ce_K4 a_this v_this o_this] ++ [] : List va_W)) _ from (by rw [fl_app]; exact hP))
  have hD : va_D A (fl ([ce_K4 a_this v_this o_this] : List va_W)) := (show va_D A (fl ([ce_K4 a_this v_this o_this] ++ [] : List va_W)) from (by rw [fl_app]; exact hD))
  refine W.eq (g2 := F0 m 4 ls [.int u_1]) rfl ?_
  have hP : va_P D vwCl (fl ([ce_K4 a_this v_this o_this] : List va_W)) _ := hP
  have hD : va_D A (fl ([ce_K4 a_this v_this o_this] : List va_W)) := hD
  rw [← Option.some.inj hf]
  exact mg_reti ⟨rfl, rfl⟩ (by show _ ≤ 0; omega) (by show _ ≤ 0; omega) hx hb hr hlk hP hK hD hS dJ4_length_8abf5_4
def ff_J7_checkLength_df160 (N : Nat) (a0 : Int32) (a1 : Int32) : Option Unit :=
  (if a0 ≤ a1 then some () else none)
set_option maxHeartbeats 4000000 in
set_option maxRecDepth 100000 in
theorem mm_J7_checkLength_df160 (l : Launch) (hst : l.stackTraces = false) (zz : Nat → Nat → Nat) (D : va_G) (kA : Nat → ClassId) (N : Nat) (a0 : Int32) (a1 : Int32) (out : Unit) (hf : ff_J7_checkLength_df160 N a0 a1 = some out) : mg_C l zz D kA yJ7_checkLength_df160 wsJ7_checkLength_df160 ({ frames := 0, cells := 0, slots := 0, locals := 0 } : Room) [.int a0, .int a1] (fl ([] : List va_W)) (fun rv w1 => rv = none ∧ w1 = (fl ([] : List va_W))) := by
  refine mg_of (cc := cJ7_checkLength_df160) (maxL := 2) (ret := none) (by decide) rfl (Nat.le_of_ble_eq_true rfl) ?_
  intro p e s m below meth c A B hZ hD hP hS ls hl
  obtain ⟨hx, hb, hr, hlk, hml, hown, hts, hK, hA, hnm⟩ := B
  have hown : s.vm.findClass RJ7 = some m.cls := hown
  have hl : lv_has ls 2 [(0, .int a0), (1, .int a1)] := hl
  have hP : va_P D vwCl (fl ([] : List va_W)) s.heap := hP
  unfold ff_J7_checkLength_df160 at hf
  refine lv_iload_n hx hb dJ7_checkLength_df160_0 rfl (lv_at hl 1 rfl) ?_
  refine lv_iload_n hx hb dJ7_checkLength_df160_1 rfl (lv_at hl 0 rfl) ?_
  refine lv_icmp_ge (tgt := 37) hx hb dJ7_checkLength_df160_2 (by decide) (fun hc_1 => ?_) (fun hc_1 => ?_)
  · rw [if_pos (show a0 ≤ a1 from hc_1)] at hf
    have hP : va_P D vwCl (fl ([] : List va_W)) _ := hP
    have hD : va_D A (fl ([] : List va_W)) := hD
    exact mg_retv ⟨rfl, rfl⟩ (by show _ ≤ 0; omega) (by show _ ≤ 0; omega) hx hb hr hlk hP hK hD hS dJ7_checkLength_df160_37
  · rw [if_neg (show ¬ (a0 ≤ a1) from hc_1)] at hf
    cases hf
def ff_J7_copyOfRangeByte_39247 (N : Nat) (o_p0 : os_T) (a1 : Int32) (a2 : Int32) : Option os_T :=
  ((ff_J7_checkLength_df160 N a1 a2).bind fun u_1 => (if ¬ (a2 - a1) < 0 ∧ Int32.toNatClampNeg (a2 - a1) ≤ 1000 then (if ((¬ a1 < 0 ∧ ¬ (0 : Int32) < 0) ∧ ¬ (if (a2 - a1) < ((Int32.ofNat (ci_n o_p0)) - a1) then (a2 - a1) else ((Int32.ofNat (ci_n o_p0)) - a1)) < 0) ∧ (Int32.toNatClampNeg a1 + Int32.toNatClampNeg (if (a2 - a1) < ((Int32.ofNat (ci_n o_p0)) - a1) then (a2 - a1) else ((Int32.ofNat (ci_n o_p0)) - a1)) ≤ ci_n o_p0 ∧ Int32.toNatClampNeg (0 : Int32) + Int32.toNatClampNeg (if (a2 - a1) < ((Int32.ofNat (ci_n o_p0)) - a1) then (a2 - a1) else ((Int32.ofNat (ci_n o_p0)) - a1)) ≤ ci_n (ss_I os_zero 0 (a2 - a1))) ∧ ∀ i, i < Int32.toNatClampNeg (if (a2 - a1) < ((Int32.ofNat (ci_n o_p0)) - a1) then (a2 - a1) else ((Int32.ofNat (ci_n o_p0)) - a1)) → fits .byte (.int ((os_A o_p0 0) (Int32.toNatClampNeg a1 + i))) = true then some (ss_A (ss_I os_zero 0 (a2 - a1)) 0 (va_cpy (os_A o_p0 0) (os_A (ss_I os_zero 0 (a2 - a1)) 0) (Int32.toNatClampNeg a1) (Int32.toNatClampNeg (0 : Int32)) (Int32.toNatClampNeg (if (a2 - a1) < ((Int32.ofNat (ci_n o_p0)) - a1) then (a2 - a1) else ((Int32.ofNat (ci_n o_p0)) - a1))))) else none) else none))
set_option maxHeartbeats 4000000 in
set_option maxRecDepth 100000 in
theorem mm_J7_copyOfRangeByte_39247 (l : Launch) (hst : l.stackTraces = false) (zz : Nat → Nat → Nat) (D : va_G) (kA : Nat → ClassId) (N : Nat) (a_p0 : Nat) (o_p0 : os_T) (a1 : Int32) (a2 : Int32) (out : os_T) (hf : ff_J7_copyOfRangeByte_39247 N o_p0 a1 a2 = some out) : mg_C l zz D kA yJ7_copyOfRangeByte_39247 wsJ7_copyOfRangeByte_39247 ({ frames := 1, cells := 1, slots := 1000, locals := 60 } : Room) [.ref a_p0, .int a1, .int a2] (fl ([ce_BA kA a_p0 o_p0] : List va_W)) (fun rv w1 => ∃ e_ret : Nat, rv = some (.ref e_ret) ∧ w1 = (fl ([ce_BA kA a_p0 o_p0, ce_BA kA e_ret out] : List va_W))) := by
  refine mg_of (cc := cJ7_copyOfRangeByte_39247) (maxL := 5) (ret := (some (.array .byte))) (by decide) rfl (Nat.le_of_ble_eq_true rfl) ?_
  intro p e s m below meth c A B hZ hD hP hS ls hl
  obtain ⟨hx, hb, hr, hlk, hml, hown, hts, hK, hA, hnm⟩ := B
  have hown : s.vm.findClass RJ7 = some m.cls := hown
  have hl : lv_has ls 5 [(0, .ref a_p0), (1, .int a1), (2, .int a2)] := hl
  have hP : va_P D vwCl (fl ([ce_BA kA a_p0 o_p0] : List va_W)) s.heap := hP
  unfold ff_J7_copyOfRangeByte_39247 at hf
  refine lv_iload_n hx hb dJ7_copyOfRangeByte_39247_0 rfl (lv_at hl 1 rfl) ?_
  refine lv_iload_n hx hb dJ7_copyOfRangeByte_39247_1 rfl (lv_at hl 2 rfl) ?_
  obtain ⟨u_1, he_2, hf⟩ := os_bd hf
  refine mg_callS (wcs := []) (wrs := [ce_BA kA a_p0 o_p0]) (ss := [ce_BA kA a_p0 o_p0]) ⟨hx, hb, hml, hown, hts⟩ (mm_J7_checkLength_df160 l hst zz D kA N a1 a2 u_1 he_2) (va_cwS 2 hts gJ7_copyOfRangeByte_39247_J7_checkLength_df160 rfl rfl rfl (by decide +kernel) ⟨Nat.le_of_ble_eq_true rfl, Nat.le_of_ble_eq_true rfl⟩) rfl hl.1 (As := [.int a1, .int a2]) (rest := []) rfl (Nat.le_of_ble_eq_true rfl) dJ7_copyOfRangeByte_39247_2 ⟨(by show 0 + 0 ≤ 1; omega), (by show 0 + 0 ≤ 1000; omega)⟩ hK hP hD hS hA hZ (pm_seg [ce_BA kA a_p0 o_p0] ([] ++ [ce_BA kA a_p0 o_p0]) [0] 1 rfl (by decide) rfl (by decide)) (fun rv w1 H locs hq hP hD hS => ?_)
  obtain ⟨rfl, rfl⟩ := hq
  refine W.widen (k := 0) (n := 0) (by show _ + 0 ≤ _; omega) (by show _ + 0 ≤ _; omega) ?_
  have hP : va_P D vwCl (fl ([ce_BA kA a_p0 o_p0] : List va_W)) _ := (show va_P D vwCl (fl ([] ++ [ce_BA kA a_p0 o_p0] : List va_W)) _ from (by rw [fl_app]; exact hP))
  have hD : va_D A (fl ([ce_BA kA a_p0 o_p0] : List va_W)) := (show va_D A (fl ([] ++ [ce_BA kA a_p0 o_p0] : List va_W)) from (by rw [fl_app]; exact hD))
  refine W.eq (g2 := F0 m 5 ls []) rfl ?_
  refine lv_iload_n hx hb dJ7_copyOfRangeByte_39247_5 rfl (lv_at hl 2 rfl) ?_
  refine lv_iload_n hx hb dJ7_copyOfRangeByte_39247_6 rfl (lv_at hl 1 rfl) ?_
  refine lv_isub hx hb dJ7_copyOfRangeByte_39247_7 ?_
  refine lv_istore_n (lv' := [(3, .int (a2 - a1)), (0, .ref a_p0), (1, .int a1), (2, .int a2)]) hx hb dJ7_copyOfRangeByte_39247_8 rfl hl (by decide) rfl (fun ls hl => ?_)
  refine lv_iload_n hx hb dJ7_copyOfRangeByte_39247_9 rfl (lv_at hl 0 rfl) ?_
  obtain ⟨hn_4, hf⟩ := os_if hf
  refine mi_newa (atype := .byte) (ty := .byte) (a0 := (Int32.toNatClampNeg (a2 - a1), .inl (fun _ => 0))) 2 hx hb (hts (Cond.arrayClass .byte) (List.mem_of_getElem? (i := 1) rfl)) rfl rfl (fun c0 h9 => ⟨_, rfl, va_nm_byte h9⟩) hK hP hD hS hA (fun _ => rfl) hn_4.1 rfl (by have := hn_4.2; show _ * 1 ≤ _; omega) (by show 0 + 1 ≤ 1; omega) (by have := hn_4.2; show 0 + _ ≤ 1000; omega) dJ7_copyOfRangeByte_39247_10 (fun q_3 H hP hD hS => ?_)
  refine W.widen (k := 1) (n := 1000) (by omega) (by have := hn_4.2; omega) ?_
  have hP : va_P D vwCl (fl ([ce_BA kA a_p0 o_p0, ce_BA kA q_3 (ss_I os_zero 0 (a2 - a1))] : List va_W)) _ := sg_Pn hP
  have hD : va_D A (fl ([ce_BA kA a_p0 o_p0, ce_BA kA q_3 (ss_I os_zero 0 (a2 - a1))] : List va_W)) := sg_Dn hD
  refine lv_astore (lv' := [(4, .ref q_3), (3, .int (a2 - a1)), (0, .ref a_p0), (1, .int a1), (2, .int a2)]) hx hb dJ7_copyOfRangeByte_39247_12 hl (by decide) rfl (fun ls hl => ?_)
  refine lv_aload_n hx hb dJ7_copyOfRangeByte_39247_14 rfl (lv_at hl 2 rfl) ?_
  refine lv_iload_n hx hb dJ7_copyOfRangeByte_39247_15 rfl (lv_at hl 3 rfl) ?_
  refine lv_aload hx hb dJ7_copyOfRangeByte_39247_16 (lv_at hl 0 rfl) ?_
  refine lv_iconst (v := 0) hx hb dJ7_copyOfRangeByte_39247_18 (by decide) ?_
  refine lv_aload_n hx hb dJ7_copyOfRangeByte_39247_19 rfl (lv_at hl 2 rfl) ?_
  refine va_alen (v := Int32.ofNat (ci_n o_p0)) hx hb hK hP (pl [ce_BA kA a_p0 o_p0, ce_BA kA q_3 (ss_I os_zero 0 (a2 - a1))] 0 0) 2 (sg_get rfl rfl) rfl rfl dJ7_copyOfRangeByte_39247_20 ?_
  refine lv_iload_n hx hb dJ7_copyOfRangeByte_39247_21 rfl (lv_at hl 3 rfl) ?_
  refine lv_isub hx hb dJ7_copyOfRangeByte_39247_22 ?_
  refine lv_iload_n hx hb dJ7_copyOfRangeByte_39247_23 rfl (lv_at hl 1 rfl) ?_
  refine va_mmin hx hb (hml.trans hl.1.symm) hown (hts (Cond.methodLink RJ7 304 Lib.Math.min.name) (List.mem_of_getElem? (i := 2) rfl)) (hts (Cond.static Lib.Math.min.name) (List.mem_of_getElem? (i := 3) rfl)) (hts (Cond.initialized "java/lang/Math") (List.mem_of_getElem? (i := 4) rfl)) (hts (Cond.code Lib.Math.min.name Lib.Math.min.code 2 (some .int)) (List.mem_of_getElem? (i := 5) rfl)) (Nat.le_of_ble_eq_true rfl) (Nat.le_of_ble_eq_true rfl) (by show 1 ≤ 1; omega) (by show 1000 ≤ 1000; omega) dJ7_copyOfRangeByte_39247_24 ?_
  obtain ⟨hc_5, hf⟩ := os_if hf
  refine va_copyi hx hb (hml.trans hl.1.symm) hown (hts (Cond.methodLink RJ7 150 arraycopyName) (List.mem_of_getElem? (i := 6) rfl)) (hts (Cond.native arraycopyName) (List.mem_of_getElem? (i := 7) rfl)) (hts (Cond.static arraycopyName) (List.mem_of_getElem? (i := 8) rfl)) (hts (Cond.initialized "java/lang/System") (List.mem_of_getElem? (i := 9) rfl)) hK hP hD hS (pl [ce_BA kA a_p0 o_p0, ce_BA kA q_3 (ss_I os_zero 0 (a2 - a1))] 0 0) (pl [ce_BA kA a_p0 o_p0, ce_BA kA q_3 (ss_I os_zero 0 (a2 - a1))] 1 0) 2 2 (ty := .byte) (sg_get rfl rfl) (sg_get rfl rfl) rfl rfl rfl hc_5.1.1.1 hc_5.1.1.2 hc_5.1.2 hc_5.2.1.1 hc_5.2.1.2 hc_5.2.2 (Nat.le_of_ble_eq_true rfl) (Nat.le_of_ble_eq_true rfl) dJ7_copyOfRangeByte_39247_27 (fun H locs hP hD hS => ?_)
  have hP : va_P D vwCl (fl ([ce_BA kA a_p0 o_p0, ce_BA kA q_3 (ss_A (ss_I os_zero 0 (a2 - a1)) 0 (va_cpy (os_A o_p0 0) (os_A (ss_I os_zero 0 (a2 - a1)) 0) (Int32.toNatClampNeg a1) (Int32.toNatClampNeg (0 : Int32)) (Int32.toNatClampNeg (if (a2 - a1) < ((Int32.ofNat (ci_n o_p0)) - a1) then (a2 - a1) else ((Int32.ofNat (ci_n o_p0)) - a1)))))] : List va_W)) _ := sg_P rfl (Nat.le_of_ble_eq_true rfl) rfl hP
  have hD : va_D A (fl ([ce_BA kA a_p0 o_p0, ce_BA kA q_3 (ss_A (ss_I os_zero 0 (a2 - a1)) 0 (va_cpy (os_A o_p0 0) (os_A (ss_I os_zero 0 (a2 - a1)) 0) (Int32.toNatClampNeg a1) (Int32.toNatClampNeg (0 : Int32)) (Int32.toNatClampNeg (if (a2 - a1) < ((Int32.ofNat (ci_n o_p0)) - a1) then (a2 - a1) else ((Int32.ofNat (ci_n o_p0)) - a1)))))] : List va_W)) := sg_D rfl (Nat.le_of_ble_eq_true rfl) rfl hD
  refine lv_aload hx hb dJ7_copyOfRangeByte_39247_30 (lv_at hl 0 rfl) ?_
  have hP : va_P D vwCl (fl ([ce_BA kA a_p0 o_p0, ce_BA kA q_3 (ss_A (ss_I os_zero 0 (a2 - a1)) 0 (va_cpy (os_A o_p0 0) (os_A (ss_I os_zero 0 (a2 - a1)) 0) (Int32.toNatClampNeg a1) (Int32.toNatClampNeg (0 : Int32)) (Int32.toNatClampNeg (if (a2 - a1) < ((Int32.ofNat (ci_n o_p0)) - a1) then (a2 - a1) else ((Int32.ofNat (ci_n o_p0)) - a1)))))] : List va_W)) _ := hP
  have hD : va_D A (fl ([ce_BA kA a_p0 o_p0, ce_BA kA q_3 (ss_A (ss_I os_zero 0 (a2 - a1)) 0 (va_cpy (os_A o_p0 0) (os_A (ss_I os_zero 0 (a2 - a1)) 0) (Int32.toNatClampNeg a1) (Int32.toNatClampNeg (0 : Int32)) (Int32.toNatClampNeg (if (a2 - a1) < ((Int32.ofNat (ci_n o_p0)) - a1) then (a2 - a1) else ((Int32.ofNat (ci_n o_p0)) - a1)))))] : List va_W)) := hD
  rw [← Option.some.inj hf]
  exact mg_reta ⟨q_3, rfl, rfl⟩ (by show _ ≤ 1; omega) (by show _ ≤ 1000; omega) hx hb hr (by first | exact Or.inl ⟨_, rfl⟩ | exact Or.inr ⟨_, rfl⟩) hlk hP hK hD hS dJ7_copyOfRangeByte_39247_32
def ff_J7_copyOfRange_39247_b10 (N : Nat) (o_p0 : os_T) (x1 : Int32) (x2 : Int32) : Option os_T :=
  ((ff_J7_copyOfRangeByte_39247 N o_p0 x1 x2).bind fun u_5 => some u_5)
def ff_J7_copyOfRange_39247 (N : Nat) (o_p0 : os_T) (a1 : Int32) (a2 : Int32) : Option os_T :=
  (if a1 = 0 then (if a2 = (Int32.ofNat (ci_n o_p0)) then (if ci_n o_p0 ≤ 1000 ∧ ∀ i, i < ci_n o_p0 → fits .byte (.int (os_A o_p0 0 i)) = true then some o_p0 else none) else ff_J7_copyOfRange_39247_b10 N o_p0 a1 a2) else ff_J7_copyOfRange_39247_b10 N o_p0 a1 a2)
set_option maxHeartbeats 4000000 in
set_option maxRecDepth 100000 in
theorem mm_J7_copyOfRange_39247 (l : Launch) (hst : l.stackTraces = false) (zz : Nat → Nat → Nat) (D : va_G) (kA : Nat → ClassId) (N : Nat) (a_p0 : Nat) (o_p0 : os_T) (a1 : Int32) (a2 : Int32) (out : os_T) (hf : ff_J7_copyOfRange_39247 N o_p0 a1 a2 = some out) : mg_C l zz D kA yJ7_copyOfRange_39247 wsJ7_copyOfRange_39247 ({ frames := 2, cells := 1, slots := 1000, locals := 84 } : Room) [.ref a_p0, .int a1, .int a2] (fl ([ce_BA kA a_p0 o_p0] : List va_W)) (fun rv w1 => ∃ e_ret : Nat, rv = some (.ref e_ret) ∧ w1 = (fl ([ce_BA kA a_p0 o_p0, ce_BA kA e_ret out] : List va_W))) := by
  refine mg_of (cc := cJ7_copyOfRange_39247) (maxL := 3) (ret := (some (.array .byte))) (by decide) rfl (Nat.le_of_ble_eq_true rfl) ?_
  intro p e s m below meth c A B hZ hD hP hS ls hl
  obtain ⟨hx, hb, hr, hlk, hml, hown, hts, hK, hA, hnm⟩ := B
  have hown : s.vm.findClass RJ7 = some m.cls := hown
  have hl : lv_has ls 3 [(0, .ref a_p0), (1, .int a1), (2, .int a2)] := hl
  have hP : va_P D vwCl (fl ([ce_BA kA a_p0 o_p0] : List va_W)) s.heap := hP
  have hB10 : ∀ (x1 : Int32) (x2 : Int32) (H : Heap) (locs : List Loc) (ls : Array Slot), va_P D vwCl (fl ([ce_BA kA a_p0 o_p0] : List va_W)) H → va_D A (fl ([ce_BA kA a_p0 o_p0] : List va_W)) → va_S A s.heap H locs → lv_has ls 3 [(0, .ref a_p0), (1, .int x1), (2, .int x2)] → ff_J7_copyOfRange_39247_b10 N o_p0 x1 x2 = some out → W p l e ({ frames := 2, cells := 1, slots := 1000, locals := 84 } : Room) s m [.ref a_p0, .int a1, .int a2].toArray below meth c H locs 0 0 (MQ below (mg_Q D kA A (fun rv w1 => ∃ e_ret : Nat, rv = some (.ref e_ret) ∧ w1 = (fl ([ce_BA kA a_p0 o_p0, ce_BA kA e_ret out] : List va_W)))) [.ref a_p0, .int a1, .int a2].toArray s 1 1000 A) (F0 m 10 ls []) := by
    intro x1 x2 H locs ls hP hD hS hl hf
    unfold ff_J7_copyOfRange_39247_b10 at hf
    refine lv_aload_n hx hb dJ7_copyOfRange_39247_10 rfl (lv_at hl 0 rfl) ?_
    refine lv_iload_n hx hb dJ7_copyOfRange_39247_11 rfl (lv_at hl 1 rfl) ?_
    refine lv_iload_n hx hb dJ7_copyOfRange_39247_12 rfl (lv_at hl 2 rfl) ?_
    obtain ⟨u_5, he_6, hf⟩ := os_bd hf
    refine mg_callS (wcs := [ce_BA kA a_p0 o_p0]) (wrs := []) (ss := [ce_BA kA a_p0 o_p0]) ⟨hx, hb, hml, hown, hts⟩ (mm_J7_copyOfRangeByte_39247 l hst zz D kA N a_p0 o_p0 x1 x2 u_5 he_6) (va_cwS 3 hts gJ7_copyOfRange_39247_J7_copyOfRangeByte_39247 rfl rfl rfl (by decide +kernel) ⟨Nat.le_of_ble_eq_true rfl, Nat.le_of_ble_eq_true rfl⟩) rfl hl.1 (As := [.ref a_p0, .int x1, .int x2]) (rest := []) rfl (Nat.le_of_ble_eq_true rfl) dJ7_copyOfRange_39247_13 ⟨(by show 0 + 1 ≤ 1; omega), (by show 0 + 1000 ≤ 1000; omega)⟩ hK hP hD hS hA hZ (pm_seg [ce_BA kA a_p0 o_p0] ([ce_BA kA a_p0 o_p0] ++ []) [0] 1 rfl (by decide) rfl (by decide)) (fun rv w1 H locs hq hP hD hS => ?_)
    obtain ⟨e_ret_7, rfl, rfl⟩ := hq
    refine W.widen (k := 1) (n := 1000) (by show _ + 1 ≤ _; omega) (by show _ + 1000 ≤ _; omega) ?_
    have hP : va_P D vwCl (fl ([ce_BA kA a_p0 o_p0, ce_BA kA e_ret_7 u_5] : List va_W)) _ := (show va_P D vwCl (fl ([ce_BA kA a_p0 o_p0, ce_BA kA e_ret_7 u_5] ++ [] : List va_W)) _ from (by rw [fl_app]; exact hP))
    have hD : va_D A (fl ([ce_BA kA a_p0 o_p0, ce_BA kA e_ret_7 u_5] : List va_W)) := (show va_D A (fl ([ce_BA kA a_p0 o_p0, ce_BA kA e_ret_7 u_5] ++ [] : List va_W)) from (by rw [fl_app]; exact hD))
    refine W.eq (g2 := F0 m 16 ls [.ref e_ret_7]) rfl ?_
    have hP : va_P D vwCl (fl ([ce_BA kA a_p0 o_p0, ce_BA kA e_ret_7 u_5] : List va_W)) _ := hP
    have hD : va_D A (fl ([ce_BA kA a_p0 o_p0, ce_BA kA e_ret_7 u_5] : List va_W)) := hD
    rw [← Option.some.inj hf]
    exact mg_reta ⟨e_ret_7, rfl, rfl⟩ (by show _ ≤ 1; omega) (by show _ ≤ 1000; omega) hx hb hr (by first | exact Or.inl ⟨_, rfl⟩ | exact Or.inr ⟨_, rfl⟩) hlk hP hK hD hS dJ7_copyOfRange_39247_16
  unfold ff_J7_copyOfRange_39247 at hf
  refine lv_iload_n hx hb dJ7_copyOfRange_39247_0 rfl (lv_at hl 1 rfl) ?_
  refine lv_if_ne (tgt := 10) hx hb dJ7_copyOfRange_39247_1 (by decide) (fun hc_1 => ?_) (fun hc_1 => ?_)
  · rw [if_neg (show ¬ (a1 = 0) from hc_1)] at hf
    exact hB10 a1 a2 _ _ _ hP hD hS (lv_sub hl [0, 1, 2] rfl) hf
  · rw [if_pos (show a1 = 0 from hc_1)] at hf
    refine lv_iload_n hx hb dJ7_copyOfRange_39247_4 rfl (lv_at hl 2 rfl) ?_
    refine lv_aload_n hx hb dJ7_copyOfRange_39247_5 rfl (lv_at hl 0 rfl) ?_
    refine va_alen (v := Int32.ofNat (ci_n o_p0)) hx hb hK hP (pl [ce_BA kA a_p0 o_p0] 0 0) 2 (sg_get rfl rfl) rfl rfl dJ7_copyOfRange_39247_6 ?_
    refine lv_icmp_eq (tgt := 17) hx hb dJ7_copyOfRange_39247_7 (by decide) (fun hc_2 => ?_) (fun hc_2 => ?_)
    · rw [if_pos (show a2 = (Int32.ofNat (ci_n o_p0)) from hc_2)] at hf
      refine lv_aload_n hx hb dJ7_copyOfRange_39247_17 rfl (lv_at hl 0 rfl) ?_
      obtain ⟨hn_4, hf⟩ := os_if hf
      refine va_clone hx hb (hml.trans hl.1.symm) hown (hts (Cond.methodLink RJ7 310 ⟨"[B", "clone", "()Ljava/lang/Object;"⟩) (List.mem_of_getElem? (i := 1) rfl)) (hts (Cond.sameMethod "[B" "java/lang/Object" "clone" "()Ljava/lang/Object;") (List.mem_of_getElem? (i := 2) rfl)) (hts (Cond.native ⟨"java/lang/Object", "clone", "()Ljava/lang/Object;"⟩) (List.mem_of_getElem? (i := 3) rfl)) (hts (Cond.instanceMethod ⟨"java/lang/Object", "clone", "()Ljava/lang/Object;"⟩) (List.mem_of_getElem? (i := 4) rfl)) (hts (Cond.selects "[B" ⟨"[B", "clone", "()Ljava/lang/Object;"⟩ ⟨"java/lang/Object", "clone", "()Ljava/lang/Object;"⟩) (List.mem_of_getElem? (i := 5) rfl)) hZ.2.2.1.2.2.2.2.2.2.2.2.2.1 hK hP hD hS hA (pl [ce_BA kA a_p0 o_p0] 0 0) 2 (ty := .byte) (sg_get rfl rfl) rfl (va_nm_byte (hK.2 2 _ rfl).2) (va_fit hn_4.2) (Nat.le_of_ble_eq_true rfl) (Nat.le_of_ble_eq_true rfl) (by show 0 + 1 ≤ 1; omega) (by have := hn_4.1; show 0 + _ ≤ 1000; omega) dJ7_copyOfRange_39247_18 (fun q_3 H _ hP hD hS => ?_)
      refine W.widen (k := 1) (n := 1000) (by omega) (by have := hn_4.1; show _ + ci_n _ ≤ _; omega) ?_
      have hP : va_P D vwCl (fl ([ce_BA kA a_p0 o_p0, ce_BA kA q_3 o_p0] : List va_W)) _ := sg_Pn hP
      have hD : va_D A (fl ([ce_BA kA a_p0 o_p0, ce_BA kA q_3 o_p0] : List va_W)) := sg_Dn hD
      refine va_castA hx hb hown (hts (Cond.classLink RJ7 311 "[B") (List.mem_of_getElem? (i := 6) rfl)) hP (pl [ce_BA kA a_p0 o_p0, ce_BA kA q_3 o_p0] 1 0) (sg_get rfl rfl) (va_nm_byte (hK.2 2 _ rfl).2) dJ7_copyOfRange_39247_21 ?_
      have hP : va_P D vwCl (fl ([ce_BA kA a_p0 o_p0, ce_BA kA q_3 o_p0] : List va_W)) _ := hP
      have hD : va_D A (fl ([ce_BA kA a_p0 o_p0, ce_BA kA q_3 o_p0] : List va_W)) := hD
      rw [← Option.some.inj hf]
      exact mg_reta ⟨q_3, rfl, rfl⟩ (by show _ ≤ 1; omega) (by show _ ≤ 1000; omega) hx hb hr (by first | exact Or.inl ⟨_, rfl⟩ | exact Or.inr ⟨_, rfl⟩) hlk hP hK hD hS dJ7_copyOfRange_39247_24
    · rw [if_neg (show ¬ (a2 = (Int32.ofNat (ci_n o_p0))) from hc_2)] at hf
      exact hB10 a1 a2 _ _ _ hP hD hS (lv_sub hl [0, 1, 2] rfl) hf
def ff_J0_init_db425 (N : Nat) (o_p1 : os_T) (o_p1_value : os_T) : Option (os_T × os_T) :=
  ((ff_J5_getValue_6d5f1 N o_p1 o_p1_value).bind fun u_1 => ((ff_J4_length_8abf5 N o_p1).bind fun u_3 => ((ff_J5_isLatin1_aae02 N o_p1).bind fun u_5 => (if u_5 = 0 then none else ((ff_J7_copyOfRange_39247 N o_p1_value (0 : Int32) u_3).bind fun u_8 => some (os_zero, u_8))))))
set_option maxHeartbeats 4000000 in
set_option maxRecDepth 100000 in
theorem mm_J0_init_db425 (l : Launch) (hst : l.stackTraces = false) (zz : Nat → Nat → Nat) (D : va_G) (kA : Nat → ClassId) (N : Nat) (a_this : Nat) (a_p1 : Nat) (a_p1_value : Nat) (o_p1 : os_T) (o_p1_value : os_T) (out : os_T × os_T) (hf : ff_J0_init_db425 N o_p1 o_p1_value = some out) : mg_C l zz D kA yJ0_init_db425 wsJ0_init_db425 ({ frames := 3, cells := 1, slots := 1000, locals := 106 } : Room) [.ref a_this, .ref a_p1, .null] (fl ([[(a_this, .inr (0, [.null, .int (0 : Int32), .int (0 : Int32), .int (0 : Int32)]))], ce_K4 a_p1 a_p1_value o_p1, ce_BA kA a_p1_value o_p1_value] : List va_W)) (fun rv w1 => ∃ e_this_value : Nat, rv = none ∧ w1 = (fl ([ce_K0 a_this e_this_value out.1, ce_K4 a_p1 a_p1_value o_p1, ce_BA kA a_p1_value o_p1_value, ce_BA kA e_this_value out.2] : List va_W))) := by
  refine mg_of (cc := cJ0_init_db425) (maxL := 5) (ret := none) (by decide) rfl (Nat.le_of_ble_eq_true rfl) ?_
  intro p e s m below meth c A B hZ hD hP hS ls hl
  obtain ⟨hx, hb, hr, hlk, hml, hown, hts, hK, hA, hnm⟩ := B
  have hown : s.vm.findClass RJ0 = some m.cls := hown
  have hnm : meth.name = "<init>" := hnm
  have hl : lv_has ls 5 [(0, .ref a_this), (1, .ref a_p1), (2, .null)] := hl
  have hP : va_P D vwCl (fl ([[(a_this, .inr (0, [.null, .int (0 : Int32), .int (0 : Int32), .int (0 : Int32)]))], ce_K4 a_p1 a_p1_value o_p1, ce_BA kA a_p1_value o_p1_value] : List va_W)) s.heap := hP
  have hUJ0 : ∀ w ∈ u_ws RJ0 TJ0 4, w.before [.ref a_this, .ref a_p1, .null].toArray s = true := fun w h => hts w (List.mem_cons_of_mem _ (List.mem_append_left _ (List.mem_append_right _ h)))
  have hUJ4 : ∀ w ∈ u_ws RJ4 TJ4 4, w.before [.ref a_this, .ref a_p1, .null].toArray s = true := fun w h => hts w (List.mem_cons_of_mem _ (List.mem_append_right _ h))
  unfold ff_J0_init_db425 at hf
  refine lv_aload_n hx hb dJ0_init_db425_0 rfl (lv_at hl 0 rfl) ?_
  refine W.objInit hx hb hown (hts (Cond.methodLink RJ0 1 objectInit) (List.mem_of_getElem? (i := 1) rfl)) (hts (Cond.instanceMethod objectInit) (List.mem_of_getElem? (i := 2) rfl)) (hts (Cond.code objectInit ⟨#[0xb1]⟩ 1 none) (List.mem_of_getElem? (i := 3) rfl)) rfl (by rw [hml]; exact hl.1) rfl dJ0_init_db425_1 (Nat.le_of_ble_eq_true rfl) (Nat.le_of_ble_eq_true rfl) ?_
  refine W.eq (g2 := F0 m 4 ls []) rfl ?_
  refine lv_aload_n hx hb dJ0_init_db425_4 rfl (lv_at hl 1 rfl) ?_
  obtain ⟨u_1, he_2, hf⟩ := os_bd hf
  refine mg_callU (wcs := [ce_K4 a_p1 a_p1_value o_p1, ce_BA kA a_p1_value o_p1_value]) (wrs := [[(a_this, .inr (0, [.null, .int (0 : Int32), .int (0 : Int32), .int (0 : Int32)]))]]) (ss := [[(a_this, .inr (0, [.null, .int (0 : Int32), .int (0 : Int32), .int (0 : Int32)]))], ce_K4 a_p1 a_p1_value o_p1, ce_BA kA a_p1_value o_p1_value]) ⟨hx, hb, hml, hown, hts⟩ (mm_J5_getValue_6d5f1 l hst zz D kA N a_p1 a_p1_value o_p1 o_p1_value u_1 he_2) (va_cwU 0 hts gJ0_init_db425_J5_getValue_6d5f1_u552J4 rfl rfl rfl rfl (by decide +kernel) ⟨Nat.le_of_ble_eq_true rfl, Nat.le_of_ble_eq_true rfl⟩) (va_recv hK hP (q0 := pl [[(a_this, .inr (0, [.null, .int (0 : Int32), .int (0 : Int32), .int (0 : Int32)]))], ce_K4 a_p1 a_p1_value o_p1, ce_BA kA a_p1_value o_p1_value] 1 0) rfl (sg_get rfl rfl)) rfl hl.1 (As := []) (rest := []) rfl (Nat.le_of_ble_eq_true rfl) dJ0_init_db425_5 ⟨(by show 0 + 0 ≤ 1; omega), (by show 0 + 0 ≤ 1000; omega)⟩ hK hP hD hS hA hZ (pm_seg [[(a_this, .inr (0, [.null, .int (0 : Int32), .int (0 : Int32), .int (0 : Int32)]))], ce_K4 a_p1 a_p1_value o_p1, ce_BA kA a_p1_value o_p1_value] ([ce_K4 a_p1 a_p1_value o_p1, ce_BA kA a_p1_value o_p1_value] ++ [[(a_this, .inr (0, [.null, .int (0 : Int32), .int (0 : Int32), .int (0 : Int32)]))]]) [1, 2, 0] 3 rfl (by decide) rfl (by decide)) (fun rv w1 H locs hq hP hD hS => ?_)
  obtain ⟨rfl, rfl⟩ := hq
  refine W.widen (k := 0) (n := 0) (by show _ + 0 ≤ _; omega) (by show _ + 0 ≤ _; omega) ?_
  have hP : va_P D vwCl (fl ([ce_K4 a_p1 a_p1_value o_p1, ce_BA kA a_p1_value o_p1_value, [(a_this, .inr (0, [.null, .int (0 : Int32), .int (0 : Int32), .int (0 : Int32)]))]] : List va_W)) _ := (show va_P D vwCl (fl ([ce_K4 a_p1 a_p1_value o_p1, ce_BA kA a_p1_value o_p1_value] ++ [[(a_this, .inr (0, [.null, .int (0 : Int32), .int (0 : Int32), .int (0 : Int32)]))]] : List va_W)) _ from (by rw [fl_app]; exact hP))
  have hD : va_D A (fl ([ce_K4 a_p1 a_p1_value o_p1, ce_BA kA a_p1_value o_p1_value, [(a_this, .inr (0, [.null, .int (0 : Int32), .int (0 : Int32), .int (0 : Int32)]))]] : List va_W)) := (show va_D A (fl ([ce_K4 a_p1 a_p1_value o_p1, ce_BA kA a_p1_value o_p1_value] ++ [[(a_this, .inr (0, [.null, .int (0 : Int32), .int (0 : Int32), .int (0 : Int32)]))]] : List va_W)) from (by rw [fl_app]; exact hD))
  refine W.eq (g2 := F0 m 8 ls [.ref a_p1_value]) rfl ?_
  refine lv_astore_n (lv' := [(3, .ref a_p1_value), (0, .ref a_this), (1, .ref a_p1), (2, .null)]) hx hb dJ0_init_db425_8 rfl hl (by decide) rfl (fun ls hl => ?_)
  refine lv_aload_n hx hb dJ0_init_db425_9 rfl (lv_at hl 2 rfl) ?_
  obtain ⟨u_3, he_4, hf⟩ := os_bd hf
  refine mg_callU (wcs := [ce_K4 a_p1 a_p1_value o_p1]) (wrs := [ce_BA kA a_p1_value o_p1_value, [(a_this, .inr (0, [.null, .int (0 : Int32), .int (0 : Int32), .int (0 : Int32)]))]]) (ss := [ce_K4 a_p1 a_p1_value o_p1, ce_BA kA a_p1_value o_p1_value, [(a_this, .inr (0, [.null, .int (0 : Int32), .int (0 : Int32), .int (0 : Int32)]))]]) ⟨hx, hb, hml, hown, hts⟩ (mm_J4_length_8abf5 l hst zz D kA N a_p1_value a_p1 o_p1 u_3 he_4) (va_cwO 0 hts gJ0_init_db425_J4_length_8abf5_u549J4 rfl rfl rfl (List.mem_of_getElem? (i := 25) rfl) (by decide +kernel) ⟨Nat.le_of_ble_eq_true rfl, Nat.le_of_ble_eq_true rfl⟩) (va_recv hK hP (q0 := pl [ce_K4 a_p1 a_p1_value o_p1, ce_BA kA a_p1_value o_p1_value, [(a_this, .inr (0, [.null, .int (0 : Int32), .int (0 : Int32), .int (0 : Int32)]))]] 0 0) rfl (sg_get rfl rfl)) rfl hl.1 (As := []) (rest := []) rfl (Nat.le_of_ble_eq_true rfl) dJ0_init_db425_10 ⟨(by show 0 + 0 ≤ 1; omega), (by show 0 + 0 ≤ 1000; omega)⟩ hK hP hD hS hA hZ (pm_seg [ce_K4 a_p1 a_p1_value o_p1, ce_BA kA a_p1_value o_p1_value, [(a_this, .inr (0, [.null, .int (0 : Int32), .int (0 : Int32), .int (0 : Int32)]))]] ([ce_K4 a_p1 a_p1_value o_p1] ++ [ce_BA kA a_p1_value o_p1_value, [(a_this, .inr (0, [.null, .int (0 : Int32), .int (0 : Int32), .int (0 : Int32)]))]]) [0, 1, 2] 3 rfl (by decide) rfl (by decide)) (fun rv w1 H locs hq hP hD hS => ?_)
  obtain ⟨rfl, rfl⟩ := hq
  refine W.widen (k := 0) (n := 0) (by show _ + 0 ≤ _; omega) (by show _ + 0 ≤ _; omega) ?_
  have hP : va_P D vwCl (fl ([ce_K4 a_p1 a_p1_value o_p1, ce_BA kA a_p1_value o_p1_value, [(a_this, .inr (0, [.null, .int (0 : Int32), .int (0 : Int32), .int (0 : Int32)]))]] : List va_W)) _ := (show va_P D vwCl (fl ([ce_K4 a_p1 a_p1_value o_p1] ++ [ce_BA kA a_p1_value o_p1_value, [(a_this, .inr (0, [.null, .int (0 : Int32), .int (0 : Int32), .int (0 : Int32)]))]] : List va_W)) _ from (by rw [fl_app]; exact hP))
  have hD : va_D A (fl ([ce_K4 a_p1 a_p1_value o_p1, ce_BA kA a_p1_value o_p1_value, [(a_this, .inr (0, [.null, .int (0 : Int32), .int (0 : Int32), .int (0 : Int32)]))]] : List va_W)) := (show va_D A (fl ([ce_K4 a_p1 a_p1_value o_p1] ++ [ce_BA kA a_p1_value o_p1_value, [(a_this, .inr (0, [.null, .int (0 : Int32), .int (0 : Int32), .int (0 : Int32)]))]] : List va_W)) from (by rw [fl_app]; exact hD))
  refine W.eq (g2 := F0 m 13 ls [.int u_3]) rfl ?_
  refine lv_istore (lv' := [(4, .int u_3), (3, .ref a_p1_value), (0, .ref a_this), (1, .ref a_p1), (2, .null)]) hx hb dJ0_init_db425_13 hl (by decide) rfl (fun ls hl => ?_)
  refine lv_aload_n hx hb dJ0_init_db425_15 rfl (lv_at hl 3 rfl) ?_
  obtain ⟨u_5, he_6, hf⟩ := os_bd hf
  refine mg_callU (wcs := [ce_K4 a_p1 a_p1_value o_p1]) (wrs := [ce_BA kA a_p1_value o_p1_value, [(a_this, .inr (0, [.null, .int (0 : Int32), .int (0 : Int32), .int (0 : Int32)]))]]) (ss := [ce_K4 a_p1 a_p1_value o_p1, ce_BA kA a_p1_value o_p1_value, [(a_this, .inr (0, [.null, .int (0 : Int32), .int (0 : Int32), .int (0 : Int32)]))]]) ⟨hx, hb, hml, hown, hts⟩ (mm_J5_isLatin1_aae02 l hst zz D kA N a_p1_value a_p1 o_p1 u_5 he_6) (va_cwU 0 hts gJ0_init_db425_J5_isLatin1_aae02_u1047J4 rfl rfl rfl rfl (by decide +kernel) ⟨Nat.le_of_ble_eq_true rfl, Nat.le_of_ble_eq_true rfl⟩) (va_recv hK hP (q0 := pl [ce_K4 a_p1 a_p1_value o_p1, ce_BA kA a_p1_value o_p1_value, [(a_this, .inr (0, [.null, .int (0 : Int32), .int (0 : Int32), .int (0 : Int32)]))]] 0 0) rfl (sg_get rfl rfl)) rfl hl.1 (As := []) (rest := []) rfl (Nat.le_of_ble_eq_true rfl) dJ0_init_db425_16 ⟨(by show 0 + 0 ≤ 1; omega), (by show 0 + 0 ≤ 1000; omega)⟩ hK hP hD hS hA hZ (pm_seg [ce_K4 a_p1 a_p1_value o_p1, ce_BA kA a_p1_value o_p1_value, [(a_this, .inr (0, [.null, .int (0 : Int32), .int (0 : Int32), .int (0 : Int32)]))]] ([ce_K4 a_p1 a_p1_value o_p1] ++ [ce_BA kA a_p1_value o_p1_value, [(a_this, .inr (0, [.null, .int (0 : Int32), .int (0 : Int32), .int (0 : Int32)]))]]) [0, 1, 2] 3 rfl (by decide) rfl (by decide)) (fun rv w1 H locs hq hP hD hS => ?_)
  obtain ⟨rfl, rfl⟩ := hq
  refine W.widen (k := 0) (n := 0) (by show _ + 0 ≤ _; omega) (by show _ + 0 ≤ _; omega) ?_
  have hP : va_P D vwCl (fl ([ce_K4 a_p1 a_p1_value o_p1, ce_BA kA a_p1_value o_p1_value, [(a_this, .inr (0, [.null, .int (0 : Int32), .int (0 : Int32), .int (0 : Int32)]))]] : List va_W)) _ := (show va_P D vwCl (fl ([ce_K4 a_p1 a_p1_value o_p1] ++ [ce_BA kA a_p1_value o_p1_value, [(a_this, .inr (0, [.null, .int (0 : Int32), .int (0 : Int32), .int (0 : Int32)]))]] : List va_W)) _ from (by rw [fl_app]; exact hP))
  have hD : va_D A (fl ([ce_K4 a_p1 a_p1_value o_p1, ce_BA kA a_p1_value o_p1_value, [(a_this, .inr (0, [.null, .int (0 : Int32), .int (0 : Int32), .int (0 : Int32)]))]] : List va_W)) := (show va_D A (fl ([ce_K4 a_p1 a_p1_value o_p1] ++ [ce_BA kA a_p1_value o_p1_value, [(a_this, .inr (0, [.null, .int (0 : Int32), .int (0 : Int32), .int (0 : Int32)]))]] : List va_W)) from (by rw [fl_app]; exact hD))
  refine W.eq (g2 := F0 m 19 ls [.int u_5]) rfl ?_
  refine lv_if_eq (tgt := 41) hx hb dJ0_init_db425_19 (by decide) (fun hc_7 => ?_) (fun hc_7 => ?_)
  · rw [if_pos (show u_5 = 0 from hc_7)] at hf
    cases hf
  · rw [if_neg (show ¬ (u_5 = 0) from hc_7)] at hf
    refine lv_aload_n hx hb dJ0_init_db425_22 rfl (lv_at hl 2 rfl) ?_
    refine lv_iconst (v := 0) hx hb dJ0_init_db425_23 (by decide) ?_
    refine va_putF (D := D) (ci := 0) (v := .int (0 : Int32)) (C := RJ0) (T := TJ0) (N := 4) hx hb hUJ0 (fun _ h9 => h9) tyJ0 tyJ0_ok nmJ0 hown hK hP hD hS (pl [ce_K4 a_p1 a_p1_value o_p1, ce_BA kA a_p1_value o_p1_value, [(a_this, .inr (0, [.null, .int (0 : Int32), .int (0 : Int32), .int (0 : Int32)]))]] 2 0) (sg_get rfl rfl) rfl 1 (by decide) (hts (Cond.fieldLink RJ0 15 "java/lang/String" "coder" "B") (List.mem_of_getElem? (i := 4) rfl)) (fun _ h9 => h9) rfl hnm rfl (tyJ0_ok 1 (by decide)) rfl rfl (Nat.le_of_ble_eq_true rfl) dJ0_init_db425_24 (fun H locs hP hD hS => ?_)
    have hP : va_P D vwCl (fl ([ce_K4 a_p1 a_p1_value o_p1, ce_BA kA a_p1_value o_p1_value, [(a_this, .inr (0, [.null, .int (0 : Int32), .int (0 : Int32), .int (0 : Int32)]))]] : List va_W)) _ := sg_P rfl (Nat.le_of_ble_eq_true rfl) rfl hP
    have hD : va_D A (fl ([ce_K4 a_p1 a_p1_value o_p1, ce_BA kA a_p1_value o_p1_value, [(a_this, .inr (0, [.null, .int (0 : Int32), .int (0 : Int32), .int (0 : Int32)]))]] : List va_W)) := sg_D rfl (Nat.le_of_ble_eq_true rfl) rfl hD
    refine lv_aload_n hx hb dJ0_init_db425_27 rfl (lv_at hl 2 rfl) ?_
    refine lv_aload_n hx hb dJ0_init_db425_28 rfl (lv_at hl 1 rfl) ?_
    refine lv_iconst (v := 0) hx hb dJ0_init_db425_29 (by decide) ?_
    refine lv_iload hx hb dJ0_init_db425_30 (lv_at hl 0 rfl) ?_
    obtain ⟨u_8, he_9, hf⟩ := os_bd hf
    refine mg_callS (wcs := [ce_BA kA a_p1_value o_p1_value]) (wrs := [ce_K4 a_p1 a_p1_value o_p1, [(a_this, .inr (0, [.null, .int (0 : Int32), .int (0 : Int32), .int (0 : Int32)]))]]) (ss := [ce_K4 a_p1 a_p1_value o_p1, ce_BA kA a_p1_value o_p1_value, [(a_this, .inr (0, [.null, .int (0 : Int32), .int (0 : Int32), .int (0 : Int32)]))]]) ⟨hx, hb, hml, hown, hts⟩ (mm_J7_copyOfRange_39247 l hst zz D kA N a_p1_value o_p1_value (0 : Int32) u_3 u_8 he_9) (va_cwS 3 hts gJ0_init_db425_J7_copyOfRange_39247 rfl rfl rfl (by decide +kernel) ⟨Nat.le_of_ble_eq_true rfl, Nat.le_of_ble_eq_true rfl⟩) rfl hl.1 (As := [.ref a_p1_value, .int (0 : Int32), .int u_3]) (rest := [.ref a_this]) rfl (Nat.le_of_ble_eq_true rfl) dJ0_init_db425_32 ⟨(by show 0 + 1 ≤ 1; omega), (by show 0 + 1000 ≤ 1000; omega)⟩ hK hP hD hS hA hZ (pm_seg [ce_K4 a_p1 a_p1_value o_p1, ce_BA kA a_p1_value o_p1_value, [(a_this, .inr (0, [.null, .int (0 : Int32), .int (0 : Int32), .int (0 : Int32)]))]] ([ce_BA kA a_p1_value o_p1_value] ++ [ce_K4 a_p1 a_p1_value o_p1, [(a_this, .inr (0, [.null, .int (0 : Int32), .int (0 : Int32), .int (0 : Int32)]))]]) [1, 0, 2] 3 rfl (by decide) rfl (by decide)) (fun rv w1 H locs hq hP hD hS => ?_)
    obtain ⟨e_ret_10, rfl, rfl⟩ := hq
    refine W.widen (k := 1) (n := 1000) (by show _ + 1 ≤ _; omega) (by show _ + 1000 ≤ _; omega) ?_
    have hP : va_P D vwCl (fl ([ce_BA kA a_p1_value o_p1_value, ce_BA kA e_ret_10 u_8, ce_K4 a_p1 a_p1_value o_p1, [(a_this, .inr (0, [.null, .int (0 : Int32), .int (0 : Int32), .int (0 : Int32)]))]] : List va_W)) _ := (show va_P D vwCl (fl ([ce_BA kA a_p1_value o_p1_value, ce_BA kA e_ret_10 u_8] ++ [ce_K4 a_p1 a_p1_value o_p1, [(a_this, .inr (0, [.null, .int (0 : Int32), .int (0 : Int32), .int (0 : Int32)]))]] : List va_W)) _ from (by rw [fl_app]; exact hP))
    have hD : va_D A (fl ([ce_BA kA a_p1_value o_p1_value, ce_BA kA e_ret_10 u_8, ce_K4 a_p1 a_p1_value o_p1, [(a_this, .inr (0, [.null, .int (0 : Int32), .int (0 : Int32), .int (0 : Int32)]))]] : List va_W)) := (show va_D A (fl ([ce_BA kA a_p1_value o_p1_value, ce_BA kA e_ret_10 u_8] ++ [ce_K4 a_p1 a_p1_value o_p1, [(a_this, .inr (0, [.null, .int (0 : Int32), .int (0 : Int32), .int (0 : Int32)]))]] : List va_W)) from (by rw [fl_app]; exact hD))
    refine W.eq (g2 := F0 m 35 ls [.ref e_ret_10, .ref a_this]) rfl ?_
    refine va_putF (D := D) (ci := 0) (v := .ref e_ret_10) (C := RJ0) (T := TJ0) (N := 4) hx hb hUJ0 (fun _ h9 => h9) tyJ0 tyJ0_ok nmJ0 hown hK hP hD hS (pl [ce_BA kA a_p1_value o_p1_value, ce_BA kA e_ret_10 u_8, ce_K4 a_p1 a_p1_value o_p1, [(a_this, .inr (0, [.null, .int (0 : Int32), .int (0 : Int32), .int (0 : Int32)]))]] 3 0) (sg_get rfl rfl) rfl 0 (by decide) (hts (Cond.fieldLink RJ0 9 "java/lang/String" "value" "[B") (List.mem_of_getElem? (i := 5) rfl)) (fun _ h9 => h9) rfl hnm rfl (tyJ0_ok 0 (by decide)) rfl rfl (Nat.le_of_ble_eq_true rfl) dJ0_init_db425_35 (fun H locs hP hD hS => ?_)
    have hP : va_P D vwCl (fl ([ce_BA kA a_p1_value o_p1_value, ce_BA kA e_ret_10 u_8, ce_K4 a_p1 a_p1_value o_p1, [(a_this, .inr (0, [.ref e_ret_10, .int (0 : Int32), .int (0 : Int32), .int (0 : Int32)]))]] : List va_W)) _ := sg_P rfl (Nat.le_of_ble_eq_true rfl) rfl hP
    have hD : va_D A (fl ([ce_BA kA a_p1_value o_p1_value, ce_BA kA e_ret_10 u_8, ce_K4 a_p1 a_p1_value o_p1, [(a_this, .inr (0, [.ref e_ret_10, .int (0 : Int32), .int (0 : Int32), .int (0 : Int32)]))]] : List va_W)) := sg_D rfl (Nat.le_of_ble_eq_true rfl) rfl hD
    refine lv_goto (tgt := 97) hx hb dJ0_init_db425_38 (by decide) ?_
    have hP : va_P D vwCl (fl ([[(a_this, .inr (0, [.ref e_ret_10, .int (0 : Int32), .int (0 : Int32), .int (0 : Int32)]))], ce_K4 a_p1 a_p1_value o_p1, ce_BA kA a_p1_value o_p1_value, ce_BA kA e_ret_10 u_8] : List va_W)) _ := hP.pm (pm_seg [ce_BA kA a_p1_value o_p1_value, ce_BA kA e_ret_10 u_8, ce_K4 a_p1 a_p1_value o_p1, [(a_this, .inr (0, [.ref e_ret_10, .int (0 : Int32), .int (0 : Int32), .int (0 : Int32)]))]] [[(a_this, .inr (0, [.ref e_ret_10, .int (0 : Int32), .int (0 : Int32), .int (0 : Int32)]))], ce_K4 a_p1 a_p1_value o_p1, ce_BA kA a_p1_value o_p1_value, ce_BA kA e_ret_10 u_8] [3, 2, 0, 1] 4 rfl (by decide) rfl (by decide))
    have hD : va_D A (fl ([[(a_this, .inr (0, [.ref e_ret_10, .int (0 : Int32), .int (0 : Int32), .int (0 : Int32)]))], ce_K4 a_p1 a_p1_value o_p1, ce_BA kA a_p1_value o_p1_value, ce_BA kA e_ret_10 u_8] : List va_W)) := hD.pm (pm_seg [ce_BA kA a_p1_value o_p1_value, ce_BA kA e_ret_10 u_8, ce_K4 a_p1 a_p1_value o_p1, [(a_this, .inr (0, [.ref e_ret_10, .int (0 : Int32), .int (0 : Int32), .int (0 : Int32)]))]] [[(a_this, .inr (0, [.ref e_ret_10, .int (0 : Int32), .int (0 : Int32), .int (0 : Int32)]))], ce_K4 a_p1 a_p1_value o_p1, ce_BA kA a_p1_value o_p1_value, ce_BA kA e_ret_10 u_8] [3, 2, 0, 1] 4 rfl (by decide) rfl (by decide))
    have hP : va_P D vwCl (fl ([ce_K0 a_this e_ret_10 os_zero, ce_K4 a_p1 a_p1_value o_p1, ce_BA kA a_p1_value o_p1_value, ce_BA kA e_ret_10 u_8] : List va_W)) _ := hP
    have hD : va_D A (fl ([ce_K0 a_this e_ret_10 os_zero, ce_K4 a_p1 a_p1_value o_p1, ce_BA kA a_p1_value o_p1_value, ce_BA kA e_ret_10 u_8] : List va_W)) := hD
    rw [← Option.some.inj hf]
    exact mg_retv ⟨e_ret_10, rfl, rfl⟩ (by show _ ≤ 1; omega) (by show _ ≤ 1000; omega) hx hb hr hlk hP hK hD hS dJ0_init_db425_97
def ff_J0_init_81219 (N : Nat) (o_p1 : os_T) (o_p1_value : os_T) : Option (os_T × os_T) :=
  ((ff_J0_init_db425 N o_p1 o_p1_value).bind fun u_1 => some (u_1.1, u_1.2))
set_option maxHeartbeats 4000000 in
set_option maxRecDepth 100000 in
theorem mm_J0_init_81219 (l : Launch) (hst : l.stackTraces = false) (zz : Nat → Nat → Nat) (D : va_G) (kA : Nat → ClassId) (N : Nat) (a_this : Nat) (a_p1 : Nat) (a_p1_value : Nat) (o_p1 : os_T) (o_p1_value : os_T) (out : os_T × os_T) (hf : ff_J0_init_81219 N o_p1 o_p1_value = some out) : mg_C l zz D kA yJ0_init_81219 wsJ0_init_81219 ({ frames := 4, cells := 1, slots := 1000, locals := 130 } : Room) [.ref a_this, .ref a_p1] (fl ([[(a_this, .inr (0, [.null, .int (0 : Int32), .int (0 : Int32), .int (0 : Int32)]))], ce_K4 a_p1 a_p1_value o_p1, ce_BA kA a_p1_value o_p1_value] : List va_W)) (fun rv w1 => ∃ e_this_value : Nat, rv = none ∧ w1 = (fl ([ce_K0 a_this e_this_value out.1, ce_K4 a_p1 a_p1_value o_p1, ce_BA kA a_p1_value o_p1_value, ce_BA kA e_this_value out.2] : List va_W))) := by
  refine mg_of (cc := cJ0_init_81219) (maxL := 2) (ret := none) (by decide) rfl (Nat.le_of_ble_eq_true rfl) ?_
  intro p e s m below meth c A B hZ hD hP hS ls hl
  obtain ⟨hx, hb, hr, hlk, hml, hown, hts, hK, hA, hnm⟩ := B
  have hown : s.vm.findClass RJ0 = some m.cls := hown
  have hnm : meth.name = "<init>" := hnm
  have hl : lv_has ls 2 [(0, .ref a_this), (1, .ref a_p1)] := hl
  have hP : va_P D vwCl (fl ([[(a_this, .inr (0, [.null, .int (0 : Int32), .int (0 : Int32), .int (0 : Int32)]))], ce_K4 a_p1 a_p1_value o_p1, ce_BA kA a_p1_value o_p1_value] : List va_W)) s.heap := hP
  unfold ff_J0_init_81219 at hf
  refine lv_aload_n hx hb dJ0_init_81219_0 rfl (lv_at hl 0 rfl) ?_
  refine lv_aload_n hx hb dJ0_init_81219_1 rfl (lv_at hl 1 rfl) ?_
  refine lv_null hx hb dJ0_init_81219_2 ?_
  obtain ⟨u_1, he_2, hf⟩ := os_bd hf
  refine mg_callI (wcs := [[(a_this, .inr (0, [.null, .int (0 : Int32), .int (0 : Int32), .int (0 : Int32)]))], ce_K4 a_p1 a_p1_value o_p1, ce_BA kA a_p1_value o_p1_value]) (wrs := []) (ss := [[(a_this, .inr (0, [.null, .int (0 : Int32), .int (0 : Int32), .int (0 : Int32)]))], ce_K4 a_p1 a_p1_value o_p1, ce_BA kA a_p1_value o_p1_value]) ⟨hx, hb, hml, hown, hts⟩ (mm_J0_init_db425 l hst zz D kA N a_this a_p1 a_p1_value o_p1 o_p1_value u_1 he_2) (cwI 2 hts gJ0_init_81219_J0_init_db425 rfl rfl rfl (hts (Cond.initialized RJ0) (List.mem_of_getElem? (i := 3) rfl)) (hts (Cond.methodLink RJ0 489 yJ0_init_db425) (List.mem_of_getElem? (i := 1) rfl)) (hts (Cond.instanceMethod yJ0_init_db425) (List.mem_of_getElem? (i := 2) rfl)) rfl (by decide +kernel) ⟨Nat.le_of_ble_eq_true rfl, Nat.le_of_ble_eq_true rfl⟩) rfl hl.1 (As := [.ref a_p1, .null]) (rest := []) rfl (Nat.le_of_ble_eq_true rfl) dJ0_init_81219_3 ⟨(by show 0 + 1 ≤ 1; omega), (by show 0 + 1000 ≤ 1000; omega)⟩ hK hP hD hS hA hZ (pm_seg [[(a_this, .inr (0, [.null, .int (0 : Int32), .int (0 : Int32), .int (0 : Int32)]))], ce_K4 a_p1 a_p1_value o_p1, ce_BA kA a_p1_value o_p1_value] ([[(a_this, .inr (0, [.null, .int (0 : Int32), .int (0 : Int32), .int (0 : Int32)]))], ce_K4 a_p1 a_p1_value o_p1, ce_BA kA a_p1_value o_p1_value] ++ []) [0, 1, 2] 3 rfl (by decide) rfl (by decide)) (fun rv w1 H locs hq hP hD hS => ?_)
  obtain ⟨e_this_value_3, rfl, rfl⟩ := hq
  refine W.widen (k := 1) (n := 1000) (by show _ + 1 ≤ _; omega) (by show _ + 1000 ≤ _; omega) ?_
  have hP : va_P D vwCl (fl ([ce_K0 a_this e_this_value_3 u_1.1, ce_K4 a_p1 a_p1_value o_p1, ce_BA kA a_p1_value o_p1_value, ce_BA kA e_this_value_3 u_1.2] : List va_W)) _ := (show va_P D vwCl (fl ([ce_K0 a_this e_this_value_3 u_1.1, ce_K4 a_p1 a_p1_value o_p1, ce_BA kA a_p1_value o_p1_value, ce_BA kA e_this_value_3 u_1.2] ++ [] : List va_W)) _ from (by rw [fl_app]; exact hP))
  have hD : va_D A (fl ([ce_K0 a_this e_this_value_3 u_1.1, ce_K4 a_p1 a_p1_value o_p1, ce_BA kA a_p1_value o_p1_value, ce_BA kA e_this_value_3 u_1.2] : List va_W)) := (show va_D A (fl ([ce_K0 a_this e_this_value_3 u_1.1, ce_K4 a_p1 a_p1_value o_p1, ce_BA kA a_p1_value o_p1_value, ce_BA kA e_this_value_3 u_1.2] ++ [] : List va_W)) from (by rw [fl_app]; exact hD))
  refine W.eq (g2 := F0 m 6 ls []) rfl ?_
  have hP : va_P D vwCl (fl ([ce_K0 a_this e_this_value_3 u_1.1, ce_K4 a_p1 a_p1_value o_p1, ce_BA kA a_p1_value o_p1_value, ce_BA kA e_this_value_3 u_1.2] : List va_W)) _ := hP
  have hD : va_D A (fl ([ce_K0 a_this e_this_value_3 u_1.1, ce_K4 a_p1 a_p1_value o_p1, ce_BA kA a_p1_value o_p1_value, ce_BA kA e_this_value_3 u_1.2] : List va_W)) := hD
  rw [← Option.some.inj hf]
  exact mg_retv ⟨e_this_value_3, rfl, rfl⟩ (by show _ ≤ 1; omega) (by show _ ≤ 1000; omega) hx hb hr hlk hP hK hD hS dJ0_init_81219_6
def ff_J4_toString_0e30d (N : Nat) (o_this : os_T) (o_this_value : os_T) : Option (os_T × os_T) :=
  ((ff_J0_init_81219 N o_this o_this_value).bind fun u_2 => some (u_2.1, u_2.2))
set_option maxHeartbeats 4000000 in
set_option maxRecDepth 100000 in
theorem mm_J4_toString_0e30d (l : Launch) (hst : l.stackTraces = false) (zz : Nat → Nat → Nat) (D : va_G) (kA : Nat → ClassId) (N : Nat) (a_this : Nat) (a_this_value : Nat) (o_this : os_T) (o_this_value : os_T) (out : os_T × os_T) (hf : ff_J4_toString_0e30d N o_this o_this_value = some out) : mg_C l zz D kA yJ4_toString_0e30d wsJ4_toString_0e30d ({ frames := 5, cells := 2, slots := 1004, locals := 151 } : Room) [.ref a_this] (fl ([ce_K4 a_this a_this_value o_this, ce_BA kA a_this_value o_this_value] : List va_W)) (fun rv w1 => ∃ e_ret : Nat, ∃ e_ret_value : Nat, rv = some (.ref e_ret) ∧ w1 = (fl ([ce_K4 a_this a_this_value o_this, ce_BA kA a_this_value o_this_value, ce_K0 e_ret e_ret_value out.1, ce_BA kA e_ret_value out.2] : List va_W))) := by
  refine mg_of (cc := cJ4_toString_0e30d) (maxL := 1) (ret := (some (.object "java/lang/String"))) (by decide) rfl (Nat.le_of_ble_eq_true rfl) ?_
  intro p e s m below meth c A B hZ hD hP hS ls hl
  obtain ⟨hx, hb, hr, hlk, hml, hown, hts, hK, hA, hnm⟩ := B
  have hown : s.vm.findClass RJ4 = some m.cls := hown
  have hl : lv_has ls 1 [(0, .ref a_this)] := hl
  have hP : va_P D vwCl (fl ([ce_K4 a_this a_this_value o_this, ce_BA kA a_this_value o_this_value] : List va_W)) s.heap := hP
  have hUJ0 : ∀ w ∈ u_ws RJ0 TJ0 4, w.before [.ref a_this].toArray s = true := fun w h => hts w (List.mem_cons_of_mem _ (List.mem_append_left _ (List.mem_append_right _ h)))
  unfold ff_J4_toString_0e30d at hf
  refine va_new (D := D) (ci := 0) (C := RJ0) (T := TJ0) (N := 4) (fs := [.null, .int (0 : Int32), .int (0 : Int32), .int (0 : Int32)]) hx hb hUJ0 (fun _ h9 => h9) tyJ0 tyJ0_ok hown (hts (Cond.classLink RJ4 18 RJ0) (List.mem_of_getElem? (i := 1) rfl)) (hts (Cond.instantiable RJ0 4) (List.mem_of_getElem? (i := 2) rfl)) (hts (Cond.initialized RJ0) (List.mem_of_getElem? (i := 3) rfl)) hK hP hD hS hA rfl (by decide) (by show 0 + 1 ≤ 2; omega) (by show 0 + 4 ≤ 1004; omega) dJ4_toString_0e30d_0 (fun q_1 H hP hD hS => ?_)
  refine W.widen (k := 1) (n := 4) (by omega) (by omega) ?_
  have hP : va_P D vwCl (fl ([ce_K4 a_this a_this_value o_this, ce_BA kA a_this_value o_this_value, [(q_1, .inr (0, [.null, .int (0 : Int32), .int (0 : Int32), .int (0 : Int32)]))]] : List va_W)) _ := sg_Pn hP
  have hD : va_D A (fl ([ce_K4 a_this a_this_value o_this, ce_BA kA a_this_value o_this_value, [(q_1, .inr (0, [.null, .int (0 : Int32), .int (0 : Int32), .int (0 : Int32)]))]] : List va_W)) := sg_Dn hD
  refine lv_dup hx hb dJ4_toString_0e30d_3 rfl ?_
  refine lv_aload_n hx hb dJ4_toString_0e30d_4 rfl (lv_at hl 0 rfl) ?_
  obtain ⟨u_2, he_3, hf⟩ := os_bd hf
  refine mg_callI (wcs := [[(q_1, .inr (0, [.null, .int (0 : Int32), .int (0 : Int32), .int (0 : Int32)]))], ce_K4 a_this a_this_value o_this, ce_BA kA a_this_value o_this_value]) (wrs := []) (ss := [ce_K4 a_this a_this_value o_this, ce_BA kA a_this_value o_this_value, [(q_1, .inr (0, [.null, .int (0 : Int32), .int (0 : Int32), .int (0 : Int32)]))]]) ⟨hx, hb, hml, hown, hts⟩ (mm_J0_init_81219 l hst zz D kA N q_1 a_this a_this_value o_this o_this_value u_2 he_3) (cwI 1 hts gJ4_toString_0e30d_J0_init_81219 rfl rfl rfl (hts (Cond.initialized RJ0) (List.mem_of_getElem? (i := 3) rfl)) (hts (Cond.methodLink RJ4 137 yJ0_init_81219) (List.mem_of_getElem? (i := 4) rfl)) (hts (Cond.instanceMethod yJ0_init_81219) (List.mem_of_getElem? (i := 5) rfl)) rfl (by decide +kernel) ⟨Nat.le_of_ble_eq_true rfl, Nat.le_of_ble_eq_true rfl⟩) rfl hl.1 (As := [.ref a_this]) (rest := [.ref q_1]) rfl (Nat.le_of_ble_eq_true rfl) dJ4_toString_0e30d_5 ⟨(by show 1 + 1 ≤ 2; omega), (by show 4 + 1000 ≤ 1004; omega)⟩ hK hP hD hS hA hZ (pm_seg [ce_K4 a_this a_this_value o_this, ce_BA kA a_this_value o_this_value, [(q_1, .inr (0, [.null, .int (0 : Int32), .int (0 : Int32), .int (0 : Int32)]))]] ([[(q_1, .inr (0, [.null, .int (0 : Int32), .int (0 : Int32), .int (0 : Int32)]))], ce_K4 a_this a_this_value o_this, ce_BA kA a_this_value o_this_value] ++ []) [2, 0, 1] 3 rfl (by decide) rfl (by decide)) (fun rv w1 H locs hq hP hD hS => ?_)
  obtain ⟨e_this_value_4, rfl, rfl⟩ := hq
  refine W.widen (k := 2) (n := 1004) (by show _ + 1 ≤ _; omega) (by show _ + 1000 ≤ _; omega) ?_
  have hP : va_P D vwCl (fl ([ce_K0 q_1 e_this_value_4 u_2.1, ce_K4 a_this a_this_value o_this, ce_BA kA a_this_value o_this_value, ce_BA kA e_this_value_4 u_2.2] : List va_W)) _ := (show va_P D vwCl (fl ([ce_K0 q_1 e_this_value_4 u_2.1, ce_K4 a_this a_this_value o_this, ce_BA kA a_this_value o_this_value, ce_BA kA e_this_value_4 u_2.2] ++ [] : List va_W)) _ from (by rw [fl_app]; exact hP))
  have hD : va_D A (fl ([ce_K0 q_1 e_this_value_4 u_2.1, ce_K4 a_this a_this_value o_this, ce_BA kA a_this_value o_this_value, ce_BA kA e_this_value_4 u_2.2] : List va_W)) := (show va_D A (fl ([ce_K0 q_1 e_this_value_4 u_2.1, ce_K4 a_this a_this_value o_this, ce_BA kA a_this_value o_this_value, ce_BA kA e_this_value_4 u_2.2] ++ [] : List va_W)) from (by rw [fl_app]; exact hD))
  refine W.eq (g2 := F0 m 8 ls [.ref q_1]) rfl ?_
  have hP : va_P D vwCl (fl ([ce_K4 a_this a_this_value o_this, ce_BA kA a_this_value o_this_value, ce_K0 q_1 e_this_value_4 u_2.1, ce_BA kA e_this_value_4 u_2.2] : List va_W)) _ := hP.pm (pm_seg [ce_K0 q_1 e_this_value_4 u_2.1, ce_K4 a_this a_this_value o_this, ce_BA kA a_this_value o_this_value, ce_BA kA e_this_value_4 u_2.2] [ce_K4 a_this a_this_value o_this, ce_BA kA a_this_value o_this_value, ce_K0 q_1 e_this_value_4 u_2.1, ce_BA kA e_this_value_4 u_2.2] [1, 2, 0, 3] 4 rfl (by decide) rfl (by decide))
  have hD : va_D A (fl ([ce_K4 a_this a_this_value o_this, ce_BA kA a_this_value o_this_value, ce_K0 q_1 e_this_value_4 u_2.1, ce_BA kA e_this_value_4 u_2.2] : List va_W)) := hD.pm (pm_seg [ce_K0 q_1 e_this_value_4 u_2.1, ce_K4 a_this a_this_value o_this, ce_BA kA a_this_value o_this_value, ce_BA kA e_this_value_4 u_2.2] [ce_K4 a_this a_this_value o_this, ce_BA kA a_this_value o_this_value, ce_K0 q_1 e_this_value_4 u_2.1, ce_BA kA e_this_value_4 u_2.2] [1, 2, 0, 3] 4 rfl (by decide) rfl (by decide))
  have hP : va_P D vwCl (fl ([ce_K4 a_this a_this_value o_this, ce_BA kA a_this_value o_this_value, ce_K0 q_1 e_this_value_4 u_2.1, ce_BA kA e_this_value_4 u_2.2] : List va_W)) _ := hP
  have hD : va_D A (fl ([ce_K4 a_this a_this_value o_this, ce_BA kA a_this_value o_this_value, ce_K0 q_1 e_this_value_4 u_2.1, ce_BA kA e_this_value_4 u_2.2] : List va_W)) := hD
  rw [← Option.some.inj hf]
  exact mg_reta ⟨q_1, e_this_value_4, rfl, rfl⟩ (by show _ ≤ 2; omega) (by show _ ≤ 1004; omega) hx hb hr (by first | exact Or.inl ⟨_, rfl⟩ | exact Or.inr ⟨_, rfl⟩) hlk hP hK hD hS dJ4_toString_0e30d_8
def ff_J0_coder_7d493_d (N : Nat) (o_this : os_T) : Option Int32 :=
  some (0 : Int32)
set_option maxHeartbeats 4000000 in
set_option maxRecDepth 100000 in
theorem mm_J0_coder_7d493_d (l : Launch) (hst : l.stackTraces = false) (zz : Nat → Nat → Nat) (D : va_G) (kA : Nat → ClassId) (N : Nat) (v_this : Nat) (a_this : Nat) (o_this : os_T) (out : Int32) (hf : ff_J0_coder_7d493_d N o_this = some out) : mg_C l zz D kA yJ0_coder_7d493 wsJ0_coder_7d493 ({ frames := 0, cells := 0, slots := 0, locals := 0 } : Room) [.ref a_this] (fl ([ce_K0 a_this v_this o_this] : List va_W)) (fun rv w1 => rv = some (.int out) ∧ w1 = (fl ([ce_K0 a_this v_this o_this] : List va_W))) := by
  refine mg_of (cc := cJ0_coder_7d493) (maxL := 1) (ret := (some .byte)) (by decide) rfl (Nat.le_of_ble_eq_true rfl) ?_
  intro p e s m below meth c A B hZ hD hP hS ls hl
  obtain ⟨hx, hb, hr, hlk, hml, hown, hts, hK, hA, hnm⟩ := B
  have hown : s.vm.findClass RJ0 = some m.cls := hown
  have hl : lv_has ls 1 [(0, .ref a_this)] := hl
  have hP : va_P D vwCl (fl ([ce_K0 a_this v_this o_this] : List va_W)) s.heap := hP
  have hUJ0 : ∀ w ∈ u_ws RJ0 TJ0 4, w.before [.ref a_this].toArray s = true := fun w h => hts w (List.mem_cons_of_mem _ (List.mem_append_right _ h))
  unfold ff_J0_coder_7d493_d at hf
  refine va_gets hx hb hZ.2.2.1.1 hS hown (hts (Cond.fieldLink RJ0 38 "java/lang/String" "COMPACT_STRINGS" "Z") (List.mem_of_getElem? (i := 1) rfl)) (fun _ h9 => h9) dJ0_coder_7d493_0 ?_
  refine lv_if_eq (tgt := 13) hx hb dJ0_coder_7d493_3 (by decide) (fun h9 => absurd h9 (by decide)) (fun _ => ?_)
  refine lv_aload_n hx hb dJ0_coder_7d493_6 rfl (lv_at hl 0 rfl) ?_
  refine va_get (D := D) (ci := 0) (v := .int (0 : Int32)) (C := RJ0) (T := TJ0) (N := 4) hx hb hUJ0 (fun _ h9 => h9) hown hK hP (pl [ce_K0 a_this v_this o_this] 0 0) (sg_get rfl rfl) rfl 1 (by decide) (hts (Cond.fieldLink RJ0 15 "java/lang/String" "coder" "B") (List.mem_of_getElem? (i := 2) rfl)) (fun _ h9 => h9) rfl dJ0_coder_7d493_7 ?_
  refine lv_goto (tgt := 14) hx hb dJ0_coder_7d493_10 (by decide) ?_
  have hP : va_P D vwCl (fl ([ce_K0 a_this v_this o_this] : List va_W)) _ := hP
  have hD : va_D A (fl ([ce_K0 a_this v_this o_this] : List va_W)) := hD
  rw [← Option.some.inj hf]
  exact mg_retz ⟨rfl, rfl⟩ (by show _ ≤ 0; omega) (by show _ ≤ 0; omega) hx hb hr rfl hlk hP hK hD hS dJ0_coder_7d493_14
def ff_J0_isLatin1_aae02_d (N : Nat) (o_this : os_T) : Option Int32 :=
  some (1 : Int32)
set_option maxHeartbeats 4000000 in
set_option maxRecDepth 100000 in
theorem mm_J0_isLatin1_aae02_d (l : Launch) (hst : l.stackTraces = false) (zz : Nat → Nat → Nat) (D : va_G) (kA : Nat → ClassId) (N : Nat) (v_this : Nat) (a_this : Nat) (o_this : os_T) (out : Int32) (hf : ff_J0_isLatin1_aae02_d N o_this = some out) : mg_C l zz D kA yJ0_isLatin1_aae02 wsJ0_isLatin1_aae02 ({ frames := 0, cells := 0, slots := 0, locals := 0 } : Room) [.ref a_this] (fl ([ce_K0 a_this v_this o_this] : List va_W)) (fun rv w1 => rv = some (.int out) ∧ w1 = (fl ([ce_K0 a_this v_this o_this] : List va_W))) := by
  refine mg_of (cc := cJ0_isLatin1_aae02) (maxL := 1) (ret := (some .boolean)) (by decide) rfl (Nat.le_of_ble_eq_true rfl) ?_
  intro p e s m below meth c A B hZ hD hP hS ls hl
  obtain ⟨hx, hb, hr, hlk, hml, hown, hts, hK, hA, hnm⟩ := B
  have hown : s.vm.findClass RJ0 = some m.cls := hown
  have hl : lv_has ls 1 [(0, .ref a_this)] := hl
  have hP : va_P D vwCl (fl ([ce_K0 a_this v_this o_this] : List va_W)) s.heap := hP
  have hUJ0 : ∀ w ∈ u_ws RJ0 TJ0 4, w.before [.ref a_this].toArray s = true := fun w h => hts w (List.mem_cons_of_mem _ (List.mem_append_right _ h))
  unfold ff_J0_isLatin1_aae02_d at hf
  refine va_gets hx hb hZ.2.2.1.1 hS hown (hts (Cond.fieldLink RJ0 38 "java/lang/String" "COMPACT_STRINGS" "Z") (List.mem_of_getElem? (i := 1) rfl)) (fun _ h9 => h9) dJ0_isLatin1_aae02_0 ?_
  refine lv_if_eq (tgt := 17) hx hb dJ0_isLatin1_aae02_3 (by decide) (fun h9 => absurd h9 (by decide)) (fun _ => ?_)
  refine lv_aload_n hx hb dJ0_isLatin1_aae02_6 rfl (lv_at hl 0 rfl) ?_
  refine va_get (D := D) (ci := 0) (v := .int (0 : Int32)) (C := RJ0) (T := TJ0) (N := 4) hx hb hUJ0 (fun _ h9 => h9) hown hK hP (pl [ce_K0 a_this v_this o_this] 0 0) (sg_get rfl rfl) rfl 1 (by decide) (hts (Cond.fieldLink RJ0 15 "java/lang/String" "coder" "B") (List.mem_of_getElem? (i := 2) rfl)) (fun _ h9 => h9) rfl dJ0_isLatin1_aae02_7 ?_
  refine lv_if_ne (tgt := 17) hx hb dJ0_isLatin1_aae02_10 (by decide) (fun h9 => absurd h9 (by decide)) (fun _ => ?_)
  refine lv_iconst (v := 1) hx hb dJ0_isLatin1_aae02_13 (by decide) ?_
  refine lv_goto (tgt := 18) hx hb dJ0_isLatin1_aae02_14 (by decide) ?_
  have hP : va_P D vwCl (fl ([ce_K0 a_this v_this o_this] : List va_W)) _ := hP
  have hD : va_D A (fl ([ce_K0 a_this v_this o_this] : List va_W)) := hD
  rw [← Option.some.inj hf]
  exact mg_retz ⟨rfl, rfl⟩ (by show _ ≤ 0; omega) (by show _ ≤ 0; omega) hx hb hr rfl hlk hP hK hD hS dJ0_isLatin1_aae02_18
def ff_J0_length_8abf5_d (N : Nat) (o_this : os_T) (o_this_value : os_T) : Option Int32 :=
  ((ff_J0_coder_7d493_d N o_this).bind fun u_1 => some ((Int32.ofNat (ci_n o_this_value)) >>> (u_1 &&& 31)))
set_option maxHeartbeats 4000000 in
set_option maxRecDepth 100000 in
theorem mm_J0_length_8abf5_d (l : Launch) (hst : l.stackTraces = false) (zz : Nat → Nat → Nat) (D : va_G) (kA : Nat → ClassId) (N : Nat) (a_this : Nat) (a_this_value : Nat) (o_this : os_T) (o_this_value : os_T) (out : Int32) (hf : ff_J0_length_8abf5_d N o_this o_this_value = some out) : mg_C l zz D kA yJ0_length_8abf5 wsJ0_length_8abf5 ({ frames := 1, cells := 0, slots := 0, locals := 20 } : Room) [.ref a_this] (fl ([ce_K0 a_this a_this_value o_this, ce_BA kA a_this_value o_this_value] : List va_W)) (fun rv w1 => rv = some (.int out) ∧ w1 = (fl ([ce_K0 a_this a_this_value o_this, ce_BA kA a_this_value o_this_value] : List va_W))) := by
  refine mg_of (cc := cJ0_length_8abf5) (maxL := 1) (ret := (some .int)) (by decide) rfl (Nat.le_of_ble_eq_true rfl) ?_
  intro p e s m below meth c A B hZ hD hP hS ls hl
  obtain ⟨hx, hb, hr, hlk, hml, hown, hts, hK, hA, hnm⟩ := B
  have hown : s.vm.findClass RJ0 = some m.cls := hown
  have hl : lv_has ls 1 [(0, .ref a_this)] := hl
  have hP : va_P D vwCl (fl ([ce_K0 a_this a_this_value o_this, ce_BA kA a_this_value o_this_value] : List va_W)) s.heap := hP
  have hUJ0 : ∀ w ∈ u_ws RJ0 TJ0 4, w.before [.ref a_this].toArray s = true := fun w h => hts w (List.mem_cons_of_mem _ (List.mem_append_right _ h))
  unfold ff_J0_length_8abf5_d at hf
  refine lv_aload_n hx hb dJ0_length_8abf5_0 rfl (lv_at hl 0 rfl) ?_
  refine va_get (D := D) (ci := 0) (v := .ref a_this_value) (C := RJ0) (T := TJ0) (N := 4) hx hb hUJ0 (fun _ h9 => h9) hown hK hP (pl [ce_K0 a_this a_this_value o_this, ce_BA kA a_this_value o_this_value] 0 0) (sg_get rfl rfl) rfl 0 (by decide) (hts (Cond.fieldLink RJ0 9 "java/lang/String" "value" "[B") (List.mem_of_getElem? (i := 1) rfl)) (fun _ h9 => h9) rfl dJ0_length_8abf5_1 ?_
  refine va_alen (v := Int32.ofNat (ci_n o_this_value)) hx hb hK hP (pl [ce_K0 a_this a_this_value o_this, ce_BA kA a_this_value o_this_value] 1 0) 2 (sg_get rfl rfl) rfl rfl dJ0_length_8abf5_4 ?_
  refine lv_aload_n hx hb dJ0_length_8abf5_5 rfl (lv_at hl 0 rfl) ?_
  obtain ⟨u_1, he_2, hf⟩ := os_bd hf
  refine mg_callV (wcs := [ce_K0 a_this a_this_value o_this]) (wrs := [ce_BA kA a_this_value o_this_value]) (ss := [ce_K0 a_this a_this_value o_this, ce_BA kA a_this_value o_this_value]) ⟨hx, hb, hml, hown, hts⟩ (mm_J0_coder_7d493_d l hst zz D kA N a_this_value a_this o_this u_1 he_2) (cwV 0 hts gJ0_length_8abf5_J0_coder_7d493 rfl rfl rfl (by decide +kernel) ⟨Nat.le_of_ble_eq_true rfl, Nat.le_of_ble_eq_true rfl⟩) (va_recv hK hP (q0 := pl [ce_K0 a_this a_this_value o_this, ce_BA kA a_this_value o_this_value] 0 0) rfl (sg_get rfl rfl)) rfl hl.1 (As := []) (rest := [.int (Int32.ofNat (ci_n o_this_value))]) rfl (Nat.le_of_ble_eq_true rfl) dJ0_length_8abf5_6 ⟨(by show 0 + 0 ≤ 0; omega), (by show 0 + 0 ≤ 0; omega)⟩ hK hP hD hS hA hZ (pm_seg [ce_K0 a_this a_this_value o_this, ce_BA kA a_this_value o_this_value] ([ce_K0 a_this a_this_value o_this] ++ [ce_BA kA a_this_value o_this_value]) [0, 1] 2 rfl (by decide) rfl (by decide)) (fun rv w1 H locs hq hP hD hS => ?_)
  obtain ⟨rfl, rfl⟩ := hq
  refine W.widen (k := 0) (n := 0) (by show _ + 0 ≤ _; omega) (by show _ + 0 ≤ _; omega) ?_
  have hP : va_P D vwCl (fl ([ce_K0 a_this a_this_value o_this, ce_BA kA a_this_value o_this_value] : List va_W)) _ := (show va_P D vwCl (fl ([ce_K0 a_this a_this_value o_this] ++ [ce_BA kA a_this_value o_this_value] : List va_W)) _ from (by rw [fl_app]; exact hP))
  have hD : va_D A (fl ([ce_K0 a_this a_this_value o_this, ce_BA kA a_this_value o_this_value] : List va_W)) := (show va_D A (fl ([ce_K0 a_this a_this_value o_this] ++ [ce_BA kA a_this_value o_this_value] : List va_W)) from (by rw [fl_app]; exact hD))
  refine W.eq (g2 := F0 m 9 ls [.int u_1, .int (Int32.ofNat (ci_n o_this_value))]) rfl ?_
  refine lv_ishr hx hb dJ0_length_8abf5_9 ?_
  have hP : va_P D vwCl (fl ([ce_K0 a_this a_this_value o_this, ce_BA kA a_this_value o_this_value] : List va_W)) _ := hP
  have hD : va_D A (fl ([ce_K0 a_this a_this_value o_this, ce_BA kA a_this_value o_this_value] : List va_W)) := hD
  rw [← Option.some.inj hf]
  exact mg_reti ⟨rfl, rfl⟩ (by show _ ≤ 0; omega) (by show _ ≤ 0; omega) hx hb hr hlk hP hK hD hS dJ0_length_8abf5_10
def ff_J1_charAt_3b067_d (N : Nat) (o_p0 : os_T) (a1 : Int32) : Option Int32 :=
  (if ¬ a1 < 0 ∧ a1 < (Int32.ofNat (ci_n o_p0)) then (if os_in a1 (ci_n o_p0) then (if os_c (((Int32.toUInt32 (((os_A o_p0 0) (Int32.toNatClampNeg a1)) &&& (255 : Int32))) % 65536).toInt32) then some (((Int32.toUInt32 (((os_A o_p0 0) (Int32.toNatClampNeg a1)) &&& (255 : Int32))) % 65536).toInt32) else none) else none) else none)
set_option maxHeartbeats 4000000 in
set_option maxRecDepth 100000 in
theorem mm_J1_charAt_3b067_d (l : Launch) (hst : l.stackTraces = false) (zz : Nat → Nat → Nat) (D : va_G) (kA : Nat → ClassId) (N : Nat) (a_p0 : Nat) (o_p0 : os_T) (a1 : Int32) (out : Int32) (hf : ff_J1_charAt_3b067_d N o_p0 a1 = some out) : mg_C l zz D kA yJ1_charAt_3b067 wsJ1_charAt_3b067 ({ frames := 2, cells := 0, slots := 0, locals := 43 } : Room) [.ref a_p0, .int a1] (fl ([ce_BA kA a_p0 o_p0] : List va_W)) (fun rv w1 => rv = some (.int out) ∧ w1 = (fl ([ce_BA kA a_p0 o_p0] : List va_W))) := by
  refine mg_of (cc := cJ1_charAt_3b067) (maxL := 2) (ret := (some .char)) (by decide) rfl (Nat.le_of_ble_eq_true rfl) ?_
  intro p e s m below meth c A B hZ hD hP hS ls hl
  obtain ⟨hx, hb, hr, hlk, hml, hown, hts, hK, hA, hnm⟩ := B
  have hown : s.vm.findClass RJ1 = some m.cls := hown
  have hl : lv_has ls 2 [(0, .ref a_p0), (1, .int a1)] := hl
  have hP : va_P D vwCl (fl ([ce_BA kA a_p0 o_p0] : List va_W)) s.heap := hP
  unfold ff_J1_charAt_3b067_d at hf
  refine lv_iload_n hx hb dJ1_charAt_3b067_0 rfl (lv_at hl 1 rfl) ?_
  refine lv_aload_n hx hb dJ1_charAt_3b067_1 rfl (lv_at hl 0 rfl) ?_
  refine va_alen (v := Int32.ofNat (ci_n o_p0)) hx hb hK hP (pl [ce_BA kA a_p0 o_p0] 0 0) 2 (sg_get rfl rfl) rfl rfl dJ1_charAt_3b067_2 ?_
  obtain ⟨hx_1, hf⟩ := os_if hf
  refine mg_callSx (wcs := []) (wrs := [ce_BA kA a_p0 o_p0]) (ss := [ce_BA kA a_p0 o_p0]) ⟨hx, hb, hml, hown, hts⟩ (mm_J0_checkIndex_df160 l hst zz D kA a1 (Int32.ofNat (ci_n o_p0)) hx_1.1 hx_1.2) rfl rfl (va_cwS 2 hts gJ1_charAt_3b067_J0_checkIndex_df160 rfl rfl rfl (by decide +kernel) ⟨Nat.le_of_ble_eq_true rfl, Nat.le_of_ble_eq_true rfl⟩) rfl hl.1 (As := [.int a1, .int (Int32.ofNat (ci_n o_p0))]) (rest := []) rfl (Nat.le_of_ble_eq_true rfl) dJ1_charAt_3b067_3 ⟨(by show 0 + 0 ≤ 0; omega), (by show 0 + 0 ≤ 0; omega)⟩ hK hP hD hS hA hZ (pm_seg [ce_BA kA a_p0 o_p0] ([] ++ [ce_BA kA a_p0 o_p0]) [0] 1 rfl (by decide) rfl (by decide)) (fun H locs hP hD hS => ?_)
  refine W.widen (k := 0) (n := 0) (by show _ + 0 ≤ _; omega) (by show _ + 0 ≤ _; omega) ?_
  have hP : va_P D vwCl (fl ([ce_BA kA a_p0 o_p0] : List va_W)) _ := hP
  have hD : va_D A (fl ([ce_BA kA a_p0 o_p0] : List va_W)) := hD
  refine W.eq (g2 := F0 m 6 ls []) rfl ?_
  refine lv_aload_n hx hb dJ1_charAt_3b067_6 rfl (lv_at hl 0 rfl) ?_
  refine lv_iload_n hx hb dJ1_charAt_3b067_7 rfl (lv_at hl 1 rfl) ?_
  obtain ⟨hi_2, hf⟩ := os_if hf
  refine va_bald hx hb hK hP (pl [ce_BA kA a_p0 o_p0] 0 0) 2 (sg_get rfl rfl) rfl hi_2 dJ1_charAt_3b067_8 ?_
  refine lv_sipush (v := 255) hx hb dJ1_charAt_3b067_9 (by decide) ?_
  refine lv_iand hx hb dJ1_charAt_3b067_12 ?_
  refine lv_i2c hx hb dJ1_charAt_3b067_13 rfl ?_
  obtain ⟨hz_3, hf⟩ := os_if hf
  have hP : va_P D vwCl (fl ([ce_BA kA a_p0 o_p0] : List va_W)) _ := hP
  have hD : va_D A (fl ([ce_BA kA a_p0 o_p0] : List va_W)) := hD
  rw [← Option.some.inj hf]
  exact mg_retz ⟨rfl, rfl⟩ (by show _ ≤ 0; omega) (by show _ ≤ 0; omega) hx hb hr (os_c_n hz_3) hlk hP hK hD hS dJ1_charAt_3b067_14
def ff_J0_charAt_5068e_d (N : Nat) (o_this : os_T) (o_this_value : os_T) (a1 : Int32) : Option Int32 :=
  ((ff_J0_isLatin1_aae02_d N o_this).bind fun u_1 => (if u_1 = 0 then none else ((ff_J1_charAt_3b067_d N o_this_value a1).bind fun u_4 => (if os_c u_4 then some u_4 else none))))
set_option maxHeartbeats 4000000 in
set_option maxRecDepth 100000 in
theorem mm_J0_charAt_5068e_d (l : Launch) (hst : l.stackTraces = false) (zz : Nat → Nat → Nat) (D : va_G) (kA : Nat → ClassId) (N : Nat) (a_this : Nat) (a_this_value : Nat) (o_this : os_T) (o_this_value : os_T) (a1 : Int32) (out : Int32) (hf : ff_J0_charAt_5068e_d N o_this o_this_value a1 = some out) : mg_C l zz D kA yJ0_charAt_5068e wsJ0_charAt_5068e ({ frames := 3, cells := 0, slots := 0, locals := 64 } : Room) [.ref a_this, .int a1] (fl ([ce_K0 a_this a_this_value o_this, ce_BA kA a_this_value o_this_value] : List va_W)) (fun rv w1 => rv = some (.int out) ∧ w1 = (fl ([ce_K0 a_this a_this_value o_this, ce_BA kA a_this_value o_this_value] : List va_W))) := by
  refine mg_of (cc := cJ0_charAt_5068e) (maxL := 2) (ret := (some .char)) (by decide) rfl (Nat.le_of_ble_eq_true rfl) ?_
  intro p e s m below meth c A B hZ hD hP hS ls hl
  obtain ⟨hx, hb, hr, hlk, hml, hown, hts, hK, hA, hnm⟩ := B
  have hown : s.vm.findClass RJ0 = some m.cls := hown
  have hl : lv_has ls 2 [(0, .ref a_this), (1, .int a1)] := hl
  have hP : va_P D vwCl (fl ([ce_K0 a_this a_this_value o_this, ce_BA kA a_this_value o_this_value] : List va_W)) s.heap := hP
  have hUJ0 : ∀ w ∈ u_ws RJ0 TJ0 4, w.before [.ref a_this, .int a1].toArray s = true := fun w h => hts w (List.mem_cons_of_mem _ (List.mem_append_right _ h))
  unfold ff_J0_charAt_5068e_d at hf
  refine lv_aload_n hx hb dJ0_charAt_5068e_0 rfl (lv_at hl 0 rfl) ?_
  obtain ⟨u_1, he_2, hf⟩ := os_bd hf
  refine mg_callV (wcs := [ce_K0 a_this a_this_value o_this]) (wrs := [ce_BA kA a_this_value o_this_value]) (ss := [ce_K0 a_this a_this_value o_this, ce_BA kA a_this_value o_this_value]) ⟨hx, hb, hml, hown, hts⟩ (mm_J0_isLatin1_aae02_d l hst zz D kA N a_this_value a_this o_this u_1 he_2) (cwV 0 hts gJ0_charAt_5068e_J0_isLatin1_aae02 rfl rfl rfl (by decide +kernel) ⟨Nat.le_of_ble_eq_true rfl, Nat.le_of_ble_eq_true rfl⟩) (va_recv hK hP (q0 := pl [ce_K0 a_this a_this_value o_this, ce_BA kA a_this_value o_this_value] 0 0) rfl (sg_get rfl rfl)) rfl hl.1 (As := []) (rest := []) rfl (Nat.le_of_ble_eq_true rfl) dJ0_charAt_5068e_1 ⟨(by show 0 + 0 ≤ 0; omega), (by show 0 + 0 ≤ 0; omega)⟩ hK hP hD hS hA hZ (pm_seg [ce_K0 a_this a_this_value o_this, ce_BA kA a_this_value o_this_value] ([ce_K0 a_this a_this_value o_this] ++ [ce_BA kA a_this_value o_this_value]) [0, 1] 2 rfl (by decide) rfl (by decide)) (fun rv w1 H locs hq hP hD hS => ?_)
  obtain ⟨rfl, rfl⟩ := hq
  refine W.widen (k := 0) (n := 0) (by show _ + 0 ≤ _; omega) (by show _ + 0 ≤ _; omega) ?_
  have hP : va_P D vwCl (fl ([ce_K0 a_this a_this_value o_this, ce_BA kA a_this_value o_this_value] : List va_W)) _ := (show va_P D vwCl (fl ([ce_K0 a_this a_this_value o_this] ++ [ce_BA kA a_this_value o_this_value] : List va_W)) _ from (by rw [fl_app]; exact hP))
  have hD : va_D A (fl ([ce_K0 a_this a_this_value o_this, ce_BA kA a_this_value o_this_value] : List va_W)) := (show va_D A (fl ([ce_K0 a_this a_this_value o_this] ++ [ce_BA kA a_this_value o_this_value] : List va_W)) from (by rw [fl_app]; exact hD))
  refine W.eq (g2 := F0 m 4 ls [.int u_1]) rfl ?_
  refine lv_if_eq (tgt := 16) hx hb dJ0_charAt_5068e_4 (by decide) (fun hc_3 => ?_) (fun hc_3 => ?_)
  · rw [if_pos (show u_1 = 0 from hc_3)] at hf
    cases hf
  · rw [if_neg (show ¬ (u_1 = 0) from hc_3)] at hf
    refine lv_aload_n hx hb dJ0_charAt_5068e_7 rfl (lv_at hl 0 rfl) ?_
    refine va_get (D := D) (ci := 0) (v := .ref a_this_value) (C := RJ0) (T := TJ0) (N := 4) hx hb hUJ0 (fun _ h9 => h9) hown hK hP (pl [ce_K0 a_this a_this_value o_this, ce_BA kA a_this_value o_this_value] 0 0) (sg_get rfl rfl) rfl 0 (by decide) (hts (Cond.fieldLink RJ0 9 "java/lang/String" "value" "[B") (List.mem_of_getElem? (i := 1) rfl)) (fun _ h9 => h9) rfl dJ0_charAt_5068e_8 ?_
    refine lv_iload_n hx hb dJ0_charAt_5068e_11 rfl (lv_at hl 1 rfl) ?_
    obtain ⟨u_4, he_5, hf⟩ := os_bd hf
    refine mg_callS (wcs := [ce_BA kA a_this_value o_this_value]) (wrs := [ce_K0 a_this a_this_value o_this]) (ss := [ce_K0 a_this a_this_value o_this, ce_BA kA a_this_value o_this_value]) ⟨hx, hb, hml, hown, hts⟩ (mm_J1_charAt_3b067_d l hst zz D kA N a_this_value o_this_value a1 u_4 he_5) (va_cwS 2 hts gJ0_charAt_5068e_J1_charAt_3b067 rfl rfl rfl (by decide +kernel) ⟨Nat.le_of_ble_eq_true rfl, Nat.le_of_ble_eq_true rfl⟩) rfl hl.1 (As := [.ref a_this_value, .int a1]) (rest := []) rfl (Nat.le_of_ble_eq_true rfl) dJ0_charAt_5068e_12 ⟨(by show 0 + 0 ≤ 0; omega), (by show 0 + 0 ≤ 0; omega)⟩ hK hP hD hS hA hZ (pm_seg [ce_K0 a_this a_this_value o_this, ce_BA kA a_this_value o_this_value] ([ce_BA kA a_this_value o_this_value] ++ [ce_K0 a_this a_this_value o_this]) [1, 0] 2 rfl (by decide) rfl (by decide)) (fun rv w1 H locs hq hP hD hS => ?_)
    obtain ⟨rfl, rfl⟩ := hq
    refine W.widen (k := 0) (n := 0) (by show _ + 0 ≤ _; omega) (by show _ + 0 ≤ _; omega) ?_
    have hP : va_P D vwCl (fl ([ce_BA kA a_this_value o_this_value, ce_K0 a_this a_this_value o_this] : List va_W)) _ := (show va_P D vwCl (fl ([ce_BA kA a_this_value o_this_value] ++ [ce_K0 a_this a_this_value o_this] : List va_W)) _ from (by rw [fl_app]; exact hP))
    have hD : va_D A (fl ([ce_BA kA a_this_value o_this_value, ce_K0 a_this a_this_value o_this] : List va_W)) := (show va_D A (fl ([ce_BA kA a_this_value o_this_value] ++ [ce_K0 a_this a_this_value o_this] : List va_W)) from (by rw [fl_app]; exact hD))
    refine W.eq (g2 := F0 m 15 ls [.int u_4]) rfl ?_
    obtain ⟨hz_6, hf⟩ := os_if hf
    have hP : va_P D vwCl (fl ([ce_K0 a_this a_this_value o_this, ce_BA kA a_this_value o_this_value] : List va_W)) _ := hP.pm (pm_seg [ce_BA kA a_this_value o_this_value, ce_K0 a_this a_this_value o_this] [ce_K0 a_this a_this_value o_this, ce_BA kA a_this_value o_this_value] [1, 0] 2 rfl (by decide) rfl (by decide))
    have hD : va_D A (fl ([ce_K0 a_this a_this_value o_this, ce_BA kA a_this_value o_this_value] : List va_W)) := hD.pm (pm_seg [ce_BA kA a_this_value o_this_value, ce_K0 a_this a_this_value o_this] [ce_K0 a_this a_this_value o_this, ce_BA kA a_this_value o_this_value] [1, 0] 2 rfl (by decide) rfl (by decide))
    have hP : va_P D vwCl (fl ([ce_K0 a_this a_this_value o_this, ce_BA kA a_this_value o_this_value] : List va_W)) _ := hP
    have hD : va_D A (fl ([ce_K0 a_this a_this_value o_this, ce_BA kA a_this_value o_this_value] : List va_W)) := hD
    rw [← Option.some.inj hf]
    exact mg_retz ⟨rfl, rfl⟩ (by show _ ≤ 0; omega) (by show _ ≤ 0; omega) hx hb hr (os_c_n hz_6) hlk hP hK hD hS dJ0_charAt_5068e_15
def ff_J0_isEmpty_aae02_d (N : Nat) (o_this : os_T) (o_this_value : os_T) : Option Int32 :=
  (if (Int32.ofNat (ci_n o_this_value)) = 0 then some (1 : Int32) else some (0 : Int32))
set_option maxHeartbeats 4000000 in
set_option maxRecDepth 100000 in
theorem mm_J0_isEmpty_aae02_d (l : Launch) (hst : l.stackTraces = false) (zz : Nat → Nat → Nat) (D : va_G) (kA : Nat → ClassId) (N : Nat) (a_this : Nat) (a_this_value : Nat) (o_this : os_T) (o_this_value : os_T) (out : Int32) (hf : ff_J0_isEmpty_aae02_d N o_this o_this_value = some out) : mg_C l zz D kA yJ0_isEmpty_aae02 wsJ0_isEmpty_aae02 ({ frames := 0, cells := 0, slots := 0, locals := 0 } : Room) [.ref a_this] (fl ([ce_K0 a_this a_this_value o_this, ce_BA kA a_this_value o_this_value] : List va_W)) (fun rv w1 => rv = some (.int out) ∧ w1 = (fl ([ce_K0 a_this a_this_value o_this, ce_BA kA a_this_value o_this_value] : List va_W))) := by
  refine mg_of (cc := cJ0_isEmpty_aae02) (maxL := 1) (ret := (some .boolean)) (by decide) rfl (Nat.le_of_ble_eq_true rfl) ?_
  intro p e s m below meth c A B hZ hD hP hS ls hl
  obtain ⟨hx, hb, hr, hlk, hml, hown, hts, hK, hA, hnm⟩ := B
  have hown : s.vm.findClass RJ0 = some m.cls := hown
  have hl : lv_has ls 1 [(0, .ref a_this)] := hl
  have hP : va_P D vwCl (fl ([ce_K0 a_this a_this_value o_this, ce_BA kA a_this_value o_this_value] : List va_W)) s.heap := hP
  have hUJ0 : ∀ w ∈ u_ws RJ0 TJ0 4, w.before [.ref a_this].toArray s = true := fun w h => hts w (List.mem_cons_of_mem _ (List.mem_append_right _ h))
  unfold ff_J0_isEmpty_aae02_d at hf
  refine lv_aload_n hx hb dJ0_isEmpty_aae02_0 rfl (lv_at hl 0 rfl) ?_
  refine va_get (D := D) (ci := 0) (v := .ref a_this_value) (C := RJ0) (T := TJ0) (N := 4) hx hb hUJ0 (fun _ h9 => h9) hown hK hP (pl [ce_K0 a_this a_this_value o_this, ce_BA kA a_this_value o_this_value] 0 0) (sg_get rfl rfl) rfl 0 (by decide) (hts (Cond.fieldLink RJ0 9 "java/lang/String" "value" "[B") (List.mem_of_getElem? (i := 1) rfl)) (fun _ h9 => h9) rfl dJ0_isEmpty_aae02_1 ?_
  refine va_alen (v := Int32.ofNat (ci_n o_this_value)) hx hb hK hP (pl [ce_K0 a_this a_this_value o_this, ce_BA kA a_this_value o_this_value] 1 0) 2 (sg_get rfl rfl) rfl rfl dJ0_isEmpty_aae02_4 ?_
  refine lv_if_ne (tgt := 12) hx hb dJ0_isEmpty_aae02_5 (by decide) (fun hc_1 => ?_) (fun hc_1 => ?_)
  · rw [if_neg (show ¬ ((Int32.ofNat (ci_n o_this_value)) = 0) from hc_1)] at hf
    refine lv_iconst (v := 0) hx hb dJ0_isEmpty_aae02_12 (by decide) ?_
    have hP : va_P D vwCl (fl ([ce_K0 a_this a_this_value o_this, ce_BA kA a_this_value o_this_value] : List va_W)) _ := hP
    have hD : va_D A (fl ([ce_K0 a_this a_this_value o_this, ce_BA kA a_this_value o_this_value] : List va_W)) := hD
    rw [← Option.some.inj hf]
    exact mg_retz ⟨rfl, rfl⟩ (by show _ ≤ 0; omega) (by show _ ≤ 0; omega) hx hb hr rfl hlk hP hK hD hS dJ0_isEmpty_aae02_13
  · rw [if_pos (show (Int32.ofNat (ci_n o_this_value)) = 0 from hc_1)] at hf
    refine lv_iconst (v := 1) hx hb dJ0_isEmpty_aae02_8 (by decide) ?_
    refine lv_goto (tgt := 13) hx hb dJ0_isEmpty_aae02_9 (by decide) ?_
    have hP : va_P D vwCl (fl ([ce_K0 a_this a_this_value o_this, ce_BA kA a_this_value o_this_value] : List va_W)) _ := hP
    have hD : va_D A (fl ([ce_K0 a_this a_this_value o_this, ce_BA kA a_this_value o_this_value] : List va_W)) := hD
    rw [← Option.some.inj hf]
    exact mg_retz ⟨rfl, rfl⟩ (by show _ ≤ 0; omega) (by show _ ≤ 0; omega) hx hb hr rfl hlk hP hK hD hS dJ0_isEmpty_aae02_13
