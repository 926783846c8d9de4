def ff_X7_readPanel_b14 (N : Nat) (o_this : os_T) (o_this_tokens : os_T) (o_this_draft : os_T) : Option (Int32 × os_T × os_T × os_T) :=
  ((ff_X10_fail N o_this_tokens (3 : Int32)).bind fun u_11 => (if os_z u_11.1 then some (u_11.1, o_this, u_11.2, o_this_draft) else none))
def ff_X7_readPanel (N : Nat) (o_this : os_T) (o_this_tokens : os_T) (o_this_draft : os_T) : Option (Int32 × os_T × os_T × os_T) :=
  (if (os_I o_this 2) = 0 then (if (os_I o_this 6) ≤ 0 then ((ff_X10_advance N o_this_tokens).bind fun u_3 => ((ff_X10_takeNumber N u_3 (1 : Int32) (16 : Int32)).bind fun u_5 => (if u_5.1 = (-1 : Int32) then some ((0 : Int32), ss_I o_this 2 (1 : Int32), u_5.2, ss_I o_this_draft 0 u_5.1) else ((ff_X10_takeNumber N u_5.2 (1 : Int32) (12 : Int32)).bind fun u_8 => (if u_8.1 = (-1 : Int32) then some ((0 : Int32), ss_I o_this 2 (1 : Int32), u_8.2, ss_I (ss_I o_this_draft 0 u_5.1) 1 u_8.1) else some ((1 : Int32), ss_I o_this 2 (1 : Int32), u_8.2, ss_I (ss_I o_this_draft 0 u_5.1) 1 u_8.1)))))) else ff_X7_readPanel_b14 N o_this o_this_tokens o_this_draft) else ff_X7_readPanel_b14 N o_this o_this_tokens o_this_draft)
set_option maxHeartbeats 4000000 in
set_option maxRecDepth 100000 in
theorem mm_X7_readPanel (l : Launch) (D : va_G) (kA : Nat → ClassId) (N : Nat) (q_this : Nat → Nat) (q_this_tokens : Nat → Nat) (q_this_draft : Nat → Nat) (o_this : os_T) (o_this_tokens : os_T) (o_this_draft : os_T) (out : (Int32 × os_T × os_T × os_T)) (hf : ff_X7_readPanel N o_this o_this_tokens o_this_draft = some out) : mc_C l D kA yX7_readPanel wsX7_readPanel ({ frames := 2, cells := 0, slots := 0, locals := 45 } : Room) [.ref (q_this 0)] (ce_X7 kA q_this q_this_tokens q_this_draft o_this ++ (ce_X10 kA q_this_tokens o_this_tokens ++ (ce_X5 kA q_this_draft o_this_draft))) (some (.int out.1)) (ce_X7 kA q_this q_this_tokens q_this_draft out.2.1 ++ (ce_X10 kA q_this_tokens out.2.2.1 ++ (ce_X5 kA q_this_draft out.2.2.2))) := by
  refine mc_of (cc := cX7_readPanel) (maxL := 1) (ret := (some .boolean)) (by decide) rfl (Nat.le_of_ble_eq_true rfl) ?_
  intro p e s m below meth c A B hD hP hS ls hl
  obtain ⟨hx, hb, hr, hlk, hml, hown, hts, hK, hA, hnm⟩ := B
  have hown : s.vm.findClass RX7 = some m.cls := hown
  have hl : lv_has ls 1 [(0, .ref (q_this 0))] := hl
  have hUX5 : ∀ w ∈ u_ws RX5 TX5 10, w.before [.ref (q_this 0)].toArray s = true := fun w h => hts w (List.mem_cons_of_mem _ (List.mem_append_left _ (List.mem_append_right _ h)))
  have hUX7 : ∀ w ∈ u_ws RX7 TX7 8, w.before [.ref (q_this 0)].toArray s = true := fun w h => hts w (List.mem_cons_of_mem _ (List.mem_append_left _ (List.mem_append_left _ (List.mem_append_right _ h))))
  have hB14 : ∀ (o_this : os_T) (o_this_tokens : os_T) (o_this_draft : os_T) (H : Heap) (locs : List Loc) (ls : Array Slot), va_P D vwCl (ce_X7 kA q_this q_this_tokens q_this_draft o_this ++ (ce_X10 kA q_this_tokens o_this_tokens ++ (ce_X5 kA q_this_draft o_this_draft))) H → va_D A (ce_X7 kA q_this q_this_tokens q_this_draft o_this ++ (ce_X10 kA q_this_tokens o_this_tokens ++ (ce_X5 kA q_this_draft o_this_draft))) → va_S A s.heap H locs → lv_has ls 1 [(0, .ref (q_this 0))] → ff_X7_readPanel_b14 N o_this o_this_tokens o_this_draft = some out → W p l e ({ frames := 2, cells := 0, slots := 0, locals := 45 } : Room) s m [.ref (q_this 0)].toArray below meth c H locs 0 0 (MQ below (mc_Q D kA A (some (.int out.1)) (ce_X7 kA q_this q_this_tokens q_this_draft out.2.1 ++ (ce_X10 kA q_this_tokens out.2.2.1 ++ (ce_X5 kA q_this_draft out.2.2.2)))) [.ref (q_this 0)].toArray s 0 0 A) (F0 m 14 ls []) := by
    intro o_this o_this_tokens o_this_draft H locs ls hP hD hS hl hf
    unfold ff_X7_readPanel_b14 at hf
    refine lv_aload_n hx hb dX7_readPanel_14 rfl (lv_at hl 0 rfl) ?_
    refine va_get (D := D) (ci := 6) (v := .ref (q_this_tokens 0)) (C := RX7) (T := TX7) (N := 8) hx hb hUX7 (fun _ h9 => h9) hown hK hP 0 rfl rfl 0 (by decide) (hts (Cond.fieldLink RX7 9 "ReliefBuilder$ReliefText" "tokens" "LReliefBuilder$Tokens;") (List.mem_of_getElem? (i := 3) rfl)) (fun _ h9 => h9) rfl dX7_readPanel_15 ?_
    refine lv_iconst (v := 3) hx hb dX7_readPanel_18 (by decide) ?_
    obtain ⟨u_11, he_12, hf⟩ := os_bd hf
    refine mc_callV ⟨hx, hb, hml, hown, hts⟩ (mm_X10_fail l D kA N q_this_tokens o_this_tokens (3 : Int32) u_11 he_12) (cwV 1 hts gX7_readPanel_X10_fail rfl rfl rfl (by decide +kernel) ⟨Nat.le_of_ble_eq_true rfl, Nat.le_of_ble_eq_true rfl⟩) (wc := (ce_X10 kA q_this_tokens o_this_tokens)) (ci := 8) (q0 := 0) rfl rfl rfl hl.1 (As := [.int (3 : Int32)]) (rest := []) rfl (Nat.le_of_ble_eq_true rfl) dX7_readPanel_19 ⟨Nat.le_of_ble_eq_true rfl, Nat.le_of_ble_eq_true rfl⟩ hK hP hD hS hA [1, 2, 3, 4, 5] [0, 6, 7, 8, 9] [0, 5, 6, 7, 8, 9, 1, 2, 3, 4] rfl (by decide) rfl (by decide) (by decide) rfl (by decide) (wr := (ce_X7 kA q_this q_this_tokens q_this_draft o_this ++ (ce_X5 kA q_this_draft o_this_draft))) (w2 := (ce_X7 kA q_this q_this_tokens q_this_draft o_this ++ (ce_X10 kA q_this_tokens u_11.2 ++ (ce_X5 kA q_this_draft o_this_draft)))) (fun H locs hP hD hS => ?_)
    have hP : va_P D vwCl (ce_X7 kA q_this q_this_tokens q_this_draft o_this ++ (ce_X10 kA q_this_tokens u_11.2 ++ (ce_X5 kA q_this_draft o_this_draft))) H := hP
    obtain ⟨hz_13, hf⟩ := os_if hf
    rw [← Option.some.inj hf]
    exact mc_retz hx hb hr (os_z_n hz_13) hlk hP hK hD hS dX7_readPanel_22
  unfold ff_X7_readPanel at hf
  refine lv_aload_n hx hb dX7_readPanel_0 rfl (lv_at hl 0 rfl) ?_
  refine va_get (D := D) (ci := 6) (v := .int (os_I o_this 2)) (C := RX7) (T := TX7) (N := 8) hx hb hUX7 (fun _ h9 => h9) hown hK hP 0 rfl rfl 2 (by decide) (hts (Cond.fieldLink RX7 24 "ReliefBuilder$ReliefText" "hasPanel" "Z") (List.mem_of_getElem? (i := 1) rfl)) (fun _ h9 => h9) rfl dX7_readPanel_1 ?_
  refine lv_if_ne (tgt := 14) hx hb dX7_readPanel_4 (by decide) (fun hc_1 => ?_) (fun hc_1 => ?_)
  · rw [if_neg hc_1] at hf
    exact hB14 o_this o_this_tokens o_this_draft _ _ _ hP hD hS (lv_sub hl [0] rfl) hf
  · rw [if_pos hc_1] at hf
    refine lv_aload_n hx hb dX7_readPanel_7 rfl (lv_at hl 0 rfl) ?_
    refine va_get (D := D) (ci := 6) (v := .int (os_I o_this 6)) (C := RX7) (T := TX7) (N := 8) hx hb hUX7 (fun _ h9 => h9) hown hK hP 0 rfl rfl 6 (by decide) (hts (Cond.fieldLink RX7 37 "ReliefBuilder$ReliefText" "rowsTold" "I") (List.mem_of_getElem? (i := 2) rfl)) (fun _ h9 => h9) rfl dX7_readPanel_8 ?_
    refine lv_if_le (tgt := 23) hx hb dX7_readPanel_11 (by decide) (fun hc_2 => ?_) (fun hc_2 => ?_)
    · rw [if_pos hc_2] at hf
      refine lv_aload_n hx hb dX7_readPanel_23 rfl (lv_at hl 0 rfl) ?_
      refine lv_iconst (v := 1) hx hb dX7_readPanel_24 (by decide) ?_
      refine va_put (D := D) (ci := 6) (v := .int (1 : Int32)) (ty := .boolean) (C := RX7) (T := TX7) (N := 8) hx hb hUX7 (fun _ h9 => h9) tyX7 tyX7_ok nmX7 hown hK hP hD hS 0 rfl rfl 2 (by decide) (hts (Cond.fieldLink RX7 24 "ReliefBuilder$ReliefText" "hasPanel" "Z") (List.mem_of_getElem? (i := 1) rfl)) (fun _ h9 => h9) rfl (tyX7_ok 2 (by decide)) rfl rfl (Nat.le_of_ble_eq_true rfl) dX7_readPanel_25 (fun H locs hP hD hS => ?_)
      have hP : va_P D vwCl (ce_X7 kA q_this q_this_tokens q_this_draft (ss_I o_this 2 (1 : Int32)) ++ (ce_X10 kA q_this_tokens o_this_tokens ++ (ce_X5 kA q_this_draft o_this_draft))) H := hP
      have hD : va_D A (ce_X7 kA q_this q_this_tokens q_this_draft (ss_I o_this 2 (1 : Int32)) ++ (ce_X10 kA q_this_tokens o_this_tokens ++ (ce_X5 kA q_this_draft o_this_draft))) := hD
      refine lv_aload_n hx hb dX7_readPanel_28 rfl (lv_at hl 0 rfl) ?_
      refine va_get (D := D) (ci := 6) (v := .ref (q_this_tokens 0)) (C := RX7) (T := TX7) (N := 8) hx hb hUX7 (fun _ h9 => h9) hown hK hP 0 rfl rfl 0 (by decide) (hts (Cond.fieldLink RX7 9 "ReliefBuilder$ReliefText" "tokens" "LReliefBuilder$Tokens;") (List.mem_of_getElem? (i := 3) rfl)) (fun _ h9 => h9) rfl dX7_readPanel_29 ?_
      obtain ⟨u_3, he_4, hf⟩ := os_bd hf
      refine mc_callV ⟨hx, hb, hml, hown, hts⟩ (mm_X10_advance l D kA N q_this_tokens o_this_tokens u_3 he_4) (cwV 0 hts gX7_readPanel_X10_advance rfl rfl rfl (by decide +kernel) ⟨Nat.le_of_ble_eq_true rfl, Nat.le_of_ble_eq_true rfl⟩) (wc := (ce_X10 kA q_this_tokens o_this_tokens)) (ci := 8) (q0 := 0) rfl rfl rfl hl.1 (As := []) (rest := []) rfl (Nat.le_of_ble_eq_true rfl) dX7_readPanel_32 ⟨Nat.le_of_ble_eq_true rfl, Nat.le_of_ble_eq_true rfl⟩ hK hP hD hS hA [1, 2, 3, 4, 5] [0, 6, 7, 8, 9] [0, 5, 6, 7, 8, 9, 1, 2, 3, 4] rfl (by decide) rfl (by decide) (by decide) rfl (by decide) (wr := (ce_X7 kA q_this q_this_tokens q_this_draft (ss_I o_this 2 (1 : Int32)) ++ (ce_X5 kA q_this_draft o_this_draft))) (w2 := (ce_X7 kA q_this q_this_tokens q_this_draft (ss_I o_this 2 (1 : Int32)) ++ (ce_X10 kA q_this_tokens u_3 ++ (ce_X5 kA q_this_draft o_this_draft)))) (fun H locs hP hD hS => ?_)
      have hP : va_P D vwCl (ce_X7 kA q_this q_this_tokens q_this_draft (ss_I o_this 2 (1 : Int32)) ++ (ce_X10 kA q_this_tokens u_3 ++ (ce_X5 kA q_this_draft o_this_draft))) H := hP
      refine lv_aload_n hx hb dX7_readPanel_35 rfl (lv_at hl 0 rfl) ?_
      refine va_get (D := D) (ci := 6) (v := .ref (q_this_draft 0)) (C := RX7) (T := TX7) (N := 8) hx hb hUX7 (fun _ h9 => h9) hown hK hP 0 rfl rfl 1 (by decide) (hts (Cond.fieldLink RX7 15 "ReliefBuilder$ReliefText" "draft" "LReliefBuilder$Panel;") (List.mem_of_getElem? (i := 4) rfl)) (fun _ h9 => h9) rfl dX7_readPanel_36 ?_
      refine lv_aload_n hx hb dX7_readPanel_39 rfl (lv_at hl 0 rfl) ?_
      refine va_get (D := D) (ci := 6) (v := .ref (q_this_tokens 0)) (C := RX7) (T := TX7) (N := 8) hx hb hUX7 (fun _ h9 => h9) hown hK hP 0 rfl rfl 0 (by decide) (hts (Cond.fieldLink RX7 9 "ReliefBuilder$ReliefText" "tokens" "LReliefBuilder$Tokens;") (List.mem_of_getElem? (i := 3) rfl)) (fun _ h9 => h9) rfl dX7_readPanel_40 ?_
      refine lv_iconst (v := 1) hx hb dX7_readPanel_43 (by decide) ?_
      refine lv_bipush (v := 16) hx hb dX7_readPanel_44 (by decide) ?_
      obtain ⟨u_5, he_6, hf⟩ := os_bd hf
      refine mc_callV ⟨hx, hb, hml, hown, hts⟩ (mm_X10_takeNumber l D kA N q_this_tokens u_3 (1 : Int32) (16 : Int32) u_5 he_6) (cwV 2 hts gX7_readPanel_X10_takeNumber rfl rfl rfl (by decide +kernel) ⟨Nat.le_of_ble_eq_true rfl, Nat.le_of_ble_eq_true rfl⟩) (wc := (ce_X10 kA q_this_tokens u_3)) (ci := 8) (q0 := 0) rfl rfl rfl hl.1 (As := [.int (1 : Int32), .int (16 : Int32)]) (rest := [.ref (q_this_draft 0)]) rfl (Nat.le_of_ble_eq_true rfl) dX7_readPanel_46 ⟨Nat.le_of_ble_eq_true rfl, Nat.le_of_ble_eq_true rfl⟩ hK hP hD hS hA [1, 2, 3, 4, 5] [0, 6, 7, 8, 9] [0, 5, 6, 7, 8, 9, 1, 2, 3, 4] rfl (by decide) rfl (by decide) (by decide) rfl (by decide) (wr := (ce_X7 kA q_this q_this_tokens q_this_draft (ss_I o_this 2 (1 : Int32)) ++ (ce_X5 kA q_this_draft o_this_draft))) (w2 := (ce_X7 kA q_this q_this_tokens q_this_draft (ss_I o_this 2 (1 : Int32)) ++ (ce_X10 kA q_this_tokens u_5.2 ++ (ce_X5 kA q_this_draft o_this_draft)))) (fun H locs hP hD hS => ?_)
      have hP : va_P D vwCl (ce_X7 kA q_this q_this_tokens q_this_draft (ss_I o_this 2 (1 : Int32)) ++ (ce_X10 kA q_this_tokens u_5.2 ++ (ce_X5 kA q_this_draft o_this_draft))) H := hP
      refine va_put (D := D) (ci := 4) (v := .int u_5.1) (ty := .int) (C := RX5) (T := TX5) (N := 10) hx hb hUX5 (fun _ h9 => h9) tyX5 tyX5_ok nmX5 hown hK hP hD hS 6 rfl rfl 0 (by decide) (hts (Cond.fieldLink RX7 103 "ReliefBuilder$Panel" "width" "I") (List.mem_of_getElem? (i := 5) rfl)) (fun _ h9 => h9) rfl (tyX5_ok 0 (by decide)) rfl rfl (Nat.le_of_ble_eq_true rfl) dX7_readPanel_49 (fun H locs hP hD hS => ?_)
      have hP : va_P D vwCl (ce_X7 kA q_this q_this_tokens q_this_draft (ss_I o_this 2 (1 : Int32)) ++ (ce_X10 kA q_this_tokens u_5.2 ++ (ce_X5 kA q_this_draft (ss_I o_this_draft 0 u_5.1)))) H := hP
      have hD : va_D A (ce_X7 kA q_this q_this_tokens q_this_draft (ss_I o_this 2 (1 : Int32)) ++ (ce_X10 kA q_this_tokens u_5.2 ++ (ce_X5 kA q_this_draft (ss_I o_this_draft 0 u_5.1)))) := hD
      refine lv_aload_n hx hb dX7_readPanel_52 rfl (lv_at hl 0 rfl) ?_
      refine va_get (D := D) (ci := 6) (v := .ref (q_this_draft 0)) (C := RX7) (T := TX7) (N := 8) hx hb hUX7 (fun _ h9 => h9) hown hK hP 0 rfl rfl 1 (by decide) (hts (Cond.fieldLink RX7 15 "ReliefBuilder$ReliefText" "draft" "LReliefBuilder$Panel;") (List.mem_of_getElem? (i := 4) rfl)) (fun _ h9 => h9) rfl dX7_readPanel_53 ?_
      refine va_get (D := D) (ci := 4) (v := .int u_5.1) (C := RX5) (T := TX5) (N := 10) hx hb hUX5 (fun _ h9 => h9) hown hK hP 6 rfl rfl 0 (by decide) (hts (Cond.fieldLink RX7 103 "ReliefBuilder$Panel" "width" "I") (List.mem_of_getElem? (i := 5) rfl)) (fun _ h9 => h9) rfl dX7_readPanel_56 ?_
      refine lv_iconst (v := (-1)) hx hb dX7_readPanel_59 (by decide) ?_
      refine lv_icmp_ne (tgt := 65) hx hb dX7_readPanel_60 (by decide) (fun hc_7 => ?_) (fun hc_7 => ?_)
      · rw [if_neg hc_7] at hf
        refine lv_aload_n hx hb dX7_readPanel_65 rfl (lv_at hl 0 rfl) ?_
        refine va_get (D := D) (ci := 6) (v := .ref (q_this_draft 0)) (C := RX7) (T := TX7) (N := 8) hx hb hUX7 (fun _ h9 => h9) hown hK hP 0 rfl rfl 1 (by decide) (hts (Cond.fieldLink RX7 15 "ReliefBuilder$ReliefText" "draft" "LReliefBuilder$Panel;") (List.mem_of_getElem? (i := 4) rfl)) (fun _ h9 => h9) rfl dX7_readPanel_66 ?_
        refine lv_aload_n hx hb dX7_readPanel_69 rfl (lv_at hl 0 rfl) ?_
        refine va_get (D := D) (ci := 6) (v := .ref (q_this_tokens 0)) (C := RX7) (T := TX7) (N := 8) hx hb hUX7 (fun _ h9 => h9) hown hK hP 0 rfl rfl 0 (by decide) (hts (Cond.fieldLink RX7 9 "ReliefBuilder$ReliefText" "tokens" "LReliefBuilder$Tokens;") (List.mem_of_getElem? (i := 3) rfl)) (fun _ h9 => h9) rfl dX7_readPanel_70 ?_
        refine lv_iconst (v := 1) hx hb dX7_readPanel_73 (by decide) ?_
        refine lv_bipush (v := 12) hx hb dX7_readPanel_74 (by decide) ?_
        obtain ⟨u_8, he_9, hf⟩ := os_bd hf
        refine mc_callV ⟨hx, hb, hml, hown, hts⟩ (mm_X10_takeNumber l D kA N q_this_tokens u_5.2 (1 : Int32) (12 : Int32) u_8 he_9) (cwV 2 hts gX7_readPanel_X10_takeNumber rfl rfl rfl (by decide +kernel) ⟨Nat.le_of_ble_eq_true rfl, Nat.le_of_ble_eq_true rfl⟩) (wc := (ce_X10 kA q_this_tokens u_5.2)) (ci := 8) (q0 := 0) rfl rfl rfl hl.1 (As := [.int (1 : Int32), .int (12 : Int32)]) (rest := [.ref (q_this_draft 0)]) rfl (Nat.le_of_ble_eq_true rfl) dX7_readPanel_76 ⟨Nat.le_of_ble_eq_true rfl, Nat.le_of_ble_eq_true rfl⟩ hK hP hD hS hA [1, 2, 3, 4, 5] [0, 6, 7, 8, 9] [0, 5, 6, 7, 8, 9, 1, 2, 3, 4] rfl (by decide) rfl (by decide) (by decide) rfl (by decide) (wr := (ce_X7 kA q_this q_this_tokens q_this_draft (ss_I o_this 2 (1 : Int32)) ++ (ce_X5 kA q_this_draft (ss_I o_this_draft 0 u_5.1)))) (w2 := (ce_X7 kA q_this q_this_tokens q_this_draft (ss_I o_this 2 (1 : Int32)) ++ (ce_X10 kA q_this_tokens u_8.2 ++ (ce_X5 kA q_this_draft (ss_I o_this_draft 0 u_5.1))))) (fun H locs hP hD hS => ?_)
        have hP : va_P D vwCl (ce_X7 kA q_this q_this_tokens q_this_draft (ss_I o_this 2 (1 : Int32)) ++ (ce_X10 kA q_this_tokens u_8.2 ++ (ce_X5 kA q_this_draft (ss_I o_this_draft 0 u_5.1)))) H := hP
        refine va_put (D := D) (ci := 4) (v := .int u_8.1) (ty := .int) (C := RX5) (T := TX5) (N := 10) hx hb hUX5 (fun _ h9 => h9) tyX5 tyX5_ok nmX5 hown hK hP hD hS 6 rfl rfl 1 (by decide) (hts (Cond.fieldLink RX7 106 "ReliefBuilder$Panel" "rows" "I") (List.mem_of_getElem? (i := 6) rfl)) (fun _ h9 => h9) rfl (tyX5_ok 1 (by decide)) rfl rfl (Nat.le_of_ble_eq_true rfl) dX7_readPanel_79 (fun H locs hP hD hS => ?_)
        have hP : va_P D vwCl (ce_X7 kA q_this q_this_tokens q_this_draft (ss_I o_this 2 (1 : Int32)) ++ (ce_X10 kA q_this_tokens u_8.2 ++ (ce_X5 kA q_this_draft (ss_I (ss_I o_this_draft 0 u_5.1) 1 u_8.1)))) H := hP
        have hD : va_D A (ce_X7 kA q_this q_this_tokens q_this_draft (ss_I o_this 2 (1 : Int32)) ++ (ce_X10 kA q_this_tokens u_8.2 ++ (ce_X5 kA q_this_draft (ss_I (ss_I o_this_draft 0 u_5.1) 1 u_8.1)))) := hD
        refine lv_aload_n hx hb dX7_readPanel_82 rfl (lv_at hl 0 rfl) ?_
        refine va_get (D := D) (ci := 6) (v := .ref (q_this_draft 0)) (C := RX7) (T := TX7) (N := 8) hx hb hUX7 (fun _ h9 => h9) hown hK hP 0 rfl rfl 1 (by decide) (hts (Cond.fieldLink RX7 15 "ReliefBuilder$ReliefText" "draft" "LReliefBuilder$Panel;") (List.mem_of_getElem? (i := 4) rfl)) (fun _ h9 => h9) rfl dX7_readPanel_83 ?_
        refine va_get (D := D) (ci := 4) (v := .int u_8.1) (C := RX5) (T := TX5) (N := 10) hx hb hUX5 (fun _ h9 => h9) hown hK hP 6 rfl rfl 1 (by decide) (hts (Cond.fieldLink RX7 106 "ReliefBuilder$Panel" "rows" "I") (List.mem_of_getElem? (i := 6) rfl)) (fun _ h9 => h9) rfl dX7_readPanel_86 ?_
        refine lv_iconst (v := (-1)) hx hb dX7_readPanel_89 (by decide) ?_
        refine lv_icmp_eq (tgt := 97) hx hb dX7_readPanel_90 (by decide) (fun hc_10 => ?_) (fun hc_10 => ?_)
        · rw [if_pos hc_10] at hf
          refine lv_iconst (v := 0) hx hb dX7_readPanel_97 (by decide) ?_
          rw [← Option.some.inj hf]
          exact mc_retz (v := 0) hx hb hr rfl hlk hP hK hD hS dX7_readPanel_98
        · rw [if_neg hc_10] at hf
          refine lv_iconst (v := 1) hx hb dX7_readPanel_93 (by decide) ?_
          refine lv_goto (tgt := 98) hx hb dX7_readPanel_94 (by decide) ?_
          rw [← Option.some.inj hf]
          exact mc_retz (v := 1) hx hb hr rfl hlk hP hK hD hS dX7_readPanel_98
      · rw [if_pos hc_7] at hf
        refine lv_iconst (v := 0) hx hb dX7_readPanel_63 (by decide) ?_
        rw [← Option.some.inj hf]
        exact mc_retz (v := 0) hx hb hr rfl hlk hP hK hD hS dX7_readPanel_64
    · rw [if_neg hc_2] at hf
      exact hB14 o_this o_this_tokens o_this_draft _ _ _ hP hD hS (lv_sub hl [0] rfl) hf
def ff_X7_readRow_c32 (N : Nat) (k32 : (os_T × os_T × os_T × Int32) → Option (Int32 × os_T × os_T × os_T)) (o_this : os_T) (o_this_tokens : os_T) (o_this_draft : os_T) (x1 : Int32) : Option (Int32 × os_T × os_T × os_T) :=
  (if (os_I o_this_draft 0) ≤ x1 then some ((1 : Int32), ss_I o_this 6 ((os_I o_this 6) + (1 : Int32)), o_this_tokens, o_this_draft) else ((ff_X10_takeNumber N o_this_tokens (0 : Int32) (255 : Int32)).bind fun u_8 => (if u_8.1 = (-1 : Int32) then some ((0 : Int32), o_this, u_8.2, o_this_draft) else ((ff_X5_dye N o_this_draft x1 (os_I o_this 6) u_8.1).bind fun u_11 => k32 (o_this, u_8.2, u_11, x1 + 1)))))
def ff_X7_readRow_l32 (N : Nat) : Nat → (os_T × os_T × os_T × Int32) → Option (Int32 × os_T × os_T × os_T) := os_loop (fun k32 s1 => ff_X7_readRow_c32 N k32 s1.1 s1.2.1 s1.2.2.1 s1.2.2.2)
def ff_X7_readRow (N : Nat) (o_this : os_T) (o_this_tokens : os_T) (o_this_draft : os_T) : Option (Int32 × os_T × os_T × os_T) :=
  (if (os_I o_this 6) < (os_I o_this_draft 1) then ((ff_X10_advance N o_this_tokens).bind fun u_2 => ff_X7_readRow_l32 N N (o_this, u_2, o_this_draft, (0 : Int32))) else ((ff_X10_fail N o_this_tokens (5 : Int32)).bind fun u_4 => (if os_z u_4.1 then some (u_4.1, o_this, u_4.2, o_this_draft) else none)))
set_option maxHeartbeats 4000000 in
set_option maxRecDepth 100000 in
theorem mm_X7_readRow (l : Launch) (D : va_G) (kA : Nat → ClassId) (N : Nat) (q_this : Nat → Nat) (q_this_tokens : Nat → Nat) (q_this_draft : Nat → Nat) (o_this : os_T) (o_this_tokens : os_T) (o_this_draft : os_T) (out : (Int32 × os_T × os_T × os_T)) (hf : ff_X7_readRow N o_this o_this_tokens o_this_draft = some out) : mc_C l D kA yX7_readRow wsX7_readRow ({ frames := 2, cells := 0, slots := 0, locals := 45 } : Room) [.ref (q_this 0)] (ce_X7 kA q_this q_this_tokens q_this_draft o_this ++ (ce_X10 kA q_this_tokens o_this_tokens ++ (ce_X5 kA q_this_draft o_this_draft))) (some (.int out.1)) (ce_X7 kA q_this q_this_tokens q_this_draft out.2.1 ++ (ce_X10 kA q_this_tokens out.2.2.1 ++ (ce_X5 kA q_this_draft out.2.2.2))) := by
  refine mc_of (cc := cX7_readRow) (maxL := 3) (ret := (some .boolean)) (by decide) rfl (Nat.le_of_ble_eq_true rfl) ?_
  intro p e s m below meth c A B hD hP hS ls hl
  obtain ⟨hx, hb, hr, hlk, hml, hown, hts, hK, hA, hnm⟩ := B
  have hown : s.vm.findClass RX7 = some m.cls := hown
  have hl : lv_has ls 3 [(0, .ref (q_this 0))] := hl
  have hUX5 : ∀ w ∈ u_ws RX5 TX5 10, w.before [.ref (q_this 0)].toArray s = true := fun w h => hts w (List.mem_cons_of_mem _ (List.mem_append_left _ (List.mem_append_right _ h)))
  have hUX7 : ∀ w ∈ u_ws RX7 TX7 8, w.before [.ref (q_this 0)].toArray s = true := fun w h => hts w (List.mem_cons_of_mem _ (List.mem_append_left _ (List.mem_append_left _ (List.mem_append_right _ h))))
  have hL32 : ∀ (n : Nat) (o_this : os_T) (o_this_tokens : os_T) (o_this_draft : os_T) (x1 : Int32) (H : Heap) (locs : List Loc) (ls : Array Slot), va_P D vwCl (ce_X7 kA q_this q_this_tokens q_this_draft o_this ++ (ce_X10 kA q_this_tokens o_this_tokens ++ (ce_X5 kA q_this_draft o_this_draft))) H → va_D A (ce_X7 kA q_this q_this_tokens q_this_draft o_this ++ (ce_X10 kA q_this_tokens o_this_tokens ++ (ce_X5 kA q_this_draft o_this_draft))) → va_S A s.heap H locs → lv_has ls 3 [(0, .ref (q_this 0)), (1, .int x1)] → ff_X7_readRow_l32 N n (o_this, o_this_tokens, o_this_draft, x1) = some out → W p l e ({ frames := 2, cells := 0, slots := 0, locals := 45 } : Room) s m [.ref (q_this 0)].toArray below meth c H locs 0 0 (MQ below (mc_Q D kA A (some (.int out.1)) (ce_X7 kA q_this q_this_tokens q_this_draft out.2.1 ++ (ce_X10 kA q_this_tokens out.2.2.1 ++ (ce_X5 kA q_this_draft out.2.2.2)))) [.ref (q_this 0)].toArray s 0 0 A) (F0 m 32 ls []) := by
    intro n
    induction n with
    | zero => intro o_this o_this_tokens o_this_draft x1 H locs ls _ _ _ _ hf; cases hf
    | succ n hk32 =>
      intro o_this o_this_tokens o_this_draft x1 H locs ls hP hD hS hl hf
      have hf : ff_X7_readRow_c32 N (ff_X7_readRow_l32 N n) o_this o_this_tokens o_this_draft x1 = some out := hf
      generalize hke : ff_X7_readRow_l32 N n = k32 at hk32 hf
      unfold ff_X7_readRow_c32 at hf
      refine lv_iload_n hx hb dX7_readRow_32 rfl (lv_at hl 1 rfl) ?_
      refine lv_aload_n hx hb dX7_readRow_33 rfl (lv_at hl 0 rfl) ?_
      refine va_get (D := D) (ci := 6) (v := .ref (q_this_draft 0)) (C := RX7) (T := TX7) (N := 8) hx hb hUX7 (fun _ h9 => h9) hown hK hP 0 rfl rfl 1 (by decide) (hts (Cond.fieldLink RX7 15 "ReliefBuilder$ReliefText" "draft" "LReliefBuilder$Panel;") (List.mem_of_getElem? (i := 2) rfl)) (fun _ h9 => h9) rfl dX7_readRow_34 ?_
      refine va_get (D := D) (ci := 4) (v := .int (os_I o_this_draft 0)) (C := RX5) (T := TX5) (N := 10) hx hb hUX5 (fun _ h9 => h9) hown hK hP 6 rfl rfl 0 (by decide) (hts (Cond.fieldLink RX7 103 "ReliefBuilder$Panel" "width" "I") (List.mem_of_getElem? (i := 5) rfl)) (fun _ h9 => h9) rfl dX7_readRow_37 ?_
      refine lv_icmp_ge (tgt := 81) hx hb dX7_readRow_40 (by decide) (fun hc_7 => ?_) (fun hc_7 => ?_)
      · rw [if_pos hc_7] at hf
        refine lv_aload_n hx hb dX7_readRow_81 rfl (lv_at hl 0 rfl) ?_
        refine lv_dup hx hb dX7_readRow_82 rfl ?_
        refine va_get (D := D) (ci := 6) (v := .int (os_I o_this 6)) (C := RX7) (T := TX7) (N := 8) hx hb hUX7 (fun _ h9 => h9) hown hK hP 0 rfl rfl 6 (by decide) (hts (Cond.fieldLink RX7 37 "ReliefBuilder$ReliefText" "rowsTold" "I") (List.mem_of_getElem? (i := 1) rfl)) (fun _ h9 => h9) rfl dX7_readRow_83 ?_
        refine lv_iconst (v := 1) hx hb dX7_readRow_86 (by decide) ?_
        refine lv_iadd hx hb dX7_readRow_87 ?_
        refine va_put (D := D) (ci := 6) (v := .int ((os_I o_this 6) + (1 : Int32))) (ty := .int) (C := RX7) (T := TX7) (N := 8) hx hb hUX7 (fun _ h9 => h9) tyX7 tyX7_ok nmX7 hown hK hP hD hS 0 rfl rfl 6 (by decide) (hts (Cond.fieldLink RX7 37 "ReliefBuilder$ReliefText" "rowsTold" "I") (List.mem_of_getElem? (i := 1) rfl)) (fun _ h9 => h9) rfl (tyX7_ok 6 (by decide)) rfl rfl (Nat.le_of_ble_eq_true rfl) dX7_readRow_88 (fun H locs hP hD hS => ?_)
        have hP : va_P D vwCl (ce_X7 kA q_this q_this_tokens q_this_draft (ss_I o_this 6 ((os_I o_this 6) + (1 : Int32))) ++ (ce_X10 kA q_this_tokens o_this_tokens ++ (ce_X5 kA q_this_draft o_this_draft))) H := hP
        have hD : va_D A (ce_X7 kA q_this q_this_tokens q_this_draft (ss_I o_this 6 ((os_I o_this 6) + (1 : Int32))) ++ (ce_X10 kA q_this_tokens o_this_tokens ++ (ce_X5 kA q_this_draft o_this_draft))) := hD
        refine lv_iconst (v := 1) hx hb dX7_readRow_91 (by decide) ?_
        rw [← Option.some.inj hf]
        exact mc_retz (v := 1) hx hb hr rfl hlk hP hK hD hS dX7_readRow_92
      · rw [if_neg hc_7] at hf
        refine lv_aload_n hx hb dX7_readRow_43 rfl (lv_at hl 0 rfl) ?_
        refine va_get (D := D) (ci := 6) (v := .ref (q_this_tokens 0)) (C := RX7) (T := TX7) (N := 8) hx hb hUX7 (fun _ h9 => h9) hown hK hP 0 rfl rfl 0 (by decide) (hts (Cond.fieldLink RX7 9 "ReliefBuilder$ReliefText" "tokens" "LReliefBuilder$Tokens;") (List.mem_of_getElem? (i := 4) rfl)) (fun _ h9 => h9) rfl dX7_readRow_44 ?_
        refine lv_iconst (v := 0) hx hb dX7_readRow_47 (by decide) ?_
        refine lv_sipush (v := 255) hx hb dX7_readRow_48 (by decide) ?_
        obtain ⟨u_8, he_9, hf⟩ := os_bd hf
        refine mc_callV ⟨hx, hb, hml, hown, hts⟩ (mm_X10_takeNumber l D kA N q_this_tokens o_this_tokens (0 : Int32) (255 : Int32) u_8 he_9) (cwV 2 hts gX7_readRow_X10_takeNumber rfl rfl rfl (by decide +kernel) ⟨Nat.le_of_ble_eq_true rfl, Nat.le_of_ble_eq_true rfl⟩) (wc := (ce_X10 kA q_this_tokens o_this_tokens)) (ci := 8) (q0 := 0) rfl rfl rfl hl.1 (As := [.int (0 : Int32), .int (255 : Int32)]) (rest := []) rfl (Nat.le_of_ble_eq_true rfl) dX7_readRow_51 ⟨Nat.le_of_ble_eq_true rfl, Nat.le_of_ble_eq_true rfl⟩ hK hP hD hS hA [1, 2, 3, 4, 5] [0, 6, 7, 8, 9] [0, 5, 6, 7, 8, 9, 1, 2, 3, 4] rfl (by decide) rfl (by decide) (by decide) rfl (by decide) (wr := (ce_X7 kA q_this q_this_tokens q_this_draft o_this ++ (ce_X5 kA q_this_draft o_this_draft))) (w2 := (ce_X7 kA q_this q_this_tokens q_this_draft o_this ++ (ce_X10 kA q_this_tokens u_8.2 ++ (ce_X5 kA q_this_draft o_this_draft)))) (fun H locs hP hD hS => ?_)
        have hP : va_P D vwCl (ce_X7 kA q_this q_this_tokens q_this_draft o_this ++ (ce_X10 kA q_this_tokens u_8.2 ++ (ce_X5 kA q_this_draft o_this_draft))) H := hP
        refine lv_istore_n (lv' := [(2, .int u_8.1), (0, .ref (q_this 0)), (1, .int x1)]) hx hb dX7_readRow_54 rfl hl (by decide) rfl (fun ls hl => ?_)
        refine lv_iload_n hx hb dX7_readRow_55 rfl (lv_at hl 0 rfl) ?_
        refine lv_iconst (v := (-1)) hx hb dX7_readRow_56 (by decide) ?_
        refine lv_icmp_ne (tgt := 62) hx hb dX7_readRow_57 (by decide) (fun hc_10 => ?_) (fun hc_10 => ?_)
        · rw [if_neg hc_10] at hf
          refine lv_aload_n hx hb dX7_readRow_62 rfl (lv_at hl 1 rfl) ?_
          refine va_get (D := D) (ci := 6) (v := .ref (q_this_draft 0)) (C := RX7) (T := TX7) (N := 8) hx hb hUX7 (fun _ h9 => h9) hown hK hP 0 rfl rfl 1 (by decide) (hts (Cond.fieldLink RX7 15 "ReliefBuilder$ReliefText" "draft" "LReliefBuilder$Panel;") (List.mem_of_getElem? (i := 2) rfl)) (fun _ h9 => h9) rfl dX7_readRow_63 ?_
          refine lv_iload_n hx hb dX7_readRow_66 rfl (lv_at hl 2 rfl) ?_
          refine lv_aload_n hx hb dX7_readRow_67 rfl (lv_at hl 1 rfl) ?_
          refine va_get (D := D) (ci := 6) (v := .int (os_I o_this 6)) (C := RX7) (T := TX7) (N := 8) hx hb hUX7 (fun _ h9 => h9) hown hK hP 0 rfl rfl 6 (by decide) (hts (Cond.fieldLink RX7 37 "ReliefBuilder$ReliefText" "rowsTold" "I") (List.mem_of_getElem? (i := 1) rfl)) (fun _ h9 => h9) rfl dX7_readRow_68 ?_
          refine lv_iload_n hx hb dX7_readRow_71 rfl (lv_at hl 0 rfl) ?_
          obtain ⟨u_11, he_12, hf⟩ := os_bd hf
          refine mc_callV ⟨hx, hb, hml, hown, hts⟩ (mm_X5_dye l D kA N q_this_draft o_this_draft x1 (os_I o_this 6) u_8.1 u_11 he_12) (cwV 3 hts gX7_readRow_X5_dye rfl rfl rfl (by decide +kernel) ⟨Nat.le_of_ble_eq_true rfl, Nat.le_of_ble_eq_true rfl⟩) (wc := (ce_X5 kA q_this_draft o_this_draft)) (ci := 4) (q0 := 0) rfl rfl rfl hl.1 (As := [.int x1, .int (os_I o_this 6), .int u_8.1]) (rest := []) rfl (Nat.le_of_ble_eq_true rfl) dX7_readRow_72 ⟨Nat.le_of_ble_eq_true rfl, Nat.le_of_ble_eq_true rfl⟩ hK hP hD hS hA [6, 7, 8, 9] [0, 1, 2, 3, 4, 5] [0, 1, 2, 3, 4, 5, 6, 7, 8, 9] rfl (by decide) rfl (by decide) (by decide) rfl (by decide) (wr := (ce_X7 kA q_this q_this_tokens q_this_draft o_this ++ (ce_X10 kA q_this_tokens u_8.2))) (w2 := (ce_X7 kA q_this q_this_tokens q_this_draft o_this ++ (ce_X10 kA q_this_tokens u_8.2 ++ (ce_X5 kA q_this_draft u_11)))) (fun H locs hP hD hS => ?_)
          have hP : va_P D vwCl (ce_X7 kA q_this q_this_tokens q_this_draft o_this ++ (ce_X10 kA q_this_tokens u_8.2 ++ (ce_X5 kA q_this_draft u_11))) H := hP
          refine lv_iinc (v := x1 + 1) (lv' := [(1, .int (x1 + 1)), (2, .int u_8.1), (0, .ref (q_this 0))]) hx hb dX7_readRow_75 hl (k := 2) rfl rfl (by decide) rfl (fun ls hl => ?_)
          refine lv_goto (tgt := 32) hx hb dX7_readRow_78 (by decide) ?_
          exact hk32 o_this u_8.2 u_11 (x1 + 1) _ _ _ hP hD hS (lv_sub hl [2, 0] rfl) hf
        · rw [if_pos hc_10] at hf
          refine lv_iconst (v := 0) hx hb dX7_readRow_60 (by decide) ?_
          rw [← Option.some.inj hf]
          exact mc_retz (v := 0) hx hb hr rfl hlk hP hK hD hS dX7_readRow_61
  unfold ff_X7_readRow at hf
  refine lv_aload_n hx hb dX7_readRow_0 rfl (lv_at hl 0 rfl) ?_
  refine va_get (D := D) (ci := 6) (v := .int (os_I o_this 6)) (C := RX7) (T := TX7) (N := 8) hx hb hUX7 (fun _ h9 => h9) hown hK hP 0 rfl rfl 6 (by decide) (hts (Cond.fieldLink RX7 37 "ReliefBuilder$ReliefText" "rowsTold" "I") (List.mem_of_getElem? (i := 1) rfl)) (fun _ h9 => h9) rfl dX7_readRow_1 ?_
  refine lv_aload_n hx hb dX7_readRow_4 rfl (lv_at hl 0 rfl) ?_
  refine va_get (D := D) (ci := 6) (v := .ref (q_this_draft 0)) (C := RX7) (T := TX7) (N := 8) hx hb hUX7 (fun _ h9 => h9) hown hK hP 0 rfl rfl 1 (by decide) (hts (Cond.fieldLink RX7 15 "ReliefBuilder$ReliefText" "draft" "LReliefBuilder$Panel;") (List.mem_of_getElem? (i := 2) rfl)) (fun _ h9 => h9) rfl dX7_readRow_5 ?_
  refine va_get (D := D) (ci := 4) (v := .int (os_I o_this_draft 1)) (C := RX5) (T := TX5) (N := 10) hx hb hUX5 (fun _ h9 => h9) hown hK hP 6 rfl rfl 1 (by decide) (hts (Cond.fieldLink RX7 106 "ReliefBuilder$Panel" "rows" "I") (List.mem_of_getElem? (i := 3) rfl)) (fun _ h9 => h9) rfl dX7_readRow_8 ?_
  refine lv_icmp_lt (tgt := 23) hx hb dX7_readRow_11 (by decide) (fun hc_1 => ?_) (fun hc_1 => ?_)
  · rw [if_pos hc_1] at hf
    refine lv_aload_n hx hb dX7_readRow_23 rfl (lv_at hl 0 rfl) ?_
    refine va_get (D := D) (ci := 6) (v := .ref (q_this_tokens 0)) (C := RX7) (T := TX7) (N := 8) hx hb hUX7 (fun _ h9 => h9) hown hK hP 0 rfl rfl 0 (by decide) (hts (Cond.fieldLink RX7 9 "ReliefBuilder$ReliefText" "tokens" "LReliefBuilder$Tokens;") (List.mem_of_getElem? (i := 4) rfl)) (fun _ h9 => h9) rfl dX7_readRow_24 ?_
    obtain ⟨u_2, he_3, hf⟩ := os_bd hf
    refine mc_callV ⟨hx, hb, hml, hown, hts⟩ (mm_X10_advance l D kA N q_this_tokens o_this_tokens u_2 he_3) (cwV 0 hts gX7_readRow_X10_advance rfl rfl rfl (by decide +kernel) ⟨Nat.le_of_ble_eq_true rfl, Nat.le_of_ble_eq_true rfl⟩) (wc := (ce_X10 kA q_this_tokens o_this_tokens)) (ci := 8) (q0 := 0) rfl rfl rfl hl.1 (As := []) (rest := []) rfl (Nat.le_of_ble_eq_true rfl) dX7_readRow_27 ⟨Nat.le_of_ble_eq_true rfl, Nat.le_of_ble_eq_true rfl⟩ hK hP hD hS hA [1, 2, 3, 4, 5] [0, 6, 7, 8, 9] [0, 5, 6, 7, 8, 9, 1, 2, 3, 4] rfl (by decide) rfl (by decide) (by decide) rfl (by decide) (wr := (ce_X7 kA q_this q_this_tokens q_this_draft o_this ++ (ce_X5 kA q_this_draft o_this_draft))) (w2 := (ce_X7 kA q_this q_this_tokens q_this_draft o_this ++ (ce_X10 kA q_this_tokens u_2 ++ (ce_X5 kA q_this_draft o_this_draft)))) (fun H locs hP hD hS => ?_)
    have hP : va_P D vwCl (ce_X7 kA q_this q_this_tokens q_this_draft o_this ++ (ce_X10 kA q_this_tokens u_2 ++ (ce_X5 kA q_this_draft o_this_draft))) H := hP
    refine lv_iconst (v := 0) hx hb dX7_readRow_30 (by decide) ?_
    refine lv_istore_n (lv' := [(1, .int (0 : Int32)), (0, .ref (q_this 0))]) hx hb dX7_readRow_31 rfl hl (by decide) rfl (fun ls hl => ?_)
    exact hL32 N o_this u_2 o_this_draft (0 : Int32) _ _ _ hP hD hS (lv_sub hl [1, 0] rfl) hf
  · rw [if_neg hc_1] at hf
    refine lv_aload_n hx hb dX7_readRow_14 rfl (lv_at hl 0 rfl) ?_
    refine va_get (D := D) (ci := 6) (v := .ref (q_this_tokens 0)) (C := RX7) (T := TX7) (N := 8) hx hb hUX7 (fun _ h9 => h9) hown hK hP 0 rfl rfl 0 (by decide) (hts (Cond.fieldLink RX7 9 "ReliefBuilder$ReliefText" "tokens" "LReliefBuilder$Tokens;") (List.mem_of_getElem? (i := 4) rfl)) (fun _ h9 => h9) rfl dX7_readRow_15 ?_
    refine lv_iconst (v := 5) hx hb dX7_readRow_18 (by decide) ?_
    obtain ⟨u_4, he_5, hf⟩ := os_bd hf
    refine mc_callV ⟨hx, hb, hml, hown, hts⟩ (mm_X10_fail l D kA N q_this_tokens o_this_tokens (5 : Int32) u_4 he_5) (cwV 1 hts gX7_readRow_X10_fail rfl rfl rfl (by decide +kernel) ⟨Nat.le_of_ble_eq_true rfl, Nat.le_of_ble_eq_true rfl⟩) (wc := (ce_X10 kA q_this_tokens o_this_tokens)) (ci := 8) (q0 := 0) rfl rfl rfl hl.1 (As := [.int (5 : Int32)]) (rest := []) rfl (Nat.le_of_ble_eq_true rfl) dX7_readRow_19 ⟨Nat.le_of_ble_eq_true rfl, Nat.le_of_ble_eq_true rfl⟩ hK hP hD hS hA [1, 2, 3, 4, 5] [0, 6, 7, 8, 9] [0, 5, 6, 7, 8, 9, 1, 2, 3, 4] rfl (by decide) rfl (by decide) (by decide) rfl (by decide) (wr := (ce_X7 kA q_this q_this_tokens q_this_draft o_this ++ (ce_X5 kA q_this_draft o_this_draft))) (w2 := (ce_X7 kA q_this q_this_tokens q_this_draft o_this ++ (ce_X10 kA q_this_tokens u_4.2 ++ (ce_X5 kA q_this_draft o_this_draft)))) (fun H locs hP hD hS => ?_)
    have hP : va_P D vwCl (ce_X7 kA q_this q_this_tokens q_this_draft o_this ++ (ce_X10 kA q_this_tokens u_4.2 ++ (ce_X5 kA q_this_draft o_this_draft))) H := hP
    obtain ⟨hz_6, hf⟩ := os_if hf
    rw [← Option.some.inj hf]
    exact mc_retz hx hb hr (os_z_n hz_6) hlk hP hK hD hS dX7_readRow_22
def ff_X7_readSlope (N : Nat) (o_this : os_T) (o_this_tokens : os_T) (o_this_draft : os_T) : Option (Int32 × os_T × os_T × os_T) :=
  (if (os_I o_this 5) = 0 then ((ff_X10_advance N o_this_tokens).bind fun u_2 => ((ff_X10_takeNumber N u_2 (0 : Int32) (9 : Int32)).bind fun u_4 => (if u_4.1 = (-1 : Int32) then some ((0 : Int32), ss_I o_this 5 (1 : Int32), u_4.2, ss_I o_this_draft 6 u_4.1) else some ((1 : Int32), ss_I o_this 5 (1 : Int32), u_4.2, ss_I o_this_draft 6 u_4.1)))) else ((ff_X10_fail N o_this_tokens (3 : Int32)).bind fun u_7 => (if os_z u_7.1 then some (u_7.1, o_this, u_7.2, o_this_draft) else none)))
set_option maxHeartbeats 4000000 in
set_option maxRecDepth 100000 in
theorem mm_X7_readSlope (l : Launch) (D : va_G) (kA : Nat → ClassId) (N : Nat) (q_this : Nat → Nat) (q_this_tokens : Nat → Nat) (q_this_draft : Nat → Nat) (o_this : os_T) (o_this_tokens : os_T) (o_this_draft : os_T) (out : (Int32 × os_T × os_T × os_T)) (hf : ff_X7_readSlope N o_this o_this_tokens o_this_draft = some out) : mc_C l D kA yX7_readSlope wsX7_readSlope ({ frames := 2, cells := 0, slots := 0, locals := 45 } : Room) [.ref (q_this 0)] (ce_X7 kA q_this q_this_tokens q_this_draft o_this ++ (ce_X10 kA q_this_tokens o_this_tokens ++ (ce_X5 kA q_this_draft o_this_draft))) (some (.int out.1)) (ce_X7 kA q_this q_this_tokens q_this_draft out.2.1 ++ (ce_X10 kA q_this_tokens out.2.2.1 ++ (ce_X5 kA q_this_draft out.2.2.2))) := by
  refine mc_of (cc := cX7_readSlope) (maxL := 1) (ret := (some .boolean)) (by decide) rfl (Nat.le_of_ble_eq_true rfl) ?_
  intro p e s m below meth c A B hD hP hS ls hl
  obtain ⟨hx, hb, hr, hlk, hml, hown, hts, hK, hA, hnm⟩ := B
  have hown : s.vm.findClass RX7 = some m.cls := hown
  have hl : lv_has ls 1 [(0, .ref (q_this 0))] := hl
  have hUX5 : ∀ w ∈ u_ws RX5 TX5 10, w.before [.ref (q_this 0)].toArray s = true := fun w h => hts w (List.mem_cons_of_mem _ (List.mem_append_left _ (List.mem_append_right _ h)))
  have hUX7 : ∀ w ∈ u_ws RX7 TX7 8, w.before [.ref (q_this 0)].toArray s = true := fun w h => hts w (List.mem_cons_of_mem _ (List.mem_append_left _ (List.mem_append_left _ (List.mem_append_right _ h))))
  unfold ff_X7_readSlope at hf
  refine lv_aload_n hx hb dX7_readSlope_0 rfl (lv_at hl 0 rfl) ?_
  refine va_get (D := D) (ci := 6) (v := .int (os_I o_this 5)) (C := RX7) (T := TX7) (N := 8) hx hb hUX7 (fun _ h9 => h9) hown hK hP 0 rfl rfl 5 (by decide) (hts (Cond.fieldLink RX7 34 "ReliefBuilder$ReliefText" "hasSlope" "Z") (List.mem_of_getElem? (i := 1) rfl)) (fun _ h9 => h9) rfl dX7_readSlope_1 ?_
  refine lv_if_eq (tgt := 16) hx hb dX7_readSlope_4 (by decide) (fun hc_1 => ?_) (fun hc_1 => ?_)
  · rw [if_pos hc_1] at hf
    refine lv_aload_n hx hb dX7_readSlope_16 rfl (lv_at hl 0 rfl) ?_
    refine lv_iconst (v := 1) hx hb dX7_readSlope_17 (by decide) ?_
    refine va_put (D := D) (ci := 6) (v := .int (1 : Int32)) (ty := .boolean) (C := RX7) (T := TX7) (N := 8) hx hb hUX7 (fun _ h9 => h9) tyX7 tyX7_ok nmX7 hown hK hP hD hS 0 rfl rfl 5 (by decide) (hts (Cond.fieldLink RX7 34 "ReliefBuilder$ReliefText" "hasSlope" "Z") (List.mem_of_getElem? (i := 1) rfl)) (fun _ h9 => h9) rfl (tyX7_ok 5 (by decide)) rfl rfl (Nat.le_of_ble_eq_true rfl) dX7_readSlope_18 (fun H locs hP hD hS => ?_)
    have hP : va_P D vwCl (ce_X7 kA q_this q_this_tokens q_this_draft (ss_I o_this 5 (1 : Int32)) ++ (ce_X10 kA q_this_tokens o_this_tokens ++ (ce_X5 kA q_this_draft o_this_draft))) H := hP
    have hD : va_D A (ce_X7 kA q_this q_this_tokens q_this_draft (ss_I o_this 5 (1 : Int32)) ++ (ce_X10 kA q_this_tokens o_this_tokens ++ (ce_X5 kA q_this_draft o_this_draft))) := hD
    refine lv_aload_n hx hb dX7_readSlope_21 rfl (lv_at hl 0 rfl) ?_
    refine va_get (D := D) (ci := 6) (v := .ref (q_this_tokens 0)) (C := RX7) (T := TX7) (N := 8) hx hb hUX7 (fun _ h9 => h9) hown hK hP 0 rfl rfl 0 (by decide) (hts (Cond.fieldLink RX7 9 "ReliefBuilder$ReliefText" "tokens" "LReliefBuilder$Tokens;") (List.mem_of_getElem? (i := 2) rfl)) (fun _ h9 => h9) rfl dX7_readSlope_22 ?_
    obtain ⟨u_2, he_3, hf⟩ := os_bd hf
    refine mc_callV ⟨hx, hb, hml, hown, hts⟩ (mm_X10_advance l D kA N q_this_tokens o_this_tokens u_2 he_3) (cwV 0 hts gX7_readSlope_X10_advance rfl rfl rfl (by decide +kernel) ⟨Nat.le_of_ble_eq_true rfl, Nat.le_of_ble_eq_true rfl⟩) (wc := (ce_X10 kA q_this_tokens o_this_tokens)) (ci := 8) (q0 := 0) rfl rfl rfl hl.1 (As := []) (rest := []) rfl (Nat.le_of_ble_eq_true rfl) dX7_readSlope_25 ⟨Nat.le_of_ble_eq_true rfl, Nat.le_of_ble_eq_true rfl⟩ hK hP hD hS hA [1, 2, 3, 4, 5] [0, 6, 7, 8, 9] [0, 5, 6, 7, 8, 9, 1, 2, 3, 4] rfl (by decide) rfl (by decide) (by decide) rfl (by decide) (wr := (ce_X7 kA q_this q_this_tokens q_this_draft (ss_I o_this 5 (1 : Int32)) ++ (ce_X5 kA q_this_draft o_this_draft))) (w2 := (ce_X7 kA q_this q_this_tokens q_this_draft (ss_I o_this 5 (1 : Int32)) ++ (ce_X10 kA q_this_tokens u_2 ++ (ce_X5 kA q_this_draft o_this_draft)))) (fun H locs hP hD hS => ?_)
    have hP : va_P D vwCl (ce_X7 kA q_this q_this_tokens q_this_draft (ss_I o_this 5 (1 : Int32)) ++ (ce_X10 kA q_this_tokens u_2 ++ (ce_X5 kA q_this_draft o_this_draft))) H := hP
    refine lv_aload_n hx hb dX7_readSlope_28 rfl (lv_at hl 0 rfl) ?_
    refine va_get (D := D) (ci := 6) (v := .ref (q_this_draft 0)) (C := RX7) (T := TX7) (N := 8) hx hb hUX7 (fun _ h9 => h9) hown hK hP 0 rfl rfl 1 (by decide) (hts (Cond.fieldLink RX7 15 "ReliefBuilder$ReliefText" "draft" "LReliefBuilder$Panel;") (List.mem_of_getElem? (i := 3) rfl)) (fun _ h9 => h9) rfl dX7_readSlope_29 ?_
    refine lv_aload_n hx hb dX7_readSlope_32 rfl (lv_at hl 0 rfl) ?_
    refine va_get (D := D) (ci := 6) (v := .ref (q_this_tokens 0)) (C := RX7) (T := TX7) (N := 8) hx hb hUX7 (fun _ h9 => h9) hown hK hP 0 rfl rfl 0 (by decide) (hts (Cond.fieldLink RX7 9 "ReliefBuilder$ReliefText" "tokens" "LReliefBuilder$Tokens;") (List.mem_of_getElem? (i := 2) rfl)) (fun _ h9 => h9) rfl dX7_readSlope_33 ?_
    refine lv_iconst (v := 0) hx hb dX7_readSlope_36 (by decide) ?_
    refine lv_bipush (v := 9) hx hb dX7_readSlope_37 (by decide) ?_
    obtain ⟨u_4, he_5, hf⟩ := os_bd hf
    refine mc_callV ⟨hx, hb, hml, hown, hts⟩ (mm_X10_takeNumber l D kA N q_this_tokens u_2 (0 : Int32) (9 : Int32) u_4 he_5) (cwV 2 hts gX7_readSlope_X10_takeNumber rfl rfl rfl (by decide +kernel) ⟨Nat.le_of_ble_eq_true rfl, Nat.le_of_ble_eq_true rfl⟩) (wc := (ce_X10 kA q_this_tokens u_2)) (ci := 8) (q0 := 0) rfl rfl rfl hl.1 (As := [.int (0 : Int32), .int (9 : Int32)]) (rest := [.ref (q_this_draft 0)]) rfl (Nat.le_of_ble_eq_true rfl) dX7_readSlope_39 ⟨Nat.le_of_ble_eq_true rfl, Nat.le_of_ble_eq_true rfl⟩ hK hP hD hS hA [1, 2, 3, 4, 5] [0, 6, 7, 8, 9] [0, 5, 6, 7, 8, 9, 1, 2, 3, 4] rfl (by decide) rfl (by decide) (by decide) rfl (by decide) (wr := (ce_X7 kA q_this q_this_tokens q_this_draft (ss_I o_this 5 (1 : Int32)) ++ (ce_X5 kA q_this_draft o_this_draft))) (w2 := (ce_X7 kA q_this q_this_tokens q_this_draft (ss_I o_this 5 (1 : Int32)) ++ (ce_X10 kA q_this_tokens u_4.2 ++ (ce_X5 kA q_this_draft o_this_draft)))) (fun H locs hP hD hS => ?_)
    have hP : va_P D vwCl (ce_X7 kA q_this q_this_tokens q_this_draft (ss_I o_this 5 (1 : Int32)) ++ (ce_X10 kA q_this_tokens u_4.2 ++ (ce_X5 kA q_this_draft o_this_draft))) H := hP
    refine va_put (D := D) (ci := 4) (v := .int u_4.1) (ty := .int) (C := RX5) (T := TX5) (N := 10) hx hb hUX5 (fun _ h9 => h9) tyX5 tyX5_ok nmX5 hown hK hP hD hS 6 rfl rfl 6 (by decide) (hts (Cond.fieldLink RX7 125 "ReliefBuilder$Panel" "slope" "I") (List.mem_of_getElem? (i := 4) rfl)) (fun _ h9 => h9) rfl (tyX5_ok 6 (by decide)) rfl rfl (Nat.le_of_ble_eq_true rfl) dX7_readSlope_42 (fun H locs hP hD hS => ?_)
    have hP : va_P D vwCl (ce_X7 kA q_this q_this_tokens q_this_draft (ss_I o_this 5 (1 : Int32)) ++ (ce_X10 kA q_this_tokens u_4.2 ++ (ce_X5 kA q_this_draft (ss_I o_this_draft 6 u_4.1)))) H := hP
    have hD : va_D A (ce_X7 kA q_this q_this_tokens q_this_draft (ss_I o_this 5 (1 : Int32)) ++ (ce_X10 kA q_this_tokens u_4.2 ++ (ce_X5 kA q_this_draft (ss_I o_this_draft 6 u_4.1)))) := hD
    refine lv_aload_n hx hb dX7_readSlope_45 rfl (lv_at hl 0 rfl) ?_
    refine va_get (D := D) (ci := 6) (v := .ref (q_this_draft 0)) (C := RX7) (T := TX7) (N := 8) hx hb hUX7 (fun _ h9 => h9) hown hK hP 0 rfl rfl 1 (by decide) (hts (Cond.fieldLink RX7 15 "ReliefBuilder$ReliefText" "draft" "LReliefBuilder$Panel;") (List.mem_of_getElem? (i := 3) rfl)) (fun _ h9 => h9) rfl dX7_readSlope_46 ?_
    refine va_get (D := D) (ci := 4) (v := .int u_4.1) (C := RX5) (T := TX5) (N := 10) hx hb hUX5 (fun _ h9 => h9) hown hK hP 6 rfl rfl 6 (by decide) (hts (Cond.fieldLink RX7 125 "ReliefBuilder$Panel" "slope" "I") (List.mem_of_getElem? (i := 4) rfl)) (fun _ h9 => h9) rfl dX7_readSlope_49 ?_
    refine lv_iconst (v := (-1)) hx hb dX7_readSlope_52 (by decide) ?_
    refine lv_icmp_eq (tgt := 60) hx hb dX7_readSlope_53 (by decide) (fun hc_6 => ?_) (fun hc_6 => ?_)
    · rw [if_pos hc_6] at hf
      refine lv_iconst (v := 0) hx hb dX7_readSlope_60 (by decide) ?_
      rw [← Option.some.inj hf]
      exact mc_retz (v := 0) hx hb hr rfl hlk hP hK hD hS dX7_readSlope_61
    · rw [if_neg hc_6] at hf
      refine lv_iconst (v := 1) hx hb dX7_readSlope_56 (by decide) ?_
      refine lv_goto (tgt := 61) hx hb dX7_readSlope_57 (by decide) ?_
      rw [← Option.some.inj hf]
      exact mc_retz (v := 1) hx hb hr rfl hlk hP hK hD hS dX7_readSlope_61
  · rw [if_neg hc_1] at hf
    refine lv_aload_n hx hb dX7_readSlope_7 rfl (lv_at hl 0 rfl) ?_
    refine va_get (D := D) (ci := 6) (v := .ref (q_this_tokens 0)) (C := RX7) (T := TX7) (N := 8) hx hb hUX7 (fun _ h9 => h9) hown hK hP 0 rfl rfl 0 (by decide) (hts (Cond.fieldLink RX7 9 "ReliefBuilder$ReliefText" "tokens" "LReliefBuilder$Tokens;") (List.mem_of_getElem? (i := 2) rfl)) (fun _ h9 => h9) rfl dX7_readSlope_8 ?_
    refine lv_iconst (v := 3) hx hb dX7_readSlope_11 (by decide) ?_
    obtain ⟨u_7, he_8, hf⟩ := os_bd hf
    refine mc_callV ⟨hx, hb, hml, hown, hts⟩ (mm_X10_fail l D kA N q_this_tokens o_this_tokens (3 : Int32) u_7 he_8) (cwV 1 hts gX7_readSlope_X10_fail rfl rfl rfl (by decide +kernel) ⟨Nat.le_of_ble_eq_true rfl, Nat.le_of_ble_eq_true rfl⟩) (wc := (ce_X10 kA q_this_tokens o_this_tokens)) (ci := 8) (q0 := 0) rfl rfl rfl hl.1 (As := [.int (3 : Int32)]) (rest := []) rfl (Nat.le_of_ble_eq_true rfl) dX7_readSlope_12 ⟨Nat.le_of_ble_eq_true rfl, Nat.le_of_ble_eq_true rfl⟩ hK hP hD hS hA [1, 2, 3, 4, 5] [0, 6, 7, 8, 9] [0, 5, 6, 7, 8, 9, 1, 2, 3, 4] rfl (by decide) rfl (by decide) (by decide) rfl (by decide) (wr := (ce_X7 kA q_this q_this_tokens q_this_draft o_this ++ (ce_X5 kA q_this_draft o_this_draft))) (w2 := (ce_X7 kA q_this q_this_tokens q_this_draft o_this ++ (ce_X10 kA q_this_tokens u_7.2 ++ (ce_X5 kA q_this_draft o_this_draft)))) (fun H locs hP hD hS => ?_)
    have hP : va_P D vwCl (ce_X7 kA q_this q_this_tokens q_this_draft o_this ++ (ce_X10 kA q_this_tokens u_7.2 ++ (ce_X5 kA q_this_draft o_this_draft))) H := hP
    obtain ⟨hz_9, hf⟩ := os_if hf
    rw [← Option.some.inj hf]
    exact mc_retz hx hb hr (os_z_n hz_9) hlk hP hK hD hS dX7_readSlope_15
def ff_X7_readSteps (N : Nat) (o_this : os_T) (o_this_tokens : os_T) (o_this_draft : os_T) : Option (Nat × Int32 × os_T × os_T × os_T) :=
  (if (os_I o_this 3) = 0 then ((ff_X10_advance N o_this_tokens).bind fun u_2 => ((ff_X10_takeNumber N u_2 (1 : Int32) (20 : Int32)).bind fun u_4 => (if u_4.1 = (-1 : Int32) then some (0, (0 : Int32), ss_I o_this 3 (1 : Int32), u_4.2, ss_I o_this_draft 2 u_4.1) else ((ff_X10_takeWord N u_4.2 5).bind fun u_7 => (if u_7.1 = 0 then (if u_7.2.1 = 0 then some (0, (0 : Int32), ss_I o_this 3 (1 : Int32), u_7.2.2, ss_I o_this_draft 2 u_4.1) else ((ff_X10_takeNumber N u_7.2.2 (10 : Int32) (99 : Int32)).bind fun u_10 => (if u_10.1 = (-1 : Int32) then some (0, (0 : Int32), ss_I o_this 3 (1 : Int32), u_10.2, ss_I (ss_I o_this_draft 2 u_4.1) 3 u_10.1) else ((ff_X10_takeWord N u_10.2 6).bind fun u_13 => (if u_13.1 = 0 then (if u_13.2.1 = 0 then some (0, (0 : Int32), ss_I o_this 3 (1 : Int32), u_13.2.2, ss_I (ss_I o_this_draft 2 u_4.1) 3 u_10.1) else ((ff_X10_takeNumber N u_13.2.2 (0 : Int32) u_4.1).bind fun u_16 => (if u_16.1 = (-1 : Int32) then some (0, (0 : Int32), ss_I o_this 3 (1 : Int32), u_16.2, ss_I (ss_I (ss_I o_this_draft 2 u_4.1) 3 u_10.1) 4 u_16.1) else some (0, (1 : Int32), ss_I o_this 3 (1 : Int32), u_16.2, ss_I (ss_I (ss_I o_this_draft 2 u_4.1) 3 u_10.1) 4 u_16.1)))) else some (u_13.1, (0 : Int32), ss_I o_this 3 (1 : Int32), u_13.2.2, ss_I (ss_I o_this_draft 2 u_4.1) 3 u_10.1)))))) else some (u_7.1, (0 : Int32), ss_I o_this 3 (1 : Int32), u_7.2.2, ss_I o_this_draft 2 u_4.1)))))) else ((ff_X10_fail N o_this_tokens (3 : Int32)).bind fun u_19 => (if os_z u_19.1 then some (0, u_19.1, o_this, u_19.2, o_this_draft) else none)))
set_option maxHeartbeats 4000000 in
set_option maxRecDepth 100000 in
theorem mm_X7_readSteps (l : Launch) (hst : l.stackTraces = false) (zz : Nat → Nat → Nat) (D : va_G) (kA : Nat → ClassId) (N : Nat) (q_this : Nat → Nat) (q_this_tokens : Nat → Nat) (q_this_draft : Nat → Nat) (o_this : os_T) (o_this_tokens : os_T) (o_this_draft : os_T) (out : (Nat × Int32 × os_T × os_T × os_T)) (hf : ff_X7_readSteps N o_this o_this_tokens o_this_draft = some out) : mx_C l zz D kA yX7_readSteps wsX7_readSteps ({ frames := 6, cells := 0, slots := 0, locals := 128 } : Room) [.ref (q_this 0)] (ce_X7 kA q_this q_this_tokens q_this_draft o_this ++ (ce_X10 kA q_this_tokens o_this_tokens ++ (ce_X5 kA q_this_draft o_this_draft))) out.1 (some (.int out.2.1)) (ce_X7 kA q_this q_this_tokens q_this_draft out.2.2.1 ++ (ce_X10 kA q_this_tokens out.2.2.2.1 ++ (ce_X5 kA q_this_draft out.2.2.2.2))) := by
  refine mx_of (cc := cX7_readSteps) (maxL := 1) (ret := (some .boolean)) (by decide) rfl (Nat.le_of_ble_eq_true rfl) ?_
  intro p e s m below meth c A B hx0 hZ hD hP hS ls hl
  obtain ⟨hx, hb, hr, hlk, hml, hown, hts, hK, hA, hnm⟩ := B
  have hown : s.vm.findClass RX7 = some m.cls := hown
  have hl : lv_has ls 1 [(0, .ref (q_this 0))] := hl
  have hUX5 : ∀ w ∈ u_ws RX5 TX5 10, w.before [.ref (q_this 0)].toArray s = true := fun w h => hts w (List.mem_cons_of_mem _ (List.mem_append_left _ (List.mem_append_left _ (List.mem_append_right _ h))))
  have hUX7 : ∀ w ∈ u_ws RX7 TX7 8, w.before [.ref (q_this 0)].toArray s = true := fun w h => hts w (List.mem_cons_of_mem _ (List.mem_append_left _ (List.mem_append_left _ (List.mem_append_left _ (List.mem_append_right _ h)))))
  unfold ff_X7_readSteps at hf
  refine lv_aload_n hx hb dX7_readSteps_0 rfl (lv_at hl 0 rfl) ?_
  refine va_get (D := D) (ci := 6) (v := .int (os_I o_this 3)) (C := RX7) (T := TX7) (N := 8) hx hb hUX7 (fun _ h9 => h9) hown hK hP 0 rfl rfl 3 (by decide) (hts (Cond.fieldLink RX7 28 "ReliefBuilder$ReliefText" "hasSteps" "Z") (List.mem_of_getElem? (i := 1) rfl)) (fun _ h9 => h9) rfl dX7_readSteps_1 ?_
  refine lv_if_eq (tgt := 16) hx hb dX7_readSteps_4 (by decide) (fun hc_1 => ?_) (fun hc_1 => ?_)
  · rw [if_pos hc_1] at hf
    refine lv_aload_n hx hb dX7_readSteps_16 rfl (lv_at hl 0 rfl) ?_
    refine lv_iconst (v := 1) hx hb dX7_readSteps_17 (by decide) ?_
    refine va_put (D := D) (ci := 6) (v := .int (1 : Int32)) (ty := .boolean) (C := RX7) (T := TX7) (N := 8) hx hb hUX7 (fun _ h9 => h9) tyX7 tyX7_ok nmX7 hown hK hP hD hS 0 rfl rfl 3 (by decide) (hts (Cond.fieldLink RX7 28 "ReliefBuilder$ReliefText" "hasSteps" "Z") (List.mem_of_getElem? (i := 1) rfl)) (fun _ h9 => h9) rfl (tyX7_ok 3 (by decide)) rfl rfl (Nat.le_of_ble_eq_true rfl) dX7_readSteps_18 (fun H locs hP hD hS => ?_)
    have hP : va_P D vwCl (ce_X7 kA q_this q_this_tokens q_this_draft (ss_I o_this 3 (1 : Int32)) ++ (ce_X10 kA q_this_tokens o_this_tokens ++ (ce_X5 kA q_this_draft o_this_draft))) H := hP
    have hD : va_D A (ce_X7 kA q_this q_this_tokens q_this_draft (ss_I o_this 3 (1 : Int32)) ++ (ce_X10 kA q_this_tokens o_this_tokens ++ (ce_X5 kA q_this_draft o_this_draft))) := hD
    refine lv_aload_n hx hb dX7_readSteps_21 rfl (lv_at hl 0 rfl) ?_
    refine va_get (D := D) (ci := 6) (v := .ref (q_this_tokens 0)) (C := RX7) (T := TX7) (N := 8) hx hb hUX7 (fun _ h9 => h9) hown hK hP 0 rfl rfl 0 (by decide) (hts (Cond.fieldLink RX7 9 "ReliefBuilder$ReliefText" "tokens" "LReliefBuilder$Tokens;") (List.mem_of_getElem? (i := 2) rfl)) (fun _ h9 => h9) rfl dX7_readSteps_22 ?_
    obtain ⟨u_2, he_3, hf⟩ := os_bd hf
    refine mc_callV ⟨hx, hb, hml, hown, hts⟩ (mm_X10_advance l D kA N q_this_tokens o_this_tokens u_2 he_3) (cwV 0 hts gX7_readSteps_X10_advance rfl rfl rfl (by decide +kernel) ⟨Nat.le_of_ble_eq_true rfl, Nat.le_of_ble_eq_true rfl⟩) (wc := (ce_X10 kA q_this_tokens o_this_tokens)) (ci := 8) (q0 := 0) rfl rfl rfl hl.1 (As := []) (rest := []) rfl (Nat.le_of_ble_eq_true rfl) dX7_readSteps_25 ⟨Nat.le_of_ble_eq_true rfl, Nat.le_of_ble_eq_true rfl⟩ hK hP hD hS hA [1, 2, 3, 4, 5] [0, 6, 7, 8, 9] [0, 5, 6, 7, 8, 9, 1, 2, 3, 4] rfl (by decide) rfl (by decide) (by decide) rfl (by decide) (wr := (ce_X7 kA q_this q_this_tokens q_this_draft (ss_I o_this 3 (1 : Int32)) ++ (ce_X5 kA q_this_draft o_this_draft))) (w2 := (ce_X7 kA q_this q_this_tokens q_this_draft (ss_I o_this 3 (1 : Int32)) ++ (ce_X10 kA q_this_tokens u_2 ++ (ce_X5 kA q_this_draft o_this_draft)))) (fun H locs hP hD hS => ?_)
    have hP : va_P D vwCl (ce_X7 kA q_this q_this_tokens q_this_draft (ss_I o_this 3 (1 : Int32)) ++ (ce_X10 kA q_this_tokens u_2 ++ (ce_X5 kA q_this_draft o_this_draft))) H := hP
    refine lv_aload_n hx hb dX7_readSteps_28 rfl (lv_at hl 0 rfl) ?_
    refine va_get (D := D) (ci := 6) (v := .ref (q_this_draft 0)) (C := RX7) (T := TX7) (N := 8) hx hb hUX7 (fun _ h9 => h9) hown hK hP 0 rfl rfl 1 (by decide) (hts (Cond.fieldLink RX7 15 "ReliefBuilder$ReliefText" "draft" "LReliefBuilder$Panel;") (List.mem_of_getElem? (i := 3) rfl)) (fun _ h9 => h9) rfl dX7_readSteps_29 ?_
    refine lv_aload_n hx hb dX7_readSteps_32 rfl (lv_at hl 0 rfl) ?_
    refine va_get (D := D) (ci := 6) (v := .ref (q_this_tokens 0)) (C := RX7) (T := TX7) (N := 8) hx hb hUX7 (fun _ h9 => h9) hown hK hP 0 rfl rfl 0 (by decide) (hts (Cond.fieldLink RX7 9 "ReliefBuilder$ReliefText" "tokens" "LReliefBuilder$Tokens;") (List.mem_of_getElem? (i := 2) rfl)) (fun _ h9 => h9) rfl dX7_readSteps_33 ?_
    refine lv_iconst (v := 1) hx hb dX7_readSteps_36 (by decide) ?_
    refine lv_bipush (v := 20) hx hb dX7_readSteps_37 (by decide) ?_
    obtain ⟨u_4, he_5, hf⟩ := os_bd hf
    refine mc_callV ⟨hx, hb, hml, hown, hts⟩ (mm_X10_takeNumber l D kA N q_this_tokens u_2 (1 : Int32) (20 : Int32) u_4 he_5) (cwV 2 hts gX7_readSteps_X10_takeNumber rfl rfl rfl (by decide +kernel) ⟨Nat.le_of_ble_eq_true rfl, Nat.le_of_ble_eq_true rfl⟩) (wc := (ce_X10 kA q_this_tokens u_2)) (ci := 8) (q0 := 0) rfl rfl rfl hl.1 (As := [.int (1 : Int32), .int (20 : Int32)]) (rest := [.ref (q_this_draft 0)]) rfl (Nat.le_of_ble_eq_true rfl) dX7_readSteps_39 ⟨Nat.le_of_ble_eq_true rfl, Nat.le_of_ble_eq_true rfl⟩ hK hP hD hS hA [1, 2, 3, 4, 5] [0, 6, 7, 8, 9] [0, 5, 6, 7, 8, 9, 1, 2, 3, 4] rfl (by decide) rfl (by decide) (by decide) rfl (by decide) (wr := (ce_X7 kA q_this q_this_tokens q_this_draft (ss_I o_this 3 (1 : Int32)) ++ (ce_X5 kA q_this_draft o_this_draft))) (w2 := (ce_X7 kA q_this q_this_tokens q_this_draft (ss_I o_this 3 (1 : Int32)) ++ (ce_X10 kA q_this_tokens u_4.2 ++ (ce_X5 kA q_this_draft o_this_draft)))) (fun H locs hP hD hS => ?_)
    have hP : va_P D vwCl (ce_X7 kA q_this q_this_tokens q_this_draft (ss_I o_this 3 (1 : Int32)) ++ (ce_X10 kA q_this_tokens u_4.2 ++ (ce_X5 kA q_this_draft o_this_draft))) H := hP
    refine va_put (D := D) (ci := 4) (v := .int u_4.1) (ty := .int) (C := RX5) (T := TX5) (N := 10) hx hb hUX5 (fun _ h9 => h9) tyX5 tyX5_ok nmX5 hown hK hP hD hS 6 rfl rfl 2 (by decide) (hts (Cond.fieldLink RX7 109 "ReliefBuilder$Panel" "greatest" "I") (List.mem_of_getElem? (i := 4) rfl)) (fun _ h9 => h9) rfl (tyX5_ok 2 (by decide)) rfl rfl (Nat.le_of_ble_eq_true rfl) dX7_readSteps_42 (fun H locs hP hD hS => ?_)
    have hP : va_P D vwCl (ce_X7 kA q_this q_this_tokens q_this_draft (ss_I o_this 3 (1 : Int32)) ++ (ce_X10 kA q_this_tokens u_4.2 ++ (ce_X5 kA q_this_draft (ss_I o_this_draft 2 u_4.1)))) H := hP
    have hD : va_D A (ce_X7 kA q_this q_this_tokens q_this_draft (ss_I o_this 3 (1 : Int32)) ++ (ce_X10 kA q_this_tokens u_4.2 ++ (ce_X5 kA q_this_draft (ss_I o_this_draft 2 u_4.1)))) := hD
    refine lv_aload_n hx hb dX7_readSteps_45 rfl (lv_at hl 0 rfl) ?_
    refine va_get (D := D) (ci := 6) (v := .ref (q_this_draft 0)) (C := RX7) (T := TX7) (N := 8) hx hb hUX7 (fun _ h9 => h9) hown hK hP 0 rfl rfl 1 (by decide) (hts (Cond.fieldLink RX7 15 "ReliefBuilder$ReliefText" "draft" "LReliefBuilder$Panel;") (List.mem_of_getElem? (i := 3) rfl)) (fun _ h9 => h9) rfl dX7_readSteps_46 ?_
    refine va_get (D := D) (ci := 4) (v := .int u_4.1) (C := RX5) (T := TX5) (N := 10) hx hb hUX5 (fun _ h9 => h9) hown hK hP 6 rfl rfl 2 (by decide) (hts (Cond.fieldLink RX7 109 "ReliefBuilder$Panel" "greatest" "I") (List.mem_of_getElem? (i := 4) rfl)) (fun _ h9 => h9) rfl dX7_readSteps_49 ?_
    refine lv_iconst (v := (-1)) hx hb dX7_readSteps_52 (by decide) ?_
    refine lv_icmp_eq (tgt := 68) hx hb dX7_readSteps_53 (by decide) (fun hc_6 => ?_) (fun hc_6 => ?_)
    · rw [if_pos hc_6] at hf
      refine lv_iconst (v := 0) hx hb dX7_readSteps_68 (by decide) ?_
      rw [← Option.some.inj hf]
      exact mx_retz (v := 0) (Nat.le_of_ble_eq_true rfl) (Nat.le_of_ble_eq_true rfl) hx hb hr rfl hlk hP hK hD hS dX7_readSteps_69
    · rw [if_neg hc_6] at hf
      refine lv_aload_n hx hb dX7_readSteps_56 rfl (lv_at hl 0 rfl) ?_
      refine va_get (D := D) (ci := 6) (v := .ref (q_this_tokens 0)) (C := RX7) (T := TX7) (N := 8) hx hb hUX7 (fun _ h9 => h9) hown hK hP 0 rfl rfl 0 (by decide) (hts (Cond.fieldLink RX7 9 "ReliefBuilder$ReliefText" "tokens" "LReliefBuilder$Tokens;") (List.mem_of_getElem? (i := 2) rfl)) (fun _ h9 => h9) rfl dX7_readSteps_57 ?_
      refine va_ldcS hx hb hown (hZ.2.2.2.2.2.2.1 5 (by decide)) dX7_readSteps_60 ?_
      obtain ⟨u_7, he_8, hf⟩ := os_bd hf
      refine mx_callV ⟨hx, hb, hml, hown, hts⟩ (mm_X10_takeWord l hst zz D kA N q_this_tokens u_4.2 5 u_7 he_8) (cwV 1 hts gX7_readSteps_X10_takeWord rfl rfl rfl (by decide +kernel) ⟨Nat.le_of_ble_eq_true rfl, Nat.le_of_ble_eq_true rfl⟩) (wc := (ce_X10 kA q_this_tokens u_4.2)) (ci := 8) (q0 := 0) rfl rfl rfl hl.1 (As := [.ref (zz 0 5)]) (rest := []) rfl (Nat.le_of_ble_eq_true rfl) dX7_readSteps_62 ⟨Nat.le_of_ble_eq_true rfl, Nat.le_of_ble_eq_true rfl⟩ hK hP hD hS hA hZ [1, 2, 3, 4, 5] [0, 6, 7, 8, 9] [0, 5, 6, 7, 8, 9, 1, 2, 3, 4] rfl (by decide) rfl (by decide) (by decide) rfl (by decide) (wr := (ce_X7 kA q_this q_this_tokens q_this_draft (ss_I o_this 3 (1 : Int32)) ++ (ce_X5 kA q_this_draft (ss_I o_this_draft 2 u_4.1)))) (w2 := (ce_X7 kA q_this q_this_tokens q_this_draft (ss_I o_this 3 (1 : Int32)) ++ (ce_X10 kA q_this_tokens u_7.2.2 ++ (ce_X5 kA q_this_draft (ss_I o_this_draft 2 u_4.1))))) (fun hx9 H locs q9 ce hP hD hS h91 h92 h93 => ?_) (fun hx9 H locs hP hD hS => ?_)
      · rw [if_neg hx9] at hf
        rw [← Option.some.inj hf]
        exact mx_out hx9 hx0 hlk hP hK hD hS h91 h92 h93 (Nat.le_of_ble_eq_true rfl) (Nat.le_of_ble_eq_true rfl)
      · rw [if_pos hx9] at hf
        refine W.widen (k := 0) (n := 0) (Nat.le_of_ble_eq_true rfl) (Nat.le_of_ble_eq_true rfl) ?_
        have hP : va_P D vwCl (ce_X7 kA q_this q_this_tokens q_this_draft (ss_I o_this 3 (1 : Int32)) ++ (ce_X10 kA q_this_tokens u_7.2.2 ++ (ce_X5 kA q_this_draft (ss_I o_this_draft 2 u_4.1)))) H := hP
        refine lv_if_ne (tgt := 70) hx hb dX7_readSteps_65 (by decide) (fun hc_9 => ?_) (fun hc_9 => ?_)
        · rw [if_neg hc_9] at hf
          refine lv_aload_n hx hb dX7_readSteps_70 rfl (lv_at hl 0 rfl) ?_
          refine va_get (D := D) (ci := 6) (v := .ref (q_this_draft 0)) (C := RX7) (T := TX7) (N := 8) hx hb hUX7 (fun _ h9 => h9) hown hK hP 0 rfl rfl 1 (by decide) (hts (Cond.fieldLink RX7 15 "ReliefBuilder$ReliefText" "draft" "LReliefBuilder$Panel;") (List.mem_of_getElem? (i := 3) rfl)) (fun _ h9 => h9) rfl dX7_readSteps_71 ?_
          refine lv_aload_n hx hb dX7_readSteps_74 rfl (lv_at hl 0 rfl) ?_
          refine va_get (D := D) (ci := 6) (v := .ref (q_this_tokens 0)) (C := RX7) (T := TX7) (N := 8) hx hb hUX7 (fun _ h9 => h9) hown hK hP 0 rfl rfl 0 (by decide) (hts (Cond.fieldLink RX7 9 "ReliefBuilder$ReliefText" "tokens" "LReliefBuilder$Tokens;") (List.mem_of_getElem? (i := 2) rfl)) (fun _ h9 => h9) rfl dX7_readSteps_75 ?_
          refine lv_bipush (v := 10) hx hb dX7_readSteps_78 (by decide) ?_
          refine lv_bipush (v := 99) hx hb dX7_readSteps_80 (by decide) ?_
          obtain ⟨u_10, he_11, hf⟩ := os_bd hf
          refine mc_callV ⟨hx, hb, hml, hown, hts⟩ (mm_X10_takeNumber l D kA N q_this_tokens u_7.2.2 (10 : Int32) (99 : Int32) u_10 he_11) (cwV 2 hts gX7_readSteps_X10_takeNumber rfl rfl rfl (by decide +kernel) ⟨Nat.le_of_ble_eq_true rfl, Nat.le_of_ble_eq_true rfl⟩) (wc := (ce_X10 kA q_this_tokens u_7.2.2)) (ci := 8) (q0 := 0) rfl rfl rfl hl.1 (As := [.int (10 : Int32), .int (99 : Int32)]) (rest := [.ref (q_this_draft 0)]) rfl (Nat.le_of_ble_eq_true rfl) dX7_readSteps_82 ⟨Nat.le_of_ble_eq_true rfl, Nat.le_of_ble_eq_true rfl⟩ hK hP hD hS hA [1, 2, 3, 4, 5] [0, 6, 7, 8, 9] [0, 5, 6, 7, 8, 9, 1, 2, 3, 4] rfl (by decide) rfl (by decide) (by decide) rfl (by decide) (wr := (ce_X7 kA q_this q_this_tokens q_this_draft (ss_I o_this 3 (1 : Int32)) ++ (ce_X5 kA q_this_draft (ss_I o_this_draft 2 u_4.1)))) (w2 := (ce_X7 kA q_this q_this_tokens q_this_draft (ss_I o_this 3 (1 : Int32)) ++ (ce_X10 kA q_this_tokens u_10.2 ++ (ce_X5 kA q_this_draft (ss_I o_this_draft 2 u_4.1))))) (fun H locs hP hD hS => ?_)
          have hP : va_P D vwCl (ce_X7 kA q_this q_this_tokens q_this_draft (ss_I o_this 3 (1 : Int32)) ++ (ce_X10 kA q_this_tokens u_10.2 ++ (ce_X5 kA q_this_draft (ss_I o_this_draft 2 u_4.1)))) H := hP
          refine va_put (D := D) (ci := 4) (v := .int u_10.1) (ty := .int) (C := RX5) (T := TX5) (N := 10) hx hb hUX5 (fun _ h9 => h9) tyX5 tyX5_ok nmX5 hown hK hP hD hS 6 rfl rfl 3 (by decide) (hts (Cond.fieldLink RX7 117 "ReliefBuilder$Panel" "glass" "I") (List.mem_of_getElem? (i := 5) rfl)) (fun _ h9 => h9) rfl (tyX5_ok 3 (by decide)) rfl rfl (Nat.le_of_ble_eq_true rfl) dX7_readSteps_85 (fun H locs hP hD hS => ?_)
          have hP : va_P D vwCl (ce_X7 kA q_this q_this_tokens q_this_draft (ss_I o_this 3 (1 : Int32)) ++ (ce_X10 kA q_this_tokens u_10.2 ++ (ce_X5 kA q_this_draft (ss_I (ss_I o_this_draft 2 u_4.1) 3 u_10.1)))) H := hP
          have hD : va_D A (ce_X7 kA q_this q_this_tokens q_this_draft (ss_I o_this 3 (1 : Int32)) ++ (ce_X10 kA q_this_tokens u_10.2 ++ (ce_X5 kA q_this_draft (ss_I (ss_I o_this_draft 2 u_4.1) 3 u_10.1)))) := hD
          refine lv_aload_n hx hb dX7_readSteps_88 rfl (lv_at hl 0 rfl) ?_
          refine va_get (D := D) (ci := 6) (v := .ref (q_this_draft 0)) (C := RX7) (T := TX7) (N := 8) hx hb hUX7 (fun _ h9 => h9) hown hK hP 0 rfl rfl 1 (by decide) (hts (Cond.fieldLink RX7 15 "ReliefBuilder$ReliefText" "draft" "LReliefBuilder$Panel;") (List.mem_of_getElem? (i := 3) rfl)) (fun _ h9 => h9) rfl dX7_readSteps_89 ?_
          refine va_get (D := D) (ci := 4) (v := .int u_10.1) (C := RX5) (T := TX5) (N := 10) hx hb hUX5 (fun _ h9 => h9) hown hK hP 6 rfl rfl 3 (by decide) (hts (Cond.fieldLink RX7 117 "ReliefBuilder$Panel" "glass" "I") (List.mem_of_getElem? (i := 5) rfl)) (fun _ h9 => h9) rfl dX7_readSteps_92 ?_
          refine lv_iconst (v := (-1)) hx hb dX7_readSteps_95 (by decide) ?_
          refine lv_icmp_eq (tgt := 111) hx hb dX7_readSteps_96 (by decide) (fun hc_12 => ?_) (fun hc_12 => ?_)
          · rw [if_pos hc_12] at hf
            refine lv_iconst (v := 0) hx hb dX7_readSteps_111 (by decide) ?_
            rw [← Option.some.inj hf]
            exact mx_retz (v := 0) (Nat.le_of_ble_eq_true rfl) (Nat.le_of_ble_eq_true rfl) hx hb hr rfl hlk hP hK hD hS dX7_readSteps_112
          · rw [if_neg hc_12] at hf
            refine lv_aload_n hx hb dX7_readSteps_99 rfl (lv_at hl 0 rfl) ?_
            refine va_get (D := D) (ci := 6) (v := .ref (q_this_tokens 0)) (C := RX7) (T := TX7) (N := 8) hx hb hUX7 (fun _ h9 => h9) hown hK hP 0 rfl rfl 0 (by decide) (hts (Cond.fieldLink RX7 9 "ReliefBuilder$ReliefText" "tokens" "LReliefBuilder$Tokens;") (List.mem_of_getElem? (i := 2) rfl)) (fun _ h9 => h9) rfl dX7_readSteps_100 ?_
            refine va_ldcS hx hb hown (hZ.2.2.2.2.2.2.1 6 (by decide)) dX7_readSteps_103 ?_
            obtain ⟨u_13, he_14, hf⟩ := os_bd hf
            refine mx_callV ⟨hx, hb, hml, hown, hts⟩ (mm_X10_takeWord l hst zz D kA N q_this_tokens u_10.2 6 u_13 he_14) (cwV 1 hts gX7_readSteps_X10_takeWord rfl rfl rfl (by decide +kernel) ⟨Nat.le_of_ble_eq_true rfl, Nat.le_of_ble_eq_true rfl⟩) (wc := (ce_X10 kA q_this_tokens u_10.2)) (ci := 8) (q0 := 0) rfl rfl rfl hl.1 (As := [.ref (zz 0 6)]) (rest := []) rfl (Nat.le_of_ble_eq_true rfl) dX7_readSteps_105 ⟨Nat.le_of_ble_eq_true rfl, Nat.le_of_ble_eq_true rfl⟩ hK hP hD hS hA hZ [1, 2, 3, 4, 5] [0, 6, 7, 8, 9] [0, 5, 6, 7, 8, 9, 1, 2, 3, 4] rfl (by decide) rfl (by decide) (by decide) rfl (by decide) (wr := (ce_X7 kA q_this q_this_tokens q_this_draft (ss_I o_this 3 (1 : Int32)) ++ (ce_X5 kA q_this_draft (ss_I (ss_I o_this_draft 2 u_4.1) 3 u_10.1)))) (w2 := (ce_X7 kA q_this q_this_tokens q_this_draft (ss_I o_this 3 (1 : Int32)) ++ (ce_X10 kA q_this_tokens u_13.2.2 ++ (ce_X5 kA q_this_draft (ss_I (ss_I o_this_draft 2 u_4.1) 3 u_10.1))))) (fun hx9 H locs q9 ce hP hD hS h91 h92 h93 => ?_) (fun hx9 H locs hP hD hS => ?_)
            · rw [if_neg hx9] at hf
              rw [← Option.some.inj hf]
              exact mx_out hx9 hx0 hlk hP hK hD hS h91 h92 h93 (Nat.le_of_ble_eq_true rfl) (Nat.le_of_ble_eq_true rfl)
            · rw [if_pos hx9] at hf
              refine W.widen (k := 0) (n := 0) (Nat.le_of_ble_eq_true rfl) (Nat.le_of_ble_eq_true rfl) ?_
              have hP : va_P D vwCl (ce_X7 kA q_this q_this_tokens q_this_draft (ss_I o_this 3 (1 : Int32)) ++ (ce_X10 kA q_this_tokens u_13.2.2 ++ (ce_X5 kA q_this_draft (ss_I (ss_I o_this_draft 2 u_4.1) 3 u_10.1)))) H := hP
              refine lv_if_ne (tgt := 113) hx hb dX7_readSteps_108 (by decide) (fun hc_15 => ?_) (fun hc_15 => ?_)
              · rw [if_neg hc_15] at hf
                refine lv_aload_n hx hb dX7_readSteps_113 rfl (lv_at hl 0 rfl) ?_
                refine va_get (D := D) (ci := 6) (v := .ref (q_this_draft 0)) (C := RX7) (T := TX7) (N := 8) hx hb hUX7 (fun _ h9 => h9) hown hK hP 0 rfl rfl 1 (by decide) (hts (Cond.fieldLink RX7 15 "ReliefBuilder$ReliefText" "draft" "LReliefBuilder$Panel;") (List.mem_of_getElem? (i := 3) rfl)) (fun _ h9 => h9) rfl dX7_readSteps_114 ?_
                refine lv_aload_n hx hb dX7_readSteps_117 rfl (lv_at hl 0 rfl) ?_
                refine va_get (D := D) (ci := 6) (v := .ref (q_this_tokens 0)) (C := RX7) (T := TX7) (N := 8) hx hb hUX7 (fun _ h9 => h9) hown hK hP 0 rfl rfl 0 (by decide) (hts (Cond.fieldLink RX7 9 "ReliefBuilder$ReliefText" "tokens" "LReliefBuilder$Tokens;") (List.mem_of_getElem? (i := 2) rfl)) (fun _ h9 => h9) rfl dX7_readSteps_118 ?_
                refine lv_iconst (v := 0) hx hb dX7_readSteps_121 (by decide) ?_
                refine lv_aload_n hx hb dX7_readSteps_122 rfl (lv_at hl 0 rfl) ?_
                refine va_get (D := D) (ci := 6) (v := .ref (q_this_draft 0)) (C := RX7) (T := TX7) (N := 8) hx hb hUX7 (fun _ h9 => h9) hown hK hP 0 rfl rfl 1 (by decide) (hts (Cond.fieldLink RX7 15 "ReliefBuilder$ReliefText" "draft" "LReliefBuilder$Panel;") (List.mem_of_getElem? (i := 3) rfl)) (fun _ h9 => h9) rfl dX7_readSteps_123 ?_
                refine va_get (D := D) (ci := 4) (v := .int u_4.1) (C := RX5) (T := TX5) (N := 10) hx hb hUX5 (fun _ h9 => h9) hown hK hP 6 rfl rfl 2 (by decide) (hts (Cond.fieldLink RX7 109 "ReliefBuilder$Panel" "greatest" "I") (List.mem_of_getElem? (i := 4) rfl)) (fun _ h9 => h9) rfl dX7_readSteps_126 ?_
                obtain ⟨u_16, he_17, hf⟩ := os_bd hf
                refine mc_callV ⟨hx, hb, hml, hown, hts⟩ (mm_X10_takeNumber l D kA N q_this_tokens u_13.2.2 (0 : Int32) u_4.1 u_16 he_17) (cwV 2 hts gX7_readSteps_X10_takeNumber rfl rfl rfl (by decide +kernel) ⟨Nat.le_of_ble_eq_true rfl, Nat.le_of_ble_eq_true rfl⟩) (wc := (ce_X10 kA q_this_tokens u_13.2.2)) (ci := 8) (q0 := 0) rfl rfl rfl hl.1 (As := [.int (0 : Int32), .int u_4.1]) (rest := [.ref (q_this_draft 0)]) rfl (Nat.le_of_ble_eq_true rfl) dX7_readSteps_129 ⟨Nat.le_of_ble_eq_true rfl, Nat.le_of_ble_eq_true rfl⟩ hK hP hD hS hA [1, 2, 3, 4, 5] [0, 6, 7, 8, 9] [0, 5, 6, 7, 8, 9, 1, 2, 3, 4] rfl (by decide) rfl (by decide) (by decide) rfl (by decide) (wr := (ce_X7 kA q_this q_this_tokens q_this_draft (ss_I o_this 3 (1 : Int32)) ++ (ce_X5 kA q_this_draft (ss_I (ss_I o_this_draft 2 u_4.1) 3 u_10.1)))) (w2 := (ce_X7 kA q_this q_this_tokens q_this_draft (ss_I o_this 3 (1 : Int32)) ++ (ce_X10 kA q_this_tokens u_16.2 ++ (ce_X5 kA q_this_draft (ss_I (ss_I o_this_draft 2 u_4.1) 3 u_10.1))))) (fun H locs hP hD hS => ?_)
                have hP : va_P D vwCl (ce_X7 kA q_this q_this_tokens q_this_draft (ss_I o_this 3 (1 : Int32)) ++ (ce_X10 kA q_this_tokens u_16.2 ++ (ce_X5 kA q_this_draft (ss_I (ss_I o_this_draft 2 u_4.1) 3 u_10.1)))) H := hP
                refine va_put (D := D) (ci := 4) (v := .int u_16.1) (ty := .int) (C := RX5) (T := TX5) (N := 10) hx hb hUX5 (fun _ h9 => h9) tyX5 tyX5_ok nmX5 hown hK hP hD hS 6 rfl rfl 4 (by decide) (hts (Cond.fieldLink RX7 121 "ReliefBuilder$Panel" "base" "I") (List.mem_of_getElem? (i := 6) rfl)) (fun _ h9 => h9) rfl (tyX5_ok 4 (by decide)) rfl rfl (Nat.le_of_ble_eq_true rfl) dX7_readSteps_132 (fun H locs hP hD hS => ?_)
                have hP : va_P D vwCl (ce_X7 kA q_this q_this_tokens q_this_draft (ss_I o_this 3 (1 : Int32)) ++ (ce_X10 kA q_this_tokens u_16.2 ++ (ce_X5 kA q_this_draft (ss_I (ss_I (ss_I o_this_draft 2 u_4.1) 3 u_10.1) 4 u_16.1)))) H := hP
                have hD : va_D A (ce_X7 kA q_this q_this_tokens q_this_draft (ss_I o_this 3 (1 : Int32)) ++ (ce_X10 kA q_this_tokens u_16.2 ++ (ce_X5 kA q_this_draft (ss_I (ss_I (ss_I o_this_draft 2 u_4.1) 3 u_10.1) 4 u_16.1)))) := hD
                refine lv_aload_n hx hb dX7_readSteps_135 rfl (lv_at hl 0 rfl) ?_
                refine va_get (D := D) (ci := 6) (v := .ref (q_this_draft 0)) (C := RX7) (T := TX7) (N := 8) hx hb hUX7 (fun _ h9 => h9) hown hK hP 0 rfl rfl 1 (by decide) (hts (Cond.fieldLink RX7 15 "ReliefBuilder$ReliefText" "draft" "LReliefBuilder$Panel;") (List.mem_of_getElem? (i := 3) rfl)) (fun _ h9 => h9) rfl dX7_readSteps_136 ?_
                refine va_get (D := D) (ci := 4) (v := .int u_16.1) (C := RX5) (T := TX5) (N := 10) hx hb hUX5 (fun _ h9 => h9) hown hK hP 6 rfl rfl 4 (by decide) (hts (Cond.fieldLink RX7 121 "ReliefBuilder$Panel" "base" "I") (List.mem_of_getElem? (i := 6) rfl)) (fun _ h9 => h9) rfl dX7_readSteps_139 ?_
                refine lv_iconst (v := (-1)) hx hb dX7_readSteps_142 (by decide) ?_
                refine lv_icmp_eq (tgt := 150) hx hb dX7_readSteps_143 (by decide) (fun hc_18 => ?_) (fun hc_18 => ?_)
                · rw [if_pos hc_18] at hf
                  refine lv_iconst (v := 0) hx hb dX7_readSteps_150 (by decide) ?_
                  rw [← Option.some.inj hf]
                  exact mx_retz (v := 0) (Nat.le_of_ble_eq_true rfl) (Nat.le_of_ble_eq_true rfl) hx hb hr rfl hlk hP hK hD hS dX7_readSteps_151
                · rw [if_neg hc_18] at hf
                  refine lv_iconst (v := 1) hx hb dX7_readSteps_146 (by decide) ?_
                  refine lv_goto (tgt := 151) hx hb dX7_readSteps_147 (by decide) ?_
                  rw [← Option.some.inj hf]
                  exact mx_retz (v := 1) (Nat.le_of_ble_eq_true rfl) (Nat.le_of_ble_eq_true rfl) hx hb hr rfl hlk hP hK hD hS dX7_readSteps_151
              · rw [if_pos hc_15] at hf
                refine lv_iconst (v := 0) hx hb dX7_readSteps_111 (by decide) ?_
                rw [← Option.some.inj hf]
                exact mx_retz (v := 0) (Nat.le_of_ble_eq_true rfl) (Nat.le_of_ble_eq_true rfl) hx hb hr rfl hlk hP hK hD hS dX7_readSteps_112
        · rw [if_pos hc_9] at hf
          refine lv_iconst (v := 0) hx hb dX7_readSteps_68 (by decide) ?_
          rw [← Option.some.inj hf]
          exact mx_retz (v := 0) (Nat.le_of_ble_eq_true rfl) (Nat.le_of_ble_eq_true rfl) hx hb hr rfl hlk hP hK hD hS dX7_readSteps_69
  · rw [if_neg hc_1] at hf
    refine lv_aload_n hx hb dX7_readSteps_7 rfl (lv_at hl 0 rfl) ?_
    refine va_get (D := D) (ci := 6) (v := .ref (q_this_tokens 0)) (C := RX7) (T := TX7) (N := 8) hx hb hUX7 (fun _ h9 => h9) hown hK hP 0 rfl rfl 0 (by decide) (hts (Cond.fieldLink RX7 9 "ReliefBuilder$ReliefText" "tokens" "LReliefBuilder$Tokens;") (List.mem_of_getElem? (i := 2) rfl)) (fun _ h9 => h9) rfl dX7_readSteps_8 ?_
    refine lv_iconst (v := 3) hx hb dX7_readSteps_11 (by decide) ?_
    obtain ⟨u_19, he_20, hf⟩ := os_bd hf
    refine mc_callV ⟨hx, hb, hml, hown, hts⟩ (mm_X10_fail l D kA N q_this_tokens o_this_tokens (3 : Int32) u_19 he_20) (cwV 1 hts gX7_readSteps_X10_fail rfl rfl rfl (by decide +kernel) ⟨Nat.le_of_ble_eq_true rfl, Nat.le_of_ble_eq_true rfl⟩) (wc := (ce_X10 kA q_this_tokens o_this_tokens)) (ci := 8) (q0 := 0) rfl rfl rfl hl.1 (As := [.int (3 : Int32)]) (rest := []) rfl (Nat.le_of_ble_eq_true rfl) dX7_readSteps_12 ⟨Nat.le_of_ble_eq_true rfl, Nat.le_of_ble_eq_true rfl⟩ hK hP hD hS hA [1, 2, 3, 4, 5] [0, 6, 7, 8, 9] [0, 5, 6, 7, 8, 9, 1, 2, 3, 4] rfl (by decide) rfl (by decide) (by decide) rfl (by decide) (wr := (ce_X7 kA q_this q_this_tokens q_this_draft o_this ++ (ce_X5 kA q_this_draft o_this_draft))) (w2 := (ce_X7 kA q_this q_this_tokens q_this_draft o_this ++ (ce_X10 kA q_this_tokens u_19.2 ++ (ce_X5 kA q_this_draft o_this_draft)))) (fun H locs hP hD hS => ?_)
    have hP : va_P D vwCl (ce_X7 kA q_this q_this_tokens q_this_draft o_this ++ (ce_X10 kA q_this_tokens u_19.2 ++ (ce_X5 kA q_this_draft o_this_draft))) H := hP
    obtain ⟨hz_21, hf⟩ := os_if hf
    rw [← Option.some.inj hf]
    exact mx_retz (Nat.le_of_ble_eq_true rfl) (Nat.le_of_ble_eq_true rfl) hx hb hr (os_z_n hz_21) hlk hP hK hD hS dX7_readSteps_15
def ff_X7_readWall (N : Nat) (o_this : os_T) (o_this_tokens : os_T) (o_this_draft : os_T) : Option (Int32 × os_T × os_T × os_T) :=
  (if (os_I o_this 4) = 0 then ((ff_X10_advance N o_this_tokens).bind fun u_2 => ((ff_X10_takeNumber N u_2 (1 : Int32) (4 : Int32)).bind fun u_4 => (if u_4.1 = (-1 : Int32) then some ((0 : Int32), ss_I o_this 4 (1 : Int32), u_4.2, ss_I o_this_draft 5 u_4.1) else some ((1 : Int32), ss_I o_this 4 (1 : Int32), u_4.2, ss_I o_this_draft 5 u_4.1)))) else ((ff_X10_fail N o_this_tokens (3 : Int32)).bind fun u_7 => (if os_z u_7.1 then some (u_7.1, o_this, u_7.2, o_this_draft) else none)))
set_option maxHeartbeats 4000000 in
set_option maxRecDepth 100000 in
theorem mm_X7_readWall (l : Launch) (D : va_G) (kA : Nat → ClassId) (N : Nat) (q_this : Nat → Nat) (q_this_tokens : Nat → Nat) (q_this_draft : Nat → Nat) (o_this : os_T) (o_this_tokens : os_T) (o_this_draft : os_T) (out : (Int32 × os_T × os_T × os_T)) (hf : ff_X7_readWall N o_this o_this_tokens o_this_draft = some out) : mc_C l D kA yX7_readWall wsX7_readWall ({ frames := 2, cells := 0, slots := 0, locals := 45 } : Room) [.ref (q_this 0)] (ce_X7 kA q_this q_this_tokens q_this_draft o_this ++ (ce_X10 kA q_this_tokens o_this_tokens ++ (ce_X5 kA q_this_draft o_this_draft))) (some (.int out.1)) (ce_X7 kA q_this q_this_tokens q_this_draft out.2.1 ++ (ce_X10 kA q_this_tokens out.2.2.1 ++ (ce_X5 kA q_this_draft out.2.2.2))) := by
  refine mc_of (cc := cX7_readWall) (maxL := 1) (ret := (some .boolean)) (by decide) rfl (Nat.le_of_ble_eq_true rfl) ?_
  intro p e s m below meth c A B hD hP hS ls hl
  obtain ⟨hx, hb, hr, hlk, hml, hown, hts, hK, hA, hnm⟩ := B
  have hown : s.vm.findClass RX7 = some m.cls := hown
  have hl : lv_has ls 1 [(0, .ref (q_this 0))] := hl
  have hUX5 : ∀ w ∈ u_ws RX5 TX5 10, w.before [.ref (q_this 0)].toArray s = true := fun w h => hts w (List.mem_cons_of_mem _ (List.mem_append_left _ (List.mem_append_right _ h)))
  have hUX7 : ∀ w ∈ u_ws RX7 TX7 8, w.before [.ref (q_this 0)].toArray s = true := fun w h => hts w (List.mem_cons_of_mem _ (List.mem_append_left _ (List.mem_append_left _ (List.mem_append_right _ h))))
  unfold ff_X7_readWall at hf
  refine lv_aload_n hx hb dX7_readWall_0 rfl (lv_at hl 0 rfl) ?_
  refine va_get (D := D) (ci := 6) (v := .int (os_I o_this 4)) (C := RX7) (T := TX7) (N := 8) hx hb hUX7 (fun _ h9 => h9) hown hK hP 0 rfl rfl 4 (by decide) (hts (Cond.fieldLink RX7 31 "ReliefBuilder$ReliefText" "hasWall" "Z") (List.mem_of_getElem? (i := 1) rfl)) (fun _ h9 => h9) rfl dX7_readWall_1 ?_
  refine lv_if_eq (tgt := 16) hx hb dX7_readWall_4 (by decide) (fun hc_1 => ?_) (fun hc_1 => ?_)
  · rw [if_pos hc_1] at hf
    refine lv_aload_n hx hb dX7_readWall_16 rfl (lv_at hl 0 rfl) ?_
    refine lv_iconst (v := 1) hx hb dX7_readWall_17 (by decide) ?_
    refine va_put (D := D) (ci := 6) (v := .int (1 : Int32)) (ty := .boolean) (C := RX7) (T := TX7) (N := 8) hx hb hUX7 (fun _ h9 => h9) tyX7 tyX7_ok nmX7 hown hK hP hD hS 0 rfl rfl 4 (by decide) (hts (Cond.fieldLink RX7 31 "ReliefBuilder$ReliefText" "hasWall" "Z") (List.mem_of_getElem? (i := 1) rfl)) (fun _ h9 => h9) rfl (tyX7_ok 4 (by decide)) rfl rfl (Nat.le_of_ble_eq_true rfl) dX7_readWall_18 (fun H locs hP hD hS => ?_)
    have hP : va_P D vwCl (ce_X7 kA q_this q_this_tokens q_this_draft (ss_I o_this 4 (1 : Int32)) ++ (ce_X10 kA q_this_tokens o_this_tokens ++ (ce_X5 kA q_this_draft o_this_draft))) H := hP
    have hD : va_D A (ce_X7 kA q_this q_this_tokens q_this_draft (ss_I o_this 4 (1 : Int32)) ++ (ce_X10 kA q_this_tokens o_this_tokens ++ (ce_X5 kA q_this_draft o_this_draft))) := hD
    refine lv_aload_n hx hb dX7_readWall_21 rfl (lv_at hl 0 rfl) ?_
    refine va_get (D := D) (ci := 6) (v := .ref (q_this_tokens 0)) (C := RX7) (T := TX7) (N := 8) hx hb hUX7 (fun _ h9 => h9) hown hK hP 0 rfl rfl 0 (by decide) (hts (Cond.fieldLink RX7 9 "ReliefBuilder$ReliefText" "tokens" "LReliefBuilder$Tokens;") (List.mem_of_getElem? (i := 2) rfl)) (fun _ h9 => h9) rfl dX7_readWall_22 ?_
    obtain ⟨u_2, he_3, hf⟩ := os_bd hf
    refine mc_callV ⟨hx, hb, hml, hown, hts⟩ (mm_X10_advance l D kA N q_this_tokens o_this_tokens u_2 he_3) (cwV 0 hts gX7_readWall_X10_advance rfl rfl rfl (by decide +kernel) ⟨Nat.le_of_ble_eq_true rfl, Nat.le_of_ble_eq_true rfl⟩) (wc := (ce_X10 kA q_this_tokens o_this_tokens)) (ci := 8) (q0 := 0) rfl rfl rfl hl.1 (As := []) (rest := []) rfl (Nat.le_of_ble_eq_true rfl) dX7_readWall_25 ⟨Nat.le_of_ble_eq_true rfl, Nat.le_of_ble_eq_true rfl⟩ hK hP hD hS hA [1, 2, 3, 4, 5] [0, 6, 7, 8, 9] [0, 5, 6, 7, 8, 9, 1, 2, 3, 4] rfl (by decide) rfl (by decide) (by decide) rfl (by decide) (wr := (ce_X7 kA q_this q_this_tokens q_this_draft (ss_I o_this 4 (1 : Int32)) ++ (ce_X5 kA q_this_draft o_this_draft))) (w2 := (ce_X7 kA q_this q_this_tokens q_this_draft (ss_I o_this 4 (1 : Int32)) ++ (ce_X10 kA q_this_tokens u_2 ++ (ce_X5 kA q_this_draft o_this_draft)))) (fun H locs hP hD hS => ?_)
    have hP : va_P D vwCl (ce_X7 kA q_this q_this_tokens q_this_draft (ss_I o_this 4 (1 : Int32)) ++ (ce_X10 kA q_this_tokens u_2 ++ (ce_X5 kA q_this_draft o_this_draft))) H := hP
    refine lv_aload_n hx hb dX7_readWall_28 rfl (lv_at hl 0 rfl) ?_
    refine va_get (D := D) (ci := 6) (v := .ref (q_this_draft 0)) (C := RX7) (T := TX7) (N := 8) hx hb hUX7 (fun _ h9 => h9) hown hK hP 0 rfl rfl 1 (by decide) (hts (Cond.fieldLink RX7 15 "ReliefBuilder$ReliefText" "draft" "LReliefBuilder$Panel;") (List.mem_of_getElem? (i := 3) rfl)) (fun _ h9 => h9) rfl dX7_readWall_29 ?_
    refine lv_aload_n hx hb dX7_readWall_32 rfl (lv_at hl 0 rfl) ?_
    refine va_get (D := D) (ci := 6) (v := .ref (q_this_tokens 0)) (C := RX7) (T := TX7) (N := 8) hx hb hUX7 (fun _ h9 => h9) hown hK hP 0 rfl rfl 0 (by decide) (hts (Cond.fieldLink RX7 9 "ReliefBuilder$ReliefText" "tokens" "LReliefBuilder$Tokens;") (List.mem_of_getElem? (i := 2) rfl)) (fun _ h9 => h9) rfl dX7_readWall_33 ?_
    refine lv_iconst (v := 1) hx hb dX7_readWall_36 (by decide) ?_
    refine lv_iconst (v := 4) hx hb dX7_readWall_37 (by decide) ?_
    obtain ⟨u_4, he_5, hf⟩ := os_bd hf
    refine mc_callV ⟨hx, hb, hml, hown, hts⟩ (mm_X10_takeNumber l D kA N q_this_tokens u_2 (1 : Int32) (4 : Int32) u_4 he_5) (cwV 2 hts gX7_readWall_X10_takeNumber rfl rfl rfl (by decide +kernel) ⟨Nat.le_of_ble_eq_true rfl, Nat.le_of_ble_eq_true rfl⟩) (wc := (ce_X10 kA q_this_tokens u_2)) (ci := 8) (q0 := 0) rfl rfl rfl hl.1 (As := [.int (1 : Int32), .int (4 : Int32)]) (rest := [.ref (q_this_draft 0)]) rfl (Nat.le_of_ble_eq_true rfl) dX7_readWall_38 ⟨Nat.le_of_ble_eq_true rfl, Nat.le_of_ble_eq_true rfl⟩ hK hP hD hS hA [1, 2, 3, 4, 5] [0, 6, 7, 8, 9] [0, 5, 6, 7, 8, 9, 1, 2, 3, 4] rfl (by decide) rfl (by decide) (by decide) rfl (by decide) (wr := (ce_X7 kA q_this q_this_tokens q_this_draft (ss_I o_this 4 (1 : Int32)) ++ (ce_X5 kA q_this_draft o_this_draft))) (w2 := (ce_X7 kA q_this q_this_tokens q_this_draft (ss_I o_this 4 (1 : Int32)) ++ (ce_X10 kA q_this_tokens u_4.2 ++ (ce_X5 kA q_this_draft o_this_draft)))) (fun H locs hP hD hS => ?_)
    have hP : va_P D vwCl (ce_X7 kA q_this q_this_tokens q_this_draft (ss_I o_this 4 (1 : Int32)) ++ (ce_X10 kA q_this_tokens u_4.2 ++ (ce_X5 kA q_this_draft o_this_draft))) H := hP
    refine va_put (D := D) (ci := 4) (v := .int u_4.1) (ty := .int) (C := RX5) (T := TX5) (N := 10) hx hb hUX5 (fun _ h9 => h9) tyX5 tyX5_ok nmX5 hown hK hP hD hS 6 rfl rfl 5 (by decide) (hts (Cond.fieldLink RX7 123 "ReliefBuilder$Panel" "wall" "I") (List.mem_of_getElem? (i := 4) rfl)) (fun _ h9 => h9) rfl (tyX5_ok 5 (by decide)) rfl rfl (Nat.le_of_ble_eq_true rfl) dX7_readWall_41 (fun H locs hP hD hS => ?_)
    have hP : va_P D vwCl (ce_X7 kA q_this q_this_tokens q_this_draft (ss_I o_this 4 (1 : Int32)) ++ (ce_X10 kA q_this_tokens u_4.2 ++ (ce_X5 kA q_this_draft (ss_I o_this_draft 5 u_4.1)))) H := hP
    have hD : va_D A (ce_X7 kA q_this q_this_tokens q_this_draft (ss_I o_this 4 (1 : Int32)) ++ (ce_X10 kA q_this_tokens u_4.2 ++ (ce_X5 kA q_this_draft (ss_I o_this_draft 5 u_4.1)))) := hD
    refine lv_aload_n hx hb dX7_readWall_44 rfl (lv_at hl 0 rfl) ?_
    refine va_get (D := D) (ci := 6) (v := .ref (q_this_draft 0)) (C := RX7) (T := TX7) (N := 8) hx hb hUX7 (fun _ h9 => h9) hown hK hP 0 rfl rfl 1 (by decide) (hts (Cond.fieldLink RX7 15 "ReliefBuilder$ReliefText" "draft" "LReliefBuilder$Panel;") (List.mem_of_getElem? (i := 3) rfl)) (fun _ h9 => h9) rfl dX7_readWall_45 ?_
    refine va_get (D := D) (ci := 4) (v := .int u_4.1) (C := RX5) (T := TX5) (N := 10) hx hb hUX5 (fun _ h9 => h9) hown hK hP 6 rfl rfl 5 (by decide) (hts (Cond.fieldLink RX7 123 "ReliefBuilder$Panel" "wall" "I") (List.mem_of_getElem? (i := 4) rfl)) (fun _ h9 => h9) rfl dX7_readWall_48 ?_
    refine lv_iconst (v := (-1)) hx hb dX7_readWall_51 (by decide) ?_
    refine lv_icmp_eq (tgt := 59) hx hb dX7_readWall_52 (by decide) (fun hc_6 => ?_) (fun hc_6 => ?_)
    · rw [if_pos hc_6] at hf
      refine lv_iconst (v := 0) hx hb dX7_readWall_59 (by decide) ?_
      rw [← Option.some.inj hf]
      exact mc_retz (v := 0) hx hb hr rfl hlk hP hK hD hS dX7_readWall_60
    · rw [if_neg hc_6] at hf
      refine lv_iconst (v := 1) hx hb dX7_readWall_55 (by decide) ?_
      refine lv_goto (tgt := 60) hx hb dX7_readWall_56 (by decide) ?_
      rw [← Option.some.inj hf]
      exact mc_retz (v := 1) hx hb hr rfl hlk hP hK hD hS dX7_readWall_60
  · rw [if_neg hc_1] at hf
    refine lv_aload_n hx hb dX7_readWall_7 rfl (lv_at hl 0 rfl) ?_
    refine va_get (D := D) (ci := 6) (v := .ref (q_this_tokens 0)) (C := RX7) (T := TX7) (N := 8) hx hb hUX7 (fun _ h9 => h9) hown hK hP 0 rfl rfl 0 (by decide) (hts (Cond.fieldLink RX7 9 "ReliefBuilder$ReliefText" "tokens" "LReliefBuilder$Tokens;") (List.mem_of_getElem? (i := 2) rfl)) (fun _ h9 => h9) rfl dX7_readWall_8 ?_
    refine lv_iconst (v := 3) hx hb dX7_readWall_11 (by decide) ?_
    obtain ⟨u_7, he_8, hf⟩ := os_bd hf
    refine mc_callV ⟨hx, hb, hml, hown, hts⟩ (mm_X10_fail l D kA N q_this_tokens o_this_tokens (3 : Int32) u_7 he_8) (cwV 1 hts gX7_readWall_X10_fail rfl rfl rfl (by decide +kernel) ⟨Nat.le_of_ble_eq_true rfl, Nat.le_of_ble_eq_true rfl⟩) (wc := (ce_X10 kA q_this_tokens o_this_tokens)) (ci := 8) (q0 := 0) rfl rfl rfl hl.1 (As := [.int (3 : Int32)]) (rest := []) rfl (Nat.le_of_ble_eq_true rfl) dX7_readWall_12 ⟨Nat.le_of_ble_eq_true rfl, Nat.le_of_ble_eq_true rfl⟩ hK hP hD hS hA [1, 2, 3, 4, 5] [0, 6, 7, 8, 9] [0, 5, 6, 7, 8, 9, 1, 2, 3, 4] rfl (by decide) rfl (by decide) (by decide) rfl (by decide) (wr := (ce_X7 kA q_this q_this_tokens q_this_draft o_this ++ (ce_X5 kA q_this_draft o_this_draft))) (w2 := (ce_X7 kA q_this q_this_tokens q_this_draft o_this ++ (ce_X10 kA q_this_tokens u_7.2 ++ (ce_X5 kA q_this_draft o_this_draft)))) (fun H locs hP hD hS => ?_)
    have hP : va_P D vwCl (ce_X7 kA q_this q_this_tokens q_this_draft o_this ++ (ce_X10 kA q_this_tokens u_7.2 ++ (ce_X5 kA q_this_draft o_this_draft))) H := hP
    obtain ⟨hz_9, hf⟩ := os_if hf
    rw [← Option.some.inj hf]
    exact mc_retz hx hb hr (os_z_n hz_9) hlk hP hK hD hS dX7_readWall_15
def ff_X7_readStatement (N : Nat) (o_this : os_T) (o_this_tokens : os_T) (o_this_draft : os_T) : Option (Nat × Int32 × os_T × os_T × os_T) :=
  ((ff_X10_isWord N o_this_tokens 0).bind fun u_1 => (if u_1.1 = 0 then (if u_1.2 = 0 then ((ff_X10_isWord N o_this_tokens 1).bind fun u_4 => (if u_4.1 = 0 then (if u_4.2 = 0 then ((ff_X10_isWord N o_this_tokens 2).bind fun u_7 => (if u_7.1 = 0 then (if u_7.2 = 0 then ((ff_X10_isWord N o_this_tokens 3).bind fun u_10 => (if u_10.1 = 0 then (if u_10.2 = 0 then ((ff_X10_isWord N o_this_tokens 4).bind fun u_13 => (if u_13.1 = 0 then (if u_13.2 = 0 then ((ff_X10_fail N o_this_tokens (1 : Int32)).bind fun u_16 => (if os_z u_16.1 then some (0, u_16.1, o_this, u_16.2, o_this_draft) else none)) else ((ff_X7_readRow N o_this o_this_tokens o_this_draft).bind fun u_19 => (if os_z u_19.1 then some (0, u_19.1, u_19.2.1, u_19.2.2.1, u_19.2.2.2) else none))) else some (u_13.1, (0 : Int32), o_this, o_this_tokens, o_this_draft))) else ((ff_X7_readSlope N o_this o_this_tokens o_this_draft).bind fun u_22 => (if os_z u_22.1 then some (0, u_22.1, u_22.2.1, u_22.2.2.1, u_22.2.2.2) else none))) else some (u_10.1, (0 : Int32), o_this, o_this_tokens, o_this_draft))) else ((ff_X7_readWall N o_this o_this_tokens o_this_draft).bind fun u_25 => (if os_z u_25.1 then some (0, u_25.1, u_25.2.1, u_25.2.2.1, u_25.2.2.2) else none))) else some (u_7.1, (0 : Int32), o_this, o_this_tokens, o_this_draft))) else ((ff_X7_readSteps N o_this o_this_tokens o_this_draft).bind fun u_28 => (if u_28.1 = 0 then (if os_z u_28.2.1 then some (0, u_28.2.1, u_28.2.2.1, u_28.2.2.2.1, u_28.2.2.2.2) else none) else some (u_28.1, (0 : Int32), u_28.2.2.1, u_28.2.2.2.1, u_28.2.2.2.2)))) else some (u_4.1, (0 : Int32), o_this, o_this_tokens, o_this_draft))) else ((ff_X7_readPanel N o_this o_this_tokens o_this_draft).bind fun u_31 => (if os_z u_31.1 then some (0, u_31.1, u_31.2.1, u_31.2.2.1, u_31.2.2.2) else none))) else some (u_1.1, (0 : Int32), o_this, o_this_tokens, o_this_draft)))
set_option maxHeartbeats 4000000 in
set_option maxRecDepth 100000 in
theorem mm_X7_readStatement (l : Launch) (hst : l.stackTraces = false) (zz : Nat → Nat → Nat) (D : va_G) (kA : Nat → ClassId) (N : Nat) (q_this : Nat → Nat) (q_this_tokens : Nat → Nat) (q_this_draft : Nat → Nat) (o_this : os_T) (o_this_tokens : os_T) (o_this_draft : os_T) (out : (Nat × Int32 × os_T × os_T × os_T)) (hf : ff_X7_readStatement N o_this o_this_tokens o_this_draft = some out) : mx_C l zz D kA yX7_readStatement wsX7_readStatement ({ frames := 7, cells := 0, slots := 0, locals := 148 } : Room) [.ref (q_this 0)] (ce_X7 kA q_this q_this_tokens q_this_draft o_this ++ (ce_X10 kA q_this_tokens o_this_tokens ++ (ce_X5 kA q_this_draft o_this_draft))) out.1 (some (.int out.2.1)) (ce_X7 kA q_this q_this_tokens q_this_draft out.2.2.1 ++ (ce_X10 kA q_this_tokens out.2.2.2.1 ++ (ce_X5 kA q_this_draft out.2.2.2.2))) := by
  refine mx_of (cc := cX7_readStatement) (maxL := 1) (ret := (some .boolean)) (by decide) rfl (Nat.le_of_ble_eq_true rfl) ?_
  intro p e s m below meth c A B hx0 hZ hD hP hS ls hl
  obtain ⟨hx, hb, hr, hlk, hml, hown, hts, hK, hA, hnm⟩ := B
  have hown : s.vm.findClass RX7 = some m.cls := hown
  have hl : lv_has ls 1 [(0, .ref (q_this 0))] := hl
  have hUX7 : ∀ w ∈ u_ws RX7 TX7 8, w.before [.ref (q_this 0)].toArray s = true := fun w h => hts w (List.mem_cons_of_mem _ (List.mem_append_left _ (List.mem_append_left _ (List.mem_append_left _ (List.mem_append_right _ h)))))
  unfold ff_X7_readStatement at hf
  refine lv_aload_n hx hb dX7_readStatement_0 rfl (lv_at hl 0 rfl) ?_
  refine va_get (D := D) (ci := 6) (v := .ref (q_this_tokens 0)) (C := RX7) (T := TX7) (N := 8) hx hb hUX7 (fun _ h9 => h9) hown hK hP 0 rfl rfl 0 (by decide) (hts (Cond.fieldLink RX7 9 "ReliefBuilder$ReliefText" "tokens" "LReliefBuilder$Tokens;") (List.mem_of_getElem? (i := 1) rfl)) (fun _ h9 => h9) rfl dX7_readStatement_1 ?_
  refine va_ldcS hx hb hown (hZ.2.2.2.2.2.2.1 0 (by decide)) dX7_readStatement_4 ?_
  obtain ⟨u_1, he_2, hf⟩ := os_bd hf
  refine mx_callV ⟨hx, hb, hml, hown, hts⟩ (mm_X10_isWord l hst zz D kA N q_this_tokens o_this_tokens 0 u_1 he_2) (cwV 1 hts gX7_readStatement_X10_isWord rfl rfl rfl (by decide +kernel) ⟨Nat.le_of_ble_eq_true rfl, Nat.le_of_ble_eq_true rfl⟩) (wc := (ce_X10 kA q_this_tokens o_this_tokens)) (ci := 8) (q0 := 0) rfl rfl rfl hl.1 (As := [.ref (zz 0 0)]) (rest := []) rfl (Nat.le_of_ble_eq_true rfl) dX7_readStatement_6 ⟨Nat.le_of_ble_eq_true rfl, Nat.le_of_ble_eq_true rfl⟩ hK hP hD hS hA hZ [1, 2, 3, 4, 5] [0, 6, 7, 8, 9] [0, 5, 6, 7, 8, 9, 1, 2, 3, 4] rfl (by decide) rfl (by decide) (by decide) rfl (by decide) (wr := (ce_X7 kA q_this q_this_tokens q_this_draft o_this ++ (ce_X5 kA q_this_draft o_this_draft))) (w2 := (ce_X7 kA q_this q_this_tokens q_this_draft o_this ++ (ce_X10 kA q_this_tokens o_this_tokens ++ (ce_X5 kA q_this_draft o_this_draft)))) (fun hx9 H locs q9 ce hP hD hS h91 h92 h93 => ?_) (fun hx9 H locs hP hD hS => ?_)
  · rw [if_neg hx9] at hf
    rw [← Option.some.inj hf]
    exact mx_out hx9 hx0 hlk hP hK hD hS h91 h92 h93 (Nat.le_of_ble_eq_true rfl) (Nat.le_of_ble_eq_true rfl)
  · rw [if_pos hx9] at hf
    refine W.widen (k := 0) (n := 0) (Nat.le_of_ble_eq_true rfl) (Nat.le_of_ble_eq_true rfl) ?_
    have hP : va_P D vwCl (ce_X7 kA q_this q_this_tokens q_this_draft o_this ++ (ce_X10 kA q_this_tokens o_this_tokens ++ (ce_X5 kA q_this_draft o_this_draft))) H := hP
    refine lv_if_eq (tgt := 17) hx hb dX7_readStatement_9 (by decide) (fun hc_3 => ?_) (fun hc_3 => ?_)
    · rw [if_pos hc_3] at hf
      refine lv_aload_n hx hb dX7_readStatement_17 rfl (lv_at hl 0 rfl) ?_
      refine va_get (D := D) (ci := 6) (v := .ref (q_this_tokens 0)) (C := RX7) (T := TX7) (N := 8) hx hb hUX7 (fun _ h9 => h9) hown hK hP 0 rfl rfl 0 (by decide) (hts (Cond.fieldLink RX7 9 "ReliefBuilder$ReliefText" "tokens" "LReliefBuilder$Tokens;") (List.mem_of_getElem? (i := 1) rfl)) (fun _ h9 => h9) rfl dX7_readStatement_18 ?_
      refine va_ldcS hx hb hown (hZ.2.2.2.2.2.2.1 1 (by decide)) dX7_readStatement_21 ?_
      obtain ⟨u_4, he_5, hf⟩ := os_bd hf
      refine mx_callV ⟨hx, hb, hml, hown, hts⟩ (mm_X10_isWord l hst zz D kA N q_this_tokens o_this_tokens 1 u_4 he_5) (cwV 1 hts gX7_readStatement_X10_isWord rfl rfl rfl (by decide +kernel) ⟨Nat.le_of_ble_eq_true rfl, Nat.le_of_ble_eq_true rfl⟩) (wc := (ce_X10 kA q_this_tokens o_this_tokens)) (ci := 8) (q0 := 0) rfl rfl rfl hl.1 (As := [.ref (zz 0 1)]) (rest := []) rfl (Nat.le_of_ble_eq_true rfl) dX7_readStatement_23 ⟨Nat.le_of_ble_eq_true rfl, Nat.le_of_ble_eq_true rfl⟩ hK hP hD hS hA hZ [1, 2, 3, 4, 5] [0, 6, 7, 8, 9] [0, 5, 6, 7, 8, 9, 1, 2, 3, 4] rfl (by decide) rfl (by decide) (by decide) rfl (by decide) (wr := (ce_X7 kA q_this q_this_tokens q_this_draft o_this ++ (ce_X5 kA q_this_draft o_this_draft))) (w2 := (ce_X7 kA q_this q_this_tokens q_this_draft o_this ++ (ce_X10 kA q_this_tokens o_this_tokens ++ (ce_X5 kA q_this_draft o_this_draft)))) (fun hx9 H locs q9 ce hP hD hS h91 h92 h93 => ?_) (fun hx9 H locs hP hD hS => ?_)
      · rw [if_neg hx9] at hf
        rw [← Option.some.inj hf]
        exact mx_out hx9 hx0 hlk hP hK hD hS h91 h92 h93 (Nat.le_of_ble_eq_true rfl) (Nat.le_of_ble_eq_true rfl)
      · rw [if_pos hx9] at hf
        refine W.widen (k := 0) (n := 0) (Nat.le_of_ble_eq_true rfl) (Nat.le_of_ble_eq_true rfl) ?_
        have hP : va_P D vwCl (ce_X7 kA q_this q_this_tokens q_this_draft o_this ++ (ce_X10 kA q_this_tokens o_this_tokens ++ (ce_X5 kA q_this_draft o_this_draft))) H := hP
        refine lv_if_eq (tgt := 34) hx hb dX7_readStatement_26 (by decide) (fun hc_6 => ?_) (fun hc_6 => ?_)
        · rw [if_pos hc_6] at hf
          refine lv_aload_n hx hb dX7_readStatement_34 rfl (lv_at hl 0 rfl) ?_
          refine va_get (D := D) (ci := 6) (v := .ref (q_this_tokens 0)) (C := RX7) (T := TX7) (N := 8) hx hb hUX7 (fun _ h9 => h9) hown hK hP 0 rfl rfl 0 (by decide) (hts (Cond.fieldLink RX7 9 "ReliefBuilder$ReliefText" "tokens" "LReliefBuilder$Tokens;") (List.mem_of_getElem? (i := 1) rfl)) (fun _ h9 => h9) rfl dX7_readStatement_35 ?_
          refine va_ldcS hx hb hown (hZ.2.2.2.2.2.2.1 2 (by decide)) dX7_readStatement_38 ?_
          obtain ⟨u_7, he_8, hf⟩ := os_bd hf
          refine mx_callV ⟨hx, hb, hml, hown, hts⟩ (mm_X10_isWord l hst zz D kA N q_this_tokens o_this_tokens 2 u_7 he_8) (cwV 1 hts gX7_readStatement_X10_isWord rfl rfl rfl (by decide +kernel) ⟨Nat.le_of_ble_eq_true rfl, Nat.le_of_ble_eq_true rfl⟩) (wc := (ce_X10 kA q_this_tokens o_this_tokens)) (ci := 8) (q0 := 0) rfl rfl rfl hl.1 (As := [.ref (zz 0 2)]) (rest := []) rfl (Nat.le_of_ble_eq_true rfl) dX7_readStatement_40 ⟨Nat.le_of_ble_eq_true rfl, Nat.le_of_ble_eq_true rfl⟩ hK hP hD hS hA hZ [1, 2, 3, 4, 5] [0, 6, 7, 8, 9] [0, 5, 6, 7, 8, 9, 1, 2, 3, 4] rfl (by decide) rfl (by decide) (by decide) rfl (by decide) (wr := (ce_X7 kA q_this q_this_tokens q_this_draft o_this ++ (ce_X5 kA q_this_draft o_this_draft))) (w2 := (ce_X7 kA q_this q_this_tokens q_this_draft o_this ++ (ce_X10 kA q_this_tokens o_this_tokens ++ (ce_X5 kA q_this_draft o_this_draft)))) (fun hx9 H locs q9 ce hP hD hS h91 h92 h93 => ?_) (fun hx9 H locs hP hD hS => ?_)
          · rw [if_neg hx9] at hf
            rw [← Option.some.inj hf]
            exact mx_out hx9 hx0 hlk hP hK hD hS h91 h92 h93 (Nat.le_of_ble_eq_true rfl) (Nat.le_of_ble_eq_true rfl)
          · rw [if_pos hx9] at hf
            refine W.widen (k := 0) (n := 0) (Nat.le_of_ble_eq_true rfl) (Nat.le_of_ble_eq_true rfl) ?_
            have hP : va_P D vwCl (ce_X7 kA q_this q_this_tokens q_this_draft o_this ++ (ce_X10 kA q_this_tokens o_this_tokens ++ (ce_X5 kA q_this_draft o_this_draft))) H := hP
            refine lv_if_eq (tgt := 51) hx hb dX7_readStatement_43 (by decide) (fun hc_9 => ?_) (fun hc_9 => ?_)
            · rw [if_pos hc_9] at hf
              refine lv_aload_n hx hb dX7_readStatement_51 rfl (lv_at hl 0 rfl) ?_
              refine va_get (D := D) (ci := 6) (v := .ref (q_this_tokens 0)) (C := RX7) (T := TX7) (N := 8) hx hb hUX7 (fun _ h9 => h9) hown hK hP 0 rfl rfl 0 (by decide) (hts (Cond.fieldLink RX7 9 "ReliefBuilder$ReliefText" "tokens" "LReliefBuilder$Tokens;") (List.mem_of_getElem? (i := 1) rfl)) (fun _ h9 => h9) rfl dX7_readStatement_52 ?_
              refine va_ldcS hx hb hown (hZ.2.2.2.2.2.2.1 3 (by decide)) dX7_readStatement_55 ?_
              obtain ⟨u_10, he_11, hf⟩ := os_bd hf
              refine mx_callV ⟨hx, hb, hml, hown, hts⟩ (mm_X10_isWord l hst zz D kA N q_this_tokens o_this_tokens 3 u_10 he_11) (cwV 1 hts gX7_readStatement_X10_isWord rfl rfl rfl (by decide +kernel) ⟨Nat.le_of_ble_eq_true rfl, Nat.le_of_ble_eq_true rfl⟩) (wc := (ce_X10 kA q_this_tokens o_this_tokens)) (ci := 8) (q0 := 0) rfl rfl rfl hl.1 (As := [.ref (zz 0 3)]) (rest := []) rfl (Nat.le_of_ble_eq_true rfl) dX7_readStatement_57 ⟨Nat.le_of_ble_eq_true rfl, Nat.le_of_ble_eq_true rfl⟩ hK hP hD hS hA hZ [1, 2, 3, 4, 5] [0, 6, 7, 8, 9] [0, 5, 6, 7, 8, 9, 1, 2, 3, 4] rfl (by decide) rfl (by decide) (by decide) rfl (by decide) (wr := (ce_X7 kA q_this q_this_tokens q_this_draft o_this ++ (ce_X5 kA q_this_draft o_this_draft))) (w2 := (ce_X7 kA q_this q_this_tokens q_this_draft o_this ++ (ce_X10 kA q_this_tokens o_this_tokens ++ (ce_X5 kA q_this_draft o_this_draft)))) (fun hx9 H locs q9 ce hP hD hS h91 h92 h93 => ?_) (fun hx9 H locs hP hD hS => ?_)
              · rw [if_neg hx9] at hf
                rw [← Option.some.inj hf]
                exact mx_out hx9 hx0 hlk hP hK hD hS h91 h92 h93 (Nat.le_of_ble_eq_true rfl) (Nat.le_of_ble_eq_true rfl)
              · rw [if_pos hx9] at hf
                refine W.widen (k := 0) (n := 0) (Nat.le_of_ble_eq_true rfl) (Nat.le_of_ble_eq_true rfl) ?_
                have hP : va_P D vwCl (ce_X7 kA q_this q_this_tokens q_this_draft o_this ++ (ce_X10 kA q_this_tokens o_this_tokens ++ (ce_X5 kA q_this_draft o_this_draft))) H := hP
                refine lv_if_eq (tgt := 68) hx hb dX7_readStatement_60 (by decide) (fun hc_12 => ?_) (fun hc_12 => ?_)
                · rw [if_pos hc_12] at hf
                  refine lv_aload_n hx hb dX7_readStatement_68 rfl (lv_at hl 0 rfl) ?_
                  refine va_get (D := D) (ci := 6) (v := .ref (q_this_tokens 0)) (C := RX7) (T := TX7) (N := 8) hx hb hUX7 (fun _ h9 => h9) hown hK hP 0 rfl rfl 0 (by decide) (hts (Cond.fieldLink RX7 9 "ReliefBuilder$ReliefText" "tokens" "LReliefBuilder$Tokens;") (List.mem_of_getElem? (i := 1) rfl)) (fun _ h9 => h9) rfl dX7_readStatement_69 ?_
                  refine va_ldcS hx hb hown (hZ.2.2.2.2.2.2.1 4 (by decide)) dX7_readStatement_72 ?_
                  obtain ⟨u_13, he_14, hf⟩ := os_bd hf
                  refine mx_callV ⟨hx, hb, hml, hown, hts⟩ (mm_X10_isWord l hst zz D kA N q_this_tokens o_this_tokens 4 u_13 he_14) (cwV 1 hts gX7_readStatement_X10_isWord rfl rfl rfl (by decide +kernel) ⟨Nat.le_of_ble_eq_true rfl, Nat.le_of_ble_eq_true rfl⟩) (wc := (ce_X10 kA q_this_tokens o_this_tokens)) (ci := 8) (q0 := 0) rfl rfl rfl hl.1 (As := [.ref (zz 0 4)]) (rest := []) rfl (Nat.le_of_ble_eq_true rfl) dX7_readStatement_74 ⟨Nat.le_of_ble_eq_true rfl, Nat.le_of_ble_eq_true rfl⟩ hK hP hD hS hA hZ [1, 2, 3, 4, 5] [0, 6, 7, 8, 9] [0, 5, 6, 7, 8, 9, 1, 2, 3, 4] rfl (by decide) rfl (by decide) (by decide) rfl (by decide) (wr := (ce_X7 kA q_this q_this_tokens q_this_draft o_this ++ (ce_X5 kA q_this_draft o_this_draft))) (w2 := (ce_X7 kA q_this q_this_tokens q_this_draft o_this ++ (ce_X10 kA q_this_tokens o_this_tokens ++ (ce_X5 kA q_this_draft o_this_draft)))) (fun hx9 H locs q9 ce hP hD hS h91 h92 h93 => ?_) (fun hx9 H locs hP hD hS => ?_)
                  · rw [if_neg hx9] at hf
                    rw [← Option.some.inj hf]
                    exact mx_out hx9 hx0 hlk hP hK hD hS h91 h92 h93 (Nat.le_of_ble_eq_true rfl) (Nat.le_of_ble_eq_true rfl)
                  · rw [if_pos hx9] at hf
                    refine W.widen (k := 0) (n := 0) (Nat.le_of_ble_eq_true rfl) (Nat.le_of_ble_eq_true rfl) ?_
                    have hP : va_P D vwCl (ce_X7 kA q_this q_this_tokens q_this_draft o_this ++ (ce_X10 kA q_this_tokens o_this_tokens ++ (ce_X5 kA q_this_draft o_this_draft))) H := hP
                    refine lv_if_eq (tgt := 85) hx hb dX7_readStatement_77 (by decide) (fun hc_15 => ?_) (fun hc_15 => ?_)
                    · rw [if_pos hc_15] at hf
                      refine lv_aload_n hx hb dX7_readStatement_85 rfl (lv_at hl 0 rfl) ?_
                      refine va_get (D := D) (ci := 6) (v := .ref (q_this_tokens 0)) (C := RX7) (T := TX7) (N := 8) hx hb hUX7 (fun _ h9 => h9) hown hK hP 0 rfl rfl 0 (by decide) (hts (Cond.fieldLink RX7 9 "ReliefBuilder$ReliefText" "tokens" "LReliefBuilder$Tokens;") (List.mem_of_getElem? (i := 1) rfl)) (fun _ h9 => h9) rfl dX7_readStatement_86 ?_
                      refine lv_iconst (v := 1) hx hb dX7_readStatement_89 (by decide) ?_
                      obtain ⟨u_16, he_17, hf⟩ := os_bd hf
                      refine mc_callV ⟨hx, hb, hml, hown, hts⟩ (mm_X10_fail l D kA N q_this_tokens o_this_tokens (1 : Int32) u_16 he_17) (cwV 1 hts gX7_readStatement_X10_fail rfl rfl rfl (by decide +kernel) ⟨Nat.le_of_ble_eq_true rfl, Nat.le_of_ble_eq_true rfl⟩) (wc := (ce_X10 kA q_this_tokens o_this_tokens)) (ci := 8) (q0 := 0) rfl rfl rfl hl.1 (As := [.int (1 : Int32)]) (rest := []) rfl (Nat.le_of_ble_eq_true rfl) dX7_readStatement_90 ⟨Nat.le_of_ble_eq_true rfl, Nat.le_of_ble_eq_true rfl⟩ hK hP hD hS hA [1, 2, 3, 4, 5] [0, 6, 7, 8, 9] [0, 5, 6, 7, 8, 9, 1, 2, 3, 4] rfl (by decide) rfl (by decide) (by decide) rfl (by decide) (wr := (ce_X7 kA q_this q_this_tokens q_this_draft o_this ++ (ce_X5 kA q_this_draft o_this_draft))) (w2 := (ce_X7 kA q_this q_this_tokens q_this_draft o_this ++ (ce_X10 kA q_this_tokens u_16.2 ++ (ce_X5 kA q_this_draft o_this_draft)))) (fun H locs hP hD hS => ?_)
                      have hP : va_P D vwCl (ce_X7 kA q_this q_this_tokens q_this_draft o_this ++ (ce_X10 kA q_this_tokens u_16.2 ++ (ce_X5 kA q_this_draft o_this_draft))) H := hP
                      obtain ⟨hz_18, hf⟩ := os_if hf
                      rw [← Option.some.inj hf]
                      exact mx_retz (Nat.le_of_ble_eq_true rfl) (Nat.le_of_ble_eq_true rfl) hx hb hr (os_z_n hz_18) hlk hP hK hD hS dX7_readStatement_93
                    · rw [if_neg hc_15] at hf
                      refine lv_aload_n hx hb dX7_readStatement_80 rfl (lv_at hl 0 rfl) ?_
                      obtain ⟨u_19, he_20, hf⟩ := os_bd hf
                      refine mc_callV ⟨hx, hb, hml, hown, hts⟩ (mm_X7_readRow l D kA N q_this q_this_tokens q_this_draft o_this o_this_tokens o_this_draft u_19 he_20) (cwV 0 hts gX7_readStatement_X7_readRow rfl rfl rfl (by decide +kernel) ⟨Nat.le_of_ble_eq_true rfl, Nat.le_of_ble_eq_true rfl⟩) (wc := (ce_X7 kA q_this q_this_tokens q_this_draft o_this ++ (ce_X10 kA q_this_tokens o_this_tokens ++ (ce_X5 kA q_this_draft o_this_draft)))) (ci := 6) (q0 := 0) rfl rfl rfl hl.1 (As := []) (rest := []) rfl (Nat.le_of_ble_eq_true rfl) dX7_readStatement_81 ⟨Nat.le_of_ble_eq_true rfl, Nat.le_of_ble_eq_true rfl⟩ hK hP hD hS hA [0, 1, 2, 3, 4, 5, 6, 7, 8, 9] [] [0, 1, 2, 3, 4, 5, 6, 7, 8, 9] rfl (by decide) rfl (by decide) (by decide) rfl (by decide) (wr := []) (w2 := (ce_X7 kA q_this q_this_tokens q_this_draft u_19.2.1 ++ (ce_X10 kA q_this_tokens u_19.2.2.1 ++ (ce_X5 kA q_this_draft u_19.2.2.2)))) (fun H locs hP hD hS => ?_)
                      have hP : va_P D vwCl (ce_X7 kA q_this q_this_tokens q_this_draft u_19.2.1 ++ (ce_X10 kA q_this_tokens u_19.2.2.1 ++ (ce_X5 kA q_this_draft u_19.2.2.2))) H := hP
                      obtain ⟨hz_21, hf⟩ := os_if hf
                      rw [← Option.some.inj hf]
                      exact mx_retz (Nat.le_of_ble_eq_true rfl) (Nat.le_of_ble_eq_true rfl) hx hb hr (os_z_n hz_21) hlk hP hK hD hS dX7_readStatement_84
                · rw [if_neg hc_12] at hf
                  refine lv_aload_n hx hb dX7_readStatement_63 rfl (lv_at hl 0 rfl) ?_
                  obtain ⟨u_22, he_23, hf⟩ := os_bd hf
                  refine mc_callV ⟨hx, hb, hml, hown, hts⟩ (mm_X7_readSlope l D kA N q_this q_this_tokens q_this_draft o_this o_this_tokens o_this_draft u_22 he_23) (cwV 0 hts gX7_readStatement_X7_readSlope rfl rfl rfl (by decide +kernel) ⟨Nat.le_of_ble_eq_true rfl, Nat.le_of_ble_eq_true rfl⟩) (wc := (ce_X7 kA q_this q_this_tokens q_this_draft o_this ++ (ce_X10 kA q_this_tokens o_this_tokens ++ (ce_X5 kA q_this_draft o_this_draft)))) (ci := 6) (q0 := 0) rfl rfl rfl hl.1 (As := []) (rest := []) rfl (Nat.le_of_ble_eq_true rfl) dX7_readStatement_64 ⟨Nat.le_of_ble_eq_true rfl, Nat.le_of_ble_eq_true rfl⟩ hK hP hD hS hA [0, 1, 2, 3, 4, 5, 6, 7, 8, 9] [] [0, 1, 2, 3, 4, 5, 6, 7, 8, 9] rfl (by decide) rfl (by decide) (by decide) rfl (by decide) (wr := []) (w2 := (ce_X7 kA q_this q_this_tokens q_this_draft u_22.2.1 ++ (ce_X10 kA q_this_tokens u_22.2.2.1 ++ (ce_X5 kA q_this_draft u_22.2.2.2)))) (fun H locs hP hD hS => ?_)
                  have hP : va_P D vwCl (ce_X7 kA q_this q_this_tokens q_this_draft u_22.2.1 ++ (ce_X10 kA q_this_tokens u_22.2.2.1 ++ (ce_X5 kA q_this_draft u_22.2.2.2))) H := hP
                  obtain ⟨hz_24, hf⟩ := os_if hf
                  rw [← Option.some.inj hf]
                  exact mx_retz (Nat.le_of_ble_eq_true rfl) (Nat.le_of_ble_eq_true rfl) hx hb hr (os_z_n hz_24) hlk hP hK hD hS dX7_readStatement_67
            · rw [if_neg hc_9] at hf
              refine lv_aload_n hx hb dX7_readStatement_46 rfl (lv_at hl 0 rfl) ?_
              obtain ⟨u_25, he_26, hf⟩ := os_bd hf
              refine mc_callV ⟨hx, hb, hml, hown, hts⟩ (mm_X7_readWall l D kA N q_this q_this_tokens q_this_draft o_this o_this_tokens o_this_draft u_25 he_26) (cwV 0 hts gX7_readStatement_X7_readWall rfl rfl rfl (by decide +kernel) ⟨Nat.le_of_ble_eq_true rfl, Nat.le_of_ble_eq_true rfl⟩) (wc := (ce_X7 kA q_this q_this_tokens q_this_draft o_this ++ (ce_X10 kA q_this_tokens o_this_tokens ++ (ce_X5 kA q_this_draft o_this_draft)))) (ci := 6) (q0 := 0) rfl rfl rfl hl.1 (As := []) (rest := []) rfl (Nat.le_of_ble_eq_true rfl) dX7_readStatement_47 ⟨Nat.le_of_ble_eq_true rfl, Nat.le_of_ble_eq_true rfl⟩ hK hP hD hS hA [0, 1, 2, 3, 4, 5, 6, 7, 8, 9] [] [0, 1, 2, 3, 4, 5, 6, 7, 8, 9] rfl (by decide) rfl (by decide) (by decide) rfl (by decide) (wr := []) (w2 := (ce_X7 kA q_this q_this_tokens q_this_draft u_25.2.1 ++ (ce_X10 kA q_this_tokens u_25.2.2.1 ++ (ce_X5 kA q_this_draft u_25.2.2.2)))) (fun H locs hP hD hS => ?_)
              have hP : va_P D vwCl (ce_X7 kA q_this q_this_tokens q_this_draft u_25.2.1 ++ (ce_X10 kA q_this_tokens u_25.2.2.1 ++ (ce_X5 kA q_this_draft u_25.2.2.2))) H := hP
              obtain ⟨hz_27, hf⟩ := os_if hf
              rw [← Option.some.inj hf]
              exact mx_retz (Nat.le_of_ble_eq_true rfl) (Nat.le_of_ble_eq_true rfl) hx hb hr (os_z_n hz_27) hlk hP hK hD hS dX7_readStatement_50
        · rw [if_neg hc_6] at hf
          refine lv_aload_n hx hb dX7_readStatement_29 rfl (lv_at hl 0 rfl) ?_
          obtain ⟨u_28, he_29, hf⟩ := os_bd hf
          refine mx_callV ⟨hx, hb, hml, hown, hts⟩ (mm_X7_readSteps l hst zz D kA N q_this q_this_tokens q_this_draft o_this o_this_tokens o_this_draft u_28 he_29) (cwV 0 hts gX7_readStatement_X7_readSteps rfl rfl rfl (by decide +kernel) ⟨Nat.le_of_ble_eq_true rfl, Nat.le_of_ble_eq_true rfl⟩) (wc := (ce_X7 kA q_this q_this_tokens q_this_draft o_this ++ (ce_X10 kA q_this_tokens o_this_tokens ++ (ce_X5 kA q_this_draft o_this_draft)))) (ci := 6) (q0 := 0) rfl rfl rfl hl.1 (As := []) (rest := []) rfl (Nat.le_of_ble_eq_true rfl) dX7_readStatement_30 ⟨Nat.le_of_ble_eq_true rfl, Nat.le_of_ble_eq_true rfl⟩ hK hP hD hS hA hZ [0, 1, 2, 3, 4, 5, 6, 7, 8, 9] [] [0, 1, 2, 3, 4, 5, 6, 7, 8, 9] rfl (by decide) rfl (by decide) (by decide) rfl (by decide) (wr := []) (w2 := (ce_X7 kA q_this q_this_tokens q_this_draft u_28.2.2.1 ++ (ce_X10 kA q_this_tokens u_28.2.2.2.1 ++ (ce_X5 kA q_this_draft u_28.2.2.2.2)))) (fun hx9 H locs q9 ce hP hD hS h91 h92 h93 => ?_) (fun hx9 H locs hP hD hS => ?_)
          · rw [if_neg hx9] at hf
            rw [← Option.some.inj hf]
            exact mx_out hx9 hx0 hlk hP hK hD hS h91 h92 h93 (Nat.le_of_ble_eq_true rfl) (Nat.le_of_ble_eq_true rfl)
          · rw [if_pos hx9] at hf
            refine W.widen (k := 0) (n := 0) (Nat.le_of_ble_eq_true rfl) (Nat.le_of_ble_eq_true rfl) ?_
            have hP : va_P D vwCl (ce_X7 kA q_this q_this_tokens q_this_draft u_28.2.2.1 ++ (ce_X10 kA q_this_tokens u_28.2.2.2.1 ++ (ce_X5 kA q_this_draft u_28.2.2.2.2))) H := hP
            obtain ⟨hz_30, hf⟩ := os_if hf
            rw [← Option.some.inj hf]
            exact mx_retz (Nat.le_of_ble_eq_true rfl) (Nat.le_of_ble_eq_true rfl) hx hb hr (os_z_n hz_30) hlk hP hK hD hS dX7_readStatement_33
    · rw [if_neg hc_3] at hf
      refine lv_aload_n hx hb dX7_readStatement_12 rfl (lv_at hl 0 rfl) ?_
      obtain ⟨u_31, he_32, hf⟩ := os_bd hf
      refine mc_callV ⟨hx, hb, hml, hown, hts⟩ (mm_X7_readPanel l D kA N q_this q_this_tokens q_this_draft o_this o_this_tokens o_this_draft u_31 he_32) (cwV 0 hts gX7_readStatement_X7_readPanel rfl rfl rfl (by decide +kernel) ⟨Nat.le_of_ble_eq_true rfl, Nat.le_of_ble_eq_true rfl⟩) (wc := (ce_X7 kA q_this q_this_tokens q_this_draft o_this ++ (ce_X10 kA q_this_tokens o_this_tokens ++ (ce_X5 kA q_this_draft o_this_draft)))) (ci := 6) (q0 := 0) rfl rfl rfl hl.1 (As := []) (rest := []) rfl (Nat.le_of_ble_eq_true rfl) dX7_readStatement_13 ⟨Nat.le_of_ble_eq_true rfl, Nat.le_of_ble_eq_true rfl⟩ hK hP hD hS hA [0, 1, 2, 3, 4, 5, 6, 7, 8, 9] [] [0, 1, 2, 3, 4, 5, 6, 7, 8, 9] rfl (by decide) rfl (by decide) (by decide) rfl (by decide) (wr := []) (w2 := (ce_X7 kA q_this q_this_tokens q_this_draft u_31.2.1 ++ (ce_X10 kA q_this_tokens u_31.2.2.1 ++ (ce_X5 kA q_this_draft u_31.2.2.2)))) (fun H locs hP hD hS => ?_)
      have hP : va_P D vwCl (ce_X7 kA q_this q_this_tokens q_this_draft u_31.2.1 ++ (ce_X10 kA q_this_tokens u_31.2.2.1 ++ (ce_X5 kA q_this_draft u_31.2.2.2))) H := hP
      obtain ⟨hz_33, hf⟩ := os_if hf
      rw [← Option.some.inj hf]
      exact mx_retz (Nat.le_of_ble_eq_true rfl) (Nat.le_of_ble_eq_true rfl) hx hb hr (os_z_n hz_33) hlk hP hK hD hS dX7_readStatement_16
def ff_X7_readDraft_b100 (N : Nat) (o_this : os_T) (o_this_tokens : os_T) (o_this_draft : os_T) : Option (Nat × Int32 × os_T × os_T × os_T) :=
  ((ff_X5_develop N o_this_draft).bind fun u_15 => some (0, (1 : Int32), o_this, o_this_tokens, u_15))
def ff_X7_readDraft_c46 (N : Nat) (k46 : (os_T × os_T × os_T × Int32) → Option (Nat × Int32 × os_T × os_T × os_T)) (o_this : os_T) (o_this_tokens : os_T) (o_this_draft : os_T) (x1 : Int32) : Option (Nat × Int32 × os_T × os_T × os_T) :=
  (if (900 : Int32) ≤ x1 then ff_X7_readDraft_b100 N o_this o_this_tokens o_this_draft else ((ff_X10_isAtEnd N o_this_tokens).bind fun u_6 => (if u_6 = 0 then ((ff_X7_readStatement N o_this o_this_tokens o_this_draft).bind fun u_9 => (if u_9.1 = 0 then (if u_9.2.1 = 0 then some (0, (0 : Int32), u_9.2.2.1, u_9.2.2.2.1, u_9.2.2.2.2) else ((ff_X10_takeSign N u_9.2.2.2.1 (59 : Int32)).bind fun u_12 => (if u_12.1 = 0 then some (0, (0 : Int32), u_9.2.2.1, u_12.2, u_9.2.2.2.2) else k46 (ss_I u_9.2.2.1 7 ((os_I u_9.2.2.1 7) + (1 : Int32)), u_12.2, u_9.2.2.2.2, x1 + 1)))) else some (u_9.1, (0 : Int32), u_9.2.2.1, u_9.2.2.2.1, u_9.2.2.2.2))) else ff_X7_readDraft_b100 N o_this o_this_tokens o_this_draft)))
def ff_X7_readDraft_l46 (N : Nat) : Nat → (os_T × os_T × os_T × Int32) → Option (Nat × Int32 × os_T × os_T × os_T) := os_loop (fun k46 s1 => ff_X7_readDraft_c46 N k46 s1.1 s1.2.1 s1.2.2.1 s1.2.2.2)
def ff_X7_readDraft (N : Nat) (o_this : os_T) (o_this_tokens : os_T) (o_this_draft : os_T) : Option (Nat × Int32 × os_T × os_T × os_T) :=
  ((ff_X5_clear N o_this_draft).bind fun u_1 => ((ff_X10_begin N o_this_tokens).bind fun u_3 => ff_X7_readDraft_l46 N N (ss_I (ss_I (ss_I (ss_I (ss_I (ss_I o_this 2 (0 : Int32)) 3 (0 : Int32)) 4 (0 : Int32)) 5 (0 : Int32)) 6 (0 : Int32)) 7 (0 : Int32), u_3, u_1, (0 : Int32))))
set_option maxHeartbeats 4000000 in
set_option maxRecDepth 100000 in
theorem mm_X7_readDraft (l : Launch) (hst : l.stackTraces = false) (zz : Nat → Nat → Nat) (D : va_G) (kA : Nat → ClassId) (N : Nat) (q_this : Nat → Nat) (q_this_tokens : Nat → Nat) (q_this_draft : Nat → Nat) (o_this : os_T) (o_this_tokens : os_T) (o_this_draft : os_T) (out : (Nat × Int32 × os_T × os_T × os_T)) (hf : ff_X7_readDraft N o_this o_this_tokens o_this_draft = some out) : mx_C l zz D kA yX7_readDraft wsX7_readDraft ({ frames := 8, cells := 0, slots := 0, locals := 168 } : Room) [.ref (q_this 0)] (ce_X7 kA q_this q_this_tokens q_this_draft o_this ++ (ce_X10 kA q_this_tokens o_this_tokens ++ (ce_X5 kA q_this_draft o_this_draft))) out.1 (some (.int out.2.1)) (ce_X7 kA q_this q_this_tokens q_this_draft out.2.2.1 ++ (ce_X10 kA q_this_tokens out.2.2.2.1 ++ (ce_X5 kA q_this_draft out.2.2.2.2))) := by
  refine mx_of (cc := cX7_readDraft) (maxL := 2) (ret := (some .boolean)) (by decide) rfl (Nat.le_of_ble_eq_true rfl) ?_
  intro p e s m below meth c A B hx0 hZ hD hP hS ls hl
  obtain ⟨hx, hb, hr, hlk, hml, hown, hts, hK, hA, hnm⟩ := B
  have hown : s.vm.findClass RX7 = some m.cls := hown
  have hl : lv_has ls 2 [(0, .ref (q_this 0))] := hl
  have hUX7 : ∀ w ∈ u_ws RX7 TX7 8, w.before [.ref (q_this 0)].toArray s = true := fun w h => hts w (List.mem_cons_of_mem _ (List.mem_append_left _ (List.mem_append_left _ (List.mem_append_left _ (List.mem_append_right _ h)))))
  have hB100 : ∀ (o_this : os_T) (o_this_tokens : os_T) (o_this_draft : os_T) (H : Heap) (locs : List Loc) (ls : Array Slot), va_P D vwCl (ce_X7 kA q_this q_this_tokens q_this_draft o_this ++ (ce_X10 kA q_this_tokens o_this_tokens ++ (ce_X5 kA q_this_draft o_this_draft))) H → va_D A (ce_X7 kA q_this q_this_tokens q_this_draft o_this ++ (ce_X10 kA q_this_tokens o_this_tokens ++ (ce_X5 kA q_this_draft o_this_draft))) → va_S A s.heap H locs → lv_has ls 2 [(0, .ref (q_this 0))] → ff_X7_readDraft_b100 N o_this o_this_tokens o_this_draft = some out → W p l e ({ frames := 8, cells := 0, slots := 0, locals := 168 } : Room) s m [.ref (q_this 0)].toArray below meth c H locs 0 0 (vx_MQ below (mx_Q D kA A out.1 (some (.int out.2.1)) (ce_X7 kA q_this q_this_tokens q_this_draft out.2.2.1 ++ (ce_X10 kA q_this_tokens out.2.2.2.1 ++ (ce_X5 kA q_this_draft out.2.2.2.2)))) (mx_X D kA A out.1 (ce_X7 kA q_this q_this_tokens q_this_draft out.2.2.1 ++ (ce_X10 kA q_this_tokens out.2.2.2.1 ++ (ce_X5 kA q_this_draft out.2.2.2.2)))) [.ref (q_this 0)].toArray s 0 0 A) (F0 m 100 ls []) := by
    intro o_this o_this_tokens o_this_draft H locs ls hP hD hS hl hf
    unfold ff_X7_readDraft_b100 at hf
    refine lv_aload_n hx hb dX7_readDraft_100 rfl (lv_at hl 0 rfl) ?_
    refine va_get (D := D) (ci := 6) (v := .ref (q_this_draft 0)) (C := RX7) (T := TX7) (N := 8) hx hb hUX7 (fun _ h9 => h9) hown hK hP 0 rfl rfl 1 (by decide) (hts (Cond.fieldLink RX7 15 "ReliefBuilder$ReliefText" "draft" "LReliefBuilder$Panel;") (List.mem_of_getElem? (i := 1) rfl)) (fun _ h9 => h9) rfl dX7_readDraft_101 ?_
    obtain ⟨u_15, he_16, hf⟩ := os_bd hf
    refine mc_callV ⟨hx, hb, hml, hown, hts⟩ (mm_X5_develop l D kA N q_this_draft o_this_draft u_15 he_16) (cwV 0 hts gX7_readDraft_X5_develop rfl rfl rfl (by decide +kernel) ⟨Nat.le_of_ble_eq_true rfl, Nat.le_of_ble_eq_true rfl⟩) (wc := (ce_X5 kA q_this_draft o_this_draft)) (ci := 4) (q0 := 0) rfl rfl rfl hl.1 (As := []) (rest := []) rfl (Nat.le_of_ble_eq_true rfl) dX7_readDraft_104 ⟨Nat.le_of_ble_eq_true rfl, Nat.le_of_ble_eq_true rfl⟩ hK hP hD hS hA [6, 7, 8, 9] [0, 1, 2, 3, 4, 5] [0, 1, 2, 3, 4, 5, 6, 7, 8, 9] rfl (by decide) rfl (by decide) (by decide) rfl (by decide) (wr := (ce_X7 kA q_this q_this_tokens q_this_draft o_this ++ (ce_X10 kA q_this_tokens o_this_tokens))) (w2 := (ce_X7 kA q_this q_this_tokens q_this_draft o_this ++ (ce_X10 kA q_this_tokens o_this_tokens ++ (ce_X5 kA q_this_draft u_15)))) (fun H locs hP hD hS => ?_)
    have hP : va_P D vwCl (ce_X7 kA q_this q_this_tokens q_this_draft o_this ++ (ce_X10 kA q_this_tokens o_this_tokens ++ (ce_X5 kA q_this_draft u_15))) H := hP
    refine lv_iconst (v := 1) hx hb dX7_readDraft_107 (by decide) ?_
    rw [← Option.some.inj hf]
    exact mx_retz (v := 1) (Nat.le_of_ble_eq_true rfl) (Nat.le_of_ble_eq_true rfl) hx hb hr rfl hlk hP hK hD hS dX7_readDraft_108
  have hL46 : ∀ (n : Nat) (o_this : os_T) (o_this_tokens : os_T) (o_this_draft : os_T) (x1 : Int32) (H : Heap) (locs : List Loc) (ls : Array Slot), va_P D vwCl (ce_X7 kA q_this q_this_tokens q_this_draft o_this ++ (ce_X10 kA q_this_tokens o_this_tokens ++ (ce_X5 kA q_this_draft o_this_draft))) H → va_D A (ce_X7 kA q_this q_this_tokens q_this_draft o_this ++ (ce_X10 kA q_this_tokens o_this_tokens ++ (ce_X5 kA q_this_draft o_this_draft))) → va_S A s.heap H locs → lv_has ls 2 [(0, .ref (q_this 0)), (1, .int x1)] → ff_X7_readDraft_l46 N n (o_this, o_this_tokens, o_this_draft, x1) = some out → W p l e ({ frames := 8, cells := 0, slots := 0, locals := 168 } : Room) s m [.ref (q_this 0)].toArray below meth c H locs 0 0 (vx_MQ below (mx_Q D kA A out.1 (some (.int out.2.1)) (ce_X7 kA q_this q_this_tokens q_this_draft out.2.2.1 ++ (ce_X10 kA q_this_tokens out.2.2.2.1 ++ (ce_X5 kA q_this_draft out.2.2.2.2)))) (mx_X D kA A out.1 (ce_X7 kA q_this q_this_tokens q_this_draft out.2.2.1 ++ (ce_X10 kA q_this_tokens out.2.2.2.1 ++ (ce_X5 kA q_this_draft out.2.2.2.2)))) [.ref (q_this 0)].toArray s 0 0 A) (F0 m 46 ls []) := by
    intro n
    induction n with
    | zero => intro o_this o_this_tokens o_this_draft x1 H locs ls _ _ _ _ hf; cases hf
    | succ n hk46 =>
      intro o_this o_this_tokens o_this_draft x1 H locs ls hP hD hS hl hf
      have hf : ff_X7_readDraft_c46 N (ff_X7_readDraft_l46 N n) o_this o_this_tokens o_this_draft x1 = some out := hf
      generalize hke : ff_X7_readDraft_l46 N n = k46 at hk46 hf
      unfold ff_X7_readDraft_c46 at hf
      refine lv_iload_n hx hb dX7_readDraft_46 rfl (lv_at hl 1 rfl) ?_
      refine lv_sipush (v := 900) hx hb dX7_readDraft_47 (by decide) ?_
      refine lv_icmp_ge (tgt := 100) hx hb dX7_readDraft_50 (by decide) (fun hc_5 => ?_) (fun hc_5 => ?_)
      · rw [if_pos hc_5] at hf
        exact hB100 o_this o_this_tokens o_this_draft _ _ _ hP hD hS (lv_sub hl [0] rfl) hf
      · rw [if_neg hc_5] at hf
        refine lv_aload_n hx hb dX7_readDraft_53 rfl (lv_at hl 0 rfl) ?_
        refine va_get (D := D) (ci := 6) (v := .ref (q_this_tokens 0)) (C := RX7) (T := TX7) (N := 8) hx hb hUX7 (fun _ h9 => h9) hown hK hP 0 rfl rfl 0 (by decide) (hts (Cond.fieldLink RX7 9 "ReliefBuilder$ReliefText" "tokens" "LReliefBuilder$Tokens;") (List.mem_of_getElem? (i := 8) rfl)) (fun _ h9 => h9) rfl dX7_readDraft_54 ?_
        obtain ⟨u_6, he_7, hf⟩ := os_bd hf
        refine mc_callV ⟨hx, hb, hml, hown, hts⟩ (mm_X10_isAtEnd l D kA N q_this_tokens o_this_tokens u_6 he_7) (cwV 0 hts gX7_readDraft_X10_isAtEnd rfl rfl rfl (by decide +kernel) ⟨Nat.le_of_ble_eq_true rfl, Nat.le_of_ble_eq_true rfl⟩) (wc := (ce_X10 kA q_this_tokens o_this_tokens)) (ci := 8) (q0 := 0) rfl rfl rfl hl.1 (As := []) (rest := []) rfl (Nat.le_of_ble_eq_true rfl) dX7_readDraft_57 ⟨Nat.le_of_ble_eq_true rfl, Nat.le_of_ble_eq_true rfl⟩ hK hP hD hS hA [1, 2, 3, 4, 5] [0, 6, 7, 8, 9] [0, 5, 6, 7, 8, 9, 1, 2, 3, 4] rfl (by decide) rfl (by decide) (by decide) rfl (by decide) (wr := (ce_X7 kA q_this q_this_tokens q_this_draft o_this ++ (ce_X5 kA q_this_draft o_this_draft))) (w2 := (ce_X7 kA q_this q_this_tokens q_this_draft o_this ++ (ce_X10 kA q_this_tokens o_this_tokens ++ (ce_X5 kA q_this_draft o_this_draft)))) (fun H locs hP hD hS => ?_)
        have hP : va_P D vwCl (ce_X7 kA q_this q_this_tokens q_this_draft o_this ++ (ce_X10 kA q_this_tokens o_this_tokens ++ (ce_X5 kA q_this_draft o_this_draft))) H := hP
        refine lv_if_ne (tgt := 100) hx hb dX7_readDraft_60 (by decide) (fun hc_8 => ?_) (fun hc_8 => ?_)
        · rw [if_neg hc_8] at hf
          exact hB100 o_this o_this_tokens o_this_draft _ _ _ hP hD hS (lv_sub hl [0] rfl) hf
        · rw [if_pos hc_8] at hf
          refine lv_aload_n hx hb dX7_readDraft_63 rfl (lv_at hl 0 rfl) ?_
          obtain ⟨u_9, he_10, hf⟩ := os_bd hf
          refine mx_callV ⟨hx, hb, hml, hown, hts⟩ (mm_X7_readStatement l hst zz D kA N q_this q_this_tokens q_this_draft o_this o_this_tokens o_this_draft u_9 he_10) (cwV 0 hts gX7_readDraft_X7_readStatement rfl rfl rfl (by decide +kernel) ⟨Nat.le_of_ble_eq_true rfl, Nat.le_of_ble_eq_true rfl⟩) (wc := (ce_X7 kA q_this q_this_tokens q_this_draft o_this ++ (ce_X10 kA q_this_tokens o_this_tokens ++ (ce_X5 kA q_this_draft o_this_draft)))) (ci := 6) (q0 := 0) rfl rfl rfl hl.1 (As := []) (rest := []) rfl (Nat.le_of_ble_eq_true rfl) dX7_readDraft_64 ⟨Nat.le_of_ble_eq_true rfl, Nat.le_of_ble_eq_true rfl⟩ hK hP hD hS hA hZ [0, 1, 2, 3, 4, 5, 6, 7, 8, 9] [] [0, 1, 2, 3, 4, 5, 6, 7, 8, 9] rfl (by decide) rfl (by decide) (by decide) rfl (by decide) (wr := []) (w2 := (ce_X7 kA q_this q_this_tokens q_this_draft u_9.2.2.1 ++ (ce_X10 kA q_this_tokens u_9.2.2.2.1 ++ (ce_X5 kA q_this_draft u_9.2.2.2.2)))) (fun hx9 H locs q9 ce hP hD hS h91 h92 h93 => ?_) (fun hx9 H locs hP hD hS => ?_)
          · rw [if_neg hx9] at hf
            rw [← Option.some.inj hf]
            exact mx_out hx9 hx0 hlk hP hK hD hS h91 h92 h93 (Nat.le_of_ble_eq_true rfl) (Nat.le_of_ble_eq_true rfl)
          · rw [if_pos hx9] at hf
            refine W.widen (k := 0) (n := 0) (Nat.le_of_ble_eq_true rfl) (Nat.le_of_ble_eq_true rfl) ?_
            have hP : va_P D vwCl (ce_X7 kA q_this q_this_tokens q_this_draft u_9.2.2.1 ++ (ce_X10 kA q_this_tokens u_9.2.2.2.1 ++ (ce_X5 kA q_this_draft u_9.2.2.2.2))) H := hP
            refine lv_if_eq (tgt := 82) hx hb dX7_readDraft_67 (by decide) (fun hc_11 => ?_) (fun hc_11 => ?_)
            · rw [if_pos hc_11] at hf
              refine lv_iconst (v := 0) hx hb dX7_readDraft_82 (by decide) ?_
              rw [← Option.some.inj hf]
              exact mx_retz (v := 0) (Nat.le_of_ble_eq_true rfl) (Nat.le_of_ble_eq_true rfl) hx hb hr rfl hlk hP hK hD hS dX7_readDraft_83
            · rw [if_neg hc_11] at hf
              refine lv_aload_n hx hb dX7_readDraft_70 rfl (lv_at hl 0 rfl) ?_
              refine va_get (D := D) (ci := 6) (v := .ref (q_this_tokens 0)) (C := RX7) (T := TX7) (N := 8) hx hb hUX7 (fun _ h9 => h9) hown hK hP 0 rfl rfl 0 (by decide) (hts (Cond.fieldLink RX7 9 "ReliefBuilder$ReliefText" "tokens" "LReliefBuilder$Tokens;") (List.mem_of_getElem? (i := 8) rfl)) (fun _ h9 => h9) rfl dX7_readDraft_71 ?_
              refine lv_bipush (v := 59) hx hb dX7_readDraft_74 (by decide) ?_
              obtain ⟨u_12, he_13, hf⟩ := os_bd hf
              refine mc_callV ⟨hx, hb, hml, hown, hts⟩ (mm_X10_takeSign l D kA N q_this_tokens u_9.2.2.2.1 (59 : Int32) u_12 he_13) (cwV 1 hts gX7_readDraft_X10_takeSign rfl rfl rfl (by decide +kernel) ⟨Nat.le_of_ble_eq_true rfl, Nat.le_of_ble_eq_true rfl⟩) (wc := (ce_X10 kA q_this_tokens u_9.2.2.2.1)) (ci := 8) (q0 := 0) rfl rfl rfl hl.1 (As := [.int (59 : Int32)]) (rest := []) rfl (Nat.le_of_ble_eq_true rfl) dX7_readDraft_76 ⟨Nat.le_of_ble_eq_true rfl, Nat.le_of_ble_eq_true rfl⟩ hK hP hD hS hA [1, 2, 3, 4, 5] [0, 6, 7, 8, 9] [0, 5, 6, 7, 8, 9, 1, 2, 3, 4] rfl (by decide) rfl (by decide) (by decide) rfl (by decide) (wr := (ce_X7 kA q_this q_this_tokens q_this_draft u_9.2.2.1 ++ (ce_X5 kA q_this_draft u_9.2.2.2.2))) (w2 := (ce_X7 kA q_this q_this_tokens q_this_draft u_9.2.2.1 ++ (ce_X10 kA q_this_tokens u_12.2 ++ (ce_X5 kA q_this_draft u_9.2.2.2.2)))) (fun H locs hP hD hS => ?_)
              have hP : va_P D vwCl (ce_X7 kA q_this q_this_tokens q_this_draft u_9.2.2.1 ++ (ce_X10 kA q_this_tokens u_12.2 ++ (ce_X5 kA q_this_draft u_9.2.2.2.2))) H := hP
              refine lv_if_ne (tgt := 84) hx hb dX7_readDraft_79 (by decide) (fun hc_14 => ?_) (fun hc_14 => ?_)
              · rw [if_neg hc_14] at hf
                refine lv_aload_n hx hb dX7_readDraft_84 rfl (lv_at hl 0 rfl) ?_
                refine lv_dup hx hb dX7_readDraft_85 rfl ?_
                refine va_get (D := D) (ci := 6) (v := .int (os_I u_9.2.2.1 7)) (C := RX7) (T := TX7) (N := 8) hx hb hUX7 (fun _ h9 => h9) hown hK hP 0 rfl rfl 7 (by decide) (hts (Cond.fieldLink RX7 41 "ReliefBuilder$ReliefText" "statements" "I") (List.mem_of_getElem? (i := 7) rfl)) (fun _ h9 => h9) rfl dX7_readDraft_86 ?_
                refine lv_iconst (v := 1) hx hb dX7_readDraft_89 (by decide) ?_
                refine lv_iadd hx hb dX7_readDraft_90 ?_
                refine va_put (D := D) (ci := 6) (v := .int ((os_I u_9.2.2.1 7) + (1 : Int32))) (ty := .int) (C := RX7) (T := TX7) (N := 8) hx hb hUX7 (fun _ h9 => h9) tyX7 tyX7_ok nmX7 hown hK hP hD hS 0 rfl rfl 7 (by decide) (hts (Cond.fieldLink RX7 41 "ReliefBuilder$ReliefText" "statements" "I") (List.mem_of_getElem? (i := 7) rfl)) (fun _ h9 => h9) rfl (tyX7_ok 7 (by decide)) rfl rfl (Nat.le_of_ble_eq_true rfl) dX7_readDraft_91 (fun H locs hP hD hS => ?_)
                have hP : va_P D vwCl (ce_X7 kA q_this q_this_tokens q_this_draft (ss_I u_9.2.2.1 7 ((os_I u_9.2.2.1 7) + (1 : Int32))) ++ (ce_X10 kA q_this_tokens u_12.2 ++ (ce_X5 kA q_this_draft u_9.2.2.2.2))) H := hP
                have hD : va_D A (ce_X7 kA q_this q_this_tokens q_this_draft (ss_I u_9.2.2.1 7 ((os_I u_9.2.2.1 7) + (1 : Int32))) ++ (ce_X10 kA q_this_tokens u_12.2 ++ (ce_X5 kA q_this_draft u_9.2.2.2.2))) := hD
                refine lv_iinc (v := x1 + 1) (lv' := [(1, .int (x1 + 1)), (0, .ref (q_this 0))]) hx hb dX7_readDraft_94 hl (k := 1) rfl rfl (by decide) rfl (fun ls hl => ?_)
                refine lv_goto (tgt := 46) hx hb dX7_readDraft_97 (by decide) ?_
                exact hk46 (ss_I u_9.2.2.1 7 ((os_I u_9.2.2.1 7) + (1 : Int32))) u_12.2 u_9.2.2.2.2 (x1 + 1) _ _ _ hP hD hS (lv_sub hl [1, 0] rfl) hf
              · rw [if_pos hc_14] at hf
                refine lv_iconst (v := 0) hx hb dX7_readDraft_82 (by decide) ?_
                rw [← Option.some.inj hf]
                exact mx_retz (v := 0) (Nat.le_of_ble_eq_true rfl) (Nat.le_of_ble_eq_true rfl) hx hb hr rfl hlk hP hK hD hS dX7_readDraft_83
  unfold ff_X7_readDraft at hf
  refine lv_aload_n hx hb dX7_readDraft_0 rfl (lv_at hl 0 rfl) ?_
  refine va_get (D := D) (ci := 6) (v := .ref (q_this_draft 0)) (C := RX7) (T := TX7) (N := 8) hx hb hUX7 (fun _ h9 => h9) hown hK hP 0 rfl rfl 1 (by decide) (hts (Cond.fieldLink RX7 15 "ReliefBuilder$ReliefText" "draft" "LReliefBuilder$Panel;") (List.mem_of_getElem? (i := 1) rfl)) (fun _ h9 => h9) rfl dX7_readDraft_1 ?_
  obtain ⟨u_1, he_2, hf⟩ := os_bd hf
  refine mc_callV ⟨hx, hb, hml, hown, hts⟩ (mm_X5_clear l D kA N q_this_draft o_this_draft u_1 he_2) (cwV 0 hts gX7_readDraft_X5_clear rfl rfl rfl (by decide +kernel) ⟨Nat.le_of_ble_eq_true rfl, Nat.le_of_ble_eq_true rfl⟩) (wc := (ce_X5 kA q_this_draft o_this_draft)) (ci := 4) (q0 := 0) rfl rfl rfl hl.1 (As := []) (rest := []) rfl (Nat.le_of_ble_eq_true rfl) dX7_readDraft_4 ⟨Nat.le_of_ble_eq_true rfl, Nat.le_of_ble_eq_true rfl⟩ hK hP hD hS hA [6, 7, 8, 9] [0, 1, 2, 3, 4, 5] [0, 1, 2, 3, 4, 5, 6, 7, 8, 9] rfl (by decide) rfl (by decide) (by decide) rfl (by decide) (wr := (ce_X7 kA q_this q_this_tokens q_this_draft o_this ++ (ce_X10 kA q_this_tokens o_this_tokens))) (w2 := (ce_X7 kA q_this q_this_tokens q_this_draft o_this ++ (ce_X10 kA q_this_tokens o_this_tokens ++ (ce_X5 kA q_this_draft u_1)))) (fun H locs hP hD hS => ?_)
  have hP : va_P D vwCl (ce_X7 kA q_this q_this_tokens q_this_draft o_this ++ (ce_X10 kA q_this_tokens o_this_tokens ++ (ce_X5 kA q_this_draft u_1))) H := hP
  refine lv_aload_n hx hb dX7_readDraft_7 rfl (lv_at hl 0 rfl) ?_
  refine lv_iconst (v := 0) hx hb dX7_readDraft_8 (by decide) ?_
  refine va_put (D := D) (ci := 6) (v := .int (0 : Int32)) (ty := .boolean) (C := RX7) (T := TX7) (N := 8) hx hb hUX7 (fun _ h9 => h9) tyX7 tyX7_ok nmX7 hown hK hP hD hS 0 rfl rfl 2 (by decide) (hts (Cond.fieldLink RX7 24 "ReliefBuilder$ReliefText" "hasPanel" "Z") (List.mem_of_getElem? (i := 2) rfl)) (fun _ h9 => h9) rfl (tyX7_ok 2 (by decide)) rfl rfl (Nat.le_of_ble_eq_true rfl) dX7_readDraft_9 (fun H locs hP hD hS => ?_)
  have hP : va_P D vwCl (ce_X7 kA q_this q_this_tokens q_this_draft (ss_I o_this 2 (0 : Int32)) ++ (ce_X10 kA q_this_tokens o_this_tokens ++ (ce_X5 kA q_this_draft u_1))) H := hP
  have hD : va_D A (ce_X7 kA q_this q_this_tokens q_this_draft (ss_I o_this 2 (0 : Int32)) ++ (ce_X10 kA q_this_tokens o_this_tokens ++ (ce_X5 kA q_this_draft u_1))) := hD
  refine lv_aload_n hx hb dX7_readDraft_12 rfl (lv_at hl 0 rfl) ?_
  refine lv_iconst (v := 0) hx hb dX7_readDraft_13 (by decide) ?_
  refine va_put (D := D) (ci := 6) (v := .int (0 : Int32)) (ty := .boolean) (C := RX7) (T := TX7) (N := 8) hx hb hUX7 (fun _ h9 => h9) tyX7 tyX7_ok nmX7 hown hK hP hD hS 0 rfl rfl 3 (by decide) (hts (Cond.fieldLink RX7 28 "ReliefBuilder$ReliefText" "hasSteps" "Z") (List.mem_of_getElem? (i := 3) rfl)) (fun _ h9 => h9) rfl (tyX7_ok 3 (by decide)) rfl rfl (Nat.le_of_ble_eq_true rfl) dX7_readDraft_14 (fun H locs hP hD hS => ?_)
  have hP : va_P D vwCl (ce_X7 kA q_this q_this_tokens q_this_draft (ss_I (ss_I o_this 2 (0 : Int32)) 3 (0 : Int32)) ++ (ce_X10 kA q_this_tokens o_this_tokens ++ (ce_X5 kA q_this_draft u_1))) H := hP
  have hD : va_D A (ce_X7 kA q_this q_this_tokens q_this_draft (ss_I (ss_I o_this 2 (0 : Int32)) 3 (0 : Int32)) ++ (ce_X10 kA q_this_tokens o_this_tokens ++ (ce_X5 kA q_this_draft u_1))) := hD
  refine lv_aload_n hx hb dX7_readDraft_17 rfl (lv_at hl 0 rfl) ?_
  refine lv_iconst (v := 0) hx hb dX7_readDraft_18 (by decide) ?_
  refine va_put (D := D) (ci := 6) (v := .int (0 : Int32)) (ty := .boolean) (C := RX7) (T := TX7) (N := 8) hx hb hUX7 (fun _ h9 => h9) tyX7 tyX7_ok nmX7 hown hK hP hD hS 0 rfl rfl 4 (by decide) (hts (Cond.fieldLink RX7 31 "ReliefBuilder$ReliefText" "hasWall" "Z") (List.mem_of_getElem? (i := 4) rfl)) (fun _ h9 => h9) rfl (tyX7_ok 4 (by decide)) rfl rfl (Nat.le_of_ble_eq_true rfl) dX7_readDraft_19 (fun H locs hP hD hS => ?_)
  have hP : va_P D vwCl (ce_X7 kA q_this q_this_tokens q_this_draft (ss_I (ss_I (ss_I o_this 2 (0 : Int32)) 3 (0 : Int32)) 4 (0 : Int32)) ++ (ce_X10 kA q_this_tokens o_this_tokens ++ (ce_X5 kA q_this_draft u_1))) H := hP
  have hD : va_D A (ce_X7 kA q_this q_this_tokens q_this_draft (ss_I (ss_I (ss_I o_this 2 (0 : Int32)) 3 (0 : Int32)) 4 (0 : Int32)) ++ (ce_X10 kA q_this_tokens o_this_tokens ++ (ce_X5 kA q_this_draft u_1))) := hD
  refine lv_aload_n hx hb dX7_readDraft_22 rfl (lv_at hl 0 rfl) ?_
  refine lv_iconst (v := 0) hx hb dX7_readDraft_23 (by decide) ?_
  refine va_put (D := D) (ci := 6) (v := .int (0 : Int32)) (ty := .boolean) (C := RX7) (T := TX7) (N := 8) hx hb hUX7 (fun _ h9 => h9) tyX7 tyX7_ok nmX7 hown hK hP hD hS 0 rfl rfl 5 (by decide) (hts (Cond.fieldLink RX7 34 "ReliefBuilder$ReliefText" "hasSlope" "Z") (List.mem_of_getElem? (i := 5) rfl)) (fun _ h9 => h9) rfl (tyX7_ok 5 (by decide)) rfl rfl (Nat.le_of_ble_eq_true rfl) dX7_readDraft_24 (fun H locs hP hD hS => ?_)
  have hP : va_P D vwCl (ce_X7 kA q_this q_this_tokens q_this_draft (ss_I (ss_I (ss_I (ss_I o_this 2 (0 : Int32)) 3 (0 : Int32)) 4 (0 : Int32)) 5 (0 : Int32)) ++ (ce_X10 kA q_this_tokens o_this_tokens ++ (ce_X5 kA q_this_draft u_1))) H := hP
  have hD : va_D A (ce_X7 kA q_this q_this_tokens q_this_draft (ss_I (ss_I (ss_I (ss_I o_this 2 (0 : Int32)) 3 (0 : Int32)) 4 (0 : Int32)) 5 (0 : Int32)) ++ (ce_X10 kA q_this_tokens o_this_tokens ++ (ce_X5 kA q_this_draft u_1))) := hD
  refine lv_aload_n hx hb dX7_readDraft_27 rfl (lv_at hl 0 rfl) ?_
  refine lv_iconst (v := 0) hx hb dX7_readDraft_28 (by decide) ?_
  refine va_put (D := D) (ci := 6) (v := .int (0 : Int32)) (ty := .int) (C := RX7) (T := TX7) (N := 8) hx hb hUX7 (fun _ h9 => h9) tyX7 tyX7_ok nmX7 hown hK hP hD hS 0 rfl rfl 6 (by decide) (hts (Cond.fieldLink RX7 37 "ReliefBuilder$ReliefText" "rowsTold" "I") (List.mem_of_getElem? (i := 6) rfl)) (fun _ h9 => h9) rfl (tyX7_ok 6 (by decide)) rfl rfl (Nat.le_of_ble_eq_true rfl) dX7_readDraft_29 (fun H locs hP hD hS => ?_)
  have hP : va_P D vwCl (ce_X7 kA q_this q_this_tokens q_this_draft (ss_I (ss_I (ss_I (ss_I (ss_I o_this 2 (0 : Int32)) 3 (0 : Int32)) 4 (0 : Int32)) 5 (0 : Int32)) 6 (0 : Int32)) ++ (ce_X10 kA q_this_tokens o_this_tokens ++ (ce_X5 kA q_this_draft u_1))) H := hP
  have hD : va_D A (ce_X7 kA q_this q_this_tokens q_this_draft (ss_I (ss_I (ss_I (ss_I (ss_I o_this 2 (0 : Int32)) 3 (0 : Int32)) 4 (0 : Int32)) 5 (0 : Int32)) 6 (0 : Int32)) ++ (ce_X10 kA q_this_tokens o_this_tokens ++ (ce_X5 kA q_this_draft u_1))) := hD
  refine lv_aload_n hx hb dX7_readDraft_32 rfl (lv_at hl 0 rfl) ?_
  refine lv_iconst (v := 0) hx hb dX7_readDraft_33 (by decide) ?_
  refine va_put (D := D) (ci := 6) (v := .int (0 : Int32)) (ty := .int) (C := RX7) (T := TX7) (N := 8) hx hb hUX7 (fun _ h9 => h9) tyX7 tyX7_ok nmX7 hown hK hP hD hS 0 rfl rfl 7 (by decide) (hts (Cond.fieldLink RX7 41 "ReliefBuilder$ReliefText" "statements" "I") (List.mem_of_getElem? (i := 7) rfl)) (fun _ h9 => h9) rfl (tyX7_ok 7 (by decide)) rfl rfl (Nat.le_of_ble_eq_true rfl) dX7_readDraft_34 (fun H locs hP hD hS => ?_)
  have hP : va_P D vwCl (ce_X7 kA q_this q_this_tokens q_this_draft (ss_I (ss_I (ss_I (ss_I (ss_I (ss_I o_this 2 (0 : Int32)) 3 (0 : Int32)) 4 (0 : Int32)) 5 (0 : Int32)) 6 (0 : Int32)) 7 (0 : Int32)) ++ (ce_X10 kA q_this_tokens o_this_tokens ++ (ce_X5 kA q_this_draft u_1))) H := hP
  have hD : va_D A (ce_X7 kA q_this q_this_tokens q_this_draft (ss_I (ss_I (ss_I (ss_I (ss_I (ss_I o_this 2 (0 : Int32)) 3 (0 : Int32)) 4 (0 : Int32)) 5 (0 : Int32)) 6 (0 : Int32)) 7 (0 : Int32)) ++ (ce_X10 kA q_this_tokens o_this_tokens ++ (ce_X5 kA q_this_draft u_1))) := hD
  refine lv_aload_n hx hb dX7_readDraft_37 rfl (lv_at hl 0 rfl) ?_
  refine va_get (D := D) (ci := 6) (v := .ref (q_this_tokens 0)) (C := RX7) (T := TX7) (N := 8) hx hb hUX7 (fun _ h9 => h9) hown hK hP 0 rfl rfl 0 (by decide) (hts (Cond.fieldLink RX7 9 "ReliefBuilder$ReliefText" "tokens" "LReliefBuilder$Tokens;") (List.mem_of_getElem? (i := 8) rfl)) (fun _ h9 => h9) rfl dX7_readDraft_38 ?_
  obtain ⟨u_3, he_4, hf⟩ := os_bd hf
  refine mc_callV ⟨hx, hb, hml, hown, hts⟩ (mm_X10_begin l D kA N q_this_tokens o_this_tokens u_3 he_4) (cwV 0 hts gX7_readDraft_X10_begin rfl rfl rfl (by decide +kernel) ⟨Nat.le_of_ble_eq_true rfl, Nat.le_of_ble_eq_true rfl⟩) (wc := (ce_X10 kA q_this_tokens o_this_tokens)) (ci := 8) (q0 := 0) rfl rfl rfl hl.1 (As := []) (rest := []) rfl (Nat.le_of_ble_eq_true rfl) dX7_readDraft_41 ⟨Nat.le_of_ble_eq_true rfl, Nat.le_of_ble_eq_true rfl⟩ hK hP hD hS hA [1, 2, 3, 4, 5] [0, 6, 7, 8, 9] [0, 5, 6, 7, 8, 9, 1, 2, 3, 4] rfl (by decide) rfl (by decide) (by decide) rfl (by decide) (wr := (ce_X7 kA q_this q_this_tokens q_this_draft (ss_I (ss_I (ss_I (ss_I (ss_I (ss_I o_this 2 (0 : Int32)) 3 (0 : Int32)) 4 (0 : Int32)) 5 (0 : Int32)) 6 (0 : Int32)) 7 (0 : Int32)) ++ (ce_X5 kA q_this_draft u_1))) (w2 := (ce_X7 kA q_this q_this_tokens q_this_draft (ss_I (ss_I (ss_I (ss_I (ss_I (ss_I o_this 2 (0 : Int32)) 3 (0 : Int32)) 4 (0 : Int32)) 5 (0 : Int32)) 6 (0 : Int32)) 7 (0 : Int32)) ++ (ce_X10 kA q_this_tokens u_3 ++ (ce_X5 kA q_this_draft u_1)))) (fun H locs hP hD hS => ?_)
  have hP : va_P D vwCl (ce_X7 kA q_this q_this_tokens q_this_draft (ss_I (ss_I (ss_I (ss_I (ss_I (ss_I o_this 2 (0 : Int32)) 3 (0 : Int32)) 4 (0 : Int32)) 5 (0 : Int32)) 6 (0 : Int32)) 7 (0 : Int32)) ++ (ce_X10 kA q_this_tokens u_3 ++ (ce_X5 kA q_this_draft u_1))) H := hP
  refine lv_iconst (v := 0) hx hb dX7_readDraft_44 (by decide) ?_
  refine lv_istore_n (lv' := [(1, .int (0 : Int32)), (0, .ref (q_this 0))]) hx hb dX7_readDraft_45 rfl hl (by decide) rfl (fun ls hl => ?_)
  exact hL46 N (ss_I (ss_I (ss_I (ss_I (ss_I (ss_I o_this 2 (0 : Int32)) 3 (0 : Int32)) 4 (0 : Int32)) 5 (0 : Int32)) 6 (0 : Int32)) 7 (0 : Int32)) u_3 u_1 (0 : Int32) _ _ _ hP hD hS (lv_sub hl [1, 0] rfl) hf
